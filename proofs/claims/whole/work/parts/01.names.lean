-- ===== PART A: goes FIRST, ahead of the names: the tables' words, and 'selects' of the private methods out of them =====
/-- a private method of a class that the tables say can be made, by its rows of tables_1 -/
def lw_okq (q : MethodName × Nat) : Prop := (q.1.cls ≠ "java/lang/invoke/MethodHandle" ∧ q.1.cls ≠ "java/lang/invoke/VarHandle") ∧ Cond.instantiable q.1.cls q.2 ∈ tables_1 ∧ Cond.privateMethod q.1 ∈ tables_1 ∧ Cond.instanceMethod q.1 ∈ tables_1
theorem lw_p0 : lw_okq (⟨"FourYearsForAStrip", "isKnown", "(II)Z"⟩, 9) := ⟨⟨by decide +kernel, by decide +kernel⟩, List.mem_of_getElem? (i := 17) (by decide +kernel), List.mem_of_getElem? (i := 250) (by decide +kernel), List.mem_of_getElem? (i := 251) (by decide +kernel)⟩
theorem lw_p1 : lw_okq (⟨"FourYearsForAStrip", "valueOf", "(II)I"⟩, 9) := ⟨⟨by decide +kernel, by decide +kernel⟩, List.mem_of_getElem? (i := 17) (by decide +kernel), List.mem_of_getElem? (i := 265) (by decide +kernel), List.mem_of_getElem? (i := 266) (by decide +kernel)⟩
theorem lw_p2 : lw_okq (⟨"FourYearsForAStrip$Garden", "manyAhead", "(I)I"⟩, 15) := ⟨⟨by decide +kernel, by decide +kernel⟩, List.mem_of_getElem? (i := 112) (by decide +kernel), List.mem_of_getElem? (i := 331) (by decide +kernel), List.mem_of_getElem? (i := 332) (by decide +kernel)⟩
theorem lw_p3 : lw_okq (⟨"FourYearsForAStrip$Garden", "isAhead", "(II)Z"⟩, 15) := ⟨⟨by decide +kernel, by decide +kernel⟩, List.mem_of_getElem? (i := 112) (by decide +kernel), List.mem_of_getElem? (i := 335) (by decide +kernel), List.mem_of_getElem? (i := 336) (by decide +kernel)⟩
theorem lw_p4 : lw_okq (⟨"FourYearsForAStrip$Tape", "skipBlanks", "()V"⟩, 7) := ⟨⟨by decide +kernel, by decide +kernel⟩, List.mem_of_getElem? (i := 60) (by decide +kernel), List.mem_of_getElem? (i := 359) (by decide +kernel), List.mem_of_getElem? (i := 360) (by decide +kernel)⟩
theorem lw_p5 : lw_okq (⟨"FourYearsForAStrip$Tape", "readWord", "()I"⟩, 7) := ⟨⟨by decide +kernel, by decide +kernel⟩, List.mem_of_getElem? (i := 60) (by decide +kernel), List.mem_of_getElem? (i := 366) (by decide +kernel), List.mem_of_getElem? (i := 367) (by decide +kernel)⟩
theorem lw_p6 : lw_okq (⟨"FourYearsForAStrip$Tape", "keyFrom", "(I)I"⟩, 7) := ⟨⟨by decide +kernel, by decide +kernel⟩, List.mem_of_getElem? (i := 60) (by decide +kernel), List.mem_of_getElem? (i := 370) (by decide +kernel), List.mem_of_getElem? (i := 371) (by decide +kernel)⟩
theorem lw_p7 : lw_okq (⟨"FourYearsForAStrip$Tape", "isWord", "(Ljava/lang/String;I)Z"⟩, 7) := ⟨⟨by decide +kernel, by decide +kernel⟩, List.mem_of_getElem? (i := 60) (by decide +kernel), List.mem_of_getElem? (i := 375) (by decide +kernel), List.mem_of_getElem? (i := 376) (by decide +kernel)⟩
theorem lw_p8 : lw_okq (⟨"FourYearsForAStrip$Tape", "nameFrom", "(I)I"⟩, 7) := ⟨⟨by decide +kernel, by decide +kernel⟩, List.mem_of_getElem? (i := 60) (by decide +kernel), List.mem_of_getElem? (i := 432) (by decide +kernel), List.mem_of_getElem? (i := 433) (by decide +kernel)⟩
theorem lw_p9 : lw_okq (⟨"FourYearsForAStrip$Tape", "readNumber", "()I"⟩, 7) := ⟨⟨by decide +kernel, by decide +kernel⟩, List.mem_of_getElem? (i := 60) (by decide +kernel), List.mem_of_getElem? (i := 445) (by decide +kernel), List.mem_of_getElem? (i := 446) (by decide +kernel)⟩
theorem lw_p10 : lw_okq (⟨"FourYearsForAStrip$Tape", "readSign", "()I"⟩, 7) := ⟨⟨by decide +kernel, by decide +kernel⟩, List.mem_of_getElem? (i := 60) (by decide +kernel), List.mem_of_getElem? (i := 449) (by decide +kernel), List.mem_of_getElem? (i := 450) (by decide +kernel)⟩
theorem lw_p11 : lw_okq (⟨"FourYearsForAStrip$Tape", "keep", "(II)V"⟩, 7) := ⟨⟨by decide +kernel, by decide +kernel⟩, List.mem_of_getElem? (i := 60) (by decide +kernel), List.mem_of_getElem? (i := 456) (by decide +kernel), List.mem_of_getElem? (i := 457) (by decide +kernel)⟩
theorem lw_p12 : lw_okq (⟨"FourYearsForAStrip$Reader", "expect", "(I)V"⟩, 4) := ⟨⟨by decide +kernel, by decide +kernel⟩, List.mem_of_getElem? (i := 93) (by decide +kernel), List.mem_of_getElem? (i := 464) (by decide +kernel), List.mem_of_getElem? (i := 465) (by decide +kernel)⟩
theorem lw_p13 : lw_okq (⟨"FourYearsForAStrip$Reader", "took", "(I)Z"⟩, 4) := ⟨⟨by decide +kernel, by decide +kernel⟩, List.mem_of_getElem? (i := 93) (by decide +kernel), List.mem_of_getElem? (i := 468) (by decide +kernel), List.mem_of_getElem? (i := 469) (by decide +kernel)⟩
theorem lw_p14 : lw_okq (⟨"FourYearsForAStrip$Reader", "isNext", "(I)Z"⟩, 4) := ⟨⟨by decide +kernel, by decide +kernel⟩, List.mem_of_getElem? (i := 93) (by decide +kernel), List.mem_of_getElem? (i := 472) (by decide +kernel), List.mem_of_getElem? (i := 473) (by decide +kernel)⟩
theorem lw_p15 : lw_okq (⟨"FourYearsForAStrip$Reader", "faultHere", "()V"⟩, 4) := ⟨⟨by decide +kernel, by decide +kernel⟩, List.mem_of_getElem? (i := 93) (by decide +kernel), List.mem_of_getElem? (i := 476) (by decide +kernel), List.mem_of_getElem? (i := 477) (by decide +kernel)⟩
def lw_privs_1 : List (MethodName × Nat) := [(⟨"FourYearsForAStrip", "isKnown", "(II)Z"⟩, 9), (⟨"FourYearsForAStrip", "valueOf", "(II)I"⟩, 9), (⟨"FourYearsForAStrip$Garden", "manyAhead", "(I)I"⟩, 15), (⟨"FourYearsForAStrip$Garden", "isAhead", "(II)Z"⟩, 15), (⟨"FourYearsForAStrip$Tape", "skipBlanks", "()V"⟩, 7), (⟨"FourYearsForAStrip$Tape", "readWord", "()I"⟩, 7), (⟨"FourYearsForAStrip$Tape", "keyFrom", "(I)I"⟩, 7), (⟨"FourYearsForAStrip$Tape", "isWord", "(Ljava/lang/String;I)Z"⟩, 7), (⟨"FourYearsForAStrip$Tape", "nameFrom", "(I)I"⟩, 7), (⟨"FourYearsForAStrip$Tape", "readNumber", "()I"⟩, 7), (⟨"FourYearsForAStrip$Tape", "readSign", "()I"⟩, 7), (⟨"FourYearsForAStrip$Tape", "keep", "(II)V"⟩, 7), (⟨"FourYearsForAStrip$Reader", "expect", "(I)V"⟩, 4), (⟨"FourYearsForAStrip$Reader", "took", "(I)Z"⟩, 4), (⟨"FourYearsForAStrip$Reader", "isNext", "(I)Z"⟩, 4), (⟨"FourYearsForAStrip$Reader", "faultHere", "()V"⟩, 4)]
theorem lw_r1 : ∀ q ∈ lw_privs_1, lw_okq q := List.forall_mem_cons.mpr ⟨lw_p0, List.forall_mem_cons.mpr ⟨lw_p1, List.forall_mem_cons.mpr ⟨lw_p2, List.forall_mem_cons.mpr ⟨lw_p3, List.forall_mem_cons.mpr ⟨lw_p4, List.forall_mem_cons.mpr ⟨lw_p5, List.forall_mem_cons.mpr ⟨lw_p6, List.forall_mem_cons.mpr ⟨lw_p7, List.forall_mem_cons.mpr ⟨lw_p8, List.forall_mem_cons.mpr ⟨lw_p9, List.forall_mem_cons.mpr ⟨lw_p10, List.forall_mem_cons.mpr ⟨lw_p11, List.forall_mem_cons.mpr ⟨lw_p12, List.forall_mem_cons.mpr ⟨lw_p13, List.forall_mem_cons.mpr ⟨lw_p14, List.forall_mem_cons.mpr ⟨lw_p15, fun _ h => absurd h List.not_mem_nil⟩⟩⟩⟩⟩⟩⟩⟩⟩⟩⟩⟩⟩⟩⟩⟩
theorem lw_p16 : lw_okq (⟨"FourYearsForAStrip$Reader", "either", "(I)V"⟩, 4) := ⟨⟨by decide +kernel, by decide +kernel⟩, List.mem_of_getElem? (i := 93) (by decide +kernel), List.mem_of_getElem? (i := 480) (by decide +kernel), List.mem_of_getElem? (i := 481) (by decide +kernel)⟩
theorem lw_p17 : lw_okq (⟨"FourYearsForAStrip$Reader", "both", "(I)V"⟩, 4) := ⟨⟨by decide +kernel, by decide +kernel⟩, List.mem_of_getElem? (i := 93) (by decide +kernel), List.mem_of_getElem? (i := 484) (by decide +kernel), List.mem_of_getElem? (i := 485) (by decide +kernel)⟩
theorem lw_p18 : lw_okq (⟨"FourYearsForAStrip$Reader", "denied", "(I)V"⟩, 4) := ⟨⟨by decide +kernel, by decide +kernel⟩, List.mem_of_getElem? (i := 93) (by decide +kernel), List.mem_of_getElem? (i := 488) (by decide +kernel), List.mem_of_getElem? (i := 489) (by decide +kernel)⟩
theorem lw_p19 : lw_okq (⟨"FourYearsForAStrip$Reader", "opened", "(II)Z"⟩, 4) := ⟨⟨by decide +kernel, by decide +kernel⟩, List.mem_of_getElem? (i := 93) (by decide +kernel), List.mem_of_getElem? (i := 492) (by decide +kernel), List.mem_of_getElem? (i := 493) (by decide +kernel)⟩
theorem lw_p20 : lw_okq (⟨"FourYearsForAStrip$Reader", "sum", "(I)V"⟩, 4) := ⟨⟨by decide +kernel, by decide +kernel⟩, List.mem_of_getElem? (i := 93) (by decide +kernel), List.mem_of_getElem? (i := 497) (by decide +kernel), List.mem_of_getElem? (i := 498) (by decide +kernel)⟩
theorem lw_p21 : lw_okq (⟨"FourYearsForAStrip$Reader", "product", "(I)V"⟩, 4) := ⟨⟨by decide +kernel, by decide +kernel⟩, List.mem_of_getElem? (i := 93) (by decide +kernel), List.mem_of_getElem? (i := 501) (by decide +kernel), List.mem_of_getElem? (i := 502) (by decide +kernel)⟩
theorem lw_p22 : lw_okq (⟨"FourYearsForAStrip$Reader", "single", "(I)V"⟩, 4) := ⟨⟨by decide +kernel, by decide +kernel⟩, List.mem_of_getElem? (i := 93) (by decide +kernel), List.mem_of_getElem? (i := 505) (by decide +kernel), List.mem_of_getElem? (i := 506) (by decide +kernel)⟩
theorem lw_p23 : lw_okq (⟨"FourYearsForAStrip$Reader", "isNextName", "()Z"⟩, 4) := ⟨⟨by decide +kernel, by decide +kernel⟩, List.mem_of_getElem? (i := 93) (by decide +kernel), List.mem_of_getElem? (i := 509) (by decide +kernel), List.mem_of_getElem? (i := 510) (by decide +kernel)⟩
theorem lw_p24 : lw_okq (⟨"FourYearsForAStrip$Garden", "growAndTend", "(I)V"⟩, 15) := ⟨⟨by decide +kernel, by decide +kernel⟩, List.mem_of_getElem? (i := 112) (by decide +kernel), List.mem_of_getElem? (i := 539) (by decide +kernel), List.mem_of_getElem? (i := 540) (by decide +kernel)⟩
theorem lw_p25 : lw_okq (⟨"FourYearsForAStrip$Garden", "warnOrLeave", "(II)V"⟩, 15) := ⟨⟨by decide +kernel, by decide +kernel⟩, List.mem_of_getElem? (i := 112) (by decide +kernel), List.mem_of_getElem? (i := 551) (by decide +kernel), List.mem_of_getElem? (i := 552) (by decide +kernel)⟩
theorem lw_p26 : lw_okq (⟨"FourYearsForAStrip$Garden", "waitOn", "(I)V"⟩, 15) := ⟨⟨by decide +kernel, by decide +kernel⟩, List.mem_of_getElem? (i := 112) (by decide +kernel), List.mem_of_getElem? (i := 556) (by decide +kernel), List.mem_of_getElem? (i := 557) (by decide +kernel)⟩
theorem lw_p27 : lw_okq (⟨"FourYearsForAStrip$Garden", "handOut", "(I)V"⟩, 15) := ⟨⟨by decide +kernel, by decide +kernel⟩, List.mem_of_getElem? (i := 112) (by decide +kernel), List.mem_of_getElem? (i := 560) (by decide +kernel), List.mem_of_getElem? (i := 561) (by decide +kernel)⟩
theorem lw_p28 : lw_okq (⟨"FourYearsForAStrip$Garden", "firstWhoTakes", "(I)I"⟩, 15) := ⟨⟨by decide +kernel, by decide +kernel⟩, List.mem_of_getElem? (i := 112) (by decide +kernel), List.mem_of_getElem? (i := 564) (by decide +kernel), List.mem_of_getElem? (i := 565) (by decide +kernel)⟩
theorem lw_p29 : lw_okq (⟨"FourYearsForAStrip$Garden", "bears", "(I)Z"⟩, 15) := ⟨⟨by decide +kernel, by decide +kernel⟩, List.mem_of_getElem? (i := 112) (by decide +kernel), List.mem_of_getElem? (i := 568) (by decide +kernel), List.mem_of_getElem? (i := 569) (by decide +kernel)⟩
theorem lw_p30 : lw_okq (⟨"FourYearsForAStrip", "mayRunTell", "(I)Z"⟩, 9) := ⟨⟨by decide +kernel, by decide +kernel⟩, List.mem_of_getElem? (i := 17) (by decide +kernel), List.mem_of_getElem? (i := 584) (by decide +kernel), List.mem_of_getElem? (i := 585) (by decide +kernel)⟩
theorem lw_p31 : lw_okq (⟨"FourYearsForAStrip", "wellAsNow", "(I)I"⟩, 9) := ⟨⟨by decide +kernel, by decide +kernel⟩, List.mem_of_getElem? (i := 17) (by decide +kernel), List.mem_of_getElem? (i := 588) (by decide +kernel), List.mem_of_getElem? (i := 589) (by decide +kernel)⟩
def lw_privs_2 : List (MethodName × Nat) := [(⟨"FourYearsForAStrip$Reader", "either", "(I)V"⟩, 4), (⟨"FourYearsForAStrip$Reader", "both", "(I)V"⟩, 4), (⟨"FourYearsForAStrip$Reader", "denied", "(I)V"⟩, 4), (⟨"FourYearsForAStrip$Reader", "opened", "(II)Z"⟩, 4), (⟨"FourYearsForAStrip$Reader", "sum", "(I)V"⟩, 4), (⟨"FourYearsForAStrip$Reader", "product", "(I)V"⟩, 4), (⟨"FourYearsForAStrip$Reader", "single", "(I)V"⟩, 4), (⟨"FourYearsForAStrip$Reader", "isNextName", "()Z"⟩, 4), (⟨"FourYearsForAStrip$Garden", "growAndTend", "(I)V"⟩, 15), (⟨"FourYearsForAStrip$Garden", "warnOrLeave", "(II)V"⟩, 15), (⟨"FourYearsForAStrip$Garden", "waitOn", "(I)V"⟩, 15), (⟨"FourYearsForAStrip$Garden", "handOut", "(I)V"⟩, 15), (⟨"FourYearsForAStrip$Garden", "firstWhoTakes", "(I)I"⟩, 15), (⟨"FourYearsForAStrip$Garden", "bears", "(I)Z"⟩, 15), (⟨"FourYearsForAStrip", "mayRunTell", "(I)Z"⟩, 9), (⟨"FourYearsForAStrip", "wellAsNow", "(I)I"⟩, 9)]
theorem lw_r2 : ∀ q ∈ lw_privs_2, lw_okq q := List.forall_mem_cons.mpr ⟨lw_p16, List.forall_mem_cons.mpr ⟨lw_p17, List.forall_mem_cons.mpr ⟨lw_p18, List.forall_mem_cons.mpr ⟨lw_p19, List.forall_mem_cons.mpr ⟨lw_p20, List.forall_mem_cons.mpr ⟨lw_p21, List.forall_mem_cons.mpr ⟨lw_p22, List.forall_mem_cons.mpr ⟨lw_p23, List.forall_mem_cons.mpr ⟨lw_p24, List.forall_mem_cons.mpr ⟨lw_p25, List.forall_mem_cons.mpr ⟨lw_p26, List.forall_mem_cons.mpr ⟨lw_p27, List.forall_mem_cons.mpr ⟨lw_p28, List.forall_mem_cons.mpr ⟨lw_p29, List.forall_mem_cons.mpr ⟨lw_p30, List.forall_mem_cons.mpr ⟨lw_p31, fun _ h => absurd h List.not_mem_nil⟩⟩⟩⟩⟩⟩⟩⟩⟩⟩⟩⟩⟩⟩⟩⟩
theorem lw_p32 : lw_okq (⟨"FourYearsForAStrip", "ranTo", "(II)I"⟩, 9) := ⟨⟨by decide +kernel, by decide +kernel⟩, List.mem_of_getElem? (i := 17) (by decide +kernel), List.mem_of_getElem? (i := 616) (by decide +kernel), List.mem_of_getElem? (i := 617) (by decide +kernel)⟩
theorem lw_p33 : lw_okq (⟨"FourYearsForAStrip", "firstOtherwise", "(II)I"⟩, 9) := ⟨⟨by decide +kernel, by decide +kernel⟩, List.mem_of_getElem? (i := 17) (by decide +kernel), List.mem_of_getElem? (i := 670) (by decide +kernel), List.mem_of_getElem? (i := 671) (by decide +kernel)⟩
theorem lw_p34 : lw_okq (⟨"FourYearsForAStrip", "whatFits", "(III)I"⟩, 9) := ⟨⟨by decide +kernel, by decide +kernel⟩, List.mem_of_getElem? (i := 17) (by decide +kernel), List.mem_of_getElem? (i := 682) (by decide +kernel), List.mem_of_getElem? (i := 683) (by decide +kernel)⟩
theorem lw_p35 : lw_okq (⟨"FourYearsForAStrip", "suppositions", "(II)I"⟩, 9) := ⟨⟨by decide +kernel, by decide +kernel⟩, List.mem_of_getElem? (i := 17) (by decide +kernel), List.mem_of_getElem? (i := 686) (by decide +kernel), List.mem_of_getElem? (i := 687) (by decide +kernel)⟩
theorem lw_p36 : lw_okq (⟨"FourYearsForAStrip", "suppose", "(IIII)V"⟩, 9) := ⟨⟨by decide +kernel, by decide +kernel⟩, List.mem_of_getElem? (i := 17) (by decide +kernel), List.mem_of_getElem? (i := 690) (by decide +kernel), List.mem_of_getElem? (i := 691) (by decide +kernel)⟩
theorem lw_p37 : lw_okq (⟨"FourYearsForAStrip", "wellDrawn", "(II)I"⟩, 9) := ⟨⟨by decide +kernel, by decide +kernel⟩, List.mem_of_getElem? (i := 17) (by decide +kernel), List.mem_of_getElem? (i := 710) (by decide +kernel), List.mem_of_getElem? (i := 711) (by decide +kernel)⟩
theorem lw_p38 : lw_okq (⟨"FourYearsForAStripModel", "spell", "(IIIIIIIII)V"⟩, 47) := ⟨⟨by decide +kernel, by decide +kernel⟩, List.mem_of_getElem? (i := 769) (by decide +kernel), List.mem_of_getElem? (i := 775) (by decide +kernel), List.mem_of_getElem? (i := 776) (by decide +kernel)⟩
theorem lw_p39 : lw_okq (⟨"FourYearsForAStripModel", "isOf", "(II)Z"⟩, 47) := ⟨⟨by decide +kernel, by decide +kernel⟩, List.mem_of_getElem? (i := 769) (by decide +kernel), List.mem_of_getElem? (i := 929) (by decide +kernel), List.mem_of_getElem? (i := 930) (by decide +kernel)⟩
theorem lw_p40 : lw_okq (⟨"FourYearsForAStripModel", "isOne", "(I)Z"⟩, 47) := ⟨⟨by decide +kernel, by decide +kernel⟩, List.mem_of_getElem? (i := 769) (by decide +kernel), List.mem_of_getElem? (i := 937) (by decide +kernel), List.mem_of_getElem? (i := 938) (by decide +kernel)⟩
theorem lw_p41 : lw_okq (⟨"FourYearsForAStripModel", "waits", "(I)Z"⟩, 47) := ⟨⟨by decide +kernel, by decide +kernel⟩, List.mem_of_getElem? (i := 769) (by decide +kernel), List.mem_of_getElem? (i := 941) (by decide +kernel), List.mem_of_getElem? (i := 942) (by decide +kernel)⟩
theorem lw_p42 : lw_okq (⟨"FourYearsForAStripModel", "stripOf", "(I)I"⟩, 47) := ⟨⟨by decide +kernel, by decide +kernel⟩, List.mem_of_getElem? (i := 769) (by decide +kernel), List.mem_of_getElem? (i := 945) (by decide +kernel), List.mem_of_getElem? (i := 946) (by decide +kernel)⟩
theorem lw_p43 : lw_okq (⟨"FourYearsForAStripModel", "hasOne", "(I)Z"⟩, 47) := ⟨⟨by decide +kernel, by decide +kernel⟩, List.mem_of_getElem? (i := 769) (by decide +kernel), List.mem_of_getElem? (i := 952) (by decide +kernel), List.mem_of_getElem? (i := 953) (by decide +kernel)⟩
theorem lw_p44 : lw_okq (⟨"FourYearsForAStripModel", "whose", "(I)I"⟩, 47) := ⟨⟨by decide +kernel, by decide +kernel⟩, List.mem_of_getElem? (i := 769) (by decide +kernel), List.mem_of_getElem? (i := 964) (by decide +kernel), List.mem_of_getElem? (i := 965) (by decide +kernel)⟩
theorem lw_p45 : lw_okq (⟨"FourYearsForAStripModel", "tendsOf", "(I)I"⟩, 47) := ⟨⟨by decide +kernel, by decide +kernel⟩, List.mem_of_getElem? (i := 769) (by decide +kernel), List.mem_of_getElem? (i := 968) (by decide +kernel), List.mem_of_getElem? (i := 969) (by decide +kernel)⟩
theorem lw_p46 : lw_okq (⟨"FourYearsForAStripModel", "says", "(III)I"⟩, 47) := ⟨⟨by decide +kernel, by decide +kernel⟩, List.mem_of_getElem? (i := 769) (by decide +kernel), List.mem_of_getElem? (i := 972) (by decide +kernel), List.mem_of_getElem? (i := 973) (by decide +kernel)⟩
theorem lw_p47 : lw_okq (⟨"FourYearsForAStripModel", "read", "(II)I"⟩, 47) := ⟨⟨by decide +kernel, by decide +kernel⟩, List.mem_of_getElem? (i := 769) (by decide +kernel), List.mem_of_getElem? (i := 976) (by decide +kernel), List.mem_of_getElem? (i := 977) (by decide +kernel)⟩
def lw_privs_3 : List (MethodName × Nat) := [(⟨"FourYearsForAStrip", "ranTo", "(II)I"⟩, 9), (⟨"FourYearsForAStrip", "firstOtherwise", "(II)I"⟩, 9), (⟨"FourYearsForAStrip", "whatFits", "(III)I"⟩, 9), (⟨"FourYearsForAStrip", "suppositions", "(II)I"⟩, 9), (⟨"FourYearsForAStrip", "suppose", "(IIII)V"⟩, 9), (⟨"FourYearsForAStrip", "wellDrawn", "(II)I"⟩, 9), (⟨"FourYearsForAStripModel", "spell", "(IIIIIIIII)V"⟩, 47), (⟨"FourYearsForAStripModel", "isOf", "(II)Z"⟩, 47), (⟨"FourYearsForAStripModel", "isOne", "(I)Z"⟩, 47), (⟨"FourYearsForAStripModel", "waits", "(I)Z"⟩, 47), (⟨"FourYearsForAStripModel", "stripOf", "(I)I"⟩, 47), (⟨"FourYearsForAStripModel", "hasOne", "(I)Z"⟩, 47), (⟨"FourYearsForAStripModel", "whose", "(I)I"⟩, 47), (⟨"FourYearsForAStripModel", "tendsOf", "(I)I"⟩, 47), (⟨"FourYearsForAStripModel", "says", "(III)I"⟩, 47), (⟨"FourYearsForAStripModel", "read", "(II)I"⟩, 47)]
theorem lw_r3 : ∀ q ∈ lw_privs_3, lw_okq q := List.forall_mem_cons.mpr ⟨lw_p32, List.forall_mem_cons.mpr ⟨lw_p33, List.forall_mem_cons.mpr ⟨lw_p34, List.forall_mem_cons.mpr ⟨lw_p35, List.forall_mem_cons.mpr ⟨lw_p36, List.forall_mem_cons.mpr ⟨lw_p37, List.forall_mem_cons.mpr ⟨lw_p38, List.forall_mem_cons.mpr ⟨lw_p39, List.forall_mem_cons.mpr ⟨lw_p40, List.forall_mem_cons.mpr ⟨lw_p41, List.forall_mem_cons.mpr ⟨lw_p42, List.forall_mem_cons.mpr ⟨lw_p43, List.forall_mem_cons.mpr ⟨lw_p44, List.forall_mem_cons.mpr ⟨lw_p45, List.forall_mem_cons.mpr ⟨lw_p46, List.forall_mem_cons.mpr ⟨lw_p47, fun _ h => absurd h List.not_mem_nil⟩⟩⟩⟩⟩⟩⟩⟩⟩⟩⟩⟩⟩⟩⟩⟩
theorem lw_p48 : lw_okq (⟨"FourYearsForAStripModel", "next", "()V"⟩, 47) := ⟨⟨by decide +kernel, by decide +kernel⟩, List.mem_of_getElem? (i := 769) (by decide +kernel), List.mem_of_getElem? (i := 980) (by decide +kernel), List.mem_of_getElem? (i := 981) (by decide +kernel)⟩
theorem lw_p49 : lw_okq (⟨"FourYearsForAStripModel", "byteAt", "(I)I"⟩, 47) := ⟨⟨by decide +kernel, by decide +kernel⟩, List.mem_of_getElem? (i := 769) (by decide +kernel), List.mem_of_getElem? (i := 984) (by decide +kernel), List.mem_of_getElem? (i := 985) (by decide +kernel)⟩
theorem lw_p50 : lw_okq (⟨"FourYearsForAStripModel", "isWord", "(IIIIIIII)Z"⟩, 47) := ⟨⟨by decide +kernel, by decide +kernel⟩, List.mem_of_getElem? (i := 769) (by decide +kernel), List.mem_of_getElem? (i := 993) (by decide +kernel), List.mem_of_getElem? (i := 994) (by decide +kernel)⟩
theorem lw_p51 : lw_okq (⟨"FourYearsForAStripModel", "isLetter", "(II)Z"⟩, 47) := ⟨⟨by decide +kernel, by decide +kernel⟩, List.mem_of_getElem? (i := 769) (by decide +kernel), List.mem_of_getElem? (i := 997) (by decide +kernel), List.mem_of_getElem? (i := 998) (by decide +kernel)⟩
theorem lw_p52 : lw_okq (⟨"FourYearsForAStripModel", "part", "(Z)I"⟩, 47) := ⟨⟨by decide +kernel, by decide +kernel⟩, List.mem_of_getElem? (i := 769) (by decide +kernel), List.mem_of_getElem? (i := 1001) (by decide +kernel), List.mem_of_getElem? (i := 1002) (by decide +kernel)⟩
theorem lw_p53 : lw_okq (⟨"FourYearsForAStripModel", "fail", "()V"⟩, 47) := ⟨⟨by decide +kernel, by decide +kernel⟩, List.mem_of_getElem? (i := 769) (by decide +kernel), List.mem_of_getElem? (i := 1005) (by decide +kernel), List.mem_of_getElem? (i := 1006) (by decide +kernel)⟩
theorem lw_p54 : lw_okq (⟨"FourYearsForAStripModel", "either0", "()I"⟩, 47) := ⟨⟨by decide +kernel, by decide +kernel⟩, List.mem_of_getElem? (i := 769) (by decide +kernel), List.mem_of_getElem? (i := 1009) (by decide +kernel), List.mem_of_getElem? (i := 1010) (by decide +kernel)⟩
theorem lw_p55 : lw_okq (⟨"FourYearsForAStripModel", "both0", "()I"⟩, 47) := ⟨⟨by decide +kernel, by decide +kernel⟩, List.mem_of_getElem? (i := 769) (by decide +kernel), List.mem_of_getElem? (i := 1013) (by decide +kernel), List.mem_of_getElem? (i := 1014) (by decide +kernel)⟩
theorem lw_p56 : lw_okq (⟨"FourYearsForAStripModel", "not0", "()I"⟩, 47) := ⟨⟨by decide +kernel, by decide +kernel⟩, List.mem_of_getElem? (i := 769) (by decide +kernel), List.mem_of_getElem? (i := 1017) (by decide +kernel), List.mem_of_getElem? (i := 1018) (by decide +kernel)⟩
theorem lw_p57 : lw_okq (⟨"FourYearsForAStripModel", "opens", "()Z"⟩, 47) := ⟨⟨by decide +kernel, by decide +kernel⟩, List.mem_of_getElem? (i := 769) (by decide +kernel), List.mem_of_getElem? (i := 1021) (by decide +kernel), List.mem_of_getElem? (i := 1022) (by decide +kernel)⟩
theorem lw_p58 : lw_okq (⟨"FourYearsForAStripModel", "not1", "()I"⟩, 47) := ⟨⟨by decide +kernel, by decide +kernel⟩, List.mem_of_getElem? (i := 769) (by decide +kernel), List.mem_of_getElem? (i := 1025) (by decide +kernel), List.mem_of_getElem? (i := 1026) (by decide +kernel)⟩
theorem lw_p59 : lw_okq (⟨"FourYearsForAStripModel", "not2", "()I"⟩, 47) := ⟨⟨by decide +kernel, by decide +kernel⟩, List.mem_of_getElem? (i := 769) (by decide +kernel), List.mem_of_getElem? (i := 1029) (by decide +kernel), List.mem_of_getElem? (i := 1030) (by decide +kernel)⟩
theorem lw_p60 : lw_okq (⟨"FourYearsForAStripModel", "not3", "()I"⟩, 47) := ⟨⟨by decide +kernel, by decide +kernel⟩, List.mem_of_getElem? (i := 769) (by decide +kernel), List.mem_of_getElem? (i := 1033) (by decide +kernel), List.mem_of_getElem? (i := 1034) (by decide +kernel)⟩
theorem lw_p61 : lw_okq (⟨"FourYearsForAStripModel", "not4", "()I"⟩, 47) := ⟨⟨by decide +kernel, by decide +kernel⟩, List.mem_of_getElem? (i := 769) (by decide +kernel), List.mem_of_getElem? (i := 1037) (by decide +kernel), List.mem_of_getElem? (i := 1038) (by decide +kernel)⟩
theorem lw_p62 : lw_okq (⟨"FourYearsForAStripModel", "not5", "()I"⟩, 47) := ⟨⟨by decide +kernel, by decide +kernel⟩, List.mem_of_getElem? (i := 769) (by decide +kernel), List.mem_of_getElem? (i := 1041) (by decide +kernel), List.mem_of_getElem? (i := 1042) (by decide +kernel)⟩
theorem lw_p63 : lw_okq (⟨"FourYearsForAStripModel", "added5", "()I"⟩, 47) := ⟨⟨by decide +kernel, by decide +kernel⟩, List.mem_of_getElem? (i := 769) (by decide +kernel), List.mem_of_getElem? (i := 1045) (by decide +kernel), List.mem_of_getElem? (i := 1046) (by decide +kernel)⟩
def lw_privs_4 : List (MethodName × Nat) := [(⟨"FourYearsForAStripModel", "next", "()V"⟩, 47), (⟨"FourYearsForAStripModel", "byteAt", "(I)I"⟩, 47), (⟨"FourYearsForAStripModel", "isWord", "(IIIIIIII)Z"⟩, 47), (⟨"FourYearsForAStripModel", "isLetter", "(II)Z"⟩, 47), (⟨"FourYearsForAStripModel", "part", "(Z)I"⟩, 47), (⟨"FourYearsForAStripModel", "fail", "()V"⟩, 47), (⟨"FourYearsForAStripModel", "either0", "()I"⟩, 47), (⟨"FourYearsForAStripModel", "both0", "()I"⟩, 47), (⟨"FourYearsForAStripModel", "not0", "()I"⟩, 47), (⟨"FourYearsForAStripModel", "opens", "()Z"⟩, 47), (⟨"FourYearsForAStripModel", "not1", "()I"⟩, 47), (⟨"FourYearsForAStripModel", "not2", "()I"⟩, 47), (⟨"FourYearsForAStripModel", "not3", "()I"⟩, 47), (⟨"FourYearsForAStripModel", "not4", "()I"⟩, 47), (⟨"FourYearsForAStripModel", "not5", "()I"⟩, 47), (⟨"FourYearsForAStripModel", "added5", "()I"⟩, 47)]
theorem lw_r4 : ∀ q ∈ lw_privs_4, lw_okq q := List.forall_mem_cons.mpr ⟨lw_p48, List.forall_mem_cons.mpr ⟨lw_p49, List.forall_mem_cons.mpr ⟨lw_p50, List.forall_mem_cons.mpr ⟨lw_p51, List.forall_mem_cons.mpr ⟨lw_p52, List.forall_mem_cons.mpr ⟨lw_p53, List.forall_mem_cons.mpr ⟨lw_p54, List.forall_mem_cons.mpr ⟨lw_p55, List.forall_mem_cons.mpr ⟨lw_p56, List.forall_mem_cons.mpr ⟨lw_p57, List.forall_mem_cons.mpr ⟨lw_p58, List.forall_mem_cons.mpr ⟨lw_p59, List.forall_mem_cons.mpr ⟨lw_p60, List.forall_mem_cons.mpr ⟨lw_p61, List.forall_mem_cons.mpr ⟨lw_p62, List.forall_mem_cons.mpr ⟨lw_p63, fun _ h => absurd h List.not_mem_nil⟩⟩⟩⟩⟩⟩⟩⟩⟩⟩⟩⟩⟩⟩⟩⟩
theorem lw_p64 : lw_okq (⟨"FourYearsForAStripModel", "term5", "()I"⟩, 47) := ⟨⟨by decide +kernel, by decide +kernel⟩, List.mem_of_getElem? (i := 769) (by decide +kernel), List.mem_of_getElem? (i := 1049) (by decide +kernel), List.mem_of_getElem? (i := 1050) (by decide +kernel)⟩
theorem lw_p65 : lw_okq (⟨"FourYearsForAStripModel", "atom5", "()I"⟩, 47) := ⟨⟨by decide +kernel, by decide +kernel⟩, List.mem_of_getElem? (i := 769) (by decide +kernel), List.mem_of_getElem? (i := 1053) (by decide +kernel), List.mem_of_getElem? (i := 1054) (by decide +kernel)⟩
theorem lw_p66 : lw_okq (⟨"FourYearsForAStripModel", "isSign", "(I)Z"⟩, 47) := ⟨⟨by decide +kernel, by decide +kernel⟩, List.mem_of_getElem? (i := 769) (by decide +kernel), List.mem_of_getElem? (i := 1057) (by decide +kernel), List.mem_of_getElem? (i := 1058) (by decide +kernel)⟩
theorem lw_p67 : lw_okq (⟨"FourYearsForAStripModel", "name", "()I"⟩, 47) := ⟨⟨by decide +kernel, by decide +kernel⟩, List.mem_of_getElem? (i := 769) (by decide +kernel), List.mem_of_getElem? (i := 1061) (by decide +kernel), List.mem_of_getElem? (i := 1062) (by decide +kernel)⟩
theorem lw_p68 : lw_okq (⟨"FourYearsForAStripModel", "added4", "()I"⟩, 47) := ⟨⟨by decide +kernel, by decide +kernel⟩, List.mem_of_getElem? (i := 769) (by decide +kernel), List.mem_of_getElem? (i := 1067) (by decide +kernel), List.mem_of_getElem? (i := 1068) (by decide +kernel)⟩
theorem lw_p69 : lw_okq (⟨"FourYearsForAStripModel", "term4", "()I"⟩, 47) := ⟨⟨by decide +kernel, by decide +kernel⟩, List.mem_of_getElem? (i := 769) (by decide +kernel), List.mem_of_getElem? (i := 1071) (by decide +kernel), List.mem_of_getElem? (i := 1072) (by decide +kernel)⟩
theorem lw_p70 : lw_okq (⟨"FourYearsForAStripModel", "atom4", "()I"⟩, 47) := ⟨⟨by decide +kernel, by decide +kernel⟩, List.mem_of_getElem? (i := 769) (by decide +kernel), List.mem_of_getElem? (i := 1075) (by decide +kernel), List.mem_of_getElem? (i := 1076) (by decide +kernel)⟩
theorem lw_p71 : lw_okq (⟨"FourYearsForAStripModel", "either5", "()I"⟩, 47) := ⟨⟨by decide +kernel, by decide +kernel⟩, List.mem_of_getElem? (i := 769) (by decide +kernel), List.mem_of_getElem? (i := 1079) (by decide +kernel), List.mem_of_getElem? (i := 1080) (by decide +kernel)⟩
theorem lw_p72 : lw_okq (⟨"FourYearsForAStripModel", "both5", "()I"⟩, 47) := ⟨⟨by decide +kernel, by decide +kernel⟩, List.mem_of_getElem? (i := 769) (by decide +kernel), List.mem_of_getElem? (i := 1083) (by decide +kernel), List.mem_of_getElem? (i := 1084) (by decide +kernel)⟩
theorem lw_p73 : lw_okq (⟨"FourYearsForAStripModel", "added3", "()I"⟩, 47) := ⟨⟨by decide +kernel, by decide +kernel⟩, List.mem_of_getElem? (i := 769) (by decide +kernel), List.mem_of_getElem? (i := 1087) (by decide +kernel), List.mem_of_getElem? (i := 1088) (by decide +kernel)⟩
theorem lw_p74 : lw_okq (⟨"FourYearsForAStripModel", "term3", "()I"⟩, 47) := ⟨⟨by decide +kernel, by decide +kernel⟩, List.mem_of_getElem? (i := 769) (by decide +kernel), List.mem_of_getElem? (i := 1091) (by decide +kernel), List.mem_of_getElem? (i := 1092) (by decide +kernel)⟩
theorem lw_p75 : lw_okq (⟨"FourYearsForAStripModel", "atom3", "()I"⟩, 47) := ⟨⟨by decide +kernel, by decide +kernel⟩, List.mem_of_getElem? (i := 769) (by decide +kernel), List.mem_of_getElem? (i := 1095) (by decide +kernel), List.mem_of_getElem? (i := 1096) (by decide +kernel)⟩
theorem lw_p76 : lw_okq (⟨"FourYearsForAStripModel", "either4", "()I"⟩, 47) := ⟨⟨by decide +kernel, by decide +kernel⟩, List.mem_of_getElem? (i := 769) (by decide +kernel), List.mem_of_getElem? (i := 1099) (by decide +kernel), List.mem_of_getElem? (i := 1100) (by decide +kernel)⟩
theorem lw_p77 : lw_okq (⟨"FourYearsForAStripModel", "both4", "()I"⟩, 47) := ⟨⟨by decide +kernel, by decide +kernel⟩, List.mem_of_getElem? (i := 769) (by decide +kernel), List.mem_of_getElem? (i := 1103) (by decide +kernel), List.mem_of_getElem? (i := 1104) (by decide +kernel)⟩
theorem lw_p78 : lw_okq (⟨"FourYearsForAStripModel", "added2", "()I"⟩, 47) := ⟨⟨by decide +kernel, by decide +kernel⟩, List.mem_of_getElem? (i := 769) (by decide +kernel), List.mem_of_getElem? (i := 1107) (by decide +kernel), List.mem_of_getElem? (i := 1108) (by decide +kernel)⟩
theorem lw_p79 : lw_okq (⟨"FourYearsForAStripModel", "term2", "()I"⟩, 47) := ⟨⟨by decide +kernel, by decide +kernel⟩, List.mem_of_getElem? (i := 769) (by decide +kernel), List.mem_of_getElem? (i := 1111) (by decide +kernel), List.mem_of_getElem? (i := 1112) (by decide +kernel)⟩
def lw_privs_5 : List (MethodName × Nat) := [(⟨"FourYearsForAStripModel", "term5", "()I"⟩, 47), (⟨"FourYearsForAStripModel", "atom5", "()I"⟩, 47), (⟨"FourYearsForAStripModel", "isSign", "(I)Z"⟩, 47), (⟨"FourYearsForAStripModel", "name", "()I"⟩, 47), (⟨"FourYearsForAStripModel", "added4", "()I"⟩, 47), (⟨"FourYearsForAStripModel", "term4", "()I"⟩, 47), (⟨"FourYearsForAStripModel", "atom4", "()I"⟩, 47), (⟨"FourYearsForAStripModel", "either5", "()I"⟩, 47), (⟨"FourYearsForAStripModel", "both5", "()I"⟩, 47), (⟨"FourYearsForAStripModel", "added3", "()I"⟩, 47), (⟨"FourYearsForAStripModel", "term3", "()I"⟩, 47), (⟨"FourYearsForAStripModel", "atom3", "()I"⟩, 47), (⟨"FourYearsForAStripModel", "either4", "()I"⟩, 47), (⟨"FourYearsForAStripModel", "both4", "()I"⟩, 47), (⟨"FourYearsForAStripModel", "added2", "()I"⟩, 47), (⟨"FourYearsForAStripModel", "term2", "()I"⟩, 47)]
theorem lw_r5 : ∀ q ∈ lw_privs_5, lw_okq q := List.forall_mem_cons.mpr ⟨lw_p64, List.forall_mem_cons.mpr ⟨lw_p65, List.forall_mem_cons.mpr ⟨lw_p66, List.forall_mem_cons.mpr ⟨lw_p67, List.forall_mem_cons.mpr ⟨lw_p68, List.forall_mem_cons.mpr ⟨lw_p69, List.forall_mem_cons.mpr ⟨lw_p70, List.forall_mem_cons.mpr ⟨lw_p71, List.forall_mem_cons.mpr ⟨lw_p72, List.forall_mem_cons.mpr ⟨lw_p73, List.forall_mem_cons.mpr ⟨lw_p74, List.forall_mem_cons.mpr ⟨lw_p75, List.forall_mem_cons.mpr ⟨lw_p76, List.forall_mem_cons.mpr ⟨lw_p77, List.forall_mem_cons.mpr ⟨lw_p78, List.forall_mem_cons.mpr ⟨lw_p79, fun _ h => absurd h List.not_mem_nil⟩⟩⟩⟩⟩⟩⟩⟩⟩⟩⟩⟩⟩⟩⟩⟩
theorem lw_p80 : lw_okq (⟨"FourYearsForAStripModel", "atom2", "()I"⟩, 47) := ⟨⟨by decide +kernel, by decide +kernel⟩, List.mem_of_getElem? (i := 769) (by decide +kernel), List.mem_of_getElem? (i := 1115) (by decide +kernel), List.mem_of_getElem? (i := 1116) (by decide +kernel)⟩
theorem lw_p81 : lw_okq (⟨"FourYearsForAStripModel", "either3", "()I"⟩, 47) := ⟨⟨by decide +kernel, by decide +kernel⟩, List.mem_of_getElem? (i := 769) (by decide +kernel), List.mem_of_getElem? (i := 1119) (by decide +kernel), List.mem_of_getElem? (i := 1120) (by decide +kernel)⟩
theorem lw_p82 : lw_okq (⟨"FourYearsForAStripModel", "both3", "()I"⟩, 47) := ⟨⟨by decide +kernel, by decide +kernel⟩, List.mem_of_getElem? (i := 769) (by decide +kernel), List.mem_of_getElem? (i := 1123) (by decide +kernel), List.mem_of_getElem? (i := 1124) (by decide +kernel)⟩
theorem lw_p83 : lw_okq (⟨"FourYearsForAStripModel", "added1", "()I"⟩, 47) := ⟨⟨by decide +kernel, by decide +kernel⟩, List.mem_of_getElem? (i := 769) (by decide +kernel), List.mem_of_getElem? (i := 1127) (by decide +kernel), List.mem_of_getElem? (i := 1128) (by decide +kernel)⟩
theorem lw_p84 : lw_okq (⟨"FourYearsForAStripModel", "term1", "()I"⟩, 47) := ⟨⟨by decide +kernel, by decide +kernel⟩, List.mem_of_getElem? (i := 769) (by decide +kernel), List.mem_of_getElem? (i := 1131) (by decide +kernel), List.mem_of_getElem? (i := 1132) (by decide +kernel)⟩
theorem lw_p85 : lw_okq (⟨"FourYearsForAStripModel", "atom1", "()I"⟩, 47) := ⟨⟨by decide +kernel, by decide +kernel⟩, List.mem_of_getElem? (i := 769) (by decide +kernel), List.mem_of_getElem? (i := 1135) (by decide +kernel), List.mem_of_getElem? (i := 1136) (by decide +kernel)⟩
theorem lw_p86 : lw_okq (⟨"FourYearsForAStripModel", "either2", "()I"⟩, 47) := ⟨⟨by decide +kernel, by decide +kernel⟩, List.mem_of_getElem? (i := 769) (by decide +kernel), List.mem_of_getElem? (i := 1139) (by decide +kernel), List.mem_of_getElem? (i := 1140) (by decide +kernel)⟩
theorem lw_p87 : lw_okq (⟨"FourYearsForAStripModel", "both2", "()I"⟩, 47) := ⟨⟨by decide +kernel, by decide +kernel⟩, List.mem_of_getElem? (i := 769) (by decide +kernel), List.mem_of_getElem? (i := 1143) (by decide +kernel), List.mem_of_getElem? (i := 1144) (by decide +kernel)⟩
theorem lw_p88 : lw_okq (⟨"FourYearsForAStripModel", "added0", "()I"⟩, 47) := ⟨⟨by decide +kernel, by decide +kernel⟩, List.mem_of_getElem? (i := 769) (by decide +kernel), List.mem_of_getElem? (i := 1147) (by decide +kernel), List.mem_of_getElem? (i := 1148) (by decide +kernel)⟩
theorem lw_p89 : lw_okq (⟨"FourYearsForAStripModel", "term0", "()I"⟩, 47) := ⟨⟨by decide +kernel, by decide +kernel⟩, List.mem_of_getElem? (i := 769) (by decide +kernel), List.mem_of_getElem? (i := 1151) (by decide +kernel), List.mem_of_getElem? (i := 1152) (by decide +kernel)⟩
theorem lw_p90 : lw_okq (⟨"FourYearsForAStripModel", "atom0", "()I"⟩, 47) := ⟨⟨by decide +kernel, by decide +kernel⟩, List.mem_of_getElem? (i := 769) (by decide +kernel), List.mem_of_getElem? (i := 1155) (by decide +kernel), List.mem_of_getElem? (i := 1156) (by decide +kernel)⟩
theorem lw_p91 : lw_okq (⟨"FourYearsForAStripModel", "either1", "()I"⟩, 47) := ⟨⟨by decide +kernel, by decide +kernel⟩, List.mem_of_getElem? (i := 769) (by decide +kernel), List.mem_of_getElem? (i := 1159) (by decide +kernel), List.mem_of_getElem? (i := 1160) (by decide +kernel)⟩
theorem lw_p92 : lw_okq (⟨"FourYearsForAStripModel", "both1", "()I"⟩, 47) := ⟨⟨by decide +kernel, by decide +kernel⟩, List.mem_of_getElem? (i := 769) (by decide +kernel), List.mem_of_getElem? (i := 1163) (by decide +kernel), List.mem_of_getElem? (i := 1164) (by decide +kernel)⟩
theorem lw_p93 : lw_okq (⟨"FourYearsForAStripModel", "stays", "(I)Z"⟩, 47) := ⟨⟨by decide +kernel, by decide +kernel⟩, List.mem_of_getElem? (i := 769) (by decide +kernel), List.mem_of_getElem? (i := 1170) (by decide +kernel), List.mem_of_getElem? (i := 1171) (by decide +kernel)⟩
theorem lw_p94 : lw_okq (⟨"FourYearsForAStripModel", "lays", "(III)V"⟩, 47) := ⟨⟨by decide +kernel, by decide +kernel⟩, List.mem_of_getElem? (i := 769) (by decide +kernel), List.mem_of_getElem? (i := 1174) (by decide +kernel), List.mem_of_getElem? (i := 1175) (by decide +kernel)⟩
theorem lw_p95 : lw_okq (⟨"FourYearsForAStripModel", "puts", "(II)V"⟩, 47) := ⟨⟨by decide +kernel, by decide +kernel⟩, List.mem_of_getElem? (i := 769) (by decide +kernel), List.mem_of_getElem? (i := 1183) (by decide +kernel), List.mem_of_getElem? (i := 1184) (by decide +kernel)⟩
def lw_privs_6 : List (MethodName × Nat) := [(⟨"FourYearsForAStripModel", "atom2", "()I"⟩, 47), (⟨"FourYearsForAStripModel", "either3", "()I"⟩, 47), (⟨"FourYearsForAStripModel", "both3", "()I"⟩, 47), (⟨"FourYearsForAStripModel", "added1", "()I"⟩, 47), (⟨"FourYearsForAStripModel", "term1", "()I"⟩, 47), (⟨"FourYearsForAStripModel", "atom1", "()I"⟩, 47), (⟨"FourYearsForAStripModel", "either2", "()I"⟩, 47), (⟨"FourYearsForAStripModel", "both2", "()I"⟩, 47), (⟨"FourYearsForAStripModel", "added0", "()I"⟩, 47), (⟨"FourYearsForAStripModel", "term0", "()I"⟩, 47), (⟨"FourYearsForAStripModel", "atom0", "()I"⟩, 47), (⟨"FourYearsForAStripModel", "either1", "()I"⟩, 47), (⟨"FourYearsForAStripModel", "both1", "()I"⟩, 47), (⟨"FourYearsForAStripModel", "stays", "(I)Z"⟩, 47), (⟨"FourYearsForAStripModel", "lays", "(III)V"⟩, 47), (⟨"FourYearsForAStripModel", "puts", "(II)V"⟩, 47)]
theorem lw_r6 : ∀ q ∈ lw_privs_6, lw_okq q := List.forall_mem_cons.mpr ⟨lw_p80, List.forall_mem_cons.mpr ⟨lw_p81, List.forall_mem_cons.mpr ⟨lw_p82, List.forall_mem_cons.mpr ⟨lw_p83, List.forall_mem_cons.mpr ⟨lw_p84, List.forall_mem_cons.mpr ⟨lw_p85, List.forall_mem_cons.mpr ⟨lw_p86, List.forall_mem_cons.mpr ⟨lw_p87, List.forall_mem_cons.mpr ⟨lw_p88, List.forall_mem_cons.mpr ⟨lw_p89, List.forall_mem_cons.mpr ⟨lw_p90, List.forall_mem_cons.mpr ⟨lw_p91, List.forall_mem_cons.mpr ⟨lw_p92, List.forall_mem_cons.mpr ⟨lw_p93, List.forall_mem_cons.mpr ⟨lw_p94, List.forall_mem_cons.mpr ⟨lw_p95, fun _ h => absurd h List.not_mem_nil⟩⟩⟩⟩⟩⟩⟩⟩⟩⟩⟩⟩⟩⟩⟩⟩
theorem lw_p96 : lw_okq (⟨"FourYearsForAStripModel", "firstBut", "(I)I"⟩, 47) := ⟨⟨by decide +kernel, by decide +kernel⟩, List.mem_of_getElem? (i := 769) (by decide +kernel), List.mem_of_getElem? (i := 1214) (by decide +kernel), List.mem_of_getElem? (i := 1215) (by decide +kernel)⟩
theorem lw_p97 : lw_okq (⟨"FourYearsForAStripModel", "lives", "()V"⟩, 47) := ⟨⟨by decide +kernel, by decide +kernel⟩, List.mem_of_getElem? (i := 769) (by decide +kernel), List.mem_of_getElem? (i := 1222) (by decide +kernel), List.mem_of_getElem? (i := 1223) (by decide +kernel)⟩
theorem lw_p98 : lw_okq (⟨"FourYearsForAStripModel", "tends", "(I)V"⟩, 47) := ⟨⟨by decide +kernel, by decide +kernel⟩, List.mem_of_getElem? (i := 769) (by decide +kernel), List.mem_of_getElem? (i := 1226) (by decide +kernel), List.mem_of_getElem? (i := 1227) (by decide +kernel)⟩
theorem lw_p99 : lw_okq (⟨"FourYearsForAStripModel", "judges", "(I)V"⟩, 47) := ⟨⟨by decide +kernel, by decide +kernel⟩, List.mem_of_getElem? (i := 769) (by decide +kernel), List.mem_of_getElem? (i := 1230) (by decide +kernel), List.mem_of_getElem? (i := 1231) (by decide +kernel)⟩
theorem lw_p100 : lw_okq (⟨"FourYearsForAStripModel", "gives", "(I)V"⟩, 47) := ⟨⟨by decide +kernel, by decide +kernel⟩, List.mem_of_getElem? (i := 769) (by decide +kernel), List.mem_of_getElem? (i := 1234) (by decide +kernel), List.mem_of_getElem? (i := 1235) (by decide +kernel)⟩
theorem lw_p101 : lw_okq (⟨"FourYearsForAStripModel", "bears", "(I)Z"⟩, 47) := ⟨⟨by decide +kernel, by decide +kernel⟩, List.mem_of_getElem? (i := 769) (by decide +kernel), List.mem_of_getElem? (i := 1238) (by decide +kernel), List.mem_of_getElem? (i := 1239) (by decide +kernel)⟩
theorem lw_p102 : lw_okq (⟨"FourYearsForAStripModel", "howMany", "(I)I"⟩, 47) := ⟨⟨by decide +kernel, by decide +kernel⟩, List.mem_of_getElem? (i := 769) (by decide +kernel), List.mem_of_getElem? (i := 1242) (by decide +kernel), List.mem_of_getElem? (i := 1243) (by decide +kernel)⟩
theorem lw_p103 : lw_okq (⟨"FourYearsForAStripModel", "laysAside", "()V"⟩, 47) := ⟨⟨by decide +kernel, by decide +kernel⟩, List.mem_of_getElem? (i := 769) (by decide +kernel), List.mem_of_getElem? (i := 1256) (by decide +kernel), List.mem_of_getElem? (i := 1257) (by decide +kernel)⟩
theorem lw_p104 : lw_okq (⟨"FourYearsForAStripModel", "tellsOf", "(I)I"⟩, 47) := ⟨⟨by decide +kernel, by decide +kernel⟩, List.mem_of_getElem? (i := 769) (by decide +kernel), List.mem_of_getElem? (i := 1260) (by decide +kernel), List.mem_of_getElem? (i := 1261) (by decide +kernel)⟩
theorem lw_p105 : lw_okq (⟨"FourYearsForAStripModel", "well", "()I"⟩, 47) := ⟨⟨by decide +kernel, by decide +kernel⟩, List.mem_of_getElem? (i := 769) (by decide +kernel), List.mem_of_getElem? (i := 1264) (by decide +kernel), List.mem_of_getElem? (i := 1265) (by decide +kernel)⟩
theorem lw_p106 : lw_okq (⟨"FourYearsForAStripModel", "laysBack", "()V"⟩, 47) := ⟨⟨by decide +kernel, by decide +kernel⟩, List.mem_of_getElem? (i := 769) (by decide +kernel), List.mem_of_getElem? (i := 1268) (by decide +kernel), List.mem_of_getElem? (i := 1269) (by decide +kernel)⟩
theorem lw_p107 : lw_okq (⟨"FourYearsForAStripModel", "wellBehind", "(I)I"⟩, 47) := ⟨⟨by decide +kernel, by decide +kernel⟩, List.mem_of_getElem? (i := 769) (by decide +kernel), List.mem_of_getElem? (i := 1280) (by decide +kernel), List.mem_of_getElem? (i := 1281) (by decide +kernel)⟩
theorem lw_p108 : lw_okq (⟨"FourYearsForAStripModel", "looksAt", "(II)V"⟩, 47) := ⟨⟨by decide +kernel, by decide +kernel⟩, List.mem_of_getElem? (i := 769) (by decide +kernel), List.mem_of_getElem? (i := 1284) (by decide +kernel), List.mem_of_getElem? (i := 1285) (by decide +kernel)⟩
theorem lw_p109 : lw_okq (⟨"FourYearsForAStripModel", "keeps", "()V"⟩, 47) := ⟨⟨by decide +kernel, by decide +kernel⟩, List.mem_of_getElem? (i := 769) (by decide +kernel), List.mem_of_getElem? (i := 1292) (by decide +kernel), List.mem_of_getElem? (i := 1293) (by decide +kernel)⟩
theorem lw_p110 : lw_okq (⟨"FourYearsForAStripModel", "takesBack", "()V"⟩, 47) := ⟨⟨by decide +kernel, by decide +kernel⟩, List.mem_of_getElem? (i := 769) (by decide +kernel), List.mem_of_getElem? (i := 1296) (by decide +kernel), List.mem_of_getElem? (i := 1297) (by decide +kernel)⟩
theorem lw_p111 : lw_okq (⟨"FourYearsForAStripModel", "firstOther", "(II)I"⟩, 47) := ⟨⟨by decide +kernel, by decide +kernel⟩, List.mem_of_getElem? (i := 769) (by decide +kernel), List.mem_of_getElem? (i := 1320) (by decide +kernel), List.mem_of_getElem? (i := 1321) (by decide +kernel)⟩
def lw_privs_7 : List (MethodName × Nat) := [(⟨"FourYearsForAStripModel", "firstBut", "(I)I"⟩, 47), (⟨"FourYearsForAStripModel", "lives", "()V"⟩, 47), (⟨"FourYearsForAStripModel", "tends", "(I)V"⟩, 47), (⟨"FourYearsForAStripModel", "judges", "(I)V"⟩, 47), (⟨"FourYearsForAStripModel", "gives", "(I)V"⟩, 47), (⟨"FourYearsForAStripModel", "bears", "(I)Z"⟩, 47), (⟨"FourYearsForAStripModel", "howMany", "(I)I"⟩, 47), (⟨"FourYearsForAStripModel", "laysAside", "()V"⟩, 47), (⟨"FourYearsForAStripModel", "tellsOf", "(I)I"⟩, 47), (⟨"FourYearsForAStripModel", "well", "()I"⟩, 47), (⟨"FourYearsForAStripModel", "laysBack", "()V"⟩, 47), (⟨"FourYearsForAStripModel", "wellBehind", "(I)I"⟩, 47), (⟨"FourYearsForAStripModel", "looksAt", "(II)V"⟩, 47), (⟨"FourYearsForAStripModel", "keeps", "()V"⟩, 47), (⟨"FourYearsForAStripModel", "takesBack", "()V"⟩, 47), (⟨"FourYearsForAStripModel", "firstOther", "(II)I"⟩, 47)]
theorem lw_r7 : ∀ q ∈ lw_privs_7, lw_okq q := List.forall_mem_cons.mpr ⟨lw_p96, List.forall_mem_cons.mpr ⟨lw_p97, List.forall_mem_cons.mpr ⟨lw_p98, List.forall_mem_cons.mpr ⟨lw_p99, List.forall_mem_cons.mpr ⟨lw_p100, List.forall_mem_cons.mpr ⟨lw_p101, List.forall_mem_cons.mpr ⟨lw_p102, List.forall_mem_cons.mpr ⟨lw_p103, List.forall_mem_cons.mpr ⟨lw_p104, List.forall_mem_cons.mpr ⟨lw_p105, List.forall_mem_cons.mpr ⟨lw_p106, List.forall_mem_cons.mpr ⟨lw_p107, List.forall_mem_cons.mpr ⟨lw_p108, List.forall_mem_cons.mpr ⟨lw_p109, List.forall_mem_cons.mpr ⟨lw_p110, List.forall_mem_cons.mpr ⟨lw_p111, fun _ h => absurd h List.not_mem_nil⟩⟩⟩⟩⟩⟩⟩⟩⟩⟩⟩⟩⟩⟩⟩⟩
theorem lw_p112 : lw_okq (⟨"FourYearsForAStripModel", "wellBy", "(II)I"⟩, 47) := ⟨⟨by decide +kernel, by decide +kernel⟩, List.mem_of_getElem? (i := 769) (by decide +kernel), List.mem_of_getElem? (i := 1338) (by decide +kernel), List.mem_of_getElem? (i := 1339) (by decide +kernel)⟩
def lw_privs_8 : List (MethodName × Nat) := [(⟨"FourYearsForAStripModel", "wellBy", "(II)I"⟩, 47)]
theorem lw_r8 : ∀ q ∈ lw_privs_8, lw_okq q := List.forall_mem_cons.mpr ⟨lw_p112, fun _ h => absurd h List.not_mem_nil⟩
def lw_privs : List (MethodName × Nat) := lw_privs_1 ++ (lw_privs_2 ++ (lw_privs_3 ++ (lw_privs_4 ++ (lw_privs_5 ++ (lw_privs_6 ++ (lw_privs_7 ++ (lw_privs_8)))))))
def lw_tbl : List Cond := k2_sels lw_privs ++ tables_1
theorem lw_privs_ok : ∀ q ∈ lw_privs, lw_okq q := by
  show ∀ q ∈ lw_privs_1 ++ (lw_privs_2 ++ (lw_privs_3 ++ (lw_privs_4 ++ (lw_privs_5 ++ (lw_privs_6 ++ (lw_privs_7 ++ (lw_privs_8))))))), lw_okq q
  exact List.forall_mem_append.mpr ⟨lw_r1, List.forall_mem_append.mpr ⟨lw_r2, List.forall_mem_append.mpr ⟨lw_r3, List.forall_mem_append.mpr ⟨lw_r4, List.forall_mem_append.mpr ⟨lw_r5, List.forall_mem_append.mpr ⟨lw_r6, List.forall_mem_append.mpr ⟨lw_r7, lw_r8⟩⟩⟩⟩⟩⟩⟩

/-! ===== BEGIN printed: names, fields, word lists, decode rows ===== -/
def RX0 : String := "FourYearsForAStrip$Best"
def TX0 : u_T := fun k => match k with
  | 0 => ("FourYearsForAStrip$Best", "found", "I", false)
  | _ => ("FourYearsForAStrip$Best", "well", "I", false)
def tyX0 : Nat → FieldType := fun k => match k with
  | 0 => .int
  | _ => .int
abbrev wsX00 : List Cond := u_ws RX0 TX0 2
theorem nmX0 : ∀ a, a < 2 → ∀ b, b < 2 → a ≠ b → (TX0 a).2.1 ≠ (TX0 b).2.1 := by decide +kernel
theorem tyX0_ok : ∀ k, k < 2 → parseFieldDescriptor (TX0 k).2.2.1 = some (tyX0 k) := by decide +kernel
abbrev cX0_init : ByteArray := prog_2_method_1_code
def yX0_init : MethodName := ⟨RX0, "<init>", "()V"⟩
abbrev cX0_start : ByteArray := prog_2_method_2_code
def yX0_start : MethodName := ⟨RX0, "start", "(I)V"⟩
abbrev cX0_offer : ByteArray := prog_2_method_3_code
def yX0_offer : MethodName := ⟨RX0, "offer", "(II)V"⟩
abbrev cX0_answer : ByteArray := prog_2_method_4_code
def yX0_answer : MethodName := ⟨RX0, "answer", "(I)I"⟩
def RX1 : String := "FourYearsForAStrip$Book"
def TX1 : u_T := fun k => match k with
  | 0 => ("FourYearsForAStrip$Book", "codes", "[I", true)
  | 1 => ("FourYearsForAStrip$Book", "ends", "[I", true)
  | 2 => ("FourYearsForAStrip$Book", "stack", "[I", true)
  | 3 => ("FourYearsForAStrip$Book", "used", "I", false)
  | 4 => ("FourYearsForAStrip$Book", "parts", "I", false)
  | _ => ("FourYearsForAStrip$Book", "texts", "I", false)
def tyX1 : Nat → FieldType := fun k => match k with
  | 0 => .array .int
  | 1 => .array .int
  | 2 => .array .int
  | 3 => .int
  | 4 => .int
  | _ => .int
abbrev wsX10 : List Cond := u_ws RX1 TX1 6
theorem nmX1 : ∀ a, a < 6 → ∀ b, b < 6 → a ≠ b → (TX1 a).2.1 ≠ (TX1 b).2.1 := by decide +kernel
theorem tyX1_ok : ∀ k, k < 6 → parseFieldDescriptor (TX1 k).2.2.1 = some (tyX1 k) := by decide +kernel
abbrev cX1_init : ByteArray := prog_3_method_1_code
def yX1_init : MethodName := ⟨RX1, "<init>", "()V"⟩
abbrev cX1_isFull : ByteArray := prog_3_method_2_code
def yX1_isFull : MethodName := ⟨RX1, "isFull", "()Z"⟩
abbrev cX1_add : ByteArray := prog_3_method_3_code
def yX1_add : MethodName := ⟨RX1, "add", "(I)V"⟩
abbrev cX1_endPart : ByteArray := prog_3_method_4_code
def yX1_endPart : MethodName := ⟨RX1, "endPart", "()V"⟩
abbrev cX1_finish : ByteArray := prog_3_method_5_code
def yX1_finish : MethodName := ⟨RX1, "finish", "()I"⟩
abbrev cX1_dropUnfinished : ByteArray := prog_3_method_6_code
def yX1_dropUnfinished : MethodName := ⟨RX1, "dropUnfinished", "()V"⟩
abbrev cX1_value : ByteArray := prog_3_method_7_code
def yX1_value : MethodName := ⟨RX1, "value", "(II[I)I"⟩
abbrev cX1_combined : ByteArray := prog_3_method_8_code
def yX1_combined : MethodName := ⟨RX1, "combined", "(III)I"⟩
def RX2 : String := "FourYearsForAStrip$Garden"
def TX2 : u_T := fun k => match k with
  | 0 => ("FourYearsForAStrip$Garden", "book", "LFourYearsForAStrip$Book;", true)
  | 1 => ("FourYearsForAStrip$Garden", "names", "[I", true)
  | 2 => ("FourYearsForAStrip$Garden", "year", "I", false)
  | 3 => ("FourYearsForAStrip$Garden", "limit", "I", false)
  | 4 => ("FourYearsForAStrip$Garden", "letters", "I", false)
  | 5 => ("FourYearsForAStrip$Garden", "rule", "I", false)
  | 6 => ("FourYearsForAStrip$Garden", "people", "I", false)
  | 7 => ("FourYearsForAStrip$Garden", "tended", "[I", true)
  | 8 => ("FourYearsForAStrip$Garden", "wet", "[I", true)
  | 9 => ("FourYearsForAStrip$Garden", "kind", "[I", true)
  | 10 => ("FourYearsForAStrip$Garden", "number", "[I", true)
  | 11 => ("FourYearsForAStrip$Garden", "place", "[I", true)
  | 12 => ("FourYearsForAStrip$Garden", "held", "[I", true)
  | 13 => ("FourYearsForAStrip$Garden", "warned", "[I", true)
  | _ => ("FourYearsForAStrip$Garden", "waited", "[I", true)
def tyX2 : Nat → FieldType := fun k => match k with
  | 0 => .object "FourYearsForAStrip$Book"
  | 1 => .array .int
  | 2 => .int
  | 3 => .int
  | 4 => .int
  | 5 => .int
  | 6 => .int
  | 7 => .array .int
  | 8 => .array .int
  | 9 => .array .int
  | 10 => .array .int
  | 11 => .array .int
  | 12 => .array .int
  | 13 => .array .int
  | _ => .array .int
abbrev wsX20 : List Cond := u_ws RX2 TX2 15
theorem nmX2 : ∀ a, a < 15 → ∀ b, b < 15 → a ≠ b → (TX2 a).2.1 ≠ (TX2 b).2.1 := by decide +kernel
theorem tyX2_ok : ∀ k, k < 15 → parseFieldDescriptor (TX2 k).2.2.1 = some (tyX2 k) := by decide +kernel
abbrev cX2_init : ByteArray := prog_4_method_1_code
def yX2_init : MethodName := ⟨RX2, "<init>", "(LFourYearsForAStrip$Book;)V"⟩
abbrev cX2_become : ByteArray := prog_4_method_2_code
def yX2_become : MethodName := ⟨RX2, "become", "(LFourYearsForAStrip$Garden;)V"⟩
abbrev cX2_isPerson : ByteArray := prog_4_method_3_code
def yX2_isPerson : MethodName := ⟨RX2, "isPerson", "(I)Z"⟩
abbrev cX2_hasStrip : ByteArray := prog_4_method_4_code
def yX2_hasStrip : MethodName := ⟨RX2, "hasStrip", "(I)Z"⟩
abbrev cX2_comes : ByteArray := prog_4_method_5_code
def yX2_comes : MethodName := ⟨RX2, "comes", "(II)I"⟩
abbrev cX2_moveIn : ByteArray := prog_4_method_6_code
def yX2_moveIn : MethodName := ⟨RX2, "moveIn", "(II)V"⟩
abbrev cX2_holder : ByteArray := prog_4_method_7_code
def yX2_holder : MethodName := ⟨RX2, "holder", "(I)I"⟩
abbrev cX2_peopleAt : ByteArray := prog_4_method_8_code
def yX2_peopleAt : MethodName := ⟨RX2, "peopleAt", "(I)I"⟩
abbrev cX2_freeStrips : ByteArray := prog_4_method_9_code
def yX2_freeStrips : MethodName := ⟨RX2, "freeStrips", "()I"⟩
abbrev cX2_stripsBelowLimit : ByteArray := prog_4_method_10_code
def yX2_stripsBelowLimit : MethodName := ⟨RX2, "stripsBelowLimit", "()I"⟩
abbrev cX2_tendedWell : ByteArray := prog_4_method_11_code
def yX2_tendedWell : MethodName := ⟨RX2, "tendedWell", "()I"⟩
abbrev cX2_isAhead : ByteArray := prog_4_method_12_code
def yX2_isAhead : MethodName := ⟨RX2, "isAhead", "(II)Z"⟩
abbrev cX2_manyAhead : ByteArray := prog_4_method_13_code
def yX2_manyAhead : MethodName := ⟨RX2, "manyAhead", "(I)I"⟩
abbrev cX2_listed : ByteArray := prog_4_method_14_code
def yX2_listed : MethodName := ⟨RX2, "listed", "(I)I"⟩
abbrev cX2_bears : ByteArray := prog_4_method_15_code
def yX2_bears : MethodName := ⟨RX2, "bears", "(I)Z"⟩
abbrev cX2_firstWhoTakes : ByteArray := prog_4_method_16_code
def yX2_firstWhoTakes : MethodName := ⟨RX2, "firstWhoTakes", "(I)I"⟩
abbrev cX2_ask : ByteArray := prog_4_method_17_code
def yX2_ask : MethodName := ⟨RX2, "ask", "(III)I"⟩
abbrev cX2_effort : ByteArray := prog_4_method_18_code
def yX2_effort : MethodName := ⟨RX2, "effort", "(II)I"⟩
abbrev cX2_remains : ByteArray := prog_4_method_19_code
def yX2_remains : MethodName := ⟨RX2, "remains", "(II)Z"⟩
abbrev cX2_wither : ByteArray := prog_4_method_20_code
def yX2_wither : MethodName := ⟨RX2, "wither", "(II)V"⟩
abbrev cX2_growAndTend : ByteArray := prog_4_method_21_code
def yX2_growAndTend : MethodName := ⟨RX2, "growAndTend", "(I)V"⟩
abbrev cX2_warnOrLeave : ByteArray := prog_4_method_22_code
def yX2_warnOrLeave : MethodName := ⟨RX2, "warnOrLeave", "(II)V"⟩
abbrev cX2_waitOn : ByteArray := prog_4_method_23_code
def yX2_waitOn : MethodName := ⟨RX2, "waitOn", "(I)V"⟩
abbrev cX2_handOut : ByteArray := prog_4_method_24_code
def yX2_handOut : MethodName := ⟨RX2, "handOut", "(I)V"⟩
abbrev cX2_passYear : ByteArray := prog_4_method_25_code
def yX2_passYear : MethodName := ⟨RX2, "passYear", "()V"⟩
abbrev cX2_wellAfter : ByteArray := prog_4_method_26_code
def yX2_wellAfter : MethodName := ⟨RX2, "wellAfter", "(I)I"⟩
def RX3 : String := "FourYearsForAStrip$Reader"
def TX3 : u_T := fun k => match k with
  | 0 => ("FourYearsForAStrip$Reader", "tape", "LFourYearsForAStrip$Tape;", true)
  | 1 => ("FourYearsForAStrip$Reader", "book", "LFourYearsForAStrip$Book;", true)
  | 2 => ("FourYearsForAStrip$Reader", "at", "I", false)
  | _ => ("FourYearsForAStrip$Reader", "fault", "I", false)
def tyX3 : Nat → FieldType := fun k => match k with
  | 0 => .object "FourYearsForAStrip$Tape"
  | 1 => .object "FourYearsForAStrip$Book"
  | 2 => .int
  | _ => .int
abbrev wsX30 : List Cond := u_ws RX3 TX3 4
theorem nmX3 : ∀ a, a < 4 → ∀ b, b < 4 → a ≠ b → (TX3 a).2.1 ≠ (TX3 b).2.1 := by decide +kernel
theorem tyX3_ok : ∀ k, k < 4 → parseFieldDescriptor (TX3 k).2.2.1 = some (tyX3 k) := by decide +kernel
abbrev cX3_init : ByteArray := prog_5_method_1_code
def yX3_init : MethodName := ⟨RX3, "<init>", "(LFourYearsForAStrip$Tape;LFourYearsForAStrip$Book;)V"⟩
abbrev cX3_readText : ByteArray := prog_5_method_2_code
def yX3_readText : MethodName := ⟨RX3, "readText", "()I"⟩
abbrev cX3_isNext : ByteArray := prog_5_method_3_code
def yX3_isNext : MethodName := ⟨RX3, "isNext", "(I)Z"⟩
abbrev cX3_isNextName : ByteArray := prog_5_method_4_code
def yX3_isNextName : MethodName := ⟨RX3, "isNextName", "()Z"⟩
abbrev cX3_faultHere : ByteArray := prog_5_method_5_code
def yX3_faultHere : MethodName := ⟨RX3, "faultHere", "()V"⟩
abbrev cX3_took : ByteArray := prog_5_method_6_code
def yX3_took : MethodName := ⟨RX3, "took", "(I)Z"⟩
abbrev cX3_expect : ByteArray := prog_5_method_7_code
def yX3_expect : MethodName := ⟨RX3, "expect", "(I)V"⟩
abbrev cX3_opened : ByteArray := prog_5_method_8_code
def yX3_opened : MethodName := ⟨RX3, "opened", "(II)Z"⟩
abbrev cX3_either : ByteArray := prog_5_method_9_code
def yX3_either : MethodName := ⟨RX3, "either", "(I)V"⟩
abbrev cX3_both : ByteArray := prog_5_method_10_code
def yX3_both : MethodName := ⟨RX3, "both", "(I)V"⟩
abbrev cX3_denied : ByteArray := prog_5_method_11_code
def yX3_denied : MethodName := ⟨RX3, "denied", "(I)V"⟩
abbrev cX3_sum : ByteArray := prog_5_method_12_code
def yX3_sum : MethodName := ⟨RX3, "sum", "(I)V"⟩
abbrev cX3_product : ByteArray := prog_5_method_13_code
def yX3_product : MethodName := ⟨RX3, "product", "(I)V"⟩
abbrev cX3_single : ByteArray := prog_5_method_14_code
def yX3_single : MethodName := ⟨RX3, "single", "(I)V"⟩
def RX4 : String := "FourYearsForAStrip$Rows"
def TX4 : u_T := fun k => match k with
  | 0 => ("FourYearsForAStrip$Rows", "cells", "[I", true)
  | 1 => ("FourYearsForAStrip$Rows", "sort", "[I", true)
  | _ => ("FourYearsForAStrip$Rows", "size", "[I", true)
def tyX4 : Nat → FieldType := fun k => match k with
  | 0 => .array .int
  | 1 => .array .int
  | _ => .array .int
abbrev wsX40 : List Cond := u_ws RX4 TX4 3
theorem nmX4 : ∀ a, a < 3 → ∀ b, b < 3 → a ≠ b → (TX4 a).2.1 ≠ (TX4 b).2.1 := by decide +kernel
theorem tyX4_ok : ∀ k, k < 3 → parseFieldDescriptor (TX4 k).2.2.1 = some (tyX4 k) := by decide +kernel
abbrev cX4_init : ByteArray := prog_6_method_1_code
def yX4_init : MethodName := ⟨RX4, "<init>", "()V"⟩
abbrev cX4_isMissing : ByteArray := prog_6_method_2_code
def yX4_isMissing : MethodName := ⟨RX4, "isMissing", "(I)Z"⟩
abbrev cX4_lay : ByteArray := prog_6_method_3_code
def yX4_lay : MethodName := ⟨RX4, "lay", "(III)V"⟩
abbrev cX4_holds : ByteArray := prog_6_method_4_code
def yX4_holds : MethodName := ⟨RX4, "holds", "(III)Z"⟩
abbrev cX4_at : ByteArray := prog_6_method_5_code
def yX4_at : MethodName := ⟨RX4, "at", "(II)I"⟩
abbrev cX4_put : ByteArray := prog_6_method_6_code
def yX4_put : MethodName := ⟨RX4, "put", "(III)V"⟩
abbrev cX4_move : ByteArray := prog_6_method_7_code
def yX4_move : MethodName := ⟨RX4, "move", "(IIIII)V"⟩
def RX5 : String := "FourYearsForAStrip$Tape"
def TX5 : u_T := fun k => match k with
  | 0 => ("FourYearsForAStrip$Tape", "bytes", "[I", true)
  | 1 => ("FourYearsForAStrip$Tape", "size", "I", false)
  | 2 => ("FourYearsForAStrip$Tape", "at", "I", false)
  | 3 => ("FourYearsForAStrip$Tape", "token", "[I", true)
  | 4 => ("FourYearsForAStrip$Tape", "begins", "[I", true)
  | 5 => ("FourYearsForAStrip$Tape", "worth", "[I", true)
  | _ => ("FourYearsForAStrip$Tape", "tokens", "I", false)
def tyX5 : Nat → FieldType := fun k => match k with
  | 0 => .array .int
  | 1 => .int
  | 2 => .int
  | 3 => .array .int
  | 4 => .array .int
  | 5 => .array .int
  | _ => .int
abbrev wsX50 : List Cond := u_ws RX5 TX5 7
theorem nmX5 : ∀ a, a < 7 → ∀ b, b < 7 → a ≠ b → (TX5 a).2.1 ≠ (TX5 b).2.1 := by decide +kernel
theorem tyX5_ok : ∀ k, k < 7 → parseFieldDescriptor (TX5 k).2.2.1 = some (tyX5 k) := by decide +kernel
abbrev cX5_init : ByteArray := prog_7_method_1_code
def yX5_init : MethodName := ⟨RX5, "<init>", "()V"⟩
abbrev cX5_add : ByteArray := prog_7_method_2_code
def yX5_add : MethodName := ⟨RX5, "add", "(I)I"⟩
abbrev cX5_clear : ByteArray := prog_7_method_3_code
def yX5_clear : MethodName := ⟨RX5, "clear", "()V"⟩
abbrev cX5_split : ByteArray := prog_7_method_4_code
def yX5_split : MethodName := ⟨RX5, "split", "()V"⟩
abbrev cX5_keep : ByteArray := prog_7_method_5_code
def yX5_keep : MethodName := ⟨RX5, "keep", "(II)V"⟩
abbrev cX5_skipBlanks : ByteArray := prog_7_method_6_code
def yX5_skipBlanks : MethodName := ⟨RX5, "skipBlanks", "()V"⟩
abbrev cX5_isLetter : ByteArray := prog_7_method_7_code
def yX5_isLetter : MethodName := ⟨RX5, "isLetter", "(I)Z"⟩
abbrev cX5_isDigit : ByteArray := prog_7_method_8_code
def yX5_isDigit : MethodName := ⟨RX5, "isDigit", "(I)Z"⟩
abbrev cX5_isSign : ByteArray := prog_7_method_9_code
def yX5_isSign : MethodName := ⟨RX5, "isSign", "(I)Z"⟩
abbrev cX5_readSign : ByteArray := prog_7_method_10_code
def yX5_readSign : MethodName := ⟨RX5, "readSign", "()I"⟩
abbrev cX5_readNumber : ByteArray := prog_7_method_11_code
def yX5_readNumber : MethodName := ⟨RX5, "readNumber", "()I"⟩
abbrev cX5_readWord : ByteArray := prog_7_method_12_code
def yX5_readWord : MethodName := ⟨RX5, "readWord", "()I"⟩
abbrev cX5_keyFrom : ByteArray := prog_7_method_13_code
def yX5_keyFrom : MethodName := ⟨RX5, "keyFrom", "(I)I"⟩
abbrev cX5_nameFrom : ByteArray := prog_7_method_14_code
def yX5_nameFrom : MethodName := ⟨RX5, "nameFrom", "(I)I"⟩
abbrev cX5_isWord : ByteArray := prog_7_method_15_code
def yX5_isWord : MethodName := ⟨RX5, "isWord", "(Ljava/lang/String;I)Z"⟩
def RX6 : String := "FourYearsForAStrip"
def TX6 : u_T := fun k => match k with
  | 0 => ("FourYearsForAStrip", "book", "LFourYearsForAStrip$Book;", true)
  | 1 => ("FourYearsForAStrip", "tape", "LFourYearsForAStrip$Tape;", true)
  | 2 => ("FourYearsForAStrip", "reader", "LFourYearsForAStrip$Reader;", true)
  | 3 => ("FourYearsForAStrip", "now", "LFourYearsForAStrip$Garden;", true)
  | 4 => ("FourYearsForAStrip", "thought", "LFourYearsForAStrip$Garden;", true)
  | 5 => ("FourYearsForAStrip", "kept", "LFourYearsForAStrip$Garden;", true)
  | 6 => ("FourYearsForAStrip", "rows", "LFourYearsForAStrip$Rows;", true)
  | 7 => ("FourYearsForAStrip", "best", "LFourYearsForAStrip$Best;", true)
  | _ => ("FourYearsForAStrip", "hasImage", "Z", false)
def tyX6 : Nat → FieldType := fun k => match k with
  | 0 => .object "FourYearsForAStrip$Book"
  | 1 => .object "FourYearsForAStrip$Tape"
  | 2 => .object "FourYearsForAStrip$Reader"
  | 3 => .object "FourYearsForAStrip$Garden"
  | 4 => .object "FourYearsForAStrip$Garden"
  | 5 => .object "FourYearsForAStrip$Garden"
  | 6 => .object "FourYearsForAStrip$Rows"
  | 7 => .object "FourYearsForAStrip$Best"
  | _ => .boolean
abbrev wsX60 : List Cond := u_ws RX6 TX6 9
theorem nmX6 : ∀ a, a < 9 → ∀ b, b < 9 → a ≠ b → (TX6 a).2.1 ≠ (TX6 b).2.1 := by decide +kernel
theorem tyX6_ok : ∀ k, k < 9 → parseFieldDescriptor (TX6 k).2.2.1 = some (tyX6 k) := by decide +kernel
abbrev cX6_init : ByteArray := prog_1_method_1_code
def yX6_init : MethodName := ⟨RX6, "<init>", "()V"⟩
abbrev cX6_set : ByteArray := prog_1_method_2_code
def yX6_set : MethodName := ⟨RX6, "set", "(III)I"⟩
abbrev cX6_tenant : ByteArray := prog_1_method_3_code
def yX6_tenant : MethodName := ⟨RX6, "tenant", "(II)I"⟩
abbrev cX6_told : ByteArray := prog_1_method_4_code
def yX6_told : MethodName := ⟨RX6, "told", "(II)I"⟩
abbrev cX6_give : ByteArray := prog_1_method_5_code
def yX6_give : MethodName := ⟨RX6, "give", "(II)I"⟩
abbrev cX6_strikeOff : ByteArray := prog_1_method_6_code
def yX6_strikeOff : MethodName := ⟨RX6, "strikeOff", "(I)I"⟩
abbrev cX6_list : ByteArray := prog_1_method_7_code
def yX6_list : MethodName := ⟨RX6, "list", "(I)I"⟩
abbrev cX6_feed : ByteArray := prog_1_method_8_code
def yX6_feed : MethodName := ⟨RX6, "feed", "(I)I"⟩
abbrev cX6_text : ByteArray := prog_1_method_9_code
def yX6_text : MethodName := ⟨RX6, "text", "()I"⟩
abbrev cX6_force : ByteArray := prog_1_method_10_code
def yX6_force : MethodName := ⟨RX6, "force", "(I)I"⟩
abbrev cX6_year : ByteArray := prog_1_method_11_code
def yX6_year : MethodName := ⟨RX6, "year", "()I"⟩
abbrev cX6_run : ByteArray := prog_1_method_12_code
def yX6_run : MethodName := ⟨RX6, "run", "(II)I"⟩
abbrev cX6_takes : ByteArray := prog_1_method_13_code
def yX6_takes : MethodName := ⟨RX6, "takes", "(I)I"⟩
abbrev cX6_strict : ByteArray := prog_1_method_14_code
def yX6_strict : MethodName := ⟨RX6, "strict", "(II)I"⟩
abbrev cX6_outOfTurn : ByteArray := prog_1_method_15_code
def yX6_outOfTurn : MethodName := ⟨RX6, "outOfTurn", "(III)I"⟩
abbrev cX6_drain : ByteArray := prog_1_method_16_code
def yX6_drain : MethodName := ⟨RX6, "drain", "(II)I"⟩
abbrev cX6_strike : ByteArray := prog_1_method_17_code
def yX6_strike : MethodName := ⟨RX6, "strike", "(II)I"⟩
abbrev cX6_change : ByteArray := prog_1_method_18_code
def yX6_change : MethodName := ⟨RX6, "change", "(II)I"⟩
abbrev cX6_tells : ByteArray := prog_1_method_19_code
def yX6_tells : MethodName := ⟨RX6, "tells", "(III)I"⟩
abbrev cX6_film : ByteArray := prog_1_method_20_code
def yX6_film : MethodName := ⟨RX6, "film", "(III)I"⟩
abbrev cX6_drawn : ByteArray := prog_1_method_21_code
def yX6_drawn : MethodName := ⟨RX6, "drawn", "(II)I"⟩
abbrev cX6_chance : ByteArray := prog_1_method_22_code
def yX6_chance : MethodName := ⟨RX6, "chance", "(IIII)J"⟩
abbrev cX6_image : ByteArray := prog_1_method_23_code
def yX6_image : MethodName := ⟨RX6, "image", "()I"⟩
abbrev cX6_back : ByteArray := prog_1_method_24_code
def yX6_back : MethodName := ⟨RX6, "back", "()I"⟩
abbrev cX6_count : ByteArray := prog_1_method_25_code
def yX6_count : MethodName := ⟨RX6, "count", "(I)I"⟩
abbrev cX6_sheet : ByteArray := prog_1_method_26_code
def yX6_sheet : MethodName := ⟨RX6, "sheet", "(III)I"⟩
abbrev cX6_cell : ByteArray := prog_1_method_27_code
def yX6_cell : MethodName := ⟨RX6, "cell", "(III)I"⟩
abbrev cX6_copy : ByteArray := prog_1_method_28_code
def yX6_copy : MethodName := ⟨RX6, "copy", "(IIIII)I"⟩
abbrev cX6_tenants : ByteArray := prog_1_method_29_code
def yX6_tenants : MethodName := ⟨RX6, "tenants", "(IIII)I"⟩
abbrev cX6_taken : ByteArray := prog_1_method_30_code
def yX6_taken : MethodName := ⟨RX6, "taken", "(II)I"⟩
abbrev cX6_isWithin : ByteArray := prog_1_method_31_code
def yX6_isWithin : MethodName := ⟨RX6, "isWithin", "(III)Z"⟩
abbrev cX6_isStrip : ByteArray := prog_1_method_32_code
def yX6_isStrip : MethodName := ⟨RX6, "isStrip", "(I)Z"⟩
abbrev cX6_isSheet : ByteArray := prog_1_method_33_code
def yX6_isSheet : MethodName := ⟨RX6, "isSheet", "(I)Z"⟩
abbrev cX6_isSpan : ByteArray := prog_1_method_34_code
def yX6_isSpan : MethodName := ⟨RX6, "isSpan", "(I)Z"⟩
abbrev cX6_isFoundOrWell : ByteArray := prog_1_method_35_code
def yX6_isFoundOrWell : MethodName := ⟨RX6, "isFoundOrWell", "(I)Z"⟩
abbrev cX6_mayBe : ByteArray := prog_1_method_36_code
def yX6_mayBe : MethodName := ⟨RX6, "mayBe", "(II)Z"⟩
abbrev cX6_isKnown : ByteArray := prog_1_method_37_code
def yX6_isKnown : MethodName := ⟨RX6, "isKnown", "(II)Z"⟩
abbrev cX6_valueOf : ByteArray := prog_1_method_38_code
def yX6_valueOf : MethodName := ⟨RX6, "valueOf", "(II)I"⟩
abbrev cX6_mayRunTell : ByteArray := prog_1_method_39_code
def yX6_mayRunTell : MethodName := ⟨RX6, "mayRunTell", "(I)Z"⟩
abbrev cX6_ranTo : ByteArray := prog_1_method_40_code
def yX6_ranTo : MethodName := ⟨RX6, "ranTo", "(II)I"⟩
abbrev cX6_isOfKind : ByteArray := prog_1_method_41_code
def yX6_isOfKind : MethodName := ⟨RX6, "isOfKind", "(II)Z"⟩
abbrev cX6_wellAsNow : ByteArray := prog_1_method_42_code
def yX6_wellAsNow : MethodName := ⟨RX6, "wellAsNow", "(I)I"⟩
abbrev cX6_wellDrawn : ByteArray := prog_1_method_43_code
def yX6_wellDrawn : MethodName := ⟨RX6, "wellDrawn", "(II)I"⟩
abbrev cX6_sharedDivisor : ByteArray := prog_1_method_44_code
def yX6_sharedDivisor : MethodName := ⟨RX6, "sharedDivisor", "(II)I"⟩
abbrev cX6_firstOtherwise : ByteArray := prog_1_method_45_code
def yX6_firstOtherwise : MethodName := ⟨RX6, "firstOtherwise", "(II)I"⟩
abbrev cX6_suppositions : ByteArray := prog_1_method_46_code
def yX6_suppositions : MethodName := ⟨RX6, "suppositions", "(II)I"⟩
abbrev cX6_suppose : ByteArray := prog_1_method_47_code
def yX6_suppose : MethodName := ⟨RX6, "suppose", "(IIII)V"⟩
abbrev cX6_whatFits : ByteArray := prog_1_method_48_code
def yX6_whatFits : MethodName := ⟨RX6, "whatFits", "(III)I"⟩
def RX7 : String := "FourYearsForAStripModel"
def TX7 : u_T := fun k => match k with
  | 0 => ("FourYearsForAStripModel", "thrown", "I", false)
  | 1 => ("FourYearsForAStripModel", "texts", "[I", true)
  | 2 => ("FourYearsForAStripModel", "textSize", "[I", true)
  | 3 => ("FourYearsForAStripModel", "textCount", "I", false)
  | 4 => ("FourYearsForAStripModel", "rule", "I", false)
  | 5 => ("FourYearsForAStripModel", "tape", "[I", true)
  | 6 => ("FourYearsForAStripModel", "taped", "I", false)
  | 7 => ("FourYearsForAStripModel", "yearNow", "I", false)
  | 8 => ("FourYearsForAStripModel", "limit", "I", false)
  | 9 => ("FourYearsForAStripModel", "letters", "I", false)
  | 10 => ("FourYearsForAStripModel", "wet", "[I", true)
  | 11 => ("FourYearsForAStripModel", "kinds", "[I", true)
  | 12 => ("FourYearsForAStripModel", "numbers", "[I", true)
  | 13 => ("FourYearsForAStripModel", "cells", "[I", true)
  | 14 => ("FourYearsForAStripModel", "many", "I", false)
  | 15 => ("FourYearsForAStripModel", "ofNumber", "I", false)
  | 16 => ("FourYearsForAStripModel", "ofYear", "I", false)
  | 17 => ("FourYearsForAStripModel", "ofLevel", "I", false)
  | 18 => ("FourYearsForAStripModel", "ofHeld", "I", false)
  | 19 => ("FourYearsForAStripModel", "ofStrip", "I", false)
  | 20 => ("FourYearsForAStripModel", "ofWarned", "I", false)
  | 21 => ("FourYearsForAStripModel", "from", "I", false)
  | 22 => ("FourYearsForAStripModel", "size", "I", false)
  | 23 => ("FourYearsForAStripModel", "here", "I", false)
  | 24 => ("FourYearsForAStripModel", "token", "I", false)
  | 25 => ("FourYearsForAStripModel", "tokenAt", "I", false)
  | 26 => ("FourYearsForAStripModel", "tokenWorth", "J", false)
  | 27 => ("FourYearsForAStripModel", "open", "I", false)
  | 28 => ("FourYearsForAStripModel", "bad", "Z", false)
  | 29 => ("FourYearsForAStripModel", "fault", "I", false)
  | 30 => ("FourYearsForAStripModel", "cellsWas", "[I", true)
  | 31 => ("FourYearsForAStripModel", "yearWas", "I", false)
  | 32 => ("FourYearsForAStripModel", "found", "I", false)
  | 33 => ("FourYearsForAStripModel", "most", "I", false)
  | 34 => ("FourYearsForAStripModel", "cellsAside", "[I", true)
  | 35 => ("FourYearsForAStripModel", "cellsKept", "[I", true)
  | 36 => ("FourYearsForAStripModel", "wetKept", "[I", true)
  | 37 => ("FourYearsForAStripModel", "numbersKept", "[I", true)
  | 38 => ("FourYearsForAStripModel", "manyKept", "I", false)
  | 39 => ("FourYearsForAStripModel", "yearKept", "I", false)
  | 40 => ("FourYearsForAStripModel", "limitKept", "I", false)
  | 41 => ("FourYearsForAStripModel", "lettersKept", "I", false)
  | 42 => ("FourYearsForAStripModel", "ruleKept", "I", false)
  | 43 => ("FourYearsForAStripModel", "isThere", "[Z", true)
  | 44 => ("FourYearsForAStripModel", "sorts", "[I", true)
  | 45 => ("FourYearsForAStripModel", "sheetSize", "[I", true)
  | _ => ("FourYearsForAStripModel", "items", "[I", true)
def tyX7 : Nat → FieldType := fun k => match k with
  | 0 => .int
  | 1 => .array .int
  | 2 => .array .int
  | 3 => .int
  | 4 => .int
  | 5 => .array .int
  | 6 => .int
  | 7 => .int
  | 8 => .int
  | 9 => .int
  | 10 => .array .int
  | 11 => .array .int
  | 12 => .array .int
  | 13 => .array .int
  | 14 => .int
  | 15 => .int
  | 16 => .int
  | 17 => .int
  | 18 => .int
  | 19 => .int
  | 20 => .int
  | 21 => .int
  | 22 => .int
  | 23 => .int
  | 24 => .int
  | 25 => .int
  | 26 => .long
  | 27 => .int
  | 28 => .boolean
  | 29 => .int
  | 30 => .array .int
  | 31 => .int
  | 32 => .int
  | 33 => .int
  | 34 => .array .int
  | 35 => .array .int
  | 36 => .array .int
  | 37 => .array .int
  | 38 => .int
  | 39 => .int
  | 40 => .int
  | 41 => .int
  | 42 => .int
  | 43 => .array .boolean
  | 44 => .array .int
  | 45 => .array .int
  | _ => .array .int
abbrev wsX70 : List Cond := u_ws RX7 TX7 47
theorem nmX7 : ∀ a, a < 47 → ∀ b, b < 47 → a ≠ b → (TX7 a).2.1 ≠ (TX7 b).2.1 := by decide +kernel
theorem tyX7_ok : ∀ k, k < 47 → parseFieldDescriptor (TX7 k).2.2.1 = some (tyX7 k) := by decide +kernel
abbrev cX7_in : ByteArray := prog_9_method_2_code
def yX7_in : MethodName := ⟨RX7, "in", "(JJJ)Z"⟩
abbrev cX7_within : ByteArray := prog_9_method_3_code
def yX7_within : MethodName := ⟨RX7, "within", "(III)I"⟩
abbrev cX7_init : ByteArray := prog_9_method_4_code
def yX7_init : MethodName := ⟨RX7, "<init>", "()V"⟩
abbrev cX7_spell : ByteArray := prog_9_method_5_code
def yX7_spell : MethodName := ⟨RX7, "spell", "(IIIIIIIII)V"⟩
abbrev cX7_isOne : ByteArray := prog_9_method_6_code
def yX7_isOne : MethodName := ⟨RX7, "isOne", "(I)Z"⟩
abbrev cX7_isStrip : ByteArray := prog_9_method_7_code
def yX7_isStrip : MethodName := ⟨RX7, "isStrip", "(I)Z"⟩
abbrev cX7_at : ByteArray := prog_9_method_8_code
def yX7_at : MethodName := ⟨RX7, "at", "(II)I"⟩
abbrev cX7_stripOf : ByteArray := prog_9_method_9_code
def yX7_stripOf : MethodName := ⟨RX7, "stripOf", "(I)I"⟩
abbrev cX7_hasOne : ByteArray := prog_9_method_10_code
def yX7_hasOne : MethodName := ⟨RX7, "hasOne", "(I)Z"⟩
abbrev cX7_waits : ByteArray := prog_9_method_11_code
def yX7_waits : MethodName := ⟨RX7, "waits", "(I)Z"⟩
abbrev cX7_isOf : ByteArray := prog_9_method_12_code
def yX7_isOf : MethodName := ⟨RX7, "isOf", "(II)Z"⟩
abbrev cX7_mostOf : ByteArray := prog_9_method_13_code
def yX7_mostOf : MethodName := ⟨RX7, "mostOf", "(I)I"⟩
abbrev cX7_set : ByteArray := prog_9_method_14_code
def yX7_set : MethodName := ⟨RX7, "set", "(III)I"⟩
abbrev cX7_lays : ByteArray := prog_9_method_15_code
def yX7_lays : MethodName := ⟨RX7, "lays", "(III)V"⟩
abbrev cX7_tenant : ByteArray := prog_9_method_16_code
def yX7_tenant : MethodName := ⟨RX7, "tenant", "(II)I"⟩
abbrev cX7_puts : ByteArray := prog_9_method_17_code
def yX7_puts : MethodName := ⟨RX7, "puts", "(II)V"⟩
abbrev cX7_told : ByteArray := prog_9_method_18_code
def yX7_told : MethodName := ⟨RX7, "told", "(II)I"⟩
abbrev cX7_whose : ByteArray := prog_9_method_19_code
def yX7_whose : MethodName := ⟨RX7, "whose", "(I)I"⟩
abbrev cX7_feed : ByteArray := prog_9_method_20_code
def yX7_feed : MethodName := ⟨RX7, "feed", "(I)I"⟩
abbrev cX7_byteAt : ByteArray := prog_9_method_21_code
def yX7_byteAt : MethodName := ⟨RX7, "byteAt", "(I)I"⟩
abbrev cX7_next : ByteArray := prog_9_method_22_code
def yX7_next : MethodName := ⟨RX7, "next", "()V"⟩
abbrev cX7_fail : ByteArray := prog_9_method_23_code
def yX7_fail : MethodName := ⟨RX7, "fail", "()V"⟩
abbrev cX7_isLetter : ByteArray := prog_9_method_24_code
def yX7_isLetter : MethodName := ⟨RX7, "isLetter", "(II)Z"⟩
abbrev cX7_isWord : ByteArray := prog_9_method_25_code
def yX7_isWord : MethodName := ⟨RX7, "isWord", "(IIIIIIII)Z"⟩
abbrev cX7_isSign : ByteArray := prog_9_method_26_code
def yX7_isSign : MethodName := ⟨RX7, "isSign", "(I)Z"⟩
abbrev cX7_opens : ByteArray := prog_9_method_27_code
def yX7_opens : MethodName := ⟨RX7, "opens", "()Z"⟩
abbrev cX7_name : ByteArray := prog_9_method_28_code
def yX7_name : MethodName := ⟨RX7, "name", "()I"⟩
abbrev cX7_atom5 : ByteArray := prog_9_method_29_code
def yX7_atom5 : MethodName := ⟨RX7, "atom5", "()I"⟩
abbrev cX7_term5 : ByteArray := prog_9_method_30_code
def yX7_term5 : MethodName := ⟨RX7, "term5", "()I"⟩
abbrev cX7_added5 : ByteArray := prog_9_method_31_code
def yX7_added5 : MethodName := ⟨RX7, "added5", "()I"⟩
abbrev cX7_not5 : ByteArray := prog_9_method_32_code
def yX7_not5 : MethodName := ⟨RX7, "not5", "()I"⟩
abbrev cX7_both5 : ByteArray := prog_9_method_33_code
def yX7_both5 : MethodName := ⟨RX7, "both5", "()I"⟩
abbrev cX7_either5 : ByteArray := prog_9_method_34_code
def yX7_either5 : MethodName := ⟨RX7, "either5", "()I"⟩
abbrev cX7_atom4 : ByteArray := prog_9_method_35_code
def yX7_atom4 : MethodName := ⟨RX7, "atom4", "()I"⟩
abbrev cX7_term4 : ByteArray := prog_9_method_36_code
def yX7_term4 : MethodName := ⟨RX7, "term4", "()I"⟩
abbrev cX7_added4 : ByteArray := prog_9_method_37_code
def yX7_added4 : MethodName := ⟨RX7, "added4", "()I"⟩
abbrev cX7_not4 : ByteArray := prog_9_method_38_code
def yX7_not4 : MethodName := ⟨RX7, "not4", "()I"⟩
abbrev cX7_both4 : ByteArray := prog_9_method_39_code
def yX7_both4 : MethodName := ⟨RX7, "both4", "()I"⟩
abbrev cX7_either4 : ByteArray := prog_9_method_40_code
def yX7_either4 : MethodName := ⟨RX7, "either4", "()I"⟩
abbrev cX7_atom3 : ByteArray := prog_9_method_41_code
def yX7_atom3 : MethodName := ⟨RX7, "atom3", "()I"⟩
abbrev cX7_term3 : ByteArray := prog_9_method_42_code
def yX7_term3 : MethodName := ⟨RX7, "term3", "()I"⟩
abbrev cX7_added3 : ByteArray := prog_9_method_43_code
def yX7_added3 : MethodName := ⟨RX7, "added3", "()I"⟩
abbrev cX7_not3 : ByteArray := prog_9_method_44_code
def yX7_not3 : MethodName := ⟨RX7, "not3", "()I"⟩
abbrev cX7_both3 : ByteArray := prog_9_method_45_code
def yX7_both3 : MethodName := ⟨RX7, "both3", "()I"⟩
abbrev cX7_either3 : ByteArray := prog_9_method_46_code
def yX7_either3 : MethodName := ⟨RX7, "either3", "()I"⟩
abbrev cX7_atom2 : ByteArray := prog_9_method_47_code
def yX7_atom2 : MethodName := ⟨RX7, "atom2", "()I"⟩
abbrev cX7_term2 : ByteArray := prog_9_method_48_code
def yX7_term2 : MethodName := ⟨RX7, "term2", "()I"⟩
abbrev cX7_added2 : ByteArray := prog_9_method_49_code
def yX7_added2 : MethodName := ⟨RX7, "added2", "()I"⟩
abbrev cX7_not2 : ByteArray := prog_9_method_50_code
def yX7_not2 : MethodName := ⟨RX7, "not2", "()I"⟩
abbrev cX7_both2 : ByteArray := prog_9_method_51_code
def yX7_both2 : MethodName := ⟨RX7, "both2", "()I"⟩
abbrev cX7_either2 : ByteArray := prog_9_method_52_code
def yX7_either2 : MethodName := ⟨RX7, "either2", "()I"⟩
abbrev cX7_atom1 : ByteArray := prog_9_method_53_code
def yX7_atom1 : MethodName := ⟨RX7, "atom1", "()I"⟩
abbrev cX7_term1 : ByteArray := prog_9_method_54_code
def yX7_term1 : MethodName := ⟨RX7, "term1", "()I"⟩
abbrev cX7_added1 : ByteArray := prog_9_method_55_code
def yX7_added1 : MethodName := ⟨RX7, "added1", "()I"⟩
abbrev cX7_not1 : ByteArray := prog_9_method_56_code
def yX7_not1 : MethodName := ⟨RX7, "not1", "()I"⟩
abbrev cX7_both1 : ByteArray := prog_9_method_57_code
def yX7_both1 : MethodName := ⟨RX7, "both1", "()I"⟩
abbrev cX7_either1 : ByteArray := prog_9_method_58_code
def yX7_either1 : MethodName := ⟨RX7, "either1", "()I"⟩
abbrev cX7_atom0 : ByteArray := prog_9_method_59_code
def yX7_atom0 : MethodName := ⟨RX7, "atom0", "()I"⟩
abbrev cX7_term0 : ByteArray := prog_9_method_60_code
def yX7_term0 : MethodName := ⟨RX7, "term0", "()I"⟩
abbrev cX7_added0 : ByteArray := prog_9_method_61_code
def yX7_added0 : MethodName := ⟨RX7, "added0", "()I"⟩
abbrev cX7_not0 : ByteArray := prog_9_method_62_code
def yX7_not0 : MethodName := ⟨RX7, "not0", "()I"⟩
abbrev cX7_both0 : ByteArray := prog_9_method_63_code
def yX7_both0 : MethodName := ⟨RX7, "both0", "()I"⟩
abbrev cX7_either0 : ByteArray := prog_9_method_64_code
def yX7_either0 : MethodName := ⟨RX7, "either0", "()I"⟩
abbrev cX7_part : ByteArray := prog_9_method_65_code
def yX7_part : MethodName := ⟨RX7, "part", "(Z)I"⟩
abbrev cX7_read : ByteArray := prog_9_method_66_code
def yX7_read : MethodName := ⟨RX7, "read", "(II)I"⟩
abbrev cX7_text : ByteArray := prog_9_method_67_code
def yX7_text : MethodName := ⟨RX7, "text", "()I"⟩
abbrev cX7_force : ByteArray := prog_9_method_68_code
def yX7_force : MethodName := ⟨RX7, "force", "(I)I"⟩
abbrev cX7_says : ByteArray := prog_9_method_69_code
def yX7_says : MethodName := ⟨RX7, "says", "(III)I"⟩
abbrev cX7_tendsOf : ByteArray := prog_9_method_70_code
def yX7_tendsOf : MethodName := ⟨RX7, "tendsOf", "(I)I"⟩
abbrev cX7_stays : ByteArray := prog_9_method_71_code
def yX7_stays : MethodName := ⟨RX7, "stays", "(I)Z"⟩
abbrev cX7_bears : ByteArray := prog_9_method_72_code
def yX7_bears : MethodName := ⟨RX7, "bears", "(I)Z"⟩
abbrev cX7_give : ByteArray := prog_9_method_73_code
def yX7_give : MethodName := ⟨RX7, "give", "(II)I"⟩
abbrev cX7_strikeOff : ByteArray := prog_9_method_74_code
def yX7_strikeOff : MethodName := ⟨RX7, "strikeOff", "(I)I"⟩
abbrev cX7_firstBut : ByteArray := prog_9_method_75_code
def yX7_firstBut : MethodName := ⟨RX7, "firstBut", "(I)I"⟩
abbrev cX7_list : ByteArray := prog_9_method_76_code
def yX7_list : MethodName := ⟨RX7, "list", "(I)I"⟩
abbrev cX7_tends : ByteArray := prog_9_method_77_code
def yX7_tends : MethodName := ⟨RX7, "tends", "(I)V"⟩
abbrev cX7_judges : ByteArray := prog_9_method_78_code
def yX7_judges : MethodName := ⟨RX7, "judges", "(I)V"⟩
abbrev cX7_gives : ByteArray := prog_9_method_79_code
def yX7_gives : MethodName := ⟨RX7, "gives", "(I)V"⟩
abbrev cX7_lives : ByteArray := prog_9_method_80_code
def yX7_lives : MethodName := ⟨RX7, "lives", "()V"⟩
abbrev cX7_howMany : ByteArray := prog_9_method_81_code
def yX7_howMany : MethodName := ⟨RX7, "howMany", "(I)I"⟩
abbrev cX7_year : ByteArray := prog_9_method_82_code
def yX7_year : MethodName := ⟨RX7, "year", "()I"⟩
abbrev cX7_laysAside : ByteArray := prog_9_method_83_code
def yX7_laysAside : MethodName := ⟨RX7, "laysAside", "()V"⟩
abbrev cX7_laysBack : ByteArray := prog_9_method_84_code
def yX7_laysBack : MethodName := ⟨RX7, "laysBack", "()V"⟩
abbrev cX7_well : ByteArray := prog_9_method_85_code
def yX7_well : MethodName := ⟨RX7, "well", "()I"⟩
abbrev cX7_tellsOf : ByteArray := prog_9_method_86_code
def yX7_tellsOf : MethodName := ⟨RX7, "tellsOf", "(I)I"⟩
abbrev cX7_run : ByteArray := prog_9_method_87_code
def yX7_run : MethodName := ⟨RX7, "run", "(II)I"⟩
abbrev cX7_takes : ByteArray := prog_9_method_88_code
def yX7_takes : MethodName := ⟨RX7, "takes", "(I)I"⟩
abbrev cX7_wellBehind : ByteArray := prog_9_method_89_code
def yX7_wellBehind : MethodName := ⟨RX7, "wellBehind", "(I)I"⟩
abbrev cX7_looksAt : ByteArray := prog_9_method_90_code
def yX7_looksAt : MethodName := ⟨RX7, "looksAt", "(II)V"⟩
abbrev cX7_strict : ByteArray := prog_9_method_91_code
def yX7_strict : MethodName := ⟨RX7, "strict", "(II)I"⟩
abbrev cX7_keeps : ByteArray := prog_9_method_92_code
def yX7_keeps : MethodName := ⟨RX7, "keeps", "()V"⟩
abbrev cX7_takesBack : ByteArray := prog_9_method_93_code
def yX7_takesBack : MethodName := ⟨RX7, "takesBack", "()V"⟩
abbrev cX7_outOfTurn : ByteArray := prog_9_method_94_code
def yX7_outOfTurn : MethodName := ⟨RX7, "outOfTurn", "(III)I"⟩
abbrev cX7_drain : ByteArray := prog_9_method_95_code
def yX7_drain : MethodName := ⟨RX7, "drain", "(II)I"⟩
abbrev cX7_strike : ByteArray := prog_9_method_96_code
def yX7_strike : MethodName := ⟨RX7, "strike", "(II)I"⟩
abbrev cX7_change : ByteArray := prog_9_method_97_code
def yX7_change : MethodName := ⟨RX7, "change", "(II)I"⟩
abbrev cX7_firstOther : ByteArray := prog_9_method_98_code
def yX7_firstOther : MethodName := ⟨RX7, "firstOther", "(II)I"⟩
abbrev cX7_tells : ByteArray := prog_9_method_99_code
def yX7_tells : MethodName := ⟨RX7, "tells", "(III)I"⟩
abbrev cX7_film : ByteArray := prog_9_method_100_code
def yX7_film : MethodName := ⟨RX7, "film", "(III)I"⟩
abbrev cX7_wellBy : ByteArray := prog_9_method_101_code
def yX7_wellBy : MethodName := ⟨RX7, "wellBy", "(II)I"⟩
abbrev cX7_drawn : ByteArray := prog_9_method_102_code
def yX7_drawn : MethodName := ⟨RX7, "drawn", "(II)I"⟩
abbrev cX7_chance : ByteArray := prog_9_method_103_code
def yX7_chance : MethodName := ⟨RX7, "chance", "(IIII)J"⟩
abbrev cX7_image : ByteArray := prog_9_method_104_code
def yX7_image : MethodName := ⟨RX7, "image", "()I"⟩
abbrev cX7_back : ByteArray := prog_9_method_105_code
def yX7_back : MethodName := ⟨RX7, "back", "()I"⟩
abbrev cX7_count : ByteArray := prog_9_method_106_code
def yX7_count : MethodName := ⟨RX7, "count", "(I)I"⟩
abbrev cX7_isSheet : ByteArray := prog_9_method_107_code
def yX7_isSheet : MethodName := ⟨RX7, "isSheet", "(I)Z"⟩
abbrev cX7_sheet : ByteArray := prog_9_method_108_code
def yX7_sheet : MethodName := ⟨RX7, "sheet", "(III)I"⟩
abbrev cX7_cell : ByteArray := prog_9_method_109_code
def yX7_cell : MethodName := ⟨RX7, "cell", "(III)I"⟩
abbrev cX7_copy : ByteArray := prog_9_method_110_code
def yX7_copy : MethodName := ⟨RX7, "copy", "(IIIII)I"⟩
abbrev cX7_tenants : ByteArray := prog_9_method_111_code
def yX7_tenants : MethodName := ⟨RX7, "tenants", "(IIII)I"⟩
abbrev cX7_over : ByteArray := prog_9_method_112_code
def yX7_over : MethodName := ⟨RX7, "over", "(I)I"⟩
abbrev cX7_taken : ByteArray := prog_9_method_113_code
def yX7_taken : MethodName := ⟨RX7, "taken", "(II)I"⟩
def RJx145de : String := "java/io/Serializable"
def TJx145de : u_T := fun k => match k with
  | _ => ("", "", "", false)
def tyJx145de : Nat → FieldType := fun k => match k with
  | _ => .int
abbrev wsJx145de0 : List Cond := u_ws RJx145de TJx145de 0
theorem nmJx145de : ∀ a, a < 0 → ∀ b, b < 0 → a ≠ b → (TJx145de a).2.1 ≠ (TJx145de b).2.1 := by decide +kernel
theorem tyJx145de_ok : ∀ k, k < 0 → parseFieldDescriptor (TJx145de k).2.2.1 = some (tyJx145de k) := by decide +kernel
def RJx9f9b0 : String := "java/lang/CharSequence"
def TJx9f9b0 : u_T := fun k => match k with
  | _ => ("", "", "", false)
def tyJx9f9b0 : Nat → FieldType := fun k => match k with
  | _ => .int
abbrev wsJx9f9b00 : List Cond := u_ws RJx9f9b0 TJx9f9b0 0
theorem nmJx9f9b0 : ∀ a, a < 0 → ∀ b, b < 0 → a ≠ b → (TJx9f9b0 a).2.1 ≠ (TJx9f9b0 b).2.1 := by decide +kernel
theorem tyJx9f9b0_ok : ∀ k, k < 0 → parseFieldDescriptor (TJx9f9b0 k).2.2.1 = some (tyJx9f9b0 k) := by decide +kernel
def RJxb160c : String := "java/lang/Comparable"
def TJxb160c : u_T := fun k => match k with
  | _ => ("", "", "", false)
def tyJxb160c : Nat → FieldType := fun k => match k with
  | _ => .int
abbrev wsJxb160c0 : List Cond := u_ws RJxb160c TJxb160c 0
theorem nmJxb160c : ∀ a, a < 0 → ∀ b, b < 0 → a ≠ b → (TJxb160c a).2.1 ≠ (TJxb160c b).2.1 := by decide +kernel
theorem tyJxb160c_ok : ∀ k, k < 0 → parseFieldDescriptor (TJxb160c k).2.2.1 = some (tyJxb160c k) := by decide +kernel
def RJ9 : String := "java/lang/Math"
def TJ9 : u_T := fun k => match k with
  | _ => ("", "", "", false)
def tyJ9 : Nat → FieldType := fun k => match k with
  | _ => .int
abbrev wsJ90 : List Cond := u_ws RJ9 TJ9 0
theorem nmJ9 : ∀ a, a < 0 → ∀ b, b < 0 → a ≠ b → (TJ9 a).2.1 ≠ (TJ9 b).2.1 := by decide +kernel
theorem tyJ9_ok : ∀ k, k < 0 → parseFieldDescriptor (TJ9 k).2.2.1 = some (tyJ9 k) := by decide +kernel
abbrev cJ9_max_7cf53 : ByteArray := prog_10_method_65_code
def yJ9_max_7cf53 : MethodName := ⟨RJ9, "max", "(II)I"⟩
abbrev cJ9_min_7cf53 : ByteArray := prog_10_method_69_code
def yJ9_min_7cf53 : MethodName := ⟨RJ9, "min", "(II)I"⟩
def RJ0 : String := "java/lang/String"
def TJ0 : u_T := fun k => match k with
  | _ => ("", "", "", false)
def tyJ0 : Nat → FieldType := fun k => match k with
  | _ => .int
abbrev wsJ00 : List Cond := u_ws RJ0 TJ0 0
theorem nmJ0 : ∀ a, a < 0 → ∀ b, b < 0 → a ≠ b → (TJ0 a).2.1 ≠ (TJ0 b).2.1 := by decide +kernel
theorem tyJ0_ok : ∀ k, k < 0 → parseFieldDescriptor (TJ0 k).2.2.1 = some (tyJ0 k) := by decide +kernel
abbrev cJ0_length_8abf5 : ByteArray := prog_11_method_54_code
def yJ0_length_8abf5 : MethodName := ⟨RJ0, "length", "()I"⟩
abbrev cJ0_charAt_5068e : ByteArray := prog_11_method_56_code
def yJ0_charAt_5068e : MethodName := ⟨RJ0, "charAt", "(I)C"⟩
abbrev cJ0_coder_7d493 : ByteArray := prog_11_method_152_code
def yJ0_coder_7d493 : MethodName := ⟨RJ0, "coder", "()B"⟩
abbrev cJ0_isLatin1_aae02 : ByteArray := prog_11_method_154_code
def yJ0_isLatin1_aae02 : MethodName := ⟨RJ0, "isLatin1", "()Z"⟩
abbrev cJ0_checkIndex_df160 : ByteArray := prog_11_method_155_code
def yJ0_checkIndex_df160 : MethodName := ⟨RJ0, "checkIndex", "(II)V"⟩
def RJ1 : String := "java/lang/StringLatin1"
def TJ1 : u_T := fun k => match k with
  | _ => ("", "", "", false)
def tyJ1 : Nat → FieldType := fun k => match k with
  | _ => .int
abbrev wsJ10 : List Cond := u_ws RJ1 TJ1 0
theorem nmJ1 : ∀ a, a < 0 → ∀ b, b < 0 → a ≠ b → (TJ1 a).2.1 ≠ (TJ1 b).2.1 := by decide +kernel
theorem tyJ1_ok : ∀ k, k < 0 → parseFieldDescriptor (TJ1 k).2.2.1 = some (tyJ1 k) := by decide +kernel
abbrev cJ1_charAt_3b067 : ByteArray := prog_12_method_2_code
def yJ1_charAt_3b067 : MethodName := ⟨RJ1, "charAt", "([BI)C"⟩
def RJ2 : String := "java/lang/StringUTF16"
def TJ2 : u_T := fun k => match k with
  | _ => ("", "", "", false)
def tyJ2 : Nat → FieldType := fun k => match k with
  | _ => .int
abbrev wsJ20 : List Cond := u_ws RJ2 TJ2 0
theorem nmJ2 : ∀ a, a < 0 → ∀ b, b < 0 → a ≠ b → (TJ2 a).2.1 ≠ (TJ2 b).2.1 := by decide +kernel
theorem tyJ2_ok : ∀ k, k < 0 → parseFieldDescriptor (TJ2 k).2.2.1 = some (tyJ2 k) := by decide +kernel
abbrev cJ2_getChar_3b067 : ByteArray := prog_13_method_5_code
def yJ2_getChar_3b067 : MethodName := ⟨RJ2, "getChar", "([BI)C"⟩
abbrev cJ2_length_9d52b : ByteArray := prog_13_method_6_code
def yJ2_length_9d52b : MethodName := ⟨RJ2, "length", "([B)I"⟩
abbrev cJ2_charAt_3b067 : ByteArray := prog_13_method_83_code
def yJ2_charAt_3b067 : MethodName := ⟨RJ2, "charAt", "([BI)C"⟩
abbrev cJ2_checkIndex_2214a : ByteArray := prog_13_method_91_code
def yJ2_checkIndex_2214a : MethodName := ⟨RJ2, "checkIndex", "(I[B)V"⟩
def RJ10 : String := "java/lang/System"
def TJ10 : u_T := fun k => match k with
  | _ => ("", "", "", false)
def tyJ10 : Nat → FieldType := fun k => match k with
  | _ => .int
abbrev wsJ100 : List Cond := u_ws RJ10 TJ10 0
theorem nmJ10 : ∀ a, a < 0 → ∀ b, b < 0 → a ≠ b → (TJ10 a).2.1 ≠ (TJ10 b).2.1 := by decide +kernel
theorem tyJ10_ok : ∀ k, k < 0 → parseFieldDescriptor (TJ10 k).2.2.1 = some (tyJ10 k) := by decide +kernel
def RJxfd54e : String := "java/lang/constant/Constable"
def TJxfd54e : u_T := fun k => match k with
  | _ => ("", "", "", false)
def tyJxfd54e : Nat → FieldType := fun k => match k with
  | _ => .int
abbrev wsJxfd54e0 : List Cond := u_ws RJxfd54e TJxfd54e 0
theorem nmJxfd54e : ∀ a, a < 0 → ∀ b, b < 0 → a ≠ b → (TJxfd54e a).2.1 ≠ (TJxfd54e b).2.1 := by decide +kernel
theorem tyJxfd54e_ok : ∀ k, k < 0 → parseFieldDescriptor (TJxfd54e k).2.2.1 = some (tyJxfd54e k) := by decide +kernel
def RJx3cf43 : String := "java/lang/constant/ConstantDesc"
def TJx3cf43 : u_T := fun k => match k with
  | _ => ("", "", "", false)
def tyJx3cf43 : Nat → FieldType := fun k => match k with
  | _ => .int
abbrev wsJx3cf430 : List Cond := u_ws RJx3cf43 TJx3cf43 0
theorem nmJx3cf43 : ∀ a, a < 0 → ∀ b, b < 0 → a ≠ b → (TJx3cf43 a).2.1 ≠ (TJx3cf43 b).2.1 := by decide +kernel
theorem tyJx3cf43_ok : ∀ k, k < 0 → parseFieldDescriptor (TJx3cf43 k).2.2.1 = some (tyJx3cf43 k) := by decide +kernel
def RJ7 : String := "java/util/Arrays"
def TJ7 : u_T := fun k => match k with
  | _ => ("", "", "", false)
def tyJ7 : Nat → FieldType := fun k => match k with
  | _ => .int
abbrev wsJ70 : List Cond := u_ws RJ7 TJ7 0
theorem nmJ7 : ∀ a, a < 0 → ∀ b, b < 0 → a ≠ b → (TJ7 a).2.1 ≠ (TJ7 b).2.1 := by decide +kernel
theorem tyJ7_ok : ∀ k, k < 0 → parseFieldDescriptor (TJ7 k).2.2.1 = some (tyJ7 k) := by decide +kernel
abbrev cJ7_fill_53178 : ByteArray := prog_15_method_103_code
def yJ7_fill_53178 : MethodName := ⟨RJ7, "fill", "([II)V"⟩
def RJ3 : String := "jdk/internal/util/Preconditions"
def TJ3 : u_T := fun k => match k with
  | _ => ("", "", "", false)
def tyJ3 : Nat → FieldType := fun k => match k with
  | _ => .int
abbrev wsJ30 : List Cond := u_ws RJ3 TJ3 0
theorem nmJ3 : ∀ a, a < 0 → ∀ b, b < 0 → a ≠ b → (TJ3 a).2.1 ≠ (TJ3 b).2.1 := by decide +kernel
theorem tyJ3_ok : ∀ k, k < 0 → parseFieldDescriptor (TJ3 k).2.2.1 = some (tyJ3 k) := by decide +kernel
abbrev cJ3_checkIndex_8e157 : ByteArray := prog_16_method_11_code
def yJ3_checkIndex_8e157 : MethodName := ⟨RJ3, "checkIndex", "(IILjava/util/function/BiFunction;)I"⟩
def RL : String := "FourYearsForAStripLaw"
abbrev cL_law : ByteArray := code
