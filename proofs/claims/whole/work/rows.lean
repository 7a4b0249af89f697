section
-- ===== PART A: goes FIRST, ahead of the names: the tables' words, and 'selects' of the private methods out of them =====
/-- a private method of a class that the tables say can be made, by its rows of tables_1 -/
def lw_okq (q : MethodName × Nat) : Prop := (q.1.cls ≠ "java/lang/invoke/MethodHandle" ∧ q.1.cls ≠ "java/lang/invoke/VarHandle") ∧ Cond.instantiable q.1.cls q.2 ∈ tables_1 ∧ Cond.privateMethod q.1 ∈ tables_1 ∧ Cond.instanceMethod q.1 ∈ tables_1
theorem lw_p0 : lw_okq (⟨"RationalOdes", "madeAt", "(I)J"⟩, 9) := ⟨⟨by decide +kernel, by decide +kernel⟩, List.mem_of_getElem? (i := 15) (by decide +kernel), List.mem_of_getElem? (i := 116) (by decide +kernel), List.mem_of_getElem? (i := 117) (by decide +kernel)⟩
theorem lw_p1 : lw_okq (⟨"RationalOdes", "share", "([[JII)J"⟩, 9) := ⟨⟨by decide +kernel, by decide +kernel⟩, List.mem_of_getElem? (i := 15) (by decide +kernel), List.mem_of_getElem? (i := 120) (by decide +kernel), List.mem_of_getElem? (i := 121) (by decide +kernel)⟩
theorem lw_p2 : lw_okq (⟨"RationalOdes", "knowBase", "()V"⟩, 9) := ⟨⟨by decide +kernel, by decide +kernel⟩, List.mem_of_getElem? (i := 15) (by decide +kernel), List.mem_of_getElem? (i := 132) (by decide +kernel), List.mem_of_getElem? (i := 133) (by decide +kernel)⟩
theorem lw_p3 : lw_okq (⟨"RationalOdes$Base", "reduceRows", "()V"⟩, 4) := ⟨⟨by decide +kernel, by decide +kernel⟩, List.mem_of_getElem? (i := 57) (by decide +kernel), List.mem_of_getElem? (i := 144) (by decide +kernel), List.mem_of_getElem? (i := 145) (by decide +kernel)⟩
theorem lw_p4 : lw_okq (⟨"RationalOdes$Base", "rowWith", "(II)I"⟩, 4) := ⟨⟨by decide +kernel, by decide +kernel⟩, List.mem_of_getElem? (i := 57) (by decide +kernel), List.mem_of_getElem? (i := 148) (by decide +kernel), List.mem_of_getElem? (i := 149) (by decide +kernel)⟩
theorem lw_p5 : lw_okq (⟨"RationalOdes$Base", "swap", "(II)V"⟩, 4) := ⟨⟨by decide +kernel, by decide +kernel⟩, List.mem_of_getElem? (i := 57) (by decide +kernel), List.mem_of_getElem? (i := 152) (by decide +kernel), List.mem_of_getElem? (i := 153) (by decide +kernel)⟩
theorem lw_p6 : lw_okq (⟨"RationalOdes$Base", "scaleRow", "(II)V"⟩, 4) := ⟨⟨by decide +kernel, by decide +kernel⟩, List.mem_of_getElem? (i := 57) (by decide +kernel), List.mem_of_getElem? (i := 156) (by decide +kernel), List.mem_of_getElem? (i := 157) (by decide +kernel)⟩
theorem lw_p7 : lw_okq (⟨"RationalOdes$Base", "clearColumn", "(II)V"⟩, 4) := ⟨⟨by decide +kernel, by decide +kernel⟩, List.mem_of_getElem? (i := 57) (by decide +kernel), List.mem_of_getElem? (i := 164) (by decide +kernel), List.mem_of_getElem? (i := 165) (by decide +kernel)⟩
theorem lw_p8 : lw_okq (⟨"RationalOdes$Base", "fillMember", "([JI)V"⟩, 4) := ⟨⟨by decide +kernel, by decide +kernel⟩, List.mem_of_getElem? (i := 57) (by decide +kernel), List.mem_of_getElem? (i := 169) (by decide +kernel), List.mem_of_getElem? (i := 170) (by decide +kernel)⟩
theorem lw_p9 : lw_okq (⟨"RationalOdes", "adjointAt", "(II)J"⟩, 9) := ⟨⟨by decide +kernel, by decide +kernel⟩, List.mem_of_getElem? (i := 15) (by decide +kernel), List.mem_of_getElem? (i := 188) (by decide +kernel), List.mem_of_getElem? (i := 189) (by decide +kernel)⟩
theorem lw_p10 : lw_okq (⟨"RationalOdes", "needFactorPower", "(II)V"⟩, 9) := ⟨⟨by decide +kernel, by decide +kernel⟩, List.mem_of_getElem? (i := 15) (by decide +kernel), List.mem_of_getElem? (i := 223) (by decide +kernel), List.mem_of_getElem? (i := 224) (by decide +kernel)⟩
theorem lw_p11 : lw_okq (⟨"java/lang/Throwable", "fillInStackTrace", "(I)Ljava/lang/Throwable;"⟩, 6) := ⟨⟨by decide +kernel, by decide +kernel⟩, List.mem_of_getElem? (i := 265) (by decide +kernel), List.mem_of_getElem? (i := 263) (by decide +kernel), List.mem_of_getElem? (i := 264) (by decide +kernel)⟩
theorem lw_p12 : lw_okq (⟨"RationalOdes", "needHandPower", "(I)V"⟩, 9) := ⟨⟨by decide +kernel, by decide +kernel⟩, List.mem_of_getElem? (i := 15) (by decide +kernel), List.mem_of_getElem? (i := 309) (by decide +kernel), List.mem_of_getElem? (i := 310) (by decide +kernel)⟩
theorem lw_p13 : lw_okq (⟨"RationalOdes", "findPlaces", "()V"⟩, 9) := ⟨⟨by decide +kernel, by decide +kernel⟩, List.mem_of_getElem? (i := 15) (by decide +kernel), List.mem_of_getElem? (i := 322) (by decide +kernel), List.mem_of_getElem? (i := 323) (by decide +kernel)⟩
theorem lw_p14 : lw_okq (⟨"RationalOdes$Roots", "keepRootsOnce", "()V"⟩, 8) := ⟨⟨by decide +kernel, by decide +kernel⟩, List.mem_of_getElem? (i := 25) (by decide +kernel), List.mem_of_getElem? (i := 362) (by decide +kernel), List.mem_of_getElem? (i := 363) (by decide +kernel)⟩
theorem lw_p15 : lw_okq (⟨"RationalOdes$Roots", "raise", "(JI[J)V"⟩, 8) := ⟨⟨by decide +kernel, by decide +kernel⟩, List.mem_of_getElem? (i := 25) (by decide +kernel), List.mem_of_getElem? (i := 366) (by decide +kernel), List.mem_of_getElem? (i := 367) (by decide +kernel)⟩
def lw_privs_1 : List (MethodName × Nat) := [(⟨"RationalOdes", "madeAt", "(I)J"⟩, 9), (⟨"RationalOdes", "share", "([[JII)J"⟩, 9), (⟨"RationalOdes", "knowBase", "()V"⟩, 9), (⟨"RationalOdes$Base", "reduceRows", "()V"⟩, 4), (⟨"RationalOdes$Base", "rowWith", "(II)I"⟩, 4), (⟨"RationalOdes$Base", "swap", "(II)V"⟩, 4), (⟨"RationalOdes$Base", "scaleRow", "(II)V"⟩, 4), (⟨"RationalOdes$Base", "clearColumn", "(II)V"⟩, 4), (⟨"RationalOdes$Base", "fillMember", "([JI)V"⟩, 4), (⟨"RationalOdes", "adjointAt", "(II)J"⟩, 9), (⟨"RationalOdes", "needFactorPower", "(II)V"⟩, 9), (⟨"java/lang/Throwable", "fillInStackTrace", "(I)Ljava/lang/Throwable;"⟩, 6), (⟨"RationalOdes", "needHandPower", "(I)V"⟩, 9), (⟨"RationalOdes", "findPlaces", "()V"⟩, 9), (⟨"RationalOdes$Roots", "keepRootsOnce", "()V"⟩, 8), (⟨"RationalOdes$Roots", "raise", "(JI[J)V"⟩, 8)]
theorem lw_r1 : ∀ q ∈ lw_privs_1, lw_okq q := List.forall_mem_cons.mpr ⟨lw_p0, List.forall_mem_cons.mpr ⟨lw_p1, List.forall_mem_cons.mpr ⟨lw_p2, List.forall_mem_cons.mpr ⟨lw_p3, List.forall_mem_cons.mpr ⟨lw_p4, List.forall_mem_cons.mpr ⟨lw_p5, List.forall_mem_cons.mpr ⟨lw_p6, List.forall_mem_cons.mpr ⟨lw_p7, List.forall_mem_cons.mpr ⟨lw_p8, List.forall_mem_cons.mpr ⟨lw_p9, List.forall_mem_cons.mpr ⟨lw_p10, List.forall_mem_cons.mpr ⟨lw_p11, List.forall_mem_cons.mpr ⟨lw_p12, List.forall_mem_cons.mpr ⟨lw_p13, List.forall_mem_cons.mpr ⟨lw_p14, List.forall_mem_cons.mpr ⟨lw_p15, fun _ h => absurd h List.not_mem_nil⟩⟩⟩⟩⟩⟩⟩⟩⟩⟩⟩⟩⟩⟩⟩⟩
theorem lw_p16 : lw_okq (⟨"RationalOdes$Roots", "squareRaised", "(I)V"⟩, 8) := ⟨⟨by decide +kernel, by decide +kernel⟩, List.mem_of_getElem? (i := 25) (by decide +kernel), List.mem_of_getElem? (i := 371) (by decide +kernel), List.mem_of_getElem? (i := 372) (by decide +kernel)⟩
theorem lw_p17 : lw_okq (⟨"RationalOdes$Roots", "timesLine", "(J)V"⟩, 8) := ⟨⟨by decide +kernel, by decide +kernel⟩, List.mem_of_getElem? (i := 25) (by decide +kernel), List.mem_of_getElem? (i := 375) (by decide +kernel), List.mem_of_getElem? (i := 376) (by decide +kernel)⟩
theorem lw_p18 : lw_okq (⟨"RationalOdes$Roots", "commonWithRaised", "([J)[J"⟩, 8) := ⟨⟨by decide +kernel, by decide +kernel⟩, List.mem_of_getElem? (i := 25) (by decide +kernel), List.mem_of_getElem? (i := 383) (by decide +kernel), List.mem_of_getElem? (i := 384) (by decide +kernel)⟩
theorem lw_p19 : lw_okq (⟨"RationalOdes$Roots", "oneRoot", "()J"⟩, 8) := ⟨⟨by decide +kernel, by decide +kernel⟩, List.mem_of_getElem? (i := 25) (by decide +kernel), List.mem_of_getElem? (i := 388) (by decide +kernel), List.mem_of_getElem? (i := 389) (by decide +kernel)⟩
theorem lw_p20 : lw_okq (⟨"RationalOdes$Roots", "insert", "(J)V"⟩, 8) := ⟨⟨by decide +kernel, by decide +kernel⟩, List.mem_of_getElem? (i := 25) (by decide +kernel), List.mem_of_getElem? (i := 392) (by decide +kernel), List.mem_of_getElem? (i := 393) (by decide +kernel)⟩
theorem lw_p21 : lw_okq (⟨"RationalOdes$Roots", "divideOut", "(J)V"⟩, 8) := ⟨⟨by decide +kernel, by decide +kernel⟩, List.mem_of_getElem? (i := 25) (by decide +kernel), List.mem_of_getElem? (i := 396) (by decide +kernel), List.mem_of_getElem? (i := 397) (by decide +kernel)⟩
theorem lw_p22 : lw_okq (⟨"RationalOdes", "goTo", "(ZJ)I"⟩, 9) := ⟨⟨by decide +kernel, by decide +kernel⟩, List.mem_of_getElem? (i := 15) (by decide +kernel), List.mem_of_getElem? (i := 423) (by decide +kernel), List.mem_of_getElem? (i := 424) (by decide +kernel)⟩
theorem lw_p23 : lw_okq (⟨"RationalOdes", "allZero", "()Z"⟩, 9) := ⟨⟨by decide +kernel, by decide +kernel⟩, List.mem_of_getElem? (i := 15) (by decide +kernel), List.mem_of_getElem? (i := 427) (by decide +kernel), List.mem_of_getElem? (i := 428) (by decide +kernel)⟩
theorem lw_p24 : lw_okq (⟨"RationalOdes", "shiftToOther", "(J)V"⟩, 9) := ⟨⟨by decide +kernel, by decide +kernel⟩, List.mem_of_getElem? (i := 15) (by decide +kernel), List.mem_of_getElem? (i := 432) (by decide +kernel), List.mem_of_getElem? (i := 433) (by decide +kernel)⟩
theorem lw_p25 : lw_okq (⟨"RationalOdes", "greatestGap", "()I"⟩, 9) := ⟨⟨by decide +kernel, by decide +kernel⟩, List.mem_of_getElem? (i := 15) (by decide +kernel), List.mem_of_getElem? (i := 436) (by decide +kernel), List.mem_of_getElem? (i := 437) (by decide +kernel)⟩
theorem lw_p26 : lw_okq (⟨"RationalOdes", "isGap", "(I)Z"⟩, 9) := ⟨⟨by decide +kernel, by decide +kernel⟩, List.mem_of_getElem? (i := 15) (by decide +kernel), List.mem_of_getElem? (i := 440) (by decide +kernel), List.mem_of_getElem? (i := 441) (by decide +kernel)⟩
theorem lw_p27 : lw_okq (⟨"RationalOdes", "otherAt", "(II)J"⟩, 9) := ⟨⟨by decide +kernel, by decide +kernel⟩, List.mem_of_getElem? (i := 15) (by decide +kernel), List.mem_of_getElem? (i := 444) (by decide +kernel), List.mem_of_getElem? (i := 445) (by decide +kernel)⟩
theorem lw_p28 : lw_okq (⟨"RationalOdes", "leastGap", "()I"⟩, 9) := ⟨⟨by decide +kernel, by decide +kernel⟩, List.mem_of_getElem? (i := 15) (by decide +kernel), List.mem_of_getElem? (i := 448) (by decide +kernel), List.mem_of_getElem? (i := 449) (by decide +kernel)⟩
theorem lw_p29 : lw_okq (⟨"RationalOdes", "fillIndicial", "(I)V"⟩, 9) := ⟨⟨by decide +kernel, by decide +kernel⟩, List.mem_of_getElem? (i := 15) (by decide +kernel), List.mem_of_getElem? (i := 466) (by decide +kernel), List.mem_of_getElem? (i := 467) (by decide +kernel)⟩
theorem lw_p30 : lw_okq (⟨"RationalOdes", "needMember", "(I)V"⟩, 9) := ⟨⟨by decide +kernel, by decide +kernel⟩, List.mem_of_getElem? (i := 15) (by decide +kernel), List.mem_of_getElem? (i := 479) (by decide +kernel), List.mem_of_getElem? (i := 480) (by decide +kernel)⟩
theorem lw_p31 : lw_okq (⟨"RationalOdes", "nextTerm", "(I)J"⟩, 9) := ⟨⟨by decide +kernel, by decide +kernel⟩, List.mem_of_getElem? (i := 15) (by decide +kernel), List.mem_of_getElem? (i := 520) (by decide +kernel), List.mem_of_getElem? (i := 521) (by decide +kernel)⟩
def lw_privs_2 : List (MethodName × Nat) := [(⟨"RationalOdes$Roots", "squareRaised", "(I)V"⟩, 8), (⟨"RationalOdes$Roots", "timesLine", "(J)V"⟩, 8), (⟨"RationalOdes$Roots", "commonWithRaised", "([J)[J"⟩, 8), (⟨"RationalOdes$Roots", "oneRoot", "()J"⟩, 8), (⟨"RationalOdes$Roots", "insert", "(J)V"⟩, 8), (⟨"RationalOdes$Roots", "divideOut", "(J)V"⟩, 8), (⟨"RationalOdes", "goTo", "(ZJ)I"⟩, 9), (⟨"RationalOdes", "allZero", "()Z"⟩, 9), (⟨"RationalOdes", "shiftToOther", "(J)V"⟩, 9), (⟨"RationalOdes", "greatestGap", "()I"⟩, 9), (⟨"RationalOdes", "isGap", "(I)Z"⟩, 9), (⟨"RationalOdes", "otherAt", "(II)J"⟩, 9), (⟨"RationalOdes", "leastGap", "()I"⟩, 9), (⟨"RationalOdes", "fillIndicial", "(I)V"⟩, 9), (⟨"RationalOdes", "needMember", "(I)V"⟩, 9), (⟨"RationalOdes", "nextTerm", "(I)J"⟩, 9)]
theorem lw_r2 : ∀ q ∈ lw_privs_2, lw_okq q := List.forall_mem_cons.mpr ⟨lw_p16, List.forall_mem_cons.mpr ⟨lw_p17, List.forall_mem_cons.mpr ⟨lw_p18, List.forall_mem_cons.mpr ⟨lw_p19, List.forall_mem_cons.mpr ⟨lw_p20, List.forall_mem_cons.mpr ⟨lw_p21, List.forall_mem_cons.mpr ⟨lw_p22, List.forall_mem_cons.mpr ⟨lw_p23, List.forall_mem_cons.mpr ⟨lw_p24, List.forall_mem_cons.mpr ⟨lw_p25, List.forall_mem_cons.mpr ⟨lw_p26, List.forall_mem_cons.mpr ⟨lw_p27, List.forall_mem_cons.mpr ⟨lw_p28, List.forall_mem_cons.mpr ⟨lw_p29, List.forall_mem_cons.mpr ⟨lw_p30, List.forall_mem_cons.mpr ⟨lw_p31, fun _ h => absurd h List.not_mem_nil⟩⟩⟩⟩⟩⟩⟩⟩⟩⟩⟩⟩⟩⟩⟩⟩
theorem lw_p32 : lw_okq (⟨"RationalOdesModel", "isThere", "(II)Z"⟩, 13) := ⟨⟨by decide +kernel, by decide +kernel⟩, List.mem_of_getElem? (i := 525) (by decide +kernel), List.mem_of_getElem? (i := 579) (by decide +kernel), List.mem_of_getElem? (i := 580) (by decide +kernel)⟩
theorem lw_p33 : lw_okq (⟨"RationalOdesModel", "moveTo", "(J)V"⟩, 13) := ⟨⟨by decide +kernel, by decide +kernel⟩, List.mem_of_getElem? (i := 525) (by decide +kernel), List.mem_of_getElem? (i := 603) (by decide +kernel), List.mem_of_getElem? (i := 604) (by decide +kernel)⟩
theorem lw_p34 : lw_okq (⟨"RationalOdesModel", "makeAll", "()V"⟩, 13) := ⟨⟨by decide +kernel, by decide +kernel⟩, List.mem_of_getElem? (i := 525) (by decide +kernel), List.mem_of_getElem? (i := 624) (by decide +kernel), List.mem_of_getElem? (i := 625) (by decide +kernel)⟩
theorem lw_p35 : lw_okq (⟨"RationalOdesModel", "make", "(IJ)V"⟩, 13) := ⟨⟨by decide +kernel, by decide +kernel⟩, List.mem_of_getElem? (i := 525) (by decide +kernel), List.mem_of_getElem? (i := 628) (by decide +kernel), List.mem_of_getElem? (i := 629) (by decide +kernel)⟩
theorem lw_p36 : lw_okq (⟨"RationalOdesModel", "hasHead", "()Z"⟩, 13) := ⟨⟨by decide +kernel, by decide +kernel⟩, List.mem_of_getElem? (i := 525) (by decide +kernel), List.mem_of_getElem? (i := 641) (by decide +kernel), List.mem_of_getElem? (i := 642) (by decide +kernel)⟩
theorem lw_p37 : lw_okq (⟨"RationalOdesModel", "find", "(I)I"⟩, 13) := ⟨⟨by decide +kernel, by decide +kernel⟩, List.mem_of_getElem? (i := 525) (by decide +kernel), List.mem_of_getElem? (i := 645) (by decide +kernel), List.mem_of_getElem? (i := 646) (by decide +kernel)⟩
theorem lw_p38 : lw_okq (⟨"RationalOdesModel", "headAt", "(J)J"⟩, 13) := ⟨⟨by decide +kernel, by decide +kernel⟩, List.mem_of_getElem? (i := 525) (by decide +kernel), List.mem_of_getElem? (i := 649) (by decide +kernel), List.mem_of_getElem? (i := 650) (by decide +kernel)⟩
theorem lw_p39 : lw_okq (⟨"RationalOdesModel", "raise", "(I)I"⟩, 13) := ⟨⟨by decide +kernel, by decide +kernel⟩, List.mem_of_getElem? (i := 525) (by decide +kernel), List.mem_of_getElem? (i := 657) (by decide +kernel), List.mem_of_getElem? (i := 658) (by decide +kernel)⟩
theorem lw_p40 : lw_okq (⟨"RationalOdesModel", "findLevel", "(ZJ)Z"⟩, 13) := ⟨⟨by decide +kernel, by decide +kernel⟩, List.mem_of_getElem? (i := 525) (by decide +kernel), List.mem_of_getElem? (i := 665) (by decide +kernel), List.mem_of_getElem? (i := 666) (by decide +kernel)⟩
theorem lw_p41 : lw_okq (⟨"RationalOdesModel", "localAt", "(I)J"⟩, 13) := ⟨⟨by decide +kernel, by decide +kernel⟩, List.mem_of_getElem? (i := 525) (by decide +kernel), List.mem_of_getElem? (i := 673) (by decide +kernel), List.mem_of_getElem? (i := 674) (by decide +kernel)⟩
theorem lw_p42 : lw_okq (⟨"RationalOdesModel", "findAnswers", "()V"⟩, 13) := ⟨⟨by decide +kernel, by decide +kernel⟩, List.mem_of_getElem? (i := 525) (by decide +kernel), List.mem_of_getElem? (i := 685) (by decide +kernel), List.mem_of_getElem? (i := 686) (by decide +kernel)⟩
theorem lw_p43 : lw_okq (⟨"RationalOdesModel", "bringOut", "(III)V"⟩, 13) := ⟨⟨by decide +kernel, by decide +kernel⟩, List.mem_of_getElem? (i := 525) (by decide +kernel), List.mem_of_getElem? (i := 689) (by decide +kernel), List.mem_of_getElem? (i := 690) (by decide +kernel)⟩
theorem lw_p44 : lw_okq (⟨"RationalOdesModel", "isMember", "(II)Z"⟩, 13) := ⟨⟨by decide +kernel, by decide +kernel⟩, List.mem_of_getElem? (i := 525) (by decide +kernel), List.mem_of_getElem? (i := 700) (by decide +kernel), List.mem_of_getElem? (i := 701) (by decide +kernel)⟩
def lw_privs_3 : List (MethodName × Nat) := [(⟨"RationalOdesModel", "isThere", "(II)Z"⟩, 13), (⟨"RationalOdesModel", "moveTo", "(J)V"⟩, 13), (⟨"RationalOdesModel", "makeAll", "()V"⟩, 13), (⟨"RationalOdesModel", "make", "(IJ)V"⟩, 13), (⟨"RationalOdesModel", "hasHead", "()Z"⟩, 13), (⟨"RationalOdesModel", "find", "(I)I"⟩, 13), (⟨"RationalOdesModel", "headAt", "(J)J"⟩, 13), (⟨"RationalOdesModel", "raise", "(I)I"⟩, 13), (⟨"RationalOdesModel", "findLevel", "(ZJ)Z"⟩, 13), (⟨"RationalOdesModel", "localAt", "(I)J"⟩, 13), (⟨"RationalOdesModel", "findAnswers", "()V"⟩, 13), (⟨"RationalOdesModel", "bringOut", "(III)V"⟩, 13), (⟨"RationalOdesModel", "isMember", "(II)Z"⟩, 13)]
theorem lw_r3 : ∀ q ∈ lw_privs_3, lw_okq q := List.forall_mem_cons.mpr ⟨lw_p32, List.forall_mem_cons.mpr ⟨lw_p33, List.forall_mem_cons.mpr ⟨lw_p34, List.forall_mem_cons.mpr ⟨lw_p35, List.forall_mem_cons.mpr ⟨lw_p36, List.forall_mem_cons.mpr ⟨lw_p37, List.forall_mem_cons.mpr ⟨lw_p38, List.forall_mem_cons.mpr ⟨lw_p39, List.forall_mem_cons.mpr ⟨lw_p40, List.forall_mem_cons.mpr ⟨lw_p41, List.forall_mem_cons.mpr ⟨lw_p42, List.forall_mem_cons.mpr ⟨lw_p43, List.forall_mem_cons.mpr ⟨lw_p44, fun _ h => absurd h List.not_mem_nil⟩⟩⟩⟩⟩⟩⟩⟩⟩⟩⟩⟩⟩
def lw_privs : List (MethodName × Nat) := lw_privs_1 ++ (lw_privs_2 ++ (lw_privs_3))
def lw_tbl : List Cond := k2_sels lw_privs ++ tables_1
theorem lw_privs_ok : ∀ q ∈ lw_privs, lw_okq q := by
  show ∀ q ∈ lw_privs_1 ++ (lw_privs_2 ++ (lw_privs_3)), lw_okq q
  exact List.forall_mem_append.mpr ⟨lw_r1, List.forall_mem_append.mpr ⟨lw_r2, lw_r3⟩⟩
/-! ===== BEGIN words of one list among another's, by their places ===== -/
theorem goodIn_r {big : List Cond} (ws : List Cond) (ps : List Nat) (hp : ws = ps.filterMap (fun i => big[i]?)) (h : ws.all goodWord = true) : GoodIn big ws := by
  intro w hw
  have h1 := List.all_eq_true.mp h w hw
  rw [hp] at hw
  obtain ⟨i, -, hi⟩ := List.mem_filterMap.mp hw
  have hm : w ∈ big := by first | exact List.mem_of_getElem? hi | exact List.getElem?_mem hi
  exact ⟨hm, good_of_word h1⟩
theorem goodIn_app {big a b : List Cond} (ha : GoodIn big a) (hb : GoodIn big b) : GoodIn big (a ++ b) := fun w h => (List.mem_append.mp h).elim (ha w) (hb w)
theorem goodIn_ca {big a b : List Cond} {c : Cond} (ha : GoodIn big (c :: a)) (hb : GoodIn big b) : GoodIn big (c :: (a ++ b)) := fun w h => (List.mem_cons.mp h).elim (fun e => ha w (List.mem_cons.mpr (Or.inl e))) (fun h => (List.mem_append.mp h).elim (fun h => ha w (List.mem_cons.mpr (Or.inr h))) (hb w))
theorem goodIn_sub {big ws : List Cond} (hm : ∀ w ∈ ws, w ∈ big) (h : ws.all goodWord = true) : GoodIn big ws := fun w hw => ⟨hm w hw, good_of_word (List.all_eq_true.mp h w hw)⟩
/-! ===== END ===== -/

/-! ===== BEGIN new T[n][m]: the outer array a place, the inner ones among the pooled ===== -/
/-- f, but v at every address of l -/
def vr_up {α : Type} (f : Nat → α) (l : List Nat) (v : α) : Nat → α := fun a => if a ∈ l then v else f a
theorem vr_up_in {α : Type} {f : Nat → α} {l : List Nat} {v : α} {a : Nat} (h : a ∈ l) : vr_up f l v a = v := if_pos h
theorem vr_up_ne {α : Type} {f : Nat → α} {l : List Nat} {v : α} {a : Nat} (h : a ∉ l) : vr_up f l v a = f a := if_neg h
theorem vr_rows {L l : List Nat} {f : Nat → va_E} {e : va_E} (h : ∀ a, a ∈ l → a ∉ L) : va_pl L f ++ l.map (fun a => (a, e)) = va_pl (L ++ l) (vr_up f l e) := by
  unfold va_pl
  rw [List.map_append]
  congr 1
  · apply List.map_congr_left
    intro a ha
    rw [vr_up_ne (fun q => h a q ha)]
  · apply List.map_congr_left
    intro a ha
    rw [vr_up_in ha]
theorem vr_lay {X rows : va_W} {x : Nat × va_E} {pl : va_W} {D : va_G} {cl : List vw_C} {H : Heap} (hP : va_P D cl (((X ++ pl) ++ [x]) ++ rows) H) : va_P D cl ((X ++ [x]) ++ (pl ++ rows)) H := by
  rw [List.append_assoc (X ++ pl)] at hP
  have h := va_P.swap hP
  rw [← List.append_assoc X] at h
  have h2 := va_P.swap h
  rw [List.append_assoc (X ++ [x])] at h2
  exact h2
theorem vr_layD {X rows : va_W} {x : Nat × va_E} {pl : va_W} {A : Nat → Prop} (hD : va_D A (((X ++ pl) ++ [x]) ++ rows)) : va_D A ((X ++ [x]) ++ (pl ++ rows)) := by
  rw [List.append_assoc (X ++ pl)] at hD
  have h := va_D.swap hD
  rw [← List.append_assoc X] at h
  have h2 := va_D.swap h
  rw [List.append_assoc (X ++ [x])] at h2
  exact h2
theorem vr_outer (c : ClassId) (N h0 : Nat) : ∀ i : Nat, Jvm.Free.Multi.outerC c N h0 i = arrV c N (fun j => va_rf (if j < i then some (h0 + 1 + j) else none))
  | 0 => by
    show ({ cls := c, slots := Array.replicate N .null, vm := .none } : Cell) = _
    rw [arrV_new]
    refine congrArg (arrV c N) (funext fun j => ?_)
    simp [va_rf]
  | i + 1 => by
    show (Jvm.Free.Multi.outerC c N h0 i).setSlot i (.ref (h0 + 1 + i)) = _
    rw [vr_outer c N h0 i, arrV_store]
    refine congrArg (arrV c N) (funext fun j => ?_)
    by_cases e : j = i
    · subst e
      simp [updV, va_rf]
    · by_cases h : j < i
      · simp [updV, e, h, Nat.lt_succ_of_lt h]
      · simp [updV, e, h, show ¬ j < i + 1 by omega]
section VGM
variable {p : Program} {l : Launch} {e : Env} {R : Room} {s : State} {m : MethodId} {args : Array Value} {below : List Frame} {meth : Method} {c : Code} {H : Heap} {locs : List Loc} {cells slots : Nat} {Q : State → Prop}
variable {cc : ByteArray} {pc : Nat} {ls : Array Slot} {rest : List Value} {D : va_G} {cl : List vw_C} {A : Nat → Prop} {a : Nat} {tys : List (ClassId × FieldType)} {ws : va_W} {H0 : Heap}
theorem va_mna {X : va_W} {L : List Nat} {f : Nat → va_E} {cc : ByteArray} (hexec : p.tables.exec = Jvm.exec) (hb : c.code = cc) {own : String} {index : Nat} {ty : FieldType} {cy : ClassId} (hown : s.vm.findClass own = some m.cls) (hclink : (Cond.classLink own index ("[" ++ (FieldType.array ty).toString)).before args s = true) (hover : (Cond.arrayOver (.array ty)).before args s = true) (harr : (Cond.arrayClass ty).before args s = true) (hcy : s.vm.findClass (FieldType.array ty).toString = some cy)
    (hK : va_K D cl tys s) (hP : va_P D cl (X ++ va_pl L f) H) (hD : va_D A (X ++ va_pl L f)) (hS : va_S A H0 H locs) (hA : ∀ q, H0.size ≤ q → A q) {n k : Int32} {N' K' : Nat} {z : vp_A} (hn : ¬ n < 0) (hk : ¬ k < 0) (hN : n.toNatClampNeg = N') (hM : k.toNatClampNeg = K')
    (hb1 : N' * 4 ≤ 536870912) (hb2 : K' * componentBytes ty ≤ 536870912) (hb3 : K' ≤ 536870912) (hdf : fits ty (defaultValue ty) = true) (hdd : (defaultValue ty).isDefault = true) (hcells : cells + (1 + N') ≤ R.cells) (hslots : slots + (N' + N' * K') ≤ R.slots) (hz : ∀ c : ClassId, Jvm.Free.Multi.innerC c K' (defaultValue ty) = vp_cell c z) (hdg : decode cc pc = .ok (.multianewarray index 2, 4))
    (kk : ∀ (q : Nat) (r : Nat → Nat) (cA : ClassId) (H1 : Heap), (∀ i j : Nat, i < N' → j < N' → r i = r j → i = j) → (∀ i : Nat, i < N' → r i ∉ L) → va_K D cl (tys ++ [(cA, .array ty)]) s →
      va_P D cl ((X ++ [(q, .inl (cA, N', .inr (.inr (.inr (.inr (fun i => if i < N' then some (r i) else none))))))]) ++ va_pl (L ++ (List.range N').map r) (vr_up f ((List.range N').map r) (.inl (cy, z)))) H1 → va_D A ((X ++ [(q, .inl (cA, N', .inr (.inr (.inr (.inr (fun i => if i < N' then some (r i) else none))))))]) ++ va_pl (L ++ (List.range N').map r) (vr_up f ((List.range N').map r) (.inl (cy, z)))) → va_S A H0 H1 locs →
      W p l e R s m args below meth c H1 locs (cells + 1 + N') (slots + N' + N' * K') Q (F0 m (pc + 4) ls (.ref q :: rest))) : W p l e R s m args below meth c H locs cells slots Q (F0 m pc ls (.int k :: .int n :: rest)) := by
  subst hN
  subst hM
  intro T hT Xs
  obtain ⟨vm₁, cA, comp, -, fA, fC, hO, -, X', step⟩ := Xs.multianewarray2F hexec hown hclink hover harr (g := F0 m pc ls (.int k :: .int n :: rest)) rfl (by rw [hb]; exact hdg) rfl hn hk hb1 hb2 hb3 hdf hdd hcells hslots
  have ec : some cy = some comp := hcy.symm.trans fC
  cases ec
  generalize hF : Jvm.Free.Multi.fill (T.setVm vm₁) cA cy n.toNatClampNeg k.toNatClampNeg (defaultValue ty) n.toNatClampNeg = F at X' step
  have hTh : (T.setVm vm₁).heap = H := hT
  obtain ⟨f1, f2, -, -⟩ := Jvm.Free.Multi.fill_facts (T.setVm vm₁) cA cy n.toNatClampNeg k.toNatClampNeg (defaultValue ty) n.toNatClampNeg
  rw [hF, hTh] at f1 f2
  have hold : ∀ x : Nat, x < H.size → F.heap[x]? = H[x]? := fun x hx => by
    have := Jvm.Free.Multi.fill_old (T.setVm vm₁) cA cy n.toNatClampNeg k.toNatClampNeg (defaultValue ty) (a := x) (by rw [hTh]; exact hx) n.toNatClampNeg
    rw [hF, hTh] at this
    exact this
  have hrow : ∀ j : Nat, j < n.toNatClampNeg → F.heap[H.size + 1 + j]? = some (vp_cell cy z) := fun j hj => by
    have := Jvm.Free.Multi.fill_inner (T.setVm vm₁) cA cy n.toNatClampNeg k.toNatClampNeg (defaultValue ty) n.toNatClampNeg j hj
    rw [hF, hTh, hz] at this
    exact this
  have hout : Jvm.Free.Multi.outerC cA n.toNatClampNeg H.size n.toNatClampNeg = vp_cell cA (n.toNatClampNeg, .inr (.inr (.inr (.inr (fun i => if i < n.toNatClampNeg then some (H.size + 1 + i) else none))))) := by
    rw [vp_cell_q]
    exact vr_outer cA n.toNatClampNeg H.size n.toNatClampNeg
  rw [hout] at f2
  have hlt : ∀ a, a ∈ L → a < H.size := fun a ha => by
    obtain ⟨k9, hk9⟩ := va_pl_get (X := X) (f := f) ha
    exact (hP k9 _ hk9).lt
  have hnl : ∀ i : Nat, i < n.toNatClampNeg → H.size + 1 + i ∉ L := fun i _ h => by
    have := hlt _ h
    omega
  have hnm : ∀ a, a ∈ (List.range n.toNatClampNeg).map (fun i => H.size + 1 + i) → a ∉ L := fun a ha h => by
    obtain ⟨i, -, rfl⟩ := List.mem_map.mp ha
    have := hlt _ h
    omega
  have hP0 : va_P D cl (X ++ va_pl L f) F.heap := hP.kept (fun k9 x hx => hold x.1 ((hP k9 x hx).lt))
  have hP1 : va_P D cl ((X ++ va_pl L f) ++ [(H.size, .inl (cA, n.toNatClampNeg, .inr (.inr (.inr (.inr (fun i => if i < n.toNatClampNeg then some (H.size + 1 + i) else none))))))]) F.heap := hP0.app (fun k9 x hx => by
    have h0 : k9 < 1 := (List.getElem?_eq_some_iff.mp hx).1
    rw [show k9 = 0 by omega] at hx
    cases hx
    exact f2)
  have hP2 : va_P D cl (((X ++ va_pl L f) ++ [(H.size, .inl (cA, n.toNatClampNeg, .inr (.inr (.inr (.inr (fun i => if i < n.toNatClampNeg then some (H.size + 1 + i) else none))))))]) ++ ((List.range n.toNatClampNeg).map (fun i => H.size + 1 + i)).map (fun a => (a, .inl (cy, z)))) F.heap := hP1.app (fun k9 x hx => by
    obtain ⟨a, ha, rfl⟩ := List.mem_map.mp (List.mem_of_getElem? hx)
    obtain ⟨i, hi, rfl⟩ := List.mem_map.mp ha
    exact hrow i (List.mem_range.mp hi))
  have hD2 : va_D A (((X ++ va_pl L f) ++ [(H.size, .inl (cA, n.toNatClampNeg, .inr (.inr (.inr (.inr (fun i => if i < n.toNatClampNeg then some (H.size + 1 + i) else none))))))]) ++ ((List.range n.toNatClampNeg).map (fun i => H.size + 1 + i)).map (fun a => (a, .inl (cy, z)))) := by
    have hD1 := hD.push (e := .inl (cA, n.toNatClampNeg, .inr (.inr (.inr (.inr (fun i => if i < n.toNatClampNeg then some (H.size + 1 + i) else none)))))) hP rfl (hA _ hS.1)
    generalize hW1 : (X ++ va_pl L f) ++ [(H.size, .inl (cA, n.toNatClampNeg, .inr (.inr (.inr (.inr (fun i => if i < n.toNatClampNeg then some (H.size + 1 + i) else none))))))] = W1 at hD1 hP1 ⊢
    have hle : ∀ (k9 : Nat) (x : Nat × va_E), W1[k9]? = some x → x.1 ≤ H.size := fun k9 x hx => by
      rw [← hW1] at hx
      by_cases hl : k9 < (X ++ va_pl L f).length
      · rw [List.getElem?_append_left hl] at hx
        exact Nat.le_of_lt ((hP k9 x hx).lt)
      · rw [List.getElem?_append_right (by omega)] at hx
        have h0 : k9 - (X ++ va_pl L f).length < 1 := (List.getElem?_eq_some_iff.mp hx).1
        rw [show k9 - (X ++ va_pl L f).length = 0 by omega] at hx
        cases hx
        exact Nat.le_refl _
    have hr : ∀ (k9 : Nat) (x : Nat × va_E), (((List.range n.toNatClampNeg).map (fun i => H.size + 1 + i)).map (fun a => ((a, .inl (cy, z)) : Nat × va_E)))[k9]? = some x → x.1 = H.size + 1 + k9 := fun k9 x hx => by
      rw [List.getElem?_map, List.getElem?_map] at hx
      by_cases h9 : k9 < n.toNatClampNeg
      · rw [List.getElem?_range h9] at hx
        cases hx
        rfl
      · have hn0 : (List.range n.toNatClampNeg)[k9]? = none := List.getElem?_eq_none (by rw [List.length_range]; omega)
        rw [hn0] at hx
        cases hx
    refine ⟨fun i j x y hi hj hxy => ?_, fun k9 x hx => ?_⟩
    · by_cases h1 : i < W1.length <;> by_cases h2 : j < W1.length
      · rw [List.getElem?_append_left h1] at hi
        rw [List.getElem?_append_left h2] at hj
        exact hD1.1 i j x y hi hj hxy
      · rw [List.getElem?_append_left h1] at hi
        rw [List.getElem?_append_right (by omega)] at hj
        have := hle _ _ hi
        have := hr _ _ hj
        omega
      · rw [List.getElem?_append_right (by omega)] at hi
        rw [List.getElem?_append_left h2] at hj
        have := hle _ _ hj
        have := hr _ _ hi
        omega
      · rw [List.getElem?_append_right (by omega)] at hi hj
        have := hr _ _ hi
        have := hr _ _ hj
        omega
    · by_cases h1 : k9 < W1.length
      · rw [List.getElem?_append_left h1] at hx
        exact hD1.2 k9 x hx
      · rw [List.getElem?_append_right (by omega)] at hx
        have := hr _ _ hx
        exact hA _ (by have := hS.1; omega)
  have hAr : ArrOfT s cA (.array ty) := fun N9 z9 => by
    obtain ⟨-, k9, hk9, cm9, hkk9⟩ := (hO 0 0 0).1
    exact ⟨(fun q hq => by cases hq), k9, hk9, cm9, hkk9⟩
  have hK2 : va_K D cl (tys ++ [(cA, .array ty)]) s := ⟨hK.1, fun k9 x hx => by
    by_cases hl : k9 < tys.length
    · rw [List.getElem?_append_left hl] at hx
      exact hK.2 k9 x hx
    · rw [List.getElem?_append_right (by omega)] at hx
      have h0 : k9 - tys.length < 1 := (List.getElem?_eq_some_iff.mp hx).1
      rw [show k9 - tys.length = 0 by omega] at hx
      cases hx
      exact ⟨hAr, fA⟩⟩
  obtain ⟨t, a1, b1⟩ := kk H.size (fun i => H.size + 1 + i) cA F.heap (fun i j _ _ h => by have h9 : H.size + 1 + i = H.size + 1 + j := h; omega) hnl hK2 (by rw [← vr_rows hnm]; exact vr_lay hP2) (by rw [← vr_rows hnm]; exact vr_layD hD2) ⟨by rw [f1]; have := hS.1; omega, fun x h1 h2 => (hold x (Nat.lt_of_lt_of_le h1 hS.1)).trans (hS.2.1 x h1 h2), hS.2.2⟩ F rfl X'
  refine ⟨t, step t ?_, b1⟩
  have e : T.heap.size = H.size := by rw [hT]
  rw [e]
  exact a1
end VGM
/-! ===== END ===== -/

/-! ===== BEGIN exceptions that leave a method, and their catching by the caller (launches without stack traces) ===== -/
section VXA
/-! The laws vx_back, vx_callV, vx_callS, vx_callSW, vx_throw0, vx_throwS follow proofs of the library, with one case more: JvmDerived/Free/Laws.lean (Back.of_free), Shelf42/LK1.lean (callV, callS), Shelf/KitTraced.lean (throwNew0V, throwNewS). -/
/-- where a method has thrown q: the class by its name, the cell, what was written, the world -/
def vx_T (XC : String → State → State → Prop) (st : State) (q : Addr) (t : State) (mc ms : Nat) (free : Addr → Prop) : Prop :=
  ∃ (E : String) (ce : Cell) (L : List Loc), XC E st t ∧ t.heap[q]? = some ce ∧ ce.vm = .none ∧ st.vm.findClass E = some ce.cls ∧ st.WarmedH t.vm ∧ st.sameButNew ({ t with vm := st.vm } : State) L mc ms ∧ ∀ z ∈ L, free z.base
def vx_Q (Qc : Array Value → State → Outcome → State → Prop) (XC : String → State → State → Prop) (mc ms : Nat) (free : Addr → Prop) : Array Value → State → Outcome → State → Prop := fun a st o t =>
  (Qc a st o t ∧ ∃ L, FrameEnd st o t L mc ms ∧ ∀ q ∈ L, free q.base) ∨ ∃ q, o = .threw q ∧ vx_T XC st q t mc ms free
/-- a callee that returns or throws -/
def vx_Met (l : Launch) (y : MethodName) (ws : List Cond) (rm : Room) (Pc : Array Value → State → Prop) (Qc : Array Value → State → Outcome → State → Prop) (XC : String → State → State → Prop) (mc ms : Nat) (free : Addr → Prop) : Prop :=
  MetFree l y (headSpec ws rm) Pc (fun _ _ _ _ _ => True) (vx_Q Qc XC mc ms free)
def vx_Post (XC : String → State → State → Prop) (mc ms : Nat) (free : Addr → Prop) : Pt → Array Value → Addr → Pt → Prop := fun A a q B =>
  ∃ (g : JFrame) (mk : MethodId) (t : State) (L : List Loc) (E : String) (ce : Cell), B.U.heap = t.heap ∧ B.U.vm = t.vm ∧ XC E (A.U.calling g mk a) t ∧ t.heap[q]? = some ce ∧ ce.vm = .none ∧ A.U.vm.findClass E = some ce.cls ∧ B.locs = A.locs ++ L ∧ (∀ z ∈ L, free z.base) ∧ B.cells = A.cells + mc ∧ B.slots = A.slots + ms
def vx_Back (l : Launch) (R : Room) (p : Program) (e : Env) (below : List Frame) (s : State) (sargs : Array Value) (y : MethodName) (len W9 : Nat)
    (Pre : Pt → Array Value → Prop) (Post : Pt → Array Value → Option Value → Pt → Prop) (PostX : Pt → Array Value → Addr → Pt → Prop) : Prop :=
  ∀ (m : MethodId) (meth : Method) (c : Code) (A : Pt) (g : JFrame) (ig : Instr) (mk : MethodId) (a : Array Value),
    Stand p l e R s m sargs below meth c A.U A.locs A.cells A.slots → g.method = m → g.locals.size = c.maxLocals → decode c.code g.pc = .ok (ig, len) →
    2 * g.monitorRoom + (g.stack.map fun v => v.category).sum ≤ W9 → A.U.methodNamed? y = some mk → Pre A a →
    (∃ (v : Option Value) (B : Pt), Stand p l e R s m sargs below meth c B.U B.locs B.cells B.slots ∧ Post A a v B ∧
      Steps p.tables e below (doInvoke e (A.U.setTop g) [] mk a).1 (B.U.setTop { g with pc := g.pc + len, stack := v.toList ++ g.stack })) ∨
    (∃ (q : Addr) (B : Pt), Stand p l e R s m sargs below meth c B.U B.locs B.cells B.slots ∧ PostX A a q B ∧
      Steps p.tables e below (doInvoke e (A.U.setTop g) [] mk a).1 ((B.U.setTop g).pushFrame (.throwing q)))
section Payer
variable {l : Launch} {R : Room} {p : Program} {e : Env} {below : List Frame} {s : State} {sargs : Array Value} {y : MethodName} {len W9 : Nat}
theorem vx_back {ws : List Cond} {rm : Room} {Pc : Array Value → State → Prop} {Qc : Array Value → State → Outcome → State → Prop} {XC : String → State → State → Prop} {mc ms : Nat} {free : Addr → Prop} {bytes : ByteArray} {maxL : Nat} {ret : Option FieldType}
    (hM : vx_Met l y ws rm Pc Qc XC mc ms free) (hblind : FrameBlind Pc) (hrc : rm.cells = mc) (hrs : rm.slots = ms)
    (hframes : rm.frames + 1 ≤ R.frames) (hlocals : W9 + (maxL + 11) + rm.locals ≤ R.locals)
    (hws : ∀ w ∈ ws, ∀ a' U, s.WarmedH U.vm → w.before a' U = true) (hcode : Cond.code y bytes maxL ret ∈ ws) (hinit : ∀ a' U, s.WarmedH U.vm → (Cond.initialized y.cls).before a' U = true) :
    vx_Back l R p e below s sargs y len W9 (PreOf R mc ms Pc) (PostOf Qc mc ms free) (vx_Post XC mc ms free) := by
  intro m meth c A g ig mk a X hg hsize hdg hW hn hp
  have h1 : (headSpec ws rm).pre.before a A.U = true := atoms_intro fun w hw => hws w hw _ _ X.warmed
  have h2 : (Cond.code y bytes maxL ret).before a A.U = true := hws _ hcode _ _ X.warmed
  have h3 : (Cond.initialized y.cls).before a A.U = true := hinit _ _ X.warmed
  have h4 : A.cells + (headSpec ws rm).room.cells ≤ R.cells := by rw [show (headSpec ws rm).room.cells = mc from hrc]; exact hp.1
  have h5 : A.slots + (headSpec ws rm).room.slots ≤ R.slots := by rw [show (headSpec ws rm).room.slots = ms from hrs]; exact hp.2.1
  have hPc : Pc a (A.U.calling g mk a) := hblind _ _ _ _ hp.2.2
  obtain ⟨U, Ls, c0, s0⟩ := A
  dsimp only [Pt.U, Pt.locs, Pt.cells, Pt.slots] at h1 h2 h3 h4 h5 X hn hPc ⊢
  obtain ⟨methY, cY, hmY, hcY, -, hlY, -, -, -, -⟩ := Cond.code_spec hn h2
  obtain ⟨kY, hkY, -⟩ := className_of_methodNamed hn
  have hinitY : kY.init = .initialized := Cond.initialized_spec (findClass_of_methodNamed hn) hkY h3
  have h : At U g.method c below := by rw [hg]; exact X.here
  have hlocals9 : W9 + (maxL + 11) + (headSpec ws rm).room.locals ≤ R.locals := hlocals
  have happ : (headSpec ws rm).appliesLoose y e.platform (U.calling g mk a) = true :=
    Spec.appliesLoose_calling (g := g) h hdg hn hkY hinitY
      (X.room_calling (g := g) (R' := (headSpec ws rm).room) hsize hmY hcY hframes (by rw [hlY]; omega) h4 h5) h1
  obtain ⟨mid, hmid⟩ := h.above
  have hfr : (U.setTop g).frames = (.java g :: mid) ++ below := by rw [State.frames_setTop' g h.top, hmid]; rfl
  obtain ⟨o, s₂, hsteps, -, hend, hq⟩ := Steps.callFree hM p X.admits X.cas X.clock (acts := []) hfr happ hPc trivial
  have hq' : vx_Q Qc XC mc ms free a (U.calling g mk a) o s₂ := hq
  rw [State.frames_setTop' g h.top] at hend
  obtain ⟨g₀, hg0⟩ := Option.isSome_iff_exists.mp h.top
  obtain ⟨r, hr⟩ := State.topJava?_eq_some.mp hg0
  have hr' : (({ U with heap := s₂.heap, slotsUsed := s₂.slotsUsed } : State).setVm s₂.vm).frames = .java g₀ :: r := hr
  rcases hq' with ⟨hqc, L, hfe, hL⟩ | ⟨q, rfl, E, ce, L, hx, hce, hcv, hcl, hW₂, hsm, hL⟩
  · obtain ⟨⟨v, rfl⟩, hW₂, e2, q2, q3, q4, q5, q6⟩ := id hfe
    have e3 : s₂ = ({ (U.calling g mk a).setFrames s₂.frames with heap := s₂.heap, slotsUsed := s₂.slotsUsed } : State).setVm s₂.vm := by
      have : s₂ = ({ s₂ with vm := (U.calling g mk a).vm } : State).setVm s₂.vm := rfl
      rw [e2] at this
      exact this
    obtain ⟨c₂, i₂, len₂, hc₂, hd₂, hf₂⟩ := hend
    have hW' : U.WarmedH s₂.vm := hW₂
    have hcc : c₂ = c := by
      have h1 : s₂.code? g.method = U.code? g.method := by
        rw [State.code?_eq, State.code?_eq, hW'.alike.method?]
      exact Option.some.inj (hc₂.symm.trans (h1.trans h.code))
    subst hcc
    have hlen : len₂ = len := by rw [hdg] at hd₂; cases hd₂; rfl
    subst hlen
    have hs₂ : s₂ = (({ U with heap := s₂.heap, slotsUsed := s₂.slotsUsed } : State).setVm s₂.vm).setTop { g with pc := g.pc + len₂, stack := v.toList ++ g.stack } := by
      refine e3.trans ?_
      rw [hf₂, State.calling_eq h.top, State.setFrames_setFrames, State.setTop_of_frames _ hr', hr]
      rfl
    have hsame : U.sameButNew ({ U with heap := s₂.heap, slotsUsed := s₂.slotsUsed } : State) L mc ms := by
      refine ⟨?_, q2, q3, q4, q5, q6⟩
      obtain ⟨t, ht, -⟩ := State.frames_cons hr
      show ({ U with heap := s₂.heap, slotsUsed := s₂.slotsUsed } : State) = { U.setFrames U.frames with heap := s₂.heap, slotsUsed := s₂.slotsUsed }
      rw [State.setFrames_self ht]
    subst hg
    refine Or.inl ⟨v, ⟨(({ U with heap := s₂.heap, slotsUsed := s₂.slotsUsed } : State).setVm s₂.vm), Ls ++ L, c0 + mc, s0 + ms⟩,
      ⟨X.admits, X.cas, X.clock, X.frames, X.room, X.hears, X.method, X.code, (X.here.setHeapUsed s₂.heap s₂.slotsUsed).setVm hW'.alike, X.tail, State.WarmedH.trans X.warmed hW', X.limits, X.bytes, X.same.trans (hsame.setVm s.vm)⟩,
      ⟨g, mk, s₂, L, rfl, rfl, hqc, rfl, hL, rfl, rfl⟩, ?_⟩
    show Steps p.tables e below _ ((({ U with heap := s₂.heap, slotsUsed := s₂.slotsUsed } : State).setVm s₂.vm).setTop { g with pc := g.pc + len₂, stack := v.toList ++ g.stack })
    rw [← hs₂]
    exact hsteps
  · obtain ⟨e2, q2, q3, q4, q5, q6⟩ := id hsm
    have e3 : s₂ = ({ (U.calling g mk a).setFrames s₂.frames with heap := s₂.heap, slotsUsed := s₂.slotsUsed } : State).setVm s₂.vm := by
      have : s₂ = ({ s₂ with vm := (U.calling g mk a).vm } : State).setVm s₂.vm := rfl
      rw [e2] at this
      exact this
    have hf₂ : s₂.frames = .throwing q :: .java g :: U.frames.tail := hend
    have hW' : U.WarmedH s₂.vm := hW₂
    have hs₂ : s₂ = ((({ U with heap := s₂.heap, slotsUsed := s₂.slotsUsed } : State).setVm s₂.vm).setTop g).pushFrame (.throwing q) := by
      refine e3.trans ?_
      rw [hf₂, State.calling_eq h.top, State.setFrames_setFrames, State.pushFrame, State.frames_setTop _ hr', State.setTop_of_frames _ hr', State.setFrames_setFrames, hr]
      rfl
    have hsame : U.sameButNew ({ U with heap := s₂.heap, slotsUsed := s₂.slotsUsed } : State) L mc ms := by
      refine ⟨?_, q2, q3, q4, q5, q6⟩
      obtain ⟨t, ht, -⟩ := State.frames_cons hr
      show ({ U with heap := s₂.heap, slotsUsed := s₂.slotsUsed } : State) = { U.setFrames U.frames with heap := s₂.heap, slotsUsed := s₂.slotsUsed }
      rw [State.setFrames_self ht]
    subst hg
    refine Or.inr ⟨q, ⟨(({ U with heap := s₂.heap, slotsUsed := s₂.slotsUsed } : State).setVm s₂.vm), Ls ++ L, c0 + mc, s0 + ms⟩,
      ⟨X.admits, X.cas, X.clock, X.frames, X.room, X.hears, X.method, X.code, (X.here.setHeapUsed s₂.heap s₂.slotsUsed).setVm hW'.alike, X.tail, State.WarmedH.trans X.warmed hW', X.limits, X.bytes, X.same.trans (hsame.setVm s.vm)⟩,
      ⟨g, mk, s₂, L, E, ce, rfl, rfl, hx, hce, hcv, hcl, rfl, hL, rfl, rfl⟩, ?_⟩
    show Steps p.tables e below _ (((({ U with heap := s₂.heap, slotsUsed := s₂.slotsUsed } : State).setVm s₂.vm).setTop g).pushFrame (.throwing q))
    rw [← hs₂]
    exact hsteps
end Payer
section Calls
variable {p : Program} {l : Launch} {e : Env} {R : Room} {s : State} {m : MethodId} {args : Array Value} {below : List Frame} {meth : Method} {c : Code} {T : State} {locs : List Loc} {cells slots : Nat}
theorem vx_callV (X : Stand p l e R s m args below meth c T locs cells slots) (hexec : p.tables.exec = Jvm.exec) {own C : String} {index : Nat} {y : MethodName} {bytes : ByteArray} {maxL : Nat} {ret : Option FieldType}
    (hown : s.vm.findClass own = some m.cls) (hlink : (Cond.methodLink own index y).before args s = true) (hinst : (Cond.instanceMethod y).before args s = true) (hsel : (Cond.selects C y y).before args s = true)
    (hcode : (Cond.code y bytes maxL ret).before args s = true) (hy : y.cls ≠ "java/lang/invoke/MethodHandle" ∧ y.cls ≠ "java/lang/invoke/VarHandle")
    {W9 : Nat} {Pre : Pt → Array Value → Prop} {Post : Pt → Array Value → Option Value → Pt → Prop} {PostX : Pt → Array Value → Addr → Pt → Prop} (hK : vx_Back l R p e below s args y 3 W9 Pre Post PostX)
    {b : Addr} {cellB : Cell} (hcell : T.heap[b]? = some cellB) (hobj : cellB.vm.isStatics = false) (hcls : s.vm.findClass C = some cellB.cls)
    {g : JFrame} (hg : g.method = m) (hsize : g.locals.size = c.maxLocals) {argsL rest : List Value} (hlen : ∀ sig, parseMethodDescriptor y.desc = some sig → argsL.length = sig.parameters.length)
    (hstack : g.stack = argsL.reverse ++ .ref b :: rest) (hW : 2 * g.monitorRoom + (rest.map fun v => v.category).sum ≤ W9) (hdg : decode c.code g.pc = .ok (.invokevirtual index, 3))
    (hpre : ∀ vm₁, s.WarmedH vm₁ → Pre ⟨T.setVm vm₁, locs, cells, slots⟩ (Value.ref b :: argsL).toArray) :
    (∃ (v : Option Value) (vm₁ : Vm) (B : Pt), s.WarmedH vm₁ ∧ Stand p l e R s m args below meth c B.U B.locs B.cells B.slots ∧ Post ⟨T.setVm vm₁, locs, cells, slots⟩ (Value.ref b :: argsL).toArray v B ∧
      ∀ target, Steps p.tables e below (B.U.setTop { g with pc := g.pc + 3, stack := v.toList ++ rest }) target → Steps p.tables e below (T.setTop g) target) ∨
    (∃ (q : Addr) (vm₁ : Vm) (B : Pt), s.WarmedH vm₁ ∧ Stand p l e R s m args below meth c B.U B.locs B.cells B.slots ∧ PostX ⟨T.setVm vm₁, locs, cells, slots⟩ (Value.ref b :: argsL).toArray q B ∧
      Steps p.tables e below (T.setTop g) ((B.U.setTop { g with stack := rest }).pushFrame (.throwing q))) := by
  obtain ⟨mk, methM, hnamed, hmethM, hstM, habM⟩ := Cond.instanceMethod_spec hinst
  obtain ⟨methM', cM, hmethM', -, -, -, -, -, -, hsigM⟩ := Cond.code_spec hnamed hcode
  cases hmethM.symm.trans hmethM'
  obtain ⟨c2, r2, m2, q1, q2, q3, q4, kP, hkP, hkPi⟩ := Cond.selects_spec hsel
  cases hcls.symm.trans q1
  cases (State.methodFound?_of_named hnamed hy).symm.trans q2
  cases hnamed.symm.trans q3
  have hselP : selectMethod e.platform s.vm cellB.cls mk = .method mk := by rw [Launch.admits_selectMethod X.admits]; exact q4
  obtain ⟨vm₁, X₁, hstep₁⟩ := X.invokevirtual hexec hown hlink hnamed hmethM hstM hkP hkPi hy (a := b) (cell := cellB) hcell
    (fun z h => by rw [h] at hobj; cases hobj) hselP hmethM habM hkP hkPi (g := g) hg (argsL := argsL) (rest := rest) (hlen _ hsigM) hstack hdg
  rcases hK m meth c ⟨T.setVm vm₁, locs, cells, slots⟩ { g with stack := rest } (.invokevirtual index) mk (Value.ref b :: argsL).toArray X₁ hg hsize hdg hW (X₁.named hnamed) (hpre vm₁ X₁.warmed) with ⟨v, B, X', hpost, hsteps⟩ | ⟨q, B, X', hpost, hsteps⟩
  · exact Or.inl ⟨v, vm₁, B, X₁.warmed, X', hpost, fun target h => hstep₁ _ fun acts => by rw [doInvoke_state]; exact hsteps.trans h⟩
  · exact Or.inr ⟨q, vm₁, B, X₁.warmed, X', hpost, hstep₁ _ fun acts => by rw [doInvoke_state]; exact hsteps⟩
theorem vx_callS (X : Stand p l e R s m args below meth c T locs cells slots) (hexec : p.tables.exec = Jvm.exec) {own : String} {index : Nat} {y : MethodName} {bytes : ByteArray} {maxL : Nat} {ret : Option FieldType}
    (hown : s.vm.findClass own = some m.cls) (hlink : (Cond.methodLink own index y).before args s = true) (hstat : (Cond.static y).before args s = true) (hinit : (Cond.initialized y.cls).before args s = true)
    (hcode : (Cond.code y bytes maxL ret).before args s = true) (hy : y.cls ≠ "java/lang/invoke/MethodHandle" ∧ y.cls ≠ "java/lang/invoke/VarHandle")
    {W9 : Nat} {Pre : Pt → Array Value → Prop} {Post : Pt → Array Value → Option Value → Pt → Prop} {PostX : Pt → Array Value → Addr → Pt → Prop} (hK : vx_Back l R p e below s args y 3 W9 Pre Post PostX)
    {g : JFrame} (hg : g.method = m) (hsize : g.locals.size = c.maxLocals) {argsL rest : List Value} (hlen : ∀ sig, parseMethodDescriptor y.desc = some sig → argsL.length = sig.parameters.length)
    (hstack : g.stack = argsL.reverse ++ rest) (hW : 2 * g.monitorRoom + (rest.map fun v => v.category).sum ≤ W9) (hdg : decode c.code g.pc = .ok (.invokestatic index, 3))
    (hpre : ∀ vm₁, s.WarmedH vm₁ → Pre ⟨T.setVm vm₁, locs, cells, slots⟩ argsL.toArray) :
    (∃ (v : Option Value) (vm₁ : Vm) (B : Pt), s.WarmedH vm₁ ∧ Stand p l e R s m args below meth c B.U B.locs B.cells B.slots ∧ Post ⟨T.setVm vm₁, locs, cells, slots⟩ argsL.toArray v B ∧
      ∀ target, Steps p.tables e below (B.U.setTop { g with pc := g.pc + 3, stack := v.toList ++ rest }) target → Steps p.tables e below (T.setTop g) target) ∨
    (∃ (q : Addr) (vm₁ : Vm) (B : Pt), s.WarmedH vm₁ ∧ Stand p l e R s m args below meth c B.U B.locs B.cells B.slots ∧ PostX ⟨T.setVm vm₁, locs, cells, slots⟩ argsL.toArray q B ∧
      Steps p.tables e below (T.setTop g) ((B.U.setTop { g with stack := rest }).pushFrame (.throwing q))) := by
  obtain ⟨mk, hnamed⟩ := Cond.code_named hcode
  obtain ⟨methM, cM, hmethM, -, -, -, -, -, -, hsigM⟩ := Cond.code_spec hnamed hcode
  have hstatic : methM.isStatic = true := Cond.static_spec hnamed hmethM hstat
  obtain ⟨kP, hkP, -⟩ := className_of_methodNamed hnamed
  have hinitP : kP.init = .initialized := Cond.initialized_spec (findClass_of_methodNamed hnamed) hkP hinit
  obtain ⟨vm₁, X₁, hstep₁⟩ := X.invokestatic hexec hown hlink hnamed hmethM hstatic hkP hinitP hy (g := g) hg (argsL := argsL) (rest := rest) (hlen _ hsigM) hstack hdg
  rcases hK m meth c ⟨T.setVm vm₁, locs, cells, slots⟩ { g with stack := rest } (.invokestatic index) mk argsL.toArray X₁ hg hsize hdg hW (X₁.named hnamed) (hpre vm₁ X₁.warmed) with ⟨v, B, X', hpost, hsteps⟩ | ⟨q, B, X', hpost, hsteps⟩
  · exact Or.inl ⟨v, vm₁, B, X₁.warmed, X', hpost, fun target h => hstep₁ _ fun acts => by rw [doInvoke_state]; exact hsteps.trans h⟩
  · exact Or.inr ⟨q, vm₁, B, X₁.warmed, X', hpost, hstep₁ _ fun acts => by rw [doInvoke_state]; exact hsteps⟩
end Calls
theorem vx_cls {s : State} {T : State} {vm₁ : Vm} {E : String} {k : ClassId} (hW : s.WarmedH vm₁) (h : (T.setVm vm₁).vm.findClass E = some k) : s.vm.findClass E = some k := by
  have h1 : vm₁.findClass E = some k := h
  rw [hW.alike.findClass] at h1
  exact h1
/-- the method's frame g, with q thrown over it -/
def vx_W (p : Program) (l : Launch) (e : Env) (R : Room) (s : State) (m : MethodId) (args : Array Value) (below : List Frame) (meth : Method) (c : Code) (H : Heap) (locs : List Loc) (cells slots : Nat) (Q : State → Prop) (g : JFrame) (q : Addr) : Prop :=
  ∀ T : State, T.heap = H → Stand p l e R s m args below meth c T locs cells slots → ∃ t, Steps p.tables e below ((T.setTop g).pushFrame (.throwing q)) t ∧ Q t
def vx_Run (p : Program) (l : Launch) (e : Env) (R : Room) (s : State) (m : MethodId) (args : Array Value) (below : List Frame) (meth : Method) (c : Code) (H : Heap) (locs : List Loc) (cells slots mc ms : Nat) (g : JFrame) (rest : List Value) (Qa : State → Outcome → State → Prop) (XC : String → State → State → Prop) (free : Addr → Prop) : Prop :=
  ∀ T : State, T.heap = H → Stand p l e R s m args below meth c T locs cells slots →
    (∃ (v : Option Value) (st₀ t T' : State) (L : List Loc), st₀.heap = H ∧ Stand p l e R s m args below meth c T' (locs ++ L) (cells + mc) (slots + ms) ∧ (∀ q ∈ L, free q.base) ∧ T'.heap = t.heap ∧ T'.vm = t.vm ∧ Qa st₀ (.returned v) t ∧
      Goes p e below T g T' { g with pc := g.pc + 3, stack := v.toList ++ rest }) ∨
    (∃ (q : Addr) (st₀ t T' : State) (L : List Loc) (E : String) (ce : Cell), st₀.heap = H ∧ Stand p l e R s m args below meth c T' (locs ++ L) (cells + mc) (slots + ms) ∧ (∀ z ∈ L, free z.base) ∧ T'.heap = t.heap ∧ T'.vm = t.vm ∧ XC E st₀ t ∧ t.heap[q]? = some ce ∧ ce.vm = .none ∧ s.vm.findClass E = some ce.cls ∧
      Steps p.tables e below (T.setTop g) ((T'.setTop { g with stack := rest }).pushFrame (.throwing q)))
def vx_X {S : Type} (px : S → Prop) (B : String → S → State → Prop) (A : Nat → Prop) : String → State → State → Prop := fun E st t => ∃ u : S, px u ∧ B E u t ∧ va_F A st t
section Runs
variable {p : Program} {l : Launch} {e : Env} {R : Room} {s : State} {m : MethodId} {args : Array Value} {below : List Frame} {meth : Method} {c : Code} {H : Heap} {locs : List Loc} {cells slots : Nat}
variable {y : MethodName} {bytes cc : ByteArray} {maxL nL mc ms n index : Nat} {ret : Option FieldType} {ws : List Cond} {rm : Room} {Pc : Array Value → State → Prop} {Qc : Array Value → State → Outcome → State → Prop} {XC : String → State → State → Prop} {free : Addr → Prop} {Ts : List Cond} {own C : String} {b : Addr} {As rest : List Value} {g : JFrame}
theorem vx_callBack (cb : CallB R s args own index y bytes maxL ret ws rm mc ms n) (hM : vx_Met l y ws rm Pc Qc XC mc ms free) (hbl : FrameBlind Pc) : vx_Back l R p e below s args y 3 8 (PreOf R mc ms Pc) (PostOf Qc mc ms free) (vx_Post XC mc ms free) := by
  obtain ⟨hrc, hrs, hfr, hlo, hws, hcw, -, hini, -⟩ := cb
  exact vx_back (bytes := bytes) (maxL := maxL) (ret := ret) hM hbl hrc hrs hfr hlo hws hcw (fun a' U hW => word_at hW (Or.inl (by first | rfl | simp [Cond.onTables, Cond.keeps, Cond.steady])) hini)
theorem vx_runV (S : CallFix p m c cc nL s args Ts own) (hM : vx_Met l y ws rm Pc Qc XC mc ms free) (cw : CallW R s args own C index y bytes maxL ret ws rm mc ms n) (hp : PreV s H C b Pc As)
    (hg : g.method = m) (hn : As.length = n) (hsize : g.locals.size = nL) (hstack : g.stack = As.reverse ++ .ref b :: rest) (hW : 2 * g.monitorRoom + (rest.map fun v => v.category).sum ≤ 8) (hdg : decode cc g.pc = .ok (.invokevirtual index, 3)) (hf : cells + mc ≤ R.cells ∧ slots + ms ≤ R.slots) :
    vx_Run p l e R s m args below meth c H locs cells slots mc ms g rest (Qc (Value.ref b :: As).toArray) XC free := by
  have hK : vx_Back l R p e below s args y 3 8 (PreOf R mc ms Pc) (PostOf Qc mc ms free) (vx_Post XC mc ms free) := vx_callBack cw.1 hM hp.1
  obtain ⟨⟨-, -, -, -, -, -, hcode, -, hy, hlen, hl⟩, hin, hse⟩ := cw
  obtain ⟨hx, hb, hml, ho, -⟩ := S
  obtain ⟨-, ⟨cellB, hcB, hoB, hclB⟩, hPc⟩ := hp
  intro T hT X
  rcases vx_callV X hx (C := C) (bytes := bytes) (maxL := maxL) (ret := ret) ho hl hin hse hcode hy hK (by rw [hT]; exact hcB) hoB hclB hg (hsize.trans hml.symm) (argsL := As) (rest := rest) (fun sig h => hn.trans (hlen sig h)) hstack hW (by rw [hb]; exact hdg)
    (fun vm₁ hW₁ => ⟨hf.1, hf.2, hPc (T.setVm vm₁) hT hW₁⟩) with ⟨v, vm₁, ⟨U', l2, c2, s2⟩, hW₁, X', ⟨g', mk, t, L, e1, e2, hq, h1, hL, h2, h3⟩, st⟩ | ⟨q, vm₁, ⟨U', l2, c2, s2⟩, hW₁, X', ⟨g', mk, t, L, E, ce, e1, e2, hq, hce, hcv, hcl, h1, hL, h2, h3⟩, st⟩
  · dsimp only [Pt.U, Pt.locs, Pt.cells, Pt.slots] at X' e1 e2 h1 h2 h3 st
    subst h1; subst h2; subst h3
    exact Or.inl ⟨v, (T.setVm vm₁).calling g' mk (Value.ref b :: As).toArray, t, U', L, hT, X', hL, e1, e2, hq, st⟩
  · dsimp only [Pt.U, Pt.locs, Pt.cells, Pt.slots] at X' e1 e2 h1 h2 h3 st hcl
    subst h1; subst h2; subst h3
    exact Or.inr ⟨q, (T.setVm vm₁).calling g' mk (Value.ref b :: As).toArray, t, U', L, E, ce, hT, X', hL, e1, e2, hq, hce, hcv, vx_cls hW₁ hcl, st⟩
theorem vx_runS (S : CallFix p m c cc nL s args Ts own) (hM : vx_Met l y ws rm Pc Qc XC mc ms free) (cw : CallB R s args own index y bytes maxL ret ws rm mc ms n ∧ (Cond.static y).before args s = true) (hp : PreS s H Pc As)
    (hg : g.method = m) (hn : As.length = n) (hsize : g.locals.size = nL) (hstack : g.stack = As.reverse ++ rest) (hW : 2 * g.monitorRoom + (rest.map fun v => v.category).sum ≤ 8) (hdg : decode cc g.pc = .ok (.invokestatic index, 3)) (hf : cells + mc ≤ R.cells ∧ slots + ms ≤ R.slots) :
    vx_Run p l e R s m args below meth c H locs cells slots mc ms g rest (Qc As.toArray) XC free := by
  have hK : vx_Back l R p e below s args y 3 8 (PreOf R mc ms Pc) (PostOf Qc mc ms free) (vx_Post XC mc ms free) := vx_callBack cw.1 hM hp.1
  obtain ⟨⟨-, -, -, -, -, -, hcode, hini, hy, hlen, hl⟩, hstt⟩ := cw
  obtain ⟨hx, hb, hml, ho, -⟩ := S
  intro T hT X
  rcases vx_callS X hx (bytes := bytes) (maxL := maxL) (ret := ret) ho hl hstt hini hcode hy hK hg (hsize.trans hml.symm) (argsL := As) (rest := rest) (fun sig h => hn.trans (hlen sig h)) hstack hW (by rw [hb]; exact hdg)
    (fun vm₁ hW₁ => ⟨hf.1, hf.2, hp.2 (T.setVm vm₁) hT hW₁⟩) with ⟨v, vm₁, ⟨U', l2, c2, s2⟩, hW₁, X', ⟨g', mk, t, L, e1, e2, hq, h1, hL, h2, h3⟩, st⟩ | ⟨q, vm₁, ⟨U', l2, c2, s2⟩, hW₁, X', ⟨g', mk, t, L, E, ce, e1, e2, hq, hce, hcv, hcl, h1, hL, h2, h3⟩, st⟩
  · dsimp only [Pt.U, Pt.locs, Pt.cells, Pt.slots] at X' e1 e2 h1 h2 h3 st
    subst h1; subst h2; subst h3
    exact Or.inl ⟨v, (T.setVm vm₁).calling g' mk As.toArray, t, U', L, hT, X', hL, e1, e2, hq, st⟩
  · dsimp only [Pt.U, Pt.locs, Pt.cells, Pt.slots] at X' e1 e2 h1 h2 h3 st hcl
    subst h1; subst h2; subst h3
    exact Or.inr ⟨q, (T.setVm vm₁).calling g' mk As.toArray, t, U', L, E, ce, hT, X', hL, e1, e2, hq, hce, hcv, vx_cls hW₁ hcl, st⟩
end Runs
section Rows
variable {p : Program} {l : Launch} {e : Env} {R : Room} {s : State} {m : MethodId} {args : Array Value} {below : List Frame} {meth : Method} {c : Code} {H : Heap} {locs : List Loc} {cells slots : Nat} {Q : State → Prop}
variable {mc ms : Nat} {free : Addr → Prop} {A0 A1 : Nat → Prop} {H0 : Heap} {a : Array Value} {pc : Nat} {ls : Array Slot} {st0 rest : List Value}
theorem vx_keep {st₀ t T' : State} {L : List Loc} (h0 : st₀.heap = H) (e1 : T'.heap = t.heap) (hS : va_S A0 H0 H locs) (hA : ∀ q, q < H.size → A1 q → A0 q) (hf : ∀ q, free q → A0 q) (hL : ∀ q ∈ L, free q.base) (hF : va_F A1 st₀ t) :
    H.size ≤ T'.heap.size ∧ (∀ q : Nat, q < H.size → ¬ A1 q → T'.heap[q]? = H[q]?) ∧ va_S A0 H0 T'.heap (locs ++ L) := by
  obtain ⟨hz, hk⟩ := hF
  rw [h0] at hz hk
  exact ⟨by rw [e1]; exact hz, fun q h1 h2 => by rw [e1]; exact hk q h1 h2,
    ⟨Nat.le_trans hS.1 (by rw [e1]; exact hz), fun q h1 h2 => by rw [e1, hk q (Nat.lt_of_lt_of_le h1 hS.1) (fun z => h2 (hA q (Nat.lt_of_lt_of_le h1 hS.1) z))]; exact hS.2.1 q h1 h2, fun q hq => by
      rcases List.mem_append.mp hq with h | h
      · exact hS.2.2 q h
      · exact hf _ (hL q h)⟩⟩
theorem vx_calli {S SX : Type} {post : Int32 → S → Prop} {px : SX → Prop} {B : S → State → Prop} {BX : String → SX → State → Prop} {AX : Nat → Prop} (hr : vx_Run p l e R s m args below meth c H locs cells slots mc ms (F0 m pc ls st0) rest (va_Qi post B A1 a) (vx_X px BX AX) free) (hS : va_S A0 H0 H locs) (hA : ∀ q, q < H.size → A1 q → A0 q) (hf : ∀ q, free q → A0 q) (hAX : ∀ q, q < H.size → AX q → A0 q)
    (kx : ∀ (E : String) (ce : Cell) (q9 : Addr) (u : SX) (t : State) (H1 : Heap) (locs1 : List Loc), t.heap = H1 → s.vm.Alike t.vm → px u → BX E u t → H.size ≤ H1.size → (∀ q : Nat, q < H.size → ¬ AX q → H1[q]? = H[q]?) → va_S A0 H0 H1 locs1 → H1[q9]? = some ce → ce.vm = .none → s.vm.findClass E = some ce.cls → vx_W p l e R s m args below meth c H1 locs1 (cells + mc) (slots + ms) Q (F0 m pc ls rest) q9)
    (kk : ∀ (r : Int32) (u : S) (t : State) (H1 : Heap) (locs1 : List Loc), t.heap = H1 → s.vm.Alike t.vm → post r u → B u t → H.size ≤ H1.size → (∀ q : Nat, q < H.size → ¬ A1 q → H1[q]? = H[q]?) → va_S A0 H0 H1 locs1 → W p l e R s m args below meth c H1 locs1 (cells + mc) (slots + ms) Q (F0 m (pc + 3) ls (.int r :: rest))) : W p l e R s m args below meth c H locs cells slots Q (F0 m pc ls st0) := by
  intro T hT X
  rcases hr T hT X with ⟨v, st₀, t, T', L, h0, X', hL, e1, e2, ⟨⟨r, u, hv, hp, hb⟩, hF⟩, st⟩ | ⟨q, st₀, t, T', L, E, ce, h0, X', hL, e1, e2, ⟨u, hp, hb, hF⟩, hce, hcv, hcl, st⟩
  · cases hv
    obtain ⟨k1, k2, k3⟩ := vx_keep h0 e1 hS hA hf hL hF
    obtain ⟨t2, a1, b1⟩ := kk r u t T'.heap (locs ++ L) e1.symm (by rw [← e2]; exact X'.warmed.alike) hp hb k1 k2 k3 T' rfl X'
    exact ⟨t2, st t2 a1, b1⟩
  · obtain ⟨k1, k2, k3⟩ := vx_keep h0 e1 hS hAX hf hL hF
    obtain ⟨t2, a1, b1⟩ := kx E ce q u t T'.heap (locs ++ L) e1.symm (by rw [← e2]; exact X'.warmed.alike) hp hb k1 k2 k3 (by rw [e1]; exact hce) hcv hcl T' rfl X'
    exact ⟨t2, st.trans a1, b1⟩
theorem vx_calll {S SX : Type} {post : Int64 → S → Prop} {px : SX → Prop} {B : S → State → Prop} {BX : String → SX → State → Prop} {AX : Nat → Prop} (hr : vx_Run p l e R s m args below meth c H locs cells slots mc ms (F0 m pc ls st0) rest (va_Ql post B A1 a) (vx_X px BX AX) free) (hS : va_S A0 H0 H locs) (hA : ∀ q, q < H.size → A1 q → A0 q) (hf : ∀ q, free q → A0 q) (hAX : ∀ q, q < H.size → AX q → A0 q)
    (kx : ∀ (E : String) (ce : Cell) (q9 : Addr) (u : SX) (t : State) (H1 : Heap) (locs1 : List Loc), t.heap = H1 → s.vm.Alike t.vm → px u → BX E u t → H.size ≤ H1.size → (∀ q : Nat, q < H.size → ¬ AX q → H1[q]? = H[q]?) → va_S A0 H0 H1 locs1 → H1[q9]? = some ce → ce.vm = .none → s.vm.findClass E = some ce.cls → vx_W p l e R s m args below meth c H1 locs1 (cells + mc) (slots + ms) Q (F0 m pc ls rest) q9)
    (kk : ∀ (r : Int64) (u : S) (t : State) (H1 : Heap) (locs1 : List Loc), t.heap = H1 → s.vm.Alike t.vm → post r u → B u t → H.size ≤ H1.size → (∀ q : Nat, q < H.size → ¬ A1 q → H1[q]? = H[q]?) → va_S A0 H0 H1 locs1 → W p l e R s m args below meth c H1 locs1 (cells + mc) (slots + ms) Q (F0 m (pc + 3) ls (.long r :: rest))) : W p l e R s m args below meth c H locs cells slots Q (F0 m pc ls st0) := by
  intro T hT X
  rcases hr T hT X with ⟨v, st₀, t, T', L, h0, X', hL, e1, e2, ⟨⟨r, u, hv, hp, hb⟩, hF⟩, st⟩ | ⟨q, st₀, t, T', L, E, ce, h0, X', hL, e1, e2, ⟨u, hp, hb, hF⟩, hce, hcv, hcl, st⟩
  · cases hv
    obtain ⟨k1, k2, k3⟩ := vx_keep h0 e1 hS hA hf hL hF
    obtain ⟨t2, a1, b1⟩ := kk r u t T'.heap (locs ++ L) e1.symm (by rw [← e2]; exact X'.warmed.alike) hp hb k1 k2 k3 T' rfl X'
    exact ⟨t2, st t2 a1, b1⟩
  · obtain ⟨k1, k2, k3⟩ := vx_keep h0 e1 hS hAX hf hL hF
    obtain ⟨t2, a1, b1⟩ := kx E ce q u t T'.heap (locs ++ L) e1.symm (by rw [← e2]; exact X'.warmed.alike) hp hb k1 k2 k3 (by rw [e1]; exact hce) hcv hcl T' rfl X'
    exact ⟨t2, st.trans a1, b1⟩
theorem vx_callf {S SX : Type} {post : UInt32 → S → Prop} {px : SX → Prop} {B : S → State → Prop} {BX : String → SX → State → Prop} {AX : Nat → Prop} (hr : vx_Run p l e R s m args below meth c H locs cells slots mc ms (F0 m pc ls st0) rest (va_Qf post B A1 a) (vx_X px BX AX) free) (hS : va_S A0 H0 H locs) (hA : ∀ q, q < H.size → A1 q → A0 q) (hf : ∀ q, free q → A0 q) (hAX : ∀ q, q < H.size → AX q → A0 q)
    (kx : ∀ (E : String) (ce : Cell) (q9 : Addr) (u : SX) (t : State) (H1 : Heap) (locs1 : List Loc), t.heap = H1 → s.vm.Alike t.vm → px u → BX E u t → H.size ≤ H1.size → (∀ q : Nat, q < H.size → ¬ AX q → H1[q]? = H[q]?) → va_S A0 H0 H1 locs1 → H1[q9]? = some ce → ce.vm = .none → s.vm.findClass E = some ce.cls → vx_W p l e R s m args below meth c H1 locs1 (cells + mc) (slots + ms) Q (F0 m pc ls rest) q9)
    (kk : ∀ (r : UInt32) (u : S) (t : State) (H1 : Heap) (locs1 : List Loc), t.heap = H1 → s.vm.Alike t.vm → post r u → B u t → H.size ≤ H1.size → (∀ q : Nat, q < H.size → ¬ A1 q → H1[q]? = H[q]?) → va_S A0 H0 H1 locs1 → W p l e R s m args below meth c H1 locs1 (cells + mc) (slots + ms) Q (F0 m (pc + 3) ls (.float r :: rest))) : W p l e R s m args below meth c H locs cells slots Q (F0 m pc ls st0) := by
  intro T hT X
  rcases hr T hT X with ⟨v, st₀, t, T', L, h0, X', hL, e1, e2, ⟨⟨r, u, hv, hp, hb⟩, hF⟩, st⟩ | ⟨q, st₀, t, T', L, E, ce, h0, X', hL, e1, e2, ⟨u, hp, hb, hF⟩, hce, hcv, hcl, st⟩
  · cases hv
    obtain ⟨k1, k2, k3⟩ := vx_keep h0 e1 hS hA hf hL hF
    obtain ⟨t2, a1, b1⟩ := kk r u t T'.heap (locs ++ L) e1.symm (by rw [← e2]; exact X'.warmed.alike) hp hb k1 k2 k3 T' rfl X'
    exact ⟨t2, st t2 a1, b1⟩
  · obtain ⟨k1, k2, k3⟩ := vx_keep h0 e1 hS hAX hf hL hF
    obtain ⟨t2, a1, b1⟩ := kx E ce q u t T'.heap (locs ++ L) e1.symm (by rw [← e2]; exact X'.warmed.alike) hp hb k1 k2 k3 (by rw [e1]; exact hce) hcv hcl T' rfl X'
    exact ⟨t2, st.trans a1, b1⟩
theorem vx_calld {S SX : Type} {post : UInt64 → S → Prop} {px : SX → Prop} {B : S → State → Prop} {BX : String → SX → State → Prop} {AX : Nat → Prop} (hr : vx_Run p l e R s m args below meth c H locs cells slots mc ms (F0 m pc ls st0) rest (va_Qd post B A1 a) (vx_X px BX AX) free) (hS : va_S A0 H0 H locs) (hA : ∀ q, q < H.size → A1 q → A0 q) (hf : ∀ q, free q → A0 q) (hAX : ∀ q, q < H.size → AX q → A0 q)
    (kx : ∀ (E : String) (ce : Cell) (q9 : Addr) (u : SX) (t : State) (H1 : Heap) (locs1 : List Loc), t.heap = H1 → s.vm.Alike t.vm → px u → BX E u t → H.size ≤ H1.size → (∀ q : Nat, q < H.size → ¬ AX q → H1[q]? = H[q]?) → va_S A0 H0 H1 locs1 → H1[q9]? = some ce → ce.vm = .none → s.vm.findClass E = some ce.cls → vx_W p l e R s m args below meth c H1 locs1 (cells + mc) (slots + ms) Q (F0 m pc ls rest) q9)
    (kk : ∀ (r : UInt64) (u : S) (t : State) (H1 : Heap) (locs1 : List Loc), t.heap = H1 → s.vm.Alike t.vm → post r u → B u t → H.size ≤ H1.size → (∀ q : Nat, q < H.size → ¬ A1 q → H1[q]? = H[q]?) → va_S A0 H0 H1 locs1 → W p l e R s m args below meth c H1 locs1 (cells + mc) (slots + ms) Q (F0 m (pc + 3) ls (.double r :: rest))) : W p l e R s m args below meth c H locs cells slots Q (F0 m pc ls st0) := by
  intro T hT X
  rcases hr T hT X with ⟨v, st₀, t, T', L, h0, X', hL, e1, e2, ⟨⟨r, u, hv, hp, hb⟩, hF⟩, st⟩ | ⟨q, st₀, t, T', L, E, ce, h0, X', hL, e1, e2, ⟨u, hp, hb, hF⟩, hce, hcv, hcl, st⟩
  · cases hv
    obtain ⟨k1, k2, k3⟩ := vx_keep h0 e1 hS hA hf hL hF
    obtain ⟨t2, a1, b1⟩ := kk r u t T'.heap (locs ++ L) e1.symm (by rw [← e2]; exact X'.warmed.alike) hp hb k1 k2 k3 T' rfl X'
    exact ⟨t2, st t2 a1, b1⟩
  · obtain ⟨k1, k2, k3⟩ := vx_keep h0 e1 hS hAX hf hL hF
    obtain ⟨t2, a1, b1⟩ := kx E ce q u t T'.heap (locs ++ L) e1.symm (by rw [← e2]; exact X'.warmed.alike) hp hb k1 k2 k3 (by rw [e1]; exact hce) hcv hcl T' rfl X'
    exact ⟨t2, st.trans a1, b1⟩
theorem vx_callv {S SX : Type} {post : S → Prop} {px : SX → Prop} {B : S → State → Prop} {BX : String → SX → State → Prop} {AX : Nat → Prop} (hr : vx_Run p l e R s m args below meth c H locs cells slots mc ms (F0 m pc ls st0) rest (va_Qv post B A1 a) (vx_X px BX AX) free) (hS : va_S A0 H0 H locs) (hA : ∀ q, q < H.size → A1 q → A0 q) (hf : ∀ q, free q → A0 q) (hAX : ∀ q, q < H.size → AX q → A0 q)
    (kx : ∀ (E : String) (ce : Cell) (q9 : Addr) (u : SX) (t : State) (H1 : Heap) (locs1 : List Loc), t.heap = H1 → s.vm.Alike t.vm → px u → BX E u t → H.size ≤ H1.size → (∀ q : Nat, q < H.size → ¬ AX q → H1[q]? = H[q]?) → va_S A0 H0 H1 locs1 → H1[q9]? = some ce → ce.vm = .none → s.vm.findClass E = some ce.cls → vx_W p l e R s m args below meth c H1 locs1 (cells + mc) (slots + ms) Q (F0 m pc ls rest) q9)
    (kk : ∀ (u : S) (t : State) (H1 : Heap) (locs1 : List Loc), t.heap = H1 → s.vm.Alike t.vm → post u → B u t → H.size ≤ H1.size → (∀ q : Nat, q < H.size → ¬ A1 q → H1[q]? = H[q]?) → va_S A0 H0 H1 locs1 → W p l e R s m args below meth c H1 locs1 (cells + mc) (slots + ms) Q (F0 m (pc + 3) ls (rest))) : W p l e R s m args below meth c H locs cells slots Q (F0 m pc ls st0) := by
  intro T hT X
  rcases hr T hT X with ⟨v, st₀, t, T', L, h0, X', hL, e1, e2, ⟨⟨u, hv, hp, hb⟩, hF⟩, st⟩ | ⟨q, st₀, t, T', L, E, ce, h0, X', hL, e1, e2, ⟨u, hp, hb, hF⟩, hce, hcv, hcl, st⟩
  · cases hv
    obtain ⟨k1, k2, k3⟩ := vx_keep h0 e1 hS hA hf hL hF
    obtain ⟨t2, a1, b1⟩ := kk u t T'.heap (locs ++ L) e1.symm (by rw [← e2]; exact X'.warmed.alike) hp hb k1 k2 k3 T' rfl X'
    exact ⟨t2, st t2 a1, b1⟩
  · obtain ⟨k1, k2, k3⟩ := vx_keep h0 e1 hS hAX hf hL hF
    obtain ⟨t2, a1, b1⟩ := kx E ce q u t T'.heap (locs ++ L) e1.symm (by rw [← e2]; exact X'.warmed.alike) hp hb k1 k2 k3 (by rw [e1]; exact hce) hcv hcl T' rfl X'
    exact ⟨t2, st.trans a1, b1⟩
/-- caught by the row x of this method's table; the rows ahead don't take it -/
theorem vx_catch {own name : String} {E : String} {ce : Cell} {q : Addr} (hown : s.vm.findClass own = some m.cls) (pre : List ExceptionTableEntry) (x : ExceptionTableEntry) (suf : List ExceptionTableEntry) (hsplit : c.exceptionTable.toList = pre ++ x :: suf)
    (hpass : ∀ z ∈ pre, covers z pc = false ∨ (z.catchType ≠ 0 ∧ ∃ nm : String, (Cond.classLink own z.catchType nm).before args s = true ∧ va_Nc E nm s)) (hx : covers x pc = true) (h0 : x.catchType ≠ 0)
    (hlink : (Cond.classLink own x.catchType name).before args s = true) (hcast : (Cond.castable E name).before args s = true) (hcell : H[q]? = some ce) (hv : ce.vm = .none) (hcl : s.vm.findClass E = some ce.cls)
    (kk : W p l e R s m args below meth c H locs cells slots Q (F0 m x.handlerPc ls [.ref q])) : vx_W p l e R s m args below meth c H locs cells slots Q (F0 m pc ls rest) q := by
  intro T hT X
  have hpl : e.platform.magicAccessors = ({} : Platform).magicAccessors := by rw [X.admits.platform]
  obtain ⟨c3, c4, hc3, hc4, hasg⟩ := Cond.castable_spec hcast
  cases Option.some.inj (hc3.symm.trans hcl)
  obtain ⟨c5, hc5, hcl5⟩ := Cond.classLink_spec hown hlink e.platform hpl
  cases Option.some.inj (hc4.symm.trans hc5)
  obtain ⟨vm', X', st⟩ := X.thenCaughtThrough q (g := F0 m pc ls rest) rfl (Steps.refl _) (by rw [hT]; exact hcell) (by rw [hv]; rfl) (by obtain ⟨k9, h9, -⟩ := Vm.findClass_spec hcl; exact ⟨k9, h9⟩) pre x suf hsplit
    (fun z hz => by
      rcases hpass z hz with h | ⟨hz0, nm, hl1, hn1⟩
      · exact Or.inl h
      · obtain ⟨c6, hc6, hcl6⟩ := Cond.classLink_spec hown hl1 e.platform hpl
        obtain ⟨a8, b8, h1, h2, h3⟩ := hn1
        cases Option.some.inj (h1.symm.trans hcl)
        cases Option.some.inj (h2.symm.trans hc6)
        exact Or.inr ⟨hz0, _, hcl6, h3⟩) hx (Or.inr ⟨h0, c4, hcl5, hasg⟩)
  obtain ⟨t, a1, b1⟩ := kk (T.setVm vm') hT X'
  exact ⟨t, st.trans a1, b1⟩
end Rows
section Ends
variable {p : Program} {l : Launch} {e : Env} {R : Room} {s : State} {m : MethodId} {args : Array Value} {below : List Frame} {meth : Method} {c : Code} {H : Heap} {locs : List Loc} {cells slots : Nat} {Q : State → Prop}
variable {mc ms : Nat} {free : Addr → Prop} {A0 A1 : Nat → Prop} {H0 : Heap} {a : Array Value} {ls : Array Slot} {st0 rest : List Value}
variable {Qc : Array Value → State → Outcome → State → Prop} {XC : String → State → State → Prop}
/-- what a body that may throw owes at its end -/
def vx_MQ (below : List Frame) (Qc : Array Value → State → Outcome → State → Prop) (XC : String → State → State → Prop) (a : Array Value) (s : State) (mc ms : Nat) (free : Addr → Prop) : State → Prop := fun t =>
  ∃ o, t.status = .running ∧ Ended t below o ∧ vx_Q Qc XC mc ms free a s o t
theorem vx_ret {g : JFrame} {mc ms : Nat} (k : W p l e R s m args below meth c H locs cells slots (MQ below Qc args s mc ms free) g) : W p l e R s m args below meth c H locs cells slots (vx_MQ below Qc XC args s mc ms free) g := by
  intro T hT X
  obtain ⟨t, a1, o, b1, b2, b3, b4⟩ := k T hT X
  exact ⟨t, a1, o, b1, b2, Or.inl ⟨b3, b4⟩⟩
/-- not caught here: it goes on to the caller -/
theorem vx_widen {g : JFrame} {q : Addr} {k n : Nat} (h1 : cells ≤ k) (h2 : slots ≤ n) (kk : vx_W p l e R s m args below meth c H locs k n Q g q) : vx_W p l e R s m args below meth c H locs cells slots Q g q := fun T hT X => kk T hT (stand_widen X h1 h2)
theorem vx_out {pc : Nat} {E : String} {ce : Cell} {q : Addr} {mc ms : Nat} (hout : ∀ x ∈ c.exceptionTable.toList, covers x pc = false) (hlocks : meth.locks = false) (hcell : H[q]? = some ce) (hv : ce.vm = .none) (hcl : s.vm.findClass E = some ce.cls)
    (hx : ∀ t : State, t.heap = H → s.vm.Alike t.vm → XC E s t) (hf : ∀ z ∈ locs, free z.base) (hc : cells ≤ mc) (hs : slots ≤ ms) :
    vx_W p l e R s m args below meth c H locs cells slots (vx_MQ below Qc XC args s mc ms free) (F0 m pc ls rest) q := by
  intro T hT X
  obtain ⟨st1, hrun, hend, hW, hsm⟩ := X.leaveThrown q (g := F0 m pc ls rest) rfl rfl rfl hout hlocks
  have hcell9 : (T.setFrames (.throwing q :: below)).heap[q]? = some ce := by
    show T.heap[q]? = some ce
    rw [hT]; exact hcell
  exact ⟨_, st1, .threw q, hrun, hend, Or.inr ⟨q, rfl, E, ce, locs, hx _ hT hW.alike, hcell9, hv, hcl, hW, hsm.mono hc hs, hf⟩⟩
theorem vx_frame {U : State} {k n : Nat} (h : s.sameButNew ({ U with vm := s.vm } : State) locs k n) : s.heap.size ≤ U.heap.size ∧ ∀ q : Nat, q < s.heap.size → (∀ z ∈ locs, z.base ≠ q) → U.heap[q]? = s.heap[q]? := by
  obtain ⟨-, h2, -, -, -, h6⟩ := h
  refine ⟨h2, fun q hq hz => ?_⟩
  obtain ⟨c9, e1, e2, e3, e4⟩ := h6 q _ (Array.getElem?_eq_getElem hq)
  have hs : c9.slots = (s.heap[q]).slots := Array.ext_getElem? fun i => e4 i fun hm => hz _ hm rfl
  have h9 : c9 = s.heap[q] := by
    rw [hs] at e2
    exact e2
  have e5 : U.heap[q]? = some c9 := e1
  rw [e5, h9, Array.getElem?_eq_getElem hq]
/-- the words of a throw but the four that speak of the heap -/
def vx_no (w : Cond) : Bool := decide (w ≠ .isRef (.static Bundle.tN "UNASSIGNED_STACK" Bundle.steD)) && decide (w ≠ .isRef (.static Bundle.tN "SUPPRESSED_SENTINEL" Bundle.listD)) && decide (w ≠ .laysStatic Bundle.tN "UNASSIGNED_STACK" Bundle.steD) && decide (w ≠ .laysStatic Bundle.tN "SUPPRESSED_SENTINEL" Bundle.listD)
def vx_at0 (own : String) (ic : Nat) (X : String) (names : List String) : List Cond := (Bundle.ownAtoms0 own ic X names).filter vx_no
def vx_atS (own : String) (ic : Nat) (X : String) (names : List String) : List Cond := (Bundle.ownAtoms own ic X names).filter vx_no
/-- a word that the tables alone decide, or a good one -/
def vx_ot (w : Cond) : Bool := w.onTables || goodWord w
theorem vx_ot_at {args a' : Array Value} {s U : State} {w : Cond} (hW : s.WarmedH U.vm) (hvm : s.vm = U.vm) (hg : vx_ot w = true) (h : w.before args s = true) : w.before a' U = true := by
  simp only [vx_ot, Bool.or_eq_true] at hg
  rcases hg with hg | hg
  · exact va_tabs hg hvm h
  · exact word_at hW (good_of_word hg) h
/-- a list's words: the good ones out of the method's own list, the others by premises of their own -/
theorem vx_hat {args : Array Value} {s : State} {L B : List Cond} (h1 : ∀ w ∈ L.filter goodWord, w.before args s = true) (h2 : ∀ w ∈ L.filter (fun w => !goodWord w), w ∈ B) (h3 : ∀ w ∈ B, w.before args s = true) : ∀ w ∈ L, w.before args s = true := by
  intro w hw
  by_cases g : goodWord w = true
  · exact h1 w (List.mem_filter.mpr ⟨hw, g⟩)
  · refine h3 w (h2 w (List.mem_filter.mpr ⟨hw, ?_⟩))
    show (!goodWord w) = true
    cases hgw : goodWord w
    · rfl
    · exact absurd hgw g
theorem vx_c {args : Array Value} {s : State} {w : Cond} {B : List Cond} (h : w.before args s = true) (t : ∀ w ∈ B, w.before args s = true) : ∀ w' ∈ w :: B, w'.before args s = true := fun w' h' => (List.mem_cons.mp h').elim (fun e => by rw [e]; exact h) (t w')
theorem vx_n {args : Array Value} {s : State} : ∀ w ∈ ([] : List Cond), w.before args s = true := fun _ h => nomatch h
theorem vx_own {args : Array Value} {s : State} {L : List Cond} (h1 : ∀ w ∈ L.filter vx_no, w.before args s = true)
    (hU : (Cond.isRef (.static Bundle.tN "UNASSIGNED_STACK" Bundle.steD)).before args s = true) (hN : (Cond.isRef (.static Bundle.tN "SUPPRESSED_SENTINEL" Bundle.listD)).before args s = true)
    (lU : (Cond.laysStatic Bundle.tN "UNASSIGNED_STACK" Bundle.steD).before args s = true) (lN : (Cond.laysStatic Bundle.tN "SUPPRESSED_SENTINEL" Bundle.listD).before args s = true) : ∀ w ∈ L, w.before args s = true := by
  intro w hw
  by_cases e1 : w = .isRef (.static Bundle.tN "UNASSIGNED_STACK" Bundle.steD)
  · rw [e1]; exact hU
  · by_cases e2 : w = .isRef (.static Bundle.tN "SUPPRESSED_SENTINEL" Bundle.listD)
    · rw [e2]; exact hN
    · by_cases e3 : w = .laysStatic Bundle.tN "UNASSIGNED_STACK" Bundle.steD
      · rw [e3]; exact lU
      · by_cases e4 : w = .laysStatic Bundle.tN "SUPPRESSED_SENTINEL" Bundle.listD
        · rw [e4]; exact lN
        · exact h1 w (List.mem_filter.mpr ⟨hw, by unfold vx_no; rw [decide_eq_true e1, decide_eq_true e2, decide_eq_true e3, decide_eq_true e4]; rfl⟩)
/-- where a static field lies, its class's statics cell in H -/
def vx_L (C n d : String) (A : Nat → Prop) (U : State) (H : Heap) : Prop := ∃ (c : ClassId) (k : Class) (i : Nat) (f : Field) (a : Nat) (cell : Cell), U.vm.findClass C = some c ∧ U.fieldFound? C n d = some (c, k, i, f) ∧ f.isStatic = true ∧ k.statics = some a ∧ H[a]? = some cell ∧ cell.vm.isStatics = true ∧ cell.cls = c ∧ f.slot < cell.slots.size ∧ k.staticTypes[f.slot]? = some f.type ∧ ¬ A a
theorem vx_L.moved {C n d : String} {A : Nat → Prop} {u U : State} {H : Heap} (hvm : u.vm.Alike U.vm) (h : vx_L C n d A u H) : vx_L C n d A U H := by
  obtain ⟨c, k, i, f, a, cell, h1, h2, h3, h4, h5, h6, h7, h8, h9, h10⟩ := h
  obtain ⟨k', hi', he⟩ := State.fieldFound?_setVm hvm h2
  exact ⟨c, k', i, f, a, cell, by rw [hvm.findClass]; exact h1, hi', h3, by rw [he]; exact h4, h5, h6, h7, h8, by rw [he]; exact h9, h10⟩
theorem vx_L.kept {C n d : String} {A : Nat → Prop} {U : State} {H H1 : Heap} (h : vx_L C n d A U H) (hq : ∀ a : Nat, a < H.size → ¬ A a → H1[a]? = H[a]?) : vx_L C n d A U H1 := by
  obtain ⟨c, k, i, f, a, cell, h1, h2, h3, h4, h5, h6, h7, h8, h9, h10⟩ := h
  exact ⟨c, k, i, f, a, cell, h1, h2, h3, h4, by rw [hq a (Array.getElem?_eq_some_iff.mp h5).1 h10]; exact h5, h6, h7, h8, h9, h10⟩
theorem vx_L.narrow {C n d : String} {A B : Nat → Prop} {U : State} {H : Heap} (h : vx_L C n d A U H) (hAB : ∀ q, B q → A q) : vx_L C n d B U H := by
  obtain ⟨c, k, i, f, a, cell, h1, h2, h3, h4, h5, h6, h7, h8, h9, h10⟩ := h
  exact ⟨c, k, i, f, a, cell, h1, h2, h3, h4, h5, h6, h7, h8, h9, fun z => h10 (hAB _ z)⟩
theorem vx_L.word {C n d : String} {A : Nat → Prop} {s : State} {args : Array Value} (h : vx_L C n d A s s.heap) : (Cond.laysStatic C n d).before args s = true := by
  obtain ⟨c, k, i, f, a, cell, h1, h2, h3, h4, h5, h6, h7, h8, h9, -⟩ := h
  show (Cond.laysStatic C n d).holds args s none s [] = true
  exact Cond.laysStatic_of h1 h2 h3 h4 h5 h6 h7 h8 h9
/-- .. and what it holds: null or some reference -/
def vx_Zq (C n d : String) (A : Nat → Prop) (U : State) (H : Heap) : Prop := va_Zq C n d A U H ∧ vx_L C n d A U H
theorem vx_Zq.moved {C n d : String} {A : Nat → Prop} {u U : State} {H : Heap} (hvm : u.vm.Alike U.vm) (h : vx_Zq C n d A u H) : vx_Zq C n d A U H := ⟨va_Zq.moved hvm h.1, vx_L.moved hvm h.2⟩
theorem vx_Zq.kept {C n d : String} {A : Nat → Prop} {U : State} {H H1 : Heap} (h : vx_Zq C n d A U H) (hq : ∀ a : Nat, a < H.size → ¬ A a → H1[a]? = H[a]?) : vx_Zq C n d A U H1 := ⟨va_Zq.kept h.1 hq, vx_L.kept h.2 hq⟩
theorem vx_Zq.narrow {C n d : String} {A B : Nat → Prop} {U : State} {H : Heap} (h : vx_Zq C n d A U H) (hAB : ∀ q, B q → A q) : vx_Zq C n d B U H := ⟨va_Zq.narrow h.1 hAB, vx_L.narrow h.2 hAB⟩
theorem vx_Zqof {args : Array Value} {s : State} {C n d : String} {A : Nat → Prop} (hl : (Cond.laysStatic C n d).before args s = true) (hini : (Cond.initialized C).before args s = true) (h : (Cond.isRef (.static C n d)).before args s = true) (hA : ∀ a : Nat, a < s.heap.size → ¬ A a) : vx_Zq C n d A s s.heap := by
  refine ⟨va_Zqof hl hini h hA, ?_⟩
  obtain ⟨c, k, i, f, a, cell, h1, h2, h3, h4, h5, h6, h7, h8, h9⟩ := Cond.laysStatic_spec hl
  exact ⟨c, k, i, f, a, cell, h1, h2, h3, h4, h5, h6, h7, h8, h9, hA a (Array.getElem?_eq_some_iff.mp h5).1⟩
theorem vx_isRef {C n d : String} {v : Value} {A : Nat → Prop} {s : State} {args : Array Value} (h : va_Z C n d v A s s.heap) (hv : v.isRef = true) : (Cond.isRef (.static C n d)).before args s = true := by
  obtain ⟨cf, kf, fi, f, a, cell, h1, h2, h3, h4, h5, h6, h7, -⟩ := h
  have he : (Term.static C n d).eval args s none [] s = some v := by
    simp [Term.eval, State.fieldNamed?, h1, h2, h4, h5, h6, h7]
  simp only [Cond.before, Cond.holds, Cond.value, he]
  cases v <;> simp_all [Value.isRef]
theorem vx_isRefq {C n d : String} {A : Nat → Prop} {s : State} {args : Array Value} (h : va_Zq C n d A s s.heap) : (Cond.isRef (.static C n d)).before args s = true := by
  rcases h with h | ⟨t, h⟩
  · exact vx_isRef h rfl
  · exact vx_isRef h rfl
/-- the same frame, seen from here: as if the method were called anew in this heap -/
theorem vx_rebase {T : State} (X : Stand p l e R s m args below meth c T locs cells slots) {R' : Room} (hf : R'.frames ≤ R.frames) (hl : R'.locals ≤ R.locals) (hc : cells + R'.cells ≤ R.cells) (hs : slots + R'.slots ≤ R.slots) :
    Stand p l e R' ((T.setVm s.vm).setFrames (.invoking m args :: below)) m args below meth c T [] 0 0 := by
  have htop : (T.setVm s.vm).topJava?.isSome := X.here.top
  have hF : ((T.setVm s.vm).setFrames (.invoking m args :: below)).frames = .invoking m args :: below := State.frames_setFrames _ (State.cur_lt_of_top htop)
  obtain ⟨g₀, hg0⟩ := Option.isSome_iff_exists.mp htop
  obtain ⟨r, hr⟩ := State.topJava?_eq_some.mp hg0
  have hl9 : e.platform.stackLimits (T.setVm s.vm).me = e.platform.stackLimits s.me := X.limits
  have hb9 : (T.setVm s.vm).me.stackBytes = s.me.stackBytes := X.bytes
  refine ⟨X.admits, X.cas, X.clock, hF, ?_, X.hears, X.method, X.code, X.here, X.tail, X.warmed, ?_, ?_, ?_⟩
  · have h := X.room
    have hU : ((T.setVm s.vm).setFrames (.invoking m args :: below)).localsInUse = s.localsInUse := by
      rw [State.localsInUse_invoking hF (meth := meth) (c := c) X.method X.code, State.localsInUse_invoking X.frames X.method X.code]
    simp only [State.hasRoom, Bool.and_eq_true, decide_eq_true_eq] at h ⊢
    obtain ⟨⟨⟨⟨h1, h2, h3, h4, h5, h6⟩, h7⟩, h8⟩, h9⟩ := h
    rw [X.frames, List.length_cons] at h2 h3
    have q1 := X.heapSize
    have q2 := X.used
    simp only [hF, hU, List.length_cons, State.stackLimits_setFrames, State.stackBytes_setFrames, hl9, hb9]
    refine ⟨⟨⟨⟨by omega, by omega, by omega, by omega, by omega, h6⟩, ?_⟩, ?_⟩, X.book⟩
    · show T.heap.size + R'.cells ≤ e.platform.maxCells
      omega
    · show T.slotsUsed + R'.slots ≤ e.platform.maxSlots
      omega
  · rw [State.stackLimits_setFrames]; rfl
  · rw [State.stackBytes_setFrames]; rfl
  · refine ⟨?_, Nat.le_refl _, Nat.le_refl _, ?_, ?_, fun a c9 h9 => ⟨c9, h9, rfl, rfl, fun _ _ => rfl⟩⟩
    · obtain ⟨t, ht, -⟩ := State.frames_cons hr
      show T.setVm s.vm = { ((T.setVm s.vm).setFrames (.invoking m args :: below)).setFrames (T.setVm s.vm).frames with heap := T.heap, slotsUsed := T.slotsUsed }
      rw [State.setFrames_setFrames, State.setFrames_self ht]
      rfl
    · show T.slotsUsed = T.slotsUsed + ((T.heap.toList.drop T.heap.size).map (·.slots.size)).sum
      rw [List.drop_eq_nil_of_le (Nat.le_of_eq Array.length_toList)]
      rfl
    · show ((T.heap.toList.drop T.heap.size).map (·.slots.size)).sum ≤ 0
      rw [List.drop_eq_nil_of_le (Nat.le_of_eq Array.length_toList)]
      exact Nat.le_refl _
/-- 'throw new E()': new; dup; invokespecial; athrow -/
theorem vx_throw0 {cc : ByteArray} {pc : Nat} (hexec : p.tables.exec = Jvm.exec) (hb : c.code = cc) (hl : l.stackTraces = false) {own cls : String} {names : List String} {ik ic mc ms : Nat} {A : Nat → Prop}
    (hown : s.vm.findClass own = some m.cls) (hcls : Bundle.fit cls = true) (hnames : ∀ n ∈ names, Bundle.fit n = true)
    (hk : (Cond.classLink own ik cls).before args s = true) (hini : (Cond.initialized cls).before args s = true) (hat : ∀ w ∈ vx_at0 own ic cls names, w.before args s = true)
    (hgood : ∀ w ∈ Cond.classLink own ik cls :: Cond.initialized cls :: vx_at0 own ic cls names, vx_ot w = true)
    (hU : vx_Zq Bundle.tN "UNASSIGNED_STACK" Bundle.steD A s s.heap) (hN : vx_Zq Bundle.tN "SUPPRESSED_SENTINEL" Bundle.listD A s s.heap) (hS : va_S A s.heap H locs) (hsize : ls.size = c.maxLocals)
    (d0 : decode cc pc = .ok (.new ik, 3)) (d3 : decode cc (pc + 3) = .ok (.dup, 1)) (d4 : decode cc (pc + 4) = .ok (.invokespecial ic, 3)) (d7 : decode cc (pc + 7) = .ok (.athrow, 1))
    (hout : ∀ x ∈ c.exceptionTable.toList, covers x (pc + 7) = false)
    (hRframes : names.length + 3 < R.frames) (hRlocals : (rest.map fun v => v.category).sum + (13 * (names.length + 1) + 42) ≤ R.locals) (hRcells : cells + 1 ≤ R.cells) (hRslots : slots + 6 ≤ R.slots) (hlocks : meth.locks = false)
    (hx : ∀ t : State, s.vm.Alike t.vm → H.size ≤ t.heap.size → (∀ q : Nat, q < H.size → t.heap[q]? = H[q]?) → XC cls s t)
    (hf : ∀ z ∈ locs, free z.base) (hc : cells + 1 ≤ mc) (hs : slots + 6 ≤ ms) :
    W p l e R s m args below meth c H locs cells slots (vx_MQ below Qc XC args s mc ms free) (F0 m pc ls rest) := by
  intro T hT X
  have htr : e.platform.stackTraces = false := (show e.platform.stackTraces = l.stackTraces by rw [X.admits.platform]).trans hl
  have Y := vx_rebase X (R' := { frames := R.frames, locals := R.locals, cells := 1, slots := 6 }) (Nat.le_refl _) (Nat.le_refl _) hRcells hRslots
  obtain ⟨s', hA⟩ : ∃ z, z = (T.setVm s.vm).setFrames (.invoking m args :: below) := ⟨_, rfl⟩
  rw [← hA] at Y
  have hvm : s'.vm = s.vm := by rw [hA]; rfl
  have hhp : s'.heap = H := by rw [hA]; exact hT
  have hW0 : s.WarmedH s'.vm := by rw [hvm]; exact State.WarmedH.refl s
  have hat' : ∀ w ∈ vx_at0 own ic cls names, w.before args s' = true := fun w hw => vx_ot_at hW0 hvm.symm (hgood w (List.mem_cons_of_mem _ (List.mem_cons_of_mem _ hw))) (hat w hw)
  have hk' : (Cond.classLink own ik cls).before args s' = true := vx_ot_at hW0 hvm.symm (hgood _ List.mem_cons_self) hk
  have hini' : (Cond.initialized cls).before args s' = true := vx_ot_at hW0 hvm.symm (hgood _ (List.mem_cons_of_mem _ List.mem_cons_self)) hini
  have hU' : vx_Zq Bundle.tN "UNASSIGNED_STACK" Bundle.steD A s' s'.heap := by rw [hhp]; exact vx_Zq.moved hW0.alike (hU.kept hS.2.1)
  have hN' : vx_Zq Bundle.tN "SUPPRESSED_SENTINEL" Bundle.listD A s' s'.heap := by rw [hhp]; exact vx_Zq.moved hW0.alike (hN.kept hS.2.1)
  have h : ∀ w ∈ Bundle.ownAtoms0 own ic cls names, w.before args s' = true := vx_own hat' (vx_isRefq hU'.1) (vx_isRefq hN'.1) hU'.2.word hN'.2.word
  have hown' : s'.vm.findClass own = some m.cls := by rw [hvm]; exact hown
  have hins : (Cond.instantiable cls 6).before args s' = true := h _ (by simp [Bundle.ownAtoms0])
  obtain ⟨vm₁, cX, kX, hfX, hkX, -, -, X₁, st1⟩ := Y.newCold hexec (own := own) (C := cls) (index := ik) (n := 6) hown' hk' hins hini'
    (g := F0 m pc ls rest) rfl (by rw [hb]; exact d0) (Nat.le_refl _) (Nat.le_refl _)
  generalize hT1 : (T.setVm vm₁).pushCell { cls := cX, slots := kX.instanceTypes.map defaultValue, vm := .none } = T1 at X₁ st1
  have hcat : (Value.ref T.heap.size).category = 1 := rfl
  have hcellA : T1.heap[T.heap.size]? = some (freshCell cX kX) := by rw [← hT1]; exact State.heap_pushCell_size _ _
  have d3' : decode c.code (pc + 3) = .ok (.dup, 1) := by rw [hb]; exact d3
  obtain ⟨U, hsteps, hrun, hend, hW, hsame, ce, hce, hO⟩ := X₁.ctorThrow0 hexec htr (own := own) (cls := cls) (names := names) (ic := ic) hown' hcls hnames h (fun x hx => nomatch hx) hfX hkX hcellA (by rw [hhp, hT]; exact Nat.le_refl _)
    (g := { method := m, pc := pc + 4, locals := ls, stack := .ref T.heap.size :: .ref T.heap.size :: rest, locked := none }) rfl hsize rfl rfl (rest := rest) rfl
    (by rw [hb]; exact d4) (by rw [hb]; exact d7) hout hRframes (by simp only [List.map_cons, List.sum_cons, hcat]; omega) hlocks
  obtain ⟨f1, f2⟩ := vx_frame hsame
  rw [hhp] at f1 f2
  have hWs : s.WarmedH U.vm := State.WarmedH.trans hW0 hW
  have hcl : s.vm.findClass cls = some ce.cls := by
    have h9 := hO.cls
    rw [hvm] at h9
    exact h9
  have hall : s.sameButNew ({ U with vm := s.vm } : State) locs mc ms := by
    subst hA
    obtain ⟨e1, e2⟩ := hsame
    rw [State.setFrames_setFrames] at e1
    have h2 : (T.setVm s.vm).sameButNew ({ U with vm := s.vm } : State) [] (0 + 1) (0 + 6) := ⟨e1, e2⟩
    have h3 := X.same.trans h2
    rw [List.append_nil] at h3
    exact h3.mono hc hs
  refine ⟨U, ?_, .threw T.heap.size, hrun, hend, Or.inr ⟨T.heap.size, rfl, cls, ce, locs, hx U hWs.alike f1 (fun q hq => f2 q hq (fun z hz => nomatch hz)), hce, hO.vm, hcl, hWs, hall, hf⟩⟩
  refine st1 _ ?_
  show Steps p.tables e below (T1.setTop { method := m, pc := pc + 3, locals := ls, stack := .ref T.heap.size :: rest, locked := none }) _
  jvm_step X₁.here [X₁.here.top, hexec, d3', Value.category]
  exact hsteps
/-- 'throw new E("text")': new; dup; ldc; invokespecial; athrow -/
theorem vx_throwS {cc : ByteArray} {pc : Nat} (hexec : p.tables.exec = Jvm.exec) (hb : c.code = cc) (hl : l.stackTraces = false) {own cls text : String} {names : List String} {ik is ic mc ms sa : Nat} {A : Nat → Prop}
    (hown : s.vm.findClass own = some m.cls) (hcls : Bundle.fit cls = true) (hnames : ∀ n ∈ names, Bundle.fit n = true)
    (hk : (Cond.classLink own ik cls).before args s = true) (hini : (Cond.initialized cls).before args s = true) (hstr : vk_R own is text sa s) (hat : ∀ w ∈ vx_atS own ic cls names, w.before args s = true)
    (hgood : ∀ w ∈ Cond.classLink own ik cls :: Cond.initialized cls :: vx_atS own ic cls names, vx_ot w = true)
    (hU : vx_Zq Bundle.tN "UNASSIGNED_STACK" Bundle.steD A s s.heap) (hN : vx_Zq Bundle.tN "SUPPRESSED_SENTINEL" Bundle.listD A s s.heap) (hS : va_S A s.heap H locs) (hsize : ls.size = c.maxLocals)
    (d0 : decode cc pc = .ok (.new ik, 3)) (d3 : decode cc (pc + 3) = .ok (.dup, 1)) (d4 : decode cc (pc + 4) = .ok (.ldc is, 2)) (d6 : decode cc (pc + 6) = .ok (.invokespecial ic, 3)) (d9 : decode cc (pc + 9) = .ok (.athrow, 1))
    (hout : ∀ x ∈ c.exceptionTable.toList, covers x (pc + 9) = false)
    (hRframes : names.length + 3 < R.frames) (hRlocals : (rest.map fun v => v.category).sum + (13 * (names.length + 1) + 43) ≤ R.locals) (hRcells : cells + 1 ≤ R.cells) (hRslots : slots + 6 ≤ R.slots) (hlocks : meth.locks = false)
    (hx : ∀ t : State, s.vm.Alike t.vm → H.size ≤ t.heap.size → (∀ q : Nat, q < H.size → t.heap[q]? = H[q]?) → XC cls s t)
    (hf : ∀ z ∈ locs, free z.base) (hc : cells + 1 ≤ mc) (hs : slots + 6 ≤ ms) :
    W p l e R s m args below meth c H locs cells slots (vx_MQ below Qc XC args s mc ms free) (F0 m pc ls rest) := by
  intro T hT X
  have htr : e.platform.stackTraces = false := (show e.platform.stackTraces = l.stackTraces by rw [X.admits.platform]).trans hl
  have Y := vx_rebase X (R' := { frames := R.frames, locals := R.locals, cells := 1, slots := 6 }) (Nat.le_refl _) (Nat.le_refl _) hRcells hRslots
  obtain ⟨s', hA⟩ : ∃ z, z = (T.setVm s.vm).setFrames (.invoking m args :: below) := ⟨_, rfl⟩
  rw [← hA] at Y
  have hvm : s'.vm = s.vm := by rw [hA]; rfl
  have hhp : s'.heap = H := by rw [hA]; exact hT
  have hW0 : s.WarmedH s'.vm := by rw [hvm]; exact State.WarmedH.refl s
  have hat' : ∀ w ∈ vx_atS own ic cls names, w.before args s' = true := fun w hw => vx_ot_at hW0 hvm.symm (hgood w (List.mem_cons_of_mem _ (List.mem_cons_of_mem _ hw))) (hat w hw)
  have hk' : (Cond.classLink own ik cls).before args s' = true := vx_ot_at hW0 hvm.symm (hgood _ List.mem_cons_self) hk
  have hini' : (Cond.initialized cls).before args s' = true := vx_ot_at hW0 hvm.symm (hgood _ (List.mem_cons_of_mem _ List.mem_cons_self)) hini
  have hU' : vx_Zq Bundle.tN "UNASSIGNED_STACK" Bundle.steD A s' s'.heap := by rw [hhp]; exact vx_Zq.moved hW0.alike (hU.kept hS.2.1)
  have hN' : vx_Zq Bundle.tN "SUPPRESSED_SENTINEL" Bundle.listD A s' s'.heap := by rw [hhp]; exact vx_Zq.moved hW0.alike (hN.kept hS.2.1)
  have h : ∀ w ∈ Bundle.ownAtoms own ic cls names, w.before args s' = true := vx_own hat' (vx_isRefq hU'.1) (vx_isRefq hN'.1) hU'.2.word hN'.2.word
  have hown' : s'.vm.findClass own = some m.cls := by rw [hvm]; exact hown
  have hins : (Cond.instantiable cls 6).before args s' = true := h _ (by simp [Bundle.ownAtoms])
  obtain ⟨vm₁, cX, kX, hfX, hkX, -, -, X₁, st1⟩ := Y.newCold hexec (own := own) (C := cls) (index := ik) (n := 6) hown' hk' hins hini'
    (g := F0 m pc ls rest) rfl (by rw [hb]; exact d0) (Nat.le_refl _) (Nat.le_refl _)
  generalize hT1 : (T.setVm vm₁).pushCell { cls := cX, slots := kX.instanceTypes.map defaultValue, vm := .none } = T1 at X₁ st1
  have hcat : (Value.ref T.heap.size).category = 1 := rfl
  have hcellA : T1.heap[T.heap.size]? = some (freshCell cX kX) := by rw [← hT1]; exact State.heap_pushCell_size _ _
  have d3' : decode c.code (pc + 3) = .ok (.dup, 1) := by rw [hb]; exact d3
  have d4' : decode c.code (pc + 4) = .ok (.ldc is, 2) := by rw [hb]; exact d4
  have hstr' : vk_R own is text sa s' := vk_R.warm hW0 hstr
  obtain ⟨U, hsteps, hrun, hend, hW, hsame, ce, hce, hO⟩ := X₁.ctorThrowS hexec htr (own := own) (cls := cls) (names := names) (ic := ic) hown' hcls hnames h (fun x hx => nomatch hx) hfX hkX hcellA (by rw [hhp, hT]; exact Nat.le_refl _) (msg := .ref sa) rfl
    (g := { method := m, pc := pc + 6, locals := ls, stack := .ref sa :: .ref T.heap.size :: .ref T.heap.size :: rest, locked := none }) rfl hsize rfl rfl (rest := rest) rfl
    (by rw [hb]; exact d6) (by rw [hb]; exact d9) hout hRframes (by simp only [List.map_cons, List.sum_cons, hcat]; omega) hlocks
  obtain ⟨f1, f2⟩ := vx_frame hsame
  rw [hhp] at f1 f2
  have hWs : s.WarmedH U.vm := State.WarmedH.trans hW0 hW
  have hcl : s.vm.findClass cls = some ce.cls := by
    have h9 := hO.cls
    rw [hvm] at h9
    exact h9
  have hall : s.sameButNew ({ U with vm := s.vm } : State) locs mc ms := by
    subst hA
    obtain ⟨e1, e2⟩ := hsame
    rw [State.setFrames_setFrames] at e1
    have h2 : (T.setVm s.vm).sameButNew ({ U with vm := s.vm } : State) [] (0 + 1) (0 + 6) := ⟨e1, e2⟩
    have h3 := X.same.trans h2
    rw [List.append_nil] at h3
    exact h3.mono hc hs
  refine ⟨U, ?_, .threw T.heap.size, hrun, hend, Or.inr ⟨T.heap.size, rfl, cls, ce, locs, hx U hWs.alike f1 (fun q hq => f2 q hq (fun z hz => nomatch hz)), hce, hO.vm, hcl, hWs, hall, hf⟩⟩
  refine st1 _ ?_
  show Steps p.tables e below (T1.setTop { method := m, pc := pc + 3, locals := ls, stack := .ref T.heap.size :: rest, locked := none }) _
  jvm_step X₁.here [X₁.here.top, hexec, d3', Value.category]
  exact X₁.ldcString hexec (own := own) (text := text) (index := is) (a := sa) hown' hstr'.1 hstr'.2
    (g := { method := m, pc := pc + 4, locals := ls, stack := .ref T.heap.size :: .ref T.heap.size :: rest, locked := none }) rfl d4' _ hsteps
/-- 'throw new E("text")', the text by a wide index -/
theorem vx_throwSW {cc : ByteArray} {pc : Nat} (hexec : p.tables.exec = Jvm.exec) (hb : c.code = cc) (hl : l.stackTraces = false) {own cls text : String} {names : List String} {ik is ic mc ms sa : Nat} {A : Nat → Prop}
    (hown : s.vm.findClass own = some m.cls) (hcls : Bundle.fit cls = true) (hnames : ∀ n ∈ names, Bundle.fit n = true)
    (hk : (Cond.classLink own ik cls).before args s = true) (hini : (Cond.initialized cls).before args s = true) (hstr : vk_R own is text sa s) (hat : ∀ w ∈ vx_atS own ic cls names, w.before args s = true)
    (hgood : ∀ w ∈ Cond.classLink own ik cls :: Cond.initialized cls :: vx_atS own ic cls names, vx_ot w = true)
    (hU : vx_Zq Bundle.tN "UNASSIGNED_STACK" Bundle.steD A s s.heap) (hN : vx_Zq Bundle.tN "SUPPRESSED_SENTINEL" Bundle.listD A s s.heap) (hS : va_S A s.heap H locs) (hsize : ls.size = c.maxLocals)
    (d0 : decode cc pc = .ok (.new ik, 3)) (d3 : decode cc (pc + 3) = .ok (.dup, 1)) (d4 : decode cc (pc + 4) = .ok (.ldc_w is, 3)) (d7 : decode cc (pc + 7) = .ok (.invokespecial ic, 3)) (d10 : decode cc (pc + 10) = .ok (.athrow, 1))
    (hout : ∀ x ∈ c.exceptionTable.toList, covers x (pc + 10) = false)
    (hRframes : names.length + 3 < R.frames) (hRlocals : (rest.map fun v => v.category).sum + (13 * (names.length + 1) + 43) ≤ R.locals) (hRcells : cells + 1 ≤ R.cells) (hRslots : slots + 6 ≤ R.slots) (hlocks : meth.locks = false)
    (hx : ∀ t : State, s.vm.Alike t.vm → H.size ≤ t.heap.size → (∀ q : Nat, q < H.size → t.heap[q]? = H[q]?) → XC cls s t)
    (hf : ∀ z ∈ locs, free z.base) (hc : cells + 1 ≤ mc) (hs : slots + 6 ≤ ms) :
    W p l e R s m args below meth c H locs cells slots (vx_MQ below Qc XC args s mc ms free) (F0 m pc ls rest) := by
  intro T hT X
  have htr : e.platform.stackTraces = false := (show e.platform.stackTraces = l.stackTraces by rw [X.admits.platform]).trans hl
  have Y := vx_rebase X (R' := { frames := R.frames, locals := R.locals, cells := 1, slots := 6 }) (Nat.le_refl _) (Nat.le_refl _) hRcells hRslots
  obtain ⟨s', hA⟩ : ∃ z, z = (T.setVm s.vm).setFrames (.invoking m args :: below) := ⟨_, rfl⟩
  rw [← hA] at Y
  have hvm : s'.vm = s.vm := by rw [hA]; rfl
  have hhp : s'.heap = H := by rw [hA]; exact hT
  have hW0 : s.WarmedH s'.vm := by rw [hvm]; exact State.WarmedH.refl s
  have hat' : ∀ w ∈ vx_atS own ic cls names, w.before args s' = true := fun w hw => vx_ot_at hW0 hvm.symm (hgood w (List.mem_cons_of_mem _ (List.mem_cons_of_mem _ hw))) (hat w hw)
  have hk' : (Cond.classLink own ik cls).before args s' = true := vx_ot_at hW0 hvm.symm (hgood _ List.mem_cons_self) hk
  have hini' : (Cond.initialized cls).before args s' = true := vx_ot_at hW0 hvm.symm (hgood _ (List.mem_cons_of_mem _ List.mem_cons_self)) hini
  have hU' : vx_Zq Bundle.tN "UNASSIGNED_STACK" Bundle.steD A s' s'.heap := by rw [hhp]; exact vx_Zq.moved hW0.alike (hU.kept hS.2.1)
  have hN' : vx_Zq Bundle.tN "SUPPRESSED_SENTINEL" Bundle.listD A s' s'.heap := by rw [hhp]; exact vx_Zq.moved hW0.alike (hN.kept hS.2.1)
  have h : ∀ w ∈ Bundle.ownAtoms own ic cls names, w.before args s' = true := vx_own hat' (vx_isRefq hU'.1) (vx_isRefq hN'.1) hU'.2.word hN'.2.word
  have hown' : s'.vm.findClass own = some m.cls := by rw [hvm]; exact hown
  have hins : (Cond.instantiable cls 6).before args s' = true := h _ (by simp [Bundle.ownAtoms])
  obtain ⟨vm₁, cX, kX, hfX, hkX, -, -, X₁, st1⟩ := Y.newCold hexec (own := own) (C := cls) (index := ik) (n := 6) hown' hk' hins hini'
    (g := F0 m pc ls rest) rfl (by rw [hb]; exact d0) (Nat.le_refl _) (Nat.le_refl _)
  generalize hT1 : (T.setVm vm₁).pushCell { cls := cX, slots := kX.instanceTypes.map defaultValue, vm := .none } = T1 at X₁ st1
  have hcat : (Value.ref T.heap.size).category = 1 := rfl
  have hcellA : T1.heap[T.heap.size]? = some (freshCell cX kX) := by rw [← hT1]; exact State.heap_pushCell_size _ _
  have d3' : decode c.code (pc + 3) = .ok (.dup, 1) := by rw [hb]; exact d3
  have d4' : decode c.code (pc + 4) = .ok (.ldc_w is, 3) := by rw [hb]; exact d4
  have hstr' : vk_R own is text sa s' := vk_R.warm hW0 hstr
  obtain ⟨U, hsteps, hrun, hend, hW, hsame, ce, hce, hO⟩ := X₁.ctorThrowS hexec htr (own := own) (cls := cls) (names := names) (ic := ic) hown' hcls hnames h (fun x hx => nomatch hx) hfX hkX hcellA (by rw [hhp, hT]; exact Nat.le_refl _) (msg := .ref sa) rfl
    (g := { method := m, pc := pc + 7, locals := ls, stack := .ref sa :: .ref T.heap.size :: .ref T.heap.size :: rest, locked := none }) rfl hsize rfl rfl (rest := rest) rfl
    (by rw [hb]; exact d7) (by rw [hb]; exact d10) hout hRframes (by simp only [List.map_cons, List.sum_cons, hcat]; omega) hlocks
  obtain ⟨f1, f2⟩ := vx_frame hsame
  rw [hhp] at f1 f2
  have hWs : s.WarmedH U.vm := State.WarmedH.trans hW0 hW
  have hcl : s.vm.findClass cls = some ce.cls := by
    have h9 := hO.cls
    rw [hvm] at h9
    exact h9
  have hall : s.sameButNew ({ U with vm := s.vm } : State) locs mc ms := by
    subst hA
    obtain ⟨e1, e2⟩ := hsame
    rw [State.setFrames_setFrames] at e1
    have h2 : (T.setVm s.vm).sameButNew ({ U with vm := s.vm } : State) [] (0 + 1) (0 + 6) := ⟨e1, e2⟩
    have h3 := X.same.trans h2
    rw [List.append_nil] at h3
    exact h3.mono hc hs
  refine ⟨U, ?_, .threw T.heap.size, hrun, hend, Or.inr ⟨T.heap.size, rfl, cls, ce, locs, hx U hWs.alike f1 (fun q hq => f2 q hq (fun z hz => nomatch hz)), hce, hO.vm, hcl, hWs, hall, hf⟩⟩
  refine st1 _ ?_
  show Steps p.tables e below (T1.setTop { method := m, pc := pc + 3, locals := ls, stack := .ref T.heap.size :: rest, locked := none }) _
  jvm_step X₁.here [X₁.here.top, hexec, d3', Value.category]
  exact X₁.ldcStringW hexec (own := own) (text := text) (index := is) (a := sa) hown' hstr'.1 hstr'.2
    (g := { method := m, pc := pc + 4, locals := ls, stack := .ref T.heap.size :: .ref T.heap.size :: rest, locked := none }) rfl d4' _ hsteps
end Ends
section Bodies
variable {l : Launch}
theorem vx_ofW {y : MethodName} {ws ws' : List Cond} {rm : Room} {Pc : Array Value → State → Prop} {Qc : Array Value → State → Outcome → State → Prop} {XC : String → State → State → Prop} {mc ms : Nat} {free : Addr → Prop} {cc : ByteArray} {maxL : Nat} {ret : Option FieldType}
    (hy : plainName y.cls = true) (hw : ws = Cond.code y cc maxL ret :: ws')
    (body : ∀ p e s m args below meth c s₁, BodyLoose p l y (headSpec ws rm) cc maxL ret e s m args below meth c s₁ → c.maxLocals = maxL → (∀ x ∈ c.exceptionTable.toList, False) → Pc args s →
      W p l e (headSpec ws rm).room s m args below meth c s.heap [] 0 0 (vx_MQ below Qc XC args s mc ms free) (entryFrame m args maxL)) : vx_Met l y ws rm Pc Qc XC mc ms free := by
  refine MetFree.of_bodyS (code := cc) (maxLocals := maxL) (ret := ret) hy ?_ ?_
  · intro args s m h hn
    obtain ⟨meth, c, h1, h2, h3, h4, h5, h6, -, -⟩ := Cond.code_spec hn (atoms_spec (ws := ws) h _ (by rw [hw]; exact List.mem_cons_self))
    exact ⟨meth, c, h1, h2, h3, h4, h5, h6⟩
  · intro p e s m args below meth c s₁ B hml hP _
    have hh0 : s₁.heap = s.heap := by rw [B.state]; rfl
    have ht : ∀ x ∈ c.exceptionTable.toList, False := by
      obtain ⟨meth9, c9, h1, h2, -, -, -, -, h7, -⟩ := Cond.code_spec B.named (atoms_spec (ws := ws) B.pre _ (by rw [hw]; exact List.mem_cons_self))
      cases Option.some.inj (h1.symm.trans B.method)
      cases Option.some.inj (h2.symm.trans (Stand.of_body B).code)
      intro x hx
      rw [Array.isEmpty_iff.mp h7] at hx
      cases hx
    obtain ⟨t, a1, o, b1, b2, b3⟩ := body p e s m args below meth c s₁ B hml ht hP s₁ hh0 (Stand.of_body B)
    exact ⟨t, o, a1, b1, b2, b3⟩
/-- the table of a body with handlers -/
theorem vx_table {p : Program} {x y : MethodName} {S : Spec} {cc bytes : ByteArray} {maxL maxL' : Nat} {ret ret' : Option FieldType} {e : Env} {s s₁ : State} {m : MethodId} {args : Array Value} {below : List Frame} {meth : Method} {c : Code} {hh : List (Nat × Nat × Nat × Nat)}
    (B : BodyLoose p l y S cc maxL ret e s m args below meth c s₁) (h : (Cond.codeWith y bytes maxL' ret' hh).before args s = true) : c.exceptionTable.toList = tableOf hh := by
  obtain ⟨m9, meth9, c9, hn9, h1, h2, -, -, h6, -⟩ := Cond.codeWith_spec h
  cases Option.some.inj (hn9.symm.trans B.named)
  cases Option.some.inj (h1.symm.trans B.method)
  cases Option.some.inj (h2.symm.trans (Stand.of_body B).code)
  rw [← h6, table_eq]
end Bodies
end VXA
/-! ===== END ===== -/
/-! ===== BEGIN a static call of a method with an exception table ===== -/
section VXS
variable {p : Program} {l : Launch} {e : Env} {R : Room} {s : State} {m : MethodId} {args : Array Value} {below : List Frame} {meth : Method} {c : Code} {T : State} {H : Heap} {locs : List Loc} {cells slots : Nat}
abbrev vx_CSW (R : Room) (s : State) (args : Array Value) (own : String) (index : Nat) (y : MethodName) (bytes : ByteArray) (maxL : Nat) (ret : Option FieldType) (hh : List (Nat × Nat × Nat × Nat)) (ws : List Cond) (rm : Room) (mc ms n : Nat) : Prop :=
  (rm.cells = mc ∧ rm.slots = ms ∧ rm.frames + 1 ≤ R.frames ∧ 8 + (maxL + 11) + rm.locals ≤ R.locals ∧ (∀ w ∈ ws, ∀ (a' : Array Value) (U : State), s.WarmedH U.vm → w.before a' U = true) ∧ Cond.codeWith y bytes maxL ret hh ∈ ws) ∧
  (Cond.codeWith y bytes maxL ret hh).before args s = true ∧ (Cond.initialized y.cls).before args s = true ∧ (y.cls ≠ "java/lang/invoke/MethodHandle" ∧ y.cls ≠ "java/lang/invoke/VarHandle") ∧
  (∀ sig, parseMethodDescriptor y.desc = some sig → n = sig.parameters.length) ∧ (Cond.methodLink own index y).before args s = true ∧ (Cond.static y).before args s = true
theorem vx_cwSW {own : String} {index maxL mc ms : Nat} {y : MethodName} {bytes : ByteArray} {ret : Option FieldType} {hh : List (Nat × Nat × Nat × Nat)} {Ts ws ws' : List Cond} {rm : Room} (n : Nat) (ht : ∀ w ∈ Ts, w.before args s = true) (hT : GoodIn Ts (va_wsS own index y ws)) (hw : ws = Cond.codeWith y bytes maxL ret hh :: ws') (hrc : rm.cells = mc) (hrs : rm.slots = ms)
    (hd : y.cls ≠ "java/lang/invoke/MethodHandle" ∧ y.cls ≠ "java/lang/invoke/VarHandle" ∧ (parseMethodDescriptor y.desc).map (fun d => d.parameters.length) = some n) (hR : rm.frames + 1 ≤ R.frames ∧ 8 + (maxL + 11) + rm.locals ≤ R.locals) :
    vx_CSW R s args own index y bytes maxL ret hh ws rm mc ms n := by
  have ok : ∀ w ∈ va_wsS own index y ws, w.before args s = true := fun w h => ht w (hT w h).1
  have hG : GoodIn Ts ws := fun w h => hT w (by unfold va_wsS; exact List.mem_append_right _ h)
  have hc : Cond.codeWith y bytes maxL ret hh ∈ ws := by rw [hw]; exact List.mem_cons_self
  refine ⟨⟨hrc, hrs, hR.1, hR.2, pay_in ht hG, hc⟩, ht _ (hG _ hc).1, ok _ (by simp [va_wsS]), ⟨hd.1, hd.2.1⟩, fun sig h => ?_, ok _ (by simp [va_wsS]), ok _ (by simp [va_wsS])⟩
  have h2 := hd.2.2
  rw [h] at h2
  exact (Option.some.inj h2).symm
theorem vx_callSW (X : Stand p l e R s m args below meth c T locs cells slots) (hexec : p.tables.exec = Jvm.exec) {own : String} {index : Nat} {y : MethodName} {bytes : ByteArray} {maxL : Nat} {ret : Option FieldType} {hh : List (Nat × Nat × Nat × Nat)}
    (hown : s.vm.findClass own = some m.cls) (hlink : (Cond.methodLink own index y).before args s = true) (hstat : (Cond.static y).before args s = true) (hinit : (Cond.initialized y.cls).before args s = true)
    (hcode : (Cond.codeWith y bytes maxL ret hh).before args s = true) (hy : y.cls ≠ "java/lang/invoke/MethodHandle" ∧ y.cls ≠ "java/lang/invoke/VarHandle")
    {W9 : Nat} {Pre : Pt → Array Value → Prop} {Post : Pt → Array Value → Option Value → Pt → Prop} (hK : Back l R p e below s args y 3 W9 Pre Post)
    {g : JFrame} (hg : g.method = m) (hsize : g.locals.size = c.maxLocals) {argsL rest : List Value} (hlen : ∀ sig, parseMethodDescriptor y.desc = some sig → argsL.length = sig.parameters.length)
    (hstack : g.stack = argsL.reverse ++ rest) (hW : 2 * g.monitorRoom + (rest.map fun v => v.category).sum ≤ W9) (hdg : decode c.code g.pc = .ok (.invokestatic index, 3))
    (hpre : ∀ vm₁, s.WarmedH vm₁ → Pre ⟨T.setVm vm₁, locs, cells, slots⟩ argsL.toArray) :
    ∃ (v : Option Value) (vm₁ : Vm) (B : Pt), s.WarmedH vm₁ ∧ Stand p l e R s m args below meth c B.U B.locs B.cells B.slots ∧ Post ⟨T.setVm vm₁, locs, cells, slots⟩ argsL.toArray v B ∧
      ∀ target, Steps p.tables e below (B.U.setTop { g with pc := g.pc + 3, stack := v.toList ++ rest }) target → Steps p.tables e below (T.setTop g) target := by
  obtain ⟨mk, methM, cM, hnamed, hmethM, -, -, -, -, -, -, hsigM⟩ := Cond.codeWith_spec hcode
  have hstatic : methM.isStatic = true := Cond.static_spec hnamed hmethM hstat
  obtain ⟨kP, hkP, -⟩ := className_of_methodNamed hnamed
  have hinitP : kP.init = .initialized := Cond.initialized_spec (findClass_of_methodNamed hnamed) hkP hinit
  obtain ⟨vm₁, X₁, hstep₁⟩ := X.invokestatic hexec hown hlink hnamed hmethM hstatic hkP hinitP hy (g := g) hg (argsL := argsL) (rest := rest) (hlen _ hsigM) hstack hdg
  obtain ⟨v, B, X', hpost, hsteps⟩ := hK m meth c ⟨T.setVm vm₁, locs, cells, slots⟩ { g with stack := rest } (.invokestatic index) mk argsL.toArray X₁ hg hsize hdg hW (X₁.named hnamed) (hpre vm₁ X₁.warmed)
  exact ⟨v, vm₁, B, X₁.warmed, X', hpost, fun target h => hstep₁ _ fun acts => by rw [doInvoke_state]; exact hsteps.trans h⟩
theorem vx_runSW {y : MethodName} {bytes cc : ByteArray} {maxL nL mc ms n index : Nat} {ret : Option FieldType} {hh : List (Nat × Nat × Nat × Nat)} {ws : List Cond} {rm : Room} {Pc : Array Value → State → Prop} {Qc : Array Value → State → Outcome → State → Prop} {free : Addr → Prop} {Ts : List Cond} {own : String} {As rest : List Value} {g : JFrame}
    (S : CallFix p m c cc nL s args Ts own) (hM : Met l y ws rm Pc Qc mc ms free) (cw : vx_CSW R s args own index y bytes maxL ret hh ws rm mc ms n) (hp : PreS s H Pc As)
    (hg : g.method = m) (hn : As.length = n) (hsize : g.locals.size = nL) (hstack : g.stack = As.reverse ++ rest) (hW : 2 * g.monitorRoom + (rest.map fun v => v.category).sum ≤ 8) (hdg : decode cc g.pc = .ok (.invokestatic index, 3)) (hf : cells + mc ≤ R.cells ∧ slots + ms ≤ R.slots) :
    va_Run p l e R s m args below meth c H locs cells slots mc ms g rest (Qc As.toArray) (free) := by
  obtain ⟨⟨hrc, hrs, hfr, hlo, hws, hcw⟩, hcode, hini, hy, hlen, hl, hstt⟩ := cw
  have hK : Back l R p e below s args y 3 8 (PreOf R mc ms Pc) (PostOf Qc mc ms free) := va_backW (hh := hh) (bytes := bytes) (maxL := maxL) (ret := ret) hM hp.1 hrc hrs hfr hlo hws hcw (fun a' U hW => word_at hW (Or.inl (by first | rfl | simp [Cond.onTables, Cond.keeps, Cond.steady])) hini)
  obtain ⟨hx, hb, hml, ho, -⟩ := S
  intro T hT X
  obtain ⟨v, vm₁, ⟨U', l2, c2, s2⟩, hW₁, X', ⟨g', mk, t, L, e1, e2, hq, h1, hL, h2, h3⟩, st⟩ := vx_callSW X hx (hh := hh) (bytes := bytes) (maxL := maxL) (ret := ret) ho hl hstt hini hcode hy hK hg (hsize.trans hml.symm) (argsL := As) (rest := rest) (fun sig h => hn.trans (hlen sig h)) hstack hW (by rw [hb]; exact hdg)
    (fun vm₁ hW₁ => ⟨hf.1, hf.2, hp.2 (T.setVm vm₁) hT hW₁⟩)
  dsimp only [Pt.U, Pt.locs, Pt.cells, Pt.slots] at X' e1 e2 h1 h2 h3 st
  subst h1; subst h2; subst h3
  exact ⟨v, (T.setVm vm₁).calling g' mk As.toArray, t, U', L, hT, X', hL, e1, e2, hq, st⟩
/-- not caught here, past rows that name other classes: it goes on to the caller -/
theorem vx_outP {p : Program} {l : Launch} {e : Env} {R : Room} {s : State} {m : MethodId} {args : Array Value} {below : List Frame} {meth : Method} {c : Code} {H : Heap} {locs : List Loc} {cells slots : Nat} {free : Addr → Prop} {ls : Array Slot} {rest : List Value} {Qc : Array Value → State → Outcome → State → Prop} {XC : String → State → State → Prop}
    {pc : Nat} {own E : String} {ce : Cell} {q : Addr} {mc ms : Nat} (hown : s.vm.findClass own = some m.cls) (hlocks : meth.locks = false)
    (hpass : ∀ z ∈ c.exceptionTable.toList, covers z pc = false ∨ (z.catchType ≠ 0 ∧ ∃ nm : String, (Cond.classLink own z.catchType nm).before args s = true ∧ va_Nc E nm s)) (hcell : H[q]? = some ce) (hv : ce.vm = .none) (hcl : s.vm.findClass E = some ce.cls)
    (hx : ∀ t : State, t.heap = H → s.vm.Alike t.vm → XC E s t) (hf : ∀ z ∈ locs, free z.base) (hc : cells ≤ mc) (hs : slots ≤ ms) :
    vx_W p l e R s m args below meth c H locs cells slots (vx_MQ below Qc XC args s mc ms free) (F0 m pc ls rest) q := by
  intro T hT X
  have hpl : e.platform.magicAccessors = ({} : Platform).magicAccessors := by rw [X.admits.platform]
  obtain ⟨vm', hW', X', st⟩ := X.outThrough hlocks q (g := F0 m pc ls rest) rfl rfl rfl (cell := ce) (by rw [hT]; exact hcell) (by rw [hv]; rfl)
    (by obtain ⟨k9, h9, -⟩ := Vm.findClass_spec hcl; exact ⟨k9, h9⟩) (fun z hz => by
      rcases hpass z hz with h | ⟨hz0, nm, hl1, hn1⟩
      · exact Or.inl h
      · obtain ⟨c6, hc6, hcl6⟩ := Cond.classLink_spec hown hl1 e.platform hpl
        obtain ⟨a8, b8, h1, h2, h3⟩ := hn1
        cases Option.some.inj (h1.symm.trans hcl)
        cases Option.some.inj (h2.symm.trans hc6)
        exact Or.inr ⟨hz0, _, hcl6, h3⟩)
  obtain ⟨g₀, hfr⟩ := X'.frames_eq
  have hcell9 : ((T.setVm vm').setFrames (.throwing q :: below)).heap[q]? = some ce := by
    show T.heap[q]? = some ce
    rw [hT]; exact hcell
  have hend : Ended ((T.setVm vm').setFrames (.throwing q :: below)) below (.threw q) := State.frames_setFrames _ (State.cur_lt_of_frames hfr)
  refine ⟨(T.setVm vm').setFrames (.throwing q :: below), ?_, .threw q, X'.here.running, hend, Or.inr ⟨q, rfl, E, ce, locs, hx _ hT (X'.ends _).1.alike, hcell9, hv, hcl, (X'.ends _).1, (X'.ends _).2.mono hc hs, hf⟩⟩
  rw [X.pushThrowing_eq]
  exact st
/-- a thing of a world lies in the heap -/
theorem vx_lt {D : va_G} {cl : List vw_C} {ws : va_W} {H1 : Heap} (h : va_P D cl ws H1) {k : Nat} {q : Nat × va_E} (hk : ws[k]? = some q) : q.1 < H1.size := (h k q hk).lt
end VXS
/-! ===== END ===== -/
/-! ===== BEGIN methods with a table of their own: called by a name, returning or throwing ===== -/
section VXH
/-! vx_backW, vx_callVX, vx_callSX, vx_callVW, vx_runVW, vx_runVX, vx_runSX, vx_ofWH follow the same proofs as their sisters above (Free/Laws.lean, Shelf42/LK1.lean); vx_outP calls Shelf42/NT130.lean (outThrough). -/
section
variable {l : Launch} {R : Room} {p : Program} {e : Env} {below : List Frame} {s : State} {sargs : Array Value} {y : MethodName} {len W9 : Nat}
theorem vx_backW {ws : List Cond} {rm : Room} {Pc : Array Value → State → Prop} {Qc : Array Value → State → Outcome → State → Prop} {XC : String → State → State → Prop} {mc ms : Nat} {free : Addr → Prop} {bytes : ByteArray} {maxL : Nat} {ret : Option FieldType} {hh : List (Nat × Nat × Nat × Nat)}
    (hM : vx_Met l y ws rm Pc Qc XC mc ms free) (hblind : FrameBlind Pc) (hrc : rm.cells = mc) (hrs : rm.slots = ms)
    (hframes : rm.frames + 1 ≤ R.frames) (hlocals : W9 + (maxL + 11) + rm.locals ≤ R.locals)
    (hws : ∀ w ∈ ws, ∀ a' U, s.WarmedH U.vm → w.before a' U = true) (hcode : Cond.codeWith y bytes maxL ret hh ∈ ws) (hinit : ∀ a' U, s.WarmedH U.vm → (Cond.initialized y.cls).before a' U = true) :
    vx_Back l R p e below s sargs y len W9 (PreOf R mc ms Pc) (PostOf Qc mc ms free) (vx_Post XC mc ms free) := by
  intro m meth c A g ig mk a X hg hsize hdg hW hn hp
  have h1 : (headSpec ws rm).pre.before a A.U = true := atoms_intro fun w hw => hws w hw _ _ X.warmed
  have h2 : (Cond.codeWith y bytes maxL ret hh).before a A.U = true := hws _ hcode _ _ X.warmed
  have h3 : (Cond.initialized y.cls).before a A.U = true := hinit _ _ X.warmed
  have h4 : A.cells + (headSpec ws rm).room.cells ≤ R.cells := by rw [show (headSpec ws rm).room.cells = mc from hrc]; exact hp.1
  have h5 : A.slots + (headSpec ws rm).room.slots ≤ R.slots := by rw [show (headSpec ws rm).room.slots = ms from hrs]; exact hp.2.1
  have hPc : Pc a (A.U.calling g mk a) := hblind _ _ _ _ hp.2.2
  obtain ⟨U, Ls, c0, s0⟩ := A
  dsimp only [Pt.U, Pt.locs, Pt.cells, Pt.slots] at h1 h2 h3 h4 h5 X hn hPc ⊢
  obtain ⟨m9, methY, cY, hn9, hmY, hcY, -, hlY, -⟩ := Cond.codeWith_spec h2
  cases Option.some.inj (hn9.symm.trans hn)
  obtain ⟨kY, hkY, -⟩ := className_of_methodNamed hn
  have hinitY : kY.init = .initialized := Cond.initialized_spec (findClass_of_methodNamed hn) hkY h3
  have h : At U g.method c below := by rw [hg]; exact X.here
  have hlocals9 : W9 + (maxL + 11) + (headSpec ws rm).room.locals ≤ R.locals := hlocals
  have happ : (headSpec ws rm).appliesLoose y e.platform (U.calling g mk a) = true :=
    Spec.appliesLoose_calling (g := g) h hdg hn hkY hinitY
      (X.room_calling (g := g) (R' := (headSpec ws rm).room) hsize hmY hcY hframes (by rw [hlY]; omega) h4 h5) h1
  obtain ⟨mid, hmid⟩ := h.above
  have hfr : (U.setTop g).frames = (.java g :: mid) ++ below := by rw [State.frames_setTop' g h.top, hmid]; rfl
  obtain ⟨o, s₂, hsteps, -, hend, hq⟩ := Steps.callFree hM p X.admits X.cas X.clock (acts := []) hfr happ hPc trivial
  have hq' : vx_Q Qc XC mc ms free a (U.calling g mk a) o s₂ := hq
  rw [State.frames_setTop' g h.top] at hend
  obtain ⟨g₀, hg0⟩ := Option.isSome_iff_exists.mp h.top
  obtain ⟨r, hr⟩ := State.topJava?_eq_some.mp hg0
  have hr' : (({ U with heap := s₂.heap, slotsUsed := s₂.slotsUsed } : State).setVm s₂.vm).frames = .java g₀ :: r := hr
  rcases hq' with ⟨hqc, L, hfe, hL⟩ | ⟨q, rfl, E, ce, L, hx, hce, hcv, hcl, hW₂, hsm, hL⟩
  · obtain ⟨⟨v, rfl⟩, hW₂, e2, q2, q3, q4, q5, q6⟩ := id hfe
    have e3 : s₂ = ({ (U.calling g mk a).setFrames s₂.frames with heap := s₂.heap, slotsUsed := s₂.slotsUsed } : State).setVm s₂.vm := by
      have : s₂ = ({ s₂ with vm := (U.calling g mk a).vm } : State).setVm s₂.vm := rfl
      rw [e2] at this
      exact this
    obtain ⟨c₂, i₂, len₂, hc₂, hd₂, hf₂⟩ := hend
    have hW' : U.WarmedH s₂.vm := hW₂
    have hcc : c₂ = c := by
      have h1 : s₂.code? g.method = U.code? g.method := by
        rw [State.code?_eq, State.code?_eq, hW'.alike.method?]
      exact Option.some.inj (hc₂.symm.trans (h1.trans h.code))
    subst hcc
    have hlen : len₂ = len := by rw [hdg] at hd₂; cases hd₂; rfl
    subst hlen
    have hs₂ : s₂ = (({ U with heap := s₂.heap, slotsUsed := s₂.slotsUsed } : State).setVm s₂.vm).setTop { g with pc := g.pc + len₂, stack := v.toList ++ g.stack } := by
      refine e3.trans ?_
      rw [hf₂, State.calling_eq h.top, State.setFrames_setFrames, State.setTop_of_frames _ hr', hr]
      rfl
    have hsame : U.sameButNew ({ U with heap := s₂.heap, slotsUsed := s₂.slotsUsed } : State) L mc ms := by
      refine ⟨?_, q2, q3, q4, q5, q6⟩
      obtain ⟨t, ht, -⟩ := State.frames_cons hr
      show ({ U with heap := s₂.heap, slotsUsed := s₂.slotsUsed } : State) = { U.setFrames U.frames with heap := s₂.heap, slotsUsed := s₂.slotsUsed }
      rw [State.setFrames_self ht]
    subst hg
    refine Or.inl ⟨v, ⟨(({ U with heap := s₂.heap, slotsUsed := s₂.slotsUsed } : State).setVm s₂.vm), Ls ++ L, c0 + mc, s0 + ms⟩,
      ⟨X.admits, X.cas, X.clock, X.frames, X.room, X.hears, X.method, X.code, (X.here.setHeapUsed s₂.heap s₂.slotsUsed).setVm hW'.alike, X.tail, State.WarmedH.trans X.warmed hW', X.limits, X.bytes, X.same.trans (hsame.setVm s.vm)⟩,
      ⟨g, mk, s₂, L, rfl, rfl, hqc, rfl, hL, rfl, rfl⟩, ?_⟩
    show Steps p.tables e below _ ((({ U with heap := s₂.heap, slotsUsed := s₂.slotsUsed } : State).setVm s₂.vm).setTop { g with pc := g.pc + len₂, stack := v.toList ++ g.stack })
    rw [← hs₂]
    exact hsteps
  · obtain ⟨e2, q2, q3, q4, q5, q6⟩ := id hsm
    have e3 : s₂ = ({ (U.calling g mk a).setFrames s₂.frames with heap := s₂.heap, slotsUsed := s₂.slotsUsed } : State).setVm s₂.vm := by
      have : s₂ = ({ s₂ with vm := (U.calling g mk a).vm } : State).setVm s₂.vm := rfl
      rw [e2] at this
      exact this
    have hf₂ : s₂.frames = .throwing q :: .java g :: U.frames.tail := hend
    have hW' : U.WarmedH s₂.vm := hW₂
    have hs₂ : s₂ = ((({ U with heap := s₂.heap, slotsUsed := s₂.slotsUsed } : State).setVm s₂.vm).setTop g).pushFrame (.throwing q) := by
      refine e3.trans ?_
      rw [hf₂, State.calling_eq h.top, State.setFrames_setFrames, State.pushFrame, State.frames_setTop _ hr', State.setTop_of_frames _ hr', State.setFrames_setFrames, hr]
      rfl
    have hsame : U.sameButNew ({ U with heap := s₂.heap, slotsUsed := s₂.slotsUsed } : State) L mc ms := by
      refine ⟨?_, q2, q3, q4, q5, q6⟩
      obtain ⟨t, ht, -⟩ := State.frames_cons hr
      show ({ U with heap := s₂.heap, slotsUsed := s₂.slotsUsed } : State) = { U.setFrames U.frames with heap := s₂.heap, slotsUsed := s₂.slotsUsed }
      rw [State.setFrames_self ht]
    subst hg
    refine Or.inr ⟨q, ⟨(({ U with heap := s₂.heap, slotsUsed := s₂.slotsUsed } : State).setVm s₂.vm), Ls ++ L, c0 + mc, s0 + ms⟩,
      ⟨X.admits, X.cas, X.clock, X.frames, X.room, X.hears, X.method, X.code, (X.here.setHeapUsed s₂.heap s₂.slotsUsed).setVm hW'.alike, X.tail, State.WarmedH.trans X.warmed hW', X.limits, X.bytes, X.same.trans (hsame.setVm s.vm)⟩,
      ⟨g, mk, s₂, L, E, ce, rfl, rfl, hx, hce, hcv, hcl, rfl, hL, rfl, rfl⟩, ?_⟩
    show Steps p.tables e below _ (((({ U with heap := s₂.heap, slotsUsed := s₂.slotsUsed } : State).setVm s₂.vm).setTop g).pushFrame (.throwing q))
    rw [← hs₂]
    exact hsteps
end
variable {p : Program} {l : Launch} {e : Env} {R : Room} {s : State} {m : MethodId} {args : Array Value} {below : List Frame} {meth : Method} {c : Code} {T : State} {H : Heap} {locs : List Loc} {cells slots : Nat}
theorem vx_callVX (X : Stand p l e R s m args below meth c T locs cells slots) (hexec : p.tables.exec = Jvm.exec) {own C : String} {index : Nat} {y : MethodName} {bytes : ByteArray} {maxL : Nat} {ret : Option FieldType} {hh : List (Nat × Nat × Nat × Nat)}
    (hown : s.vm.findClass own = some m.cls) (hlink : (Cond.methodLink own index y).before args s = true) (hinst : (Cond.instanceMethod y).before args s = true) (hsel : (Cond.selects C y y).before args s = true)
    (hcode : (Cond.codeWith y bytes maxL ret hh).before args s = true) (hy : y.cls ≠ "java/lang/invoke/MethodHandle" ∧ y.cls ≠ "java/lang/invoke/VarHandle")
    {W9 : Nat} {Pre : Pt → Array Value → Prop} {Post : Pt → Array Value → Option Value → Pt → Prop} {PostX : Pt → Array Value → Addr → Pt → Prop} (hK : vx_Back l R p e below s args y 3 W9 Pre Post PostX)
    {b : Addr} {cellB : Cell} (hcell : T.heap[b]? = some cellB) (hobj : cellB.vm.isStatics = false) (hcls : s.vm.findClass C = some cellB.cls)
    {g : JFrame} (hg : g.method = m) (hsize : g.locals.size = c.maxLocals) {argsL rest : List Value} (hlen : ∀ sig, parseMethodDescriptor y.desc = some sig → argsL.length = sig.parameters.length)
    (hstack : g.stack = argsL.reverse ++ .ref b :: rest) (hW : 2 * g.monitorRoom + (rest.map fun v => v.category).sum ≤ W9) (hdg : decode c.code g.pc = .ok (.invokevirtual index, 3))
    (hpre : ∀ vm₁, s.WarmedH vm₁ → Pre ⟨T.setVm vm₁, locs, cells, slots⟩ (Value.ref b :: argsL).toArray) :
    (∃ (v : Option Value) (vm₁ : Vm) (B : Pt), s.WarmedH vm₁ ∧ Stand p l e R s m args below meth c B.U B.locs B.cells B.slots ∧ Post ⟨T.setVm vm₁, locs, cells, slots⟩ (Value.ref b :: argsL).toArray v B ∧
      ∀ target, Steps p.tables e below (B.U.setTop { g with pc := g.pc + 3, stack := v.toList ++ rest }) target → Steps p.tables e below (T.setTop g) target) ∨
    (∃ (q : Addr) (vm₁ : Vm) (B : Pt), s.WarmedH vm₁ ∧ Stand p l e R s m args below meth c B.U B.locs B.cells B.slots ∧ PostX ⟨T.setVm vm₁, locs, cells, slots⟩ (Value.ref b :: argsL).toArray q B ∧
      Steps p.tables e below (T.setTop g) ((B.U.setTop { g with stack := rest }).pushFrame (.throwing q))) := by
  obtain ⟨mk, methM, hnamed, hmethM, hstM, habM⟩ := Cond.instanceMethod_spec hinst
  obtain ⟨m8, methM', cM, hn8, hmethM', -, -, -, -, -, -, hsigM⟩ := Cond.codeWith_spec hcode
  cases Option.some.inj (hn8.symm.trans hnamed)
  cases hmethM.symm.trans hmethM'
  obtain ⟨c2, r2, m2, q1, q2, q3, q4, kP, hkP, hkPi⟩ := Cond.selects_spec hsel
  cases hcls.symm.trans q1
  cases (State.methodFound?_of_named hnamed hy).symm.trans q2
  cases hnamed.symm.trans q3
  have hselP : selectMethod e.platform s.vm cellB.cls mk = .method mk := by rw [Launch.admits_selectMethod X.admits]; exact q4
  obtain ⟨vm₁, X₁, hstep₁⟩ := X.invokevirtual hexec hown hlink hnamed hmethM hstM hkP hkPi hy (a := b) (cell := cellB) hcell
    (fun z h => by rw [h] at hobj; cases hobj) hselP hmethM habM hkP hkPi (g := g) hg (argsL := argsL) (rest := rest) (hlen _ hsigM) hstack hdg
  rcases hK m meth c ⟨T.setVm vm₁, locs, cells, slots⟩ { g with stack := rest } (.invokevirtual index) mk (Value.ref b :: argsL).toArray X₁ hg hsize hdg hW (X₁.named hnamed) (hpre vm₁ X₁.warmed) with ⟨v, B, X', hpost, hsteps⟩ | ⟨q, B, X', hpost, hsteps⟩
  · exact Or.inl ⟨v, vm₁, B, X₁.warmed, X', hpost, fun target h => hstep₁ _ fun acts => by rw [doInvoke_state]; exact hsteps.trans h⟩
  · exact Or.inr ⟨q, vm₁, B, X₁.warmed, X', hpost, hstep₁ _ fun acts => by rw [doInvoke_state]; exact hsteps⟩
theorem vx_callSX (X : Stand p l e R s m args below meth c T locs cells slots) (hexec : p.tables.exec = Jvm.exec) {own : String} {index : Nat} {y : MethodName} {bytes : ByteArray} {maxL : Nat} {ret : Option FieldType} {hh : List (Nat × Nat × Nat × Nat)}
    (hown : s.vm.findClass own = some m.cls) (hlink : (Cond.methodLink own index y).before args s = true) (hstat : (Cond.static y).before args s = true) (hinit : (Cond.initialized y.cls).before args s = true)
    (hcode : (Cond.codeWith y bytes maxL ret hh).before args s = true) (hy : y.cls ≠ "java/lang/invoke/MethodHandle" ∧ y.cls ≠ "java/lang/invoke/VarHandle")
    {W9 : Nat} {Pre : Pt → Array Value → Prop} {Post : Pt → Array Value → Option Value → Pt → Prop} {PostX : Pt → Array Value → Addr → Pt → Prop} (hK : vx_Back l R p e below s args y 3 W9 Pre Post PostX)
    {g : JFrame} (hg : g.method = m) (hsize : g.locals.size = c.maxLocals) {argsL rest : List Value} (hlen : ∀ sig, parseMethodDescriptor y.desc = some sig → argsL.length = sig.parameters.length)
    (hstack : g.stack = argsL.reverse ++ rest) (hW : 2 * g.monitorRoom + (rest.map fun v => v.category).sum ≤ W9) (hdg : decode c.code g.pc = .ok (.invokestatic index, 3))
    (hpre : ∀ vm₁, s.WarmedH vm₁ → Pre ⟨T.setVm vm₁, locs, cells, slots⟩ argsL.toArray) :
    (∃ (v : Option Value) (vm₁ : Vm) (B : Pt), s.WarmedH vm₁ ∧ Stand p l e R s m args below meth c B.U B.locs B.cells B.slots ∧ Post ⟨T.setVm vm₁, locs, cells, slots⟩ argsL.toArray v B ∧
      ∀ target, Steps p.tables e below (B.U.setTop { g with pc := g.pc + 3, stack := v.toList ++ rest }) target → Steps p.tables e below (T.setTop g) target) ∨
    (∃ (q : Addr) (vm₁ : Vm) (B : Pt), s.WarmedH vm₁ ∧ Stand p l e R s m args below meth c B.U B.locs B.cells B.slots ∧ PostX ⟨T.setVm vm₁, locs, cells, slots⟩ argsL.toArray q B ∧
      Steps p.tables e below (T.setTop g) ((B.U.setTop { g with stack := rest }).pushFrame (.throwing q))) := by
  obtain ⟨mk, methM, cM, hnamed, hmethM, -, -, -, -, -, -, hsigM⟩ := Cond.codeWith_spec hcode
  have hstatic : methM.isStatic = true := Cond.static_spec hnamed hmethM hstat
  obtain ⟨kP, hkP, -⟩ := className_of_methodNamed hnamed
  have hinitP : kP.init = .initialized := Cond.initialized_spec (findClass_of_methodNamed hnamed) hkP hinit
  obtain ⟨vm₁, X₁, hstep₁⟩ := X.invokestatic hexec hown hlink hnamed hmethM hstatic hkP hinitP hy (g := g) hg (argsL := argsL) (rest := rest) (hlen _ hsigM) hstack hdg
  rcases hK m meth c ⟨T.setVm vm₁, locs, cells, slots⟩ { g with stack := rest } (.invokestatic index) mk argsL.toArray X₁ hg hsize hdg hW (X₁.named hnamed) (hpre vm₁ X₁.warmed) with ⟨v, B, X', hpost, hsteps⟩ | ⟨q, B, X', hpost, hsteps⟩
  · exact Or.inl ⟨v, vm₁, B, X₁.warmed, X', hpost, fun target h => hstep₁ _ fun acts => by rw [doInvoke_state]; exact hsteps.trans h⟩
  · exact Or.inr ⟨q, vm₁, B, X₁.warmed, X', hpost, hstep₁ _ fun acts => by rw [doInvoke_state]; exact hsteps⟩
theorem vx_callVW (X : Stand p l e R s m args below meth c T locs cells slots) (hexec : p.tables.exec = Jvm.exec) {own C : String} {index : Nat} {y : MethodName} {bytes : ByteArray} {maxL : Nat} {ret : Option FieldType} {hh : List (Nat × Nat × Nat × Nat)}
    (hown : s.vm.findClass own = some m.cls) (hlink : (Cond.methodLink own index y).before args s = true) (hinst : (Cond.instanceMethod y).before args s = true) (hsel : (Cond.selects C y y).before args s = true)
    (hcode : (Cond.codeWith y bytes maxL ret hh).before args s = true) (hy : y.cls ≠ "java/lang/invoke/MethodHandle" ∧ y.cls ≠ "java/lang/invoke/VarHandle")
    {W9 : Nat} {Pre : Pt → Array Value → Prop} {Post : Pt → Array Value → Option Value → Pt → Prop} (hK : Back l R p e below s args y 3 W9 Pre Post)
    {b : Addr} {cellB : Cell} (hcell : T.heap[b]? = some cellB) (hobj : cellB.vm.isStatics = false) (hcls : s.vm.findClass C = some cellB.cls)
    {g : JFrame} (hg : g.method = m) (hsize : g.locals.size = c.maxLocals) {argsL rest : List Value} (hlen : ∀ sig, parseMethodDescriptor y.desc = some sig → argsL.length = sig.parameters.length)
    (hstack : g.stack = argsL.reverse ++ .ref b :: rest) (hW : 2 * g.monitorRoom + (rest.map fun v => v.category).sum ≤ W9) (hdg : decode c.code g.pc = .ok (.invokevirtual index, 3))
    (hpre : ∀ vm₁, s.WarmedH vm₁ → Pre ⟨T.setVm vm₁, locs, cells, slots⟩ (Value.ref b :: argsL).toArray) :
    ∃ (v : Option Value) (vm₁ : Vm) (B : Pt), s.WarmedH vm₁ ∧ Stand p l e R s m args below meth c B.U B.locs B.cells B.slots ∧ Post ⟨T.setVm vm₁, locs, cells, slots⟩ (Value.ref b :: argsL).toArray v B ∧
      ∀ target, Steps p.tables e below (B.U.setTop { g with pc := g.pc + 3, stack := v.toList ++ rest }) target → Steps p.tables e below (T.setTop g) target := by
  obtain ⟨mk, methM, hnamed, hmethM, hstM, habM⟩ := Cond.instanceMethod_spec hinst
  obtain ⟨m8, methM', cM, hn8, hmethM', -, -, -, -, -, -, hsigM⟩ := Cond.codeWith_spec hcode
  cases Option.some.inj (hn8.symm.trans hnamed)
  cases hmethM.symm.trans hmethM'
  obtain ⟨c2, r2, m2, q1, q2, q3, q4, kP, hkP, hkPi⟩ := Cond.selects_spec hsel
  cases hcls.symm.trans q1
  cases (State.methodFound?_of_named hnamed hy).symm.trans q2
  cases hnamed.symm.trans q3
  have hselP : selectMethod e.platform s.vm cellB.cls mk = .method mk := by rw [Launch.admits_selectMethod X.admits]; exact q4
  obtain ⟨vm₁, X₁, hstep₁⟩ := X.invokevirtual hexec hown hlink hnamed hmethM hstM hkP hkPi hy (a := b) (cell := cellB) hcell
    (fun z h => by rw [h] at hobj; cases hobj) hselP hmethM habM hkP hkPi (g := g) hg (argsL := argsL) (rest := rest) (hlen _ hsigM) hstack hdg
  obtain ⟨v, B, X', hpost, hsteps⟩ := hK m meth c ⟨T.setVm vm₁, locs, cells, slots⟩ { g with stack := rest } (.invokevirtual index) mk (Value.ref b :: argsL).toArray X₁ hg hsize hdg hW (X₁.named hnamed) (hpre vm₁ X₁.warmed)
  exact ⟨v, vm₁, B, X₁.warmed, X', hpost, fun target h => hstep₁ _ fun acts => by rw [doInvoke_state]; exact hsteps.trans h⟩
abbrev vx_CVW (R : Room) (s : State) (args : Array Value) (own C : String) (index : Nat) (y : MethodName) (bytes : ByteArray) (maxL : Nat) (ret : Option FieldType) (hh : List (Nat × Nat × Nat × Nat)) (ws : List Cond) (rm : Room) (mc ms n : Nat) : Prop :=
  (rm.cells = mc ∧ rm.slots = ms ∧ rm.frames + 1 ≤ R.frames ∧ 8 + (maxL + 11) + rm.locals ≤ R.locals ∧ (∀ w ∈ ws, ∀ (a' : Array Value) (U : State), s.WarmedH U.vm → w.before a' U = true) ∧ Cond.codeWith y bytes maxL ret hh ∈ ws) ∧
  (Cond.codeWith y bytes maxL ret hh).before args s = true ∧ (Cond.initialized y.cls).before args s = true ∧ (y.cls ≠ "java/lang/invoke/MethodHandle" ∧ y.cls ≠ "java/lang/invoke/VarHandle") ∧
  (∀ sig, parseMethodDescriptor y.desc = some sig → n = sig.parameters.length) ∧ (Cond.methodLink own index y).before args s = true ∧ (Cond.instanceMethod y).before args s = true ∧ (Cond.selects C y y).before args s = true
theorem vx_cwVW {own C : String} {index maxL mc ms : Nat} {y : MethodName} {bytes : ByteArray} {ret : Option FieldType} {hh : List (Nat × Nat × Nat × Nat)} {Ts ws ws' : List Cond} {rm : Room} (n : Nat) (ht : ∀ w ∈ Ts, w.before args s = true) (hT : GoodIn Ts (wsV own index C y ws)) (hw : ws = Cond.codeWith y bytes maxL ret hh :: ws') (hrc : rm.cells = mc) (hrs : rm.slots = ms)
    (hd : y.cls = C ∧ y.cls ≠ "java/lang/invoke/MethodHandle" ∧ y.cls ≠ "java/lang/invoke/VarHandle" ∧ (parseMethodDescriptor y.desc).map (fun d => d.parameters.length) = some n) (hR : rm.frames + 1 ≤ R.frames ∧ 8 + (maxL + 11) + rm.locals ≤ R.locals) :
    vx_CVW R s args own C index y bytes maxL ret hh ws rm mc ms n := by
  obtain ⟨hC, hd⟩ := hd
  subst hC
  have ok : ∀ w ∈ wsV own index y.cls y ws, w.before args s = true := fun w h => ht w (hT w h).1
  have hG : GoodIn Ts ws := fun w h => hT w (by unfold wsV; exact List.mem_append_right _ h)
  have hc : Cond.codeWith y bytes maxL ret hh ∈ ws := by rw [hw]; exact List.mem_cons_self
  refine ⟨⟨hrc, hrs, hR.1, hR.2, pay_in ht hG, hc⟩, ht _ (hG _ hc).1, ok _ (by simp [wsV]), ⟨hd.1, hd.2.1⟩, fun sig h => ?_, ok _ (by simp [wsV]), ok _ (by simp [wsV]), ok _ (by simp [wsV])⟩
  have h2 := hd.2.2
  rw [h] at h2
  exact (Option.some.inj h2).symm
theorem vx_runVW {y : MethodName} {bytes cc : ByteArray} {maxL nL mc ms n index : Nat} {ret : Option FieldType} {hh : List (Nat × Nat × Nat × Nat)} {ws : List Cond} {rm : Room} {Pc : Array Value → State → Prop} {Qc : Array Value → State → Outcome → State → Prop} {free : Addr → Prop} {Ts : List Cond} {own C : String} {b : Addr} {As rest : List Value} {g : JFrame}
    (S : CallFix p m c cc nL s args Ts own) (hM : Met l y ws rm Pc Qc mc ms free) (cw : vx_CVW R s args own C index y bytes maxL ret hh ws rm mc ms n) (hp : PreV s H C b Pc As)
    (hg : g.method = m) (hn : As.length = n) (hsize : g.locals.size = nL) (hstack : g.stack = As.reverse ++ .ref b :: rest) (hW : 2 * g.monitorRoom + (rest.map fun v => v.category).sum ≤ 8) (hdg : decode cc g.pc = .ok (.invokevirtual index, 3)) (hf : cells + mc ≤ R.cells ∧ slots + ms ≤ R.slots) :
    va_Run p l e R s m args below meth c H locs cells slots mc ms g rest (Qc (Value.ref b :: As).toArray) free := by
  obtain ⟨⟨hrc, hrs, hfr, hlo, hws, hcw⟩, hcode, hini, hy, hlen, hl, hin, hse⟩ := cw
  have hK : Back l R p e below s args y 3 8 (PreOf R mc ms Pc) (PostOf Qc mc ms free) := va_backW (hh := hh) (bytes := bytes) (maxL := maxL) (ret := ret) hM hp.1 hrc hrs hfr hlo hws hcw (fun a' U hW => word_at hW (Or.inl (by first | rfl | simp [Cond.onTables, Cond.keeps, Cond.steady])) hini)
  obtain ⟨hx, hb, hml, ho, -⟩ := S
  obtain ⟨-, ⟨cellB, hcB, hoB, hclB⟩, hPc⟩ := hp
  intro T hT X
  obtain ⟨v, vm₁, ⟨U', l2, c2, s2⟩, hW₁, X', ⟨g', mk, t, L, e1, e2, hq, h1, hL, h2, h3⟩, st⟩ := vx_callVW X hx (C := C) (hh := hh) (bytes := bytes) (maxL := maxL) (ret := ret) ho hl hin hse hcode hy hK (by rw [hT]; exact hcB) hoB hclB hg (hsize.trans hml.symm) (argsL := As) (rest := rest) (fun sig h => hn.trans (hlen sig h)) hstack hW (by rw [hb]; exact hdg)
    (fun vm₁ hW₁ => ⟨hf.1, hf.2, hPc (T.setVm vm₁) hT hW₁⟩)
  dsimp only [Pt.U, Pt.locs, Pt.cells, Pt.slots] at X' e1 e2 h1 h2 h3 st
  subst h1; subst h2; subst h3
  exact ⟨v, (T.setVm vm₁).calling g' mk (Value.ref b :: As).toArray, t, U', L, hT, X', hL, e1, e2, hq, st⟩
section
variable {y : MethodName} {bytes cc : ByteArray} {maxL nL mc ms n index : Nat} {ret : Option FieldType} {ws : List Cond} {rm : Room} {Pc : Array Value → State → Prop} {Qc : Array Value → State → Outcome → State → Prop} {XC : String → State → State → Prop} {free : Addr → Prop} {Ts : List Cond} {own C : String} {b : Addr} {As rest : List Value} {g : JFrame}
theorem vx_runVX {hh : List (Nat × Nat × Nat × Nat)} (S : CallFix p m c cc nL s args Ts own) (hM : vx_Met l y ws rm Pc Qc XC mc ms free) (cw : vx_CVW R s args own C index y bytes maxL ret hh ws rm mc ms n) (hp : PreV s H C b Pc As)
    (hg : g.method = m) (hn : As.length = n) (hsize : g.locals.size = nL) (hstack : g.stack = As.reverse ++ .ref b :: rest) (hW : 2 * g.monitorRoom + (rest.map fun v => v.category).sum ≤ 8) (hdg : decode cc g.pc = .ok (.invokevirtual index, 3)) (hf : cells + mc ≤ R.cells ∧ slots + ms ≤ R.slots) :
    vx_Run p l e R s m args below meth c H locs cells slots mc ms g rest (Qc (Value.ref b :: As).toArray) XC free := by
  obtain ⟨⟨hrc, hrs, hfr, hlo, hws, hcw⟩, hcode, hini, hy, hlen, hl, hin, hse⟩ := cw
  have hK : vx_Back l R p e below s args y 3 8 (PreOf R mc ms Pc) (PostOf Qc mc ms free) (vx_Post XC mc ms free) := vx_backW (hh := hh) (bytes := bytes) (maxL := maxL) (ret := ret) hM hp.1 hrc hrs hfr hlo hws hcw (fun a' U hW => word_at hW (Or.inl (by first | rfl | simp [Cond.onTables, Cond.keeps, Cond.steady])) hini)
  obtain ⟨hx, hb, hml, ho, -⟩ := S
  obtain ⟨-, ⟨cellB, hcB, hoB, hclB⟩, hPc⟩ := hp
  intro T hT X
  rcases vx_callVX X hx (C := C) (hh := hh) (bytes := bytes) (maxL := maxL) (ret := ret) ho hl hin hse hcode hy hK (by rw [hT]; exact hcB) hoB hclB hg (hsize.trans hml.symm) (argsL := As) (rest := rest) (fun sig h => hn.trans (hlen sig h)) hstack hW (by rw [hb]; exact hdg)
    (fun vm₁ hW₁ => ⟨hf.1, hf.2, hPc (T.setVm vm₁) hT hW₁⟩) with ⟨v, vm₁, ⟨U', l2, c2, s2⟩, hW₁, X', ⟨g', mk, t, L, e1, e2, hq, h1, hL, h2, h3⟩, st⟩ | ⟨q, vm₁, ⟨U', l2, c2, s2⟩, hW₁, X', ⟨g', mk, t, L, E, ce, e1, e2, hq, hce, hcv, hcl, h1, hL, h2, h3⟩, st⟩
  · dsimp only [Pt.U, Pt.locs, Pt.cells, Pt.slots] at X' e1 e2 h1 h2 h3 st
    subst h1; subst h2; subst h3
    exact Or.inl ⟨v, (T.setVm vm₁).calling g' mk (Value.ref b :: As).toArray, t, U', L, hT, X', hL, e1, e2, hq, st⟩
  · dsimp only [Pt.U, Pt.locs, Pt.cells, Pt.slots] at X' e1 e2 h1 h2 h3 st hcl
    subst h1; subst h2; subst h3
    exact Or.inr ⟨q, (T.setVm vm₁).calling g' mk (Value.ref b :: As).toArray, t, U', L, E, ce, hT, X', hL, e1, e2, hq, hce, hcv, vx_cls hW₁ hcl, st⟩
theorem vx_runSX {hh : List (Nat × Nat × Nat × Nat)} (S : CallFix p m c cc nL s args Ts own) (hM : vx_Met l y ws rm Pc Qc XC mc ms free) (cw : vx_CSW R s args own index y bytes maxL ret hh ws rm mc ms n) (hp : PreS s H Pc As)
    (hg : g.method = m) (hn : As.length = n) (hsize : g.locals.size = nL) (hstack : g.stack = As.reverse ++ rest) (hW : 2 * g.monitorRoom + (rest.map fun v => v.category).sum ≤ 8) (hdg : decode cc g.pc = .ok (.invokestatic index, 3)) (hf : cells + mc ≤ R.cells ∧ slots + ms ≤ R.slots) :
    vx_Run p l e R s m args below meth c H locs cells slots mc ms g rest (Qc As.toArray) XC free := by
  obtain ⟨⟨hrc, hrs, hfr, hlo, hws, hcw⟩, hcode, hini, hy, hlen, hl, hstt⟩ := cw
  have hK : vx_Back l R p e below s args y 3 8 (PreOf R mc ms Pc) (PostOf Qc mc ms free) (vx_Post XC mc ms free) := vx_backW (hh := hh) (bytes := bytes) (maxL := maxL) (ret := ret) hM hp.1 hrc hrs hfr hlo hws hcw (fun a' U hW => word_at hW (Or.inl (by first | rfl | simp [Cond.onTables, Cond.keeps, Cond.steady])) hini)
  obtain ⟨hx, hb, hml, ho, -⟩ := S
  intro T hT X
  rcases vx_callSX X hx (hh := hh) (bytes := bytes) (maxL := maxL) (ret := ret) ho hl hstt hini hcode hy hK hg (hsize.trans hml.symm) (argsL := As) (rest := rest) (fun sig h => hn.trans (hlen sig h)) hstack hW (by rw [hb]; exact hdg)
    (fun vm₁ hW₁ => ⟨hf.1, hf.2, hp.2 (T.setVm vm₁) hT hW₁⟩) with ⟨v, vm₁, ⟨U', l2, c2, s2⟩, hW₁, X', ⟨g', mk, t, L, e1, e2, hq, h1, hL, h2, h3⟩, st⟩ | ⟨q, vm₁, ⟨U', l2, c2, s2⟩, hW₁, X', ⟨g', mk, t, L, E, ce, e1, e2, hq, hce, hcv, hcl, h1, hL, h2, h3⟩, st⟩
  · dsimp only [Pt.U, Pt.locs, Pt.cells, Pt.slots] at X' e1 e2 h1 h2 h3 st
    subst h1; subst h2; subst h3
    exact Or.inl ⟨v, (T.setVm vm₁).calling g' mk As.toArray, t, U', L, hT, X', hL, e1, e2, hq, st⟩
  · dsimp only [Pt.U, Pt.locs, Pt.cells, Pt.slots] at X' e1 e2 h1 h2 h3 st hcl
    subst h1; subst h2; subst h3
    exact Or.inr ⟨q, (T.setVm vm₁).calling g' mk As.toArray, t, U', L, E, ce, hT, X', hL, e1, e2, hq, hce, hcv, vx_cls hW₁ hcl, st⟩
end
end VXH
theorem vx_ofWH {l : Launch} {y : MethodName} {ws ws' : List Cond} {rm : Room} {Pc : Array Value → State → Prop} {Qc : Array Value → State → Outcome → State → Prop} {XC : String → State → State → Prop} {mc ms : Nat} {free : Addr → Prop} {cc : ByteArray} {maxL : Nat} {ret : Option FieldType} {hh : List (Nat × Nat × Nat × Nat)}
    (hy : plainName y.cls = true) (hw : ws = Cond.codeWith y cc maxL ret hh :: ws')
    (body : ∀ p e s m args below meth c s₁, BodyLoose p l y (headSpec ws rm) cc maxL ret e s m args below meth c s₁ → c.maxLocals = maxL → Pc args s →
      W p l e (headSpec ws rm).room s m args below meth c s.heap [] 0 0 (vx_MQ below Qc XC args s mc ms free) (entryFrame m args maxL)) : vx_Met l y ws rm Pc Qc XC mc ms free := by
  refine MetFree.of_bodyS (code := cc) (maxLocals := maxL) (ret := ret) hy ?_ ?_
  · intro args s m h hn
    obtain ⟨m9, meth, c, hn9, h1, h2, h3, h4, -, h5, h6, -⟩ := Cond.codeWith_spec (atoms_spec (ws := ws) h _ (by rw [hw]; exact List.mem_cons_self))
    cases hn.symm.trans hn9
    exact ⟨meth, c, h1, h2, h3, h4, h5, h6⟩
  · intro p e s m args below meth c s₁ B hml hP _
    have hh0 : s₁.heap = s.heap := by rw [B.state]; rfl
    obtain ⟨t, a1, o, b1, b2, b3⟩ := body p e s m args below meth c s₁ B hml hP s₁ hh0 (Stand.of_body B)
    exact ⟨t, o, a1, b1, b2, b3⟩
/-! ===== END ===== -/
end
section
abbrev R_B : String := "RationalOdes$Base"
def T_B : u_T := fun k => match k with
  | 0 => ("RationalOdes$Base", "rows", "[[J", true)
  | 1 => ("RationalOdes$Base", "leads", "[I", true)
  | 2 => ("RationalOdes$Base", "members", "[[J", true)
  | _ => ("RationalOdes$Base", "count", "I", false)
def ty_B : Nat → FieldType := fun k => match k with
  | 0 => .array (.array .long)
  | 1 => .array .int
  | 2 => .array (.array .long)
  | _ => .int
theorem nm_B : ∀ a, a < 4 → ∀ b, b < 4 → a ≠ b → (T_B a).2.1 ≠ (T_B b).2.1 := by decide +kernel
theorem tk_B : ∀ k, k < 4 → parseFieldDescriptor (T_B k).2.2.1 = some (ty_B k) := by decide +kernel
abbrev R_R : String := "RationalOdes$Roots"
def T_R : u_T := fun k => match k with
  | 0 => ("RationalOdes$Roots", "found", "[J", true)
  | 1 => ("RationalOdes$Roots", "count", "I", false)
  | 2 => ("RationalOdes$Roots", "whole", "[J", true)
  | 3 => ("RationalOdes$Roots", "part", "[J", true)
  | 4 => ("RationalOdes$Roots", "raised", "[J", true)
  | 5 => ("RationalOdes$Roots", "square", "[J", true)
  | 6 => ("RationalOdes$Roots", "one", "[J", true)
  | _ => ("RationalOdes$Roots", "two", "[J", true)
def ty_R : Nat → FieldType := fun k => match k with
  | 0 => .array .long
  | 1 => .int
  | 2 => .array .long
  | 3 => .array .long
  | 4 => .array .long
  | 5 => .array .long
  | 6 => .array .long
  | _ => .array .long
theorem nm_R : ∀ a, a < 8 → ∀ b, b < 8 → a ≠ b → (T_R a).2.1 ≠ (T_R b).2.1 := by decide +kernel
theorem tk_R : ∀ k, k < 8 → parseFieldDescriptor (T_R k).2.2.1 = some (ty_R k) := by decide +kernel
abbrev R_O : String := "RationalOdes"
def T_O : u_T := fun k => match k with
  | 0 => ("RationalOdes", "order", "I", true)
  | 1 => ("RationalOdes", "factors", "[[J", true)
  | 2 => ("RationalOdes", "other", "[[J", true)
  | 3 => ("RationalOdes", "atHand", "[J", true)
  | 4 => ("RationalOdes", "terms", "[J", true)
  | 5 => ("RationalOdes", "indicial", "[J", true)
  | 6 => ("RationalOdes", "roots", "LRationalOdes$Roots;", true)
  | 7 => ("RationalOdes", "base", "LRationalOdes$Base;", true)
  | _ => ("RationalOdes", "baseKnown", "Z", false)
def ty_O : Nat → FieldType := fun k => match k with
  | 0 => .int
  | 1 => .array (.array .long)
  | 2 => .array (.array .long)
  | 3 => .array .long
  | 4 => .array .long
  | 5 => .array .long
  | 6 => .object "RationalOdes$Roots"
  | 7 => .object "RationalOdes$Base"
  | _ => .boolean
theorem nm_O : ∀ a, a < 9 → ∀ b, b < 9 → a ≠ b → (T_O a).2.1 ≠ (T_O b).2.1 := by decide +kernel
theorem tk_O : ∀ k, k < 9 → parseFieldDescriptor (T_O k).2.2.1 = some (ty_O k) := by decide +kernel
abbrev R_M : String := "RationalOdesModel"
def T_M : u_T := fun k => match k with
  | 0 => ("RationalOdesModel", "code", "I", false)
  | 1 => ("RationalOdesModel", "order", "I", true)
  | 2 => ("RationalOdesModel", "factors", "[J", true)
  | 3 => ("RationalOdesModel", "hand", "[J", true)
  | 4 => ("RationalOdesModel", "made", "[J", true)
  | 5 => ("RationalOdesModel", "local", "[J", true)
  | 6 => ("RationalOdesModel", "level", "I", false)
  | 7 => ("RationalOdesModel", "table", "[J", true)
  | 8 => ("RationalOdesModel", "row", "[I", true)
  | 9 => ("RationalOdesModel", "base", "[J", true)
  | 10 => ("RationalOdesModel", "many", "I", false)
  | 11 => ("RationalOdesModel", "numbers", "[J", true)
  | _ => ("RationalOdesModel", "turned", "[J", true)
def ty_M : Nat → FieldType := fun k => match k with
  | 0 => .int
  | 1 => .int
  | 2 => .array .long
  | 3 => .array .long
  | 4 => .array .long
  | 5 => .array .long
  | 6 => .int
  | 7 => .array .long
  | 8 => .array .int
  | 9 => .array .long
  | 10 => .int
  | 11 => .array .long
  | _ => .array .long
theorem nm_M : ∀ a, a < 13 → ∀ b, b < 13 → a ≠ b → (T_M a).2.1 ≠ (T_M b).2.1 := by decide +kernel
theorem tk_M : ∀ k, k < 13 → parseFieldDescriptor (T_M k).2.2.1 = some (ty_M k) := by decide +kernel
abbrev R_L : String := "RationalOdesLaw"
def kb : List Cond := lw_tbl.filter goodWord
theorem kb_t {w : Cond} (h : w ∈ tables_1) (g : goodWord w = true) : w ∈ kb := List.mem_filter.mpr ⟨List.mem_append_right _ h, g⟩
theorem kb_s {w : Cond} (h : w ∈ k2_sels lw_privs) (g : goodWord w = true) : w ∈ kb := List.mem_filter.mpr ⟨List.mem_append_left _ h, g⟩
theorem kb_1 {w : Cond} (h : w ∈ tables_1_1) (g : goodWord w = true) : w ∈ kb := kb_t (List.mem_append_left _ h) g
theorem kb_2 {w : Cond} (h : w ∈ tables_1_2) (g : goodWord w = true) : w ∈ kb := kb_t (List.mem_append_right _ (List.mem_append_left _ h)) g
theorem kb_3 {w : Cond} (h : w ∈ tables_1_3) (g : goodWord w = true) : w ∈ kb := kb_t (List.mem_append_right _ (List.mem_append_right _ h)) g
theorem kb_all : ∀ w ∈ kb, w ∈ kb := fun _ h => h
theorem kb_c {w : Cond} {l : List Cond} (h : w ∈ kb) (t : ∀ w ∈ l, w ∈ kb) : ∀ w' ∈ w :: l, w' ∈ kb := fun w' h' => (List.mem_cons.mp h').elim (fun e => by rw [e]; exact h) (t w')
theorem kb_gi {l : List Cond} (h : ∀ w ∈ l, w ∈ kb) : GoodIn kb l := fun w hw => ⟨h w hw, good_of_word (List.mem_filter.mp (h w hw)).2⟩
theorem in_B : ∀ w ∈ u_ws R_B T_B 4, w ∈ kb := fun w h => kb_t ((by decide +kernel : ∀ w ∈ u_ws R_B T_B 4, w ∈ tables_1) w h) ((by decide +kernel : ∀ w ∈ u_ws R_B T_B 4, goodWord w = true) w h)
theorem in_R : ∀ w ∈ u_ws R_R T_R 8, w ∈ kb := fun w h => kb_t ((by decide +kernel : ∀ w ∈ u_ws R_R T_R 8, w ∈ tables_1) w h) ((by decide +kernel : ∀ w ∈ u_ws R_R T_R 8, goodWord w = true) w h)
theorem in_O : ∀ w ∈ u_ws R_O T_O 9, w ∈ kb := fun w h => kb_t ((by decide +kernel : ∀ w ∈ u_ws R_O T_O 9, w ∈ tables_1) w h) ((by decide +kernel : ∀ w ∈ u_ws R_O T_O 9, goodWord w = true) w h)
theorem in_M : ∀ w ∈ u_ws R_M T_M 13, w ∈ kb := fun w h => kb_t ((by decide +kernel : ∀ w ∈ u_ws R_M T_M 13, w ∈ tables_1) w h) ((by decide +kernel : ∀ w ∈ u_ws R_M T_M 13, goodWord w = true) w h)
def y_B_init : MethodName := ⟨R_B, "<init>", "()V"⟩
abbrev c_B_init : ByteArray := prog_2_method_1_code
def y_B_size : MethodName := ⟨R_B, "size", "()I"⟩
abbrev c_B_size : ByteArray := prog_2_method_2_code
def y_B_member : MethodName := ⟨R_B, "member", "(I)[J"⟩
abbrev c_B_member : ByteArray := prog_2_method_3_code
def y_B_enter : MethodName := ⟨R_B, "enter", "(IIJ)V"⟩
abbrev c_B_enter : ByteArray := prog_2_method_4_code
def y_B_solve : MethodName := ⟨R_B, "solve", "()V"⟩
abbrev c_B_solve : ByteArray := prog_2_method_5_code
def y_B_reduceRows : MethodName := ⟨R_B, "reduceRows", "()V"⟩
abbrev c_B_reduceRows : ByteArray := prog_2_method_6_code
def y_B_rowWith : MethodName := ⟨R_B, "rowWith", "(II)I"⟩
abbrev c_B_rowWith : ByteArray := prog_2_method_7_code
def y_B_swap : MethodName := ⟨R_B, "swap", "(II)V"⟩
abbrev c_B_swap : ByteArray := prog_2_method_8_code
def y_B_scaleRow : MethodName := ⟨R_B, "scaleRow", "(II)V"⟩
abbrev c_B_scaleRow : ByteArray := prog_2_method_9_code
def y_B_clearColumn : MethodName := ⟨R_B, "clearColumn", "(II)V"⟩
abbrev c_B_clearColumn : ByteArray := prog_2_method_10_code
def y_B_fillMember : MethodName := ⟨R_B, "fillMember", "([JI)V"⟩
abbrev c_B_fillMember : ByteArray := prog_2_method_11_code
def y_R_init : MethodName := ⟨R_R, "<init>", "()V"⟩
abbrev c_R_init : ByteArray := prog_3_method_1_code
def y_R_howMany : MethodName := ⟨R_R, "howMany", "()I"⟩
abbrev c_R_howMany : ByteArray := prog_3_method_2_code
def y_R_orNone : MethodName := ⟨R_R, "orNone", "(I)I"⟩
abbrev c_R_orNone : ByteArray := prog_3_method_3_code
def y_R_find : MethodName := ⟨R_R, "find", "([J)V"⟩
abbrev c_R_find : ByteArray := prog_3_method_4_code
def y_R_keepRootsOnce : MethodName := ⟨R_R, "keepRootsOnce", "()V"⟩
abbrev c_R_keepRootsOnce : ByteArray := prog_3_method_5_code
def y_R_oneRoot : MethodName := ⟨R_R, "oneRoot", "()J"⟩
abbrev c_R_oneRoot : ByteArray := prog_3_method_6_code
def y_R_insert : MethodName := ⟨R_R, "insert", "(J)V"⟩
abbrev c_R_insert : ByteArray := prog_3_method_7_code
def y_R_divideOut : MethodName := ⟨R_R, "divideOut", "(J)V"⟩
abbrev c_R_divideOut : ByteArray := prog_3_method_8_code
def y_R_raise : MethodName := ⟨R_R, "raise", "(JI[J)V"⟩
abbrev c_R_raise : ByteArray := prog_3_method_9_code
def y_R_squareRaised : MethodName := ⟨R_R, "squareRaised", "(I)V"⟩
abbrev c_R_squareRaised : ByteArray := prog_3_method_10_code
def y_R_timesLine : MethodName := ⟨R_R, "timesLine", "(J)V"⟩
abbrev c_R_timesLine : ByteArray := prog_3_method_11_code
def y_R_commonWithRaised : MethodName := ⟨R_R, "commonWithRaised", "([J)[J"⟩
abbrev c_R_commonWithRaised : ByteArray := prog_3_method_12_code
def y_R_takeMultiples : MethodName := ⟨R_R, "takeMultiples", "([J[J)V"⟩
abbrev c_R_takeMultiples : ByteArray := prog_3_method_13_code
def y_R_makeMonic : MethodName := ⟨R_R, "makeMonic", "([J)V"⟩
abbrev c_R_makeMonic : ByteArray := prog_3_method_14_code
def y_R_copy : MethodName := ⟨R_R, "copy", "([J[J)V"⟩
abbrev c_R_copy : ByteArray := prog_3_method_15_code
def y_O_init : MethodName := ⟨R_O, "<init>", "(I)V"⟩
abbrev c_O_init : ByteArray := prog_1_method_1_code
def y_O_put : MethodName := ⟨R_O, "put", "(IIJ)Z"⟩
abbrev c_O_put : ByteArray := prog_1_method_2_code
def y_O_at : MethodName := ⟨R_O, "at", "(II)I"⟩
abbrev c_O_at : ByteArray := prog_1_method_3_code
def y_O_hand : MethodName := ⟨R_O, "hand", "(IJ)V"⟩
abbrev c_O_hand : ByteArray := prog_1_method_4_code
def y_O_made : MethodName := ⟨R_O, "made", "(I)I"⟩
abbrev c_O_made : ByteArray := prog_1_method_5_code
def y_O_places : MethodName := ⟨R_O, "places", "()I"⟩
abbrev c_O_places : ByteArray := prog_1_method_6_code
def y_O_place : MethodName := ⟨R_O, "place", "(I)I"⟩
abbrev c_O_place : ByteArray := prog_1_method_7_code
def y_O_level : MethodName := ⟨R_O, "level", "(ZJ)I"⟩
abbrev c_O_level : ByteArray := prog_1_method_8_code
def y_O_regular : MethodName := ⟨R_O, "regular", "(ZJ)Z"⟩
abbrev c_O_regular : ByteArray := prog_1_method_9_code
def y_O_exponent : MethodName := ⟨R_O, "exponent", "(ZJI)I"⟩
abbrev c_O_exponent : ByteArray := prog_1_method_10_code
def y_O_answers : MethodName := ⟨R_O, "answers", "()I"⟩
abbrev c_O_answers : ByteArray := prog_1_method_11_code
def y_O_answer : MethodName := ⟨R_O, "answer", "(II)I"⟩
abbrev c_O_answer : ByteArray := prog_1_method_12_code
def y_O_solves : MethodName := ⟨R_O, "solves", "()Z"⟩
abbrev c_O_solves : ByteArray := prog_1_method_13_code
def y_O_take : MethodName := ⟨R_O, "take", "(I)V"⟩
abbrev c_O_take : ByteArray := prog_1_method_14_code
def y_O_series : MethodName := ⟨R_O, "series", "(JJJJI)I"⟩
abbrev c_O_series : ByteArray := prog_1_method_15_code
def y_O_turn : MethodName := ⟨R_O, "turn", "()V"⟩
abbrev c_O_turn : ByteArray := prog_1_method_16_code
def y_O_move : MethodName := ⟨R_O, "move", "(J)V"⟩
abbrev c_O_move : ByteArray := prog_1_method_17_code
def y_O_clear : MethodName := ⟨R_O, "clear", "()V"⟩
abbrev c_O_clear : ByteArray := prog_1_method_18_code
def y_O_needFactorPower : MethodName := ⟨R_O, "needFactorPower", "(II)V"⟩
abbrev c_O_needFactorPower : ByteArray := prog_1_method_19_code
def y_O_needHandPower : MethodName := ⟨R_O, "needHandPower", "(I)V"⟩
abbrev c_O_needHandPower : ByteArray := prog_1_method_20_code
def y_O_needMember : MethodName := ⟨R_O, "needMember", "(I)V"⟩
abbrev c_O_needMember : ByteArray := prog_1_method_21_code
def y_O_findPlaces : MethodName := ⟨R_O, "findPlaces", "()V"⟩
abbrev c_O_findPlaces : ByteArray := prog_1_method_22_code
def y_O_goTo : MethodName := ⟨R_O, "goTo", "(ZJ)I"⟩
abbrev c_O_goTo : ByteArray := prog_1_method_23_code
def y_O_allZero : MethodName := ⟨R_O, "allZero", "()Z"⟩
abbrev c_O_allZero : ByteArray := prog_1_method_24_code
def y_O_leastGap : MethodName := ⟨R_O, "leastGap", "()I"⟩
abbrev c_O_leastGap : ByteArray := prog_1_method_25_code
def y_O_greatestGap : MethodName := ⟨R_O, "greatestGap", "()I"⟩
abbrev c_O_greatestGap : ByteArray := prog_1_method_26_code
def y_O_isGap : MethodName := ⟨R_O, "isGap", "(I)Z"⟩
abbrev c_O_isGap : ByteArray := prog_1_method_27_code
def y_O_otherAt : MethodName := ⟨R_O, "otherAt", "(II)J"⟩
abbrev c_O_otherAt : ByteArray := prog_1_method_28_code
def y_O_fillIndicial : MethodName := ⟨R_O, "fillIndicial", "(I)V"⟩
abbrev c_O_fillIndicial : ByteArray := prog_1_method_29_code
def y_O_shiftToOther : MethodName := ⟨R_O, "shiftToOther", "(J)V"⟩
abbrev c_O_shiftToOther : ByteArray := prog_1_method_30_code
def y_O_share : MethodName := ⟨R_O, "share", "([[JII)J"⟩
abbrev c_O_share : ByteArray := prog_1_method_31_code
def y_O_madeAt : MethodName := ⟨R_O, "madeAt", "(I)J"⟩
abbrev c_O_madeAt : ByteArray := prog_1_method_32_code
def y_O_nextTerm : MethodName := ⟨R_O, "nextTerm", "(I)J"⟩
abbrev c_O_nextTerm : ByteArray := prog_1_method_33_code
def y_O_adjointAt : MethodName := ⟨R_O, "adjointAt", "(II)J"⟩
abbrev c_O_adjointAt : ByteArray := prog_1_method_34_code
def y_O_slopeAt : MethodName := ⟨R_O, "slopeAt", "([JII)J"⟩
abbrev c_O_slopeAt : ByteArray := prog_1_method_35_code
def y_O_knowBase : MethodName := ⟨R_O, "knowBase", "()V"⟩
abbrev c_O_knowBase : ByteArray := prog_1_method_36_code
def y_O_number : MethodName := ⟨R_O, "number", "(J)J"⟩
abbrev c_O_number : ByteArray := prog_1_method_37_code
def y_O_inverse : MethodName := ⟨R_O, "inverse", "(J)J"⟩
abbrev c_O_inverse : ByteArray := prog_1_method_38_code
def y_O_isZero : MethodName := ⟨R_O, "isZero", "([J)Z"⟩
abbrev c_O_isZero : ByteArray := prog_1_method_39_code
def y_O_degree : MethodName := ⟨R_O, "degree", "([J)I"⟩
abbrev c_O_degree : ByteArray := prog_1_method_40_code
def y_O_shift : MethodName := ⟨R_O, "shift", "([JJ)V"⟩
abbrev c_O_shift : ByteArray := prog_1_method_41_code
def y_M_init : MethodName := ⟨R_M, "<init>", "(I)V"⟩
abbrev c_M_init : ByteArray := prog_5_method_1_code
def y_M_thrown : MethodName := ⟨R_M, "thrown", "()I"⟩
abbrev c_M_thrown : ByteArray := prog_5_method_2_code
def y_M_raise : MethodName := ⟨R_M, "raise", "(I)I"⟩
abbrev c_M_raise : ByteArray := prog_5_method_3_code
def y_M_in : MethodName := ⟨R_M, "in", "(JJJ)Z"⟩
abbrev c_M_in : ByteArray := prog_5_method_4_code
def y_M_modulo : MethodName := ⟨R_M, "modulo", "(J)J"⟩
abbrev c_M_modulo : ByteArray := prog_5_method_5_code
def y_M_inverse : MethodName := ⟨R_M, "inverse", "(J)J"⟩
abbrev c_M_inverse : ByteArray := prog_5_method_6_code
def y_M_falling : MethodName := ⟨R_M, "falling", "(JI)J"⟩
abbrev c_M_falling : ByteArray := prog_5_method_7_code
def y_M_isThere : MethodName := ⟨R_M, "isThere", "(II)Z"⟩
abbrev c_M_isThere : ByteArray := prog_5_method_8_code
def y_M_put : MethodName := ⟨R_M, "put", "(IIJ)Z"⟩
abbrev c_M_put : ByteArray := prog_5_method_9_code
def y_M_at : MethodName := ⟨R_M, "at", "(II)I"⟩
abbrev c_M_at : ByteArray := prog_5_method_10_code
def y_M_clear : MethodName := ⟨R_M, "clear", "()V"⟩
abbrev c_M_clear : ByteArray := prog_5_method_11_code
def y_M_moveTo : MethodName := ⟨R_M, "moveTo", "(J)V"⟩
abbrev c_M_moveTo : ByteArray := prog_5_method_12_code
def y_M_move : MethodName := ⟨R_M, "move", "(J)V"⟩
abbrev c_M_move : ByteArray := prog_5_method_13_code
def y_M_turn : MethodName := ⟨R_M, "turn", "()V"⟩
abbrev c_M_turn : ByteArray := prog_5_method_14_code
def y_M_hand : MethodName := ⟨R_M, "hand", "(IJ)V"⟩
abbrev c_M_hand : ByteArray := prog_5_method_15_code
def y_M_make : MethodName := ⟨R_M, "make", "(IJ)V"⟩
abbrev c_M_make : ByteArray := prog_5_method_16_code
def y_M_makeAll : MethodName := ⟨R_M, "makeAll", "()V"⟩
abbrev c_M_makeAll : ByteArray := prog_5_method_17_code
def y_M_made : MethodName := ⟨R_M, "made", "(I)I"⟩
abbrev c_M_made : ByteArray := prog_5_method_18_code
def y_M_solves : MethodName := ⟨R_M, "solves", "()Z"⟩
abbrev c_M_solves : ByteArray := prog_5_method_19_code
def y_M_hasHead : MethodName := ⟨R_M, "hasHead", "()Z"⟩
abbrev c_M_hasHead : ByteArray := prog_5_method_20_code
def y_M_headAt : MethodName := ⟨R_M, "headAt", "(J)J"⟩
abbrev c_M_headAt : ByteArray := prog_5_method_21_code
def y_M_find : MethodName := ⟨R_M, "find", "(I)I"⟩
abbrev c_M_find : ByteArray := prog_5_method_22_code
def y_M_places : MethodName := ⟨R_M, "places", "()I"⟩
abbrev c_M_places : ByteArray := prog_5_method_23_code
def y_M_place : MethodName := ⟨R_M, "place", "(I)I"⟩
abbrev c_M_place : ByteArray := prog_5_method_24_code
def y_M_findLevel : MethodName := ⟨R_M, "findLevel", "(ZJ)Z"⟩
abbrev c_M_findLevel : ByteArray := prog_5_method_25_code
def y_M_level : MethodName := ⟨R_M, "level", "(ZJ)I"⟩
abbrev c_M_level : ByteArray := prog_5_method_26_code
def y_M_localAt : MethodName := ⟨R_M, "localAt", "(I)J"⟩
abbrev c_M_localAt : ByteArray := prog_5_method_27_code
def y_M_regular : MethodName := ⟨R_M, "regular", "(ZJ)Z"⟩
abbrev c_M_regular : ByteArray := prog_5_method_28_code
def y_M_exponent : MethodName := ⟨R_M, "exponent", "(ZJI)I"⟩
abbrev c_M_exponent : ByteArray := prog_5_method_29_code
def y_M_findAnswers : MethodName := ⟨R_M, "findAnswers", "()V"⟩
abbrev c_M_findAnswers : ByteArray := prog_5_method_30_code
def y_M_bringOut : MethodName := ⟨R_M, "bringOut", "(III)V"⟩
abbrev c_M_bringOut : ByteArray := prog_5_method_31_code
def y_M_answers : MethodName := ⟨R_M, "answers", "()I"⟩
abbrev c_M_answers : ByteArray := prog_5_method_32_code
def y_M_isMember : MethodName := ⟨R_M, "isMember", "(II)Z"⟩
abbrev c_M_isMember : ByteArray := prog_5_method_33_code
def y_M_answer : MethodName := ⟨R_M, "answer", "(II)I"⟩
abbrev c_M_answer : ByteArray := prog_5_method_34_code
def y_M_take : MethodName := ⟨R_M, "take", "(I)V"⟩
abbrev c_M_take : ByteArray := prog_5_method_35_code
def y_M_series : MethodName := ⟨R_M, "series", "(JJJJI)I"⟩
abbrev c_M_series : ByteArray := prog_5_method_36_code
def y_L_cell : MethodName := ⟨R_L, "cell", "([II)I"⟩
abbrev c_L_cell : ByteArray := method_2_code
def y_L_put : MethodName := ⟨R_L, "put", "(LRationalOdes;IIJ[J)I"⟩
abbrev c_L_put : ByteArray := method_3_code
def y_L_at : MethodName := ⟨R_L, "at", "(LRationalOdes;II[J)I"⟩
abbrev c_L_at : ByteArray := method_4_code
def y_L_hand : MethodName := ⟨R_L, "hand", "(LRationalOdes;IJ)I"⟩
abbrev c_L_hand : ByteArray := method_5_code
def y_L_places : MethodName := ⟨R_L, "places", "(LRationalOdes;[J)I"⟩
abbrev c_L_places : ByteArray := method_6_code
def y_L_place : MethodName := ⟨R_L, "place", "(LRationalOdes;I[J)I"⟩
abbrev c_L_place : ByteArray := method_7_code
def y_L_level : MethodName := ⟨R_L, "level", "(LRationalOdes;ZJ[J)I"⟩
abbrev c_L_level : ByteArray := method_8_code
def y_L_regular : MethodName := ⟨R_L, "regular", "(LRationalOdes;ZJ[J)I"⟩
abbrev c_L_regular : ByteArray := method_9_code
def y_L_exponent : MethodName := ⟨R_L, "exponent", "(LRationalOdes;ZJI[J)I"⟩
abbrev c_L_exponent : ByteArray := method_10_code
def y_L_answer : MethodName := ⟨R_L, "answer", "(LRationalOdes;II[J)I"⟩
abbrev c_L_answer : ByteArray := method_11_code
def y_L_take : MethodName := ⟨R_L, "take", "(LRationalOdes;I)I"⟩
abbrev c_L_take : ByteArray := method_12_code
def y_L_series : MethodName := ⟨R_L, "series", "(LRationalOdes;JJJJI[J)I"⟩
abbrev c_L_series : ByteArray := method_13_code
def y_L_law : MethodName := ⟨R_L, "law", "([I)Z"⟩
abbrev c_L_law : ByteArray := code
def y_J_fill : MethodName := ⟨"java/util/Arrays", "fill", "([JJ)V"⟩
abbrev c_J_fill : ByteArray := prog_15_method_101_code
theorem kw_0 : (Jvm.Cond.initialized "RationalOdesLaw") ∈ kb := kb_1 (List.mem_of_getElem? (i := 0) rfl) rfl
theorem kw_1 : (Jvm.Cond.initialized "RationalOdes") ∈ kb := kb_1 (List.mem_of_getElem? (i := 1) rfl) rfl
theorem kw_2 : (Jvm.Cond.initialized "RationalOdes$Roots") ∈ kb := kb_1 (List.mem_of_getElem? (i := 2) rfl) rfl
theorem kw_3 : (Jvm.Cond.initialized "RationalOdes$Base") ∈ kb := kb_1 (List.mem_of_getElem? (i := 3) rfl) rfl
theorem kw_4 : (Jvm.Cond.initialized "java/lang/Math") ∈ kb := kb_1 (List.mem_of_getElem? (i := 4) rfl) rfl
theorem kw_5 : (Jvm.Cond.initialized "RationalOdesModel") ∈ kb := kb_1 (List.mem_of_getElem? (i := 5) rfl) rfl
theorem kw_11 : (Jvm.Cond.initialized "java/lang/System") ∈ kb := kb_1 (List.mem_of_getElem? (i := 11) rfl) rfl
theorem kw_12 : (Jvm.Cond.initialized "java/util/Arrays") ∈ kb := kb_1 (List.mem_of_getElem? (i := 12) rfl) rfl
theorem kw_14 : (Jvm.Cond.classLink "RationalOdesLaw" (8 : Nat) "RationalOdes") ∈ kb := kb_1 (List.mem_of_getElem? (i := 14) rfl) rfl
theorem kw_15 : (Jvm.Cond.instantiable "RationalOdes" (9 : Nat)) ∈ kb := kb_1 (List.mem_of_getElem? (i := 15) rfl) rfl
theorem kw_16 : (Jvm.Cond.methodLink "RationalOdesLaw" (64 : Nat) ({ cls := "RationalOdes", name := "<init>", desc := "(I)V" } : Jvm.MethodName)) ∈ kb := kb_1 (List.mem_of_getElem? (i := 16) rfl) rfl
theorem kw_17 : (Jvm.Cond.instanceMethod ({ cls := "RationalOdes", name := "<init>", desc := "(I)V" } : Jvm.MethodName)) ∈ kb := kb_1 (List.mem_of_getElem? (i := 17) rfl) rfl
theorem kw_18 : (Jvm.Cond.code ({ cls := "RationalOdes", name := "<init>", desc := "(I)V" } : Jvm.MethodName) prog_1_method_1_code (2 : Nat) (Option.none : Option Jvm.ClassFile.FieldType)) ∈ kb := kb_1 (List.mem_of_getElem? (i := 18) rfl) rfl
theorem kw_19 : (Jvm.Cond.methodLink "RationalOdes" (3 : Nat) ({ cls := "java/lang/Object", name := "<init>", desc := "()V" } : Jvm.MethodName)) ∈ kb := kb_1 (List.mem_of_getElem? (i := 19) rfl) rfl
theorem kw_20 : (Jvm.Cond.instanceMethod ({ cls := "java/lang/Object", name := "<init>", desc := "()V" } : Jvm.MethodName)) ∈ kb := kb_1 (List.mem_of_getElem? (i := 20) rfl) rfl
theorem kw_21 : (Jvm.Cond.code ({ cls := "java/lang/Object", name := "<init>", desc := "()V" } : Jvm.MethodName) object_method_1_code (1 : Nat) (Option.none : Option Jvm.ClassFile.FieldType)) ∈ kb := kb_1 (List.mem_of_getElem? (i := 21) rfl) rfl
theorem kw_22 : (Jvm.Cond.classLink "RationalOdes" (9 : Nat) "[[J") ∈ kb := kb_1 (List.mem_of_getElem? (i := 22) rfl) rfl
theorem kw_24 : (Jvm.Cond.classLink "RationalOdes" (27 : Nat) "RationalOdes$Roots") ∈ kb := kb_1 (List.mem_of_getElem? (i := 24) rfl) rfl
theorem kw_25 : (Jvm.Cond.instantiable "RationalOdes$Roots" (8 : Nat)) ∈ kb := kb_1 (List.mem_of_getElem? (i := 25) rfl) rfl
theorem kw_27 : (Jvm.Cond.instanceMethod ({ cls := "RationalOdes$Roots", name := "<init>", desc := "()V" } : Jvm.MethodName)) ∈ kb := kb_1 (List.mem_of_getElem? (i := 27) rfl) rfl
theorem kw_28 : (Jvm.Cond.code ({ cls := "RationalOdes$Roots", name := "<init>", desc := "()V" } : Jvm.MethodName) prog_3_method_1_code (1 : Nat) (Option.none : Option Jvm.ClassFile.FieldType)) ∈ kb := kb_1 (List.mem_of_getElem? (i := 28) rfl) rfl
theorem kw_29 : (Jvm.Cond.methodLink "RationalOdes$Roots" (3 : Nat) ({ cls := "java/lang/Object", name := "<init>", desc := "()V" } : Jvm.MethodName)) ∈ kb := kb_1 (List.mem_of_getElem? (i := 29) rfl) rfl
theorem kw_30 : (Jvm.Cond.fieldLink "RationalOdes$Roots" (9 : Nat) "RationalOdes$Roots" "found" "[J") ∈ kb := kb_1 (List.mem_of_getElem? (i := 30) rfl) rfl
theorem kw_31 : (Jvm.Cond.fieldLink "RationalOdes$Roots" (15 : Nat) "RationalOdes$Roots" "count" "I") ∈ kb := kb_1 (List.mem_of_getElem? (i := 31) rfl) rfl
theorem kw_32 : (Jvm.Cond.fieldLink "RationalOdes$Roots" (19 : Nat) "RationalOdes$Roots" "whole" "[J") ∈ kb := kb_1 (List.mem_of_getElem? (i := 32) rfl) rfl
theorem kw_33 : (Jvm.Cond.fieldLink "RationalOdes$Roots" (22 : Nat) "RationalOdes$Roots" "part" "[J") ∈ kb := kb_1 (List.mem_of_getElem? (i := 33) rfl) rfl
theorem kw_34 : (Jvm.Cond.fieldLink "RationalOdes$Roots" (25 : Nat) "RationalOdes$Roots" "raised" "[J") ∈ kb := kb_1 (List.mem_of_getElem? (i := 34) rfl) rfl
theorem kw_35 : (Jvm.Cond.fieldLink "RationalOdes$Roots" (28 : Nat) "RationalOdes$Roots" "square" "[J") ∈ kb := kb_1 (List.mem_of_getElem? (i := 35) rfl) rfl
theorem kw_36 : (Jvm.Cond.fieldLink "RationalOdes$Roots" (31 : Nat) "RationalOdes$Roots" "one" "[J") ∈ kb := kb_1 (List.mem_of_getElem? (i := 36) rfl) rfl
theorem kw_37 : (Jvm.Cond.fieldLink "RationalOdes$Roots" (34 : Nat) "RationalOdes$Roots" "two" "[J") ∈ kb := kb_1 (List.mem_of_getElem? (i := 37) rfl) rfl
theorem kw_38 : (Jvm.Cond.laysFinal "RationalOdes$Roots" "RationalOdes$Roots" "found" "[J") ∈ kb := kb_1 (List.mem_of_getElem? (i := 38) rfl) rfl
theorem kw_39 : (Jvm.Cond.soleField "RationalOdes$Roots" "found") ∈ kb := kb_1 (List.mem_of_getElem? (i := 39) rfl) rfl
theorem kw_40 : (Jvm.Cond.lays "RationalOdes$Roots" "RationalOdes$Roots" "count" "I") ∈ kb := kb_1 (List.mem_of_getElem? (i := 40) rfl) rfl
theorem kw_41 : (Jvm.Cond.soleField "RationalOdes$Roots" "count") ∈ kb := kb_1 (List.mem_of_getElem? (i := 41) rfl) rfl
theorem kw_42 : (Jvm.Cond.laysFinal "RationalOdes$Roots" "RationalOdes$Roots" "whole" "[J") ∈ kb := kb_1 (List.mem_of_getElem? (i := 42) rfl) rfl
theorem kw_43 : (Jvm.Cond.soleField "RationalOdes$Roots" "whole") ∈ kb := kb_1 (List.mem_of_getElem? (i := 43) rfl) rfl
theorem kw_44 : (Jvm.Cond.laysFinal "RationalOdes$Roots" "RationalOdes$Roots" "part" "[J") ∈ kb := kb_1 (List.mem_of_getElem? (i := 44) rfl) rfl
theorem kw_45 : (Jvm.Cond.soleField "RationalOdes$Roots" "part") ∈ kb := kb_1 (List.mem_of_getElem? (i := 45) rfl) rfl
theorem kw_46 : (Jvm.Cond.laysFinal "RationalOdes$Roots" "RationalOdes$Roots" "raised" "[J") ∈ kb := kb_1 (List.mem_of_getElem? (i := 46) rfl) rfl
theorem kw_47 : (Jvm.Cond.soleField "RationalOdes$Roots" "raised") ∈ kb := kb_1 (List.mem_of_getElem? (i := 47) rfl) rfl
theorem kw_48 : (Jvm.Cond.laysFinal "RationalOdes$Roots" "RationalOdes$Roots" "square" "[J") ∈ kb := kb_1 (List.mem_of_getElem? (i := 48) rfl) rfl
theorem kw_49 : (Jvm.Cond.soleField "RationalOdes$Roots" "square") ∈ kb := kb_1 (List.mem_of_getElem? (i := 49) rfl) rfl
theorem kw_50 : (Jvm.Cond.laysFinal "RationalOdes$Roots" "RationalOdes$Roots" "one" "[J") ∈ kb := kb_1 (List.mem_of_getElem? (i := 50) rfl) rfl
theorem kw_51 : (Jvm.Cond.soleField "RationalOdes$Roots" "one") ∈ kb := kb_1 (List.mem_of_getElem? (i := 51) rfl) rfl
theorem kw_52 : (Jvm.Cond.laysFinal "RationalOdes$Roots" "RationalOdes$Roots" "two" "[J") ∈ kb := kb_1 (List.mem_of_getElem? (i := 52) rfl) rfl
theorem kw_53 : (Jvm.Cond.soleField "RationalOdes$Roots" "two") ∈ kb := kb_1 (List.mem_of_getElem? (i := 53) rfl) rfl
theorem kw_54 : (Jvm.Cond.superclass "RationalOdes$Roots" "java/lang/Object") ∈ kb := kb_1 (List.mem_of_getElem? (i := 54) rfl) rfl
theorem kw_55 : (Jvm.Cond.arrayClass Jvm.ClassFile.FieldType.long) ∈ kb := kb_1 (List.mem_of_getElem? (i := 55) rfl) rfl
theorem kw_56 : (Jvm.Cond.classLink "RationalOdes" (34 : Nat) "RationalOdes$Base") ∈ kb := kb_1 (List.mem_of_getElem? (i := 56) rfl) rfl
theorem kw_57 : (Jvm.Cond.instantiable "RationalOdes$Base" (4 : Nat)) ∈ kb := kb_1 (List.mem_of_getElem? (i := 57) rfl) rfl
theorem kw_59 : (Jvm.Cond.instanceMethod ({ cls := "RationalOdes$Base", name := "<init>", desc := "()V" } : Jvm.MethodName)) ∈ kb := kb_1 (List.mem_of_getElem? (i := 59) rfl) rfl
theorem kw_60 : (Jvm.Cond.code ({ cls := "RationalOdes$Base", name := "<init>", desc := "()V" } : Jvm.MethodName) prog_2_method_1_code (1 : Nat) (Option.none : Option Jvm.ClassFile.FieldType)) ∈ kb := kb_1 (List.mem_of_getElem? (i := 60) rfl) rfl
theorem kw_61 : (Jvm.Cond.methodLink "RationalOdes$Base" (3 : Nat) ({ cls := "java/lang/Object", name := "<init>", desc := "()V" } : Jvm.MethodName)) ∈ kb := kb_1 (List.mem_of_getElem? (i := 61) rfl) rfl
theorem kw_62 : (Jvm.Cond.classLink "RationalOdes$Base" (9 : Nat) "[[J") ∈ kb := kb_1 (List.mem_of_getElem? (i := 62) rfl) rfl
theorem kw_63 : (Jvm.Cond.fieldLink "RationalOdes$Base" (11 : Nat) "RationalOdes$Base" "rows" "[[J") ∈ kb := kb_1 (List.mem_of_getElem? (i := 63) rfl) rfl
theorem kw_64 : (Jvm.Cond.fieldLink "RationalOdes$Base" (16 : Nat) "RationalOdes$Base" "leads" "[I") ∈ kb := kb_1 (List.mem_of_getElem? (i := 64) rfl) rfl
theorem kw_65 : (Jvm.Cond.fieldLink "RationalOdes$Base" (20 : Nat) "RationalOdes$Base" "members" "[[J") ∈ kb := kb_1 (List.mem_of_getElem? (i := 65) rfl) rfl
theorem kw_66 : (Jvm.Cond.fieldLink "RationalOdes$Base" (23 : Nat) "RationalOdes$Base" "count" "I") ∈ kb := kb_1 (List.mem_of_getElem? (i := 66) rfl) rfl
theorem kw_67 : (Jvm.Cond.laysFinal "RationalOdes$Base" "RationalOdes$Base" "rows" "[[J") ∈ kb := kb_1 (List.mem_of_getElem? (i := 67) rfl) rfl
theorem kw_68 : (Jvm.Cond.soleField "RationalOdes$Base" "rows") ∈ kb := kb_1 (List.mem_of_getElem? (i := 68) rfl) rfl
theorem kw_69 : (Jvm.Cond.laysFinal "RationalOdes$Base" "RationalOdes$Base" "leads" "[I") ∈ kb := kb_1 (List.mem_of_getElem? (i := 69) rfl) rfl
theorem kw_70 : (Jvm.Cond.soleField "RationalOdes$Base" "leads") ∈ kb := kb_1 (List.mem_of_getElem? (i := 70) rfl) rfl
theorem kw_71 : (Jvm.Cond.laysFinal "RationalOdes$Base" "RationalOdes$Base" "members" "[[J") ∈ kb := kb_1 (List.mem_of_getElem? (i := 71) rfl) rfl
theorem kw_72 : (Jvm.Cond.soleField "RationalOdes$Base" "members") ∈ kb := kb_1 (List.mem_of_getElem? (i := 72) rfl) rfl
theorem kw_73 : (Jvm.Cond.lays "RationalOdes$Base" "RationalOdes$Base" "count" "I") ∈ kb := kb_1 (List.mem_of_getElem? (i := 73) rfl) rfl
theorem kw_74 : (Jvm.Cond.soleField "RationalOdes$Base" "count") ∈ kb := kb_1 (List.mem_of_getElem? (i := 74) rfl) rfl
theorem kw_75 : (Jvm.Cond.superclass "RationalOdes$Base" "java/lang/Object") ∈ kb := kb_1 (List.mem_of_getElem? (i := 75) rfl) rfl
theorem kw_76 : (Jvm.Cond.arrayClass Jvm.ClassFile.FieldType.int) ∈ kb := kb_1 (List.mem_of_getElem? (i := 76) rfl) rfl
theorem kw_77 : (Jvm.Cond.methodLink "RationalOdes" (45 : Nat) ({ cls := "java/lang/Math", name := "min", desc := "(II)I" } : Jvm.MethodName)) ∈ kb := kb_1 (List.mem_of_getElem? (i := 77) rfl) rfl
theorem kw_78 : (Jvm.Cond.static ({ cls := "java/lang/Math", name := "min", desc := "(II)I" } : Jvm.MethodName)) ∈ kb := kb_1 (List.mem_of_getElem? (i := 78) rfl) rfl
theorem kw_79 : (Jvm.Cond.code ({ cls := "java/lang/Math", name := "min", desc := "(II)I" } : Jvm.MethodName) prog_10_method_69_code (2 : Nat) (Option.some Jvm.ClassFile.FieldType.int)) ∈ kb := kb_1 (List.mem_of_getElem? (i := 79) rfl) rfl
theorem kw_80 : (Jvm.Cond.methodLink "RationalOdes" (51 : Nat) ({ cls := "java/lang/Math", name := "max", desc := "(II)I" } : Jvm.MethodName)) ∈ kb := kb_1 (List.mem_of_getElem? (i := 80) rfl) rfl
theorem kw_81 : (Jvm.Cond.static ({ cls := "java/lang/Math", name := "max", desc := "(II)I" } : Jvm.MethodName)) ∈ kb := kb_1 (List.mem_of_getElem? (i := 81) rfl) rfl
theorem kw_82 : (Jvm.Cond.code ({ cls := "java/lang/Math", name := "max", desc := "(II)I" } : Jvm.MethodName) prog_10_method_65_code (2 : Nat) (Option.some Jvm.ClassFile.FieldType.int)) ∈ kb := kb_1 (List.mem_of_getElem? (i := 82) rfl) rfl
theorem kw_83 : (Jvm.Cond.fieldLink "RationalOdes" (54 : Nat) "RationalOdes" "order" "I") ∈ kb := kb_1 (List.mem_of_getElem? (i := 83) rfl) rfl
theorem kw_84 : (Jvm.Cond.fieldLink "RationalOdes" (11 : Nat) "RationalOdes" "factors" "[[J") ∈ kb := kb_1 (List.mem_of_getElem? (i := 84) rfl) rfl
theorem kw_85 : (Jvm.Cond.fieldLink "RationalOdes" (14 : Nat) "RationalOdes" "other" "[[J") ∈ kb := kb_1 (List.mem_of_getElem? (i := 85) rfl) rfl
theorem kw_86 : (Jvm.Cond.fieldLink "RationalOdes" (17 : Nat) "RationalOdes" "atHand" "[J") ∈ kb := kb_1 (List.mem_of_getElem? (i := 86) rfl) rfl
theorem kw_87 : (Jvm.Cond.fieldLink "RationalOdes" (21 : Nat) "RationalOdes" "terms" "[J") ∈ kb := kb_1 (List.mem_of_getElem? (i := 87) rfl) rfl
theorem kw_88 : (Jvm.Cond.fieldLink "RationalOdes" (24 : Nat) "RationalOdes" "indicial" "[J") ∈ kb := kb_1 (List.mem_of_getElem? (i := 88) rfl) rfl
theorem kw_89 : (Jvm.Cond.fieldLink "RationalOdes" (30 : Nat) "RationalOdes" "roots" "LRationalOdes$Roots;") ∈ kb := kb_1 (List.mem_of_getElem? (i := 89) rfl) rfl
theorem kw_90 : (Jvm.Cond.fieldLink "RationalOdes" (37 : Nat) "RationalOdes" "base" "LRationalOdes$Base;") ∈ kb := kb_1 (List.mem_of_getElem? (i := 90) rfl) rfl
theorem kw_91 : (Jvm.Cond.fieldLink "RationalOdes" (41 : Nat) "RationalOdes" "baseKnown" "Z") ∈ kb := kb_1 (List.mem_of_getElem? (i := 91) rfl) rfl
theorem kw_92 : (Jvm.Cond.laysFinal "RationalOdes" "RationalOdes" "order" "I") ∈ kb := kb_1 (List.mem_of_getElem? (i := 92) rfl) rfl
theorem kw_93 : (Jvm.Cond.soleField "RationalOdes" "order") ∈ kb := kb_1 (List.mem_of_getElem? (i := 93) rfl) rfl
theorem kw_94 : (Jvm.Cond.laysFinal "RationalOdes" "RationalOdes" "factors" "[[J") ∈ kb := kb_1 (List.mem_of_getElem? (i := 94) rfl) rfl
theorem kw_95 : (Jvm.Cond.soleField "RationalOdes" "factors") ∈ kb := kb_1 (List.mem_of_getElem? (i := 95) rfl) rfl
theorem kw_96 : (Jvm.Cond.laysFinal "RationalOdes" "RationalOdes" "other" "[[J") ∈ kb := kb_1 (List.mem_of_getElem? (i := 96) rfl) rfl
theorem kw_97 : (Jvm.Cond.soleField "RationalOdes" "other") ∈ kb := kb_1 (List.mem_of_getElem? (i := 97) rfl) rfl
theorem kw_98 : (Jvm.Cond.laysFinal "RationalOdes" "RationalOdes" "atHand" "[J") ∈ kb := kb_1 (List.mem_of_getElem? (i := 98) rfl) rfl
theorem kw_99 : (Jvm.Cond.soleField "RationalOdes" "atHand") ∈ kb := kb_1 (List.mem_of_getElem? (i := 99) rfl) rfl
theorem kw_100 : (Jvm.Cond.laysFinal "RationalOdes" "RationalOdes" "terms" "[J") ∈ kb := kb_1 (List.mem_of_getElem? (i := 100) rfl) rfl
theorem kw_101 : (Jvm.Cond.soleField "RationalOdes" "terms") ∈ kb := kb_1 (List.mem_of_getElem? (i := 101) rfl) rfl
theorem kw_102 : (Jvm.Cond.laysFinal "RationalOdes" "RationalOdes" "indicial" "[J") ∈ kb := kb_1 (List.mem_of_getElem? (i := 102) rfl) rfl
theorem kw_103 : (Jvm.Cond.soleField "RationalOdes" "indicial") ∈ kb := kb_1 (List.mem_of_getElem? (i := 103) rfl) rfl
theorem kw_104 : (Jvm.Cond.laysFinal "RationalOdes" "RationalOdes" "roots" "LRationalOdes$Roots;") ∈ kb := kb_1 (List.mem_of_getElem? (i := 104) rfl) rfl
theorem kw_105 : (Jvm.Cond.soleField "RationalOdes" "roots") ∈ kb := kb_1 (List.mem_of_getElem? (i := 105) rfl) rfl
theorem kw_106 : (Jvm.Cond.laysFinal "RationalOdes" "RationalOdes" "base" "LRationalOdes$Base;") ∈ kb := kb_1 (List.mem_of_getElem? (i := 106) rfl) rfl
theorem kw_107 : (Jvm.Cond.soleField "RationalOdes" "base") ∈ kb := kb_1 (List.mem_of_getElem? (i := 107) rfl) rfl
theorem kw_108 : (Jvm.Cond.lays "RationalOdes" "RationalOdes" "baseKnown" "Z") ∈ kb := kb_1 (List.mem_of_getElem? (i := 108) rfl) rfl
theorem kw_109 : (Jvm.Cond.soleField "RationalOdes" "baseKnown") ∈ kb := kb_1 (List.mem_of_getElem? (i := 109) rfl) rfl
theorem kw_110 : (Jvm.Cond.superclass "RationalOdes" "java/lang/Object") ∈ kb := kb_1 (List.mem_of_getElem? (i := 110) rfl) rfl
theorem kw_111 : (Jvm.Cond.methodLink "RationalOdesLaw" (86 : Nat) ({ cls := "RationalOdes", name := "made", desc := "(I)I" } : Jvm.MethodName)) ∈ kb := kb_1 (List.mem_of_getElem? (i := 111) rfl) rfl
theorem kw_112 : (Jvm.Cond.instanceMethod ({ cls := "RationalOdes", name := "made", desc := "(I)I" } : Jvm.MethodName)) ∈ kb := kb_1 (List.mem_of_getElem? (i := 112) rfl) rfl
theorem kw_113 : (Jvm.Cond.selects "RationalOdes" ({ cls := "RationalOdes", name := "made", desc := "(I)I" } : Jvm.MethodName) ({ cls := "RationalOdes", name := "made", desc := "(I)I" } : Jvm.MethodName)) ∈ kb := kb_1 (List.mem_of_getElem? (i := 113) rfl) rfl
theorem kw_114 : (Jvm.Cond.code ({ cls := "RationalOdes", name := "made", desc := "(I)I" } : Jvm.MethodName) prog_1_method_5_code (2 : Nat) (Option.some Jvm.ClassFile.FieldType.int)) ∈ kb := kb_1 (List.mem_of_getElem? (i := 114) rfl) rfl
theorem kw_115 : (Jvm.Cond.methodLink "RationalOdes" (70 : Nat) ({ cls := "RationalOdes", name := "madeAt", desc := "(I)J" } : Jvm.MethodName)) ∈ kb := kb_1 (List.mem_of_getElem? (i := 115) rfl) rfl
theorem kw_117 : (Jvm.Cond.instanceMethod ({ cls := "RationalOdes", name := "madeAt", desc := "(I)J" } : Jvm.MethodName)) ∈ kb := kb_1 (List.mem_of_getElem? (i := 117) rfl) rfl
theorem kw_118 : (Jvm.Cond.code ({ cls := "RationalOdes", name := "madeAt", desc := "(I)J" } : Jvm.MethodName) prog_1_method_32_code (5 : Nat) (Option.some Jvm.ClassFile.FieldType.long)) ∈ kb := kb_1 (List.mem_of_getElem? (i := 118) rfl) rfl
theorem kw_119 : (Jvm.Cond.methodLink "RationalOdes" (187 : Nat) ({ cls := "RationalOdes", name := "share", desc := "([[JII)J" } : Jvm.MethodName)) ∈ kb := kb_1 (List.mem_of_getElem? (i := 119) rfl) rfl
theorem kw_121 : (Jvm.Cond.instanceMethod ({ cls := "RationalOdes", name := "share", desc := "([[JII)J" } : Jvm.MethodName)) ∈ kb := kb_1 (List.mem_of_getElem? (i := 121) rfl) rfl
theorem kw_122 : (Jvm.Cond.code ({ cls := "RationalOdes", name := "share", desc := "([[JII)J" } : Jvm.MethodName) prog_1_method_31_code (10 : Nat) (Option.some Jvm.ClassFile.FieldType.long)) ∈ kb := kb_1 (List.mem_of_getElem? (i := 122) rfl) rfl
theorem kw_123 : (Jvm.Cond.methodLink "RationalOdes" (62 : Nat) ({ cls := "RationalOdes", name := "number", desc := "(J)J" } : Jvm.MethodName)) ∈ kb := kb_1 (List.mem_of_getElem? (i := 123) rfl) rfl
theorem kw_124 : (Jvm.Cond.static ({ cls := "RationalOdes", name := "number", desc := "(J)J" } : Jvm.MethodName)) ∈ kb := kb_1 (List.mem_of_getElem? (i := 124) rfl) rfl
theorem kw_125 : (Jvm.Cond.code ({ cls := "RationalOdes", name := "number", desc := "(J)J" } : Jvm.MethodName) prog_1_method_37_code (4 : Nat) (Option.some Jvm.ClassFile.FieldType.long)) ∈ kb := kb_1 (List.mem_of_getElem? (i := 125) rfl) rfl
theorem kw_126 : (Jvm.Cond.constantLong "RationalOdes" (209 : Nat) (32003 : Int64)) ∈ kb := kb_1 (List.mem_of_getElem? (i := 126) rfl) rfl
theorem kw_127 : (Jvm.Cond.methodLink "RationalOdesLaw" (109 : Nat) ({ cls := "RationalOdes", name := "answers", desc := "()I" } : Jvm.MethodName)) ∈ kb := kb_1 (List.mem_of_getElem? (i := 127) rfl) rfl
theorem kw_128 : (Jvm.Cond.instanceMethod ({ cls := "RationalOdes", name := "answers", desc := "()I" } : Jvm.MethodName)) ∈ kb := kb_1 (List.mem_of_getElem? (i := 128) rfl) rfl
theorem kw_129 : (Jvm.Cond.selects "RationalOdes" ({ cls := "RationalOdes", name := "answers", desc := "()I" } : Jvm.MethodName) ({ cls := "RationalOdes", name := "answers", desc := "()I" } : Jvm.MethodName)) ∈ kb := kb_1 (List.mem_of_getElem? (i := 129) rfl) rfl
theorem kw_130 : (Jvm.Cond.code ({ cls := "RationalOdes", name := "answers", desc := "()I" } : Jvm.MethodName) prog_1_method_11_code (1 : Nat) (Option.some Jvm.ClassFile.FieldType.int)) ∈ kb := kb_1 (List.mem_of_getElem? (i := 130) rfl) rfl
theorem kw_131 : (Jvm.Cond.methodLink "RationalOdes" (107 : Nat) ({ cls := "RationalOdes", name := "knowBase", desc := "()V" } : Jvm.MethodName)) ∈ kb := kb_1 (List.mem_of_getElem? (i := 131) rfl) rfl
theorem kw_133 : (Jvm.Cond.instanceMethod ({ cls := "RationalOdes", name := "knowBase", desc := "()V" } : Jvm.MethodName)) ∈ kb := kb_1 (List.mem_of_getElem? (i := 133) rfl) rfl
theorem kw_134 : (Jvm.Cond.code ({ cls := "RationalOdes", name := "knowBase", desc := "()V" } : Jvm.MethodName) prog_1_method_36_code (3 : Nat) (Option.none : Option Jvm.ClassFile.FieldType)) ∈ kb := kb_1 (List.mem_of_getElem? (i := 134) rfl) rfl
theorem kw_135 : (Jvm.Cond.methodLink "RationalOdes" (202 : Nat) ({ cls := "RationalOdes$Base", name := "enter", desc := "(IIJ)V" } : Jvm.MethodName)) ∈ kb := kb_1 (List.mem_of_getElem? (i := 135) rfl) rfl
theorem kw_136 : (Jvm.Cond.instanceMethod ({ cls := "RationalOdes$Base", name := "enter", desc := "(IIJ)V" } : Jvm.MethodName)) ∈ kb := kb_1 (List.mem_of_getElem? (i := 136) rfl) rfl
theorem kw_137 : (Jvm.Cond.selects "RationalOdes$Base" ({ cls := "RationalOdes$Base", name := "enter", desc := "(IIJ)V" } : Jvm.MethodName) ({ cls := "RationalOdes$Base", name := "enter", desc := "(IIJ)V" } : Jvm.MethodName)) ∈ kb := kb_1 (List.mem_of_getElem? (i := 137) rfl) rfl
theorem kw_138 : (Jvm.Cond.code ({ cls := "RationalOdes$Base", name := "enter", desc := "(IIJ)V" } : Jvm.MethodName) prog_2_method_4_code (5 : Nat) (Option.none : Option Jvm.ClassFile.FieldType)) ∈ kb := kb_1 (List.mem_of_getElem? (i := 138) rfl) rfl
theorem kw_139 : (Jvm.Cond.methodLink "RationalOdes" (206 : Nat) ({ cls := "RationalOdes$Base", name := "solve", desc := "()V" } : Jvm.MethodName)) ∈ kb := kb_1 (List.mem_of_getElem? (i := 139) rfl) rfl
theorem kw_140 : (Jvm.Cond.instanceMethod ({ cls := "RationalOdes$Base", name := "solve", desc := "()V" } : Jvm.MethodName)) ∈ kb := kb_1 (List.mem_of_getElem? (i := 140) rfl) rfl
theorem kw_141 : (Jvm.Cond.selects "RationalOdes$Base" ({ cls := "RationalOdes$Base", name := "solve", desc := "()V" } : Jvm.MethodName) ({ cls := "RationalOdes$Base", name := "solve", desc := "()V" } : Jvm.MethodName)) ∈ kb := kb_1 (List.mem_of_getElem? (i := 141) rfl) rfl
theorem kw_142 : (Jvm.Cond.code ({ cls := "RationalOdes$Base", name := "solve", desc := "()V" } : Jvm.MethodName) prog_2_method_5_code (2 : Nat) (Option.none : Option Jvm.ClassFile.FieldType)) ∈ kb := kb_1 (List.mem_of_getElem? (i := 142) rfl) rfl
theorem kw_143 : (Jvm.Cond.methodLink "RationalOdes$Base" (27 : Nat) ({ cls := "RationalOdes$Base", name := "reduceRows", desc := "()V" } : Jvm.MethodName)) ∈ kb := kb_1 (List.mem_of_getElem? (i := 143) rfl) rfl
theorem kw_145 : (Jvm.Cond.instanceMethod ({ cls := "RationalOdes$Base", name := "reduceRows", desc := "()V" } : Jvm.MethodName)) ∈ kb := kb_1 (List.mem_of_getElem? (i := 145) rfl) rfl
theorem kw_146 : (Jvm.Cond.code ({ cls := "RationalOdes$Base", name := "reduceRows", desc := "()V" } : Jvm.MethodName) prog_2_method_6_code (4 : Nat) (Option.none : Option Jvm.ClassFile.FieldType)) ∈ kb := kb_1 (List.mem_of_getElem? (i := 146) rfl) rfl
theorem kw_147 : (Jvm.Cond.methodLink "RationalOdes$Base" (34 : Nat) ({ cls := "RationalOdes$Base", name := "rowWith", desc := "(II)I" } : Jvm.MethodName)) ∈ kb := kb_1 (List.mem_of_getElem? (i := 147) rfl) rfl
theorem kw_149 : (Jvm.Cond.instanceMethod ({ cls := "RationalOdes$Base", name := "rowWith", desc := "(II)I" } : Jvm.MethodName)) ∈ kb := kb_1 (List.mem_of_getElem? (i := 149) rfl) rfl
theorem kw_150 : (Jvm.Cond.code ({ cls := "RationalOdes$Base", name := "rowWith", desc := "(II)I" } : Jvm.MethodName) prog_2_method_7_code (4 : Nat) (Option.some Jvm.ClassFile.FieldType.int)) ∈ kb := kb_1 (List.mem_of_getElem? (i := 150) rfl) rfl
theorem kw_151 : (Jvm.Cond.methodLink "RationalOdes$Base" (38 : Nat) ({ cls := "RationalOdes$Base", name := "swap", desc := "(II)V" } : Jvm.MethodName)) ∈ kb := kb_1 (List.mem_of_getElem? (i := 151) rfl) rfl
theorem kw_153 : (Jvm.Cond.instanceMethod ({ cls := "RationalOdes$Base", name := "swap", desc := "(II)V" } : Jvm.MethodName)) ∈ kb := kb_1 (List.mem_of_getElem? (i := 153) rfl) rfl
theorem kw_154 : (Jvm.Cond.code ({ cls := "RationalOdes$Base", name := "swap", desc := "(II)V" } : Jvm.MethodName) prog_2_method_8_code (6 : Nat) (Option.none : Option Jvm.ClassFile.FieldType)) ∈ kb := kb_1 (List.mem_of_getElem? (i := 154) rfl) rfl
theorem kw_155 : (Jvm.Cond.methodLink "RationalOdes$Base" (42 : Nat) ({ cls := "RationalOdes$Base", name := "scaleRow", desc := "(II)V" } : Jvm.MethodName)) ∈ kb := kb_1 (List.mem_of_getElem? (i := 155) rfl) rfl
theorem kw_157 : (Jvm.Cond.instanceMethod ({ cls := "RationalOdes$Base", name := "scaleRow", desc := "(II)V" } : Jvm.MethodName)) ∈ kb := kb_1 (List.mem_of_getElem? (i := 157) rfl) rfl
theorem kw_158 : (Jvm.Cond.code ({ cls := "RationalOdes$Base", name := "scaleRow", desc := "(II)V" } : Jvm.MethodName) prog_2_method_9_code (6 : Nat) (Option.none : Option Jvm.ClassFile.FieldType)) ∈ kb := kb_1 (List.mem_of_getElem? (i := 158) rfl) rfl
theorem kw_160 : (Jvm.Cond.static ({ cls := "RationalOdes", name := "inverse", desc := "(J)J" } : Jvm.MethodName)) ∈ kb := kb_1 (List.mem_of_getElem? (i := 160) rfl) rfl
theorem kw_161 : (Jvm.Cond.code ({ cls := "RationalOdes", name := "inverse", desc := "(J)J" } : Jvm.MethodName) prog_1_method_38_code (5 : Nat) (Option.some Jvm.ClassFile.FieldType.long)) ∈ kb := kb_1 (List.mem_of_getElem? (i := 161) rfl) rfl
theorem kw_162 : (Jvm.Cond.constantLong "RationalOdes$Base" (52 : Nat) (32003 : Int64)) ∈ kb := kb_1 (List.mem_of_getElem? (i := 162) rfl) rfl
theorem kw_163 : (Jvm.Cond.methodLink "RationalOdes$Base" (45 : Nat) ({ cls := "RationalOdes$Base", name := "clearColumn", desc := "(II)V" } : Jvm.MethodName)) ∈ kb := kb_1 (List.mem_of_getElem? (i := 163) rfl) rfl
theorem kw_165 : (Jvm.Cond.instanceMethod ({ cls := "RationalOdes$Base", name := "clearColumn", desc := "(II)V" } : Jvm.MethodName)) ∈ kb := kb_1 (List.mem_of_getElem? (i := 165) rfl) rfl
theorem kw_166 : (Jvm.Cond.code ({ cls := "RationalOdes$Base", name := "clearColumn", desc := "(II)V" } : Jvm.MethodName) prog_2_method_10_code (7 : Nat) (Option.none : Option Jvm.ClassFile.FieldType)) ∈ kb := kb_1 (List.mem_of_getElem? (i := 166) rfl) rfl
theorem kw_168 : (Jvm.Cond.methodLink "RationalOdes$Base" (30 : Nat) ({ cls := "RationalOdes$Base", name := "fillMember", desc := "([JI)V" } : Jvm.MethodName)) ∈ kb := kb_1 (List.mem_of_getElem? (i := 168) rfl) rfl
theorem kw_170 : (Jvm.Cond.instanceMethod ({ cls := "RationalOdes$Base", name := "fillMember", desc := "([JI)V" } : Jvm.MethodName)) ∈ kb := kb_1 (List.mem_of_getElem? (i := 170) rfl) rfl
theorem kw_171 : (Jvm.Cond.code ({ cls := "RationalOdes$Base", name := "fillMember", desc := "([JI)V" } : Jvm.MethodName) prog_2_method_11_code (4 : Nat) (Option.none : Option Jvm.ClassFile.FieldType)) ∈ kb := kb_1 (List.mem_of_getElem? (i := 171) rfl) rfl
theorem kw_172 : (Jvm.Cond.methodLink "RationalOdes$Base" (57 : Nat) ({ cls := "java/util/Arrays", name := "fill", desc := "([JJ)V" } : Jvm.MethodName)) ∈ kb := kb_1 (List.mem_of_getElem? (i := 172) rfl) rfl
theorem kw_173 : (Jvm.Cond.static ({ cls := "java/util/Arrays", name := "fill", desc := "([JJ)V" } : Jvm.MethodName)) ∈ kb := kb_1 (List.mem_of_getElem? (i := 173) rfl) rfl
theorem kw_174 : (Jvm.Cond.code ({ cls := "java/util/Arrays", name := "fill", desc := "([JJ)V" } : Jvm.MethodName) prog_15_method_101_code (5 : Nat) (Option.none : Option Jvm.ClassFile.FieldType)) ∈ kb := kb_1 (List.mem_of_getElem? (i := 174) rfl) rfl
theorem kw_175 : (Jvm.Cond.methodLink "RationalOdes" (110 : Nat) ({ cls := "RationalOdes$Base", name := "size", desc := "()I" } : Jvm.MethodName)) ∈ kb := kb_1 (List.mem_of_getElem? (i := 175) rfl) rfl
theorem kw_176 : (Jvm.Cond.instanceMethod ({ cls := "RationalOdes$Base", name := "size", desc := "()I" } : Jvm.MethodName)) ∈ kb := kb_1 (List.mem_of_getElem? (i := 176) rfl) rfl
theorem kw_177 : (Jvm.Cond.selects "RationalOdes$Base" ({ cls := "RationalOdes$Base", name := "size", desc := "()I" } : Jvm.MethodName) ({ cls := "RationalOdes$Base", name := "size", desc := "()I" } : Jvm.MethodName)) ∈ kb := kb_1 (List.mem_of_getElem? (i := 177) rfl) rfl
theorem kw_178 : (Jvm.Cond.code ({ cls := "RationalOdes$Base", name := "size", desc := "()I" } : Jvm.MethodName) prog_2_method_2_code (1 : Nat) (Option.some Jvm.ClassFile.FieldType.int)) ∈ kb := kb_1 (List.mem_of_getElem? (i := 178) rfl) rfl
theorem kw_179 : (Jvm.Cond.methodLink "RationalOdesLaw" (116 : Nat) ({ cls := "RationalOdes", name := "solves", desc := "()Z" } : Jvm.MethodName)) ∈ kb := kb_1 (List.mem_of_getElem? (i := 179) rfl) rfl
theorem kw_180 : (Jvm.Cond.instanceMethod ({ cls := "RationalOdes", name := "solves", desc := "()Z" } : Jvm.MethodName)) ∈ kb := kb_1 (List.mem_of_getElem? (i := 180) rfl) rfl
theorem kw_181 : (Jvm.Cond.selects "RationalOdes" ({ cls := "RationalOdes", name := "solves", desc := "()Z" } : Jvm.MethodName) ({ cls := "RationalOdes", name := "solves", desc := "()Z" } : Jvm.MethodName)) ∈ kb := kb_1 (List.mem_of_getElem? (i := 181) rfl) rfl
theorem kw_182 : (Jvm.Cond.code ({ cls := "RationalOdes", name := "solves", desc := "()Z" } : Jvm.MethodName) prog_1_method_13_code (2 : Nat) (Option.some Jvm.ClassFile.FieldType.boolean)) ∈ kb := kb_1 (List.mem_of_getElem? (i := 182) rfl) rfl
theorem kw_183 : (Jvm.Cond.methodLink "RationalOdesLaw" (129 : Nat) ({ cls := "RationalOdes", name := "turn", desc := "()V" } : Jvm.MethodName)) ∈ kb := kb_1 (List.mem_of_getElem? (i := 183) rfl) rfl
theorem kw_184 : (Jvm.Cond.instanceMethod ({ cls := "RationalOdes", name := "turn", desc := "()V" } : Jvm.MethodName)) ∈ kb := kb_1 (List.mem_of_getElem? (i := 184) rfl) rfl
theorem kw_185 : (Jvm.Cond.selects "RationalOdes" ({ cls := "RationalOdes", name := "turn", desc := "()V" } : Jvm.MethodName) ({ cls := "RationalOdes", name := "turn", desc := "()V" } : Jvm.MethodName)) ∈ kb := kb_1 (List.mem_of_getElem? (i := 185) rfl) rfl
theorem kw_186 : (Jvm.Cond.code ({ cls := "RationalOdes", name := "turn", desc := "()V" } : Jvm.MethodName) prog_1_method_16_code (3 : Nat) (Option.none : Option Jvm.ClassFile.FieldType)) ∈ kb := kb_1 (List.mem_of_getElem? (i := 186) rfl) rfl
theorem kw_187 : (Jvm.Cond.methodLink "RationalOdes" (140 : Nat) ({ cls := "RationalOdes", name := "adjointAt", desc := "(II)J" } : Jvm.MethodName)) ∈ kb := kb_1 (List.mem_of_getElem? (i := 187) rfl) rfl
theorem kw_189 : (Jvm.Cond.instanceMethod ({ cls := "RationalOdes", name := "adjointAt", desc := "(II)J" } : Jvm.MethodName)) ∈ kb := kb_1 (List.mem_of_getElem? (i := 189) rfl) rfl
theorem kw_190 : (Jvm.Cond.code ({ cls := "RationalOdes", name := "adjointAt", desc := "(II)J" } : Jvm.MethodName) prog_1_method_34_code (8 : Nat) (Option.some Jvm.ClassFile.FieldType.long)) ∈ kb := kb_1 (List.mem_of_getElem? (i := 190) rfl) rfl
theorem kw_191 : (Jvm.Cond.fieldLink "RationalOdes" (194 : Nat) "RationalOdes" "CHOICES" "[I") ∈ kb := kb_1 (List.mem_of_getElem? (i := 191) rfl) rfl
theorem kw_193 : (Jvm.Cond.methodLink "RationalOdes" (198 : Nat) ({ cls := "RationalOdes", name := "slopeAt", desc := "([JII)J" } : Jvm.MethodName)) ∈ kb := kb_1 (List.mem_of_getElem? (i := 193) rfl) rfl
theorem kw_194 : (Jvm.Cond.static ({ cls := "RationalOdes", name := "slopeAt", desc := "([JII)J" } : Jvm.MethodName)) ∈ kb := kb_1 (List.mem_of_getElem? (i := 194) rfl) rfl
theorem kw_195 : (Jvm.Cond.code ({ cls := "RationalOdes", name := "slopeAt", desc := "([JII)J" } : Jvm.MethodName) prog_1_method_35_code (6 : Nat) (Option.some Jvm.ClassFile.FieldType.long)) ∈ kb := kb_1 (List.mem_of_getElem? (i := 195) rfl) rfl
theorem kw_196 : (Jvm.Cond.methodLink "RationalOdes" (120 : Nat) ({ cls := "java/lang/System", name := "arraycopy", desc := "(Ljava/lang/Object;ILjava/lang/Object;II)V" } : Jvm.MethodName)) ∈ kb := kb_1 (List.mem_of_getElem? (i := 196) rfl) rfl
theorem kw_197 : (Jvm.Cond.static ({ cls := "java/lang/System", name := "arraycopy", desc := "(Ljava/lang/Object;ILjava/lang/Object;II)V" } : Jvm.MethodName)) ∈ kb := kb_1 (List.mem_of_getElem? (i := 197) rfl) rfl
theorem kw_198 : (Jvm.Cond.native ({ cls := "java/lang/System", name := "arraycopy", desc := "(Ljava/lang/Object;ILjava/lang/Object;II)V" } : Jvm.MethodName)) ∈ kb := kb_1 (List.mem_of_getElem? (i := 198) rfl) rfl
theorem kw_199 : (Jvm.Cond.methodLink "RationalOdesLaw" (133 : Nat) ({ cls := "RationalOdes", name := "move", desc := "(J)V" } : Jvm.MethodName)) ∈ kb := kb_1 (List.mem_of_getElem? (i := 199) rfl) rfl
theorem kw_200 : (Jvm.Cond.instanceMethod ({ cls := "RationalOdes", name := "move", desc := "(J)V" } : Jvm.MethodName)) ∈ kb := kb_1 (List.mem_of_getElem? (i := 200) rfl) rfl
theorem kw_201 : (Jvm.Cond.selects "RationalOdes" ({ cls := "RationalOdes", name := "move", desc := "(J)V" } : Jvm.MethodName) ({ cls := "RationalOdes", name := "move", desc := "(J)V" } : Jvm.MethodName)) ∈ kb := kb_1 (List.mem_of_getElem? (i := 201) rfl) rfl
theorem kw_202 : (Jvm.Cond.code ({ cls := "RationalOdes", name := "move", desc := "(J)V" } : Jvm.MethodName) prog_1_method_17_code (6 : Nat) (Option.none : Option Jvm.ClassFile.FieldType)) ∈ kb := kb_1 (List.mem_of_getElem? (i := 202) rfl) rfl
theorem kw_203 : (Jvm.Cond.methodLink "RationalOdes" (143 : Nat) ({ cls := "RationalOdes", name := "shift", desc := "([JJ)V" } : Jvm.MethodName)) ∈ kb := kb_1 (List.mem_of_getElem? (i := 203) rfl) rfl
theorem kw_204 : (Jvm.Cond.static ({ cls := "RationalOdes", name := "shift", desc := "([JJ)V" } : Jvm.MethodName)) ∈ kb := kb_1 (List.mem_of_getElem? (i := 204) rfl) rfl
theorem kw_205 : (Jvm.Cond.code ({ cls := "RationalOdes", name := "shift", desc := "([JJ)V" } : Jvm.MethodName) prog_1_method_41_code (5 : Nat) (Option.none : Option Jvm.ClassFile.FieldType)) ∈ kb := kb_1 (List.mem_of_getElem? (i := 205) rfl) rfl
theorem kw_206 : (Jvm.Cond.methodLink "RationalOdesLaw" (138 : Nat) ({ cls := "RationalOdes", name := "clear", desc := "()V" } : Jvm.MethodName)) ∈ kb := kb_1 (List.mem_of_getElem? (i := 206) rfl) rfl
theorem kw_207 : (Jvm.Cond.instanceMethod ({ cls := "RationalOdes", name := "clear", desc := "()V" } : Jvm.MethodName)) ∈ kb := kb_1 (List.mem_of_getElem? (i := 207) rfl) rfl
theorem kw_208 : (Jvm.Cond.selects "RationalOdes" ({ cls := "RationalOdes", name := "clear", desc := "()V" } : Jvm.MethodName) ({ cls := "RationalOdes", name := "clear", desc := "()V" } : Jvm.MethodName)) ∈ kb := kb_1 (List.mem_of_getElem? (i := 208) rfl) rfl
theorem kw_209 : (Jvm.Cond.code ({ cls := "RationalOdes", name := "clear", desc := "()V" } : Jvm.MethodName) prog_1_method_18_code (2 : Nat) (Option.none : Option Jvm.ClassFile.FieldType)) ∈ kb := kb_1 (List.mem_of_getElem? (i := 209) rfl) rfl
theorem kw_210 : (Jvm.Cond.methodLink "RationalOdes" (147 : Nat) ({ cls := "java/util/Arrays", name := "fill", desc := "([JJ)V" } : Jvm.MethodName)) ∈ kb := kb_1 (List.mem_of_getElem? (i := 210) rfl) rfl
theorem kw_211 : (Jvm.Cond.methodLink "RationalOdesLaw" (58 : Nat) ({ cls := "RationalOdesLaw", name := "cell", desc := "([II)I" } : Jvm.MethodName)) ∈ kb := kb_1 (List.mem_of_getElem? (i := 211) rfl) rfl
theorem kw_212 : (Jvm.Cond.static ({ cls := "RationalOdesLaw", name := "cell", desc := "([II)I" } : Jvm.MethodName)) ∈ kb := kb_1 (List.mem_of_getElem? (i := 212) rfl) rfl
theorem kw_213 : (Jvm.Cond.code ({ cls := "RationalOdesLaw", name := "cell", desc := "([II)I" } : Jvm.MethodName) method_2_code (2 : Nat) (Option.some Jvm.ClassFile.FieldType.int)) ∈ kb := kb_1 (List.mem_of_getElem? (i := 213) rfl) rfl
theorem kw_214 : (Jvm.Cond.methodLink "RationalOdesLaw" (71 : Nat) ({ cls := "RationalOdesLaw", name := "put", desc := "(LRationalOdes;IIJ[J)I" } : Jvm.MethodName)) ∈ kb := kb_1 (List.mem_of_getElem? (i := 214) rfl) rfl
theorem kw_215 : (Jvm.Cond.static ({ cls := "RationalOdesLaw", name := "put", desc := "(LRationalOdes;IIJ[J)I" } : Jvm.MethodName)) ∈ kb := kb_1 (List.mem_of_getElem? (i := 215) rfl) rfl
theorem kw_216 : (Jvm.Cond.codeWith ({ cls := "RationalOdesLaw", name := "put", desc := "(LRationalOdes;IIJ[J)I" } : Jvm.MethodName) method_3_code (7 : Nat) (Option.some Jvm.ClassFile.FieldType.int) [((0 : Nat), (19 : Nat), (22 : Nat), (13 : Nat))]) ∈ kb := kb_1 (List.mem_of_getElem? (i := 216) rfl) rfl
theorem kw_218 : (Jvm.Cond.methodLink "RationalOdesLaw" (7 : Nat) ({ cls := "RationalOdes", name := "put", desc := "(IIJ)Z" } : Jvm.MethodName)) ∈ kb := kb_1 (List.mem_of_getElem? (i := 218) rfl) rfl
theorem kw_219 : (Jvm.Cond.instanceMethod ({ cls := "RationalOdes", name := "put", desc := "(IIJ)Z" } : Jvm.MethodName)) ∈ kb := kb_1 (List.mem_of_getElem? (i := 219) rfl) rfl
theorem kw_220 : (Jvm.Cond.selects "RationalOdes" ({ cls := "RationalOdes", name := "put", desc := "(IIJ)Z" } : Jvm.MethodName) ({ cls := "RationalOdes", name := "put", desc := "(IIJ)Z" } : Jvm.MethodName)) ∈ kb := kb_1 (List.mem_of_getElem? (i := 220) rfl) rfl
theorem kw_221 : (Jvm.Cond.code ({ cls := "RationalOdes", name := "put", desc := "(IIJ)Z" } : Jvm.MethodName) prog_1_method_2_code (7 : Nat) (Option.some Jvm.ClassFile.FieldType.boolean)) ∈ kb := kb_1 (List.mem_of_getElem? (i := 221) rfl) rfl
theorem kw_222 : (Jvm.Cond.methodLink "RationalOdes" (58 : Nat) ({ cls := "RationalOdes", name := "needFactorPower", desc := "(II)V" } : Jvm.MethodName)) ∈ kb := kb_1 (List.mem_of_getElem? (i := 222) rfl) rfl
theorem kw_224 : (Jvm.Cond.instanceMethod ({ cls := "RationalOdes", name := "needFactorPower", desc := "(II)V" } : Jvm.MethodName)) ∈ kb := kb_1 (List.mem_of_getElem? (i := 224) rfl) rfl
theorem kw_225 : (Jvm.Cond.code ({ cls := "RationalOdes", name := "needFactorPower", desc := "(II)V" } : Jvm.MethodName) prog_1_method_19_code (3 : Nat) (Option.none : Option Jvm.ClassFile.FieldType)) ∈ kb := kb_1 (List.mem_of_getElem? (i := 225) rfl) rfl
theorem kw_293 : (Jvm.Cond.arrayClass Jvm.ClassFile.FieldType.byte) ∈ kb := kb_2 (List.mem_of_getElem? (i := 53) rfl) rfl
theorem kw_294 : (Jvm.Cond.methodLink "RationalOdesLaw" (78 : Nat) ({ cls := "RationalOdesLaw", name := "at", desc := "(LRationalOdes;II[J)I" } : Jvm.MethodName)) ∈ kb := kb_2 (List.mem_of_getElem? (i := 54) rfl) rfl
theorem kw_295 : (Jvm.Cond.static ({ cls := "RationalOdesLaw", name := "at", desc := "(LRationalOdes;II[J)I" } : Jvm.MethodName)) ∈ kb := kb_2 (List.mem_of_getElem? (i := 55) rfl) rfl
theorem kw_296 : (Jvm.Cond.codeWith ({ cls := "RationalOdesLaw", name := "at", desc := "(LRationalOdes;II[J)I" } : Jvm.MethodName) method_4_code (5 : Nat) (Option.some Jvm.ClassFile.FieldType.int) [((0 : Nat), (10 : Nat), (13 : Nat), (13 : Nat))]) ∈ kb := kb_2 (List.mem_of_getElem? (i := 56) rfl) rfl
theorem kw_297 : (Jvm.Cond.methodLink "RationalOdesLaw" (15 : Nat) ({ cls := "RationalOdes", name := "at", desc := "(II)I" } : Jvm.MethodName)) ∈ kb := kb_2 (List.mem_of_getElem? (i := 57) rfl) rfl
theorem kw_298 : (Jvm.Cond.instanceMethod ({ cls := "RationalOdes", name := "at", desc := "(II)I" } : Jvm.MethodName)) ∈ kb := kb_2 (List.mem_of_getElem? (i := 58) rfl) rfl
theorem kw_299 : (Jvm.Cond.selects "RationalOdes" ({ cls := "RationalOdes", name := "at", desc := "(II)I" } : Jvm.MethodName) ({ cls := "RationalOdes", name := "at", desc := "(II)I" } : Jvm.MethodName)) ∈ kb := kb_2 (List.mem_of_getElem? (i := 59) rfl) rfl
theorem kw_300 : (Jvm.Cond.code ({ cls := "RationalOdes", name := "at", desc := "(II)I" } : Jvm.MethodName) prog_1_method_3_code (3 : Nat) (Option.some Jvm.ClassFile.FieldType.int)) ∈ kb := kb_2 (List.mem_of_getElem? (i := 60) rfl) rfl
theorem kw_301 : (Jvm.Cond.methodLink "RationalOdesLaw" (82 : Nat) ({ cls := "RationalOdesLaw", name := "hand", desc := "(LRationalOdes;IJ)I" } : Jvm.MethodName)) ∈ kb := kb_2 (List.mem_of_getElem? (i := 61) rfl) rfl
theorem kw_302 : (Jvm.Cond.static ({ cls := "RationalOdesLaw", name := "hand", desc := "(LRationalOdes;IJ)I" } : Jvm.MethodName)) ∈ kb := kb_2 (List.mem_of_getElem? (i := 62) rfl) rfl
theorem kw_303 : (Jvm.Cond.codeWith ({ cls := "RationalOdesLaw", name := "hand", desc := "(LRationalOdes;IJ)I" } : Jvm.MethodName) method_5_code (5 : Nat) (Option.some Jvm.ClassFile.FieldType.int) [((0 : Nat), (6 : Nat), (9 : Nat), (13 : Nat))]) ∈ kb := kb_2 (List.mem_of_getElem? (i := 63) rfl) rfl
theorem kw_304 : (Jvm.Cond.methodLink "RationalOdesLaw" (19 : Nat) ({ cls := "RationalOdes", name := "hand", desc := "(IJ)V" } : Jvm.MethodName)) ∈ kb := kb_2 (List.mem_of_getElem? (i := 64) rfl) rfl
theorem kw_305 : (Jvm.Cond.instanceMethod ({ cls := "RationalOdes", name := "hand", desc := "(IJ)V" } : Jvm.MethodName)) ∈ kb := kb_2 (List.mem_of_getElem? (i := 65) rfl) rfl
theorem kw_306 : (Jvm.Cond.selects "RationalOdes" ({ cls := "RationalOdes", name := "hand", desc := "(IJ)V" } : Jvm.MethodName) ({ cls := "RationalOdes", name := "hand", desc := "(IJ)V" } : Jvm.MethodName)) ∈ kb := kb_2 (List.mem_of_getElem? (i := 66) rfl) rfl
theorem kw_307 : (Jvm.Cond.code ({ cls := "RationalOdes", name := "hand", desc := "(IJ)V" } : Jvm.MethodName) prog_1_method_4_code (4 : Nat) (Option.none : Option Jvm.ClassFile.FieldType)) ∈ kb := kb_2 (List.mem_of_getElem? (i := 67) rfl) rfl
theorem kw_308 : (Jvm.Cond.methodLink "RationalOdes" (66 : Nat) ({ cls := "RationalOdes", name := "needHandPower", desc := "(I)V" } : Jvm.MethodName)) ∈ kb := kb_2 (List.mem_of_getElem? (i := 68) rfl) rfl
theorem kw_310 : (Jvm.Cond.instanceMethod ({ cls := "RationalOdes", name := "needHandPower", desc := "(I)V" } : Jvm.MethodName)) ∈ kb := kb_2 (List.mem_of_getElem? (i := 70) rfl) rfl
theorem kw_311 : (Jvm.Cond.code ({ cls := "RationalOdes", name := "needHandPower", desc := "(I)V" } : Jvm.MethodName) prog_1_method_20_code (2 : Nat) (Option.none : Option Jvm.ClassFile.FieldType)) ∈ kb := kb_2 (List.mem_of_getElem? (i := 71) rfl) rfl
theorem kw_313 : (Jvm.Cond.methodLink "RationalOdesLaw" (90 : Nat) ({ cls := "RationalOdesLaw", name := "places", desc := "(LRationalOdes;[J)I" } : Jvm.MethodName)) ∈ kb := kb_2 (List.mem_of_getElem? (i := 73) rfl) rfl
theorem kw_314 : (Jvm.Cond.static ({ cls := "RationalOdesLaw", name := "places", desc := "(LRationalOdes;[J)I" } : Jvm.MethodName)) ∈ kb := kb_2 (List.mem_of_getElem? (i := 74) rfl) rfl
theorem kw_315 : (Jvm.Cond.codeWith ({ cls := "RationalOdesLaw", name := "places", desc := "(LRationalOdes;[J)I" } : Jvm.MethodName) method_6_code (3 : Nat) (Option.some Jvm.ClassFile.FieldType.int) [((0 : Nat), (8 : Nat), (11 : Nat), (27 : Nat))]) ∈ kb := kb_2 (List.mem_of_getElem? (i := 75) rfl) rfl
theorem kw_317 : (Jvm.Cond.methodLink "RationalOdesLaw" (23 : Nat) ({ cls := "RationalOdes", name := "places", desc := "()I" } : Jvm.MethodName)) ∈ kb := kb_2 (List.mem_of_getElem? (i := 77) rfl) rfl
theorem kw_318 : (Jvm.Cond.instanceMethod ({ cls := "RationalOdes", name := "places", desc := "()I" } : Jvm.MethodName)) ∈ kb := kb_2 (List.mem_of_getElem? (i := 78) rfl) rfl
theorem kw_319 : (Jvm.Cond.selects "RationalOdes" ({ cls := "RationalOdes", name := "places", desc := "()I" } : Jvm.MethodName) ({ cls := "RationalOdes", name := "places", desc := "()I" } : Jvm.MethodName)) ∈ kb := kb_2 (List.mem_of_getElem? (i := 79) rfl) rfl
theorem kw_320 : (Jvm.Cond.code ({ cls := "RationalOdes", name := "places", desc := "()I" } : Jvm.MethodName) prog_1_method_6_code (1 : Nat) (Option.some Jvm.ClassFile.FieldType.int)) ∈ kb := kb_2 (List.mem_of_getElem? (i := 80) rfl) rfl
theorem kw_321 : (Jvm.Cond.methodLink "RationalOdes" (74 : Nat) ({ cls := "RationalOdes", name := "findPlaces", desc := "()V" } : Jvm.MethodName)) ∈ kb := kb_2 (List.mem_of_getElem? (i := 81) rfl) rfl
theorem kw_323 : (Jvm.Cond.instanceMethod ({ cls := "RationalOdes", name := "findPlaces", desc := "()V" } : Jvm.MethodName)) ∈ kb := kb_2 (List.mem_of_getElem? (i := 83) rfl) rfl
theorem kw_324 : (Jvm.Cond.code ({ cls := "RationalOdes", name := "findPlaces", desc := "()V" } : Jvm.MethodName) prog_1_method_22_code (1 : Nat) (Option.none : Option Jvm.ClassFile.FieldType)) ∈ kb := kb_2 (List.mem_of_getElem? (i := 84) rfl) rfl
theorem kw_325 : (Jvm.Cond.methodLink "RationalOdes" (158 : Nat) ({ cls := "RationalOdes", name := "isZero", desc := "([J)Z" } : Jvm.MethodName)) ∈ kb := kb_2 (List.mem_of_getElem? (i := 85) rfl) rfl
theorem kw_326 : (Jvm.Cond.static ({ cls := "RationalOdes", name := "isZero", desc := "([J)Z" } : Jvm.MethodName)) ∈ kb := kb_2 (List.mem_of_getElem? (i := 86) rfl) rfl
theorem kw_327 : (Jvm.Cond.code ({ cls := "RationalOdes", name := "isZero", desc := "([J)Z" } : Jvm.MethodName) prog_1_method_39_code (1 : Nat) (Option.some Jvm.ClassFile.FieldType.boolean)) ∈ kb := kb_2 (List.mem_of_getElem? (i := 87) rfl) rfl
theorem kw_328 : (Jvm.Cond.methodLink "RationalOdes" (211 : Nat) ({ cls := "RationalOdes", name := "degree", desc := "([J)I" } : Jvm.MethodName)) ∈ kb := kb_2 (List.mem_of_getElem? (i := 88) rfl) rfl
theorem kw_329 : (Jvm.Cond.static ({ cls := "RationalOdes", name := "degree", desc := "([J)I" } : Jvm.MethodName)) ∈ kb := kb_2 (List.mem_of_getElem? (i := 89) rfl) rfl
theorem kw_330 : (Jvm.Cond.code ({ cls := "RationalOdes", name := "degree", desc := "([J)I" } : Jvm.MethodName) prog_1_method_40_code (2 : Nat) (Option.some Jvm.ClassFile.FieldType.int)) ∈ kb := kb_2 (List.mem_of_getElem? (i := 90) rfl) rfl
theorem kw_347 : (Jvm.Cond.methodLink "RationalOdes" (103 : Nat) ({ cls := "RationalOdes$Roots", name := "find", desc := "([J)V" } : Jvm.MethodName)) ∈ kb := kb_2 (List.mem_of_getElem? (i := 107) rfl) rfl
theorem kw_348 : (Jvm.Cond.instanceMethod ({ cls := "RationalOdes$Roots", name := "find", desc := "([J)V" } : Jvm.MethodName)) ∈ kb := kb_2 (List.mem_of_getElem? (i := 108) rfl) rfl
theorem kw_349 : (Jvm.Cond.selects "RationalOdes$Roots" ({ cls := "RationalOdes$Roots", name := "find", desc := "([J)V" } : Jvm.MethodName) ({ cls := "RationalOdes$Roots", name := "find", desc := "([J)V" } : Jvm.MethodName)) ∈ kb := kb_2 (List.mem_of_getElem? (i := 109) rfl) rfl
theorem kw_350 : (Jvm.Cond.code ({ cls := "RationalOdes$Roots", name := "find", desc := "([J)V" } : Jvm.MethodName) prog_3_method_4_code (5 : Nat) (Option.none : Option Jvm.ClassFile.FieldType)) ∈ kb := kb_2 (List.mem_of_getElem? (i := 110) rfl) rfl
theorem kw_352 : (Jvm.Cond.methodLink "RationalOdes$Roots" (41 : Nat) ({ cls := "RationalOdes$Roots", name := "copy", desc := "([J[J)V" } : Jvm.MethodName)) ∈ kb := kb_2 (List.mem_of_getElem? (i := 112) rfl) rfl
theorem kw_353 : (Jvm.Cond.static ({ cls := "RationalOdes$Roots", name := "copy", desc := "([J[J)V" } : Jvm.MethodName)) ∈ kb := kb_2 (List.mem_of_getElem? (i := 113) rfl) rfl
theorem kw_354 : (Jvm.Cond.code ({ cls := "RationalOdes$Roots", name := "copy", desc := "([J[J)V" } : Jvm.MethodName) prog_3_method_15_code (2 : Nat) (Option.none : Option Jvm.ClassFile.FieldType)) ∈ kb := kb_2 (List.mem_of_getElem? (i := 114) rfl) rfl
theorem kw_355 : (Jvm.Cond.methodLink "RationalOdes$Roots" (100 : Nat) ({ cls := "java/lang/System", name := "arraycopy", desc := "(Ljava/lang/Object;ILjava/lang/Object;II)V" } : Jvm.MethodName)) ∈ kb := kb_2 (List.mem_of_getElem? (i := 115) rfl) rfl
theorem kw_356 : (Jvm.Cond.methodLink "RationalOdes$Roots" (45 : Nat) ({ cls := "RationalOdes$Roots", name := "makeMonic", desc := "([J)V" } : Jvm.MethodName)) ∈ kb := kb_2 (List.mem_of_getElem? (i := 116) rfl) rfl
theorem kw_357 : (Jvm.Cond.static ({ cls := "RationalOdes$Roots", name := "makeMonic", desc := "([J)V" } : Jvm.MethodName)) ∈ kb := kb_2 (List.mem_of_getElem? (i := 117) rfl) rfl
theorem kw_358 : (Jvm.Cond.code ({ cls := "RationalOdes$Roots", name := "makeMonic", desc := "([J)V" } : Jvm.MethodName) prog_3_method_14_code (5 : Nat) (Option.none : Option Jvm.ClassFile.FieldType)) ∈ kb := kb_2 (List.mem_of_getElem? (i := 118) rfl) rfl
theorem kw_360 : (Jvm.Cond.constantLong "RationalOdes$Roots" (75 : Nat) (32003 : Int64)) ∈ kb := kb_2 (List.mem_of_getElem? (i := 120) rfl) rfl
theorem kw_361 : (Jvm.Cond.methodLink "RationalOdes$Roots" (49 : Nat) ({ cls := "RationalOdes$Roots", name := "keepRootsOnce", desc := "()V" } : Jvm.MethodName)) ∈ kb := kb_2 (List.mem_of_getElem? (i := 121) rfl) rfl
theorem kw_363 : (Jvm.Cond.instanceMethod ({ cls := "RationalOdes$Roots", name := "keepRootsOnce", desc := "()V" } : Jvm.MethodName)) ∈ kb := kb_2 (List.mem_of_getElem? (i := 123) rfl) rfl
theorem kw_364 : (Jvm.Cond.code ({ cls := "RationalOdes$Roots", name := "keepRootsOnce", desc := "()V" } : Jvm.MethodName) prog_3_method_5_code (1 : Nat) (Option.none : Option Jvm.ClassFile.FieldType)) ∈ kb := kb_2 (List.mem_of_getElem? (i := 124) rfl) rfl
theorem kw_365 : (Jvm.Cond.methodLink "RationalOdes$Roots" (63 : Nat) ({ cls := "RationalOdes$Roots", name := "raise", desc := "(JI[J)V" } : Jvm.MethodName)) ∈ kb := kb_2 (List.mem_of_getElem? (i := 125) rfl) rfl
theorem kw_367 : (Jvm.Cond.instanceMethod ({ cls := "RationalOdes$Roots", name := "raise", desc := "(JI[J)V" } : Jvm.MethodName)) ∈ kb := kb_2 (List.mem_of_getElem? (i := 127) rfl) rfl
theorem kw_368 : (Jvm.Cond.code ({ cls := "RationalOdes$Roots", name := "raise", desc := "(JI[J)V" } : Jvm.MethodName) prog_3_method_9_code (7 : Nat) (Option.none : Option Jvm.ClassFile.FieldType)) ∈ kb := kb_2 (List.mem_of_getElem? (i := 128) rfl) rfl
theorem kw_369 : (Jvm.Cond.methodLink "RationalOdes$Roots" (77 : Nat) ({ cls := "java/util/Arrays", name := "fill", desc := "([JJ)V" } : Jvm.MethodName)) ∈ kb := kb_2 (List.mem_of_getElem? (i := 129) rfl) rfl
theorem kw_370 : (Jvm.Cond.methodLink "RationalOdes$Roots" (83 : Nat) ({ cls := "RationalOdes$Roots", name := "squareRaised", desc := "(I)V" } : Jvm.MethodName)) ∈ kb := kb_2 (List.mem_of_getElem? (i := 130) rfl) rfl
theorem kw_372 : (Jvm.Cond.instanceMethod ({ cls := "RationalOdes$Roots", name := "squareRaised", desc := "(I)V" } : Jvm.MethodName)) ∈ kb := kb_2 (List.mem_of_getElem? (i := 132) rfl) rfl
theorem kw_373 : (Jvm.Cond.code ({ cls := "RationalOdes$Roots", name := "squareRaised", desc := "(I)V" } : Jvm.MethodName) prog_3_method_10_code (4 : Nat) (Option.none : Option Jvm.ClassFile.FieldType)) ∈ kb := kb_2 (List.mem_of_getElem? (i := 133) rfl) rfl
theorem kw_374 : (Jvm.Cond.methodLink "RationalOdes$Roots" (87 : Nat) ({ cls := "RationalOdes$Roots", name := "timesLine", desc := "(J)V" } : Jvm.MethodName)) ∈ kb := kb_2 (List.mem_of_getElem? (i := 134) rfl) rfl
theorem kw_376 : (Jvm.Cond.instanceMethod ({ cls := "RationalOdes$Roots", name := "timesLine", desc := "(J)V" } : Jvm.MethodName)) ∈ kb := kb_2 (List.mem_of_getElem? (i := 136) rfl) rfl
theorem kw_377 : (Jvm.Cond.code ({ cls := "RationalOdes$Roots", name := "timesLine", desc := "(J)V" } : Jvm.MethodName) prog_3_method_11_code (4 : Nat) (Option.none : Option Jvm.ClassFile.FieldType)) ∈ kb := kb_2 (List.mem_of_getElem? (i := 137) rfl) rfl
theorem kw_378 : (Jvm.Cond.methodLink "RationalOdes$Roots" (90 : Nat) ({ cls := "RationalOdes$Roots", name := "takeMultiples", desc := "([J[J)V" } : Jvm.MethodName)) ∈ kb := kb_2 (List.mem_of_getElem? (i := 138) rfl) rfl
theorem kw_379 : (Jvm.Cond.static ({ cls := "RationalOdes$Roots", name := "takeMultiples", desc := "([J[J)V" } : Jvm.MethodName)) ∈ kb := kb_2 (List.mem_of_getElem? (i := 139) rfl) rfl
theorem kw_380 : (Jvm.Cond.code ({ cls := "RationalOdes$Roots", name := "takeMultiples", desc := "([J[J)V" } : Jvm.MethodName) prog_3_method_13_code (8 : Nat) (Option.none : Option Jvm.ClassFile.FieldType)) ∈ kb := kb_2 (List.mem_of_getElem? (i := 140) rfl) rfl
theorem kw_382 : (Jvm.Cond.methodLink "RationalOdes$Roots" (71 : Nat) ({ cls := "RationalOdes$Roots", name := "commonWithRaised", desc := "([J)[J" } : Jvm.MethodName)) ∈ kb := kb_2 (List.mem_of_getElem? (i := 142) rfl) rfl
theorem kw_384 : (Jvm.Cond.instanceMethod ({ cls := "RationalOdes$Roots", name := "commonWithRaised", desc := "([J)[J" } : Jvm.MethodName)) ∈ kb := kb_2 (List.mem_of_getElem? (i := 144) rfl) rfl
theorem kw_385 : (Jvm.Cond.code ({ cls := "RationalOdes$Roots", name := "commonWithRaised", desc := "([J)[J" } : Jvm.MethodName) prog_3_method_12_code (6 : Nat) (Option.some (Jvm.ClassFile.FieldType.array Jvm.ClassFile.FieldType.long))) ∈ kb := kb_2 (List.mem_of_getElem? (i := 145) rfl) rfl
theorem kw_387 : (Jvm.Cond.methodLink "RationalOdes$Roots" (52 : Nat) ({ cls := "RationalOdes$Roots", name := "oneRoot", desc := "()J" } : Jvm.MethodName)) ∈ kb := kb_2 (List.mem_of_getElem? (i := 147) rfl) rfl
theorem kw_389 : (Jvm.Cond.instanceMethod ({ cls := "RationalOdes$Roots", name := "oneRoot", desc := "()J" } : Jvm.MethodName)) ∈ kb := kb_2 (List.mem_of_getElem? (i := 149) rfl) rfl
theorem kw_390 : (Jvm.Cond.code ({ cls := "RationalOdes$Roots", name := "oneRoot", desc := "()J" } : Jvm.MethodName) prog_3_method_6_code (3 : Nat) (Option.some Jvm.ClassFile.FieldType.long)) ∈ kb := kb_2 (List.mem_of_getElem? (i := 150) rfl) rfl
theorem kw_391 : (Jvm.Cond.methodLink "RationalOdes$Roots" (56 : Nat) ({ cls := "RationalOdes$Roots", name := "insert", desc := "(J)V" } : Jvm.MethodName)) ∈ kb := kb_2 (List.mem_of_getElem? (i := 151) rfl) rfl
theorem kw_393 : (Jvm.Cond.instanceMethod ({ cls := "RationalOdes$Roots", name := "insert", desc := "(J)V" } : Jvm.MethodName)) ∈ kb := kb_2 (List.mem_of_getElem? (i := 153) rfl) rfl
theorem kw_394 : (Jvm.Cond.code ({ cls := "RationalOdes$Roots", name := "insert", desc := "(J)V" } : Jvm.MethodName) prog_3_method_7_code (4 : Nat) (Option.none : Option Jvm.ClassFile.FieldType)) ∈ kb := kb_2 (List.mem_of_getElem? (i := 154) rfl) rfl
theorem kw_395 : (Jvm.Cond.methodLink "RationalOdes$Roots" (60 : Nat) ({ cls := "RationalOdes$Roots", name := "divideOut", desc := "(J)V" } : Jvm.MethodName)) ∈ kb := kb_2 (List.mem_of_getElem? (i := 155) rfl) rfl
theorem kw_397 : (Jvm.Cond.instanceMethod ({ cls := "RationalOdes$Roots", name := "divideOut", desc := "(J)V" } : Jvm.MethodName)) ∈ kb := kb_2 (List.mem_of_getElem? (i := 157) rfl) rfl
theorem kw_398 : (Jvm.Cond.code ({ cls := "RationalOdes$Roots", name := "divideOut", desc := "(J)V" } : Jvm.MethodName) prog_3_method_8_code (8 : Nat) (Option.none : Option Jvm.ClassFile.FieldType)) ∈ kb := kb_2 (List.mem_of_getElem? (i := 158) rfl) rfl
theorem kw_399 : (Jvm.Cond.methodLink "RationalOdes" (77 : Nat) ({ cls := "RationalOdes$Roots", name := "howMany", desc := "()I" } : Jvm.MethodName)) ∈ kb := kb_2 (List.mem_of_getElem? (i := 159) rfl) rfl
theorem kw_400 : (Jvm.Cond.instanceMethod ({ cls := "RationalOdes$Roots", name := "howMany", desc := "()I" } : Jvm.MethodName)) ∈ kb := kb_2 (List.mem_of_getElem? (i := 160) rfl) rfl
theorem kw_401 : (Jvm.Cond.selects "RationalOdes$Roots" ({ cls := "RationalOdes$Roots", name := "howMany", desc := "()I" } : Jvm.MethodName) ({ cls := "RationalOdes$Roots", name := "howMany", desc := "()I" } : Jvm.MethodName)) ∈ kb := kb_2 (List.mem_of_getElem? (i := 161) rfl) rfl
theorem kw_402 : (Jvm.Cond.code ({ cls := "RationalOdes$Roots", name := "howMany", desc := "()I" } : Jvm.MethodName) prog_3_method_2_code (1 : Nat) (Option.some Jvm.ClassFile.FieldType.int)) ∈ kb := kb_2 (List.mem_of_getElem? (i := 162) rfl) rfl
theorem kw_403 : (Jvm.Cond.methodLink "RationalOdesLaw" (94 : Nat) ({ cls := "RationalOdesLaw", name := "place", desc := "(LRationalOdes;I[J)I" } : Jvm.MethodName)) ∈ kb := kb_2 (List.mem_of_getElem? (i := 163) rfl) rfl
theorem kw_404 : (Jvm.Cond.static ({ cls := "RationalOdesLaw", name := "place", desc := "(LRationalOdes;I[J)I" } : Jvm.MethodName)) ∈ kb := kb_2 (List.mem_of_getElem? (i := 164) rfl) rfl
theorem kw_405 : (Jvm.Cond.codeWith ({ cls := "RationalOdesLaw", name := "place", desc := "(LRationalOdes;I[J)I" } : Jvm.MethodName) method_7_code (4 : Nat) (Option.some Jvm.ClassFile.FieldType.int) [((0 : Nat), (9 : Nat), (12 : Nat), (27 : Nat)), ((0 : Nat), (9 : Nat), (15 : Nat), (13 : Nat))]) ∈ kb := kb_2 (List.mem_of_getElem? (i := 165) rfl) rfl
theorem kw_406 : (Jvm.Cond.methodLink "RationalOdesLaw" (29 : Nat) ({ cls := "RationalOdes", name := "place", desc := "(I)I" } : Jvm.MethodName)) ∈ kb := kb_2 (List.mem_of_getElem? (i := 166) rfl) rfl
theorem kw_407 : (Jvm.Cond.instanceMethod ({ cls := "RationalOdes", name := "place", desc := "(I)I" } : Jvm.MethodName)) ∈ kb := kb_2 (List.mem_of_getElem? (i := 167) rfl) rfl
theorem kw_408 : (Jvm.Cond.selects "RationalOdes" ({ cls := "RationalOdes", name := "place", desc := "(I)I" } : Jvm.MethodName) ({ cls := "RationalOdes", name := "place", desc := "(I)I" } : Jvm.MethodName)) ∈ kb := kb_2 (List.mem_of_getElem? (i := 168) rfl) rfl
theorem kw_409 : (Jvm.Cond.code ({ cls := "RationalOdes", name := "place", desc := "(I)I" } : Jvm.MethodName) prog_1_method_7_code (2 : Nat) (Option.some Jvm.ClassFile.FieldType.int)) ∈ kb := kb_2 (List.mem_of_getElem? (i := 169) rfl) rfl
theorem kw_411 : (Jvm.Cond.methodLink "RationalOdes" (88 : Nat) ({ cls := "RationalOdes$Roots", name := "orNone", desc := "(I)I" } : Jvm.MethodName)) ∈ kb := kb_2 (List.mem_of_getElem? (i := 171) rfl) rfl
theorem kw_412 : (Jvm.Cond.instanceMethod ({ cls := "RationalOdes$Roots", name := "orNone", desc := "(I)I" } : Jvm.MethodName)) ∈ kb := kb_2 (List.mem_of_getElem? (i := 172) rfl) rfl
theorem kw_413 : (Jvm.Cond.selects "RationalOdes$Roots" ({ cls := "RationalOdes$Roots", name := "orNone", desc := "(I)I" } : Jvm.MethodName) ({ cls := "RationalOdes$Roots", name := "orNone", desc := "(I)I" } : Jvm.MethodName)) ∈ kb := kb_2 (List.mem_of_getElem? (i := 173) rfl) rfl
theorem kw_414 : (Jvm.Cond.code ({ cls := "RationalOdes$Roots", name := "orNone", desc := "(I)I" } : Jvm.MethodName) prog_3_method_3_code (2 : Nat) (Option.some Jvm.ClassFile.FieldType.int)) ∈ kb := kb_2 (List.mem_of_getElem? (i := 174) rfl) rfl
theorem kw_415 : (Jvm.Cond.methodLink "RationalOdesLaw" (98 : Nat) ({ cls := "RationalOdesLaw", name := "level", desc := "(LRationalOdes;ZJ[J)I" } : Jvm.MethodName)) ∈ kb := kb_2 (List.mem_of_getElem? (i := 175) rfl) rfl
theorem kw_416 : (Jvm.Cond.static ({ cls := "RationalOdesLaw", name := "level", desc := "(LRationalOdes;ZJ[J)I" } : Jvm.MethodName)) ∈ kb := kb_2 (List.mem_of_getElem? (i := 176) rfl) rfl
theorem kw_417 : (Jvm.Cond.codeWith ({ cls := "RationalOdesLaw", name := "level", desc := "(LRationalOdes;ZJ[J)I" } : Jvm.MethodName) method_8_code (6 : Nat) (Option.some Jvm.ClassFile.FieldType.int) [((0 : Nat), (11 : Nat), (14 : Nat), (27 : Nat))]) ∈ kb := kb_2 (List.mem_of_getElem? (i := 177) rfl) rfl
theorem kw_418 : (Jvm.Cond.methodLink "RationalOdesLaw" (33 : Nat) ({ cls := "RationalOdes", name := "level", desc := "(ZJ)I" } : Jvm.MethodName)) ∈ kb := kb_2 (List.mem_of_getElem? (i := 178) rfl) rfl
theorem kw_419 : (Jvm.Cond.instanceMethod ({ cls := "RationalOdes", name := "level", desc := "(ZJ)I" } : Jvm.MethodName)) ∈ kb := kb_2 (List.mem_of_getElem? (i := 179) rfl) rfl
theorem kw_420 : (Jvm.Cond.selects "RationalOdes" ({ cls := "RationalOdes", name := "level", desc := "(ZJ)I" } : Jvm.MethodName) ({ cls := "RationalOdes", name := "level", desc := "(ZJ)I" } : Jvm.MethodName)) ∈ kb := kb_2 (List.mem_of_getElem? (i := 180) rfl) rfl
theorem kw_421 : (Jvm.Cond.code ({ cls := "RationalOdes", name := "level", desc := "(ZJ)I" } : Jvm.MethodName) prog_1_method_8_code (4 : Nat) (Option.some Jvm.ClassFile.FieldType.int)) ∈ kb := kb_2 (List.mem_of_getElem? (i := 181) rfl) rfl
theorem kw_422 : (Jvm.Cond.methodLink "RationalOdes" (92 : Nat) ({ cls := "RationalOdes", name := "goTo", desc := "(ZJ)I" } : Jvm.MethodName)) ∈ kb := kb_2 (List.mem_of_getElem? (i := 182) rfl) rfl
theorem kw_424 : (Jvm.Cond.instanceMethod ({ cls := "RationalOdes", name := "goTo", desc := "(ZJ)I" } : Jvm.MethodName)) ∈ kb := kb_2 (List.mem_of_getElem? (i := 184) rfl) rfl
theorem kw_425 : (Jvm.Cond.code ({ cls := "RationalOdes", name := "goTo", desc := "(ZJ)I" } : Jvm.MethodName) prog_1_method_23_code (4 : Nat) (Option.some Jvm.ClassFile.FieldType.int)) ∈ kb := kb_2 (List.mem_of_getElem? (i := 185) rfl) rfl
theorem kw_426 : (Jvm.Cond.methodLink "RationalOdes" (167 : Nat) ({ cls := "RationalOdes", name := "allZero", desc := "()Z" } : Jvm.MethodName)) ∈ kb := kb_2 (List.mem_of_getElem? (i := 186) rfl) rfl
theorem kw_428 : (Jvm.Cond.instanceMethod ({ cls := "RationalOdes", name := "allZero", desc := "()Z" } : Jvm.MethodName)) ∈ kb := kb_2 (List.mem_of_getElem? (i := 188) rfl) rfl
theorem kw_429 : (Jvm.Cond.code ({ cls := "RationalOdes", name := "allZero", desc := "()Z" } : Jvm.MethodName) prog_1_method_24_code (2 : Nat) (Option.some Jvm.ClassFile.FieldType.boolean)) ∈ kb := kb_2 (List.mem_of_getElem? (i := 189) rfl) rfl
theorem kw_431 : (Jvm.Cond.methodLink "RationalOdes" (128 : Nat) ({ cls := "RationalOdes", name := "shiftToOther", desc := "(J)V" } : Jvm.MethodName)) ∈ kb := kb_2 (List.mem_of_getElem? (i := 191) rfl) rfl
theorem kw_433 : (Jvm.Cond.instanceMethod ({ cls := "RationalOdes", name := "shiftToOther", desc := "(J)V" } : Jvm.MethodName)) ∈ kb := kb_2 (List.mem_of_getElem? (i := 193) rfl) rfl
theorem kw_434 : (Jvm.Cond.code ({ cls := "RationalOdes", name := "shiftToOther", desc := "(J)V" } : Jvm.MethodName) prog_1_method_30_code (4 : Nat) (Option.none : Option Jvm.ClassFile.FieldType)) ∈ kb := kb_2 (List.mem_of_getElem? (i := 194) rfl) rfl
theorem kw_435 : (Jvm.Cond.methodLink "RationalOdes" (173 : Nat) ({ cls := "RationalOdes", name := "greatestGap", desc := "()I" } : Jvm.MethodName)) ∈ kb := kb_2 (List.mem_of_getElem? (i := 195) rfl) rfl
theorem kw_437 : (Jvm.Cond.instanceMethod ({ cls := "RationalOdes", name := "greatestGap", desc := "()I" } : Jvm.MethodName)) ∈ kb := kb_2 (List.mem_of_getElem? (i := 197) rfl) rfl
theorem kw_438 : (Jvm.Cond.code ({ cls := "RationalOdes", name := "greatestGap", desc := "()I" } : Jvm.MethodName) prog_1_method_26_code (2 : Nat) (Option.some Jvm.ClassFile.FieldType.int)) ∈ kb := kb_2 (List.mem_of_getElem? (i := 198) rfl) rfl
theorem kw_439 : (Jvm.Cond.methodLink "RationalOdes" (179 : Nat) ({ cls := "RationalOdes", name := "isGap", desc := "(I)Z" } : Jvm.MethodName)) ∈ kb := kb_2 (List.mem_of_getElem? (i := 199) rfl) rfl
theorem kw_441 : (Jvm.Cond.instanceMethod ({ cls := "RationalOdes", name := "isGap", desc := "(I)Z" } : Jvm.MethodName)) ∈ kb := kb_2 (List.mem_of_getElem? (i := 201) rfl) rfl
theorem kw_442 : (Jvm.Cond.code ({ cls := "RationalOdes", name := "isGap", desc := "(I)Z" } : Jvm.MethodName) prog_1_method_27_code (3 : Nat) (Option.some Jvm.ClassFile.FieldType.boolean)) ∈ kb := kb_2 (List.mem_of_getElem? (i := 202) rfl) rfl
theorem kw_443 : (Jvm.Cond.methodLink "RationalOdes" (96 : Nat) ({ cls := "RationalOdes", name := "otherAt", desc := "(II)J" } : Jvm.MethodName)) ∈ kb := kb_2 (List.mem_of_getElem? (i := 203) rfl) rfl
theorem kw_445 : (Jvm.Cond.instanceMethod ({ cls := "RationalOdes", name := "otherAt", desc := "(II)J" } : Jvm.MethodName)) ∈ kb := kb_2 (List.mem_of_getElem? (i := 205) rfl) rfl
theorem kw_446 : (Jvm.Cond.code ({ cls := "RationalOdes", name := "otherAt", desc := "(II)J" } : Jvm.MethodName) prog_1_method_28_code (3 : Nat) (Option.some Jvm.ClassFile.FieldType.long)) ∈ kb := kb_2 (List.mem_of_getElem? (i := 206) rfl) rfl
theorem kw_447 : (Jvm.Cond.methodLink "RationalOdes" (176 : Nat) ({ cls := "RationalOdes", name := "leastGap", desc := "()I" } : Jvm.MethodName)) ∈ kb := kb_2 (List.mem_of_getElem? (i := 207) rfl) rfl
theorem kw_449 : (Jvm.Cond.instanceMethod ({ cls := "RationalOdes", name := "leastGap", desc := "()I" } : Jvm.MethodName)) ∈ kb := kb_2 (List.mem_of_getElem? (i := 209) rfl) rfl
theorem kw_450 : (Jvm.Cond.code ({ cls := "RationalOdes", name := "leastGap", desc := "()I" } : Jvm.MethodName) prog_1_method_25_code (2 : Nat) (Option.some Jvm.ClassFile.FieldType.int)) ∈ kb := kb_2 (List.mem_of_getElem? (i := 210) rfl) rfl
theorem kw_451 : (Jvm.Cond.methodLink "RationalOdesLaw" (102 : Nat) ({ cls := "RationalOdesLaw", name := "regular", desc := "(LRationalOdes;ZJ[J)I" } : Jvm.MethodName)) ∈ kb := kb_2 (List.mem_of_getElem? (i := 211) rfl) rfl
theorem kw_452 : (Jvm.Cond.static ({ cls := "RationalOdesLaw", name := "regular", desc := "(LRationalOdes;ZJ[J)I" } : Jvm.MethodName)) ∈ kb := kb_2 (List.mem_of_getElem? (i := 212) rfl) rfl
theorem kw_453 : (Jvm.Cond.codeWith ({ cls := "RationalOdesLaw", name := "regular", desc := "(LRationalOdes;ZJ[J)I" } : Jvm.MethodName) method_9_code (6 : Nat) (Option.some Jvm.ClassFile.FieldType.int) [((0 : Nat), (18 : Nat), (21 : Nat), (27 : Nat))]) ∈ kb := kb_2 (List.mem_of_getElem? (i := 213) rfl) rfl
theorem kw_454 : (Jvm.Cond.methodLink "RationalOdesLaw" (37 : Nat) ({ cls := "RationalOdes", name := "regular", desc := "(ZJ)Z" } : Jvm.MethodName)) ∈ kb := kb_2 (List.mem_of_getElem? (i := 214) rfl) rfl
theorem kw_455 : (Jvm.Cond.instanceMethod ({ cls := "RationalOdes", name := "regular", desc := "(ZJ)Z" } : Jvm.MethodName)) ∈ kb := kb_2 (List.mem_of_getElem? (i := 215) rfl) rfl
theorem kw_456 : (Jvm.Cond.selects "RationalOdes" ({ cls := "RationalOdes", name := "regular", desc := "(ZJ)Z" } : Jvm.MethodName) ({ cls := "RationalOdes", name := "regular", desc := "(ZJ)Z" } : Jvm.MethodName)) ∈ kb := kb_2 (List.mem_of_getElem? (i := 216) rfl) rfl
theorem kw_457 : (Jvm.Cond.code ({ cls := "RationalOdes", name := "regular", desc := "(ZJ)Z" } : Jvm.MethodName) prog_1_method_9_code (5 : Nat) (Option.some Jvm.ClassFile.FieldType.boolean)) ∈ kb := kb_2 (List.mem_of_getElem? (i := 217) rfl) rfl
theorem kw_458 : (Jvm.Cond.methodLink "RationalOdesLaw" (105 : Nat) ({ cls := "RationalOdesLaw", name := "exponent", desc := "(LRationalOdes;ZJI[J)I" } : Jvm.MethodName)) ∈ kb := kb_2 (List.mem_of_getElem? (i := 218) rfl) rfl
theorem kw_459 : (Jvm.Cond.static ({ cls := "RationalOdesLaw", name := "exponent", desc := "(LRationalOdes;ZJI[J)I" } : Jvm.MethodName)) ∈ kb := kb_2 (List.mem_of_getElem? (i := 219) rfl) rfl
theorem kw_460 : (Jvm.Cond.codeWith ({ cls := "RationalOdesLaw", name := "exponent", desc := "(LRationalOdes;ZJI[J)I" } : Jvm.MethodName) method_10_code (7 : Nat) (Option.some Jvm.ClassFile.FieldType.int) [((0 : Nat), (13 : Nat), (16 : Nat), (27 : Nat))]) ∈ kb := kb_2 (List.mem_of_getElem? (i := 220) rfl) rfl
theorem kw_461 : (Jvm.Cond.methodLink "RationalOdesLaw" (41 : Nat) ({ cls := "RationalOdes", name := "exponent", desc := "(ZJI)I" } : Jvm.MethodName)) ∈ kb := kb_2 (List.mem_of_getElem? (i := 221) rfl) rfl
theorem kw_462 : (Jvm.Cond.instanceMethod ({ cls := "RationalOdes", name := "exponent", desc := "(ZJI)I" } : Jvm.MethodName)) ∈ kb := kb_2 (List.mem_of_getElem? (i := 222) rfl) rfl
theorem kw_463 : (Jvm.Cond.selects "RationalOdes" ({ cls := "RationalOdes", name := "exponent", desc := "(ZJI)I" } : Jvm.MethodName) ({ cls := "RationalOdes", name := "exponent", desc := "(ZJI)I" } : Jvm.MethodName)) ∈ kb := kb_2 (List.mem_of_getElem? (i := 223) rfl) rfl
theorem kw_464 : (Jvm.Cond.code ({ cls := "RationalOdes", name := "exponent", desc := "(ZJI)I" } : Jvm.MethodName) prog_1_method_10_code (5 : Nat) (Option.some Jvm.ClassFile.FieldType.int)) ∈ kb := kb_2 (List.mem_of_getElem? (i := 224) rfl) rfl
theorem kw_465 : (Jvm.Cond.methodLink "RationalOdes" (100 : Nat) ({ cls := "RationalOdes", name := "fillIndicial", desc := "(I)V" } : Jvm.MethodName)) ∈ kb := kb_2 (List.mem_of_getElem? (i := 225) rfl) rfl
theorem kw_467 : (Jvm.Cond.instanceMethod ({ cls := "RationalOdes", name := "fillIndicial", desc := "(I)V" } : Jvm.MethodName)) ∈ kb := kb_2 (List.mem_of_getElem? (i := 227) rfl) rfl
theorem kw_468 : (Jvm.Cond.code ({ cls := "RationalOdes", name := "fillIndicial", desc := "(I)V" } : Jvm.MethodName) prog_1_method_29_code (8 : Nat) (Option.none : Option Jvm.ClassFile.FieldType)) ∈ kb := kb_2 (List.mem_of_getElem? (i := 228) rfl) rfl
theorem kw_469 : (Jvm.Cond.constantLong "RationalOdes" (183 : Nat) (2 : Int64)) ∈ kb := kb_2 (List.mem_of_getElem? (i := 229) rfl) rfl
theorem kw_470 : (Jvm.Cond.constantLong "RationalOdes" (185 : Nat) (3 : Int64)) ∈ kb := kb_2 (List.mem_of_getElem? (i := 230) rfl) rfl
theorem kw_471 : (Jvm.Cond.methodLink "RationalOdesLaw" (113 : Nat) ({ cls := "RationalOdesLaw", name := "answer", desc := "(LRationalOdes;II[J)I" } : Jvm.MethodName)) ∈ kb := kb_2 (List.mem_of_getElem? (i := 231) rfl) rfl
theorem kw_472 : (Jvm.Cond.static ({ cls := "RationalOdesLaw", name := "answer", desc := "(LRationalOdes;II[J)I" } : Jvm.MethodName)) ∈ kb := kb_2 (List.mem_of_getElem? (i := 232) rfl) rfl
theorem kw_473 : (Jvm.Cond.codeWith ({ cls := "RationalOdesLaw", name := "answer", desc := "(LRationalOdes;II[J)I" } : Jvm.MethodName) method_11_code (5 : Nat) (Option.some Jvm.ClassFile.FieldType.int) [((0 : Nat), (10 : Nat), (13 : Nat), (13 : Nat))]) ∈ kb := kb_2 (List.mem_of_getElem? (i := 233) rfl) rfl
theorem kw_474 : (Jvm.Cond.methodLink "RationalOdesLaw" (45 : Nat) ({ cls := "RationalOdes", name := "answer", desc := "(II)I" } : Jvm.MethodName)) ∈ kb := kb_2 (List.mem_of_getElem? (i := 234) rfl) rfl
theorem kw_475 : (Jvm.Cond.instanceMethod ({ cls := "RationalOdes", name := "answer", desc := "(II)I" } : Jvm.MethodName)) ∈ kb := kb_2 (List.mem_of_getElem? (i := 235) rfl) rfl
theorem kw_476 : (Jvm.Cond.selects "RationalOdes" ({ cls := "RationalOdes", name := "answer", desc := "(II)I" } : Jvm.MethodName) ({ cls := "RationalOdes", name := "answer", desc := "(II)I" } : Jvm.MethodName)) ∈ kb := kb_2 (List.mem_of_getElem? (i := 236) rfl) rfl
theorem kw_477 : (Jvm.Cond.code ({ cls := "RationalOdes", name := "answer", desc := "(II)I" } : Jvm.MethodName) prog_1_method_12_code (3 : Nat) (Option.some Jvm.ClassFile.FieldType.int)) ∈ kb := kb_2 (List.mem_of_getElem? (i := 237) rfl) rfl
theorem kw_478 : (Jvm.Cond.methodLink "RationalOdes" (113 : Nat) ({ cls := "RationalOdes", name := "needMember", desc := "(I)V" } : Jvm.MethodName)) ∈ kb := kb_2 (List.mem_of_getElem? (i := 238) rfl) rfl
theorem kw_480 : (Jvm.Cond.instanceMethod ({ cls := "RationalOdes", name := "needMember", desc := "(I)V" } : Jvm.MethodName)) ∈ kb := kb_3 (List.mem_of_getElem? (i := 0) rfl) rfl
theorem kw_481 : (Jvm.Cond.code ({ cls := "RationalOdes", name := "needMember", desc := "(I)V" } : Jvm.MethodName) prog_1_method_21_code (2 : Nat) (Option.none : Option Jvm.ClassFile.FieldType)) ∈ kb := kb_3 (List.mem_of_getElem? (i := 1) rfl) rfl
theorem kw_483 : (Jvm.Cond.methodLink "RationalOdes" (116 : Nat) ({ cls := "RationalOdes$Base", name := "member", desc := "(I)[J" } : Jvm.MethodName)) ∈ kb := kb_3 (List.mem_of_getElem? (i := 3) rfl) rfl
theorem kw_484 : (Jvm.Cond.instanceMethod ({ cls := "RationalOdes$Base", name := "member", desc := "(I)[J" } : Jvm.MethodName)) ∈ kb := kb_3 (List.mem_of_getElem? (i := 4) rfl) rfl
theorem kw_485 : (Jvm.Cond.selects "RationalOdes$Base" ({ cls := "RationalOdes$Base", name := "member", desc := "(I)[J" } : Jvm.MethodName) ({ cls := "RationalOdes$Base", name := "member", desc := "(I)[J" } : Jvm.MethodName)) ∈ kb := kb_3 (List.mem_of_getElem? (i := 5) rfl) rfl
theorem kw_486 : (Jvm.Cond.code ({ cls := "RationalOdes$Base", name := "member", desc := "(I)[J" } : Jvm.MethodName) prog_2_method_3_code (2 : Nat) (Option.some (Jvm.ClassFile.FieldType.array Jvm.ClassFile.FieldType.long))) ∈ kb := kb_3 (List.mem_of_getElem? (i := 6) rfl) rfl
theorem kw_487 : (Jvm.Cond.methodLink "RationalOdesLaw" (121 : Nat) ({ cls := "RationalOdesLaw", name := "take", desc := "(LRationalOdes;I)I" } : Jvm.MethodName)) ∈ kb := kb_3 (List.mem_of_getElem? (i := 7) rfl) rfl
theorem kw_488 : (Jvm.Cond.static ({ cls := "RationalOdesLaw", name := "take", desc := "(LRationalOdes;I)I" } : Jvm.MethodName)) ∈ kb := kb_3 (List.mem_of_getElem? (i := 8) rfl) rfl
theorem kw_489 : (Jvm.Cond.codeWith ({ cls := "RationalOdesLaw", name := "take", desc := "(LRationalOdes;I)I" } : Jvm.MethodName) method_12_code (3 : Nat) (Option.some Jvm.ClassFile.FieldType.int) [((0 : Nat), (5 : Nat), (8 : Nat), (13 : Nat))]) ∈ kb := kb_3 (List.mem_of_getElem? (i := 9) rfl) rfl
theorem kw_490 : (Jvm.Cond.methodLink "RationalOdesLaw" (48 : Nat) ({ cls := "RationalOdes", name := "take", desc := "(I)V" } : Jvm.MethodName)) ∈ kb := kb_3 (List.mem_of_getElem? (i := 10) rfl) rfl
theorem kw_491 : (Jvm.Cond.instanceMethod ({ cls := "RationalOdes", name := "take", desc := "(I)V" } : Jvm.MethodName)) ∈ kb := kb_3 (List.mem_of_getElem? (i := 11) rfl) rfl
theorem kw_492 : (Jvm.Cond.selects "RationalOdes" ({ cls := "RationalOdes", name := "take", desc := "(I)V" } : Jvm.MethodName) ({ cls := "RationalOdes", name := "take", desc := "(I)V" } : Jvm.MethodName)) ∈ kb := kb_3 (List.mem_of_getElem? (i := 12) rfl) rfl
theorem kw_493 : (Jvm.Cond.code ({ cls := "RationalOdes", name := "take", desc := "(I)V" } : Jvm.MethodName) prog_1_method_14_code (2 : Nat) (Option.none : Option Jvm.ClassFile.FieldType)) ∈ kb := kb_3 (List.mem_of_getElem? (i := 13) rfl) rfl
theorem kw_494 : (Jvm.Cond.methodLink "RationalOdesLaw" (125 : Nat) ({ cls := "RationalOdesLaw", name := "series", desc := "(LRationalOdes;JJJJI[J)I" } : Jvm.MethodName)) ∈ kb := kb_3 (List.mem_of_getElem? (i := 14) rfl) rfl
theorem kw_495 : (Jvm.Cond.static ({ cls := "RationalOdesLaw", name := "series", desc := "(LRationalOdes;JJJJI[J)I" } : Jvm.MethodName)) ∈ kb := kb_3 (List.mem_of_getElem? (i := 15) rfl) rfl
theorem kw_496 : (Jvm.Cond.codeWith ({ cls := "RationalOdesLaw", name := "series", desc := "(LRationalOdes;JJJJI[J)I" } : Jvm.MethodName) method_13_code (12 : Nat) (Option.some Jvm.ClassFile.FieldType.int) [((0 : Nat), (17 : Nat), (20 : Nat), (13 : Nat)), ((0 : Nat), (17 : Nat), (24 : Nat), (56 : Nat))]) ∈ kb := kb_3 (List.mem_of_getElem? (i := 16) rfl) rfl
theorem kw_498 : (Jvm.Cond.methodLink "RationalOdesLaw" (52 : Nat) ({ cls := "RationalOdes", name := "series", desc := "(JJJJI)I" } : Jvm.MethodName)) ∈ kb := kb_3 (List.mem_of_getElem? (i := 18) rfl) rfl
theorem kw_499 : (Jvm.Cond.instanceMethod ({ cls := "RationalOdes", name := "series", desc := "(JJJJI)I" } : Jvm.MethodName)) ∈ kb := kb_3 (List.mem_of_getElem? (i := 19) rfl) rfl
theorem kw_500 : (Jvm.Cond.selects "RationalOdes" ({ cls := "RationalOdes", name := "series", desc := "(JJJJI)I" } : Jvm.MethodName) ({ cls := "RationalOdes", name := "series", desc := "(JJJJI)I" } : Jvm.MethodName)) ∈ kb := kb_3 (List.mem_of_getElem? (i := 20) rfl) rfl
theorem kw_501 : (Jvm.Cond.code ({ cls := "RationalOdes", name := "series", desc := "(JJJJI)I" } : Jvm.MethodName) prog_1_method_15_code (11 : Nat) (Option.some Jvm.ClassFile.FieldType.int)) ∈ kb := kb_3 (List.mem_of_getElem? (i := 21) rfl) rfl
theorem kw_519 : (Jvm.Cond.methodLink "RationalOdes" (137 : Nat) ({ cls := "RationalOdes", name := "nextTerm", desc := "(I)J" } : Jvm.MethodName)) ∈ kb := kb_3 (List.mem_of_getElem? (i := 39) rfl) rfl
theorem kw_521 : (Jvm.Cond.instanceMethod ({ cls := "RationalOdes", name := "nextTerm", desc := "(I)J" } : Jvm.MethodName)) ∈ kb := kb_3 (List.mem_of_getElem? (i := 41) rfl) rfl
theorem kw_522 : (Jvm.Cond.code ({ cls := "RationalOdes", name := "nextTerm", desc := "(I)J" } : Jvm.MethodName) prog_1_method_33_code (6 : Nat) (Option.some Jvm.ClassFile.FieldType.long)) ∈ kb := kb_3 (List.mem_of_getElem? (i := 42) rfl) rfl
theorem kw_523 : (Jvm.Cond.methodLink "RationalOdes" (191 : Nat) ({ cls := "RationalOdes", name := "inverse", desc := "(J)J" } : Jvm.MethodName)) ∈ kb := kb_3 (List.mem_of_getElem? (i := 43) rfl) rfl
theorem kw_524 : (Jvm.Cond.classLink "RationalOdesLaw" (66 : Nat) "RationalOdesModel") ∈ kb := kb_3 (List.mem_of_getElem? (i := 44) rfl) rfl
theorem kw_525 : (Jvm.Cond.instantiable "RationalOdesModel" (13 : Nat)) ∈ kb := kb_3 (List.mem_of_getElem? (i := 45) rfl) rfl
theorem kw_526 : (Jvm.Cond.methodLink "RationalOdesLaw" (68 : Nat) ({ cls := "RationalOdesModel", name := "<init>", desc := "(I)V" } : Jvm.MethodName)) ∈ kb := kb_3 (List.mem_of_getElem? (i := 46) rfl) rfl
theorem kw_527 : (Jvm.Cond.instanceMethod ({ cls := "RationalOdesModel", name := "<init>", desc := "(I)V" } : Jvm.MethodName)) ∈ kb := kb_3 (List.mem_of_getElem? (i := 47) rfl) rfl
theorem kw_528 : (Jvm.Cond.code ({ cls := "RationalOdesModel", name := "<init>", desc := "(I)V" } : Jvm.MethodName) prog_5_method_1_code (2 : Nat) (Option.none : Option Jvm.ClassFile.FieldType)) ∈ kb := kb_3 (List.mem_of_getElem? (i := 48) rfl) rfl
theorem kw_529 : (Jvm.Cond.methodLink "RationalOdesModel" (1 : Nat) ({ cls := "java/lang/Object", name := "<init>", desc := "()V" } : Jvm.MethodName)) ∈ kb := kb_3 (List.mem_of_getElem? (i := 49) rfl) rfl
theorem kw_530 : (Jvm.Cond.fieldLink "RationalOdesModel" (42 : Nat) "RationalOdesModel" "code" "I") ∈ kb := kb_3 (List.mem_of_getElem? (i := 50) rfl) rfl
theorem kw_531 : (Jvm.Cond.fieldLink "RationalOdesModel" (38 : Nat) "RationalOdesModel" "order" "I") ∈ kb := kb_3 (List.mem_of_getElem? (i := 51) rfl) rfl
theorem kw_532 : (Jvm.Cond.fieldLink "RationalOdesModel" (7 : Nat) "RationalOdesModel" "factors" "[J") ∈ kb := kb_3 (List.mem_of_getElem? (i := 52) rfl) rfl
theorem kw_533 : (Jvm.Cond.fieldLink "RationalOdesModel" (13 : Nat) "RationalOdesModel" "hand" "[J") ∈ kb := kb_3 (List.mem_of_getElem? (i := 53) rfl) rfl
theorem kw_534 : (Jvm.Cond.fieldLink "RationalOdesModel" (16 : Nat) "RationalOdesModel" "made" "[J") ∈ kb := kb_3 (List.mem_of_getElem? (i := 54) rfl) rfl
theorem kw_535 : (Jvm.Cond.fieldLink "RationalOdesModel" (19 : Nat) "RationalOdesModel" "local" "[J") ∈ kb := kb_3 (List.mem_of_getElem? (i := 55) rfl) rfl
theorem kw_536 : (Jvm.Cond.fieldLink "RationalOdesModel" (96 : Nat) "RationalOdesModel" "level" "I") ∈ kb := kb_3 (List.mem_of_getElem? (i := 56) rfl) rfl
theorem kw_537 : (Jvm.Cond.fieldLink "RationalOdesModel" (22 : Nat) "RationalOdesModel" "table" "[J") ∈ kb := kb_3 (List.mem_of_getElem? (i := 57) rfl) rfl
theorem kw_538 : (Jvm.Cond.fieldLink "RationalOdesModel" (25 : Nat) "RationalOdesModel" "row" "[I") ∈ kb := kb_3 (List.mem_of_getElem? (i := 58) rfl) rfl
theorem kw_539 : (Jvm.Cond.fieldLink "RationalOdesModel" (29 : Nat) "RationalOdesModel" "base" "[J") ∈ kb := kb_3 (List.mem_of_getElem? (i := 59) rfl) rfl
theorem kw_540 : (Jvm.Cond.fieldLink "RationalOdesModel" (111 : Nat) "RationalOdesModel" "many" "I") ∈ kb := kb_3 (List.mem_of_getElem? (i := 60) rfl) rfl
theorem kw_541 : (Jvm.Cond.fieldLink "RationalOdesModel" (32 : Nat) "RationalOdesModel" "numbers" "[J") ∈ kb := kb_3 (List.mem_of_getElem? (i := 61) rfl) rfl
theorem kw_542 : (Jvm.Cond.fieldLink "RationalOdesModel" (35 : Nat) "RationalOdesModel" "turned" "[J") ∈ kb := kb_3 (List.mem_of_getElem? (i := 62) rfl) rfl
theorem kw_543 : (Jvm.Cond.lays "RationalOdesModel" "RationalOdesModel" "code" "I") ∈ kb := kb_3 (List.mem_of_getElem? (i := 63) rfl) rfl
theorem kw_544 : (Jvm.Cond.soleField "RationalOdesModel" "code") ∈ kb := kb_3 (List.mem_of_getElem? (i := 64) rfl) rfl
theorem kw_545 : (Jvm.Cond.laysFinal "RationalOdesModel" "RationalOdesModel" "order" "I") ∈ kb := kb_3 (List.mem_of_getElem? (i := 65) rfl) rfl
theorem kw_546 : (Jvm.Cond.soleField "RationalOdesModel" "order") ∈ kb := kb_3 (List.mem_of_getElem? (i := 66) rfl) rfl
theorem kw_547 : (Jvm.Cond.laysFinal "RationalOdesModel" "RationalOdesModel" "factors" "[J") ∈ kb := kb_3 (List.mem_of_getElem? (i := 67) rfl) rfl
theorem kw_548 : (Jvm.Cond.soleField "RationalOdesModel" "factors") ∈ kb := kb_3 (List.mem_of_getElem? (i := 68) rfl) rfl
theorem kw_549 : (Jvm.Cond.laysFinal "RationalOdesModel" "RationalOdesModel" "hand" "[J") ∈ kb := kb_3 (List.mem_of_getElem? (i := 69) rfl) rfl
theorem kw_550 : (Jvm.Cond.soleField "RationalOdesModel" "hand") ∈ kb := kb_3 (List.mem_of_getElem? (i := 70) rfl) rfl
theorem kw_551 : (Jvm.Cond.laysFinal "RationalOdesModel" "RationalOdesModel" "made" "[J") ∈ kb := kb_3 (List.mem_of_getElem? (i := 71) rfl) rfl
theorem kw_552 : (Jvm.Cond.soleField "RationalOdesModel" "made") ∈ kb := kb_3 (List.mem_of_getElem? (i := 72) rfl) rfl
theorem kw_553 : (Jvm.Cond.laysFinal "RationalOdesModel" "RationalOdesModel" "local" "[J") ∈ kb := kb_3 (List.mem_of_getElem? (i := 73) rfl) rfl
theorem kw_554 : (Jvm.Cond.soleField "RationalOdesModel" "local") ∈ kb := kb_3 (List.mem_of_getElem? (i := 74) rfl) rfl
theorem kw_555 : (Jvm.Cond.lays "RationalOdesModel" "RationalOdesModel" "level" "I") ∈ kb := kb_3 (List.mem_of_getElem? (i := 75) rfl) rfl
theorem kw_556 : (Jvm.Cond.soleField "RationalOdesModel" "level") ∈ kb := kb_3 (List.mem_of_getElem? (i := 76) rfl) rfl
theorem kw_557 : (Jvm.Cond.laysFinal "RationalOdesModel" "RationalOdesModel" "table" "[J") ∈ kb := kb_3 (List.mem_of_getElem? (i := 77) rfl) rfl
theorem kw_558 : (Jvm.Cond.soleField "RationalOdesModel" "table") ∈ kb := kb_3 (List.mem_of_getElem? (i := 78) rfl) rfl
theorem kw_559 : (Jvm.Cond.laysFinal "RationalOdesModel" "RationalOdesModel" "row" "[I") ∈ kb := kb_3 (List.mem_of_getElem? (i := 79) rfl) rfl
theorem kw_560 : (Jvm.Cond.soleField "RationalOdesModel" "row") ∈ kb := kb_3 (List.mem_of_getElem? (i := 80) rfl) rfl
theorem kw_561 : (Jvm.Cond.laysFinal "RationalOdesModel" "RationalOdesModel" "base" "[J") ∈ kb := kb_3 (List.mem_of_getElem? (i := 81) rfl) rfl
theorem kw_562 : (Jvm.Cond.soleField "RationalOdesModel" "base") ∈ kb := kb_3 (List.mem_of_getElem? (i := 82) rfl) rfl
theorem kw_563 : (Jvm.Cond.lays "RationalOdesModel" "RationalOdesModel" "many" "I") ∈ kb := kb_3 (List.mem_of_getElem? (i := 83) rfl) rfl
theorem kw_564 : (Jvm.Cond.soleField "RationalOdesModel" "many") ∈ kb := kb_3 (List.mem_of_getElem? (i := 84) rfl) rfl
theorem kw_565 : (Jvm.Cond.laysFinal "RationalOdesModel" "RationalOdesModel" "numbers" "[J") ∈ kb := kb_3 (List.mem_of_getElem? (i := 85) rfl) rfl
theorem kw_566 : (Jvm.Cond.soleField "RationalOdesModel" "numbers") ∈ kb := kb_3 (List.mem_of_getElem? (i := 86) rfl) rfl
theorem kw_567 : (Jvm.Cond.laysFinal "RationalOdesModel" "RationalOdesModel" "turned" "[J") ∈ kb := kb_3 (List.mem_of_getElem? (i := 87) rfl) rfl
theorem kw_568 : (Jvm.Cond.soleField "RationalOdesModel" "turned") ∈ kb := kb_3 (List.mem_of_getElem? (i := 88) rfl) rfl
theorem kw_569 : (Jvm.Cond.superclass "RationalOdesModel" "java/lang/Object") ∈ kb := kb_3 (List.mem_of_getElem? (i := 89) rfl) rfl
theorem kw_570 : (Jvm.Cond.methodLink "RationalOdesLaw" (75 : Nat) ({ cls := "RationalOdesModel", name := "thrown", desc := "()I" } : Jvm.MethodName)) ∈ kb := kb_3 (List.mem_of_getElem? (i := 90) rfl) rfl
theorem kw_571 : (Jvm.Cond.instanceMethod ({ cls := "RationalOdesModel", name := "thrown", desc := "()I" } : Jvm.MethodName)) ∈ kb := kb_3 (List.mem_of_getElem? (i := 91) rfl) rfl
theorem kw_572 : (Jvm.Cond.selects "RationalOdesModel" ({ cls := "RationalOdesModel", name := "thrown", desc := "()I" } : Jvm.MethodName) ({ cls := "RationalOdesModel", name := "thrown", desc := "()I" } : Jvm.MethodName)) ∈ kb := kb_3 (List.mem_of_getElem? (i := 92) rfl) rfl
theorem kw_573 : (Jvm.Cond.code ({ cls := "RationalOdesModel", name := "thrown", desc := "()I" } : Jvm.MethodName) prog_5_method_2_code (1 : Nat) (Option.some Jvm.ClassFile.FieldType.int)) ∈ kb := kb_3 (List.mem_of_getElem? (i := 93) rfl) rfl
theorem kw_574 : (Jvm.Cond.methodLink "RationalOdesLaw" (74 : Nat) ({ cls := "RationalOdesModel", name := "put", desc := "(IIJ)Z" } : Jvm.MethodName)) ∈ kb := kb_3 (List.mem_of_getElem? (i := 94) rfl) rfl
theorem kw_575 : (Jvm.Cond.instanceMethod ({ cls := "RationalOdesModel", name := "put", desc := "(IIJ)Z" } : Jvm.MethodName)) ∈ kb := kb_3 (List.mem_of_getElem? (i := 95) rfl) rfl
theorem kw_576 : (Jvm.Cond.selects "RationalOdesModel" ({ cls := "RationalOdesModel", name := "put", desc := "(IIJ)Z" } : Jvm.MethodName) ({ cls := "RationalOdesModel", name := "put", desc := "(IIJ)Z" } : Jvm.MethodName)) ∈ kb := kb_3 (List.mem_of_getElem? (i := 96) rfl) rfl
theorem kw_577 : (Jvm.Cond.code ({ cls := "RationalOdesModel", name := "put", desc := "(IIJ)Z" } : Jvm.MethodName) prog_5_method_9_code (6 : Nat) (Option.some Jvm.ClassFile.FieldType.boolean)) ∈ kb := kb_3 (List.mem_of_getElem? (i := 97) rfl) rfl
theorem kw_578 : (Jvm.Cond.methodLink "RationalOdesModel" (57 : Nat) ({ cls := "RationalOdesModel", name := "isThere", desc := "(II)Z" } : Jvm.MethodName)) ∈ kb := kb_3 (List.mem_of_getElem? (i := 98) rfl) rfl
theorem kw_580 : (Jvm.Cond.instanceMethod ({ cls := "RationalOdesModel", name := "isThere", desc := "(II)Z" } : Jvm.MethodName)) ∈ kb := kb_3 (List.mem_of_getElem? (i := 100) rfl) rfl
theorem kw_581 : (Jvm.Cond.code ({ cls := "RationalOdesModel", name := "isThere", desc := "(II)Z" } : Jvm.MethodName) prog_5_method_8_code (3 : Nat) (Option.some Jvm.ClassFile.FieldType.boolean)) ∈ kb := kb_3 (List.mem_of_getElem? (i := 101) rfl) rfl
theorem kw_582 : (Jvm.Cond.methodLink "RationalOdesModel" (51 : Nat) ({ cls := "RationalOdesModel", name := "in", desc := "(JJJ)Z" } : Jvm.MethodName)) ∈ kb := kb_3 (List.mem_of_getElem? (i := 102) rfl) rfl
theorem kw_583 : (Jvm.Cond.static ({ cls := "RationalOdesModel", name := "in", desc := "(JJJ)Z" } : Jvm.MethodName)) ∈ kb := kb_3 (List.mem_of_getElem? (i := 103) rfl) rfl
theorem kw_584 : (Jvm.Cond.code ({ cls := "RationalOdesModel", name := "in", desc := "(JJJ)Z" } : Jvm.MethodName) prog_5_method_4_code (6 : Nat) (Option.some Jvm.ClassFile.FieldType.boolean)) ∈ kb := kb_3 (List.mem_of_getElem? (i := 104) rfl) rfl
theorem kw_585 : (Jvm.Cond.constantLong "RationalOdesModel" (55 : Nat) (4 : Int64)) ∈ kb := kb_3 (List.mem_of_getElem? (i := 105) rfl) rfl
theorem kw_586 : (Jvm.Cond.methodLink "RationalOdesModel" (47 : Nat) ({ cls := "RationalOdesModel", name := "modulo", desc := "(J)J" } : Jvm.MethodName)) ∈ kb := kb_3 (List.mem_of_getElem? (i := 106) rfl) rfl
theorem kw_587 : (Jvm.Cond.static ({ cls := "RationalOdesModel", name := "modulo", desc := "(J)J" } : Jvm.MethodName)) ∈ kb := kb_3 (List.mem_of_getElem? (i := 107) rfl) rfl
theorem kw_588 : (Jvm.Cond.code ({ cls := "RationalOdesModel", name := "modulo", desc := "(J)J" } : Jvm.MethodName) prog_5_method_5_code (4 : Nat) (Option.some Jvm.ClassFile.FieldType.long)) ∈ kb := kb_3 (List.mem_of_getElem? (i := 108) rfl) rfl
theorem kw_589 : (Jvm.Cond.constantLong "RationalOdesModel" (45 : Nat) (32003 : Int64)) ∈ kb := kb_3 (List.mem_of_getElem? (i := 109) rfl) rfl
theorem kw_590 : (Jvm.Cond.methodLink "RationalOdesLaw" (81 : Nat) ({ cls := "RationalOdesModel", name := "at", desc := "(II)I" } : Jvm.MethodName)) ∈ kb := kb_3 (List.mem_of_getElem? (i := 110) rfl) rfl
theorem kw_591 : (Jvm.Cond.instanceMethod ({ cls := "RationalOdesModel", name := "at", desc := "(II)I" } : Jvm.MethodName)) ∈ kb := kb_3 (List.mem_of_getElem? (i := 111) rfl) rfl
theorem kw_592 : (Jvm.Cond.selects "RationalOdesModel" ({ cls := "RationalOdesModel", name := "at", desc := "(II)I" } : Jvm.MethodName) ({ cls := "RationalOdesModel", name := "at", desc := "(II)I" } : Jvm.MethodName)) ∈ kb := kb_3 (List.mem_of_getElem? (i := 112) rfl) rfl
theorem kw_593 : (Jvm.Cond.code ({ cls := "RationalOdesModel", name := "at", desc := "(II)I" } : Jvm.MethodName) prog_5_method_10_code (3 : Nat) (Option.some Jvm.ClassFile.FieldType.int)) ∈ kb := kb_3 (List.mem_of_getElem? (i := 113) rfl) rfl
theorem kw_594 : (Jvm.Cond.methodLink "RationalOdesLaw" (141 : Nat) ({ cls := "RationalOdesModel", name := "clear", desc := "()V" } : Jvm.MethodName)) ∈ kb := kb_3 (List.mem_of_getElem? (i := 114) rfl) rfl
theorem kw_595 : (Jvm.Cond.instanceMethod ({ cls := "RationalOdesModel", name := "clear", desc := "()V" } : Jvm.MethodName)) ∈ kb := kb_3 (List.mem_of_getElem? (i := 115) rfl) rfl
theorem kw_596 : (Jvm.Cond.selects "RationalOdesModel" ({ cls := "RationalOdesModel", name := "clear", desc := "()V" } : Jvm.MethodName) ({ cls := "RationalOdesModel", name := "clear", desc := "()V" } : Jvm.MethodName)) ∈ kb := kb_3 (List.mem_of_getElem? (i := 116) rfl) rfl
theorem kw_597 : (Jvm.Cond.code ({ cls := "RationalOdesModel", name := "clear", desc := "()V" } : Jvm.MethodName) prog_5_method_11_code (2 : Nat) (Option.none : Option Jvm.ClassFile.FieldType)) ∈ kb := kb_3 (List.mem_of_getElem? (i := 117) rfl) rfl
theorem kw_598 : (Jvm.Cond.methodLink "RationalOdesLaw" (137 : Nat) ({ cls := "RationalOdesModel", name := "move", desc := "(J)V" } : Jvm.MethodName)) ∈ kb := kb_3 (List.mem_of_getElem? (i := 118) rfl) rfl
theorem kw_599 : (Jvm.Cond.instanceMethod ({ cls := "RationalOdesModel", name := "move", desc := "(J)V" } : Jvm.MethodName)) ∈ kb := kb_3 (List.mem_of_getElem? (i := 119) rfl) rfl
theorem kw_600 : (Jvm.Cond.selects "RationalOdesModel" ({ cls := "RationalOdesModel", name := "move", desc := "(J)V" } : Jvm.MethodName) ({ cls := "RationalOdesModel", name := "move", desc := "(J)V" } : Jvm.MethodName)) ∈ kb := kb_3 (List.mem_of_getElem? (i := 120) rfl) rfl
theorem kw_601 : (Jvm.Cond.code ({ cls := "RationalOdesModel", name := "move", desc := "(J)V" } : Jvm.MethodName) prog_5_method_13_code (4 : Nat) (Option.none : Option Jvm.ClassFile.FieldType)) ∈ kb := kb_3 (List.mem_of_getElem? (i := 121) rfl) rfl
theorem kw_602 : (Jvm.Cond.methodLink "RationalOdesModel" (61 : Nat) ({ cls := "RationalOdesModel", name := "moveTo", desc := "(J)V" } : Jvm.MethodName)) ∈ kb := kb_3 (List.mem_of_getElem? (i := 122) rfl) rfl
theorem kw_604 : (Jvm.Cond.instanceMethod ({ cls := "RationalOdesModel", name := "moveTo", desc := "(J)V" } : Jvm.MethodName)) ∈ kb := kb_3 (List.mem_of_getElem? (i := 124) rfl) rfl
theorem kw_605 : (Jvm.Cond.code ({ cls := "RationalOdesModel", name := "moveTo", desc := "(J)V" } : Jvm.MethodName) prog_5_method_12_code (6 : Nat) (Option.none : Option Jvm.ClassFile.FieldType)) ∈ kb := kb_3 (List.mem_of_getElem? (i := 125) rfl) rfl
theorem kw_606 : (Jvm.Cond.methodLink "RationalOdesLaw" (132 : Nat) ({ cls := "RationalOdesModel", name := "turn", desc := "()V" } : Jvm.MethodName)) ∈ kb := kb_3 (List.mem_of_getElem? (i := 126) rfl) rfl
theorem kw_607 : (Jvm.Cond.instanceMethod ({ cls := "RationalOdesModel", name := "turn", desc := "()V" } : Jvm.MethodName)) ∈ kb := kb_3 (List.mem_of_getElem? (i := 127) rfl) rfl
theorem kw_608 : (Jvm.Cond.selects "RationalOdesModel" ({ cls := "RationalOdesModel", name := "turn", desc := "()V" } : Jvm.MethodName) ({ cls := "RationalOdesModel", name := "turn", desc := "()V" } : Jvm.MethodName)) ∈ kb := kb_3 (List.mem_of_getElem? (i := 128) rfl) rfl
theorem kw_609 : (Jvm.Cond.code ({ cls := "RationalOdesModel", name := "turn", desc := "()V" } : Jvm.MethodName) prog_5_method_14_code (6 : Nat) (Option.none : Option Jvm.ClassFile.FieldType)) ∈ kb := kb_3 (List.mem_of_getElem? (i := 129) rfl) rfl
theorem kw_610 : (Jvm.Cond.constantLong "RationalOdesModel" (65 : Nat) (-1 : Int64)) ∈ kb := kb_3 (List.mem_of_getElem? (i := 130) rfl) rfl
theorem kw_611 : (Jvm.Cond.methodLink "RationalOdesModel" (67 : Nat) ({ cls := "RationalOdesModel", name := "falling", desc := "(JI)J" } : Jvm.MethodName)) ∈ kb := kb_3 (List.mem_of_getElem? (i := 131) rfl) rfl
theorem kw_612 : (Jvm.Cond.static ({ cls := "RationalOdesModel", name := "falling", desc := "(JI)J" } : Jvm.MethodName)) ∈ kb := kb_3 (List.mem_of_getElem? (i := 132) rfl) rfl
theorem kw_613 : (Jvm.Cond.code ({ cls := "RationalOdesModel", name := "falling", desc := "(JI)J" } : Jvm.MethodName) prog_5_method_7_code (6 : Nat) (Option.some Jvm.ClassFile.FieldType.long)) ∈ kb := kb_3 (List.mem_of_getElem? (i := 133) rfl) rfl
theorem kw_614 : (Jvm.Cond.methodLink "RationalOdesLaw" (85 : Nat) ({ cls := "RationalOdesModel", name := "hand", desc := "(IJ)V" } : Jvm.MethodName)) ∈ kb := kb_3 (List.mem_of_getElem? (i := 134) rfl) rfl
theorem kw_615 : (Jvm.Cond.instanceMethod ({ cls := "RationalOdesModel", name := "hand", desc := "(IJ)V" } : Jvm.MethodName)) ∈ kb := kb_3 (List.mem_of_getElem? (i := 135) rfl) rfl
theorem kw_616 : (Jvm.Cond.selects "RationalOdesModel" ({ cls := "RationalOdesModel", name := "hand", desc := "(IJ)V" } : Jvm.MethodName) ({ cls := "RationalOdesModel", name := "hand", desc := "(IJ)V" } : Jvm.MethodName)) ∈ kb := kb_3 (List.mem_of_getElem? (i := 136) rfl) rfl
theorem kw_617 : (Jvm.Cond.code ({ cls := "RationalOdesModel", name := "hand", desc := "(IJ)V" } : Jvm.MethodName) prog_5_method_15_code (4 : Nat) (Option.none : Option Jvm.ClassFile.FieldType)) ∈ kb := kb_3 (List.mem_of_getElem? (i := 137) rfl) rfl
theorem kw_618 : (Jvm.Cond.constantLong "RationalOdesModel" (71 : Nat) (12 : Int64)) ∈ kb := kb_3 (List.mem_of_getElem? (i := 138) rfl) rfl
theorem kw_619 : (Jvm.Cond.methodLink "RationalOdesLaw" (89 : Nat) ({ cls := "RationalOdesModel", name := "made", desc := "(I)I" } : Jvm.MethodName)) ∈ kb := kb_3 (List.mem_of_getElem? (i := 139) rfl) rfl
theorem kw_620 : (Jvm.Cond.instanceMethod ({ cls := "RationalOdesModel", name := "made", desc := "(I)I" } : Jvm.MethodName)) ∈ kb := kb_3 (List.mem_of_getElem? (i := 140) rfl) rfl
theorem kw_621 : (Jvm.Cond.selects "RationalOdesModel" ({ cls := "RationalOdesModel", name := "made", desc := "(I)I" } : Jvm.MethodName) ({ cls := "RationalOdesModel", name := "made", desc := "(I)I" } : Jvm.MethodName)) ∈ kb := kb_3 (List.mem_of_getElem? (i := 141) rfl) rfl
theorem kw_622 : (Jvm.Cond.code ({ cls := "RationalOdesModel", name := "made", desc := "(I)I" } : Jvm.MethodName) prog_5_method_18_code (2 : Nat) (Option.some Jvm.ClassFile.FieldType.int)) ∈ kb := kb_3 (List.mem_of_getElem? (i := 142) rfl) rfl
theorem kw_623 : (Jvm.Cond.methodLink "RationalOdesModel" (77 : Nat) ({ cls := "RationalOdesModel", name := "makeAll", desc := "()V" } : Jvm.MethodName)) ∈ kb := kb_3 (List.mem_of_getElem? (i := 143) rfl) rfl
theorem kw_625 : (Jvm.Cond.instanceMethod ({ cls := "RationalOdesModel", name := "makeAll", desc := "()V" } : Jvm.MethodName)) ∈ kb := kb_3 (List.mem_of_getElem? (i := 145) rfl) rfl
theorem kw_626 : (Jvm.Cond.code ({ cls := "RationalOdesModel", name := "makeAll", desc := "()V" } : Jvm.MethodName) prog_5_method_17_code (2 : Nat) (Option.none : Option Jvm.ClassFile.FieldType)) ∈ kb := kb_3 (List.mem_of_getElem? (i := 146) rfl) rfl
theorem kw_627 : (Jvm.Cond.methodLink "RationalOdesModel" (73 : Nat) ({ cls := "RationalOdesModel", name := "make", desc := "(IJ)V" } : Jvm.MethodName)) ∈ kb := kb_3 (List.mem_of_getElem? (i := 147) rfl) rfl
theorem kw_629 : (Jvm.Cond.instanceMethod ({ cls := "RationalOdesModel", name := "make", desc := "(IJ)V" } : Jvm.MethodName)) ∈ kb := kb_3 (List.mem_of_getElem? (i := 149) rfl) rfl
theorem kw_630 : (Jvm.Cond.code ({ cls := "RationalOdesModel", name := "make", desc := "(IJ)V" } : Jvm.MethodName) prog_5_method_16_code (8 : Nat) (Option.none : Option Jvm.ClassFile.FieldType)) ∈ kb := kb_3 (List.mem_of_getElem? (i := 150) rfl) rfl
theorem kw_631 : (Jvm.Cond.constantLong "RationalOdesModel" (80 : Nat) (16 : Int64)) ∈ kb := kb_3 (List.mem_of_getElem? (i := 151) rfl) rfl
theorem kw_632 : (Jvm.Cond.methodLink "RationalOdesLaw" (120 : Nat) ({ cls := "RationalOdesModel", name := "solves", desc := "()Z" } : Jvm.MethodName)) ∈ kb := kb_3 (List.mem_of_getElem? (i := 152) rfl) rfl
theorem kw_633 : (Jvm.Cond.instanceMethod ({ cls := "RationalOdesModel", name := "solves", desc := "()Z" } : Jvm.MethodName)) ∈ kb := kb_3 (List.mem_of_getElem? (i := 153) rfl) rfl
theorem kw_634 : (Jvm.Cond.selects "RationalOdesModel" ({ cls := "RationalOdesModel", name := "solves", desc := "()Z" } : Jvm.MethodName) ({ cls := "RationalOdesModel", name := "solves", desc := "()Z" } : Jvm.MethodName)) ∈ kb := kb_3 (List.mem_of_getElem? (i := 154) rfl) rfl
theorem kw_635 : (Jvm.Cond.code ({ cls := "RationalOdesModel", name := "solves", desc := "()Z" } : Jvm.MethodName) prog_5_method_19_code (3 : Nat) (Option.some Jvm.ClassFile.FieldType.boolean)) ∈ kb := kb_3 (List.mem_of_getElem? (i := 155) rfl) rfl
theorem kw_636 : (Jvm.Cond.methodLink "RationalOdesLaw" (93 : Nat) ({ cls := "RationalOdesModel", name := "places", desc := "()I" } : Jvm.MethodName)) ∈ kb := kb_3 (List.mem_of_getElem? (i := 156) rfl) rfl
theorem kw_637 : (Jvm.Cond.instanceMethod ({ cls := "RationalOdesModel", name := "places", desc := "()I" } : Jvm.MethodName)) ∈ kb := kb_3 (List.mem_of_getElem? (i := 157) rfl) rfl
theorem kw_638 : (Jvm.Cond.selects "RationalOdesModel" ({ cls := "RationalOdesModel", name := "places", desc := "()I" } : Jvm.MethodName) ({ cls := "RationalOdesModel", name := "places", desc := "()I" } : Jvm.MethodName)) ∈ kb := kb_3 (List.mem_of_getElem? (i := 158) rfl) rfl
theorem kw_639 : (Jvm.Cond.code ({ cls := "RationalOdesModel", name := "places", desc := "()I" } : Jvm.MethodName) prog_5_method_23_code (1 : Nat) (Option.some Jvm.ClassFile.FieldType.int)) ∈ kb := kb_3 (List.mem_of_getElem? (i := 159) rfl) rfl
theorem kw_640 : (Jvm.Cond.methodLink "RationalOdesModel" (85 : Nat) ({ cls := "RationalOdesModel", name := "hasHead", desc := "()Z" } : Jvm.MethodName)) ∈ kb := kb_3 (List.mem_of_getElem? (i := 160) rfl) rfl
theorem kw_642 : (Jvm.Cond.instanceMethod ({ cls := "RationalOdesModel", name := "hasHead", desc := "()Z" } : Jvm.MethodName)) ∈ kb := kb_3 (List.mem_of_getElem? (i := 162) rfl) rfl
theorem kw_643 : (Jvm.Cond.code ({ cls := "RationalOdesModel", name := "hasHead", desc := "()Z" } : Jvm.MethodName) prog_5_method_20_code (3 : Nat) (Option.some Jvm.ClassFile.FieldType.boolean)) ∈ kb := kb_3 (List.mem_of_getElem? (i := 163) rfl) rfl
theorem kw_644 : (Jvm.Cond.methodLink "RationalOdesModel" (89 : Nat) ({ cls := "RationalOdesModel", name := "find", desc := "(I)I" } : Jvm.MethodName)) ∈ kb := kb_3 (List.mem_of_getElem? (i := 164) rfl) rfl
theorem kw_646 : (Jvm.Cond.instanceMethod ({ cls := "RationalOdesModel", name := "find", desc := "(I)I" } : Jvm.MethodName)) ∈ kb := kb_3 (List.mem_of_getElem? (i := 166) rfl) rfl
theorem kw_647 : (Jvm.Cond.code ({ cls := "RationalOdesModel", name := "find", desc := "(I)I" } : Jvm.MethodName) prog_5_method_22_code (4 : Nat) (Option.some Jvm.ClassFile.FieldType.int)) ∈ kb := kb_3 (List.mem_of_getElem? (i := 167) rfl) rfl
theorem kw_648 : (Jvm.Cond.methodLink "RationalOdesModel" (82 : Nat) ({ cls := "RationalOdesModel", name := "headAt", desc := "(J)J" } : Jvm.MethodName)) ∈ kb := kb_3 (List.mem_of_getElem? (i := 168) rfl) rfl
theorem kw_650 : (Jvm.Cond.instanceMethod ({ cls := "RationalOdesModel", name := "headAt", desc := "(J)J" } : Jvm.MethodName)) ∈ kb := kb_3 (List.mem_of_getElem? (i := 170) rfl) rfl
theorem kw_651 : (Jvm.Cond.code ({ cls := "RationalOdesModel", name := "headAt", desc := "(J)J" } : Jvm.MethodName) prog_5_method_21_code (6 : Nat) (Option.some Jvm.ClassFile.FieldType.long)) ∈ kb := kb_3 (List.mem_of_getElem? (i := 171) rfl) rfl
theorem kw_652 : (Jvm.Cond.methodLink "RationalOdesLaw" (97 : Nat) ({ cls := "RationalOdesModel", name := "place", desc := "(I)I" } : Jvm.MethodName)) ∈ kb := kb_3 (List.mem_of_getElem? (i := 172) rfl) rfl
theorem kw_653 : (Jvm.Cond.instanceMethod ({ cls := "RationalOdesModel", name := "place", desc := "(I)I" } : Jvm.MethodName)) ∈ kb := kb_3 (List.mem_of_getElem? (i := 173) rfl) rfl
theorem kw_654 : (Jvm.Cond.selects "RationalOdesModel" ({ cls := "RationalOdesModel", name := "place", desc := "(I)I" } : Jvm.MethodName) ({ cls := "RationalOdesModel", name := "place", desc := "(I)I" } : Jvm.MethodName)) ∈ kb := kb_3 (List.mem_of_getElem? (i := 174) rfl) rfl
theorem kw_655 : (Jvm.Cond.code ({ cls := "RationalOdesModel", name := "place", desc := "(I)I" } : Jvm.MethodName) prog_5_method_24_code (3 : Nat) (Option.some Jvm.ClassFile.FieldType.int)) ∈ kb := kb_3 (List.mem_of_getElem? (i := 175) rfl) rfl
theorem kw_656 : (Jvm.Cond.methodLink "RationalOdesModel" (93 : Nat) ({ cls := "RationalOdesModel", name := "raise", desc := "(I)I" } : Jvm.MethodName)) ∈ kb := kb_3 (List.mem_of_getElem? (i := 176) rfl) rfl
theorem kw_658 : (Jvm.Cond.instanceMethod ({ cls := "RationalOdesModel", name := "raise", desc := "(I)I" } : Jvm.MethodName)) ∈ kb := kb_3 (List.mem_of_getElem? (i := 178) rfl) rfl
theorem kw_659 : (Jvm.Cond.code ({ cls := "RationalOdesModel", name := "raise", desc := "(I)I" } : Jvm.MethodName) prog_5_method_3_code (2 : Nat) (Option.some Jvm.ClassFile.FieldType.int)) ∈ kb := kb_3 (List.mem_of_getElem? (i := 179) rfl) rfl
theorem kw_660 : (Jvm.Cond.methodLink "RationalOdesLaw" (101 : Nat) ({ cls := "RationalOdesModel", name := "level", desc := "(ZJ)I" } : Jvm.MethodName)) ∈ kb := kb_3 (List.mem_of_getElem? (i := 180) rfl) rfl
theorem kw_661 : (Jvm.Cond.instanceMethod ({ cls := "RationalOdesModel", name := "level", desc := "(ZJ)I" } : Jvm.MethodName)) ∈ kb := kb_3 (List.mem_of_getElem? (i := 181) rfl) rfl
theorem kw_662 : (Jvm.Cond.selects "RationalOdesModel" ({ cls := "RationalOdesModel", name := "level", desc := "(ZJ)I" } : Jvm.MethodName) ({ cls := "RationalOdesModel", name := "level", desc := "(ZJ)I" } : Jvm.MethodName)) ∈ kb := kb_3 (List.mem_of_getElem? (i := 182) rfl) rfl
theorem kw_663 : (Jvm.Cond.code ({ cls := "RationalOdesModel", name := "level", desc := "(ZJ)I" } : Jvm.MethodName) prog_5_method_26_code (4 : Nat) (Option.some Jvm.ClassFile.FieldType.int)) ∈ kb := kb_3 (List.mem_of_getElem? (i := 183) rfl) rfl
theorem kw_664 : (Jvm.Cond.methodLink "RationalOdesModel" (99 : Nat) ({ cls := "RationalOdesModel", name := "findLevel", desc := "(ZJ)Z" } : Jvm.MethodName)) ∈ kb := kb_3 (List.mem_of_getElem? (i := 184) rfl) rfl
theorem kw_666 : (Jvm.Cond.instanceMethod ({ cls := "RationalOdesModel", name := "findLevel", desc := "(ZJ)Z" } : Jvm.MethodName)) ∈ kb := kb_3 (List.mem_of_getElem? (i := 186) rfl) rfl
theorem kw_667 : (Jvm.Cond.code ({ cls := "RationalOdesModel", name := "findLevel", desc := "(ZJ)Z" } : Jvm.MethodName) prog_5_method_25_code (7 : Nat) (Option.some Jvm.ClassFile.FieldType.boolean)) ∈ kb := kb_3 (List.mem_of_getElem? (i := 187) rfl) rfl
theorem kw_668 : (Jvm.Cond.methodLink "RationalOdesLaw" (104 : Nat) ({ cls := "RationalOdesModel", name := "regular", desc := "(ZJ)Z" } : Jvm.MethodName)) ∈ kb := kb_3 (List.mem_of_getElem? (i := 188) rfl) rfl
theorem kw_669 : (Jvm.Cond.instanceMethod ({ cls := "RationalOdesModel", name := "regular", desc := "(ZJ)Z" } : Jvm.MethodName)) ∈ kb := kb_3 (List.mem_of_getElem? (i := 189) rfl) rfl
theorem kw_670 : (Jvm.Cond.selects "RationalOdesModel" ({ cls := "RationalOdesModel", name := "regular", desc := "(ZJ)Z" } : Jvm.MethodName) ({ cls := "RationalOdesModel", name := "regular", desc := "(ZJ)Z" } : Jvm.MethodName)) ∈ kb := kb_3 (List.mem_of_getElem? (i := 190) rfl) rfl
theorem kw_671 : (Jvm.Cond.code ({ cls := "RationalOdesModel", name := "regular", desc := "(ZJ)Z" } : Jvm.MethodName) prog_5_method_28_code (4 : Nat) (Option.some Jvm.ClassFile.FieldType.boolean)) ∈ kb := kb_3 (List.mem_of_getElem? (i := 191) rfl) rfl
theorem kw_672 : (Jvm.Cond.methodLink "RationalOdesModel" (103 : Nat) ({ cls := "RationalOdesModel", name := "localAt", desc := "(I)J" } : Jvm.MethodName)) ∈ kb := kb_3 (List.mem_of_getElem? (i := 192) rfl) rfl
theorem kw_674 : (Jvm.Cond.instanceMethod ({ cls := "RationalOdesModel", name := "localAt", desc := "(I)J" } : Jvm.MethodName)) ∈ kb := kb_3 (List.mem_of_getElem? (i := 194) rfl) rfl
theorem kw_675 : (Jvm.Cond.code ({ cls := "RationalOdesModel", name := "localAt", desc := "(I)J" } : Jvm.MethodName) prog_5_method_27_code (2 : Nat) (Option.some Jvm.ClassFile.FieldType.long)) ∈ kb := kb_3 (List.mem_of_getElem? (i := 195) rfl) rfl
theorem kw_676 : (Jvm.Cond.methodLink "RationalOdesLaw" (108 : Nat) ({ cls := "RationalOdesModel", name := "exponent", desc := "(ZJI)I" } : Jvm.MethodName)) ∈ kb := kb_3 (List.mem_of_getElem? (i := 196) rfl) rfl
theorem kw_677 : (Jvm.Cond.instanceMethod ({ cls := "RationalOdesModel", name := "exponent", desc := "(ZJI)I" } : Jvm.MethodName)) ∈ kb := kb_3 (List.mem_of_getElem? (i := 197) rfl) rfl
theorem kw_678 : (Jvm.Cond.selects "RationalOdesModel" ({ cls := "RationalOdesModel", name := "exponent", desc := "(ZJI)I" } : Jvm.MethodName) ({ cls := "RationalOdesModel", name := "exponent", desc := "(ZJI)I" } : Jvm.MethodName)) ∈ kb := kb_3 (List.mem_of_getElem? (i := 198) rfl) rfl
theorem kw_679 : (Jvm.Cond.code ({ cls := "RationalOdesModel", name := "exponent", desc := "(ZJI)I" } : Jvm.MethodName) prog_5_method_29_code (10 : Nat) (Option.some Jvm.ClassFile.FieldType.int)) ∈ kb := kb_3 (List.mem_of_getElem? (i := 199) rfl) rfl
theorem kw_680 : (Jvm.Cond.methodLink "RationalOdesLaw" (112 : Nat) ({ cls := "RationalOdesModel", name := "answers", desc := "()I" } : Jvm.MethodName)) ∈ kb := kb_3 (List.mem_of_getElem? (i := 200) rfl) rfl
theorem kw_681 : (Jvm.Cond.instanceMethod ({ cls := "RationalOdesModel", name := "answers", desc := "()I" } : Jvm.MethodName)) ∈ kb := kb_3 (List.mem_of_getElem? (i := 201) rfl) rfl
theorem kw_682 : (Jvm.Cond.selects "RationalOdesModel" ({ cls := "RationalOdesModel", name := "answers", desc := "()I" } : Jvm.MethodName) ({ cls := "RationalOdesModel", name := "answers", desc := "()I" } : Jvm.MethodName)) ∈ kb := kb_3 (List.mem_of_getElem? (i := 202) rfl) rfl
theorem kw_683 : (Jvm.Cond.code ({ cls := "RationalOdesModel", name := "answers", desc := "()I" } : Jvm.MethodName) prog_5_method_32_code (1 : Nat) (Option.some Jvm.ClassFile.FieldType.int)) ∈ kb := kb_3 (List.mem_of_getElem? (i := 203) rfl) rfl
theorem kw_684 : (Jvm.Cond.methodLink "RationalOdesModel" (117 : Nat) ({ cls := "RationalOdesModel", name := "findAnswers", desc := "()V" } : Jvm.MethodName)) ∈ kb := kb_3 (List.mem_of_getElem? (i := 204) rfl) rfl
theorem kw_686 : (Jvm.Cond.instanceMethod ({ cls := "RationalOdesModel", name := "findAnswers", desc := "()V" } : Jvm.MethodName)) ∈ kb := kb_3 (List.mem_of_getElem? (i := 206) rfl) rfl
theorem kw_687 : (Jvm.Cond.code ({ cls := "RationalOdesModel", name := "findAnswers", desc := "()V" } : Jvm.MethodName) prog_5_method_30_code (4 : Nat) (Option.none : Option Jvm.ClassFile.FieldType)) ∈ kb := kb_3 (List.mem_of_getElem? (i := 207) rfl) rfl
theorem kw_688 : (Jvm.Cond.methodLink "RationalOdesModel" (107 : Nat) ({ cls := "RationalOdesModel", name := "bringOut", desc := "(III)V" } : Jvm.MethodName)) ∈ kb := kb_3 (List.mem_of_getElem? (i := 208) rfl) rfl
theorem kw_690 : (Jvm.Cond.instanceMethod ({ cls := "RationalOdesModel", name := "bringOut", desc := "(III)V" } : Jvm.MethodName)) ∈ kb := kb_3 (List.mem_of_getElem? (i := 210) rfl) rfl
theorem kw_691 : (Jvm.Cond.code ({ cls := "RationalOdesModel", name := "bringOut", desc := "(III)V" } : Jvm.MethodName) prog_5_method_31_code (10 : Nat) (Option.none : Option Jvm.ClassFile.FieldType)) ∈ kb := kb_3 (List.mem_of_getElem? (i := 211) rfl) rfl
theorem kw_692 : (Jvm.Cond.methodLink "RationalOdesModel" (114 : Nat) ({ cls := "RationalOdesModel", name := "inverse", desc := "(J)J" } : Jvm.MethodName)) ∈ kb := kb_3 (List.mem_of_getElem? (i := 212) rfl) rfl
theorem kw_693 : (Jvm.Cond.static ({ cls := "RationalOdesModel", name := "inverse", desc := "(J)J" } : Jvm.MethodName)) ∈ kb := kb_3 (List.mem_of_getElem? (i := 213) rfl) rfl
theorem kw_694 : (Jvm.Cond.code ({ cls := "RationalOdesModel", name := "inverse", desc := "(J)J" } : Jvm.MethodName) prog_5_method_6_code (7 : Nat) (Option.some Jvm.ClassFile.FieldType.long)) ∈ kb := kb_3 (List.mem_of_getElem? (i := 214) rfl) rfl
theorem kw_695 : (Jvm.Cond.methodLink "RationalOdesLaw" (115 : Nat) ({ cls := "RationalOdesModel", name := "answer", desc := "(II)I" } : Jvm.MethodName)) ∈ kb := kb_3 (List.mem_of_getElem? (i := 215) rfl) rfl
theorem kw_696 : (Jvm.Cond.instanceMethod ({ cls := "RationalOdesModel", name := "answer", desc := "(II)I" } : Jvm.MethodName)) ∈ kb := kb_3 (List.mem_of_getElem? (i := 216) rfl) rfl
theorem kw_697 : (Jvm.Cond.selects "RationalOdesModel" ({ cls := "RationalOdesModel", name := "answer", desc := "(II)I" } : Jvm.MethodName) ({ cls := "RationalOdesModel", name := "answer", desc := "(II)I" } : Jvm.MethodName)) ∈ kb := kb_3 (List.mem_of_getElem? (i := 217) rfl) rfl
theorem kw_698 : (Jvm.Cond.code ({ cls := "RationalOdesModel", name := "answer", desc := "(II)I" } : Jvm.MethodName) prog_5_method_34_code (3 : Nat) (Option.some Jvm.ClassFile.FieldType.int)) ∈ kb := kb_3 (List.mem_of_getElem? (i := 218) rfl) rfl
theorem kw_699 : (Jvm.Cond.methodLink "RationalOdesModel" (120 : Nat) ({ cls := "RationalOdesModel", name := "isMember", desc := "(II)Z" } : Jvm.MethodName)) ∈ kb := kb_3 (List.mem_of_getElem? (i := 219) rfl) rfl
theorem kw_701 : (Jvm.Cond.instanceMethod ({ cls := "RationalOdesModel", name := "isMember", desc := "(II)Z" } : Jvm.MethodName)) ∈ kb := kb_3 (List.mem_of_getElem? (i := 221) rfl) rfl
theorem kw_702 : (Jvm.Cond.code ({ cls := "RationalOdesModel", name := "isMember", desc := "(II)Z" } : Jvm.MethodName) prog_5_method_33_code (3 : Nat) (Option.some Jvm.ClassFile.FieldType.boolean)) ∈ kb := kb_3 (List.mem_of_getElem? (i := 222) rfl) rfl
theorem kw_703 : (Jvm.Cond.methodLink "RationalOdesLaw" (124 : Nat) ({ cls := "RationalOdesModel", name := "take", desc := "(I)V" } : Jvm.MethodName)) ∈ kb := kb_3 (List.mem_of_getElem? (i := 223) rfl) rfl
theorem kw_704 : (Jvm.Cond.instanceMethod ({ cls := "RationalOdesModel", name := "take", desc := "(I)V" } : Jvm.MethodName)) ∈ kb := kb_3 (List.mem_of_getElem? (i := 224) rfl) rfl
theorem kw_705 : (Jvm.Cond.selects "RationalOdesModel" ({ cls := "RationalOdesModel", name := "take", desc := "(I)V" } : Jvm.MethodName) ({ cls := "RationalOdesModel", name := "take", desc := "(I)V" } : Jvm.MethodName)) ∈ kb := kb_3 (List.mem_of_getElem? (i := 225) rfl) rfl
theorem kw_706 : (Jvm.Cond.code ({ cls := "RationalOdesModel", name := "take", desc := "(I)V" } : Jvm.MethodName) prog_5_method_35_code (3 : Nat) (Option.none : Option Jvm.ClassFile.FieldType)) ∈ kb := kb_3 (List.mem_of_getElem? (i := 226) rfl) rfl
theorem kw_707 : (Jvm.Cond.methodLink "RationalOdesLaw" (128 : Nat) ({ cls := "RationalOdesModel", name := "series", desc := "(JJJJI)I" } : Jvm.MethodName)) ∈ kb := kb_3 (List.mem_of_getElem? (i := 227) rfl) rfl
theorem kw_708 : (Jvm.Cond.instanceMethod ({ cls := "RationalOdesModel", name := "series", desc := "(JJJJI)I" } : Jvm.MethodName)) ∈ kb := kb_3 (List.mem_of_getElem? (i := 228) rfl) rfl
theorem kw_709 : (Jvm.Cond.selects "RationalOdesModel" ({ cls := "RationalOdesModel", name := "series", desc := "(JJJJI)I" } : Jvm.MethodName) ({ cls := "RationalOdesModel", name := "series", desc := "(JJJJI)I" } : Jvm.MethodName)) ∈ kb := kb_3 (List.mem_of_getElem? (i := 229) rfl) rfl
theorem kw_710 : (Jvm.Cond.code ({ cls := "RationalOdesModel", name := "series", desc := "(JJJJI)I" } : Jvm.MethodName) prog_5_method_36_code (16 : Nat) (Option.some Jvm.ClassFile.FieldType.int)) ∈ kb := kb_3 (List.mem_of_getElem? (i := 230) rfl) rfl
theorem kw_711 : (Jvm.Cond.constantLong "RationalOdesModel" (123 : Nat) (30 : Int64)) ∈ kb := kb_3 (List.mem_of_getElem? (i := 231) rfl) rfl
theorem kw_712 : (Jvm.Cond.constantLong "RationalOdesLaw" (69 : Nat) (4294967295 : Int64)) ∈ kb := kb_3 (List.mem_of_getElem? (i := 232) rfl) rfl
theorem ks_O_madeAt : Cond.selects R_O y_O_madeAt y_O_madeAt ∈ kb := kb_s (List.mem_of_getElem? (i := 0) rfl) rfl
theorem ks_O_share : Cond.selects R_O y_O_share y_O_share ∈ kb := kb_s (List.mem_of_getElem? (i := 1) rfl) rfl
theorem ks_O_knowBase : Cond.selects R_O y_O_knowBase y_O_knowBase ∈ kb := kb_s (List.mem_of_getElem? (i := 2) rfl) rfl
theorem ks_B_reduceRows : Cond.selects R_B y_B_reduceRows y_B_reduceRows ∈ kb := kb_s (List.mem_of_getElem? (i := 3) rfl) rfl
theorem ks_B_rowWith : Cond.selects R_B y_B_rowWith y_B_rowWith ∈ kb := kb_s (List.mem_of_getElem? (i := 4) rfl) rfl
theorem ks_B_swap : Cond.selects R_B y_B_swap y_B_swap ∈ kb := kb_s (List.mem_of_getElem? (i := 5) rfl) rfl
theorem ks_B_scaleRow : Cond.selects R_B y_B_scaleRow y_B_scaleRow ∈ kb := kb_s (List.mem_of_getElem? (i := 6) rfl) rfl
theorem ks_B_clearColumn : Cond.selects R_B y_B_clearColumn y_B_clearColumn ∈ kb := kb_s (List.mem_of_getElem? (i := 7) rfl) rfl
theorem ks_B_fillMember : Cond.selects R_B y_B_fillMember y_B_fillMember ∈ kb := kb_s (List.mem_of_getElem? (i := 8) rfl) rfl
theorem ks_O_adjointAt : Cond.selects R_O y_O_adjointAt y_O_adjointAt ∈ kb := kb_s (List.mem_of_getElem? (i := 9) rfl) rfl
theorem ks_O_needFactorPower : Cond.selects R_O y_O_needFactorPower y_O_needFactorPower ∈ kb := kb_s (List.mem_of_getElem? (i := 10) rfl) rfl
theorem ks_O_needHandPower : Cond.selects R_O y_O_needHandPower y_O_needHandPower ∈ kb := kb_s (List.mem_of_getElem? (i := 12) rfl) rfl
theorem ks_O_findPlaces : Cond.selects R_O y_O_findPlaces y_O_findPlaces ∈ kb := kb_s (List.mem_of_getElem? (i := 13) rfl) rfl
theorem ks_R_keepRootsOnce : Cond.selects R_R y_R_keepRootsOnce y_R_keepRootsOnce ∈ kb := kb_s (List.mem_of_getElem? (i := 14) rfl) rfl
theorem ks_R_raise : Cond.selects R_R y_R_raise y_R_raise ∈ kb := kb_s (List.mem_of_getElem? (i := 15) rfl) rfl
theorem ks_R_squareRaised : Cond.selects R_R y_R_squareRaised y_R_squareRaised ∈ kb := kb_s (List.mem_of_getElem? (i := 16) rfl) rfl
theorem ks_R_timesLine : Cond.selects R_R y_R_timesLine y_R_timesLine ∈ kb := kb_s (List.mem_of_getElem? (i := 17) rfl) rfl
theorem ks_R_commonWithRaised : Cond.selects R_R y_R_commonWithRaised y_R_commonWithRaised ∈ kb := kb_s (List.mem_of_getElem? (i := 18) rfl) rfl
theorem ks_R_oneRoot : Cond.selects R_R y_R_oneRoot y_R_oneRoot ∈ kb := kb_s (List.mem_of_getElem? (i := 19) rfl) rfl
theorem ks_R_insert : Cond.selects R_R y_R_insert y_R_insert ∈ kb := kb_s (List.mem_of_getElem? (i := 20) rfl) rfl
theorem ks_R_divideOut : Cond.selects R_R y_R_divideOut y_R_divideOut ∈ kb := kb_s (List.mem_of_getElem? (i := 21) rfl) rfl
theorem ks_O_goTo : Cond.selects R_O y_O_goTo y_O_goTo ∈ kb := kb_s (List.mem_of_getElem? (i := 22) rfl) rfl
theorem ks_O_allZero : Cond.selects R_O y_O_allZero y_O_allZero ∈ kb := kb_s (List.mem_of_getElem? (i := 23) rfl) rfl
theorem ks_O_shiftToOther : Cond.selects R_O y_O_shiftToOther y_O_shiftToOther ∈ kb := kb_s (List.mem_of_getElem? (i := 24) rfl) rfl
theorem ks_O_greatestGap : Cond.selects R_O y_O_greatestGap y_O_greatestGap ∈ kb := kb_s (List.mem_of_getElem? (i := 25) rfl) rfl
theorem ks_O_isGap : Cond.selects R_O y_O_isGap y_O_isGap ∈ kb := kb_s (List.mem_of_getElem? (i := 26) rfl) rfl
theorem ks_O_otherAt : Cond.selects R_O y_O_otherAt y_O_otherAt ∈ kb := kb_s (List.mem_of_getElem? (i := 27) rfl) rfl
theorem ks_O_leastGap : Cond.selects R_O y_O_leastGap y_O_leastGap ∈ kb := kb_s (List.mem_of_getElem? (i := 28) rfl) rfl
theorem ks_O_fillIndicial : Cond.selects R_O y_O_fillIndicial y_O_fillIndicial ∈ kb := kb_s (List.mem_of_getElem? (i := 29) rfl) rfl
theorem ks_O_needMember : Cond.selects R_O y_O_needMember y_O_needMember ∈ kb := kb_s (List.mem_of_getElem? (i := 30) rfl) rfl
theorem ks_O_nextTerm : Cond.selects R_O y_O_nextTerm y_O_nextTerm ∈ kb := kb_s (List.mem_of_getElem? (i := 31) rfl) rfl
theorem ks_M_isThere : Cond.selects R_M y_M_isThere y_M_isThere ∈ kb := kb_s (List.mem_of_getElem? (i := 32) rfl) rfl
theorem ks_M_moveTo : Cond.selects R_M y_M_moveTo y_M_moveTo ∈ kb := kb_s (List.mem_of_getElem? (i := 33) rfl) rfl
theorem ks_M_makeAll : Cond.selects R_M y_M_makeAll y_M_makeAll ∈ kb := kb_s (List.mem_of_getElem? (i := 34) rfl) rfl
theorem ks_M_make : Cond.selects R_M y_M_make y_M_make ∈ kb := kb_s (List.mem_of_getElem? (i := 35) rfl) rfl
theorem ks_M_hasHead : Cond.selects R_M y_M_hasHead y_M_hasHead ∈ kb := kb_s (List.mem_of_getElem? (i := 36) rfl) rfl
theorem ks_M_find : Cond.selects R_M y_M_find y_M_find ∈ kb := kb_s (List.mem_of_getElem? (i := 37) rfl) rfl
theorem ks_M_headAt : Cond.selects R_M y_M_headAt y_M_headAt ∈ kb := kb_s (List.mem_of_getElem? (i := 38) rfl) rfl
theorem ks_M_raise : Cond.selects R_M y_M_raise y_M_raise ∈ kb := kb_s (List.mem_of_getElem? (i := 39) rfl) rfl
theorem ks_M_findLevel : Cond.selects R_M y_M_findLevel y_M_findLevel ∈ kb := kb_s (List.mem_of_getElem? (i := 40) rfl) rfl
theorem ks_M_localAt : Cond.selects R_M y_M_localAt y_M_localAt ∈ kb := kb_s (List.mem_of_getElem? (i := 41) rfl) rfl
theorem ks_M_findAnswers : Cond.selects R_M y_M_findAnswers y_M_findAnswers ∈ kb := kb_s (List.mem_of_getElem? (i := 42) rfl) rfl
theorem ks_M_bringOut : Cond.selects R_M y_M_bringOut y_M_bringOut ∈ kb := kb_s (List.mem_of_getElem? (i := 43) rfl) rfl
theorem ks_M_isMember : Cond.selects R_M y_M_isMember y_M_isMember ∈ kb := kb_s (List.mem_of_getElem? (i := 44) rfl) rfl
end
section
/-! ROWS OF MY OWN over the kit: worlds whose cells keep their places; calls that make no cell -/
def rc_A (w : va_W) : Nat → Prop := fun q => ∃ (k : Nat) (e : va_E), w[k]? = some (q, e)
def rc_set : va_W → List Nat → va_W → va_W
  | w, i :: is, c :: cs => rc_set (w.set i c) is cs
  | w, _, _ => w
theorem rc_set_get : ∀ (is : List Nat) (cs w : va_W), is.length = cs.length → ∀ (k : Nat) (q : Nat × va_E), (rc_set w is cs)[k]? = some q → (∃ j : Nat, is[j]? = some k ∧ cs[j]? = some q) ∨ (k ∉ is ∧ w[k]? = some q)
  | [], [], w, _, k, q, h => Or.inr ⟨List.not_mem_nil, h⟩
  | [], c :: cs, w, hl, k, q, h => absurd hl (by simp)
  | i :: is, [], w, hl, k, q, h => absurd hl (by simp)
  | i :: is, c :: cs, w, hl, k, q, h => by
    rcases rc_set_get is cs (w.set i c) (by simpa using hl) k q h with ⟨j, h1, h2⟩ | ⟨h1, h2⟩
    · exact Or.inl ⟨j + 1, by simpa using h1, by simpa using h2⟩
    · by_cases hk : i = k
      · subst hk
        refine Or.inl ⟨0, by simp, ?_⟩
        rw [List.getElem?_set] at h2
        by_cases hi : i < w.length
        · simp [hi] at h2
          simp [h2]
        · simp [hi] at h2
      · rw [List.getElem?_set_ne hk] at h2
        refine Or.inr ⟨fun hm => ?_, h2⟩
        rcases List.mem_cons.mp hm with z | z
        · exact hk z.symm
        · exact h1 z
theorem rc_set_D {A : Nat → Prop} : ∀ (is : List Nat) (cs w : va_W), is.length = cs.length → va_D A w → (∀ (j i : Nat) (c : Nat × va_E), is[j]? = some i → cs[j]? = some c → ∃ e, w[i]? = some (c.1, e)) → va_D A (rc_set w is cs)
  | [], [], w, _, hD, _ => hD
  | [], c :: cs, w, hl, _, _ => absurd hl (by simp)
  | i :: is, [], w, hl, _, _ => absurd hl (by simp)
  | i :: is, c :: cs, w, hl, hD, h => by
    obtain ⟨e0, he0⟩ := h 0 i c (by simp) (by simp)
    refine rc_set_D is cs (w.set i c) (by simpa using hl) (hD.set (e := c.2) he0) (fun j i' c' h1 h2 => ?_)
    obtain ⟨e1, he1⟩ := h (j + 1) i' c' (by simpa using h1) (by simpa using h2)
    by_cases hk : i = i'
    · subst hk
      have := he0.symm.trans he1
      have hc : c.1 = c'.1 := by injection this with this; injection this
      have hlt := (List.getElem?_eq_some_iff.mp he0).1
      exact ⟨c.2, by rw [List.getElem?_set_self hlt, ← hc]⟩
    · exact ⟨e1, by rw [List.getElem?_set_ne hk]; exact he1⟩
theorem rc_at {is : List Nat} {w wc : va_W} (hC : is.map (fun i => w[i]?) = wc.map some) {k : Nat} {q : Nat × va_E} (h : wc[k]? = some q) : ∃ i, is[k]? = some i ∧ w[i]? = some q := by
  have h1 : (is.map (fun i => w[i]?))[k]? = some (some q) := by rw [hC, List.getElem?_map, h]; rfl
  rw [List.getElem?_map] at h1
  cases hi : is[k]? with
  | none => rw [hi] at h1; cases h1
  | some i => rw [hi] at h1; exact ⟨i, rfl, Option.some.inj h1⟩
theorem rc_len {is : List Nat} {w wc : va_W} (hC : is.map (fun i => w[i]?) = wc.map some) : is.length = wc.length := by
  have := congrArg List.length hC
  simpa using this
/-- the callee's cells are among the caller's -/
theorem rc_in {A : Nat → Prop} {is : List Nat} {w wc : va_W} (hD : va_D A w) (hC : is.map (fun i => w[i]?) = wc.map some) : ∀ q, rc_A wc q → A q := by
  intro q ⟨k, e, h⟩
  obtain ⟨i, -, h2⟩ := rc_at hC h
  exact hD.2 i _ h2
/-- behind a call: the callee's cells anew, at their places; all others as they were -/
theorem rc_join {A : Nat → Prop} {D : va_G} {cl : List vw_C} {is : List Nat} {w wc w1 : va_W} {H H1 : Heap} (hP : va_P D cl w H) (hD : va_D A w) (hC : is.map (fun i => w[i]?) = wc.map some) (hw : w1.map (fun q => q.1) = wc.map (fun q => q.1)) (hk : ∀ q : Nat, q < H.size → ¬ rc_A wc q → H1[q]? = H[q]?) (hP1 : va_P D cl w1 H1) : va_P D cl (rc_set w is w1) H1 ∧ va_D A (rc_set w is w1) := by
  have hl1 : w1.length = wc.length := by simpa using congrArg List.length hw
  have hl : is.length = w1.length := (rc_len hC).trans hl1.symm
  refine ⟨fun k q h => ?_, rc_set_D is w1 w hl hD (fun j i c h1 h2 => ?_)⟩
  · rcases rc_set_get is w1 w hl k q h with ⟨j, -, h2⟩ | ⟨h1, h2⟩
    · exact hP1 j q h2
    · refine (hP k q h2).kept (hk q.1 (hP k q h2).lt ?_)
      rintro ⟨k2, e, h3⟩
      obtain ⟨i, g1, g2⟩ := rc_at hC h3
      have := hD.1 k i q (q.1, e) h2 g2 rfl
      subst this
      exact h1 (List.mem_of_getElem? g1)
  · have hlt : j < wc.length := by rw [← hl1]; exact (List.getElem?_eq_some_iff.mp h2).1
    obtain ⟨cw, hcw⟩ : ∃ cw, wc[j]? = some cw := ⟨wc[j], List.getElem?_eq_getElem hlt⟩
    have he : c.1 = cw.1 := by
      have g := congrArg (fun l => l[j]?) hw
      simp only [List.getElem?_map, h2, hcw] at g
      exact Option.some.inj g
    obtain ⟨i', g1, g2⟩ := rc_at hC hcw
    cases h1.symm.trans g1
    exact ⟨cw.2, by rw [g2, he]⟩
/-- calls of the outer class's private methods out of the inner ones -/
def rc_N (U : State) : Prop := va_Nw (.methodLinkNest R_R 37 y_O_degree R_O) U ∧ va_Nw (.methodLinkNest R_R 97 y_O_inverse R_O) U ∧ va_Nw (.methodLinkNest R_R 67 y_O_number R_O) U ∧ va_Nw (.methodLinkNest R_R 93 y_O_isZero R_O) U ∧ va_Nw (.methodLinkNest R_B 48 y_O_inverse R_O) U ∧ va_Nw (.methodLinkNest R_B 54 y_O_number R_O) U
theorem rc_N.moved {s U : State} (hW : s.WarmedH U.vm) (h : rc_N s) : rc_N U := ⟨va_Nw.warmM hW h.1, va_Nw.warmM hW h.2.1, va_Nw.warmM hW h.2.2.1, va_Nw.warmM hW h.2.2.2.1, va_Nw.warmM hW h.2.2.2.2.1, va_Nw.warmM hW h.2.2.2.2.2⟩
theorem rc_N.same {s U : State} (hW : s.vm = U.vm) (h : rc_N s) : rc_N U := ⟨va_Nw.same rfl hW h.1, va_Nw.same rfl hW h.2.1, va_Nw.same rfl hW h.2.2.1, va_Nw.same rfl hW h.2.2.2.1, va_Nw.same rfl hW h.2.2.2.2.1, va_Nw.same rfl hW h.2.2.2.2.2⟩
/-- a contract's start -/
def rc_Pc (D : va_G) (cl : List vw_C) (tys : List (ClassId × FieldType)) (av : List Value) (w : va_W) : Array Value → State → Prop := va_Pc av (fun U => va_P D cl w U.heap ∧ va_K D cl tys U ∧ va_D (fun _ => True) w ∧ rc_N U)
theorem rc_blind {D : va_G} {cl : List vw_C} {tys : List (ClassId × FieldType)} {av : List Value} {w : va_W} : FrameBlind (rc_Pc D cl tys av w) := by
  intro a U g mk q
  obtain ⟨q0, qP, qK, qD, qN⟩ := q
  exact ⟨q0, qP, va_K.moved (u := U) (U := U.calling g mk a) (Vm.Alike.refl U.vm) qK, qD, rc_N.same rfl qN⟩
theorem rc_pre {D : va_G} {cl : List vw_C} {tys tysC : List (ClassId × FieldType)} {w wc : va_W} {A : Nat → Prop} {H : Heap} {s : State} {av : List Value} (hP : va_P D cl w H) (hD : va_D A w) (hK : va_K D cl tys s) (hN : rc_N s) (is : List Nat) (hC : is.map (fun i => w[i]?) = wc.map some) (hn : va_nd is = true) (it : List Nat) (hT : it.filterMap (fun i => tys[i]?) = tysC) :
    ∀ U : State, U.heap = H → s.WarmedH U.vm → rc_Pc D cl tysC av wc av.toArray U := by
  intro U hU hW
  refine ⟨rfl, ?_, va_K.moved hW.alike (hK.sub it hT), ?_, hN.moved hW⟩
  · rw [hU]
    intro k q h
    obtain ⟨i, -, g⟩ := rc_at hC h
    exact hP i q g
  · refine ⟨fun i j x y hx hy hxy => ?_, fun _ _ _ => trivial⟩
    obtain ⟨i1, g1, g2⟩ := rc_at hC hx
    obtain ⟨i2, g3, g4⟩ := rc_at hC hy
    have := hD.1 i1 i2 x y g2 g4 hxy
    subst this
    exact va_nd_inj is hn i j i1 g1 g3
section RCC
variable {p : Program} {l : Launch} {e : Env} {R : Room} {s : State} {m : MethodId} {args : Array Value} {below : List Frame} {meth : Method} {c : Code} {H : Heap} {locs : List Loc} {cells slots : Nat} {Q : State → Prop}
variable {pc : Nat} {ls : Array Slot} {rest st0 : List Value} {a : Array Value} {A : Nat → Prop} {H0 : Heap} {D : va_G} {cl : List vw_C} {w wc : va_W}
theorem rc_calll {S : Type} {post : Int64 → S → Prop} {w1 : S → va_W} (hr : va_Run p l e R s m args below meth c H locs cells slots 0 0 (F0 m pc ls st0) rest (va_Ql post (fun u t => va_P D cl (w1 u) t.heap) (rc_A wc) a) (rc_A wc)) (hP : va_P D cl w H) (hD : va_D A w) (hS : va_S A H0 H locs) (is : List Nat) (hC : is.map (fun i => w[i]?) = wc.map some) (hw : ∀ u, (w1 u).map (fun q => q.1) = wc.map (fun q => q.1))
    (kk : ∀ (r : Int64) (u : S) (H1 : Heap) (locs1 : List Loc), post r u → va_P D cl (rc_set w is (w1 u)) H1 → va_D A (rc_set w is (w1 u)) → va_S A H0 H1 locs1 → W p l e R s m args below meth c H1 locs1 cells slots Q (F0 m (pc + 3) ls (.long r :: rest))) : W p l e R s m args below meth c H locs cells slots Q (F0 m pc ls st0) := by
  have hF := rc_in hD hC
  refine va_calll hr hS (fun q _ h => hF q h) hF (fun r u t H1 locs1 ht _ hp hB _ hk hS1 => ?_)
  rw [ht] at hB
  obtain ⟨j1, j2⟩ := rc_join hP hD hC (hw u) hk hB
  exact kk r u H1 locs1 hp j1 j2 hS1
theorem rc_calli {S : Type} {post : Int32 → S → Prop} {w1 : S → va_W} (hr : va_Run p l e R s m args below meth c H locs cells slots 0 0 (F0 m pc ls st0) rest (va_Qi post (fun u t => va_P D cl (w1 u) t.heap) (rc_A wc) a) (rc_A wc)) (hP : va_P D cl w H) (hD : va_D A w) (hS : va_S A H0 H locs) (is : List Nat) (hC : is.map (fun i => w[i]?) = wc.map some) (hw : ∀ u, (w1 u).map (fun q => q.1) = wc.map (fun q => q.1))
    (kk : ∀ (r : Int32) (u : S) (H1 : Heap) (locs1 : List Loc), post r u → va_P D cl (rc_set w is (w1 u)) H1 → va_D A (rc_set w is (w1 u)) → va_S A H0 H1 locs1 → W p l e R s m args below meth c H1 locs1 cells slots Q (F0 m (pc + 3) ls (.int r :: rest))) : W p l e R s m args below meth c H locs cells slots Q (F0 m pc ls st0) := by
  have hF := rc_in hD hC
  refine va_calli hr hS (fun q _ h => hF q h) hF (fun r u t H1 locs1 ht _ hp hB _ hk hS1 => ?_)
  rw [ht] at hB
  obtain ⟨j1, j2⟩ := rc_join hP hD hC (hw u) hk hB
  exact kk r u H1 locs1 hp j1 j2 hS1
theorem rc_callv {S : Type} {post : S → Prop} {w1 : S → va_W} (hr : va_Run p l e R s m args below meth c H locs cells slots 0 0 (F0 m pc ls st0) rest (va_Qv post (fun u t => va_P D cl (w1 u) t.heap) (rc_A wc) a) (rc_A wc)) (hP : va_P D cl w H) (hD : va_D A w) (hS : va_S A H0 H locs) (is : List Nat) (hC : is.map (fun i => w[i]?) = wc.map some) (hw : ∀ u, (w1 u).map (fun q => q.1) = wc.map (fun q => q.1))
    (kk : ∀ (u : S) (H1 : Heap) (locs1 : List Loc), post u → va_P D cl (rc_set w is (w1 u)) H1 → va_D A (rc_set w is (w1 u)) → va_S A H0 H1 locs1 → W p l e R s m args below meth c H1 locs1 cells slots Q (F0 m (pc + 3) ls rest)) : W p l e R s m args below meth c H locs cells slots Q (F0 m pc ls st0) := by
  have hF := rc_in hD hC
  refine va_callv hr hS (fun q _ h => hF q h) hF (fun u t H1 locs1 ht _ hp hB _ hk hS1 => ?_)
  rw [ht] at hB
  obtain ⟨j1, j2⟩ := rc_join hP hD hC (hw u) hk hB
  exact kk u H1 locs1 hp j1 j2 hS1
theorem rc_callr {S : Type} {post : S → Prop} {ra : S → Nat} {w1 : S → va_W} (hr : va_Run p l e R s m args below meth c H locs cells slots 0 0 (F0 m pc ls st0) rest (va_Qr post (fun u b t => b = ra u ∧ va_P D cl (w1 u) t.heap) (rc_A wc) a) (rc_A wc)) (hP : va_P D cl w H) (hD : va_D A w) (hS : va_S A H0 H locs) (is : List Nat) (hC : is.map (fun i => w[i]?) = wc.map some) (hw : ∀ u, (w1 u).map (fun q => q.1) = wc.map (fun q => q.1))
    (kk : ∀ (u : S) (H1 : Heap) (locs1 : List Loc), post u → va_P D cl (rc_set w is (w1 u)) H1 → va_D A (rc_set w is (w1 u)) → va_S A H0 H1 locs1 → W p l e R s m args below meth c H1 locs1 cells slots Q (F0 m (pc + 3) ls (.ref (ra u) :: rest))) : W p l e R s m args below meth c H locs cells slots Q (F0 m pc ls st0) := by
  have hF := rc_in hD hC
  refine va_callr hr hS (fun q _ h => hF q h) hF (fun u b t H1 locs1 ht _ hp hB _ hk hS1 => ?_)
  obtain ⟨rfl, hB⟩ := hB
  rw [ht] at hB
  obtain ⟨j1, j2⟩ := rc_join hP hD hC (hw u) hk hB
  exact kk u H1 locs1 hp j1 j2 hS1
end RCC
end
section
/-! THE FIELD of 32003 numbers, and its powers -/
abbrev ro_K : Type := Fin 32003
theorem ro_lt (z : Int) : (z % 32003).toNat < 32003 := by omega
/-- the number that an integer is -/
def ro_k (z : Int) : ro_K := ⟨(z % 32003).toNat, ro_lt z⟩
theorem ro_k_val (z : Int) : (ro_k z).val = (z % 32003).toNat := rfl
theorem ro_k_eq {a b : Int} : ro_k a = ro_k b ↔ a % 32003 = b % 32003 := by
  rw [Fin.ext_iff, ro_k_val, ro_k_val]; omega
theorem ro_k_zero {a : Int} : ro_k a = 0 ↔ a % 32003 = 0 := by
  rw [Fin.ext_iff, ro_k_val]; show _ = 0 ↔ _; omega
theorem ro_k0 : ro_k 0 = 0 := rfl
theorem ro_k1 : ro_k 1 = 1 := rfl
theorem ro_k_add (a b : Int) : ro_k (a + b) = ro_k a + ro_k b := by
  apply Fin.ext
  rw [Fin.val_add, ro_k_val, ro_k_val, ro_k_val]; omega
theorem ro_k_mul (a b : Int) : ro_k (a * b) = ro_k a * ro_k b := by
  apply Fin.ext
  rw [Fin.val_mul, ro_k_val, ro_k_val, ro_k_val, Int.mul_emod]
  obtain ⟨x, hx⟩ : ∃ x : Nat, a % 32003 = (x : Int) := ⟨(a % 32003).toNat, by omega⟩
  obtain ⟨y, hy⟩ : ∃ y : Nat, b % 32003 = (y : Int) := ⟨(b % 32003).toNat, by omega⟩
  rw [hx, hy, Int.toNat_natCast, Int.toNat_natCast, ← Int.natCast_mul]
  omega
theorem ro_k_sub (a b : Int) : ro_k (a - b) = ro_k a - ro_k b := by
  have h : ro_k (a - b + b) = ro_k (a - b) + ro_k b := ro_k_add _ _
  rw [Int.sub_add_cancel] at h
  rw [h]; grind
theorem ro_k_neg (a : Int) : ro_k (-a) = - ro_k a := by
  have h : ro_k (-a + a) = ro_k (-a) + ro_k a := ro_k_add _ _
  rw [Int.add_left_neg, ro_k0] at h
  grind
theorem ro_k_mod (a : Int) : ro_k (a % 32003) = ro_k a := by rw [ro_k_eq]; omega
theorem ro_k_inj {a b : Int} (ha : 0 ≤ a) (ha2 : a < 32003) (hb : 0 ≤ b) (hb2 : b < 32003) (h : ro_k a = ro_k b) : a = b := by
  rw [ro_k_eq] at h; omega
theorem ro_k_back (x : ro_K) : ro_k (x.val : Int) = x := by
  apply Fin.ext
  rw [ro_k_val]
  have := x.isLt
  omega
def ro_pw (a : ro_K) : Nat → ro_K
  | 0 => 1
  | n + 1 => ro_pw a n * a
theorem ro_pw_add (a : ro_K) (m n : Nat) : ro_pw a (m + n) = ro_pw a m * ro_pw a n := by
  induction n with
  | zero => show ro_pw a m = ro_pw a m * 1; grind
  | succ n ih => show ro_pw a (m + n) * a = ro_pw a m * (ro_pw a n * a); rw [ih]; grind
theorem ro_pw_1 (a : ro_K) : ro_pw a 1 = a := by show 1 * a = a; grind
theorem ro_pw_one (n : Nat) : ro_pw 1 n = 1 := by
  induction n with
  | zero => rfl
  | succ n ih => show ro_pw 1 n * 1 = 1; rw [ih]; rfl
theorem ro_pw_mul (a b : ro_K) (n : Nat) : ro_pw (a * b) n = ro_pw a n * ro_pw b n := by
  induction n with
  | zero => show (1 : ro_K) = 1 * 1; rfl
  | succ n ih => show ro_pw (a * b) n * (a * b) = ro_pw a n * a * (ro_pw b n * b); rw [ih]; grind
theorem ro_pw_val (a : ro_K) (n : Nat) : (ro_pw a n).val = a.val ^ n % 32003 := by
  induction n with
  | zero => rfl
  | succ n ih =>
    show (ro_pw a n * a).val = _
    rw [Fin.val_mul, ih, Nat.pow_succ, Nat.mod_mul_mod]
/-- Fermat's theorem for this number, looked at for each of them -/
def ro_fc (b : Nat) : Nat → Bool
  | 0 => true
  | n + 1 => Nat.beq (Nat.mod (Nat.pow (Nat.add b n) 32002) 32003) 1 && ro_fc b n
theorem ro_fc_at {b : Nat} : ∀ n, ro_fc b n = true → ∀ j, j < n → (b + j) ^ 32002 % 32003 = 1
  | 0, _, j, hj => absurd hj (Nat.not_lt_zero j)
  | n + 1, h, j, hj => by
    have h' : (Nat.beq (Nat.mod (Nat.pow (Nat.add b n) 32002) 32003) 1 && ro_fc b n) = true := h
    rw [Bool.and_eq_true] at h'
    rcases Nat.lt_or_ge j n with q | q
    · exact ro_fc_at n h'.2 j q
    · have e : j = n := by omega
      subst e
      exact Nat.eq_of_beq_eq_true h'.1
theorem ro_fc1 : ro_fc 1 8000 = true := by decide +kernel
theorem ro_fc2 : ro_fc 8001 8000 = true := by decide +kernel
theorem ro_fc3 : ro_fc 16001 8000 = true := by decide +kernel
theorem ro_fc4 : ro_fc 24001 8002 = true := by decide +kernel
theorem ro_fermat {a : ro_K} (h : a ≠ 0) : ro_pw a 32002 = 1 := by
  apply Fin.ext
  rw [ro_pw_val]
  have hl := a.isLt
  have h0 : a.val ≠ 0 := fun e => h (Fin.ext e)
  generalize a.val = v at hl h0
  show v ^ 32002 % 32003 = 1
  rcases Nat.lt_or_ge v 8001 with q | q
  · obtain ⟨j, rfl⟩ : ∃ j, v = 1 + j := ⟨v - 1, by omega⟩
    exact ro_fc_at _ ro_fc1 j (by omega)
  rcases Nat.lt_or_ge v 16001 with q2 | q2
  · obtain ⟨j, rfl⟩ : ∃ j, v = 8001 + j := ⟨v - 8001, by omega⟩
    exact ro_fc_at _ ro_fc2 j (by omega)
  rcases Nat.lt_or_ge v 24001 with q3 | q3
  · obtain ⟨j, rfl⟩ : ∃ j, v = 16001 + j := ⟨v - 16001, by omega⟩
    exact ro_fc_at _ ro_fc3 j (by omega)
  · obtain ⟨j, rfl⟩ : ∃ j, v = 24001 + j := ⟨v - 24001, by omega⟩
    exact ro_fc_at _ ro_fc4 j (by omega)
/-- the inverse; 0's is 0 -/
def ro_iv (a : ro_K) : ro_K := ro_pw a 32001
theorem ro_iv_gen {a : ro_K} {n : Nat} (h : ro_pw a (n + 1) = 1) : a * ro_pw a n = 1 := by
  have e : ro_pw a n * a = 1 := h
  generalize ro_pw a n = z at e ⊢
  grind
theorem ro_iv_mul {a : ro_K} (h : a ≠ 0) : a * ro_iv a = 1 := ro_iv_gen (n := 32001) (ro_fermat h)
theorem ro_nz {a b : ro_K} (h : a * b = 0) : a = 0 ∨ b = 0 := by
  by_cases ha : a = 0
  · exact Or.inl ha
  · refine Or.inr ?_
    have e := ro_iv_mul ha
    generalize ro_iv a = z at e
    have e2 : b = z * (a * b) := by
      have : z * (a * b) = (a * z) * b := by grind
      rw [this, e]; grind
    rw [e2, h]; grind
theorem ro_pw_s1 {a : ro_K} {n : Nat} (h : ro_pw a n = 1) : ro_pw a (n + 1) = a := by
  show ro_pw a n * a = a
  rw [h]; grind
theorem ro_pw_0 (n : Nat) : ro_pw 0 (n + 1) = 0 := by
  show ro_pw 0 n * 0 = 0
  generalize ro_pw 0 n = z
  grind
theorem ro_pw_p (a : ro_K) : ro_pw a 32003 = a := by
  by_cases h : a = 0
  · subst h
    exact ro_pw_0 32002
  · exact ro_pw_s1 (n := 32002) (ro_fermat h)
theorem ro_half_gen {a : ro_K} {n : Nat} (h : ro_pw a (n + n) = 1) : ro_pw a n = 1 ∨ ro_pw a n = -1 := by
  have e := ro_pw_add a n n
  rw [h] at e
  generalize ro_pw a n = z at e ⊢
  have e2 : (z - 1) * (z + 1) = 0 := by grind
  rcases ro_nz e2 with q | q
  · left; grind
  · right; grind
theorem ro_half {a : ro_K} (h : a ≠ 0) : ro_pw a 16001 = 1 ∨ ro_pw a 16001 = -1 := ro_half_gen (n := 16001) (ro_fermat h)
theorem ro_neg_gen (a : ro_K) (n : Nat) : ro_pw (-a) (2 * n + 1) = - ro_pw a (2 * n + 1) := by
  have key : ro_pw (-a) (2 * n) = ro_pw a (2 * n) := by
    induction n with
    | zero => rfl
    | succ n ih =>
      show ro_pw (-a) (2 * n) * (-a) * (-a) = ro_pw a (2 * n) * a * a
      rw [ih]
      generalize ro_pw a (2 * n) = z
      grind
  show ro_pw (-a) (2 * n) * (-a) = - (ro_pw a (2 * n) * a)
  rw [key]
  generalize ro_pw a (2 * n) = z
  grind
theorem ro_half_neg (a : ro_K) : ro_pw (-a) 16001 = - ro_pw a 16001 := ro_neg_gen a 8000
theorem ro_half_0 : ro_pw 0 16001 = 0 := ro_pw_0 16000
theorem ro_1ne : (1 : ro_K) ≠ -1 := by decide
theorem ro_1ne0 : (1 : ro_K) ≠ 0 := by decide
/-- two numbers are told apart by what is a square once one of them is moved to 0 -/
theorem ro_apart {s t : ro_K} (h : s ≠ t) : ∃ b : ro_K, (ro_pw (s + b) 16001 = 1 ∧ ro_pw (t + b) 16001 ≠ 1) ∨ (ro_pw (s + b) 16001 ≠ 1 ∧ ro_pw (t + b) 16001 = 1) := by
  have hd : s + -t ≠ 0 := fun e => h (by grind)
  rcases ro_half hd with q | q
  · refine ⟨-t, Or.inl ⟨q, ?_⟩⟩
    have e : t + -t = 0 := by grind
    rw [e, ro_half_0]
    exact fun z => ro_1ne0 z.symm
  · refine ⟨-s, Or.inr ⟨?_, ?_⟩⟩
    · have e : s + -s = 0 := by grind
      rw [e, ro_half_0]
      exact fun z => ro_1ne0 z.symm
    · have e : t + -s = -(s + -t) := by grind
      rw [e, ro_half_neg, q]
      show - (- (1 : ro_K)) = 1
      decide
end
section
/-! POLYNOMIALS over the field: the number at each power; n powers are looked at -/
def ro_ev : Nat → (Nat → ro_K) → ro_K → ro_K
  | 0, _, _ => 0
  | n + 1, f, x => f 0 + x * ro_ev n (fun i => f (i + 1)) x
theorem ro_ev_s (n : Nat) (f : Nat → ro_K) (x : ro_K) : ro_ev (n + 1) f x = f 0 + x * ro_ev n (fun i => f (i + 1)) x := rfl
theorem ro_ev_congr : ∀ (n : Nat) {f g : Nat → ro_K} (x : ro_K), (∀ i, i < n → f i = g i) → ro_ev n f x = ro_ev n g x
  | 0, _, _, _, _ => rfl
  | n + 1, f, g, x, h => by
    rw [ro_ev_s, ro_ev_s, h 0 (Nat.succ_pos n), ro_ev_congr n x (fun i hi => h (i + 1) (Nat.succ_lt_succ hi))]
theorem ro_ev_zero : ∀ (n : Nat) {f : Nat → ro_K} (x : ro_K), (∀ i, i < n → f i = 0) → ro_ev n f x = 0
  | 0, _, _, _ => rfl
  | n + 1, f, x, h => by
    rw [ro_ev_s, h 0 (Nat.succ_pos n), ro_ev_zero n x (fun i hi => h (i + 1) (Nat.succ_lt_succ hi))]
    grind
theorem ro_ev_more : ∀ (n m : Nat) {f : Nat → ro_K} (x : ro_K), n ≤ m → (∀ i, n ≤ i → f i = 0) → ro_ev m f x = ro_ev n f x
  | 0, m, f, x, _, h => ro_ev_zero m x (fun i _ => h i (Nat.zero_le i))
  | n + 1, 0, f, x, hm, _ => absurd hm (by omega)
  | n + 1, m + 1, f, x, hm, h => by
    rw [ro_ev_s, ro_ev_s, ro_ev_more n m x (by omega) (fun i hi => h (i + 1) (by omega))]
theorem ro_ev_add : ∀ (n : Nat) (f g : Nat → ro_K) (x : ro_K), ro_ev n (fun i => f i + g i) x = ro_ev n f x + ro_ev n g x
  | 0, _, _, _ => by show (0 : ro_K) = 0 + 0; rfl
  | n + 1, f, g, x => by
    rw [ro_ev_s, ro_ev_s, ro_ev_s, ro_ev_add n (fun i => f (i + 1)) (fun i => g (i + 1)) x]
    grind
theorem ro_ev_smul : ∀ (n : Nat) (c : ro_K) (f : Nat → ro_K) (x : ro_K), ro_ev n (fun i => c * f i) x = c * ro_ev n f x
  | 0, c, _, _ => by show (0 : ro_K) = c * 0; grind
  | n + 1, c, f, x => by
    rw [ro_ev_s, ro_ev_s, ro_ev_smul n c (fun i => f (i + 1)) x]
    grind
theorem ro_ev_sub (n : Nat) (f g : Nat → ro_K) (x : ro_K) : ro_ev n (fun i => f i - g i) x = ro_ev n f x - ro_ev n g x := by
  have h := ro_ev_add n (fun i => f i - g i) g x
  rw [ro_ev_congr n (f := fun i => f i - g i + g i) (g := f) x (fun i _ => by grind)] at h
  rw [h]; grind
/-- one power more, at the lower end -/
def ro_sh (f : Nat → ro_K) : Nat → ro_K := fun i => match i with
  | 0 => 0
  | j + 1 => f j
theorem ro_sh_0 (f : Nat → ro_K) : ro_sh f 0 = 0 := rfl
theorem ro_sh_s (f : Nat → ro_K) (j : Nat) : ro_sh f (j + 1) = f j := rfl
theorem ro_ev_sh (n : Nat) (f : Nat → ro_K) (x : ro_K) : ro_ev (n + 1) (ro_sh f) x = x * ro_ev n f x := by
  rw [ro_ev_s, ro_sh_0, ro_ev_congr n (f := fun i => ro_sh f (i + 1)) (g := f) x (fun i _ => rfl)]
  grind
/-- division by x - a -/
theorem ro_div : ∀ (n : Nat) (f : Nat → ro_K) (a : ro_K), ∃ q : Nat → ro_K, (∀ x, ro_ev (n + 1) f x = (x - a) * ro_ev n q x + ro_ev (n + 1) f a) ∧ ((∀ i, i < n → q i = 0) → ∀ i, 1 ≤ i → i < n + 1 → f i = 0)
  | 0, f, a => by
    refine ⟨fun _ => 0, fun x => ?_, fun _ i h1 h2 => absurd h2 (by omega)⟩
    rw [ro_ev_s, ro_ev_s]
    show f 0 + x * 0 = (x - a) * 0 + (f 0 + a * 0)
    grind
  | n + 1, f, a => by
    obtain ⟨q, h1, h2⟩ := ro_div n (fun i => f (i + 1)) a
    refine ⟨fun i => match i with | 0 => ro_ev (n + 1) (fun i => f (i + 1)) a | j + 1 => q j, fun x => ?_, fun hz i hi1 hi2 => ?_⟩
    · rw [ro_ev_s (n + 1) f x, ro_ev_s (n + 1) f a, h1 x, ro_ev_s n _ x]
      show f 0 + x * ((x - a) * ro_ev n q x + ro_ev (n + 1) (fun i => f (i + 1)) a) = (x - a) * (ro_ev (n + 1) (fun i => f (i + 1)) a + x * ro_ev n q x) + (f 0 + a * ro_ev (n + 1) (fun i => f (i + 1)) a)
      grind
    · have hq : ∀ i, i < n → q i = 0 := fun i hi => hz (i + 1) (by omega)
      have h3 := h2 hq
      obtain ⟨j, rfl⟩ : ∃ j, i = j + 1 := ⟨i - 1, by omega⟩
      by_cases hj : 1 ≤ j
      · exact h3 j hj (by omega)
      · have hj0 : j = 0 := by omega
        subst hj0
        have hc : ro_ev (n + 1) (fun i => f (i + 1)) a = 0 := hz 0 (by omega)
        rw [ro_ev_s, ro_ev_zero n a (fun i hi => h3 (i + 1) (by omega) (by omega))] at hc
        have : f (0 + 1) + a * 0 = 0 := hc
        grind
/-- n numbers and n different roots: all are 0 -/
theorem ro_count : ∀ (n : Nat) (f : Nat → ro_K) (L : List ro_K), L.Nodup → n ≤ L.length → (∀ a ∈ L, ro_ev n f a = 0) → ∀ i, i < n → f i = 0
  | 0, _, _, _, _, _, i, hi => absurd hi (Nat.not_lt_zero i)
  | n + 1, f, [], _, hl, _, i, hi => absurd hl (by simp)
  | n + 1, f, a :: L, hn, hl, hr, i, hi => by
    obtain ⟨q, h1, h2⟩ := ro_div n f a
    have ha : ro_ev (n + 1) f a = 0 := hr a List.mem_cons_self
    rw [List.nodup_cons] at hn
    have hq := ro_count n q L hn.2 (by simp at hl; exact hl) (fun b hb => by
      have e := h1 b
      rw [ha, hr b (List.mem_cons_of_mem a hb)] at e
      have e2 : (b - a) * ro_ev n q b = 0 := by grind
      rcases ro_nz e2 with z | z
      · exact absurd (show a ∈ L by rw [show a = b by grind]; exact hb) hn.1
      · exact z)
    have h3 := h2 hq
    by_cases hi1 : 1 ≤ i
    · exact h3 i hi1 hi
    · have e0 : i = 0 := by omega
      subst e0
      rw [ro_ev_s, ro_ev_zero n a (fun i hi => h3 (i + 1) (by omega) (by omega))] at ha
      grind
/-! multiples -/
def ro_mc : List ro_K → (Nat → ro_K) → Nat → ro_K
  | [], _, _ => 0
  | a :: h, g, i => a * g i + ro_sh (ro_mc h g) i
def ro_dv (g F : Nat → ro_K) : Prop := ∃ h : List ro_K, ∀ i, F i = ro_mc h g i
theorem ro_dv_0 (g : Nat → ro_K) : ro_dv g (fun _ => 0) := ⟨[], fun _ => rfl⟩
theorem ro_dv_congr {g F G : Nat → ro_K} (h : ro_dv g F) (e : ∀ i, G i = F i) : ro_dv g G := by
  obtain ⟨l, hl⟩ := h
  exact ⟨l, fun i => (e i).trans (hl i)⟩
theorem ro_dv_self (g : Nat → ro_K) : ro_dv g g := ⟨[1], fun i => by
  show g i = 1 * g i + ro_sh (fun _ => 0) i
  cases i with
  | zero => rw [ro_sh_0]; grind
  | succ j => rw [ro_sh_s]; grind⟩
def ro_la : List ro_K → List ro_K → List ro_K
  | [], m => m
  | a :: l, [] => a :: l
  | a :: l, b :: m => (a + b) :: ro_la l m
theorem ro_sh_add (f g : Nat → ro_K) (i : Nat) : ro_sh (fun i => f i + g i) i = ro_sh f i + ro_sh g i := by
  cases i with
  | zero => show (0 : ro_K) = 0 + 0; rfl
  | succ j => rfl
theorem ro_sh_smul (c : ro_K) (f : Nat → ro_K) (i : Nat) : ro_sh (fun i => c * f i) i = c * ro_sh f i := by
  cases i with
  | zero => show (0 : ro_K) = c * 0; grind
  | succ j => rfl
theorem ro_sh_congr {f g : Nat → ro_K} (h : ∀ i, f i = g i) (i : Nat) : ro_sh f i = ro_sh g i := by
  cases i with
  | zero => rfl
  | succ j => exact h j
theorem ro_mc_la (g : Nat → ro_K) : ∀ (l m : List ro_K) (i : Nat), ro_mc (ro_la l m) g i = ro_mc l g i + ro_mc m g i
  | [], m, i => by show ro_mc m g i = 0 + ro_mc m g i; grind
  | a :: l, [], i => by show ro_mc (a :: l) g i = ro_mc (a :: l) g i + 0; grind
  | a :: l, b :: m, i => by
    show (a + b) * g i + ro_sh (ro_mc (ro_la l m) g) i = (a * g i + ro_sh (ro_mc l g) i) + (b * g i + ro_sh (ro_mc m g) i)
    rw [ro_sh_congr (ro_mc_la g l m) i, ro_sh_add]
    grind
theorem ro_dv_add {g F G : Nat → ro_K} (h1 : ro_dv g F) (h2 : ro_dv g G) : ro_dv g (fun i => F i + G i) := by
  obtain ⟨l, hl⟩ := h1
  obtain ⟨m, hm⟩ := h2
  exact ⟨ro_la l m, fun i => by show F i + G i = _; rw [ro_mc_la, hl, hm]⟩
theorem ro_mc_map (c : ro_K) (g : Nat → ro_K) : ∀ (l : List ro_K) (i : Nat), ro_mc (l.map (fun a => c * a)) g i = c * ro_mc l g i
  | [], i => by show (0 : ro_K) = c * 0; grind
  | a :: l, i => by
    show c * a * g i + ro_sh (ro_mc (l.map (fun a => c * a)) g) i = c * (a * g i + ro_sh (ro_mc l g) i)
    rw [ro_sh_congr (ro_mc_map c g l) i, ro_sh_smul]
    grind
theorem ro_dv_smul {g F : Nat → ro_K} (c : ro_K) (h : ro_dv g F) : ro_dv g (fun i => c * F i) := by
  obtain ⟨l, hl⟩ := h
  exact ⟨l.map (fun a => c * a), fun i => by show c * F i = _; rw [ro_mc_map, hl]⟩
theorem ro_dv_sub {g F G : Nat → ro_K} (h1 : ro_dv g F) (h2 : ro_dv g G) : ro_dv g (fun i => F i - G i) :=
  ro_dv_congr (ro_dv_add h1 (ro_dv_smul (-1) h2)) (fun i => by grind)
theorem ro_dv_sh {g F : Nat → ro_K} (h : ro_dv g F) : ro_dv g (ro_sh F) := by
  obtain ⟨l, hl⟩ := h
  refine ⟨0 :: l, fun i => ?_⟩
  show ro_sh F i = 0 * g i + ro_sh (ro_mc l g) i
  rw [ro_sh_congr hl i]; grind
theorem ro_dv_trans {g w F : Nat → ro_K} (h1 : ro_dv g w) (h2 : ro_dv w F) : ro_dv g F := by
  obtain ⟨l, hl⟩ := h2
  have key : ∀ l : List ro_K, ro_dv g (ro_mc l w) := by
    intro l
    induction l with
    | nil => exact ro_dv_0 g
    | cons a l ih => exact ro_dv_add (ro_dv_smul a h1) (ro_dv_sh ih)
  exact ro_dv_congr (key l) hl
/-- the value of a list of numbers, lowest power first -/
def ro_lv : List ro_K → ro_K → ro_K
  | [], _ => 0
  | a :: l, x => a + x * ro_lv l x
theorem ro_lv_ev : ∀ (l : List ro_K) (x : ro_K), ro_lv l x = ro_ev l.length (fun i => l.getD i 0) x
  | [], _ => rfl
  | a :: l, x => by
    show a + x * ro_lv l x = ro_ev (l.length + 1) (fun i => (a :: l).getD i 0) x
    rw [ro_ev_s, ro_lv_ev l x]
    rfl
theorem ro_ev_mc {n : Nat} {g : Nat → ro_K} (hg : ∀ i, n ≤ i → g i = 0) (x : ro_K) : ∀ (h : List ro_K) (m : Nat), h.length + n ≤ m → ro_ev m (ro_mc h g) x = ro_lv h x * ro_ev n g x
  | [], m, _ => by
    rw [ro_ev_zero (f := ro_mc [] g) m x (fun i _ => rfl)]
    show (0 : ro_K) = 0 * ro_ev n g x
    grind
  | a :: h, m, hm => by
    simp only [List.length_cons] at hm
    obtain ⟨k, rfl⟩ : ∃ k, m = k + 1 := ⟨m - 1, by omega⟩
    have e : ro_ev (k + 1) (ro_mc (a :: h) g) x = ro_ev (k + 1) (fun i => a * g i + ro_sh (ro_mc h g) i) x := ro_ev_congr _ x (fun i _ => rfl)
    rw [e, ro_ev_add (k + 1) (fun i => a * g i) (ro_sh (ro_mc h g)) x, ro_ev_smul, ro_ev_sh, ro_ev_mc hg x h k (by omega), ro_ev_more n (k + 1) x (by omega) hg]
    show _ = (a + x * ro_lv h x) * ro_ev n g x
    grind
theorem ro_mc_zero (g : Nat → ro_K) : ∀ (h : List ro_K), (∀ i, h.getD i 0 = 0) → ∀ j, ro_mc h g j = 0
  | [], _, _ => rfl
  | a :: h, hz, j => by
    have ha : a = 0 := hz 0
    show a * g j + ro_sh (ro_mc h g) j = 0
    rw [ha, ro_sh_congr (g := fun _ => 0) (ro_mc_zero g h (fun i => hz (i + 1))) j]
    cases j with
    | zero => rw [ro_sh_0]; grind
    | succ j => rw [ro_sh_s]; grind
theorem ro_mc_top {d : Nat} {g : Nat → ro_K} (h1 : g d = 1) (h0 : ∀ i, d < i → g i = 0) : ∀ (h : List ro_K) (t : Nat), (∀ i, t < i → h.getD i 0 = 0) → ro_mc h g (t + d) = h.getD t 0
  | [], _, _ => rfl
  | a :: h, 0, hz => by
    show a * g (0 + d) + ro_sh (ro_mc h g) (0 + d) = a
    rw [ro_sh_congr (g := fun _ => 0) (ro_mc_zero g h (fun i => hz (i + 1) (Nat.succ_pos i))) (0 + d), Nat.zero_add, h1]
    cases d with
    | zero => rw [ro_sh_0]; grind
    | succ j => rw [ro_sh_s]; grind
  | a :: h, t + 1, hz => by
    show a * g (t + 1 + d) + ro_sh (ro_mc h g) (t + 1 + d) = h.getD t 0
    have e := ro_mc_top h1 h0 h t (fun i hi => hz (i + 1) (by omega))
    rw [h0 (t + 1 + d) (by omega), show t + 1 + d = (t + d) + 1 by omega, ro_sh_s, e]
    grind
/-- a multiple's own numbers end where the degrees say -/
theorem ro_mc_deg {d N : Nat} {g F : Nat → ro_K} (h1 : g d = 1) (h0 : ∀ i, d < i → g i = 0) (hF : ∀ i, N < i → F i = 0) {h : List ro_K} (e : ∀ i, F i = ro_mc h g i) : ∀ i, N < i + d → h.getD i 0 = 0 := by
  have key : ∀ k i, h.length ≤ i + k → N < i + d → h.getD i 0 = 0 := by
    intro k
    induction k with
    | zero => intro i hi _; rw [List.getD_eq_getElem?_getD, List.getElem?_eq_none (by omega)]; rfl
    | succ k ih =>
      intro i hi hN
      have := ro_mc_top h1 h0 h i (fun j hj => ih j (by omega) (by omega))
      rw [← this, ← e]
      exact hF _ hN
  exact fun i hi => key h.length i (by omega) hi
theorem ro_len_filter {α : Type} (p : α → Bool) : ∀ L : List α, (L.filter p).length + (L.filter (fun a => !p a)).length = L.length
  | [] => rfl
  | a :: L => by
    have ih := ro_len_filter p L
    by_cases h : p a = true
    · simp [List.filter_cons, h]; omega
    · simp [List.filter_cons, h]; omega
/-- a part of a polynomial all of whose roots are there and different: so are the part's -/
theorem ro_split {d N : Nat} {g F : Nat → ro_K} (hF1 : F N = 1) (hF0 : ∀ i, N < i → F i = 0) (h1 : g d = 1) (h0 : ∀ i, d < i → g i = 0) (hdv : ro_dv g F) {R : List ro_K} (hR : R.Nodup) (hl : R.length = N) (hr : ∀ a ∈ R, ro_ev (N + 1) F a = 0) :
    (R.filter (fun a => decide (ro_ev (d + 1) g a = 0))).length = d := by
  obtain ⟨h, e⟩ := hdv
  have hdeg := ro_mc_deg h1 h0 hF0 e
  have hd : d ≤ N := by
    refine Nat.le_of_not_lt (fun q => ?_)
    have z := ro_mc_zero g h (fun i => hdeg i (by omega)) N
    rw [← e, hF1] at z
    exact ro_1ne0 z
  have hval : ∀ a, ro_ev (N + 1) F a = ro_lv h a * ro_ev (d + 1) g a := by
    intro a
    have q1 := ro_ev_mc (n := d + 1) (g := g) (fun i hi => h0 i (by omega)) a h (N + 1 + h.length + (d + 1)) (by omega)
    rw [← q1, ← ro_ev_more (N + 1) (N + 1 + h.length + (d + 1)) a (by omega) (fun i hi => hF0 i (by omega))]
    exact ro_ev_congr _ a (fun i _ => e i)
  have hG : (R.filter (fun a => decide (ro_ev (d + 1) g a = 0))).length ≤ d := by
    refine Nat.le_of_not_lt (fun q => ?_)
    have z := ro_count (d + 1) g (R.filter (fun a => decide (ro_ev (d + 1) g a = 0))) (List.Nodup.sublist List.filter_sublist hR) (by omega) (fun a ha => by
      have := (List.mem_filter.mp ha).2
      simpa using this) d (by omega)
    rw [h1] at z
    exact ro_1ne0 z
  have hB : (R.filter (fun a => !decide (ro_ev (d + 1) g a = 0))).length ≤ N - d := by
    refine Nat.le_of_not_lt (fun q => ?_)
    have z := ro_count (N - d + 1) (fun i => h.getD i 0) (R.filter (fun a => !decide (ro_ev (d + 1) g a = 0))) (List.Nodup.sublist List.filter_sublist hR) (by omega) (fun a ha => by
      obtain ⟨m1, m2⟩ := List.mem_filter.mp ha
      have hne : ¬ ro_ev (d + 1) g a = 0 := by simpa using m2
      have hv := hval a
      rw [hr a m1] at hv
      rcases ro_nz hv.symm with z | z
      · rw [ro_lv_ev] at z
        rw [← ro_ev_more (N - d + 1) (N - d + 1 + h.length) a (by omega) (fun i hi => hdeg i (by omega))]
        rw [← ro_ev_more h.length (N - d + 1 + h.length) a (by omega) (fun i hi => by rw [List.getD_eq_getElem?_getD, List.getElem?_eq_none hi]; rfl)] at z
        exact z
      · exact absurd z hne)
    have z2 := ro_mc_zero g h (fun i => by
      by_cases hi : i < N - d + 1
      · exact z i hi
      · exact hdeg i (by omega)) N
    rw [← e, hF1] at z2
    exact ro_1ne0 z2
  have hs := ro_len_filter (fun a => decide (ro_ev (d + 1) g a = 0)) R
  omega
/-- the product of x - r for the r of a list -/
def ro_pl : List ro_K → Nat → ro_K
  | [], i => if i = 0 then 1 else 0
  | r :: L, i => ro_sh (ro_pl L) i - r * ro_pl L i
theorem ro_pl_0 : ∀ (L : List ro_K) (i : Nat), L.length < i → ro_pl L i = 0
  | [], i, h => by
    show (if i = 0 then (1 : ro_K) else 0) = 0
    rw [if_neg (by simp at h; omega)]
  | r :: L, i, h => by
    simp only [List.length_cons] at h
    show ro_sh (ro_pl L) i - r * ro_pl L i = 0
    obtain ⟨j, rfl⟩ : ∃ j, i = j + 1 := ⟨i - 1, by omega⟩
    rw [ro_sh_s, ro_pl_0 L j (by omega), ro_pl_0 L (j + 1) (by omega)]
    grind
theorem ro_pl_1 : ∀ (L : List ro_K), ro_pl L L.length = 1
  | [] => rfl
  | r :: L => by
    show ro_sh (ro_pl L) (L.length + 1) - r * ro_pl L (L.length + 1) = 1
    rw [ro_sh_s, ro_pl_1 L, ro_pl_0 L (L.length + 1) (by omega)]
    grind
theorem ro_pl_ev (r : ro_K) (L : List ro_K) (x : ro_K) : ro_ev (L.length + 2) (ro_pl (r :: L)) x = (x - r) * ro_ev (L.length + 1) (ro_pl L) x := by
  have e : ro_ev (L.length + 2) (ro_pl (r :: L)) x = ro_ev (L.length + 2) (fun i => ro_sh (ro_pl L) i - r * ro_pl L i) x := ro_ev_congr _ x (fun i _ => rfl)
  rw [e, ro_ev_sub, ro_ev_smul, show L.length + 2 = (L.length + 1) + 1 by omega, ro_ev_sh, ro_ev_more (L.length + 1) (L.length + 1 + 1) x (by omega) (fun i hi => ro_pl_0 L i (by omega))]
  grind
theorem ro_pl_root : ∀ (L : List ro_K) (x : ro_K), ro_ev (L.length + 1) (ro_pl L) x = 0 ↔ x ∈ L
  | [], x => by
    show (1 : ro_K) + x * 0 = 0 ↔ x ∈ []
    have h : (1 : ro_K) + x * 0 ≠ 0 := fun q => ro_1ne0 (by grind)
    simp [h]
  | r :: L, x => by
    have e := ro_pl_ev r L x
    have ih := ro_pl_root L x
    show ro_ev (L.length + 2) (ro_pl (r :: L)) x = 0 ↔ x ∈ r :: L
    rw [e, List.mem_cons]
    constructor
    · intro h
      rcases ro_nz h with q | q
      · left; grind
      · right; exact ih.mp q
    · rintro (q | q)
      · rw [q]; grind
      · rw [ih.mpr q]; grind
/-- one with as many different roots as its degree is their product -/
theorem ro_pl_of {d : Nat} {g : Nat → ro_K} (h1 : g d = 1) (h0 : ∀ i, d < i → g i = 0) {L : List ro_K} (hL : L.Nodup) (hl : L.length = d) (hr : ∀ a ∈ L, ro_ev (d + 1) g a = 0) : ∀ i, g i = ro_pl L i := by
  subst hl
  have hz := ro_count L.length (fun i => g i - ro_pl L i) L hL (Nat.le_refl _) (fun a ha => by
    have e : ro_ev (L.length + 1) (fun i => g i - ro_pl L i) a = 0 := by
      rw [ro_ev_sub, hr a ha, (ro_pl_root L a).mpr ha]; grind
    rw [ro_ev_more L.length (L.length + 1) a (by omega)] at e
    · exact e
    · intro i hi
      by_cases q : i = L.length
      · subst q; rw [h1, ro_pl_1]; grind
      · rw [h0 i (by omega), ro_pl_0 L i (by omega)]; grind)
  intro i
  rcases Nat.lt_or_ge i L.length with q | q
  · have := hz i q
    grind
  · by_cases q2 : i = L.length
    · subst q2; rw [h1, ro_pl_1]
    · rw [h0 i (by omega), ro_pl_0 L i (by omega)]
/-- all the numbers -/
def ro_all : List ro_K := (List.range 32003).map (fun n : Nat => ro_k (n : Int))
theorem ro_all_len : ro_all.length = 32003 := by unfold ro_all; rw [List.length_map, List.length_range]
theorem ro_all_mem (x : ro_K) : x ∈ ro_all := List.mem_map.mpr ⟨x.val, List.mem_range.mpr x.isLt, ro_k_back x⟩
theorem ro_all_nodup : ro_all.Nodup := by
  unfold ro_all List.Nodup
  rw [List.pairwise_map]
  refine List.Pairwise.imp_of_mem ?_ List.nodup_range
  intro a b ha hb hab q
  rw [List.mem_range] at ha hb
  have := ro_k_inj (by omega) (by omega) (by omega) (by omega) q
  omega
/-- x to the p, less x -/
def ro_xp : Nat → ro_K := fun i => if i = 32003 then 1 else if i = 1 then -1 else 0
/-- x to the n -/
def ro_xn (n : Nat) : Nat → ro_K := fun i => if i = n then 1 else 0
theorem ro_xn_s (n i : Nat) : ro_xn (n + 1) i = ro_sh (ro_xn n) i := by
  cases i with
  | zero => show (if 0 = n + 1 then (1 : ro_K) else 0) = 0; rw [if_neg (by omega)]
  | succ j =>
    rw [ro_sh_s]
    show (if j + 1 = n + 1 then (1 : ro_K) else 0) = if j = n then 1 else 0
    by_cases h : j = n
    · rw [if_pos h, if_pos (by omega)]
    · rw [if_neg h, if_neg (by omega)]
theorem ro_ev_xn (x : ro_K) : ∀ (n m : Nat), n < m → ro_ev m (ro_xn n) x = ro_pw x n
  | 0, m, h => by
    obtain ⟨k, rfl⟩ : ∃ k, m = k + 1 := ⟨m - 1, by omega⟩
    rw [ro_ev_s, ro_ev_zero k x (fun i _ => by show (if i + 1 = 0 then (1 : ro_K) else 0) = 0; rw [if_neg (by omega)])]
    show (1 : ro_K) + x * 0 = 1
    grind
  | n + 1, m, h => by
    obtain ⟨k, rfl⟩ : ∃ k, m = k + 1 := ⟨m - 1, by omega⟩
    rw [ro_ev_congr (k + 1) x (fun i _ => ro_xn_s n i), ro_ev_sh, ro_ev_xn x n k (by omega)]
    show x * ro_pw x n = ro_pw x n * x
    grind
theorem ro_xp_root (x : ro_K) : ro_ev (32003 + 1) ro_xp x = 0 := by
  have e : ro_ev (32003 + 1) ro_xp x = ro_ev (32003 + 1) (fun i => ro_xn 32003 i - ro_xn 1 i) x := ro_ev_congr _ x (fun i _ => by
    show (if i = 32003 then (1 : ro_K) else if i = 1 then -1 else 0) = (if i = 32003 then 1 else 0) - (if i = 1 then 1 else 0)
    by_cases h : i = 32003
    · rw [if_pos h, if_pos h, if_neg (by omega)]; grind
    · rw [if_neg h, if_neg h]
      by_cases h1 : i = 1
      · rw [if_pos h1, if_pos h1]; grind
      · rw [if_neg h1, if_neg h1]; grind)
  rw [e, ro_ev_sub, ro_ev_xn x 32003 _ (by omega), ro_ev_xn x 1 _ (by omega), ro_pw_p, ro_pw_1]
  grind
/-- a part of x to the p less x is the product over its different roots -/
theorem ro_xp_split {d : Nat} {g : Nat → ro_K} (h1 : g d = 1) (h0 : ∀ i, d < i → g i = 0) (hdv : ro_dv g ro_xp) : ∃ L : List ro_K, L.Nodup ∧ L.length = d ∧ (∀ i, g i = ro_pl L i) := by
  have hs := ro_split (N := 32003) (F := ro_xp) rfl (fun i hi => by
    show (if i = 32003 then (1 : ro_K) else if i = 1 then -1 else 0) = 0
    rw [if_neg (by omega), if_neg (by omega)]) h1 h0 hdv ro_all_nodup ro_all_len (fun a _ => ro_xp_root a)
  refine ⟨_, List.Nodup.sublist List.filter_sublist ro_all_nodup, hs, ?_⟩
  exact ro_pl_of h1 h0 (List.Nodup.sublist List.filter_sublist ro_all_nodup) hs (fun a ha => by
    have := (List.mem_filter.mp ha).2
    simpa using this)
end
section
theorem d_R_init_0 : decode c_R_init 0 = .ok (.aload_n 0, 1) := by decide +kernel
theorem d_R_init_1 : decode c_R_init 1 = .ok (.invokespecial 3, 3) := by decide +kernel
theorem d_R_init_4 : decode c_R_init 4 = .ok (.aload_n 0, 1) := by decide +kernel
theorem d_R_init_5 : decode c_R_init 5 = .ok (.iconst 4, 1) := by decide +kernel
theorem d_R_init_6 : decode c_R_init 6 = .ok (.newarray .long, 2) := by decide +kernel
theorem d_R_init_8 : decode c_R_init 8 = .ok (.putfield 9, 3) := by decide +kernel
theorem d_R_init_11 : decode c_R_init 11 = .ok (.aload_n 0, 1) := by decide +kernel
theorem d_R_init_12 : decode c_R_init 12 = .ok (.iconst 0, 1) := by decide +kernel
theorem d_R_init_13 : decode c_R_init 13 = .ok (.putfield 15, 3) := by decide +kernel
theorem d_R_init_16 : decode c_R_init 16 = .ok (.aload_n 0, 1) := by decide +kernel
theorem d_R_init_17 : decode c_R_init 17 = .ok (.iconst 5, 1) := by decide +kernel
theorem d_R_init_18 : decode c_R_init 18 = .ok (.newarray .long, 2) := by decide +kernel
theorem d_R_init_20 : decode c_R_init 20 = .ok (.putfield 19, 3) := by decide +kernel
theorem d_R_init_23 : decode c_R_init 23 = .ok (.aload_n 0, 1) := by decide +kernel
theorem d_R_init_24 : decode c_R_init 24 = .ok (.iconst 5, 1) := by decide +kernel
theorem d_R_init_25 : decode c_R_init 25 = .ok (.newarray .long, 2) := by decide +kernel
theorem d_R_init_27 : decode c_R_init 27 = .ok (.putfield 22, 3) := by decide +kernel
theorem d_R_init_30 : decode c_R_init 30 = .ok (.aload_n 0, 1) := by decide +kernel
theorem d_R_init_31 : decode c_R_init 31 = .ok (.iconst 5, 1) := by decide +kernel
theorem d_R_init_32 : decode c_R_init 32 = .ok (.newarray .long, 2) := by decide +kernel
theorem d_R_init_34 : decode c_R_init 34 = .ok (.putfield 25, 3) := by decide +kernel
theorem d_R_init_37 : decode c_R_init 37 = .ok (.aload_n 0, 1) := by decide +kernel
theorem d_R_init_38 : decode c_R_init 38 = .ok (.bipush 8, 2) := by decide +kernel
theorem d_R_init_40 : decode c_R_init 40 = .ok (.newarray .long, 2) := by decide +kernel
theorem d_R_init_42 : decode c_R_init 42 = .ok (.putfield 28, 3) := by decide +kernel
theorem d_R_init_45 : decode c_R_init 45 = .ok (.aload_n 0, 1) := by decide +kernel
theorem d_R_init_46 : decode c_R_init 46 = .ok (.iconst 5, 1) := by decide +kernel
theorem d_R_init_47 : decode c_R_init 47 = .ok (.newarray .long, 2) := by decide +kernel
theorem d_R_init_49 : decode c_R_init 49 = .ok (.putfield 31, 3) := by decide +kernel
theorem d_R_init_52 : decode c_R_init 52 = .ok (.aload_n 0, 1) := by decide +kernel
theorem d_R_init_53 : decode c_R_init 53 = .ok (.iconst 5, 1) := by decide +kernel
theorem d_R_init_54 : decode c_R_init 54 = .ok (.newarray .long, 2) := by decide +kernel
theorem d_R_init_56 : decode c_R_init 56 = .ok (.putfield 34, 3) := by decide +kernel
theorem d_R_init_59 : decode c_R_init 59 = .ok (.return_, 1) := by decide +kernel
theorem d_R_howMany_0 : decode c_R_howMany 0 = .ok (.aload_n 0, 1) := by decide +kernel
theorem d_R_howMany_1 : decode c_R_howMany 1 = .ok (.getfield 15, 3) := by decide +kernel
theorem d_R_howMany_4 : decode c_R_howMany 4 = .ok (.ireturn, 1) := by decide +kernel
theorem d_R_orNone_0 : decode c_R_orNone 0 = .ok (.iload_n 1, 1) := by decide +kernel
theorem d_R_orNone_1 : decode c_R_orNone 1 = .ok (.ifCond .lt 11, 3) := by decide +kernel
theorem d_R_orNone_4 : decode c_R_orNone 4 = .ok (.iload_n 1, 1) := by decide +kernel
theorem d_R_orNone_5 : decode c_R_orNone 5 = .ok (.aload_n 0, 1) := by decide +kernel
theorem d_R_orNone_6 : decode c_R_orNone 6 = .ok (.getfield 15, 3) := by decide +kernel
theorem d_R_orNone_9 : decode c_R_orNone 9 = .ok (.if_icmp .lt 7, 3) := by decide +kernel
theorem d_R_orNone_12 : decode c_R_orNone 12 = .ok (.iconst (-1), 1) := by decide +kernel
theorem d_R_orNone_13 : decode c_R_orNone 13 = .ok (.goto 10, 3) := by decide +kernel
theorem d_R_orNone_16 : decode c_R_orNone 16 = .ok (.aload_n 0, 1) := by decide +kernel
theorem d_R_orNone_17 : decode c_R_orNone 17 = .ok (.getfield 9, 3) := by decide +kernel
theorem d_R_orNone_20 : decode c_R_orNone 20 = .ok (.iload_n 1, 1) := by decide +kernel
theorem d_R_orNone_21 : decode c_R_orNone 21 = .ok (.laload, 1) := by decide +kernel
theorem d_R_orNone_22 : decode c_R_orNone 22 = .ok (.l2i, 1) := by decide +kernel
theorem d_R_orNone_23 : decode c_R_orNone 23 = .ok (.ireturn, 1) := by decide +kernel
theorem d_R_find_0 : decode c_R_find 0 = .ok (.aload_n 0, 1) := by decide +kernel
theorem d_R_find_1 : decode c_R_find 1 = .ok (.iconst 0, 1) := by decide +kernel
theorem d_R_find_2 : decode c_R_find 2 = .ok (.putfield 15, 3) := by decide +kernel
theorem d_R_find_5 : decode c_R_find 5 = .ok (.aload_n 1, 1) := by decide +kernel
theorem d_R_find_6 : decode c_R_find 6 = .ok (.invokestatic 37, 3) := by decide +kernel
theorem d_R_find_9 : decode c_R_find 9 = .ok (.iconst 1, 1) := by decide +kernel
theorem d_R_find_10 : decode c_R_find 10 = .ok (.if_icmp .ge 4, 3) := by decide +kernel
theorem d_R_find_13 : decode c_R_find 13 = .ok (.return_, 1) := by decide +kernel
theorem d_R_find_14 : decode c_R_find 14 = .ok (.aload_n 1, 1) := by decide +kernel
theorem d_R_find_15 : decode c_R_find 15 = .ok (.aload_n 0, 1) := by decide +kernel
theorem d_R_find_16 : decode c_R_find 16 = .ok (.getfield 19, 3) := by decide +kernel
theorem d_R_find_19 : decode c_R_find 19 = .ok (.invokestatic 41, 3) := by decide +kernel
theorem d_R_find_22 : decode c_R_find 22 = .ok (.aload_n 0, 1) := by decide +kernel
theorem d_R_find_23 : decode c_R_find 23 = .ok (.getfield 19, 3) := by decide +kernel
theorem d_R_find_26 : decode c_R_find 26 = .ok (.invokestatic 45, 3) := by decide +kernel
theorem d_R_find_29 : decode c_R_find 29 = .ok (.aload_n 0, 1) := by decide +kernel
theorem d_R_find_30 : decode c_R_find 30 = .ok (.invokevirtual 49, 3) := by decide +kernel
theorem d_R_find_33 : decode c_R_find 33 = .ok (.aload_n 0, 1) := by decide +kernel
theorem d_R_find_34 : decode c_R_find 34 = .ok (.getfield 19, 3) := by decide +kernel
theorem d_R_find_37 : decode c_R_find 37 = .ok (.invokestatic 37, 3) := by decide +kernel
theorem d_R_find_40 : decode c_R_find 40 = .ok (.istore_n 2, 1) := by decide +kernel
theorem d_R_find_41 : decode c_R_find 41 = .ok (.iload_n 2, 1) := by decide +kernel
theorem d_R_find_42 : decode c_R_find 42 = .ok (.ifCond .le 24, 3) := by decide +kernel
theorem d_R_find_45 : decode c_R_find 45 = .ok (.aload_n 0, 1) := by decide +kernel
theorem d_R_find_46 : decode c_R_find 46 = .ok (.invokevirtual 52, 3) := by decide +kernel
theorem d_R_find_49 : decode c_R_find 49 = .ok (.lstore_n 3, 1) := by decide +kernel
theorem d_R_find_50 : decode c_R_find 50 = .ok (.aload_n 0, 1) := by decide +kernel
theorem d_R_find_51 : decode c_R_find 51 = .ok (.lload_n 3, 1) := by decide +kernel
theorem d_R_find_52 : decode c_R_find 52 = .ok (.invokevirtual 56, 3) := by decide +kernel
theorem d_R_find_55 : decode c_R_find 55 = .ok (.aload_n 0, 1) := by decide +kernel
theorem d_R_find_56 : decode c_R_find 56 = .ok (.lload_n 3, 1) := by decide +kernel
theorem d_R_find_57 : decode c_R_find 57 = .ok (.invokevirtual 60, 3) := by decide +kernel
theorem d_R_find_60 : decode c_R_find 60 = .ok (.iinc 2 (-1), 3) := by decide +kernel
theorem d_R_find_63 : decode c_R_find 63 = .ok (.goto (-22), 3) := by decide +kernel
theorem d_R_find_66 : decode c_R_find 66 = .ok (.return_, 1) := by decide +kernel
theorem d_R_keepRootsOnce_0 : decode c_R_keepRootsOnce 0 = .ok (.aload_n 0, 1) := by decide +kernel
theorem d_R_keepRootsOnce_1 : decode c_R_keepRootsOnce 1 = .ok (.lconst 0, 1) := by decide +kernel
theorem d_R_keepRootsOnce_2 : decode c_R_keepRootsOnce 2 = .ok (.sipush 32003, 3) := by decide +kernel
theorem d_R_keepRootsOnce_5 : decode c_R_keepRootsOnce 5 = .ok (.aload_n 0, 1) := by decide +kernel
theorem d_R_keepRootsOnce_6 : decode c_R_keepRootsOnce 6 = .ok (.getfield 19, 3) := by decide +kernel
theorem d_R_keepRootsOnce_9 : decode c_R_keepRootsOnce 9 = .ok (.invokevirtual 63, 3) := by decide +kernel
theorem d_R_keepRootsOnce_12 : decode c_R_keepRootsOnce 12 = .ok (.aload_n 0, 1) := by decide +kernel
theorem d_R_keepRootsOnce_13 : decode c_R_keepRootsOnce 13 = .ok (.getfield 25, 3) := by decide +kernel
theorem d_R_keepRootsOnce_16 : decode c_R_keepRootsOnce 16 = .ok (.iconst 1, 1) := by decide +kernel
theorem d_R_keepRootsOnce_17 : decode c_R_keepRootsOnce 17 = .ok (.aload_n 0, 1) := by decide +kernel
theorem d_R_keepRootsOnce_18 : decode c_R_keepRootsOnce 18 = .ok (.getfield 25, 3) := by decide +kernel
theorem d_R_keepRootsOnce_21 : decode c_R_keepRootsOnce 21 = .ok (.iconst 1, 1) := by decide +kernel
theorem d_R_keepRootsOnce_22 : decode c_R_keepRootsOnce 22 = .ok (.laload, 1) := by decide +kernel
theorem d_R_keepRootsOnce_23 : decode c_R_keepRootsOnce 23 = .ok (.lconst 1, 1) := by decide +kernel
theorem d_R_keepRootsOnce_24 : decode c_R_keepRootsOnce 24 = .ok (.lsub, 1) := by decide +kernel
theorem d_R_keepRootsOnce_25 : decode c_R_keepRootsOnce 25 = .ok (.invokestatic 67, 3) := by decide +kernel
theorem d_R_keepRootsOnce_28 : decode c_R_keepRootsOnce 28 = .ok (.lastore, 1) := by decide +kernel
theorem d_R_keepRootsOnce_29 : decode c_R_keepRootsOnce 29 = .ok (.aload_n 0, 1) := by decide +kernel
theorem d_R_keepRootsOnce_30 : decode c_R_keepRootsOnce 30 = .ok (.aload_n 0, 1) := by decide +kernel
theorem d_R_keepRootsOnce_31 : decode c_R_keepRootsOnce 31 = .ok (.getfield 19, 3) := by decide +kernel
theorem d_R_keepRootsOnce_34 : decode c_R_keepRootsOnce 34 = .ok (.invokevirtual 71, 3) := by decide +kernel
theorem d_R_keepRootsOnce_37 : decode c_R_keepRootsOnce 37 = .ok (.aload_n 0, 1) := by decide +kernel
theorem d_R_keepRootsOnce_38 : decode c_R_keepRootsOnce 38 = .ok (.getfield 19, 3) := by decide +kernel
theorem d_R_keepRootsOnce_41 : decode c_R_keepRootsOnce 41 = .ok (.invokestatic 41, 3) := by decide +kernel
theorem d_R_keepRootsOnce_44 : decode c_R_keepRootsOnce 44 = .ok (.return_, 1) := by decide +kernel
theorem d_R_oneRoot_0 : decode c_R_oneRoot 0 = .ok (.aload_n 0, 1) := by decide +kernel
theorem d_R_oneRoot_1 : decode c_R_oneRoot 1 = .ok (.getfield 19, 3) := by decide +kernel
theorem d_R_oneRoot_4 : decode c_R_oneRoot 4 = .ok (.aload_n 0, 1) := by decide +kernel
theorem d_R_oneRoot_5 : decode c_R_oneRoot 5 = .ok (.getfield 22, 3) := by decide +kernel
theorem d_R_oneRoot_8 : decode c_R_oneRoot 8 = .ok (.invokestatic 41, 3) := by decide +kernel
theorem d_R_oneRoot_11 : decode c_R_oneRoot 11 = .ok (.iconst 0, 1) := by decide +kernel
theorem d_R_oneRoot_12 : decode c_R_oneRoot 12 = .ok (.istore_n 1, 1) := by decide +kernel
theorem d_R_oneRoot_13 : decode c_R_oneRoot 13 = .ok (.iload_n 1, 1) := by decide +kernel
theorem d_R_oneRoot_14 : decode c_R_oneRoot 14 = .ok (.sipush 32003, 3) := by decide +kernel
theorem d_R_oneRoot_17 : decode c_R_oneRoot 17 = .ok (.if_icmp .ge 74, 3) := by decide +kernel
theorem d_R_oneRoot_20 : decode c_R_oneRoot 20 = .ok (.aload_n 0, 1) := by decide +kernel
theorem d_R_oneRoot_21 : decode c_R_oneRoot 21 = .ok (.getfield 22, 3) := by decide +kernel
theorem d_R_oneRoot_24 : decode c_R_oneRoot 24 = .ok (.invokestatic 37, 3) := by decide +kernel
theorem d_R_oneRoot_27 : decode c_R_oneRoot 27 = .ok (.iconst 1, 1) := by decide +kernel
theorem d_R_oneRoot_28 : decode c_R_oneRoot 28 = .ok (.if_icmp .le 63, 3) := by decide +kernel
theorem d_R_oneRoot_31 : decode c_R_oneRoot 31 = .ok (.aload_n 0, 1) := by decide +kernel
theorem d_R_oneRoot_32 : decode c_R_oneRoot 32 = .ok (.iload_n 1, 1) := by decide +kernel
theorem d_R_oneRoot_33 : decode c_R_oneRoot 33 = .ok (.i2l, 1) := by decide +kernel
theorem d_R_oneRoot_34 : decode c_R_oneRoot 34 = .ok (.sipush 16001, 3) := by decide +kernel
theorem d_R_oneRoot_37 : decode c_R_oneRoot 37 = .ok (.aload_n 0, 1) := by decide +kernel
theorem d_R_oneRoot_38 : decode c_R_oneRoot 38 = .ok (.getfield 22, 3) := by decide +kernel
theorem d_R_oneRoot_41 : decode c_R_oneRoot 41 = .ok (.invokevirtual 63, 3) := by decide +kernel
theorem d_R_oneRoot_44 : decode c_R_oneRoot 44 = .ok (.aload_n 0, 1) := by decide +kernel
theorem d_R_oneRoot_45 : decode c_R_oneRoot 45 = .ok (.getfield 25, 3) := by decide +kernel
theorem d_R_oneRoot_48 : decode c_R_oneRoot 48 = .ok (.iconst 0, 1) := by decide +kernel
theorem d_R_oneRoot_49 : decode c_R_oneRoot 49 = .ok (.aload_n 0, 1) := by decide +kernel
theorem d_R_oneRoot_50 : decode c_R_oneRoot 50 = .ok (.getfield 25, 3) := by decide +kernel
theorem d_R_oneRoot_53 : decode c_R_oneRoot 53 = .ok (.iconst 0, 1) := by decide +kernel
theorem d_R_oneRoot_54 : decode c_R_oneRoot 54 = .ok (.laload, 1) := by decide +kernel
theorem d_R_oneRoot_55 : decode c_R_oneRoot 55 = .ok (.lconst 1, 1) := by decide +kernel
theorem d_R_oneRoot_56 : decode c_R_oneRoot 56 = .ok (.lsub, 1) := by decide +kernel
theorem d_R_oneRoot_57 : decode c_R_oneRoot 57 = .ok (.invokestatic 67, 3) := by decide +kernel
theorem d_R_oneRoot_60 : decode c_R_oneRoot 60 = .ok (.lastore, 1) := by decide +kernel
theorem d_R_oneRoot_61 : decode c_R_oneRoot 61 = .ok (.aload_n 0, 1) := by decide +kernel
theorem d_R_oneRoot_62 : decode c_R_oneRoot 62 = .ok (.aload_n 0, 1) := by decide +kernel
theorem d_R_oneRoot_63 : decode c_R_oneRoot 63 = .ok (.getfield 22, 3) := by decide +kernel
theorem d_R_oneRoot_66 : decode c_R_oneRoot 66 = .ok (.invokevirtual 71, 3) := by decide +kernel
theorem d_R_oneRoot_69 : decode c_R_oneRoot 69 = .ok (.astore_n 2, 1) := by decide +kernel
theorem d_R_oneRoot_70 : decode c_R_oneRoot 70 = .ok (.aload_n 2, 1) := by decide +kernel
theorem d_R_oneRoot_71 : decode c_R_oneRoot 71 = .ok (.invokestatic 37, 3) := by decide +kernel
theorem d_R_oneRoot_74 : decode c_R_oneRoot 74 = .ok (.ifCond .le 11, 3) := by decide +kernel
theorem d_R_oneRoot_77 : decode c_R_oneRoot 77 = .ok (.aload_n 2, 1) := by decide +kernel
theorem d_R_oneRoot_78 : decode c_R_oneRoot 78 = .ok (.aload_n 0, 1) := by decide +kernel
theorem d_R_oneRoot_79 : decode c_R_oneRoot 79 = .ok (.getfield 22, 3) := by decide +kernel
theorem d_R_oneRoot_82 : decode c_R_oneRoot 82 = .ok (.invokestatic 41, 3) := by decide +kernel
theorem d_R_oneRoot_85 : decode c_R_oneRoot 85 = .ok (.iinc 1 1, 3) := by decide +kernel
theorem d_R_oneRoot_88 : decode c_R_oneRoot 88 = .ok (.goto (-75), 3) := by decide +kernel
theorem d_R_oneRoot_91 : decode c_R_oneRoot 91 = .ok (.aload_n 0, 1) := by decide +kernel
theorem d_R_oneRoot_92 : decode c_R_oneRoot 92 = .ok (.getfield 22, 3) := by decide +kernel
theorem d_R_oneRoot_95 : decode c_R_oneRoot 95 = .ok (.iconst 0, 1) := by decide +kernel
theorem d_R_oneRoot_96 : decode c_R_oneRoot 96 = .ok (.laload, 1) := by decide +kernel
theorem d_R_oneRoot_97 : decode c_R_oneRoot 97 = .ok (.lneg, 1) := by decide +kernel
theorem d_R_oneRoot_98 : decode c_R_oneRoot 98 = .ok (.invokestatic 67, 3) := by decide +kernel
theorem d_R_oneRoot_101 : decode c_R_oneRoot 101 = .ok (.lreturn, 1) := by decide +kernel
theorem d_R_insert_0 : decode c_R_insert 0 = .ok (.aload_n 0, 1) := by decide +kernel
theorem d_R_insert_1 : decode c_R_insert 1 = .ok (.getfield 15, 3) := by decide +kernel
theorem d_R_insert_4 : decode c_R_insert 4 = .ok (.aload_n 0, 1) := by decide +kernel
theorem d_R_insert_5 : decode c_R_insert 5 = .ok (.getfield 9, 3) := by decide +kernel
theorem d_R_insert_8 : decode c_R_insert 8 = .ok (.arraylength, 1) := by decide +kernel
theorem d_R_insert_9 : decode c_R_insert 9 = .ok (.if_icmp .lt 4, 3) := by decide +kernel
theorem d_R_insert_12 : decode c_R_insert 12 = .ok (.return_, 1) := by decide +kernel
theorem d_R_insert_13 : decode c_R_insert 13 = .ok (.aload_n 0, 1) := by decide +kernel
theorem d_R_insert_14 : decode c_R_insert 14 = .ok (.getfield 15, 3) := by decide +kernel
theorem d_R_insert_17 : decode c_R_insert 17 = .ok (.istore_n 3, 1) := by decide +kernel
theorem d_R_insert_18 : decode c_R_insert 18 = .ok (.iload_n 3, 1) := by decide +kernel
theorem d_R_insert_19 : decode c_R_insert 19 = .ok (.ifCond .le 36, 3) := by decide +kernel
theorem d_R_insert_22 : decode c_R_insert 22 = .ok (.aload_n 0, 1) := by decide +kernel
theorem d_R_insert_23 : decode c_R_insert 23 = .ok (.getfield 9, 3) := by decide +kernel
theorem d_R_insert_26 : decode c_R_insert 26 = .ok (.iload_n 3, 1) := by decide +kernel
theorem d_R_insert_27 : decode c_R_insert 27 = .ok (.iconst 1, 1) := by decide +kernel
theorem d_R_insert_28 : decode c_R_insert 28 = .ok (.isub, 1) := by decide +kernel
theorem d_R_insert_29 : decode c_R_insert 29 = .ok (.laload, 1) := by decide +kernel
theorem d_R_insert_30 : decode c_R_insert 30 = .ok (.lload_n 1, 1) := by decide +kernel
theorem d_R_insert_31 : decode c_R_insert 31 = .ok (.lcmp, 1) := by decide +kernel
theorem d_R_insert_32 : decode c_R_insert 32 = .ok (.ifCond .le 23, 3) := by decide +kernel
theorem d_R_insert_35 : decode c_R_insert 35 = .ok (.aload_n 0, 1) := by decide +kernel
theorem d_R_insert_36 : decode c_R_insert 36 = .ok (.getfield 9, 3) := by decide +kernel
theorem d_R_insert_39 : decode c_R_insert 39 = .ok (.iload_n 3, 1) := by decide +kernel
theorem d_R_insert_40 : decode c_R_insert 40 = .ok (.aload_n 0, 1) := by decide +kernel
theorem d_R_insert_41 : decode c_R_insert 41 = .ok (.getfield 9, 3) := by decide +kernel
theorem d_R_insert_44 : decode c_R_insert 44 = .ok (.iload_n 3, 1) := by decide +kernel
theorem d_R_insert_45 : decode c_R_insert 45 = .ok (.iconst 1, 1) := by decide +kernel
theorem d_R_insert_46 : decode c_R_insert 46 = .ok (.isub, 1) := by decide +kernel
theorem d_R_insert_47 : decode c_R_insert 47 = .ok (.laload, 1) := by decide +kernel
theorem d_R_insert_48 : decode c_R_insert 48 = .ok (.lastore, 1) := by decide +kernel
theorem d_R_insert_49 : decode c_R_insert 49 = .ok (.iinc 3 (-1), 3) := by decide +kernel
theorem d_R_insert_52 : decode c_R_insert 52 = .ok (.goto (-34), 3) := by decide +kernel
theorem d_R_insert_55 : decode c_R_insert 55 = .ok (.aload_n 0, 1) := by decide +kernel
theorem d_R_insert_56 : decode c_R_insert 56 = .ok (.getfield 9, 3) := by decide +kernel
theorem d_R_insert_59 : decode c_R_insert 59 = .ok (.iload_n 3, 1) := by decide +kernel
theorem d_R_insert_60 : decode c_R_insert 60 = .ok (.lload_n 1, 1) := by decide +kernel
theorem d_R_insert_61 : decode c_R_insert 61 = .ok (.lastore, 1) := by decide +kernel
theorem d_R_insert_62 : decode c_R_insert 62 = .ok (.aload_n 0, 1) := by decide +kernel
theorem d_R_insert_63 : decode c_R_insert 63 = .ok (.dup, 1) := by decide +kernel
theorem d_R_insert_64 : decode c_R_insert 64 = .ok (.getfield 15, 3) := by decide +kernel
theorem d_R_insert_67 : decode c_R_insert 67 = .ok (.iconst 1, 1) := by decide +kernel
theorem d_R_insert_68 : decode c_R_insert 68 = .ok (.iadd, 1) := by decide +kernel
theorem d_R_insert_69 : decode c_R_insert 69 = .ok (.putfield 15, 3) := by decide +kernel
theorem d_R_insert_72 : decode c_R_insert 72 = .ok (.return_, 1) := by decide +kernel
theorem d_R_divideOut_0 : decode c_R_divideOut 0 = .ok (.lconst 0, 1) := by decide +kernel
theorem d_R_divideOut_1 : decode c_R_divideOut 1 = .ok (.lstore_n 3, 1) := by decide +kernel
theorem d_R_divideOut_2 : decode c_R_divideOut 2 = .ok (.iconst 4, 1) := by decide +kernel
theorem d_R_divideOut_3 : decode c_R_divideOut 3 = .ok (.istore 5, 2) := by decide +kernel
theorem d_R_divideOut_5 : decode c_R_divideOut 5 = .ok (.iload 5, 2) := by decide +kernel
theorem d_R_divideOut_7 : decode c_R_divideOut 7 = .ok (.ifCond .lt 37, 3) := by decide +kernel
theorem d_R_divideOut_10 : decode c_R_divideOut 10 = .ok (.aload_n 0, 1) := by decide +kernel
theorem d_R_divideOut_11 : decode c_R_divideOut 11 = .ok (.getfield 19, 3) := by decide +kernel
theorem d_R_divideOut_14 : decode c_R_divideOut 14 = .ok (.iload 5, 2) := by decide +kernel
theorem d_R_divideOut_16 : decode c_R_divideOut 16 = .ok (.laload, 1) := by decide +kernel
theorem d_R_divideOut_17 : decode c_R_divideOut 17 = .ok (.lload_n 3, 1) := by decide +kernel
theorem d_R_divideOut_18 : decode c_R_divideOut 18 = .ok (.lload_n 1, 1) := by decide +kernel
theorem d_R_divideOut_19 : decode c_R_divideOut 19 = .ok (.lmul, 1) := by decide +kernel
theorem d_R_divideOut_20 : decode c_R_divideOut 20 = .ok (.ladd, 1) := by decide +kernel
theorem d_R_divideOut_21 : decode c_R_divideOut 21 = .ok (.ldc2_w 75, 3) := by decide +kernel
theorem d_R_divideOut_24 : decode c_R_divideOut 24 = .ok (.lrem, 1) := by decide +kernel
theorem d_R_divideOut_25 : decode c_R_divideOut 25 = .ok (.lstore 6, 2) := by decide +kernel
theorem d_R_divideOut_27 : decode c_R_divideOut 27 = .ok (.aload_n 0, 1) := by decide +kernel
theorem d_R_divideOut_28 : decode c_R_divideOut 28 = .ok (.getfield 19, 3) := by decide +kernel
theorem d_R_divideOut_31 : decode c_R_divideOut 31 = .ok (.iload 5, 2) := by decide +kernel
theorem d_R_divideOut_33 : decode c_R_divideOut 33 = .ok (.lload_n 3, 1) := by decide +kernel
theorem d_R_divideOut_34 : decode c_R_divideOut 34 = .ok (.lastore, 1) := by decide +kernel
theorem d_R_divideOut_35 : decode c_R_divideOut 35 = .ok (.lload 6, 2) := by decide +kernel
theorem d_R_divideOut_37 : decode c_R_divideOut 37 = .ok (.lstore_n 3, 1) := by decide +kernel
theorem d_R_divideOut_38 : decode c_R_divideOut 38 = .ok (.iinc 5 (-1), 3) := by decide +kernel
theorem d_R_divideOut_41 : decode c_R_divideOut 41 = .ok (.goto (-36), 3) := by decide +kernel
theorem d_R_divideOut_44 : decode c_R_divideOut 44 = .ok (.return_, 1) := by decide +kernel
theorem d_R_raise_0 : decode c_R_raise 0 = .ok (.aload 4, 2) := by decide +kernel
theorem d_R_raise_2 : decode c_R_raise 2 = .ok (.invokestatic 37, 3) := by decide +kernel
theorem d_R_raise_5 : decode c_R_raise 5 = .ok (.istore 5, 2) := by decide +kernel
theorem d_R_raise_7 : decode c_R_raise 7 = .ok (.aload_n 0, 1) := by decide +kernel
theorem d_R_raise_8 : decode c_R_raise 8 = .ok (.getfield 25, 3) := by decide +kernel
theorem d_R_raise_11 : decode c_R_raise 11 = .ok (.lconst 0, 1) := by decide +kernel
theorem d_R_raise_12 : decode c_R_raise 12 = .ok (.invokestatic 77, 3) := by decide +kernel
theorem d_R_raise_15 : decode c_R_raise 15 = .ok (.aload_n 0, 1) := by decide +kernel
theorem d_R_raise_16 : decode c_R_raise 16 = .ok (.getfield 25, 3) := by decide +kernel
theorem d_R_raise_19 : decode c_R_raise 19 = .ok (.iconst 0, 1) := by decide +kernel
theorem d_R_raise_20 : decode c_R_raise 20 = .ok (.lconst 1, 1) := by decide +kernel
theorem d_R_raise_21 : decode c_R_raise 21 = .ok (.lastore, 1) := by decide +kernel
theorem d_R_raise_22 : decode c_R_raise 22 = .ok (.bipush 14, 2) := by decide +kernel
theorem d_R_raise_24 : decode c_R_raise 24 = .ok (.istore 6, 2) := by decide +kernel
theorem d_R_raise_26 : decode c_R_raise 26 = .ok (.iload 6, 2) := by decide +kernel
theorem d_R_raise_28 : decode c_R_raise 28 = .ok (.ifCond .lt 50, 3) := by decide +kernel
theorem d_R_raise_31 : decode c_R_raise 31 = .ok (.aload_n 0, 1) := by decide +kernel
theorem d_R_raise_32 : decode c_R_raise 32 = .ok (.iload 5, 2) := by decide +kernel
theorem d_R_raise_34 : decode c_R_raise 34 = .ok (.invokevirtual 83, 3) := by decide +kernel
theorem d_R_raise_37 : decode c_R_raise 37 = .ok (.iload_n 3, 1) := by decide +kernel
theorem d_R_raise_38 : decode c_R_raise 38 = .ok (.iload 6, 2) := by decide +kernel
theorem d_R_raise_40 : decode c_R_raise 40 = .ok (.ishr, 1) := by decide +kernel
theorem d_R_raise_41 : decode c_R_raise 41 = .ok (.iconst 1, 1) := by decide +kernel
theorem d_R_raise_42 : decode c_R_raise 42 = .ok (.iand, 1) := by decide +kernel
theorem d_R_raise_43 : decode c_R_raise 43 = .ok (.iconst 1, 1) := by decide +kernel
theorem d_R_raise_44 : decode c_R_raise 44 = .ok (.if_icmp .ne 8, 3) := by decide +kernel
theorem d_R_raise_47 : decode c_R_raise 47 = .ok (.aload_n 0, 1) := by decide +kernel
theorem d_R_raise_48 : decode c_R_raise 48 = .ok (.lload_n 1, 1) := by decide +kernel
theorem d_R_raise_49 : decode c_R_raise 49 = .ok (.invokevirtual 87, 3) := by decide +kernel
theorem d_R_raise_52 : decode c_R_raise 52 = .ok (.aload_n 0, 1) := by decide +kernel
theorem d_R_raise_53 : decode c_R_raise 53 = .ok (.getfield 28, 3) := by decide +kernel
theorem d_R_raise_56 : decode c_R_raise 56 = .ok (.aload 4, 2) := by decide +kernel
theorem d_R_raise_58 : decode c_R_raise 58 = .ok (.invokestatic 90, 3) := by decide +kernel
theorem d_R_raise_61 : decode c_R_raise 61 = .ok (.aload_n 0, 1) := by decide +kernel
theorem d_R_raise_62 : decode c_R_raise 62 = .ok (.getfield 28, 3) := by decide +kernel
theorem d_R_raise_65 : decode c_R_raise 65 = .ok (.aload_n 0, 1) := by decide +kernel
theorem d_R_raise_66 : decode c_R_raise 66 = .ok (.getfield 25, 3) := by decide +kernel
theorem d_R_raise_69 : decode c_R_raise 69 = .ok (.invokestatic 41, 3) := by decide +kernel
theorem d_R_raise_72 : decode c_R_raise 72 = .ok (.iinc 6 (-1), 3) := by decide +kernel
theorem d_R_raise_75 : decode c_R_raise 75 = .ok (.goto (-49), 3) := by decide +kernel
theorem d_R_raise_78 : decode c_R_raise 78 = .ok (.return_, 1) := by decide +kernel
theorem d_R_squareRaised_0 : decode c_R_squareRaised 0 = .ok (.aload_n 0, 1) := by decide +kernel
theorem d_R_squareRaised_1 : decode c_R_squareRaised 1 = .ok (.getfield 28, 3) := by decide +kernel
theorem d_R_squareRaised_4 : decode c_R_squareRaised 4 = .ok (.lconst 0, 1) := by decide +kernel
theorem d_R_squareRaised_5 : decode c_R_squareRaised 5 = .ok (.invokestatic 77, 3) := by decide +kernel
theorem d_R_squareRaised_8 : decode c_R_squareRaised 8 = .ok (.iconst 0, 1) := by decide +kernel
theorem d_R_squareRaised_9 : decode c_R_squareRaised 9 = .ok (.istore_n 2, 1) := by decide +kernel
theorem d_R_squareRaised_10 : decode c_R_squareRaised 10 = .ok (.iload_n 2, 1) := by decide +kernel
theorem d_R_squareRaised_11 : decode c_R_squareRaised 11 = .ok (.iload_n 1, 1) := by decide +kernel
theorem d_R_squareRaised_12 : decode c_R_squareRaised 12 = .ok (.if_icmp .ge 56, 3) := by decide +kernel
theorem d_R_squareRaised_15 : decode c_R_squareRaised 15 = .ok (.iconst 0, 1) := by decide +kernel
theorem d_R_squareRaised_16 : decode c_R_squareRaised 16 = .ok (.istore_n 3, 1) := by decide +kernel
theorem d_R_squareRaised_17 : decode c_R_squareRaised 17 = .ok (.iload_n 3, 1) := by decide +kernel
theorem d_R_squareRaised_18 : decode c_R_squareRaised 18 = .ok (.iload_n 1, 1) := by decide +kernel
theorem d_R_squareRaised_19 : decode c_R_squareRaised 19 = .ok (.if_icmp .ge 43, 3) := by decide +kernel
theorem d_R_squareRaised_22 : decode c_R_squareRaised 22 = .ok (.aload_n 0, 1) := by decide +kernel
theorem d_R_squareRaised_23 : decode c_R_squareRaised 23 = .ok (.getfield 28, 3) := by decide +kernel
theorem d_R_squareRaised_26 : decode c_R_squareRaised 26 = .ok (.iload_n 2, 1) := by decide +kernel
theorem d_R_squareRaised_27 : decode c_R_squareRaised 27 = .ok (.iload_n 3, 1) := by decide +kernel
theorem d_R_squareRaised_28 : decode c_R_squareRaised 28 = .ok (.iadd, 1) := by decide +kernel
theorem d_R_squareRaised_29 : decode c_R_squareRaised 29 = .ok (.aload_n 0, 1) := by decide +kernel
theorem d_R_squareRaised_30 : decode c_R_squareRaised 30 = .ok (.getfield 28, 3) := by decide +kernel
theorem d_R_squareRaised_33 : decode c_R_squareRaised 33 = .ok (.iload_n 2, 1) := by decide +kernel
theorem d_R_squareRaised_34 : decode c_R_squareRaised 34 = .ok (.iload_n 3, 1) := by decide +kernel
theorem d_R_squareRaised_35 : decode c_R_squareRaised 35 = .ok (.iadd, 1) := by decide +kernel
theorem d_R_squareRaised_36 : decode c_R_squareRaised 36 = .ok (.laload, 1) := by decide +kernel
theorem d_R_squareRaised_37 : decode c_R_squareRaised 37 = .ok (.aload_n 0, 1) := by decide +kernel
theorem d_R_squareRaised_38 : decode c_R_squareRaised 38 = .ok (.getfield 25, 3) := by decide +kernel
theorem d_R_squareRaised_41 : decode c_R_squareRaised 41 = .ok (.iload_n 2, 1) := by decide +kernel
theorem d_R_squareRaised_42 : decode c_R_squareRaised 42 = .ok (.laload, 1) := by decide +kernel
theorem d_R_squareRaised_43 : decode c_R_squareRaised 43 = .ok (.aload_n 0, 1) := by decide +kernel
theorem d_R_squareRaised_44 : decode c_R_squareRaised 44 = .ok (.getfield 25, 3) := by decide +kernel
theorem d_R_squareRaised_47 : decode c_R_squareRaised 47 = .ok (.iload_n 3, 1) := by decide +kernel
theorem d_R_squareRaised_48 : decode c_R_squareRaised 48 = .ok (.laload, 1) := by decide +kernel
theorem d_R_squareRaised_49 : decode c_R_squareRaised 49 = .ok (.lmul, 1) := by decide +kernel
theorem d_R_squareRaised_50 : decode c_R_squareRaised 50 = .ok (.ladd, 1) := by decide +kernel
theorem d_R_squareRaised_51 : decode c_R_squareRaised 51 = .ok (.ldc2_w 75, 3) := by decide +kernel
theorem d_R_squareRaised_54 : decode c_R_squareRaised 54 = .ok (.lrem, 1) := by decide +kernel
theorem d_R_squareRaised_55 : decode c_R_squareRaised 55 = .ok (.lastore, 1) := by decide +kernel
theorem d_R_squareRaised_56 : decode c_R_squareRaised 56 = .ok (.iinc 3 1, 3) := by decide +kernel
theorem d_R_squareRaised_59 : decode c_R_squareRaised 59 = .ok (.goto (-42), 3) := by decide +kernel
theorem d_R_squareRaised_62 : decode c_R_squareRaised 62 = .ok (.iinc 2 1, 3) := by decide +kernel
theorem d_R_squareRaised_65 : decode c_R_squareRaised 65 = .ok (.goto (-55), 3) := by decide +kernel
theorem d_R_squareRaised_68 : decode c_R_squareRaised 68 = .ok (.return_, 1) := by decide +kernel
theorem d_R_timesLine_0 : decode c_R_timesLine 0 = .ok (.aload_n 0, 1) := by decide +kernel
theorem d_R_timesLine_1 : decode c_R_timesLine 1 = .ok (.getfield 28, 3) := by decide +kernel
theorem d_R_timesLine_4 : decode c_R_timesLine 4 = .ok (.arraylength, 1) := by decide +kernel
theorem d_R_timesLine_5 : decode c_R_timesLine 5 = .ok (.iconst 1, 1) := by decide +kernel
theorem d_R_timesLine_6 : decode c_R_timesLine 6 = .ok (.isub, 1) := by decide +kernel
theorem d_R_timesLine_7 : decode c_R_timesLine 7 = .ok (.istore_n 3, 1) := by decide +kernel
theorem d_R_timesLine_8 : decode c_R_timesLine 8 = .ok (.iload_n 3, 1) := by decide +kernel
theorem d_R_timesLine_9 : decode c_R_timesLine 9 = .ok (.ifCond .le 36, 3) := by decide +kernel
theorem d_R_timesLine_12 : decode c_R_timesLine 12 = .ok (.aload_n 0, 1) := by decide +kernel
theorem d_R_timesLine_13 : decode c_R_timesLine 13 = .ok (.getfield 28, 3) := by decide +kernel
theorem d_R_timesLine_16 : decode c_R_timesLine 16 = .ok (.iload_n 3, 1) := by decide +kernel
theorem d_R_timesLine_17 : decode c_R_timesLine 17 = .ok (.aload_n 0, 1) := by decide +kernel
theorem d_R_timesLine_18 : decode c_R_timesLine 18 = .ok (.getfield 28, 3) := by decide +kernel
theorem d_R_timesLine_21 : decode c_R_timesLine 21 = .ok (.iload_n 3, 1) := by decide +kernel
theorem d_R_timesLine_22 : decode c_R_timesLine 22 = .ok (.laload, 1) := by decide +kernel
theorem d_R_timesLine_23 : decode c_R_timesLine 23 = .ok (.lload_n 1, 1) := by decide +kernel
theorem d_R_timesLine_24 : decode c_R_timesLine 24 = .ok (.lmul, 1) := by decide +kernel
theorem d_R_timesLine_25 : decode c_R_timesLine 25 = .ok (.aload_n 0, 1) := by decide +kernel
theorem d_R_timesLine_26 : decode c_R_timesLine 26 = .ok (.getfield 28, 3) := by decide +kernel
theorem d_R_timesLine_29 : decode c_R_timesLine 29 = .ok (.iload_n 3, 1) := by decide +kernel
theorem d_R_timesLine_30 : decode c_R_timesLine 30 = .ok (.iconst 1, 1) := by decide +kernel
theorem d_R_timesLine_31 : decode c_R_timesLine 31 = .ok (.isub, 1) := by decide +kernel
theorem d_R_timesLine_32 : decode c_R_timesLine 32 = .ok (.laload, 1) := by decide +kernel
theorem d_R_timesLine_33 : decode c_R_timesLine 33 = .ok (.ladd, 1) := by decide +kernel
theorem d_R_timesLine_34 : decode c_R_timesLine 34 = .ok (.ldc2_w 75, 3) := by decide +kernel
theorem d_R_timesLine_37 : decode c_R_timesLine 37 = .ok (.lrem, 1) := by decide +kernel
theorem d_R_timesLine_38 : decode c_R_timesLine 38 = .ok (.lastore, 1) := by decide +kernel
theorem d_R_timesLine_39 : decode c_R_timesLine 39 = .ok (.iinc 3 (-1), 3) := by decide +kernel
theorem d_R_timesLine_42 : decode c_R_timesLine 42 = .ok (.goto (-34), 3) := by decide +kernel
theorem d_R_timesLine_45 : decode c_R_timesLine 45 = .ok (.aload_n 0, 1) := by decide +kernel
theorem d_R_timesLine_46 : decode c_R_timesLine 46 = .ok (.getfield 28, 3) := by decide +kernel
theorem d_R_timesLine_49 : decode c_R_timesLine 49 = .ok (.iconst 0, 1) := by decide +kernel
theorem d_R_timesLine_50 : decode c_R_timesLine 50 = .ok (.aload_n 0, 1) := by decide +kernel
theorem d_R_timesLine_51 : decode c_R_timesLine 51 = .ok (.getfield 28, 3) := by decide +kernel
theorem d_R_timesLine_54 : decode c_R_timesLine 54 = .ok (.iconst 0, 1) := by decide +kernel
theorem d_R_timesLine_55 : decode c_R_timesLine 55 = .ok (.laload, 1) := by decide +kernel
theorem d_R_timesLine_56 : decode c_R_timesLine 56 = .ok (.lload_n 1, 1) := by decide +kernel
theorem d_R_timesLine_57 : decode c_R_timesLine 57 = .ok (.lmul, 1) := by decide +kernel
theorem d_R_timesLine_58 : decode c_R_timesLine 58 = .ok (.ldc2_w 75, 3) := by decide +kernel
theorem d_R_timesLine_61 : decode c_R_timesLine 61 = .ok (.lrem, 1) := by decide +kernel
theorem d_R_timesLine_62 : decode c_R_timesLine 62 = .ok (.lastore, 1) := by decide +kernel
theorem d_R_timesLine_63 : decode c_R_timesLine 63 = .ok (.return_, 1) := by decide +kernel
theorem d_R_commonWithRaised_0 : decode c_R_commonWithRaised 0 = .ok (.aload_n 1, 1) := by decide +kernel
theorem d_R_commonWithRaised_1 : decode c_R_commonWithRaised 1 = .ok (.aload_n 0, 1) := by decide +kernel
theorem d_R_commonWithRaised_2 : decode c_R_commonWithRaised 2 = .ok (.getfield 31, 3) := by decide +kernel
theorem d_R_commonWithRaised_5 : decode c_R_commonWithRaised 5 = .ok (.invokestatic 41, 3) := by decide +kernel
theorem d_R_commonWithRaised_8 : decode c_R_commonWithRaised 8 = .ok (.aload_n 0, 1) := by decide +kernel
theorem d_R_commonWithRaised_9 : decode c_R_commonWithRaised 9 = .ok (.getfield 25, 3) := by decide +kernel
theorem d_R_commonWithRaised_12 : decode c_R_commonWithRaised 12 = .ok (.aload_n 0, 1) := by decide +kernel
theorem d_R_commonWithRaised_13 : decode c_R_commonWithRaised 13 = .ok (.getfield 34, 3) := by decide +kernel
theorem d_R_commonWithRaised_16 : decode c_R_commonWithRaised 16 = .ok (.invokestatic 41, 3) := by decide +kernel
theorem d_R_commonWithRaised_19 : decode c_R_commonWithRaised 19 = .ok (.aload_n 0, 1) := by decide +kernel
theorem d_R_commonWithRaised_20 : decode c_R_commonWithRaised 20 = .ok (.getfield 31, 3) := by decide +kernel
theorem d_R_commonWithRaised_23 : decode c_R_commonWithRaised 23 = .ok (.astore_n 2, 1) := by decide +kernel
theorem d_R_commonWithRaised_24 : decode c_R_commonWithRaised 24 = .ok (.aload_n 0, 1) := by decide +kernel
theorem d_R_commonWithRaised_25 : decode c_R_commonWithRaised 25 = .ok (.getfield 34, 3) := by decide +kernel
theorem d_R_commonWithRaised_28 : decode c_R_commonWithRaised 28 = .ok (.astore_n 3, 1) := by decide +kernel
theorem d_R_commonWithRaised_29 : decode c_R_commonWithRaised 29 = .ok (.iconst 0, 1) := by decide +kernel
theorem d_R_commonWithRaised_30 : decode c_R_commonWithRaised 30 = .ok (.istore 4, 2) := by decide +kernel
theorem d_R_commonWithRaised_32 : decode c_R_commonWithRaised 32 = .ok (.iload 4, 2) := by decide +kernel
theorem d_R_commonWithRaised_34 : decode c_R_commonWithRaised 34 = .ok (.iconst 5, 1) := by decide +kernel
theorem d_R_commonWithRaised_35 : decode c_R_commonWithRaised 35 = .ok (.if_icmp .ge 33, 3) := by decide +kernel
theorem d_R_commonWithRaised_38 : decode c_R_commonWithRaised 38 = .ok (.aload_n 3, 1) := by decide +kernel
theorem d_R_commonWithRaised_39 : decode c_R_commonWithRaised 39 = .ok (.invokestatic 93, 3) := by decide +kernel
theorem d_R_commonWithRaised_42 : decode c_R_commonWithRaised 42 = .ok (.ifCond .ne 26, 3) := by decide +kernel
theorem d_R_commonWithRaised_45 : decode c_R_commonWithRaised 45 = .ok (.aload_n 3, 1) := by decide +kernel
theorem d_R_commonWithRaised_46 : decode c_R_commonWithRaised 46 = .ok (.invokestatic 45, 3) := by decide +kernel
theorem d_R_commonWithRaised_49 : decode c_R_commonWithRaised 49 = .ok (.aload_n 2, 1) := by decide +kernel
theorem d_R_commonWithRaised_50 : decode c_R_commonWithRaised 50 = .ok (.aload_n 3, 1) := by decide +kernel
theorem d_R_commonWithRaised_51 : decode c_R_commonWithRaised 51 = .ok (.invokestatic 90, 3) := by decide +kernel
theorem d_R_commonWithRaised_54 : decode c_R_commonWithRaised 54 = .ok (.aload_n 2, 1) := by decide +kernel
theorem d_R_commonWithRaised_55 : decode c_R_commonWithRaised 55 = .ok (.astore 5, 2) := by decide +kernel
theorem d_R_commonWithRaised_57 : decode c_R_commonWithRaised 57 = .ok (.aload_n 3, 1) := by decide +kernel
theorem d_R_commonWithRaised_58 : decode c_R_commonWithRaised 58 = .ok (.astore_n 2, 1) := by decide +kernel
theorem d_R_commonWithRaised_59 : decode c_R_commonWithRaised 59 = .ok (.aload 5, 2) := by decide +kernel
theorem d_R_commonWithRaised_61 : decode c_R_commonWithRaised 61 = .ok (.astore_n 3, 1) := by decide +kernel
theorem d_R_commonWithRaised_62 : decode c_R_commonWithRaised 62 = .ok (.iinc 4 1, 3) := by decide +kernel
theorem d_R_commonWithRaised_65 : decode c_R_commonWithRaised 65 = .ok (.goto (-33), 3) := by decide +kernel
theorem d_R_commonWithRaised_68 : decode c_R_commonWithRaised 68 = .ok (.aload_n 2, 1) := by decide +kernel
theorem d_R_commonWithRaised_69 : decode c_R_commonWithRaised 69 = .ok (.areturn, 1) := by decide +kernel
theorem d_R_takeMultiples_0 : decode c_R_takeMultiples 0 = .ok (.aload_n 1, 1) := by decide +kernel
theorem d_R_takeMultiples_1 : decode c_R_takeMultiples 1 = .ok (.invokestatic 37, 3) := by decide +kernel
theorem d_R_takeMultiples_4 : decode c_R_takeMultiples 4 = .ok (.istore_n 2, 1) := by decide +kernel
theorem d_R_takeMultiples_5 : decode c_R_takeMultiples 5 = .ok (.iload_n 2, 1) := by decide +kernel
theorem d_R_takeMultiples_6 : decode c_R_takeMultiples 6 = .ok (.ifCond .ge 4, 3) := by decide +kernel
theorem d_R_takeMultiples_9 : decode c_R_takeMultiples 9 = .ok (.return_, 1) := by decide +kernel
theorem d_R_takeMultiples_10 : decode c_R_takeMultiples 10 = .ok (.aload_n 0, 1) := by decide +kernel
theorem d_R_takeMultiples_11 : decode c_R_takeMultiples 11 = .ok (.invokestatic 37, 3) := by decide +kernel
theorem d_R_takeMultiples_14 : decode c_R_takeMultiples 14 = .ok (.istore_n 3, 1) := by decide +kernel
theorem d_R_takeMultiples_15 : decode c_R_takeMultiples 15 = .ok (.iload_n 3, 1) := by decide +kernel
theorem d_R_takeMultiples_16 : decode c_R_takeMultiples 16 = .ok (.iload_n 2, 1) := by decide +kernel
theorem d_R_takeMultiples_17 : decode c_R_takeMultiples 17 = .ok (.if_icmp .lt 56, 3) := by decide +kernel
theorem d_R_takeMultiples_20 : decode c_R_takeMultiples 20 = .ok (.aload_n 0, 1) := by decide +kernel
theorem d_R_takeMultiples_21 : decode c_R_takeMultiples 21 = .ok (.iload_n 3, 1) := by decide +kernel
theorem d_R_takeMultiples_22 : decode c_R_takeMultiples 22 = .ok (.laload, 1) := by decide +kernel
theorem d_R_takeMultiples_23 : decode c_R_takeMultiples 23 = .ok (.lstore 4, 2) := by decide +kernel
theorem d_R_takeMultiples_25 : decode c_R_takeMultiples 25 = .ok (.iconst 0, 1) := by decide +kernel
theorem d_R_takeMultiples_26 : decode c_R_takeMultiples 26 = .ok (.istore 6, 2) := by decide +kernel
theorem d_R_takeMultiples_28 : decode c_R_takeMultiples 28 = .ok (.iload 6, 2) := by decide +kernel
theorem d_R_takeMultiples_30 : decode c_R_takeMultiples 30 = .ok (.iload_n 2, 1) := by decide +kernel
theorem d_R_takeMultiples_31 : decode c_R_takeMultiples 31 = .ok (.if_icmp .gt 36, 3) := by decide +kernel
theorem d_R_takeMultiples_34 : decode c_R_takeMultiples 34 = .ok (.iload_n 3, 1) := by decide +kernel
theorem d_R_takeMultiples_35 : decode c_R_takeMultiples 35 = .ok (.iload_n 2, 1) := by decide +kernel
theorem d_R_takeMultiples_36 : decode c_R_takeMultiples 36 = .ok (.isub, 1) := by decide +kernel
theorem d_R_takeMultiples_37 : decode c_R_takeMultiples 37 = .ok (.iload 6, 2) := by decide +kernel
theorem d_R_takeMultiples_39 : decode c_R_takeMultiples 39 = .ok (.iadd, 1) := by decide +kernel
theorem d_R_takeMultiples_40 : decode c_R_takeMultiples 40 = .ok (.istore 7, 2) := by decide +kernel
theorem d_R_takeMultiples_42 : decode c_R_takeMultiples 42 = .ok (.aload_n 0, 1) := by decide +kernel
theorem d_R_takeMultiples_43 : decode c_R_takeMultiples 43 = .ok (.iload 7, 2) := by decide +kernel
theorem d_R_takeMultiples_45 : decode c_R_takeMultiples 45 = .ok (.aload_n 0, 1) := by decide +kernel
theorem d_R_takeMultiples_46 : decode c_R_takeMultiples 46 = .ok (.iload 7, 2) := by decide +kernel
theorem d_R_takeMultiples_48 : decode c_R_takeMultiples 48 = .ok (.laload, 1) := by decide +kernel
theorem d_R_takeMultiples_49 : decode c_R_takeMultiples 49 = .ok (.lload 4, 2) := by decide +kernel
theorem d_R_takeMultiples_51 : decode c_R_takeMultiples 51 = .ok (.aload_n 1, 1) := by decide +kernel
theorem d_R_takeMultiples_52 : decode c_R_takeMultiples 52 = .ok (.iload 6, 2) := by decide +kernel
theorem d_R_takeMultiples_54 : decode c_R_takeMultiples 54 = .ok (.laload, 1) := by decide +kernel
theorem d_R_takeMultiples_55 : decode c_R_takeMultiples 55 = .ok (.lmul, 1) := by decide +kernel
theorem d_R_takeMultiples_56 : decode c_R_takeMultiples 56 = .ok (.lsub, 1) := by decide +kernel
theorem d_R_takeMultiples_57 : decode c_R_takeMultiples 57 = .ok (.invokestatic 67, 3) := by decide +kernel
theorem d_R_takeMultiples_60 : decode c_R_takeMultiples 60 = .ok (.lastore, 1) := by decide +kernel
theorem d_R_takeMultiples_61 : decode c_R_takeMultiples 61 = .ok (.iinc 6 1, 3) := by decide +kernel
theorem d_R_takeMultiples_64 : decode c_R_takeMultiples 64 = .ok (.goto (-36), 3) := by decide +kernel
theorem d_R_takeMultiples_67 : decode c_R_takeMultiples 67 = .ok (.iinc 3 (-1), 3) := by decide +kernel
theorem d_R_takeMultiples_70 : decode c_R_takeMultiples 70 = .ok (.goto (-55), 3) := by decide +kernel
theorem d_R_takeMultiples_73 : decode c_R_takeMultiples 73 = .ok (.return_, 1) := by decide +kernel
theorem d_R_makeMonic_0 : decode c_R_makeMonic 0 = .ok (.aload_n 0, 1) := by decide +kernel
theorem d_R_makeMonic_1 : decode c_R_makeMonic 1 = .ok (.invokestatic 37, 3) := by decide +kernel
theorem d_R_makeMonic_4 : decode c_R_makeMonic 4 = .ok (.istore_n 1, 1) := by decide +kernel
theorem d_R_makeMonic_5 : decode c_R_makeMonic 5 = .ok (.iload_n 1, 1) := by decide +kernel
theorem d_R_makeMonic_6 : decode c_R_makeMonic 6 = .ok (.ifCond .ge 4, 3) := by decide +kernel
theorem d_R_makeMonic_9 : decode c_R_makeMonic 9 = .ok (.return_, 1) := by decide +kernel
theorem d_R_makeMonic_10 : decode c_R_makeMonic 10 = .ok (.aload_n 0, 1) := by decide +kernel
theorem d_R_makeMonic_11 : decode c_R_makeMonic 11 = .ok (.iload_n 1, 1) := by decide +kernel
theorem d_R_makeMonic_12 : decode c_R_makeMonic 12 = .ok (.laload, 1) := by decide +kernel
theorem d_R_makeMonic_13 : decode c_R_makeMonic 13 = .ok (.invokestatic 97, 3) := by decide +kernel
theorem d_R_makeMonic_16 : decode c_R_makeMonic 16 = .ok (.lstore_n 2, 1) := by decide +kernel
theorem d_R_makeMonic_17 : decode c_R_makeMonic 17 = .ok (.iconst 0, 1) := by decide +kernel
theorem d_R_makeMonic_18 : decode c_R_makeMonic 18 = .ok (.istore 4, 2) := by decide +kernel
theorem d_R_makeMonic_20 : decode c_R_makeMonic 20 = .ok (.iload 4, 2) := by decide +kernel
theorem d_R_makeMonic_22 : decode c_R_makeMonic 22 = .ok (.iload_n 1, 1) := by decide +kernel
theorem d_R_makeMonic_23 : decode c_R_makeMonic 23 = .ok (.if_icmp .gt 23, 3) := by decide +kernel
theorem d_R_makeMonic_26 : decode c_R_makeMonic 26 = .ok (.aload_n 0, 1) := by decide +kernel
theorem d_R_makeMonic_27 : decode c_R_makeMonic 27 = .ok (.iload 4, 2) := by decide +kernel
theorem d_R_makeMonic_29 : decode c_R_makeMonic 29 = .ok (.aload_n 0, 1) := by decide +kernel
theorem d_R_makeMonic_30 : decode c_R_makeMonic 30 = .ok (.iload 4, 2) := by decide +kernel
theorem d_R_makeMonic_32 : decode c_R_makeMonic 32 = .ok (.laload, 1) := by decide +kernel
theorem d_R_makeMonic_33 : decode c_R_makeMonic 33 = .ok (.lload_n 2, 1) := by decide +kernel
theorem d_R_makeMonic_34 : decode c_R_makeMonic 34 = .ok (.lmul, 1) := by decide +kernel
theorem d_R_makeMonic_35 : decode c_R_makeMonic 35 = .ok (.ldc2_w 75, 3) := by decide +kernel
theorem d_R_makeMonic_38 : decode c_R_makeMonic 38 = .ok (.lrem, 1) := by decide +kernel
theorem d_R_makeMonic_39 : decode c_R_makeMonic 39 = .ok (.lastore, 1) := by decide +kernel
theorem d_R_makeMonic_40 : decode c_R_makeMonic 40 = .ok (.iinc 4 1, 3) := by decide +kernel
theorem d_R_makeMonic_43 : decode c_R_makeMonic 43 = .ok (.goto (-23), 3) := by decide +kernel
theorem d_R_makeMonic_46 : decode c_R_makeMonic 46 = .ok (.return_, 1) := by decide +kernel
theorem d_R_copy_0 : decode c_R_copy 0 = .ok (.aload_n 0, 1) := by decide +kernel
theorem d_R_copy_1 : decode c_R_copy 1 = .ok (.iconst 0, 1) := by decide +kernel
theorem d_R_copy_2 : decode c_R_copy 2 = .ok (.aload_n 1, 1) := by decide +kernel
theorem d_R_copy_3 : decode c_R_copy 3 = .ok (.iconst 0, 1) := by decide +kernel
theorem d_R_copy_4 : decode c_R_copy 4 = .ok (.iconst 5, 1) := by decide +kernel
theorem d_R_copy_5 : decode c_R_copy 5 = .ok (.invokestatic 100, 3) := by decide +kernel
theorem d_R_copy_8 : decode c_R_copy 8 = .ok (.return_, 1) := by decide +kernel
end
section
theorem d_B_init_0 : decode c_B_init 0 = .ok (.aload_n 0, 1) := by decide +kernel
theorem d_B_init_1 : decode c_B_init 1 = .ok (.invokespecial 3, 3) := by decide +kernel
theorem d_B_init_4 : decode c_B_init 4 = .ok (.aload_n 0, 1) := by decide +kernel
theorem d_B_init_5 : decode c_B_init 5 = .ok (.bipush 17, 2) := by decide +kernel
theorem d_B_init_7 : decode c_B_init 7 = .ok (.bipush 13, 2) := by decide +kernel
theorem d_B_init_9 : decode c_B_init 9 = .ok (.multianewarray 9 2, 4) := by decide +kernel
theorem d_B_init_13 : decode c_B_init 13 = .ok (.putfield 11, 3) := by decide +kernel
theorem d_B_init_16 : decode c_B_init 16 = .ok (.aload_n 0, 1) := by decide +kernel
theorem d_B_init_17 : decode c_B_init 17 = .ok (.bipush 13, 2) := by decide +kernel
theorem d_B_init_19 : decode c_B_init 19 = .ok (.newarray .int, 2) := by decide +kernel
theorem d_B_init_21 : decode c_B_init 21 = .ok (.putfield 16, 3) := by decide +kernel
theorem d_B_init_24 : decode c_B_init 24 = .ok (.aload_n 0, 1) := by decide +kernel
theorem d_B_init_25 : decode c_B_init 25 = .ok (.bipush 13, 2) := by decide +kernel
theorem d_B_init_27 : decode c_B_init 27 = .ok (.bipush 13, 2) := by decide +kernel
theorem d_B_init_29 : decode c_B_init 29 = .ok (.multianewarray 9 2, 4) := by decide +kernel
theorem d_B_init_33 : decode c_B_init 33 = .ok (.putfield 20, 3) := by decide +kernel
theorem d_B_init_36 : decode c_B_init 36 = .ok (.aload_n 0, 1) := by decide +kernel
theorem d_B_init_37 : decode c_B_init 37 = .ok (.iconst 0, 1) := by decide +kernel
theorem d_B_init_38 : decode c_B_init 38 = .ok (.putfield 23, 3) := by decide +kernel
theorem d_B_init_41 : decode c_B_init 41 = .ok (.return_, 1) := by decide +kernel
theorem d_B_size_0 : decode c_B_size 0 = .ok (.aload_n 0, 1) := by decide +kernel
theorem d_B_size_1 : decode c_B_size 1 = .ok (.getfield 23, 3) := by decide +kernel
theorem d_B_size_4 : decode c_B_size 4 = .ok (.ireturn, 1) := by decide +kernel
theorem d_B_member_0 : decode c_B_member 0 = .ok (.aload_n 0, 1) := by decide +kernel
theorem d_B_member_1 : decode c_B_member 1 = .ok (.getfield 20, 3) := by decide +kernel
theorem d_B_member_4 : decode c_B_member 4 = .ok (.iload_n 1, 1) := by decide +kernel
theorem d_B_member_5 : decode c_B_member 5 = .ok (.aaload, 1) := by decide +kernel
theorem d_B_member_6 : decode c_B_member 6 = .ok (.areturn, 1) := by decide +kernel
theorem d_B_enter_0 : decode c_B_enter 0 = .ok (.aload_n 0, 1) := by decide +kernel
theorem d_B_enter_1 : decode c_B_enter 1 = .ok (.getfield 11, 3) := by decide +kernel
theorem d_B_enter_4 : decode c_B_enter 4 = .ok (.iload_n 1, 1) := by decide +kernel
theorem d_B_enter_5 : decode c_B_enter 5 = .ok (.aaload, 1) := by decide +kernel
theorem d_B_enter_6 : decode c_B_enter 6 = .ok (.iload_n 2, 1) := by decide +kernel
theorem d_B_enter_7 : decode c_B_enter 7 = .ok (.lload_n 3, 1) := by decide +kernel
theorem d_B_enter_8 : decode c_B_enter 8 = .ok (.lastore, 1) := by decide +kernel
theorem d_B_enter_9 : decode c_B_enter 9 = .ok (.return_, 1) := by decide +kernel
theorem d_B_solve_0 : decode c_B_solve 0 = .ok (.aload_n 0, 1) := by decide +kernel
theorem d_B_solve_1 : decode c_B_solve 1 = .ok (.invokevirtual 27, 3) := by decide +kernel
theorem d_B_solve_4 : decode c_B_solve 4 = .ok (.aload_n 0, 1) := by decide +kernel
theorem d_B_solve_5 : decode c_B_solve 5 = .ok (.iconst 0, 1) := by decide +kernel
theorem d_B_solve_6 : decode c_B_solve 6 = .ok (.putfield 23, 3) := by decide +kernel
theorem d_B_solve_9 : decode c_B_solve 9 = .ok (.bipush 12, 2) := by decide +kernel
theorem d_B_solve_11 : decode c_B_solve 11 = .ok (.istore_n 1, 1) := by decide +kernel
theorem d_B_solve_12 : decode c_B_solve 12 = .ok (.iload_n 1, 1) := by decide +kernel
theorem d_B_solve_13 : decode c_B_solve 13 = .ok (.ifCond .lt 43, 3) := by decide +kernel
theorem d_B_solve_16 : decode c_B_solve 16 = .ok (.aload_n 0, 1) := by decide +kernel
theorem d_B_solve_17 : decode c_B_solve 17 = .ok (.getfield 16, 3) := by decide +kernel
theorem d_B_solve_20 : decode c_B_solve 20 = .ok (.iload_n 1, 1) := by decide +kernel
theorem d_B_solve_21 : decode c_B_solve 21 = .ok (.iaload, 1) := by decide +kernel
theorem d_B_solve_22 : decode c_B_solve 22 = .ok (.iconst (-1), 1) := by decide +kernel
theorem d_B_solve_23 : decode c_B_solve 23 = .ok (.if_icmp .ne 27, 3) := by decide +kernel
theorem d_B_solve_26 : decode c_B_solve 26 = .ok (.aload_n 0, 1) := by decide +kernel
theorem d_B_solve_27 : decode c_B_solve 27 = .ok (.aload_n 0, 1) := by decide +kernel
theorem d_B_solve_28 : decode c_B_solve 28 = .ok (.getfield 20, 3) := by decide +kernel
theorem d_B_solve_31 : decode c_B_solve 31 = .ok (.aload_n 0, 1) := by decide +kernel
theorem d_B_solve_32 : decode c_B_solve 32 = .ok (.getfield 23, 3) := by decide +kernel
theorem d_B_solve_35 : decode c_B_solve 35 = .ok (.aaload, 1) := by decide +kernel
theorem d_B_solve_36 : decode c_B_solve 36 = .ok (.iload_n 1, 1) := by decide +kernel
theorem d_B_solve_37 : decode c_B_solve 37 = .ok (.invokevirtual 30, 3) := by decide +kernel
theorem d_B_solve_40 : decode c_B_solve 40 = .ok (.aload_n 0, 1) := by decide +kernel
theorem d_B_solve_41 : decode c_B_solve 41 = .ok (.dup, 1) := by decide +kernel
theorem d_B_solve_42 : decode c_B_solve 42 = .ok (.getfield 23, 3) := by decide +kernel
theorem d_B_solve_45 : decode c_B_solve 45 = .ok (.iconst 1, 1) := by decide +kernel
theorem d_B_solve_46 : decode c_B_solve 46 = .ok (.iadd, 1) := by decide +kernel
theorem d_B_solve_47 : decode c_B_solve 47 = .ok (.putfield 23, 3) := by decide +kernel
theorem d_B_solve_50 : decode c_B_solve 50 = .ok (.iinc 1 (-1), 3) := by decide +kernel
theorem d_B_solve_53 : decode c_B_solve 53 = .ok (.goto (-41), 3) := by decide +kernel
theorem d_B_solve_56 : decode c_B_solve 56 = .ok (.return_, 1) := by decide +kernel
theorem d_B_reduceRows_0 : decode c_B_reduceRows 0 = .ok (.iconst 0, 1) := by decide +kernel
theorem d_B_reduceRows_1 : decode c_B_reduceRows 1 = .ok (.istore_n 1, 1) := by decide +kernel
theorem d_B_reduceRows_2 : decode c_B_reduceRows 2 = .ok (.iconst 0, 1) := by decide +kernel
theorem d_B_reduceRows_3 : decode c_B_reduceRows 3 = .ok (.istore_n 2, 1) := by decide +kernel
theorem d_B_reduceRows_4 : decode c_B_reduceRows 4 = .ok (.iload_n 2, 1) := by decide +kernel
theorem d_B_reduceRows_5 : decode c_B_reduceRows 5 = .ok (.bipush 13, 2) := by decide +kernel
theorem d_B_reduceRows_7 : decode c_B_reduceRows 7 = .ok (.if_icmp .ge 59, 3) := by decide +kernel
theorem d_B_reduceRows_10 : decode c_B_reduceRows 10 = .ok (.aload_n 0, 1) := by decide +kernel
theorem d_B_reduceRows_11 : decode c_B_reduceRows 11 = .ok (.iload_n 2, 1) := by decide +kernel
theorem d_B_reduceRows_12 : decode c_B_reduceRows 12 = .ok (.iload_n 1, 1) := by decide +kernel
theorem d_B_reduceRows_13 : decode c_B_reduceRows 13 = .ok (.invokevirtual 34, 3) := by decide +kernel
theorem d_B_reduceRows_16 : decode c_B_reduceRows 16 = .ok (.istore_n 3, 1) := by decide +kernel
theorem d_B_reduceRows_17 : decode c_B_reduceRows 17 = .ok (.iload_n 3, 1) := by decide +kernel
theorem d_B_reduceRows_18 : decode c_B_reduceRows 18 = .ok (.iconst (-1), 1) := by decide +kernel
theorem d_B_reduceRows_19 : decode c_B_reduceRows 19 = .ok (.if_icmp .ne 13, 3) := by decide +kernel
theorem d_B_reduceRows_22 : decode c_B_reduceRows 22 = .ok (.aload_n 0, 1) := by decide +kernel
theorem d_B_reduceRows_23 : decode c_B_reduceRows 23 = .ok (.getfield 16, 3) := by decide +kernel
theorem d_B_reduceRows_26 : decode c_B_reduceRows 26 = .ok (.iload_n 2, 1) := by decide +kernel
theorem d_B_reduceRows_27 : decode c_B_reduceRows 27 = .ok (.iconst (-1), 1) := by decide +kernel
theorem d_B_reduceRows_28 : decode c_B_reduceRows 28 = .ok (.iastore, 1) := by decide +kernel
theorem d_B_reduceRows_29 : decode c_B_reduceRows 29 = .ok (.goto 31, 3) := by decide +kernel
theorem d_B_reduceRows_32 : decode c_B_reduceRows 32 = .ok (.aload_n 0, 1) := by decide +kernel
theorem d_B_reduceRows_33 : decode c_B_reduceRows 33 = .ok (.iload_n 3, 1) := by decide +kernel
theorem d_B_reduceRows_34 : decode c_B_reduceRows 34 = .ok (.iload_n 1, 1) := by decide +kernel
theorem d_B_reduceRows_35 : decode c_B_reduceRows 35 = .ok (.invokevirtual 38, 3) := by decide +kernel
theorem d_B_reduceRows_38 : decode c_B_reduceRows 38 = .ok (.aload_n 0, 1) := by decide +kernel
theorem d_B_reduceRows_39 : decode c_B_reduceRows 39 = .ok (.iload_n 1, 1) := by decide +kernel
theorem d_B_reduceRows_40 : decode c_B_reduceRows 40 = .ok (.iload_n 2, 1) := by decide +kernel
theorem d_B_reduceRows_41 : decode c_B_reduceRows 41 = .ok (.invokevirtual 42, 3) := by decide +kernel
theorem d_B_reduceRows_44 : decode c_B_reduceRows 44 = .ok (.aload_n 0, 1) := by decide +kernel
theorem d_B_reduceRows_45 : decode c_B_reduceRows 45 = .ok (.iload_n 1, 1) := by decide +kernel
theorem d_B_reduceRows_46 : decode c_B_reduceRows 46 = .ok (.iload_n 2, 1) := by decide +kernel
theorem d_B_reduceRows_47 : decode c_B_reduceRows 47 = .ok (.invokevirtual 45, 3) := by decide +kernel
theorem d_B_reduceRows_50 : decode c_B_reduceRows 50 = .ok (.aload_n 0, 1) := by decide +kernel
theorem d_B_reduceRows_51 : decode c_B_reduceRows 51 = .ok (.getfield 16, 3) := by decide +kernel
theorem d_B_reduceRows_54 : decode c_B_reduceRows 54 = .ok (.iload_n 2, 1) := by decide +kernel
theorem d_B_reduceRows_55 : decode c_B_reduceRows 55 = .ok (.iload_n 1, 1) := by decide +kernel
theorem d_B_reduceRows_56 : decode c_B_reduceRows 56 = .ok (.iastore, 1) := by decide +kernel
theorem d_B_reduceRows_57 : decode c_B_reduceRows 57 = .ok (.iinc 1 1, 3) := by decide +kernel
theorem d_B_reduceRows_60 : decode c_B_reduceRows 60 = .ok (.iinc 2 1, 3) := by decide +kernel
theorem d_B_reduceRows_63 : decode c_B_reduceRows 63 = .ok (.goto (-59), 3) := by decide +kernel
theorem d_B_reduceRows_66 : decode c_B_reduceRows 66 = .ok (.return_, 1) := by decide +kernel
theorem d_B_rowWith_0 : decode c_B_rowWith 0 = .ok (.iload_n 2, 1) := by decide +kernel
theorem d_B_rowWith_1 : decode c_B_rowWith 1 = .ok (.istore_n 3, 1) := by decide +kernel
theorem d_B_rowWith_2 : decode c_B_rowWith 2 = .ok (.iload_n 3, 1) := by decide +kernel
theorem d_B_rowWith_3 : decode c_B_rowWith 3 = .ok (.bipush 17, 2) := by decide +kernel
theorem d_B_rowWith_5 : decode c_B_rowWith 5 = .ok (.if_icmp .ge 24, 3) := by decide +kernel
theorem d_B_rowWith_8 : decode c_B_rowWith 8 = .ok (.aload_n 0, 1) := by decide +kernel
theorem d_B_rowWith_9 : decode c_B_rowWith 9 = .ok (.getfield 11, 3) := by decide +kernel
theorem d_B_rowWith_12 : decode c_B_rowWith 12 = .ok (.iload_n 3, 1) := by decide +kernel
theorem d_B_rowWith_13 : decode c_B_rowWith 13 = .ok (.aaload, 1) := by decide +kernel
theorem d_B_rowWith_14 : decode c_B_rowWith 14 = .ok (.iload_n 1, 1) := by decide +kernel
theorem d_B_rowWith_15 : decode c_B_rowWith 15 = .ok (.laload, 1) := by decide +kernel
theorem d_B_rowWith_16 : decode c_B_rowWith 16 = .ok (.lconst 0, 1) := by decide +kernel
theorem d_B_rowWith_17 : decode c_B_rowWith 17 = .ok (.lcmp, 1) := by decide +kernel
theorem d_B_rowWith_18 : decode c_B_rowWith 18 = .ok (.ifCond .eq 5, 3) := by decide +kernel
theorem d_B_rowWith_21 : decode c_B_rowWith 21 = .ok (.iload_n 3, 1) := by decide +kernel
theorem d_B_rowWith_22 : decode c_B_rowWith 22 = .ok (.ireturn, 1) := by decide +kernel
theorem d_B_rowWith_23 : decode c_B_rowWith 23 = .ok (.iinc 3 1, 3) := by decide +kernel
theorem d_B_rowWith_26 : decode c_B_rowWith 26 = .ok (.goto (-24), 3) := by decide +kernel
theorem d_B_rowWith_29 : decode c_B_rowWith 29 = .ok (.iconst (-1), 1) := by decide +kernel
theorem d_B_rowWith_30 : decode c_B_rowWith 30 = .ok (.ireturn, 1) := by decide +kernel
theorem d_B_swap_0 : decode c_B_swap 0 = .ok (.iconst 0, 1) := by decide +kernel
theorem d_B_swap_1 : decode c_B_swap 1 = .ok (.istore_n 3, 1) := by decide +kernel
theorem d_B_swap_2 : decode c_B_swap 2 = .ok (.iload_n 3, 1) := by decide +kernel
theorem d_B_swap_3 : decode c_B_swap 3 = .ok (.bipush 13, 2) := by decide +kernel
theorem d_B_swap_5 : decode c_B_swap 5 = .ok (.if_icmp .ge 45, 3) := by decide +kernel
theorem d_B_swap_8 : decode c_B_swap 8 = .ok (.aload_n 0, 1) := by decide +kernel
theorem d_B_swap_9 : decode c_B_swap 9 = .ok (.getfield 11, 3) := by decide +kernel
theorem d_B_swap_12 : decode c_B_swap 12 = .ok (.iload_n 1, 1) := by decide +kernel
theorem d_B_swap_13 : decode c_B_swap 13 = .ok (.aaload, 1) := by decide +kernel
theorem d_B_swap_14 : decode c_B_swap 14 = .ok (.iload_n 3, 1) := by decide +kernel
theorem d_B_swap_15 : decode c_B_swap 15 = .ok (.laload, 1) := by decide +kernel
theorem d_B_swap_16 : decode c_B_swap 16 = .ok (.lstore 4, 2) := by decide +kernel
theorem d_B_swap_18 : decode c_B_swap 18 = .ok (.aload_n 0, 1) := by decide +kernel
theorem d_B_swap_19 : decode c_B_swap 19 = .ok (.getfield 11, 3) := by decide +kernel
theorem d_B_swap_22 : decode c_B_swap 22 = .ok (.iload_n 1, 1) := by decide +kernel
theorem d_B_swap_23 : decode c_B_swap 23 = .ok (.aaload, 1) := by decide +kernel
theorem d_B_swap_24 : decode c_B_swap 24 = .ok (.iload_n 3, 1) := by decide +kernel
theorem d_B_swap_25 : decode c_B_swap 25 = .ok (.aload_n 0, 1) := by decide +kernel
theorem d_B_swap_26 : decode c_B_swap 26 = .ok (.getfield 11, 3) := by decide +kernel
theorem d_B_swap_29 : decode c_B_swap 29 = .ok (.iload_n 2, 1) := by decide +kernel
theorem d_B_swap_30 : decode c_B_swap 30 = .ok (.aaload, 1) := by decide +kernel
theorem d_B_swap_31 : decode c_B_swap 31 = .ok (.iload_n 3, 1) := by decide +kernel
theorem d_B_swap_32 : decode c_B_swap 32 = .ok (.laload, 1) := by decide +kernel
theorem d_B_swap_33 : decode c_B_swap 33 = .ok (.lastore, 1) := by decide +kernel
theorem d_B_swap_34 : decode c_B_swap 34 = .ok (.aload_n 0, 1) := by decide +kernel
theorem d_B_swap_35 : decode c_B_swap 35 = .ok (.getfield 11, 3) := by decide +kernel
theorem d_B_swap_38 : decode c_B_swap 38 = .ok (.iload_n 2, 1) := by decide +kernel
theorem d_B_swap_39 : decode c_B_swap 39 = .ok (.aaload, 1) := by decide +kernel
theorem d_B_swap_40 : decode c_B_swap 40 = .ok (.iload_n 3, 1) := by decide +kernel
theorem d_B_swap_41 : decode c_B_swap 41 = .ok (.lload 4, 2) := by decide +kernel
theorem d_B_swap_43 : decode c_B_swap 43 = .ok (.lastore, 1) := by decide +kernel
theorem d_B_swap_44 : decode c_B_swap 44 = .ok (.iinc 3 1, 3) := by decide +kernel
theorem d_B_swap_47 : decode c_B_swap 47 = .ok (.goto (-45), 3) := by decide +kernel
theorem d_B_swap_50 : decode c_B_swap 50 = .ok (.return_, 1) := by decide +kernel
theorem d_B_scaleRow_0 : decode c_B_scaleRow 0 = .ok (.aload_n 0, 1) := by decide +kernel
theorem d_B_scaleRow_1 : decode c_B_scaleRow 1 = .ok (.getfield 11, 3) := by decide +kernel
theorem d_B_scaleRow_4 : decode c_B_scaleRow 4 = .ok (.iload_n 1, 1) := by decide +kernel
theorem d_B_scaleRow_5 : decode c_B_scaleRow 5 = .ok (.aaload, 1) := by decide +kernel
theorem d_B_scaleRow_6 : decode c_B_scaleRow 6 = .ok (.iload_n 2, 1) := by decide +kernel
theorem d_B_scaleRow_7 : decode c_B_scaleRow 7 = .ok (.laload, 1) := by decide +kernel
theorem d_B_scaleRow_8 : decode c_B_scaleRow 8 = .ok (.invokestatic 48, 3) := by decide +kernel
theorem d_B_scaleRow_11 : decode c_B_scaleRow 11 = .ok (.lstore_n 3, 1) := by decide +kernel
theorem d_B_scaleRow_12 : decode c_B_scaleRow 12 = .ok (.iconst 0, 1) := by decide +kernel
theorem d_B_scaleRow_13 : decode c_B_scaleRow 13 = .ok (.istore 5, 2) := by decide +kernel
theorem d_B_scaleRow_15 : decode c_B_scaleRow 15 = .ok (.iload 5, 2) := by decide +kernel
theorem d_B_scaleRow_17 : decode c_B_scaleRow 17 = .ok (.bipush 13, 2) := by decide +kernel
theorem d_B_scaleRow_19 : decode c_B_scaleRow 19 = .ok (.if_icmp .ge 33, 3) := by decide +kernel
theorem d_B_scaleRow_22 : decode c_B_scaleRow 22 = .ok (.aload_n 0, 1) := by decide +kernel
theorem d_B_scaleRow_23 : decode c_B_scaleRow 23 = .ok (.getfield 11, 3) := by decide +kernel
theorem d_B_scaleRow_26 : decode c_B_scaleRow 26 = .ok (.iload_n 1, 1) := by decide +kernel
theorem d_B_scaleRow_27 : decode c_B_scaleRow 27 = .ok (.aaload, 1) := by decide +kernel
theorem d_B_scaleRow_28 : decode c_B_scaleRow 28 = .ok (.iload 5, 2) := by decide +kernel
theorem d_B_scaleRow_30 : decode c_B_scaleRow 30 = .ok (.aload_n 0, 1) := by decide +kernel
theorem d_B_scaleRow_31 : decode c_B_scaleRow 31 = .ok (.getfield 11, 3) := by decide +kernel
theorem d_B_scaleRow_34 : decode c_B_scaleRow 34 = .ok (.iload_n 1, 1) := by decide +kernel
theorem d_B_scaleRow_35 : decode c_B_scaleRow 35 = .ok (.aaload, 1) := by decide +kernel
theorem d_B_scaleRow_36 : decode c_B_scaleRow 36 = .ok (.iload 5, 2) := by decide +kernel
theorem d_B_scaleRow_38 : decode c_B_scaleRow 38 = .ok (.laload, 1) := by decide +kernel
theorem d_B_scaleRow_39 : decode c_B_scaleRow 39 = .ok (.lload_n 3, 1) := by decide +kernel
theorem d_B_scaleRow_40 : decode c_B_scaleRow 40 = .ok (.lmul, 1) := by decide +kernel
theorem d_B_scaleRow_41 : decode c_B_scaleRow 41 = .ok (.ldc2_w 52, 3) := by decide +kernel
theorem d_B_scaleRow_44 : decode c_B_scaleRow 44 = .ok (.lrem, 1) := by decide +kernel
theorem d_B_scaleRow_45 : decode c_B_scaleRow 45 = .ok (.lastore, 1) := by decide +kernel
theorem d_B_scaleRow_46 : decode c_B_scaleRow 46 = .ok (.iinc 5 1, 3) := by decide +kernel
theorem d_B_scaleRow_49 : decode c_B_scaleRow 49 = .ok (.goto (-34), 3) := by decide +kernel
theorem d_B_scaleRow_52 : decode c_B_scaleRow 52 = .ok (.return_, 1) := by decide +kernel
theorem d_B_clearColumn_0 : decode c_B_clearColumn 0 = .ok (.iconst 0, 1) := by decide +kernel
theorem d_B_clearColumn_1 : decode c_B_clearColumn 1 = .ok (.istore_n 3, 1) := by decide +kernel
theorem d_B_clearColumn_2 : decode c_B_clearColumn 2 = .ok (.iload_n 3, 1) := by decide +kernel
theorem d_B_clearColumn_3 : decode c_B_clearColumn 3 = .ok (.bipush 17, 2) := by decide +kernel
theorem d_B_clearColumn_5 : decode c_B_clearColumn 5 = .ok (.if_icmp .ge 81, 3) := by decide +kernel
theorem d_B_clearColumn_8 : decode c_B_clearColumn 8 = .ok (.aload_n 0, 1) := by decide +kernel
theorem d_B_clearColumn_9 : decode c_B_clearColumn 9 = .ok (.getfield 11, 3) := by decide +kernel
theorem d_B_clearColumn_12 : decode c_B_clearColumn 12 = .ok (.iload_n 3, 1) := by decide +kernel
theorem d_B_clearColumn_13 : decode c_B_clearColumn 13 = .ok (.aaload, 1) := by decide +kernel
theorem d_B_clearColumn_14 : decode c_B_clearColumn 14 = .ok (.iload_n 2, 1) := by decide +kernel
theorem d_B_clearColumn_15 : decode c_B_clearColumn 15 = .ok (.laload, 1) := by decide +kernel
theorem d_B_clearColumn_16 : decode c_B_clearColumn 16 = .ok (.lstore 4, 2) := by decide +kernel
theorem d_B_clearColumn_18 : decode c_B_clearColumn 18 = .ok (.iload_n 3, 1) := by decide +kernel
theorem d_B_clearColumn_19 : decode c_B_clearColumn 19 = .ok (.iload_n 1, 1) := by decide +kernel
theorem d_B_clearColumn_20 : decode c_B_clearColumn 20 = .ok (.if_icmp .eq 60, 3) := by decide +kernel
theorem d_B_clearColumn_23 : decode c_B_clearColumn 23 = .ok (.lload 4, 2) := by decide +kernel
theorem d_B_clearColumn_25 : decode c_B_clearColumn 25 = .ok (.lconst 0, 1) := by decide +kernel
theorem d_B_clearColumn_26 : decode c_B_clearColumn 26 = .ok (.lcmp, 1) := by decide +kernel
theorem d_B_clearColumn_27 : decode c_B_clearColumn 27 = .ok (.ifCond .eq 53, 3) := by decide +kernel
theorem d_B_clearColumn_30 : decode c_B_clearColumn 30 = .ok (.iconst 0, 1) := by decide +kernel
theorem d_B_clearColumn_31 : decode c_B_clearColumn 31 = .ok (.istore 6, 2) := by decide +kernel
theorem d_B_clearColumn_33 : decode c_B_clearColumn 33 = .ok (.iload 6, 2) := by decide +kernel
theorem d_B_clearColumn_35 : decode c_B_clearColumn 35 = .ok (.bipush 13, 2) := by decide +kernel
theorem d_B_clearColumn_37 : decode c_B_clearColumn 37 = .ok (.if_icmp .ge 43, 3) := by decide +kernel
theorem d_B_clearColumn_40 : decode c_B_clearColumn 40 = .ok (.aload_n 0, 1) := by decide +kernel
theorem d_B_clearColumn_41 : decode c_B_clearColumn 41 = .ok (.getfield 11, 3) := by decide +kernel
theorem d_B_clearColumn_44 : decode c_B_clearColumn 44 = .ok (.iload_n 3, 1) := by decide +kernel
theorem d_B_clearColumn_45 : decode c_B_clearColumn 45 = .ok (.aaload, 1) := by decide +kernel
theorem d_B_clearColumn_46 : decode c_B_clearColumn 46 = .ok (.iload 6, 2) := by decide +kernel
theorem d_B_clearColumn_48 : decode c_B_clearColumn 48 = .ok (.aload_n 0, 1) := by decide +kernel
theorem d_B_clearColumn_49 : decode c_B_clearColumn 49 = .ok (.getfield 11, 3) := by decide +kernel
theorem d_B_clearColumn_52 : decode c_B_clearColumn 52 = .ok (.iload_n 3, 1) := by decide +kernel
theorem d_B_clearColumn_53 : decode c_B_clearColumn 53 = .ok (.aaload, 1) := by decide +kernel
theorem d_B_clearColumn_54 : decode c_B_clearColumn 54 = .ok (.iload 6, 2) := by decide +kernel
theorem d_B_clearColumn_56 : decode c_B_clearColumn 56 = .ok (.laload, 1) := by decide +kernel
theorem d_B_clearColumn_57 : decode c_B_clearColumn 57 = .ok (.lload 4, 2) := by decide +kernel
theorem d_B_clearColumn_59 : decode c_B_clearColumn 59 = .ok (.aload_n 0, 1) := by decide +kernel
theorem d_B_clearColumn_60 : decode c_B_clearColumn 60 = .ok (.getfield 11, 3) := by decide +kernel
theorem d_B_clearColumn_63 : decode c_B_clearColumn 63 = .ok (.iload_n 1, 1) := by decide +kernel
theorem d_B_clearColumn_64 : decode c_B_clearColumn 64 = .ok (.aaload, 1) := by decide +kernel
theorem d_B_clearColumn_65 : decode c_B_clearColumn 65 = .ok (.iload 6, 2) := by decide +kernel
theorem d_B_clearColumn_67 : decode c_B_clearColumn 67 = .ok (.laload, 1) := by decide +kernel
theorem d_B_clearColumn_68 : decode c_B_clearColumn 68 = .ok (.lmul, 1) := by decide +kernel
theorem d_B_clearColumn_69 : decode c_B_clearColumn 69 = .ok (.lsub, 1) := by decide +kernel
theorem d_B_clearColumn_70 : decode c_B_clearColumn 70 = .ok (.invokestatic 54, 3) := by decide +kernel
theorem d_B_clearColumn_73 : decode c_B_clearColumn 73 = .ok (.lastore, 1) := by decide +kernel
theorem d_B_clearColumn_74 : decode c_B_clearColumn 74 = .ok (.iinc 6 1, 3) := by decide +kernel
theorem d_B_clearColumn_77 : decode c_B_clearColumn 77 = .ok (.goto (-44), 3) := by decide +kernel
theorem d_B_clearColumn_80 : decode c_B_clearColumn 80 = .ok (.iinc 3 1, 3) := by decide +kernel
theorem d_B_clearColumn_83 : decode c_B_clearColumn 83 = .ok (.goto (-81), 3) := by decide +kernel
theorem d_B_clearColumn_86 : decode c_B_clearColumn 86 = .ok (.return_, 1) := by decide +kernel
theorem d_B_fillMember_0 : decode c_B_fillMember 0 = .ok (.aload_n 1, 1) := by decide +kernel
theorem d_B_fillMember_1 : decode c_B_fillMember 1 = .ok (.lconst 0, 1) := by decide +kernel
theorem d_B_fillMember_2 : decode c_B_fillMember 2 = .ok (.invokestatic 57, 3) := by decide +kernel
theorem d_B_fillMember_5 : decode c_B_fillMember 5 = .ok (.aload_n 1, 1) := by decide +kernel
theorem d_B_fillMember_6 : decode c_B_fillMember 6 = .ok (.iload_n 2, 1) := by decide +kernel
theorem d_B_fillMember_7 : decode c_B_fillMember 7 = .ok (.lconst 1, 1) := by decide +kernel
theorem d_B_fillMember_8 : decode c_B_fillMember 8 = .ok (.lastore, 1) := by decide +kernel
theorem d_B_fillMember_9 : decode c_B_fillMember 9 = .ok (.iconst 0, 1) := by decide +kernel
theorem d_B_fillMember_10 : decode c_B_fillMember 10 = .ok (.istore_n 3, 1) := by decide +kernel
theorem d_B_fillMember_11 : decode c_B_fillMember 11 = .ok (.iload_n 3, 1) := by decide +kernel
theorem d_B_fillMember_12 : decode c_B_fillMember 12 = .ok (.iload_n 2, 1) := by decide +kernel
theorem d_B_fillMember_13 : decode c_B_fillMember 13 = .ok (.if_icmp .ge 39, 3) := by decide +kernel
theorem d_B_fillMember_16 : decode c_B_fillMember 16 = .ok (.aload_n 0, 1) := by decide +kernel
theorem d_B_fillMember_17 : decode c_B_fillMember 17 = .ok (.getfield 16, 3) := by decide +kernel
theorem d_B_fillMember_20 : decode c_B_fillMember 20 = .ok (.iload_n 3, 1) := by decide +kernel
theorem d_B_fillMember_21 : decode c_B_fillMember 21 = .ok (.iaload, 1) := by decide +kernel
theorem d_B_fillMember_22 : decode c_B_fillMember 22 = .ok (.iconst (-1), 1) := by decide +kernel
theorem d_B_fillMember_23 : decode c_B_fillMember 23 = .ok (.if_icmp .eq 23, 3) := by decide +kernel
theorem d_B_fillMember_26 : decode c_B_fillMember 26 = .ok (.aload_n 1, 1) := by decide +kernel
theorem d_B_fillMember_27 : decode c_B_fillMember 27 = .ok (.iload_n 3, 1) := by decide +kernel
theorem d_B_fillMember_28 : decode c_B_fillMember 28 = .ok (.aload_n 0, 1) := by decide +kernel
theorem d_B_fillMember_29 : decode c_B_fillMember 29 = .ok (.getfield 11, 3) := by decide +kernel
theorem d_B_fillMember_32 : decode c_B_fillMember 32 = .ok (.aload_n 0, 1) := by decide +kernel
theorem d_B_fillMember_33 : decode c_B_fillMember 33 = .ok (.getfield 16, 3) := by decide +kernel
theorem d_B_fillMember_36 : decode c_B_fillMember 36 = .ok (.iload_n 3, 1) := by decide +kernel
theorem d_B_fillMember_37 : decode c_B_fillMember 37 = .ok (.iaload, 1) := by decide +kernel
theorem d_B_fillMember_38 : decode c_B_fillMember 38 = .ok (.aaload, 1) := by decide +kernel
theorem d_B_fillMember_39 : decode c_B_fillMember 39 = .ok (.iload_n 2, 1) := by decide +kernel
theorem d_B_fillMember_40 : decode c_B_fillMember 40 = .ok (.laload, 1) := by decide +kernel
theorem d_B_fillMember_41 : decode c_B_fillMember 41 = .ok (.lneg, 1) := by decide +kernel
theorem d_B_fillMember_42 : decode c_B_fillMember 42 = .ok (.invokestatic 54, 3) := by decide +kernel
theorem d_B_fillMember_45 : decode c_B_fillMember 45 = .ok (.lastore, 1) := by decide +kernel
theorem d_B_fillMember_46 : decode c_B_fillMember 46 = .ok (.iinc 3 1, 3) := by decide +kernel
theorem d_B_fillMember_49 : decode c_B_fillMember 49 = .ok (.goto (-38), 3) := by decide +kernel
theorem d_B_fillMember_52 : decode c_B_fillMember 52 = .ok (.return_, 1) := by decide +kernel
end
section
theorem d_O_init_0 : decode c_O_init 0 = .ok (.aload_n 0, 1) := by decide +kernel
theorem d_O_init_1 : decode c_O_init 1 = .ok (.invokespecial 3, 3) := by decide +kernel
theorem d_O_init_4 : decode c_O_init 4 = .ok (.aload_n 0, 1) := by decide +kernel
theorem d_O_init_5 : decode c_O_init 5 = .ok (.iconst 4, 1) := by decide +kernel
theorem d_O_init_6 : decode c_O_init 6 = .ok (.iconst 5, 1) := by decide +kernel
theorem d_O_init_7 : decode c_O_init 7 = .ok (.multianewarray 9 2, 4) := by decide +kernel
theorem d_O_init_11 : decode c_O_init 11 = .ok (.putfield 11, 3) := by decide +kernel
theorem d_O_init_14 : decode c_O_init 14 = .ok (.aload_n 0, 1) := by decide +kernel
theorem d_O_init_15 : decode c_O_init 15 = .ok (.iconst 4, 1) := by decide +kernel
theorem d_O_init_16 : decode c_O_init 16 = .ok (.iconst 5, 1) := by decide +kernel
theorem d_O_init_17 : decode c_O_init 17 = .ok (.multianewarray 9 2, 4) := by decide +kernel
theorem d_O_init_21 : decode c_O_init 21 = .ok (.putfield 14, 3) := by decide +kernel
theorem d_O_init_24 : decode c_O_init 24 = .ok (.aload_n 0, 1) := by decide +kernel
theorem d_O_init_25 : decode c_O_init 25 = .ok (.bipush 13, 2) := by decide +kernel
theorem d_O_init_27 : decode c_O_init 27 = .ok (.newarray .long, 2) := by decide +kernel
theorem d_O_init_29 : decode c_O_init 29 = .ok (.putfield 17, 3) := by decide +kernel
theorem d_O_init_32 : decode c_O_init 32 = .ok (.aload_n 0, 1) := by decide +kernel
theorem d_O_init_33 : decode c_O_init 33 = .ok (.bipush 31, 2) := by decide +kernel
theorem d_O_init_35 : decode c_O_init 35 = .ok (.newarray .long, 2) := by decide +kernel
theorem d_O_init_37 : decode c_O_init 37 = .ok (.putfield 21, 3) := by decide +kernel
theorem d_O_init_40 : decode c_O_init 40 = .ok (.aload_n 0, 1) := by decide +kernel
theorem d_O_init_41 : decode c_O_init 41 = .ok (.iconst 5, 1) := by decide +kernel
theorem d_O_init_42 : decode c_O_init 42 = .ok (.newarray .long, 2) := by decide +kernel
theorem d_O_init_44 : decode c_O_init 44 = .ok (.putfield 24, 3) := by decide +kernel
theorem d_O_init_47 : decode c_O_init 47 = .ok (.aload_n 0, 1) := by decide +kernel
theorem d_O_init_48 : decode c_O_init 48 = .ok (.new 27, 3) := by decide +kernel
theorem d_O_init_51 : decode c_O_init 51 = .ok (.dup, 1) := by decide +kernel
theorem d_O_init_52 : decode c_O_init 52 = .ok (.invokespecial 29, 3) := by decide +kernel
theorem d_O_init_55 : decode c_O_init 55 = .ok (.putfield 30, 3) := by decide +kernel
theorem d_O_init_58 : decode c_O_init 58 = .ok (.aload_n 0, 1) := by decide +kernel
theorem d_O_init_59 : decode c_O_init 59 = .ok (.new 34, 3) := by decide +kernel
theorem d_O_init_62 : decode c_O_init 62 = .ok (.dup, 1) := by decide +kernel
theorem d_O_init_63 : decode c_O_init 63 = .ok (.invokespecial 36, 3) := by decide +kernel
theorem d_O_init_66 : decode c_O_init 66 = .ok (.putfield 37, 3) := by decide +kernel
theorem d_O_init_69 : decode c_O_init 69 = .ok (.aload_n 0, 1) := by decide +kernel
theorem d_O_init_70 : decode c_O_init 70 = .ok (.iconst 0, 1) := by decide +kernel
theorem d_O_init_71 : decode c_O_init 71 = .ok (.putfield 41, 3) := by decide +kernel
theorem d_O_init_74 : decode c_O_init 74 = .ok (.aload_n 0, 1) := by decide +kernel
theorem d_O_init_75 : decode c_O_init 75 = .ok (.iconst 1, 1) := by decide +kernel
theorem d_O_init_76 : decode c_O_init 76 = .ok (.iconst 3, 1) := by decide +kernel
theorem d_O_init_77 : decode c_O_init 77 = .ok (.iload_n 1, 1) := by decide +kernel
theorem d_O_init_78 : decode c_O_init 78 = .ok (.invokestatic 45, 3) := by decide +kernel
theorem d_O_init_81 : decode c_O_init 81 = .ok (.invokestatic 51, 3) := by decide +kernel
theorem d_O_init_84 : decode c_O_init 84 = .ok (.putfield 54, 3) := by decide +kernel
theorem d_O_init_87 : decode c_O_init 87 = .ok (.return_, 1) := by decide +kernel
theorem d_O_put_0 : decode c_O_put 0 = .ok (.aload_n 0, 1) := by decide +kernel
theorem d_O_put_1 : decode c_O_put 1 = .ok (.iload_n 1, 1) := by decide +kernel
theorem d_O_put_2 : decode c_O_put 2 = .ok (.iload_n 2, 1) := by decide +kernel
theorem d_O_put_3 : decode c_O_put 3 = .ok (.invokevirtual 58, 3) := by decide +kernel
theorem d_O_put_6 : decode c_O_put 6 = .ok (.lload_n 3, 1) := by decide +kernel
theorem d_O_put_7 : decode c_O_put 7 = .ok (.invokestatic 62, 3) := by decide +kernel
theorem d_O_put_10 : decode c_O_put 10 = .ok (.lstore 5, 2) := by decide +kernel
theorem d_O_put_12 : decode c_O_put 12 = .ok (.aload_n 0, 1) := by decide +kernel
theorem d_O_put_13 : decode c_O_put 13 = .ok (.getfield 11, 3) := by decide +kernel
theorem d_O_put_16 : decode c_O_put 16 = .ok (.iload_n 1, 1) := by decide +kernel
theorem d_O_put_17 : decode c_O_put 17 = .ok (.aaload, 1) := by decide +kernel
theorem d_O_put_18 : decode c_O_put 18 = .ok (.iload_n 2, 1) := by decide +kernel
theorem d_O_put_19 : decode c_O_put 19 = .ok (.laload, 1) := by decide +kernel
theorem d_O_put_20 : decode c_O_put 20 = .ok (.lload 5, 2) := by decide +kernel
theorem d_O_put_22 : decode c_O_put 22 = .ok (.lcmp, 1) := by decide +kernel
theorem d_O_put_23 : decode c_O_put 23 = .ok (.ifCond .ne 5, 3) := by decide +kernel
theorem d_O_put_26 : decode c_O_put 26 = .ok (.iconst 0, 1) := by decide +kernel
theorem d_O_put_27 : decode c_O_put 27 = .ok (.ireturn, 1) := by decide +kernel
theorem d_O_put_28 : decode c_O_put 28 = .ok (.aload_n 0, 1) := by decide +kernel
theorem d_O_put_29 : decode c_O_put 29 = .ok (.getfield 11, 3) := by decide +kernel
theorem d_O_put_32 : decode c_O_put 32 = .ok (.iload_n 1, 1) := by decide +kernel
theorem d_O_put_33 : decode c_O_put 33 = .ok (.aaload, 1) := by decide +kernel
theorem d_O_put_34 : decode c_O_put 34 = .ok (.iload_n 2, 1) := by decide +kernel
theorem d_O_put_35 : decode c_O_put 35 = .ok (.lload 5, 2) := by decide +kernel
theorem d_O_put_37 : decode c_O_put 37 = .ok (.lastore, 1) := by decide +kernel
theorem d_O_put_38 : decode c_O_put 38 = .ok (.aload_n 0, 1) := by decide +kernel
theorem d_O_put_39 : decode c_O_put 39 = .ok (.iconst 0, 1) := by decide +kernel
theorem d_O_put_40 : decode c_O_put 40 = .ok (.putfield 41, 3) := by decide +kernel
theorem d_O_put_43 : decode c_O_put 43 = .ok (.iconst 1, 1) := by decide +kernel
theorem d_O_put_44 : decode c_O_put 44 = .ok (.ireturn, 1) := by decide +kernel
theorem d_O_at_0 : decode c_O_at 0 = .ok (.aload_n 0, 1) := by decide +kernel
theorem d_O_at_1 : decode c_O_at 1 = .ok (.iload_n 1, 1) := by decide +kernel
theorem d_O_at_2 : decode c_O_at 2 = .ok (.iload_n 2, 1) := by decide +kernel
theorem d_O_at_3 : decode c_O_at 3 = .ok (.invokevirtual 58, 3) := by decide +kernel
theorem d_O_at_6 : decode c_O_at 6 = .ok (.aload_n 0, 1) := by decide +kernel
theorem d_O_at_7 : decode c_O_at 7 = .ok (.getfield 11, 3) := by decide +kernel
theorem d_O_at_10 : decode c_O_at 10 = .ok (.iload_n 1, 1) := by decide +kernel
theorem d_O_at_11 : decode c_O_at 11 = .ok (.aaload, 1) := by decide +kernel
theorem d_O_at_12 : decode c_O_at 12 = .ok (.iload_n 2, 1) := by decide +kernel
theorem d_O_at_13 : decode c_O_at 13 = .ok (.laload, 1) := by decide +kernel
theorem d_O_at_14 : decode c_O_at 14 = .ok (.l2i, 1) := by decide +kernel
theorem d_O_at_15 : decode c_O_at 15 = .ok (.ireturn, 1) := by decide +kernel
theorem d_O_hand_0 : decode c_O_hand 0 = .ok (.aload_n 0, 1) := by decide +kernel
theorem d_O_hand_1 : decode c_O_hand 1 = .ok (.iload_n 1, 1) := by decide +kernel
theorem d_O_hand_2 : decode c_O_hand 2 = .ok (.invokevirtual 66, 3) := by decide +kernel
theorem d_O_hand_5 : decode c_O_hand 5 = .ok (.aload_n 0, 1) := by decide +kernel
theorem d_O_hand_6 : decode c_O_hand 6 = .ok (.getfield 17, 3) := by decide +kernel
theorem d_O_hand_9 : decode c_O_hand 9 = .ok (.iload_n 1, 1) := by decide +kernel
theorem d_O_hand_10 : decode c_O_hand 10 = .ok (.lload_n 2, 1) := by decide +kernel
theorem d_O_hand_11 : decode c_O_hand 11 = .ok (.invokestatic 62, 3) := by decide +kernel
theorem d_O_hand_14 : decode c_O_hand 14 = .ok (.lastore, 1) := by decide +kernel
theorem d_O_hand_15 : decode c_O_hand 15 = .ok (.return_, 1) := by decide +kernel
theorem d_O_made_0 : decode c_O_made 0 = .ok (.iload_n 1, 1) := by decide +kernel
theorem d_O_made_1 : decode c_O_made 1 = .ok (.ifCond .lt 9, 3) := by decide +kernel
theorem d_O_made_4 : decode c_O_made 4 = .ok (.iload_n 1, 1) := by decide +kernel
theorem d_O_made_5 : decode c_O_made 5 = .ok (.bipush 17, 2) := by decide +kernel
theorem d_O_made_7 : decode c_O_made 7 = .ok (.if_icmp .lt 5, 3) := by decide +kernel
theorem d_O_made_10 : decode c_O_made 10 = .ok (.iconst 0, 1) := by decide +kernel
theorem d_O_made_11 : decode c_O_made 11 = .ok (.ireturn, 1) := by decide +kernel
theorem d_O_made_12 : decode c_O_made 12 = .ok (.aload_n 0, 1) := by decide +kernel
theorem d_O_made_13 : decode c_O_made 13 = .ok (.iload_n 1, 1) := by decide +kernel
theorem d_O_made_14 : decode c_O_made 14 = .ok (.invokevirtual 70, 3) := by decide +kernel
theorem d_O_made_17 : decode c_O_made 17 = .ok (.l2i, 1) := by decide +kernel
theorem d_O_made_18 : decode c_O_made 18 = .ok (.ireturn, 1) := by decide +kernel
theorem d_O_places_0 : decode c_O_places 0 = .ok (.aload_n 0, 1) := by decide +kernel
theorem d_O_places_1 : decode c_O_places 1 = .ok (.invokevirtual 74, 3) := by decide +kernel
theorem d_O_places_4 : decode c_O_places 4 = .ok (.aload_n 0, 1) := by decide +kernel
theorem d_O_places_5 : decode c_O_places 5 = .ok (.getfield 30, 3) := by decide +kernel
theorem d_O_places_8 : decode c_O_places 8 = .ok (.invokevirtual 77, 3) := by decide +kernel
theorem d_O_places_11 : decode c_O_places 11 = .ok (.ireturn, 1) := by decide +kernel
theorem d_O_place_0 : decode c_O_place 0 = .ok (.aload_n 0, 1) := by decide +kernel
theorem d_O_place_1 : decode c_O_place 1 = .ok (.invokevirtual 74, 3) := by decide +kernel
theorem d_O_place_4 : decode c_O_place 4 = .ok (.iload_n 1, 1) := by decide +kernel
theorem d_O_place_5 : decode c_O_place 5 = .ok (.ifCond .lt 14, 3) := by decide +kernel
theorem d_O_place_8 : decode c_O_place 8 = .ok (.iload_n 1, 1) := by decide +kernel
theorem d_O_place_9 : decode c_O_place 9 = .ok (.aload_n 0, 1) := by decide +kernel
theorem d_O_place_10 : decode c_O_place 10 = .ok (.getfield 30, 3) := by decide +kernel
theorem d_O_place_13 : decode c_O_place 13 = .ok (.invokevirtual 77, 3) := by decide +kernel
theorem d_O_place_16 : decode c_O_place 16 = .ok (.if_icmp .lt 13, 3) := by decide +kernel
theorem d_O_place_19 : decode c_O_place 19 = .ok (.new 81, 3) := by decide +kernel
theorem d_O_place_22 : decode c_O_place 22 = .ok (.dup, 1) := by decide +kernel
theorem d_O_place_23 : decode c_O_place 23 = .ok (.ldc 83, 2) := by decide +kernel
theorem d_O_place_25 : decode c_O_place 25 = .ok (.invokespecial 85, 3) := by decide +kernel
theorem d_O_place_28 : decode c_O_place 28 = .ok (.athrow, 1) := by decide +kernel
theorem d_O_place_29 : decode c_O_place 29 = .ok (.aload_n 0, 1) := by decide +kernel
theorem d_O_place_30 : decode c_O_place 30 = .ok (.getfield 30, 3) := by decide +kernel
theorem d_O_place_33 : decode c_O_place 33 = .ok (.iload_n 1, 1) := by decide +kernel
theorem d_O_place_34 : decode c_O_place 34 = .ok (.invokevirtual 88, 3) := by decide +kernel
theorem d_O_place_37 : decode c_O_place 37 = .ok (.ireturn, 1) := by decide +kernel
theorem d_O_level_0 : decode c_O_level 0 = .ok (.aload_n 0, 1) := by decide +kernel
theorem d_O_level_1 : decode c_O_level 1 = .ok (.iload_n 1, 1) := by decide +kernel
theorem d_O_level_2 : decode c_O_level 2 = .ok (.lload_n 2, 1) := by decide +kernel
theorem d_O_level_3 : decode c_O_level 3 = .ok (.invokevirtual 92, 3) := by decide +kernel
theorem d_O_level_6 : decode c_O_level 6 = .ok (.ireturn, 1) := by decide +kernel
theorem d_O_regular_0 : decode c_O_regular 0 = .ok (.aload_n 0, 1) := by decide +kernel
theorem d_O_regular_1 : decode c_O_regular 1 = .ok (.iload_n 1, 1) := by decide +kernel
theorem d_O_regular_2 : decode c_O_regular 2 = .ok (.lload_n 2, 1) := by decide +kernel
theorem d_O_regular_3 : decode c_O_regular 3 = .ok (.invokevirtual 92, 3) := by decide +kernel
theorem d_O_regular_6 : decode c_O_regular 6 = .ok (.istore 4, 2) := by decide +kernel
theorem d_O_regular_8 : decode c_O_regular 8 = .ok (.aload_n 0, 1) := by decide +kernel
theorem d_O_regular_9 : decode c_O_regular 9 = .ok (.aload_n 0, 1) := by decide +kernel
theorem d_O_regular_10 : decode c_O_regular 10 = .ok (.getfield 54, 3) := by decide +kernel
theorem d_O_regular_13 : decode c_O_regular 13 = .ok (.iload 4, 2) := by decide +kernel
theorem d_O_regular_15 : decode c_O_regular 15 = .ok (.aload_n 0, 1) := by decide +kernel
theorem d_O_regular_16 : decode c_O_regular 16 = .ok (.getfield 54, 3) := by decide +kernel
theorem d_O_regular_19 : decode c_O_regular 19 = .ok (.iadd, 1) := by decide +kernel
theorem d_O_regular_20 : decode c_O_regular 20 = .ok (.invokevirtual 96, 3) := by decide +kernel
theorem d_O_regular_23 : decode c_O_regular 23 = .ok (.lconst 0, 1) := by decide +kernel
theorem d_O_regular_24 : decode c_O_regular 24 = .ok (.lcmp, 1) := by decide +kernel
theorem d_O_regular_25 : decode c_O_regular 25 = .ok (.ifCond .eq 7, 3) := by decide +kernel
theorem d_O_regular_28 : decode c_O_regular 28 = .ok (.iconst 1, 1) := by decide +kernel
theorem d_O_regular_29 : decode c_O_regular 29 = .ok (.goto 4, 3) := by decide +kernel
theorem d_O_regular_32 : decode c_O_regular 32 = .ok (.iconst 0, 1) := by decide +kernel
theorem d_O_regular_33 : decode c_O_regular 33 = .ok (.ireturn, 1) := by decide +kernel
theorem d_O_exponent_0 : decode c_O_exponent 0 = .ok (.aload_n 0, 1) := by decide +kernel
theorem d_O_exponent_1 : decode c_O_exponent 1 = .ok (.aload_n 0, 1) := by decide +kernel
theorem d_O_exponent_2 : decode c_O_exponent 2 = .ok (.iload_n 1, 1) := by decide +kernel
theorem d_O_exponent_3 : decode c_O_exponent 3 = .ok (.lload_n 2, 1) := by decide +kernel
theorem d_O_exponent_4 : decode c_O_exponent 4 = .ok (.invokevirtual 92, 3) := by decide +kernel
theorem d_O_exponent_7 : decode c_O_exponent 7 = .ok (.invokevirtual 100, 3) := by decide +kernel
theorem d_O_exponent_10 : decode c_O_exponent 10 = .ok (.aload_n 0, 1) := by decide +kernel
theorem d_O_exponent_11 : decode c_O_exponent 11 = .ok (.getfield 30, 3) := by decide +kernel
theorem d_O_exponent_14 : decode c_O_exponent 14 = .ok (.aload_n 0, 1) := by decide +kernel
theorem d_O_exponent_15 : decode c_O_exponent 15 = .ok (.getfield 24, 3) := by decide +kernel
theorem d_O_exponent_18 : decode c_O_exponent 18 = .ok (.invokevirtual 103, 3) := by decide +kernel
theorem d_O_exponent_21 : decode c_O_exponent 21 = .ok (.aload_n 0, 1) := by decide +kernel
theorem d_O_exponent_22 : decode c_O_exponent 22 = .ok (.getfield 30, 3) := by decide +kernel
theorem d_O_exponent_25 : decode c_O_exponent 25 = .ok (.iload 4, 2) := by decide +kernel
theorem d_O_exponent_27 : decode c_O_exponent 27 = .ok (.invokevirtual 88, 3) := by decide +kernel
theorem d_O_exponent_30 : decode c_O_exponent 30 = .ok (.ireturn, 1) := by decide +kernel
theorem d_O_answers_0 : decode c_O_answers 0 = .ok (.aload_n 0, 1) := by decide +kernel
theorem d_O_answers_1 : decode c_O_answers 1 = .ok (.invokevirtual 107, 3) := by decide +kernel
theorem d_O_answers_4 : decode c_O_answers 4 = .ok (.aload_n 0, 1) := by decide +kernel
theorem d_O_answers_5 : decode c_O_answers 5 = .ok (.getfield 37, 3) := by decide +kernel
theorem d_O_answers_8 : decode c_O_answers 8 = .ok (.invokevirtual 110, 3) := by decide +kernel
theorem d_O_answers_11 : decode c_O_answers 11 = .ok (.ireturn, 1) := by decide +kernel
theorem d_O_answer_0 : decode c_O_answer 0 = .ok (.aload_n 0, 1) := by decide +kernel
theorem d_O_answer_1 : decode c_O_answer 1 = .ok (.iload_n 2, 1) := by decide +kernel
theorem d_O_answer_2 : decode c_O_answer 2 = .ok (.invokevirtual 66, 3) := by decide +kernel
theorem d_O_answer_5 : decode c_O_answer 5 = .ok (.aload_n 0, 1) := by decide +kernel
theorem d_O_answer_6 : decode c_O_answer 6 = .ok (.iload_n 1, 1) := by decide +kernel
theorem d_O_answer_7 : decode c_O_answer 7 = .ok (.invokevirtual 113, 3) := by decide +kernel
theorem d_O_answer_10 : decode c_O_answer 10 = .ok (.aload_n 0, 1) := by decide +kernel
theorem d_O_answer_11 : decode c_O_answer 11 = .ok (.getfield 37, 3) := by decide +kernel
theorem d_O_answer_14 : decode c_O_answer 14 = .ok (.iload_n 1, 1) := by decide +kernel
theorem d_O_answer_15 : decode c_O_answer 15 = .ok (.invokevirtual 116, 3) := by decide +kernel
theorem d_O_answer_18 : decode c_O_answer 18 = .ok (.iload_n 2, 1) := by decide +kernel
theorem d_O_answer_19 : decode c_O_answer 19 = .ok (.laload, 1) := by decide +kernel
theorem d_O_answer_20 : decode c_O_answer 20 = .ok (.l2i, 1) := by decide +kernel
theorem d_O_answer_21 : decode c_O_answer 21 = .ok (.ireturn, 1) := by decide +kernel
theorem d_O_solves_0 : decode c_O_solves 0 = .ok (.iconst 0, 1) := by decide +kernel
theorem d_O_solves_1 : decode c_O_solves 1 = .ok (.istore_n 1, 1) := by decide +kernel
theorem d_O_solves_2 : decode c_O_solves 2 = .ok (.iload_n 1, 1) := by decide +kernel
theorem d_O_solves_3 : decode c_O_solves 3 = .ok (.bipush 17, 2) := by decide +kernel
theorem d_O_solves_5 : decode c_O_solves 5 = .ok (.if_icmp .ge 21, 3) := by decide +kernel
theorem d_O_solves_8 : decode c_O_solves 8 = .ok (.aload_n 0, 1) := by decide +kernel
theorem d_O_solves_9 : decode c_O_solves 9 = .ok (.iload_n 1, 1) := by decide +kernel
theorem d_O_solves_10 : decode c_O_solves 10 = .ok (.invokevirtual 70, 3) := by decide +kernel
theorem d_O_solves_13 : decode c_O_solves 13 = .ok (.lconst 0, 1) := by decide +kernel
theorem d_O_solves_14 : decode c_O_solves 14 = .ok (.lcmp, 1) := by decide +kernel
theorem d_O_solves_15 : decode c_O_solves 15 = .ok (.ifCond .eq 5, 3) := by decide +kernel
theorem d_O_solves_18 : decode c_O_solves 18 = .ok (.iconst 0, 1) := by decide +kernel
theorem d_O_solves_19 : decode c_O_solves 19 = .ok (.ireturn, 1) := by decide +kernel
theorem d_O_solves_20 : decode c_O_solves 20 = .ok (.iinc 1 1, 3) := by decide +kernel
theorem d_O_solves_23 : decode c_O_solves 23 = .ok (.goto (-21), 3) := by decide +kernel
theorem d_O_solves_26 : decode c_O_solves 26 = .ok (.iconst 1, 1) := by decide +kernel
theorem d_O_solves_27 : decode c_O_solves 27 = .ok (.ireturn, 1) := by decide +kernel
theorem d_O_take_0 : decode c_O_take 0 = .ok (.aload_n 0, 1) := by decide +kernel
theorem d_O_take_1 : decode c_O_take 1 = .ok (.iload_n 1, 1) := by decide +kernel
theorem d_O_take_2 : decode c_O_take 2 = .ok (.invokevirtual 113, 3) := by decide +kernel
theorem d_O_take_5 : decode c_O_take 5 = .ok (.aload_n 0, 1) := by decide +kernel
theorem d_O_take_6 : decode c_O_take 6 = .ok (.getfield 37, 3) := by decide +kernel
theorem d_O_take_9 : decode c_O_take 9 = .ok (.iload_n 1, 1) := by decide +kernel
theorem d_O_take_10 : decode c_O_take 10 = .ok (.invokevirtual 116, 3) := by decide +kernel
theorem d_O_take_13 : decode c_O_take 13 = .ok (.iconst 0, 1) := by decide +kernel
theorem d_O_take_14 : decode c_O_take 14 = .ok (.aload_n 0, 1) := by decide +kernel
theorem d_O_take_15 : decode c_O_take 15 = .ok (.getfield 17, 3) := by decide +kernel
theorem d_O_take_18 : decode c_O_take 18 = .ok (.iconst 0, 1) := by decide +kernel
theorem d_O_take_19 : decode c_O_take 19 = .ok (.bipush 13, 2) := by decide +kernel
theorem d_O_take_21 : decode c_O_take 21 = .ok (.invokestatic 120, 3) := by decide +kernel
theorem d_O_take_24 : decode c_O_take 24 = .ok (.return_, 1) := by decide +kernel
theorem d_O_series_0 : decode c_O_series 0 = .ok (.iload 9, 2) := by decide +kernel
theorem d_O_series_2 : decode c_O_series 2 = .ok (.ifCond .lt 10, 3) := by decide +kernel
theorem d_O_series_5 : decode c_O_series 5 = .ok (.iload 9, 2) := by decide +kernel
theorem d_O_series_7 : decode c_O_series 7 = .ok (.bipush 31, 2) := by decide +kernel
theorem d_O_series_9 : decode c_O_series 9 = .ok (.if_icmp .lt 13, 3) := by decide +kernel
theorem d_O_series_12 : decode c_O_series 12 = .ok (.new 81, 3) := by decide +kernel
theorem d_O_series_15 : decode c_O_series 15 = .ok (.dup, 1) := by decide +kernel
theorem d_O_series_16 : decode c_O_series 16 = .ok (.ldc 126, 2) := by decide +kernel
theorem d_O_series_18 : decode c_O_series 18 = .ok (.invokespecial 85, 3) := by decide +kernel
theorem d_O_series_21 : decode c_O_series 21 = .ok (.athrow, 1) := by decide +kernel
theorem d_O_series_22 : decode c_O_series 22 = .ok (.aload_n 0, 1) := by decide +kernel
theorem d_O_series_23 : decode c_O_series 23 = .ok (.lload_n 1, 1) := by decide +kernel
theorem d_O_series_24 : decode c_O_series 24 = .ok (.invokestatic 62, 3) := by decide +kernel
theorem d_O_series_27 : decode c_O_series 27 = .ok (.invokevirtual 128, 3) := by decide +kernel
theorem d_O_series_30 : decode c_O_series 30 = .ok (.aload_n 0, 1) := by decide +kernel
theorem d_O_series_31 : decode c_O_series 31 = .ok (.getfield 14, 3) := by decide +kernel
theorem d_O_series_34 : decode c_O_series 34 = .ok (.aload_n 0, 1) := by decide +kernel
theorem d_O_series_35 : decode c_O_series 35 = .ok (.getfield 54, 3) := by decide +kernel
theorem d_O_series_38 : decode c_O_series 38 = .ok (.aaload, 1) := by decide +kernel
theorem d_O_series_39 : decode c_O_series 39 = .ok (.iconst 0, 1) := by decide +kernel
theorem d_O_series_40 : decode c_O_series 40 = .ok (.laload, 1) := by decide +kernel
theorem d_O_series_41 : decode c_O_series 41 = .ok (.lconst 0, 1) := by decide +kernel
theorem d_O_series_42 : decode c_O_series 42 = .ok (.lcmp, 1) := by decide +kernel
theorem d_O_series_43 : decode c_O_series 43 = .ok (.ifCond .ne 13, 3) := by decide +kernel
theorem d_O_series_46 : decode c_O_series 46 = .ok (.new 132, 3) := by decide +kernel
theorem d_O_series_49 : decode c_O_series 49 = .ok (.dup, 1) := by decide +kernel
theorem d_O_series_50 : decode c_O_series 50 = .ok (.ldc 134, 2) := by decide +kernel
theorem d_O_series_52 : decode c_O_series 52 = .ok (.invokespecial 136, 3) := by decide +kernel
theorem d_O_series_55 : decode c_O_series 55 = .ok (.athrow, 1) := by decide +kernel
theorem d_O_series_56 : decode c_O_series 56 = .ok (.aload_n 0, 1) := by decide +kernel
theorem d_O_series_57 : decode c_O_series 57 = .ok (.getfield 21, 3) := by decide +kernel
theorem d_O_series_60 : decode c_O_series 60 = .ok (.iconst 0, 1) := by decide +kernel
theorem d_O_series_61 : decode c_O_series 61 = .ok (.lload_n 3, 1) := by decide +kernel
theorem d_O_series_62 : decode c_O_series 62 = .ok (.invokestatic 62, 3) := by decide +kernel
theorem d_O_series_65 : decode c_O_series 65 = .ok (.lastore, 1) := by decide +kernel
theorem d_O_series_66 : decode c_O_series 66 = .ok (.aload_n 0, 1) := by decide +kernel
theorem d_O_series_67 : decode c_O_series 67 = .ok (.getfield 21, 3) := by decide +kernel
theorem d_O_series_70 : decode c_O_series 70 = .ok (.iconst 1, 1) := by decide +kernel
theorem d_O_series_71 : decode c_O_series 71 = .ok (.lload 5, 2) := by decide +kernel
theorem d_O_series_73 : decode c_O_series 73 = .ok (.invokestatic 62, 3) := by decide +kernel
theorem d_O_series_76 : decode c_O_series 76 = .ok (.lastore, 1) := by decide +kernel
theorem d_O_series_77 : decode c_O_series 77 = .ok (.aload_n 0, 1) := by decide +kernel
theorem d_O_series_78 : decode c_O_series 78 = .ok (.getfield 21, 3) := by decide +kernel
theorem d_O_series_81 : decode c_O_series 81 = .ok (.iconst 2, 1) := by decide +kernel
theorem d_O_series_82 : decode c_O_series 82 = .ok (.lload 7, 2) := by decide +kernel
theorem d_O_series_84 : decode c_O_series 84 = .ok (.invokestatic 62, 3) := by decide +kernel
theorem d_O_series_87 : decode c_O_series 87 = .ok (.lastore, 1) := by decide +kernel
theorem d_O_series_88 : decode c_O_series 88 = .ok (.aload_n 0, 1) := by decide +kernel
theorem d_O_series_89 : decode c_O_series 89 = .ok (.getfield 54, 3) := by decide +kernel
theorem d_O_series_92 : decode c_O_series 92 = .ok (.istore 10, 2) := by decide +kernel
theorem d_O_series_94 : decode c_O_series 94 = .ok (.iload 10, 2) := by decide +kernel
theorem d_O_series_96 : decode c_O_series 96 = .ok (.iload 9, 2) := by decide +kernel
theorem d_O_series_98 : decode c_O_series 98 = .ok (.if_icmp .gt 22, 3) := by decide +kernel
theorem d_O_series_101 : decode c_O_series 101 = .ok (.aload_n 0, 1) := by decide +kernel
theorem d_O_series_102 : decode c_O_series 102 = .ok (.getfield 21, 3) := by decide +kernel
theorem d_O_series_105 : decode c_O_series 105 = .ok (.iload 10, 2) := by decide +kernel
theorem d_O_series_107 : decode c_O_series 107 = .ok (.aload_n 0, 1) := by decide +kernel
theorem d_O_series_108 : decode c_O_series 108 = .ok (.iload 10, 2) := by decide +kernel
theorem d_O_series_110 : decode c_O_series 110 = .ok (.invokevirtual 137, 3) := by decide +kernel
theorem d_O_series_113 : decode c_O_series 113 = .ok (.lastore, 1) := by decide +kernel
theorem d_O_series_114 : decode c_O_series 114 = .ok (.iinc 10 1, 3) := by decide +kernel
theorem d_O_series_117 : decode c_O_series 117 = .ok (.goto (-23), 3) := by decide +kernel
theorem d_O_series_120 : decode c_O_series 120 = .ok (.aload_n 0, 1) := by decide +kernel
theorem d_O_series_121 : decode c_O_series 121 = .ok (.getfield 21, 3) := by decide +kernel
theorem d_O_series_124 : decode c_O_series 124 = .ok (.iload 9, 2) := by decide +kernel
theorem d_O_series_126 : decode c_O_series 126 = .ok (.laload, 1) := by decide +kernel
theorem d_O_series_127 : decode c_O_series 127 = .ok (.l2i, 1) := by decide +kernel
theorem d_O_series_128 : decode c_O_series 128 = .ok (.ireturn, 1) := by decide +kernel
theorem d_O_turn_0 : decode c_O_turn 0 = .ok (.iconst 0, 1) := by decide +kernel
theorem d_O_turn_1 : decode c_O_turn 1 = .ok (.istore_n 1, 1) := by decide +kernel
theorem d_O_turn_2 : decode c_O_turn 2 = .ok (.iload_n 1, 1) := by decide +kernel
theorem d_O_turn_3 : decode c_O_turn 3 = .ok (.aload_n 0, 1) := by decide +kernel
theorem d_O_turn_4 : decode c_O_turn 4 = .ok (.getfield 54, 3) := by decide +kernel
theorem d_O_turn_7 : decode c_O_turn 7 = .ok (.if_icmp .gt 36, 3) := by decide +kernel
theorem d_O_turn_10 : decode c_O_turn 10 = .ok (.iconst 0, 1) := by decide +kernel
theorem d_O_turn_11 : decode c_O_turn 11 = .ok (.istore_n 2, 1) := by decide +kernel
theorem d_O_turn_12 : decode c_O_turn 12 = .ok (.iload_n 2, 1) := by decide +kernel
theorem d_O_turn_13 : decode c_O_turn 13 = .ok (.iconst 5, 1) := by decide +kernel
theorem d_O_turn_14 : decode c_O_turn 14 = .ok (.if_icmp .ge 23, 3) := by decide +kernel
theorem d_O_turn_17 : decode c_O_turn 17 = .ok (.aload_n 0, 1) := by decide +kernel
theorem d_O_turn_18 : decode c_O_turn 18 = .ok (.getfield 14, 3) := by decide +kernel
theorem d_O_turn_21 : decode c_O_turn 21 = .ok (.iload_n 1, 1) := by decide +kernel
theorem d_O_turn_22 : decode c_O_turn 22 = .ok (.aaload, 1) := by decide +kernel
theorem d_O_turn_23 : decode c_O_turn 23 = .ok (.iload_n 2, 1) := by decide +kernel
theorem d_O_turn_24 : decode c_O_turn 24 = .ok (.aload_n 0, 1) := by decide +kernel
theorem d_O_turn_25 : decode c_O_turn 25 = .ok (.iload_n 1, 1) := by decide +kernel
theorem d_O_turn_26 : decode c_O_turn 26 = .ok (.iload_n 2, 1) := by decide +kernel
theorem d_O_turn_27 : decode c_O_turn 27 = .ok (.invokevirtual 140, 3) := by decide +kernel
theorem d_O_turn_30 : decode c_O_turn 30 = .ok (.lastore, 1) := by decide +kernel
theorem d_O_turn_31 : decode c_O_turn 31 = .ok (.iinc 2 1, 3) := by decide +kernel
theorem d_O_turn_34 : decode c_O_turn 34 = .ok (.goto (-22), 3) := by decide +kernel
theorem d_O_turn_37 : decode c_O_turn 37 = .ok (.iinc 1 1, 3) := by decide +kernel
theorem d_O_turn_40 : decode c_O_turn 40 = .ok (.goto (-38), 3) := by decide +kernel
theorem d_O_turn_43 : decode c_O_turn 43 = .ok (.iconst 0, 1) := by decide +kernel
theorem d_O_turn_44 : decode c_O_turn 44 = .ok (.istore_n 1, 1) := by decide +kernel
theorem d_O_turn_45 : decode c_O_turn 45 = .ok (.iload_n 1, 1) := by decide +kernel
theorem d_O_turn_46 : decode c_O_turn 46 = .ok (.aload_n 0, 1) := by decide +kernel
theorem d_O_turn_47 : decode c_O_turn 47 = .ok (.getfield 54, 3) := by decide +kernel
theorem d_O_turn_50 : decode c_O_turn 50 = .ok (.if_icmp .gt 27, 3) := by decide +kernel
theorem d_O_turn_53 : decode c_O_turn 53 = .ok (.aload_n 0, 1) := by decide +kernel
theorem d_O_turn_54 : decode c_O_turn 54 = .ok (.getfield 14, 3) := by decide +kernel
theorem d_O_turn_57 : decode c_O_turn 57 = .ok (.iload_n 1, 1) := by decide +kernel
theorem d_O_turn_58 : decode c_O_turn 58 = .ok (.aaload, 1) := by decide +kernel
theorem d_O_turn_59 : decode c_O_turn 59 = .ok (.iconst 0, 1) := by decide +kernel
theorem d_O_turn_60 : decode c_O_turn 60 = .ok (.aload_n 0, 1) := by decide +kernel
theorem d_O_turn_61 : decode c_O_turn 61 = .ok (.getfield 11, 3) := by decide +kernel
theorem d_O_turn_64 : decode c_O_turn 64 = .ok (.iload_n 1, 1) := by decide +kernel
theorem d_O_turn_65 : decode c_O_turn 65 = .ok (.aaload, 1) := by decide +kernel
theorem d_O_turn_66 : decode c_O_turn 66 = .ok (.iconst 0, 1) := by decide +kernel
theorem d_O_turn_67 : decode c_O_turn 67 = .ok (.iconst 5, 1) := by decide +kernel
theorem d_O_turn_68 : decode c_O_turn 68 = .ok (.invokestatic 120, 3) := by decide +kernel
theorem d_O_turn_71 : decode c_O_turn 71 = .ok (.iinc 1 1, 3) := by decide +kernel
theorem d_O_turn_74 : decode c_O_turn 74 = .ok (.goto (-29), 3) := by decide +kernel
theorem d_O_turn_77 : decode c_O_turn 77 = .ok (.aload_n 0, 1) := by decide +kernel
theorem d_O_turn_78 : decode c_O_turn 78 = .ok (.iconst 0, 1) := by decide +kernel
theorem d_O_turn_79 : decode c_O_turn 79 = .ok (.putfield 41, 3) := by decide +kernel
theorem d_O_turn_82 : decode c_O_turn 82 = .ok (.return_, 1) := by decide +kernel
theorem d_O_move_0 : decode c_O_move 0 = .ok (.lload_n 1, 1) := by decide +kernel
theorem d_O_move_1 : decode c_O_move 1 = .ok (.invokestatic 62, 3) := by decide +kernel
theorem d_O_move_4 : decode c_O_move 4 = .ok (.lstore_n 3, 1) := by decide +kernel
theorem d_O_move_5 : decode c_O_move 5 = .ok (.iconst 0, 1) := by decide +kernel
theorem d_O_move_6 : decode c_O_move 6 = .ok (.istore 5, 2) := by decide +kernel
theorem d_O_move_8 : decode c_O_move 8 = .ok (.iload 5, 2) := by decide +kernel
theorem d_O_move_10 : decode c_O_move 10 = .ok (.aload_n 0, 1) := by decide +kernel
theorem d_O_move_11 : decode c_O_move 11 = .ok (.getfield 54, 3) := by decide +kernel
theorem d_O_move_14 : decode c_O_move 14 = .ok (.if_icmp .gt 20, 3) := by decide +kernel
theorem d_O_move_17 : decode c_O_move 17 = .ok (.aload_n 0, 1) := by decide +kernel
theorem d_O_move_18 : decode c_O_move 18 = .ok (.getfield 11, 3) := by decide +kernel
theorem d_O_move_21 : decode c_O_move 21 = .ok (.iload 5, 2) := by decide +kernel
theorem d_O_move_23 : decode c_O_move 23 = .ok (.aaload, 1) := by decide +kernel
theorem d_O_move_24 : decode c_O_move 24 = .ok (.lload_n 3, 1) := by decide +kernel
theorem d_O_move_25 : decode c_O_move 25 = .ok (.invokestatic 143, 3) := by decide +kernel
theorem d_O_move_28 : decode c_O_move 28 = .ok (.iinc 5 1, 3) := by decide +kernel
theorem d_O_move_31 : decode c_O_move 31 = .ok (.goto (-23), 3) := by decide +kernel
theorem d_O_move_34 : decode c_O_move 34 = .ok (.aload_n 0, 1) := by decide +kernel
theorem d_O_move_35 : decode c_O_move 35 = .ok (.iconst 0, 1) := by decide +kernel
theorem d_O_move_36 : decode c_O_move 36 = .ok (.putfield 41, 3) := by decide +kernel
theorem d_O_move_39 : decode c_O_move 39 = .ok (.return_, 1) := by decide +kernel
theorem d_O_clear_0 : decode c_O_clear 0 = .ok (.iconst 0, 1) := by decide +kernel
theorem d_O_clear_1 : decode c_O_clear 1 = .ok (.istore_n 1, 1) := by decide +kernel
theorem d_O_clear_2 : decode c_O_clear 2 = .ok (.iload_n 1, 1) := by decide +kernel
theorem d_O_clear_3 : decode c_O_clear 3 = .ok (.aload_n 0, 1) := by decide +kernel
theorem d_O_clear_4 : decode c_O_clear 4 = .ok (.getfield 54, 3) := by decide +kernel
theorem d_O_clear_7 : decode c_O_clear 7 = .ok (.if_icmp .gt 19, 3) := by decide +kernel
theorem d_O_clear_10 : decode c_O_clear 10 = .ok (.aload_n 0, 1) := by decide +kernel
theorem d_O_clear_11 : decode c_O_clear 11 = .ok (.getfield 11, 3) := by decide +kernel
theorem d_O_clear_14 : decode c_O_clear 14 = .ok (.iload_n 1, 1) := by decide +kernel
theorem d_O_clear_15 : decode c_O_clear 15 = .ok (.aaload, 1) := by decide +kernel
theorem d_O_clear_16 : decode c_O_clear 16 = .ok (.lconst 0, 1) := by decide +kernel
theorem d_O_clear_17 : decode c_O_clear 17 = .ok (.invokestatic 147, 3) := by decide +kernel
theorem d_O_clear_20 : decode c_O_clear 20 = .ok (.iinc 1 1, 3) := by decide +kernel
theorem d_O_clear_23 : decode c_O_clear 23 = .ok (.goto (-21), 3) := by decide +kernel
theorem d_O_clear_26 : decode c_O_clear 26 = .ok (.aload_n 0, 1) := by decide +kernel
theorem d_O_clear_27 : decode c_O_clear 27 = .ok (.getfield 17, 3) := by decide +kernel
theorem d_O_clear_30 : decode c_O_clear 30 = .ok (.lconst 0, 1) := by decide +kernel
theorem d_O_clear_31 : decode c_O_clear 31 = .ok (.invokestatic 147, 3) := by decide +kernel
theorem d_O_clear_34 : decode c_O_clear 34 = .ok (.aload_n 0, 1) := by decide +kernel
theorem d_O_clear_35 : decode c_O_clear 35 = .ok (.iconst 0, 1) := by decide +kernel
theorem d_O_clear_36 : decode c_O_clear 36 = .ok (.putfield 41, 3) := by decide +kernel
theorem d_O_clear_39 : decode c_O_clear 39 = .ok (.return_, 1) := by decide +kernel
theorem d_O_needFactorPower_0 : decode c_O_needFactorPower 0 = .ok (.iload_n 1, 1) := by decide +kernel
theorem d_O_needFactorPower_1 : decode c_O_needFactorPower 1 = .ok (.ifCond .lt 20, 3) := by decide +kernel
theorem d_O_needFactorPower_4 : decode c_O_needFactorPower 4 = .ok (.iload_n 1, 1) := by decide +kernel
theorem d_O_needFactorPower_5 : decode c_O_needFactorPower 5 = .ok (.aload_n 0, 1) := by decide +kernel
theorem d_O_needFactorPower_6 : decode c_O_needFactorPower 6 = .ok (.getfield 54, 3) := by decide +kernel
theorem d_O_needFactorPower_9 : decode c_O_needFactorPower 9 = .ok (.if_icmp .gt 12, 3) := by decide +kernel
theorem d_O_needFactorPower_12 : decode c_O_needFactorPower 12 = .ok (.iload_n 2, 1) := by decide +kernel
theorem d_O_needFactorPower_13 : decode c_O_needFactorPower 13 = .ok (.ifCond .lt 8, 3) := by decide +kernel
theorem d_O_needFactorPower_16 : decode c_O_needFactorPower 16 = .ok (.iload_n 2, 1) := by decide +kernel
theorem d_O_needFactorPower_17 : decode c_O_needFactorPower 17 = .ok (.iconst 5, 1) := by decide +kernel
theorem d_O_needFactorPower_18 : decode c_O_needFactorPower 18 = .ok (.if_icmp .lt 13, 3) := by decide +kernel
theorem d_O_needFactorPower_21 : decode c_O_needFactorPower 21 = .ok (.new 81, 3) := by decide +kernel
theorem d_O_needFactorPower_24 : decode c_O_needFactorPower 24 = .ok (.dup, 1) := by decide +kernel
theorem d_O_needFactorPower_25 : decode c_O_needFactorPower 25 = .ok (.ldc 152, 2) := by decide +kernel
theorem d_O_needFactorPower_27 : decode c_O_needFactorPower 27 = .ok (.invokespecial 85, 3) := by decide +kernel
theorem d_O_needFactorPower_30 : decode c_O_needFactorPower 30 = .ok (.athrow, 1) := by decide +kernel
theorem d_O_needFactorPower_31 : decode c_O_needFactorPower 31 = .ok (.return_, 1) := by decide +kernel
theorem d_O_needHandPower_0 : decode c_O_needHandPower 0 = .ok (.iload_n 1, 1) := by decide +kernel
theorem d_O_needHandPower_1 : decode c_O_needHandPower 1 = .ok (.ifCond .lt 9, 3) := by decide +kernel
theorem d_O_needHandPower_4 : decode c_O_needHandPower 4 = .ok (.iload_n 1, 1) := by decide +kernel
theorem d_O_needHandPower_5 : decode c_O_needHandPower 5 = .ok (.bipush 13, 2) := by decide +kernel
theorem d_O_needHandPower_7 : decode c_O_needHandPower 7 = .ok (.if_icmp .lt 13, 3) := by decide +kernel
theorem d_O_needHandPower_10 : decode c_O_needHandPower 10 = .ok (.new 81, 3) := by decide +kernel
theorem d_O_needHandPower_13 : decode c_O_needHandPower 13 = .ok (.dup, 1) := by decide +kernel
theorem d_O_needHandPower_14 : decode c_O_needHandPower 14 = .ok (.ldc 154, 2) := by decide +kernel
theorem d_O_needHandPower_16 : decode c_O_needHandPower 16 = .ok (.invokespecial 85, 3) := by decide +kernel
theorem d_O_needHandPower_19 : decode c_O_needHandPower 19 = .ok (.athrow, 1) := by decide +kernel
theorem d_O_needHandPower_20 : decode c_O_needHandPower 20 = .ok (.return_, 1) := by decide +kernel
theorem d_O_needMember_0 : decode c_O_needMember 0 = .ok (.aload_n 0, 1) := by decide +kernel
theorem d_O_needMember_1 : decode c_O_needMember 1 = .ok (.invokevirtual 107, 3) := by decide +kernel
theorem d_O_needMember_4 : decode c_O_needMember 4 = .ok (.iload_n 1, 1) := by decide +kernel
theorem d_O_needMember_5 : decode c_O_needMember 5 = .ok (.ifCond .lt 14, 3) := by decide +kernel
theorem d_O_needMember_8 : decode c_O_needMember 8 = .ok (.iload_n 1, 1) := by decide +kernel
theorem d_O_needMember_9 : decode c_O_needMember 9 = .ok (.aload_n 0, 1) := by decide +kernel
theorem d_O_needMember_10 : decode c_O_needMember 10 = .ok (.getfield 37, 3) := by decide +kernel
theorem d_O_needMember_13 : decode c_O_needMember 13 = .ok (.invokevirtual 110, 3) := by decide +kernel
theorem d_O_needMember_16 : decode c_O_needMember 16 = .ok (.if_icmp .lt 13, 3) := by decide +kernel
theorem d_O_needMember_19 : decode c_O_needMember 19 = .ok (.new 81, 3) := by decide +kernel
theorem d_O_needMember_22 : decode c_O_needMember 22 = .ok (.dup, 1) := by decide +kernel
theorem d_O_needMember_23 : decode c_O_needMember 23 = .ok (.ldc 156, 2) := by decide +kernel
theorem d_O_needMember_25 : decode c_O_needMember 25 = .ok (.invokespecial 85, 3) := by decide +kernel
theorem d_O_needMember_28 : decode c_O_needMember 28 = .ok (.athrow, 1) := by decide +kernel
theorem d_O_needMember_29 : decode c_O_needMember 29 = .ok (.return_, 1) := by decide +kernel
theorem d_O_findPlaces_0 : decode c_O_findPlaces 0 = .ok (.aload_n 0, 1) := by decide +kernel
theorem d_O_findPlaces_1 : decode c_O_findPlaces 1 = .ok (.getfield 11, 3) := by decide +kernel
theorem d_O_findPlaces_4 : decode c_O_findPlaces 4 = .ok (.aload_n 0, 1) := by decide +kernel
theorem d_O_findPlaces_5 : decode c_O_findPlaces 5 = .ok (.getfield 54, 3) := by decide +kernel
theorem d_O_findPlaces_8 : decode c_O_findPlaces 8 = .ok (.aaload, 1) := by decide +kernel
theorem d_O_findPlaces_9 : decode c_O_findPlaces 9 = .ok (.invokestatic 158, 3) := by decide +kernel
theorem d_O_findPlaces_12 : decode c_O_findPlaces 12 = .ok (.ifCond .eq 13, 3) := by decide +kernel
theorem d_O_findPlaces_15 : decode c_O_findPlaces 15 = .ok (.new 162, 3) := by decide +kernel
theorem d_O_findPlaces_18 : decode c_O_findPlaces 18 = .ok (.dup, 1) := by decide +kernel
theorem d_O_findPlaces_19 : decode c_O_findPlaces 19 = .ok (.ldc 164, 2) := by decide +kernel
theorem d_O_findPlaces_21 : decode c_O_findPlaces 21 = .ok (.invokespecial 166, 3) := by decide +kernel
theorem d_O_findPlaces_24 : decode c_O_findPlaces 24 = .ok (.athrow, 1) := by decide +kernel
theorem d_O_findPlaces_25 : decode c_O_findPlaces 25 = .ok (.aload_n 0, 1) := by decide +kernel
theorem d_O_findPlaces_26 : decode c_O_findPlaces 26 = .ok (.getfield 30, 3) := by decide +kernel
theorem d_O_findPlaces_29 : decode c_O_findPlaces 29 = .ok (.aload_n 0, 1) := by decide +kernel
theorem d_O_findPlaces_30 : decode c_O_findPlaces 30 = .ok (.getfield 11, 3) := by decide +kernel
theorem d_O_findPlaces_33 : decode c_O_findPlaces 33 = .ok (.aload_n 0, 1) := by decide +kernel
theorem d_O_findPlaces_34 : decode c_O_findPlaces 34 = .ok (.getfield 54, 3) := by decide +kernel
theorem d_O_findPlaces_37 : decode c_O_findPlaces 37 = .ok (.aaload, 1) := by decide +kernel
theorem d_O_findPlaces_38 : decode c_O_findPlaces 38 = .ok (.invokevirtual 103, 3) := by decide +kernel
theorem d_O_findPlaces_41 : decode c_O_findPlaces 41 = .ok (.return_, 1) := by decide +kernel
theorem d_O_goTo_0 : decode c_O_goTo 0 = .ok (.aload_n 0, 1) := by decide +kernel
theorem d_O_goTo_1 : decode c_O_goTo 1 = .ok (.invokevirtual 167, 3) := by decide +kernel
theorem d_O_goTo_4 : decode c_O_goTo 4 = .ok (.ifCond .eq 13, 3) := by decide +kernel
theorem d_O_goTo_7 : decode c_O_goTo 7 = .ok (.new 162, 3) := by decide +kernel
theorem d_O_goTo_10 : decode c_O_goTo 10 = .ok (.dup, 1) := by decide +kernel
theorem d_O_goTo_11 : decode c_O_goTo 11 = .ok (.ldc 171, 2) := by decide +kernel
theorem d_O_goTo_13 : decode c_O_goTo 13 = .ok (.invokespecial 166, 3) := by decide +kernel
theorem d_O_goTo_16 : decode c_O_goTo 16 = .ok (.athrow, 1) := by decide +kernel
theorem d_O_goTo_17 : decode c_O_goTo 17 = .ok (.aload_n 0, 1) := by decide +kernel
theorem d_O_goTo_18 : decode c_O_goTo 18 = .ok (.iload_n 1, 1) := by decide +kernel
theorem d_O_goTo_19 : decode c_O_goTo 19 = .ok (.ifCond .eq 7, 3) := by decide +kernel
theorem d_O_goTo_22 : decode c_O_goTo 22 = .ok (.lconst 0, 1) := by decide +kernel
theorem d_O_goTo_23 : decode c_O_goTo 23 = .ok (.goto 7, 3) := by decide +kernel
theorem d_O_goTo_26 : decode c_O_goTo 26 = .ok (.lload_n 2, 1) := by decide +kernel
theorem d_O_goTo_27 : decode c_O_goTo 27 = .ok (.invokestatic 62, 3) := by decide +kernel
theorem d_O_goTo_30 : decode c_O_goTo 30 = .ok (.invokevirtual 128, 3) := by decide +kernel
theorem d_O_goTo_33 : decode c_O_goTo 33 = .ok (.iload_n 1, 1) := by decide +kernel
theorem d_O_goTo_34 : decode c_O_goTo 34 = .ok (.ifCond .eq 10, 3) := by decide +kernel
theorem d_O_goTo_37 : decode c_O_goTo 37 = .ok (.aload_n 0, 1) := by decide +kernel
theorem d_O_goTo_38 : decode c_O_goTo 38 = .ok (.invokevirtual 173, 3) := by decide +kernel
theorem d_O_goTo_41 : decode c_O_goTo 41 = .ok (.goto 7, 3) := by decide +kernel
theorem d_O_goTo_44 : decode c_O_goTo 44 = .ok (.aload_n 0, 1) := by decide +kernel
theorem d_O_goTo_45 : decode c_O_goTo 45 = .ok (.invokevirtual 176, 3) := by decide +kernel
theorem d_O_goTo_48 : decode c_O_goTo 48 = .ok (.ireturn, 1) := by decide +kernel
theorem d_O_allZero_0 : decode c_O_allZero 0 = .ok (.iconst 0, 1) := by decide +kernel
theorem d_O_allZero_1 : decode c_O_allZero 1 = .ok (.istore_n 1, 1) := by decide +kernel
theorem d_O_allZero_2 : decode c_O_allZero 2 = .ok (.iload_n 1, 1) := by decide +kernel
theorem d_O_allZero_3 : decode c_O_allZero 3 = .ok (.aload_n 0, 1) := by decide +kernel
theorem d_O_allZero_4 : decode c_O_allZero 4 = .ok (.getfield 54, 3) := by decide +kernel
theorem d_O_allZero_7 : decode c_O_allZero 7 = .ok (.if_icmp .gt 23, 3) := by decide +kernel
theorem d_O_allZero_10 : decode c_O_allZero 10 = .ok (.aload_n 0, 1) := by decide +kernel
theorem d_O_allZero_11 : decode c_O_allZero 11 = .ok (.getfield 11, 3) := by decide +kernel
theorem d_O_allZero_14 : decode c_O_allZero 14 = .ok (.iload_n 1, 1) := by decide +kernel
theorem d_O_allZero_15 : decode c_O_allZero 15 = .ok (.aaload, 1) := by decide +kernel
theorem d_O_allZero_16 : decode c_O_allZero 16 = .ok (.invokestatic 158, 3) := by decide +kernel
theorem d_O_allZero_19 : decode c_O_allZero 19 = .ok (.ifCond .ne 5, 3) := by decide +kernel
theorem d_O_allZero_22 : decode c_O_allZero 22 = .ok (.iconst 0, 1) := by decide +kernel
theorem d_O_allZero_23 : decode c_O_allZero 23 = .ok (.ireturn, 1) := by decide +kernel
theorem d_O_allZero_24 : decode c_O_allZero 24 = .ok (.iinc 1 1, 3) := by decide +kernel
theorem d_O_allZero_27 : decode c_O_allZero 27 = .ok (.goto (-25), 3) := by decide +kernel
theorem d_O_allZero_30 : decode c_O_allZero 30 = .ok (.iconst 1, 1) := by decide +kernel
theorem d_O_allZero_31 : decode c_O_allZero 31 = .ok (.ireturn, 1) := by decide +kernel
theorem d_O_leastGap_0 : decode c_O_leastGap 0 = .ok (.aload_n 0, 1) := by decide +kernel
theorem d_O_leastGap_1 : decode c_O_leastGap 1 = .ok (.getfield 54, 3) := by decide +kernel
theorem d_O_leastGap_4 : decode c_O_leastGap 4 = .ok (.ineg, 1) := by decide +kernel
theorem d_O_leastGap_5 : decode c_O_leastGap 5 = .ok (.istore_n 1, 1) := by decide +kernel
theorem d_O_leastGap_6 : decode c_O_leastGap 6 = .ok (.iload_n 1, 1) := by decide +kernel
theorem d_O_leastGap_7 : decode c_O_leastGap 7 = .ok (.iconst 4, 1) := by decide +kernel
theorem d_O_leastGap_8 : decode c_O_leastGap 8 = .ok (.if_icmp .ge 17, 3) := by decide +kernel
theorem d_O_leastGap_11 : decode c_O_leastGap 11 = .ok (.aload_n 0, 1) := by decide +kernel
theorem d_O_leastGap_12 : decode c_O_leastGap 12 = .ok (.iload_n 1, 1) := by decide +kernel
theorem d_O_leastGap_13 : decode c_O_leastGap 13 = .ok (.invokevirtual 179, 3) := by decide +kernel
theorem d_O_leastGap_16 : decode c_O_leastGap 16 = .ok (.ifCond .ne 9, 3) := by decide +kernel
theorem d_O_leastGap_19 : decode c_O_leastGap 19 = .ok (.iinc 1 1, 3) := by decide +kernel
theorem d_O_leastGap_22 : decode c_O_leastGap 22 = .ok (.goto (-16), 3) := by decide +kernel
theorem d_O_leastGap_25 : decode c_O_leastGap 25 = .ok (.iload_n 1, 1) := by decide +kernel
theorem d_O_leastGap_26 : decode c_O_leastGap 26 = .ok (.ireturn, 1) := by decide +kernel
theorem d_O_greatestGap_0 : decode c_O_greatestGap 0 = .ok (.iconst 4, 1) := by decide +kernel
theorem d_O_greatestGap_1 : decode c_O_greatestGap 1 = .ok (.istore_n 1, 1) := by decide +kernel
theorem d_O_greatestGap_2 : decode c_O_greatestGap 2 = .ok (.iload_n 1, 1) := by decide +kernel
theorem d_O_greatestGap_3 : decode c_O_greatestGap 3 = .ok (.aload_n 0, 1) := by decide +kernel
theorem d_O_greatestGap_4 : decode c_O_greatestGap 4 = .ok (.getfield 54, 3) := by decide +kernel
theorem d_O_greatestGap_7 : decode c_O_greatestGap 7 = .ok (.ineg, 1) := by decide +kernel
theorem d_O_greatestGap_8 : decode c_O_greatestGap 8 = .ok (.if_icmp .le 17, 3) := by decide +kernel
theorem d_O_greatestGap_11 : decode c_O_greatestGap 11 = .ok (.aload_n 0, 1) := by decide +kernel
theorem d_O_greatestGap_12 : decode c_O_greatestGap 12 = .ok (.iload_n 1, 1) := by decide +kernel
theorem d_O_greatestGap_13 : decode c_O_greatestGap 13 = .ok (.invokevirtual 179, 3) := by decide +kernel
theorem d_O_greatestGap_16 : decode c_O_greatestGap 16 = .ok (.ifCond .ne 9, 3) := by decide +kernel
theorem d_O_greatestGap_19 : decode c_O_greatestGap 19 = .ok (.iinc 1 (-1), 3) := by decide +kernel
theorem d_O_greatestGap_22 : decode c_O_greatestGap 22 = .ok (.goto (-20), 3) := by decide +kernel
theorem d_O_greatestGap_25 : decode c_O_greatestGap 25 = .ok (.iload_n 1, 1) := by decide +kernel
theorem d_O_greatestGap_26 : decode c_O_greatestGap 26 = .ok (.ireturn, 1) := by decide +kernel
theorem d_O_isGap_0 : decode c_O_isGap 0 = .ok (.iconst 0, 1) := by decide +kernel
theorem d_O_isGap_1 : decode c_O_isGap 1 = .ok (.istore_n 2, 1) := by decide +kernel
theorem d_O_isGap_2 : decode c_O_isGap 2 = .ok (.iload_n 2, 1) := by decide +kernel
theorem d_O_isGap_3 : decode c_O_isGap 3 = .ok (.aload_n 0, 1) := by decide +kernel
theorem d_O_isGap_4 : decode c_O_isGap 4 = .ok (.getfield 54, 3) := by decide +kernel
theorem d_O_isGap_7 : decode c_O_isGap 7 = .ok (.if_icmp .gt 24, 3) := by decide +kernel
theorem d_O_isGap_10 : decode c_O_isGap 10 = .ok (.aload_n 0, 1) := by decide +kernel
theorem d_O_isGap_11 : decode c_O_isGap 11 = .ok (.iload_n 2, 1) := by decide +kernel
theorem d_O_isGap_12 : decode c_O_isGap 12 = .ok (.iload_n 1, 1) := by decide +kernel
theorem d_O_isGap_13 : decode c_O_isGap 13 = .ok (.iload_n 2, 1) := by decide +kernel
theorem d_O_isGap_14 : decode c_O_isGap 14 = .ok (.iadd, 1) := by decide +kernel
theorem d_O_isGap_15 : decode c_O_isGap 15 = .ok (.invokevirtual 96, 3) := by decide +kernel
theorem d_O_isGap_18 : decode c_O_isGap 18 = .ok (.lconst 0, 1) := by decide +kernel
theorem d_O_isGap_19 : decode c_O_isGap 19 = .ok (.lcmp, 1) := by decide +kernel
theorem d_O_isGap_20 : decode c_O_isGap 20 = .ok (.ifCond .eq 5, 3) := by decide +kernel
theorem d_O_isGap_23 : decode c_O_isGap 23 = .ok (.iconst 1, 1) := by decide +kernel
theorem d_O_isGap_24 : decode c_O_isGap 24 = .ok (.ireturn, 1) := by decide +kernel
theorem d_O_isGap_25 : decode c_O_isGap 25 = .ok (.iinc 2 1, 3) := by decide +kernel
theorem d_O_isGap_28 : decode c_O_isGap 28 = .ok (.goto (-26), 3) := by decide +kernel
theorem d_O_isGap_31 : decode c_O_isGap 31 = .ok (.iconst 0, 1) := by decide +kernel
theorem d_O_isGap_32 : decode c_O_isGap 32 = .ok (.ireturn, 1) := by decide +kernel
theorem d_O_otherAt_0 : decode c_O_otherAt 0 = .ok (.iload_n 2, 1) := by decide +kernel
theorem d_O_otherAt_1 : decode c_O_otherAt 1 = .ok (.ifCond .lt 8, 3) := by decide +kernel
theorem d_O_otherAt_4 : decode c_O_otherAt 4 = .ok (.iload_n 2, 1) := by decide +kernel
theorem d_O_otherAt_5 : decode c_O_otherAt 5 = .ok (.iconst 5, 1) := by decide +kernel
theorem d_O_otherAt_6 : decode c_O_otherAt 6 = .ok (.if_icmp .lt 7, 3) := by decide +kernel
theorem d_O_otherAt_9 : decode c_O_otherAt 9 = .ok (.lconst 0, 1) := by decide +kernel
theorem d_O_otherAt_10 : decode c_O_otherAt 10 = .ok (.goto 11, 3) := by decide +kernel
theorem d_O_otherAt_13 : decode c_O_otherAt 13 = .ok (.aload_n 0, 1) := by decide +kernel
theorem d_O_otherAt_14 : decode c_O_otherAt 14 = .ok (.getfield 14, 3) := by decide +kernel
theorem d_O_otherAt_17 : decode c_O_otherAt 17 = .ok (.iload_n 1, 1) := by decide +kernel
theorem d_O_otherAt_18 : decode c_O_otherAt 18 = .ok (.aaload, 1) := by decide +kernel
theorem d_O_otherAt_19 : decode c_O_otherAt 19 = .ok (.iload_n 2, 1) := by decide +kernel
theorem d_O_otherAt_20 : decode c_O_otherAt 20 = .ok (.laload, 1) := by decide +kernel
theorem d_O_otherAt_21 : decode c_O_otherAt 21 = .ok (.lreturn, 1) := by decide +kernel
theorem d_O_fillIndicial_0 : decode c_O_fillIndicial 0 = .ok (.aload_n 0, 1) := by decide +kernel
theorem d_O_fillIndicial_1 : decode c_O_fillIndicial 1 = .ok (.iconst 1, 1) := by decide +kernel
theorem d_O_fillIndicial_2 : decode c_O_fillIndicial 2 = .ok (.iload_n 1, 1) := by decide +kernel
theorem d_O_fillIndicial_3 : decode c_O_fillIndicial 3 = .ok (.iconst 1, 1) := by decide +kernel
theorem d_O_fillIndicial_4 : decode c_O_fillIndicial 4 = .ok (.iadd, 1) := by decide +kernel
theorem d_O_fillIndicial_5 : decode c_O_fillIndicial 5 = .ok (.invokevirtual 96, 3) := by decide +kernel
theorem d_O_fillIndicial_8 : decode c_O_fillIndicial 8 = .ok (.lstore_n 2, 1) := by decide +kernel
theorem d_O_fillIndicial_9 : decode c_O_fillIndicial 9 = .ok (.aload_n 0, 1) := by decide +kernel
theorem d_O_fillIndicial_10 : decode c_O_fillIndicial 10 = .ok (.iconst 2, 1) := by decide +kernel
theorem d_O_fillIndicial_11 : decode c_O_fillIndicial 11 = .ok (.iload_n 1, 1) := by decide +kernel
theorem d_O_fillIndicial_12 : decode c_O_fillIndicial 12 = .ok (.iconst 2, 1) := by decide +kernel
theorem d_O_fillIndicial_13 : decode c_O_fillIndicial 13 = .ok (.iadd, 1) := by decide +kernel
theorem d_O_fillIndicial_14 : decode c_O_fillIndicial 14 = .ok (.invokevirtual 96, 3) := by decide +kernel
theorem d_O_fillIndicial_17 : decode c_O_fillIndicial 17 = .ok (.lstore 4, 2) := by decide +kernel
theorem d_O_fillIndicial_19 : decode c_O_fillIndicial 19 = .ok (.aload_n 0, 1) := by decide +kernel
theorem d_O_fillIndicial_20 : decode c_O_fillIndicial 20 = .ok (.iconst 3, 1) := by decide +kernel
theorem d_O_fillIndicial_21 : decode c_O_fillIndicial 21 = .ok (.iload_n 1, 1) := by decide +kernel
theorem d_O_fillIndicial_22 : decode c_O_fillIndicial 22 = .ok (.iconst 3, 1) := by decide +kernel
theorem d_O_fillIndicial_23 : decode c_O_fillIndicial 23 = .ok (.iadd, 1) := by decide +kernel
theorem d_O_fillIndicial_24 : decode c_O_fillIndicial 24 = .ok (.invokevirtual 96, 3) := by decide +kernel
theorem d_O_fillIndicial_27 : decode c_O_fillIndicial 27 = .ok (.lstore 6, 2) := by decide +kernel
theorem d_O_fillIndicial_29 : decode c_O_fillIndicial 29 = .ok (.aload_n 0, 1) := by decide +kernel
theorem d_O_fillIndicial_30 : decode c_O_fillIndicial 30 = .ok (.getfield 24, 3) := by decide +kernel
theorem d_O_fillIndicial_33 : decode c_O_fillIndicial 33 = .ok (.lconst 0, 1) := by decide +kernel
theorem d_O_fillIndicial_34 : decode c_O_fillIndicial 34 = .ok (.invokestatic 147, 3) := by decide +kernel
theorem d_O_fillIndicial_37 : decode c_O_fillIndicial 37 = .ok (.aload_n 0, 1) := by decide +kernel
theorem d_O_fillIndicial_38 : decode c_O_fillIndicial 38 = .ok (.getfield 24, 3) := by decide +kernel
theorem d_O_fillIndicial_41 : decode c_O_fillIndicial 41 = .ok (.iconst 0, 1) := by decide +kernel
theorem d_O_fillIndicial_42 : decode c_O_fillIndicial 42 = .ok (.aload_n 0, 1) := by decide +kernel
theorem d_O_fillIndicial_43 : decode c_O_fillIndicial 43 = .ok (.iconst 0, 1) := by decide +kernel
theorem d_O_fillIndicial_44 : decode c_O_fillIndicial 44 = .ok (.iload_n 1, 1) := by decide +kernel
theorem d_O_fillIndicial_45 : decode c_O_fillIndicial 45 = .ok (.invokevirtual 96, 3) := by decide +kernel
theorem d_O_fillIndicial_48 : decode c_O_fillIndicial 48 = .ok (.lastore, 1) := by decide +kernel
theorem d_O_fillIndicial_49 : decode c_O_fillIndicial 49 = .ok (.aload_n 0, 1) := by decide +kernel
theorem d_O_fillIndicial_50 : decode c_O_fillIndicial 50 = .ok (.getfield 24, 3) := by decide +kernel
theorem d_O_fillIndicial_53 : decode c_O_fillIndicial 53 = .ok (.iconst 1, 1) := by decide +kernel
theorem d_O_fillIndicial_54 : decode c_O_fillIndicial 54 = .ok (.lload_n 2, 1) := by decide +kernel
theorem d_O_fillIndicial_55 : decode c_O_fillIndicial 55 = .ok (.lload 4, 2) := by decide +kernel
theorem d_O_fillIndicial_57 : decode c_O_fillIndicial 57 = .ok (.lsub, 1) := by decide +kernel
theorem d_O_fillIndicial_58 : decode c_O_fillIndicial 58 = .ok (.ldc2_w 183, 3) := by decide +kernel
theorem d_O_fillIndicial_61 : decode c_O_fillIndicial 61 = .ok (.lload 6, 2) := by decide +kernel
theorem d_O_fillIndicial_63 : decode c_O_fillIndicial 63 = .ok (.lmul, 1) := by decide +kernel
theorem d_O_fillIndicial_64 : decode c_O_fillIndicial 64 = .ok (.ladd, 1) := by decide +kernel
theorem d_O_fillIndicial_65 : decode c_O_fillIndicial 65 = .ok (.invokestatic 62, 3) := by decide +kernel
theorem d_O_fillIndicial_68 : decode c_O_fillIndicial 68 = .ok (.lastore, 1) := by decide +kernel
theorem d_O_fillIndicial_69 : decode c_O_fillIndicial 69 = .ok (.aload_n 0, 1) := by decide +kernel
theorem d_O_fillIndicial_70 : decode c_O_fillIndicial 70 = .ok (.getfield 24, 3) := by decide +kernel
theorem d_O_fillIndicial_73 : decode c_O_fillIndicial 73 = .ok (.iconst 2, 1) := by decide +kernel
theorem d_O_fillIndicial_74 : decode c_O_fillIndicial 74 = .ok (.lload 4, 2) := by decide +kernel
theorem d_O_fillIndicial_76 : decode c_O_fillIndicial 76 = .ok (.ldc2_w 185, 3) := by decide +kernel
theorem d_O_fillIndicial_79 : decode c_O_fillIndicial 79 = .ok (.lload 6, 2) := by decide +kernel
theorem d_O_fillIndicial_81 : decode c_O_fillIndicial 81 = .ok (.lmul, 1) := by decide +kernel
theorem d_O_fillIndicial_82 : decode c_O_fillIndicial 82 = .ok (.lsub, 1) := by decide +kernel
theorem d_O_fillIndicial_83 : decode c_O_fillIndicial 83 = .ok (.invokestatic 62, 3) := by decide +kernel
theorem d_O_fillIndicial_86 : decode c_O_fillIndicial 86 = .ok (.lastore, 1) := by decide +kernel
theorem d_O_fillIndicial_87 : decode c_O_fillIndicial 87 = .ok (.aload_n 0, 1) := by decide +kernel
theorem d_O_fillIndicial_88 : decode c_O_fillIndicial 88 = .ok (.getfield 24, 3) := by decide +kernel
theorem d_O_fillIndicial_91 : decode c_O_fillIndicial 91 = .ok (.iconst 3, 1) := by decide +kernel
theorem d_O_fillIndicial_92 : decode c_O_fillIndicial 92 = .ok (.lload 6, 2) := by decide +kernel
theorem d_O_fillIndicial_94 : decode c_O_fillIndicial 94 = .ok (.lastore, 1) := by decide +kernel
theorem d_O_fillIndicial_95 : decode c_O_fillIndicial 95 = .ok (.return_, 1) := by decide +kernel
theorem d_O_shiftToOther_0 : decode c_O_shiftToOther 0 = .ok (.iconst 0, 1) := by decide +kernel
theorem d_O_shiftToOther_1 : decode c_O_shiftToOther 1 = .ok (.istore_n 3, 1) := by decide +kernel
theorem d_O_shiftToOther_2 : decode c_O_shiftToOther 2 = .ok (.iload_n 3, 1) := by decide +kernel
theorem d_O_shiftToOther_3 : decode c_O_shiftToOther 3 = .ok (.aload_n 0, 1) := by decide +kernel
theorem d_O_shiftToOther_4 : decode c_O_shiftToOther 4 = .ok (.getfield 54, 3) := by decide +kernel
theorem d_O_shiftToOther_7 : decode c_O_shiftToOther 7 = .ok (.if_icmp .gt 37, 3) := by decide +kernel
theorem d_O_shiftToOther_10 : decode c_O_shiftToOther 10 = .ok (.aload_n 0, 1) := by decide +kernel
theorem d_O_shiftToOther_11 : decode c_O_shiftToOther 11 = .ok (.getfield 11, 3) := by decide +kernel
theorem d_O_shiftToOther_14 : decode c_O_shiftToOther 14 = .ok (.iload_n 3, 1) := by decide +kernel
theorem d_O_shiftToOther_15 : decode c_O_shiftToOther 15 = .ok (.aaload, 1) := by decide +kernel
theorem d_O_shiftToOther_16 : decode c_O_shiftToOther 16 = .ok (.iconst 0, 1) := by decide +kernel
theorem d_O_shiftToOther_17 : decode c_O_shiftToOther 17 = .ok (.aload_n 0, 1) := by decide +kernel
theorem d_O_shiftToOther_18 : decode c_O_shiftToOther 18 = .ok (.getfield 14, 3) := by decide +kernel
theorem d_O_shiftToOther_21 : decode c_O_shiftToOther 21 = .ok (.iload_n 3, 1) := by decide +kernel
theorem d_O_shiftToOther_22 : decode c_O_shiftToOther 22 = .ok (.aaload, 1) := by decide +kernel
theorem d_O_shiftToOther_23 : decode c_O_shiftToOther 23 = .ok (.iconst 0, 1) := by decide +kernel
theorem d_O_shiftToOther_24 : decode c_O_shiftToOther 24 = .ok (.iconst 5, 1) := by decide +kernel
theorem d_O_shiftToOther_25 : decode c_O_shiftToOther 25 = .ok (.invokestatic 120, 3) := by decide +kernel
theorem d_O_shiftToOther_28 : decode c_O_shiftToOther 28 = .ok (.aload_n 0, 1) := by decide +kernel
theorem d_O_shiftToOther_29 : decode c_O_shiftToOther 29 = .ok (.getfield 14, 3) := by decide +kernel
theorem d_O_shiftToOther_32 : decode c_O_shiftToOther 32 = .ok (.iload_n 3, 1) := by decide +kernel
theorem d_O_shiftToOther_33 : decode c_O_shiftToOther 33 = .ok (.aaload, 1) := by decide +kernel
theorem d_O_shiftToOther_34 : decode c_O_shiftToOther 34 = .ok (.lload_n 1, 1) := by decide +kernel
theorem d_O_shiftToOther_35 : decode c_O_shiftToOther 35 = .ok (.invokestatic 143, 3) := by decide +kernel
theorem d_O_shiftToOther_38 : decode c_O_shiftToOther 38 = .ok (.iinc 3 1, 3) := by decide +kernel
theorem d_O_shiftToOther_41 : decode c_O_shiftToOther 41 = .ok (.goto (-39), 3) := by decide +kernel
theorem d_O_shiftToOther_44 : decode c_O_shiftToOther 44 = .ok (.return_, 1) := by decide +kernel
theorem d_O_share_0 : decode c_O_share 0 = .ok (.lconst 0, 1) := by decide +kernel
theorem d_O_share_1 : decode c_O_share 1 = .ok (.lstore 4, 2) := by decide +kernel
theorem d_O_share_3 : decode c_O_share 3 = .ok (.lconst 1, 1) := by decide +kernel
theorem d_O_share_4 : decode c_O_share 4 = .ok (.lstore 6, 2) := by decide +kernel
theorem d_O_share_6 : decode c_O_share 6 = .ok (.iconst 0, 1) := by decide +kernel
theorem d_O_share_7 : decode c_O_share 7 = .ok (.istore 8, 2) := by decide +kernel
theorem d_O_share_9 : decode c_O_share 9 = .ok (.iload 8, 2) := by decide +kernel
theorem d_O_share_11 : decode c_O_share 11 = .ok (.aload_n 0, 1) := by decide +kernel
theorem d_O_share_12 : decode c_O_share 12 = .ok (.getfield 54, 3) := by decide +kernel
theorem d_O_share_15 : decode c_O_share 15 = .ok (.if_icmp .gt 51, 3) := by decide +kernel
theorem d_O_share_18 : decode c_O_share 18 = .ok (.iload_n 3, 1) := by decide +kernel
theorem d_O_share_19 : decode c_O_share 19 = .ok (.iload 8, 2) := by decide +kernel
theorem d_O_share_21 : decode c_O_share 21 = .ok (.iadd, 1) := by decide +kernel
theorem d_O_share_22 : decode c_O_share 22 = .ok (.istore 9, 2) := by decide +kernel
theorem d_O_share_24 : decode c_O_share 24 = .ok (.iload 9, 2) := by decide +kernel
theorem d_O_share_26 : decode c_O_share 26 = .ok (.ifCond .lt 24, 3) := by decide +kernel
theorem d_O_share_29 : decode c_O_share 29 = .ok (.iload 9, 2) := by decide +kernel
theorem d_O_share_31 : decode c_O_share 31 = .ok (.iconst 5, 1) := by decide +kernel
theorem d_O_share_32 : decode c_O_share 32 = .ok (.if_icmp .ge 18, 3) := by decide +kernel
theorem d_O_share_35 : decode c_O_share 35 = .ok (.lload 4, 2) := by decide +kernel
theorem d_O_share_37 : decode c_O_share 37 = .ok (.aload_n 1, 1) := by decide +kernel
theorem d_O_share_38 : decode c_O_share 38 = .ok (.iload 8, 2) := by decide +kernel
theorem d_O_share_40 : decode c_O_share 40 = .ok (.aaload, 1) := by decide +kernel
theorem d_O_share_41 : decode c_O_share 41 = .ok (.iload 9, 2) := by decide +kernel
theorem d_O_share_43 : decode c_O_share 43 = .ok (.laload, 1) := by decide +kernel
theorem d_O_share_44 : decode c_O_share 44 = .ok (.lload 6, 2) := by decide +kernel
theorem d_O_share_46 : decode c_O_share 46 = .ok (.lmul, 1) := by decide +kernel
theorem d_O_share_47 : decode c_O_share 47 = .ok (.ladd, 1) := by decide +kernel
theorem d_O_share_48 : decode c_O_share 48 = .ok (.lstore 4, 2) := by decide +kernel
theorem d_O_share_50 : decode c_O_share 50 = .ok (.lload 6, 2) := by decide +kernel
theorem d_O_share_52 : decode c_O_share 52 = .ok (.iload_n 2, 1) := by decide +kernel
theorem d_O_share_53 : decode c_O_share 53 = .ok (.iload 8, 2) := by decide +kernel
theorem d_O_share_55 : decode c_O_share 55 = .ok (.isub, 1) := by decide +kernel
theorem d_O_share_56 : decode c_O_share 56 = .ok (.i2l, 1) := by decide +kernel
theorem d_O_share_57 : decode c_O_share 57 = .ok (.lmul, 1) := by decide +kernel
theorem d_O_share_58 : decode c_O_share 58 = .ok (.lstore 6, 2) := by decide +kernel
theorem d_O_share_60 : decode c_O_share 60 = .ok (.iinc 8 1, 3) := by decide +kernel
theorem d_O_share_63 : decode c_O_share 63 = .ok (.goto (-54), 3) := by decide +kernel
theorem d_O_share_66 : decode c_O_share 66 = .ok (.lload 4, 2) := by decide +kernel
theorem d_O_share_68 : decode c_O_share 68 = .ok (.invokestatic 62, 3) := by decide +kernel
theorem d_O_share_71 : decode c_O_share 71 = .ok (.lreturn, 1) := by decide +kernel
theorem d_O_madeAt_0 : decode c_O_madeAt 0 = .ok (.lconst 0, 1) := by decide +kernel
theorem d_O_madeAt_1 : decode c_O_madeAt 1 = .ok (.lstore_n 2, 1) := by decide +kernel
theorem d_O_madeAt_2 : decode c_O_madeAt 2 = .ok (.iconst 0, 1) := by decide +kernel
theorem d_O_madeAt_3 : decode c_O_madeAt 3 = .ok (.istore 4, 2) := by decide +kernel
theorem d_O_madeAt_5 : decode c_O_madeAt 5 = .ok (.iload 4, 2) := by decide +kernel
theorem d_O_madeAt_7 : decode c_O_madeAt 7 = .ok (.bipush 13, 2) := by decide +kernel
theorem d_O_madeAt_9 : decode c_O_madeAt 9 = .ok (.if_icmp .ge 46, 3) := by decide +kernel
theorem d_O_madeAt_12 : decode c_O_madeAt 12 = .ok (.aload_n 0, 1) := by decide +kernel
theorem d_O_madeAt_13 : decode c_O_madeAt 13 = .ok (.getfield 17, 3) := by decide +kernel
theorem d_O_madeAt_16 : decode c_O_madeAt 16 = .ok (.iload 4, 2) := by decide +kernel
theorem d_O_madeAt_18 : decode c_O_madeAt 18 = .ok (.laload, 1) := by decide +kernel
theorem d_O_madeAt_19 : decode c_O_madeAt 19 = .ok (.lconst 0, 1) := by decide +kernel
theorem d_O_madeAt_20 : decode c_O_madeAt 20 = .ok (.lcmp, 1) := by decide +kernel
theorem d_O_madeAt_21 : decode c_O_madeAt 21 = .ok (.ifCond .eq 28, 3) := by decide +kernel
theorem d_O_madeAt_24 : decode c_O_madeAt 24 = .ok (.lload_n 2, 1) := by decide +kernel
theorem d_O_madeAt_25 : decode c_O_madeAt 25 = .ok (.aload_n 0, 1) := by decide +kernel
theorem d_O_madeAt_26 : decode c_O_madeAt 26 = .ok (.getfield 17, 3) := by decide +kernel
theorem d_O_madeAt_29 : decode c_O_madeAt 29 = .ok (.iload 4, 2) := by decide +kernel
theorem d_O_madeAt_31 : decode c_O_madeAt 31 = .ok (.laload, 1) := by decide +kernel
theorem d_O_madeAt_32 : decode c_O_madeAt 32 = .ok (.aload_n 0, 1) := by decide +kernel
theorem d_O_madeAt_33 : decode c_O_madeAt 33 = .ok (.aload_n 0, 1) := by decide +kernel
theorem d_O_madeAt_34 : decode c_O_madeAt 34 = .ok (.getfield 11, 3) := by decide +kernel
theorem d_O_madeAt_37 : decode c_O_madeAt 37 = .ok (.iload 4, 2) := by decide +kernel
theorem d_O_madeAt_39 : decode c_O_madeAt 39 = .ok (.iload_n 1, 1) := by decide +kernel
theorem d_O_madeAt_40 : decode c_O_madeAt 40 = .ok (.iload 4, 2) := by decide +kernel
theorem d_O_madeAt_42 : decode c_O_madeAt 42 = .ok (.isub, 1) := by decide +kernel
theorem d_O_madeAt_43 : decode c_O_madeAt 43 = .ok (.invokevirtual 187, 3) := by decide +kernel
theorem d_O_madeAt_46 : decode c_O_madeAt 46 = .ok (.lmul, 1) := by decide +kernel
theorem d_O_madeAt_47 : decode c_O_madeAt 47 = .ok (.ladd, 1) := by decide +kernel
theorem d_O_madeAt_48 : decode c_O_madeAt 48 = .ok (.lstore_n 2, 1) := by decide +kernel
theorem d_O_madeAt_49 : decode c_O_madeAt 49 = .ok (.iinc 4 1, 3) := by decide +kernel
theorem d_O_madeAt_52 : decode c_O_madeAt 52 = .ok (.goto (-47), 3) := by decide +kernel
theorem d_O_madeAt_55 : decode c_O_madeAt 55 = .ok (.lload_n 2, 1) := by decide +kernel
theorem d_O_madeAt_56 : decode c_O_madeAt 56 = .ok (.invokestatic 62, 3) := by decide +kernel
theorem d_O_madeAt_59 : decode c_O_madeAt 59 = .ok (.lreturn, 1) := by decide +kernel
theorem d_O_nextTerm_0 : decode c_O_nextTerm 0 = .ok (.iload_n 1, 1) := by decide +kernel
theorem d_O_nextTerm_1 : decode c_O_nextTerm 1 = .ok (.aload_n 0, 1) := by decide +kernel
theorem d_O_nextTerm_2 : decode c_O_nextTerm 2 = .ok (.getfield 54, 3) := by decide +kernel
theorem d_O_nextTerm_5 : decode c_O_nextTerm 5 = .ok (.isub, 1) := by decide +kernel
theorem d_O_nextTerm_6 : decode c_O_nextTerm 6 = .ok (.istore_n 2, 1) := by decide +kernel
theorem d_O_nextTerm_7 : decode c_O_nextTerm 7 = .ok (.lconst 0, 1) := by decide +kernel
theorem d_O_nextTerm_8 : decode c_O_nextTerm 8 = .ok (.lstore_n 3, 1) := by decide +kernel
theorem d_O_nextTerm_9 : decode c_O_nextTerm 9 = .ok (.iconst 0, 1) := by decide +kernel
theorem d_O_nextTerm_10 : decode c_O_nextTerm 10 = .ok (.iload_n 2, 1) := by decide +kernel
theorem d_O_nextTerm_11 : decode c_O_nextTerm 11 = .ok (.iconst 5, 1) := by decide +kernel
theorem d_O_nextTerm_12 : decode c_O_nextTerm 12 = .ok (.isub, 1) := by decide +kernel
theorem d_O_nextTerm_13 : decode c_O_nextTerm 13 = .ok (.iconst 1, 1) := by decide +kernel
theorem d_O_nextTerm_14 : decode c_O_nextTerm 14 = .ok (.iadd, 1) := by decide +kernel
theorem d_O_nextTerm_15 : decode c_O_nextTerm 15 = .ok (.invokestatic 51, 3) := by decide +kernel
theorem d_O_nextTerm_18 : decode c_O_nextTerm 18 = .ok (.istore 5, 2) := by decide +kernel
theorem d_O_nextTerm_20 : decode c_O_nextTerm 20 = .ok (.iload 5, 2) := by decide +kernel
theorem d_O_nextTerm_22 : decode c_O_nextTerm 22 = .ok (.iload_n 1, 1) := by decide +kernel
theorem d_O_nextTerm_23 : decode c_O_nextTerm 23 = .ok (.if_icmp .ge 34, 3) := by decide +kernel
theorem d_O_nextTerm_26 : decode c_O_nextTerm 26 = .ok (.lload_n 3, 1) := by decide +kernel
theorem d_O_nextTerm_27 : decode c_O_nextTerm 27 = .ok (.aload_n 0, 1) := by decide +kernel
theorem d_O_nextTerm_28 : decode c_O_nextTerm 28 = .ok (.getfield 21, 3) := by decide +kernel
theorem d_O_nextTerm_31 : decode c_O_nextTerm 31 = .ok (.iload 5, 2) := by decide +kernel
theorem d_O_nextTerm_33 : decode c_O_nextTerm 33 = .ok (.laload, 1) := by decide +kernel
theorem d_O_nextTerm_34 : decode c_O_nextTerm 34 = .ok (.aload_n 0, 1) := by decide +kernel
theorem d_O_nextTerm_35 : decode c_O_nextTerm 35 = .ok (.aload_n 0, 1) := by decide +kernel
theorem d_O_nextTerm_36 : decode c_O_nextTerm 36 = .ok (.getfield 14, 3) := by decide +kernel
theorem d_O_nextTerm_39 : decode c_O_nextTerm 39 = .ok (.iload 5, 2) := by decide +kernel
theorem d_O_nextTerm_41 : decode c_O_nextTerm 41 = .ok (.iload_n 2, 1) := by decide +kernel
theorem d_O_nextTerm_42 : decode c_O_nextTerm 42 = .ok (.iload 5, 2) := by decide +kernel
theorem d_O_nextTerm_44 : decode c_O_nextTerm 44 = .ok (.isub, 1) := by decide +kernel
theorem d_O_nextTerm_45 : decode c_O_nextTerm 45 = .ok (.invokevirtual 187, 3) := by decide +kernel
theorem d_O_nextTerm_48 : decode c_O_nextTerm 48 = .ok (.lmul, 1) := by decide +kernel
theorem d_O_nextTerm_49 : decode c_O_nextTerm 49 = .ok (.ladd, 1) := by decide +kernel
theorem d_O_nextTerm_50 : decode c_O_nextTerm 50 = .ok (.lstore_n 3, 1) := by decide +kernel
theorem d_O_nextTerm_51 : decode c_O_nextTerm 51 = .ok (.iinc 5 1, 3) := by decide +kernel
theorem d_O_nextTerm_54 : decode c_O_nextTerm 54 = .ok (.goto (-34), 3) := by decide +kernel
theorem d_O_nextTerm_57 : decode c_O_nextTerm 57 = .ok (.lload_n 3, 1) := by decide +kernel
theorem d_O_nextTerm_58 : decode c_O_nextTerm 58 = .ok (.invokestatic 62, 3) := by decide +kernel
theorem d_O_nextTerm_61 : decode c_O_nextTerm 61 = .ok (.lneg, 1) := by decide +kernel
theorem d_O_nextTerm_62 : decode c_O_nextTerm 62 = .ok (.aload_n 0, 1) := by decide +kernel
theorem d_O_nextTerm_63 : decode c_O_nextTerm 63 = .ok (.aload_n 0, 1) := by decide +kernel
theorem d_O_nextTerm_64 : decode c_O_nextTerm 64 = .ok (.getfield 14, 3) := by decide +kernel
theorem d_O_nextTerm_67 : decode c_O_nextTerm 67 = .ok (.iload_n 1, 1) := by decide +kernel
theorem d_O_nextTerm_68 : decode c_O_nextTerm 68 = .ok (.aload_n 0, 1) := by decide +kernel
theorem d_O_nextTerm_69 : decode c_O_nextTerm 69 = .ok (.getfield 54, 3) := by decide +kernel
theorem d_O_nextTerm_72 : decode c_O_nextTerm 72 = .ok (.ineg, 1) := by decide +kernel
theorem d_O_nextTerm_73 : decode c_O_nextTerm 73 = .ok (.invokevirtual 187, 3) := by decide +kernel
theorem d_O_nextTerm_76 : decode c_O_nextTerm 76 = .ok (.invokestatic 191, 3) := by decide +kernel
theorem d_O_nextTerm_79 : decode c_O_nextTerm 79 = .ok (.lmul, 1) := by decide +kernel
theorem d_O_nextTerm_80 : decode c_O_nextTerm 80 = .ok (.invokestatic 62, 3) := by decide +kernel
theorem d_O_nextTerm_83 : decode c_O_nextTerm 83 = .ok (.lreturn, 1) := by decide +kernel
theorem d_O_adjointAt_0 : decode c_O_adjointAt 0 = .ok (.lconst 0, 1) := by decide +kernel
theorem d_O_adjointAt_1 : decode c_O_adjointAt 1 = .ok (.lstore_n 3, 1) := by decide +kernel
theorem d_O_adjointAt_2 : decode c_O_adjointAt 2 = .ok (.iload_n 1, 1) := by decide +kernel
theorem d_O_adjointAt_3 : decode c_O_adjointAt 3 = .ok (.istore 5, 2) := by decide +kernel
theorem d_O_adjointAt_5 : decode c_O_adjointAt 5 = .ok (.iload 5, 2) := by decide +kernel
theorem d_O_adjointAt_7 : decode c_O_adjointAt 7 = .ok (.aload_n 0, 1) := by decide +kernel
theorem d_O_adjointAt_8 : decode c_O_adjointAt 8 = .ok (.getfield 54, 3) := by decide +kernel
theorem d_O_adjointAt_11 : decode c_O_adjointAt 11 = .ok (.if_icmp .gt 56, 3) := by decide +kernel
theorem d_O_adjointAt_14 : decode c_O_adjointAt 14 = .ok (.getstatic 194, 3) := by decide +kernel
theorem d_O_adjointAt_17 : decode c_O_adjointAt 17 = .ok (.iconst 4, 1) := by decide +kernel
theorem d_O_adjointAt_18 : decode c_O_adjointAt 18 = .ok (.iload 5, 2) := by decide +kernel
theorem d_O_adjointAt_20 : decode c_O_adjointAt 20 = .ok (.imul, 1) := by decide +kernel
theorem d_O_adjointAt_21 : decode c_O_adjointAt 21 = .ok (.iload_n 1, 1) := by decide +kernel
theorem d_O_adjointAt_22 : decode c_O_adjointAt 22 = .ok (.iadd, 1) := by decide +kernel
theorem d_O_adjointAt_23 : decode c_O_adjointAt 23 = .ok (.iaload, 1) := by decide +kernel
theorem d_O_adjointAt_24 : decode c_O_adjointAt 24 = .ok (.i2l, 1) := by decide +kernel
theorem d_O_adjointAt_25 : decode c_O_adjointAt 25 = .ok (.aload_n 0, 1) := by decide +kernel
theorem d_O_adjointAt_26 : decode c_O_adjointAt 26 = .ok (.getfield 11, 3) := by decide +kernel
theorem d_O_adjointAt_29 : decode c_O_adjointAt 29 = .ok (.iload 5, 2) := by decide +kernel
theorem d_O_adjointAt_31 : decode c_O_adjointAt 31 = .ok (.aaload, 1) := by decide +kernel
theorem d_O_adjointAt_32 : decode c_O_adjointAt 32 = .ok (.iload 5, 2) := by decide +kernel
theorem d_O_adjointAt_34 : decode c_O_adjointAt 34 = .ok (.iload_n 1, 1) := by decide +kernel
theorem d_O_adjointAt_35 : decode c_O_adjointAt 35 = .ok (.isub, 1) := by decide +kernel
theorem d_O_adjointAt_36 : decode c_O_adjointAt 36 = .ok (.iload_n 2, 1) := by decide +kernel
theorem d_O_adjointAt_37 : decode c_O_adjointAt 37 = .ok (.invokestatic 198, 3) := by decide +kernel
theorem d_O_adjointAt_40 : decode c_O_adjointAt 40 = .ok (.lmul, 1) := by decide +kernel
theorem d_O_adjointAt_41 : decode c_O_adjointAt 41 = .ok (.lstore 6, 2) := by decide +kernel
theorem d_O_adjointAt_43 : decode c_O_adjointAt 43 = .ok (.lload_n 3, 1) := by decide +kernel
theorem d_O_adjointAt_44 : decode c_O_adjointAt 44 = .ok (.iload 5, 2) := by decide +kernel
theorem d_O_adjointAt_46 : decode c_O_adjointAt 46 = .ok (.iconst 2, 1) := by decide +kernel
theorem d_O_adjointAt_47 : decode c_O_adjointAt 47 = .ok (.irem, 1) := by decide +kernel
theorem d_O_adjointAt_48 : decode c_O_adjointAt 48 = .ok (.ifCond .ne 8, 3) := by decide +kernel
theorem d_O_adjointAt_51 : decode c_O_adjointAt 51 = .ok (.lload 6, 2) := by decide +kernel
theorem d_O_adjointAt_53 : decode c_O_adjointAt 53 = .ok (.goto 6, 3) := by decide +kernel
theorem d_O_adjointAt_56 : decode c_O_adjointAt 56 = .ok (.lload 6, 2) := by decide +kernel
theorem d_O_adjointAt_58 : decode c_O_adjointAt 58 = .ok (.lneg, 1) := by decide +kernel
theorem d_O_adjointAt_59 : decode c_O_adjointAt 59 = .ok (.ladd, 1) := by decide +kernel
theorem d_O_adjointAt_60 : decode c_O_adjointAt 60 = .ok (.lstore_n 3, 1) := by decide +kernel
theorem d_O_adjointAt_61 : decode c_O_adjointAt 61 = .ok (.iinc 5 1, 3) := by decide +kernel
theorem d_O_adjointAt_64 : decode c_O_adjointAt 64 = .ok (.goto (-59), 3) := by decide +kernel
theorem d_O_adjointAt_67 : decode c_O_adjointAt 67 = .ok (.lload_n 3, 1) := by decide +kernel
theorem d_O_adjointAt_68 : decode c_O_adjointAt 68 = .ok (.invokestatic 62, 3) := by decide +kernel
theorem d_O_adjointAt_71 : decode c_O_adjointAt 71 = .ok (.lreturn, 1) := by decide +kernel
theorem d_O_slopeAt_0 : decode c_O_slopeAt 0 = .ok (.iload_n 2, 1) := by decide +kernel
theorem d_O_slopeAt_1 : decode c_O_slopeAt 1 = .ok (.iload_n 1, 1) := by decide +kernel
theorem d_O_slopeAt_2 : decode c_O_slopeAt 2 = .ok (.iadd, 1) := by decide +kernel
theorem d_O_slopeAt_3 : decode c_O_slopeAt 3 = .ok (.iconst 5, 1) := by decide +kernel
theorem d_O_slopeAt_4 : decode c_O_slopeAt 4 = .ok (.if_icmp .lt 5, 3) := by decide +kernel
theorem d_O_slopeAt_7 : decode c_O_slopeAt 7 = .ok (.lconst 0, 1) := by decide +kernel
theorem d_O_slopeAt_8 : decode c_O_slopeAt 8 = .ok (.lreturn, 1) := by decide +kernel
theorem d_O_slopeAt_9 : decode c_O_slopeAt 9 = .ok (.aload_n 0, 1) := by decide +kernel
theorem d_O_slopeAt_10 : decode c_O_slopeAt 10 = .ok (.iload_n 2, 1) := by decide +kernel
theorem d_O_slopeAt_11 : decode c_O_slopeAt 11 = .ok (.iload_n 1, 1) := by decide +kernel
theorem d_O_slopeAt_12 : decode c_O_slopeAt 12 = .ok (.iadd, 1) := by decide +kernel
theorem d_O_slopeAt_13 : decode c_O_slopeAt 13 = .ok (.laload, 1) := by decide +kernel
theorem d_O_slopeAt_14 : decode c_O_slopeAt 14 = .ok (.lstore_n 3, 1) := by decide +kernel
theorem d_O_slopeAt_15 : decode c_O_slopeAt 15 = .ok (.iconst 1, 1) := by decide +kernel
theorem d_O_slopeAt_16 : decode c_O_slopeAt 16 = .ok (.istore 5, 2) := by decide +kernel
theorem d_O_slopeAt_18 : decode c_O_slopeAt 18 = .ok (.iload 5, 2) := by decide +kernel
theorem d_O_slopeAt_20 : decode c_O_slopeAt 20 = .ok (.iload_n 1, 1) := by decide +kernel
theorem d_O_slopeAt_21 : decode c_O_slopeAt 21 = .ok (.if_icmp .gt 17, 3) := by decide +kernel
theorem d_O_slopeAt_24 : decode c_O_slopeAt 24 = .ok (.lload_n 3, 1) := by decide +kernel
theorem d_O_slopeAt_25 : decode c_O_slopeAt 25 = .ok (.iload_n 2, 1) := by decide +kernel
theorem d_O_slopeAt_26 : decode c_O_slopeAt 26 = .ok (.iload 5, 2) := by decide +kernel
theorem d_O_slopeAt_28 : decode c_O_slopeAt 28 = .ok (.iadd, 1) := by decide +kernel
theorem d_O_slopeAt_29 : decode c_O_slopeAt 29 = .ok (.i2l, 1) := by decide +kernel
theorem d_O_slopeAt_30 : decode c_O_slopeAt 30 = .ok (.lmul, 1) := by decide +kernel
theorem d_O_slopeAt_31 : decode c_O_slopeAt 31 = .ok (.lstore_n 3, 1) := by decide +kernel
theorem d_O_slopeAt_32 : decode c_O_slopeAt 32 = .ok (.iinc 5 1, 3) := by decide +kernel
theorem d_O_slopeAt_35 : decode c_O_slopeAt 35 = .ok (.goto (-17), 3) := by decide +kernel
theorem d_O_slopeAt_38 : decode c_O_slopeAt 38 = .ok (.lload_n 3, 1) := by decide +kernel
theorem d_O_slopeAt_39 : decode c_O_slopeAt 39 = .ok (.lreturn, 1) := by decide +kernel
theorem d_O_knowBase_0 : decode c_O_knowBase 0 = .ok (.aload_n 0, 1) := by decide +kernel
theorem d_O_knowBase_1 : decode c_O_knowBase 1 = .ok (.getfield 41, 3) := by decide +kernel
theorem d_O_knowBase_4 : decode c_O_knowBase 4 = .ok (.ifCond .eq 4, 3) := by decide +kernel
theorem d_O_knowBase_7 : decode c_O_knowBase 7 = .ok (.return_, 1) := by decide +kernel
theorem d_O_knowBase_8 : decode c_O_knowBase 8 = .ok (.iconst 0, 1) := by decide +kernel
theorem d_O_knowBase_9 : decode c_O_knowBase 9 = .ok (.istore_n 1, 1) := by decide +kernel
theorem d_O_knowBase_10 : decode c_O_knowBase 10 = .ok (.iload_n 1, 1) := by decide +kernel
theorem d_O_knowBase_11 : decode c_O_knowBase 11 = .ok (.bipush 17, 2) := by decide +kernel
theorem d_O_knowBase_13 : decode c_O_knowBase 13 = .ok (.if_icmp .ge 44, 3) := by decide +kernel
theorem d_O_knowBase_16 : decode c_O_knowBase 16 = .ok (.iconst 0, 1) := by decide +kernel
theorem d_O_knowBase_17 : decode c_O_knowBase 17 = .ok (.istore_n 2, 1) := by decide +kernel
theorem d_O_knowBase_18 : decode c_O_knowBase 18 = .ok (.iload_n 2, 1) := by decide +kernel
theorem d_O_knowBase_19 : decode c_O_knowBase 19 = .ok (.bipush 13, 2) := by decide +kernel
theorem d_O_knowBase_21 : decode c_O_knowBase 21 = .ok (.if_icmp .ge 30, 3) := by decide +kernel
theorem d_O_knowBase_24 : decode c_O_knowBase 24 = .ok (.aload_n 0, 1) := by decide +kernel
theorem d_O_knowBase_25 : decode c_O_knowBase 25 = .ok (.getfield 37, 3) := by decide +kernel
theorem d_O_knowBase_28 : decode c_O_knowBase 28 = .ok (.iload_n 1, 1) := by decide +kernel
theorem d_O_knowBase_29 : decode c_O_knowBase 29 = .ok (.iload_n 2, 1) := by decide +kernel
theorem d_O_knowBase_30 : decode c_O_knowBase 30 = .ok (.aload_n 0, 1) := by decide +kernel
theorem d_O_knowBase_31 : decode c_O_knowBase 31 = .ok (.aload_n 0, 1) := by decide +kernel
theorem d_O_knowBase_32 : decode c_O_knowBase 32 = .ok (.getfield 11, 3) := by decide +kernel
theorem d_O_knowBase_35 : decode c_O_knowBase 35 = .ok (.iload_n 2, 1) := by decide +kernel
theorem d_O_knowBase_36 : decode c_O_knowBase 36 = .ok (.iload_n 1, 1) := by decide +kernel
theorem d_O_knowBase_37 : decode c_O_knowBase 37 = .ok (.iload_n 2, 1) := by decide +kernel
theorem d_O_knowBase_38 : decode c_O_knowBase 38 = .ok (.isub, 1) := by decide +kernel
theorem d_O_knowBase_39 : decode c_O_knowBase 39 = .ok (.invokevirtual 187, 3) := by decide +kernel
theorem d_O_knowBase_42 : decode c_O_knowBase 42 = .ok (.invokevirtual 202, 3) := by decide +kernel
theorem d_O_knowBase_45 : decode c_O_knowBase 45 = .ok (.iinc 2 1, 3) := by decide +kernel
theorem d_O_knowBase_48 : decode c_O_knowBase 48 = .ok (.goto (-30), 3) := by decide +kernel
theorem d_O_knowBase_51 : decode c_O_knowBase 51 = .ok (.iinc 1 1, 3) := by decide +kernel
theorem d_O_knowBase_54 : decode c_O_knowBase 54 = .ok (.goto (-44), 3) := by decide +kernel
theorem d_O_knowBase_57 : decode c_O_knowBase 57 = .ok (.aload_n 0, 1) := by decide +kernel
theorem d_O_knowBase_58 : decode c_O_knowBase 58 = .ok (.getfield 37, 3) := by decide +kernel
theorem d_O_knowBase_61 : decode c_O_knowBase 61 = .ok (.invokevirtual 206, 3) := by decide +kernel
theorem d_O_knowBase_64 : decode c_O_knowBase 64 = .ok (.aload_n 0, 1) := by decide +kernel
theorem d_O_knowBase_65 : decode c_O_knowBase 65 = .ok (.iconst 1, 1) := by decide +kernel
theorem d_O_knowBase_66 : decode c_O_knowBase 66 = .ok (.putfield 41, 3) := by decide +kernel
theorem d_O_knowBase_69 : decode c_O_knowBase 69 = .ok (.return_, 1) := by decide +kernel
theorem d_O_number_0 : decode c_O_number 0 = .ok (.lload_n 0, 1) := by decide +kernel
theorem d_O_number_1 : decode c_O_number 1 = .ok (.ldc2_w 209, 3) := by decide +kernel
theorem d_O_number_4 : decode c_O_number 4 = .ok (.lrem, 1) := by decide +kernel
theorem d_O_number_5 : decode c_O_number 5 = .ok (.lstore_n 2, 1) := by decide +kernel
theorem d_O_number_6 : decode c_O_number 6 = .ok (.lload_n 2, 1) := by decide +kernel
theorem d_O_number_7 : decode c_O_number 7 = .ok (.lconst 0, 1) := by decide +kernel
theorem d_O_number_8 : decode c_O_number 8 = .ok (.lcmp, 1) := by decide +kernel
theorem d_O_number_9 : decode c_O_number 9 = .ok (.ifCond .ge 11, 3) := by decide +kernel
theorem d_O_number_12 : decode c_O_number 12 = .ok (.lload_n 2, 1) := by decide +kernel
theorem d_O_number_13 : decode c_O_number 13 = .ok (.ldc2_w 209, 3) := by decide +kernel
theorem d_O_number_16 : decode c_O_number 16 = .ok (.ladd, 1) := by decide +kernel
theorem d_O_number_17 : decode c_O_number 17 = .ok (.goto 4, 3) := by decide +kernel
theorem d_O_number_20 : decode c_O_number 20 = .ok (.lload_n 2, 1) := by decide +kernel
theorem d_O_number_21 : decode c_O_number 21 = .ok (.lreturn, 1) := by decide +kernel
theorem d_O_inverse_0 : decode c_O_inverse 0 = .ok (.lconst 1, 1) := by decide +kernel
theorem d_O_inverse_1 : decode c_O_inverse 1 = .ok (.lstore_n 2, 1) := by decide +kernel
theorem d_O_inverse_2 : decode c_O_inverse 2 = .ok (.bipush 14, 2) := by decide +kernel
theorem d_O_inverse_4 : decode c_O_inverse 4 = .ok (.istore 4, 2) := by decide +kernel
theorem d_O_inverse_6 : decode c_O_inverse 6 = .ok (.iload 4, 2) := by decide +kernel
theorem d_O_inverse_8 : decode c_O_inverse 8 = .ok (.ifCond .lt 37, 3) := by decide +kernel
theorem d_O_inverse_11 : decode c_O_inverse 11 = .ok (.lload_n 2, 1) := by decide +kernel
theorem d_O_inverse_12 : decode c_O_inverse 12 = .ok (.lload_n 2, 1) := by decide +kernel
theorem d_O_inverse_13 : decode c_O_inverse 13 = .ok (.lmul, 1) := by decide +kernel
theorem d_O_inverse_14 : decode c_O_inverse 14 = .ok (.ldc2_w 209, 3) := by decide +kernel
theorem d_O_inverse_17 : decode c_O_inverse 17 = .ok (.lrem, 1) := by decide +kernel
theorem d_O_inverse_18 : decode c_O_inverse 18 = .ok (.lstore_n 2, 1) := by decide +kernel
theorem d_O_inverse_19 : decode c_O_inverse 19 = .ok (.sipush 32001, 3) := by decide +kernel
theorem d_O_inverse_22 : decode c_O_inverse 22 = .ok (.iload 4, 2) := by decide +kernel
theorem d_O_inverse_24 : decode c_O_inverse 24 = .ok (.ishr, 1) := by decide +kernel
theorem d_O_inverse_25 : decode c_O_inverse 25 = .ok (.iconst 1, 1) := by decide +kernel
theorem d_O_inverse_26 : decode c_O_inverse 26 = .ok (.iand, 1) := by decide +kernel
theorem d_O_inverse_27 : decode c_O_inverse 27 = .ok (.iconst 1, 1) := by decide +kernel
theorem d_O_inverse_28 : decode c_O_inverse 28 = .ok (.if_icmp .ne 11, 3) := by decide +kernel
theorem d_O_inverse_31 : decode c_O_inverse 31 = .ok (.lload_n 2, 1) := by decide +kernel
theorem d_O_inverse_32 : decode c_O_inverse 32 = .ok (.lload_n 0, 1) := by decide +kernel
theorem d_O_inverse_33 : decode c_O_inverse 33 = .ok (.lmul, 1) := by decide +kernel
theorem d_O_inverse_34 : decode c_O_inverse 34 = .ok (.ldc2_w 209, 3) := by decide +kernel
theorem d_O_inverse_37 : decode c_O_inverse 37 = .ok (.lrem, 1) := by decide +kernel
theorem d_O_inverse_38 : decode c_O_inverse 38 = .ok (.lstore_n 2, 1) := by decide +kernel
theorem d_O_inverse_39 : decode c_O_inverse 39 = .ok (.iinc 4 (-1), 3) := by decide +kernel
theorem d_O_inverse_42 : decode c_O_inverse 42 = .ok (.goto (-36), 3) := by decide +kernel
theorem d_O_inverse_45 : decode c_O_inverse 45 = .ok (.lload_n 2, 1) := by decide +kernel
theorem d_O_inverse_46 : decode c_O_inverse 46 = .ok (.lreturn, 1) := by decide +kernel
theorem d_O_isZero_0 : decode c_O_isZero 0 = .ok (.aload_n 0, 1) := by decide +kernel
theorem d_O_isZero_1 : decode c_O_isZero 1 = .ok (.invokestatic 211, 3) := by decide +kernel
theorem d_O_isZero_4 : decode c_O_isZero 4 = .ok (.ifCond .ge 7, 3) := by decide +kernel
theorem d_O_isZero_7 : decode c_O_isZero 7 = .ok (.iconst 1, 1) := by decide +kernel
theorem d_O_isZero_8 : decode c_O_isZero 8 = .ok (.goto 4, 3) := by decide +kernel
theorem d_O_isZero_11 : decode c_O_isZero 11 = .ok (.iconst 0, 1) := by decide +kernel
theorem d_O_isZero_12 : decode c_O_isZero 12 = .ok (.ireturn, 1) := by decide +kernel
theorem d_O_degree_0 : decode c_O_degree 0 = .ok (.aload_n 0, 1) := by decide +kernel
theorem d_O_degree_1 : decode c_O_degree 1 = .ok (.arraylength, 1) := by decide +kernel
theorem d_O_degree_2 : decode c_O_degree 2 = .ok (.iconst 1, 1) := by decide +kernel
theorem d_O_degree_3 : decode c_O_degree 3 = .ok (.isub, 1) := by decide +kernel
theorem d_O_degree_4 : decode c_O_degree 4 = .ok (.istore_n 1, 1) := by decide +kernel
theorem d_O_degree_5 : decode c_O_degree 5 = .ok (.iload_n 1, 1) := by decide +kernel
theorem d_O_degree_6 : decode c_O_degree 6 = .ok (.ifCond .lt 17, 3) := by decide +kernel
theorem d_O_degree_9 : decode c_O_degree 9 = .ok (.aload_n 0, 1) := by decide +kernel
theorem d_O_degree_10 : decode c_O_degree 10 = .ok (.iload_n 1, 1) := by decide +kernel
theorem d_O_degree_11 : decode c_O_degree 11 = .ok (.laload, 1) := by decide +kernel
theorem d_O_degree_12 : decode c_O_degree 12 = .ok (.lconst 0, 1) := by decide +kernel
theorem d_O_degree_13 : decode c_O_degree 13 = .ok (.lcmp, 1) := by decide +kernel
theorem d_O_degree_14 : decode c_O_degree 14 = .ok (.ifCond .ne 9, 3) := by decide +kernel
theorem d_O_degree_17 : decode c_O_degree 17 = .ok (.iinc 1 (-1), 3) := by decide +kernel
theorem d_O_degree_20 : decode c_O_degree 20 = .ok (.goto (-15), 3) := by decide +kernel
theorem d_O_degree_23 : decode c_O_degree 23 = .ok (.iload_n 1, 1) := by decide +kernel
theorem d_O_degree_24 : decode c_O_degree 24 = .ok (.ireturn, 1) := by decide +kernel
theorem d_O_shift_0 : decode c_O_shift 0 = .ok (.iconst 0, 1) := by decide +kernel
theorem d_O_shift_1 : decode c_O_shift 1 = .ok (.istore_n 3, 1) := by decide +kernel
theorem d_O_shift_2 : decode c_O_shift 2 = .ok (.iload_n 3, 1) := by decide +kernel
theorem d_O_shift_3 : decode c_O_shift 3 = .ok (.iconst 4, 1) := by decide +kernel
theorem d_O_shift_4 : decode c_O_shift 4 = .ok (.if_icmp .ge 45, 3) := by decide +kernel
theorem d_O_shift_7 : decode c_O_shift 7 = .ok (.iconst 3, 1) := by decide +kernel
theorem d_O_shift_8 : decode c_O_shift 8 = .ok (.istore 4, 2) := by decide +kernel
theorem d_O_shift_10 : decode c_O_shift 10 = .ok (.iload 4, 2) := by decide +kernel
theorem d_O_shift_12 : decode c_O_shift 12 = .ok (.iload_n 3, 1) := by decide +kernel
theorem d_O_shift_13 : decode c_O_shift 13 = .ok (.if_icmp .lt 30, 3) := by decide +kernel
theorem d_O_shift_16 : decode c_O_shift 16 = .ok (.aload_n 0, 1) := by decide +kernel
theorem d_O_shift_17 : decode c_O_shift 17 = .ok (.iload 4, 2) := by decide +kernel
theorem d_O_shift_19 : decode c_O_shift 19 = .ok (.aload_n 0, 1) := by decide +kernel
theorem d_O_shift_20 : decode c_O_shift 20 = .ok (.iload 4, 2) := by decide +kernel
theorem d_O_shift_22 : decode c_O_shift 22 = .ok (.laload, 1) := by decide +kernel
theorem d_O_shift_23 : decode c_O_shift 23 = .ok (.lload_n 1, 1) := by decide +kernel
theorem d_O_shift_24 : decode c_O_shift 24 = .ok (.aload_n 0, 1) := by decide +kernel
theorem d_O_shift_25 : decode c_O_shift 25 = .ok (.iload 4, 2) := by decide +kernel
theorem d_O_shift_27 : decode c_O_shift 27 = .ok (.iconst 1, 1) := by decide +kernel
theorem d_O_shift_28 : decode c_O_shift 28 = .ok (.iadd, 1) := by decide +kernel
theorem d_O_shift_29 : decode c_O_shift 29 = .ok (.laload, 1) := by decide +kernel
theorem d_O_shift_30 : decode c_O_shift 30 = .ok (.lmul, 1) := by decide +kernel
theorem d_O_shift_31 : decode c_O_shift 31 = .ok (.ladd, 1) := by decide +kernel
theorem d_O_shift_32 : decode c_O_shift 32 = .ok (.ldc2_w 209, 3) := by decide +kernel
theorem d_O_shift_35 : decode c_O_shift 35 = .ok (.lrem, 1) := by decide +kernel
theorem d_O_shift_36 : decode c_O_shift 36 = .ok (.lastore, 1) := by decide +kernel
theorem d_O_shift_37 : decode c_O_shift 37 = .ok (.iinc 4 (-1), 3) := by decide +kernel
theorem d_O_shift_40 : decode c_O_shift 40 = .ok (.goto (-30), 3) := by decide +kernel
theorem d_O_shift_43 : decode c_O_shift 43 = .ok (.iinc 3 1, 3) := by decide +kernel
theorem d_O_shift_46 : decode c_O_shift 46 = .ok (.goto (-44), 3) := by decide +kernel
theorem d_O_shift_49 : decode c_O_shift 49 = .ok (.return_, 1) := by decide +kernel
end
section
theorem d_M_init_0 : decode c_M_init 0 = .ok (.aload_n 0, 1) := by decide +kernel
theorem d_M_init_1 : decode c_M_init 1 = .ok (.invokespecial 1, 3) := by decide +kernel
theorem d_M_init_4 : decode c_M_init 4 = .ok (.aload_n 0, 1) := by decide +kernel
theorem d_M_init_5 : decode c_M_init 5 = .ok (.bipush 20, 2) := by decide +kernel
theorem d_M_init_7 : decode c_M_init 7 = .ok (.newarray .long, 2) := by decide +kernel
theorem d_M_init_9 : decode c_M_init 9 = .ok (.putfield 7, 3) := by decide +kernel
theorem d_M_init_12 : decode c_M_init 12 = .ok (.aload_n 0, 1) := by decide +kernel
theorem d_M_init_13 : decode c_M_init 13 = .ok (.bipush 13, 2) := by decide +kernel
theorem d_M_init_15 : decode c_M_init 15 = .ok (.newarray .long, 2) := by decide +kernel
theorem d_M_init_17 : decode c_M_init 17 = .ok (.putfield 13, 3) := by decide +kernel
theorem d_M_init_20 : decode c_M_init 20 = .ok (.aload_n 0, 1) := by decide +kernel
theorem d_M_init_21 : decode c_M_init 21 = .ok (.bipush 17, 2) := by decide +kernel
theorem d_M_init_23 : decode c_M_init 23 = .ok (.newarray .long, 2) := by decide +kernel
theorem d_M_init_25 : decode c_M_init 25 = .ok (.putfield 16, 3) := by decide +kernel
theorem d_M_init_28 : decode c_M_init 28 = .ok (.aload_n 0, 1) := by decide +kernel
theorem d_M_init_29 : decode c_M_init 29 = .ok (.bipush 20, 2) := by decide +kernel
theorem d_M_init_31 : decode c_M_init 31 = .ok (.newarray .long, 2) := by decide +kernel
theorem d_M_init_33 : decode c_M_init 33 = .ok (.putfield 19, 3) := by decide +kernel
theorem d_M_init_36 : decode c_M_init 36 = .ok (.aload_n 0, 1) := by decide +kernel
theorem d_M_init_37 : decode c_M_init 37 = .ok (.sipush 221, 3) := by decide +kernel
theorem d_M_init_40 : decode c_M_init 40 = .ok (.newarray .long, 2) := by decide +kernel
theorem d_M_init_42 : decode c_M_init 42 = .ok (.putfield 22, 3) := by decide +kernel
theorem d_M_init_45 : decode c_M_init 45 = .ok (.aload_n 0, 1) := by decide +kernel
theorem d_M_init_46 : decode c_M_init 46 = .ok (.bipush 13, 2) := by decide +kernel
theorem d_M_init_48 : decode c_M_init 48 = .ok (.newarray .int, 2) := by decide +kernel
theorem d_M_init_50 : decode c_M_init 50 = .ok (.putfield 25, 3) := by decide +kernel
theorem d_M_init_53 : decode c_M_init 53 = .ok (.aload_n 0, 1) := by decide +kernel
theorem d_M_init_54 : decode c_M_init 54 = .ok (.sipush 169, 3) := by decide +kernel
theorem d_M_init_57 : decode c_M_init 57 = .ok (.newarray .long, 2) := by decide +kernel
theorem d_M_init_59 : decode c_M_init 59 = .ok (.putfield 29, 3) := by decide +kernel
theorem d_M_init_62 : decode c_M_init 62 = .ok (.aload_n 0, 1) := by decide +kernel
theorem d_M_init_63 : decode c_M_init 63 = .ok (.bipush 31, 2) := by decide +kernel
theorem d_M_init_65 : decode c_M_init 65 = .ok (.newarray .long, 2) := by decide +kernel
theorem d_M_init_67 : decode c_M_init 67 = .ok (.putfield 32, 3) := by decide +kernel
theorem d_M_init_70 : decode c_M_init 70 = .ok (.aload_n 0, 1) := by decide +kernel
theorem d_M_init_71 : decode c_M_init 71 = .ok (.bipush 20, 2) := by decide +kernel
theorem d_M_init_73 : decode c_M_init 73 = .ok (.newarray .long, 2) := by decide +kernel
theorem d_M_init_75 : decode c_M_init 75 = .ok (.putfield 35, 3) := by decide +kernel
theorem d_M_init_78 : decode c_M_init 78 = .ok (.aload_n 0, 1) := by decide +kernel
theorem d_M_init_79 : decode c_M_init 79 = .ok (.iload_n 1, 1) := by decide +kernel
theorem d_M_init_80 : decode c_M_init 80 = .ok (.iconst 1, 1) := by decide +kernel
theorem d_M_init_81 : decode c_M_init 81 = .ok (.if_icmp .ge 7, 3) := by decide +kernel
theorem d_M_init_84 : decode c_M_init 84 = .ok (.iconst 1, 1) := by decide +kernel
theorem d_M_init_85 : decode c_M_init 85 = .ok (.goto 13, 3) := by decide +kernel
theorem d_M_init_88 : decode c_M_init 88 = .ok (.iload_n 1, 1) := by decide +kernel
theorem d_M_init_89 : decode c_M_init 89 = .ok (.iconst 3, 1) := by decide +kernel
theorem d_M_init_90 : decode c_M_init 90 = .ok (.if_icmp .le 7, 3) := by decide +kernel
theorem d_M_init_93 : decode c_M_init 93 = .ok (.iconst 3, 1) := by decide +kernel
theorem d_M_init_94 : decode c_M_init 94 = .ok (.goto 4, 3) := by decide +kernel
theorem d_M_init_97 : decode c_M_init 97 = .ok (.iload_n 1, 1) := by decide +kernel
theorem d_M_init_98 : decode c_M_init 98 = .ok (.putfield 38, 3) := by decide +kernel
theorem d_M_init_101 : decode c_M_init 101 = .ok (.return_, 1) := by decide +kernel
theorem d_M_thrown_0 : decode c_M_thrown 0 = .ok (.aload_n 0, 1) := by decide +kernel
theorem d_M_thrown_1 : decode c_M_thrown 1 = .ok (.getfield 42, 3) := by decide +kernel
theorem d_M_thrown_4 : decode c_M_thrown 4 = .ok (.ireturn, 1) := by decide +kernel
theorem d_M_raise_0 : decode c_M_raise 0 = .ok (.aload_n 0, 1) := by decide +kernel
theorem d_M_raise_1 : decode c_M_raise 1 = .ok (.iload_n 1, 1) := by decide +kernel
theorem d_M_raise_2 : decode c_M_raise 2 = .ok (.putfield 42, 3) := by decide +kernel
theorem d_M_raise_5 : decode c_M_raise 5 = .ok (.iconst 0, 1) := by decide +kernel
theorem d_M_raise_6 : decode c_M_raise 6 = .ok (.ireturn, 1) := by decide +kernel
theorem d_M_in_0 : decode c_M_in 0 = .ok (.lload_n 0, 1) := by decide +kernel
theorem d_M_in_1 : decode c_M_in 1 = .ok (.lload_n 2, 1) := by decide +kernel
theorem d_M_in_2 : decode c_M_in 2 = .ok (.lcmp, 1) := by decide +kernel
theorem d_M_in_3 : decode c_M_in 3 = .ok (.ifCond .lt 14, 3) := by decide +kernel
theorem d_M_in_6 : decode c_M_in 6 = .ok (.lload_n 0, 1) := by decide +kernel
theorem d_M_in_7 : decode c_M_in 7 = .ok (.lload 4, 2) := by decide +kernel
theorem d_M_in_9 : decode c_M_in 9 = .ok (.lcmp, 1) := by decide +kernel
theorem d_M_in_10 : decode c_M_in 10 = .ok (.ifCond .gt 7, 3) := by decide +kernel
theorem d_M_in_13 : decode c_M_in 13 = .ok (.iconst 1, 1) := by decide +kernel
theorem d_M_in_14 : decode c_M_in 14 = .ok (.goto 4, 3) := by decide +kernel
theorem d_M_in_17 : decode c_M_in 17 = .ok (.iconst 0, 1) := by decide +kernel
theorem d_M_in_18 : decode c_M_in 18 = .ok (.ireturn, 1) := by decide +kernel
theorem d_M_modulo_0 : decode c_M_modulo 0 = .ok (.lload_n 0, 1) := by decide +kernel
theorem d_M_modulo_1 : decode c_M_modulo 1 = .ok (.ldc2_w 45, 3) := by decide +kernel
theorem d_M_modulo_4 : decode c_M_modulo 4 = .ok (.lrem, 1) := by decide +kernel
theorem d_M_modulo_5 : decode c_M_modulo 5 = .ok (.lstore_n 2, 1) := by decide +kernel
theorem d_M_modulo_6 : decode c_M_modulo 6 = .ok (.lload_n 2, 1) := by decide +kernel
theorem d_M_modulo_7 : decode c_M_modulo 7 = .ok (.lconst 0, 1) := by decide +kernel
theorem d_M_modulo_8 : decode c_M_modulo 8 = .ok (.lcmp, 1) := by decide +kernel
theorem d_M_modulo_9 : decode c_M_modulo 9 = .ok (.ifCond .ge 11, 3) := by decide +kernel
theorem d_M_modulo_12 : decode c_M_modulo 12 = .ok (.lload_n 2, 1) := by decide +kernel
theorem d_M_modulo_13 : decode c_M_modulo 13 = .ok (.ldc2_w 45, 3) := by decide +kernel
theorem d_M_modulo_16 : decode c_M_modulo 16 = .ok (.ladd, 1) := by decide +kernel
theorem d_M_modulo_17 : decode c_M_modulo 17 = .ok (.goto 4, 3) := by decide +kernel
theorem d_M_modulo_20 : decode c_M_modulo 20 = .ok (.lload_n 2, 1) := by decide +kernel
theorem d_M_modulo_21 : decode c_M_modulo 21 = .ok (.lreturn, 1) := by decide +kernel
theorem d_M_inverse_0 : decode c_M_inverse 0 = .ok (.lconst 1, 1) := by decide +kernel
theorem d_M_inverse_1 : decode c_M_inverse 1 = .ok (.lstore_n 2, 1) := by decide +kernel
theorem d_M_inverse_2 : decode c_M_inverse 2 = .ok (.lload_n 0, 1) := by decide +kernel
theorem d_M_inverse_3 : decode c_M_inverse 3 = .ok (.lstore 4, 2) := by decide +kernel
theorem d_M_inverse_5 : decode c_M_inverse 5 = .ok (.sipush 32001, 3) := by decide +kernel
theorem d_M_inverse_8 : decode c_M_inverse 8 = .ok (.istore 6, 2) := by decide +kernel
theorem d_M_inverse_10 : decode c_M_inverse 10 = .ok (.iload 6, 2) := by decide +kernel
theorem d_M_inverse_12 : decode c_M_inverse 12 = .ok (.ifCond .le 44, 3) := by decide +kernel
theorem d_M_inverse_15 : decode c_M_inverse 15 = .ok (.iload 6, 2) := by decide +kernel
theorem d_M_inverse_17 : decode c_M_inverse 17 = .ok (.iconst 2, 1) := by decide +kernel
theorem d_M_inverse_18 : decode c_M_inverse 18 = .ok (.irem, 1) := by decide +kernel
theorem d_M_inverse_19 : decode c_M_inverse 19 = .ok (.iconst 1, 1) := by decide +kernel
theorem d_M_inverse_20 : decode c_M_inverse 20 = .ok (.if_icmp .ne 14, 3) := by decide +kernel
theorem d_M_inverse_23 : decode c_M_inverse 23 = .ok (.lload_n 2, 1) := by decide +kernel
theorem d_M_inverse_24 : decode c_M_inverse 24 = .ok (.lload 4, 2) := by decide +kernel
theorem d_M_inverse_26 : decode c_M_inverse 26 = .ok (.lmul, 1) := by decide +kernel
theorem d_M_inverse_27 : decode c_M_inverse 27 = .ok (.ldc2_w 45, 3) := by decide +kernel
theorem d_M_inverse_30 : decode c_M_inverse 30 = .ok (.lrem, 1) := by decide +kernel
theorem d_M_inverse_31 : decode c_M_inverse 31 = .ok (.goto 4, 3) := by decide +kernel
theorem d_M_inverse_34 : decode c_M_inverse 34 = .ok (.lload_n 2, 1) := by decide +kernel
theorem d_M_inverse_35 : decode c_M_inverse 35 = .ok (.lstore_n 2, 1) := by decide +kernel
theorem d_M_inverse_36 : decode c_M_inverse 36 = .ok (.lload 4, 2) := by decide +kernel
theorem d_M_inverse_38 : decode c_M_inverse 38 = .ok (.lload 4, 2) := by decide +kernel
theorem d_M_inverse_40 : decode c_M_inverse 40 = .ok (.lmul, 1) := by decide +kernel
theorem d_M_inverse_41 : decode c_M_inverse 41 = .ok (.ldc2_w 45, 3) := by decide +kernel
theorem d_M_inverse_44 : decode c_M_inverse 44 = .ok (.lrem, 1) := by decide +kernel
theorem d_M_inverse_45 : decode c_M_inverse 45 = .ok (.lstore 4, 2) := by decide +kernel
theorem d_M_inverse_47 : decode c_M_inverse 47 = .ok (.iload 6, 2) := by decide +kernel
theorem d_M_inverse_49 : decode c_M_inverse 49 = .ok (.iconst 2, 1) := by decide +kernel
theorem d_M_inverse_50 : decode c_M_inverse 50 = .ok (.idiv, 1) := by decide +kernel
theorem d_M_inverse_51 : decode c_M_inverse 51 = .ok (.istore 6, 2) := by decide +kernel
theorem d_M_inverse_53 : decode c_M_inverse 53 = .ok (.goto (-43), 3) := by decide +kernel
theorem d_M_inverse_56 : decode c_M_inverse 56 = .ok (.lload_n 2, 1) := by decide +kernel
theorem d_M_inverse_57 : decode c_M_inverse 57 = .ok (.lreturn, 1) := by decide +kernel
theorem d_M_falling_0 : decode c_M_falling 0 = .ok (.lconst 1, 1) := by decide +kernel
theorem d_M_falling_1 : decode c_M_falling 1 = .ok (.lstore_n 3, 1) := by decide +kernel
theorem d_M_falling_2 : decode c_M_falling 2 = .ok (.iconst 0, 1) := by decide +kernel
theorem d_M_falling_3 : decode c_M_falling 3 = .ok (.istore 5, 2) := by decide +kernel
theorem d_M_falling_5 : decode c_M_falling 5 = .ok (.iload 5, 2) := by decide +kernel
theorem d_M_falling_7 : decode c_M_falling 7 = .ok (.iload_n 2, 1) := by decide +kernel
theorem d_M_falling_8 : decode c_M_falling 8 = .ok (.if_icmp .ge 23, 3) := by decide +kernel
theorem d_M_falling_11 : decode c_M_falling 11 = .ok (.lload_n 3, 1) := by decide +kernel
theorem d_M_falling_12 : decode c_M_falling 12 = .ok (.lload_n 0, 1) := by decide +kernel
theorem d_M_falling_13 : decode c_M_falling 13 = .ok (.iload 5, 2) := by decide +kernel
theorem d_M_falling_15 : decode c_M_falling 15 = .ok (.i2l, 1) := by decide +kernel
theorem d_M_falling_16 : decode c_M_falling 16 = .ok (.lsub, 1) := by decide +kernel
theorem d_M_falling_17 : decode c_M_falling 17 = .ok (.invokestatic 47, 3) := by decide +kernel
theorem d_M_falling_20 : decode c_M_falling 20 = .ok (.lmul, 1) := by decide +kernel
theorem d_M_falling_21 : decode c_M_falling 21 = .ok (.invokestatic 47, 3) := by decide +kernel
theorem d_M_falling_24 : decode c_M_falling 24 = .ok (.lstore_n 3, 1) := by decide +kernel
theorem d_M_falling_25 : decode c_M_falling 25 = .ok (.iinc 5 1, 3) := by decide +kernel
theorem d_M_falling_28 : decode c_M_falling 28 = .ok (.goto (-23), 3) := by decide +kernel
theorem d_M_falling_31 : decode c_M_falling 31 = .ok (.lload_n 3, 1) := by decide +kernel
theorem d_M_falling_32 : decode c_M_falling 32 = .ok (.lreturn, 1) := by decide +kernel
theorem d_M_isThere_0 : decode c_M_isThere 0 = .ok (.aload_n 0, 1) := by decide +kernel
theorem d_M_isThere_1 : decode c_M_isThere 1 = .ok (.iload_n 1, 1) := by decide +kernel
theorem d_M_isThere_2 : decode c_M_isThere 2 = .ok (.i2l, 1) := by decide +kernel
theorem d_M_isThere_3 : decode c_M_isThere 3 = .ok (.lconst 0, 1) := by decide +kernel
theorem d_M_isThere_4 : decode c_M_isThere 4 = .ok (.aload_n 0, 1) := by decide +kernel
theorem d_M_isThere_5 : decode c_M_isThere 5 = .ok (.getfield 38, 3) := by decide +kernel
theorem d_M_isThere_8 : decode c_M_isThere 8 = .ok (.i2l, 1) := by decide +kernel
theorem d_M_isThere_9 : decode c_M_isThere 9 = .ok (.invokestatic 51, 3) := by decide +kernel
theorem d_M_isThere_12 : decode c_M_isThere 12 = .ok (.ifCond .eq 19, 3) := by decide +kernel
theorem d_M_isThere_15 : decode c_M_isThere 15 = .ok (.iload_n 2, 1) := by decide +kernel
theorem d_M_isThere_16 : decode c_M_isThere 16 = .ok (.i2l, 1) := by decide +kernel
theorem d_M_isThere_17 : decode c_M_isThere 17 = .ok (.lconst 0, 1) := by decide +kernel
theorem d_M_isThere_18 : decode c_M_isThere 18 = .ok (.ldc2_w 55, 3) := by decide +kernel
theorem d_M_isThere_21 : decode c_M_isThere 21 = .ok (.invokestatic 51, 3) := by decide +kernel
theorem d_M_isThere_24 : decode c_M_isThere 24 = .ok (.ifCond .eq 7, 3) := by decide +kernel
theorem d_M_isThere_27 : decode c_M_isThere 27 = .ok (.iconst 0, 1) := by decide +kernel
theorem d_M_isThere_28 : decode c_M_isThere 28 = .ok (.goto 4, 3) := by decide +kernel
theorem d_M_isThere_31 : decode c_M_isThere 31 = .ok (.iconst 1, 1) := by decide +kernel
theorem d_M_isThere_32 : decode c_M_isThere 32 = .ok (.putfield 42, 3) := by decide +kernel
theorem d_M_isThere_35 : decode c_M_isThere 35 = .ok (.aload_n 0, 1) := by decide +kernel
theorem d_M_isThere_36 : decode c_M_isThere 36 = .ok (.getfield 42, 3) := by decide +kernel
theorem d_M_isThere_39 : decode c_M_isThere 39 = .ok (.ifCond .ne 7, 3) := by decide +kernel
theorem d_M_isThere_42 : decode c_M_isThere 42 = .ok (.iconst 1, 1) := by decide +kernel
theorem d_M_isThere_43 : decode c_M_isThere 43 = .ok (.goto 4, 3) := by decide +kernel
theorem d_M_isThere_46 : decode c_M_isThere 46 = .ok (.iconst 0, 1) := by decide +kernel
theorem d_M_isThere_47 : decode c_M_isThere 47 = .ok (.ireturn, 1) := by decide +kernel
theorem d_M_put_0 : decode c_M_put 0 = .ok (.aload_n 0, 1) := by decide +kernel
theorem d_M_put_1 : decode c_M_put 1 = .ok (.iload_n 1, 1) := by decide +kernel
theorem d_M_put_2 : decode c_M_put 2 = .ok (.iload_n 2, 1) := by decide +kernel
theorem d_M_put_3 : decode c_M_put 3 = .ok (.invokevirtual 57, 3) := by decide +kernel
theorem d_M_put_6 : decode c_M_put 6 = .ok (.ifCond .ne 5, 3) := by decide +kernel
theorem d_M_put_9 : decode c_M_put 9 = .ok (.iconst 0, 1) := by decide +kernel
theorem d_M_put_10 : decode c_M_put 10 = .ok (.ireturn, 1) := by decide +kernel
theorem d_M_put_11 : decode c_M_put 11 = .ok (.aload_n 0, 1) := by decide +kernel
theorem d_M_put_12 : decode c_M_put 12 = .ok (.getfield 7, 3) := by decide +kernel
theorem d_M_put_15 : decode c_M_put 15 = .ok (.iconst 5, 1) := by decide +kernel
theorem d_M_put_16 : decode c_M_put 16 = .ok (.iload_n 1, 1) := by decide +kernel
theorem d_M_put_17 : decode c_M_put 17 = .ok (.imul, 1) := by decide +kernel
theorem d_M_put_18 : decode c_M_put 18 = .ok (.iload_n 2, 1) := by decide +kernel
theorem d_M_put_19 : decode c_M_put 19 = .ok (.iadd, 1) := by decide +kernel
theorem d_M_put_20 : decode c_M_put 20 = .ok (.laload, 1) := by decide +kernel
theorem d_M_put_21 : decode c_M_put 21 = .ok (.lload_n 3, 1) := by decide +kernel
theorem d_M_put_22 : decode c_M_put 22 = .ok (.invokestatic 47, 3) := by decide +kernel
theorem d_M_put_25 : decode c_M_put 25 = .ok (.lcmp, 1) := by decide +kernel
theorem d_M_put_26 : decode c_M_put 26 = .ok (.ifCond .eq 7, 3) := by decide +kernel
theorem d_M_put_29 : decode c_M_put 29 = .ok (.iconst 1, 1) := by decide +kernel
theorem d_M_put_30 : decode c_M_put 30 = .ok (.goto 4, 3) := by decide +kernel
theorem d_M_put_33 : decode c_M_put 33 = .ok (.iconst 0, 1) := by decide +kernel
theorem d_M_put_34 : decode c_M_put 34 = .ok (.istore 5, 2) := by decide +kernel
theorem d_M_put_36 : decode c_M_put 36 = .ok (.aload_n 0, 1) := by decide +kernel
theorem d_M_put_37 : decode c_M_put 37 = .ok (.getfield 7, 3) := by decide +kernel
theorem d_M_put_40 : decode c_M_put 40 = .ok (.iconst 5, 1) := by decide +kernel
theorem d_M_put_41 : decode c_M_put 41 = .ok (.iload_n 1, 1) := by decide +kernel
theorem d_M_put_42 : decode c_M_put 42 = .ok (.imul, 1) := by decide +kernel
theorem d_M_put_43 : decode c_M_put 43 = .ok (.iload_n 2, 1) := by decide +kernel
theorem d_M_put_44 : decode c_M_put 44 = .ok (.iadd, 1) := by decide +kernel
theorem d_M_put_45 : decode c_M_put 45 = .ok (.lload_n 3, 1) := by decide +kernel
theorem d_M_put_46 : decode c_M_put 46 = .ok (.invokestatic 47, 3) := by decide +kernel
theorem d_M_put_49 : decode c_M_put 49 = .ok (.lastore, 1) := by decide +kernel
theorem d_M_put_50 : decode c_M_put 50 = .ok (.iload 5, 2) := by decide +kernel
theorem d_M_put_52 : decode c_M_put 52 = .ok (.ireturn, 1) := by decide +kernel
theorem d_M_at_0 : decode c_M_at 0 = .ok (.aload_n 0, 1) := by decide +kernel
theorem d_M_at_1 : decode c_M_at 1 = .ok (.iload_n 1, 1) := by decide +kernel
theorem d_M_at_2 : decode c_M_at 2 = .ok (.iload_n 2, 1) := by decide +kernel
theorem d_M_at_3 : decode c_M_at 3 = .ok (.invokevirtual 57, 3) := by decide +kernel
theorem d_M_at_6 : decode c_M_at 6 = .ok (.ifCond .eq 17, 3) := by decide +kernel
theorem d_M_at_9 : decode c_M_at 9 = .ok (.aload_n 0, 1) := by decide +kernel
theorem d_M_at_10 : decode c_M_at 10 = .ok (.getfield 7, 3) := by decide +kernel
theorem d_M_at_13 : decode c_M_at 13 = .ok (.iconst 5, 1) := by decide +kernel
theorem d_M_at_14 : decode c_M_at 14 = .ok (.iload_n 1, 1) := by decide +kernel
theorem d_M_at_15 : decode c_M_at 15 = .ok (.imul, 1) := by decide +kernel
theorem d_M_at_16 : decode c_M_at 16 = .ok (.iload_n 2, 1) := by decide +kernel
theorem d_M_at_17 : decode c_M_at 17 = .ok (.iadd, 1) := by decide +kernel
theorem d_M_at_18 : decode c_M_at 18 = .ok (.laload, 1) := by decide +kernel
theorem d_M_at_19 : decode c_M_at 19 = .ok (.l2i, 1) := by decide +kernel
theorem d_M_at_20 : decode c_M_at 20 = .ok (.goto 4, 3) := by decide +kernel
theorem d_M_at_23 : decode c_M_at 23 = .ok (.iconst 0, 1) := by decide +kernel
theorem d_M_at_24 : decode c_M_at 24 = .ok (.ireturn, 1) := by decide +kernel
theorem d_M_clear_0 : decode c_M_clear 0 = .ok (.aload_n 0, 1) := by decide +kernel
theorem d_M_clear_1 : decode c_M_clear 1 = .ok (.iconst 0, 1) := by decide +kernel
theorem d_M_clear_2 : decode c_M_clear 2 = .ok (.putfield 42, 3) := by decide +kernel
theorem d_M_clear_5 : decode c_M_clear 5 = .ok (.iconst 0, 1) := by decide +kernel
theorem d_M_clear_6 : decode c_M_clear 6 = .ok (.istore_n 1, 1) := by decide +kernel
theorem d_M_clear_7 : decode c_M_clear 7 = .ok (.iload_n 1, 1) := by decide +kernel
theorem d_M_clear_8 : decode c_M_clear 8 = .ok (.bipush 20, 2) := by decide +kernel
theorem d_M_clear_10 : decode c_M_clear 10 = .ok (.if_icmp .ge 16, 3) := by decide +kernel
theorem d_M_clear_13 : decode c_M_clear 13 = .ok (.aload_n 0, 1) := by decide +kernel
theorem d_M_clear_14 : decode c_M_clear 14 = .ok (.getfield 7, 3) := by decide +kernel
theorem d_M_clear_17 : decode c_M_clear 17 = .ok (.iload_n 1, 1) := by decide +kernel
theorem d_M_clear_18 : decode c_M_clear 18 = .ok (.lconst 0, 1) := by decide +kernel
theorem d_M_clear_19 : decode c_M_clear 19 = .ok (.lastore, 1) := by decide +kernel
theorem d_M_clear_20 : decode c_M_clear 20 = .ok (.iinc 1 1, 3) := by decide +kernel
theorem d_M_clear_23 : decode c_M_clear 23 = .ok (.goto (-16), 3) := by decide +kernel
theorem d_M_clear_26 : decode c_M_clear 26 = .ok (.iconst 0, 1) := by decide +kernel
theorem d_M_clear_27 : decode c_M_clear 27 = .ok (.istore_n 1, 1) := by decide +kernel
theorem d_M_clear_28 : decode c_M_clear 28 = .ok (.iload_n 1, 1) := by decide +kernel
theorem d_M_clear_29 : decode c_M_clear 29 = .ok (.bipush 12, 2) := by decide +kernel
theorem d_M_clear_31 : decode c_M_clear 31 = .ok (.if_icmp .gt 16, 3) := by decide +kernel
theorem d_M_clear_34 : decode c_M_clear 34 = .ok (.aload_n 0, 1) := by decide +kernel
theorem d_M_clear_35 : decode c_M_clear 35 = .ok (.getfield 13, 3) := by decide +kernel
theorem d_M_clear_38 : decode c_M_clear 38 = .ok (.iload_n 1, 1) := by decide +kernel
theorem d_M_clear_39 : decode c_M_clear 39 = .ok (.lconst 0, 1) := by decide +kernel
theorem d_M_clear_40 : decode c_M_clear 40 = .ok (.lastore, 1) := by decide +kernel
theorem d_M_clear_41 : decode c_M_clear 41 = .ok (.iinc 1 1, 3) := by decide +kernel
theorem d_M_clear_44 : decode c_M_clear 44 = .ok (.goto (-16), 3) := by decide +kernel
theorem d_M_clear_47 : decode c_M_clear 47 = .ok (.return_, 1) := by decide +kernel
theorem d_M_moveTo_0 : decode c_M_moveTo 0 = .ok (.iconst 0, 1) := by decide +kernel
theorem d_M_moveTo_1 : decode c_M_moveTo 1 = .ok (.istore_n 3, 1) := by decide +kernel
theorem d_M_moveTo_2 : decode c_M_moveTo 2 = .ok (.iload_n 3, 1) := by decide +kernel
theorem d_M_moveTo_3 : decode c_M_moveTo 3 = .ok (.bipush 20, 2) := by decide +kernel
theorem d_M_moveTo_5 : decode c_M_moveTo 5 = .ok (.if_icmp .ge 21, 3) := by decide +kernel
theorem d_M_moveTo_8 : decode c_M_moveTo 8 = .ok (.aload_n 0, 1) := by decide +kernel
theorem d_M_moveTo_9 : decode c_M_moveTo 9 = .ok (.getfield 19, 3) := by decide +kernel
theorem d_M_moveTo_12 : decode c_M_moveTo 12 = .ok (.iload_n 3, 1) := by decide +kernel
theorem d_M_moveTo_13 : decode c_M_moveTo 13 = .ok (.aload_n 0, 1) := by decide +kernel
theorem d_M_moveTo_14 : decode c_M_moveTo 14 = .ok (.getfield 7, 3) := by decide +kernel
theorem d_M_moveTo_17 : decode c_M_moveTo 17 = .ok (.iload_n 3, 1) := by decide +kernel
theorem d_M_moveTo_18 : decode c_M_moveTo 18 = .ok (.laload, 1) := by decide +kernel
theorem d_M_moveTo_19 : decode c_M_moveTo 19 = .ok (.lastore, 1) := by decide +kernel
theorem d_M_moveTo_20 : decode c_M_moveTo 20 = .ok (.iinc 3 1, 3) := by decide +kernel
theorem d_M_moveTo_23 : decode c_M_moveTo 23 = .ok (.goto (-21), 3) := by decide +kernel
theorem d_M_moveTo_26 : decode c_M_moveTo 26 = .ok (.iconst 0, 1) := by decide +kernel
theorem d_M_moveTo_27 : decode c_M_moveTo 27 = .ok (.istore_n 3, 1) := by decide +kernel
theorem d_M_moveTo_28 : decode c_M_moveTo 28 = .ok (.iload_n 3, 1) := by decide +kernel
theorem d_M_moveTo_29 : decode c_M_moveTo 29 = .ok (.bipush 20, 2) := by decide +kernel
theorem d_M_moveTo_31 : decode c_M_moveTo 31 = .ok (.if_icmp .ge 76, 3) := by decide +kernel
theorem d_M_moveTo_34 : decode c_M_moveTo 34 = .ok (.iconst 0, 1) := by decide +kernel
theorem d_M_moveTo_35 : decode c_M_moveTo 35 = .ok (.istore 4, 2) := by decide +kernel
theorem d_M_moveTo_37 : decode c_M_moveTo 37 = .ok (.iload 4, 2) := by decide +kernel
theorem d_M_moveTo_39 : decode c_M_moveTo 39 = .ok (.iconst 4, 1) := by decide +kernel
theorem d_M_moveTo_40 : decode c_M_moveTo 40 = .ok (.if_icmp .ge 61, 3) := by decide +kernel
theorem d_M_moveTo_43 : decode c_M_moveTo 43 = .ok (.iconst 3, 1) := by decide +kernel
theorem d_M_moveTo_44 : decode c_M_moveTo 44 = .ok (.istore 5, 2) := by decide +kernel
theorem d_M_moveTo_46 : decode c_M_moveTo 46 = .ok (.iload 5, 2) := by decide +kernel
theorem d_M_moveTo_48 : decode c_M_moveTo 48 = .ok (.iload 4, 2) := by decide +kernel
theorem d_M_moveTo_50 : decode c_M_moveTo 50 = .ok (.if_icmp .lt 45, 3) := by decide +kernel
theorem d_M_moveTo_53 : decode c_M_moveTo 53 = .ok (.aload_n 0, 1) := by decide +kernel
theorem d_M_moveTo_54 : decode c_M_moveTo 54 = .ok (.getfield 19, 3) := by decide +kernel
theorem d_M_moveTo_57 : decode c_M_moveTo 57 = .ok (.iload_n 3, 1) := by decide +kernel
theorem d_M_moveTo_58 : decode c_M_moveTo 58 = .ok (.iload 5, 2) := by decide +kernel
theorem d_M_moveTo_60 : decode c_M_moveTo 60 = .ok (.iadd, 1) := by decide +kernel
theorem d_M_moveTo_61 : decode c_M_moveTo 61 = .ok (.aload_n 0, 1) := by decide +kernel
theorem d_M_moveTo_62 : decode c_M_moveTo 62 = .ok (.getfield 19, 3) := by decide +kernel
theorem d_M_moveTo_65 : decode c_M_moveTo 65 = .ok (.iload_n 3, 1) := by decide +kernel
theorem d_M_moveTo_66 : decode c_M_moveTo 66 = .ok (.iload 5, 2) := by decide +kernel
theorem d_M_moveTo_68 : decode c_M_moveTo 68 = .ok (.iadd, 1) := by decide +kernel
theorem d_M_moveTo_69 : decode c_M_moveTo 69 = .ok (.laload, 1) := by decide +kernel
theorem d_M_moveTo_70 : decode c_M_moveTo 70 = .ok (.lload_n 1, 1) := by decide +kernel
theorem d_M_moveTo_71 : decode c_M_moveTo 71 = .ok (.aload_n 0, 1) := by decide +kernel
theorem d_M_moveTo_72 : decode c_M_moveTo 72 = .ok (.getfield 19, 3) := by decide +kernel
theorem d_M_moveTo_75 : decode c_M_moveTo 75 = .ok (.iload_n 3, 1) := by decide +kernel
theorem d_M_moveTo_76 : decode c_M_moveTo 76 = .ok (.iload 5, 2) := by decide +kernel
theorem d_M_moveTo_78 : decode c_M_moveTo 78 = .ok (.iadd, 1) := by decide +kernel
theorem d_M_moveTo_79 : decode c_M_moveTo 79 = .ok (.iconst 1, 1) := by decide +kernel
theorem d_M_moveTo_80 : decode c_M_moveTo 80 = .ok (.iadd, 1) := by decide +kernel
theorem d_M_moveTo_81 : decode c_M_moveTo 81 = .ok (.laload, 1) := by decide +kernel
theorem d_M_moveTo_82 : decode c_M_moveTo 82 = .ok (.lmul, 1) := by decide +kernel
theorem d_M_moveTo_83 : decode c_M_moveTo 83 = .ok (.ladd, 1) := by decide +kernel
theorem d_M_moveTo_84 : decode c_M_moveTo 84 = .ok (.ldc2_w 45, 3) := by decide +kernel
theorem d_M_moveTo_87 : decode c_M_moveTo 87 = .ok (.lrem, 1) := by decide +kernel
theorem d_M_moveTo_88 : decode c_M_moveTo 88 = .ok (.lastore, 1) := by decide +kernel
theorem d_M_moveTo_89 : decode c_M_moveTo 89 = .ok (.iinc 5 (-1), 3) := by decide +kernel
theorem d_M_moveTo_92 : decode c_M_moveTo 92 = .ok (.goto (-46), 3) := by decide +kernel
theorem d_M_moveTo_95 : decode c_M_moveTo 95 = .ok (.iinc 4 1, 3) := by decide +kernel
theorem d_M_moveTo_98 : decode c_M_moveTo 98 = .ok (.goto (-61), 3) := by decide +kernel
theorem d_M_moveTo_101 : decode c_M_moveTo 101 = .ok (.iinc 3 5, 3) := by decide +kernel
theorem d_M_moveTo_104 : decode c_M_moveTo 104 = .ok (.goto (-76), 3) := by decide +kernel
theorem d_M_moveTo_107 : decode c_M_moveTo 107 = .ok (.return_, 1) := by decide +kernel
theorem d_M_move_0 : decode c_M_move 0 = .ok (.aload_n 0, 1) := by decide +kernel
theorem d_M_move_1 : decode c_M_move 1 = .ok (.iconst 0, 1) := by decide +kernel
theorem d_M_move_2 : decode c_M_move 2 = .ok (.putfield 42, 3) := by decide +kernel
theorem d_M_move_5 : decode c_M_move 5 = .ok (.aload_n 0, 1) := by decide +kernel
theorem d_M_move_6 : decode c_M_move 6 = .ok (.lload_n 1, 1) := by decide +kernel
theorem d_M_move_7 : decode c_M_move 7 = .ok (.invokestatic 47, 3) := by decide +kernel
theorem d_M_move_10 : decode c_M_move 10 = .ok (.invokevirtual 61, 3) := by decide +kernel
theorem d_M_move_13 : decode c_M_move 13 = .ok (.iconst 0, 1) := by decide +kernel
theorem d_M_move_14 : decode c_M_move 14 = .ok (.istore_n 3, 1) := by decide +kernel
theorem d_M_move_15 : decode c_M_move 15 = .ok (.iload_n 3, 1) := by decide +kernel
theorem d_M_move_16 : decode c_M_move 16 = .ok (.bipush 20, 2) := by decide +kernel
theorem d_M_move_18 : decode c_M_move 18 = .ok (.if_icmp .ge 21, 3) := by decide +kernel
theorem d_M_move_21 : decode c_M_move 21 = .ok (.aload_n 0, 1) := by decide +kernel
theorem d_M_move_22 : decode c_M_move 22 = .ok (.getfield 7, 3) := by decide +kernel
theorem d_M_move_25 : decode c_M_move 25 = .ok (.iload_n 3, 1) := by decide +kernel
theorem d_M_move_26 : decode c_M_move 26 = .ok (.aload_n 0, 1) := by decide +kernel
theorem d_M_move_27 : decode c_M_move 27 = .ok (.getfield 19, 3) := by decide +kernel
theorem d_M_move_30 : decode c_M_move 30 = .ok (.iload_n 3, 1) := by decide +kernel
theorem d_M_move_31 : decode c_M_move 31 = .ok (.laload, 1) := by decide +kernel
theorem d_M_move_32 : decode c_M_move 32 = .ok (.lastore, 1) := by decide +kernel
theorem d_M_move_33 : decode c_M_move 33 = .ok (.iinc 3 1, 3) := by decide +kernel
theorem d_M_move_36 : decode c_M_move 36 = .ok (.goto (-21), 3) := by decide +kernel
theorem d_M_move_39 : decode c_M_move 39 = .ok (.return_, 1) := by decide +kernel
theorem d_M_turn_0 : decode c_M_turn 0 = .ok (.aload_n 0, 1) := by decide +kernel
theorem d_M_turn_1 : decode c_M_turn 1 = .ok (.iconst 0, 1) := by decide +kernel
theorem d_M_turn_2 : decode c_M_turn 2 = .ok (.putfield 42, 3) := by decide +kernel
theorem d_M_turn_5 : decode c_M_turn 5 = .ok (.iconst 0, 1) := by decide +kernel
theorem d_M_turn_6 : decode c_M_turn 6 = .ok (.istore_n 1, 1) := by decide +kernel
theorem d_M_turn_7 : decode c_M_turn 7 = .ok (.iload_n 1, 1) := by decide +kernel
theorem d_M_turn_8 : decode c_M_turn 8 = .ok (.bipush 20, 2) := by decide +kernel
theorem d_M_turn_10 : decode c_M_turn 10 = .ok (.if_icmp .ge 16, 3) := by decide +kernel
theorem d_M_turn_13 : decode c_M_turn 13 = .ok (.aload_n 0, 1) := by decide +kernel
theorem d_M_turn_14 : decode c_M_turn 14 = .ok (.getfield 35, 3) := by decide +kernel
theorem d_M_turn_17 : decode c_M_turn 17 = .ok (.iload_n 1, 1) := by decide +kernel
theorem d_M_turn_18 : decode c_M_turn 18 = .ok (.lconst 0, 1) := by decide +kernel
theorem d_M_turn_19 : decode c_M_turn 19 = .ok (.lastore, 1) := by decide +kernel
theorem d_M_turn_20 : decode c_M_turn 20 = .ok (.iinc 1 1, 3) := by decide +kernel
theorem d_M_turn_23 : decode c_M_turn 23 = .ok (.goto (-16), 3) := by decide +kernel
theorem d_M_turn_26 : decode c_M_turn 26 = .ok (.iconst 0, 1) := by decide +kernel
theorem d_M_turn_27 : decode c_M_turn 27 = .ok (.istore_n 1, 1) := by decide +kernel
theorem d_M_turn_28 : decode c_M_turn 28 = .ok (.iload_n 1, 1) := by decide +kernel
theorem d_M_turn_29 : decode c_M_turn 29 = .ok (.aload_n 0, 1) := by decide +kernel
theorem d_M_turn_30 : decode c_M_turn 30 = .ok (.getfield 38, 3) := by decide +kernel
theorem d_M_turn_33 : decode c_M_turn 33 = .ok (.if_icmp .gt 136, 3) := by decide +kernel
theorem d_M_turn_36 : decode c_M_turn 36 = .ok (.iload_n 1, 1) := by decide +kernel
theorem d_M_turn_37 : decode c_M_turn 37 = .ok (.iconst 2, 1) := by decide +kernel
theorem d_M_turn_38 : decode c_M_turn 38 = .ok (.irem, 1) := by decide +kernel
theorem d_M_turn_39 : decode c_M_turn 39 = .ok (.ifCond .ne 7, 3) := by decide +kernel
theorem d_M_turn_42 : decode c_M_turn 42 = .ok (.lconst 1, 1) := by decide +kernel
theorem d_M_turn_43 : decode c_M_turn 43 = .ok (.goto 6, 3) := by decide +kernel
theorem d_M_turn_46 : decode c_M_turn 46 = .ok (.ldc2_w 65, 3) := by decide +kernel
theorem d_M_turn_49 : decode c_M_turn 49 = .ok (.lstore_n 2, 1) := by decide +kernel
theorem d_M_turn_50 : decode c_M_turn 50 = .ok (.iconst 0, 1) := by decide +kernel
theorem d_M_turn_51 : decode c_M_turn 51 = .ok (.istore 4, 2) := by decide +kernel
theorem d_M_turn_53 : decode c_M_turn 53 = .ok (.iload 4, 2) := by decide +kernel
theorem d_M_turn_55 : decode c_M_turn 55 = .ok (.iload_n 1, 1) := by decide +kernel
theorem d_M_turn_56 : decode c_M_turn 56 = .ok (.if_icmp .gt 107, 3) := by decide +kernel
theorem d_M_turn_59 : decode c_M_turn 59 = .ok (.iload_n 1, 1) := by decide +kernel
theorem d_M_turn_60 : decode c_M_turn 60 = .ok (.iload 4, 2) := by decide +kernel
theorem d_M_turn_62 : decode c_M_turn 62 = .ok (.isub, 1) := by decide +kernel
theorem d_M_turn_63 : decode c_M_turn 63 = .ok (.istore 5, 2) := by decide +kernel
theorem d_M_turn_65 : decode c_M_turn 65 = .ok (.iload 5, 2) := by decide +kernel
theorem d_M_turn_67 : decode c_M_turn 67 = .ok (.iconst 5, 1) := by decide +kernel
theorem d_M_turn_68 : decode c_M_turn 68 = .ok (.if_icmp .ge 75, 3) := by decide +kernel
theorem d_M_turn_71 : decode c_M_turn 71 = .ok (.aload_n 0, 1) := by decide +kernel
theorem d_M_turn_72 : decode c_M_turn 72 = .ok (.getfield 35, 3) := by decide +kernel
theorem d_M_turn_75 : decode c_M_turn 75 = .ok (.iconst 5, 1) := by decide +kernel
theorem d_M_turn_76 : decode c_M_turn 76 = .ok (.iload 4, 2) := by decide +kernel
theorem d_M_turn_78 : decode c_M_turn 78 = .ok (.imul, 1) := by decide +kernel
theorem d_M_turn_79 : decode c_M_turn 79 = .ok (.iload 5, 2) := by decide +kernel
theorem d_M_turn_81 : decode c_M_turn 81 = .ok (.iadd, 1) := by decide +kernel
theorem d_M_turn_82 : decode c_M_turn 82 = .ok (.iload_n 1, 1) := by decide +kernel
theorem d_M_turn_83 : decode c_M_turn 83 = .ok (.isub, 1) := by decide +kernel
theorem d_M_turn_84 : decode c_M_turn 84 = .ok (.iload 4, 2) := by decide +kernel
theorem d_M_turn_86 : decode c_M_turn 86 = .ok (.iadd, 1) := by decide +kernel
theorem d_M_turn_87 : decode c_M_turn 87 = .ok (.aload_n 0, 1) := by decide +kernel
theorem d_M_turn_88 : decode c_M_turn 88 = .ok (.getfield 35, 3) := by decide +kernel
theorem d_M_turn_91 : decode c_M_turn 91 = .ok (.iconst 5, 1) := by decide +kernel
theorem d_M_turn_92 : decode c_M_turn 92 = .ok (.iload 4, 2) := by decide +kernel
theorem d_M_turn_94 : decode c_M_turn 94 = .ok (.imul, 1) := by decide +kernel
theorem d_M_turn_95 : decode c_M_turn 95 = .ok (.iload 5, 2) := by decide +kernel
theorem d_M_turn_97 : decode c_M_turn 97 = .ok (.iadd, 1) := by decide +kernel
theorem d_M_turn_98 : decode c_M_turn 98 = .ok (.iload_n 1, 1) := by decide +kernel
theorem d_M_turn_99 : decode c_M_turn 99 = .ok (.isub, 1) := by decide +kernel
theorem d_M_turn_100 : decode c_M_turn 100 = .ok (.iload 4, 2) := by decide +kernel
theorem d_M_turn_102 : decode c_M_turn 102 = .ok (.iadd, 1) := by decide +kernel
theorem d_M_turn_103 : decode c_M_turn 103 = .ok (.laload, 1) := by decide +kernel
theorem d_M_turn_104 : decode c_M_turn 104 = .ok (.lload_n 2, 1) := by decide +kernel
theorem d_M_turn_105 : decode c_M_turn 105 = .ok (.aload_n 0, 1) := by decide +kernel
theorem d_M_turn_106 : decode c_M_turn 106 = .ok (.getfield 7, 3) := by decide +kernel
theorem d_M_turn_109 : decode c_M_turn 109 = .ok (.iconst 5, 1) := by decide +kernel
theorem d_M_turn_110 : decode c_M_turn 110 = .ok (.iload_n 1, 1) := by decide +kernel
theorem d_M_turn_111 : decode c_M_turn 111 = .ok (.imul, 1) := by decide +kernel
theorem d_M_turn_112 : decode c_M_turn 112 = .ok (.iload 5, 2) := by decide +kernel
theorem d_M_turn_114 : decode c_M_turn 114 = .ok (.iadd, 1) := by decide +kernel
theorem d_M_turn_115 : decode c_M_turn 115 = .ok (.laload, 1) := by decide +kernel
theorem d_M_turn_116 : decode c_M_turn 116 = .ok (.iload 5, 2) := by decide +kernel
theorem d_M_turn_118 : decode c_M_turn 118 = .ok (.i2l, 1) := by decide +kernel
theorem d_M_turn_119 : decode c_M_turn 119 = .ok (.iload_n 1, 1) := by decide +kernel
theorem d_M_turn_120 : decode c_M_turn 120 = .ok (.iload 4, 2) := by decide +kernel
theorem d_M_turn_122 : decode c_M_turn 122 = .ok (.isub, 1) := by decide +kernel
theorem d_M_turn_123 : decode c_M_turn 123 = .ok (.invokestatic 67, 3) := by decide +kernel
theorem d_M_turn_126 : decode c_M_turn 126 = .ok (.lmul, 1) := by decide +kernel
theorem d_M_turn_127 : decode c_M_turn 127 = .ok (.ldc2_w 45, 3) := by decide +kernel
theorem d_M_turn_130 : decode c_M_turn 130 = .ok (.lrem, 1) := by decide +kernel
theorem d_M_turn_131 : decode c_M_turn 131 = .ok (.lmul, 1) := by decide +kernel
theorem d_M_turn_132 : decode c_M_turn 132 = .ok (.ladd, 1) := by decide +kernel
theorem d_M_turn_133 : decode c_M_turn 133 = .ok (.invokestatic 47, 3) := by decide +kernel
theorem d_M_turn_136 : decode c_M_turn 136 = .ok (.lastore, 1) := by decide +kernel
theorem d_M_turn_137 : decode c_M_turn 137 = .ok (.iinc 5 1, 3) := by decide +kernel
theorem d_M_turn_140 : decode c_M_turn 140 = .ok (.goto (-75), 3) := by decide +kernel
theorem d_M_turn_143 : decode c_M_turn 143 = .ok (.lload_n 2, 1) := by decide +kernel
theorem d_M_turn_144 : decode c_M_turn 144 = .ok (.iload_n 1, 1) := by decide +kernel
theorem d_M_turn_145 : decode c_M_turn 145 = .ok (.iload 4, 2) := by decide +kernel
theorem d_M_turn_147 : decode c_M_turn 147 = .ok (.isub, 1) := by decide +kernel
theorem d_M_turn_148 : decode c_M_turn 148 = .ok (.i2l, 1) := by decide +kernel
theorem d_M_turn_149 : decode c_M_turn 149 = .ok (.lmul, 1) := by decide +kernel
theorem d_M_turn_150 : decode c_M_turn 150 = .ok (.iload 4, 2) := by decide +kernel
theorem d_M_turn_152 : decode c_M_turn 152 = .ok (.iconst 1, 1) := by decide +kernel
theorem d_M_turn_153 : decode c_M_turn 153 = .ok (.iadd, 1) := by decide +kernel
theorem d_M_turn_154 : decode c_M_turn 154 = .ok (.i2l, 1) := by decide +kernel
theorem d_M_turn_155 : decode c_M_turn 155 = .ok (.ldiv, 1) := by decide +kernel
theorem d_M_turn_156 : decode c_M_turn 156 = .ok (.lstore_n 2, 1) := by decide +kernel
theorem d_M_turn_157 : decode c_M_turn 157 = .ok (.iinc 4 1, 3) := by decide +kernel
theorem d_M_turn_160 : decode c_M_turn 160 = .ok (.goto (-107), 3) := by decide +kernel
theorem d_M_turn_163 : decode c_M_turn 163 = .ok (.iinc 1 1, 3) := by decide +kernel
theorem d_M_turn_166 : decode c_M_turn 166 = .ok (.goto (-138), 3) := by decide +kernel
theorem d_M_turn_169 : decode c_M_turn 169 = .ok (.iconst 0, 1) := by decide +kernel
theorem d_M_turn_170 : decode c_M_turn 170 = .ok (.istore_n 1, 1) := by decide +kernel
theorem d_M_turn_171 : decode c_M_turn 171 = .ok (.iload_n 1, 1) := by decide +kernel
theorem d_M_turn_172 : decode c_M_turn 172 = .ok (.bipush 20, 2) := by decide +kernel
theorem d_M_turn_174 : decode c_M_turn 174 = .ok (.if_icmp .ge 21, 3) := by decide +kernel
theorem d_M_turn_177 : decode c_M_turn 177 = .ok (.aload_n 0, 1) := by decide +kernel
theorem d_M_turn_178 : decode c_M_turn 178 = .ok (.getfield 7, 3) := by decide +kernel
theorem d_M_turn_181 : decode c_M_turn 181 = .ok (.iload_n 1, 1) := by decide +kernel
theorem d_M_turn_182 : decode c_M_turn 182 = .ok (.aload_n 0, 1) := by decide +kernel
theorem d_M_turn_183 : decode c_M_turn 183 = .ok (.getfield 35, 3) := by decide +kernel
theorem d_M_turn_186 : decode c_M_turn 186 = .ok (.iload_n 1, 1) := by decide +kernel
theorem d_M_turn_187 : decode c_M_turn 187 = .ok (.laload, 1) := by decide +kernel
theorem d_M_turn_188 : decode c_M_turn 188 = .ok (.lastore, 1) := by decide +kernel
theorem d_M_turn_189 : decode c_M_turn 189 = .ok (.iinc 1 1, 3) := by decide +kernel
theorem d_M_turn_192 : decode c_M_turn 192 = .ok (.goto (-21), 3) := by decide +kernel
theorem d_M_turn_195 : decode c_M_turn 195 = .ok (.return_, 1) := by decide +kernel
theorem d_M_hand_0 : decode c_M_hand 0 = .ok (.aload_n 0, 1) := by decide +kernel
theorem d_M_hand_1 : decode c_M_hand 1 = .ok (.iload_n 1, 1) := by decide +kernel
theorem d_M_hand_2 : decode c_M_hand 2 = .ok (.i2l, 1) := by decide +kernel
theorem d_M_hand_3 : decode c_M_hand 3 = .ok (.lconst 0, 1) := by decide +kernel
theorem d_M_hand_4 : decode c_M_hand 4 = .ok (.ldc2_w 71, 3) := by decide +kernel
theorem d_M_hand_7 : decode c_M_hand 7 = .ok (.invokestatic 51, 3) := by decide +kernel
theorem d_M_hand_10 : decode c_M_hand 10 = .ok (.ifCond .eq 7, 3) := by decide +kernel
theorem d_M_hand_13 : decode c_M_hand 13 = .ok (.iconst 0, 1) := by decide +kernel
theorem d_M_hand_14 : decode c_M_hand 14 = .ok (.goto 4, 3) := by decide +kernel
theorem d_M_hand_17 : decode c_M_hand 17 = .ok (.iconst 1, 1) := by decide +kernel
theorem d_M_hand_18 : decode c_M_hand 18 = .ok (.putfield 42, 3) := by decide +kernel
theorem d_M_hand_21 : decode c_M_hand 21 = .ok (.aload_n 0, 1) := by decide +kernel
theorem d_M_hand_22 : decode c_M_hand 22 = .ok (.getfield 42, 3) := by decide +kernel
theorem d_M_hand_25 : decode c_M_hand 25 = .ok (.ifCond .ne 13, 3) := by decide +kernel
theorem d_M_hand_28 : decode c_M_hand 28 = .ok (.aload_n 0, 1) := by decide +kernel
theorem d_M_hand_29 : decode c_M_hand 29 = .ok (.getfield 13, 3) := by decide +kernel
theorem d_M_hand_32 : decode c_M_hand 32 = .ok (.iload_n 1, 1) := by decide +kernel
theorem d_M_hand_33 : decode c_M_hand 33 = .ok (.lload_n 2, 1) := by decide +kernel
theorem d_M_hand_34 : decode c_M_hand 34 = .ok (.invokestatic 47, 3) := by decide +kernel
theorem d_M_hand_37 : decode c_M_hand 37 = .ok (.lastore, 1) := by decide +kernel
theorem d_M_hand_38 : decode c_M_hand 38 = .ok (.return_, 1) := by decide +kernel
theorem d_M_make_0 : decode c_M_make 0 = .ok (.iconst 0, 1) := by decide +kernel
theorem d_M_make_1 : decode c_M_make 1 = .ok (.istore 4, 2) := by decide +kernel
theorem d_M_make_3 : decode c_M_make 3 = .ok (.iload 4, 2) := by decide +kernel
theorem d_M_make_5 : decode c_M_make 5 = .ok (.aload_n 0, 1) := by decide +kernel
theorem d_M_make_6 : decode c_M_make 6 = .ok (.getfield 38, 3) := by decide +kernel
theorem d_M_make_9 : decode c_M_make 9 = .ok (.if_icmp .gt 89, 3) := by decide +kernel
theorem d_M_make_12 : decode c_M_make 12 = .ok (.iload 4, 2) := by decide +kernel
theorem d_M_make_14 : decode c_M_make 14 = .ok (.iload_n 1, 1) := by decide +kernel
theorem d_M_make_15 : decode c_M_make 15 = .ok (.if_icmp .gt 83, 3) := by decide +kernel
theorem d_M_make_18 : decode c_M_make 18 = .ok (.lload_n 2, 1) := by decide +kernel
theorem d_M_make_19 : decode c_M_make 19 = .ok (.iload_n 1, 1) := by decide +kernel
theorem d_M_make_20 : decode c_M_make 20 = .ok (.i2l, 1) := by decide +kernel
theorem d_M_make_21 : decode c_M_make 21 = .ok (.iload 4, 2) := by decide +kernel
theorem d_M_make_23 : decode c_M_make 23 = .ok (.invokestatic 67, 3) := by decide +kernel
theorem d_M_make_26 : decode c_M_make 26 = .ok (.lmul, 1) := by decide +kernel
theorem d_M_make_27 : decode c_M_make 27 = .ok (.ldc2_w 45, 3) := by decide +kernel
theorem d_M_make_30 : decode c_M_make 30 = .ok (.lrem, 1) := by decide +kernel
theorem d_M_make_31 : decode c_M_make 31 = .ok (.lstore 5, 2) := by decide +kernel
theorem d_M_make_33 : decode c_M_make 33 = .ok (.iconst 0, 1) := by decide +kernel
theorem d_M_make_34 : decode c_M_make 34 = .ok (.istore 7, 2) := by decide +kernel
theorem d_M_make_36 : decode c_M_make 36 = .ok (.iload 7, 2) := by decide +kernel
theorem d_M_make_38 : decode c_M_make 38 = .ok (.iconst 5, 1) := by decide +kernel
theorem d_M_make_39 : decode c_M_make 39 = .ok (.if_icmp .ge 53, 3) := by decide +kernel
theorem d_M_make_42 : decode c_M_make 42 = .ok (.aload_n 0, 1) := by decide +kernel
theorem d_M_make_43 : decode c_M_make 43 = .ok (.getfield 16, 3) := by decide +kernel
theorem d_M_make_46 : decode c_M_make 46 = .ok (.iload_n 1, 1) := by decide +kernel
theorem d_M_make_47 : decode c_M_make 47 = .ok (.iload 4, 2) := by decide +kernel
theorem d_M_make_49 : decode c_M_make 49 = .ok (.isub, 1) := by decide +kernel
theorem d_M_make_50 : decode c_M_make 50 = .ok (.iload 7, 2) := by decide +kernel
theorem d_M_make_52 : decode c_M_make 52 = .ok (.iadd, 1) := by decide +kernel
theorem d_M_make_53 : decode c_M_make 53 = .ok (.aload_n 0, 1) := by decide +kernel
theorem d_M_make_54 : decode c_M_make 54 = .ok (.getfield 16, 3) := by decide +kernel
theorem d_M_make_57 : decode c_M_make 57 = .ok (.iload_n 1, 1) := by decide +kernel
theorem d_M_make_58 : decode c_M_make 58 = .ok (.iload 4, 2) := by decide +kernel
theorem d_M_make_60 : decode c_M_make 60 = .ok (.isub, 1) := by decide +kernel
theorem d_M_make_61 : decode c_M_make 61 = .ok (.iload 7, 2) := by decide +kernel
theorem d_M_make_63 : decode c_M_make 63 = .ok (.iadd, 1) := by decide +kernel
theorem d_M_make_64 : decode c_M_make 64 = .ok (.laload, 1) := by decide +kernel
theorem d_M_make_65 : decode c_M_make 65 = .ok (.lload 5, 2) := by decide +kernel
theorem d_M_make_67 : decode c_M_make 67 = .ok (.aload_n 0, 1) := by decide +kernel
theorem d_M_make_68 : decode c_M_make 68 = .ok (.getfield 7, 3) := by decide +kernel
theorem d_M_make_71 : decode c_M_make 71 = .ok (.iconst 5, 1) := by decide +kernel
theorem d_M_make_72 : decode c_M_make 72 = .ok (.iload 4, 2) := by decide +kernel
theorem d_M_make_74 : decode c_M_make 74 = .ok (.imul, 1) := by decide +kernel
theorem d_M_make_75 : decode c_M_make 75 = .ok (.iload 7, 2) := by decide +kernel
theorem d_M_make_77 : decode c_M_make 77 = .ok (.iadd, 1) := by decide +kernel
theorem d_M_make_78 : decode c_M_make 78 = .ok (.laload, 1) := by decide +kernel
theorem d_M_make_79 : decode c_M_make 79 = .ok (.lmul, 1) := by decide +kernel
theorem d_M_make_80 : decode c_M_make 80 = .ok (.ladd, 1) := by decide +kernel
theorem d_M_make_81 : decode c_M_make 81 = .ok (.ldc2_w 45, 3) := by decide +kernel
theorem d_M_make_84 : decode c_M_make 84 = .ok (.lrem, 1) := by decide +kernel
theorem d_M_make_85 : decode c_M_make 85 = .ok (.lastore, 1) := by decide +kernel
theorem d_M_make_86 : decode c_M_make 86 = .ok (.iinc 7 1, 3) := by decide +kernel
theorem d_M_make_89 : decode c_M_make 89 = .ok (.goto (-53), 3) := by decide +kernel
theorem d_M_make_92 : decode c_M_make 92 = .ok (.iinc 4 1, 3) := by decide +kernel
theorem d_M_make_95 : decode c_M_make 95 = .ok (.goto (-92), 3) := by decide +kernel
theorem d_M_make_98 : decode c_M_make 98 = .ok (.return_, 1) := by decide +kernel
theorem d_M_makeAll_0 : decode c_M_makeAll 0 = .ok (.iconst 0, 1) := by decide +kernel
theorem d_M_makeAll_1 : decode c_M_makeAll 1 = .ok (.istore_n 1, 1) := by decide +kernel
theorem d_M_makeAll_2 : decode c_M_makeAll 2 = .ok (.iload_n 1, 1) := by decide +kernel
theorem d_M_makeAll_3 : decode c_M_makeAll 3 = .ok (.bipush 17, 2) := by decide +kernel
theorem d_M_makeAll_5 : decode c_M_makeAll 5 = .ok (.if_icmp .ge 16, 3) := by decide +kernel
theorem d_M_makeAll_8 : decode c_M_makeAll 8 = .ok (.aload_n 0, 1) := by decide +kernel
theorem d_M_makeAll_9 : decode c_M_makeAll 9 = .ok (.getfield 16, 3) := by decide +kernel
theorem d_M_makeAll_12 : decode c_M_makeAll 12 = .ok (.iload_n 1, 1) := by decide +kernel
theorem d_M_makeAll_13 : decode c_M_makeAll 13 = .ok (.lconst 0, 1) := by decide +kernel
theorem d_M_makeAll_14 : decode c_M_makeAll 14 = .ok (.lastore, 1) := by decide +kernel
theorem d_M_makeAll_15 : decode c_M_makeAll 15 = .ok (.iinc 1 1, 3) := by decide +kernel
theorem d_M_makeAll_18 : decode c_M_makeAll 18 = .ok (.goto (-16), 3) := by decide +kernel
theorem d_M_makeAll_21 : decode c_M_makeAll 21 = .ok (.iconst 0, 1) := by decide +kernel
theorem d_M_makeAll_22 : decode c_M_makeAll 22 = .ok (.istore_n 1, 1) := by decide +kernel
theorem d_M_makeAll_23 : decode c_M_makeAll 23 = .ok (.iload_n 1, 1) := by decide +kernel
theorem d_M_makeAll_24 : decode c_M_makeAll 24 = .ok (.bipush 12, 2) := by decide +kernel
theorem d_M_makeAll_26 : decode c_M_makeAll 26 = .ok (.if_icmp .gt 20, 3) := by decide +kernel
theorem d_M_makeAll_29 : decode c_M_makeAll 29 = .ok (.aload_n 0, 1) := by decide +kernel
theorem d_M_makeAll_30 : decode c_M_makeAll 30 = .ok (.iload_n 1, 1) := by decide +kernel
theorem d_M_makeAll_31 : decode c_M_makeAll 31 = .ok (.aload_n 0, 1) := by decide +kernel
theorem d_M_makeAll_32 : decode c_M_makeAll 32 = .ok (.getfield 13, 3) := by decide +kernel
theorem d_M_makeAll_35 : decode c_M_makeAll 35 = .ok (.iload_n 1, 1) := by decide +kernel
theorem d_M_makeAll_36 : decode c_M_makeAll 36 = .ok (.laload, 1) := by decide +kernel
theorem d_M_makeAll_37 : decode c_M_makeAll 37 = .ok (.invokevirtual 73, 3) := by decide +kernel
theorem d_M_makeAll_40 : decode c_M_makeAll 40 = .ok (.iinc 1 1, 3) := by decide +kernel
theorem d_M_makeAll_43 : decode c_M_makeAll 43 = .ok (.goto (-20), 3) := by decide +kernel
theorem d_M_makeAll_46 : decode c_M_makeAll 46 = .ok (.return_, 1) := by decide +kernel
theorem d_M_made_0 : decode c_M_made 0 = .ok (.aload_n 0, 1) := by decide +kernel
theorem d_M_made_1 : decode c_M_made 1 = .ok (.iconst 0, 1) := by decide +kernel
theorem d_M_made_2 : decode c_M_made 2 = .ok (.putfield 42, 3) := by decide +kernel
theorem d_M_made_5 : decode c_M_made 5 = .ok (.aload_n 0, 1) := by decide +kernel
theorem d_M_made_6 : decode c_M_made 6 = .ok (.invokevirtual 77, 3) := by decide +kernel
theorem d_M_made_9 : decode c_M_made 9 = .ok (.iload_n 1, 1) := by decide +kernel
theorem d_M_made_10 : decode c_M_made 10 = .ok (.i2l, 1) := by decide +kernel
theorem d_M_made_11 : decode c_M_made 11 = .ok (.lconst 0, 1) := by decide +kernel
theorem d_M_made_12 : decode c_M_made 12 = .ok (.ldc2_w 80, 3) := by decide +kernel
theorem d_M_made_15 : decode c_M_made 15 = .ok (.invokestatic 51, 3) := by decide +kernel
theorem d_M_made_18 : decode c_M_made 18 = .ok (.ifCond .eq 13, 3) := by decide +kernel
theorem d_M_made_21 : decode c_M_made 21 = .ok (.aload_n 0, 1) := by decide +kernel
theorem d_M_made_22 : decode c_M_made 22 = .ok (.getfield 16, 3) := by decide +kernel
theorem d_M_made_25 : decode c_M_made 25 = .ok (.iload_n 1, 1) := by decide +kernel
theorem d_M_made_26 : decode c_M_made 26 = .ok (.laload, 1) := by decide +kernel
theorem d_M_made_27 : decode c_M_made 27 = .ok (.l2i, 1) := by decide +kernel
theorem d_M_made_28 : decode c_M_made 28 = .ok (.goto 4, 3) := by decide +kernel
theorem d_M_made_31 : decode c_M_made 31 = .ok (.iconst 0, 1) := by decide +kernel
theorem d_M_made_32 : decode c_M_made 32 = .ok (.ireturn, 1) := by decide +kernel
theorem d_M_solves_0 : decode c_M_solves 0 = .ok (.aload_n 0, 1) := by decide +kernel
theorem d_M_solves_1 : decode c_M_solves 1 = .ok (.iconst 0, 1) := by decide +kernel
theorem d_M_solves_2 : decode c_M_solves 2 = .ok (.putfield 42, 3) := by decide +kernel
theorem d_M_solves_5 : decode c_M_solves 5 = .ok (.aload_n 0, 1) := by decide +kernel
theorem d_M_solves_6 : decode c_M_solves 6 = .ok (.invokevirtual 77, 3) := by decide +kernel
theorem d_M_solves_9 : decode c_M_solves 9 = .ok (.iconst 1, 1) := by decide +kernel
theorem d_M_solves_10 : decode c_M_solves 10 = .ok (.istore_n 1, 1) := by decide +kernel
theorem d_M_solves_11 : decode c_M_solves 11 = .ok (.iconst 0, 1) := by decide +kernel
theorem d_M_solves_12 : decode c_M_solves 12 = .ok (.istore_n 2, 1) := by decide +kernel
theorem d_M_solves_13 : decode c_M_solves 13 = .ok (.iload_n 2, 1) := by decide +kernel
theorem d_M_solves_14 : decode c_M_solves 14 = .ok (.bipush 17, 2) := by decide +kernel
theorem d_M_solves_16 : decode c_M_solves 16 = .ok (.if_icmp .ge 30, 3) := by decide +kernel
theorem d_M_solves_19 : decode c_M_solves 19 = .ok (.iload_n 1, 1) := by decide +kernel
theorem d_M_solves_20 : decode c_M_solves 20 = .ok (.ifCond .eq 18, 3) := by decide +kernel
theorem d_M_solves_23 : decode c_M_solves 23 = .ok (.aload_n 0, 1) := by decide +kernel
theorem d_M_solves_24 : decode c_M_solves 24 = .ok (.getfield 16, 3) := by decide +kernel
theorem d_M_solves_27 : decode c_M_solves 27 = .ok (.iload_n 2, 1) := by decide +kernel
theorem d_M_solves_28 : decode c_M_solves 28 = .ok (.laload, 1) := by decide +kernel
theorem d_M_solves_29 : decode c_M_solves 29 = .ok (.lconst 0, 1) := by decide +kernel
theorem d_M_solves_30 : decode c_M_solves 30 = .ok (.lcmp, 1) := by decide +kernel
theorem d_M_solves_31 : decode c_M_solves 31 = .ok (.ifCond .ne 7, 3) := by decide +kernel
theorem d_M_solves_34 : decode c_M_solves 34 = .ok (.iconst 1, 1) := by decide +kernel
theorem d_M_solves_35 : decode c_M_solves 35 = .ok (.goto 4, 3) := by decide +kernel
theorem d_M_solves_38 : decode c_M_solves 38 = .ok (.iconst 0, 1) := by decide +kernel
theorem d_M_solves_39 : decode c_M_solves 39 = .ok (.istore_n 1, 1) := by decide +kernel
theorem d_M_solves_40 : decode c_M_solves 40 = .ok (.iinc 2 1, 3) := by decide +kernel
theorem d_M_solves_43 : decode c_M_solves 43 = .ok (.goto (-30), 3) := by decide +kernel
theorem d_M_solves_46 : decode c_M_solves 46 = .ok (.iload_n 1, 1) := by decide +kernel
theorem d_M_solves_47 : decode c_M_solves 47 = .ok (.ireturn, 1) := by decide +kernel
theorem d_M_hasHead_0 : decode c_M_hasHead 0 = .ok (.iconst 0, 1) := by decide +kernel
theorem d_M_hasHead_1 : decode c_M_hasHead 1 = .ok (.istore_n 1, 1) := by decide +kernel
theorem d_M_hasHead_2 : decode c_M_hasHead 2 = .ok (.iconst 0, 1) := by decide +kernel
theorem d_M_hasHead_3 : decode c_M_hasHead 3 = .ok (.istore_n 2, 1) := by decide +kernel
theorem d_M_hasHead_4 : decode c_M_hasHead 4 = .ok (.iload_n 2, 1) := by decide +kernel
theorem d_M_hasHead_5 : decode c_M_hasHead 5 = .ok (.iconst 5, 1) := by decide +kernel
theorem d_M_hasHead_6 : decode c_M_hasHead 6 = .ok (.if_icmp .ge 37, 3) := by decide +kernel
theorem d_M_hasHead_9 : decode c_M_hasHead 9 = .ok (.iload_n 1, 1) := by decide +kernel
theorem d_M_hasHead_10 : decode c_M_hasHead 10 = .ok (.ifCond .ne 21, 3) := by decide +kernel
theorem d_M_hasHead_13 : decode c_M_hasHead 13 = .ok (.aload_n 0, 1) := by decide +kernel
theorem d_M_hasHead_14 : decode c_M_hasHead 14 = .ok (.getfield 7, 3) := by decide +kernel
theorem d_M_hasHead_17 : decode c_M_hasHead 17 = .ok (.iconst 5, 1) := by decide +kernel
theorem d_M_hasHead_18 : decode c_M_hasHead 18 = .ok (.aload_n 0, 1) := by decide +kernel
theorem d_M_hasHead_19 : decode c_M_hasHead 19 = .ok (.getfield 38, 3) := by decide +kernel
theorem d_M_hasHead_22 : decode c_M_hasHead 22 = .ok (.imul, 1) := by decide +kernel
theorem d_M_hasHead_23 : decode c_M_hasHead 23 = .ok (.iload_n 2, 1) := by decide +kernel
theorem d_M_hasHead_24 : decode c_M_hasHead 24 = .ok (.iadd, 1) := by decide +kernel
theorem d_M_hasHead_25 : decode c_M_hasHead 25 = .ok (.laload, 1) := by decide +kernel
theorem d_M_hasHead_26 : decode c_M_hasHead 26 = .ok (.lconst 0, 1) := by decide +kernel
theorem d_M_hasHead_27 : decode c_M_hasHead 27 = .ok (.lcmp, 1) := by decide +kernel
theorem d_M_hasHead_28 : decode c_M_hasHead 28 = .ok (.ifCond .eq 7, 3) := by decide +kernel
theorem d_M_hasHead_31 : decode c_M_hasHead 31 = .ok (.iconst 1, 1) := by decide +kernel
theorem d_M_hasHead_32 : decode c_M_hasHead 32 = .ok (.goto 4, 3) := by decide +kernel
theorem d_M_hasHead_35 : decode c_M_hasHead 35 = .ok (.iconst 0, 1) := by decide +kernel
theorem d_M_hasHead_36 : decode c_M_hasHead 36 = .ok (.istore_n 1, 1) := by decide +kernel
theorem d_M_hasHead_37 : decode c_M_hasHead 37 = .ok (.iinc 2 1, 3) := by decide +kernel
theorem d_M_hasHead_40 : decode c_M_hasHead 40 = .ok (.goto (-36), 3) := by decide +kernel
theorem d_M_hasHead_43 : decode c_M_hasHead 43 = .ok (.iload_n 1, 1) := by decide +kernel
theorem d_M_hasHead_44 : decode c_M_hasHead 44 = .ok (.ireturn, 1) := by decide +kernel
theorem d_M_headAt_0 : decode c_M_headAt 0 = .ok (.lconst 0, 1) := by decide +kernel
theorem d_M_headAt_1 : decode c_M_headAt 1 = .ok (.lstore_n 3, 1) := by decide +kernel
theorem d_M_headAt_2 : decode c_M_headAt 2 = .ok (.iconst 4, 1) := by decide +kernel
theorem d_M_headAt_3 : decode c_M_headAt 3 = .ok (.istore 5, 2) := by decide +kernel
theorem d_M_headAt_5 : decode c_M_headAt 5 = .ok (.iload 5, 2) := by decide +kernel
theorem d_M_headAt_7 : decode c_M_headAt 7 = .ok (.ifCond .lt 32, 3) := by decide +kernel
theorem d_M_headAt_10 : decode c_M_headAt 10 = .ok (.lload_n 3, 1) := by decide +kernel
theorem d_M_headAt_11 : decode c_M_headAt 11 = .ok (.lload_n 1, 1) := by decide +kernel
theorem d_M_headAt_12 : decode c_M_headAt 12 = .ok (.lmul, 1) := by decide +kernel
theorem d_M_headAt_13 : decode c_M_headAt 13 = .ok (.aload_n 0, 1) := by decide +kernel
theorem d_M_headAt_14 : decode c_M_headAt 14 = .ok (.getfield 7, 3) := by decide +kernel
theorem d_M_headAt_17 : decode c_M_headAt 17 = .ok (.iconst 5, 1) := by decide +kernel
theorem d_M_headAt_18 : decode c_M_headAt 18 = .ok (.aload_n 0, 1) := by decide +kernel
theorem d_M_headAt_19 : decode c_M_headAt 19 = .ok (.getfield 38, 3) := by decide +kernel
theorem d_M_headAt_22 : decode c_M_headAt 22 = .ok (.imul, 1) := by decide +kernel
theorem d_M_headAt_23 : decode c_M_headAt 23 = .ok (.iload 5, 2) := by decide +kernel
theorem d_M_headAt_25 : decode c_M_headAt 25 = .ok (.iadd, 1) := by decide +kernel
theorem d_M_headAt_26 : decode c_M_headAt 26 = .ok (.laload, 1) := by decide +kernel
theorem d_M_headAt_27 : decode c_M_headAt 27 = .ok (.ladd, 1) := by decide +kernel
theorem d_M_headAt_28 : decode c_M_headAt 28 = .ok (.ldc2_w 45, 3) := by decide +kernel
theorem d_M_headAt_31 : decode c_M_headAt 31 = .ok (.lrem, 1) := by decide +kernel
theorem d_M_headAt_32 : decode c_M_headAt 32 = .ok (.lstore_n 3, 1) := by decide +kernel
theorem d_M_headAt_33 : decode c_M_headAt 33 = .ok (.iinc 5 (-1), 3) := by decide +kernel
theorem d_M_headAt_36 : decode c_M_headAt 36 = .ok (.goto (-31), 3) := by decide +kernel
theorem d_M_headAt_39 : decode c_M_headAt 39 = .ok (.lload_n 3, 1) := by decide +kernel
theorem d_M_headAt_40 : decode c_M_headAt 40 = .ok (.lreturn, 1) := by decide +kernel
theorem d_M_find_0 : decode c_M_find 0 = .ok (.iconst 0, 1) := by decide +kernel
theorem d_M_find_1 : decode c_M_find 1 = .ok (.istore_n 2, 1) := by decide +kernel
theorem d_M_find_2 : decode c_M_find 2 = .ok (.iconst 0, 1) := by decide +kernel
theorem d_M_find_3 : decode c_M_find 3 = .ok (.istore_n 3, 1) := by decide +kernel
theorem d_M_find_4 : decode c_M_find 4 = .ok (.iload_n 3, 1) := by decide +kernel
theorem d_M_find_5 : decode c_M_find 5 = .ok (.sipush 32003, 3) := by decide +kernel
theorem d_M_find_8 : decode c_M_find 8 = .ok (.if_icmp .ge 33, 3) := by decide +kernel
theorem d_M_find_11 : decode c_M_find 11 = .ok (.aload_n 0, 1) := by decide +kernel
theorem d_M_find_12 : decode c_M_find 12 = .ok (.iload_n 3, 1) := by decide +kernel
theorem d_M_find_13 : decode c_M_find 13 = .ok (.i2l, 1) := by decide +kernel
theorem d_M_find_14 : decode c_M_find 14 = .ok (.invokevirtual 82, 3) := by decide +kernel
theorem d_M_find_17 : decode c_M_find 17 = .ok (.lconst 0, 1) := by decide +kernel
theorem d_M_find_18 : decode c_M_find 18 = .ok (.lcmp, 1) := by decide +kernel
theorem d_M_find_19 : decode c_M_find 19 = .ok (.ifCond .eq 6, 3) := by decide +kernel
theorem d_M_find_22 : decode c_M_find 22 = .ok (.goto 13, 3) := by decide +kernel
theorem d_M_find_25 : decode c_M_find 25 = .ok (.iload_n 2, 1) := by decide +kernel
theorem d_M_find_26 : decode c_M_find 26 = .ok (.iload_n 1, 1) := by decide +kernel
theorem d_M_find_27 : decode c_M_find 27 = .ok (.if_icmp .ne 5, 3) := by decide +kernel
theorem d_M_find_30 : decode c_M_find 30 = .ok (.iload_n 3, 1) := by decide +kernel
theorem d_M_find_31 : decode c_M_find 31 = .ok (.ireturn, 1) := by decide +kernel
theorem d_M_find_32 : decode c_M_find 32 = .ok (.iinc 2 1, 3) := by decide +kernel
theorem d_M_find_35 : decode c_M_find 35 = .ok (.iinc 3 1, 3) := by decide +kernel
theorem d_M_find_38 : decode c_M_find 38 = .ok (.goto (-34), 3) := by decide +kernel
theorem d_M_find_41 : decode c_M_find 41 = .ok (.iconst (-1), 1) := by decide +kernel
theorem d_M_find_42 : decode c_M_find 42 = .ok (.iload_n 2, 1) := by decide +kernel
theorem d_M_find_43 : decode c_M_find 43 = .ok (.isub, 1) := by decide +kernel
theorem d_M_find_44 : decode c_M_find 44 = .ok (.ireturn, 1) := by decide +kernel
theorem d_M_places_0 : decode c_M_places 0 = .ok (.aload_n 0, 1) := by decide +kernel
theorem d_M_places_1 : decode c_M_places 1 = .ok (.aload_n 0, 1) := by decide +kernel
theorem d_M_places_2 : decode c_M_places 2 = .ok (.invokevirtual 85, 3) := by decide +kernel
theorem d_M_places_5 : decode c_M_places 5 = .ok (.ifCond .eq 7, 3) := by decide +kernel
theorem d_M_places_8 : decode c_M_places 8 = .ok (.iconst 0, 1) := by decide +kernel
theorem d_M_places_9 : decode c_M_places 9 = .ok (.goto 4, 3) := by decide +kernel
theorem d_M_places_12 : decode c_M_places 12 = .ok (.iconst 1, 1) := by decide +kernel
theorem d_M_places_13 : decode c_M_places 13 = .ok (.putfield 42, 3) := by decide +kernel
theorem d_M_places_16 : decode c_M_places 16 = .ok (.aload_n 0, 1) := by decide +kernel
theorem d_M_places_17 : decode c_M_places 17 = .ok (.getfield 42, 3) := by decide +kernel
theorem d_M_places_20 : decode c_M_places 20 = .ok (.ifCond .le 7, 3) := by decide +kernel
theorem d_M_places_23 : decode c_M_places 23 = .ok (.iconst 0, 1) := by decide +kernel
theorem d_M_places_24 : decode c_M_places 24 = .ok (.goto 10, 3) := by decide +kernel
theorem d_M_places_27 : decode c_M_places 27 = .ok (.iconst (-1), 1) := by decide +kernel
theorem d_M_places_28 : decode c_M_places 28 = .ok (.aload_n 0, 1) := by decide +kernel
theorem d_M_places_29 : decode c_M_places 29 = .ok (.iconst (-1), 1) := by decide +kernel
theorem d_M_places_30 : decode c_M_places 30 = .ok (.invokevirtual 89, 3) := by decide +kernel
theorem d_M_places_33 : decode c_M_places 33 = .ok (.isub, 1) := by decide +kernel
theorem d_M_places_34 : decode c_M_places 34 = .ok (.ireturn, 1) := by decide +kernel
theorem d_M_place_0 : decode c_M_place 0 = .ok (.aload_n 0, 1) := by decide +kernel
theorem d_M_place_1 : decode c_M_place 1 = .ok (.invokevirtual 85, 3) := by decide +kernel
theorem d_M_place_4 : decode c_M_place 4 = .ok (.ifCond .ne 9, 3) := by decide +kernel
theorem d_M_place_7 : decode c_M_place 7 = .ok (.aload_n 0, 1) := by decide +kernel
theorem d_M_place_8 : decode c_M_place 8 = .ok (.iconst 1, 1) := by decide +kernel
theorem d_M_place_9 : decode c_M_place 9 = .ok (.invokevirtual 93, 3) := by decide +kernel
theorem d_M_place_12 : decode c_M_place 12 = .ok (.ireturn, 1) := by decide +kernel
theorem d_M_place_13 : decode c_M_place 13 = .ok (.iload_n 1, 1) := by decide +kernel
theorem d_M_place_14 : decode c_M_place 14 = .ok (.ifCond .ge 7, 3) := by decide +kernel
theorem d_M_place_17 : decode c_M_place 17 = .ok (.iconst (-1), 1) := by decide +kernel
theorem d_M_place_18 : decode c_M_place 18 = .ok (.goto 8, 3) := by decide +kernel
theorem d_M_place_21 : decode c_M_place 21 = .ok (.aload_n 0, 1) := by decide +kernel
theorem d_M_place_22 : decode c_M_place 22 = .ok (.iload_n 1, 1) := by decide +kernel
theorem d_M_place_23 : decode c_M_place 23 = .ok (.invokevirtual 89, 3) := by decide +kernel
theorem d_M_place_26 : decode c_M_place 26 = .ok (.istore_n 2, 1) := by decide +kernel
theorem d_M_place_27 : decode c_M_place 27 = .ok (.aload_n 0, 1) := by decide +kernel
theorem d_M_place_28 : decode c_M_place 28 = .ok (.iload_n 2, 1) := by decide +kernel
theorem d_M_place_29 : decode c_M_place 29 = .ok (.ifCond .ge 7, 3) := by decide +kernel
theorem d_M_place_32 : decode c_M_place 32 = .ok (.iconst 2, 1) := by decide +kernel
theorem d_M_place_33 : decode c_M_place 33 = .ok (.goto 4, 3) := by decide +kernel
theorem d_M_place_36 : decode c_M_place 36 = .ok (.iconst 0, 1) := by decide +kernel
theorem d_M_place_37 : decode c_M_place 37 = .ok (.putfield 42, 3) := by decide +kernel
theorem d_M_place_40 : decode c_M_place 40 = .ok (.aload_n 0, 1) := by decide +kernel
theorem d_M_place_41 : decode c_M_place 41 = .ok (.getfield 42, 3) := by decide +kernel
theorem d_M_place_44 : decode c_M_place 44 = .ok (.ifCond .le 7, 3) := by decide +kernel
theorem d_M_place_47 : decode c_M_place 47 = .ok (.iconst 0, 1) := by decide +kernel
theorem d_M_place_48 : decode c_M_place 48 = .ok (.goto 4, 3) := by decide +kernel
theorem d_M_place_51 : decode c_M_place 51 = .ok (.iload_n 2, 1) := by decide +kernel
theorem d_M_place_52 : decode c_M_place 52 = .ok (.ireturn, 1) := by decide +kernel
theorem d_M_findLevel_0 : decode c_M_findLevel 0 = .ok (.iconst 0, 1) := by decide +kernel
theorem d_M_findLevel_1 : decode c_M_findLevel 1 = .ok (.istore 4, 2) := by decide +kernel
theorem d_M_findLevel_3 : decode c_M_findLevel 3 = .ok (.iconst 0, 1) := by decide +kernel
theorem d_M_findLevel_4 : decode c_M_findLevel 4 = .ok (.istore 5, 2) := by decide +kernel
theorem d_M_findLevel_6 : decode c_M_findLevel 6 = .ok (.iload 5, 2) := by decide +kernel
theorem d_M_findLevel_8 : decode c_M_findLevel 8 = .ok (.bipush 20, 2) := by decide +kernel
theorem d_M_findLevel_10 : decode c_M_findLevel 10 = .ok (.if_icmp .ge 33, 3) := by decide +kernel
theorem d_M_findLevel_13 : decode c_M_findLevel 13 = .ok (.iload 4, 2) := by decide +kernel
theorem d_M_findLevel_15 : decode c_M_findLevel 15 = .ok (.ifCond .ne 15, 3) := by decide +kernel
theorem d_M_findLevel_18 : decode c_M_findLevel 18 = .ok (.aload_n 0, 1) := by decide +kernel
theorem d_M_findLevel_19 : decode c_M_findLevel 19 = .ok (.getfield 7, 3) := by decide +kernel
theorem d_M_findLevel_22 : decode c_M_findLevel 22 = .ok (.iload 5, 2) := by decide +kernel
theorem d_M_findLevel_24 : decode c_M_findLevel 24 = .ok (.laload, 1) := by decide +kernel
theorem d_M_findLevel_25 : decode c_M_findLevel 25 = .ok (.lconst 0, 1) := by decide +kernel
theorem d_M_findLevel_26 : decode c_M_findLevel 26 = .ok (.lcmp, 1) := by decide +kernel
theorem d_M_findLevel_27 : decode c_M_findLevel 27 = .ok (.ifCond .eq 7, 3) := by decide +kernel
theorem d_M_findLevel_30 : decode c_M_findLevel 30 = .ok (.iconst 1, 1) := by decide +kernel
theorem d_M_findLevel_31 : decode c_M_findLevel 31 = .ok (.goto 4, 3) := by decide +kernel
theorem d_M_findLevel_34 : decode c_M_findLevel 34 = .ok (.iconst 0, 1) := by decide +kernel
theorem d_M_findLevel_35 : decode c_M_findLevel 35 = .ok (.istore 4, 2) := by decide +kernel
theorem d_M_findLevel_37 : decode c_M_findLevel 37 = .ok (.iinc 5 1, 3) := by decide +kernel
theorem d_M_findLevel_40 : decode c_M_findLevel 40 = .ok (.goto (-34), 3) := by decide +kernel
theorem d_M_findLevel_43 : decode c_M_findLevel 43 = .ok (.aload_n 0, 1) := by decide +kernel
theorem d_M_findLevel_44 : decode c_M_findLevel 44 = .ok (.iload 4, 2) := by decide +kernel
theorem d_M_findLevel_46 : decode c_M_findLevel 46 = .ok (.ifCond .eq 7, 3) := by decide +kernel
theorem d_M_findLevel_49 : decode c_M_findLevel 49 = .ok (.iconst 0, 1) := by decide +kernel
theorem d_M_findLevel_50 : decode c_M_findLevel 50 = .ok (.goto 4, 3) := by decide +kernel
theorem d_M_findLevel_53 : decode c_M_findLevel 53 = .ok (.iconst 1, 1) := by decide +kernel
theorem d_M_findLevel_54 : decode c_M_findLevel 54 = .ok (.putfield 42, 3) := by decide +kernel
theorem d_M_findLevel_57 : decode c_M_findLevel 57 = .ok (.iload 4, 2) := by decide +kernel
theorem d_M_findLevel_59 : decode c_M_findLevel 59 = .ok (.ifCond .ne 5, 3) := by decide +kernel
theorem d_M_findLevel_62 : decode c_M_findLevel 62 = .ok (.iconst 0, 1) := by decide +kernel
theorem d_M_findLevel_63 : decode c_M_findLevel 63 = .ok (.ireturn, 1) := by decide +kernel
theorem d_M_findLevel_64 : decode c_M_findLevel 64 = .ok (.aload_n 0, 1) := by decide +kernel
theorem d_M_findLevel_65 : decode c_M_findLevel 65 = .ok (.iload_n 1, 1) := by decide +kernel
theorem d_M_findLevel_66 : decode c_M_findLevel 66 = .ok (.ifCond .eq 7, 3) := by decide +kernel
theorem d_M_findLevel_69 : decode c_M_findLevel 69 = .ok (.lconst 0, 1) := by decide +kernel
theorem d_M_findLevel_70 : decode c_M_findLevel 70 = .ok (.goto 7, 3) := by decide +kernel
theorem d_M_findLevel_73 : decode c_M_findLevel 73 = .ok (.lload_n 2, 1) := by decide +kernel
theorem d_M_findLevel_74 : decode c_M_findLevel 74 = .ok (.invokestatic 47, 3) := by decide +kernel
theorem d_M_findLevel_77 : decode c_M_findLevel 77 = .ok (.invokevirtual 61, 3) := by decide +kernel
theorem d_M_findLevel_80 : decode c_M_findLevel 80 = .ok (.aload_n 0, 1) := by decide +kernel
theorem d_M_findLevel_81 : decode c_M_findLevel 81 = .ok (.iload_n 1, 1) := by decide +kernel
theorem d_M_findLevel_82 : decode c_M_findLevel 82 = .ok (.ifCond .eq 8, 3) := by decide +kernel
theorem d_M_findLevel_85 : decode c_M_findLevel 85 = .ok (.bipush (-9), 2) := by decide +kernel
theorem d_M_findLevel_87 : decode c_M_findLevel 87 = .ok (.goto 5, 3) := by decide +kernel
theorem d_M_findLevel_90 : decode c_M_findLevel 90 = .ok (.bipush 9, 2) := by decide +kernel
theorem d_M_findLevel_92 : decode c_M_findLevel 92 = .ok (.putfield 96, 3) := by decide +kernel
theorem d_M_findLevel_95 : decode c_M_findLevel 95 = .ok (.iconst 0, 1) := by decide +kernel
theorem d_M_findLevel_96 : decode c_M_findLevel 96 = .ok (.istore 5, 2) := by decide +kernel
theorem d_M_findLevel_98 : decode c_M_findLevel 98 = .ok (.iload 5, 2) := by decide +kernel
theorem d_M_findLevel_100 : decode c_M_findLevel 100 = .ok (.iconst 4, 1) := by decide +kernel
theorem d_M_findLevel_101 : decode c_M_findLevel 101 = .ok (.if_icmp .ge 84, 3) := by decide +kernel
theorem d_M_findLevel_104 : decode c_M_findLevel 104 = .ok (.iconst 0, 1) := by decide +kernel
theorem d_M_findLevel_105 : decode c_M_findLevel 105 = .ok (.istore 6, 2) := by decide +kernel
theorem d_M_findLevel_107 : decode c_M_findLevel 107 = .ok (.iload 6, 2) := by decide +kernel
theorem d_M_findLevel_109 : decode c_M_findLevel 109 = .ok (.iconst 5, 1) := by decide +kernel
theorem d_M_findLevel_110 : decode c_M_findLevel 110 = .ok (.if_icmp .ge 69, 3) := by decide +kernel
theorem d_M_findLevel_113 : decode c_M_findLevel 113 = .ok (.aload_n 0, 1) := by decide +kernel
theorem d_M_findLevel_114 : decode c_M_findLevel 114 = .ok (.getfield 19, 3) := by decide +kernel
theorem d_M_findLevel_117 : decode c_M_findLevel 117 = .ok (.iconst 5, 1) := by decide +kernel
theorem d_M_findLevel_118 : decode c_M_findLevel 118 = .ok (.iload 5, 2) := by decide +kernel
theorem d_M_findLevel_120 : decode c_M_findLevel 120 = .ok (.imul, 1) := by decide +kernel
theorem d_M_findLevel_121 : decode c_M_findLevel 121 = .ok (.iload 6, 2) := by decide +kernel
theorem d_M_findLevel_123 : decode c_M_findLevel 123 = .ok (.iadd, 1) := by decide +kernel
theorem d_M_findLevel_124 : decode c_M_findLevel 124 = .ok (.laload, 1) := by decide +kernel
theorem d_M_findLevel_125 : decode c_M_findLevel 125 = .ok (.lconst 0, 1) := by decide +kernel
theorem d_M_findLevel_126 : decode c_M_findLevel 126 = .ok (.lcmp, 1) := by decide +kernel
theorem d_M_findLevel_127 : decode c_M_findLevel 127 = .ok (.ifCond .ne 6, 3) := by decide +kernel
theorem d_M_findLevel_130 : decode c_M_findLevel 130 = .ok (.goto 43, 3) := by decide +kernel
theorem d_M_findLevel_133 : decode c_M_findLevel 133 = .ok (.iload_n 1, 1) := by decide +kernel
theorem d_M_findLevel_134 : decode c_M_findLevel 134 = .ok (.ifCond .eq 18, 3) := by decide +kernel
theorem d_M_findLevel_137 : decode c_M_findLevel 137 = .ok (.iload 6, 2) := by decide +kernel
theorem d_M_findLevel_139 : decode c_M_findLevel 139 = .ok (.iload 5, 2) := by decide +kernel
theorem d_M_findLevel_141 : decode c_M_findLevel 141 = .ok (.isub, 1) := by decide +kernel
theorem d_M_findLevel_142 : decode c_M_findLevel 142 = .ok (.aload_n 0, 1) := by decide +kernel
theorem d_M_findLevel_143 : decode c_M_findLevel 143 = .ok (.getfield 96, 3) := by decide +kernel
theorem d_M_findLevel_146 : decode c_M_findLevel 146 = .ok (.if_icmp .le 27, 3) := by decide +kernel
theorem d_M_findLevel_149 : decode c_M_findLevel 149 = .ok (.goto 15, 3) := by decide +kernel
theorem d_M_findLevel_152 : decode c_M_findLevel 152 = .ok (.iload 6, 2) := by decide +kernel
theorem d_M_findLevel_154 : decode c_M_findLevel 154 = .ok (.iload 5, 2) := by decide +kernel
theorem d_M_findLevel_156 : decode c_M_findLevel 156 = .ok (.isub, 1) := by decide +kernel
theorem d_M_findLevel_157 : decode c_M_findLevel 157 = .ok (.aload_n 0, 1) := by decide +kernel
theorem d_M_findLevel_158 : decode c_M_findLevel 158 = .ok (.getfield 96, 3) := by decide +kernel
theorem d_M_findLevel_161 : decode c_M_findLevel 161 = .ok (.if_icmp .ge 12, 3) := by decide +kernel
theorem d_M_findLevel_164 : decode c_M_findLevel 164 = .ok (.aload_n 0, 1) := by decide +kernel
theorem d_M_findLevel_165 : decode c_M_findLevel 165 = .ok (.iload 6, 2) := by decide +kernel
theorem d_M_findLevel_167 : decode c_M_findLevel 167 = .ok (.iload 5, 2) := by decide +kernel
theorem d_M_findLevel_169 : decode c_M_findLevel 169 = .ok (.isub, 1) := by decide +kernel
theorem d_M_findLevel_170 : decode c_M_findLevel 170 = .ok (.putfield 96, 3) := by decide +kernel
theorem d_M_findLevel_173 : decode c_M_findLevel 173 = .ok (.iinc 6 1, 3) := by decide +kernel
theorem d_M_findLevel_176 : decode c_M_findLevel 176 = .ok (.goto (-69), 3) := by decide +kernel
theorem d_M_findLevel_179 : decode c_M_findLevel 179 = .ok (.iinc 5 1, 3) := by decide +kernel
theorem d_M_findLevel_182 : decode c_M_findLevel 182 = .ok (.goto (-84), 3) := by decide +kernel
theorem d_M_findLevel_185 : decode c_M_findLevel 185 = .ok (.iconst 1, 1) := by decide +kernel
theorem d_M_findLevel_186 : decode c_M_findLevel 186 = .ok (.ireturn, 1) := by decide +kernel
theorem d_M_level_0 : decode c_M_level 0 = .ok (.aload_n 0, 1) := by decide +kernel
theorem d_M_level_1 : decode c_M_level 1 = .ok (.iload_n 1, 1) := by decide +kernel
theorem d_M_level_2 : decode c_M_level 2 = .ok (.lload_n 2, 1) := by decide +kernel
theorem d_M_level_3 : decode c_M_level 3 = .ok (.invokevirtual 99, 3) := by decide +kernel
theorem d_M_level_6 : decode c_M_level 6 = .ok (.ifCond .eq 10, 3) := by decide +kernel
theorem d_M_level_9 : decode c_M_level 9 = .ok (.aload_n 0, 1) := by decide +kernel
theorem d_M_level_10 : decode c_M_level 10 = .ok (.getfield 96, 3) := by decide +kernel
theorem d_M_level_13 : decode c_M_level 13 = .ok (.goto 4, 3) := by decide +kernel
theorem d_M_level_16 : decode c_M_level 16 = .ok (.iconst 0, 1) := by decide +kernel
theorem d_M_level_17 : decode c_M_level 17 = .ok (.ireturn, 1) := by decide +kernel
theorem d_M_localAt_0 : decode c_M_localAt 0 = .ok (.aload_n 0, 1) := by decide +kernel
theorem d_M_localAt_1 : decode c_M_localAt 1 = .ok (.getfield 96, 3) := by decide +kernel
theorem d_M_localAt_4 : decode c_M_localAt 4 = .ok (.iload_n 1, 1) := by decide +kernel
theorem d_M_localAt_5 : decode c_M_localAt 5 = .ok (.iadd, 1) := by decide +kernel
theorem d_M_localAt_6 : decode c_M_localAt 6 = .ok (.i2l, 1) := by decide +kernel
theorem d_M_localAt_7 : decode c_M_localAt 7 = .ok (.lconst 0, 1) := by decide +kernel
theorem d_M_localAt_8 : decode c_M_localAt 8 = .ok (.ldc2_w 55, 3) := by decide +kernel
theorem d_M_localAt_11 : decode c_M_localAt 11 = .ok (.invokestatic 51, 3) := by decide +kernel
theorem d_M_localAt_14 : decode c_M_localAt 14 = .ok (.ifCond .eq 21, 3) := by decide +kernel
theorem d_M_localAt_17 : decode c_M_localAt 17 = .ok (.aload_n 0, 1) := by decide +kernel
theorem d_M_localAt_18 : decode c_M_localAt 18 = .ok (.getfield 19, 3) := by decide +kernel
theorem d_M_localAt_21 : decode c_M_localAt 21 = .ok (.iconst 5, 1) := by decide +kernel
theorem d_M_localAt_22 : decode c_M_localAt 22 = .ok (.iload_n 1, 1) := by decide +kernel
theorem d_M_localAt_23 : decode c_M_localAt 23 = .ok (.imul, 1) := by decide +kernel
theorem d_M_localAt_24 : decode c_M_localAt 24 = .ok (.aload_n 0, 1) := by decide +kernel
theorem d_M_localAt_25 : decode c_M_localAt 25 = .ok (.getfield 96, 3) := by decide +kernel
theorem d_M_localAt_28 : decode c_M_localAt 28 = .ok (.iadd, 1) := by decide +kernel
theorem d_M_localAt_29 : decode c_M_localAt 29 = .ok (.iload_n 1, 1) := by decide +kernel
theorem d_M_localAt_30 : decode c_M_localAt 30 = .ok (.iadd, 1) := by decide +kernel
theorem d_M_localAt_31 : decode c_M_localAt 31 = .ok (.laload, 1) := by decide +kernel
theorem d_M_localAt_32 : decode c_M_localAt 32 = .ok (.goto 4, 3) := by decide +kernel
theorem d_M_localAt_35 : decode c_M_localAt 35 = .ok (.lconst 0, 1) := by decide +kernel
theorem d_M_localAt_36 : decode c_M_localAt 36 = .ok (.lreturn, 1) := by decide +kernel
theorem d_M_regular_0 : decode c_M_regular 0 = .ok (.aload_n 0, 1) := by decide +kernel
theorem d_M_regular_1 : decode c_M_regular 1 = .ok (.iload_n 1, 1) := by decide +kernel
theorem d_M_regular_2 : decode c_M_regular 2 = .ok (.lload_n 2, 1) := by decide +kernel
theorem d_M_regular_3 : decode c_M_regular 3 = .ok (.invokevirtual 99, 3) := by decide +kernel
theorem d_M_regular_6 : decode c_M_regular 6 = .ok (.ifCond .eq 20, 3) := by decide +kernel
theorem d_M_regular_9 : decode c_M_regular 9 = .ok (.aload_n 0, 1) := by decide +kernel
theorem d_M_regular_10 : decode c_M_regular 10 = .ok (.aload_n 0, 1) := by decide +kernel
theorem d_M_regular_11 : decode c_M_regular 11 = .ok (.getfield 38, 3) := by decide +kernel
theorem d_M_regular_14 : decode c_M_regular 14 = .ok (.invokevirtual 103, 3) := by decide +kernel
theorem d_M_regular_17 : decode c_M_regular 17 = .ok (.lconst 0, 1) := by decide +kernel
theorem d_M_regular_18 : decode c_M_regular 18 = .ok (.lcmp, 1) := by decide +kernel
theorem d_M_regular_19 : decode c_M_regular 19 = .ok (.ifCond .eq 7, 3) := by decide +kernel
theorem d_M_regular_22 : decode c_M_regular 22 = .ok (.iconst 1, 1) := by decide +kernel
theorem d_M_regular_23 : decode c_M_regular 23 = .ok (.goto 4, 3) := by decide +kernel
theorem d_M_regular_26 : decode c_M_regular 26 = .ok (.iconst 0, 1) := by decide +kernel
theorem d_M_regular_27 : decode c_M_regular 27 = .ok (.ireturn, 1) := by decide +kernel
theorem d_M_exponent_0 : decode c_M_exponent 0 = .ok (.aload_n 0, 1) := by decide +kernel
theorem d_M_exponent_1 : decode c_M_exponent 1 = .ok (.iload_n 1, 1) := by decide +kernel
theorem d_M_exponent_2 : decode c_M_exponent 2 = .ok (.lload_n 2, 1) := by decide +kernel
theorem d_M_exponent_3 : decode c_M_exponent 3 = .ok (.invokevirtual 99, 3) := by decide +kernel
theorem d_M_exponent_6 : decode c_M_exponent 6 = .ok (.ifCond .ne 5, 3) := by decide +kernel
theorem d_M_exponent_9 : decode c_M_exponent 9 = .ok (.iconst 0, 1) := by decide +kernel
theorem d_M_exponent_10 : decode c_M_exponent 10 = .ok (.ireturn, 1) := by decide +kernel
theorem d_M_exponent_11 : decode c_M_exponent 11 = .ok (.iconst 0, 1) := by decide +kernel
theorem d_M_exponent_12 : decode c_M_exponent 12 = .ok (.istore 5, 2) := by decide +kernel
theorem d_M_exponent_14 : decode c_M_exponent 14 = .ok (.iconst 0, 1) := by decide +kernel
theorem d_M_exponent_15 : decode c_M_exponent 15 = .ok (.istore 6, 2) := by decide +kernel
theorem d_M_exponent_17 : decode c_M_exponent 17 = .ok (.iload 6, 2) := by decide +kernel
theorem d_M_exponent_19 : decode c_M_exponent 19 = .ok (.sipush 32003, 3) := by decide +kernel
theorem d_M_exponent_22 : decode c_M_exponent 22 = .ok (.if_icmp .ge 82, 3) := by decide +kernel
theorem d_M_exponent_25 : decode c_M_exponent 25 = .ok (.iload 4, 2) := by decide +kernel
theorem d_M_exponent_27 : decode c_M_exponent 27 = .ok (.ifCond .lt 77, 3) := by decide +kernel
theorem d_M_exponent_30 : decode c_M_exponent 30 = .ok (.lconst 0, 1) := by decide +kernel
theorem d_M_exponent_31 : decode c_M_exponent 31 = .ok (.lstore 7, 2) := by decide +kernel
theorem d_M_exponent_33 : decode c_M_exponent 33 = .ok (.iconst 0, 1) := by decide +kernel
theorem d_M_exponent_34 : decode c_M_exponent 34 = .ok (.istore 9, 2) := by decide +kernel
theorem d_M_exponent_36 : decode c_M_exponent 36 = .ok (.iload 9, 2) := by decide +kernel
theorem d_M_exponent_38 : decode c_M_exponent 38 = .ok (.aload_n 0, 1) := by decide +kernel
theorem d_M_exponent_39 : decode c_M_exponent 39 = .ok (.getfield 38, 3) := by decide +kernel
theorem d_M_exponent_42 : decode c_M_exponent 42 = .ok (.if_icmp .gt 33, 3) := by decide +kernel
theorem d_M_exponent_45 : decode c_M_exponent 45 = .ok (.lload 7, 2) := by decide +kernel
theorem d_M_exponent_47 : decode c_M_exponent 47 = .ok (.aload_n 0, 1) := by decide +kernel
theorem d_M_exponent_48 : decode c_M_exponent 48 = .ok (.iload 9, 2) := by decide +kernel
theorem d_M_exponent_50 : decode c_M_exponent 50 = .ok (.invokevirtual 103, 3) := by decide +kernel
theorem d_M_exponent_53 : decode c_M_exponent 53 = .ok (.iload 6, 2) := by decide +kernel
theorem d_M_exponent_55 : decode c_M_exponent 55 = .ok (.i2l, 1) := by decide +kernel
theorem d_M_exponent_56 : decode c_M_exponent 56 = .ok (.iload 9, 2) := by decide +kernel
theorem d_M_exponent_58 : decode c_M_exponent 58 = .ok (.invokestatic 67, 3) := by decide +kernel
theorem d_M_exponent_61 : decode c_M_exponent 61 = .ok (.lmul, 1) := by decide +kernel
theorem d_M_exponent_62 : decode c_M_exponent 62 = .ok (.ladd, 1) := by decide +kernel
theorem d_M_exponent_63 : decode c_M_exponent 63 = .ok (.ldc2_w 45, 3) := by decide +kernel
theorem d_M_exponent_66 : decode c_M_exponent 66 = .ok (.lrem, 1) := by decide +kernel
theorem d_M_exponent_67 : decode c_M_exponent 67 = .ok (.lstore 7, 2) := by decide +kernel
theorem d_M_exponent_69 : decode c_M_exponent 69 = .ok (.iinc 9 1, 3) := by decide +kernel
theorem d_M_exponent_72 : decode c_M_exponent 72 = .ok (.goto (-36), 3) := by decide +kernel
theorem d_M_exponent_75 : decode c_M_exponent 75 = .ok (.lload 7, 2) := by decide +kernel
theorem d_M_exponent_77 : decode c_M_exponent 77 = .ok (.lconst 0, 1) := by decide +kernel
theorem d_M_exponent_78 : decode c_M_exponent 78 = .ok (.lcmp, 1) := by decide +kernel
theorem d_M_exponent_79 : decode c_M_exponent 79 = .ok (.ifCond .eq 6, 3) := by decide +kernel
theorem d_M_exponent_82 : decode c_M_exponent 82 = .ok (.goto 16, 3) := by decide +kernel
theorem d_M_exponent_85 : decode c_M_exponent 85 = .ok (.iload 5, 2) := by decide +kernel
theorem d_M_exponent_87 : decode c_M_exponent 87 = .ok (.iload 4, 2) := by decide +kernel
theorem d_M_exponent_89 : decode c_M_exponent 89 = .ok (.if_icmp .ne 6, 3) := by decide +kernel
theorem d_M_exponent_92 : decode c_M_exponent 92 = .ok (.iload 6, 2) := by decide +kernel
theorem d_M_exponent_94 : decode c_M_exponent 94 = .ok (.ireturn, 1) := by decide +kernel
theorem d_M_exponent_95 : decode c_M_exponent 95 = .ok (.iinc 5 1, 3) := by decide +kernel
theorem d_M_exponent_98 : decode c_M_exponent 98 = .ok (.iinc 6 1, 3) := by decide +kernel
theorem d_M_exponent_101 : decode c_M_exponent 101 = .ok (.goto (-84), 3) := by decide +kernel
theorem d_M_exponent_104 : decode c_M_exponent 104 = .ok (.iconst (-1), 1) := by decide +kernel
theorem d_M_exponent_105 : decode c_M_exponent 105 = .ok (.ireturn, 1) := by decide +kernel
theorem d_M_findAnswers_0 : decode c_M_findAnswers 0 = .ok (.iconst 0, 1) := by decide +kernel
theorem d_M_findAnswers_1 : decode c_M_findAnswers 1 = .ok (.istore_n 1, 1) := by decide +kernel
theorem d_M_findAnswers_2 : decode c_M_findAnswers 2 = .ok (.iload_n 1, 1) := by decide +kernel
theorem d_M_findAnswers_3 : decode c_M_findAnswers 3 = .ok (.bipush 12, 2) := by decide +kernel
theorem d_M_findAnswers_5 : decode c_M_findAnswers 5 = .ok (.if_icmp .gt 67, 3) := by decide +kernel
theorem d_M_findAnswers_8 : decode c_M_findAnswers 8 = .ok (.iconst 0, 1) := by decide +kernel
theorem d_M_findAnswers_9 : decode c_M_findAnswers 9 = .ok (.istore_n 2, 1) := by decide +kernel
theorem d_M_findAnswers_10 : decode c_M_findAnswers 10 = .ok (.iload_n 2, 1) := by decide +kernel
theorem d_M_findAnswers_11 : decode c_M_findAnswers 11 = .ok (.bipush 17, 2) := by decide +kernel
theorem d_M_findAnswers_13 : decode c_M_findAnswers 13 = .ok (.if_icmp .ge 16, 3) := by decide +kernel
theorem d_M_findAnswers_16 : decode c_M_findAnswers 16 = .ok (.aload_n 0, 1) := by decide +kernel
theorem d_M_findAnswers_17 : decode c_M_findAnswers 17 = .ok (.getfield 16, 3) := by decide +kernel
theorem d_M_findAnswers_20 : decode c_M_findAnswers 20 = .ok (.iload_n 2, 1) := by decide +kernel
theorem d_M_findAnswers_21 : decode c_M_findAnswers 21 = .ok (.lconst 0, 1) := by decide +kernel
theorem d_M_findAnswers_22 : decode c_M_findAnswers 22 = .ok (.lastore, 1) := by decide +kernel
theorem d_M_findAnswers_23 : decode c_M_findAnswers 23 = .ok (.iinc 2 1, 3) := by decide +kernel
theorem d_M_findAnswers_26 : decode c_M_findAnswers 26 = .ok (.goto (-16), 3) := by decide +kernel
theorem d_M_findAnswers_29 : decode c_M_findAnswers 29 = .ok (.aload_n 0, 1) := by decide +kernel
theorem d_M_findAnswers_30 : decode c_M_findAnswers 30 = .ok (.iload_n 1, 1) := by decide +kernel
theorem d_M_findAnswers_31 : decode c_M_findAnswers 31 = .ok (.lconst 1, 1) := by decide +kernel
theorem d_M_findAnswers_32 : decode c_M_findAnswers 32 = .ok (.invokevirtual 73, 3) := by decide +kernel
theorem d_M_findAnswers_35 : decode c_M_findAnswers 35 = .ok (.iconst 0, 1) := by decide +kernel
theorem d_M_findAnswers_36 : decode c_M_findAnswers 36 = .ok (.istore_n 2, 1) := by decide +kernel
theorem d_M_findAnswers_37 : decode c_M_findAnswers 37 = .ok (.iload_n 2, 1) := by decide +kernel
theorem d_M_findAnswers_38 : decode c_M_findAnswers 38 = .ok (.bipush 17, 2) := by decide +kernel
theorem d_M_findAnswers_40 : decode c_M_findAnswers 40 = .ok (.if_icmp .ge 26, 3) := by decide +kernel
theorem d_M_findAnswers_43 : decode c_M_findAnswers 43 = .ok (.aload_n 0, 1) := by decide +kernel
theorem d_M_findAnswers_44 : decode c_M_findAnswers 44 = .ok (.getfield 22, 3) := by decide +kernel
theorem d_M_findAnswers_47 : decode c_M_findAnswers 47 = .ok (.bipush 13, 2) := by decide +kernel
theorem d_M_findAnswers_49 : decode c_M_findAnswers 49 = .ok (.iload_n 2, 1) := by decide +kernel
theorem d_M_findAnswers_50 : decode c_M_findAnswers 50 = .ok (.imul, 1) := by decide +kernel
theorem d_M_findAnswers_51 : decode c_M_findAnswers 51 = .ok (.iload_n 1, 1) := by decide +kernel
theorem d_M_findAnswers_52 : decode c_M_findAnswers 52 = .ok (.iadd, 1) := by decide +kernel
theorem d_M_findAnswers_53 : decode c_M_findAnswers 53 = .ok (.aload_n 0, 1) := by decide +kernel
theorem d_M_findAnswers_54 : decode c_M_findAnswers 54 = .ok (.getfield 16, 3) := by decide +kernel
theorem d_M_findAnswers_57 : decode c_M_findAnswers 57 = .ok (.iload_n 2, 1) := by decide +kernel
theorem d_M_findAnswers_58 : decode c_M_findAnswers 58 = .ok (.laload, 1) := by decide +kernel
theorem d_M_findAnswers_59 : decode c_M_findAnswers 59 = .ok (.lastore, 1) := by decide +kernel
theorem d_M_findAnswers_60 : decode c_M_findAnswers 60 = .ok (.iinc 2 1, 3) := by decide +kernel
theorem d_M_findAnswers_63 : decode c_M_findAnswers 63 = .ok (.goto (-26), 3) := by decide +kernel
theorem d_M_findAnswers_66 : decode c_M_findAnswers 66 = .ok (.iinc 1 1, 3) := by decide +kernel
theorem d_M_findAnswers_69 : decode c_M_findAnswers 69 = .ok (.goto (-67), 3) := by decide +kernel
theorem d_M_findAnswers_72 : decode c_M_findAnswers 72 = .ok (.iconst 0, 1) := by decide +kernel
theorem d_M_findAnswers_73 : decode c_M_findAnswers 73 = .ok (.istore_n 1, 1) := by decide +kernel
theorem d_M_findAnswers_74 : decode c_M_findAnswers 74 = .ok (.iconst 0, 1) := by decide +kernel
theorem d_M_findAnswers_75 : decode c_M_findAnswers 75 = .ok (.istore_n 2, 1) := by decide +kernel
theorem d_M_findAnswers_76 : decode c_M_findAnswers 76 = .ok (.iload_n 2, 1) := by decide +kernel
theorem d_M_findAnswers_77 : decode c_M_findAnswers 77 = .ok (.bipush 12, 2) := by decide +kernel
theorem d_M_findAnswers_79 : decode c_M_findAnswers 79 = .ok (.if_icmp .gt 75, 3) := by decide +kernel
theorem d_M_findAnswers_82 : decode c_M_findAnswers 82 = .ok (.iload_n 1, 1) := by decide +kernel
theorem d_M_findAnswers_83 : decode c_M_findAnswers 83 = .ok (.istore_n 3, 1) := by decide +kernel
theorem d_M_findAnswers_84 : decode c_M_findAnswers 84 = .ok (.iload_n 3, 1) := by decide +kernel
theorem d_M_findAnswers_85 : decode c_M_findAnswers 85 = .ok (.bipush 17, 2) := by decide +kernel
theorem d_M_findAnswers_87 : decode c_M_findAnswers 87 = .ok (.if_icmp .ge 25, 3) := by decide +kernel
theorem d_M_findAnswers_90 : decode c_M_findAnswers 90 = .ok (.aload_n 0, 1) := by decide +kernel
theorem d_M_findAnswers_91 : decode c_M_findAnswers 91 = .ok (.getfield 22, 3) := by decide +kernel
theorem d_M_findAnswers_94 : decode c_M_findAnswers 94 = .ok (.bipush 13, 2) := by decide +kernel
theorem d_M_findAnswers_96 : decode c_M_findAnswers 96 = .ok (.iload_n 3, 1) := by decide +kernel
theorem d_M_findAnswers_97 : decode c_M_findAnswers 97 = .ok (.imul, 1) := by decide +kernel
theorem d_M_findAnswers_98 : decode c_M_findAnswers 98 = .ok (.iload_n 2, 1) := by decide +kernel
theorem d_M_findAnswers_99 : decode c_M_findAnswers 99 = .ok (.iadd, 1) := by decide +kernel
theorem d_M_findAnswers_100 : decode c_M_findAnswers 100 = .ok (.laload, 1) := by decide +kernel
theorem d_M_findAnswers_101 : decode c_M_findAnswers 101 = .ok (.lconst 0, 1) := by decide +kernel
theorem d_M_findAnswers_102 : decode c_M_findAnswers 102 = .ok (.lcmp, 1) := by decide +kernel
theorem d_M_findAnswers_103 : decode c_M_findAnswers 103 = .ok (.ifCond .ne 9, 3) := by decide +kernel
theorem d_M_findAnswers_106 : decode c_M_findAnswers 106 = .ok (.iinc 3 1, 3) := by decide +kernel
theorem d_M_findAnswers_109 : decode c_M_findAnswers 109 = .ok (.goto (-25), 3) := by decide +kernel
theorem d_M_findAnswers_112 : decode c_M_findAnswers 112 = .ok (.aload_n 0, 1) := by decide +kernel
theorem d_M_findAnswers_113 : decode c_M_findAnswers 113 = .ok (.getfield 25, 3) := by decide +kernel
theorem d_M_findAnswers_116 : decode c_M_findAnswers 116 = .ok (.iload_n 2, 1) := by decide +kernel
theorem d_M_findAnswers_117 : decode c_M_findAnswers 117 = .ok (.iload_n 3, 1) := by decide +kernel
theorem d_M_findAnswers_118 : decode c_M_findAnswers 118 = .ok (.bipush 17, 2) := by decide +kernel
theorem d_M_findAnswers_120 : decode c_M_findAnswers 120 = .ok (.if_icmp .ne 7, 3) := by decide +kernel
theorem d_M_findAnswers_123 : decode c_M_findAnswers 123 = .ok (.iconst (-1), 1) := by decide +kernel
theorem d_M_findAnswers_124 : decode c_M_findAnswers 124 = .ok (.goto 4, 3) := by decide +kernel
theorem d_M_findAnswers_127 : decode c_M_findAnswers 127 = .ok (.iload_n 1, 1) := by decide +kernel
theorem d_M_findAnswers_128 : decode c_M_findAnswers 128 = .ok (.iastore, 1) := by decide +kernel
theorem d_M_findAnswers_129 : decode c_M_findAnswers 129 = .ok (.iload_n 3, 1) := by decide +kernel
theorem d_M_findAnswers_130 : decode c_M_findAnswers 130 = .ok (.bipush 17, 2) := by decide +kernel
theorem d_M_findAnswers_132 : decode c_M_findAnswers 132 = .ok (.if_icmp .ne 6, 3) := by decide +kernel
theorem d_M_findAnswers_135 : decode c_M_findAnswers 135 = .ok (.goto 13, 3) := by decide +kernel
theorem d_M_findAnswers_138 : decode c_M_findAnswers 138 = .ok (.aload_n 0, 1) := by decide +kernel
theorem d_M_findAnswers_139 : decode c_M_findAnswers 139 = .ok (.iload_n 1, 1) := by decide +kernel
theorem d_M_findAnswers_140 : decode c_M_findAnswers 140 = .ok (.iload_n 3, 1) := by decide +kernel
theorem d_M_findAnswers_141 : decode c_M_findAnswers 141 = .ok (.iload_n 2, 1) := by decide +kernel
theorem d_M_findAnswers_142 : decode c_M_findAnswers 142 = .ok (.invokevirtual 107, 3) := by decide +kernel
theorem d_M_findAnswers_145 : decode c_M_findAnswers 145 = .ok (.iinc 1 1, 3) := by decide +kernel
theorem d_M_findAnswers_148 : decode c_M_findAnswers 148 = .ok (.iinc 2 1, 3) := by decide +kernel
theorem d_M_findAnswers_151 : decode c_M_findAnswers 151 = .ok (.goto (-75), 3) := by decide +kernel
theorem d_M_findAnswers_154 : decode c_M_findAnswers 154 = .ok (.aload_n 0, 1) := by decide +kernel
theorem d_M_findAnswers_155 : decode c_M_findAnswers 155 = .ok (.iconst 0, 1) := by decide +kernel
theorem d_M_findAnswers_156 : decode c_M_findAnswers 156 = .ok (.putfield 111, 3) := by decide +kernel
theorem d_M_findAnswers_159 : decode c_M_findAnswers 159 = .ok (.bipush 12, 2) := by decide +kernel
theorem d_M_findAnswers_161 : decode c_M_findAnswers 161 = .ok (.istore_n 2, 1) := by decide +kernel
theorem d_M_findAnswers_162 : decode c_M_findAnswers 162 = .ok (.iload_n 2, 1) := by decide +kernel
theorem d_M_findAnswers_163 : decode c_M_findAnswers 163 = .ok (.ifCond .lt 103, 3) := by decide +kernel
theorem d_M_findAnswers_166 : decode c_M_findAnswers 166 = .ok (.aload_n 0, 1) := by decide +kernel
theorem d_M_findAnswers_167 : decode c_M_findAnswers 167 = .ok (.getfield 25, 3) := by decide +kernel
theorem d_M_findAnswers_170 : decode c_M_findAnswers 170 = .ok (.iload_n 2, 1) := by decide +kernel
theorem d_M_findAnswers_171 : decode c_M_findAnswers 171 = .ok (.iaload, 1) := by decide +kernel
theorem d_M_findAnswers_172 : decode c_M_findAnswers 172 = .ok (.iconst (-1), 1) := by decide +kernel
theorem d_M_findAnswers_173 : decode c_M_findAnswers 173 = .ok (.if_icmp .eq 6, 3) := by decide +kernel
theorem d_M_findAnswers_176 : decode c_M_findAnswers 176 = .ok (.goto 84, 3) := by decide +kernel
theorem d_M_findAnswers_179 : decode c_M_findAnswers 179 = .ok (.iconst 0, 1) := by decide +kernel
theorem d_M_findAnswers_180 : decode c_M_findAnswers 180 = .ok (.istore_n 3, 1) := by decide +kernel
theorem d_M_findAnswers_181 : decode c_M_findAnswers 181 = .ok (.iload_n 3, 1) := by decide +kernel
theorem d_M_findAnswers_182 : decode c_M_findAnswers 182 = .ok (.bipush 12, 2) := by decide +kernel
theorem d_M_findAnswers_184 : decode c_M_findAnswers 184 = .ok (.if_icmp .gt 66, 3) := by decide +kernel
theorem d_M_findAnswers_187 : decode c_M_findAnswers 187 = .ok (.aload_n 0, 1) := by decide +kernel
theorem d_M_findAnswers_188 : decode c_M_findAnswers 188 = .ok (.getfield 29, 3) := by decide +kernel
theorem d_M_findAnswers_191 : decode c_M_findAnswers 191 = .ok (.bipush 13, 2) := by decide +kernel
theorem d_M_findAnswers_193 : decode c_M_findAnswers 193 = .ok (.aload_n 0, 1) := by decide +kernel
theorem d_M_findAnswers_194 : decode c_M_findAnswers 194 = .ok (.getfield 111, 3) := by decide +kernel
theorem d_M_findAnswers_197 : decode c_M_findAnswers 197 = .ok (.imul, 1) := by decide +kernel
theorem d_M_findAnswers_198 : decode c_M_findAnswers 198 = .ok (.iload_n 3, 1) := by decide +kernel
theorem d_M_findAnswers_199 : decode c_M_findAnswers 199 = .ok (.iadd, 1) := by decide +kernel
theorem d_M_findAnswers_200 : decode c_M_findAnswers 200 = .ok (.iload_n 3, 1) := by decide +kernel
theorem d_M_findAnswers_201 : decode c_M_findAnswers 201 = .ok (.iload_n 2, 1) := by decide +kernel
theorem d_M_findAnswers_202 : decode c_M_findAnswers 202 = .ok (.if_icmp .ne 7, 3) := by decide +kernel
theorem d_M_findAnswers_205 : decode c_M_findAnswers 205 = .ok (.lconst 1, 1) := by decide +kernel
theorem d_M_findAnswers_206 : decode c_M_findAnswers 206 = .ok (.goto 37, 3) := by decide +kernel
theorem d_M_findAnswers_209 : decode c_M_findAnswers 209 = .ok (.aload_n 0, 1) := by decide +kernel
theorem d_M_findAnswers_210 : decode c_M_findAnswers 210 = .ok (.getfield 25, 3) := by decide +kernel
theorem d_M_findAnswers_213 : decode c_M_findAnswers 213 = .ok (.iload_n 3, 1) := by decide +kernel
theorem d_M_findAnswers_214 : decode c_M_findAnswers 214 = .ok (.iaload, 1) := by decide +kernel
theorem d_M_findAnswers_215 : decode c_M_findAnswers 215 = .ok (.iconst (-1), 1) := by decide +kernel
theorem d_M_findAnswers_216 : decode c_M_findAnswers 216 = .ok (.if_icmp .ne 7, 3) := by decide +kernel
theorem d_M_findAnswers_219 : decode c_M_findAnswers 219 = .ok (.lconst 0, 1) := by decide +kernel
theorem d_M_findAnswers_220 : decode c_M_findAnswers 220 = .ok (.goto 23, 3) := by decide +kernel
theorem d_M_findAnswers_223 : decode c_M_findAnswers 223 = .ok (.aload_n 0, 1) := by decide +kernel
theorem d_M_findAnswers_224 : decode c_M_findAnswers 224 = .ok (.getfield 22, 3) := by decide +kernel
theorem d_M_findAnswers_227 : decode c_M_findAnswers 227 = .ok (.bipush 13, 2) := by decide +kernel
theorem d_M_findAnswers_229 : decode c_M_findAnswers 229 = .ok (.aload_n 0, 1) := by decide +kernel
theorem d_M_findAnswers_230 : decode c_M_findAnswers 230 = .ok (.getfield 25, 3) := by decide +kernel
theorem d_M_findAnswers_233 : decode c_M_findAnswers 233 = .ok (.iload_n 3, 1) := by decide +kernel
theorem d_M_findAnswers_234 : decode c_M_findAnswers 234 = .ok (.iaload, 1) := by decide +kernel
theorem d_M_findAnswers_235 : decode c_M_findAnswers 235 = .ok (.imul, 1) := by decide +kernel
theorem d_M_findAnswers_236 : decode c_M_findAnswers 236 = .ok (.iload_n 2, 1) := by decide +kernel
theorem d_M_findAnswers_237 : decode c_M_findAnswers 237 = .ok (.iadd, 1) := by decide +kernel
theorem d_M_findAnswers_238 : decode c_M_findAnswers 238 = .ok (.laload, 1) := by decide +kernel
theorem d_M_findAnswers_239 : decode c_M_findAnswers 239 = .ok (.lneg, 1) := by decide +kernel
theorem d_M_findAnswers_240 : decode c_M_findAnswers 240 = .ok (.invokestatic 47, 3) := by decide +kernel
theorem d_M_findAnswers_243 : decode c_M_findAnswers 243 = .ok (.lastore, 1) := by decide +kernel
theorem d_M_findAnswers_244 : decode c_M_findAnswers 244 = .ok (.iinc 3 1, 3) := by decide +kernel
theorem d_M_findAnswers_247 : decode c_M_findAnswers 247 = .ok (.goto (-66), 3) := by decide +kernel
theorem d_M_findAnswers_250 : decode c_M_findAnswers 250 = .ok (.aload_n 0, 1) := by decide +kernel
theorem d_M_findAnswers_251 : decode c_M_findAnswers 251 = .ok (.dup, 1) := by decide +kernel
theorem d_M_findAnswers_252 : decode c_M_findAnswers 252 = .ok (.getfield 111, 3) := by decide +kernel
theorem d_M_findAnswers_255 : decode c_M_findAnswers 255 = .ok (.iconst 1, 1) := by decide +kernel
theorem d_M_findAnswers_256 : decode c_M_findAnswers 256 = .ok (.iadd, 1) := by decide +kernel
theorem d_M_findAnswers_257 : decode c_M_findAnswers 257 = .ok (.putfield 111, 3) := by decide +kernel
theorem d_M_findAnswers_260 : decode c_M_findAnswers 260 = .ok (.iinc 2 (-1), 3) := by decide +kernel
theorem d_M_findAnswers_263 : decode c_M_findAnswers 263 = .ok (.goto (-101), 3) := by decide +kernel
theorem d_M_findAnswers_266 : decode c_M_findAnswers 266 = .ok (.return_, 1) := by decide +kernel
theorem d_M_bringOut_0 : decode c_M_bringOut 0 = .ok (.iconst 0, 1) := by decide +kernel
theorem d_M_bringOut_1 : decode c_M_bringOut 1 = .ok (.istore 4, 2) := by decide +kernel
theorem d_M_bringOut_3 : decode c_M_bringOut 3 = .ok (.iload 4, 2) := by decide +kernel
theorem d_M_bringOut_5 : decode c_M_bringOut 5 = .ok (.bipush 12, 2) := by decide +kernel
theorem d_M_bringOut_7 : decode c_M_bringOut 7 = .ok (.if_icmp .gt 61, 3) := by decide +kernel
theorem d_M_bringOut_10 : decode c_M_bringOut 10 = .ok (.aload_n 0, 1) := by decide +kernel
theorem d_M_bringOut_11 : decode c_M_bringOut 11 = .ok (.getfield 22, 3) := by decide +kernel
theorem d_M_bringOut_14 : decode c_M_bringOut 14 = .ok (.bipush 13, 2) := by decide +kernel
theorem d_M_bringOut_16 : decode c_M_bringOut 16 = .ok (.iload_n 2, 1) := by decide +kernel
theorem d_M_bringOut_17 : decode c_M_bringOut 17 = .ok (.imul, 1) := by decide +kernel
theorem d_M_bringOut_18 : decode c_M_bringOut 18 = .ok (.iload 4, 2) := by decide +kernel
theorem d_M_bringOut_20 : decode c_M_bringOut 20 = .ok (.iadd, 1) := by decide +kernel
theorem d_M_bringOut_21 : decode c_M_bringOut 21 = .ok (.laload, 1) := by decide +kernel
theorem d_M_bringOut_22 : decode c_M_bringOut 22 = .ok (.lstore 5, 2) := by decide +kernel
theorem d_M_bringOut_24 : decode c_M_bringOut 24 = .ok (.aload_n 0, 1) := by decide +kernel
theorem d_M_bringOut_25 : decode c_M_bringOut 25 = .ok (.getfield 22, 3) := by decide +kernel
theorem d_M_bringOut_28 : decode c_M_bringOut 28 = .ok (.bipush 13, 2) := by decide +kernel
theorem d_M_bringOut_30 : decode c_M_bringOut 30 = .ok (.iload_n 2, 1) := by decide +kernel
theorem d_M_bringOut_31 : decode c_M_bringOut 31 = .ok (.imul, 1) := by decide +kernel
theorem d_M_bringOut_32 : decode c_M_bringOut 32 = .ok (.iload 4, 2) := by decide +kernel
theorem d_M_bringOut_34 : decode c_M_bringOut 34 = .ok (.iadd, 1) := by decide +kernel
theorem d_M_bringOut_35 : decode c_M_bringOut 35 = .ok (.aload_n 0, 1) := by decide +kernel
theorem d_M_bringOut_36 : decode c_M_bringOut 36 = .ok (.getfield 22, 3) := by decide +kernel
theorem d_M_bringOut_39 : decode c_M_bringOut 39 = .ok (.bipush 13, 2) := by decide +kernel
theorem d_M_bringOut_41 : decode c_M_bringOut 41 = .ok (.iload_n 1, 1) := by decide +kernel
theorem d_M_bringOut_42 : decode c_M_bringOut 42 = .ok (.imul, 1) := by decide +kernel
theorem d_M_bringOut_43 : decode c_M_bringOut 43 = .ok (.iload 4, 2) := by decide +kernel
theorem d_M_bringOut_45 : decode c_M_bringOut 45 = .ok (.iadd, 1) := by decide +kernel
theorem d_M_bringOut_46 : decode c_M_bringOut 46 = .ok (.laload, 1) := by decide +kernel
theorem d_M_bringOut_47 : decode c_M_bringOut 47 = .ok (.lastore, 1) := by decide +kernel
theorem d_M_bringOut_48 : decode c_M_bringOut 48 = .ok (.aload_n 0, 1) := by decide +kernel
theorem d_M_bringOut_49 : decode c_M_bringOut 49 = .ok (.getfield 22, 3) := by decide +kernel
theorem d_M_bringOut_52 : decode c_M_bringOut 52 = .ok (.bipush 13, 2) := by decide +kernel
theorem d_M_bringOut_54 : decode c_M_bringOut 54 = .ok (.iload_n 1, 1) := by decide +kernel
theorem d_M_bringOut_55 : decode c_M_bringOut 55 = .ok (.imul, 1) := by decide +kernel
theorem d_M_bringOut_56 : decode c_M_bringOut 56 = .ok (.iload 4, 2) := by decide +kernel
theorem d_M_bringOut_58 : decode c_M_bringOut 58 = .ok (.iadd, 1) := by decide +kernel
theorem d_M_bringOut_59 : decode c_M_bringOut 59 = .ok (.lload 5, 2) := by decide +kernel
theorem d_M_bringOut_61 : decode c_M_bringOut 61 = .ok (.lastore, 1) := by decide +kernel
theorem d_M_bringOut_62 : decode c_M_bringOut 62 = .ok (.iinc 4 1, 3) := by decide +kernel
theorem d_M_bringOut_65 : decode c_M_bringOut 65 = .ok (.goto (-62), 3) := by decide +kernel
theorem d_M_bringOut_68 : decode c_M_bringOut 68 = .ok (.aload_n 0, 1) := by decide +kernel
theorem d_M_bringOut_69 : decode c_M_bringOut 69 = .ok (.getfield 22, 3) := by decide +kernel
theorem d_M_bringOut_72 : decode c_M_bringOut 72 = .ok (.bipush 13, 2) := by decide +kernel
theorem d_M_bringOut_74 : decode c_M_bringOut 74 = .ok (.iload_n 1, 1) := by decide +kernel
theorem d_M_bringOut_75 : decode c_M_bringOut 75 = .ok (.imul, 1) := by decide +kernel
theorem d_M_bringOut_76 : decode c_M_bringOut 76 = .ok (.iload_n 3, 1) := by decide +kernel
theorem d_M_bringOut_77 : decode c_M_bringOut 77 = .ok (.iadd, 1) := by decide +kernel
theorem d_M_bringOut_78 : decode c_M_bringOut 78 = .ok (.laload, 1) := by decide +kernel
theorem d_M_bringOut_79 : decode c_M_bringOut 79 = .ok (.invokestatic 114, 3) := by decide +kernel
theorem d_M_bringOut_82 : decode c_M_bringOut 82 = .ok (.lstore 4, 2) := by decide +kernel
theorem d_M_bringOut_84 : decode c_M_bringOut 84 = .ok (.iconst 0, 1) := by decide +kernel
theorem d_M_bringOut_85 : decode c_M_bringOut 85 = .ok (.istore 6, 2) := by decide +kernel
theorem d_M_bringOut_87 : decode c_M_bringOut 87 = .ok (.iload 6, 2) := by decide +kernel
theorem d_M_bringOut_89 : decode c_M_bringOut 89 = .ok (.bipush 12, 2) := by decide +kernel
theorem d_M_bringOut_91 : decode c_M_bringOut 91 = .ok (.if_icmp .gt 40, 3) := by decide +kernel
theorem d_M_bringOut_94 : decode c_M_bringOut 94 = .ok (.aload_n 0, 1) := by decide +kernel
theorem d_M_bringOut_95 : decode c_M_bringOut 95 = .ok (.getfield 22, 3) := by decide +kernel
theorem d_M_bringOut_98 : decode c_M_bringOut 98 = .ok (.bipush 13, 2) := by decide +kernel
theorem d_M_bringOut_100 : decode c_M_bringOut 100 = .ok (.iload_n 1, 1) := by decide +kernel
theorem d_M_bringOut_101 : decode c_M_bringOut 101 = .ok (.imul, 1) := by decide +kernel
theorem d_M_bringOut_102 : decode c_M_bringOut 102 = .ok (.iload 6, 2) := by decide +kernel
theorem d_M_bringOut_104 : decode c_M_bringOut 104 = .ok (.iadd, 1) := by decide +kernel
theorem d_M_bringOut_105 : decode c_M_bringOut 105 = .ok (.aload_n 0, 1) := by decide +kernel
theorem d_M_bringOut_106 : decode c_M_bringOut 106 = .ok (.getfield 22, 3) := by decide +kernel
theorem d_M_bringOut_109 : decode c_M_bringOut 109 = .ok (.bipush 13, 2) := by decide +kernel
theorem d_M_bringOut_111 : decode c_M_bringOut 111 = .ok (.iload_n 1, 1) := by decide +kernel
theorem d_M_bringOut_112 : decode c_M_bringOut 112 = .ok (.imul, 1) := by decide +kernel
theorem d_M_bringOut_113 : decode c_M_bringOut 113 = .ok (.iload 6, 2) := by decide +kernel
theorem d_M_bringOut_115 : decode c_M_bringOut 115 = .ok (.iadd, 1) := by decide +kernel
theorem d_M_bringOut_116 : decode c_M_bringOut 116 = .ok (.laload, 1) := by decide +kernel
theorem d_M_bringOut_117 : decode c_M_bringOut 117 = .ok (.lload 4, 2) := by decide +kernel
theorem d_M_bringOut_119 : decode c_M_bringOut 119 = .ok (.lmul, 1) := by decide +kernel
theorem d_M_bringOut_120 : decode c_M_bringOut 120 = .ok (.ldc2_w 45, 3) := by decide +kernel
theorem d_M_bringOut_123 : decode c_M_bringOut 123 = .ok (.lrem, 1) := by decide +kernel
theorem d_M_bringOut_124 : decode c_M_bringOut 124 = .ok (.lastore, 1) := by decide +kernel
theorem d_M_bringOut_125 : decode c_M_bringOut 125 = .ok (.iinc 6 1, 3) := by decide +kernel
theorem d_M_bringOut_128 : decode c_M_bringOut 128 = .ok (.goto (-41), 3) := by decide +kernel
theorem d_M_bringOut_131 : decode c_M_bringOut 131 = .ok (.iconst 0, 1) := by decide +kernel
theorem d_M_bringOut_132 : decode c_M_bringOut 132 = .ok (.istore 6, 2) := by decide +kernel
theorem d_M_bringOut_134 : decode c_M_bringOut 134 = .ok (.iload 6, 2) := by decide +kernel
theorem d_M_bringOut_136 : decode c_M_bringOut 136 = .ok (.bipush 17, 2) := by decide +kernel
theorem d_M_bringOut_138 : decode c_M_bringOut 138 = .ok (.if_icmp .ge 101, 3) := by decide +kernel
theorem d_M_bringOut_141 : decode c_M_bringOut 141 = .ok (.iload 6, 2) := by decide +kernel
theorem d_M_bringOut_143 : decode c_M_bringOut 143 = .ok (.iload_n 1, 1) := by decide +kernel
theorem d_M_bringOut_144 : decode c_M_bringOut 144 = .ok (.if_icmp .ne 7, 3) := by decide +kernel
theorem d_M_bringOut_147 : decode c_M_bringOut 147 = .ok (.lconst 0, 1) := by decide +kernel
theorem d_M_bringOut_148 : decode c_M_bringOut 148 = .ok (.goto 15, 3) := by decide +kernel
theorem d_M_bringOut_151 : decode c_M_bringOut 151 = .ok (.aload_n 0, 1) := by decide +kernel
theorem d_M_bringOut_152 : decode c_M_bringOut 152 = .ok (.getfield 22, 3) := by decide +kernel
theorem d_M_bringOut_155 : decode c_M_bringOut 155 = .ok (.bipush 13, 2) := by decide +kernel
theorem d_M_bringOut_157 : decode c_M_bringOut 157 = .ok (.iload 6, 2) := by decide +kernel
theorem d_M_bringOut_159 : decode c_M_bringOut 159 = .ok (.imul, 1) := by decide +kernel
theorem d_M_bringOut_160 : decode c_M_bringOut 160 = .ok (.iload_n 3, 1) := by decide +kernel
theorem d_M_bringOut_161 : decode c_M_bringOut 161 = .ok (.iadd, 1) := by decide +kernel
theorem d_M_bringOut_162 : decode c_M_bringOut 162 = .ok (.laload, 1) := by decide +kernel
theorem d_M_bringOut_163 : decode c_M_bringOut 163 = .ok (.lstore 7, 2) := by decide +kernel
theorem d_M_bringOut_165 : decode c_M_bringOut 165 = .ok (.iconst 0, 1) := by decide +kernel
theorem d_M_bringOut_166 : decode c_M_bringOut 166 = .ok (.istore 9, 2) := by decide +kernel
theorem d_M_bringOut_168 : decode c_M_bringOut 168 = .ok (.iload 9, 2) := by decide +kernel
theorem d_M_bringOut_170 : decode c_M_bringOut 170 = .ok (.bipush 12, 2) := by decide +kernel
theorem d_M_bringOut_172 : decode c_M_bringOut 172 = .ok (.if_icmp .gt 61, 3) := by decide +kernel
theorem d_M_bringOut_175 : decode c_M_bringOut 175 = .ok (.lload 7, 2) := by decide +kernel
theorem d_M_bringOut_177 : decode c_M_bringOut 177 = .ok (.lconst 0, 1) := by decide +kernel
theorem d_M_bringOut_178 : decode c_M_bringOut 178 = .ok (.lcmp, 1) := by decide +kernel
theorem d_M_bringOut_179 : decode c_M_bringOut 179 = .ok (.ifCond .le 54, 3) := by decide +kernel
theorem d_M_bringOut_182 : decode c_M_bringOut 182 = .ok (.aload_n 0, 1) := by decide +kernel
theorem d_M_bringOut_183 : decode c_M_bringOut 183 = .ok (.getfield 22, 3) := by decide +kernel
theorem d_M_bringOut_186 : decode c_M_bringOut 186 = .ok (.bipush 13, 2) := by decide +kernel
theorem d_M_bringOut_188 : decode c_M_bringOut 188 = .ok (.iload 6, 2) := by decide +kernel
theorem d_M_bringOut_190 : decode c_M_bringOut 190 = .ok (.imul, 1) := by decide +kernel
theorem d_M_bringOut_191 : decode c_M_bringOut 191 = .ok (.iload 9, 2) := by decide +kernel
theorem d_M_bringOut_193 : decode c_M_bringOut 193 = .ok (.iadd, 1) := by decide +kernel
theorem d_M_bringOut_194 : decode c_M_bringOut 194 = .ok (.aload_n 0, 1) := by decide +kernel
theorem d_M_bringOut_195 : decode c_M_bringOut 195 = .ok (.getfield 22, 3) := by decide +kernel
theorem d_M_bringOut_198 : decode c_M_bringOut 198 = .ok (.bipush 13, 2) := by decide +kernel
theorem d_M_bringOut_200 : decode c_M_bringOut 200 = .ok (.iload 6, 2) := by decide +kernel
theorem d_M_bringOut_202 : decode c_M_bringOut 202 = .ok (.imul, 1) := by decide +kernel
theorem d_M_bringOut_203 : decode c_M_bringOut 203 = .ok (.iload 9, 2) := by decide +kernel
theorem d_M_bringOut_205 : decode c_M_bringOut 205 = .ok (.iadd, 1) := by decide +kernel
theorem d_M_bringOut_206 : decode c_M_bringOut 206 = .ok (.laload, 1) := by decide +kernel
theorem d_M_bringOut_207 : decode c_M_bringOut 207 = .ok (.lload 7, 2) := by decide +kernel
theorem d_M_bringOut_209 : decode c_M_bringOut 209 = .ok (.aload_n 0, 1) := by decide +kernel
theorem d_M_bringOut_210 : decode c_M_bringOut 210 = .ok (.getfield 22, 3) := by decide +kernel
theorem d_M_bringOut_213 : decode c_M_bringOut 213 = .ok (.bipush 13, 2) := by decide +kernel
theorem d_M_bringOut_215 : decode c_M_bringOut 215 = .ok (.iload_n 1, 1) := by decide +kernel
theorem d_M_bringOut_216 : decode c_M_bringOut 216 = .ok (.imul, 1) := by decide +kernel
theorem d_M_bringOut_217 : decode c_M_bringOut 217 = .ok (.iload 9, 2) := by decide +kernel
theorem d_M_bringOut_219 : decode c_M_bringOut 219 = .ok (.iadd, 1) := by decide +kernel
theorem d_M_bringOut_220 : decode c_M_bringOut 220 = .ok (.laload, 1) := by decide +kernel
theorem d_M_bringOut_221 : decode c_M_bringOut 221 = .ok (.lmul, 1) := by decide +kernel
theorem d_M_bringOut_222 : decode c_M_bringOut 222 = .ok (.lsub, 1) := by decide +kernel
theorem d_M_bringOut_223 : decode c_M_bringOut 223 = .ok (.invokestatic 47, 3) := by decide +kernel
theorem d_M_bringOut_226 : decode c_M_bringOut 226 = .ok (.lastore, 1) := by decide +kernel
theorem d_M_bringOut_227 : decode c_M_bringOut 227 = .ok (.iinc 9 1, 3) := by decide +kernel
theorem d_M_bringOut_230 : decode c_M_bringOut 230 = .ok (.goto (-62), 3) := by decide +kernel
theorem d_M_bringOut_233 : decode c_M_bringOut 233 = .ok (.iinc 6 1, 3) := by decide +kernel
theorem d_M_bringOut_236 : decode c_M_bringOut 236 = .ok (.goto (-102), 3) := by decide +kernel
theorem d_M_bringOut_239 : decode c_M_bringOut 239 = .ok (.return_, 1) := by decide +kernel
theorem d_M_answers_0 : decode c_M_answers 0 = .ok (.aload_n 0, 1) := by decide +kernel
theorem d_M_answers_1 : decode c_M_answers 1 = .ok (.iconst 0, 1) := by decide +kernel
theorem d_M_answers_2 : decode c_M_answers 2 = .ok (.putfield 42, 3) := by decide +kernel
theorem d_M_answers_5 : decode c_M_answers 5 = .ok (.aload_n 0, 1) := by decide +kernel
theorem d_M_answers_6 : decode c_M_answers 6 = .ok (.invokevirtual 117, 3) := by decide +kernel
theorem d_M_answers_9 : decode c_M_answers 9 = .ok (.aload_n 0, 1) := by decide +kernel
theorem d_M_answers_10 : decode c_M_answers 10 = .ok (.getfield 111, 3) := by decide +kernel
theorem d_M_answers_13 : decode c_M_answers 13 = .ok (.ireturn, 1) := by decide +kernel
theorem d_M_isMember_0 : decode c_M_isMember 0 = .ok (.aload_n 0, 1) := by decide +kernel
theorem d_M_isMember_1 : decode c_M_isMember 1 = .ok (.invokevirtual 117, 3) := by decide +kernel
theorem d_M_isMember_4 : decode c_M_isMember 4 = .ok (.aload_n 0, 1) := by decide +kernel
theorem d_M_isMember_5 : decode c_M_isMember 5 = .ok (.iload_n 1, 1) := by decide +kernel
theorem d_M_isMember_6 : decode c_M_isMember 6 = .ok (.i2l, 1) := by decide +kernel
theorem d_M_isMember_7 : decode c_M_isMember 7 = .ok (.lconst 0, 1) := by decide +kernel
theorem d_M_isMember_8 : decode c_M_isMember 8 = .ok (.aload_n 0, 1) := by decide +kernel
theorem d_M_isMember_9 : decode c_M_isMember 9 = .ok (.getfield 111, 3) := by decide +kernel
theorem d_M_isMember_12 : decode c_M_isMember 12 = .ok (.iconst 1, 1) := by decide +kernel
theorem d_M_isMember_13 : decode c_M_isMember 13 = .ok (.isub, 1) := by decide +kernel
theorem d_M_isMember_14 : decode c_M_isMember 14 = .ok (.i2l, 1) := by decide +kernel
theorem d_M_isMember_15 : decode c_M_isMember 15 = .ok (.invokestatic 51, 3) := by decide +kernel
theorem d_M_isMember_18 : decode c_M_isMember 18 = .ok (.ifCond .eq 19, 3) := by decide +kernel
theorem d_M_isMember_21 : decode c_M_isMember 21 = .ok (.iload_n 2, 1) := by decide +kernel
theorem d_M_isMember_22 : decode c_M_isMember 22 = .ok (.i2l, 1) := by decide +kernel
theorem d_M_isMember_23 : decode c_M_isMember 23 = .ok (.lconst 0, 1) := by decide +kernel
theorem d_M_isMember_24 : decode c_M_isMember 24 = .ok (.ldc2_w 71, 3) := by decide +kernel
theorem d_M_isMember_27 : decode c_M_isMember 27 = .ok (.invokestatic 51, 3) := by decide +kernel
theorem d_M_isMember_30 : decode c_M_isMember 30 = .ok (.ifCond .eq 7, 3) := by decide +kernel
theorem d_M_isMember_33 : decode c_M_isMember 33 = .ok (.iconst 0, 1) := by decide +kernel
theorem d_M_isMember_34 : decode c_M_isMember 34 = .ok (.goto 4, 3) := by decide +kernel
theorem d_M_isMember_37 : decode c_M_isMember 37 = .ok (.iconst 1, 1) := by decide +kernel
theorem d_M_isMember_38 : decode c_M_isMember 38 = .ok (.putfield 42, 3) := by decide +kernel
theorem d_M_isMember_41 : decode c_M_isMember 41 = .ok (.aload_n 0, 1) := by decide +kernel
theorem d_M_isMember_42 : decode c_M_isMember 42 = .ok (.getfield 42, 3) := by decide +kernel
theorem d_M_isMember_45 : decode c_M_isMember 45 = .ok (.ifCond .ne 7, 3) := by decide +kernel
theorem d_M_isMember_48 : decode c_M_isMember 48 = .ok (.iconst 1, 1) := by decide +kernel
theorem d_M_isMember_49 : decode c_M_isMember 49 = .ok (.goto 4, 3) := by decide +kernel
theorem d_M_isMember_52 : decode c_M_isMember 52 = .ok (.iconst 0, 1) := by decide +kernel
theorem d_M_isMember_53 : decode c_M_isMember 53 = .ok (.ireturn, 1) := by decide +kernel
theorem d_M_answer_0 : decode c_M_answer 0 = .ok (.aload_n 0, 1) := by decide +kernel
theorem d_M_answer_1 : decode c_M_answer 1 = .ok (.iload_n 1, 1) := by decide +kernel
theorem d_M_answer_2 : decode c_M_answer 2 = .ok (.iload_n 2, 1) := by decide +kernel
theorem d_M_answer_3 : decode c_M_answer 3 = .ok (.invokevirtual 120, 3) := by decide +kernel
theorem d_M_answer_6 : decode c_M_answer 6 = .ok (.ifCond .eq 18, 3) := by decide +kernel
theorem d_M_answer_9 : decode c_M_answer 9 = .ok (.aload_n 0, 1) := by decide +kernel
theorem d_M_answer_10 : decode c_M_answer 10 = .ok (.getfield 29, 3) := by decide +kernel
theorem d_M_answer_13 : decode c_M_answer 13 = .ok (.bipush 13, 2) := by decide +kernel
theorem d_M_answer_15 : decode c_M_answer 15 = .ok (.iload_n 1, 1) := by decide +kernel
theorem d_M_answer_16 : decode c_M_answer 16 = .ok (.imul, 1) := by decide +kernel
theorem d_M_answer_17 : decode c_M_answer 17 = .ok (.iload_n 2, 1) := by decide +kernel
theorem d_M_answer_18 : decode c_M_answer 18 = .ok (.iadd, 1) := by decide +kernel
theorem d_M_answer_19 : decode c_M_answer 19 = .ok (.laload, 1) := by decide +kernel
theorem d_M_answer_20 : decode c_M_answer 20 = .ok (.l2i, 1) := by decide +kernel
theorem d_M_answer_21 : decode c_M_answer 21 = .ok (.goto 4, 3) := by decide +kernel
theorem d_M_answer_24 : decode c_M_answer 24 = .ok (.iconst 0, 1) := by decide +kernel
theorem d_M_answer_25 : decode c_M_answer 25 = .ok (.ireturn, 1) := by decide +kernel
theorem d_M_take_0 : decode c_M_take 0 = .ok (.aload_n 0, 1) := by decide +kernel
theorem d_M_take_1 : decode c_M_take 1 = .ok (.iload_n 1, 1) := by decide +kernel
theorem d_M_take_2 : decode c_M_take 2 = .ok (.iconst 0, 1) := by decide +kernel
theorem d_M_take_3 : decode c_M_take 3 = .ok (.invokevirtual 120, 3) := by decide +kernel
theorem d_M_take_6 : decode c_M_take 6 = .ok (.ifCond .ne 4, 3) := by decide +kernel
theorem d_M_take_9 : decode c_M_take 9 = .ok (.return_, 1) := by decide +kernel
theorem d_M_take_10 : decode c_M_take 10 = .ok (.iconst 0, 1) := by decide +kernel
theorem d_M_take_11 : decode c_M_take 11 = .ok (.istore_n 2, 1) := by decide +kernel
theorem d_M_take_12 : decode c_M_take 12 = .ok (.iload_n 2, 1) := by decide +kernel
theorem d_M_take_13 : decode c_M_take 13 = .ok (.bipush 12, 2) := by decide +kernel
theorem d_M_take_15 : decode c_M_take 15 = .ok (.if_icmp .gt 26, 3) := by decide +kernel
theorem d_M_take_18 : decode c_M_take 18 = .ok (.aload_n 0, 1) := by decide +kernel
theorem d_M_take_19 : decode c_M_take 19 = .ok (.getfield 13, 3) := by decide +kernel
theorem d_M_take_22 : decode c_M_take 22 = .ok (.iload_n 2, 1) := by decide +kernel
theorem d_M_take_23 : decode c_M_take 23 = .ok (.aload_n 0, 1) := by decide +kernel
theorem d_M_take_24 : decode c_M_take 24 = .ok (.getfield 29, 3) := by decide +kernel
theorem d_M_take_27 : decode c_M_take 27 = .ok (.bipush 13, 2) := by decide +kernel
theorem d_M_take_29 : decode c_M_take 29 = .ok (.iload_n 1, 1) := by decide +kernel
theorem d_M_take_30 : decode c_M_take 30 = .ok (.imul, 1) := by decide +kernel
theorem d_M_take_31 : decode c_M_take 31 = .ok (.iload_n 2, 1) := by decide +kernel
theorem d_M_take_32 : decode c_M_take 32 = .ok (.iadd, 1) := by decide +kernel
theorem d_M_take_33 : decode c_M_take 33 = .ok (.laload, 1) := by decide +kernel
theorem d_M_take_34 : decode c_M_take 34 = .ok (.lastore, 1) := by decide +kernel
theorem d_M_take_35 : decode c_M_take 35 = .ok (.iinc 2 1, 3) := by decide +kernel
theorem d_M_take_38 : decode c_M_take 38 = .ok (.goto (-26), 3) := by decide +kernel
theorem d_M_take_41 : decode c_M_take 41 = .ok (.return_, 1) := by decide +kernel
theorem d_M_series_0 : decode c_M_series 0 = .ok (.iload 9, 2) := by decide +kernel
theorem d_M_series_2 : decode c_M_series 2 = .ok (.i2l, 1) := by decide +kernel
theorem d_M_series_3 : decode c_M_series 3 = .ok (.lconst 0, 1) := by decide +kernel
theorem d_M_series_4 : decode c_M_series 4 = .ok (.ldc2_w 123, 3) := by decide +kernel
theorem d_M_series_7 : decode c_M_series 7 = .ok (.invokestatic 51, 3) := by decide +kernel
theorem d_M_series_10 : decode c_M_series 10 = .ok (.ifCond .ne 9, 3) := by decide +kernel
theorem d_M_series_13 : decode c_M_series 13 = .ok (.aload_n 0, 1) := by decide +kernel
theorem d_M_series_14 : decode c_M_series 14 = .ok (.iconst 1, 1) := by decide +kernel
theorem d_M_series_15 : decode c_M_series 15 = .ok (.invokevirtual 93, 3) := by decide +kernel
theorem d_M_series_18 : decode c_M_series 18 = .ok (.ireturn, 1) := by decide +kernel
theorem d_M_series_19 : decode c_M_series 19 = .ok (.aload_n 0, 1) := by decide +kernel
theorem d_M_series_20 : decode c_M_series 20 = .ok (.lload_n 1, 1) := by decide +kernel
theorem d_M_series_21 : decode c_M_series 21 = .ok (.invokestatic 47, 3) := by decide +kernel
theorem d_M_series_24 : decode c_M_series 24 = .ok (.invokevirtual 61, 3) := by decide +kernel
theorem d_M_series_27 : decode c_M_series 27 = .ok (.aload_n 0, 1) := by decide +kernel
theorem d_M_series_28 : decode c_M_series 28 = .ok (.aload_n 0, 1) := by decide +kernel
theorem d_M_series_29 : decode c_M_series 29 = .ok (.getfield 19, 3) := by decide +kernel
theorem d_M_series_32 : decode c_M_series 32 = .ok (.iconst 5, 1) := by decide +kernel
theorem d_M_series_33 : decode c_M_series 33 = .ok (.aload_n 0, 1) := by decide +kernel
theorem d_M_series_34 : decode c_M_series 34 = .ok (.getfield 38, 3) := by decide +kernel
theorem d_M_series_37 : decode c_M_series 37 = .ok (.imul, 1) := by decide +kernel
theorem d_M_series_38 : decode c_M_series 38 = .ok (.laload, 1) := by decide +kernel
theorem d_M_series_39 : decode c_M_series 39 = .ok (.lconst 0, 1) := by decide +kernel
theorem d_M_series_40 : decode c_M_series 40 = .ok (.lcmp, 1) := by decide +kernel
theorem d_M_series_41 : decode c_M_series 41 = .ok (.ifCond .ne 7, 3) := by decide +kernel
theorem d_M_series_44 : decode c_M_series 44 = .ok (.iconst 2, 1) := by decide +kernel
theorem d_M_series_45 : decode c_M_series 45 = .ok (.goto 4, 3) := by decide +kernel
theorem d_M_series_48 : decode c_M_series 48 = .ok (.iconst 0, 1) := by decide +kernel
theorem d_M_series_49 : decode c_M_series 49 = .ok (.putfield 42, 3) := by decide +kernel
theorem d_M_series_52 : decode c_M_series 52 = .ok (.aload_n 0, 1) := by decide +kernel
theorem d_M_series_53 : decode c_M_series 53 = .ok (.getfield 42, 3) := by decide +kernel
theorem d_M_series_56 : decode c_M_series 56 = .ok (.ifCond .le 5, 3) := by decide +kernel
theorem d_M_series_59 : decode c_M_series 59 = .ok (.iconst 0, 1) := by decide +kernel
theorem d_M_series_60 : decode c_M_series 60 = .ok (.ireturn, 1) := by decide +kernel
theorem d_M_series_61 : decode c_M_series 61 = .ok (.aload_n 0, 1) := by decide +kernel
theorem d_M_series_62 : decode c_M_series 62 = .ok (.getfield 32, 3) := by decide +kernel
theorem d_M_series_65 : decode c_M_series 65 = .ok (.iconst 0, 1) := by decide +kernel
theorem d_M_series_66 : decode c_M_series 66 = .ok (.lload_n 3, 1) := by decide +kernel
theorem d_M_series_67 : decode c_M_series 67 = .ok (.invokestatic 47, 3) := by decide +kernel
theorem d_M_series_70 : decode c_M_series 70 = .ok (.lastore, 1) := by decide +kernel
theorem d_M_series_71 : decode c_M_series 71 = .ok (.aload_n 0, 1) := by decide +kernel
theorem d_M_series_72 : decode c_M_series 72 = .ok (.getfield 32, 3) := by decide +kernel
theorem d_M_series_75 : decode c_M_series 75 = .ok (.iconst 1, 1) := by decide +kernel
theorem d_M_series_76 : decode c_M_series 76 = .ok (.lload 5, 2) := by decide +kernel
theorem d_M_series_78 : decode c_M_series 78 = .ok (.invokestatic 47, 3) := by decide +kernel
theorem d_M_series_81 : decode c_M_series 81 = .ok (.lastore, 1) := by decide +kernel
theorem d_M_series_82 : decode c_M_series 82 = .ok (.aload_n 0, 1) := by decide +kernel
theorem d_M_series_83 : decode c_M_series 83 = .ok (.getfield 32, 3) := by decide +kernel
theorem d_M_series_86 : decode c_M_series 86 = .ok (.iconst 2, 1) := by decide +kernel
theorem d_M_series_87 : decode c_M_series 87 = .ok (.lload 7, 2) := by decide +kernel
theorem d_M_series_89 : decode c_M_series 89 = .ok (.invokestatic 47, 3) := by decide +kernel
theorem d_M_series_92 : decode c_M_series 92 = .ok (.lastore, 1) := by decide +kernel
theorem d_M_series_93 : decode c_M_series 93 = .ok (.aload_n 0, 1) := by decide +kernel
theorem d_M_series_94 : decode c_M_series 94 = .ok (.getfield 38, 3) := by decide +kernel
theorem d_M_series_97 : decode c_M_series 97 = .ok (.istore 10, 2) := by decide +kernel
theorem d_M_series_99 : decode c_M_series 99 = .ok (.iload 10, 2) := by decide +kernel
theorem d_M_series_101 : decode c_M_series 101 = .ok (.bipush 30, 2) := by decide +kernel
theorem d_M_series_103 : decode c_M_series 103 = .ok (.if_icmp .gt 171, 3) := by decide +kernel
theorem d_M_series_106 : decode c_M_series 106 = .ok (.lconst 0, 1) := by decide +kernel
theorem d_M_series_107 : decode c_M_series 107 = .ok (.lstore 11, 2) := by decide +kernel
theorem d_M_series_109 : decode c_M_series 109 = .ok (.aload_n 0, 1) := by decide +kernel
theorem d_M_series_110 : decode c_M_series 110 = .ok (.getfield 32, 3) := by decide +kernel
theorem d_M_series_113 : decode c_M_series 113 = .ok (.iload 10, 2) := by decide +kernel
theorem d_M_series_115 : decode c_M_series 115 = .ok (.lconst 0, 1) := by decide +kernel
theorem d_M_series_116 : decode c_M_series 116 = .ok (.lastore, 1) := by decide +kernel
theorem d_M_series_117 : decode c_M_series 117 = .ok (.iconst 0, 1) := by decide +kernel
theorem d_M_series_118 : decode c_M_series 118 = .ok (.istore 13, 2) := by decide +kernel
theorem d_M_series_120 : decode c_M_series 120 = .ok (.iload 13, 2) := by decide +kernel
theorem d_M_series_122 : decode c_M_series 122 = .ok (.aload_n 0, 1) := by decide +kernel
theorem d_M_series_123 : decode c_M_series 123 = .ok (.getfield 38, 3) := by decide +kernel
theorem d_M_series_126 : decode c_M_series 126 = .ok (.if_icmp .gt 95, 3) := by decide +kernel
theorem d_M_series_129 : decode c_M_series 129 = .ok (.iconst 0, 1) := by decide +kernel
theorem d_M_series_130 : decode c_M_series 130 = .ok (.istore 14, 2) := by decide +kernel
theorem d_M_series_132 : decode c_M_series 132 = .ok (.iload 14, 2) := by decide +kernel
theorem d_M_series_134 : decode c_M_series 134 = .ok (.iconst 5, 1) := by decide +kernel
theorem d_M_series_135 : decode c_M_series 135 = .ok (.if_icmp .ge 80, 3) := by decide +kernel
theorem d_M_series_138 : decode c_M_series 138 = .ok (.iload 10, 2) := by decide +kernel
theorem d_M_series_140 : decode c_M_series 140 = .ok (.aload_n 0, 1) := by decide +kernel
theorem d_M_series_141 : decode c_M_series 141 = .ok (.getfield 38, 3) := by decide +kernel
theorem d_M_series_144 : decode c_M_series 144 = .ok (.isub, 1) := by decide +kernel
theorem d_M_series_145 : decode c_M_series 145 = .ok (.iload 14, 2) := by decide +kernel
theorem d_M_series_147 : decode c_M_series 147 = .ok (.isub, 1) := by decide +kernel
theorem d_M_series_148 : decode c_M_series 148 = .ok (.iload 13, 2) := by decide +kernel
theorem d_M_series_150 : decode c_M_series 150 = .ok (.iadd, 1) := by decide +kernel
theorem d_M_series_151 : decode c_M_series 151 = .ok (.istore 15, 2) := by decide +kernel
theorem d_M_series_153 : decode c_M_series 153 = .ok (.iload 15, 2) := by decide +kernel
theorem d_M_series_155 : decode c_M_series 155 = .ok (.iload 13, 2) := by decide +kernel
theorem d_M_series_157 : decode c_M_series 157 = .ok (.if_icmp .lt 52, 3) := by decide +kernel
theorem d_M_series_160 : decode c_M_series 160 = .ok (.iload 15, 2) := by decide +kernel
theorem d_M_series_162 : decode c_M_series 162 = .ok (.iload 10, 2) := by decide +kernel
theorem d_M_series_164 : decode c_M_series 164 = .ok (.if_icmp .ge 45, 3) := by decide +kernel
theorem d_M_series_167 : decode c_M_series 167 = .ok (.lload 11, 2) := by decide +kernel
theorem d_M_series_169 : decode c_M_series 169 = .ok (.aload_n 0, 1) := by decide +kernel
theorem d_M_series_170 : decode c_M_series 170 = .ok (.getfield 19, 3) := by decide +kernel
theorem d_M_series_173 : decode c_M_series 173 = .ok (.iconst 5, 1) := by decide +kernel
theorem d_M_series_174 : decode c_M_series 174 = .ok (.iload 13, 2) := by decide +kernel
theorem d_M_series_176 : decode c_M_series 176 = .ok (.imul, 1) := by decide +kernel
theorem d_M_series_177 : decode c_M_series 177 = .ok (.iload 14, 2) := by decide +kernel
theorem d_M_series_179 : decode c_M_series 179 = .ok (.iadd, 1) := by decide +kernel
theorem d_M_series_180 : decode c_M_series 180 = .ok (.laload, 1) := by decide +kernel
theorem d_M_series_181 : decode c_M_series 181 = .ok (.iload 15, 2) := by decide +kernel
theorem d_M_series_183 : decode c_M_series 183 = .ok (.i2l, 1) := by decide +kernel
theorem d_M_series_184 : decode c_M_series 184 = .ok (.iload 13, 2) := by decide +kernel
theorem d_M_series_186 : decode c_M_series 186 = .ok (.invokestatic 67, 3) := by decide +kernel
theorem d_M_series_189 : decode c_M_series 189 = .ok (.lmul, 1) := by decide +kernel
theorem d_M_series_190 : decode c_M_series 190 = .ok (.ldc2_w 45, 3) := by decide +kernel
theorem d_M_series_193 : decode c_M_series 193 = .ok (.lrem, 1) := by decide +kernel
theorem d_M_series_194 : decode c_M_series 194 = .ok (.aload_n 0, 1) := by decide +kernel
theorem d_M_series_195 : decode c_M_series 195 = .ok (.getfield 32, 3) := by decide +kernel
theorem d_M_series_198 : decode c_M_series 198 = .ok (.iload 15, 2) := by decide +kernel
theorem d_M_series_200 : decode c_M_series 200 = .ok (.laload, 1) := by decide +kernel
theorem d_M_series_201 : decode c_M_series 201 = .ok (.lmul, 1) := by decide +kernel
theorem d_M_series_202 : decode c_M_series 202 = .ok (.ladd, 1) := by decide +kernel
theorem d_M_series_203 : decode c_M_series 203 = .ok (.ldc2_w 45, 3) := by decide +kernel
theorem d_M_series_206 : decode c_M_series 206 = .ok (.lrem, 1) := by decide +kernel
theorem d_M_series_207 : decode c_M_series 207 = .ok (.lstore 11, 2) := by decide +kernel
theorem d_M_series_209 : decode c_M_series 209 = .ok (.iinc 14 1, 3) := by decide +kernel
theorem d_M_series_212 : decode c_M_series 212 = .ok (.goto (-80), 3) := by decide +kernel
theorem d_M_series_215 : decode c_M_series 215 = .ok (.iinc 13 1, 3) := by decide +kernel
theorem d_M_series_218 : decode c_M_series 218 = .ok (.goto (-98), 3) := by decide +kernel
theorem d_M_series_221 : decode c_M_series 221 = .ok (.aload_n 0, 1) := by decide +kernel
theorem d_M_series_222 : decode c_M_series 222 = .ok (.getfield 32, 3) := by decide +kernel
theorem d_M_series_225 : decode c_M_series 225 = .ok (.iload 10, 2) := by decide +kernel
theorem d_M_series_227 : decode c_M_series 227 = .ok (.lload 11, 2) := by decide +kernel
theorem d_M_series_229 : decode c_M_series 229 = .ok (.lneg, 1) := by decide +kernel
theorem d_M_series_230 : decode c_M_series 230 = .ok (.invokestatic 47, 3) := by decide +kernel
theorem d_M_series_233 : decode c_M_series 233 = .ok (.aload_n 0, 1) := by decide +kernel
theorem d_M_series_234 : decode c_M_series 234 = .ok (.getfield 19, 3) := by decide +kernel
theorem d_M_series_237 : decode c_M_series 237 = .ok (.iconst 5, 1) := by decide +kernel
theorem d_M_series_238 : decode c_M_series 238 = .ok (.aload_n 0, 1) := by decide +kernel
theorem d_M_series_239 : decode c_M_series 239 = .ok (.getfield 38, 3) := by decide +kernel
theorem d_M_series_242 : decode c_M_series 242 = .ok (.imul, 1) := by decide +kernel
theorem d_M_series_243 : decode c_M_series 243 = .ok (.laload, 1) := by decide +kernel
theorem d_M_series_244 : decode c_M_series 244 = .ok (.iload 10, 2) := by decide +kernel
theorem d_M_series_246 : decode c_M_series 246 = .ok (.i2l, 1) := by decide +kernel
theorem d_M_series_247 : decode c_M_series 247 = .ok (.aload_n 0, 1) := by decide +kernel
theorem d_M_series_248 : decode c_M_series 248 = .ok (.getfield 38, 3) := by decide +kernel
theorem d_M_series_251 : decode c_M_series 251 = .ok (.invokestatic 67, 3) := by decide +kernel
theorem d_M_series_254 : decode c_M_series 254 = .ok (.lmul, 1) := by decide +kernel
theorem d_M_series_255 : decode c_M_series 255 = .ok (.ldc2_w 45, 3) := by decide +kernel
theorem d_M_series_258 : decode c_M_series 258 = .ok (.lrem, 1) := by decide +kernel
theorem d_M_series_259 : decode c_M_series 259 = .ok (.invokestatic 114, 3) := by decide +kernel
theorem d_M_series_262 : decode c_M_series 262 = .ok (.lmul, 1) := by decide +kernel
theorem d_M_series_263 : decode c_M_series 263 = .ok (.ldc2_w 45, 3) := by decide +kernel
theorem d_M_series_266 : decode c_M_series 266 = .ok (.lrem, 1) := by decide +kernel
theorem d_M_series_267 : decode c_M_series 267 = .ok (.lastore, 1) := by decide +kernel
theorem d_M_series_268 : decode c_M_series 268 = .ok (.iinc 10 1, 3) := by decide +kernel
theorem d_M_series_271 : decode c_M_series 271 = .ok (.goto (-172), 3) := by decide +kernel
theorem d_M_series_274 : decode c_M_series 274 = .ok (.aload_n 0, 1) := by decide +kernel
theorem d_M_series_275 : decode c_M_series 275 = .ok (.getfield 32, 3) := by decide +kernel
theorem d_M_series_278 : decode c_M_series 278 = .ok (.iload 9, 2) := by decide +kernel
theorem d_M_series_280 : decode c_M_series 280 = .ok (.laload, 1) := by decide +kernel
theorem d_M_series_281 : decode c_M_series 281 = .ok (.l2i, 1) := by decide +kernel
theorem d_M_series_282 : decode c_M_series 282 = .ok (.ireturn, 1) := by decide +kernel
end
section
theorem d_L_cell_0 : decode c_L_cell 0 = .ok (.iload_n 1, 1) := by decide +kernel
theorem d_L_cell_1 : decode c_L_cell 1 = .ok (.aload_n 0, 1) := by decide +kernel
theorem d_L_cell_2 : decode c_L_cell 2 = .ok (.arraylength, 1) := by decide +kernel
theorem d_L_cell_3 : decode c_L_cell 3 = .ok (.if_icmp .ge 9, 3) := by decide +kernel
theorem d_L_cell_6 : decode c_L_cell 6 = .ok (.aload_n 0, 1) := by decide +kernel
theorem d_L_cell_7 : decode c_L_cell 7 = .ok (.iload_n 1, 1) := by decide +kernel
theorem d_L_cell_8 : decode c_L_cell 8 = .ok (.iaload, 1) := by decide +kernel
theorem d_L_cell_9 : decode c_L_cell 9 = .ok (.goto 4, 3) := by decide +kernel
theorem d_L_cell_12 : decode c_L_cell 12 = .ok (.iconst 0, 1) := by decide +kernel
theorem d_L_cell_13 : decode c_L_cell 13 = .ok (.ireturn, 1) := by decide +kernel
theorem d_L_put_0 : decode c_L_put 0 = .ok (.aload 5, 2) := by decide +kernel
theorem d_L_put_2 : decode c_L_put 2 = .ok (.iconst 0, 1) := by decide +kernel
theorem d_L_put_3 : decode c_L_put 3 = .ok (.aload_n 0, 1) := by decide +kernel
theorem d_L_put_4 : decode c_L_put 4 = .ok (.iload_n 1, 1) := by decide +kernel
theorem d_L_put_5 : decode c_L_put 5 = .ok (.iload_n 2, 1) := by decide +kernel
theorem d_L_put_6 : decode c_L_put 6 = .ok (.lload_n 3, 1) := by decide +kernel
theorem d_L_put_7 : decode c_L_put 7 = .ok (.invokevirtual 7, 3) := by decide +kernel
theorem d_L_put_10 : decode c_L_put 10 = .ok (.ifCond .eq 7, 3) := by decide +kernel
theorem d_L_put_13 : decode c_L_put 13 = .ok (.lconst 1, 1) := by decide +kernel
theorem d_L_put_14 : decode c_L_put 14 = .ok (.goto 4, 3) := by decide +kernel
theorem d_L_put_17 : decode c_L_put 17 = .ok (.lconst 0, 1) := by decide +kernel
theorem d_L_put_18 : decode c_L_put 18 = .ok (.lastore, 1) := by decide +kernel
theorem d_L_put_19 : decode c_L_put 19 = .ok (.goto 7, 3) := by decide +kernel
theorem d_L_put_22 : decode c_L_put 22 = .ok (.astore 6, 2) := by decide +kernel
theorem d_L_put_24 : decode c_L_put 24 = .ok (.iconst 1, 1) := by decide +kernel
theorem d_L_put_25 : decode c_L_put 25 = .ok (.ireturn, 1) := by decide +kernel
theorem d_L_put_26 : decode c_L_put 26 = .ok (.iconst 0, 1) := by decide +kernel
theorem d_L_put_27 : decode c_L_put 27 = .ok (.ireturn, 1) := by decide +kernel
theorem d_L_at_0 : decode c_L_at 0 = .ok (.aload_n 3, 1) := by decide +kernel
theorem d_L_at_1 : decode c_L_at 1 = .ok (.iconst 0, 1) := by decide +kernel
theorem d_L_at_2 : decode c_L_at 2 = .ok (.aload_n 0, 1) := by decide +kernel
theorem d_L_at_3 : decode c_L_at 3 = .ok (.iload_n 1, 1) := by decide +kernel
theorem d_L_at_4 : decode c_L_at 4 = .ok (.iload_n 2, 1) := by decide +kernel
theorem d_L_at_5 : decode c_L_at 5 = .ok (.invokevirtual 15, 3) := by decide +kernel
theorem d_L_at_8 : decode c_L_at 8 = .ok (.i2l, 1) := by decide +kernel
theorem d_L_at_9 : decode c_L_at 9 = .ok (.lastore, 1) := by decide +kernel
theorem d_L_at_10 : decode c_L_at 10 = .ok (.goto 7, 3) := by decide +kernel
theorem d_L_at_13 : decode c_L_at 13 = .ok (.astore 4, 2) := by decide +kernel
theorem d_L_at_15 : decode c_L_at 15 = .ok (.iconst 1, 1) := by decide +kernel
theorem d_L_at_16 : decode c_L_at 16 = .ok (.ireturn, 1) := by decide +kernel
theorem d_L_at_17 : decode c_L_at 17 = .ok (.iconst 0, 1) := by decide +kernel
theorem d_L_at_18 : decode c_L_at 18 = .ok (.ireturn, 1) := by decide +kernel
theorem d_L_hand_0 : decode c_L_hand 0 = .ok (.aload_n 0, 1) := by decide +kernel
theorem d_L_hand_1 : decode c_L_hand 1 = .ok (.iload_n 1, 1) := by decide +kernel
theorem d_L_hand_2 : decode c_L_hand 2 = .ok (.lload_n 2, 1) := by decide +kernel
theorem d_L_hand_3 : decode c_L_hand 3 = .ok (.invokevirtual 19, 3) := by decide +kernel
theorem d_L_hand_6 : decode c_L_hand 6 = .ok (.goto 7, 3) := by decide +kernel
theorem d_L_hand_9 : decode c_L_hand 9 = .ok (.astore 4, 2) := by decide +kernel
theorem d_L_hand_11 : decode c_L_hand 11 = .ok (.iconst 1, 1) := by decide +kernel
theorem d_L_hand_12 : decode c_L_hand 12 = .ok (.ireturn, 1) := by decide +kernel
theorem d_L_hand_13 : decode c_L_hand 13 = .ok (.iconst 0, 1) := by decide +kernel
theorem d_L_hand_14 : decode c_L_hand 14 = .ok (.ireturn, 1) := by decide +kernel
theorem d_L_places_0 : decode c_L_places 0 = .ok (.aload_n 1, 1) := by decide +kernel
theorem d_L_places_1 : decode c_L_places 1 = .ok (.iconst 0, 1) := by decide +kernel
theorem d_L_places_2 : decode c_L_places 2 = .ok (.aload_n 0, 1) := by decide +kernel
theorem d_L_places_3 : decode c_L_places 3 = .ok (.invokevirtual 23, 3) := by decide +kernel
theorem d_L_places_6 : decode c_L_places 6 = .ok (.i2l, 1) := by decide +kernel
theorem d_L_places_7 : decode c_L_places 7 = .ok (.lastore, 1) := by decide +kernel
theorem d_L_places_8 : decode c_L_places 8 = .ok (.goto 6, 3) := by decide +kernel
theorem d_L_places_11 : decode c_L_places 11 = .ok (.astore_n 2, 1) := by decide +kernel
theorem d_L_places_12 : decode c_L_places 12 = .ok (.iconst 1, 1) := by decide +kernel
theorem d_L_places_13 : decode c_L_places 13 = .ok (.ireturn, 1) := by decide +kernel
theorem d_L_places_14 : decode c_L_places 14 = .ok (.iconst 0, 1) := by decide +kernel
theorem d_L_places_15 : decode c_L_places 15 = .ok (.ireturn, 1) := by decide +kernel
theorem d_L_place_0 : decode c_L_place 0 = .ok (.aload_n 2, 1) := by decide +kernel
theorem d_L_place_1 : decode c_L_place 1 = .ok (.iconst 0, 1) := by decide +kernel
theorem d_L_place_2 : decode c_L_place 2 = .ok (.aload_n 0, 1) := by decide +kernel
theorem d_L_place_3 : decode c_L_place 3 = .ok (.iload_n 1, 1) := by decide +kernel
theorem d_L_place_4 : decode c_L_place 4 = .ok (.invokevirtual 29, 3) := by decide +kernel
theorem d_L_place_7 : decode c_L_place 7 = .ok (.i2l, 1) := by decide +kernel
theorem d_L_place_8 : decode c_L_place 8 = .ok (.lastore, 1) := by decide +kernel
theorem d_L_place_9 : decode c_L_place 9 = .ok (.goto 9, 3) := by decide +kernel
theorem d_L_place_12 : decode c_L_place 12 = .ok (.astore_n 3, 1) := by decide +kernel
theorem d_L_place_13 : decode c_L_place 13 = .ok (.iconst 1, 1) := by decide +kernel
theorem d_L_place_14 : decode c_L_place 14 = .ok (.ireturn, 1) := by decide +kernel
theorem d_L_place_15 : decode c_L_place 15 = .ok (.astore_n 3, 1) := by decide +kernel
theorem d_L_place_16 : decode c_L_place 16 = .ok (.iconst 2, 1) := by decide +kernel
theorem d_L_place_17 : decode c_L_place 17 = .ok (.ireturn, 1) := by decide +kernel
theorem d_L_place_18 : decode c_L_place 18 = .ok (.iconst 0, 1) := by decide +kernel
theorem d_L_place_19 : decode c_L_place 19 = .ok (.ireturn, 1) := by decide +kernel
theorem d_L_level_0 : decode c_L_level 0 = .ok (.aload 4, 2) := by decide +kernel
theorem d_L_level_2 : decode c_L_level 2 = .ok (.iconst 0, 1) := by decide +kernel
theorem d_L_level_3 : decode c_L_level 3 = .ok (.aload_n 0, 1) := by decide +kernel
theorem d_L_level_4 : decode c_L_level 4 = .ok (.iload_n 1, 1) := by decide +kernel
theorem d_L_level_5 : decode c_L_level 5 = .ok (.lload_n 2, 1) := by decide +kernel
theorem d_L_level_6 : decode c_L_level 6 = .ok (.invokevirtual 33, 3) := by decide +kernel
theorem d_L_level_9 : decode c_L_level 9 = .ok (.i2l, 1) := by decide +kernel
theorem d_L_level_10 : decode c_L_level 10 = .ok (.lastore, 1) := by decide +kernel
theorem d_L_level_11 : decode c_L_level 11 = .ok (.goto 7, 3) := by decide +kernel
theorem d_L_level_14 : decode c_L_level 14 = .ok (.astore 5, 2) := by decide +kernel
theorem d_L_level_16 : decode c_L_level 16 = .ok (.iconst 1, 1) := by decide +kernel
theorem d_L_level_17 : decode c_L_level 17 = .ok (.ireturn, 1) := by decide +kernel
theorem d_L_level_18 : decode c_L_level 18 = .ok (.iconst 0, 1) := by decide +kernel
theorem d_L_level_19 : decode c_L_level 19 = .ok (.ireturn, 1) := by decide +kernel
theorem d_L_regular_0 : decode c_L_regular 0 = .ok (.aload 4, 2) := by decide +kernel
theorem d_L_regular_2 : decode c_L_regular 2 = .ok (.iconst 0, 1) := by decide +kernel
theorem d_L_regular_3 : decode c_L_regular 3 = .ok (.aload_n 0, 1) := by decide +kernel
theorem d_L_regular_4 : decode c_L_regular 4 = .ok (.iload_n 1, 1) := by decide +kernel
theorem d_L_regular_5 : decode c_L_regular 5 = .ok (.lload_n 2, 1) := by decide +kernel
theorem d_L_regular_6 : decode c_L_regular 6 = .ok (.invokevirtual 37, 3) := by decide +kernel
theorem d_L_regular_9 : decode c_L_regular 9 = .ok (.ifCond .eq 7, 3) := by decide +kernel
theorem d_L_regular_12 : decode c_L_regular 12 = .ok (.lconst 1, 1) := by decide +kernel
theorem d_L_regular_13 : decode c_L_regular 13 = .ok (.goto 4, 3) := by decide +kernel
theorem d_L_regular_16 : decode c_L_regular 16 = .ok (.lconst 0, 1) := by decide +kernel
theorem d_L_regular_17 : decode c_L_regular 17 = .ok (.lastore, 1) := by decide +kernel
theorem d_L_regular_18 : decode c_L_regular 18 = .ok (.goto 7, 3) := by decide +kernel
theorem d_L_regular_21 : decode c_L_regular 21 = .ok (.astore 5, 2) := by decide +kernel
theorem d_L_regular_23 : decode c_L_regular 23 = .ok (.iconst 1, 1) := by decide +kernel
theorem d_L_regular_24 : decode c_L_regular 24 = .ok (.ireturn, 1) := by decide +kernel
theorem d_L_regular_25 : decode c_L_regular 25 = .ok (.iconst 0, 1) := by decide +kernel
theorem d_L_regular_26 : decode c_L_regular 26 = .ok (.ireturn, 1) := by decide +kernel
theorem d_L_exponent_0 : decode c_L_exponent 0 = .ok (.aload 5, 2) := by decide +kernel
theorem d_L_exponent_2 : decode c_L_exponent 2 = .ok (.iconst 0, 1) := by decide +kernel
theorem d_L_exponent_3 : decode c_L_exponent 3 = .ok (.aload_n 0, 1) := by decide +kernel
theorem d_L_exponent_4 : decode c_L_exponent 4 = .ok (.iload_n 1, 1) := by decide +kernel
theorem d_L_exponent_5 : decode c_L_exponent 5 = .ok (.lload_n 2, 1) := by decide +kernel
theorem d_L_exponent_6 : decode c_L_exponent 6 = .ok (.iload 4, 2) := by decide +kernel
theorem d_L_exponent_8 : decode c_L_exponent 8 = .ok (.invokevirtual 41, 3) := by decide +kernel
theorem d_L_exponent_11 : decode c_L_exponent 11 = .ok (.i2l, 1) := by decide +kernel
theorem d_L_exponent_12 : decode c_L_exponent 12 = .ok (.lastore, 1) := by decide +kernel
theorem d_L_exponent_13 : decode c_L_exponent 13 = .ok (.goto 7, 3) := by decide +kernel
theorem d_L_exponent_16 : decode c_L_exponent 16 = .ok (.astore 6, 2) := by decide +kernel
theorem d_L_exponent_18 : decode c_L_exponent 18 = .ok (.iconst 1, 1) := by decide +kernel
theorem d_L_exponent_19 : decode c_L_exponent 19 = .ok (.ireturn, 1) := by decide +kernel
theorem d_L_exponent_20 : decode c_L_exponent 20 = .ok (.iconst 0, 1) := by decide +kernel
theorem d_L_exponent_21 : decode c_L_exponent 21 = .ok (.ireturn, 1) := by decide +kernel
theorem d_L_answer_0 : decode c_L_answer 0 = .ok (.aload_n 3, 1) := by decide +kernel
theorem d_L_answer_1 : decode c_L_answer 1 = .ok (.iconst 0, 1) := by decide +kernel
theorem d_L_answer_2 : decode c_L_answer 2 = .ok (.aload_n 0, 1) := by decide +kernel
theorem d_L_answer_3 : decode c_L_answer 3 = .ok (.iload_n 1, 1) := by decide +kernel
theorem d_L_answer_4 : decode c_L_answer 4 = .ok (.iload_n 2, 1) := by decide +kernel
theorem d_L_answer_5 : decode c_L_answer 5 = .ok (.invokevirtual 45, 3) := by decide +kernel
theorem d_L_answer_8 : decode c_L_answer 8 = .ok (.i2l, 1) := by decide +kernel
theorem d_L_answer_9 : decode c_L_answer 9 = .ok (.lastore, 1) := by decide +kernel
theorem d_L_answer_10 : decode c_L_answer 10 = .ok (.goto 7, 3) := by decide +kernel
theorem d_L_answer_13 : decode c_L_answer 13 = .ok (.astore 4, 2) := by decide +kernel
theorem d_L_answer_15 : decode c_L_answer 15 = .ok (.iconst 1, 1) := by decide +kernel
theorem d_L_answer_16 : decode c_L_answer 16 = .ok (.ireturn, 1) := by decide +kernel
theorem d_L_answer_17 : decode c_L_answer 17 = .ok (.iconst 0, 1) := by decide +kernel
theorem d_L_answer_18 : decode c_L_answer 18 = .ok (.ireturn, 1) := by decide +kernel
theorem d_L_take_0 : decode c_L_take 0 = .ok (.aload_n 0, 1) := by decide +kernel
theorem d_L_take_1 : decode c_L_take 1 = .ok (.iload_n 1, 1) := by decide +kernel
theorem d_L_take_2 : decode c_L_take 2 = .ok (.invokevirtual 48, 3) := by decide +kernel
theorem d_L_take_5 : decode c_L_take 5 = .ok (.goto 6, 3) := by decide +kernel
theorem d_L_take_8 : decode c_L_take 8 = .ok (.astore_n 2, 1) := by decide +kernel
theorem d_L_take_9 : decode c_L_take 9 = .ok (.iconst 1, 1) := by decide +kernel
theorem d_L_take_10 : decode c_L_take 10 = .ok (.ireturn, 1) := by decide +kernel
theorem d_L_take_11 : decode c_L_take 11 = .ok (.iconst 0, 1) := by decide +kernel
theorem d_L_take_12 : decode c_L_take 12 = .ok (.ireturn, 1) := by decide +kernel
theorem d_L_series_0 : decode c_L_series 0 = .ok (.aload 10, 2) := by decide +kernel
theorem d_L_series_2 : decode c_L_series 2 = .ok (.iconst 0, 1) := by decide +kernel
theorem d_L_series_3 : decode c_L_series 3 = .ok (.aload_n 0, 1) := by decide +kernel
theorem d_L_series_4 : decode c_L_series 4 = .ok (.lload_n 1, 1) := by decide +kernel
theorem d_L_series_5 : decode c_L_series 5 = .ok (.lload_n 3, 1) := by decide +kernel
theorem d_L_series_6 : decode c_L_series 6 = .ok (.lload 5, 2) := by decide +kernel
theorem d_L_series_8 : decode c_L_series 8 = .ok (.lload 7, 2) := by decide +kernel
theorem d_L_series_10 : decode c_L_series 10 = .ok (.iload 9, 2) := by decide +kernel
theorem d_L_series_12 : decode c_L_series 12 = .ok (.invokevirtual 52, 3) := by decide +kernel
theorem d_L_series_15 : decode c_L_series 15 = .ok (.i2l, 1) := by decide +kernel
theorem d_L_series_16 : decode c_L_series 16 = .ok (.lastore, 1) := by decide +kernel
theorem d_L_series_17 : decode c_L_series 17 = .ok (.goto 11, 3) := by decide +kernel
theorem d_L_series_20 : decode c_L_series 20 = .ok (.astore 11, 2) := by decide +kernel
theorem d_L_series_22 : decode c_L_series 22 = .ok (.iconst 1, 1) := by decide +kernel
theorem d_L_series_23 : decode c_L_series 23 = .ok (.ireturn, 1) := by decide +kernel
theorem d_L_series_24 : decode c_L_series 24 = .ok (.astore 11, 2) := by decide +kernel
theorem d_L_series_26 : decode c_L_series 26 = .ok (.iconst 2, 1) := by decide +kernel
theorem d_L_series_27 : decode c_L_series 27 = .ok (.ireturn, 1) := by decide +kernel
theorem d_L_series_28 : decode c_L_series 28 = .ok (.iconst 0, 1) := by decide +kernel
theorem d_L_series_29 : decode c_L_series 29 = .ok (.ireturn, 1) := by decide +kernel
theorem d_L_law_0 : decode c_L_law 0 = .ok (.new 8, 3) := by decide +kernel
theorem d_L_law_3 : decode c_L_law 3 = .ok (.dup, 1) := by decide +kernel
theorem d_L_law_4 : decode c_L_law 4 = .ok (.aload_n 0, 1) := by decide +kernel
theorem d_L_law_5 : decode c_L_law 5 = .ok (.iconst 0, 1) := by decide +kernel
theorem d_L_law_6 : decode c_L_law 6 = .ok (.invokestatic 58, 3) := by decide +kernel
theorem d_L_law_9 : decode c_L_law 9 = .ok (.invokespecial 64, 3) := by decide +kernel
theorem d_L_law_12 : decode c_L_law 12 = .ok (.astore_n 1, 1) := by decide +kernel
theorem d_L_law_13 : decode c_L_law 13 = .ok (.new 66, 3) := by decide +kernel
theorem d_L_law_16 : decode c_L_law 16 = .ok (.dup, 1) := by decide +kernel
theorem d_L_law_17 : decode c_L_law 17 = .ok (.aload_n 0, 1) := by decide +kernel
theorem d_L_law_18 : decode c_L_law 18 = .ok (.iconst 0, 1) := by decide +kernel
theorem d_L_law_19 : decode c_L_law 19 = .ok (.invokestatic 58, 3) := by decide +kernel
theorem d_L_law_22 : decode c_L_law 22 = .ok (.invokespecial 68, 3) := by decide +kernel
theorem d_L_law_25 : decode c_L_law 25 = .ok (.astore_n 2, 1) := by decide +kernel
theorem d_L_law_26 : decode c_L_law 26 = .ok (.iconst 1, 1) := by decide +kernel
theorem d_L_law_27 : decode c_L_law 27 = .ok (.newarray .long, 2) := by decide +kernel
theorem d_L_law_29 : decode c_L_law 29 = .ok (.astore_n 3, 1) := by decide +kernel
theorem d_L_law_30 : decode c_L_law 30 = .ok (.iconst 1, 1) := by decide +kernel
theorem d_L_law_31 : decode c_L_law 31 = .ok (.istore 4, 2) := by decide +kernel
theorem d_L_law_33 : decode c_L_law 33 = .ok (.iload 4, 2) := by decide +kernel
theorem d_L_law_35 : decode c_L_law 35 = .ok (.aload_n 0, 1) := by decide +kernel
theorem d_L_law_36 : decode c_L_law 36 = .ok (.arraylength, 1) := by decide +kernel
theorem d_L_law_37 : decode c_L_law 37 = .ok (.bipush 10, 2) := by decide +kernel
theorem d_L_law_39 : decode c_L_law 39 = .ok (.isub, 1) := by decide +kernel
theorem d_L_law_40 : decode c_L_law 40 = .ok (.if_icmp .gt 1304, 3) := by decide +kernel
theorem d_L_law_43 : decode c_L_law 43 = .ok (.aload_n 0, 1) := by decide +kernel
theorem d_L_law_44 : decode c_L_law 44 = .ok (.iload 4, 2) := by decide +kernel
theorem d_L_law_46 : decode c_L_law 46 = .ok (.iaload, 1) := by decide +kernel
theorem d_L_law_47 : decode c_L_law 47 = .ok (.bipush 31, 2) := by decide +kernel
theorem d_L_law_49 : decode c_L_law 49 = .ok (.iand, 1) := by decide +kernel
theorem d_L_law_50 : decode c_L_law 50 = .ok (.tableswitch 1288 0 16 #[82, 201, 269, 349, 374, 418, 474, 590, 713, 841, 854, 922, 935, 971, 1211, 1222, 1277], 82) := by decide +kernel
theorem d_L_law_132 : decode c_L_law 132 = .ok (.aload_n 1, 1) := by decide +kernel
theorem d_L_law_133 : decode c_L_law 133 = .ok (.aload_n 0, 1) := by decide +kernel
theorem d_L_law_134 : decode c_L_law 134 = .ok (.iload 4, 2) := by decide +kernel
theorem d_L_law_136 : decode c_L_law 136 = .ok (.iconst 1, 1) := by decide +kernel
theorem d_L_law_137 : decode c_L_law 137 = .ok (.iadd, 1) := by decide +kernel
theorem d_L_law_138 : decode c_L_law 138 = .ok (.iaload, 1) := by decide +kernel
theorem d_L_law_139 : decode c_L_law 139 = .ok (.aload_n 0, 1) := by decide +kernel
theorem d_L_law_140 : decode c_L_law 140 = .ok (.iload 4, 2) := by decide +kernel
theorem d_L_law_142 : decode c_L_law 142 = .ok (.iconst 2, 1) := by decide +kernel
theorem d_L_law_143 : decode c_L_law 143 = .ok (.iadd, 1) := by decide +kernel
theorem d_L_law_144 : decode c_L_law 144 = .ok (.iaload, 1) := by decide +kernel
theorem d_L_law_145 : decode c_L_law 145 = .ok (.aload_n 0, 1) := by decide +kernel
theorem d_L_law_146 : decode c_L_law 146 = .ok (.iload 4, 2) := by decide +kernel
theorem d_L_law_148 : decode c_L_law 148 = .ok (.iconst 3, 1) := by decide +kernel
theorem d_L_law_149 : decode c_L_law 149 = .ok (.iadd, 1) := by decide +kernel
theorem d_L_law_150 : decode c_L_law 150 = .ok (.iaload, 1) := by decide +kernel
theorem d_L_law_151 : decode c_L_law 151 = .ok (.i2l, 1) := by decide +kernel
theorem d_L_law_152 : decode c_L_law 152 = .ok (.bipush 32, 2) := by decide +kernel
theorem d_L_law_154 : decode c_L_law 154 = .ok (.lshl, 1) := by decide +kernel
theorem d_L_law_155 : decode c_L_law 155 = .ok (.aload_n 0, 1) := by decide +kernel
theorem d_L_law_156 : decode c_L_law 156 = .ok (.iload 4, 2) := by decide +kernel
theorem d_L_law_158 : decode c_L_law 158 = .ok (.iconst 4, 1) := by decide +kernel
theorem d_L_law_159 : decode c_L_law 159 = .ok (.iadd, 1) := by decide +kernel
theorem d_L_law_160 : decode c_L_law 160 = .ok (.iaload, 1) := by decide +kernel
theorem d_L_law_161 : decode c_L_law 161 = .ok (.i2l, 1) := by decide +kernel
theorem d_L_law_162 : decode c_L_law 162 = .ok (.ldc2_w 69, 3) := by decide +kernel
theorem d_L_law_165 : decode c_L_law 165 = .ok (.land, 1) := by decide +kernel
theorem d_L_law_166 : decode c_L_law 166 = .ok (.lor, 1) := by decide +kernel
theorem d_L_law_167 : decode c_L_law 167 = .ok (.aload_n 3, 1) := by decide +kernel
theorem d_L_law_168 : decode c_L_law 168 = .ok (.invokestatic 71, 3) := by decide +kernel
theorem d_L_law_171 : decode c_L_law 171 = .ok (.istore 5, 2) := by decide +kernel
theorem d_L_law_173 : decode c_L_law 173 = .ok (.aload_n 2, 1) := by decide +kernel
theorem d_L_law_174 : decode c_L_law 174 = .ok (.aload_n 0, 1) := by decide +kernel
theorem d_L_law_175 : decode c_L_law 175 = .ok (.iload 4, 2) := by decide +kernel
theorem d_L_law_177 : decode c_L_law 177 = .ok (.iconst 1, 1) := by decide +kernel
theorem d_L_law_178 : decode c_L_law 178 = .ok (.iadd, 1) := by decide +kernel
theorem d_L_law_179 : decode c_L_law 179 = .ok (.iaload, 1) := by decide +kernel
theorem d_L_law_180 : decode c_L_law 180 = .ok (.aload_n 0, 1) := by decide +kernel
theorem d_L_law_181 : decode c_L_law 181 = .ok (.iload 4, 2) := by decide +kernel
theorem d_L_law_183 : decode c_L_law 183 = .ok (.iconst 2, 1) := by decide +kernel
theorem d_L_law_184 : decode c_L_law 184 = .ok (.iadd, 1) := by decide +kernel
theorem d_L_law_185 : decode c_L_law 185 = .ok (.iaload, 1) := by decide +kernel
theorem d_L_law_186 : decode c_L_law 186 = .ok (.aload_n 0, 1) := by decide +kernel
theorem d_L_law_187 : decode c_L_law 187 = .ok (.iload 4, 2) := by decide +kernel
theorem d_L_law_189 : decode c_L_law 189 = .ok (.iconst 3, 1) := by decide +kernel
theorem d_L_law_190 : decode c_L_law 190 = .ok (.iadd, 1) := by decide +kernel
theorem d_L_law_191 : decode c_L_law 191 = .ok (.iaload, 1) := by decide +kernel
theorem d_L_law_192 : decode c_L_law 192 = .ok (.i2l, 1) := by decide +kernel
theorem d_L_law_193 : decode c_L_law 193 = .ok (.bipush 32, 2) := by decide +kernel
theorem d_L_law_195 : decode c_L_law 195 = .ok (.lshl, 1) := by decide +kernel
theorem d_L_law_196 : decode c_L_law 196 = .ok (.aload_n 0, 1) := by decide +kernel
theorem d_L_law_197 : decode c_L_law 197 = .ok (.iload 4, 2) := by decide +kernel
theorem d_L_law_199 : decode c_L_law 199 = .ok (.iconst 4, 1) := by decide +kernel
theorem d_L_law_200 : decode c_L_law 200 = .ok (.iadd, 1) := by decide +kernel
theorem d_L_law_201 : decode c_L_law 201 = .ok (.iaload, 1) := by decide +kernel
theorem d_L_law_202 : decode c_L_law 202 = .ok (.i2l, 1) := by decide +kernel
theorem d_L_law_203 : decode c_L_law 203 = .ok (.ldc2_w 69, 3) := by decide +kernel
theorem d_L_law_206 : decode c_L_law 206 = .ok (.land, 1) := by decide +kernel
theorem d_L_law_207 : decode c_L_law 207 = .ok (.lor, 1) := by decide +kernel
theorem d_L_law_208 : decode c_L_law 208 = .ok (.invokevirtual 74, 3) := by decide +kernel
theorem d_L_law_211 : decode c_L_law 211 = .ok (.istore 6, 2) := by decide +kernel
theorem d_L_law_213 : decode c_L_law 213 = .ok (.aload_n 2, 1) := by decide +kernel
theorem d_L_law_214 : decode c_L_law 214 = .ok (.invokevirtual 75, 3) := by decide +kernel
theorem d_L_law_217 : decode c_L_law 217 = .ok (.iload 5, 2) := by decide +kernel
theorem d_L_law_219 : decode c_L_law 219 = .ok (.if_icmp .eq 5, 3) := by decide +kernel
theorem d_L_law_222 : decode c_L_law 222 = .ok (.iconst 0, 1) := by decide +kernel
theorem d_L_law_223 : decode c_L_law 223 = .ok (.ireturn, 1) := by decide +kernel
theorem d_L_law_224 : decode c_L_law 224 = .ok (.iload 5, 2) := by decide +kernel
theorem d_L_law_226 : decode c_L_law 226 = .ok (.ifCond .ne 22, 3) := by decide +kernel
theorem d_L_law_229 : decode c_L_law 229 = .ok (.aload_n 3, 1) := by decide +kernel
theorem d_L_law_230 : decode c_L_law 230 = .ok (.iconst 0, 1) := by decide +kernel
theorem d_L_law_231 : decode c_L_law 231 = .ok (.laload, 1) := by decide +kernel
theorem d_L_law_232 : decode c_L_law 232 = .ok (.iload 6, 2) := by decide +kernel
theorem d_L_law_234 : decode c_L_law 234 = .ok (.ifCond .eq 7, 3) := by decide +kernel
theorem d_L_law_237 : decode c_L_law 237 = .ok (.lconst 1, 1) := by decide +kernel
theorem d_L_law_238 : decode c_L_law 238 = .ok (.goto 4, 3) := by decide +kernel
theorem d_L_law_241 : decode c_L_law 241 = .ok (.lconst 0, 1) := by decide +kernel
theorem d_L_law_242 : decode c_L_law 242 = .ok (.lcmp, 1) := by decide +kernel
theorem d_L_law_243 : decode c_L_law 243 = .ok (.ifCond .eq 5, 3) := by decide +kernel
theorem d_L_law_246 : decode c_L_law 246 = .ok (.iconst 0, 1) := by decide +kernel
theorem d_L_law_247 : decode c_L_law 247 = .ok (.ireturn, 1) := by decide +kernel
theorem d_L_law_248 : decode c_L_law 248 = .ok (.goto 1090, 3) := by decide +kernel
theorem d_L_law_251 : decode c_L_law 251 = .ok (.aload_n 1, 1) := by decide +kernel
theorem d_L_law_252 : decode c_L_law 252 = .ok (.aload_n 0, 1) := by decide +kernel
theorem d_L_law_253 : decode c_L_law 253 = .ok (.iload 4, 2) := by decide +kernel
theorem d_L_law_255 : decode c_L_law 255 = .ok (.iconst 1, 1) := by decide +kernel
theorem d_L_law_256 : decode c_L_law 256 = .ok (.iadd, 1) := by decide +kernel
theorem d_L_law_257 : decode c_L_law 257 = .ok (.iaload, 1) := by decide +kernel
theorem d_L_law_258 : decode c_L_law 258 = .ok (.aload_n 0, 1) := by decide +kernel
theorem d_L_law_259 : decode c_L_law 259 = .ok (.iload 4, 2) := by decide +kernel
theorem d_L_law_261 : decode c_L_law 261 = .ok (.iconst 2, 1) := by decide +kernel
theorem d_L_law_262 : decode c_L_law 262 = .ok (.iadd, 1) := by decide +kernel
theorem d_L_law_263 : decode c_L_law 263 = .ok (.iaload, 1) := by decide +kernel
theorem d_L_law_264 : decode c_L_law 264 = .ok (.aload_n 3, 1) := by decide +kernel
theorem d_L_law_265 : decode c_L_law 265 = .ok (.invokestatic 78, 3) := by decide +kernel
theorem d_L_law_268 : decode c_L_law 268 = .ok (.istore 5, 2) := by decide +kernel
theorem d_L_law_270 : decode c_L_law 270 = .ok (.aload_n 2, 1) := by decide +kernel
theorem d_L_law_271 : decode c_L_law 271 = .ok (.aload_n 0, 1) := by decide +kernel
theorem d_L_law_272 : decode c_L_law 272 = .ok (.iload 4, 2) := by decide +kernel
theorem d_L_law_274 : decode c_L_law 274 = .ok (.iconst 1, 1) := by decide +kernel
theorem d_L_law_275 : decode c_L_law 275 = .ok (.iadd, 1) := by decide +kernel
theorem d_L_law_276 : decode c_L_law 276 = .ok (.iaload, 1) := by decide +kernel
theorem d_L_law_277 : decode c_L_law 277 = .ok (.aload_n 0, 1) := by decide +kernel
theorem d_L_law_278 : decode c_L_law 278 = .ok (.iload 4, 2) := by decide +kernel
theorem d_L_law_280 : decode c_L_law 280 = .ok (.iconst 2, 1) := by decide +kernel
theorem d_L_law_281 : decode c_L_law 281 = .ok (.iadd, 1) := by decide +kernel
theorem d_L_law_282 : decode c_L_law 282 = .ok (.iaload, 1) := by decide +kernel
theorem d_L_law_283 : decode c_L_law 283 = .ok (.invokevirtual 81, 3) := by decide +kernel
theorem d_L_law_286 : decode c_L_law 286 = .ok (.istore 6, 2) := by decide +kernel
theorem d_L_law_288 : decode c_L_law 288 = .ok (.aload_n 2, 1) := by decide +kernel
theorem d_L_law_289 : decode c_L_law 289 = .ok (.invokevirtual 75, 3) := by decide +kernel
theorem d_L_law_292 : decode c_L_law 292 = .ok (.iload 5, 2) := by decide +kernel
theorem d_L_law_294 : decode c_L_law 294 = .ok (.if_icmp .eq 5, 3) := by decide +kernel
theorem d_L_law_297 : decode c_L_law 297 = .ok (.iconst 0, 1) := by decide +kernel
theorem d_L_law_298 : decode c_L_law 298 = .ok (.ireturn, 1) := by decide +kernel
theorem d_L_law_299 : decode c_L_law 299 = .ok (.iload 5, 2) := by decide +kernel
theorem d_L_law_301 : decode c_L_law 301 = .ok (.ifCond .ne 15, 3) := by decide +kernel
theorem d_L_law_304 : decode c_L_law 304 = .ok (.aload_n 3, 1) := by decide +kernel
theorem d_L_law_305 : decode c_L_law 305 = .ok (.iconst 0, 1) := by decide +kernel
theorem d_L_law_306 : decode c_L_law 306 = .ok (.laload, 1) := by decide +kernel
theorem d_L_law_307 : decode c_L_law 307 = .ok (.iload 6, 2) := by decide +kernel
theorem d_L_law_309 : decode c_L_law 309 = .ok (.i2l, 1) := by decide +kernel
theorem d_L_law_310 : decode c_L_law 310 = .ok (.lcmp, 1) := by decide +kernel
theorem d_L_law_311 : decode c_L_law 311 = .ok (.ifCond .eq 5, 3) := by decide +kernel
theorem d_L_law_314 : decode c_L_law 314 = .ok (.iconst 0, 1) := by decide +kernel
theorem d_L_law_315 : decode c_L_law 315 = .ok (.ireturn, 1) := by decide +kernel
theorem d_L_law_316 : decode c_L_law 316 = .ok (.goto 1022, 3) := by decide +kernel
theorem d_L_law_319 : decode c_L_law 319 = .ok (.aload_n 1, 1) := by decide +kernel
theorem d_L_law_320 : decode c_L_law 320 = .ok (.aload_n 0, 1) := by decide +kernel
theorem d_L_law_321 : decode c_L_law 321 = .ok (.iload 4, 2) := by decide +kernel
theorem d_L_law_323 : decode c_L_law 323 = .ok (.iconst 1, 1) := by decide +kernel
theorem d_L_law_324 : decode c_L_law 324 = .ok (.iadd, 1) := by decide +kernel
theorem d_L_law_325 : decode c_L_law 325 = .ok (.iaload, 1) := by decide +kernel
theorem d_L_law_326 : decode c_L_law 326 = .ok (.aload_n 0, 1) := by decide +kernel
theorem d_L_law_327 : decode c_L_law 327 = .ok (.iload 4, 2) := by decide +kernel
theorem d_L_law_329 : decode c_L_law 329 = .ok (.iconst 2, 1) := by decide +kernel
theorem d_L_law_330 : decode c_L_law 330 = .ok (.iadd, 1) := by decide +kernel
theorem d_L_law_331 : decode c_L_law 331 = .ok (.iaload, 1) := by decide +kernel
theorem d_L_law_332 : decode c_L_law 332 = .ok (.i2l, 1) := by decide +kernel
theorem d_L_law_333 : decode c_L_law 333 = .ok (.bipush 32, 2) := by decide +kernel
theorem d_L_law_335 : decode c_L_law 335 = .ok (.lshl, 1) := by decide +kernel
theorem d_L_law_336 : decode c_L_law 336 = .ok (.aload_n 0, 1) := by decide +kernel
theorem d_L_law_337 : decode c_L_law 337 = .ok (.iload 4, 2) := by decide +kernel
theorem d_L_law_339 : decode c_L_law 339 = .ok (.iconst 3, 1) := by decide +kernel
theorem d_L_law_340 : decode c_L_law 340 = .ok (.iadd, 1) := by decide +kernel
theorem d_L_law_341 : decode c_L_law 341 = .ok (.iaload, 1) := by decide +kernel
theorem d_L_law_342 : decode c_L_law 342 = .ok (.i2l, 1) := by decide +kernel
theorem d_L_law_343 : decode c_L_law 343 = .ok (.ldc2_w 69, 3) := by decide +kernel
theorem d_L_law_346 : decode c_L_law 346 = .ok (.land, 1) := by decide +kernel
theorem d_L_law_347 : decode c_L_law 347 = .ok (.lor, 1) := by decide +kernel
theorem d_L_law_348 : decode c_L_law 348 = .ok (.invokestatic 82, 3) := by decide +kernel
theorem d_L_law_351 : decode c_L_law 351 = .ok (.istore 5, 2) := by decide +kernel
theorem d_L_law_353 : decode c_L_law 353 = .ok (.aload_n 2, 1) := by decide +kernel
theorem d_L_law_354 : decode c_L_law 354 = .ok (.aload_n 0, 1) := by decide +kernel
theorem d_L_law_355 : decode c_L_law 355 = .ok (.iload 4, 2) := by decide +kernel
theorem d_L_law_357 : decode c_L_law 357 = .ok (.iconst 1, 1) := by decide +kernel
theorem d_L_law_358 : decode c_L_law 358 = .ok (.iadd, 1) := by decide +kernel
theorem d_L_law_359 : decode c_L_law 359 = .ok (.iaload, 1) := by decide +kernel
theorem d_L_law_360 : decode c_L_law 360 = .ok (.aload_n 0, 1) := by decide +kernel
theorem d_L_law_361 : decode c_L_law 361 = .ok (.iload 4, 2) := by decide +kernel
theorem d_L_law_363 : decode c_L_law 363 = .ok (.iconst 2, 1) := by decide +kernel
theorem d_L_law_364 : decode c_L_law 364 = .ok (.iadd, 1) := by decide +kernel
theorem d_L_law_365 : decode c_L_law 365 = .ok (.iaload, 1) := by decide +kernel
theorem d_L_law_366 : decode c_L_law 366 = .ok (.i2l, 1) := by decide +kernel
theorem d_L_law_367 : decode c_L_law 367 = .ok (.bipush 32, 2) := by decide +kernel
theorem d_L_law_369 : decode c_L_law 369 = .ok (.lshl, 1) := by decide +kernel
theorem d_L_law_370 : decode c_L_law 370 = .ok (.aload_n 0, 1) := by decide +kernel
theorem d_L_law_371 : decode c_L_law 371 = .ok (.iload 4, 2) := by decide +kernel
theorem d_L_law_373 : decode c_L_law 373 = .ok (.iconst 3, 1) := by decide +kernel
theorem d_L_law_374 : decode c_L_law 374 = .ok (.iadd, 1) := by decide +kernel
theorem d_L_law_375 : decode c_L_law 375 = .ok (.iaload, 1) := by decide +kernel
theorem d_L_law_376 : decode c_L_law 376 = .ok (.i2l, 1) := by decide +kernel
theorem d_L_law_377 : decode c_L_law 377 = .ok (.ldc2_w 69, 3) := by decide +kernel
theorem d_L_law_380 : decode c_L_law 380 = .ok (.land, 1) := by decide +kernel
theorem d_L_law_381 : decode c_L_law 381 = .ok (.lor, 1) := by decide +kernel
theorem d_L_law_382 : decode c_L_law 382 = .ok (.invokevirtual 85, 3) := by decide +kernel
theorem d_L_law_385 : decode c_L_law 385 = .ok (.aload_n 2, 1) := by decide +kernel
theorem d_L_law_386 : decode c_L_law 386 = .ok (.invokevirtual 75, 3) := by decide +kernel
theorem d_L_law_389 : decode c_L_law 389 = .ok (.iload 5, 2) := by decide +kernel
theorem d_L_law_391 : decode c_L_law 391 = .ok (.if_icmp .eq 5, 3) := by decide +kernel
theorem d_L_law_394 : decode c_L_law 394 = .ok (.iconst 0, 1) := by decide +kernel
theorem d_L_law_395 : decode c_L_law 395 = .ok (.ireturn, 1) := by decide +kernel
theorem d_L_law_396 : decode c_L_law 396 = .ok (.goto 942, 3) := by decide +kernel
theorem d_L_law_399 : decode c_L_law 399 = .ok (.aload_n 1, 1) := by decide +kernel
theorem d_L_law_400 : decode c_L_law 400 = .ok (.aload_n 0, 1) := by decide +kernel
theorem d_L_law_401 : decode c_L_law 401 = .ok (.iload 4, 2) := by decide +kernel
theorem d_L_law_403 : decode c_L_law 403 = .ok (.iconst 1, 1) := by decide +kernel
theorem d_L_law_404 : decode c_L_law 404 = .ok (.iadd, 1) := by decide +kernel
theorem d_L_law_405 : decode c_L_law 405 = .ok (.iaload, 1) := by decide +kernel
theorem d_L_law_406 : decode c_L_law 406 = .ok (.invokevirtual 86, 3) := by decide +kernel
theorem d_L_law_409 : decode c_L_law 409 = .ok (.aload_n 2, 1) := by decide +kernel
theorem d_L_law_410 : decode c_L_law 410 = .ok (.aload_n 0, 1) := by decide +kernel
theorem d_L_law_411 : decode c_L_law 411 = .ok (.iload 4, 2) := by decide +kernel
theorem d_L_law_413 : decode c_L_law 413 = .ok (.iconst 1, 1) := by decide +kernel
theorem d_L_law_414 : decode c_L_law 414 = .ok (.iadd, 1) := by decide +kernel
theorem d_L_law_415 : decode c_L_law 415 = .ok (.iaload, 1) := by decide +kernel
theorem d_L_law_416 : decode c_L_law 416 = .ok (.invokevirtual 89, 3) := by decide +kernel
theorem d_L_law_419 : decode c_L_law 419 = .ok (.if_icmp .eq 919, 3) := by decide +kernel
theorem d_L_law_422 : decode c_L_law 422 = .ok (.iconst 0, 1) := by decide +kernel
theorem d_L_law_423 : decode c_L_law 423 = .ok (.ireturn, 1) := by decide +kernel
theorem d_L_law_424 : decode c_L_law 424 = .ok (.aload_n 1, 1) := by decide +kernel
theorem d_L_law_425 : decode c_L_law 425 = .ok (.aload_n 3, 1) := by decide +kernel
theorem d_L_law_426 : decode c_L_law 426 = .ok (.invokestatic 90, 3) := by decide +kernel
theorem d_L_law_429 : decode c_L_law 429 = .ok (.istore 5, 2) := by decide +kernel
theorem d_L_law_431 : decode c_L_law 431 = .ok (.aload_n 2, 1) := by decide +kernel
theorem d_L_law_432 : decode c_L_law 432 = .ok (.invokevirtual 93, 3) := by decide +kernel
theorem d_L_law_435 : decode c_L_law 435 = .ok (.istore 6, 2) := by decide +kernel
theorem d_L_law_437 : decode c_L_law 437 = .ok (.aload_n 2, 1) := by decide +kernel
theorem d_L_law_438 : decode c_L_law 438 = .ok (.invokevirtual 75, 3) := by decide +kernel
theorem d_L_law_441 : decode c_L_law 441 = .ok (.iload 5, 2) := by decide +kernel
theorem d_L_law_443 : decode c_L_law 443 = .ok (.if_icmp .eq 5, 3) := by decide +kernel
theorem d_L_law_446 : decode c_L_law 446 = .ok (.iconst 0, 1) := by decide +kernel
theorem d_L_law_447 : decode c_L_law 447 = .ok (.ireturn, 1) := by decide +kernel
theorem d_L_law_448 : decode c_L_law 448 = .ok (.iload 5, 2) := by decide +kernel
theorem d_L_law_450 : decode c_L_law 450 = .ok (.ifCond .ne 15, 3) := by decide +kernel
theorem d_L_law_453 : decode c_L_law 453 = .ok (.aload_n 3, 1) := by decide +kernel
theorem d_L_law_454 : decode c_L_law 454 = .ok (.iconst 0, 1) := by decide +kernel
theorem d_L_law_455 : decode c_L_law 455 = .ok (.laload, 1) := by decide +kernel
theorem d_L_law_456 : decode c_L_law 456 = .ok (.iload 6, 2) := by decide +kernel
theorem d_L_law_458 : decode c_L_law 458 = .ok (.i2l, 1) := by decide +kernel
theorem d_L_law_459 : decode c_L_law 459 = .ok (.lcmp, 1) := by decide +kernel
theorem d_L_law_460 : decode c_L_law 460 = .ok (.ifCond .eq 5, 3) := by decide +kernel
theorem d_L_law_463 : decode c_L_law 463 = .ok (.iconst 0, 1) := by decide +kernel
theorem d_L_law_464 : decode c_L_law 464 = .ok (.ireturn, 1) := by decide +kernel
theorem d_L_law_465 : decode c_L_law 465 = .ok (.goto 873, 3) := by decide +kernel
theorem d_L_law_468 : decode c_L_law 468 = .ok (.aload_n 1, 1) := by decide +kernel
theorem d_L_law_469 : decode c_L_law 469 = .ok (.aload_n 0, 1) := by decide +kernel
theorem d_L_law_470 : decode c_L_law 470 = .ok (.iload 4, 2) := by decide +kernel
theorem d_L_law_472 : decode c_L_law 472 = .ok (.iconst 1, 1) := by decide +kernel
theorem d_L_law_473 : decode c_L_law 473 = .ok (.iadd, 1) := by decide +kernel
theorem d_L_law_474 : decode c_L_law 474 = .ok (.iaload, 1) := by decide +kernel
theorem d_L_law_475 : decode c_L_law 475 = .ok (.aload_n 3, 1) := by decide +kernel
theorem d_L_law_476 : decode c_L_law 476 = .ok (.invokestatic 94, 3) := by decide +kernel
theorem d_L_law_479 : decode c_L_law 479 = .ok (.istore 5, 2) := by decide +kernel
theorem d_L_law_481 : decode c_L_law 481 = .ok (.aload_n 2, 1) := by decide +kernel
theorem d_L_law_482 : decode c_L_law 482 = .ok (.aload_n 0, 1) := by decide +kernel
theorem d_L_law_483 : decode c_L_law 483 = .ok (.iload 4, 2) := by decide +kernel
theorem d_L_law_485 : decode c_L_law 485 = .ok (.iconst 1, 1) := by decide +kernel
theorem d_L_law_486 : decode c_L_law 486 = .ok (.iadd, 1) := by decide +kernel
theorem d_L_law_487 : decode c_L_law 487 = .ok (.iaload, 1) := by decide +kernel
theorem d_L_law_488 : decode c_L_law 488 = .ok (.invokevirtual 97, 3) := by decide +kernel
theorem d_L_law_491 : decode c_L_law 491 = .ok (.istore 6, 2) := by decide +kernel
theorem d_L_law_493 : decode c_L_law 493 = .ok (.aload_n 2, 1) := by decide +kernel
theorem d_L_law_494 : decode c_L_law 494 = .ok (.invokevirtual 75, 3) := by decide +kernel
theorem d_L_law_497 : decode c_L_law 497 = .ok (.iload 5, 2) := by decide +kernel
theorem d_L_law_499 : decode c_L_law 499 = .ok (.if_icmp .eq 5, 3) := by decide +kernel
theorem d_L_law_502 : decode c_L_law 502 = .ok (.iconst 0, 1) := by decide +kernel
theorem d_L_law_503 : decode c_L_law 503 = .ok (.ireturn, 1) := by decide +kernel
theorem d_L_law_504 : decode c_L_law 504 = .ok (.iload 5, 2) := by decide +kernel
theorem d_L_law_506 : decode c_L_law 506 = .ok (.ifCond .ne 15, 3) := by decide +kernel
theorem d_L_law_509 : decode c_L_law 509 = .ok (.aload_n 3, 1) := by decide +kernel
theorem d_L_law_510 : decode c_L_law 510 = .ok (.iconst 0, 1) := by decide +kernel
theorem d_L_law_511 : decode c_L_law 511 = .ok (.laload, 1) := by decide +kernel
theorem d_L_law_512 : decode c_L_law 512 = .ok (.iload 6, 2) := by decide +kernel
theorem d_L_law_514 : decode c_L_law 514 = .ok (.i2l, 1) := by decide +kernel
theorem d_L_law_515 : decode c_L_law 515 = .ok (.lcmp, 1) := by decide +kernel
theorem d_L_law_516 : decode c_L_law 516 = .ok (.ifCond .eq 5, 3) := by decide +kernel
theorem d_L_law_519 : decode c_L_law 519 = .ok (.iconst 0, 1) := by decide +kernel
theorem d_L_law_520 : decode c_L_law 520 = .ok (.ireturn, 1) := by decide +kernel
theorem d_L_law_521 : decode c_L_law 521 = .ok (.goto 817, 3) := by decide +kernel
theorem d_L_law_524 : decode c_L_law 524 = .ok (.aload_n 1, 1) := by decide +kernel
theorem d_L_law_525 : decode c_L_law 525 = .ok (.aload_n 0, 1) := by decide +kernel
theorem d_L_law_526 : decode c_L_law 526 = .ok (.iload 4, 2) := by decide +kernel
theorem d_L_law_528 : decode c_L_law 528 = .ok (.iconst 1, 1) := by decide +kernel
theorem d_L_law_529 : decode c_L_law 529 = .ok (.iadd, 1) := by decide +kernel
theorem d_L_law_530 : decode c_L_law 530 = .ok (.iaload, 1) := by decide +kernel
theorem d_L_law_531 : decode c_L_law 531 = .ok (.ifCond .eq 7, 3) := by decide +kernel
theorem d_L_law_534 : decode c_L_law 534 = .ok (.iconst 1, 1) := by decide +kernel
theorem d_L_law_535 : decode c_L_law 535 = .ok (.goto 4, 3) := by decide +kernel
theorem d_L_law_538 : decode c_L_law 538 = .ok (.iconst 0, 1) := by decide +kernel
theorem d_L_law_539 : decode c_L_law 539 = .ok (.aload_n 0, 1) := by decide +kernel
theorem d_L_law_540 : decode c_L_law 540 = .ok (.iload 4, 2) := by decide +kernel
theorem d_L_law_542 : decode c_L_law 542 = .ok (.iconst 2, 1) := by decide +kernel
theorem d_L_law_543 : decode c_L_law 543 = .ok (.iadd, 1) := by decide +kernel
theorem d_L_law_544 : decode c_L_law 544 = .ok (.iaload, 1) := by decide +kernel
theorem d_L_law_545 : decode c_L_law 545 = .ok (.i2l, 1) := by decide +kernel
theorem d_L_law_546 : decode c_L_law 546 = .ok (.bipush 32, 2) := by decide +kernel
theorem d_L_law_548 : decode c_L_law 548 = .ok (.lshl, 1) := by decide +kernel
theorem d_L_law_549 : decode c_L_law 549 = .ok (.aload_n 0, 1) := by decide +kernel
theorem d_L_law_550 : decode c_L_law 550 = .ok (.iload 4, 2) := by decide +kernel
theorem d_L_law_552 : decode c_L_law 552 = .ok (.iconst 3, 1) := by decide +kernel
theorem d_L_law_553 : decode c_L_law 553 = .ok (.iadd, 1) := by decide +kernel
theorem d_L_law_554 : decode c_L_law 554 = .ok (.iaload, 1) := by decide +kernel
theorem d_L_law_555 : decode c_L_law 555 = .ok (.i2l, 1) := by decide +kernel
theorem d_L_law_556 : decode c_L_law 556 = .ok (.ldc2_w 69, 3) := by decide +kernel
theorem d_L_law_559 : decode c_L_law 559 = .ok (.land, 1) := by decide +kernel
theorem d_L_law_560 : decode c_L_law 560 = .ok (.lor, 1) := by decide +kernel
theorem d_L_law_561 : decode c_L_law 561 = .ok (.aload_n 3, 1) := by decide +kernel
theorem d_L_law_562 : decode c_L_law 562 = .ok (.invokestatic 98, 3) := by decide +kernel
theorem d_L_law_565 : decode c_L_law 565 = .ok (.istore 5, 2) := by decide +kernel
theorem d_L_law_567 : decode c_L_law 567 = .ok (.aload_n 2, 1) := by decide +kernel
theorem d_L_law_568 : decode c_L_law 568 = .ok (.aload_n 0, 1) := by decide +kernel
theorem d_L_law_569 : decode c_L_law 569 = .ok (.iload 4, 2) := by decide +kernel
theorem d_L_law_571 : decode c_L_law 571 = .ok (.iconst 1, 1) := by decide +kernel
theorem d_L_law_572 : decode c_L_law 572 = .ok (.iadd, 1) := by decide +kernel
theorem d_L_law_573 : decode c_L_law 573 = .ok (.iaload, 1) := by decide +kernel
theorem d_L_law_574 : decode c_L_law 574 = .ok (.ifCond .eq 7, 3) := by decide +kernel
theorem d_L_law_577 : decode c_L_law 577 = .ok (.iconst 1, 1) := by decide +kernel
theorem d_L_law_578 : decode c_L_law 578 = .ok (.goto 4, 3) := by decide +kernel
theorem d_L_law_581 : decode c_L_law 581 = .ok (.iconst 0, 1) := by decide +kernel
theorem d_L_law_582 : decode c_L_law 582 = .ok (.aload_n 0, 1) := by decide +kernel
theorem d_L_law_583 : decode c_L_law 583 = .ok (.iload 4, 2) := by decide +kernel
theorem d_L_law_585 : decode c_L_law 585 = .ok (.iconst 2, 1) := by decide +kernel
theorem d_L_law_586 : decode c_L_law 586 = .ok (.iadd, 1) := by decide +kernel
theorem d_L_law_587 : decode c_L_law 587 = .ok (.iaload, 1) := by decide +kernel
theorem d_L_law_588 : decode c_L_law 588 = .ok (.i2l, 1) := by decide +kernel
theorem d_L_law_589 : decode c_L_law 589 = .ok (.bipush 32, 2) := by decide +kernel
theorem d_L_law_591 : decode c_L_law 591 = .ok (.lshl, 1) := by decide +kernel
theorem d_L_law_592 : decode c_L_law 592 = .ok (.aload_n 0, 1) := by decide +kernel
theorem d_L_law_593 : decode c_L_law 593 = .ok (.iload 4, 2) := by decide +kernel
theorem d_L_law_595 : decode c_L_law 595 = .ok (.iconst 3, 1) := by decide +kernel
theorem d_L_law_596 : decode c_L_law 596 = .ok (.iadd, 1) := by decide +kernel
theorem d_L_law_597 : decode c_L_law 597 = .ok (.iaload, 1) := by decide +kernel
theorem d_L_law_598 : decode c_L_law 598 = .ok (.i2l, 1) := by decide +kernel
theorem d_L_law_599 : decode c_L_law 599 = .ok (.ldc2_w 69, 3) := by decide +kernel
theorem d_L_law_602 : decode c_L_law 602 = .ok (.land, 1) := by decide +kernel
theorem d_L_law_603 : decode c_L_law 603 = .ok (.lor, 1) := by decide +kernel
theorem d_L_law_604 : decode c_L_law 604 = .ok (.invokevirtual 101, 3) := by decide +kernel
theorem d_L_law_607 : decode c_L_law 607 = .ok (.istore 6, 2) := by decide +kernel
theorem d_L_law_609 : decode c_L_law 609 = .ok (.aload_n 2, 1) := by decide +kernel
theorem d_L_law_610 : decode c_L_law 610 = .ok (.invokevirtual 75, 3) := by decide +kernel
theorem d_L_law_613 : decode c_L_law 613 = .ok (.iload 5, 2) := by decide +kernel
theorem d_L_law_615 : decode c_L_law 615 = .ok (.if_icmp .eq 5, 3) := by decide +kernel
theorem d_L_law_618 : decode c_L_law 618 = .ok (.iconst 0, 1) := by decide +kernel
theorem d_L_law_619 : decode c_L_law 619 = .ok (.ireturn, 1) := by decide +kernel
theorem d_L_law_620 : decode c_L_law 620 = .ok (.iload 5, 2) := by decide +kernel
theorem d_L_law_622 : decode c_L_law 622 = .ok (.ifCond .ne 15, 3) := by decide +kernel
theorem d_L_law_625 : decode c_L_law 625 = .ok (.aload_n 3, 1) := by decide +kernel
theorem d_L_law_626 : decode c_L_law 626 = .ok (.iconst 0, 1) := by decide +kernel
theorem d_L_law_627 : decode c_L_law 627 = .ok (.laload, 1) := by decide +kernel
theorem d_L_law_628 : decode c_L_law 628 = .ok (.iload 6, 2) := by decide +kernel
theorem d_L_law_630 : decode c_L_law 630 = .ok (.i2l, 1) := by decide +kernel
theorem d_L_law_631 : decode c_L_law 631 = .ok (.lcmp, 1) := by decide +kernel
theorem d_L_law_632 : decode c_L_law 632 = .ok (.ifCond .eq 5, 3) := by decide +kernel
theorem d_L_law_635 : decode c_L_law 635 = .ok (.iconst 0, 1) := by decide +kernel
theorem d_L_law_636 : decode c_L_law 636 = .ok (.ireturn, 1) := by decide +kernel
theorem d_L_law_637 : decode c_L_law 637 = .ok (.goto 701, 3) := by decide +kernel
theorem d_L_law_640 : decode c_L_law 640 = .ok (.aload_n 1, 1) := by decide +kernel
theorem d_L_law_641 : decode c_L_law 641 = .ok (.aload_n 0, 1) := by decide +kernel
theorem d_L_law_642 : decode c_L_law 642 = .ok (.iload 4, 2) := by decide +kernel
theorem d_L_law_644 : decode c_L_law 644 = .ok (.iconst 1, 1) := by decide +kernel
theorem d_L_law_645 : decode c_L_law 645 = .ok (.iadd, 1) := by decide +kernel
theorem d_L_law_646 : decode c_L_law 646 = .ok (.iaload, 1) := by decide +kernel
theorem d_L_law_647 : decode c_L_law 647 = .ok (.ifCond .eq 7, 3) := by decide +kernel
theorem d_L_law_650 : decode c_L_law 650 = .ok (.iconst 1, 1) := by decide +kernel
theorem d_L_law_651 : decode c_L_law 651 = .ok (.goto 4, 3) := by decide +kernel
theorem d_L_law_654 : decode c_L_law 654 = .ok (.iconst 0, 1) := by decide +kernel
theorem d_L_law_655 : decode c_L_law 655 = .ok (.aload_n 0, 1) := by decide +kernel
theorem d_L_law_656 : decode c_L_law 656 = .ok (.iload 4, 2) := by decide +kernel
theorem d_L_law_658 : decode c_L_law 658 = .ok (.iconst 2, 1) := by decide +kernel
theorem d_L_law_659 : decode c_L_law 659 = .ok (.iadd, 1) := by decide +kernel
theorem d_L_law_660 : decode c_L_law 660 = .ok (.iaload, 1) := by decide +kernel
theorem d_L_law_661 : decode c_L_law 661 = .ok (.i2l, 1) := by decide +kernel
theorem d_L_law_662 : decode c_L_law 662 = .ok (.bipush 32, 2) := by decide +kernel
theorem d_L_law_664 : decode c_L_law 664 = .ok (.lshl, 1) := by decide +kernel
theorem d_L_law_665 : decode c_L_law 665 = .ok (.aload_n 0, 1) := by decide +kernel
theorem d_L_law_666 : decode c_L_law 666 = .ok (.iload 4, 2) := by decide +kernel
theorem d_L_law_668 : decode c_L_law 668 = .ok (.iconst 3, 1) := by decide +kernel
theorem d_L_law_669 : decode c_L_law 669 = .ok (.iadd, 1) := by decide +kernel
theorem d_L_law_670 : decode c_L_law 670 = .ok (.iaload, 1) := by decide +kernel
theorem d_L_law_671 : decode c_L_law 671 = .ok (.i2l, 1) := by decide +kernel
theorem d_L_law_672 : decode c_L_law 672 = .ok (.ldc2_w 69, 3) := by decide +kernel
theorem d_L_law_675 : decode c_L_law 675 = .ok (.land, 1) := by decide +kernel
theorem d_L_law_676 : decode c_L_law 676 = .ok (.lor, 1) := by decide +kernel
theorem d_L_law_677 : decode c_L_law 677 = .ok (.aload_n 3, 1) := by decide +kernel
theorem d_L_law_678 : decode c_L_law 678 = .ok (.invokestatic 102, 3) := by decide +kernel
theorem d_L_law_681 : decode c_L_law 681 = .ok (.istore 5, 2) := by decide +kernel
theorem d_L_law_683 : decode c_L_law 683 = .ok (.aload_n 2, 1) := by decide +kernel
theorem d_L_law_684 : decode c_L_law 684 = .ok (.aload_n 0, 1) := by decide +kernel
theorem d_L_law_685 : decode c_L_law 685 = .ok (.iload 4, 2) := by decide +kernel
theorem d_L_law_687 : decode c_L_law 687 = .ok (.iconst 1, 1) := by decide +kernel
theorem d_L_law_688 : decode c_L_law 688 = .ok (.iadd, 1) := by decide +kernel
theorem d_L_law_689 : decode c_L_law 689 = .ok (.iaload, 1) := by decide +kernel
theorem d_L_law_690 : decode c_L_law 690 = .ok (.ifCond .eq 7, 3) := by decide +kernel
theorem d_L_law_693 : decode c_L_law 693 = .ok (.iconst 1, 1) := by decide +kernel
theorem d_L_law_694 : decode c_L_law 694 = .ok (.goto 4, 3) := by decide +kernel
theorem d_L_law_697 : decode c_L_law 697 = .ok (.iconst 0, 1) := by decide +kernel
theorem d_L_law_698 : decode c_L_law 698 = .ok (.aload_n 0, 1) := by decide +kernel
theorem d_L_law_699 : decode c_L_law 699 = .ok (.iload 4, 2) := by decide +kernel
theorem d_L_law_701 : decode c_L_law 701 = .ok (.iconst 2, 1) := by decide +kernel
theorem d_L_law_702 : decode c_L_law 702 = .ok (.iadd, 1) := by decide +kernel
theorem d_L_law_703 : decode c_L_law 703 = .ok (.iaload, 1) := by decide +kernel
theorem d_L_law_704 : decode c_L_law 704 = .ok (.i2l, 1) := by decide +kernel
theorem d_L_law_705 : decode c_L_law 705 = .ok (.bipush 32, 2) := by decide +kernel
theorem d_L_law_707 : decode c_L_law 707 = .ok (.lshl, 1) := by decide +kernel
theorem d_L_law_708 : decode c_L_law 708 = .ok (.aload_n 0, 1) := by decide +kernel
theorem d_L_law_709 : decode c_L_law 709 = .ok (.iload 4, 2) := by decide +kernel
theorem d_L_law_711 : decode c_L_law 711 = .ok (.iconst 3, 1) := by decide +kernel
theorem d_L_law_712 : decode c_L_law 712 = .ok (.iadd, 1) := by decide +kernel
theorem d_L_law_713 : decode c_L_law 713 = .ok (.iaload, 1) := by decide +kernel
theorem d_L_law_714 : decode c_L_law 714 = .ok (.i2l, 1) := by decide +kernel
theorem d_L_law_715 : decode c_L_law 715 = .ok (.ldc2_w 69, 3) := by decide +kernel
theorem d_L_law_718 : decode c_L_law 718 = .ok (.land, 1) := by decide +kernel
theorem d_L_law_719 : decode c_L_law 719 = .ok (.lor, 1) := by decide +kernel
theorem d_L_law_720 : decode c_L_law 720 = .ok (.invokevirtual 104, 3) := by decide +kernel
theorem d_L_law_723 : decode c_L_law 723 = .ok (.istore 6, 2) := by decide +kernel
theorem d_L_law_725 : decode c_L_law 725 = .ok (.aload_n 2, 1) := by decide +kernel
theorem d_L_law_726 : decode c_L_law 726 = .ok (.invokevirtual 75, 3) := by decide +kernel
theorem d_L_law_729 : decode c_L_law 729 = .ok (.iload 5, 2) := by decide +kernel
theorem d_L_law_731 : decode c_L_law 731 = .ok (.if_icmp .eq 5, 3) := by decide +kernel
theorem d_L_law_734 : decode c_L_law 734 = .ok (.iconst 0, 1) := by decide +kernel
theorem d_L_law_735 : decode c_L_law 735 = .ok (.ireturn, 1) := by decide +kernel
theorem d_L_law_736 : decode c_L_law 736 = .ok (.iload 5, 2) := by decide +kernel
theorem d_L_law_738 : decode c_L_law 738 = .ok (.ifCond .ne 22, 3) := by decide +kernel
theorem d_L_law_741 : decode c_L_law 741 = .ok (.aload_n 3, 1) := by decide +kernel
theorem d_L_law_742 : decode c_L_law 742 = .ok (.iconst 0, 1) := by decide +kernel
theorem d_L_law_743 : decode c_L_law 743 = .ok (.laload, 1) := by decide +kernel
theorem d_L_law_744 : decode c_L_law 744 = .ok (.iload 6, 2) := by decide +kernel
theorem d_L_law_746 : decode c_L_law 746 = .ok (.ifCond .eq 7, 3) := by decide +kernel
theorem d_L_law_749 : decode c_L_law 749 = .ok (.lconst 1, 1) := by decide +kernel
theorem d_L_law_750 : decode c_L_law 750 = .ok (.goto 4, 3) := by decide +kernel
theorem d_L_law_753 : decode c_L_law 753 = .ok (.lconst 0, 1) := by decide +kernel
theorem d_L_law_754 : decode c_L_law 754 = .ok (.lcmp, 1) := by decide +kernel
theorem d_L_law_755 : decode c_L_law 755 = .ok (.ifCond .eq 5, 3) := by decide +kernel
theorem d_L_law_758 : decode c_L_law 758 = .ok (.iconst 0, 1) := by decide +kernel
theorem d_L_law_759 : decode c_L_law 759 = .ok (.ireturn, 1) := by decide +kernel
theorem d_L_law_760 : decode c_L_law 760 = .ok (.goto 578, 3) := by decide +kernel
theorem d_L_law_763 : decode c_L_law 763 = .ok (.aload_n 1, 1) := by decide +kernel
theorem d_L_law_764 : decode c_L_law 764 = .ok (.aload_n 0, 1) := by decide +kernel
theorem d_L_law_765 : decode c_L_law 765 = .ok (.iload 4, 2) := by decide +kernel
theorem d_L_law_767 : decode c_L_law 767 = .ok (.iconst 1, 1) := by decide +kernel
theorem d_L_law_768 : decode c_L_law 768 = .ok (.iadd, 1) := by decide +kernel
theorem d_L_law_769 : decode c_L_law 769 = .ok (.iaload, 1) := by decide +kernel
theorem d_L_law_770 : decode c_L_law 770 = .ok (.ifCond .eq 7, 3) := by decide +kernel
theorem d_L_law_773 : decode c_L_law 773 = .ok (.iconst 1, 1) := by decide +kernel
theorem d_L_law_774 : decode c_L_law 774 = .ok (.goto 4, 3) := by decide +kernel
theorem d_L_law_777 : decode c_L_law 777 = .ok (.iconst 0, 1) := by decide +kernel
theorem d_L_law_778 : decode c_L_law 778 = .ok (.aload_n 0, 1) := by decide +kernel
theorem d_L_law_779 : decode c_L_law 779 = .ok (.iload 4, 2) := by decide +kernel
theorem d_L_law_781 : decode c_L_law 781 = .ok (.iconst 2, 1) := by decide +kernel
theorem d_L_law_782 : decode c_L_law 782 = .ok (.iadd, 1) := by decide +kernel
theorem d_L_law_783 : decode c_L_law 783 = .ok (.iaload, 1) := by decide +kernel
theorem d_L_law_784 : decode c_L_law 784 = .ok (.i2l, 1) := by decide +kernel
theorem d_L_law_785 : decode c_L_law 785 = .ok (.bipush 32, 2) := by decide +kernel
theorem d_L_law_787 : decode c_L_law 787 = .ok (.lshl, 1) := by decide +kernel
theorem d_L_law_788 : decode c_L_law 788 = .ok (.aload_n 0, 1) := by decide +kernel
theorem d_L_law_789 : decode c_L_law 789 = .ok (.iload 4, 2) := by decide +kernel
theorem d_L_law_791 : decode c_L_law 791 = .ok (.iconst 3, 1) := by decide +kernel
theorem d_L_law_792 : decode c_L_law 792 = .ok (.iadd, 1) := by decide +kernel
theorem d_L_law_793 : decode c_L_law 793 = .ok (.iaload, 1) := by decide +kernel
theorem d_L_law_794 : decode c_L_law 794 = .ok (.i2l, 1) := by decide +kernel
theorem d_L_law_795 : decode c_L_law 795 = .ok (.ldc2_w 69, 3) := by decide +kernel
theorem d_L_law_798 : decode c_L_law 798 = .ok (.land, 1) := by decide +kernel
theorem d_L_law_799 : decode c_L_law 799 = .ok (.lor, 1) := by decide +kernel
theorem d_L_law_800 : decode c_L_law 800 = .ok (.aload_n 0, 1) := by decide +kernel
theorem d_L_law_801 : decode c_L_law 801 = .ok (.iload 4, 2) := by decide +kernel
theorem d_L_law_803 : decode c_L_law 803 = .ok (.iconst 4, 1) := by decide +kernel
theorem d_L_law_804 : decode c_L_law 804 = .ok (.iadd, 1) := by decide +kernel
theorem d_L_law_805 : decode c_L_law 805 = .ok (.iaload, 1) := by decide +kernel
theorem d_L_law_806 : decode c_L_law 806 = .ok (.aload_n 3, 1) := by decide +kernel
theorem d_L_law_807 : decode c_L_law 807 = .ok (.invokestatic 105, 3) := by decide +kernel
theorem d_L_law_810 : decode c_L_law 810 = .ok (.istore 5, 2) := by decide +kernel
theorem d_L_law_812 : decode c_L_law 812 = .ok (.aload_n 2, 1) := by decide +kernel
theorem d_L_law_813 : decode c_L_law 813 = .ok (.aload_n 0, 1) := by decide +kernel
theorem d_L_law_814 : decode c_L_law 814 = .ok (.iload 4, 2) := by decide +kernel
theorem d_L_law_816 : decode c_L_law 816 = .ok (.iconst 1, 1) := by decide +kernel
theorem d_L_law_817 : decode c_L_law 817 = .ok (.iadd, 1) := by decide +kernel
theorem d_L_law_818 : decode c_L_law 818 = .ok (.iaload, 1) := by decide +kernel
theorem d_L_law_819 : decode c_L_law 819 = .ok (.ifCond .eq 7, 3) := by decide +kernel
theorem d_L_law_822 : decode c_L_law 822 = .ok (.iconst 1, 1) := by decide +kernel
theorem d_L_law_823 : decode c_L_law 823 = .ok (.goto 4, 3) := by decide +kernel
theorem d_L_law_826 : decode c_L_law 826 = .ok (.iconst 0, 1) := by decide +kernel
theorem d_L_law_827 : decode c_L_law 827 = .ok (.aload_n 0, 1) := by decide +kernel
theorem d_L_law_828 : decode c_L_law 828 = .ok (.iload 4, 2) := by decide +kernel
theorem d_L_law_830 : decode c_L_law 830 = .ok (.iconst 2, 1) := by decide +kernel
theorem d_L_law_831 : decode c_L_law 831 = .ok (.iadd, 1) := by decide +kernel
theorem d_L_law_832 : decode c_L_law 832 = .ok (.iaload, 1) := by decide +kernel
theorem d_L_law_833 : decode c_L_law 833 = .ok (.i2l, 1) := by decide +kernel
theorem d_L_law_834 : decode c_L_law 834 = .ok (.bipush 32, 2) := by decide +kernel
theorem d_L_law_836 : decode c_L_law 836 = .ok (.lshl, 1) := by decide +kernel
theorem d_L_law_837 : decode c_L_law 837 = .ok (.aload_n 0, 1) := by decide +kernel
theorem d_L_law_838 : decode c_L_law 838 = .ok (.iload 4, 2) := by decide +kernel
theorem d_L_law_840 : decode c_L_law 840 = .ok (.iconst 3, 1) := by decide +kernel
theorem d_L_law_841 : decode c_L_law 841 = .ok (.iadd, 1) := by decide +kernel
theorem d_L_law_842 : decode c_L_law 842 = .ok (.iaload, 1) := by decide +kernel
theorem d_L_law_843 : decode c_L_law 843 = .ok (.i2l, 1) := by decide +kernel
theorem d_L_law_844 : decode c_L_law 844 = .ok (.ldc2_w 69, 3) := by decide +kernel
theorem d_L_law_847 : decode c_L_law 847 = .ok (.land, 1) := by decide +kernel
theorem d_L_law_848 : decode c_L_law 848 = .ok (.lor, 1) := by decide +kernel
theorem d_L_law_849 : decode c_L_law 849 = .ok (.aload_n 0, 1) := by decide +kernel
theorem d_L_law_850 : decode c_L_law 850 = .ok (.iload 4, 2) := by decide +kernel
theorem d_L_law_852 : decode c_L_law 852 = .ok (.iconst 4, 1) := by decide +kernel
theorem d_L_law_853 : decode c_L_law 853 = .ok (.iadd, 1) := by decide +kernel
theorem d_L_law_854 : decode c_L_law 854 = .ok (.iaload, 1) := by decide +kernel
theorem d_L_law_855 : decode c_L_law 855 = .ok (.invokevirtual 108, 3) := by decide +kernel
theorem d_L_law_858 : decode c_L_law 858 = .ok (.istore 6, 2) := by decide +kernel
theorem d_L_law_860 : decode c_L_law 860 = .ok (.aload_n 2, 1) := by decide +kernel
theorem d_L_law_861 : decode c_L_law 861 = .ok (.invokevirtual 75, 3) := by decide +kernel
theorem d_L_law_864 : decode c_L_law 864 = .ok (.iload 5, 2) := by decide +kernel
theorem d_L_law_866 : decode c_L_law 866 = .ok (.if_icmp .eq 5, 3) := by decide +kernel
theorem d_L_law_869 : decode c_L_law 869 = .ok (.iconst 0, 1) := by decide +kernel
theorem d_L_law_870 : decode c_L_law 870 = .ok (.ireturn, 1) := by decide +kernel
theorem d_L_law_871 : decode c_L_law 871 = .ok (.iload 5, 2) := by decide +kernel
theorem d_L_law_873 : decode c_L_law 873 = .ok (.ifCond .ne 15, 3) := by decide +kernel
theorem d_L_law_876 : decode c_L_law 876 = .ok (.aload_n 3, 1) := by decide +kernel
theorem d_L_law_877 : decode c_L_law 877 = .ok (.iconst 0, 1) := by decide +kernel
theorem d_L_law_878 : decode c_L_law 878 = .ok (.laload, 1) := by decide +kernel
theorem d_L_law_879 : decode c_L_law 879 = .ok (.iload 6, 2) := by decide +kernel
theorem d_L_law_881 : decode c_L_law 881 = .ok (.i2l, 1) := by decide +kernel
theorem d_L_law_882 : decode c_L_law 882 = .ok (.lcmp, 1) := by decide +kernel
theorem d_L_law_883 : decode c_L_law 883 = .ok (.ifCond .eq 5, 3) := by decide +kernel
theorem d_L_law_886 : decode c_L_law 886 = .ok (.iconst 0, 1) := by decide +kernel
theorem d_L_law_887 : decode c_L_law 887 = .ok (.ireturn, 1) := by decide +kernel
theorem d_L_law_888 : decode c_L_law 888 = .ok (.goto 450, 3) := by decide +kernel
theorem d_L_law_891 : decode c_L_law 891 = .ok (.aload_n 1, 1) := by decide +kernel
theorem d_L_law_892 : decode c_L_law 892 = .ok (.invokevirtual 109, 3) := by decide +kernel
theorem d_L_law_895 : decode c_L_law 895 = .ok (.aload_n 2, 1) := by decide +kernel
theorem d_L_law_896 : decode c_L_law 896 = .ok (.invokevirtual 112, 3) := by decide +kernel
theorem d_L_law_899 : decode c_L_law 899 = .ok (.if_icmp .eq 439, 3) := by decide +kernel
theorem d_L_law_902 : decode c_L_law 902 = .ok (.iconst 0, 1) := by decide +kernel
theorem d_L_law_903 : decode c_L_law 903 = .ok (.ireturn, 1) := by decide +kernel
theorem d_L_law_904 : decode c_L_law 904 = .ok (.aload_n 1, 1) := by decide +kernel
theorem d_L_law_905 : decode c_L_law 905 = .ok (.aload_n 0, 1) := by decide +kernel
theorem d_L_law_906 : decode c_L_law 906 = .ok (.iload 4, 2) := by decide +kernel
theorem d_L_law_908 : decode c_L_law 908 = .ok (.iconst 1, 1) := by decide +kernel
theorem d_L_law_909 : decode c_L_law 909 = .ok (.iadd, 1) := by decide +kernel
theorem d_L_law_910 : decode c_L_law 910 = .ok (.iaload, 1) := by decide +kernel
theorem d_L_law_911 : decode c_L_law 911 = .ok (.aload_n 0, 1) := by decide +kernel
theorem d_L_law_912 : decode c_L_law 912 = .ok (.iload 4, 2) := by decide +kernel
theorem d_L_law_914 : decode c_L_law 914 = .ok (.iconst 2, 1) := by decide +kernel
theorem d_L_law_915 : decode c_L_law 915 = .ok (.iadd, 1) := by decide +kernel
theorem d_L_law_916 : decode c_L_law 916 = .ok (.iaload, 1) := by decide +kernel
theorem d_L_law_917 : decode c_L_law 917 = .ok (.aload_n 3, 1) := by decide +kernel
theorem d_L_law_918 : decode c_L_law 918 = .ok (.invokestatic 113, 3) := by decide +kernel
theorem d_L_law_921 : decode c_L_law 921 = .ok (.istore 5, 2) := by decide +kernel
theorem d_L_law_923 : decode c_L_law 923 = .ok (.aload_n 2, 1) := by decide +kernel
theorem d_L_law_924 : decode c_L_law 924 = .ok (.aload_n 0, 1) := by decide +kernel
theorem d_L_law_925 : decode c_L_law 925 = .ok (.iload 4, 2) := by decide +kernel
theorem d_L_law_927 : decode c_L_law 927 = .ok (.iconst 1, 1) := by decide +kernel
theorem d_L_law_928 : decode c_L_law 928 = .ok (.iadd, 1) := by decide +kernel
theorem d_L_law_929 : decode c_L_law 929 = .ok (.iaload, 1) := by decide +kernel
theorem d_L_law_930 : decode c_L_law 930 = .ok (.aload_n 0, 1) := by decide +kernel
theorem d_L_law_931 : decode c_L_law 931 = .ok (.iload 4, 2) := by decide +kernel
theorem d_L_law_933 : decode c_L_law 933 = .ok (.iconst 2, 1) := by decide +kernel
theorem d_L_law_934 : decode c_L_law 934 = .ok (.iadd, 1) := by decide +kernel
theorem d_L_law_935 : decode c_L_law 935 = .ok (.iaload, 1) := by decide +kernel
theorem d_L_law_936 : decode c_L_law 936 = .ok (.invokevirtual 115, 3) := by decide +kernel
theorem d_L_law_939 : decode c_L_law 939 = .ok (.istore 6, 2) := by decide +kernel
theorem d_L_law_941 : decode c_L_law 941 = .ok (.aload_n 2, 1) := by decide +kernel
theorem d_L_law_942 : decode c_L_law 942 = .ok (.invokevirtual 75, 3) := by decide +kernel
theorem d_L_law_945 : decode c_L_law 945 = .ok (.iload 5, 2) := by decide +kernel
theorem d_L_law_947 : decode c_L_law 947 = .ok (.if_icmp .eq 5, 3) := by decide +kernel
theorem d_L_law_950 : decode c_L_law 950 = .ok (.iconst 0, 1) := by decide +kernel
theorem d_L_law_951 : decode c_L_law 951 = .ok (.ireturn, 1) := by decide +kernel
theorem d_L_law_952 : decode c_L_law 952 = .ok (.iload 5, 2) := by decide +kernel
theorem d_L_law_954 : decode c_L_law 954 = .ok (.ifCond .ne 15, 3) := by decide +kernel
theorem d_L_law_957 : decode c_L_law 957 = .ok (.aload_n 3, 1) := by decide +kernel
theorem d_L_law_958 : decode c_L_law 958 = .ok (.iconst 0, 1) := by decide +kernel
theorem d_L_law_959 : decode c_L_law 959 = .ok (.laload, 1) := by decide +kernel
theorem d_L_law_960 : decode c_L_law 960 = .ok (.iload 6, 2) := by decide +kernel
theorem d_L_law_962 : decode c_L_law 962 = .ok (.i2l, 1) := by decide +kernel
theorem d_L_law_963 : decode c_L_law 963 = .ok (.lcmp, 1) := by decide +kernel
theorem d_L_law_964 : decode c_L_law 964 = .ok (.ifCond .eq 5, 3) := by decide +kernel
theorem d_L_law_967 : decode c_L_law 967 = .ok (.iconst 0, 1) := by decide +kernel
theorem d_L_law_968 : decode c_L_law 968 = .ok (.ireturn, 1) := by decide +kernel
theorem d_L_law_969 : decode c_L_law 969 = .ok (.goto 369, 3) := by decide +kernel
theorem d_L_law_972 : decode c_L_law 972 = .ok (.aload_n 1, 1) := by decide +kernel
theorem d_L_law_973 : decode c_L_law 973 = .ok (.invokevirtual 116, 3) := by decide +kernel
theorem d_L_law_976 : decode c_L_law 976 = .ok (.aload_n 2, 1) := by decide +kernel
theorem d_L_law_977 : decode c_L_law 977 = .ok (.invokevirtual 120, 3) := by decide +kernel
theorem d_L_law_980 : decode c_L_law 980 = .ok (.if_icmp .eq 358, 3) := by decide +kernel
theorem d_L_law_983 : decode c_L_law 983 = .ok (.iconst 0, 1) := by decide +kernel
theorem d_L_law_984 : decode c_L_law 984 = .ok (.ireturn, 1) := by decide +kernel
theorem d_L_law_985 : decode c_L_law 985 = .ok (.aload_n 1, 1) := by decide +kernel
theorem d_L_law_986 : decode c_L_law 986 = .ok (.aload_n 0, 1) := by decide +kernel
theorem d_L_law_987 : decode c_L_law 987 = .ok (.iload 4, 2) := by decide +kernel
theorem d_L_law_989 : decode c_L_law 989 = .ok (.iconst 1, 1) := by decide +kernel
theorem d_L_law_990 : decode c_L_law 990 = .ok (.iadd, 1) := by decide +kernel
theorem d_L_law_991 : decode c_L_law 991 = .ok (.iaload, 1) := by decide +kernel
theorem d_L_law_992 : decode c_L_law 992 = .ok (.invokestatic 121, 3) := by decide +kernel
theorem d_L_law_995 : decode c_L_law 995 = .ok (.istore 5, 2) := by decide +kernel
theorem d_L_law_997 : decode c_L_law 997 = .ok (.aload_n 2, 1) := by decide +kernel
theorem d_L_law_998 : decode c_L_law 998 = .ok (.aload_n 0, 1) := by decide +kernel
theorem d_L_law_999 : decode c_L_law 999 = .ok (.iload 4, 2) := by decide +kernel
theorem d_L_law_1001 : decode c_L_law 1001 = .ok (.iconst 1, 1) := by decide +kernel
theorem d_L_law_1002 : decode c_L_law 1002 = .ok (.iadd, 1) := by decide +kernel
theorem d_L_law_1003 : decode c_L_law 1003 = .ok (.iaload, 1) := by decide +kernel
theorem d_L_law_1004 : decode c_L_law 1004 = .ok (.invokevirtual 124, 3) := by decide +kernel
theorem d_L_law_1007 : decode c_L_law 1007 = .ok (.aload_n 2, 1) := by decide +kernel
theorem d_L_law_1008 : decode c_L_law 1008 = .ok (.invokevirtual 75, 3) := by decide +kernel
theorem d_L_law_1011 : decode c_L_law 1011 = .ok (.iload 5, 2) := by decide +kernel
theorem d_L_law_1013 : decode c_L_law 1013 = .ok (.if_icmp .eq 5, 3) := by decide +kernel
theorem d_L_law_1016 : decode c_L_law 1016 = .ok (.iconst 0, 1) := by decide +kernel
theorem d_L_law_1017 : decode c_L_law 1017 = .ok (.ireturn, 1) := by decide +kernel
theorem d_L_law_1018 : decode c_L_law 1018 = .ok (.goto 320, 3) := by decide +kernel
theorem d_L_law_1021 : decode c_L_law 1021 = .ok (.aload_n 1, 1) := by decide +kernel
theorem d_L_law_1022 : decode c_L_law 1022 = .ok (.aload_n 0, 1) := by decide +kernel
theorem d_L_law_1023 : decode c_L_law 1023 = .ok (.iload 4, 2) := by decide +kernel
theorem d_L_law_1025 : decode c_L_law 1025 = .ok (.iconst 1, 1) := by decide +kernel
theorem d_L_law_1026 : decode c_L_law 1026 = .ok (.iadd, 1) := by decide +kernel
theorem d_L_law_1027 : decode c_L_law 1027 = .ok (.iaload, 1) := by decide +kernel
theorem d_L_law_1028 : decode c_L_law 1028 = .ok (.i2l, 1) := by decide +kernel
theorem d_L_law_1029 : decode c_L_law 1029 = .ok (.bipush 32, 2) := by decide +kernel
theorem d_L_law_1031 : decode c_L_law 1031 = .ok (.lshl, 1) := by decide +kernel
theorem d_L_law_1032 : decode c_L_law 1032 = .ok (.aload_n 0, 1) := by decide +kernel
theorem d_L_law_1033 : decode c_L_law 1033 = .ok (.iload 4, 2) := by decide +kernel
theorem d_L_law_1035 : decode c_L_law 1035 = .ok (.iconst 2, 1) := by decide +kernel
theorem d_L_law_1036 : decode c_L_law 1036 = .ok (.iadd, 1) := by decide +kernel
theorem d_L_law_1037 : decode c_L_law 1037 = .ok (.iaload, 1) := by decide +kernel
theorem d_L_law_1038 : decode c_L_law 1038 = .ok (.i2l, 1) := by decide +kernel
theorem d_L_law_1039 : decode c_L_law 1039 = .ok (.ldc2_w 69, 3) := by decide +kernel
theorem d_L_law_1042 : decode c_L_law 1042 = .ok (.land, 1) := by decide +kernel
theorem d_L_law_1043 : decode c_L_law 1043 = .ok (.lor, 1) := by decide +kernel
theorem d_L_law_1044 : decode c_L_law 1044 = .ok (.aload_n 0, 1) := by decide +kernel
theorem d_L_law_1045 : decode c_L_law 1045 = .ok (.iload 4, 2) := by decide +kernel
theorem d_L_law_1047 : decode c_L_law 1047 = .ok (.iconst 3, 1) := by decide +kernel
theorem d_L_law_1048 : decode c_L_law 1048 = .ok (.iadd, 1) := by decide +kernel
theorem d_L_law_1049 : decode c_L_law 1049 = .ok (.iaload, 1) := by decide +kernel
theorem d_L_law_1050 : decode c_L_law 1050 = .ok (.i2l, 1) := by decide +kernel
theorem d_L_law_1051 : decode c_L_law 1051 = .ok (.bipush 32, 2) := by decide +kernel
theorem d_L_law_1053 : decode c_L_law 1053 = .ok (.lshl, 1) := by decide +kernel
theorem d_L_law_1054 : decode c_L_law 1054 = .ok (.aload_n 0, 1) := by decide +kernel
theorem d_L_law_1055 : decode c_L_law 1055 = .ok (.iload 4, 2) := by decide +kernel
theorem d_L_law_1057 : decode c_L_law 1057 = .ok (.iconst 4, 1) := by decide +kernel
theorem d_L_law_1058 : decode c_L_law 1058 = .ok (.iadd, 1) := by decide +kernel
theorem d_L_law_1059 : decode c_L_law 1059 = .ok (.iaload, 1) := by decide +kernel
theorem d_L_law_1060 : decode c_L_law 1060 = .ok (.i2l, 1) := by decide +kernel
theorem d_L_law_1061 : decode c_L_law 1061 = .ok (.ldc2_w 69, 3) := by decide +kernel
theorem d_L_law_1064 : decode c_L_law 1064 = .ok (.land, 1) := by decide +kernel
theorem d_L_law_1065 : decode c_L_law 1065 = .ok (.lor, 1) := by decide +kernel
theorem d_L_law_1066 : decode c_L_law 1066 = .ok (.aload_n 0, 1) := by decide +kernel
theorem d_L_law_1067 : decode c_L_law 1067 = .ok (.iload 4, 2) := by decide +kernel
theorem d_L_law_1069 : decode c_L_law 1069 = .ok (.iconst 5, 1) := by decide +kernel
theorem d_L_law_1070 : decode c_L_law 1070 = .ok (.iadd, 1) := by decide +kernel
theorem d_L_law_1071 : decode c_L_law 1071 = .ok (.iaload, 1) := by decide +kernel
theorem d_L_law_1072 : decode c_L_law 1072 = .ok (.i2l, 1) := by decide +kernel
theorem d_L_law_1073 : decode c_L_law 1073 = .ok (.bipush 32, 2) := by decide +kernel
theorem d_L_law_1075 : decode c_L_law 1075 = .ok (.lshl, 1) := by decide +kernel
theorem d_L_law_1076 : decode c_L_law 1076 = .ok (.aload_n 0, 1) := by decide +kernel
theorem d_L_law_1077 : decode c_L_law 1077 = .ok (.iload 4, 2) := by decide +kernel
theorem d_L_law_1079 : decode c_L_law 1079 = .ok (.bipush 6, 2) := by decide +kernel
theorem d_L_law_1081 : decode c_L_law 1081 = .ok (.iadd, 1) := by decide +kernel
theorem d_L_law_1082 : decode c_L_law 1082 = .ok (.iaload, 1) := by decide +kernel
theorem d_L_law_1083 : decode c_L_law 1083 = .ok (.i2l, 1) := by decide +kernel
theorem d_L_law_1084 : decode c_L_law 1084 = .ok (.ldc2_w 69, 3) := by decide +kernel
theorem d_L_law_1087 : decode c_L_law 1087 = .ok (.land, 1) := by decide +kernel
theorem d_L_law_1088 : decode c_L_law 1088 = .ok (.lor, 1) := by decide +kernel
theorem d_L_law_1089 : decode c_L_law 1089 = .ok (.aload_n 0, 1) := by decide +kernel
theorem d_L_law_1090 : decode c_L_law 1090 = .ok (.iload 4, 2) := by decide +kernel
theorem d_L_law_1092 : decode c_L_law 1092 = .ok (.bipush 7, 2) := by decide +kernel
theorem d_L_law_1094 : decode c_L_law 1094 = .ok (.iadd, 1) := by decide +kernel
theorem d_L_law_1095 : decode c_L_law 1095 = .ok (.iaload, 1) := by decide +kernel
theorem d_L_law_1096 : decode c_L_law 1096 = .ok (.i2l, 1) := by decide +kernel
theorem d_L_law_1097 : decode c_L_law 1097 = .ok (.bipush 32, 2) := by decide +kernel
theorem d_L_law_1099 : decode c_L_law 1099 = .ok (.lshl, 1) := by decide +kernel
theorem d_L_law_1100 : decode c_L_law 1100 = .ok (.aload_n 0, 1) := by decide +kernel
theorem d_L_law_1101 : decode c_L_law 1101 = .ok (.iload 4, 2) := by decide +kernel
theorem d_L_law_1103 : decode c_L_law 1103 = .ok (.bipush 8, 2) := by decide +kernel
theorem d_L_law_1105 : decode c_L_law 1105 = .ok (.iadd, 1) := by decide +kernel
theorem d_L_law_1106 : decode c_L_law 1106 = .ok (.iaload, 1) := by decide +kernel
theorem d_L_law_1107 : decode c_L_law 1107 = .ok (.i2l, 1) := by decide +kernel
theorem d_L_law_1108 : decode c_L_law 1108 = .ok (.ldc2_w 69, 3) := by decide +kernel
theorem d_L_law_1111 : decode c_L_law 1111 = .ok (.land, 1) := by decide +kernel
theorem d_L_law_1112 : decode c_L_law 1112 = .ok (.lor, 1) := by decide +kernel
theorem d_L_law_1113 : decode c_L_law 1113 = .ok (.aload_n 0, 1) := by decide +kernel
theorem d_L_law_1114 : decode c_L_law 1114 = .ok (.iload 4, 2) := by decide +kernel
theorem d_L_law_1116 : decode c_L_law 1116 = .ok (.bipush 9, 2) := by decide +kernel
theorem d_L_law_1118 : decode c_L_law 1118 = .ok (.iadd, 1) := by decide +kernel
theorem d_L_law_1119 : decode c_L_law 1119 = .ok (.iaload, 1) := by decide +kernel
theorem d_L_law_1120 : decode c_L_law 1120 = .ok (.aload_n 3, 1) := by decide +kernel
theorem d_L_law_1121 : decode c_L_law 1121 = .ok (.invokestatic 125, 3) := by decide +kernel
theorem d_L_law_1124 : decode c_L_law 1124 = .ok (.istore 5, 2) := by decide +kernel
theorem d_L_law_1126 : decode c_L_law 1126 = .ok (.aload_n 2, 1) := by decide +kernel
theorem d_L_law_1127 : decode c_L_law 1127 = .ok (.aload_n 0, 1) := by decide +kernel
theorem d_L_law_1128 : decode c_L_law 1128 = .ok (.iload 4, 2) := by decide +kernel
theorem d_L_law_1130 : decode c_L_law 1130 = .ok (.iconst 1, 1) := by decide +kernel
theorem d_L_law_1131 : decode c_L_law 1131 = .ok (.iadd, 1) := by decide +kernel
theorem d_L_law_1132 : decode c_L_law 1132 = .ok (.iaload, 1) := by decide +kernel
theorem d_L_law_1133 : decode c_L_law 1133 = .ok (.i2l, 1) := by decide +kernel
theorem d_L_law_1134 : decode c_L_law 1134 = .ok (.bipush 32, 2) := by decide +kernel
theorem d_L_law_1136 : decode c_L_law 1136 = .ok (.lshl, 1) := by decide +kernel
theorem d_L_law_1137 : decode c_L_law 1137 = .ok (.aload_n 0, 1) := by decide +kernel
theorem d_L_law_1138 : decode c_L_law 1138 = .ok (.iload 4, 2) := by decide +kernel
theorem d_L_law_1140 : decode c_L_law 1140 = .ok (.iconst 2, 1) := by decide +kernel
theorem d_L_law_1141 : decode c_L_law 1141 = .ok (.iadd, 1) := by decide +kernel
theorem d_L_law_1142 : decode c_L_law 1142 = .ok (.iaload, 1) := by decide +kernel
theorem d_L_law_1143 : decode c_L_law 1143 = .ok (.i2l, 1) := by decide +kernel
theorem d_L_law_1144 : decode c_L_law 1144 = .ok (.ldc2_w 69, 3) := by decide +kernel
theorem d_L_law_1147 : decode c_L_law 1147 = .ok (.land, 1) := by decide +kernel
theorem d_L_law_1148 : decode c_L_law 1148 = .ok (.lor, 1) := by decide +kernel
theorem d_L_law_1149 : decode c_L_law 1149 = .ok (.aload_n 0, 1) := by decide +kernel
theorem d_L_law_1150 : decode c_L_law 1150 = .ok (.iload 4, 2) := by decide +kernel
theorem d_L_law_1152 : decode c_L_law 1152 = .ok (.iconst 3, 1) := by decide +kernel
theorem d_L_law_1153 : decode c_L_law 1153 = .ok (.iadd, 1) := by decide +kernel
theorem d_L_law_1154 : decode c_L_law 1154 = .ok (.iaload, 1) := by decide +kernel
theorem d_L_law_1155 : decode c_L_law 1155 = .ok (.i2l, 1) := by decide +kernel
theorem d_L_law_1156 : decode c_L_law 1156 = .ok (.bipush 32, 2) := by decide +kernel
theorem d_L_law_1158 : decode c_L_law 1158 = .ok (.lshl, 1) := by decide +kernel
theorem d_L_law_1159 : decode c_L_law 1159 = .ok (.aload_n 0, 1) := by decide +kernel
theorem d_L_law_1160 : decode c_L_law 1160 = .ok (.iload 4, 2) := by decide +kernel
theorem d_L_law_1162 : decode c_L_law 1162 = .ok (.iconst 4, 1) := by decide +kernel
theorem d_L_law_1163 : decode c_L_law 1163 = .ok (.iadd, 1) := by decide +kernel
theorem d_L_law_1164 : decode c_L_law 1164 = .ok (.iaload, 1) := by decide +kernel
theorem d_L_law_1165 : decode c_L_law 1165 = .ok (.i2l, 1) := by decide +kernel
theorem d_L_law_1166 : decode c_L_law 1166 = .ok (.ldc2_w 69, 3) := by decide +kernel
theorem d_L_law_1169 : decode c_L_law 1169 = .ok (.land, 1) := by decide +kernel
theorem d_L_law_1170 : decode c_L_law 1170 = .ok (.lor, 1) := by decide +kernel
theorem d_L_law_1171 : decode c_L_law 1171 = .ok (.aload_n 0, 1) := by decide +kernel
theorem d_L_law_1172 : decode c_L_law 1172 = .ok (.iload 4, 2) := by decide +kernel
theorem d_L_law_1174 : decode c_L_law 1174 = .ok (.iconst 5, 1) := by decide +kernel
theorem d_L_law_1175 : decode c_L_law 1175 = .ok (.iadd, 1) := by decide +kernel
theorem d_L_law_1176 : decode c_L_law 1176 = .ok (.iaload, 1) := by decide +kernel
theorem d_L_law_1177 : decode c_L_law 1177 = .ok (.i2l, 1) := by decide +kernel
theorem d_L_law_1178 : decode c_L_law 1178 = .ok (.bipush 32, 2) := by decide +kernel
theorem d_L_law_1180 : decode c_L_law 1180 = .ok (.lshl, 1) := by decide +kernel
theorem d_L_law_1181 : decode c_L_law 1181 = .ok (.aload_n 0, 1) := by decide +kernel
theorem d_L_law_1182 : decode c_L_law 1182 = .ok (.iload 4, 2) := by decide +kernel
theorem d_L_law_1184 : decode c_L_law 1184 = .ok (.bipush 6, 2) := by decide +kernel
theorem d_L_law_1186 : decode c_L_law 1186 = .ok (.iadd, 1) := by decide +kernel
theorem d_L_law_1187 : decode c_L_law 1187 = .ok (.iaload, 1) := by decide +kernel
theorem d_L_law_1188 : decode c_L_law 1188 = .ok (.i2l, 1) := by decide +kernel
theorem d_L_law_1189 : decode c_L_law 1189 = .ok (.ldc2_w 69, 3) := by decide +kernel
theorem d_L_law_1192 : decode c_L_law 1192 = .ok (.land, 1) := by decide +kernel
theorem d_L_law_1193 : decode c_L_law 1193 = .ok (.lor, 1) := by decide +kernel
theorem d_L_law_1194 : decode c_L_law 1194 = .ok (.aload_n 0, 1) := by decide +kernel
theorem d_L_law_1195 : decode c_L_law 1195 = .ok (.iload 4, 2) := by decide +kernel
theorem d_L_law_1197 : decode c_L_law 1197 = .ok (.bipush 7, 2) := by decide +kernel
theorem d_L_law_1199 : decode c_L_law 1199 = .ok (.iadd, 1) := by decide +kernel
theorem d_L_law_1200 : decode c_L_law 1200 = .ok (.iaload, 1) := by decide +kernel
theorem d_L_law_1201 : decode c_L_law 1201 = .ok (.i2l, 1) := by decide +kernel
theorem d_L_law_1202 : decode c_L_law 1202 = .ok (.bipush 32, 2) := by decide +kernel
theorem d_L_law_1204 : decode c_L_law 1204 = .ok (.lshl, 1) := by decide +kernel
theorem d_L_law_1205 : decode c_L_law 1205 = .ok (.aload_n 0, 1) := by decide +kernel
theorem d_L_law_1206 : decode c_L_law 1206 = .ok (.iload 4, 2) := by decide +kernel
theorem d_L_law_1208 : decode c_L_law 1208 = .ok (.bipush 8, 2) := by decide +kernel
theorem d_L_law_1210 : decode c_L_law 1210 = .ok (.iadd, 1) := by decide +kernel
theorem d_L_law_1211 : decode c_L_law 1211 = .ok (.iaload, 1) := by decide +kernel
theorem d_L_law_1212 : decode c_L_law 1212 = .ok (.i2l, 1) := by decide +kernel
theorem d_L_law_1213 : decode c_L_law 1213 = .ok (.ldc2_w 69, 3) := by decide +kernel
theorem d_L_law_1216 : decode c_L_law 1216 = .ok (.land, 1) := by decide +kernel
theorem d_L_law_1217 : decode c_L_law 1217 = .ok (.lor, 1) := by decide +kernel
theorem d_L_law_1218 : decode c_L_law 1218 = .ok (.aload_n 0, 1) := by decide +kernel
theorem d_L_law_1219 : decode c_L_law 1219 = .ok (.iload 4, 2) := by decide +kernel
theorem d_L_law_1221 : decode c_L_law 1221 = .ok (.bipush 9, 2) := by decide +kernel
theorem d_L_law_1223 : decode c_L_law 1223 = .ok (.iadd, 1) := by decide +kernel
theorem d_L_law_1224 : decode c_L_law 1224 = .ok (.iaload, 1) := by decide +kernel
theorem d_L_law_1225 : decode c_L_law 1225 = .ok (.invokevirtual 128, 3) := by decide +kernel
theorem d_L_law_1228 : decode c_L_law 1228 = .ok (.istore 6, 2) := by decide +kernel
theorem d_L_law_1230 : decode c_L_law 1230 = .ok (.aload_n 2, 1) := by decide +kernel
theorem d_L_law_1231 : decode c_L_law 1231 = .ok (.invokevirtual 75, 3) := by decide +kernel
theorem d_L_law_1234 : decode c_L_law 1234 = .ok (.iload 5, 2) := by decide +kernel
theorem d_L_law_1236 : decode c_L_law 1236 = .ok (.if_icmp .eq 5, 3) := by decide +kernel
theorem d_L_law_1239 : decode c_L_law 1239 = .ok (.iconst 0, 1) := by decide +kernel
theorem d_L_law_1240 : decode c_L_law 1240 = .ok (.ireturn, 1) := by decide +kernel
theorem d_L_law_1241 : decode c_L_law 1241 = .ok (.iload 5, 2) := by decide +kernel
theorem d_L_law_1243 : decode c_L_law 1243 = .ok (.ifCond .ne 15, 3) := by decide +kernel
theorem d_L_law_1246 : decode c_L_law 1246 = .ok (.aload_n 3, 1) := by decide +kernel
theorem d_L_law_1247 : decode c_L_law 1247 = .ok (.iconst 0, 1) := by decide +kernel
theorem d_L_law_1248 : decode c_L_law 1248 = .ok (.laload, 1) := by decide +kernel
theorem d_L_law_1249 : decode c_L_law 1249 = .ok (.iload 6, 2) := by decide +kernel
theorem d_L_law_1251 : decode c_L_law 1251 = .ok (.i2l, 1) := by decide +kernel
theorem d_L_law_1252 : decode c_L_law 1252 = .ok (.lcmp, 1) := by decide +kernel
theorem d_L_law_1253 : decode c_L_law 1253 = .ok (.ifCond .eq 5, 3) := by decide +kernel
theorem d_L_law_1256 : decode c_L_law 1256 = .ok (.iconst 0, 1) := by decide +kernel
theorem d_L_law_1257 : decode c_L_law 1257 = .ok (.ireturn, 1) := by decide +kernel
theorem d_L_law_1258 : decode c_L_law 1258 = .ok (.goto 80, 3) := by decide +kernel
theorem d_L_law_1261 : decode c_L_law 1261 = .ok (.aload_n 1, 1) := by decide +kernel
theorem d_L_law_1262 : decode c_L_law 1262 = .ok (.invokevirtual 129, 3) := by decide +kernel
theorem d_L_law_1265 : decode c_L_law 1265 = .ok (.aload_n 2, 1) := by decide +kernel
theorem d_L_law_1266 : decode c_L_law 1266 = .ok (.invokevirtual 132, 3) := by decide +kernel
theorem d_L_law_1269 : decode c_L_law 1269 = .ok (.goto 69, 3) := by decide +kernel
theorem d_L_law_1272 : decode c_L_law 1272 = .ok (.aload_n 1, 1) := by decide +kernel
theorem d_L_law_1273 : decode c_L_law 1273 = .ok (.aload_n 0, 1) := by decide +kernel
theorem d_L_law_1274 : decode c_L_law 1274 = .ok (.iload 4, 2) := by decide +kernel
theorem d_L_law_1276 : decode c_L_law 1276 = .ok (.iconst 1, 1) := by decide +kernel
theorem d_L_law_1277 : decode c_L_law 1277 = .ok (.iadd, 1) := by decide +kernel
theorem d_L_law_1278 : decode c_L_law 1278 = .ok (.iaload, 1) := by decide +kernel
theorem d_L_law_1279 : decode c_L_law 1279 = .ok (.i2l, 1) := by decide +kernel
theorem d_L_law_1280 : decode c_L_law 1280 = .ok (.bipush 32, 2) := by decide +kernel
theorem d_L_law_1282 : decode c_L_law 1282 = .ok (.lshl, 1) := by decide +kernel
theorem d_L_law_1283 : decode c_L_law 1283 = .ok (.aload_n 0, 1) := by decide +kernel
theorem d_L_law_1284 : decode c_L_law 1284 = .ok (.iload 4, 2) := by decide +kernel
theorem d_L_law_1286 : decode c_L_law 1286 = .ok (.iconst 2, 1) := by decide +kernel
theorem d_L_law_1287 : decode c_L_law 1287 = .ok (.iadd, 1) := by decide +kernel
theorem d_L_law_1288 : decode c_L_law 1288 = .ok (.iaload, 1) := by decide +kernel
theorem d_L_law_1289 : decode c_L_law 1289 = .ok (.i2l, 1) := by decide +kernel
theorem d_L_law_1290 : decode c_L_law 1290 = .ok (.ldc2_w 69, 3) := by decide +kernel
theorem d_L_law_1293 : decode c_L_law 1293 = .ok (.land, 1) := by decide +kernel
theorem d_L_law_1294 : decode c_L_law 1294 = .ok (.lor, 1) := by decide +kernel
theorem d_L_law_1295 : decode c_L_law 1295 = .ok (.invokevirtual 133, 3) := by decide +kernel
theorem d_L_law_1298 : decode c_L_law 1298 = .ok (.aload_n 2, 1) := by decide +kernel
theorem d_L_law_1299 : decode c_L_law 1299 = .ok (.aload_n 0, 1) := by decide +kernel
theorem d_L_law_1300 : decode c_L_law 1300 = .ok (.iload 4, 2) := by decide +kernel
theorem d_L_law_1302 : decode c_L_law 1302 = .ok (.iconst 1, 1) := by decide +kernel
theorem d_L_law_1303 : decode c_L_law 1303 = .ok (.iadd, 1) := by decide +kernel
theorem d_L_law_1304 : decode c_L_law 1304 = .ok (.iaload, 1) := by decide +kernel
theorem d_L_law_1305 : decode c_L_law 1305 = .ok (.i2l, 1) := by decide +kernel
theorem d_L_law_1306 : decode c_L_law 1306 = .ok (.bipush 32, 2) := by decide +kernel
theorem d_L_law_1308 : decode c_L_law 1308 = .ok (.lshl, 1) := by decide +kernel
theorem d_L_law_1309 : decode c_L_law 1309 = .ok (.aload_n 0, 1) := by decide +kernel
theorem d_L_law_1310 : decode c_L_law 1310 = .ok (.iload 4, 2) := by decide +kernel
theorem d_L_law_1312 : decode c_L_law 1312 = .ok (.iconst 2, 1) := by decide +kernel
theorem d_L_law_1313 : decode c_L_law 1313 = .ok (.iadd, 1) := by decide +kernel
theorem d_L_law_1314 : decode c_L_law 1314 = .ok (.iaload, 1) := by decide +kernel
theorem d_L_law_1315 : decode c_L_law 1315 = .ok (.i2l, 1) := by decide +kernel
theorem d_L_law_1316 : decode c_L_law 1316 = .ok (.ldc2_w 69, 3) := by decide +kernel
theorem d_L_law_1319 : decode c_L_law 1319 = .ok (.land, 1) := by decide +kernel
theorem d_L_law_1320 : decode c_L_law 1320 = .ok (.lor, 1) := by decide +kernel
theorem d_L_law_1321 : decode c_L_law 1321 = .ok (.invokevirtual 137, 3) := by decide +kernel
theorem d_L_law_1324 : decode c_L_law 1324 = .ok (.goto 14, 3) := by decide +kernel
theorem d_L_law_1327 : decode c_L_law 1327 = .ok (.aload_n 1, 1) := by decide +kernel
theorem d_L_law_1328 : decode c_L_law 1328 = .ok (.invokevirtual 138, 3) := by decide +kernel
theorem d_L_law_1331 : decode c_L_law 1331 = .ok (.aload_n 2, 1) := by decide +kernel
theorem d_L_law_1332 : decode c_L_law 1332 = .ok (.invokevirtual 141, 3) := by decide +kernel
theorem d_L_law_1335 : decode c_L_law 1335 = .ok (.goto 3, 3) := by decide +kernel
theorem d_L_law_1338 : decode c_L_law 1338 = .ok (.iinc 4 10, 3) := by decide +kernel
theorem d_L_law_1341 : decode c_L_law 1341 = .ok (.goto (-1308), 3) := by decide +kernel
theorem d_L_law_1344 : decode c_L_law 1344 = .ok (.iconst 1, 1) := by decide +kernel
theorem d_L_law_1345 : decode c_L_law 1345 = .ok (.ireturn, 1) := by decide +kernel
end
section
/-! THE MACHINE'S NUMBERS: ints as integers; longs that stand for numbers of the field -/
def iz (z : Int) : Int32 := Int32.ofInt z
theorem iz_add (a b : Int) : iz a + iz b = iz (a + b) := by
  apply Int32.toBitVec_inj.mp
  simp [iz, BitVec.ofInt_add]
theorem iz_mul (a b : Int) : iz a * iz b = iz (a * b) := by
  apply Int32.toBitVec_inj.mp
  simp [iz, BitVec.ofInt_mul]
theorem iz_neg (a : Int) : -iz a = iz (-a) := by
  apply Int32.toBitVec_inj.mp
  simp [iz, BitVec.ofInt_neg]
theorem iz_sub (a b : Int) : iz a - iz b = iz (a - b) := by
  rw [Int32.sub_eq_add_neg, iz_neg, iz_add, Int.sub_eq_add_neg]
theorem iz_toInt {z : Int} (h1 : -2147483648 ≤ z) (h2 : z < 2147483648) : (iz z).toInt = z := Int32.toInt_ofInt_of_le h1 h2
theorem iz_self (x : Int32) : x = iz x.toInt := (Int32.ofInt_toInt x).symm
theorem iz_ofNat (n : Nat) : Int32.ofNat n = iz (n : Int) := Int32.ofInt_eq_ofNat.symm
theorem iz_nI (n : Nat) : nI n = iz (n : Int) := iz_ofNat n
theorem iz_lo (x : Int32) : -2147483648 ≤ x.toInt := Int32.le_toInt x
theorem iz_hi (x : Int32) : x.toInt < 2147483648 := Int32.toInt_lt x
theorem iz_lt {a b : Int} (ha : -2147483648 ≤ a ∧ a < 2147483648) (hb : -2147483648 ≤ b ∧ b < 2147483648) : iz a < iz b ↔ a < b := by
  rw [Int32.lt_iff_toInt_lt, iz_toInt ha.1 ha.2, iz_toInt hb.1 hb.2]
theorem iz_le {a b : Int} (ha : -2147483648 ≤ a ∧ a < 2147483648) (hb : -2147483648 ≤ b ∧ b < 2147483648) : iz a ≤ iz b ↔ a ≤ b := by
  rw [Int32.le_iff_toInt_le, iz_toInt ha.1 ha.2, iz_toInt hb.1 hb.2]
theorem iz_eq {a b : Int} (ha : -2147483648 ≤ a ∧ a < 2147483648) (hb : -2147483648 ≤ b ∧ b < 2147483648) : iz a = iz b ↔ a = b := by
  rw [← Int32.toInt_inj, iz_toInt ha.1 ha.2, iz_toInt hb.1 hb.2]
theorem iz_0 : (0 : Int32) = iz 0 := rfl
theorem iz_clamp {z : Int} {j : Nat} (h : z = (j : Int)) (hj : j < 2147483648) : (iz z).toNatClampNeg = j := by
  show (iz z).toInt.toNat = j
  rw [iz_toInt (by omega) (by omega)]
  omega
theorem iz_in {z : Int} {j n : Nat} (h : z = (j : Int)) (hj : j < n) (hn : n ≤ 2147483648) : vp_in (iz z) n := by
  rw [vp_in_iff, iz_toInt (by omega) (by omega)]
  omega
def lk (x : ro_K) : Int64 := lN x.val
theorem lk_0 : (0 : Int64) = lk 0 := rfl
theorem lk_1 : (1 : Int64) = lk 1 := rfl
theorem lk_inj {x y : ro_K} : lk x = lk y ↔ x = y := by
  have hx := x.isLt
  have hy := y.isLt
  unfold lk
  rw [pk_lEQ (by omega) (by omega)]
  exact Fin.ext_iff.symm
/-- a long that stands for x, between 0 and B -/
def lp (v : Int64) (x : ro_K) (B : Nat) : Prop := ∃ n : Nat, v = lN n ∧ n ≤ B ∧ ro_k (n : Int) = x
/-- a long that stands for x, between -B and B -/
def lq (v : Int64) (x : ro_K) (B : Nat) : Prop := v.toInt ≤ (B : Int) ∧ -(B : Int) ≤ v.toInt ∧ ro_k v.toInt = x
theorem lk_p (x : ro_K) : lp (lk x) x 32002 := ⟨x.val, rfl, by have := x.isLt; omega, ro_k_back x⟩
theorem lp_up {v : Int64} {x : ro_K} {B C : Nat} (h : lp v x B) (hc : B ≤ C) : lp v x C := by
  obtain ⟨n, h1, h2, h3⟩ := h
  exact ⟨n, h1, Nat.le_trans h2 hc, h3⟩
theorem lp_add {u v : Int64} {x y : ro_K} {B C : Nat} (N : Nat) (h1 : lp u x B) (h2 : lp v y C) (hN : B + C ≤ N) : lp (u + v) (x + y) N := by
  obtain ⟨n, rfl, h3, h4⟩ := h1
  obtain ⟨k, rfl, h5, h6⟩ := h2
  refine ⟨n + k, lN_add n k, by omega, ?_⟩
  rw [Int.natCast_add, ro_k_add, h4, h6]
theorem lp_mul {u v : Int64} {x y : ro_K} {B C : Nat} (N : Nat) (h1 : lp u x B) (h2 : lp v y C) (hN : B * C ≤ N) : lp (u * v) (x * y) N := by
  obtain ⟨n, rfl, h3, h4⟩ := h1
  obtain ⟨k, rfl, h5, h6⟩ := h2
  refine ⟨n * k, lN_mul n k, Nat.le_trans (Nat.mul_le_mul h3 h5) hN, ?_⟩
  rw [Int.natCast_mul, ro_k_mul, h4, h6]
theorem lp_rem {v : Int64} {x : ro_K} {B : Nat} (h : lp v x B) (hB : B < 9223372036854775808) : v - v / 32003 * 32003 = lk x := by
  obtain ⟨n, rfl, h3, h4⟩ := h
  have e : (32003 : Int64) = lN 32003 := rfl
  rw [e, pk_lRem (by omega) (by decide) (by decide)]
  unfold lk
  rw [← h4, ro_k_val]
  exact congrArg lN (by omega)
theorem lq_of {v : Int64} {x : ro_K} {B : Nat} (h : lp v x B) (hB : B < 9223372036854775808) : lq v x B := by
  obtain ⟨n, rfl, h3, h4⟩ := h
  have e : (lN n).toInt = (n : Int) := pk_lT (by omega)
  refine ⟨by rw [e]; omega, by rw [e]; omega, by rw [e]; exact h4⟩
theorem lq_add {u v : Int64} {x y : ro_K} {B C : Nat} (N : Nat) (h1 : lq u x B) (h2 : lq v y C) (hN : B + C ≤ N ∧ N < 9223372036854775808) : lq (u + v) (x + y) N := by
  obtain ⟨a1, a2, a3⟩ := h1
  obtain ⟨b1, b2, b3⟩ := h2
  have e : (u + v).toInt = u.toInt + v.toInt := by
    rw [Int64.toInt_add]
    exact Jvm.Kit.bmod64 (by omega) (by omega)
  refine ⟨by rw [e]; omega, by rw [e]; omega, by rw [e, ro_k_add, a3, b3]⟩
theorem lq_sub {u v : Int64} {x y : ro_K} {B C : Nat} (N : Nat) (h1 : lq u x B) (h2 : lq v y C) (hN : B + C ≤ N ∧ N < 9223372036854775808) : lq (u - v) (x - y) N := by
  obtain ⟨a1, a2, a3⟩ := h1
  obtain ⟨b1, b2, b3⟩ := h2
  have e : (u - v).toInt = u.toInt - v.toInt := by
    rw [Int64.toInt_sub]
    exact Jvm.Kit.bmod64 (by omega) (by omega)
  refine ⟨by rw [e]; omega, by rw [e]; omega, by rw [e, ro_k_sub, a3, b3]⟩
theorem lq_neg {u : Int64} {x : ro_K} {B : Nat} (h1 : lq u x B) (hN : B < 9223372036854775808) : lq (-u) (-x) B := by
  obtain ⟨a1, a2, a3⟩ := h1
  have e : (-u).toInt = -u.toInt := by
    rw [Int64.toInt_neg]
    exact Jvm.Kit.bmod64 (by omega) (by omega)
  refine ⟨by rw [e]; omega, by rw [e]; omega, by rw [e, ro_k_neg, a3]⟩
theorem abs_mul_le {a b B C : Int} (h1 : a ≤ B) (h2 : -B ≤ a) (h3 : b ≤ C) (h4 : -C ≤ b) : a * b ≤ B * C ∧ -(B * C) ≤ a * b := by
  have p1 : 0 ≤ (B - a) * (C + b) := Int.mul_nonneg (by omega) (by omega)
  have p2 : 0 ≤ (B + a) * (C - b) := Int.mul_nonneg (by omega) (by omega)
  have p3 : 0 ≤ (B - a) * (C - b) := Int.mul_nonneg (by omega) (by omega)
  have p4 : 0 ≤ (B + a) * (C + b) := Int.mul_nonneg (by omega) (by omega)
  constructor <;> grind
theorem lq_mul {u v : Int64} {x y : ro_K} {B C : Nat} (N : Nat) (h1 : lq u x B) (h2 : lq v y C) (hN : B * C ≤ N ∧ N < 9223372036854775808) : lq (u * v) (x * y) N := by
  obtain ⟨a1, a2, a3⟩ := h1
  obtain ⟨b1, b2, b3⟩ := h2
  have hm := abs_mul_le a1 a2 b1 b2
  have hc : (B : Int) * (C : Int) ≤ (N : Int) := by rw [← Int.natCast_mul]; exact Int.ofNat_le.mpr hN.1
  have e : (u * v).toInt = u.toInt * v.toInt := by
    rw [Int64.toInt_mul]
    exact Jvm.Kit.bmod64 (by omega) (by omega)
  refine ⟨by rw [e]; omega, by rw [e]; omega, by rw [e, ro_k_mul, a3, b3]⟩
theorem lq_iz {z : Int} (B : Nat) (h1 : z ≤ (B : Int)) (h2 : -(B : Int) ≤ z) (hB : B < 2147483648) : lq (iz z).toInt64 (ro_k z) B := by
  have e : (iz z).toInt64.toInt = z := by rw [Int32.toInt_toInt64, iz_toInt (by omega) (by omega)]
  exact ⟨by rw [e]; exact h1, by rw [e]; exact h2, by rw [e]⟩
theorem lk_l2i (x : ro_K) : (lk x).toInt32 = iz (x.val : Int) := by
  unfold lk
  rw [lN_i, iz_nI]
section RZ
variable {p : Program} {l : Launch} {e : Env} {R : Room} {s : State} {m : MethodId} {args : Array Value} {below : List Frame} {meth : Method} {c : Code} {H : Heap} {locs : List Loc} {cells slots : Nat} {Q : State → Prop}
variable {cc : ByteArray} {pc : Nat} {ls : Array Slot} {rest : List Value}
theorem rz_iconst (hx : p.tables.exec = Jvm.exec) (hb : c.code = cc) {n : Int} (hdg : decode cc pc = .ok (.iconst n, 1)) (k : W p l e R s m args below meth c H locs cells slots Q (F0 m (pc + 1) ls (.int (iz n) :: rest))) : W p l e R s m args below meth c H locs cells slots Q (F0 m pc ls rest) := lv_iconst hx hb hdg rfl k
theorem rz_bipush (hx : p.tables.exec = Jvm.exec) (hb : c.code = cc) {n : Int} (hdg : decode cc pc = .ok (.bipush n, 2)) (hv : (Int8.ofInt n).toInt32 = iz n := by decide) (k : W p l e R s m args below meth c H locs cells slots Q (F0 m (pc + 2) ls (.int (iz n) :: rest))) : W p l e R s m args below meth c H locs cells slots Q (F0 m pc ls rest) := lv_bipush hx hb hdg hv k
theorem rz_sipush (hx : p.tables.exec = Jvm.exec) (hb : c.code = cc) {n : Int} (hdg : decode cc pc = .ok (.sipush n, 3)) (hv : (Int16.ofInt n).toInt32 = iz n := by decide) (k : W p l e R s m args below meth c H locs cells slots Q (F0 m (pc + 3) ls (.int (iz n) :: rest))) : W p l e R s m args below meth c H locs cells slots Q (F0 m pc ls rest) := lv_sipush hx hb hdg hv k
theorem rz_iadd (hx : p.tables.exec = Jvm.exec) (hb : c.code = cc) {a b : Int} (hdg : decode cc pc = .ok (.iadd, 1)) (k : W p l e R s m args below meth c H locs cells slots Q (F0 m (pc + 1) ls (.int (iz (a + b)) :: rest))) : W p l e R s m args below meth c H locs cells slots Q (F0 m pc ls (.int (iz b) :: .int (iz a) :: rest)) := lv_iadd hx hb hdg (by rw [iz_add]; exact k)
theorem rz_isub (hx : p.tables.exec = Jvm.exec) (hb : c.code = cc) {a b : Int} (hdg : decode cc pc = .ok (.isub, 1)) (k : W p l e R s m args below meth c H locs cells slots Q (F0 m (pc + 1) ls (.int (iz (a - b)) :: rest))) : W p l e R s m args below meth c H locs cells slots Q (F0 m pc ls (.int (iz b) :: .int (iz a) :: rest)) := lv_isub hx hb hdg (by rw [iz_sub]; exact k)
theorem rz_imul (hx : p.tables.exec = Jvm.exec) (hb : c.code = cc) {a b : Int} (hdg : decode cc pc = .ok (.imul, 1)) (k : W p l e R s m args below meth c H locs cells slots Q (F0 m (pc + 1) ls (.int (iz (a * b)) :: rest))) : W p l e R s m args below meth c H locs cells slots Q (F0 m pc ls (.int (iz b) :: .int (iz a) :: rest)) := lv_imul hx hb hdg (by rw [iz_mul]; exact k)
theorem rz_icmp_eq (hx : p.tables.exec = Jvm.exec) (hb : c.code = cc) {a b : Int} {off : Int} {tgt : Nat} (hdg : decode cc pc = .ok (.if_icmp .eq off, 3)) (ht : (pc : Int) + off = (tgt : Int)) (kt : a = b → W p l e R s m args below meth c H locs cells slots Q (F0 m tgt ls rest)) (kf : a ≠ b → W p l e R s m args below meth c H locs cells slots Q (F0 m (pc + 3) ls rest)) (ha : -2147483648 ≤ a ∧ a < 2147483648 := by omega) (hb2 : -2147483648 ≤ b ∧ b < 2147483648 := by omega) : W p l e R s m args below meth c H locs cells slots Q (F0 m pc ls (.int (iz b) :: .int (iz a) :: rest)) := lv_icmp_eq hx hb hdg ht (fun q => kt ((iz_eq ha hb2).mp q)) (fun q => kf (fun z => q ((iz_eq ha hb2).mpr z)))
theorem rz_if_eq (hx : p.tables.exec = Jvm.exec) (hb : c.code = cc) {a : Int} {off : Int} {tgt : Nat} (hdg : decode cc pc = .ok (.ifCond .eq off, 3)) (ht : (pc : Int) + off = (tgt : Int)) (kt : a = 0 → W p l e R s m args below meth c H locs cells slots Q (F0 m tgt ls rest)) (kf : a ≠ 0 → W p l e R s m args below meth c H locs cells slots Q (F0 m (pc + 3) ls rest)) (ha : -2147483648 ≤ a ∧ a < 2147483648 := by omega) : W p l e R s m args below meth c H locs cells slots Q (F0 m pc ls (.int (iz a) :: rest)) := lv_if_eq hx hb hdg ht (fun q => kt ((iz_eq (b := 0) ha ⟨by decide, by decide⟩).mp q)) (fun q => kf (fun z => q ((iz_eq (b := 0) ha ⟨by decide, by decide⟩).mpr z)))
theorem rz_icmp_ne (hx : p.tables.exec = Jvm.exec) (hb : c.code = cc) {a b : Int} {off : Int} {tgt : Nat} (hdg : decode cc pc = .ok (.if_icmp .ne off, 3)) (ht : (pc : Int) + off = (tgt : Int)) (kt : a ≠ b → W p l e R s m args below meth c H locs cells slots Q (F0 m tgt ls rest)) (kf : a = b → W p l e R s m args below meth c H locs cells slots Q (F0 m (pc + 3) ls rest)) (ha : -2147483648 ≤ a ∧ a < 2147483648 := by omega) (hb2 : -2147483648 ≤ b ∧ b < 2147483648 := by omega) : W p l e R s m args below meth c H locs cells slots Q (F0 m pc ls (.int (iz b) :: .int (iz a) :: rest)) := lv_icmp_ne hx hb hdg ht (fun q => kt (fun z => q ((iz_eq ha hb2).mpr z))) (fun q => kf ((iz_eq ha hb2).mp q))
theorem rz_if_ne (hx : p.tables.exec = Jvm.exec) (hb : c.code = cc) {a : Int} {off : Int} {tgt : Nat} (hdg : decode cc pc = .ok (.ifCond .ne off, 3)) (ht : (pc : Int) + off = (tgt : Int)) (kt : a ≠ 0 → W p l e R s m args below meth c H locs cells slots Q (F0 m tgt ls rest)) (kf : a = 0 → W p l e R s m args below meth c H locs cells slots Q (F0 m (pc + 3) ls rest)) (ha : -2147483648 ≤ a ∧ a < 2147483648 := by omega) : W p l e R s m args below meth c H locs cells slots Q (F0 m pc ls (.int (iz a) :: rest)) := lv_if_ne hx hb hdg ht (fun q => kt (fun z => q ((iz_eq (b := 0) ha ⟨by decide, by decide⟩).mpr z))) (fun q => kf ((iz_eq (b := 0) ha ⟨by decide, by decide⟩).mp q))
theorem rz_icmp_lt (hx : p.tables.exec = Jvm.exec) (hb : c.code = cc) {a b : Int} {off : Int} {tgt : Nat} (hdg : decode cc pc = .ok (.if_icmp .lt off, 3)) (ht : (pc : Int) + off = (tgt : Int)) (kt : a < b → W p l e R s m args below meth c H locs cells slots Q (F0 m tgt ls rest)) (kf : b ≤ a → W p l e R s m args below meth c H locs cells slots Q (F0 m (pc + 3) ls rest)) (ha : -2147483648 ≤ a ∧ a < 2147483648 := by omega) (hb2 : -2147483648 ≤ b ∧ b < 2147483648 := by omega) : W p l e R s m args below meth c H locs cells slots Q (F0 m pc ls (.int (iz b) :: .int (iz a) :: rest)) := lv_icmp_lt hx hb hdg ht (fun q => kt ((iz_lt ha hb2).mp q)) (fun q => kf (Int.not_lt.mp (fun z => q ((iz_lt ha hb2).mpr z))))
theorem rz_if_lt (hx : p.tables.exec = Jvm.exec) (hb : c.code = cc) {a : Int} {off : Int} {tgt : Nat} (hdg : decode cc pc = .ok (.ifCond .lt off, 3)) (ht : (pc : Int) + off = (tgt : Int)) (kt : a < 0 → W p l e R s m args below meth c H locs cells slots Q (F0 m tgt ls rest)) (kf : 0 ≤ a → W p l e R s m args below meth c H locs cells slots Q (F0 m (pc + 3) ls rest)) (ha : -2147483648 ≤ a ∧ a < 2147483648 := by omega) : W p l e R s m args below meth c H locs cells slots Q (F0 m pc ls (.int (iz a) :: rest)) := lv_if_lt hx hb hdg ht (fun q => kt ((iz_lt (b := 0) ha ⟨by decide, by decide⟩).mp q)) (fun q => kf (Int.not_lt.mp (fun z => q ((iz_lt (b := 0) ha ⟨by decide, by decide⟩).mpr z))))
theorem rz_icmp_ge (hx : p.tables.exec = Jvm.exec) (hb : c.code = cc) {a b : Int} {off : Int} {tgt : Nat} (hdg : decode cc pc = .ok (.if_icmp .ge off, 3)) (ht : (pc : Int) + off = (tgt : Int)) (kt : b ≤ a → W p l e R s m args below meth c H locs cells slots Q (F0 m tgt ls rest)) (kf : a < b → W p l e R s m args below meth c H locs cells slots Q (F0 m (pc + 3) ls rest)) (ha : -2147483648 ≤ a ∧ a < 2147483648 := by omega) (hb2 : -2147483648 ≤ b ∧ b < 2147483648 := by omega) : W p l e R s m args below meth c H locs cells slots Q (F0 m pc ls (.int (iz b) :: .int (iz a) :: rest)) := lv_icmp_ge hx hb hdg ht (fun q => kt ((iz_le hb2 ha).mp q)) (fun q => kf (Int.not_le.mp (fun z => q ((iz_le hb2 ha).mpr z))))
theorem rz_if_ge (hx : p.tables.exec = Jvm.exec) (hb : c.code = cc) {a : Int} {off : Int} {tgt : Nat} (hdg : decode cc pc = .ok (.ifCond .ge off, 3)) (ht : (pc : Int) + off = (tgt : Int)) (kt : 0 ≤ a → W p l e R s m args below meth c H locs cells slots Q (F0 m tgt ls rest)) (kf : a < 0 → W p l e R s m args below meth c H locs cells slots Q (F0 m (pc + 3) ls rest)) (ha : -2147483648 ≤ a ∧ a < 2147483648 := by omega) : W p l e R s m args below meth c H locs cells slots Q (F0 m pc ls (.int (iz a) :: rest)) := lv_if_ge hx hb hdg ht (fun q => kt ((iz_le (a := 0) ⟨by decide, by decide⟩ ha).mp q)) (fun q => kf (Int.not_le.mp (fun z => q ((iz_le (a := 0) ⟨by decide, by decide⟩ ha).mpr z))))
theorem rz_icmp_gt (hx : p.tables.exec = Jvm.exec) (hb : c.code = cc) {a b : Int} {off : Int} {tgt : Nat} (hdg : decode cc pc = .ok (.if_icmp .gt off, 3)) (ht : (pc : Int) + off = (tgt : Int)) (kt : b < a → W p l e R s m args below meth c H locs cells slots Q (F0 m tgt ls rest)) (kf : a ≤ b → W p l e R s m args below meth c H locs cells slots Q (F0 m (pc + 3) ls rest)) (ha : -2147483648 ≤ a ∧ a < 2147483648 := by omega) (hb2 : -2147483648 ≤ b ∧ b < 2147483648 := by omega) : W p l e R s m args below meth c H locs cells slots Q (F0 m pc ls (.int (iz b) :: .int (iz a) :: rest)) := lv_icmp_gt hx hb hdg ht (fun q => kt ((iz_lt hb2 ha).mp q)) (fun q => kf (Int.not_lt.mp (fun z => q ((iz_lt hb2 ha).mpr z))))
theorem rz_if_gt (hx : p.tables.exec = Jvm.exec) (hb : c.code = cc) {a : Int} {off : Int} {tgt : Nat} (hdg : decode cc pc = .ok (.ifCond .gt off, 3)) (ht : (pc : Int) + off = (tgt : Int)) (kt : 0 < a → W p l e R s m args below meth c H locs cells slots Q (F0 m tgt ls rest)) (kf : a ≤ 0 → W p l e R s m args below meth c H locs cells slots Q (F0 m (pc + 3) ls rest)) (ha : -2147483648 ≤ a ∧ a < 2147483648 := by omega) : W p l e R s m args below meth c H locs cells slots Q (F0 m pc ls (.int (iz a) :: rest)) := lv_if_gt hx hb hdg ht (fun q => kt ((iz_lt (a := 0) ⟨by decide, by decide⟩ ha).mp q)) (fun q => kf (Int.not_lt.mp (fun z => q ((iz_lt (a := 0) ⟨by decide, by decide⟩ ha).mpr z))))
theorem rz_icmp_le (hx : p.tables.exec = Jvm.exec) (hb : c.code = cc) {a b : Int} {off : Int} {tgt : Nat} (hdg : decode cc pc = .ok (.if_icmp .le off, 3)) (ht : (pc : Int) + off = (tgt : Int)) (kt : a ≤ b → W p l e R s m args below meth c H locs cells slots Q (F0 m tgt ls rest)) (kf : b < a → W p l e R s m args below meth c H locs cells slots Q (F0 m (pc + 3) ls rest)) (ha : -2147483648 ≤ a ∧ a < 2147483648 := by omega) (hb2 : -2147483648 ≤ b ∧ b < 2147483648 := by omega) : W p l e R s m args below meth c H locs cells slots Q (F0 m pc ls (.int (iz b) :: .int (iz a) :: rest)) := lv_icmp_le hx hb hdg ht (fun q => kt ((iz_le ha hb2).mp q)) (fun q => kf (Int.not_le.mp (fun z => q ((iz_le ha hb2).mpr z))))
theorem rz_if_le (hx : p.tables.exec = Jvm.exec) (hb : c.code = cc) {a : Int} {off : Int} {tgt : Nat} (hdg : decode cc pc = .ok (.ifCond .le off, 3)) (ht : (pc : Int) + off = (tgt : Int)) (kt : a ≤ 0 → W p l e R s m args below meth c H locs cells slots Q (F0 m tgt ls rest)) (kf : 0 < a → W p l e R s m args below meth c H locs cells slots Q (F0 m (pc + 3) ls rest)) (ha : -2147483648 ≤ a ∧ a < 2147483648 := by omega) : W p l e R s m args below meth c H locs cells slots Q (F0 m pc ls (.int (iz a) :: rest)) := lv_if_le hx hb hdg ht (fun q => kt ((iz_le (b := 0) ha ⟨by decide, by decide⟩).mp q)) (fun q => kf (Int.not_le.mp (fun z => q ((iz_le (b := 0) ha ⟨by decide, by decide⟩).mpr z))))
theorem rz_lcmp_eq (hx : p.tables.exec = Jvm.exec) (hb : c.code = cc) {x y : Int64} {off : Int} {tgt : Nat} (hdg0 : decode cc pc = .ok (.lcmp, 1)) (hdg : decode cc (pc + 1) = .ok (.ifCond .eq off, 3)) (ht : ((pc + 1 : Nat) : Int) + off = (tgt : Int)) (kt : x = y → W p l e R s m args below meth c H locs cells slots Q (F0 m tgt ls rest)) (kf : x ≠ y → W p l e R s m args below meth c H locs cells slots Q (F0 m (pc + 4) ls rest)) : W p l e R s m args below meth c H locs cells slots Q (F0 m pc ls (.long y :: .long x :: rest)) := W.lcmp hx hb hdg0 (lv_if_eq hx hb hdg ht (fun q => kt ((lg_cmp_eq x y).mp q)) (fun q => kf (fun z => q ((lg_cmp_eq x y).mpr z))))
theorem rz_lcmp_ne (hx : p.tables.exec = Jvm.exec) (hb : c.code = cc) {x y : Int64} {off : Int} {tgt : Nat} (hdg0 : decode cc pc = .ok (.lcmp, 1)) (hdg : decode cc (pc + 1) = .ok (.ifCond .ne off, 3)) (ht : ((pc + 1 : Nat) : Int) + off = (tgt : Int)) (kt : x ≠ y → W p l e R s m args below meth c H locs cells slots Q (F0 m tgt ls rest)) (kf : x = y → W p l e R s m args below meth c H locs cells slots Q (F0 m (pc + 4) ls rest)) : W p l e R s m args below meth c H locs cells slots Q (F0 m pc ls (.long y :: .long x :: rest)) := W.lcmp hx hb hdg0 (lv_if_ne hx hb hdg ht (fun q => kt (fun z => q ((lg_cmp_eq x y).mpr z))) (fun q => kf ((lg_cmp_eq x y).mp q)))
theorem rz_lcmp_lt (hx : p.tables.exec = Jvm.exec) (hb : c.code = cc) {x y : Int64} {off : Int} {tgt : Nat} (hdg0 : decode cc pc = .ok (.lcmp, 1)) (hdg : decode cc (pc + 1) = .ok (.ifCond .lt off, 3)) (ht : ((pc + 1 : Nat) : Int) + off = (tgt : Int)) (kt : x < y → W p l e R s m args below meth c H locs cells slots Q (F0 m tgt ls rest)) (kf : ¬ x < y → W p l e R s m args below meth c H locs cells slots Q (F0 m (pc + 4) ls rest)) : W p l e R s m args below meth c H locs cells slots Q (F0 m pc ls (.long y :: .long x :: rest)) := W.lcmp hx hb hdg0 (lv_if_lt hx hb hdg ht (fun q => kt ((lg_cmp_lt x y).mp q)) (fun q => kf (fun z => q ((lg_cmp_lt x y).mpr z))))
theorem rz_lcmp_ge (hx : p.tables.exec = Jvm.exec) (hb : c.code = cc) {x y : Int64} {off : Int} {tgt : Nat} (hdg0 : decode cc pc = .ok (.lcmp, 1)) (hdg : decode cc (pc + 1) = .ok (.ifCond .ge off, 3)) (ht : ((pc + 1 : Nat) : Int) + off = (tgt : Int)) (kt : y ≤ x → W p l e R s m args below meth c H locs cells slots Q (F0 m tgt ls rest)) (kf : ¬ y ≤ x → W p l e R s m args below meth c H locs cells slots Q (F0 m (pc + 4) ls rest)) : W p l e R s m args below meth c H locs cells slots Q (F0 m pc ls (.long y :: .long x :: rest)) := W.lcmp hx hb hdg0 (lv_if_ge hx hb hdg ht (fun q => kt ((lg_cmp_ge x y).mp q)) (fun q => kf (fun z => q ((lg_cmp_ge x y).mpr z))))
theorem rz_lcmp_gt (hx : p.tables.exec = Jvm.exec) (hb : c.code = cc) {x y : Int64} {off : Int} {tgt : Nat} (hdg0 : decode cc pc = .ok (.lcmp, 1)) (hdg : decode cc (pc + 1) = .ok (.ifCond .gt off, 3)) (ht : ((pc + 1 : Nat) : Int) + off = (tgt : Int)) (kt : y < x → W p l e R s m args below meth c H locs cells slots Q (F0 m tgt ls rest)) (kf : ¬ y < x → W p l e R s m args below meth c H locs cells slots Q (F0 m (pc + 4) ls rest)) : W p l e R s m args below meth c H locs cells slots Q (F0 m pc ls (.long y :: .long x :: rest)) := W.lcmp hx hb hdg0 (lv_if_gt hx hb hdg ht (fun q => kt ((lg_cmp_gt x y).mp q)) (fun q => kf (fun z => q ((lg_cmp_gt x y).mpr z))))
theorem rz_lcmp_le (hx : p.tables.exec = Jvm.exec) (hb : c.code = cc) {x y : Int64} {off : Int} {tgt : Nat} (hdg0 : decode cc pc = .ok (.lcmp, 1)) (hdg : decode cc (pc + 1) = .ok (.ifCond .le off, 3)) (ht : ((pc + 1 : Nat) : Int) + off = (tgt : Int)) (kt : x ≤ y → W p l e R s m args below meth c H locs cells slots Q (F0 m tgt ls rest)) (kf : ¬ x ≤ y → W p l e R s m args below meth c H locs cells slots Q (F0 m (pc + 4) ls rest)) : W p l e R s m args below meth c H locs cells slots Q (F0 m pc ls (.long y :: .long x :: rest)) := W.lcmp hx hb hdg0 (lv_if_le hx hb hdg ht (fun q => kt ((lg_cmp_le x y).mp q)) (fun q => kf (fun z => q ((lg_cmp_le x y).mpr z))))
theorem rlp_ladd (hx : p.tables.exec = Jvm.exec) (hb : c.code = cc) {u v : Int64} {x y : ro_K} {B C : Nat} (N : Nat) (h1 : lp u x B) (h2 : lp v y C) (hdg : decode cc pc = .ok (.ladd, 1)) (k : ∀ w : Int64, lp w (x + y) N → W p l e R s m args below meth c H locs cells slots Q (F0 m (pc + 1) ls (.long w :: rest))) (hN : B + C ≤ N := by decide) : W p l e R s m args below meth c H locs cells slots Q (F0 m pc ls (.long v :: .long u :: rest)) := lv_ladd hx hb hdg (k _ (lp_add N h1 h2 hN))
theorem rlp_lmul (hx : p.tables.exec = Jvm.exec) (hb : c.code = cc) {u v : Int64} {x y : ro_K} {B C : Nat} (N : Nat) (h1 : lp u x B) (h2 : lp v y C) (hdg : decode cc pc = .ok (.lmul, 1)) (k : ∀ w : Int64, lp w (x * y) N → W p l e R s m args below meth c H locs cells slots Q (F0 m (pc + 1) ls (.long w :: rest))) (hN : B * C ≤ N := by decide) : W p l e R s m args below meth c H locs cells slots Q (F0 m pc ls (.long v :: .long u :: rest)) := lv_lmul hx hb hdg (k _ (lp_mul N h1 h2 hN))
theorem rlq_ladd (hx : p.tables.exec = Jvm.exec) (hb : c.code = cc) {u v : Int64} {x y : ro_K} {B C : Nat} (N : Nat) (h1 : lq u x B) (h2 : lq v y C) (hdg : decode cc pc = .ok (.ladd, 1)) (k : ∀ w : Int64, lq w (x + y) N → W p l e R s m args below meth c H locs cells slots Q (F0 m (pc + 1) ls (.long w :: rest))) (hN : B + C ≤ N ∧ N < 9223372036854775808 := by decide) : W p l e R s m args below meth c H locs cells slots Q (F0 m pc ls (.long v :: .long u :: rest)) := lv_ladd hx hb hdg (k _ (lq_add N h1 h2 hN))
theorem rlq_lmul (hx : p.tables.exec = Jvm.exec) (hb : c.code = cc) {u v : Int64} {x y : ro_K} {B C : Nat} (N : Nat) (h1 : lq u x B) (h2 : lq v y C) (hdg : decode cc pc = .ok (.lmul, 1)) (k : ∀ w : Int64, lq w (x * y) N → W p l e R s m args below meth c H locs cells slots Q (F0 m (pc + 1) ls (.long w :: rest))) (hN : B * C ≤ N ∧ N < 9223372036854775808 := by decide) : W p l e R s m args below meth c H locs cells slots Q (F0 m pc ls (.long v :: .long u :: rest)) := lv_lmul hx hb hdg (k _ (lq_mul N h1 h2 hN))
theorem rlq_lsub (hx : p.tables.exec = Jvm.exec) (hb : c.code = cc) {u v : Int64} {x y : ro_K} {B C : Nat} (N : Nat) (h1 : lq u x B) (h2 : lq v y C) (hdg : decode cc pc = .ok (.lsub, 1)) (k : ∀ w : Int64, lq w (x - y) N → W p l e R s m args below meth c H locs cells slots Q (F0 m (pc + 1) ls (.long w :: rest))) (hN : B + C ≤ N ∧ N < 9223372036854775808 := by decide) : W p l e R s m args below meth c H locs cells slots Q (F0 m pc ls (.long v :: .long u :: rest)) := lv_lsub hx hb hdg (k _ (lq_sub N h1 h2 hN))
theorem rlq_lneg (hx : p.tables.exec = Jvm.exec) (hb : c.code = cc) {u : Int64} {x : ro_K} {B : Nat} (h1 : lq u x B) (hdg : decode cc pc = .ok (.lneg, 1)) (k : ∀ w : Int64, lq w (-x) B → W p l e R s m args below meth c H locs cells slots Q (F0 m (pc + 1) ls (.long w :: rest))) (hN : B < 9223372036854775808 := by decide) : W p l e R s m args below meth c H locs cells slots Q (F0 m pc ls (.long u :: rest)) := lv_lneg hx hb hdg (k _ (lq_neg h1 hN))
theorem rlp_lrem (hx : p.tables.exec = Jvm.exec) (hb : c.code = cc) {u : Int64} {x : ro_K} {B : Nat} (h1 : lp u x B) (hdg : decode cc pc = .ok (.lrem, 1)) (k : W p l e R s m args below meth c H locs cells slots Q (F0 m (pc + 1) ls (.long (lk x) :: rest))) (hB : B < 9223372036854775808 := by decide) : W p l e R s m args below meth c H locs cells slots Q (F0 m pc ls (.long 32003 :: .long u :: rest)) := lv_lrem hx hb hdg (by decide) (by rw [lp_rem h1 hB]; exact k)
theorem rz_l2i (hx : p.tables.exec = Jvm.exec) (hb : c.code = cc) {x : ro_K} (hdg : decode cc pc = .ok (.l2i, 1)) (k : W p l e R s m args below meth c H locs cells slots Q (F0 m (pc + 1) ls (.int (iz (x.val : Int)) :: rest))) : W p l e R s m args below meth c H locs cells slots Q (F0 m pc ls (.long (lk x) :: rest)) := lv_l2i hx hb hdg (lk_l2i x) k
theorem rz_i2l (hx : p.tables.exec = Jvm.exec) (hb : c.code = cc) {z : Int} (B : Nat) (hdg : decode cc pc = .ok (.i2l, 1)) (k : ∀ w : Int64, lq w (ro_k z) B → W p l e R s m args below meth c H locs cells slots Q (F0 m (pc + 1) ls (.long w :: rest))) (h1 : z ≤ (B : Int) := by omega) (h2 : -(B : Int) ≤ z := by omega) (hB : B < 2147483648 := by decide) : W p l e R s m args below meth c H locs cells slots Q (F0 m pc ls (.int (iz z) :: rest)) := lv_i2l hx hb hdg rfl (k _ (lq_iz B h1 h2 hB))
end RZ
/-- an array of field numbers -/
abbrev ka (cJ : ClassId) (n : Nat) (F : Nat → ro_K) : va_E := .inl (cJ, n, .inr (.inl (fun j => lk (F j))))
theorem ka_up (F : Nat → ro_K) (j : Nat) (x : ro_K) : vp_updL (fun j => lk (F j)) j (lk x) = fun i => lk (va_up F j x i) := by
  funext i
  unfold vp_updL va_up
  by_cases h : i = j
  · rw [if_pos h, if_pos h]
  · rw [if_neg h, if_neg h]
section RK
variable {p : Program} {l : Launch} {e : Env} {R : Room} {s : State} {m : MethodId} {args : Array Value} {below : List Frame} {meth : Method} {c : Code} {H : Heap} {locs : List Loc} {cells slots : Nat} {Q : State → Prop}
variable {cc : ByteArray} {pc : Nat} {ls : Array Slot} {rest : List Value} {D : va_G} {cl : List vw_C} {A : Nat → Prop} {a : Nat} {tys : List (ClassId × FieldType)} {ws : va_W} {H0 : Heap}
theorem rk_ld (hx : p.tables.exec = Jvm.exec) (hb : c.code = cc) (hK : va_K D cl tys s) (hP : va_P D cl ws H) (q0 t0 : Nat) {cJ : ClassId} {n : Nat} {F : Nat → ro_K} (ha : ws[q0]? = some (a, ka cJ n F)) (ht : tys[t0]? = some (cJ, .long)) {z : Int} (j : Nat) (hdg : decode cc pc = .ok (.laload, 1))
    (kk : W p l e R s m args below meth c H locs cells slots Q (F0 m (pc + 1) ls (.long (lk (F j)) :: rest))) (hj : z = (j : Int) := by omega) (hlt : j < n := by omega) (hn : n ≤ 2147483648 := by omega) : W p l e R s m args below meth c H locs cells slots Q (F0 m pc ls (.int (iz z) :: .ref a :: rest)) := by
  refine va_lald hx hb hK hP q0 t0 ha ht (iz_in hj hlt hn) hdg ?_
  rw [iz_clamp hj (by omega)]
  exact kk
theorem rk_st (hx : p.tables.exec = Jvm.exec) (hb : c.code = cc) (hK : va_K D cl tys s) (hP : va_P D cl ws H) (hD : va_D A ws) (hS : va_S A H0 H locs) (q0 t0 : Nat) {cJ : ClassId} {n : Nat} {F : Nat → ro_K} (ha : ws[q0]? = some (a, ka cJ n F)) (ht : tys[t0]? = some (cJ, .long)) {z : Int} {x : ro_K} (j : Nat) (hdg : decode cc pc = .ok (.lastore, 1))
    (kk : ∀ (H1 : Heap) (locs1 : List Loc), va_P D cl (ws.set q0 (a, ka cJ n (va_up F j x))) H1 → va_D A (ws.set q0 (a, ka cJ n (va_up F j x))) → va_S A H0 H1 locs1 → W p l e R s m args below meth c H1 locs1 cells slots Q (F0 m (pc + 1) ls rest)) (hj : z = (j : Int) := by omega) (hlt : j < n := by omega) (hn : n ≤ 2147483648 := by omega) : W p l e R s m args below meth c H locs cells slots Q (F0 m pc ls (.long (lk x) :: .int (iz z) :: .ref a :: rest)) := by
  refine va_last hx hb hK hP hD hS q0 t0 ha ht (iz_in hj hlt hn) hdg (fun H1 locs1 h1 h2 h3 => ?_)
  rw [iz_clamp hj (by omega), ka_up] at h1 h2
  exact kk H1 locs1 h1 h2 h3
end RK
end
section
/-! THE CLASSES whose objects the worlds hold; small rows that the walks use -/
abbrev vC : List vw_C := [(R_B, T_B, 4), (R_R, T_R, 8), (R_O, T_O, 9), (R_M, T_M, 13)]
theorem rc_self {w : va_W} {A : Nat → Prop} (h : va_D A w) : va_D (rc_A w) w := ⟨h.1, fun k q hk => ⟨k, q.2, hk⟩⟩
theorem lp_c2 : lp 2 2 2 := ⟨2, rfl, by decide, rfl⟩
theorem lp_c3 : lp 3 3 3 := ⟨3, rfl, by decide, rfl⟩
def lz (z : Int) : Int64 := Int64.ofInt z
theorem lz_mul (a b : Int) : lz a * lz b = lz (a * b) := by
  apply Int64.toBitVec_inj.mp
  simp [lz, BitVec.ofInt_mul]
theorem lz_add (a b : Int) : lz a + lz b = lz (a + b) := by
  apply Int64.toBitVec_inj.mp
  simp [lz, BitVec.ofInt_add]
theorem lz_neg (a : Int) : -lz a = lz (-a) := by
  apply Int64.toBitVec_inj.mp
  simp [lz, BitVec.ofInt_neg]
theorem lz_sub (a b : Int) : lz a - lz b = lz (a - b) := by
  rw [Int64.sub_eq_add_neg, lz_neg, lz_add, Int.sub_eq_add_neg]
theorem lz_toInt {z : Int} (h1 : -9223372036854775808 ≤ z) (h2 : z < 9223372036854775808) : (lz z).toInt = z := Int64.toInt_ofInt_of_le h1 h2
theorem lz_self (x : Int64) : x = lz x.toInt := (Int64.ofInt_toInt x).symm
/-- what v less the whole parts of 32003 is -/
theorem nb_rem (v : Int64) : v - v / 32003 * 32003 = lz (v.toInt.tmod 32003) := by
  have e3 : (32003 : Int64) = lz 32003 := rfl
  have hd : v / 32003 = lz (v.toInt.tdiv 32003) := by
    have h := Int64.toInt_div_of_ne_right v 32003 (by decide)
    rw [lz_self (v / 32003), h]
    rfl
  rw [hd, e3, lz_mul]
  have hv := lz_self v
  have key : lz v.toInt - lz (v.toInt.tdiv 32003 * 32003) = lz (v.toInt.tmod 32003) := by
    rw [lz_sub]
    congr 1
    have := Int.mul_tdiv_add_tmod v.toInt 32003
    omega
  rw [← hv] at key
  exact key
theorem nb_k {v : Int64} {x : ro_K} {z : Int} (h : v = lz z) (h0 : 0 ≤ z) (h1 : z < 32003) (hx : ro_k z = x) : v = lk x := by
  subst h
  subst hx
  unfold lk
  rw [ro_k_val, show (z % 32003).toNat = z.toNat by omega]
  have : z = ((z.toNat : Nat) : Int) := by omega
  rw [this]
  exact Int64.ofInt_eq_ofNat
theorem tm_k (a : Int) : -32003 < a.tmod 32003 ∧ a.tmod 32003 < 32003 ∧ ro_k (a.tmod 32003) = ro_k a := by
  have b := tmod_bounds (a := a) (M := 32003) (by decide)
  refine ⟨b.1, b.2, ?_⟩
  rw [ro_k_eq]
  have := Int.mul_tdiv_add_tmod a 32003
  omega
theorem rc_out {t : State} {H : Heap} {D : va_G} {cl : List vw_C} {w : va_W} (ht : t.heap = H) (h : va_P D cl w H) : va_P D cl w t.heap := by rw [ht]; exact h
end
section
section WK
variable {p : Program} {l : Launch} {e : Env} {R : Room} {s : State} {m : MethodId} {args : Array Value} {below : List Frame} {meth : Method} {c : Code} {H : Heap} {locs : List Loc} {cells slots : Nat} {Q : State → Prop} {D : va_G} {A : Nat → Prop} {H0 : Heap}
def ws_O_number : List Cond := .code y_O_number c_O_number 4 (some .long) :: kb
set_option maxHeartbeats 4000000 in
set_option maxRecDepth 100000 in
/-- the number that a long is -/
theorem m_O_number (l : Launch) (D : va_G) (v : Int64) : Met l y_O_number ws_O_number ({ frames := 0, cells := 0, slots := 0, locals := 0 }) (rc_Pc D vC [] [.long v] []) (va_Ql (fun (r : Int64) (_ : Unit) => r = lk (ro_k v.toInt)) (fun _ t => va_P D vC [] t.heap) (rc_A [])) 0 0 (rc_A []) := by
  refine Met.ofW (cc := c_O_number) (maxL := 4) (ret := (some .long)) (by decide) rfl ?_
  intro p e s m args below meth c s₁ B hml hv
  obtain ⟨rfl, hP, hK, hD0, hN⟩ := hv
  have hx := B.exec
  have hb := B.bytes
  have hr := B.returns
  have hts0 := atoms_spec (ws := ws_O_number) B.pre
  have hts : ∀ w ∈ kb, w.before _ s = true := fun w h => hts0 w (List.mem_cons_of_mem _ h)
  have hown : s.vm.findClass R_O = some m.cls := findClass_of_methodNamed B.named
  have hlocks := B.notSynchronized
  have hD := rc_self hD0
  generalize hAe : rc_A [] = A at hD ⊢
  have hS : va_S A s.heap s.heap [] := va_S.rf
  have hl := lv_entry ([.long v]) (n := 4) (Nat.le_of_ble_eq_true rfl)
  rw [lg_entry_eq]
  generalize (lg_sl ([.long v]) ++ List.replicate (4 - (lg_sl ([.long v])).length) Slot.unset).toArray = ls at hl ⊢

  have hl : lv_has ls 4 [(0, .long v)] := hl
  obtain ⟨b1, b2, b3⟩ := tm_k v.toInt
  refine lv_lload_n hx hb d_O_number_0 rfl (lv_at hl 0 rfl) ?_
  refine lv_ldc2 (v := 32003) hx hb hown (hts _ kw_126) d_O_number_1 ?_
  refine lv_lrem hx hb d_O_number_4 (by decide) ?_
  rw [nb_rem]
  generalize v.toInt.tmod 32003 = z at b1 b2 b3 ⊢
  refine lv_lstore_n (lv' := [(2, .long (lz z)), (0, .long v)]) hx hb d_O_number_5 rfl hl (by decide) rfl (fun ls hl => ?_)
  refine lv_lload_n hx hb d_O_number_6 rfl (lv_at hl 0 rfl) ?_
  refine lv_lconst (v := lz 0) hx hb d_O_number_7 rfl ?_
  refine rz_lcmp_ge (tgt := 20) hx hb d_O_number_8 d_O_number_9 (by decide) (fun hc => ?_) (fun hc => ?_)
  · rw [Int64.le_iff_toInt_le, lz_toInt (by decide) (by decide), lz_toInt (by omega) (by omega)] at hc
    refine lv_lload_n hx hb d_O_number_20 rfl (lv_at hl 0 rfl) ?_
    exact W.lret hx hb hr (fun t ht hW => ⟨⟨_, (), rfl, nb_k rfl hc b2 b3, rc_out ht hP⟩, hS.F ht⟩) hS.2.2 d_O_number_21
  · rw [Int64.le_iff_toInt_le, lz_toInt (by decide) (by decide), lz_toInt (by omega) (by omega)] at hc
    refine lv_lload_n hx hb d_O_number_12 rfl (lv_at hl 0 rfl) ?_
    refine lv_ldc2 (v := 32003) hx hb hown (hts _ kw_126) d_O_number_13 ?_
    refine lv_ladd hx hb d_O_number_16 ?_
    refine lv_goto (tgt := 21) hx hb d_O_number_17 (by decide) ?_
    have e3 : lz z + 32003 = lz (z + 32003) := lz_add z 32003
    rw [e3]
    exact W.lret hx hb hr (fun t ht hW => ⟨⟨_, (), rfl, nb_k rfl (by omega) (by omega) (by rw [← b3, ro_k_eq]; omega), rc_out ht hP⟩, hS.F ht⟩) hS.2.2 d_O_number_21
/-- the highest power, of those below n, whose number isn't 0; -1 if there is none -/
def kd (F : Nat → ro_K) : Nat → Int
  | 0 => -1
  | n + 1 => if F n = 0 then kd F n else (n : Int)
theorem kd_lo (F : Nat → ro_K) : ∀ n, -1 ≤ kd F n ∧ kd F n < (n : Int)
  | 0 => ⟨(by show (-1 : Int) ≤ -1; decide), (by show (-1 : Int) < 0; decide)⟩
  | n + 1 => by
    have ih := kd_lo F n
    show -1 ≤ (if F n = 0 then kd F n else (n : Int)) ∧ (if F n = 0 then kd F n else (n : Int)) < ((n + 1 : Nat) : Int)
    by_cases h : F n = 0
    · rw [if_pos h]; omega
    · rw [if_neg h]; omega
set_option maxHeartbeats 4000000 in
set_option maxRecDepth 100000 in
theorem lo_O_degree {cJ : ClassId} {a n : Nat} {F : Nat → ro_K} (hx : p.tables.exec = Jvm.exec) (hb : c.code = c_O_degree) (hml : c.maxLocals = 2) (hown : s.vm.findClass R_O = some m.cls) (hts : ∀ w ∈ kb, w.before args s = true) (hK : va_K D vC [(cJ, .long)] s) (hN : rc_N s) (hP : va_P D vC [(a, ka cJ n F)] H) (hn : n < 1000) (hend : ∀ ls, lv_has ls 2 [(1, .int (iz (kd F n))), (0, .ref a)] → W p l e R s m args below meth c H locs 0 0 Q (F0 m 23 ls [])) : ∀ (k : Nat) (z : Int), z = (k : Int) - 1 → k ≤ n → kd F k = kd F n → ∀ ls, lv_has ls 2 [(1, .int (iz z)), (0, .ref a)] → W p l e R s m args below meth c H locs 0 0 Q (F0 m 5 ls []) := by
  intro k
  induction k with
  | zero =>
    intro z hz hk hfin ls hl
    have e : z = kd F n := by rw [← hfin, hz]; rfl
    refine lv_iload_n hx hb d_O_degree_5 rfl (lv_at hl 0 rfl) ?_
    refine rz_if_lt (tgt := 23) hx hb d_O_degree_6 (by decide) (fun hc => ?_) (fun hc => absurd hc (by omega))
    rw [e] at hl
    exact hend ls hl
  | succ k ih =>
    intro z hz hk hfin ls hl
    refine lv_iload_n hx hb d_O_degree_5 rfl (lv_at hl 0 rfl) ?_
    refine rz_if_lt (tgt := 23) hx hb d_O_degree_6 (by decide) (fun hc => absurd hc (by omega)) (fun hc => ?_)
    refine lv_aload_n hx hb d_O_degree_9 rfl (lv_at hl 1 rfl) ?_
    refine lv_iload_n hx hb d_O_degree_10 rfl (lv_at hl 0 rfl) ?_
    refine rk_ld hx hb hK hP 0 0 rfl rfl k d_O_degree_11 ?_
    refine lv_lconst (v := lk 0) hx hb d_O_degree_12 rfl ?_
    refine rz_lcmp_ne (tgt := 23) hx hb d_O_degree_13 d_O_degree_14 (by decide) (fun hc1 => ?_) (fun hc1 => ?_)
    · have hc1 : (F k) ≠ 0 := fun z => hc1 (lk_inj.mpr z)
      have e : z = kd F n := by rw [← hfin]; show z = (if F k = 0 then kd F k else (k : Int)); rw [if_neg (by assumption)]; omega
      rw [e] at hl
      exact hend ls hl
    · have hc1 : (F k) = 0 := lk_inj.mp hc1
      refine lv_iinc (v := iz (z + (-1))) (lv' := [(1, .int (iz (z + (-1)))), (0, .ref a)]) hx hb d_O_degree_17 hl (k := 0) rfl (iz_add _ _) (by decide) rfl (fun ls hl => ?_)
      refine lv_goto (tgt := 5) hx hb d_O_degree_20 (by decide) ?_
      exact ih _ (by omega) (by omega) (by rw [← hfin]; show kd F k = if F k = 0 then kd F k else (k : Int); rw [if_pos (by assumption)]) ls (lv_sub hl [0, 1] rfl)
def ws_O_degree : List Cond := .code y_O_degree c_O_degree 2 (some .int) :: kb
set_option maxHeartbeats 4000000 in
set_option maxRecDepth 100000 in
/-- the degree -/
theorem m_O_degree (l : Launch) (D : va_G) (cJ : ClassId) (a n : Nat) (F : Nat → ro_K) (hn : n < 1000) : Met l y_O_degree ws_O_degree ({ frames := 0, cells := 0, slots := 0, locals := 0 }) (rc_Pc D vC [(cJ, .long)] [.ref a] [(a, ka cJ n F)]) (va_Qi (fun (r : Int32) (_ : Unit) => r = iz (kd F n)) (fun _ t => va_P D vC [(a, ka cJ n F)] t.heap) (rc_A [(a, ka cJ n F)])) 0 0 (rc_A [(a, ka cJ n F)]) := by
  refine Met.ofW (cc := c_O_degree) (maxL := 2) (ret := (some .int)) (by decide) rfl ?_
  intro p e s m args below meth c s₁ B hml hv
  obtain ⟨rfl, hP, hK, hD0, hN⟩ := hv
  have hx := B.exec
  have hb := B.bytes
  have hr := B.returns
  have hts0 := atoms_spec (ws := ws_O_degree) B.pre
  have hts : ∀ w ∈ kb, w.before _ s = true := fun w h => hts0 w (List.mem_cons_of_mem _ h)
  have hown : s.vm.findClass R_O = some m.cls := findClass_of_methodNamed B.named
  have hlocks := B.notSynchronized
  have hD := rc_self hD0
  generalize hAe : rc_A [(a, ka cJ n F)] = A at hD ⊢
  have hS : va_S A s.heap s.heap [] := va_S.rf
  have hl := lv_entry ([.ref a]) (n := 2) (Nat.le_of_ble_eq_true rfl)
  rw [lg_entry_eq]
  generalize (lg_sl ([.ref a]) ++ List.replicate (2 - (lg_sl ([.ref a])).length) Slot.unset).toArray = ls at hl ⊢

  have hl : lv_has ls 2 [(0, .ref a)] := hl
  refine lv_aload_n hx hb d_O_degree_0 rfl (lv_at hl 0 rfl) ?_
  refine va_alen (v := iz (n : Nat)) hx hb hK hP 0 0 rfl rfl (iz_ofNat _) d_O_degree_1 ?_
  refine rz_iconst hx hb d_O_degree_2 ?_
  refine rz_isub hx hb d_O_degree_3 ?_
  refine lv_istore_n (lv' := [(1, .int (iz (((n : Nat) : Int) - 1))), (0, .ref a)]) hx hb d_O_degree_4 rfl hl (by decide) rfl (fun ls hl => ?_)
  refine lo_O_degree hx hb hml hown hts hK hN hP hn (fun ls hl => ?_) n _ rfl (Nat.le_refl n) rfl ls (lv_sub hl [0, 1] rfl)
  refine lv_iload_n hx hb d_O_degree_23 rfl (lv_at hl 0 rfl) ?_
  exact W.iret hx hb hr (fun t ht hW => ⟨⟨_, (), rfl, rfl, rc_out ht hP⟩, hS.F ht⟩) hS.2.2 d_O_degree_24
def ws_O_isZero : List Cond := .code y_O_isZero c_O_isZero 1 (some .boolean) :: kb
set_option maxHeartbeats 4000000 in
set_option maxRecDepth 100000 in
/-- whether all are 0 -/
theorem m_O_isZero (l : Launch) (D : va_G) (cJ : ClassId) (a n : Nat) (F : Nat → ro_K) (hn : n < 1000) : Met l y_O_isZero ws_O_isZero ({ frames := 1, cells := 0, slots := 0, locals := 21 }) (rc_Pc D vC [(cJ, .long)] [.ref a] [(a, ka cJ n F)]) (va_Qi (fun (r : Int32) (_ : Unit) => r = if kd F n < 0 then iz 1 else iz 0) (fun _ t => va_P D vC [(a, ka cJ n F)] t.heap) (rc_A [(a, ka cJ n F)])) 0 0 (rc_A [(a, ka cJ n F)]) := by
  refine Met.ofW (cc := c_O_isZero) (maxL := 1) (ret := (some .boolean)) (by decide) rfl ?_
  intro p e s m args below meth c s₁ B hml hv
  obtain ⟨rfl, hP, hK, hD0, hN⟩ := hv
  have hx := B.exec
  have hb := B.bytes
  have hr := B.returns
  have hts0 := atoms_spec (ws := ws_O_isZero) B.pre
  have hts : ∀ w ∈ kb, w.before _ s = true := fun w h => hts0 w (List.mem_cons_of_mem _ h)
  have hown : s.vm.findClass R_O = some m.cls := findClass_of_methodNamed B.named
  have hlocks := B.notSynchronized
  have hD := rc_self hD0
  generalize hAe : rc_A [(a, ka cJ n F)] = A at hD ⊢
  have hS : va_S A s.heap s.heap [] := va_S.rf
  have hl := lv_entry ([.ref a]) (n := 1) (Nat.le_of_ble_eq_true rfl)
  rw [lg_entry_eq]
  generalize (lg_sl ([.ref a]) ++ List.replicate (1 - (lg_sl ([.ref a])).length) Slot.unset).toArray = ls at hl ⊢

  have hl : lv_has ls 1 [(0, .ref a)] := hl
  have hk := kd_lo F n
  refine lv_aload_n hx hb d_O_isZero_0 rfl (lv_at hl 0 rfl) ?_
  refine rc_calli (va_runS (As := [.ref a]) (rest := []) ⟨hx, hb, hml, hown, hts⟩ (m_O_degree l D cJ a n F hn) (cwS 1 hts (kb_gi (kb_c kw_328 (kb_c kw_329 (kb_c kw_1 (kb_c kw_330 kb_all))))) rfl rfl rfl (by decide +kernel) ⟨Nat.le_of_ble_eq_true rfl, Nat.le_of_ble_eq_true rfl⟩) ⟨rc_blind, rc_pre hP hD hK hN [0] rfl rfl [0] rfl⟩ rfl rfl hl.1 rfl (lv_room (Nat.le_of_ble_eq_true rfl)) d_O_isZero_1 ⟨Nat.zero_le _, Nat.zero_le _⟩) hP hD hS [0] rfl (fun _ => rfl) (fun r1 u2 H locs hw2 hP hD hS => ?_)
  subst hw2
  have hP : va_P D vC [(a, ka cJ n F)] H := hP
  have hD : va_D A [(a, ka cJ n F)] := hD
  refine rz_if_ge (tgt := 11) hx hb d_O_isZero_4 (by decide) (fun hc3 => ?_) (fun hc3 => ?_)
  · refine rz_iconst hx hb d_O_isZero_11 ?_
    exact W.zret hx hb hr rfl (fun t ht hW => ⟨⟨_, (), rfl, (by rw [if_neg (by omega)]), rc_out ht hP⟩, hS.F ht⟩) hS.2.2 d_O_isZero_12
  · refine rz_iconst hx hb d_O_isZero_7 ?_
    refine lv_goto (tgt := 12) hx hb d_O_isZero_8 (by decide) ?_
    exact W.zret hx hb hr rfl (fun t ht hW => ⟨⟨_, (), rfl, (by rw [if_pos (by omega)]), rc_out ht hP⟩, hS.F ht⟩) hS.2.2 d_O_isZero_12
theorem bt_1 : ∀ k : Nat, k < 15 → (iz 32001 >>> (iz (k : Int) &&& 31)) &&& iz 1 = iz ((32001 / 2 ^ k % 2 : Nat) : Int) := by decide
set_option maxHeartbeats 4000000 in
set_option maxRecDepth 100000 in
theorem lo_O_inverse {x : ro_K} (hx : p.tables.exec = Jvm.exec) (hb : c.code = c_O_inverse) (hml : c.maxLocals = 5) (hown : s.vm.findClass R_O = some m.cls) (hts : ∀ w ∈ kb, w.before args s = true) (hK : va_K D vC [] s) (hN : rc_N s) (hend : ∀ ls, lv_has ls 5 [(2, .long (lk (ro_iv x))), (4, .int (iz (-1))), (0, .long (lk x))] → W p l e R s m args below meth c H locs 0 0 Q (F0 m 45 ls [])) : ∀ (k : Nat) (z : Int) (y : ro_K), z = (k : Int) - 1 → k ≤ 15 → y = ro_pw x (32001 / 2 ^ k) → ∀ ls, lv_has ls 5 [(4, .int (iz z)), (2, .long (lk y)), (0, .long (lk x))] → W p l e R s m args below meth c H locs 0 0 Q (F0 m 6 ls []) := by
  intro k
  induction k with
  | zero =>
    intro z y hz hk hy ls hl
    refine lv_iload hx hb d_O_inverse_6 (lv_at hl 0 rfl) ?_
    refine rz_if_lt (tgt := 45) hx hb d_O_inverse_8 (by decide) (fun hc => ?_) (fun hc => absurd hc (by omega))
    have e : z = -1 := by omega
    have e2 : y = ro_iv x := hy
    rw [e, e2] at hl
    exact hend ls (lv_sub hl [1, 0, 2] rfl)
  | succ k ih =>
    intro z y hz hk hy ls hl
    have ez : z = (k : Int) := by omega
    subst ez
    have hbit := bt_1 k (by omega)
    have hpow : 32001 / 2 ^ k = 2 * (32001 / 2 ^ (k + 1)) + 32001 / 2 ^ k % 2 := by
      rw [Nat.pow_succ, ← Nat.div_div_eq_div_mul]
      omega
    have hyy : ro_pw x (2 * (32001 / 2 ^ (k + 1))) = y * y := by
      rw [Nat.two_mul, ro_pw_add, ← hy]
    refine lv_iload hx hb d_O_inverse_6 (lv_at hl 0 rfl) ?_
    refine rz_if_lt (tgt := 45) hx hb d_O_inverse_8 (by decide) (fun hc => absurd hc (by omega)) (fun hc => ?_)
    refine lv_lload_n hx hb d_O_inverse_11 rfl (lv_at hl 1 rfl) ?_
    refine lv_lload_n hx hb d_O_inverse_12 rfl (lv_at hl 1 rfl) ?_
    refine rlp_lmul hx hb 1024128004 (lk_p y) (lk_p y) d_O_inverse_13 (fun v1 hv1 => ?_)
    refine lv_ldc2 (v := 32003) hx hb hown (hts _ kw_126) d_O_inverse_14 ?_
    refine rlp_lrem hx hb hv1 d_O_inverse_17 ?_
    refine lv_lstore_n (lv' := [(2, .long (lk (y * y))), (4, .int (iz (k : Int))), (0, .long (lk x))]) hx hb d_O_inverse_18 rfl hl (by decide) rfl (fun ls hl => ?_)
    refine rz_sipush hx hb d_O_inverse_19 (by decide) ?_
    refine lv_iload hx hb d_O_inverse_22 (lv_at hl 1 rfl) ?_
    refine lv_ishr hx hb d_O_inverse_24 ?_
    refine rz_iconst hx hb d_O_inverse_25 ?_
    refine lv_iand hx hb d_O_inverse_26 ?_
    rw [hbit]
    refine rz_iconst hx hb d_O_inverse_27 ?_
    refine rz_icmp_ne (tgt := 39) hx hb d_O_inverse_28 (by decide) (fun hc2 => ?_) (fun hc2 => ?_)
    · refine lv_iinc (v := iz ((k : Int) + (-1))) (lv' := [(4, .int (iz ((k : Int) + (-1)))), (2, .long (lk (y * y))), (0, .long (lk x))]) hx hb d_O_inverse_39 hl (k := 1) rfl (iz_add _ _) (by decide) rfl (fun ls hl => ?_)
      refine lv_goto (tgt := 6) hx hb d_O_inverse_42 (by decide) ?_
      exact ih _ _ (by omega) (by omega) (by rw [hpow, show 32001 / 2 ^ k % 2 = 0 by omega, Nat.add_zero, hyy]) ls (lv_sub hl [0, 1, 2] rfl)
    · refine lv_lload_n hx hb d_O_inverse_31 rfl (lv_at hl 0 rfl) ?_
      refine lv_lload_n hx hb d_O_inverse_32 rfl (lv_at hl 2 rfl) ?_
      refine rlp_lmul hx hb 1024128004 (lk_p (y * y)) (lk_p x) d_O_inverse_33 (fun v3 hv3 => ?_)
      refine lv_ldc2 (v := 32003) hx hb hown (hts _ kw_126) d_O_inverse_34 ?_
      refine rlp_lrem hx hb hv3 d_O_inverse_37 ?_
      refine lv_lstore_n (lv' := [(2, .long (lk ((y * y) * x))), (4, .int (iz (k : Int))), (0, .long (lk x))]) hx hb d_O_inverse_38 rfl hl (by decide) rfl (fun ls hl => ?_)
      refine lv_iinc (v := iz ((k : Int) + (-1))) (lv' := [(4, .int (iz ((k : Int) + (-1)))), (2, .long (lk ((y * y) * x))), (0, .long (lk x))]) hx hb d_O_inverse_39 hl (k := 1) rfl (iz_add _ _) (by decide) rfl (fun ls hl => ?_)
      refine lv_goto (tgt := 6) hx hb d_O_inverse_42 (by decide) ?_
      exact ih _ _ (by omega) (by omega) (by rw [hpow, show 32001 / 2 ^ k % 2 = 1 by omega, ro_pw_add, ro_pw_1, hyy]) ls (lv_sub hl [0, 1, 2] rfl)
def ws_O_inverse : List Cond := .code y_O_inverse c_O_inverse 5 (some .long) :: kb
set_option maxHeartbeats 4000000 in
set_option maxRecDepth 100000 in
/-- the inverse -/
theorem m_O_inverse (l : Launch) (D : va_G) (x : ro_K) : Met l y_O_inverse ws_O_inverse ({ frames := 0, cells := 0, slots := 0, locals := 0 }) (rc_Pc D vC [] [.long (lk x)] []) (va_Ql (fun (r : Int64) (_ : Unit) => r = lk (ro_iv x)) (fun _ t => va_P D vC [] t.heap) (rc_A [])) 0 0 (rc_A []) := by
  refine Met.ofW (cc := c_O_inverse) (maxL := 5) (ret := (some .long)) (by decide) rfl ?_
  intro p e s m args below meth c s₁ B hml hv
  obtain ⟨rfl, hP, hK, hD0, hN⟩ := hv
  have hx := B.exec
  have hb := B.bytes
  have hr := B.returns
  have hts0 := atoms_spec (ws := ws_O_inverse) B.pre
  have hts : ∀ w ∈ kb, w.before _ s = true := fun w h => hts0 w (List.mem_cons_of_mem _ h)
  have hown : s.vm.findClass R_O = some m.cls := findClass_of_methodNamed B.named
  have hlocks := B.notSynchronized
  have hD := rc_self hD0
  generalize hAe : rc_A [] = A at hD ⊢
  have hS : va_S A s.heap s.heap [] := va_S.rf
  have hl := lv_entry ([.long (lk x)]) (n := 5) (Nat.le_of_ble_eq_true rfl)
  rw [lg_entry_eq]
  generalize (lg_sl ([.long (lk x)]) ++ List.replicate (5 - (lg_sl ([.long (lk x)])).length) Slot.unset).toArray = ls at hl ⊢

  have hl : lv_has ls 5 [(0, .long (lk x))] := hl
  refine lv_lconst (v := lk 1) hx hb d_O_inverse_0 rfl ?_
  refine lv_lstore_n (lv' := [(2, .long (lk 1)), (0, .long (lk x))]) hx hb d_O_inverse_1 rfl hl (by decide) rfl (fun ls hl => ?_)
  refine rz_bipush hx hb d_O_inverse_2 (by decide) ?_
  refine lv_istore (lv' := [(4, .int (iz 14)), (2, .long (lk 1)), (0, .long (lk x))]) hx hb d_O_inverse_4 hl (by decide) rfl (fun ls hl => ?_)
  refine lo_O_inverse hx hb hml hown hts hK hN (fun ls hl => ?_) 15 _ _ rfl (Nat.le_refl 15) rfl ls (lv_sub hl [0, 1, 2] rfl)
  refine lv_lload_n hx hb d_O_inverse_45 rfl (lv_at hl 0 rfl) ?_
  exact W.lret hx hb hr (fun t ht hW => ⟨⟨_, (), rfl, rfl, rc_out ht hP⟩, hS.F ht⟩) hS.2.2 d_O_inverse_46
end WK
end
section
section WK
variable {p : Program} {l : Launch} {e : Env} {R : Room} {s : State} {m : MethodId} {args : Array Value} {below : List Frame} {meth : Method} {c : Code} {H : Heap} {locs : List Loc} {cells slots : Nat} {Q : State → Prop} {D : va_G} {A : Nat → Prop} {H0 : Heap}
theorem rk_copy {cc : ByteArray} {pc : Nat} {ls : Array Slot} {rest : List Value} {tys : List (ClassId × FieldType)} {ws : va_W} {a : Nat} (hx : p.tables.exec = Jvm.exec) (hb : c.code = cc) (hml : c.maxLocals = ls.size) {own : String} {index : Nat} (hown : s.vm.findClass own = some m.cls) (hlink : (Cond.methodLink own index arraycopyName).before args s = true) (hts : ∀ w ∈ kb, w.before args s = true)
    (hK : va_K D vC tys s) (hP : va_P D vC ws H) (hD : va_D A ws) (hS : va_S A H0 H locs) (q0 q1 t0 : Nat) {a0 : Nat} {cJ : ClassId} {n0 n1 : Nat} {F G : Nat → ro_K} (ha0 : ws[q0]? = some (a0, ka cJ n0 F)) (ha1 : ws[q1]? = some (a, ka cJ n1 G)) (ht0 : tys[t0]? = some (cJ, .long))
    (n : Nat) (hn0 : n ≤ n0) (hn1 : n ≤ n1) (hn : n < 2147483648) (hframes : 1 ≤ R.frames) (hlocals : (rest.map fun v => v.category).sum + (nativeFrameWords "java/lang/System" "arraycopy" 5 + 11) ≤ R.locals) (hdg : decode cc pc = .ok (.invokestatic index, 3))
    (kk : ∀ (H1 : Heap) (locs1 : List Loc), va_P D vC (ws.set q1 (a, ka cJ n1 (va_cpy F G 0 0 n))) H1 → va_D A (ws.set q1 (a, ka cJ n1 (va_cpy F G 0 0 n))) → va_S A H0 H1 locs1 → W p l e R s m args below meth c H1 locs1 cells slots Q (F0 m (pc + 3) ls rest)) : W p l e R s m args below meth c H locs cells slots Q (F0 m pc ls (.int (iz (n : Int)) :: .int (iz 0) :: .ref a :: .int (iz 0) :: .ref a0 :: rest)) := by
  have e0 : (iz 0).toNatClampNeg = 0 := iz_clamp (j := 0) rfl (by decide)
  have en : (iz (n : Int)).toNatClampNeg = n := iz_clamp rfl hn
  have hz : ¬ iz 0 < 0 := by decide
  refine va_copyl hx hb hml hown hlink (hts _ kw_198) (hts _ kw_197) (hts _ kw_11) hK hP hD hS q0 q1 t0 t0 ha0 ha1 ht0 ht0 rfl hz hz (fun q => ?_) (by rw [e0, en]; omega) (by rw [e0, en]; omega) (fun i _ => rfl) hframes hlocals hdg (fun H1 locs1 h1 h2 h3 => ?_)
  · rw [iz_0, iz_lt ⟨by omega, by omega⟩ ⟨by decide, by decide⟩] at q
    omega
  · rw [e0, en] at h1 h2
    have ef : va_cpy (fun j => lk (F j)) (fun j => lk (G j)) 0 0 n = fun j => lk (va_cpy F G 0 0 n j) := by
      funext j
      unfold va_cpy
      by_cases h : 0 ≤ j ∧ j < 0 + n
      · rw [if_pos h, if_pos h]
      · rw [if_neg h, if_neg h]
    rw [ef] at h1 h2
    exact kk H1 locs1 h1 h2 h3
theorem d_J_fill_0 : decode c_J_fill 0 = .ok (.iconst 0, 1) := by decide +kernel
theorem d_J_fill_1 : decode c_J_fill 1 = .ok (.istore_n 3, 1) := by decide +kernel
theorem d_J_fill_2 : decode c_J_fill 2 = .ok (.aload_n 0, 1) := by decide +kernel
theorem d_J_fill_3 : decode c_J_fill 3 = .ok (.arraylength, 1) := by decide +kernel
theorem d_J_fill_4 : decode c_J_fill 4 = .ok (.istore 4, 2) := by decide +kernel
theorem d_J_fill_6 : decode c_J_fill 6 = .ok (.iload_n 3, 1) := by decide +kernel
theorem d_J_fill_7 : decode c_J_fill 7 = .ok (.iload 4, 2) := by decide +kernel
theorem d_J_fill_9 : decode c_J_fill 9 = .ok (.if_icmp .ge 13, 3) := by decide +kernel
theorem d_J_fill_12 : decode c_J_fill 12 = .ok (.aload_n 0, 1) := by decide +kernel
theorem d_J_fill_13 : decode c_J_fill 13 = .ok (.iload_n 3, 1) := by decide +kernel
theorem d_J_fill_14 : decode c_J_fill 14 = .ok (.lload_n 1, 1) := by decide +kernel
theorem d_J_fill_15 : decode c_J_fill 15 = .ok (.lastore, 1) := by decide +kernel
theorem d_J_fill_16 : decode c_J_fill 16 = .ok (.iinc 3 1, 3) := by decide +kernel
theorem d_J_fill_19 : decode c_J_fill 19 = .ok (.goto (-13), 3) := by decide +kernel
theorem d_J_fill_22 : decode c_J_fill 22 = .ok (.return_, 1) := by decide +kernel
/-- the first i numbers are x -/
def kfl (F : Nat → ro_K) (x : ro_K) (i : Nat) : Nat → ro_K := fun j => if j < i then x else F j
theorem kfl_s (F : Nat → ro_K) (x : ro_K) (i : Nat) : va_up (kfl F x i) i x = kfl F x (i + 1) := by
  funext j
  unfold va_up kfl
  by_cases h : j = i
  · subst h; rw [if_pos rfl, if_pos (by omega)]
  · rw [if_neg h]
    by_cases h2 : j < i
    · rw [if_pos h2, if_pos (by omega)]
    · rw [if_neg h2, if_neg (by omega)]
theorem kfl_0 (F : Nat → ro_K) (x : ro_K) : kfl F x 0 = F := by
  funext j
  exact if_neg (Nat.not_lt_zero j)
set_option maxHeartbeats 4000000 in
set_option maxRecDepth 100000 in
theorem lo_J_fill {cJ : ClassId} {a n : Nat} {x : ro_K} {F : Nat → ro_K} {zn : Int} (hzn : zn = (n : Int)) (hn : n < 1000) (hx : p.tables.exec = Jvm.exec) (hb : c.code = c_J_fill) (hml : c.maxLocals = 5) (hts : ∀ w ∈ kb, w.before args s = true) (hK : va_K D vC [(cJ, .long)] s) (hN : rc_N s) (hend : ∀ (H : Heap) (locs : List Loc) (ls : Array Slot), va_P D vC [(a, ka cJ n (kfl F x n))] H → va_D A [(a, ka cJ n (kfl F x n))] → va_S A H0 H locs → W p l e R s m args below meth c H locs 0 0 Q (F0 m 22 ls [])) : ∀ (r i : Nat) (z : Int) (H : Heap) (locs : List Loc) (ls : Array Slot), z = (i : Int) → i + r = n → va_P D vC [(a, ka cJ n (kfl F x i))] H → va_D A [(a, ka cJ n (kfl F x i))] → va_S A H0 H locs → lv_has ls 5 [(3, .int (iz z)), (4, .int (iz zn)), (0, .ref a), (1, .long (lk x))] → W p l e R s m args below meth c H locs 0 0 Q (F0 m 6 ls []) := by
  intro r
  induction r with
  | zero =>
    intro i z H locs ls hz hi hP hD hS hl
    have e : i = n := hi
    subst e
    refine lv_iload_n hx hb d_J_fill_6 rfl (lv_at hl 0 rfl) ?_
    refine lv_iload hx hb d_J_fill_7 (lv_at hl 1 rfl) ?_
    refine rz_icmp_ge (tgt := 22) hx hb d_J_fill_9 (by decide) (fun hc => ?_) (fun hc => absurd hc (by omega))
    exact hend H locs ls hP hD hS
  | succ r ih =>
    intro i z H locs ls hz hi hP hD hS hl
    refine lv_iload_n hx hb d_J_fill_6 rfl (lv_at hl 0 rfl) ?_
    refine lv_iload hx hb d_J_fill_7 (lv_at hl 1 rfl) ?_
    refine rz_icmp_ge (tgt := 22) hx hb d_J_fill_9 (by decide) (fun hc => absurd hc (by omega)) (fun hc => ?_)
    refine lv_aload_n hx hb d_J_fill_12 rfl (lv_at hl 2 rfl) ?_
    refine lv_iload_n hx hb d_J_fill_13 rfl (lv_at hl 0 rfl) ?_
    refine lv_lload_n hx hb d_J_fill_14 rfl (lv_at hl 3 rfl) ?_
    refine rk_st hx hb hK hP hD hS 0 0 rfl rfl i d_J_fill_15 (fun H locs hP hD hS => ?_)
    have hP : va_P D vC [(a, ka cJ n (va_up (kfl F x i) i x))] H := hP
    have hD : va_D A [(a, ka cJ n (va_up (kfl F x i) i x))] := hD
    refine lv_iinc (v := iz (z + 1)) (lv' := [(3, .int (iz (z + 1))), (4, .int (iz zn)), (0, .ref a), (1, .long (lk x))]) hx hb d_J_fill_16 hl (k := 0) rfl (iz_add _ _) (by decide) rfl (fun ls hl => ?_)
    refine lv_goto (tgt := 6) hx hb d_J_fill_19 (by decide) ?_
    rw [kfl_s] at hP hD
    exact ih (i + 1) _ H locs ls (by omega) (by omega) hP hD hS (lv_sub hl [0, 1, 2, 3] rfl)
def ws_J_fill : List Cond := .code y_J_fill c_J_fill 5 none :: kb
set_option maxHeartbeats 4000000 in
set_option maxRecDepth 100000 in
/-- all are x -/
theorem m_J_fill (l : Launch) (D : va_G) (cJ : ClassId) (a n : Nat) (F : Nat → ro_K) (x : ro_K) (hn : n < 1000) : Met l y_J_fill ws_J_fill ({ frames := 0, cells := 0, slots := 0, locals := 0 }) (rc_Pc D vC [(cJ, .long)] [.ref a, .long (lk x)] [(a, ka cJ n F)]) (va_Qv (fun (_ : Unit) => True) (fun _ t => va_P D vC [(a, ka cJ n (kfl F x n))] t.heap) (rc_A [(a, ka cJ n F)])) 0 0 (rc_A [(a, ka cJ n F)]) := by
  refine Met.ofW (cc := c_J_fill) (maxL := 5) (ret := none) (by decide) rfl ?_
  intro p e s m args below meth c s₁ B hml hv
  obtain ⟨rfl, hP, hK, hD0, hN⟩ := hv
  have hx := B.exec
  have hb := B.bytes
  have hr := B.returns
  have hts0 := atoms_spec (ws := ws_J_fill) B.pre
  have hts : ∀ w ∈ kb, w.before _ s = true := fun w h => hts0 w (List.mem_cons_of_mem _ h)
  have hlocks := B.notSynchronized
  have hD := rc_self hD0
  generalize hAe : rc_A [(a, ka cJ n F)] = A at hD ⊢
  have hS : va_S A s.heap s.heap [] := va_S.rf
  have hl := lv_entry ([.ref a, .long (lk x)]) (n := 5) (Nat.le_of_ble_eq_true rfl)
  rw [lg_entry_eq]
  generalize (lg_sl ([.ref a, .long (lk x)]) ++ List.replicate (5 - (lg_sl ([.ref a, .long (lk x)])).length) Slot.unset).toArray = ls at hl ⊢

  have hl : lv_has ls 5 [(0, .ref a), (1, .long (lk x))] := hl
  refine rz_iconst hx hb d_J_fill_0 ?_
  refine lv_istore_n (lv' := [(3, .int (iz 0)), (0, .ref a), (1, .long (lk x))]) hx hb d_J_fill_1 rfl hl (by decide) rfl (fun ls hl => ?_)
  refine lv_aload_n hx hb d_J_fill_2 rfl (lv_at hl 1 rfl) ?_
  refine va_alen (v := iz (n : Nat)) hx hb hK hP 0 0 rfl rfl (iz_ofNat _) d_J_fill_3 ?_
  refine lv_istore (lv' := [(4, .int (iz ((n : Nat) : Int))), (3, .int (iz 0)), (0, .ref a), (1, .long (lk x))]) hx hb d_J_fill_4 hl (by decide) rfl (fun ls hl => ?_)
  refine lo_J_fill (x := x) (F := F) rfl hn hx hb hml hts hK hN (fun H locs ls hP hD hS => ?_) n 0 _ _ _ ls rfl (by omega) (by rw [kfl_0]; exact hP) (by rw [kfl_0]; exact hD) hS (lv_sub hl [1, 0, 2, 3] rfl)
  exact W.vret hx hb hr (fun t ht hW => ⟨⟨(), rfl, trivial, rc_out ht hP⟩, hS.F ht⟩) hS.2.2 d_J_fill_22
/-- x + b in place of x: one step, n steps from power d + n - 1 down to d, all -/
def sh1 (b : ro_K) (F : Nat → ro_K) (j : Nat) : Nat → ro_K := va_up F j (F j + b * F (j + 1))
def shI (b : ro_K) (d : Nat) : Nat → (Nat → ro_K) → (Nat → ro_K)
  | 0, F => F
  | n + 1, F => shI b d n (sh1 b F (d + n))
def shO (b : ro_K) : Nat → (Nat → ro_K) → (Nat → ro_K)
  | 0, F => F
  | n + 1, F => shO b n (shI b (3 - n) (n + 1) F)
set_option maxHeartbeats 4000000 in
set_option maxRecDepth 100000 in
theorem li_O_shift {cJ : ClassId} {a : Nat} {b : ro_K} {G : Nat → ro_K} {d : Nat} {zd : Int} (hd4 : d < 4) (hzd : zd = (d : Int)) (hx : p.tables.exec = Jvm.exec) (hb : c.code = c_O_shift) (hml : c.maxLocals = 5) (hown : s.vm.findClass R_O = some m.cls) (hts : ∀ w ∈ kb, w.before args s = true) (hK : va_K D vC [(cJ, .long)] s) (hN : rc_N s) (hend : ∀ (H : Heap) (locs : List Loc) (ls : Array Slot), va_P D vC [(a, ka cJ 5 G)] H → va_D A [(a, ka cJ 5 G)] → va_S A H0 H locs → lv_has ls 5 [(3, .int (iz zd)), (0, .ref a), (1, .long (lk b))] → W p l e R s m args below meth c H locs 0 0 Q (F0 m 43 ls [])) : ∀ (n : Nat) (F : Nat → ro_K) (z : Int) (H : Heap) (locs : List Loc) (ls : Array Slot), z = (d : Int) + n - 1 → d + n ≤ 4 → shI b d n F = G → va_P D vC [(a, ka cJ 5 F)] H → va_D A [(a, ka cJ 5 F)] → va_S A H0 H locs → lv_has ls 5 [(4, .int (iz z)), (3, .int (iz zd)), (0, .ref a), (1, .long (lk b))] → W p l e R s m args below meth c H locs 0 0 Q (F0 m 10 ls []) := by
  intro n
  induction n with
  | zero =>
    intro F z H locs ls hz hn hG hP hD hS hl
    have e : F = G := hG
    subst e
    refine lv_iload hx hb d_O_shift_10 (lv_at hl 0 rfl) ?_
    refine lv_iload_n hx hb d_O_shift_12 rfl (lv_at hl 1 rfl) ?_
    refine rz_icmp_lt (tgt := 43) hx hb d_O_shift_13 (by decide) (fun hc => ?_) (fun hc => absurd hc (by omega))
    exact hend H locs ls hP hD hS (lv_sub hl [1, 2, 3] rfl)
  | succ n ih =>
    intro F z H locs ls hz hn hG hP hD hS hl
    refine lv_iload hx hb d_O_shift_10 (lv_at hl 0 rfl) ?_
    refine lv_iload_n hx hb d_O_shift_12 rfl (lv_at hl 1 rfl) ?_
    refine rz_icmp_lt (tgt := 43) hx hb d_O_shift_13 (by decide) (fun hc => absurd hc (by omega)) (fun hc => ?_)
    refine lv_aload_n hx hb d_O_shift_16 rfl (lv_at hl 2 rfl) ?_
    refine lv_iload hx hb d_O_shift_17 (lv_at hl 0 rfl) ?_
    refine lv_aload_n hx hb d_O_shift_19 rfl (lv_at hl 2 rfl) ?_
    refine lv_iload hx hb d_O_shift_20 (lv_at hl 0 rfl) ?_
    refine rk_ld hx hb hK hP 0 0 rfl rfl (d + n) d_O_shift_22 ?_
    refine lv_lload_n hx hb d_O_shift_23 rfl (lv_at hl 3 rfl) ?_
    refine lv_aload_n hx hb d_O_shift_24 rfl (lv_at hl 2 rfl) ?_
    refine lv_iload hx hb d_O_shift_25 (lv_at hl 0 rfl) ?_
    refine rz_iconst hx hb d_O_shift_27 ?_
    refine rz_iadd hx hb d_O_shift_28 ?_
    refine rk_ld hx hb hK hP 0 0 rfl rfl (d + n + 1) d_O_shift_29 ?_
    refine rlp_lmul hx hb 1024128004 (lk_p b) (lk_p (F (d + n + 1))) d_O_shift_30 (fun v1 hv1 => ?_)
    refine rlp_ladd hx hb 1024160006 (lk_p (F (d + n))) hv1 d_O_shift_31 (fun v2 hv2 => ?_)
    refine lv_ldc2 (v := 32003) hx hb hown (hts _ kw_126) d_O_shift_32 ?_
    refine rlp_lrem hx hb hv2 d_O_shift_35 ?_
    refine rk_st hx hb hK hP hD hS 0 0 rfl rfl (d + n) d_O_shift_36 (fun H locs hP hD hS => ?_)
    have hP : va_P D vC [(a, ka cJ 5 (va_up F (d + n) ((F (d + n)) + (b * (F (d + n + 1))))))] H := hP
    have hD : va_D A [(a, ka cJ 5 (va_up F (d + n) ((F (d + n)) + (b * (F (d + n + 1))))))] := hD
    refine lv_iinc (v := iz (z + (-1))) (lv' := [(4, .int (iz (z + (-1)))), (3, .int (iz zd)), (0, .ref a), (1, .long (lk b))]) hx hb d_O_shift_37 hl (k := 0) rfl (iz_add _ _) (by decide) rfl (fun ls hl => ?_)
    refine lv_goto (tgt := 10) hx hb d_O_shift_40 (by decide) ?_
    exact ih (sh1 b F (d + n)) _ H locs ls (by omega) (by omega) hG hP hD hS (lv_sub hl [0, 1, 2, 3] rfl)
set_option maxHeartbeats 4000000 in
set_option maxRecDepth 100000 in
theorem lo_O_shift {cJ : ClassId} {a : Nat} {b : ro_K} {G : Nat → ro_K} (hx : p.tables.exec = Jvm.exec) (hb : c.code = c_O_shift) (hml : c.maxLocals = 5) (hown : s.vm.findClass R_O = some m.cls) (hts : ∀ w ∈ kb, w.before args s = true) (hK : va_K D vC [(cJ, .long)] s) (hN : rc_N s) (hend : ∀ (H : Heap) (locs : List Loc) (ls : Array Slot), va_P D vC [(a, ka cJ 5 G)] H → va_D A [(a, ka cJ 5 G)] → va_S A H0 H locs → W p l e R s m args below meth c H locs 0 0 Q (F0 m 49 ls [])) : ∀ (n : Nat) (F : Nat → ro_K) (z : Int) (H : Heap) (locs : List Loc) (ls : Array Slot), z = 4 - (n : Int) → n ≤ 4 → shO b n F = G → va_P D vC [(a, ka cJ 5 F)] H → va_D A [(a, ka cJ 5 F)] → va_S A H0 H locs → lv_has ls 5 [(3, .int (iz z)), (0, .ref a), (1, .long (lk b))] → W p l e R s m args below meth c H locs 0 0 Q (F0 m 2 ls []) := by
  intro n
  induction n with
  | zero =>
    intro F z H locs ls hz hn hG hP hD hS hl
    have e : F = G := hG
    subst e
    refine lv_iload_n hx hb d_O_shift_2 rfl (lv_at hl 0 rfl) ?_
    refine rz_iconst hx hb d_O_shift_3 ?_
    refine rz_icmp_ge (tgt := 49) hx hb d_O_shift_4 (by decide) (fun hc => ?_) (fun hc => absurd hc (by omega))
    exact hend H locs ls hP hD hS
  | succ n ih =>
    intro F z H locs ls hz hn hG hP hD hS hl
    refine lv_iload_n hx hb d_O_shift_2 rfl (lv_at hl 0 rfl) ?_
    refine rz_iconst hx hb d_O_shift_3 ?_
    refine rz_icmp_ge (tgt := 49) hx hb d_O_shift_4 (by decide) (fun hc => absurd hc (by omega)) (fun hc => ?_)
    refine rz_iconst hx hb d_O_shift_7 ?_
    refine lv_istore (lv' := [(4, .int (iz 3)), (3, .int (iz z)), (0, .ref a), (1, .long (lk b))]) hx hb d_O_shift_8 hl (by decide) rfl (fun ls hl => ?_)
    refine li_O_shift (d := 3 - n) (G := shI b (3 - n) (n + 1) F) (by omega) (by omega) hx hb hml hown hts hK hN (fun H locs ls hP hD hS hl => ?_) (n + 1) F _ H locs ls (by omega) (by omega) rfl hP hD hS (lv_sub hl [0, 1, 2, 3] rfl)
    refine lv_iinc (v := iz (z + 1)) (lv' := [(3, .int (iz (z + 1))), (0, .ref a), (1, .long (lk b))]) hx hb d_O_shift_43 hl (k := 0) rfl (iz_add _ _) (by decide) rfl (fun ls hl => ?_)
    refine lv_goto (tgt := 2) hx hb d_O_shift_46 (by decide) ?_
    exact ih _ _ H locs ls (by omega) (by omega) hG hP hD hS (lv_sub hl [0, 1, 2] rfl)
def ws_O_shift : List Cond := .code y_O_shift c_O_shift 5 none :: kb
set_option maxHeartbeats 4000000 in
set_option maxRecDepth 100000 in
/-- x and a number in place of x -/
theorem m_O_shift (l : Launch) (D : va_G) (cJ : ClassId) (a : Nat) (F : Nat → ro_K) (b : ro_K) : Met l y_O_shift ws_O_shift ({ frames := 0, cells := 0, slots := 0, locals := 0 }) (rc_Pc D vC [(cJ, .long)] [.ref a, .long (lk b)] [(a, ka cJ 5 F)]) (va_Qv (fun (_ : Unit) => True) (fun _ t => va_P D vC [(a, ka cJ 5 (shO b 4 F))] t.heap) (rc_A [(a, ka cJ 5 F)])) 0 0 (rc_A [(a, ka cJ 5 F)]) := by
  refine Met.ofW (cc := c_O_shift) (maxL := 5) (ret := none) (by decide) rfl ?_
  intro p e s m args below meth c s₁ B hml hv
  obtain ⟨rfl, hP, hK, hD0, hN⟩ := hv
  have hx := B.exec
  have hb := B.bytes
  have hr := B.returns
  have hts0 := atoms_spec (ws := ws_O_shift) B.pre
  have hts : ∀ w ∈ kb, w.before _ s = true := fun w h => hts0 w (List.mem_cons_of_mem _ h)
  have hown : s.vm.findClass R_O = some m.cls := findClass_of_methodNamed B.named
  have hlocks := B.notSynchronized
  have hD := rc_self hD0
  generalize hAe : rc_A [(a, ka cJ 5 F)] = A at hD ⊢
  have hS : va_S A s.heap s.heap [] := va_S.rf
  have hl := lv_entry ([.ref a, .long (lk b)]) (n := 5) (Nat.le_of_ble_eq_true rfl)
  rw [lg_entry_eq]
  generalize (lg_sl ([.ref a, .long (lk b)]) ++ List.replicate (5 - (lg_sl ([.ref a, .long (lk b)])).length) Slot.unset).toArray = ls at hl ⊢

  have hl : lv_has ls 5 [(0, .ref a), (1, .long (lk b))] := hl
  refine rz_iconst hx hb d_O_shift_0 ?_
  refine lv_istore_n (lv' := [(3, .int (iz 0)), (0, .ref a), (1, .long (lk b))]) hx hb d_O_shift_1 rfl hl (by decide) rfl (fun ls hl => ?_)
  refine lo_O_shift (b := b) (G := shO b 4 F) hx hb hml hown hts hK hN (fun H locs ls hP hD hS => ?_) 4 F _ _ _ ls (by omega) (by omega) rfl hP hD hS (lv_sub hl [0, 1, 2] rfl)
  exact W.vret hx hb hr (fun t ht hW => ⟨⟨(), rfl, trivial, rc_out ht hP⟩, hS.F ht⟩) hS.2.2 d_O_shift_49
def ws_R_copy : List Cond := .code y_R_copy c_R_copy 2 none :: kb
set_option maxHeartbeats 4000000 in
set_option maxRecDepth 100000 in
/-- all five numbers -/
theorem m_R_copy (l : Launch) (D : va_G) (cJ : ClassId) (a b n : Nat) (F G : Nat → ro_K) (hn : 5 ≤ n) : Met l y_R_copy ws_R_copy ({ frames := 1, cells := 0, slots := 0, locals := 40 }) (rc_Pc D vC [(cJ, .long)] [.ref a, .ref b] [(a, ka cJ n F), (b, ka cJ 5 G)]) (va_Qv (fun (_ : Unit) => True) (fun _ t => va_P D vC [(a, ka cJ n F), (b, ka cJ 5 (va_cpy F G 0 0 5))] t.heap) (rc_A [(a, ka cJ n F), (b, ka cJ 5 G)])) 0 0 (rc_A [(a, ka cJ n F), (b, ka cJ 5 G)]) := by
  refine Met.ofW (cc := c_R_copy) (maxL := 2) (ret := none) (by decide) rfl ?_
  intro p e s m args below meth c s₁ B hml hv
  obtain ⟨rfl, hP, hK, hD0, hN⟩ := hv
  have hx := B.exec
  have hb := B.bytes
  have hr := B.returns
  have hts0 := atoms_spec (ws := ws_R_copy) B.pre
  have hts : ∀ w ∈ kb, w.before _ s = true := fun w h => hts0 w (List.mem_cons_of_mem _ h)
  have hown : s.vm.findClass R_R = some m.cls := findClass_of_methodNamed B.named
  have hlocks := B.notSynchronized
  have hD := rc_self hD0
  generalize hAe : rc_A [(a, ka cJ n F), (b, ka cJ 5 G)] = A at hD ⊢
  have hS : va_S A s.heap s.heap [] := va_S.rf
  have hl := lv_entry ([.ref a, .ref b]) (n := 2) (Nat.le_of_ble_eq_true rfl)
  rw [lg_entry_eq]
  generalize (lg_sl ([.ref a, .ref b]) ++ List.replicate (2 - (lg_sl ([.ref a, .ref b])).length) Slot.unset).toArray = ls at hl ⊢

  have hl : lv_has ls 2 [(0, .ref a), (1, .ref b)] := hl
  refine lv_aload_n hx hb d_R_copy_0 rfl (lv_at hl 0 rfl) ?_
  refine rz_iconst hx hb d_R_copy_1 ?_
  refine lv_aload_n hx hb d_R_copy_2 rfl (lv_at hl 1 rfl) ?_
  refine rz_iconst hx hb d_R_copy_3 ?_
  refine rz_iconst hx hb d_R_copy_4 ?_
  refine rk_copy hx hb (hml.trans hl.1.symm) hown (hts _ kw_355) hts hK hP hD hS 0 1 0 rfl rfl rfl 5 hn (by decide) (by decide) (Nat.le_of_ble_eq_true rfl) (by decide) d_R_copy_5 (fun H locs hP hD hS => ?_)
  have hP : va_P D vC [(a, ka cJ n F), (b, ka cJ 5 (va_cpy F G 0 0 5))] H := hP
  have hD : va_D A [(a, ka cJ n F), (b, ka cJ 5 (va_cpy F G 0 0 5))] := hD
  exact W.vret hx hb hr (fun t ht hW => ⟨⟨(), rfl, trivial, rc_out ht hP⟩, hS.F ht⟩) hS.2.2 d_R_copy_8
/-- the first i numbers times x -/
def kmi (F : Nat → ro_K) (x : ro_K) (i : Nat) : Nat → ro_K := fun j => if j < i then F j * x else F j
theorem kmi_at (F : Nat → ro_K) (x : ro_K) (i : Nat) : kmi F x i i = F i := if_neg (Nat.lt_irrefl i)
theorem kmi_s (F : Nat → ro_K) (x : ro_K) (i : Nat) : va_up (kmi F x i) i (kmi F x i i * x) = kmi F x (i + 1) := by
  funext j
  rw [kmi_at]
  unfold va_up kmi
  by_cases h : j = i
  · subst h; rw [if_pos rfl, if_pos (by omega)]
  · rw [if_neg h]
    by_cases h2 : j < i
    · rw [if_pos h2, if_pos (by omega)]
    · rw [if_neg h2, if_neg (by omega)]
theorem kmi_0 (F : Nat → ro_K) (x : ro_K) : kmi F x 0 = F := by
  funext j
  exact if_neg (Nat.not_lt_zero j)
/-- the monic multiple; 0 stays -/
def km (F : Nat → ro_K) : Nat → ro_K := if kd F 5 < 0 then F else kmi F (ro_iv (F (kd F 5).toNat)) ((kd F 5).toNat + 1)
set_option maxHeartbeats 4000000 in
set_option maxRecDepth 100000 in
theorem lo_R_makeMonic {cJ : ClassId} {a d : Nat} {x : ro_K} {F : Nat → ro_K} {zd : Int} (hzd : zd = (d : Int)) (hd5 : d < 5) (hx : p.tables.exec = Jvm.exec) (hb : c.code = c_R_makeMonic) (hml : c.maxLocals = 5) (hown : s.vm.findClass R_R = some m.cls) (hts : ∀ w ∈ kb, w.before args s = true) (hK : va_K D vC [(cJ, .long)] s) (hN : rc_N s) (hend : ∀ (H : Heap) (locs : List Loc) (ls : Array Slot), va_P D vC [(a, ka cJ 5 (kmi F x (d + 1)))] H → va_D A [(a, ka cJ 5 (kmi F x (d + 1)))] → va_S A H0 H locs → W p l e R s m args below meth c H locs 0 0 Q (F0 m 46 ls [])) : ∀ (n i : Nat) (z : Int) (H : Heap) (locs : List Loc) (ls : Array Slot), z = (i : Int) → i + n = d + 1 → va_P D vC [(a, ka cJ 5 (kmi F x i))] H → va_D A [(a, ka cJ 5 (kmi F x i))] → va_S A H0 H locs → lv_has ls 5 [(4, .int (iz z)), (2, .long (lk x)), (1, .int (iz zd)), (0, .ref a)] → W p l e R s m args below meth c H locs 0 0 Q (F0 m 20 ls []) := by
  intro n
  induction n with
  | zero =>
    intro i z H locs ls hz hn hP hD hS hl
    have e : i = d + 1 := hn
    subst e
    refine lv_iload hx hb d_R_makeMonic_20 (lv_at hl 0 rfl) ?_
    refine lv_iload_n hx hb d_R_makeMonic_22 rfl (lv_at hl 2 rfl) ?_
    refine rz_icmp_gt (tgt := 46) hx hb d_R_makeMonic_23 (by decide) (fun hc => ?_) (fun hc => absurd hc (by omega))
    exact hend H locs ls hP hD hS
  | succ n ih =>
    intro i z H locs ls hz hn hP hD hS hl
    refine lv_iload hx hb d_R_makeMonic_20 (lv_at hl 0 rfl) ?_
    refine lv_iload_n hx hb d_R_makeMonic_22 rfl (lv_at hl 2 rfl) ?_
    refine rz_icmp_gt (tgt := 46) hx hb d_R_makeMonic_23 (by decide) (fun hc => absurd hc (by omega)) (fun hc => ?_)
    refine lv_aload_n hx hb d_R_makeMonic_26 rfl (lv_at hl 3 rfl) ?_
    refine lv_iload hx hb d_R_makeMonic_27 (lv_at hl 0 rfl) ?_
    refine lv_aload_n hx hb d_R_makeMonic_29 rfl (lv_at hl 3 rfl) ?_
    refine lv_iload hx hb d_R_makeMonic_30 (lv_at hl 0 rfl) ?_
    refine rk_ld hx hb hK hP 0 0 rfl rfl i d_R_makeMonic_32 ?_
    refine lv_lload_n hx hb d_R_makeMonic_33 rfl (lv_at hl 1 rfl) ?_
    refine rlp_lmul hx hb 1024128004 (lk_p ((kmi F x i) i)) (lk_p x) d_R_makeMonic_34 (fun v1 hv1 => ?_)
    refine lv_ldc2 (v := 32003) hx hb hown (hts _ kw_360) d_R_makeMonic_35 ?_
    refine rlp_lrem hx hb hv1 d_R_makeMonic_38 ?_
    refine rk_st hx hb hK hP hD hS 0 0 rfl rfl i d_R_makeMonic_39 (fun H locs hP hD hS => ?_)
    have hP : va_P D vC [(a, ka cJ 5 (va_up (kmi F x i) i (((kmi F x i) i) * x)))] H := hP
    have hD : va_D A [(a, ka cJ 5 (va_up (kmi F x i) i (((kmi F x i) i) * x)))] := hD
    refine lv_iinc (v := iz (z + 1)) (lv' := [(4, .int (iz (z + 1))), (2, .long (lk x)), (1, .int (iz zd)), (0, .ref a)]) hx hb d_R_makeMonic_40 hl (k := 0) rfl (iz_add _ _) (by decide) rfl (fun ls hl => ?_)
    refine lv_goto (tgt := 20) hx hb d_R_makeMonic_43 (by decide) ?_
    rw [kmi_s] at hP hD
    exact ih (i + 1) _ H locs ls (by omega) (by omega) hP hD hS (lv_sub hl [0, 1, 2, 3] rfl)
def ws_R_makeMonic : List Cond := .code y_R_makeMonic c_R_makeMonic 5 none :: kb
set_option maxHeartbeats 4000000 in
set_option maxRecDepth 100000 in
/-- the monic multiple -/
theorem m_R_makeMonic (l : Launch) (D : va_G) (cJ : ClassId) (a : Nat) (F : Nat → ro_K) : Met l y_R_makeMonic ws_R_makeMonic ({ frames := 1, cells := 0, slots := 0, locals := 24 }) (rc_Pc D vC [(cJ, .long)] [.ref a] [(a, ka cJ 5 F)]) (va_Qv (fun (_ : Unit) => True) (fun _ t => va_P D vC [(a, ka cJ 5 (km F))] t.heap) (rc_A [(a, ka cJ 5 F)])) 0 0 (rc_A [(a, ka cJ 5 F)]) := by
  refine Met.ofW (cc := c_R_makeMonic) (maxL := 5) (ret := none) (by decide) rfl ?_
  intro p e s m args below meth c s₁ B hml hv
  obtain ⟨rfl, hP, hK, hD0, hN⟩ := hv
  have hx := B.exec
  have hb := B.bytes
  have hr := B.returns
  have hts0 := atoms_spec (ws := ws_R_makeMonic) B.pre
  have hts : ∀ w ∈ kb, w.before _ s = true := fun w h => hts0 w (List.mem_cons_of_mem _ h)
  have hown : s.vm.findClass R_R = some m.cls := findClass_of_methodNamed B.named
  have hlocks := B.notSynchronized
  have hD := rc_self hD0
  generalize hAe : rc_A [(a, ka cJ 5 F)] = A at hD ⊢
  have hS : va_S A s.heap s.heap [] := va_S.rf
  have hl := lv_entry ([.ref a]) (n := 5) (Nat.le_of_ble_eq_true rfl)
  rw [lg_entry_eq]
  generalize (lg_sl ([.ref a]) ++ List.replicate (5 - (lg_sl ([.ref a])).length) Slot.unset).toArray = ls at hl ⊢

  have hl : lv_has ls 5 [(0, .ref a)] := hl
  have hk := kd_lo F 5
  refine lv_aload_n hx hb d_R_makeMonic_0 rfl (lv_at hl 0 rfl) ?_
  refine rc_calli (va_runSN (As := [.ref a]) (rest := []) ⟨hx, hb, hml, hown, hts⟩ (m_O_degree l D cJ a 5 F (by omega)) ⟨va_cnB 1 hts (kb_gi (kb_c kw_330 kb_all)) rfl rfl rfl hN.1 (hts _ kw_1) (by decide +kernel) ⟨Nat.le_of_ble_eq_true rfl, Nat.le_of_ble_eq_true rfl⟩, hts _ kw_329, trivial⟩ ⟨rc_blind, rc_pre hP hD hK hN [0] rfl rfl [0] rfl⟩ rfl rfl hl.1 rfl (lv_room (Nat.le_of_ble_eq_true rfl)) d_R_makeMonic_1 ⟨Nat.zero_le _, Nat.zero_le _⟩) hP hD hS [0] rfl (fun _ => rfl) (fun r1 u2 H locs hw2 hP hD hS => ?_)
  subst hw2
  have hP : va_P D vC [(a, ka cJ 5 F)] H := hP
  have hD : va_D A [(a, ka cJ 5 F)] := hD
  refine lv_istore_n (lv' := [(1, .int (iz (kd F 5))), (0, .ref a)]) hx hb d_R_makeMonic_4 rfl hl (by decide) rfl (fun ls hl => ?_)
  refine lv_iload_n hx hb d_R_makeMonic_5 rfl (lv_at hl 0 rfl) ?_
  refine rz_if_ge (tgt := 10) hx hb d_R_makeMonic_6 (by decide) (fun hc3 => ?_) (fun hc3 => ?_)
  · refine lv_aload_n hx hb d_R_makeMonic_10 rfl (lv_at hl 1 rfl) ?_
    refine lv_iload_n hx hb d_R_makeMonic_11 rfl (lv_at hl 0 rfl) ?_
    refine rk_ld hx hb hK hP 0 0 rfl rfl (kd F 5).toNat d_R_makeMonic_12 ?_
    refine rc_calll (va_runSN (As := [.long (lk (F (kd F 5).toNat))]) (rest := []) ⟨hx, hb, hml, hown, hts⟩ (m_O_inverse l D (F (kd F 5).toNat)) ⟨va_cnB 1 hts (kb_gi (kb_c kw_161 kb_all)) rfl rfl rfl hN.2.1 (hts _ kw_1) (by decide +kernel) ⟨Nat.le_of_ble_eq_true rfl, Nat.le_of_ble_eq_true rfl⟩, hts _ kw_160, trivial⟩ ⟨rc_blind, rc_pre hP hD hK hN [] rfl rfl [] rfl⟩ rfl rfl hl.1 rfl (lv_room (Nat.le_of_ble_eq_true rfl)) d_R_makeMonic_13 ⟨Nat.zero_le _, Nat.zero_le _⟩) hP hD hS [] rfl (fun _ => rfl) (fun r4 u5 H locs hw5 hP hD hS => ?_)
    subst hw5
    have hP : va_P D vC [(a, ka cJ 5 F)] H := hP
    have hD : va_D A [(a, ka cJ 5 F)] := hD
    refine lv_lstore_n (lv' := [(2, .long (lk (ro_iv (F (kd F 5).toNat)))), (1, .int (iz (kd F 5))), (0, .ref a)]) hx hb d_R_makeMonic_16 rfl hl (by decide) rfl (fun ls hl => ?_)
    refine rz_iconst hx hb d_R_makeMonic_17 ?_
    refine lv_istore (lv' := [(4, .int (iz 0)), (2, .long (lk (ro_iv (F (kd F 5).toNat)))), (1, .int (iz (kd F 5))), (0, .ref a)]) hx hb d_R_makeMonic_18 hl (by decide) rfl (fun ls hl => ?_)
    refine lo_R_makeMonic (d := (kd F 5).toNat) (x := ro_iv (F (kd F 5).toNat)) (F := F) (by omega) (by omega) hx hb hml hown hts hK hN (fun H locs ls hP hD hS => ?_) ((kd F 5).toNat + 1) 0 _ _ _ ls (by omega) (by omega) (by rw [kmi_0]; exact hP) (by rw [kmi_0]; exact hD) hS (lv_sub hl [0, 1, 2, 3] rfl)
    have e : kmi F (ro_iv (F (kd F 5).toNat)) ((kd F 5).toNat + 1) = km F := by unfold km; rw [if_neg (by omega)]
    rw [e] at hP hD
    exact W.vret hx hb hr (fun t ht hW => ⟨⟨(), rfl, trivial, rc_out ht hP⟩, hS.F ht⟩) hS.2.2 d_R_makeMonic_46
  · have e : F = km F := by unfold km; rw [if_pos (by omega)]
    rw [e] at hP
    exact W.vret hx hb hr (fun t ht hW => ⟨⟨(), rfl, trivial, rc_out ht hP⟩, hS.F ht⟩) hS.2.2 d_R_makeMonic_9
/-- t times g, moved up by s, is taken off: the first k numbers of it -/
def tmi (F : Nat → ro_K) (t : ro_K) (g : Nat → ro_K) (s k : Nat) : Nat → ro_K := fun j => if s ≤ j ∧ j < s + k then F j - t * g (j - s) else F j
theorem tmi_at (F : Nat → ro_K) (t : ro_K) (g : Nat → ro_K) (s k : Nat) : tmi F t g s k (s + k) = F (s + k) := if_neg (by omega)
theorem tmi_s (F : Nat → ro_K) (t : ro_K) (g : Nat → ro_K) (s k : Nat) : va_up (tmi F t g s k) (s + k) (tmi F t g s k (s + k) - t * g k) = tmi F t g s (k + 1) := by
  funext j
  rw [tmi_at]
  unfold va_up tmi
  by_cases h : j = s + k
  · subst h; rw [if_pos rfl, if_pos (by omega), show s + k - s = k by omega]
  · rw [if_neg h]
    by_cases h2 : s ≤ j ∧ j < s + k
    · rw [if_pos h2, if_pos (by omega)]
    · rw [if_neg h2, if_neg (by omega)]
theorem tmi_0 (F : Nat → ro_K) (t : ro_K) (g : Nat → ro_K) (s : Nat) : tmi F t g s 0 = F := by
  funext j
  exact if_neg (by omega)
/-- the number at d + s is cleared by a multiple of g, whose degree is d -/
def tm1 (d : Nat) (g F : Nat → ro_K) (s : Nat) : Nat → ro_K := tmi F (F (d + s)) g s (d + 1)
def tmo (d : Nat) (g : Nat → ro_K) : Nat → (Nat → ro_K) → (Nat → ro_K)
  | 0, F => F
  | n + 1, F => tmo d g n (tm1 d g F n)
/-- what is left of F less multiples of g -/
def tmr (n : Nat) (F g : Nat → ro_K) : Nat → ro_K := if kd g 5 < 0 then F else tmo (kd g 5).toNat g (kd F n - kd g 5 + 1).toNat F
set_option maxHeartbeats 4000000 in
set_option maxRecDepth 100000 in
theorem li_R_takeMultiples {cJ : ClassId} {a b n d q : Nat} {t : ro_K} {F g : Nat → ro_K} {zd zp : Int} (hzd : zd = (d : Int)) (hzp : zp = (d : Int) + q) (hd5 : d < 5) (hq : d + q < n) (hn8 : n < 1000) (hx : p.tables.exec = Jvm.exec) (hb : c.code = c_R_takeMultiples) (hml : c.maxLocals = 8) (hown : s.vm.findClass R_R = some m.cls) (hts : ∀ w ∈ kb, w.before args s = true) (hK : va_K D vC [(cJ, .long)] s) (hN : rc_N s) (hR : 1 ≤ R.frames ∧ 23 ≤ R.locals) (hend : ∀ (H : Heap) (locs : List Loc) (ls : Array Slot), va_P D vC [(a, ka cJ n (tmi F t g q (d + 1))), (b, ka cJ 5 g)] H → va_D A [(a, ka cJ n (tmi F t g q (d + 1))), (b, ka cJ 5 g)] → va_S A H0 H locs → lv_has ls 8 [(4, .long (lk t)), (3, .int (iz zp)), (2, .int (iz zd)), (0, .ref a), (1, .ref b)] → W p l e R s m args below meth c H locs 0 0 Q (F0 m 67 ls [])) : ∀ (r k : Nat) (z : Int) (H : Heap) (locs : List Loc) (ls : Array Slot), z = (k : Int) → k + r = d + 1 → va_P D vC [(a, ka cJ n (tmi F t g q k)), (b, ka cJ 5 g)] H → va_D A [(a, ka cJ n (tmi F t g q k)), (b, ka cJ 5 g)] → va_S A H0 H locs → lv_has ls 8 [(6, .int (iz z)), (4, .long (lk t)), (3, .int (iz zp)), (2, .int (iz zd)), (0, .ref a), (1, .ref b)] → W p l e R s m args below meth c H locs 0 0 Q (F0 m 28 ls []) := by
  intro r
  induction r with
  | zero =>
    intro k z H locs ls hz hn hP hD hS hl
    have e : k = d + 1 := hn
    subst e
    refine lv_iload hx hb d_R_takeMultiples_28 (lv_at hl 0 rfl) ?_
    refine lv_iload_n hx hb d_R_takeMultiples_30 rfl (lv_at hl 3 rfl) ?_
    refine rz_icmp_gt (tgt := 67) hx hb d_R_takeMultiples_31 (by decide) (fun hc => ?_) (fun hc => absurd hc (by omega))
    exact hend H locs ls hP hD hS (lv_sub hl [1, 2, 3, 4, 5] rfl)
  | succ r ih =>
    intro k z H locs ls hz hn hP hD hS hl
    refine lv_iload hx hb d_R_takeMultiples_28 (lv_at hl 0 rfl) ?_
    refine lv_iload_n hx hb d_R_takeMultiples_30 rfl (lv_at hl 3 rfl) ?_
    refine rz_icmp_gt (tgt := 67) hx hb d_R_takeMultiples_31 (by decide) (fun hc => absurd hc (by omega)) (fun hc => ?_)
    refine lv_iload_n hx hb d_R_takeMultiples_34 rfl (lv_at hl 2 rfl) ?_
    refine lv_iload_n hx hb d_R_takeMultiples_35 rfl (lv_at hl 3 rfl) ?_
    refine rz_isub hx hb d_R_takeMultiples_36 ?_
    refine lv_iload hx hb d_R_takeMultiples_37 (lv_at hl 0 rfl) ?_
    refine rz_iadd hx hb d_R_takeMultiples_39 ?_
    refine lv_istore (lv' := [(7, .int (iz ((zp - zd) + z))), (6, .int (iz z)), (4, .long (lk t)), (3, .int (iz zp)), (2, .int (iz zd)), (0, .ref a), (1, .ref b)]) hx hb d_R_takeMultiples_40 hl (by decide) rfl (fun ls hl => ?_)
    refine lv_aload_n hx hb d_R_takeMultiples_42 rfl (lv_at hl 5 rfl) ?_
    refine lv_iload hx hb d_R_takeMultiples_43 (lv_at hl 0 rfl) ?_
    refine lv_aload_n hx hb d_R_takeMultiples_45 rfl (lv_at hl 5 rfl) ?_
    refine lv_iload hx hb d_R_takeMultiples_46 (lv_at hl 0 rfl) ?_
    refine rk_ld hx hb hK hP 0 0 rfl rfl (q + k) d_R_takeMultiples_48 ?_
    refine lv_lload hx hb d_R_takeMultiples_49 (lv_at hl 2 rfl) ?_
    refine lv_aload_n hx hb d_R_takeMultiples_51 rfl (lv_at hl 6 rfl) ?_
    refine lv_iload hx hb d_R_takeMultiples_52 (lv_at hl 1 rfl) ?_
    refine rk_ld hx hb hK hP 1 0 rfl rfl k d_R_takeMultiples_54 ?_
    refine rlp_lmul hx hb 1024128004 (lk_p t) (lk_p (g k)) d_R_takeMultiples_55 (fun v1 hv1 => ?_)
    refine rlq_lsub hx hb 1024160006 (lq_of (lk_p ((tmi F t g q k) (q + k))) (by decide)) (lq_of hv1 (by decide)) d_R_takeMultiples_56 (fun v2 hv2 => ?_)
    refine rc_calll (va_runSN (As := [.long v2]) (rest := [.int (iz ((zp - zd) + z)), .ref a]) ⟨hx, hb, hml, hown, hts⟩ (m_O_number l D v2) ⟨va_cnB 1 hts (kb_gi (kb_c kw_125 kb_all)) rfl rfl rfl hN.2.2.1 (hts _ kw_1) (by decide +kernel) hR, hts _ kw_124, trivial⟩ ⟨rc_blind, rc_pre hP hD hK hN [] rfl rfl [] rfl⟩ rfl rfl hl.1 rfl (lv_room (Nat.le_of_ble_eq_true rfl)) d_R_takeMultiples_57 ⟨Nat.zero_le _, Nat.zero_le _⟩) hP hD hS [] rfl (fun _ => rfl) (fun r3 u4 H locs hw4 hP hD hS => ?_)
    rw [hv2.2.2] at hw4
    subst hw4
    have hP : va_P D vC [(a, ka cJ n (tmi F t g q k)), (b, ka cJ 5 g)] H := hP
    have hD : va_D A [(a, ka cJ n (tmi F t g q k)), (b, ka cJ 5 g)] := hD
    refine rk_st hx hb hK hP hD hS 0 0 rfl rfl (q + k) d_R_takeMultiples_60 (fun H locs hP hD hS => ?_)
    have hP : va_P D vC [(a, ka cJ n (va_up (tmi F t g q k) (q + k) (((tmi F t g q k) (q + k)) - (t * (g k))))), (b, ka cJ 5 g)] H := hP
    have hD : va_D A [(a, ka cJ n (va_up (tmi F t g q k) (q + k) (((tmi F t g q k) (q + k)) - (t * (g k))))), (b, ka cJ 5 g)] := hD
    refine lv_iinc (v := iz (z + 1)) (lv' := [(6, .int (iz (z + 1))), (7, .int (iz ((zp - zd) + z))), (4, .long (lk t)), (3, .int (iz zp)), (2, .int (iz zd)), (0, .ref a), (1, .ref b)]) hx hb d_R_takeMultiples_61 hl (k := 1) rfl (iz_add _ _) (by decide) rfl (fun ls hl => ?_)
    refine lv_goto (tgt := 28) hx hb d_R_takeMultiples_64 (by decide) ?_
    rw [tmi_s] at hP hD
    exact ih (k + 1) _ H locs ls (by omega) (by omega) hP hD hS (lv_sub hl [0, 2, 3, 4, 5, 6] rfl)
set_option maxHeartbeats 4000000 in
set_option maxRecDepth 100000 in
theorem lo_R_takeMultiples {cJ : ClassId} {a b n d : Nat} {g G : Nat → ro_K} {zd : Int} (hzd : zd = (d : Int)) (hd5 : d < 5) (hn8 : n < 1000) (hx : p.tables.exec = Jvm.exec) (hb : c.code = c_R_takeMultiples) (hml : c.maxLocals = 8) (hown : s.vm.findClass R_R = some m.cls) (hts : ∀ w ∈ kb, w.before args s = true) (hK : va_K D vC [(cJ, .long)] s) (hN : rc_N s) (hR : 1 ≤ R.frames ∧ 23 ≤ R.locals) (hend : ∀ (H : Heap) (locs : List Loc) (ls : Array Slot), va_P D vC [(a, ka cJ n G), (b, ka cJ 5 g)] H → va_D A [(a, ka cJ n G), (b, ka cJ 5 g)] → va_S A H0 H locs → W p l e R s m args below meth c H locs 0 0 Q (F0 m 73 ls [])) : ∀ (q : Nat) (F : Nat → ro_K) (z : Int) (H : Heap) (locs : List Loc) (ls : Array Slot), (z = (d : Int) + q - 1 ∨ (q = 0 ∧ -1 ≤ z ∧ z < (d : Int))) → (q = 0 ∨ d + q ≤ n) → tmo d g q F = G → va_P D vC [(a, ka cJ n F), (b, ka cJ 5 g)] H → va_D A [(a, ka cJ n F), (b, ka cJ 5 g)] → va_S A H0 H locs → lv_has ls 8 [(3, .int (iz z)), (2, .int (iz zd)), (0, .ref a), (1, .ref b)] → W p l e R s m args below meth c H locs 0 0 Q (F0 m 15 ls []) := by
  intro q
  induction q with
  | zero =>
    intro F z H locs ls hz hn hG hP hD hS hl
    have e : F = G := hG
    subst e
    refine lv_iload_n hx hb d_R_takeMultiples_15 rfl (lv_at hl 0 rfl) ?_
    refine lv_iload_n hx hb d_R_takeMultiples_16 rfl (lv_at hl 1 rfl) ?_
    refine rz_icmp_lt (tgt := 73) hx hb d_R_takeMultiples_17 (by decide) (fun hc => ?_) (fun hc => absurd hc (by omega))
    exact hend H locs ls hP hD hS
  | succ q ih =>
    intro F z H locs ls hz hn hG hP hD hS hl
    refine lv_iload_n hx hb d_R_takeMultiples_15 rfl (lv_at hl 0 rfl) ?_
    refine lv_iload_n hx hb d_R_takeMultiples_16 rfl (lv_at hl 1 rfl) ?_
    refine rz_icmp_lt (tgt := 73) hx hb d_R_takeMultiples_17 (by decide) (fun hc => absurd hc (by omega)) (fun hc => ?_)
    refine lv_aload_n hx hb d_R_takeMultiples_20 rfl (lv_at hl 2 rfl) ?_
    refine lv_iload_n hx hb d_R_takeMultiples_21 rfl (lv_at hl 0 rfl) ?_
    refine rk_ld hx hb hK hP 0 0 rfl rfl (d + q) d_R_takeMultiples_22 ?_
    refine lv_lstore (lv' := [(4, .long (lk (F (d + q)))), (3, .int (iz z)), (2, .int (iz zd)), (0, .ref a), (1, .ref b)]) hx hb d_R_takeMultiples_23 hl (by decide) rfl (fun ls hl => ?_)
    refine rz_iconst hx hb d_R_takeMultiples_25 ?_
    refine lv_istore (lv' := [(6, .int (iz 0)), (4, .long (lk (F (d + q)))), (3, .int (iz z)), (2, .int (iz zd)), (0, .ref a), (1, .ref b)]) hx hb d_R_takeMultiples_26 hl (by decide) rfl (fun ls hl => ?_)
    refine li_R_takeMultiples (q := q) (t := F (d + q)) (F := F) (g := g) hzd (by omega) hd5 (by omega) hn8 hx hb hml hown hts hK hN hR (fun H locs ls hP hD hS hl => ?_) (d + 1) 0 _ H locs ls (by omega) (by omega) (by rw [tmi_0]; exact hP) (by rw [tmi_0]; exact hD) hS (lv_sub hl [0, 1, 2, 3, 4, 5] rfl)
    refine lv_iinc (v := iz (z + (-1))) (lv' := [(3, .int (iz (z + (-1)))), (4, .long (lk (F (d + q)))), (2, .int (iz zd)), (0, .ref a), (1, .ref b)]) hx hb d_R_takeMultiples_67 hl (k := 1) rfl (iz_add _ _) (by decide) rfl (fun ls hl => ?_)
    refine lv_goto (tgt := 15) hx hb d_R_takeMultiples_70 (by decide) ?_
    exact ih (tm1 d g F q) _ H locs ls (Or.inl (by omega)) (by omega) hG hP hD hS (lv_sub hl [0, 2, 3, 4] rfl)
def ws_R_takeMultiples : List Cond := .code y_R_takeMultiples c_R_takeMultiples 8 none :: kb
set_option maxHeartbeats 4000000 in
set_option maxRecDepth 100000 in
/-- what is left of the first less multiples of the second -/
theorem m_R_takeMultiples (l : Launch) (D : va_G) (cJ : ClassId) (a b n : Nat) (F g : Nat → ro_K) (hn8 : n < 1000) : Met l y_R_takeMultiples ws_R_takeMultiples ({ frames := 1, cells := 0, slots := 0, locals := 23 }) (rc_Pc D vC [(cJ, .long)] [.ref a, .ref b] [(a, ka cJ n F), (b, ka cJ 5 g)]) (va_Qv (fun (_ : Unit) => True) (fun _ t => va_P D vC [(a, ka cJ n (tmr n F g)), (b, ka cJ 5 g)] t.heap) (rc_A [(a, ka cJ n F), (b, ka cJ 5 g)])) 0 0 (rc_A [(a, ka cJ n F), (b, ka cJ 5 g)]) := by
  refine Met.ofW (cc := c_R_takeMultiples) (maxL := 8) (ret := none) (by decide) rfl ?_
  intro p e s m args below meth c s₁ B hml hv
  obtain ⟨rfl, hP, hK, hD0, hN⟩ := hv
  have hx := B.exec
  have hb := B.bytes
  have hr := B.returns
  have hts0 := atoms_spec (ws := ws_R_takeMultiples) B.pre
  have hts : ∀ w ∈ kb, w.before _ s = true := fun w h => hts0 w (List.mem_cons_of_mem _ h)
  have hown : s.vm.findClass R_R = some m.cls := findClass_of_methodNamed B.named
  have hlocks := B.notSynchronized
  have hD := rc_self hD0
  generalize hAe : rc_A [(a, ka cJ n F), (b, ka cJ 5 g)] = A at hD ⊢
  have hS : va_S A s.heap s.heap [] := va_S.rf
  have hl := lv_entry ([.ref a, .ref b]) (n := 8) (Nat.le_of_ble_eq_true rfl)
  rw [lg_entry_eq]
  generalize (lg_sl ([.ref a, .ref b]) ++ List.replicate (8 - (lg_sl ([.ref a, .ref b])).length) Slot.unset).toArray = ls at hl ⊢

  have hl : lv_has ls 8 [(0, .ref a), (1, .ref b)] := hl
  have hk := kd_lo g 5
  have hk2 := kd_lo F n
  refine lv_aload_n hx hb d_R_takeMultiples_0 rfl (lv_at hl 1 rfl) ?_
  refine rc_calli (va_runSN (As := [.ref b]) (rest := []) ⟨hx, hb, hml, hown, hts⟩ (m_O_degree l D cJ b 5 g (by omega)) ⟨va_cnB 1 hts (kb_gi (kb_c kw_330 kb_all)) rfl rfl rfl hN.1 (hts _ kw_1) (by decide +kernel) ⟨Nat.le_of_ble_eq_true rfl, Nat.le_of_ble_eq_true rfl⟩, hts _ kw_329, trivial⟩ ⟨rc_blind, rc_pre hP hD hK hN [1] rfl rfl [0] rfl⟩ rfl rfl hl.1 rfl (lv_room (Nat.le_of_ble_eq_true rfl)) d_R_takeMultiples_1 ⟨Nat.zero_le _, Nat.zero_le _⟩) hP hD hS [1] rfl (fun _ => rfl) (fun r1 u2 H locs hw2 hP hD hS => ?_)
  subst hw2
  have hP : va_P D vC [(a, ka cJ n F), (b, ka cJ 5 g)] H := hP
  have hD : va_D A [(a, ka cJ n F), (b, ka cJ 5 g)] := hD
  refine lv_istore_n (lv' := [(2, .int (iz (kd g 5))), (0, .ref a), (1, .ref b)]) hx hb d_R_takeMultiples_4 rfl hl (by decide) rfl (fun ls hl => ?_)
  refine lv_iload_n hx hb d_R_takeMultiples_5 rfl (lv_at hl 0 rfl) ?_
  refine rz_if_ge (tgt := 10) hx hb d_R_takeMultiples_6 (by decide) (fun hc3 => ?_) (fun hc3 => ?_)
  · refine lv_aload_n hx hb d_R_takeMultiples_10 rfl (lv_at hl 1 rfl) ?_
    refine rc_calli (va_runSN (As := [.ref a]) (rest := []) ⟨hx, hb, hml, hown, hts⟩ (m_O_degree l D cJ a n F (by omega)) ⟨va_cnB 1 hts (kb_gi (kb_c kw_330 kb_all)) rfl rfl rfl hN.1 (hts _ kw_1) (by decide +kernel) ⟨Nat.le_of_ble_eq_true rfl, Nat.le_of_ble_eq_true rfl⟩, hts _ kw_329, trivial⟩ ⟨rc_blind, rc_pre hP hD hK hN [0] rfl rfl [0] rfl⟩ rfl rfl hl.1 rfl (lv_room (Nat.le_of_ble_eq_true rfl)) d_R_takeMultiples_11 ⟨Nat.zero_le _, Nat.zero_le _⟩) hP hD hS [0] rfl (fun _ => rfl) (fun r4 u5 H locs hw5 hP hD hS => ?_)
    subst hw5
    have hP : va_P D vC [(a, ka cJ n F), (b, ka cJ 5 g)] H := hP
    have hD : va_D A [(a, ka cJ n F), (b, ka cJ 5 g)] := hD
    refine lv_istore_n (lv' := [(3, .int (iz (kd F n))), (2, .int (iz (kd g 5))), (0, .ref a), (1, .ref b)]) hx hb d_R_takeMultiples_14 rfl hl (by decide) rfl (fun ls hl => ?_)
    refine lo_R_takeMultiples (d := (kd g 5).toNat) (g := g) (G := tmr n F g) (by omega) (by omega) hn8 hx hb hml hown hts hK hN ⟨Nat.le_of_ble_eq_true rfl, Nat.le_of_ble_eq_true rfl⟩ (fun H locs ls hP hD hS => ?_) (kd F n - kd g 5 + 1).toNat F _ _ _ ls ?_ (by omega) (by unfold tmr; rw [if_neg (by omega)]) hP hD hS (lv_sub hl [0, 1, 2, 3] rfl)
    · exact W.vret hx hb hr (fun t ht hW => ⟨⟨(), rfl, trivial, rc_out ht hP⟩, hS.F ht⟩) hS.2.2 d_R_takeMultiples_73
    · omega
  · have e : F = tmr n F g := by unfold tmr; rw [if_pos (by omega)]
    rw [e] at hP
    exact W.vret hx hb hr (fun t ht hW => ⟨⟨(), rfl, trivial, rc_out ht hP⟩, hS.F ht⟩) hS.2.2 d_R_takeMultiples_9
end WK
end
section
section WK
variable {p : Program} {l : Launch} {e : Env} {R : Room} {s : State} {m : MethodId} {args : Array Value} {below : List Frame} {meth : Method} {c : Code} {H : Heap} {locs : List Loc} {cells slots : Nat} {Q : State → Prop} {D : va_G} {A : Nat → Prop} {H0 : Heap}
/-- an object of Roots -/
abbrev rR (fo : Nat) (cn : Int) (wh pt rs sq on tw : Nat) : va_E := .inr (1, [.ref fo, .int (iz cn), .ref wh, .ref pt, .ref rs, .ref sq, .ref on, .ref tw])
/-- division by x - r, from the highest power down: what is carried, and the numbers -/
def dvL (r : ro_K) : Nat → ro_K → (Nat → ro_K) → (Nat → ro_K)
  | 0, _, F => F
  | n + 1, y, F => dvL r n (F n + y * r) (va_up F n y)
set_option maxHeartbeats 4000000 in
set_option maxRecDepth 100000 in
theorem lo_R_divideOut {fo wh pt rs sq on tw h : Nat} {cn : Int} {cJ : ClassId} {r : ro_K} {G : Nat → ro_K}  (hx : p.tables.exec = Jvm.exec) (hb : c.code = c_R_divideOut) (hml : c.maxLocals = 8) (hown : s.vm.findClass R_R = some m.cls) (hts : ∀ w ∈ kb, w.before args s = true) (hK : va_K D vC [(cJ, .long)] s) (hN : rc_N s) (hend : ∀ (H : Heap) (locs : List Loc) (ls : Array Slot), va_P D vC [(h, rR fo cn wh pt rs sq on tw), (wh, ka cJ 5 G)] H → va_D A [(h, rR fo cn wh pt rs sq on tw), (wh, ka cJ 5 G)] → va_S A H0 H locs → W p l e R s m args below meth c H locs 0 0 Q (F0 m 44 ls [])) : ∀ (n : Nat) (F : Nat → ro_K) (y : ro_K) (z : Int) (H : Heap) (locs : List Loc) (ls : Array Slot), z = (n : Int) - 1 → n ≤ 5 → dvL r n y F = G → va_P D vC [(h, rR fo cn wh pt rs sq on tw), (wh, ka cJ 5 F)] H → va_D A [(h, rR fo cn wh pt rs sq on tw), (wh, ka cJ 5 F)] → va_S A H0 H locs → lv_has ls 8 [(5, .int (iz z)), (3, .long (lk y)), (0, .ref h), (1, .long (lk r))] → W p l e R s m args below meth c H locs 0 0 Q (F0 m 5 ls []) := by
  intro n
  induction n with
  | zero =>
    intro F y z H locs ls hz hn hG hP hD hS hl
    have e : F = G := hG
    subst e
    refine lv_iload hx hb d_R_divideOut_5 (lv_at hl 0 rfl) ?_
    refine rz_if_lt (tgt := 44) hx hb d_R_divideOut_7 (by decide) (fun hc => ?_) (fun hc => absurd hc (by omega))
    exact hend H locs ls hP hD hS
  | succ n ih =>
    intro F y z H locs ls hz hn hG hP hD hS hl
    refine lv_iload hx hb d_R_divideOut_5 (lv_at hl 0 rfl) ?_
    refine rz_if_lt (tgt := 44) hx hb d_R_divideOut_7 (by decide) (fun hc => absurd hc (by omega)) (fun hc => ?_)
    refine lv_aload_n hx hb d_R_divideOut_10 rfl (lv_at hl 2 rfl) ?_
    refine va_get (D := D) (ci := 1) (v := .ref wh) (C := R_R) (T := T_R) (N := 8) hx hb hts in_R hown hK hP 0 rfl rfl 2 (by decide) (hts _ kw_32) (fun _ h9 => h9) rfl d_R_divideOut_11 ?_
    refine lv_iload hx hb d_R_divideOut_14 (lv_at hl 0 rfl) ?_
    refine rk_ld hx hb hK hP 1 0 rfl rfl n d_R_divideOut_16 ?_
    refine lv_lload_n hx hb d_R_divideOut_17 rfl (lv_at hl 1 rfl) ?_
    refine lv_lload_n hx hb d_R_divideOut_18 rfl (lv_at hl 3 rfl) ?_
    refine rlp_lmul hx hb 1024128004 (lk_p y) (lk_p r) d_R_divideOut_19 (fun v1 hv1 => ?_)
    refine rlp_ladd hx hb 1024160006 (lk_p (F n)) hv1 d_R_divideOut_20 (fun v2 hv2 => ?_)
    refine lv_ldc2 (v := 32003) hx hb hown (hts _ kw_360) d_R_divideOut_21 ?_
    refine rlp_lrem hx hb hv2 d_R_divideOut_24 ?_
    refine lv_lstore (lv' := [(6, .long (lk ((F n) + (y * r)))), (5, .int (iz z)), (3, .long (lk y)), (0, .ref h), (1, .long (lk r))]) hx hb d_R_divideOut_25 hl (by decide) rfl (fun ls hl => ?_)
    refine lv_aload_n hx hb d_R_divideOut_27 rfl (lv_at hl 3 rfl) ?_
    refine va_get (D := D) (ci := 1) (v := .ref wh) (C := R_R) (T := T_R) (N := 8) hx hb hts in_R hown hK hP 0 rfl rfl 2 (by decide) (hts _ kw_32) (fun _ h9 => h9) rfl d_R_divideOut_28 ?_
    refine lv_iload hx hb d_R_divideOut_31 (lv_at hl 1 rfl) ?_
    refine lv_lload_n hx hb d_R_divideOut_33 rfl (lv_at hl 2 rfl) ?_
    refine rk_st hx hb hK hP hD hS 1 0 rfl rfl n d_R_divideOut_34 (fun H locs hP hD hS => ?_)
    have hP : va_P D vC [(h, rR fo cn wh pt rs sq on tw), (wh, ka cJ 5 (va_up F n y))] H := hP
    have hD : va_D A [(h, rR fo cn wh pt rs sq on tw), (wh, ka cJ 5 (va_up F n y))] := hD
    refine lv_lload hx hb d_R_divideOut_35 (lv_at hl 0 rfl) ?_
    refine lv_lstore_n (lv' := [(3, .long (lk ((F n) + (y * r)))), (6, .long (lk ((F n) + (y * r)))), (5, .int (iz z)), (0, .ref h), (1, .long (lk r))]) hx hb d_R_divideOut_37 rfl hl (by decide) rfl (fun ls hl => ?_)
    refine lv_iinc (v := iz (z + (-1))) (lv' := [(5, .int (iz (z + (-1)))), (3, .long (lk ((F n) + (y * r)))), (6, .long (lk ((F n) + (y * r)))), (0, .ref h), (1, .long (lk r))]) hx hb d_R_divideOut_38 hl (k := 2) rfl (iz_add _ _) (by decide) rfl (fun ls hl => ?_)
    refine lv_goto (tgt := 5) hx hb d_R_divideOut_41 (by decide) ?_
    exact ih _ _ _ H locs ls (by omega) (by omega) hG hP hD hS (lv_sub hl [0, 1, 3, 4] rfl)
def ws_R_divideOut : List Cond := .code y_R_divideOut c_R_divideOut 8 none :: kb
set_option maxHeartbeats 4000000 in
set_option maxRecDepth 100000 in
/-- x - r is divided out -/
theorem m_R_divideOut (l : Launch) (D : va_G) (cJ : ClassId) (h fo wh pt rs sq on tw : Nat) (cn : Int) (F : Nat → ro_K) (r : ro_K) : Met l y_R_divideOut ws_R_divideOut ({ frames := 0, cells := 0, slots := 0, locals := 0 }) (rc_Pc D vC [(cJ, .long)] [.ref h, .long (lk r)] [(h, rR fo cn wh pt rs sq on tw), (wh, ka cJ 5 F)]) (va_Qv (fun (_ : Unit) => True) (fun _ t => va_P D vC [(h, rR fo cn wh pt rs sq on tw), (wh, ka cJ 5 (dvL r 5 0 F))] t.heap) (rc_A [(h, rR fo cn wh pt rs sq on tw), (wh, ka cJ 5 F)])) 0 0 (rc_A [(h, rR fo cn wh pt rs sq on tw), (wh, ka cJ 5 F)]) := by
  refine Met.ofW (cc := c_R_divideOut) (maxL := 8) (ret := none) (by decide) rfl ?_
  intro p e s m args below meth c s₁ B hml hv
  obtain ⟨rfl, hP, hK, hD0, hN⟩ := hv
  have hx := B.exec
  have hb := B.bytes
  have hr := B.returns
  have hts0 := atoms_spec (ws := ws_R_divideOut) B.pre
  have hts : ∀ w ∈ kb, w.before _ s = true := fun w h => hts0 w (List.mem_cons_of_mem _ h)
  have hown : s.vm.findClass R_R = some m.cls := findClass_of_methodNamed B.named
  have hlocks := B.notSynchronized
  have hD := rc_self hD0
  generalize hAe : rc_A [(h, rR fo cn wh pt rs sq on tw), (wh, ka cJ 5 F)] = A at hD ⊢
  have hS : va_S A s.heap s.heap [] := va_S.rf
  have hl := lv_entry ([.ref h, .long (lk r)]) (n := 8) (Nat.le_of_ble_eq_true rfl)
  rw [lg_entry_eq]
  generalize (lg_sl ([.ref h, .long (lk r)]) ++ List.replicate (8 - (lg_sl ([.ref h, .long (lk r)])).length) Slot.unset).toArray = ls at hl ⊢

  have hl : lv_has ls 8 [(0, .ref h), (1, .long (lk r))] := hl
  refine lv_lconst (v := lk 0) hx hb d_R_divideOut_0 rfl ?_
  refine lv_lstore_n (lv' := [(3, .long (lk 0)), (0, .ref h), (1, .long (lk r))]) hx hb d_R_divideOut_1 rfl hl (by decide) rfl (fun ls hl => ?_)
  refine rz_iconst hx hb d_R_divideOut_2 ?_
  refine lv_istore (lv' := [(5, .int (iz 4)), (3, .long (lk 0)), (0, .ref h), (1, .long (lk r))]) hx hb d_R_divideOut_3 hl (by decide) rfl (fun ls hl => ?_)
  refine lo_R_divideOut (r := r) (G := dvL r 5 0 F) hx hb hml hown hts hK hN (fun H locs ls hP hD hS => ?_) 5 F 0 _ _ _ ls (by omega) (by omega) rfl hP hD hS (lv_sub hl [0, 1, 2, 3] rfl)
  exact W.vret hx hb hr (fun t ht hW => ⟨⟨(), rfl, trivial, rc_out ht hP⟩, hS.F ht⟩) hS.2.2 d_R_divideOut_44
/-- the square: r i times each of the first k numbers; the first k rows of n -/
def sqJ (r : Nat → ro_K) (i : Nat) : Nat → (Nat → ro_K) → (Nat → ro_K)
  | 0, S => S
  | k + 1, S => va_up (sqJ r i k S) (i + k) (sqJ r i k S (i + k) + r i * r k)
def sqI (r : Nat → ro_K) (n : Nat) : Nat → (Nat → ro_K) → (Nat → ro_K)
  | 0, S => S
  | k + 1, S => sqJ r k n (sqI r n k S)
set_option maxHeartbeats 4000000 in
set_option maxRecDepth 100000 in
theorem li_R_squareRaised {fo wh pt rs sq on tw h : Nat} {cn : Int} {cJ : ClassId} {r S : Nat → ro_K} {n i : Nat} {zi zn : Int} (hzn : zn = (n : Int)) (hzi : zi = (i : Int)) (hn : n < 5) (hi : i < n) (hx : p.tables.exec = Jvm.exec) (hb : c.code = c_R_squareRaised) (hml : c.maxLocals = 4) (hown : s.vm.findClass R_R = some m.cls) (hts : ∀ w ∈ kb, w.before args s = true) (hK : va_K D vC [(cJ, .long)] s) (hN : rc_N s) (hend : ∀ (H : Heap) (locs : List Loc) (ls : Array Slot), va_P D vC [(h, rR fo cn wh pt rs sq on tw), (rs, ka cJ 5 r), (sq, ka cJ 8 (sqJ r i n S))] H → va_D A [(h, rR fo cn wh pt rs sq on tw), (rs, ka cJ 5 r), (sq, ka cJ 8 (sqJ r i n S))] → va_S A H0 H locs → lv_has ls 4 [(2, .int (iz zi)), (0, .ref h), (1, .int (iz zn))] → W p l e R s m args below meth c H locs 0 0 Q (F0 m 62 ls [])) : ∀ (q k : Nat) (z : Int) (H : Heap) (locs : List Loc) (ls : Array Slot), z = (k : Int) → k + q = n → va_P D vC [(h, rR fo cn wh pt rs sq on tw), (rs, ka cJ 5 r), (sq, ka cJ 8 (sqJ r i k S))] H → va_D A [(h, rR fo cn wh pt rs sq on tw), (rs, ka cJ 5 r), (sq, ka cJ 8 (sqJ r i k S))] → va_S A H0 H locs → lv_has ls 4 [(3, .int (iz z)), (2, .int (iz zi)), (0, .ref h), (1, .int (iz zn))] → W p l e R s m args below meth c H locs 0 0 Q (F0 m 17 ls []) := by
  intro q
  induction q with
  | zero =>
    intro k z H locs ls hz hk hP hD hS hl
    have e : k = n := hk
    subst e
    refine lv_iload_n hx hb d_R_squareRaised_17 rfl (lv_at hl 0 rfl) ?_
    refine lv_iload_n hx hb d_R_squareRaised_18 rfl (lv_at hl 3 rfl) ?_
    refine rz_icmp_ge (tgt := 62) hx hb d_R_squareRaised_19 (by decide) (fun hc => ?_) (fun hc => absurd hc (by omega))
    exact hend H locs ls hP hD hS (lv_sub hl [1, 2, 3] rfl)
  | succ q ih =>
    intro k z H locs ls hz hk hP hD hS hl
    refine lv_iload_n hx hb d_R_squareRaised_17 rfl (lv_at hl 0 rfl) ?_
    refine lv_iload_n hx hb d_R_squareRaised_18 rfl (lv_at hl 3 rfl) ?_
    refine rz_icmp_ge (tgt := 62) hx hb d_R_squareRaised_19 (by decide) (fun hc => absurd hc (by omega)) (fun hc => ?_)
    refine lv_aload_n hx hb d_R_squareRaised_22 rfl (lv_at hl 2 rfl) ?_
    refine va_get (D := D) (ci := 1) (v := .ref sq) (C := R_R) (T := T_R) (N := 8) hx hb hts in_R hown hK hP 0 rfl rfl 5 (by decide) (hts _ kw_35) (fun _ h9 => h9) rfl d_R_squareRaised_23 ?_
    refine lv_iload_n hx hb d_R_squareRaised_26 rfl (lv_at hl 1 rfl) ?_
    refine lv_iload_n hx hb d_R_squareRaised_27 rfl (lv_at hl 0 rfl) ?_
    refine rz_iadd hx hb d_R_squareRaised_28 ?_
    refine lv_aload_n hx hb d_R_squareRaised_29 rfl (lv_at hl 2 rfl) ?_
    refine va_get (D := D) (ci := 1) (v := .ref sq) (C := R_R) (T := T_R) (N := 8) hx hb hts in_R hown hK hP 0 rfl rfl 5 (by decide) (hts _ kw_35) (fun _ h9 => h9) rfl d_R_squareRaised_30 ?_
    refine lv_iload_n hx hb d_R_squareRaised_33 rfl (lv_at hl 1 rfl) ?_
    refine lv_iload_n hx hb d_R_squareRaised_34 rfl (lv_at hl 0 rfl) ?_
    refine rz_iadd hx hb d_R_squareRaised_35 ?_
    refine rk_ld hx hb hK hP 2 0 rfl rfl (i + k) d_R_squareRaised_36 ?_
    refine lv_aload_n hx hb d_R_squareRaised_37 rfl (lv_at hl 2 rfl) ?_
    refine va_get (D := D) (ci := 1) (v := .ref rs) (C := R_R) (T := T_R) (N := 8) hx hb hts in_R hown hK hP 0 rfl rfl 4 (by decide) (hts _ kw_34) (fun _ h9 => h9) rfl d_R_squareRaised_38 ?_
    refine lv_iload_n hx hb d_R_squareRaised_41 rfl (lv_at hl 1 rfl) ?_
    refine rk_ld hx hb hK hP 1 0 rfl rfl i d_R_squareRaised_42 ?_
    refine lv_aload_n hx hb d_R_squareRaised_43 rfl (lv_at hl 2 rfl) ?_
    refine va_get (D := D) (ci := 1) (v := .ref rs) (C := R_R) (T := T_R) (N := 8) hx hb hts in_R hown hK hP 0 rfl rfl 4 (by decide) (hts _ kw_34) (fun _ h9 => h9) rfl d_R_squareRaised_44 ?_
    refine lv_iload_n hx hb d_R_squareRaised_47 rfl (lv_at hl 0 rfl) ?_
    refine rk_ld hx hb hK hP 1 0 rfl rfl k d_R_squareRaised_48 ?_
    refine rlp_lmul hx hb 1024128004 (lk_p (r i)) (lk_p (r k)) d_R_squareRaised_49 (fun v1 hv1 => ?_)
    refine rlp_ladd hx hb 1024160006 (lk_p ((sqJ r i k S) (i + k))) hv1 d_R_squareRaised_50 (fun v2 hv2 => ?_)
    refine lv_ldc2 (v := 32003) hx hb hown (hts _ kw_360) d_R_squareRaised_51 ?_
    refine rlp_lrem hx hb hv2 d_R_squareRaised_54 ?_
    refine rk_st hx hb hK hP hD hS 2 0 rfl rfl (i + k) d_R_squareRaised_55 (fun H locs hP hD hS => ?_)
    have hP : va_P D vC [(h, rR fo cn wh pt rs sq on tw), (rs, ka cJ 5 r), (sq, ka cJ 8 (va_up (sqJ r i k S) (i + k) (((sqJ r i k S) (i + k)) + ((r i) * (r k)))))] H := hP
    have hD : va_D A [(h, rR fo cn wh pt rs sq on tw), (rs, ka cJ 5 r), (sq, ka cJ 8 (va_up (sqJ r i k S) (i + k) (((sqJ r i k S) (i + k)) + ((r i) * (r k)))))] := hD
    refine lv_iinc (v := iz (z + 1)) (lv' := [(3, .int (iz (z + 1))), (2, .int (iz zi)), (0, .ref h), (1, .int (iz zn))]) hx hb d_R_squareRaised_56 hl (k := 0) rfl (iz_add _ _) (by decide) rfl (fun ls hl => ?_)
    refine lv_goto (tgt := 17) hx hb d_R_squareRaised_59 (by decide) ?_
    exact ih (k + 1) _ H locs ls (by omega) (by omega) hP hD hS (lv_sub hl [0, 1, 2, 3] rfl)
set_option maxHeartbeats 4000000 in
set_option maxRecDepth 100000 in
theorem lo_R_squareRaised {fo wh pt rs sq on tw h : Nat} {cn : Int} {cJ : ClassId} {r S : Nat → ro_K} {n : Nat} {zn : Int} (hzn : zn = (n : Int)) (hn : n < 5) (hx : p.tables.exec = Jvm.exec) (hb : c.code = c_R_squareRaised) (hml : c.maxLocals = 4) (hown : s.vm.findClass R_R = some m.cls) (hts : ∀ w ∈ kb, w.before args s = true) (hK : va_K D vC [(cJ, .long)] s) (hN : rc_N s) (hend : ∀ (H : Heap) (locs : List Loc) (ls : Array Slot), va_P D vC [(h, rR fo cn wh pt rs sq on tw), (rs, ka cJ 5 r), (sq, ka cJ 8 (sqI r n n S))] H → va_D A [(h, rR fo cn wh pt rs sq on tw), (rs, ka cJ 5 r), (sq, ka cJ 8 (sqI r n n S))] → va_S A H0 H locs → W p l e R s m args below meth c H locs 0 0 Q (F0 m 68 ls [])) : ∀ (q k : Nat) (z : Int) (H : Heap) (locs : List Loc) (ls : Array Slot), z = (k : Int) → k + q = n → va_P D vC [(h, rR fo cn wh pt rs sq on tw), (rs, ka cJ 5 r), (sq, ka cJ 8 (sqI r n k S))] H → va_D A [(h, rR fo cn wh pt rs sq on tw), (rs, ka cJ 5 r), (sq, ka cJ 8 (sqI r n k S))] → va_S A H0 H locs → lv_has ls 4 [(2, .int (iz z)), (0, .ref h), (1, .int (iz zn))] → W p l e R s m args below meth c H locs 0 0 Q (F0 m 10 ls []) := by
  intro q
  induction q with
  | zero =>
    intro k z H locs ls hz hk hP hD hS hl
    have e : k = n := hk
    subst e
    refine lv_iload_n hx hb d_R_squareRaised_10 rfl (lv_at hl 0 rfl) ?_
    refine lv_iload_n hx hb d_R_squareRaised_11 rfl (lv_at hl 2 rfl) ?_
    refine rz_icmp_ge (tgt := 68) hx hb d_R_squareRaised_12 (by decide) (fun hc => ?_) (fun hc => absurd hc (by omega))
    exact hend H locs ls hP hD hS
  | succ q ih =>
    intro k z H locs ls hz hk hP hD hS hl
    refine lv_iload_n hx hb d_R_squareRaised_10 rfl (lv_at hl 0 rfl) ?_
    refine lv_iload_n hx hb d_R_squareRaised_11 rfl (lv_at hl 2 rfl) ?_
    refine rz_icmp_ge (tgt := 68) hx hb d_R_squareRaised_12 (by decide) (fun hc => absurd hc (by omega)) (fun hc => ?_)
    refine rz_iconst hx hb d_R_squareRaised_15 ?_
    refine lv_istore_n (lv' := [(3, .int (iz 0)), (2, .int (iz z)), (0, .ref h), (1, .int (iz zn))]) hx hb d_R_squareRaised_16 rfl hl (by decide) rfl (fun ls hl => ?_)
    refine li_R_squareRaised (r := r) (S := sqI r n k S) (i := k) hzn hz hn (by omega) hx hb hml hown hts hK hN (fun H locs ls hP hD hS hl => ?_) n 0 _ H locs ls rfl (by omega) hP hD hS (lv_sub hl [0, 1, 2, 3] rfl)
    refine lv_iinc (v := iz (z + 1)) (lv' := [(2, .int (iz (z + 1))), (0, .ref h), (1, .int (iz zn))]) hx hb d_R_squareRaised_62 hl (k := 0) rfl (iz_add _ _) (by decide) rfl (fun ls hl => ?_)
    refine lv_goto (tgt := 10) hx hb d_R_squareRaised_65 (by decide) ?_
    exact ih (k + 1) _ H locs ls (by omega) (by omega) hP hD hS (lv_sub hl [0, 1, 2] rfl)
def ws_R_squareRaised : List Cond := .code y_R_squareRaised c_R_squareRaised 4 none :: kb
set_option maxHeartbeats 4000000 in
set_option maxRecDepth 100000 in
/-- the square of what was raised -/
theorem m_R_squareRaised (l : Launch) (D : va_G) (cJ : ClassId) (h fo wh pt rs sq on tw : Nat) (cn : Int) (r S : Nat → ro_K) (n : Nat) (zn : Int) (hzn : zn = (n : Int)) (hn : n < 5) : Met l y_R_squareRaised ws_R_squareRaised ({ frames := 1, cells := 0, slots := 0, locals := 24 }) (rc_Pc D vC [(cJ, .long)] [.ref h, .int (iz zn)] [(h, rR fo cn wh pt rs sq on tw), (rs, ka cJ 5 r), (sq, ka cJ 8 S)]) (va_Qv (fun (_ : Unit) => True) (fun _ t => va_P D vC [(h, rR fo cn wh pt rs sq on tw), (rs, ka cJ 5 r), (sq, ka cJ 8 (sqI r n n (kfl S 0 8)))] t.heap) (rc_A [(h, rR fo cn wh pt rs sq on tw), (rs, ka cJ 5 r), (sq, ka cJ 8 S)])) 0 0 (rc_A [(h, rR fo cn wh pt rs sq on tw), (rs, ka cJ 5 r), (sq, ka cJ 8 S)]) := by
  refine Met.ofW (cc := c_R_squareRaised) (maxL := 4) (ret := none) (by decide) rfl ?_
  intro p e s m args below meth c s₁ B hml hv
  obtain ⟨rfl, hP, hK, hD0, hN⟩ := hv
  have hx := B.exec
  have hb := B.bytes
  have hr := B.returns
  have hts0 := atoms_spec (ws := ws_R_squareRaised) B.pre
  have hts : ∀ w ∈ kb, w.before _ s = true := fun w h => hts0 w (List.mem_cons_of_mem _ h)
  have hown : s.vm.findClass R_R = some m.cls := findClass_of_methodNamed B.named
  have hlocks := B.notSynchronized
  have hD := rc_self hD0
  generalize hAe : rc_A [(h, rR fo cn wh pt rs sq on tw), (rs, ka cJ 5 r), (sq, ka cJ 8 S)] = A at hD ⊢
  have hS : va_S A s.heap s.heap [] := va_S.rf
  have hl := lv_entry ([.ref h, .int (iz zn)]) (n := 4) (Nat.le_of_ble_eq_true rfl)
  rw [lg_entry_eq]
  generalize (lg_sl ([.ref h, .int (iz zn)]) ++ List.replicate (4 - (lg_sl ([.ref h, .int (iz zn)])).length) Slot.unset).toArray = ls at hl ⊢

  have hl : lv_has ls 4 [(0, .ref h), (1, .int (iz zn))] := hl
  refine lv_aload_n hx hb d_R_squareRaised_0 rfl (lv_at hl 0 rfl) ?_
  refine va_get (D := D) (ci := 1) (v := .ref sq) (C := R_R) (T := T_R) (N := 8) hx hb hts in_R hown hK hP 0 rfl rfl 5 (by decide) (hts _ kw_35) (fun _ h9 => h9) rfl d_R_squareRaised_1 ?_
  refine lv_lconst (v := lk 0) hx hb d_R_squareRaised_4 rfl ?_
  refine rc_callv (va_runS (As := [.ref sq, .long (lk 0)]) (rest := []) ⟨hx, hb, hml, hown, hts⟩ (m_J_fill l D cJ sq 8 S 0 (by omega)) (va_cwS 2 hts (kb_gi (kb_c kw_369 (kb_c kw_173 (kb_c kw_12 (kb_c kw_174 kb_all))))) rfl rfl rfl (by decide +kernel) ⟨Nat.le_of_ble_eq_true rfl, Nat.le_of_ble_eq_true rfl⟩) ⟨rc_blind, rc_pre hP hD hK hN [2] rfl rfl [0] rfl⟩ rfl rfl hl.1 rfl (lv_room (Nat.le_of_ble_eq_true rfl)) d_R_squareRaised_5 ⟨Nat.zero_le _, Nat.zero_le _⟩) hP hD hS [2] rfl (fun _ => rfl) (fun u1 H locs hw1 hP hD hS => ?_)
  have hP : va_P D vC [(h, rR fo cn wh pt rs sq on tw), (rs, ka cJ 5 r), (sq, ka cJ 8 (kfl S 0 8))] H := hP
  have hD : va_D A [(h, rR fo cn wh pt rs sq on tw), (rs, ka cJ 5 r), (sq, ka cJ 8 (kfl S 0 8))] := hD
  refine rz_iconst hx hb d_R_squareRaised_8 ?_
  refine lv_istore_n (lv' := [(2, .int (iz 0)), (0, .ref h), (1, .int (iz zn))]) hx hb d_R_squareRaised_9 rfl hl (by decide) rfl (fun ls hl => ?_)
  refine lo_R_squareRaised (r := r) (S := kfl S 0 8) hzn hn hx hb hml hown hts hK hN (fun H locs ls hP hD hS => ?_) n 0 _ H locs ls rfl (by omega) hP hD hS (lv_sub hl [0, 1, 2] rfl)
  exact W.vret hx hb hr (fun t ht hW => ⟨⟨(), rfl, trivial, rc_out ht hP⟩, hS.F ht⟩) hS.2.2 d_R_squareRaised_68
/-- x + b times it: powers n down to 1, then 0 -/
def tlL (b : ro_K) : Nat → (Nat → ro_K) → (Nat → ro_K)
  | 0, S => S
  | n + 1, S => tlL b n (va_up S (n + 1) (S (n + 1) * b + S n))
def tlF (b : ro_K) (S : Nat → ro_K) : Nat → ro_K := va_up (tlL b 7 S) 0 (tlL b 7 S 0 * b)
set_option maxHeartbeats 4000000 in
set_option maxRecDepth 100000 in
theorem lo_R_timesLine {fo wh pt rs sq on tw h : Nat} {cn : Int} {cJ : ClassId} {b : ro_K} {G : Nat → ro_K}  (hx : p.tables.exec = Jvm.exec) (hb : c.code = c_R_timesLine) (hml : c.maxLocals = 4) (hown : s.vm.findClass R_R = some m.cls) (hts : ∀ w ∈ kb, w.before args s = true) (hK : va_K D vC [(cJ, .long)] s) (hN : rc_N s) (hend : ∀ (H : Heap) (locs : List Loc) (ls : Array Slot), va_P D vC [(h, rR fo cn wh pt rs sq on tw), (sq, ka cJ 8 G)] H → va_D A [(h, rR fo cn wh pt rs sq on tw), (sq, ka cJ 8 G)] → va_S A H0 H locs → lv_has ls 4 [(0, .ref h), (1, .long (lk b))] → W p l e R s m args below meth c H locs 0 0 Q (F0 m 45 ls [])) : ∀ (n : Nat) (S : Nat → ro_K) (z : Int) (H : Heap) (locs : List Loc) (ls : Array Slot), z = (n : Int) → n ≤ 7 → tlL b n S = G → va_P D vC [(h, rR fo cn wh pt rs sq on tw), (sq, ka cJ 8 S)] H → va_D A [(h, rR fo cn wh pt rs sq on tw), (sq, ka cJ 8 S)] → va_S A H0 H locs → lv_has ls 4 [(3, .int (iz z)), (0, .ref h), (1, .long (lk b))] → W p l e R s m args below meth c H locs 0 0 Q (F0 m 8 ls []) := by
  intro n
  induction n with
  | zero =>
    intro S z H locs ls hz hn hG hP hD hS hl
    have e : S = G := hG
    subst e
    refine lv_iload_n hx hb d_R_timesLine_8 rfl (lv_at hl 0 rfl) ?_
    refine rz_if_le (tgt := 45) hx hb d_R_timesLine_9 (by decide) (fun hc => ?_) (fun hc => absurd hc (by omega))
    exact hend H locs ls hP hD hS (lv_sub hl [1, 2] rfl)
  | succ n ih =>
    intro S z H locs ls hz hn hG hP hD hS hl
    refine lv_iload_n hx hb d_R_timesLine_8 rfl (lv_at hl 0 rfl) ?_
    refine rz_if_le (tgt := 45) hx hb d_R_timesLine_9 (by decide) (fun hc => absurd hc (by omega)) (fun hc => ?_)
    refine lv_aload_n hx hb d_R_timesLine_12 rfl (lv_at hl 1 rfl) ?_
    refine va_get (D := D) (ci := 1) (v := .ref sq) (C := R_R) (T := T_R) (N := 8) hx hb hts in_R hown hK hP 0 rfl rfl 5 (by decide) (hts _ kw_35) (fun _ h9 => h9) rfl d_R_timesLine_13 ?_
    refine lv_iload_n hx hb d_R_timesLine_16 rfl (lv_at hl 0 rfl) ?_
    refine lv_aload_n hx hb d_R_timesLine_17 rfl (lv_at hl 1 rfl) ?_
    refine va_get (D := D) (ci := 1) (v := .ref sq) (C := R_R) (T := T_R) (N := 8) hx hb hts in_R hown hK hP 0 rfl rfl 5 (by decide) (hts _ kw_35) (fun _ h9 => h9) rfl d_R_timesLine_18 ?_
    refine lv_iload_n hx hb d_R_timesLine_21 rfl (lv_at hl 0 rfl) ?_
    refine rk_ld hx hb hK hP 1 0 rfl rfl (n + 1) d_R_timesLine_22 ?_
    refine lv_lload_n hx hb d_R_timesLine_23 rfl (lv_at hl 2 rfl) ?_
    refine rlp_lmul hx hb 1024128004 (lk_p (S (n + 1))) (lk_p b) d_R_timesLine_24 (fun v1 hv1 => ?_)
    refine lv_aload_n hx hb d_R_timesLine_25 rfl (lv_at hl 1 rfl) ?_
    refine va_get (D := D) (ci := 1) (v := .ref sq) (C := R_R) (T := T_R) (N := 8) hx hb hts in_R hown hK hP 0 rfl rfl 5 (by decide) (hts _ kw_35) (fun _ h9 => h9) rfl d_R_timesLine_26 ?_
    refine lv_iload_n hx hb d_R_timesLine_29 rfl (lv_at hl 0 rfl) ?_
    refine rz_iconst hx hb d_R_timesLine_30 ?_
    refine rz_isub hx hb d_R_timesLine_31 ?_
    refine rk_ld hx hb hK hP 1 0 rfl rfl n d_R_timesLine_32 ?_
    refine rlp_ladd hx hb 1024160006 hv1 (lk_p (S n)) d_R_timesLine_33 (fun v2 hv2 => ?_)
    refine lv_ldc2 (v := 32003) hx hb hown (hts _ kw_360) d_R_timesLine_34 ?_
    refine rlp_lrem hx hb hv2 d_R_timesLine_37 ?_
    refine rk_st hx hb hK hP hD hS 1 0 rfl rfl (n + 1) d_R_timesLine_38 (fun H locs hP hD hS => ?_)
    have hP : va_P D vC [(h, rR fo cn wh pt rs sq on tw), (sq, ka cJ 8 (va_up S (n + 1) (((S (n + 1)) * b) + (S n))))] H := hP
    have hD : va_D A [(h, rR fo cn wh pt rs sq on tw), (sq, ka cJ 8 (va_up S (n + 1) (((S (n + 1)) * b) + (S n))))] := hD
    refine lv_iinc (v := iz (z + (-1))) (lv' := [(3, .int (iz (z + (-1)))), (0, .ref h), (1, .long (lk b))]) hx hb d_R_timesLine_39 hl (k := 0) rfl (iz_add _ _) (by decide) rfl (fun ls hl => ?_)
    refine lv_goto (tgt := 8) hx hb d_R_timesLine_42 (by decide) ?_
    exact ih _ _ H locs ls (by omega) (by omega) hG hP hD hS (lv_sub hl [0, 1, 2] rfl)
def ws_R_timesLine : List Cond := .code y_R_timesLine c_R_timesLine 4 none :: kb
set_option maxHeartbeats 4000000 in
set_option maxRecDepth 100000 in
/-- x + b times it -/
theorem m_R_timesLine (l : Launch) (D : va_G) (cJ : ClassId) (h fo wh pt rs sq on tw : Nat) (cn : Int) (S : Nat → ro_K) (b : ro_K) : Met l y_R_timesLine ws_R_timesLine ({ frames := 0, cells := 0, slots := 0, locals := 0 }) (rc_Pc D vC [(cJ, .long)] [.ref h, .long (lk b)] [(h, rR fo cn wh pt rs sq on tw), (sq, ka cJ 8 S)]) (va_Qv (fun (_ : Unit) => True) (fun _ t => va_P D vC [(h, rR fo cn wh pt rs sq on tw), (sq, ka cJ 8 (tlF b S))] t.heap) (rc_A [(h, rR fo cn wh pt rs sq on tw), (sq, ka cJ 8 S)])) 0 0 (rc_A [(h, rR fo cn wh pt rs sq on tw), (sq, ka cJ 8 S)]) := by
  refine Met.ofW (cc := c_R_timesLine) (maxL := 4) (ret := none) (by decide) rfl ?_
  intro p e s m args below meth c s₁ B hml hv
  obtain ⟨rfl, hP, hK, hD0, hN⟩ := hv
  have hx := B.exec
  have hb := B.bytes
  have hr := B.returns
  have hts0 := atoms_spec (ws := ws_R_timesLine) B.pre
  have hts : ∀ w ∈ kb, w.before _ s = true := fun w h => hts0 w (List.mem_cons_of_mem _ h)
  have hown : s.vm.findClass R_R = some m.cls := findClass_of_methodNamed B.named
  have hlocks := B.notSynchronized
  have hD := rc_self hD0
  generalize hAe : rc_A [(h, rR fo cn wh pt rs sq on tw), (sq, ka cJ 8 S)] = A at hD ⊢
  have hS : va_S A s.heap s.heap [] := va_S.rf
  have hl := lv_entry ([.ref h, .long (lk b)]) (n := 4) (Nat.le_of_ble_eq_true rfl)
  rw [lg_entry_eq]
  generalize (lg_sl ([.ref h, .long (lk b)]) ++ List.replicate (4 - (lg_sl ([.ref h, .long (lk b)])).length) Slot.unset).toArray = ls at hl ⊢

  have hl : lv_has ls 4 [(0, .ref h), (1, .long (lk b))] := hl
  refine lv_aload_n hx hb d_R_timesLine_0 rfl (lv_at hl 0 rfl) ?_
  refine va_get (D := D) (ci := 1) (v := .ref sq) (C := R_R) (T := T_R) (N := 8) hx hb hts in_R hown hK hP 0 rfl rfl 5 (by decide) (hts _ kw_35) (fun _ h9 => h9) rfl d_R_timesLine_1 ?_
  refine va_alen (v := iz (8 : Nat)) hx hb hK hP 1 0 rfl rfl (iz_ofNat _) d_R_timesLine_4 ?_
  refine rz_iconst hx hb d_R_timesLine_5 ?_
  refine rz_isub hx hb d_R_timesLine_6 ?_
  refine lv_istore_n (lv' := [(3, .int (iz (((8 : Nat) : Int) - 1))), (0, .ref h), (1, .long (lk b))]) hx hb d_R_timesLine_7 rfl hl (by decide) rfl (fun ls hl => ?_)
  refine lo_R_timesLine (b := b) (G := tlL b 7 S) hx hb hml hown hts hK hN (fun H locs ls hP hD hS hl => ?_) 7 S _ _ _ ls (by omega) (by omega) rfl hP hD hS (lv_sub hl [0, 1, 2] rfl)
  refine lv_aload_n hx hb d_R_timesLine_45 rfl (lv_at hl 0 rfl) ?_
  refine va_get (D := D) (ci := 1) (v := .ref sq) (C := R_R) (T := T_R) (N := 8) hx hb hts in_R hown hK hP 0 rfl rfl 5 (by decide) (hts _ kw_35) (fun _ h9 => h9) rfl d_R_timesLine_46 ?_
  refine rz_iconst hx hb d_R_timesLine_49 ?_
  refine lv_aload_n hx hb d_R_timesLine_50 rfl (lv_at hl 0 rfl) ?_
  refine va_get (D := D) (ci := 1) (v := .ref sq) (C := R_R) (T := T_R) (N := 8) hx hb hts in_R hown hK hP 0 rfl rfl 5 (by decide) (hts _ kw_35) (fun _ h9 => h9) rfl d_R_timesLine_51 ?_
  refine rz_iconst hx hb d_R_timesLine_54 ?_
  refine rk_ld hx hb hK hP 1 0 rfl rfl 0 d_R_timesLine_55 ?_
  refine lv_lload_n hx hb d_R_timesLine_56 rfl (lv_at hl 1 rfl) ?_
  refine rlp_lmul hx hb 1024128004 (lk_p ((tlL b 7 S) 0)) (lk_p b) d_R_timesLine_57 (fun v1 hv1 => ?_)
  refine lv_ldc2 (v := 32003) hx hb hown (hts _ kw_360) d_R_timesLine_58 ?_
  refine rlp_lrem hx hb hv1 d_R_timesLine_61 ?_
  refine rk_st hx hb hK hP hD hS 1 0 rfl rfl 0 d_R_timesLine_62 (fun H locs hP hD hS => ?_)
  have hP : va_P D vC [(h, rR fo cn wh pt rs sq on tw), (sq, ka cJ 8 (va_up (tlL b 7 S) 0 (((tlL b 7 S) 0) * b)))] H := hP
  have hD : va_D A [(h, rR fo cn wh pt rs sq on tw), (sq, ka cJ 8 (va_up (tlL b 7 S) 0 (((tlL b 7 S) 0) * b)))] := hD
  exact W.vret hx hb hr (fun t ht hW => ⟨⟨(), rfl, trivial, rc_out ht hP⟩, hS.F ht⟩) hS.2.2 d_R_timesLine_63
theorem bt_2 : ∀ k : Nat, k < 15 → (iz 32003 >>> (iz (k : Int) &&& 31)) &&& iz 1 = iz ((32003 / 2 ^ k % 2 : Nat) : Int) := by decide
theorem bt_3 : ∀ k : Nat, k < 15 → (iz 16001 >>> (iz (k : Int) &&& 31)) &&& iz 1 = iz ((16001 / 2 ^ k % 2 : Nat) : Int) := by decide
theorem bt_pw {pw : Nat} (hpw : pw = 32003 ∨ pw = 16001) (k : Nat) (hk : k < 15) : (iz (pw : Int) >>> (iz (k : Int) &&& 31)) &&& iz 1 = iz ((pw / 2 ^ k % 2 : Nat) : Int) := by
  rcases hpw with rfl | rfl
  · exact bt_2 k hk
  · exact bt_3 k hk
/-- one bit more: squared, times x + b if the bit is there, less multiples of g -/
def rsS (b : ro_K) (pw n k : Nat) (g r S : Nat → ro_K) : Nat → ro_K := tmr 8 (if pw / 2 ^ k % 2 = 1 then tlF b (sqI r n n (kfl S 0 8)) else sqI r n n (kfl S 0 8)) g
def rsL (b : ro_K) (pw n : Nat) (g : Nat → ro_K) : Nat → (Nat → ro_K) → (Nat → ro_K) → (Nat → ro_K) × (Nat → ro_K)
  | 0, r, S => (r, S)
  | k + 1, r, S => rsL b pw n g k (va_cpy (rsS b pw n k g r S) r 0 0 5) (rsS b pw n k g r S)
/-- x + b to the pw, less multiples of g -/
def rsF (b : ro_K) (pw n : Nat) (g r S : Nat → ro_K) : (Nat → ro_K) × (Nat → ro_K) := rsL b pw n g 15 (va_up (kfl r 0 5) 0 1) S
set_option maxHeartbeats 4000000 in
set_option maxRecDepth 100000 in
theorem lo_R_raise {fo wh pt rs sq on tw h : Nat} {cn : Int} {cJ : ClassId} {mo n pw : Nat} {b : ro_K} {g : Nat → ro_K} {G : (Nat → ro_K) × (Nat → ro_K)} {zn zp : Int} (hzn : zn = (n : Int)) (hn : n < 5) (hzp : zp = (pw : Int)) (hpw : pw = 32003 ∨ pw = 16001) (hx : p.tables.exec = Jvm.exec) (hb : c.code = c_R_raise) (hml : c.maxLocals = 7) (hown : s.vm.findClass R_R = some m.cls) (hts : ∀ w ∈ kb, w.before args s = true) (hK : va_K D vC [(cJ, .long)] s) (hN : rc_N s) (hR : 2 ≤ R.frames ∧ 61 ≤ R.locals) (hend : ∀ (H : Heap) (locs : List Loc) (ls : Array Slot), va_P D vC [(h, rR fo cn wh pt rs sq on tw), (mo, ka cJ 5 g), (rs, ka cJ 5 G.1), (sq, ka cJ 8 G.2)] H → va_D A [(h, rR fo cn wh pt rs sq on tw), (mo, ka cJ 5 g), (rs, ka cJ 5 G.1), (sq, ka cJ 8 G.2)] → va_S A H0 H locs → W p l e R s m args below meth c H locs 0 0 Q (F0 m 78 ls [])) : ∀ (k : Nat) (r S : Nat → ro_K) (z : Int) (H : Heap) (locs : List Loc) (ls : Array Slot), z = (k : Int) - 1 → k ≤ 15 → rsL b pw n g k r S = G → va_P D vC [(h, rR fo cn wh pt rs sq on tw), (mo, ka cJ 5 g), (rs, ka cJ 5 r), (sq, ka cJ 8 S)] H → va_D A [(h, rR fo cn wh pt rs sq on tw), (mo, ka cJ 5 g), (rs, ka cJ 5 r), (sq, ka cJ 8 S)] → va_S A H0 H locs → lv_has ls 7 [(6, .int (iz z)), (5, .int (iz zn)), (0, .ref h), (1, .long (lk b)), (3, .int (iz zp)), (4, .ref mo)] → W p l e R s m args below meth c H locs 0 0 Q (F0 m 26 ls []) := by
  intro k
  induction k with
  | zero =>
    intro r S z H locs ls hz hk hG hP hD hS hl
    have e1 : r = G.1 := congrArg Prod.fst hG
    have e2 : S = G.2 := congrArg Prod.snd hG
    rw [e1, e2] at hP hD
    refine lv_iload hx hb d_R_raise_26 (lv_at hl 0 rfl) ?_
    refine rz_if_lt (tgt := 78) hx hb d_R_raise_28 (by decide) (fun hc => ?_) (fun hc => absurd hc (by omega))
    exact hend H locs ls hP hD hS
  | succ k ih =>
    intro r S z H locs ls hz hk hG hP hD hS hl
    have ez : z = (k : Int) := by omega
    subst ez
    subst hzp
    have hbit := bt_pw hpw k (by omega)
    refine lv_iload hx hb d_R_raise_26 (lv_at hl 0 rfl) ?_
    refine rz_if_lt (tgt := 78) hx hb d_R_raise_28 (by decide) (fun hc => absurd hc (by omega)) (fun hc => ?_)
    refine lv_aload_n hx hb d_R_raise_31 rfl (lv_at hl 2 rfl) ?_
    refine lv_iload hx hb d_R_raise_32 (lv_at hl 1 rfl) ?_
    refine rc_callv (va_runV (As := [.int (iz zn)]) (rest := []) ⟨hx, hb, hml, hown, hts⟩ (m_R_squareRaised l D cJ h fo wh pt rs sq on tw cn r S n zn hzn hn) (cwV 1 hts (kb_gi (kb_c kw_370 (kb_c kw_372 (kb_c ks_R_squareRaised (kb_c kw_2 (kb_c kw_373 kb_all)))))) rfl rfl rfl (by decide +kernel) ⟨Nat.le_trans (by decide) hR.1, Nat.le_trans (by decide) hR.2⟩) ⟨rc_blind, va_recv hK hP (ci := 1) (q0 := 0) rfl rfl, rc_pre hP hD hK hN [0, 2, 3] rfl rfl [0] rfl⟩ rfl rfl hl.1 rfl (lv_room (Nat.le_of_ble_eq_true rfl)) d_R_raise_34 ⟨Nat.zero_le _, Nat.zero_le _⟩) hP hD hS [0, 2, 3] rfl (fun _ => rfl) (fun u1 H locs hw1 hP hD hS => ?_)
    have hP : va_P D vC [(h, rR fo cn wh pt rs sq on tw), (mo, ka cJ 5 g), (rs, ka cJ 5 r), (sq, ka cJ 8 (sqI r n n (kfl S 0 8)))] H := hP
    have hD : va_D A [(h, rR fo cn wh pt rs sq on tw), (mo, ka cJ 5 g), (rs, ka cJ 5 r), (sq, ka cJ 8 (sqI r n n (kfl S 0 8)))] := hD
    refine lv_iload_n hx hb d_R_raise_37 rfl (lv_at hl 4 rfl) ?_
    refine lv_iload hx hb d_R_raise_38 (lv_at hl 0 rfl) ?_
    refine lv_ishr hx hb d_R_raise_40 ?_
    refine rz_iconst hx hb d_R_raise_41 ?_
    refine lv_iand hx hb d_R_raise_42 ?_
    rw [hbit]
    refine rz_iconst hx hb d_R_raise_43 ?_
    refine rz_icmp_ne (tgt := 52) hx hb d_R_raise_44 (by decide) (fun hc2 => ?_) (fun hc2 => ?_)
    · have e : sqI r n n (kfl S 0 8) = if pw / 2 ^ k % 2 = 1 then tlF b (sqI r n n (kfl S 0 8)) else sqI r n n (kfl S 0 8) := by rw [if_neg (by omega)]
      rw [e] at hP hD
      obtain ⟨Y, hY⟩ : ∃ Y, Y = (if pw / 2 ^ k % 2 = 1 then tlF b (sqI r n n (kfl S 0 8)) else sqI r n n (kfl S 0 8)) := ⟨_, rfl⟩
      rw [← hY] at hP hD
      refine lv_aload_n hx hb d_R_raise_52 rfl (lv_at hl 2 rfl) ?_
      refine va_get (D := D) (ci := 1) (v := .ref sq) (C := R_R) (T := T_R) (N := 8) hx hb hts in_R hown hK hP 0 rfl rfl 5 (by decide) (hts _ kw_35) (fun _ h9 => h9) rfl d_R_raise_53 ?_
      refine lv_aload hx hb d_R_raise_56 (lv_at hl 5 rfl) ?_
      refine rc_callv (va_runS (As := [.ref sq, .ref mo]) (rest := []) ⟨hx, hb, hml, hown, hts⟩ (m_R_takeMultiples l D cJ sq mo 8 Y g (by omega)) (cwS 2 hts (kb_gi (kb_c kw_378 (kb_c kw_379 (kb_c kw_2 (kb_c kw_380 kb_all))))) rfl rfl rfl (by decide +kernel) ⟨Nat.le_trans (by decide) hR.1, Nat.le_trans (by decide) hR.2⟩) ⟨rc_blind, rc_pre hP hD hK hN [3, 1] rfl rfl [0] rfl⟩ rfl rfl hl.1 rfl (lv_room (Nat.le_of_ble_eq_true rfl)) d_R_raise_58 ⟨Nat.zero_le _, Nat.zero_le _⟩) hP hD hS [3, 1] rfl (fun _ => rfl) (fun u3 H locs hw3 hP hD hS => ?_)
      have hP : va_P D vC [(h, rR fo cn wh pt rs sq on tw), (mo, ka cJ 5 g), (rs, ka cJ 5 r), (sq, ka cJ 8 (tmr 8 Y g))] H := hP
      have hD : va_D A [(h, rR fo cn wh pt rs sq on tw), (mo, ka cJ 5 g), (rs, ka cJ 5 r), (sq, ka cJ 8 (tmr 8 Y g))] := hD
      refine lv_aload_n hx hb d_R_raise_61 rfl (lv_at hl 2 rfl) ?_
      refine va_get (D := D) (ci := 1) (v := .ref sq) (C := R_R) (T := T_R) (N := 8) hx hb hts in_R hown hK hP 0 rfl rfl 5 (by decide) (hts _ kw_35) (fun _ h9 => h9) rfl d_R_raise_62 ?_
      refine lv_aload_n hx hb d_R_raise_65 rfl (lv_at hl 2 rfl) ?_
      refine va_get (D := D) (ci := 1) (v := .ref rs) (C := R_R) (T := T_R) (N := 8) hx hb hts in_R hown hK hP 0 rfl rfl 4 (by decide) (hts _ kw_34) (fun _ h9 => h9) rfl d_R_raise_66 ?_
      refine rc_callv (va_runS (As := [.ref sq, .ref rs]) (rest := []) ⟨hx, hb, hml, hown, hts⟩ (m_R_copy l D cJ sq rs 8 (tmr 8 Y g) r (by omega)) (cwS 2 hts (kb_gi (kb_c kw_352 (kb_c kw_353 (kb_c kw_2 (kb_c kw_354 kb_all))))) rfl rfl rfl (by decide +kernel) ⟨Nat.le_trans (by decide) hR.1, Nat.le_trans (by decide) hR.2⟩) ⟨rc_blind, rc_pre hP hD hK hN [3, 2] rfl rfl [0] rfl⟩ rfl rfl hl.1 rfl (lv_room (Nat.le_of_ble_eq_true rfl)) d_R_raise_69 ⟨Nat.zero_le _, Nat.zero_le _⟩) hP hD hS [3, 2] rfl (fun _ => rfl) (fun u4 H locs hw4 hP hD hS => ?_)
      have hP : va_P D vC [(h, rR fo cn wh pt rs sq on tw), (mo, ka cJ 5 g), (rs, ka cJ 5 (va_cpy (tmr 8 Y g) r 0 0 5)), (sq, ka cJ 8 (tmr 8 Y g))] H := hP
      have hD : va_D A [(h, rR fo cn wh pt rs sq on tw), (mo, ka cJ 5 g), (rs, ka cJ 5 (va_cpy (tmr 8 Y g) r 0 0 5)), (sq, ka cJ 8 (tmr 8 Y g))] := hD
      refine lv_iinc (v := iz ((k : Int) + (-1))) (lv' := [(6, .int (iz ((k : Int) + (-1)))), (5, .int (iz zn)), (0, .ref h), (1, .long (lk b)), (3, .int (iz (pw : Int))), (4, .ref mo)]) hx hb d_R_raise_72 hl (k := 0) rfl (iz_add _ _) (by decide) rfl (fun ls hl => ?_)
      refine lv_goto (tgt := 26) hx hb d_R_raise_75 (by decide) ?_
      rw [hY] at hP hD
      exact ih _ _ _ H locs ls (by omega) (by omega) hG hP hD hS (lv_sub hl [0, 1, 2, 3, 4, 5] rfl)
    · refine lv_aload_n hx hb d_R_raise_47 rfl (lv_at hl 2 rfl) ?_
      refine lv_lload_n hx hb d_R_raise_48 rfl (lv_at hl 3 rfl) ?_
      refine rc_callv (va_runV (As := [.long (lk b)]) (rest := []) ⟨hx, hb, hml, hown, hts⟩ (m_R_timesLine l D cJ h fo wh pt rs sq on tw cn (sqI r n n (kfl S 0 8)) b) (cwV 1 hts (kb_gi (kb_c kw_374 (kb_c kw_376 (kb_c ks_R_timesLine (kb_c kw_2 (kb_c kw_377 kb_all)))))) rfl rfl rfl (by decide +kernel) ⟨Nat.le_trans (by decide) hR.1, Nat.le_trans (by decide) hR.2⟩) ⟨rc_blind, va_recv hK hP (ci := 1) (q0 := 0) rfl rfl, rc_pre hP hD hK hN [0, 3] rfl rfl [0] rfl⟩ rfl rfl hl.1 rfl (lv_room (Nat.le_of_ble_eq_true rfl)) d_R_raise_49 ⟨Nat.zero_le _, Nat.zero_le _⟩) hP hD hS [0, 3] rfl (fun _ => rfl) (fun u5 H locs hw5 hP hD hS => ?_)
      have hP : va_P D vC [(h, rR fo cn wh pt rs sq on tw), (mo, ka cJ 5 g), (rs, ka cJ 5 r), (sq, ka cJ 8 (tlF b (sqI r n n (kfl S 0 8))))] H := hP
      have hD : va_D A [(h, rR fo cn wh pt rs sq on tw), (mo, ka cJ 5 g), (rs, ka cJ 5 r), (sq, ka cJ 8 (tlF b (sqI r n n (kfl S 0 8))))] := hD
      have e : tlF b (sqI r n n (kfl S 0 8)) = if pw / 2 ^ k % 2 = 1 then tlF b (sqI r n n (kfl S 0 8)) else sqI r n n (kfl S 0 8) := by rw [if_pos (by omega)]
      rw [e] at hP hD
      obtain ⟨Y, hY⟩ : ∃ Y, Y = (if pw / 2 ^ k % 2 = 1 then tlF b (sqI r n n (kfl S 0 8)) else sqI r n n (kfl S 0 8)) := ⟨_, rfl⟩
      rw [← hY] at hP hD
      refine lv_aload_n hx hb d_R_raise_52 rfl (lv_at hl 2 rfl) ?_
      refine va_get (D := D) (ci := 1) (v := .ref sq) (C := R_R) (T := T_R) (N := 8) hx hb hts in_R hown hK hP 0 rfl rfl 5 (by decide) (hts _ kw_35) (fun _ h9 => h9) rfl d_R_raise_53 ?_
      refine lv_aload hx hb d_R_raise_56 (lv_at hl 5 rfl) ?_
      refine rc_callv (va_runS (As := [.ref sq, .ref mo]) (rest := []) ⟨hx, hb, hml, hown, hts⟩ (m_R_takeMultiples l D cJ sq mo 8 Y g (by omega)) (cwS 2 hts (kb_gi (kb_c kw_378 (kb_c kw_379 (kb_c kw_2 (kb_c kw_380 kb_all))))) rfl rfl rfl (by decide +kernel) ⟨Nat.le_trans (by decide) hR.1, Nat.le_trans (by decide) hR.2⟩) ⟨rc_blind, rc_pre hP hD hK hN [3, 1] rfl rfl [0] rfl⟩ rfl rfl hl.1 rfl (lv_room (Nat.le_of_ble_eq_true rfl)) d_R_raise_58 ⟨Nat.zero_le _, Nat.zero_le _⟩) hP hD hS [3, 1] rfl (fun _ => rfl) (fun u6 H locs hw6 hP hD hS => ?_)
      have hP : va_P D vC [(h, rR fo cn wh pt rs sq on tw), (mo, ka cJ 5 g), (rs, ka cJ 5 r), (sq, ka cJ 8 (tmr 8 Y g))] H := hP
      have hD : va_D A [(h, rR fo cn wh pt rs sq on tw), (mo, ka cJ 5 g), (rs, ka cJ 5 r), (sq, ka cJ 8 (tmr 8 Y g))] := hD
      refine lv_aload_n hx hb d_R_raise_61 rfl (lv_at hl 2 rfl) ?_
      refine va_get (D := D) (ci := 1) (v := .ref sq) (C := R_R) (T := T_R) (N := 8) hx hb hts in_R hown hK hP 0 rfl rfl 5 (by decide) (hts _ kw_35) (fun _ h9 => h9) rfl d_R_raise_62 ?_
      refine lv_aload_n hx hb d_R_raise_65 rfl (lv_at hl 2 rfl) ?_
      refine va_get (D := D) (ci := 1) (v := .ref rs) (C := R_R) (T := T_R) (N := 8) hx hb hts in_R hown hK hP 0 rfl rfl 4 (by decide) (hts _ kw_34) (fun _ h9 => h9) rfl d_R_raise_66 ?_
      refine rc_callv (va_runS (As := [.ref sq, .ref rs]) (rest := []) ⟨hx, hb, hml, hown, hts⟩ (m_R_copy l D cJ sq rs 8 (tmr 8 Y g) r (by omega)) (cwS 2 hts (kb_gi (kb_c kw_352 (kb_c kw_353 (kb_c kw_2 (kb_c kw_354 kb_all))))) rfl rfl rfl (by decide +kernel) ⟨Nat.le_trans (by decide) hR.1, Nat.le_trans (by decide) hR.2⟩) ⟨rc_blind, rc_pre hP hD hK hN [3, 2] rfl rfl [0] rfl⟩ rfl rfl hl.1 rfl (lv_room (Nat.le_of_ble_eq_true rfl)) d_R_raise_69 ⟨Nat.zero_le _, Nat.zero_le _⟩) hP hD hS [3, 2] rfl (fun _ => rfl) (fun u7 H locs hw7 hP hD hS => ?_)
      have hP : va_P D vC [(h, rR fo cn wh pt rs sq on tw), (mo, ka cJ 5 g), (rs, ka cJ 5 (va_cpy (tmr 8 Y g) r 0 0 5)), (sq, ka cJ 8 (tmr 8 Y g))] H := hP
      have hD : va_D A [(h, rR fo cn wh pt rs sq on tw), (mo, ka cJ 5 g), (rs, ka cJ 5 (va_cpy (tmr 8 Y g) r 0 0 5)), (sq, ka cJ 8 (tmr 8 Y g))] := hD
      refine lv_iinc (v := iz ((k : Int) + (-1))) (lv' := [(6, .int (iz ((k : Int) + (-1)))), (5, .int (iz zn)), (0, .ref h), (1, .long (lk b)), (3, .int (iz (pw : Int))), (4, .ref mo)]) hx hb d_R_raise_72 hl (k := 0) rfl (iz_add _ _) (by decide) rfl (fun ls hl => ?_)
      refine lv_goto (tgt := 26) hx hb d_R_raise_75 (by decide) ?_
      rw [hY] at hP hD
      exact ih _ _ _ H locs ls (by omega) (by omega) hG hP hD hS (lv_sub hl [0, 1, 2, 3, 4, 5] rfl)
def ws_R_raise : List Cond := .code y_R_raise c_R_raise 7 none :: kb
set_option maxHeartbeats 4000000 in
set_option maxRecDepth 100000 in
/-- x + b to a power, less multiples of g -/
theorem m_R_raise (l : Launch) (D : va_G) (cJ : ClassId) (h fo wh pt rs sq on tw : Nat) (cn : Int) (mo n pw : Nat) (b : ro_K) (g r S : Nat → ro_K) (hg : kd g 5 = (n : Int)) (hpw : pw = 32003 ∨ pw = 16001) : Met l y_R_raise ws_R_raise ({ frames := 2, cells := 0, slots := 0, locals := 61 }) (rc_Pc D vC [(cJ, .long)] [.ref h, .long (lk b), .int (iz (pw : Int)), .ref mo] [(h, rR fo cn wh pt rs sq on tw), (mo, ka cJ 5 g), (rs, ka cJ 5 r), (sq, ka cJ 8 S)]) (va_Qv (fun (_ : Unit) => True) (fun _ t => va_P D vC [(h, rR fo cn wh pt rs sq on tw), (mo, ka cJ 5 g), (rs, ka cJ 5 (rsF b pw n g r S).1), (sq, ka cJ 8 (rsF b pw n g r S).2)] t.heap) (rc_A [(h, rR fo cn wh pt rs sq on tw), (mo, ka cJ 5 g), (rs, ka cJ 5 r), (sq, ka cJ 8 S)])) 0 0 (rc_A [(h, rR fo cn wh pt rs sq on tw), (mo, ka cJ 5 g), (rs, ka cJ 5 r), (sq, ka cJ 8 S)]) := by
  refine Met.ofW (cc := c_R_raise) (maxL := 7) (ret := none) (by decide) rfl ?_
  intro p e s m args below meth c s₁ B hml hv
  obtain ⟨rfl, hP, hK, hD0, hN⟩ := hv
  have hx := B.exec
  have hb := B.bytes
  have hr := B.returns
  have hts0 := atoms_spec (ws := ws_R_raise) B.pre
  have hts : ∀ w ∈ kb, w.before _ s = true := fun w h => hts0 w (List.mem_cons_of_mem _ h)
  have hown : s.vm.findClass R_R = some m.cls := findClass_of_methodNamed B.named
  have hlocks := B.notSynchronized
  have hD := rc_self hD0
  generalize hAe : rc_A [(h, rR fo cn wh pt rs sq on tw), (mo, ka cJ 5 g), (rs, ka cJ 5 r), (sq, ka cJ 8 S)] = A at hD ⊢
  have hS : va_S A s.heap s.heap [] := va_S.rf
  have hl := lv_entry ([.ref h, .long (lk b), .int (iz (pw : Int)), .ref mo]) (n := 7) (Nat.le_of_ble_eq_true rfl)
  rw [lg_entry_eq]
  generalize (lg_sl ([.ref h, .long (lk b), .int (iz (pw : Int)), .ref mo]) ++ List.replicate (7 - (lg_sl ([.ref h, .long (lk b), .int (iz (pw : Int)), .ref mo])).length) Slot.unset).toArray = ls at hl ⊢

  have hl : lv_has ls 7 [(0, .ref h), (1, .long (lk b)), (3, .int (iz (pw : Int))), (4, .ref mo)] := hl
  have hk := kd_lo g 5
  refine lv_aload hx hb d_R_raise_0 (lv_at hl 3 rfl) ?_
  refine rc_calli (va_runSN (As := [.ref mo]) (rest := []) ⟨hx, hb, hml, hown, hts⟩ (m_O_degree l D cJ mo 5 g (by omega)) ⟨va_cnB 1 hts (kb_gi (kb_c kw_330 kb_all)) rfl rfl rfl hN.1 (hts _ kw_1) (by decide +kernel) ⟨Nat.le_of_ble_eq_true rfl, Nat.le_of_ble_eq_true rfl⟩, hts _ kw_329, trivial⟩ ⟨rc_blind, rc_pre hP hD hK hN [1] rfl rfl [0] rfl⟩ rfl rfl hl.1 rfl (lv_room (Nat.le_of_ble_eq_true rfl)) d_R_raise_2 ⟨Nat.zero_le _, Nat.zero_le _⟩) hP hD hS [1] rfl (fun _ => rfl) (fun r1 u2 H locs hw2 hP hD hS => ?_)
  subst hw2
  have hP : va_P D vC [(h, rR fo cn wh pt rs sq on tw), (mo, ka cJ 5 g), (rs, ka cJ 5 r), (sq, ka cJ 8 S)] H := hP
  have hD : va_D A [(h, rR fo cn wh pt rs sq on tw), (mo, ka cJ 5 g), (rs, ka cJ 5 r), (sq, ka cJ 8 S)] := hD
  refine lv_istore (lv' := [(5, .int (iz (kd g 5))), (0, .ref h), (1, .long (lk b)), (3, .int (iz (pw : Int))), (4, .ref mo)]) hx hb d_R_raise_5 hl (by decide) rfl (fun ls hl => ?_)
  refine lv_aload_n hx hb d_R_raise_7 rfl (lv_at hl 1 rfl) ?_
  refine va_get (D := D) (ci := 1) (v := .ref rs) (C := R_R) (T := T_R) (N := 8) hx hb hts in_R hown hK hP 0 rfl rfl 4 (by decide) (hts _ kw_34) (fun _ h9 => h9) rfl d_R_raise_8 ?_
  refine lv_lconst (v := lk 0) hx hb d_R_raise_11 rfl ?_
  refine rc_callv (va_runS (As := [.ref rs, .long (lk 0)]) (rest := []) ⟨hx, hb, hml, hown, hts⟩ (m_J_fill l D cJ rs 5 r 0 (by omega)) (va_cwS 2 hts (kb_gi (kb_c kw_369 (kb_c kw_173 (kb_c kw_12 (kb_c kw_174 kb_all))))) rfl rfl rfl (by decide +kernel) ⟨Nat.le_of_ble_eq_true rfl, Nat.le_of_ble_eq_true rfl⟩) ⟨rc_blind, rc_pre hP hD hK hN [2] rfl rfl [0] rfl⟩ rfl rfl hl.1 rfl (lv_room (Nat.le_of_ble_eq_true rfl)) d_R_raise_12 ⟨Nat.zero_le _, Nat.zero_le _⟩) hP hD hS [2] rfl (fun _ => rfl) (fun u3 H locs hw3 hP hD hS => ?_)
  have hP : va_P D vC [(h, rR fo cn wh pt rs sq on tw), (mo, ka cJ 5 g), (rs, ka cJ 5 (kfl r 0 5)), (sq, ka cJ 8 S)] H := hP
  have hD : va_D A [(h, rR fo cn wh pt rs sq on tw), (mo, ka cJ 5 g), (rs, ka cJ 5 (kfl r 0 5)), (sq, ka cJ 8 S)] := hD
  refine lv_aload_n hx hb d_R_raise_15 rfl (lv_at hl 1 rfl) ?_
  refine va_get (D := D) (ci := 1) (v := .ref rs) (C := R_R) (T := T_R) (N := 8) hx hb hts in_R hown hK hP 0 rfl rfl 4 (by decide) (hts _ kw_34) (fun _ h9 => h9) rfl d_R_raise_16 ?_
  refine rz_iconst hx hb d_R_raise_19 ?_
  refine lv_lconst (v := lk 1) hx hb d_R_raise_20 rfl ?_
  refine rk_st hx hb hK hP hD hS 2 0 rfl rfl 0 d_R_raise_21 (fun H locs hP hD hS => ?_)
  have hP : va_P D vC [(h, rR fo cn wh pt rs sq on tw), (mo, ka cJ 5 g), (rs, ka cJ 5 (va_up (kfl r 0 5) 0 1)), (sq, ka cJ 8 S)] H := hP
  have hD : va_D A [(h, rR fo cn wh pt rs sq on tw), (mo, ka cJ 5 g), (rs, ka cJ 5 (va_up (kfl r 0 5) 0 1)), (sq, ka cJ 8 S)] := hD
  refine rz_bipush hx hb d_R_raise_22 (by decide) ?_
  refine lv_istore (lv' := [(6, .int (iz 14)), (5, .int (iz (kd g 5))), (0, .ref h), (1, .long (lk b)), (3, .int (iz (pw : Int))), (4, .ref mo)]) hx hb d_R_raise_24 hl (by decide) rfl (fun ls hl => ?_)
  refine lo_R_raise (n := n) (pw := pw) (b := b) (g := g) (G := rsF b pw n g r S) hg (by omega) rfl hpw hx hb hml hown hts hK hN ⟨Nat.le_of_ble_eq_true rfl, Nat.le_of_ble_eq_true rfl⟩ (fun H locs ls hP hD hS => ?_) 15 _ _ _ H locs ls (by omega) (by omega) rfl hP hD hS (lv_sub hl [0, 1, 2, 3, 4, 5] rfl)
  exact W.vret hx hb hr (fun t ht hW => ⟨⟨(), rfl, trivial, rc_out ht hP⟩, hS.F ht⟩) hS.2.2 d_R_raise_78
end WK
end
section
section WK
variable {p : Program} {l : Launch} {e : Env} {R : Room} {s : State} {m : MethodId} {args : Array Value} {below : List Frame} {meth : Method} {c : Code} {H : Heap} {locs : List Loc} {cells slots : Nat} {Q : State → Prop} {D : va_G} {A : Nat → Prop} {H0 : Heap}
/-- Euclid's steps: which of the two rows holds the greater (true: the second), the greater, the lesser -/
def euB : Nat → Bool → (Nat → ro_K) → (Nat → ro_K) → Bool × (Nat → ro_K) × (Nat → ro_K)
  | 0, sw, G, L => (sw, G, L)
  | n + 1, sw, G, L => if kd L 5 < 0 then (sw, G, L) else euB n (!sw) (km L) (tmr 5 G (km L))
set_option maxHeartbeats 4000000 in
set_option maxRecDepth 100000 in
theorem lo_R_common {fo wh pt rs sq on tw h : Nat} {cn : Int} {cJ : ClassId} {mo : Nat} {g r : Nat → ro_K} {U : Bool × (Nat → ro_K) × (Nat → ro_K)}  (hx : p.tables.exec = Jvm.exec) (hb : c.code = c_R_commonWithRaised) (hml : c.maxLocals = 6) (hown : s.vm.findClass R_R = some m.cls) (hts : ∀ w ∈ kb, w.before args s = true) (hK : va_K D vC [(cJ, .long)] s) (hN : rc_N s) (hR : 2 ≤ R.frames ∧ 61 ≤ R.locals) (hend : ∀ (H : Heap) (locs : List Loc) (ls : Array Slot), va_P D vC [(h, rR fo cn wh pt rs sq on tw), (mo, ka cJ 5 g), (rs, ka cJ 5 r), (on, ka cJ 5 (cond U.1 U.2.2 U.2.1)), (tw, ka cJ 5 (cond U.1 U.2.1 U.2.2))] H → va_D A [(h, rR fo cn wh pt rs sq on tw), (mo, ka cJ 5 g), (rs, ka cJ 5 r), (on, ka cJ 5 (cond U.1 U.2.2 U.2.1)), (tw, ka cJ 5 (cond U.1 U.2.1 U.2.2))] → va_S A H0 H locs → lv_has ls 6 [(2, .ref (cond U.1 tw on))] → W p l e R s m args below meth c H locs 0 0 Q (F0 m 68 ls [])) : ∀ (n : Nat) (sw : Bool) (G L : Nat → ro_K) (z : Int) (H : Heap) (locs : List Loc) (ls : Array Slot), z = 5 - (n : Int) → n ≤ 5 → euB n sw G L = U → va_P D vC [(h, rR fo cn wh pt rs sq on tw), (mo, ka cJ 5 g), (rs, ka cJ 5 r), (on, ka cJ 5 (cond sw L G)), (tw, ka cJ 5 (cond sw G L))] H → va_D A [(h, rR fo cn wh pt rs sq on tw), (mo, ka cJ 5 g), (rs, ka cJ 5 r), (on, ka cJ 5 (cond sw L G)), (tw, ka cJ 5 (cond sw G L))] → va_S A H0 H locs → lv_has ls 6 [(4, .int (iz z)), (3, .ref (cond sw on tw)), (2, .ref (cond sw tw on)), (0, .ref h), (1, .ref mo)] → W p l e R s m args below meth c H locs 0 0 Q (F0 m 32 ls []) := by
  intro n
  induction n with
  | zero =>
    intro sw G L z H locs ls hz hn hU hP hD hS hl
    subst hU
    refine lv_iload hx hb d_R_commonWithRaised_32 (lv_at hl 0 rfl) ?_
    refine rz_iconst hx hb d_R_commonWithRaised_34 ?_
    refine rz_icmp_ge (tgt := 68) hx hb d_R_commonWithRaised_35 (by decide) (fun hc => ?_) (fun hc => absurd hc (by omega))
    exact hend H locs ls hP hD hS (lv_sub hl [2] rfl)
  | succ n ih =>
    intro sw G L z H locs ls hz hn hU hP hD hS hl
    have hU2 : (if kd L 5 < 0 then (sw, G, L) else euB n (!sw) (km L) (tmr 5 G (km L))) = U := hU
    refine lv_iload hx hb d_R_commonWithRaised_32 (lv_at hl 0 rfl) ?_
    refine rz_iconst hx hb d_R_commonWithRaised_34 ?_
    refine rz_icmp_ge (tgt := 68) hx hb d_R_commonWithRaised_35 (by decide) (fun hc => absurd hc (by omega)) (fun hc => ?_)
    cases sw with
    | false =>
      have hP : va_P D vC [(h, rR fo cn wh pt rs sq on tw), (mo, ka cJ 5 g), (rs, ka cJ 5 r), (on, ka cJ 5 G), (tw, ka cJ 5 L)] H := hP
      have hD : va_D A [(h, rR fo cn wh pt rs sq on tw), (mo, ka cJ 5 g), (rs, ka cJ 5 r), (on, ka cJ 5 G), (tw, ka cJ 5 L)] := hD
      have hl : lv_has ls 6 [(4, .int (iz z)), (3, .ref tw), (2, .ref on), (0, .ref h), (1, .ref mo)] := hl
      refine lv_aload_n hx hb d_R_commonWithRaised_38 rfl (lv_at hl 1 rfl) ?_
      refine rc_calli (va_runSN (As := [.ref tw]) (rest := []) ⟨hx, hb, hml, hown, hts⟩ (m_O_isZero l D cJ tw 5 L (by omega)) ⟨va_cnB 1 hts (kb_gi (kb_c kw_327 kb_all)) rfl rfl rfl hN.2.2.2.1 (hts _ kw_1) (by decide +kernel) ⟨Nat.le_trans (by decide) hR.1, Nat.le_trans (by decide) hR.2⟩, hts _ kw_326, trivial⟩ ⟨rc_blind, rc_pre hP hD hK hN [4] rfl rfl [0] rfl⟩ rfl rfl hl.1 rfl (lv_room (Nat.le_of_ble_eq_true rfl)) d_R_commonWithRaised_39 ⟨Nat.zero_le _, Nat.zero_le _⟩) hP hD hS [4] rfl (fun _ => rfl) (fun r1 u2 H locs hw2 hP hD hS => ?_)
      subst hw2
      have hP : va_P D vC [(h, rR fo cn wh pt rs sq on tw), (mo, ka cJ 5 g), (rs, ka cJ 5 r), (on, ka cJ 5 G), (tw, ka cJ 5 L)] H := hP
      have hD : va_D A [(h, rR fo cn wh pt rs sq on tw), (mo, ka cJ 5 g), (rs, ka cJ 5 r), (on, ka cJ 5 G), (tw, ka cJ 5 L)] := hD
      by_cases hz0 : kd L 5 < 0
      · rw [if_pos hz0] at hU2 ⊢
        subst hU2
        refine rz_if_ne (tgt := 68) hx hb d_R_commonWithRaised_42 (by decide) (fun _ => ?_) (fun hc => absurd hc (by decide))
        exact hend H locs ls hP hD hS (lv_sub hl [2] rfl)
      · rw [if_neg hz0] at hU2 ⊢
        refine rz_if_ne (tgt := 68) hx hb d_R_commonWithRaised_42 (by decide) (fun hc => absurd rfl hc) (fun _ => ?_)
        refine lv_aload_n hx hb d_R_commonWithRaised_45 rfl (lv_at hl 1 rfl) ?_
        refine rc_callv (va_runS (As := [.ref tw]) (rest := []) ⟨hx, hb, hml, hown, hts⟩ (m_R_makeMonic l D cJ tw L) (cwS 1 hts (kb_gi (kb_c kw_356 (kb_c kw_357 (kb_c kw_2 (kb_c kw_358 kb_all))))) rfl rfl rfl (by decide +kernel) ⟨Nat.le_trans (by decide) hR.1, Nat.le_trans (by decide) hR.2⟩) ⟨rc_blind, rc_pre hP hD hK hN [4] rfl rfl [0] rfl⟩ rfl rfl hl.1 rfl (lv_room (Nat.le_of_ble_eq_true rfl)) d_R_commonWithRaised_46 ⟨Nat.zero_le _, Nat.zero_le _⟩) hP hD hS [4] rfl (fun _ => rfl) (fun u3 H locs hw3 hP hD hS => ?_)
        have hP : va_P D vC [(h, rR fo cn wh pt rs sq on tw), (mo, ka cJ 5 g), (rs, ka cJ 5 r), (on, ka cJ 5 G), (tw, ka cJ 5 (km L))] H := hP
        have hD : va_D A [(h, rR fo cn wh pt rs sq on tw), (mo, ka cJ 5 g), (rs, ka cJ 5 r), (on, ka cJ 5 G), (tw, ka cJ 5 (km L))] := hD
        refine lv_aload_n hx hb d_R_commonWithRaised_49 rfl (lv_at hl 2 rfl) ?_
        refine lv_aload_n hx hb d_R_commonWithRaised_50 rfl (lv_at hl 1 rfl) ?_
        refine rc_callv (va_runS (As := [.ref on, .ref tw]) (rest := []) ⟨hx, hb, hml, hown, hts⟩ (m_R_takeMultiples l D cJ on tw 5 G (km L) (by omega)) (cwS 2 hts (kb_gi (kb_c kw_378 (kb_c kw_379 (kb_c kw_2 (kb_c kw_380 kb_all))))) rfl rfl rfl (by decide +kernel) ⟨Nat.le_trans (by decide) hR.1, Nat.le_trans (by decide) hR.2⟩) ⟨rc_blind, rc_pre hP hD hK hN [3, 4] rfl rfl [0] rfl⟩ rfl rfl hl.1 rfl (lv_room (Nat.le_of_ble_eq_true rfl)) d_R_commonWithRaised_51 ⟨Nat.zero_le _, Nat.zero_le _⟩) hP hD hS [3, 4] rfl (fun _ => rfl) (fun u4 H locs hw4 hP hD hS => ?_)
        have hP : va_P D vC [(h, rR fo cn wh pt rs sq on tw), (mo, ka cJ 5 g), (rs, ka cJ 5 r), (on, ka cJ 5 (tmr 5 G (km L))), (tw, ka cJ 5 (km L))] H := hP
        have hD : va_D A [(h, rR fo cn wh pt rs sq on tw), (mo, ka cJ 5 g), (rs, ka cJ 5 r), (on, ka cJ 5 (tmr 5 G (km L))), (tw, ka cJ 5 (km L))] := hD
        refine lv_aload_n hx hb d_R_commonWithRaised_54 rfl (lv_at hl 2 rfl) ?_
        refine lv_astore (lv' := [(5, .ref on), (4, .int (iz z)), (3, .ref tw), (2, .ref on), (0, .ref h), (1, .ref mo)]) hx hb d_R_commonWithRaised_55 hl (by decide) rfl (fun ls hl => ?_)
        refine lv_aload_n hx hb d_R_commonWithRaised_57 rfl (lv_at hl 2 rfl) ?_
        refine lv_astore_n (lv' := [(2, .ref tw), (5, .ref on), (4, .int (iz z)), (3, .ref tw), (0, .ref h), (1, .ref mo)]) hx hb d_R_commonWithRaised_58 rfl hl (by decide) rfl (fun ls hl => ?_)
        refine lv_aload hx hb d_R_commonWithRaised_59 (lv_at hl 1 rfl) ?_
        refine lv_astore_n (lv' := [(3, .ref on), (2, .ref tw), (5, .ref on), (4, .int (iz z)), (0, .ref h), (1, .ref mo)]) hx hb d_R_commonWithRaised_61 rfl hl (by decide) rfl (fun ls hl => ?_)
        refine lv_iinc (v := iz (z + 1)) (lv' := [(4, .int (iz (z + 1))), (3, .ref on), (2, .ref tw), (5, .ref on), (0, .ref h), (1, .ref mo)]) hx hb d_R_commonWithRaised_62 hl (k := 3) rfl (iz_add _ _) (by decide) rfl (fun ls hl => ?_)
        refine lv_goto (tgt := 32) hx hb d_R_commonWithRaised_65 (by decide) ?_
        exact ih _ _ _ _ H locs ls (by omega) (by omega) hU2 hP hD hS (lv_sub hl [0, 1, 2, 4, 5] rfl)
    | true =>
      have hP : va_P D vC [(h, rR fo cn wh pt rs sq on tw), (mo, ka cJ 5 g), (rs, ka cJ 5 r), (on, ka cJ 5 L), (tw, ka cJ 5 G)] H := hP
      have hD : va_D A [(h, rR fo cn wh pt rs sq on tw), (mo, ka cJ 5 g), (rs, ka cJ 5 r), (on, ka cJ 5 L), (tw, ka cJ 5 G)] := hD
      have hl : lv_has ls 6 [(4, .int (iz z)), (3, .ref on), (2, .ref tw), (0, .ref h), (1, .ref mo)] := hl
      refine lv_aload_n hx hb d_R_commonWithRaised_38 rfl (lv_at hl 1 rfl) ?_
      refine rc_calli (va_runSN (As := [.ref on]) (rest := []) ⟨hx, hb, hml, hown, hts⟩ (m_O_isZero l D cJ on 5 L (by omega)) ⟨va_cnB 1 hts (kb_gi (kb_c kw_327 kb_all)) rfl rfl rfl hN.2.2.2.1 (hts _ kw_1) (by decide +kernel) ⟨Nat.le_trans (by decide) hR.1, Nat.le_trans (by decide) hR.2⟩, hts _ kw_326, trivial⟩ ⟨rc_blind, rc_pre hP hD hK hN [3] rfl rfl [0] rfl⟩ rfl rfl hl.1 rfl (lv_room (Nat.le_of_ble_eq_true rfl)) d_R_commonWithRaised_39 ⟨Nat.zero_le _, Nat.zero_le _⟩) hP hD hS [3] rfl (fun _ => rfl) (fun r5 u6 H locs hw6 hP hD hS => ?_)
      subst hw6
      have hP : va_P D vC [(h, rR fo cn wh pt rs sq on tw), (mo, ka cJ 5 g), (rs, ka cJ 5 r), (on, ka cJ 5 L), (tw, ka cJ 5 G)] H := hP
      have hD : va_D A [(h, rR fo cn wh pt rs sq on tw), (mo, ka cJ 5 g), (rs, ka cJ 5 r), (on, ka cJ 5 L), (tw, ka cJ 5 G)] := hD
      by_cases hz0 : kd L 5 < 0
      · rw [if_pos hz0] at hU2 ⊢
        subst hU2
        refine rz_if_ne (tgt := 68) hx hb d_R_commonWithRaised_42 (by decide) (fun _ => ?_) (fun hc => absurd hc (by decide))
        exact hend H locs ls hP hD hS (lv_sub hl [2] rfl)
      · rw [if_neg hz0] at hU2 ⊢
        refine rz_if_ne (tgt := 68) hx hb d_R_commonWithRaised_42 (by decide) (fun hc => absurd rfl hc) (fun _ => ?_)
        refine lv_aload_n hx hb d_R_commonWithRaised_45 rfl (lv_at hl 1 rfl) ?_
        refine rc_callv (va_runS (As := [.ref on]) (rest := []) ⟨hx, hb, hml, hown, hts⟩ (m_R_makeMonic l D cJ on L) (cwS 1 hts (kb_gi (kb_c kw_356 (kb_c kw_357 (kb_c kw_2 (kb_c kw_358 kb_all))))) rfl rfl rfl (by decide +kernel) ⟨Nat.le_trans (by decide) hR.1, Nat.le_trans (by decide) hR.2⟩) ⟨rc_blind, rc_pre hP hD hK hN [3] rfl rfl [0] rfl⟩ rfl rfl hl.1 rfl (lv_room (Nat.le_of_ble_eq_true rfl)) d_R_commonWithRaised_46 ⟨Nat.zero_le _, Nat.zero_le _⟩) hP hD hS [3] rfl (fun _ => rfl) (fun u7 H locs hw7 hP hD hS => ?_)
        have hP : va_P D vC [(h, rR fo cn wh pt rs sq on tw), (mo, ka cJ 5 g), (rs, ka cJ 5 r), (on, ka cJ 5 (km L)), (tw, ka cJ 5 G)] H := hP
        have hD : va_D A [(h, rR fo cn wh pt rs sq on tw), (mo, ka cJ 5 g), (rs, ka cJ 5 r), (on, ka cJ 5 (km L)), (tw, ka cJ 5 G)] := hD
        refine lv_aload_n hx hb d_R_commonWithRaised_49 rfl (lv_at hl 2 rfl) ?_
        refine lv_aload_n hx hb d_R_commonWithRaised_50 rfl (lv_at hl 1 rfl) ?_
        refine rc_callv (va_runS (As := [.ref tw, .ref on]) (rest := []) ⟨hx, hb, hml, hown, hts⟩ (m_R_takeMultiples l D cJ tw on 5 G (km L) (by omega)) (cwS 2 hts (kb_gi (kb_c kw_378 (kb_c kw_379 (kb_c kw_2 (kb_c kw_380 kb_all))))) rfl rfl rfl (by decide +kernel) ⟨Nat.le_trans (by decide) hR.1, Nat.le_trans (by decide) hR.2⟩) ⟨rc_blind, rc_pre hP hD hK hN [4, 3] rfl rfl [0] rfl⟩ rfl rfl hl.1 rfl (lv_room (Nat.le_of_ble_eq_true rfl)) d_R_commonWithRaised_51 ⟨Nat.zero_le _, Nat.zero_le _⟩) hP hD hS [4, 3] rfl (fun _ => rfl) (fun u8 H locs hw8 hP hD hS => ?_)
        have hP : va_P D vC [(h, rR fo cn wh pt rs sq on tw), (mo, ka cJ 5 g), (rs, ka cJ 5 r), (on, ka cJ 5 (km L)), (tw, ka cJ 5 (tmr 5 G (km L)))] H := hP
        have hD : va_D A [(h, rR fo cn wh pt rs sq on tw), (mo, ka cJ 5 g), (rs, ka cJ 5 r), (on, ka cJ 5 (km L)), (tw, ka cJ 5 (tmr 5 G (km L)))] := hD
        refine lv_aload_n hx hb d_R_commonWithRaised_54 rfl (lv_at hl 2 rfl) ?_
        refine lv_astore (lv' := [(5, .ref tw), (4, .int (iz z)), (3, .ref on), (2, .ref tw), (0, .ref h), (1, .ref mo)]) hx hb d_R_commonWithRaised_55 hl (by decide) rfl (fun ls hl => ?_)
        refine lv_aload_n hx hb d_R_commonWithRaised_57 rfl (lv_at hl 2 rfl) ?_
        refine lv_astore_n (lv' := [(2, .ref on), (5, .ref tw), (4, .int (iz z)), (3, .ref on), (0, .ref h), (1, .ref mo)]) hx hb d_R_commonWithRaised_58 rfl hl (by decide) rfl (fun ls hl => ?_)
        refine lv_aload hx hb d_R_commonWithRaised_59 (lv_at hl 1 rfl) ?_
        refine lv_astore_n (lv' := [(3, .ref tw), (2, .ref on), (5, .ref tw), (4, .int (iz z)), (0, .ref h), (1, .ref mo)]) hx hb d_R_commonWithRaised_61 rfl hl (by decide) rfl (fun ls hl => ?_)
        refine lv_iinc (v := iz (z + 1)) (lv' := [(4, .int (iz (z + 1))), (3, .ref tw), (2, .ref on), (5, .ref tw), (0, .ref h), (1, .ref mo)]) hx hb d_R_commonWithRaised_62 hl (k := 3) rfl (iz_add _ _) (by decide) rfl (fun ls hl => ?_)
        refine lv_goto (tgt := 32) hx hb d_R_commonWithRaised_65 (by decide) ?_
        exact ih _ _ _ _ H locs ls (by omega) (by omega) hU2 hP hD hS (lv_sub hl [0, 1, 2, 4, 5] rfl)
def ws_R_commonWithRaised : List Cond := .code y_R_commonWithRaised c_R_commonWithRaised 6 (some (.array .long)) :: kb
set_option maxHeartbeats 4000000 in
set_option maxRecDepth 100000 in
/-- what the two have in common -/
theorem m_R_commonWithRaised (l : Launch) (D : va_G) (cJ : ClassId) (h fo wh pt rs sq on tw : Nat) (cn : Int) (mo : Nat) (g r a b : Nat → ro_K) (U : Bool × (Nat → ro_K) × (Nat → ro_K)) (hU : euB 5 false (va_cpy g a 0 0 5) (va_cpy r b 0 0 5) = U) : Met l y_R_commonWithRaised ws_R_commonWithRaised ({ frames := 2, cells := 0, slots := 0, locals := 61 }) (rc_Pc D vC [(cJ, .long)] [.ref h, .ref mo] [(h, rR fo cn wh pt rs sq on tw), (mo, ka cJ 5 g), (rs, ka cJ 5 r), (on, ka cJ 5 a), (tw, ka cJ 5 b)]) (va_Qr (fun (_ : Unit) => True) (fun _ q t => q = cond U.1 tw on ∧ va_P D vC [(h, rR fo cn wh pt rs sq on tw), (mo, ka cJ 5 g), (rs, ka cJ 5 r), (on, ka cJ 5 (cond U.1 U.2.2 U.2.1)), (tw, ka cJ 5 (cond U.1 U.2.1 U.2.2))] t.heap) (rc_A [(h, rR fo cn wh pt rs sq on tw), (mo, ka cJ 5 g), (rs, ka cJ 5 r), (on, ka cJ 5 a), (tw, ka cJ 5 b)])) 0 0 (rc_A [(h, rR fo cn wh pt rs sq on tw), (mo, ka cJ 5 g), (rs, ka cJ 5 r), (on, ka cJ 5 a), (tw, ka cJ 5 b)]) := by
  refine Met.ofW (cc := c_R_commonWithRaised) (maxL := 6) (ret := (some (.array .long))) (by decide) rfl ?_
  intro p e s m args below meth c s₁ B hml hv
  obtain ⟨rfl, hP, hK, hD0, hN⟩ := hv
  have hx := B.exec
  have hb := B.bytes
  have hr := B.returns
  have hts0 := atoms_spec (ws := ws_R_commonWithRaised) B.pre
  have hts : ∀ w ∈ kb, w.before _ s = true := fun w h => hts0 w (List.mem_cons_of_mem _ h)
  have hown : s.vm.findClass R_R = some m.cls := findClass_of_methodNamed B.named
  have hlocks := B.notSynchronized
  have hD := rc_self hD0
  generalize hAe : rc_A [(h, rR fo cn wh pt rs sq on tw), (mo, ka cJ 5 g), (rs, ka cJ 5 r), (on, ka cJ 5 a), (tw, ka cJ 5 b)] = A at hD ⊢
  have hS : va_S A s.heap s.heap [] := va_S.rf
  have hl := lv_entry ([.ref h, .ref mo]) (n := 6) (Nat.le_of_ble_eq_true rfl)
  rw [lg_entry_eq]
  generalize (lg_sl ([.ref h, .ref mo]) ++ List.replicate (6 - (lg_sl ([.ref h, .ref mo])).length) Slot.unset).toArray = ls at hl ⊢

  have hl : lv_has ls 6 [(0, .ref h), (1, .ref mo)] := hl
  refine lv_aload_n hx hb d_R_commonWithRaised_0 rfl (lv_at hl 1 rfl) ?_
  refine lv_aload_n hx hb d_R_commonWithRaised_1 rfl (lv_at hl 0 rfl) ?_
  refine va_get (D := D) (ci := 1) (v := .ref on) (C := R_R) (T := T_R) (N := 8) hx hb hts in_R hown hK hP 0 rfl rfl 6 (by decide) (hts _ kw_36) (fun _ h9 => h9) rfl d_R_commonWithRaised_2 ?_
  refine rc_callv (va_runS (As := [.ref mo, .ref on]) (rest := []) ⟨hx, hb, hml, hown, hts⟩ (m_R_copy l D cJ mo on 5 g a (by omega)) (cwS 2 hts (kb_gi (kb_c kw_352 (kb_c kw_353 (kb_c kw_2 (kb_c kw_354 kb_all))))) rfl rfl rfl (by decide +kernel) ⟨Nat.le_of_ble_eq_true rfl, Nat.le_of_ble_eq_true rfl⟩) ⟨rc_blind, rc_pre hP hD hK hN [1, 3] rfl rfl [0] rfl⟩ rfl rfl hl.1 rfl (lv_room (Nat.le_of_ble_eq_true rfl)) d_R_commonWithRaised_5 ⟨Nat.zero_le _, Nat.zero_le _⟩) hP hD hS [1, 3] rfl (fun _ => rfl) (fun u1 H locs hw1 hP hD hS => ?_)
  have hP : va_P D vC [(h, rR fo cn wh pt rs sq on tw), (mo, ka cJ 5 g), (rs, ka cJ 5 r), (on, ka cJ 5 (va_cpy g a 0 0 5)), (tw, ka cJ 5 b)] H := hP
  have hD : va_D A [(h, rR fo cn wh pt rs sq on tw), (mo, ka cJ 5 g), (rs, ka cJ 5 r), (on, ka cJ 5 (va_cpy g a 0 0 5)), (tw, ka cJ 5 b)] := hD
  refine lv_aload_n hx hb d_R_commonWithRaised_8 rfl (lv_at hl 0 rfl) ?_
  refine va_get (D := D) (ci := 1) (v := .ref rs) (C := R_R) (T := T_R) (N := 8) hx hb hts in_R hown hK hP 0 rfl rfl 4 (by decide) (hts _ kw_34) (fun _ h9 => h9) rfl d_R_commonWithRaised_9 ?_
  refine lv_aload_n hx hb d_R_commonWithRaised_12 rfl (lv_at hl 0 rfl) ?_
  refine va_get (D := D) (ci := 1) (v := .ref tw) (C := R_R) (T := T_R) (N := 8) hx hb hts in_R hown hK hP 0 rfl rfl 7 (by decide) (hts _ kw_37) (fun _ h9 => h9) rfl d_R_commonWithRaised_13 ?_
  refine rc_callv (va_runS (As := [.ref rs, .ref tw]) (rest := []) ⟨hx, hb, hml, hown, hts⟩ (m_R_copy l D cJ rs tw 5 r b (by omega)) (cwS 2 hts (kb_gi (kb_c kw_352 (kb_c kw_353 (kb_c kw_2 (kb_c kw_354 kb_all))))) rfl rfl rfl (by decide +kernel) ⟨Nat.le_of_ble_eq_true rfl, Nat.le_of_ble_eq_true rfl⟩) ⟨rc_blind, rc_pre hP hD hK hN [2, 4] rfl rfl [0] rfl⟩ rfl rfl hl.1 rfl (lv_room (Nat.le_of_ble_eq_true rfl)) d_R_commonWithRaised_16 ⟨Nat.zero_le _, Nat.zero_le _⟩) hP hD hS [2, 4] rfl (fun _ => rfl) (fun u2 H locs hw2 hP hD hS => ?_)
  have hP : va_P D vC [(h, rR fo cn wh pt rs sq on tw), (mo, ka cJ 5 g), (rs, ka cJ 5 r), (on, ka cJ 5 (va_cpy g a 0 0 5)), (tw, ka cJ 5 (va_cpy r b 0 0 5))] H := hP
  have hD : va_D A [(h, rR fo cn wh pt rs sq on tw), (mo, ka cJ 5 g), (rs, ka cJ 5 r), (on, ka cJ 5 (va_cpy g a 0 0 5)), (tw, ka cJ 5 (va_cpy r b 0 0 5))] := hD
  refine lv_aload_n hx hb d_R_commonWithRaised_19 rfl (lv_at hl 0 rfl) ?_
  refine va_get (D := D) (ci := 1) (v := .ref on) (C := R_R) (T := T_R) (N := 8) hx hb hts in_R hown hK hP 0 rfl rfl 6 (by decide) (hts _ kw_36) (fun _ h9 => h9) rfl d_R_commonWithRaised_20 ?_
  refine lv_astore_n (lv' := [(2, .ref on), (0, .ref h), (1, .ref mo)]) hx hb d_R_commonWithRaised_23 rfl hl (by decide) rfl (fun ls hl => ?_)
  refine lv_aload_n hx hb d_R_commonWithRaised_24 rfl (lv_at hl 1 rfl) ?_
  refine va_get (D := D) (ci := 1) (v := .ref tw) (C := R_R) (T := T_R) (N := 8) hx hb hts in_R hown hK hP 0 rfl rfl 7 (by decide) (hts _ kw_37) (fun _ h9 => h9) rfl d_R_commonWithRaised_25 ?_
  refine lv_astore_n (lv' := [(3, .ref tw), (2, .ref on), (0, .ref h), (1, .ref mo)]) hx hb d_R_commonWithRaised_28 rfl hl (by decide) rfl (fun ls hl => ?_)
  refine rz_iconst hx hb d_R_commonWithRaised_29 ?_
  refine lv_istore (lv' := [(4, .int (iz 0)), (3, .ref tw), (2, .ref on), (0, .ref h), (1, .ref mo)]) hx hb d_R_commonWithRaised_30 hl (by decide) rfl (fun ls hl => ?_)
  refine lo_R_common (g := g) (r := r) (U := U) hx hb hml hown hts hK hN ⟨Nat.le_of_ble_eq_true rfl, Nat.le_of_ble_eq_true rfl⟩ (fun H locs ls hP hD hS hl => ?_) 5 false _ _ _ H locs ls (by omega) (by omega) hU hP hD hS (lv_sub hl [0, 1, 2, 3, 4] rfl)
  refine lv_aload_n hx hb d_R_commonWithRaised_68 rfl (lv_at hl 0 rfl) ?_
  exact W.aret hx hb hr (Or.inr ⟨_, rfl⟩) (Or.inr ⟨_, rfl⟩) (fun t ht hW => ⟨⟨(), _, rfl, trivial, rfl, rc_out ht hP⟩, hS.F ht⟩) hS.2.2 d_R_commonWithRaised_69
/-- where x goes among the first k, and the others moved up -/
def inK (x : ro_K) : Nat → (Nat → ro_K) → Nat × (Nat → ro_K)
  | 0, F => (0, F)
  | k + 1, F => if x.val < (F k).val then inK x k (va_up F (k + 1) (F k)) else (k + 1, F)
theorem lk_le {x y : ro_K} : lk x ≤ lk y ↔ x.val ≤ y.val := by
  have hx := x.isLt
  have hy := y.isLt
  unfold lk
  exact pk_lLE (by omega) (by omega)
theorem inK_le (x : ro_K) : ∀ k F, (inK x k F).1 ≤ k
  | 0, _ => Nat.le_refl 0
  | k + 1, F => by
    show (if x.val < (F k).val then inK x k (va_up F (k + 1) (F k)) else (k + 1, F)).1 ≤ k + 1
    by_cases h : x.val < (F k).val
    · rw [if_pos h]; exact Nat.le_succ_of_le (inK_le x k _)
    · rw [if_neg h]; exact Nat.le_refl _
set_option maxHeartbeats 4000000 in
set_option maxRecDepth 100000 in
theorem lo_R_insert {fo wh pt rs sq on tw h : Nat} {cn : Int} {cJ : ClassId} {x : ro_K} {U : Nat × (Nat → ro_K)}  (hx : p.tables.exec = Jvm.exec) (hb : c.code = c_R_insert) (hml : c.maxLocals = 4) (hown : s.vm.findClass R_R = some m.cls) (hts : ∀ w ∈ kb, w.before args s = true) (hK : va_K D vC [(cJ, .long)] s) (hN : rc_N s) (hend : ∀ (H : Heap) (locs : List Loc) (ls : Array Slot), va_P D vC [(h, rR fo cn wh pt rs sq on tw), (fo, ka cJ 4 U.2)] H → va_D A [(h, rR fo cn wh pt rs sq on tw), (fo, ka cJ 4 U.2)] → va_S A H0 H locs → lv_has ls 4 [(3, .int (iz (U.1 : Int))), (0, .ref h), (1, .long (lk x))] → W p l e R s m args below meth c H locs 0 0 Q (F0 m 55 ls [])) : ∀ (k : Nat) (F : Nat → ro_K) (z : Int) (H : Heap) (locs : List Loc) (ls : Array Slot), z = (k : Int) → k < 4 → inK x k F = U → va_P D vC [(h, rR fo cn wh pt rs sq on tw), (fo, ka cJ 4 F)] H → va_D A [(h, rR fo cn wh pt rs sq on tw), (fo, ka cJ 4 F)] → va_S A H0 H locs → lv_has ls 4 [(3, .int (iz z)), (0, .ref h), (1, .long (lk x))] → W p l e R s m args below meth c H locs 0 0 Q (F0 m 18 ls []) := by
  intro k
  induction k with
  | zero =>
    intro F z H locs ls hz hk hU hP hD hS hl
    subst hU
    subst hz
    refine lv_iload_n hx hb d_R_insert_18 rfl (lv_at hl 0 rfl) ?_
    refine rz_if_le (tgt := 55) hx hb d_R_insert_19 (by decide) (fun hc => ?_) (fun hc => absurd hc (by omega))
    exact hend H locs ls hP hD hS hl
  | succ k ih =>
    intro F z H locs ls hz hk hU hP hD hS hl
    have hU2 : (if x.val < (F k).val then inK x k (va_up F (k + 1) (F k)) else (k + 1, F)) = U := hU
    refine lv_iload_n hx hb d_R_insert_18 rfl (lv_at hl 0 rfl) ?_
    refine rz_if_le (tgt := 55) hx hb d_R_insert_19 (by decide) (fun hc => absurd hc (by omega)) (fun hc => ?_)
    refine lv_aload_n hx hb d_R_insert_22 rfl (lv_at hl 1 rfl) ?_
    refine va_get (D := D) (ci := 1) (v := .ref fo) (C := R_R) (T := T_R) (N := 8) hx hb hts in_R hown hK hP 0 rfl rfl 0 (by decide) (hts _ kw_30) (fun _ h9 => h9) rfl d_R_insert_23 ?_
    refine lv_iload_n hx hb d_R_insert_26 rfl (lv_at hl 0 rfl) ?_
    refine rz_iconst hx hb d_R_insert_27 ?_
    refine rz_isub hx hb d_R_insert_28 ?_
    refine rk_ld hx hb hK hP 1 0 rfl rfl k d_R_insert_29 ?_
    refine lv_lload_n hx hb d_R_insert_30 rfl (lv_at hl 2 rfl) ?_
    refine rz_lcmp_le (tgt := 55) hx hb d_R_insert_31 d_R_insert_32 (by decide) (fun hc1 => ?_) (fun hc1 => ?_)
    · rw [if_neg (by rw [lk_le] at *; omega)] at hU2
      subst hU2
      subst hz
      exact hend H locs ls hP hD hS hl
    · refine lv_aload_n hx hb d_R_insert_35 rfl (lv_at hl 1 rfl) ?_
      refine va_get (D := D) (ci := 1) (v := .ref fo) (C := R_R) (T := T_R) (N := 8) hx hb hts in_R hown hK hP 0 rfl rfl 0 (by decide) (hts _ kw_30) (fun _ h9 => h9) rfl d_R_insert_36 ?_
      refine lv_iload_n hx hb d_R_insert_39 rfl (lv_at hl 0 rfl) ?_
      refine lv_aload_n hx hb d_R_insert_40 rfl (lv_at hl 1 rfl) ?_
      refine va_get (D := D) (ci := 1) (v := .ref fo) (C := R_R) (T := T_R) (N := 8) hx hb hts in_R hown hK hP 0 rfl rfl 0 (by decide) (hts _ kw_30) (fun _ h9 => h9) rfl d_R_insert_41 ?_
      refine lv_iload_n hx hb d_R_insert_44 rfl (lv_at hl 0 rfl) ?_
      refine rz_iconst hx hb d_R_insert_45 ?_
      refine rz_isub hx hb d_R_insert_46 ?_
      refine rk_ld hx hb hK hP 1 0 rfl rfl k d_R_insert_47 ?_
      refine rk_st hx hb hK hP hD hS 1 0 rfl rfl (k + 1) d_R_insert_48 (fun H locs hP hD hS => ?_)
      have hP : va_P D vC [(h, rR fo cn wh pt rs sq on tw), (fo, ka cJ 4 (va_up F (k + 1) (F k)))] H := hP
      have hD : va_D A [(h, rR fo cn wh pt rs sq on tw), (fo, ka cJ 4 (va_up F (k + 1) (F k)))] := hD
      refine lv_iinc (v := iz (z + (-1))) (lv' := [(3, .int (iz (z + (-1)))), (0, .ref h), (1, .long (lk x))]) hx hb d_R_insert_49 hl (k := 0) rfl (iz_add _ _) (by decide) rfl (fun ls hl => ?_)
      refine lv_goto (tgt := 18) hx hb d_R_insert_52 (by decide) ?_
      rw [if_pos (by rw [lk_le] at *; omega)] at hU2
      exact ih _ _ H locs ls (by omega) (by omega) hU2 hP hD hS (lv_sub hl [0, 1, 2] rfl)
def ws_R_insert : List Cond := .code y_R_insert c_R_insert 4 none :: kb
set_option maxHeartbeats 4000000 in
set_option maxRecDepth 100000 in
/-- a root comes in its place -/
theorem m_R_insert (l : Launch) (D : va_G) (cJ : ClassId) (h fo wh pt rs sq on tw : Nat) (cn : Int) (F : Nat → ro_K) (x : ro_K) (n : Nat) (hn : cn = (n : Int)) (hn4 : n < 4) : Met l y_R_insert ws_R_insert ({ frames := 0, cells := 0, slots := 0, locals := 0 }) (rc_Pc D vC [(cJ, .long)] [.ref h, .long (lk x)] [(h, rR fo cn wh pt rs sq on tw), (fo, ka cJ 4 F)]) (va_Qv (fun (_ : Unit) => True) (fun _ t => va_P D vC [(h, rR fo (cn + 1) wh pt rs sq on tw), (fo, ka cJ 4 (va_up (inK x n F).2 (inK x n F).1 x))] t.heap) (rc_A [(h, rR fo cn wh pt rs sq on tw), (fo, ka cJ 4 F)])) 0 0 (rc_A [(h, rR fo cn wh pt rs sq on tw), (fo, ka cJ 4 F)]) := by
  refine Met.ofW (cc := c_R_insert) (maxL := 4) (ret := none) (by decide) rfl ?_
  intro p e s m args below meth c s₁ B hml hv
  obtain ⟨rfl, hP, hK, hD0, hN⟩ := hv
  have hx := B.exec
  have hb := B.bytes
  have hr := B.returns
  have hts0 := atoms_spec (ws := ws_R_insert) B.pre
  have hts : ∀ w ∈ kb, w.before _ s = true := fun w h => hts0 w (List.mem_cons_of_mem _ h)
  have hown : s.vm.findClass R_R = some m.cls := findClass_of_methodNamed B.named
  have hlocks := B.notSynchronized
  have hD := rc_self hD0
  generalize hAe : rc_A [(h, rR fo cn wh pt rs sq on tw), (fo, ka cJ 4 F)] = A at hD ⊢
  have hS : va_S A s.heap s.heap [] := va_S.rf
  have hl := lv_entry ([.ref h, .long (lk x)]) (n := 4) (Nat.le_of_ble_eq_true rfl)
  rw [lg_entry_eq]
  generalize (lg_sl ([.ref h, .long (lk x)]) ++ List.replicate (4 - (lg_sl ([.ref h, .long (lk x)])).length) Slot.unset).toArray = ls at hl ⊢

  have hl : lv_has ls 4 [(0, .ref h), (1, .long (lk x))] := hl
  have hle := inK_le x n F
  refine lv_aload_n hx hb d_R_insert_0 rfl (lv_at hl 0 rfl) ?_
  refine va_get (D := D) (ci := 1) (v := .int (iz cn)) (C := R_R) (T := T_R) (N := 8) hx hb hts in_R hown hK hP 0 rfl rfl 1 (by decide) (hts _ kw_31) (fun _ h9 => h9) rfl d_R_insert_1 ?_
  refine lv_aload_n hx hb d_R_insert_4 rfl (lv_at hl 0 rfl) ?_
  refine va_get (D := D) (ci := 1) (v := .ref fo) (C := R_R) (T := T_R) (N := 8) hx hb hts in_R hown hK hP 0 rfl rfl 0 (by decide) (hts _ kw_30) (fun _ h9 => h9) rfl d_R_insert_5 ?_
  refine va_alen (v := iz (4 : Nat)) hx hb hK hP 1 0 rfl rfl (iz_ofNat _) d_R_insert_8 ?_
  refine rz_icmp_lt (tgt := 13) hx hb d_R_insert_9 (by decide) (fun hc1 => ?_) (fun hc1 => ?_)
  · refine lv_aload_n hx hb d_R_insert_13 rfl (lv_at hl 0 rfl) ?_
    refine va_get (D := D) (ci := 1) (v := .int (iz cn)) (C := R_R) (T := T_R) (N := 8) hx hb hts in_R hown hK hP 0 rfl rfl 1 (by decide) (hts _ kw_31) (fun _ h9 => h9) rfl d_R_insert_14 ?_
    refine lv_istore_n (lv' := [(3, .int (iz cn)), (0, .ref h), (1, .long (lk x))]) hx hb d_R_insert_17 rfl hl (by decide) rfl (fun ls hl => ?_)
    refine lo_R_insert (x := x) (U := inK x n F) hx hb hml hown hts hK hN (fun H locs ls hP hD hS hl => ?_) n F _ _ _ ls hn hn4 rfl hP hD hS (lv_sub hl [0, 1, 2] rfl)
    refine lv_aload_n hx hb d_R_insert_55 rfl (lv_at hl 1 rfl) ?_
    refine va_get (D := D) (ci := 1) (v := .ref fo) (C := R_R) (T := T_R) (N := 8) hx hb hts in_R hown hK hP 0 rfl rfl 0 (by decide) (hts _ kw_30) (fun _ h9 => h9) rfl d_R_insert_56 ?_
    refine lv_iload_n hx hb d_R_insert_59 rfl (lv_at hl 0 rfl) ?_
    refine lv_lload_n hx hb d_R_insert_60 rfl (lv_at hl 2 rfl) ?_
    refine rk_st hx hb hK hP hD hS 1 0 rfl rfl (inK x n F).1 d_R_insert_61 (fun H locs hP hD hS => ?_)
    have hP : va_P D vC [(h, rR fo cn wh pt rs sq on tw), (fo, ka cJ 4 (va_up (inK x n F).2 (inK x n F).1 x))] H := hP
    have hD : va_D A [(h, rR fo cn wh pt rs sq on tw), (fo, ka cJ 4 (va_up (inK x n F).2 (inK x n F).1 x))] := hD
    refine lv_aload_n hx hb d_R_insert_62 rfl (lv_at hl 1 rfl) ?_
    refine lv_dup hx hb d_R_insert_63 rfl ?_
    refine va_get (D := D) (ci := 1) (v := .int (iz cn)) (C := R_R) (T := T_R) (N := 8) hx hb hts in_R hown hK hP 0 rfl rfl 1 (by decide) (hts _ kw_31) (fun _ h9 => h9) rfl d_R_insert_64 ?_
    refine rz_iconst hx hb d_R_insert_67 ?_
    refine rz_iadd hx hb d_R_insert_68 ?_
    refine va_put (D := D) (ci := 1) (v := .int (iz (cn + 1))) (ty := .int) (C := R_R) (T := T_R) (N := 8) hx hb hts in_R ty_R tk_R nm_R hown hK hP hD hS 0 rfl rfl 1 (by decide) (hts _ kw_31) (fun _ h9 => h9) rfl (by decide +kernel) rfl rfl (Nat.le_of_ble_eq_true rfl) d_R_insert_69 (fun H locs hP hD hS => ?_)
    have hP : va_P D vC [(h, rR fo (cn + 1) wh pt rs sq on tw), (fo, ka cJ 4 (va_up (inK x n F).2 (inK x n F).1 x))] H := hP
    have hD : va_D A [(h, rR fo (cn + 1) wh pt rs sq on tw), (fo, ka cJ 4 (va_up (inK x n F).2 (inK x n F).1 x))] := hD
    exact W.vret hx hb hr (fun t ht hW => ⟨⟨(), rfl, trivial, rc_out ht hP⟩, hS.F ht⟩) hS.2.2 d_R_insert_72
  · omega
end WK
end
section
/-! WHAT THE ROWS OF Roots MEAN: polynomials in rows of five (or eight) numbers -/
def ct (n : Nat) (F : Nat → ro_K) : Nat → ro_K := fun i => if i < n then F i else 0
theorem ct_lt {n : Nat} {F : Nat → ro_K} {i : Nat} (h : i < n) : ct n F i = F i := if_pos h
theorem ct_ge {n : Nat} {F : Nat → ro_K} {i : Nat} (h : n ≤ i) : ct n F i = 0 := if_neg (Nat.not_lt.mpr h)
theorem ev_ct (n : Nat) (F : Nat → ro_K) (x : ro_K) : ro_ev n (ct n F) x = ro_ev n F x := ro_ev_congr n x (fun i h => ct_lt h)
theorem kd_spec (F : Nat → ro_K) : ∀ n, (kd F n < 0 ∧ ∀ i, i < n → F i = 0) ∨ ∃ d : Nat, kd F n = (d : Int) ∧ d < n ∧ F d ≠ 0 ∧ ∀ i, d < i → i < n → F i = 0
  | 0 => Or.inl ⟨(by show (-1 : Int) < 0; decide), fun i h => absurd h (Nat.not_lt_zero i)⟩
  | n + 1 => by
    have ih := kd_spec F n
    by_cases h : F n = 0
    · have e : kd F (n + 1) = kd F n := if_pos h
      rw [e]
      rcases ih with ⟨a, b⟩ | ⟨d, a, b, c, e2⟩
      · left
        refine ⟨a, fun i hi => ?_⟩
        by_cases q : i = n
        · subst q; exact h
        · exact b i (by omega)
      · right
        refine ⟨d, a, by omega, c, fun i h1 h2 => ?_⟩
        by_cases q : i = n
        · subst q; exact h
        · exact e2 i h1 (by omega)
    · have e : kd F (n + 1) = (n : Int) := if_neg h
      right
      exact ⟨n, e, by omega, h, fun i h1 h2 => absurd h2 (by omega)⟩
theorem kd_of {F : Nat → ro_K} {n d : Nat} (hd : d < n) (h : F d ≠ 0) (hz : ∀ i, d < i → i < n → F i = 0) : kd F n = (d : Int) := by
  rcases kd_spec F n with ⟨-, b⟩ | ⟨d2, a, b, c, e⟩
  · exact absurd (b d hd) h
  · rcases Nat.lt_trichotomy d2 d with q | q | q
    · exact absurd (e d q hd) h
    · rw [a, q]
    · exact absurd (hz d2 q b) c
/-- monic of degree d -/
def mo (F : Nat → ro_K) (d : Nat) : Prop := d < 5 ∧ F d = 1 ∧ ∀ i, d < i → i < 5 → F i = 0
theorem mo_kd {F : Nat → ro_K} {d : Nat} (h : mo F d) : kd F 5 = (d : Int) := kd_of h.1 (by rw [h.2.1]; exact ro_1ne0) h.2.2
theorem mo_ct {F : Nat → ro_K} {d : Nat} (h : mo F d) : ct 5 F d = 1 ∧ ∀ i, d < i → ct 5 F i = 0 := by
  refine ⟨by rw [ct_lt h.1]; exact h.2.1, fun i hi => ?_⟩
  rcases Nat.lt_or_ge i 5 with q | q
  · rw [ct_lt q]; exact h.2.2 i hi q
  · exact ct_ge q
theorem km_spec {F : Nat → ro_K} {d : Nat} (h : kd F 5 = (d : Int)) : mo (km F) d ∧ ∃ c : ro_K, c * F d = 1 ∧ ∀ i, i < 5 → km F i = F i * c := by
  rcases kd_spec F 5 with ⟨a, -⟩ | ⟨d2, a, b, c, e⟩
  · omega
  · have ed : d2 = d := by omega
    subst ed
    have hi := ro_iv_mul c
    have ek : ∀ i, i < 5 → km F i = F i * ro_iv (F d2) := by
      intro i hi5
      unfold km
      rw [if_neg (by omega), h]
      show (if i < ((d2 : Int)).toNat + 1 then F i * ro_iv (F ((d2 : Int)).toNat) else F i) = _
      rw [Int.toNat_natCast]
      by_cases q : i < d2 + 1
      · rw [if_pos q]
      · rw [if_neg q, e i (by omega) hi5]
        generalize ro_iv (F d2) = z
        grind
    generalize ro_iv (F d2) = z at hi ek
    refine ⟨⟨b, by rw [ek d2 b]; exact hi, fun i h1 h2 => ?_⟩, z, by grind, ek⟩
    rw [ek i h2, e i h1 h2]
    grind
/-- s powers up -/
def sN : Nat → (Nat → ro_K) → (Nat → ro_K)
  | 0, f => f
  | s + 1, f => ro_sh (sN s f)
theorem sN_at (f : Nat → ro_K) : ∀ (s j : Nat), sN s f j = if s ≤ j then f (j - s) else 0
  | 0, j => by rw [if_pos (Nat.zero_le j)]; rfl
  | s + 1, 0 => by rw [if_neg (by omega)]; rfl
  | s + 1, j + 1 => by
    show sN s f j = _
    rw [sN_at f s j]
    by_cases h : s ≤ j
    · rw [if_pos h, if_pos (by omega), show j + 1 - (s + 1) = j - s by omega]
    · rw [if_neg h, if_neg (by omega)]
theorem dv_sN {g F : Nat → ro_K} (h : ro_dv g F) : ∀ s, ro_dv g (sN s F)
  | 0 => h
  | s + 1 => ro_dv_sh (dv_sN h s)
theorem tm1_ct {n d s : Nat} {g F : Nat → ro_K} (hg : mo g d) (hs : d + s < n) (j : Nat) : ct n (tm1 d g F s) j = ct n F j - F (d + s) * sN s (ct 5 g) j := by
  have hm := mo_ct hg
  rw [sN_at]
  generalize ht : F (d + s) = t
  rcases Nat.lt_or_ge j n with q | q
  · rw [ct_lt q, ct_lt q]
    show (if s ≤ j ∧ j < s + (d + 1) then F j - F (d + s) * g (j - s) else F j) = _
    rw [ht]
    by_cases h1 : s ≤ j
    · by_cases h2 : j < s + (d + 1)
      · rw [if_pos ⟨h1, h2⟩, if_pos h1, ct_lt (by have := hg.1; omega)]
      · rw [if_neg (fun z => h2 z.2), if_pos h1, hm.2 (j - s) (by omega)]
        grind
    · rw [if_neg (fun z => h1 z.1), if_neg h1]
      grind
  · rw [ct_ge q, ct_ge q, if_pos (by omega), hm.2 (j - s) (by omega)]
    grind
theorem tmo_spec {n d : Nat} {g : Nat → ro_K} (hg : mo g d) : ∀ (q : Nat) (F : Nat → ro_K), (q = 0 ∨ d + q ≤ n) → (∀ i, d + q ≤ i → i < n → F i = 0) → (∀ i, d ≤ i → i < n → tmo d g q F i = 0) ∧ ro_dv (ct 5 g) (fun i => ct n F i - ct n (tmo d g q F) i)
  | 0, F, _, hz => ⟨hz, ro_dv_congr (ro_dv_0 _) (fun i => by show ct n F i - ct n F i = 0; grind)⟩
  | q + 1, F, hq, hz => by
    have hlt : d + q < n := by omega
    obtain ⟨h1, h2⟩ := tmo_spec (n := n) hg q (tm1 d g F q) (by omega) (fun i hi hn => by
      show (if q ≤ i ∧ i < q + (d + 1) then F i - F (d + q) * g (i - q) else F i) = 0
      by_cases e : i = d + q
      · subst e
        rw [if_pos (by omega), show d + q - q = d by omega, hg.2.1]
        grind
      · rw [if_neg (by omega)]
        exact hz i (by omega) hn)
    refine ⟨h1, ?_⟩
    have h3 := ro_dv_add (ro_dv_smul (F (d + q)) (dv_sN (ro_dv_self (ct 5 g)) q)) h2
    refine ro_dv_congr h3 (fun i => ?_)
    show ct n F i - ct n (tmo d g q (tm1 d g F q)) i = F (d + q) * sN q (ct 5 g) i + (ct n (tm1 d g F q) i - ct n (tmo d g q (tm1 d g F q)) i)
    rw [tm1_ct hg hlt i]
    grind
theorem tmr_spec {n d : Nat} {g : Nat → ro_K} (F : Nat → ro_K) (hg : mo g d) : (∀ i, d ≤ i → i < n → tmr n F g i = 0) ∧ ro_dv (ct 5 g) (fun i => ct n F i - ct n (tmr n F g) i) := by
  have hk := mo_kd hg
  have e : tmr n F g = tmo d g (kd F n - (d : Int) + 1).toNat F := by
    unfold tmr
    rw [if_neg (by omega), hk, Int.toNat_natCast]
  rw [e]
  have hb := kd_lo F n
  refine tmo_spec hg _ F (by omega) (fun i hi hn => ?_)
  rcases kd_spec F n with ⟨-, b⟩ | ⟨d2, a, -, -, z⟩
  · exact b i hn
  · exact z i (by omega) hn
theorem dv_ev {g F : Nat → ro_K} {n k : Nat} (h : ro_dv g F) (hg : ∀ i, k ≤ i → g i = 0) (hF : ∀ i, n ≤ i → F i = 0) {x : ro_K} (hx : ro_ev k g x = 0) : ro_ev n F x = 0 := by
  obtain ⟨l, hl⟩ := h
  have e := ro_ev_mc hg x l (l.length + k + n) (by omega)
  rw [hx] at e
  rw [← ro_ev_more n (l.length + k + n) x (by omega) hF, ro_ev_congr _ x (fun i _ => hl i), e]
  grind
theorem ct_sub0 {n : Nat} {F G : Nat → ro_K} : ∀ i, n ≤ i → (fun i => ct n F i - ct n G i) i = 0 := fun i h => by
  show ct n F i - ct n G i = 0
  rw [ct_ge h, ct_ge h]; grind
theorem ev_sub0 {n : Nat} {F G : Nat → ro_K} {x : ro_K} (h : ro_ev n (fun i => ct n F i - ct n G i) x = 0) : ro_ev n F x = ro_ev n G x := by
  rw [ro_ev_sub, ev_ct, ev_ct] at h
  grind
/-- less multiples of g, nothing changes where g is 0 -/
theorem tmr_ev {n d : Nat} {g : Nat → ro_K} (F : Nat → ro_K) (hg : mo g d) {x : ro_K} (hx : ro_ev 5 g x = 0) : ro_ev n (tmr n F g) x = ro_ev n F x := by
  have h := (tmr_spec (n := n) F hg).2
  have := dv_ev (n := n) (k := 5) h (fun i hi => ct_ge hi) ct_sub0 (x := x) (by rw [ev_ct]; exact hx)
  exact (ev_sub0 this).symm
/-- Euclid -/
theorem eu_spec : ∀ (n : Nat) (sw : Bool) (G L : Nat → ro_K) (d : Nat), mo G d → kd L 5 < (n : Int) → (∃ d2, mo (euB n sw G L).2.1 d2) ∧ ro_dv (ct 5 (euB n sw G L).2.1) (ct 5 G) ∧ ro_dv (ct 5 (euB n sw G L).2.1) (ct 5 L) ∧ ∀ x, ro_ev 5 (euB n sw G L).2.1 x = 0 ↔ (ro_ev 5 G x = 0 ∧ ro_ev 5 L x = 0) := by
  have stop : ∀ (G L : Nat → ro_K) (d : Nat), mo G d → kd L 5 < 0 → (∃ d2, mo G d2) ∧ ro_dv (ct 5 G) (ct 5 G) ∧ ro_dv (ct 5 G) (ct 5 L) ∧ ∀ x, ro_ev 5 G x = 0 ↔ (ro_ev 5 G x = 0 ∧ ro_ev 5 L x = 0) := by
    intro G L d hG hL
    have hz : ∀ i, i < 5 → L i = 0 := by
      rcases kd_spec L 5 with ⟨-, b⟩ | ⟨d2, a, -⟩
      · exact b
      · omega
    refine ⟨⟨d, hG⟩, ro_dv_self _, ro_dv_congr (ro_dv_0 _) (fun i => ?_), fun x => ⟨fun h => ⟨h, ro_ev_zero 5 x hz⟩, fun h => h.1⟩⟩
    rcases Nat.lt_or_ge i 5 with q | q
    · rw [ct_lt q]; exact hz i q
    · exact ct_ge q
  intro n
  induction n with
  | zero => intro sw G L d hG hL; exact stop G L d hG hL
  | succ n ih =>
    intro sw G L d hG hL
    by_cases h : kd L 5 < 0
    · have e : euB (n + 1) sw G L = (sw, G, L) := if_pos h
      rw [e]
      exact stop G L d hG h
    · have e : euB (n + 1) sw G L = euB n (!sw) (km L) (tmr 5 G (km L)) := if_neg h
      rw [e]
      obtain ⟨dL, hdL⟩ : ∃ dL : Nat, kd L 5 = (dL : Int) := ⟨(kd L 5).toNat, by omega⟩
      obtain ⟨hm, c, hc1, hc⟩ := km_spec hdL
      obtain ⟨t1, t2⟩ := tmr_spec (n := 5) G hm
      have hlt : kd (tmr 5 G (km L)) 5 < (n : Int) := by
        rcases kd_spec (tmr 5 G (km L)) 5 with ⟨a, -⟩ | ⟨d2, a, b, q, -⟩
        · omega
        · rcases Nat.lt_or_ge d2 dL with z | z
          · omega
          · exact absurd (t1 d2 z b) q
      obtain ⟨p1, p2, p3, p4⟩ := ih (!sw) (km L) (tmr 5 G (km L)) dL hm hlt
      generalize (euB n (!sw) (km L) (tmr 5 G (km L))).2.1 = g' at p1 p2 p3 p4
      have eL : ∀ i, ct 5 L i = L dL * ct 5 (km L) i := by
        intro i
        rcases Nat.lt_or_ge i 5 with q | q
        · rw [ct_lt q, ct_lt q, hc i q]; grind
        · rw [ct_ge q, ct_ge q]; grind
      refine ⟨p1, ?_, ro_dv_congr (ro_dv_smul (L dL) p2) eL, fun x => ?_⟩
      · exact ro_dv_congr (ro_dv_add (ro_dv_trans p2 t2) p3) (fun i => by grind)
      · have ev : ro_ev 5 L x = L dL * ro_ev 5 (km L) x := by
          rw [← ev_ct 5 L, ro_ev_congr 5 x (fun i _ => eL i), ro_ev_smul, ev_ct]
        have nz : L dL ≠ 0 := fun z => ro_1ne0 (by rw [← hc1, z]; grind)
        rw [p4 x]
        constructor
        · rintro ⟨a, b⟩
          exact ⟨by rw [← tmr_ev G hm a]; exact b, by rw [ev, a]; grind⟩
        · rintro ⟨a, b⟩
          rw [ev] at b
          have a2 : ro_ev 5 (km L) x = 0 := by
            rcases ro_nz b with z | z
            · exact absurd z nz
            · exact z
          exact ⟨a2, by rw [tmr_ev G hm a2]; exact a⟩
/-! the square -/
def sqs (r R : Nat → ro_K) : Nat → (Nat → ro_K)
  | 0 => fun _ => 0
  | k + 1 => fun j => sqs r R k j + r k * sN k R j
theorem sqJ_ct (r : Nat → ro_K) {i n : Nat} (hn : i + n ≤ 8) (S : Nat → ro_K) : ∀ (k : Nat), k ≤ n → ∀ j, ct 8 (sqJ r i k S) j = ct 8 S j + r i * sN i (ct k r) j
  | 0, _, j => by
    rw [sN_at]
    show ct 8 S j = ct 8 S j + r i * (if i ≤ j then ct 0 r (j - i) else 0)
    rw [ct_ge (Nat.zero_le _)]
    by_cases h : i ≤ j
    · rw [if_pos h]; grind
    · rw [if_neg h]; grind
  | k + 1, hk, j => by
    have ih := sqJ_ct r hn S k (by omega)
    have ihj := ih j
    have ihk := ih (i + k)
    rw [sN_at] at ihj ihk ⊢
    rw [if_pos (by omega), show i + k - i = k by omega, ct_ge (Nat.le_refl k), ct_lt (show i + k < 8 by omega)] at ihk
    by_cases e : j = i + k
    · subst e
      rw [if_pos (by omega), show i + k - i = k by omega, ct_lt (Nat.lt_succ_self k), ct_lt (show i + k < 8 by omega)]
      show va_up (sqJ r i k S) (i + k) (sqJ r i k S (i + k) + r i * r k) (i + k) = _
      rw [va_up_self, ihk]
      grind
    · have e1 : ct 8 (sqJ r i (k + 1) S) j = ct 8 (sqJ r i k S) j := by
        rcases Nat.lt_or_ge j 8 with q | q
        · rw [ct_lt q, ct_lt q]
          show va_up (sqJ r i k S) (i + k) _ j = _
          rw [va_up_ne _ _ e]
        · rw [ct_ge q, ct_ge q]
      rw [e1, ihj]
      by_cases h : i ≤ j
      · rw [if_pos h, if_pos h]
        by_cases h2 : j - i < k
        · rw [ct_lt (F := r) h2, ct_lt (F := r) (show j - i < k + 1 by omega)]
        · rw [ct_ge (F := r) (show k ≤ j - i by omega), ct_ge (F := r) (show k + 1 ≤ j - i by omega)]
      · rw [if_neg h, if_neg h]
theorem sqI_ct (r : Nat → ro_K) {n : Nat} (hn : n ≤ 4) (S : Nat → ro_K) : ∀ (k : Nat), k ≤ n → ∀ j, ct 8 (sqI r n k S) j = ct 8 S j + sqs r (ct n r) k j
  | 0, _, j => by show ct 8 S j = ct 8 S j + 0; grind
  | k + 1, hk, j => by
    show ct 8 (sqJ r k n (sqI r n k S)) j = ct 8 S j + (sqs r (ct n r) k j + r k * sN k (ct n r) j)
    rw [sqJ_ct r (by omega) _ n (Nat.le_refl n) j, sqI_ct r hn S k (by omega) j]
    grind
theorem kfl_ct (S : Nat → ro_K) (n j : Nat) : ct n (kfl S 0 n) j = 0 := by
  rcases Nat.lt_or_ge j n with q | q
  · rw [ct_lt q]; exact if_pos q
  · exact ct_ge q
theorem sq_ct (r : Nat → ro_K) {n : Nat} (hn : n ≤ 4) (S : Nat → ro_K) (j : Nat) : ct 8 (sqI r n n (kfl S 0 8)) j = sqs r (ct n r) n j := by
  rw [sqI_ct r hn _ n (Nat.le_refl n) j, kfl_ct]; grind
theorem sqs_7 (r : Nat → ro_K) {n : Nat} (hn : n ≤ 4) : ∀ k, k ≤ n → ∀ j, 7 ≤ j → sqs r (ct n r) k j = 0
  | 0, _, _, _ => rfl
  | k + 1, hk, j, hj => by
    show sqs r (ct n r) k j + r k * sN k (ct n r) j = 0
    rw [sqs_7 r hn k (by omega) j hj, sN_at, if_pos (by omega), ct_ge (by omega)]
    grind
theorem ev_top : ∀ (n : Nat) (f : Nat → ro_K) (x : ro_K), ro_ev (n + 1) f x = ro_ev n f x + f n * ro_pw x n
  | 0, f, x => by show f 0 + x * 0 = 0 + f 0 * 1; grind
  | n + 1, f, x => by
    rw [ro_ev_s (n + 1), ev_top n (fun i => f (i + 1)) x, ro_ev_s n]
    show f 0 + x * (ro_ev n (fun i => f (i + 1)) x + f (n + 1) * ro_pw x n) = f 0 + x * ro_ev n (fun i => f (i + 1)) x + f (n + 1) * (ro_pw x n * x)
    grind
theorem ev_sN (R : Nat → ro_K) (m : Nat) (x : ro_K) : ∀ k, ro_ev (m + k) (sN k R) x = ro_pw x k * ro_ev m R x
  | 0 => by show ro_ev m R x = 1 * ro_ev m R x; grind
  | k + 1 => by
    show ro_ev (m + k + 1) (ro_sh (sN k R)) x = ro_pw x k * x * ro_ev m R x
    rw [ro_ev_sh, ev_sN R m x k]
    grind
theorem ev_sqs (r : Nat → ro_K) {n : Nat} (hn : n ≤ 4) (x : ro_K) : ∀ k, k ≤ n → ro_ev 8 (sqs r (ct n r) k) x = ro_ev k r x * ro_ev n r x
  | 0, _ => by
    rw [ro_ev_zero (f := sqs r (ct n r) 0) 8 x (fun i _ => rfl)]
    show (0 : ro_K) = 0 * ro_ev n r x
    grind
  | k + 1, hk => by
    have e : ro_ev 8 (sqs r (ct n r) (k + 1)) x = ro_ev 8 (sqs r (ct n r) k) x + ro_ev 8 (fun j => r k * sN k (ct n r) j) x := ro_ev_add 8 (sqs r (ct n r) k) (fun j => r k * sN k (ct n r) j) x
    have e2 : ro_ev 8 (sN k (ct n r)) x = ro_pw x k * ro_ev n r x := by
      rw [ro_ev_more (n + k) 8 x (by omega) (fun i hi => by rw [sN_at, if_pos (by omega)]; exact ct_ge (by omega)), ev_sN, ev_ct]
    rw [e, ro_ev_smul, e2, ev_sqs r hn x k (by omega), ev_top k r x]
    grind
theorem tlL_at (b : ro_K) : ∀ (n : Nat) (S : Nat → ro_K) (j : Nat), tlL b n S j = if 1 ≤ j ∧ j ≤ n then S j * b + S (j - 1) else S j
  | 0, S, j => by rw [if_neg (by omega)]; rfl
  | n + 1, S, j => by
    show tlL b n (va_up S (n + 1) (S (n + 1) * b + S n)) j = _
    rw [tlL_at b n]
    by_cases h : 1 ≤ j ∧ j ≤ n
    · rw [if_pos h, if_pos (by omega), va_up_ne _ _ (by omega), va_up_ne _ _ (by omega)]
    · rw [if_neg h]
      by_cases h2 : j = n + 1
      · subst h2
        rw [va_up_self, if_pos (by omega), show n + 1 - 1 = n by omega]
      · rw [va_up_ne _ _ h2, if_neg (by omega)]
theorem tl_ct (b : ro_K) (S : Nat → ro_K) (h7 : S 7 = 0) (j : Nat) : ct 8 (tlF b S) j = b * ct 8 S j + ro_sh (ct 8 S) j := by
  cases j with
  | zero =>
    rw [ro_sh_0, ct_lt (by decide), ct_lt (by decide)]
    show va_up (tlL b 7 S) 0 (tlL b 7 S 0 * b) 0 = _
    rw [va_up_self, tlL_at, if_neg (by omega)]
    grind
  | succ j =>
    rw [ro_sh_s]
    rcases Nat.lt_or_ge (j + 1) 8 with q | q
    · rw [ct_lt q, ct_lt q, ct_lt (by omega)]
      show va_up (tlL b 7 S) 0 (tlL b 7 S 0 * b) (j + 1) = _
      rw [va_up_ne _ _ (by omega), tlL_at, if_pos (by omega), show j + 1 - 1 = j by omega]
      grind
    · rw [ct_ge q, ct_ge q]
      by_cases e : j = 7
      · subst e
        rw [ct_lt (by decide), h7]; grind
      · rw [ct_ge (by omega)]; grind
/-! raising -/
theorem rs_row {b : ro_K} {pw n k : Nat} {g r S : Nat → ro_K} (hg : mo g n) : (∀ i, n ≤ i → i < 8 → rsS b pw n k g r S i = 0) ∧ (∀ i, ct 5 (va_cpy (rsS b pw n k g r S) r 0 0 5) i = ct 8 (rsS b pw n k g r S) i) := by
  have h := (tmr_spec (n := 8) (if pw / 2 ^ k % 2 = 1 then tlF b (sqI r n n (kfl S 0 8)) else sqI r n n (kfl S 0 8)) hg).1
  refine ⟨h, fun i => ?_⟩
  rcases Nat.lt_or_ge i 5 with q | q
  · rw [ct_lt q, ct_lt (by omega)]
    show (if 0 ≤ i ∧ i < 0 + 5 then rsS b pw n k g r S (0 + (i - 0)) else r i) = _
    rw [if_pos (by omega), show 0 + (i - 0) = i by omega]
  · rw [ct_ge q]
    rcases Nat.lt_or_ge i 8 with z | z
    · rw [ct_lt z]; exact (h i (by have := hg.1; omega) z).symm
    · exact (ct_ge z).symm
theorem ev_58 {F G : Nat → ro_K} (h : ∀ i, ct 5 F i = ct 8 G i) (x : ro_K) : ro_ev 5 F x = ro_ev 8 G x := by
  rw [← ev_ct 5 F, ← ev_ct 8 G, ← ro_ev_more 5 8 x (by decide) (fun i hi => ct_ge (n := 5) (F := F) hi)]
  exact ro_ev_congr 8 x (fun i _ => h i)
theorem pow_bit (pw k : Nat) : pw / 2 ^ k = 2 * (pw / 2 ^ (k + 1)) + pw / 2 ^ k % 2 := by
  rw [Nat.pow_succ, ← Nat.div_div_eq_div_mul]
  omega
theorem rs_sq_ev {r S : Nat → ro_K} {n : Nat} (hn : n ≤ 4) (hr : ∀ i, n ≤ i → i < 5 → r i = 0) (x : ro_K) : ro_ev 8 (sqI r n n (kfl S 0 8)) x = ro_ev 5 r x * ro_ev 5 r x := by
  have e : ro_ev 5 r x = ro_ev n r x := by
    have h := ro_ev_more n 5 (f := ct n r) x (by omega) (fun i hi => ct_ge hi)
    rw [ev_ct] at h
    rw [← h]
    refine ro_ev_congr 5 x (fun i hi => ?_)
    rcases Nat.lt_or_ge i n with q | q
    · rw [ct_lt q]
    · rw [ct_ge q]; exact hr i q hi
  rw [← ev_ct, ro_ev_congr 8 x (fun i _ => sq_ct r hn S i), ev_sqs r hn x n (Nat.le_refl n), e]
theorem sq_7 {r S : Nat → ro_K} {n : Nat} (hn : n ≤ 4) : sqI r n n (kfl S 0 8) 7 = 0 := by
  have h := sq_ct r hn S 7
  rw [ct_lt (by decide), sqs_7 r hn n (Nat.le_refl n) 7 (by decide)] at h
  exact h
/-- where g is 0, what was raised is x + b to the power -/
theorem rsL_ev {b x : ro_K} {pw n : Nat} {g : Nat → ro_K} (hg : mo g n) (hx : ro_ev 5 g x = 0) : ∀ (k : Nat) (r S : Nat → ro_K), (∀ i, n ≤ i → i < 5 → r i = 0) → ro_ev 5 r x = ro_pw (x + b) (pw / 2 ^ k) → (∀ i, n ≤ i → i < 5 → (rsL b pw n g k r S).1 i = 0) ∧ ro_ev 5 (rsL b pw n g k r S).1 x = ro_pw (x + b) pw
  | 0, r, S, h1, h2 => ⟨h1, by rw [Nat.pow_zero, Nat.div_one] at h2; exact h2⟩
  | k + 1, r, S, h1, h2 => by
    obtain ⟨z1, z2⟩ := rs_row (b := b) (pw := pw) (k := k) (r := r) (S := S) hg
    have hn : n ≤ 4 := by have := hg.1; omega
    refine rsL_ev hg hx k _ _ (fun i hi hi5 => ?_) ?_
    · have := z2 i
      rw [ct_lt hi5, ct_lt (by omega), z1 i hi (by omega)] at this
      exact this
    · rw [ev_58 z2 x]
      show ro_ev 8 (tmr 8 _ g) x = _
      have ep : ro_pw (x + b) (pw / 2 ^ k) = ro_ev 5 r x * ro_ev 5 r x * ro_pw (x + b) (pw / 2 ^ k % 2) := by
        have := congrArg (ro_pw (x + b)) (pow_bit pw k)
        rw [ro_pw_add, Nat.two_mul, ro_pw_add, ← h2] at this
        exact this
      rw [tmr_ev _ hg hx, ep]
      have hs := rs_sq_ev (S := S) hn h1 x
      by_cases hb : pw / 2 ^ k % 2 = 1
      · rw [if_pos hb, hb, ro_pw_1, ← ev_ct, ro_ev_congr 8 x (fun i _ => tl_ct b _ (sq_7 hn) i), ro_ev_add 8 (fun i => b * ct 8 (sqI r n n (kfl S 0 8)) i) (ro_sh (ct 8 (sqI r n n (kfl S 0 8)))), ro_ev_smul, ev_ct, hs]
        have e7 : ro_ev 8 (ro_sh (ct 8 (sqI r n n (kfl S 0 8)))) x = x * (ro_ev 5 r x * ro_ev 5 r x) := by
          rw [ro_ev_sh 7, ← ro_ev_more 7 8 x (by decide) (fun i hi => by
            by_cases e : i = 7
            · subst e; rw [ct_lt (by decide)]; exact sq_7 hn
            · exact ct_ge (by omega)), ev_ct, hs]
        rw [e7]
        grind
      · rw [if_neg hb, show pw / 2 ^ k % 2 = 0 by omega, hs]
        show _ = _ * 1
        grind
end
section
/-! x TO THE p, less multiples of g, as polynomials -/
theorem xn_sN (e f i : Nat) : ro_xn (e + f) i = sN e (ro_xn f) i := by
  rw [sN_at]
  show (if i = e + f then (1 : ro_K) else 0) = if e ≤ i then (if i - e = f then 1 else 0) else 0
  by_cases h : e ≤ i
  · rw [if_pos h]
    by_cases h2 : i - e = f
    · rw [if_pos h2, if_pos (by omega)]
    · rw [if_neg h2, if_neg (by omega)]
  · rw [if_neg h, if_neg (by omega)]
theorem sN_add (f g : Nat → ro_K) (s i : Nat) : sN s (fun i => f i + g i) i = sN s f i + sN s g i := by
  rw [sN_at, sN_at, sN_at]
  by_cases h : s ≤ i
  · rw [if_pos h, if_pos h, if_pos h]
  · rw [if_neg h, if_neg h, if_neg h]; grind
theorem sN_sub (f g : Nat → ro_K) (s i : Nat) : sN s (fun i => f i - g i) i = sN s f i - sN s g i := by
  rw [sN_at, sN_at, sN_at]
  by_cases h : s ≤ i
  · rw [if_pos h, if_pos h, if_pos h]
  · rw [if_neg h, if_neg h, if_neg h]; grind
theorem sqs_xn (r : Nat → ro_K) (e : Nat) : ∀ k j, sqs r (ro_xn e) k j = sN e (ct k r) j
  | 0, j => by
    rw [sN_at]
    show (0 : ro_K) = if e ≤ j then ct 0 r (j - e) else 0
    rw [ct_ge (Nat.zero_le _)]
    by_cases h : e ≤ j
    · rw [if_pos h]
    · rw [if_neg h]
  | k + 1, j => by
    show sqs r (ro_xn e) k j + r k * sN k (ro_xn e) j = _
    rw [sqs_xn r e k j, ← xn_sN, sN_at, sN_at]
    show (if e ≤ j then ct k r (j - e) else 0) + r k * (if j = k + e then (1 : ro_K) else 0) = if e ≤ j then ct (k + 1) r (j - e) else 0
    by_cases h : e ≤ j
    · rw [if_pos h, if_pos h]
      by_cases h2 : j = k + e
      · rw [if_pos h2, ct_ge (F := r) (show k ≤ j - e by omega), ct_lt (F := r) (show j - e < k + 1 by omega), show j - e = k by omega]
        grind
      · rw [if_neg h2]
        by_cases h3 : j - e < k
        · rw [ct_lt (F := r) h3, ct_lt (F := r) (show j - e < k + 1 by omega)]; grind
        · rw [ct_ge (F := r) (show k ≤ j - e by omega), ct_ge (F := r) (show k + 1 ≤ j - e by omega)]; grind
    · rw [if_neg h, if_neg h, if_neg (by omega)]; grind
theorem dv_sqs {g X R : Nat → ro_K} (r : Nat → ro_K) (h : ro_dv g (fun i => X i - R i)) : ∀ k, ro_dv g (fun j => sqs r X k j - sqs r R k j)
  | 0 => ro_dv_congr (ro_dv_0 g) (fun i => by show (0 : ro_K) - 0 = 0; grind)
  | k + 1 => by
    refine ro_dv_congr (ro_dv_add (dv_sqs r h k) (ro_dv_smul (r k) (dv_sN h k))) (fun j => ?_)
    show sqs r X k j + r k * sN k X j - (sqs r R k j + r k * sN k R j) = (sqs r X k j - sqs r R k j) + r k * sN k (fun i => X i - R i) j
    rw [sN_sub]
    grind
theorem sqs_congr {r R R' : Nat → ro_K} (h : ∀ i, R i = R' i) : ∀ k j, sqs r R k j = sqs r R' k j
  | 0, _ => rfl
  | k + 1, j => by
    show sqs r R k j + r k * sN k R j = sqs r R' k j + r k * sN k R' j
    rw [sqs_congr h k j, sN_at, sN_at]
    by_cases q : k ≤ j
    · rw [if_pos q, if_pos q, h]
    · rw [if_neg q, if_neg q]
theorem ct_n5 {r : Nat → ro_K} {n : Nat} (hn : n ≤ 5) (hr : ∀ i, n ≤ i → i < 5 → r i = 0) (i : Nat) : ct n r i = ct 5 r i := by
  rcases Nat.lt_or_ge i n with q | q
  · rw [ct_lt q, ct_lt (by omega)]
  · rw [ct_ge q]
    rcases Nat.lt_or_ge i 5 with z | z
    · rw [ct_lt z, hr i q z]
    · rw [ct_ge z]
theorem rsL_dv {pw n : Nat} {g : Nat → ro_K} (hg : mo g n) : ∀ (k : Nat) (r S : Nat → ro_K), (∀ i, n ≤ i → i < 5 → r i = 0) → ro_dv (ct 5 g) (fun i => ro_xn (pw / 2 ^ k) i - ct 5 r i) → ro_dv (ct 5 g) (fun i => ro_xn pw i - ct 5 (rsL 0 pw n g k r S).1 i)
  | 0, r, S, _, h2 => by rw [Nat.pow_zero, Nat.div_one] at h2; exact h2
  | k + 1, r, S, h1, h2 => by
    obtain ⟨z1, z2⟩ := rs_row (b := 0) (pw := pw) (k := k) (r := r) (S := S) hg
    have hn : n ≤ 4 := by have := hg.1; omega
    refine rsL_dv hg k _ _ (fun i hi hi5 => ?_) ?_
    · have := z2 i
      rw [ct_lt hi5, ct_lt (by omega), z1 i hi (by omega)] at this
      exact this
    · generalize hee : pw / 2 ^ (k + 1) = e at h2
      have hSQ : ro_dv (ct 5 g) (fun i => ro_xn (e + e) i - ct 8 (sqI r n n (kfl S 0 8)) i) := by
        have d1 := dv_sN h2 e
        have d2 := dv_sqs r h2 n
        refine ro_dv_congr (ro_dv_add d1 d2) (fun i => ?_)
        show ro_xn (e + e) i - ct 8 (sqI r n n (kfl S 0 8)) i = sN e (fun i => ro_xn e i - ct 5 r i) i + (sqs r (ro_xn e) n i - sqs r (ct 5 r) n i)
        have e3 : sN e (ct n r) i = sN e (ct 5 r) i := by
          rw [sN_at, sN_at]
          by_cases q : e ≤ i
          · rw [if_pos q, if_pos q, ct_n5 (by omega) h1]
          · rw [if_neg q, if_neg q]
        rw [sN_sub, sq_ct r hn S i, xn_sN, sqs_xn, e3, sqs_congr (r := r) (ct_n5 (by omega) h1) n i]
        grind
      have hY : ro_dv (ct 5 g) (fun i => ro_xn (pw / 2 ^ k) i - ct 8 (if pw / 2 ^ k % 2 = 1 then tlF 0 (sqI r n n (kfl S 0 8)) else sqI r n n (kfl S 0 8)) i) := by
        have hp := pow_bit pw k
        rw [hee] at hp
        by_cases hb : pw / 2 ^ k % 2 = 1
        · rw [if_pos hb]
          refine ro_dv_congr (ro_dv_sh hSQ) (fun i => ?_)
          rw [tl_ct 0 _ (sq_7 hn) i, show pw / 2 ^ k = (e + e) + 1 by omega, ro_xn_s]
          have e1 : ro_sh (fun i => ro_xn (e + e) i - ct 8 (sqI r n n (kfl S 0 8)) i) i = ro_sh (ro_xn (e + e)) i - ro_sh (ct 8 (sqI r n n (kfl S 0 8))) i := sN_sub (ro_xn (e + e)) (ct 8 (sqI r n n (kfl S 0 8))) 1 i
          rw [e1]
          grind
        · rw [if_neg hb, show pw / 2 ^ k = e + e by omega]
          exact hSQ
      have h4 := (tmr_spec (n := 8) (if pw / 2 ^ k % 2 = 1 then tlF 0 (sqI r n n (kfl S 0 8)) else sqI r n n (kfl S 0 8)) hg).2
      refine ro_dv_congr (ro_dv_add hY h4) (fun i => ?_)
      rw [z2 i]
      show ro_xn (pw / 2 ^ k) i - ct 8 (tmr 8 _ g) i = _
      grind
theorem rs_start {r : Nat → ro_K} {n : Nat} (hn : 1 ≤ n) : (∀ i, n ≤ i → i < 5 → va_up (kfl r 0 5) 0 1 i = 0) ∧ (∀ i, ct 5 (va_up (kfl r 0 5) 0 1) i = ro_xn 0 i) := by
  refine ⟨fun i h1 h2 => ?_, fun i => ?_⟩
  · rw [va_up_ne _ _ (by omega)]
    exact if_pos h2
  · show _ = if i = 0 then (1 : ro_K) else 0
    by_cases h : i = 0
    · subst h; rw [ct_lt (by decide), va_up_self, if_pos rfl]
    · rw [if_neg h]
      rcases Nat.lt_or_ge i 5 with q | q
      · rw [ct_lt q, va_up_ne _ _ h]; exact if_pos q
      · exact ct_ge q
theorem rsF_ev {b x : ro_K} {pw n : Nat} {g r S : Nat → ro_K} (hpw : pw < 32768) (hg : mo g n) (hn : 1 ≤ n) (hx : ro_ev 5 g x = 0) : ro_ev 5 (rsF b pw n g r S).1 x = ro_pw (x + b) pw := by
  obtain ⟨a1, a2⟩ := rs_start (r := r) hn
  refine (rsL_ev hg hx 15 _ S a1 ?_).2
  rw [← ev_ct, ro_ev_congr 5 x (fun i _ => a2 i), ro_ev_xn x 0 5 (by decide), Nat.div_eq_of_lt (by omega)]
  rfl
theorem rsF_dv {pw n : Nat} {g r S : Nat → ro_K} (hpw : pw < 32768) (hg : mo g n) (hn : 1 ≤ n) : ro_dv (ct 5 g) (fun i => ro_xn pw i - ct 5 (rsF 0 pw n g r S).1 i) := by
  obtain ⟨a1, a2⟩ := rs_start (r := r) hn
  refine rsL_dv hg 15 _ S a1 (ro_dv_congr (ro_dv_0 _) (fun i => ?_))
  rw [Nat.div_eq_of_lt (by omega), a2 i]
  grind
theorem cpy5 (F G : Nat → ro_K) {i : Nat} (h : i < 5) : va_cpy F G 0 0 5 i = F i := by
  show (if 0 ≤ i ∧ i < 0 + 5 then F (0 + (i - 0)) else G i) = F i
  rw [if_pos (by omega), show 0 + (i - 0) = i by omega]
theorem ct_cpy (F G : Nat → ro_K) (i : Nat) : ct 5 (va_cpy F G 0 0 5) i = ct 5 F i := by
  rcases Nat.lt_or_ge i 5 with q | q
  · rw [ct_lt q, ct_lt q, cpy5 F G q]
  · rw [ct_ge q, ct_ge q]
theorem ev_cpy (F G : Nat → ro_K) (x : ro_K) : ro_ev 5 (va_cpy F G 0 0 5) x = ro_ev 5 F x := ro_ev_congr 5 x (fun i h => cpy5 F G h)
theorem mo_cpy {F : Nat → ro_K} {d : Nat} (G : Nat → ro_K) (h : mo F d) : mo (va_cpy F G 0 0 5) d := ⟨h.1, by rw [cpy5 F G h.1]; exact h.2.1, fun i h1 h2 => by rw [cpy5 F G h2]; exact h.2.2 i h1 h2⟩
theorem ev_up0 (R : Nat → ro_K) (c x : ro_K) : ro_ev 5 (va_up R 0 (R 0 - c)) x = ro_ev 5 R x - c := by
  rw [ro_ev_s 4, ro_ev_s 4 R, va_up_self, ro_ev_congr 4 x (f := fun i => va_up R 0 (R 0 - c) (i + 1)) (g := fun i => R (i + 1)) (fun i _ => va_up_ne _ _ (by omega))]
  grind
theorem ct_up1 (R : Nat → ro_K) (i : Nat) : ct 5 (va_up R 1 (R 1 - 1)) i = ct 5 R i - ro_xn 1 i := by
  show _ = ct 5 R i - if i = 1 then (1 : ro_K) else 0
  by_cases h : i = 1
  · subst h
    rw [ct_lt (by decide), ct_lt (by decide), va_up_self, if_pos rfl]
  · rw [if_neg h]
    rcases Nat.lt_or_ge i 5 with q | q
    · rw [ct_lt q, ct_lt q, va_up_ne _ _ h]; grind
    · rw [ct_ge q, ct_ge q]; grind
/-- what keepRootsOnce leaves: the product over the different roots -/
theorem keep_spec {F r S a b : Nat → ro_K} {d : Nat} (hm : mo F d) (h1 : 1 ≤ d) : ∃ L : List ro_K, L.Nodup ∧ L.length ≤ 4 ∧ (∀ i, i < 5 → (euB 5 false (va_cpy F a 0 0 5) (va_cpy (va_up (rsF 0 32003 d F r S).1 1 ((rsF 0 32003 d F r S).1 1 - 1)) b 0 0 5)).2.1 i = ro_pl L i) ∧ ∀ x, x ∈ L ↔ ro_ev 5 F x = 0 := by
  have hdv := rsF_dv (pw := 32003) (r := r) (S := S) (by decide) hm h1
  have hev := fun x (hx : ro_ev 5 F x = 0) => rsF_ev (b := 0) (pw := 32003) (r := r) (S := S) (by decide) hm h1 hx
  generalize (rsF 0 32003 d F r S).1 = R at hdv hev
  obtain ⟨⟨d2, g1⟩, g2, g3, g4⟩ := eu_spec 5 false (va_cpy F a 0 0 5) (va_cpy (va_up R 1 (R 1 - 1)) b 0 0 5) d (mo_cpy a hm) (kd_lo _ 5).2
  generalize (euB 5 false (va_cpy F a 0 0 5) (va_cpy (va_up R 1 (R 1 - 1)) b 0 0 5)).2.1 = g' at g1 g2 g3 g4
  have hxp : ro_dv (ct 5 g') ro_xp := by
    have q1 : ro_dv (ct 5 g') (ct 5 F) := ro_dv_congr g2 (fun i => (ct_cpy F a i).symm)
    have q2 : ro_dv (ct 5 g') (fun i => ct 5 R i - ro_xn 1 i) := ro_dv_congr g3 (fun i => by rw [ct_cpy, ct_up1])
    refine ro_dv_congr (ro_dv_add (ro_dv_trans q1 hdv) q2) (fun i => ?_)
    show (if i = 32003 then (1 : ro_K) else if i = 1 then -1 else 0) = ((if i = 32003 then 1 else 0) - ct 5 R i) + (ct 5 R i - if i = 1 then 1 else 0)
    by_cases h : i = 32003
    · rw [if_pos h, if_pos h, if_neg (by omega)]; grind
    · rw [if_neg h, if_neg h]
      by_cases h1 : i = 1
      · rw [if_pos h1, if_pos h1]; grind
      · rw [if_neg h1, if_neg h1]; grind
  obtain ⟨m1, m2⟩ := mo_ct g1
  obtain ⟨L, l1, l2, l3⟩ := ro_xp_split m1 m2 hxp
  have hd2 := g1.1
  have hev5 : ∀ x, ro_ev 5 g' x = ro_ev (L.length + 1) (ro_pl L) x := by
    intro x
    rw [← ev_ct, ro_ev_congr 5 x (fun i _ => l3 i)]
    exact ro_ev_more (L.length + 1) 5 x (by omega) (fun i hi => ro_pl_0 L i (by omega))
  refine ⟨L, l1, by omega, fun i hi => by rw [← l3 i, ct_lt hi], fun x => ?_⟩
  rw [← ro_pl_root L x, ← hev5 x, g4 x, ev_cpy, ev_cpy]
  constructor
  · exact fun h => h.1
  · intro h
    refine ⟨h, ?_⟩
    have hz : ro_ev 5 (va_up R 1 (R 1 - 1)) x = ro_ev 5 R x - x := by
      rw [← ev_ct, ro_ev_congr 5 x (fun i _ => ct_up1 R i), ro_ev_sub, ev_ct, ro_ev_xn x 1 5 (by decide), ro_pw_1]
    rw [hz, hev x h, show x + 0 = x by grind, ro_pw_p]
    grind
/-- what the part and x + b to the half, less 1, have in common -/
theorem common_spec {N : List ro_K} {F r S a c : Nat → ro_K} {b : ro_K} (hN : N.Nodup) (h1 : 1 ≤ N.length) (h4 : N.length ≤ 4) (hF : ∀ i, i < 5 → F i = ro_pl N i) :
    mo F N.length ∧ ∀ i, i < 5 → (euB 5 false (va_cpy F a 0 0 5) (va_cpy (va_up (rsF b 16001 N.length F r S).1 0 ((rsF b 16001 N.length F r S).1 0 - 1)) c 0 0 5)).2.1 i = ro_pl (N.filter (fun s => decide (ro_pw (s + b) 16001 = 1))) i := by
  have hm : mo F N.length := ⟨by omega, by rw [hF _ (by omega)]; exact ro_pl_1 N, fun i q1 q2 => by rw [hF i q2]; exact ro_pl_0 N i q1⟩
  refine ⟨hm, ?_⟩
  have hFr : ∀ x, ro_ev 5 F x = ro_ev (N.length + 1) (ro_pl N) x := by
    intro x
    rw [ro_ev_congr 5 x hF]
    exact ro_ev_more (N.length + 1) 5 x (by omega) (fun i hi => ro_pl_0 N i (by omega))
  have hev := fun x (hx : ro_ev 5 F x = 0) => rsF_ev (b := b) (pw := 16001) (r := r) (S := S) (by decide) hm h1 hx
  generalize (rsF b 16001 N.length F r S).1 = R at hev
  obtain ⟨⟨d2, g1⟩, g2, -, g4⟩ := eu_spec 5 false (va_cpy F a 0 0 5) (va_cpy (va_up R 0 (R 0 - 1)) c 0 0 5) N.length (mo_cpy a hm) (kd_lo _ 5).2
  generalize (euB 5 false (va_cpy F a 0 0 5) (va_cpy (va_up R 0 (R 0 - 1)) c 0 0 5)).2.1 = g' at g1 g2 g4
  have q1 : ro_dv (ct 5 g') (ct 5 F) := ro_dv_congr g2 (fun i => (ct_cpy F a i).symm)
  obtain ⟨m1, m2⟩ := mo_ct g1
  obtain ⟨f1, f2⟩ := mo_ct hm
  have hroot : ∀ x ∈ N, ro_ev (N.length + 1) (ct 5 F) x = 0 := by
    intro x hx
    rw [← ro_ev_more (N.length + 1) 5 x (by omega) (fun i hi => f2 i (by omega)), ev_ct, hFr, ro_pl_root]
    exact hx
  have hd2 := g1.1
  have hs := ro_split f1 f2 m1 m2 q1 hN rfl hroot
  have hg5 : ∀ x, ro_ev (d2 + 1) (ct 5 g') x = ro_ev 5 g' x := by
    intro x
    rw [← ro_ev_more (d2 + 1) 5 x (by omega) (fun i hi => m2 i (by omega)), ev_ct]
  have hfilt : N.filter (fun s => decide (ro_ev (d2 + 1) (ct 5 g') s = 0)) = N.filter (fun s => decide (ro_pw (s + b) 16001 = 1)) := by
    refine List.filter_congr (fun s hs => ?_)
    have hFs : ro_ev 5 F s = 0 := by rw [hFr, ro_pl_root]; exact hs
    have e : ro_ev 5 g' s = 0 ↔ ro_pw (s + b) 16001 = 1 := by
      rw [g4 s, ev_cpy, ev_cpy, ev_up0, hev s hFs]
      generalize ro_pw (s + b) 16001 = y
      constructor
      · intro h; have := h.2; grind
      · intro h; exact ⟨hFs, by rw [h]; grind⟩
    rw [hg5, decide_eq_decide]
    exact e
  have hpl := ro_pl_of m1 m2 (List.Nodup.sublist List.filter_sublist hN) hs (fun x hx => by
    have := (List.mem_filter.mp hx).2
    simpa using this)
  rw [hfilt] at hpl
  intro i hi
  rw [← hpl i, ct_lt hi]
/-- division by x - r -/
theorem dvL_spec (r : ro_K) (Q : Nat → ro_K) : ∀ (n : Nat) (y : ro_K) (F : Nat → ro_K), (∀ i, i < n → F i = ro_sh Q i - r * Q i) → (∀ k, n = k + 1 → y = Q k) → (∀ i, i < n → dvL r n y F i = Q i) ∧ ∀ i, n ≤ i → dvL r n y F i = F i
  | 0, y, F, _, _ => ⟨fun i h => absurd h (Nat.not_lt_zero i), fun _ _ => rfl⟩
  | n + 1, y, F, hF, hy => by
    have hyn := hy n rfl
    obtain ⟨h1, h2⟩ := dvL_spec r Q n (F n + y * r) (va_up F n y) (fun i hi => by rw [va_up_ne _ _ (by omega)]; exact hF i (by omega)) (fun k hk => by
      subst hk
      rw [hF (k + 1) (by omega), ro_sh_s, hyn]
      grind)
    refine ⟨fun i hi => ?_, fun i hi => ?_⟩
    · show dvL r n (F n + y * r) (va_up F n y) i = Q i
      by_cases e : i = n
      · subst e; rw [h2 i (Nat.le_refl i), va_up_self]; exact hyn
      · exact h1 i (by omega)
    · show dvL r n (F n + y * r) (va_up F n y) i = F i
      rw [h2 i (by omega), va_up_ne _ _ (by omega)]
theorem pl_erase {M : List ro_K} {r : ro_K} (hM : M.Nodup) (hr : r ∈ M) (i : Nat) : ro_pl M i = ro_pl (r :: M.erase r) i := by
  have hl : (r :: M.erase r).length = M.length := by
    have := List.length_erase_of_mem hr
    have hp : 0 < M.length := List.length_pos_of_mem hr
    simp only [List.length_cons]
    omega
  refine (ro_pl_of (d := M.length) (g := ro_pl M) (ro_pl_1 M) (ro_pl_0 M) (L := r :: M.erase r) ?_ hl (fun x hx => ?_) i)
  · rw [List.nodup_cons]
    exact ⟨List.Nodup.not_mem_erase hM, List.Nodup.erase r hM⟩
  · rw [ro_pl_root]
    rcases List.mem_cons.mp hx with z | z
    · rw [z]; exact hr
    · exact List.mem_of_mem_erase z
theorem divide_spec {M : List ro_K} {r : ro_K} {F : Nat → ro_K} (hM : M.Nodup) (h4 : M.length ≤ 4) (hr : r ∈ M) (hF : ∀ i, i < 5 → F i = ro_pl M i) : ∀ i, i < 5 → dvL r 5 0 F i = ro_pl (M.erase r) i := by
  have hl : (M.erase r).length ≤ 3 := by
    have := List.length_erase_of_mem hr
    omega
  refine (dvL_spec r (ro_pl (M.erase r)) 5 0 F (fun i hi => ?_) (fun k hk => ?_)).1
  · rw [hF i hi, pl_erase hM hr i]
    rfl
  · rw [ro_pl_0 _ k (by omega)]
/-! sorted rows -/
def srt (F : Nat → ro_K) (c : Nat) : Prop := ∀ i j, i < j → j < c → (F i).val < (F j).val
theorem inK_spec (x : ro_K) (c : Nat) : ∀ (k : Nat) (F : Nat → ro_K), k ≤ c → (∀ i j, i < j → j < c + 1 → i ≠ k → j ≠ k → (F i).val < (F j).val) → (∀ j, k < j → j < c + 1 → x.val < (F j).val) → (∀ j, j < c + 1 → j ≠ k → F j ≠ x) →
    srt (va_up (inK x k F).2 (inK x k F).1 x) (c + 1) ∧ ∀ a, (∃ j, j < c + 1 ∧ va_up (inK x k F).2 (inK x k F).1 x j = a) ↔ (a = x ∨ ∃ j, j < c + 1 ∧ j ≠ k ∧ F j = a) := by
  have fin : ∀ (k : Nat) (F : Nat → ro_K), k ≤ c → (∀ i j, i < j → j < c + 1 → i ≠ k → j ≠ k → (F i).val < (F j).val) → (∀ j, k < j → j < c + 1 → x.val < (F j).val) → (∀ j, j < k → (F j).val < x.val) → srt (va_up F k x) (c + 1) ∧ ∀ a, (∃ j, j < c + 1 ∧ va_up F k x j = a) ↔ (a = x ∨ ∃ j, j < c + 1 ∧ j ≠ k ∧ F j = a) := by
    intro k F hk h1 h2 h3
    refine ⟨fun i j hij hj => ?_, fun a => ⟨?_, ?_⟩⟩
    · by_cases ei : i = k
      · subst ei; rw [va_up_self, va_up_ne _ _ (by omega)]; exact h2 j hij hj
      · rw [va_up_ne _ _ ei]
        by_cases ej : j = k
        · subst ej; rw [va_up_self]; exact h3 i hij
        · rw [va_up_ne _ _ ej]; exact h1 i j hij hj ei ej
    · rintro ⟨j, hj, e⟩
      by_cases ej : j = k
      · subst ej; rw [va_up_self] at e; exact Or.inl e.symm
      · rw [va_up_ne _ _ ej] at e; exact Or.inr ⟨j, hj, ej, e⟩
    · rintro (e | ⟨j, hj, ej, e⟩)
      · exact ⟨k, by omega, by rw [va_up_self]; exact e.symm⟩
      · exact ⟨j, hj, by rw [va_up_ne _ _ ej]; exact e⟩
  intro k
  induction k with
  | zero => intro F hk h1 h2 _; exact fin 0 F hk h1 h2 (fun j hj => absurd hj (Nat.not_lt_zero j))
  | succ k ih =>
    intro F hk h1 h2 h3
    by_cases h : x.val < (F k).val
    · have e : inK x (k + 1) F = inK x k (va_up F (k + 1) (F k)) := if_pos h
      rw [e]
      obtain ⟨p1, p2⟩ := ih (va_up F (k + 1) (F k)) (by omega) (fun i j hij hj ei ej => by
        by_cases e1 : i = k + 1
        · subst e1
          rw [va_up_self, va_up_ne _ _ (by omega)]
          exact h1 k j (by omega) hj (by omega) (by omega)
        · rw [va_up_ne _ _ e1]
          by_cases e2 : j = k + 1
          · subst e2
            rw [va_up_self]
            exact h1 i k (by omega) (by omega) (by omega) (by omega)
          · rw [va_up_ne _ _ e2]; exact h1 i j hij hj e1 e2) (fun j hkj hj => by
        by_cases e2 : j = k + 1
        · subst e2; rw [va_up_self]; exact h
        · rw [va_up_ne _ _ e2]; exact h2 j (by omega) hj) (fun j hj ej => by
        by_cases e2 : j = k + 1
        · subst e2; rw [va_up_self]; exact h3 k (by omega) (by omega)
        · rw [va_up_ne _ _ e2]; exact h3 j hj e2)
      refine ⟨p1, fun a => ?_⟩
      rw [p2 a]
      constructor
      · rintro (z | ⟨j, hj, ej, ea⟩)
        · exact Or.inl z
        · by_cases e2 : j = k + 1
          · subst e2; rw [va_up_self] at ea; exact Or.inr ⟨k, by omega, by omega, ea⟩
          · rw [va_up_ne _ _ e2] at ea; exact Or.inr ⟨j, hj, e2, ea⟩
      · rintro (z | ⟨j, hj, ej, ea⟩)
        · exact Or.inl z
        · by_cases e2 : j = k
          · subst e2; exact Or.inr ⟨j + 1, by omega, by omega, by rw [va_up_self]; exact ea⟩
          · exact Or.inr ⟨j, hj, e2, by rw [va_up_ne _ _ ej]; exact ea⟩
    · have e : inK x (k + 1) F = (k + 1, F) := if_neg h
      rw [e]
      refine fin (k + 1) F hk h1 h2 (fun j hj => ?_)
      have hne : (F k).val ≠ x.val := fun z => h3 k (by omega) (by omega) (Fin.ext z)
      by_cases e2 : j = k
      · subst e2; omega
      · have := h1 j k (by omega) (by omega) (by omega) (by omega)
        omega
end
section
section WK
variable {p : Program} {l : Launch} {e : Env} {R : Room} {s : State} {m : MethodId} {args : Array Value} {below : List Frame} {meth : Method} {c : Code} {H : Heap} {locs : List Loc} {cells slots : Nat} {Q : State → Prop} {D : va_G} {A : Nat → Prop} {H0 : Heap}
abbrev rS5 : Type := (Nat → ro_K) × (Nat → ro_K) × (Nat → ro_K) × (Nat → ro_K) × (Nat → ro_K)
theorem lk_i2l {z : Int} (h0 : 0 ≤ z) (h1 : z < 32003) : (iz z).toInt64 = lk (ro_k z) := by
  have e : (iz z).toInt64.toInt = z := by rw [Int32.toInt_toInt64, iz_toInt (by omega) (by omega)]
  rw [lz_self (iz z).toInt64, e]
  exact nb_k rfl h0 h1 rfl
def ws_R_keepRootsOnce : List Cond := .code y_R_keepRootsOnce c_R_keepRootsOnce 1 none :: kb
set_option maxHeartbeats 4000000 in
set_option maxRecDepth 100000 in
/-- the product over the different roots is left -/
theorem m_R_keepRootsOnce (l : Launch) (D : va_G) (cJ : ClassId) (h fo wh pt rs sq on tw : Nat) (cn : Int) (F r S a b : Nat → ro_K) (d : Nat) (hm : mo F d) (h1 : 1 ≤ d) : Met l y_R_keepRootsOnce ws_R_keepRootsOnce ({ frames := 3, cells := 0, slots := 0, locals := 87 }) (rc_Pc D vC [(cJ, .long)] [.ref h] [(h, rR fo cn wh pt rs sq on tw), (wh, ka cJ 5 F), (rs, ka cJ 5 r), (sq, ka cJ 8 S), (on, ka cJ 5 a), (tw, ka cJ 5 b)]) (va_Qv (fun (u : rS5) => ∃ L : List ro_K, L.Nodup ∧ L.length ≤ 4 ∧ (∀ i, i < 5 → u.1 i = ro_pl L i) ∧ ∀ x, x ∈ L ↔ ro_ev 5 F x = 0) (fun u t => va_P D vC [(h, rR fo cn wh pt rs sq on tw), (wh, ka cJ 5 u.1), (rs, ka cJ 5 u.2.1), (sq, ka cJ 8 u.2.2.1), (on, ka cJ 5 u.2.2.2.1), (tw, ka cJ 5 u.2.2.2.2)] t.heap) (rc_A [(h, rR fo cn wh pt rs sq on tw), (wh, ka cJ 5 F), (rs, ka cJ 5 r), (sq, ka cJ 8 S), (on, ka cJ 5 a), (tw, ka cJ 5 b)])) 0 0 (rc_A [(h, rR fo cn wh pt rs sq on tw), (wh, ka cJ 5 F), (rs, ka cJ 5 r), (sq, ka cJ 8 S), (on, ka cJ 5 a), (tw, ka cJ 5 b)]) := by
  refine Met.ofW (cc := c_R_keepRootsOnce) (maxL := 1) (ret := none) (by decide) rfl ?_
  intro p e s m args below meth c s₁ B hml hv
  obtain ⟨rfl, hP, hK, hD0, hN⟩ := hv
  have hx := B.exec
  have hb := B.bytes
  have hr := B.returns
  have hts0 := atoms_spec (ws := ws_R_keepRootsOnce) B.pre
  have hts : ∀ w ∈ kb, w.before _ s = true := fun w h => hts0 w (List.mem_cons_of_mem _ h)
  have hown : s.vm.findClass R_R = some m.cls := findClass_of_methodNamed B.named
  have hlocks := B.notSynchronized
  have hD := rc_self hD0
  generalize hAe : rc_A [(h, rR fo cn wh pt rs sq on tw), (wh, ka cJ 5 F), (rs, ka cJ 5 r), (sq, ka cJ 8 S), (on, ka cJ 5 a), (tw, ka cJ 5 b)] = A at hD ⊢
  have hS : va_S A s.heap s.heap [] := va_S.rf
  have hl := lv_entry ([.ref h]) (n := 1) (Nat.le_of_ble_eq_true rfl)
  rw [lg_entry_eq]
  generalize (lg_sl ([.ref h]) ++ List.replicate (1 - (lg_sl ([.ref h])).length) Slot.unset).toArray = ls at hl ⊢

  have hl : lv_has ls 1 [(0, .ref h)] := hl
  have hspec := keep_spec (r := r) (S := S) (a := a) (b := b) hm h1
  obtain ⟨⟨sw, G, Lx⟩, hU⟩ : ∃ U, euB 5 false (va_cpy F a 0 0 5) (va_cpy (va_up (rsF 0 32003 d F r S).1 1 ((rsF 0 32003 d F r S).1 1 - 1)) b 0 0 5) = U := ⟨_, rfl⟩
  rw [hU] at hspec
  refine lv_aload_n hx hb d_R_keepRootsOnce_0 rfl (lv_at hl 0 rfl) ?_
  refine lv_lconst (v := lk 0) hx hb d_R_keepRootsOnce_1 rfl ?_
  refine rz_sipush hx hb d_R_keepRootsOnce_2 (by decide) ?_
  refine lv_aload_n hx hb d_R_keepRootsOnce_5 rfl (lv_at hl 0 rfl) ?_
  refine va_get (D := D) (ci := 1) (v := .ref wh) (C := R_R) (T := T_R) (N := 8) hx hb hts in_R hown hK hP 0 rfl rfl 2 (by decide) (hts _ kw_32) (fun _ h9 => h9) rfl d_R_keepRootsOnce_6 ?_
  refine rc_callv (va_runV (As := [.long (lk 0), .int (iz 32003), .ref wh]) (rest := []) ⟨hx, hb, hml, hown, hts⟩ (m_R_raise l D cJ h fo wh pt rs sq on tw cn wh d 32003 0 F r S (mo_kd hm) (Or.inl rfl)) (cwV 3 hts (kb_gi (kb_c kw_365 (kb_c kw_367 (kb_c ks_R_raise (kb_c kw_2 (kb_c kw_368 kb_all)))))) rfl rfl rfl (by decide +kernel) ⟨Nat.le_of_ble_eq_true rfl, Nat.le_of_ble_eq_true rfl⟩) ⟨rc_blind, va_recv hK hP (ci := 1) (q0 := 0) rfl rfl, rc_pre hP hD hK hN [0, 1, 2, 3] rfl rfl [0] rfl⟩ rfl rfl hl.1 rfl (lv_room (Nat.le_of_ble_eq_true rfl)) d_R_keepRootsOnce_9 ⟨Nat.zero_le _, Nat.zero_le _⟩) hP hD hS [0, 1, 2, 3] rfl (fun _ => rfl) (fun u1 H locs hw1 hP hD hS => ?_)
  have hP : va_P D vC [(h, rR fo cn wh pt rs sq on tw), (wh, ka cJ 5 F), (rs, ka cJ 5 (rsF 0 32003 d F r S).1), (sq, ka cJ 8 (rsF 0 32003 d F r S).2), (on, ka cJ 5 a), (tw, ka cJ 5 b)] H := hP
  have hD : va_D A [(h, rR fo cn wh pt rs sq on tw), (wh, ka cJ 5 F), (rs, ka cJ 5 (rsF 0 32003 d F r S).1), (sq, ka cJ 8 (rsF 0 32003 d F r S).2), (on, ka cJ 5 a), (tw, ka cJ 5 b)] := hD
  refine lv_aload_n hx hb d_R_keepRootsOnce_12 rfl (lv_at hl 0 rfl) ?_
  refine va_get (D := D) (ci := 1) (v := .ref rs) (C := R_R) (T := T_R) (N := 8) hx hb hts in_R hown hK hP 0 rfl rfl 4 (by decide) (hts _ kw_34) (fun _ h9 => h9) rfl d_R_keepRootsOnce_13 ?_
  refine rz_iconst hx hb d_R_keepRootsOnce_16 ?_
  refine lv_aload_n hx hb d_R_keepRootsOnce_17 rfl (lv_at hl 0 rfl) ?_
  refine va_get (D := D) (ci := 1) (v := .ref rs) (C := R_R) (T := T_R) (N := 8) hx hb hts in_R hown hK hP 0 rfl rfl 4 (by decide) (hts _ kw_34) (fun _ h9 => h9) rfl d_R_keepRootsOnce_18 ?_
  refine rz_iconst hx hb d_R_keepRootsOnce_21 ?_
  refine rk_ld hx hb hK hP 2 0 rfl rfl 1 d_R_keepRootsOnce_22 ?_
  refine lv_lconst (v := lk 1) hx hb d_R_keepRootsOnce_23 rfl ?_
  refine rlq_lsub hx hb 64004 (lq_of (lk_p ((rsF 0 32003 d F r S).1 1)) (by decide)) (lq_of (lk_p 1) (by decide)) d_R_keepRootsOnce_24 (fun v2 hv2 => ?_)
  refine rc_calll (va_runSN (As := [.long v2]) (rest := [.int (iz 1), .ref rs]) ⟨hx, hb, hml, hown, hts⟩ (m_O_number l D v2) ⟨va_cnB 1 hts (kb_gi (kb_c kw_125 kb_all)) rfl rfl rfl hN.2.2.1 (hts _ kw_1) (by decide +kernel) ⟨Nat.le_of_ble_eq_true rfl, Nat.le_of_ble_eq_true rfl⟩, hts _ kw_124, trivial⟩ ⟨rc_blind, rc_pre hP hD hK hN [] rfl rfl [] rfl⟩ rfl rfl hl.1 rfl (lv_room (Nat.le_of_ble_eq_true rfl)) d_R_keepRootsOnce_25 ⟨Nat.zero_le _, Nat.zero_le _⟩) hP hD hS [] rfl (fun _ => rfl) (fun r3 u4 H locs hw4 hP hD hS => ?_)
  rw [hv2.2.2] at hw4
  subst hw4
  have hP : va_P D vC [(h, rR fo cn wh pt rs sq on tw), (wh, ka cJ 5 F), (rs, ka cJ 5 (rsF 0 32003 d F r S).1), (sq, ka cJ 8 (rsF 0 32003 d F r S).2), (on, ka cJ 5 a), (tw, ka cJ 5 b)] H := hP
  have hD : va_D A [(h, rR fo cn wh pt rs sq on tw), (wh, ka cJ 5 F), (rs, ka cJ 5 (rsF 0 32003 d F r S).1), (sq, ka cJ 8 (rsF 0 32003 d F r S).2), (on, ka cJ 5 a), (tw, ka cJ 5 b)] := hD
  refine rk_st hx hb hK hP hD hS 2 0 rfl rfl 1 d_R_keepRootsOnce_28 (fun H locs hP hD hS => ?_)
  have hP : va_P D vC [(h, rR fo cn wh pt rs sq on tw), (wh, ka cJ 5 F), (rs, ka cJ 5 (va_up (rsF 0 32003 d F r S).1 1 (((rsF 0 32003 d F r S).1 1) - 1))), (sq, ka cJ 8 (rsF 0 32003 d F r S).2), (on, ka cJ 5 a), (tw, ka cJ 5 b)] H := hP
  have hD : va_D A [(h, rR fo cn wh pt rs sq on tw), (wh, ka cJ 5 F), (rs, ka cJ 5 (va_up (rsF 0 32003 d F r S).1 1 (((rsF 0 32003 d F r S).1 1) - 1))), (sq, ka cJ 8 (rsF 0 32003 d F r S).2), (on, ka cJ 5 a), (tw, ka cJ 5 b)] := hD
  refine lv_aload_n hx hb d_R_keepRootsOnce_29 rfl (lv_at hl 0 rfl) ?_
  refine lv_aload_n hx hb d_R_keepRootsOnce_30 rfl (lv_at hl 0 rfl) ?_
  refine va_get (D := D) (ci := 1) (v := .ref wh) (C := R_R) (T := T_R) (N := 8) hx hb hts in_R hown hK hP 0 rfl rfl 2 (by decide) (hts _ kw_32) (fun _ h9 => h9) rfl d_R_keepRootsOnce_31 ?_
  cases sw with
  | false =>
    refine rc_callr (va_runV (As := [.ref wh]) (rest := []) ⟨hx, hb, hml, hown, hts⟩ (m_R_commonWithRaised l D cJ h fo wh pt rs sq on tw cn wh F (va_up (rsF 0 32003 d F r S).1 1 ((rsF 0 32003 d F r S).1 1 - 1)) a b (false, G, Lx) hU) (cwV 1 hts (kb_gi (kb_c kw_382 (kb_c kw_384 (kb_c ks_R_commonWithRaised (kb_c kw_2 (kb_c kw_385 kb_all)))))) rfl rfl rfl (by decide +kernel) ⟨Nat.le_of_ble_eq_true rfl, Nat.le_of_ble_eq_true rfl⟩) ⟨rc_blind, va_recv hK hP (ci := 1) (q0 := 0) rfl rfl, rc_pre hP hD hK hN [0, 1, 2, 4, 5] rfl rfl [0] rfl⟩ rfl rfl hl.1 rfl (lv_room (Nat.le_of_ble_eq_true rfl)) d_R_keepRootsOnce_34 ⟨Nat.zero_le _, Nat.zero_le _⟩) hP hD hS [0, 1, 2, 4, 5] rfl (fun _ => rfl) (fun u5 H locs hw5 hP hD hS => ?_)
    have hP : va_P D vC [(h, rR fo cn wh pt rs sq on tw), (wh, ka cJ 5 F), (rs, ka cJ 5 (va_up (rsF 0 32003 d F r S).1 1 (((rsF 0 32003 d F r S).1 1) - 1))), (sq, ka cJ 8 (rsF 0 32003 d F r S).2), (on, ka cJ 5 G), (tw, ka cJ 5 Lx)] H := hP
    have hD : va_D A [(h, rR fo cn wh pt rs sq on tw), (wh, ka cJ 5 F), (rs, ka cJ 5 (va_up (rsF 0 32003 d F r S).1 1 (((rsF 0 32003 d F r S).1 1) - 1))), (sq, ka cJ 8 (rsF 0 32003 d F r S).2), (on, ka cJ 5 G), (tw, ka cJ 5 Lx)] := hD
    refine lv_aload_n hx hb d_R_keepRootsOnce_37 rfl (lv_at hl 0 rfl) ?_
    refine va_get (D := D) (ci := 1) (v := .ref wh) (C := R_R) (T := T_R) (N := 8) hx hb hts in_R hown hK hP 0 rfl rfl 2 (by decide) (hts _ kw_32) (fun _ h9 => h9) rfl d_R_keepRootsOnce_38 ?_
    refine rc_callv (va_runS (As := [.ref on, .ref wh]) (rest := []) ⟨hx, hb, hml, hown, hts⟩ (m_R_copy l D cJ on wh 5 G F (by omega)) (cwS 2 hts (kb_gi (kb_c kw_352 (kb_c kw_353 (kb_c kw_2 (kb_c kw_354 kb_all))))) rfl rfl rfl (by decide +kernel) ⟨Nat.le_of_ble_eq_true rfl, Nat.le_of_ble_eq_true rfl⟩) ⟨rc_blind, rc_pre hP hD hK hN [4, 1] rfl rfl [0] rfl⟩ rfl rfl hl.1 rfl (lv_room (Nat.le_of_ble_eq_true rfl)) d_R_keepRootsOnce_41 ⟨Nat.zero_le _, Nat.zero_le _⟩) hP hD hS [4, 1] rfl (fun _ => rfl) (fun u6 H locs hw6 hP hD hS => ?_)
    have hP : va_P D vC [(h, rR fo cn wh pt rs sq on tw), (wh, ka cJ 5 (va_cpy G F 0 0 5)), (rs, ka cJ 5 (va_up (rsF 0 32003 d F r S).1 1 (((rsF 0 32003 d F r S).1 1) - 1))), (sq, ka cJ 8 (rsF 0 32003 d F r S).2), (on, ka cJ 5 G), (tw, ka cJ 5 Lx)] H := hP
    have hD : va_D A [(h, rR fo cn wh pt rs sq on tw), (wh, ka cJ 5 (va_cpy G F 0 0 5)), (rs, ka cJ 5 (va_up (rsF 0 32003 d F r S).1 1 (((rsF 0 32003 d F r S).1 1) - 1))), (sq, ka cJ 8 (rsF 0 32003 d F r S).2), (on, ka cJ 5 G), (tw, ka cJ 5 Lx)] := hD
    refine W.vret hx hb hr (fun t ht hW => ⟨⟨(va_cpy G F 0 0 5, (va_up (rsF 0 32003 d F r S).1 1 ((rsF 0 32003 d F r S).1 1 - 1)), (rsF 0 32003 d F r S).2, G, Lx), rfl, ?_, rc_out ht hP⟩, hS.F ht⟩) hS.2.2 d_R_keepRootsOnce_44
    obtain ⟨L, l1, l2, l3, l4⟩ := hspec
    exact ⟨L, l1, l2, fun i hi => by show va_cpy G F 0 0 5 i = _; rw [cpy5 G F hi]; exact l3 i hi, l4⟩
  | true =>
    refine rc_callr (va_runV (As := [.ref wh]) (rest := []) ⟨hx, hb, hml, hown, hts⟩ (m_R_commonWithRaised l D cJ h fo wh pt rs sq on tw cn wh F (va_up (rsF 0 32003 d F r S).1 1 ((rsF 0 32003 d F r S).1 1 - 1)) a b (true, G, Lx) hU) (cwV 1 hts (kb_gi (kb_c kw_382 (kb_c kw_384 (kb_c ks_R_commonWithRaised (kb_c kw_2 (kb_c kw_385 kb_all)))))) rfl rfl rfl (by decide +kernel) ⟨Nat.le_of_ble_eq_true rfl, Nat.le_of_ble_eq_true rfl⟩) ⟨rc_blind, va_recv hK hP (ci := 1) (q0 := 0) rfl rfl, rc_pre hP hD hK hN [0, 1, 2, 4, 5] rfl rfl [0] rfl⟩ rfl rfl hl.1 rfl (lv_room (Nat.le_of_ble_eq_true rfl)) d_R_keepRootsOnce_34 ⟨Nat.zero_le _, Nat.zero_le _⟩) hP hD hS [0, 1, 2, 4, 5] rfl (fun _ => rfl) (fun u7 H locs hw7 hP hD hS => ?_)
    have hP : va_P D vC [(h, rR fo cn wh pt rs sq on tw), (wh, ka cJ 5 F), (rs, ka cJ 5 (va_up (rsF 0 32003 d F r S).1 1 (((rsF 0 32003 d F r S).1 1) - 1))), (sq, ka cJ 8 (rsF 0 32003 d F r S).2), (on, ka cJ 5 Lx), (tw, ka cJ 5 G)] H := hP
    have hD : va_D A [(h, rR fo cn wh pt rs sq on tw), (wh, ka cJ 5 F), (rs, ka cJ 5 (va_up (rsF 0 32003 d F r S).1 1 (((rsF 0 32003 d F r S).1 1) - 1))), (sq, ka cJ 8 (rsF 0 32003 d F r S).2), (on, ka cJ 5 Lx), (tw, ka cJ 5 G)] := hD
    refine lv_aload_n hx hb d_R_keepRootsOnce_37 rfl (lv_at hl 0 rfl) ?_
    refine va_get (D := D) (ci := 1) (v := .ref wh) (C := R_R) (T := T_R) (N := 8) hx hb hts in_R hown hK hP 0 rfl rfl 2 (by decide) (hts _ kw_32) (fun _ h9 => h9) rfl d_R_keepRootsOnce_38 ?_
    refine rc_callv (va_runS (As := [.ref tw, .ref wh]) (rest := []) ⟨hx, hb, hml, hown, hts⟩ (m_R_copy l D cJ tw wh 5 G F (by omega)) (cwS 2 hts (kb_gi (kb_c kw_352 (kb_c kw_353 (kb_c kw_2 (kb_c kw_354 kb_all))))) rfl rfl rfl (by decide +kernel) ⟨Nat.le_of_ble_eq_true rfl, Nat.le_of_ble_eq_true rfl⟩) ⟨rc_blind, rc_pre hP hD hK hN [5, 1] rfl rfl [0] rfl⟩ rfl rfl hl.1 rfl (lv_room (Nat.le_of_ble_eq_true rfl)) d_R_keepRootsOnce_41 ⟨Nat.zero_le _, Nat.zero_le _⟩) hP hD hS [5, 1] rfl (fun _ => rfl) (fun u8 H locs hw8 hP hD hS => ?_)
    have hP : va_P D vC [(h, rR fo cn wh pt rs sq on tw), (wh, ka cJ 5 (va_cpy G F 0 0 5)), (rs, ka cJ 5 (va_up (rsF 0 32003 d F r S).1 1 (((rsF 0 32003 d F r S).1 1) - 1))), (sq, ka cJ 8 (rsF 0 32003 d F r S).2), (on, ka cJ 5 Lx), (tw, ka cJ 5 G)] H := hP
    have hD : va_D A [(h, rR fo cn wh pt rs sq on tw), (wh, ka cJ 5 (va_cpy G F 0 0 5)), (rs, ka cJ 5 (va_up (rsF 0 32003 d F r S).1 1 (((rsF 0 32003 d F r S).1 1) - 1))), (sq, ka cJ 8 (rsF 0 32003 d F r S).2), (on, ka cJ 5 Lx), (tw, ka cJ 5 G)] := hD
    refine W.vret hx hb hr (fun t ht hW => ⟨⟨(va_cpy G F 0 0 5, (va_up (rsF 0 32003 d F r S).1 1 ((rsF 0 32003 d F r S).1 1 - 1)), (rsF 0 32003 d F r S).2, Lx, G), rfl, ?_, rc_out ht hP⟩, hS.F ht⟩) hS.2.2 d_R_keepRootsOnce_44
    obtain ⟨L, l1, l2, l3, l4⟩ := hspec
    exact ⟨L, l1, l2, fun i hi => by show va_cpy G F 0 0 5 i = _; rw [cpy5 G F hi]; exact l3 i hi, l4⟩
/-- the part that is looked at: the product over some of the roots, which agree on all that was tried -/
def prt (M : List ro_K) (F : Nat → ro_K) (z : Int) : Prop := ∃ N : List ro_K, N.Nodup ∧ N ≠ [] ∧ N.length ≤ 4 ∧ (∀ x ∈ N, x ∈ M) ∧ (∀ i, i < 5 → F i = ro_pl N i) ∧ ∀ y : Int, 0 ≤ y → y < z → ∀ s ∈ N, ∀ q ∈ N, (ro_pw (s + ro_k y) 16001 = 1 ↔ ro_pw (q + ro_k y) 16001 = 1)
theorem pl_mo {N : List ro_K} {F : Nat → ro_K} (h4 : N.length ≤ 4) (hF : ∀ i, i < 5 → F i = ro_pl N i) : mo F N.length := ⟨by omega, by rw [hF _ (by omega)]; exact ro_pl_1 N, fun i q1 q2 => by rw [hF i q2]; exact ro_pl_0 N i q1⟩
theorem prt_one {M : List ro_K} {F : Nat → ro_K} {z : Int} (h : prt M F z) (hz : 32003 ≤ z ∨ kd F 5 ≤ 1) : ∃ x ∈ M, F 0 = -x := by
  obtain ⟨N, n1, n2, n3, n4, n5, n6⟩ := h
  have hk := mo_kd (pl_mo n3 n5)
  have hone : ∃ x, N = [x] := by
    match N, n1, n2, hk, n6 with
    | [], _, n2, _, _ => exact absurd rfl n2
    | [x], _, _, _, _ => exact ⟨x, rfl⟩
    | x :: y :: l, n1, _, hk, n6 =>
      exfalso
      rcases hz with hz | hz
      · have hne : x ≠ y := by
          rw [List.nodup_cons] at n1
          intro e
          exact n1.1 (by rw [e]; exact List.mem_cons_self)
        obtain ⟨b, hb⟩ := ro_apart hne
        have h6 := n6 (b.val : Int) (by omega) (by have := b.isLt; omega) x List.mem_cons_self y (List.mem_cons_of_mem _ List.mem_cons_self)
        rw [ro_k_back] at h6
        rcases hb with ⟨p1, p2⟩ | ⟨p1, p2⟩
        · exact p2 (h6.mp p1)
        · exact p1 (h6.mpr p2)
      · simp only [List.length_cons] at hk
        omega
  obtain ⟨x, rfl⟩ := hone
  refine ⟨x, n4 x List.mem_cons_self, ?_⟩
  rw [n5 0 (by decide)]
  show ro_sh (ro_pl []) 0 - x * ro_pl [] 0 = -x
  rw [ro_sh_0]
  show 0 - x * (if (0 : Nat) = 0 then (1 : ro_K) else 0) = -x
  rw [if_pos rfl]
  grind
/-- one number more is tried: the common part is taken, or, where it is a number, nothing changes -/
theorem prt_step {M : List ro_K} {F r S a c G : Nat → ro_K} {z : Int} {n : Nat} (h : prt M F z) (hn : kd F 5 = (n : Int)) (hz0 : 0 ≤ z) (hG : (euB 5 false (va_cpy F a 0 0 5) (va_cpy (va_up (rsF (ro_k z) 16001 n F r S).1 0 ((rsF (ro_k z) 16001 n F r S).1 0 - 1)) c 0 0 5)).2.1 = G) : (0 < kd G 5 → prt M (va_cpy G F 0 0 5) (z + 1)) ∧ (kd G 5 ≤ 0 → prt M F (z + 1)) := by
  obtain ⟨N, n1, n2, n3, n4, n5, n6⟩ := h
  have h1 : 1 ≤ N.length := List.length_pos_iff.mpr n2
  have hk := mo_kd (pl_mo n3 n5)
  have en : n = N.length := by omega
  subst en
  obtain ⟨-, hc⟩ := common_spec (r := r) (S := S) (a := a) (c := c) (b := ro_k z) n1 h1 n3 n5
  rw [hG] at hc
  have hl4 : (N.filter (fun s => decide (ro_pw (s + ro_k z) 16001 = 1))).length ≤ 4 := Nat.le_trans (List.length_filter_le _ _) n3
  have hkG := mo_kd (pl_mo hl4 hc)
  refine ⟨fun hp => ?_, fun hp => ?_⟩
  · refine ⟨N.filter (fun s => decide (ro_pw (s + ro_k z) 16001 = 1)), List.Nodup.sublist List.filter_sublist n1, fun e => ?_, hl4, fun x hx => n4 x (List.mem_filter.mp hx).1, fun i hi => by rw [cpy5 G F hi]; exact hc i hi, fun y y0 y1 s hs q hq => ?_⟩
    · rw [e] at hkG
      simp only [List.length_nil] at hkG
      omega
    · have hs2 := List.mem_filter.mp hs
      have hq2 := List.mem_filter.mp hq
      by_cases e : y = z
      · subst e
        have a1 : ro_pw (s + ro_k y) 16001 = 1 := by simpa using hs2.2
        have a2 : ro_pw (q + ro_k y) 16001 = 1 := by simpa using hq2.2
        exact ⟨fun _ => a2, fun _ => a1⟩
      · exact n6 y y0 (by omega) s hs2.1 q hq2.1
  · have hnil : N.filter (fun s => decide (ro_pw (s + ro_k z) 16001 = 1)) = [] := List.length_eq_zero_iff.mp (by omega)
    refine ⟨N, n1, n2, n3, n4, n5, fun y y0 y1 s hs q hq => ?_⟩
    by_cases e : y = z
    · subst e
      have no : ∀ v ∈ N, ¬ ro_pw (v + ro_k y) 16001 = 1 := by
        intro v hv hv1
        have : v ∈ N.filter (fun s => decide (ro_pw (s + ro_k y) 16001 = 1)) := List.mem_filter.mpr ⟨hv, by simpa using hv1⟩
        rw [hnil] at this
        exact absurd this List.not_mem_nil
      exact ⟨fun z1 => absurd z1 (no s hs), fun z1 => absurd z1 (no q hq)⟩
    · exact n6 y y0 (by omega) s hs q hq
set_option maxHeartbeats 4000000 in
set_option maxRecDepth 100000 in
theorem lo_R_oneRoot {fo wh pt rs sq on tw h : Nat} {cn : Int} {cJ : ClassId} {M : List ro_K} {Y : Nat → ro_K} (hx : p.tables.exec = Jvm.exec) (hb : c.code = c_R_oneRoot) (hml : c.maxLocals = 3) (hown : s.vm.findClass R_R = some m.cls) (hts : ∀ w ∈ kb, w.before args s = true) (hK : va_K D vC [(cJ, .long)] s) (hN : rc_N s) (hR : 3 ≤ R.frames ∧ 87 ≤ R.locals) (hend : ∀ (F r S a b : Nat → ro_K) (H : Heap) (locs : List Loc) (ls : Array Slot), (∃ x ∈ M, F 0 = -x) → va_P D vC [(h, rR fo cn wh pt rs sq on tw), (wh, ka cJ 5 Y), (pt, ka cJ 5 F), (rs, ka cJ 5 r), (sq, ka cJ 8 S), (on, ka cJ 5 a), (tw, ka cJ 5 b)] H → va_D A [(h, rR fo cn wh pt rs sq on tw), (wh, ka cJ 5 Y), (pt, ka cJ 5 F), (rs, ka cJ 5 r), (sq, ka cJ 8 S), (on, ka cJ 5 a), (tw, ka cJ 5 b)] → va_S A H0 H locs → lv_has ls 3 [(0, .ref h)] → W p l e R s m args below meth c H locs 0 0 Q (F0 m 91 ls [])) : ∀ (k : Nat) (F r S a b : Nat → ro_K) (z : Int) (H : Heap) (locs : List Loc) (ls : Array Slot), z = 32003 - (k : Int) → 0 ≤ z → prt M F z → va_P D vC [(h, rR fo cn wh pt rs sq on tw), (wh, ka cJ 5 Y), (pt, ka cJ 5 F), (rs, ka cJ 5 r), (sq, ka cJ 8 S), (on, ka cJ 5 a), (tw, ka cJ 5 b)] H → va_D A [(h, rR fo cn wh pt rs sq on tw), (wh, ka cJ 5 Y), (pt, ka cJ 5 F), (rs, ka cJ 5 r), (sq, ka cJ 8 S), (on, ka cJ 5 a), (tw, ka cJ 5 b)] → va_S A H0 H locs → lv_has ls 3 [(1, .int (iz z)), (0, .ref h)] → W p l e R s m args below meth c H locs 0 0 Q (F0 m 13 ls []) := by
  intro k
  induction k with
  | zero =>
    intro F r S a b z H locs ls hz hz0 hp hP hD hS hl
    refine lv_iload_n hx hb d_R_oneRoot_13 rfl (lv_at hl 0 rfl) ?_
    refine rz_sipush hx hb d_R_oneRoot_14 (by decide) ?_
    refine rz_icmp_ge (tgt := 91) hx hb d_R_oneRoot_17 (by decide) (fun hc => ?_) (fun hc => absurd hc (by omega))
    exact hend F r S a b H locs ls (prt_one hp (Or.inl (by omega))) hP hD hS (lv_sub hl [1] rfl)
  | succ k ih =>
    intro F r S a b z H locs ls hz hz0 hp hP hD hS hl
    have hkl := kd_lo F 5
    refine lv_iload_n hx hb d_R_oneRoot_13 rfl (lv_at hl 0 rfl) ?_
    refine rz_sipush hx hb d_R_oneRoot_14 (by decide) ?_
    refine rz_icmp_ge (tgt := 91) hx hb d_R_oneRoot_17 (by decide) (fun hc => absurd hc (by omega)) (fun hc => ?_)
    refine lv_aload_n hx hb d_R_oneRoot_20 rfl (lv_at hl 1 rfl) ?_
    refine va_get (D := D) (ci := 1) (v := .ref pt) (C := R_R) (T := T_R) (N := 8) hx hb hts in_R hown hK hP 0 rfl rfl 3 (by decide) (hts _ kw_33) (fun _ h9 => h9) rfl d_R_oneRoot_21 ?_
    refine rc_calli (va_runSN (As := [.ref pt]) (rest := []) ⟨hx, hb, hml, hown, hts⟩ (m_O_degree l D cJ pt 5 F (by omega)) ⟨va_cnB 1 hts (kb_gi (kb_c kw_330 kb_all)) rfl rfl rfl hN.1 (hts _ kw_1) (by decide +kernel) ⟨Nat.le_trans (by decide) hR.1, Nat.le_trans (by decide) hR.2⟩, hts _ kw_329, trivial⟩ ⟨rc_blind, rc_pre hP hD hK hN [2] rfl rfl [0] rfl⟩ rfl rfl hl.1 rfl (lv_room (Nat.le_of_ble_eq_true rfl)) d_R_oneRoot_24 ⟨Nat.zero_le _, Nat.zero_le _⟩) hP hD hS [2] rfl (fun _ => rfl) (fun r1 u2 H locs hw2 hP hD hS => ?_)
    subst hw2
    have hP : va_P D vC [(h, rR fo cn wh pt rs sq on tw), (wh, ka cJ 5 Y), (pt, ka cJ 5 F), (rs, ka cJ 5 r), (sq, ka cJ 8 S), (on, ka cJ 5 a), (tw, ka cJ 5 b)] H := hP
    have hD : va_D A [(h, rR fo cn wh pt rs sq on tw), (wh, ka cJ 5 Y), (pt, ka cJ 5 F), (rs, ka cJ 5 r), (sq, ka cJ 8 S), (on, ka cJ 5 a), (tw, ka cJ 5 b)] := hD
    refine rz_iconst hx hb d_R_oneRoot_27 ?_
    refine rz_icmp_le (tgt := 91) hx hb d_R_oneRoot_28 (by decide) (fun hc3 => ?_) (fun hc3 => ?_)
    · exact hend F r S a b H locs ls (prt_one hp (Or.inr (by omega))) hP hD hS (lv_sub hl [1] rfl)
    · obtain ⟨⟨sw, G, Lx⟩, hU⟩ : ∃ U, euB 5 false (va_cpy F a 0 0 5) (va_cpy (va_up (rsF (ro_k z) 16001 (kd F 5).toNat F r S).1 0 ((rsF (ro_k z) 16001 (kd F 5).toNat F r S).1 0 - 1)) b 0 0 5) = U := ⟨_, rfl⟩
      obtain ⟨hs1, hs2⟩ := prt_step (G := G) (a := a) (c := b) (r := r) (S := S) (n := (kd F 5).toNat) hp (by omega) hz0 (by rw [hU])
      have hkG := kd_lo G 5
      refine lv_aload_n hx hb d_R_oneRoot_31 rfl (lv_at hl 1 rfl) ?_
      refine lv_iload_n hx hb d_R_oneRoot_32 rfl (lv_at hl 0 rfl) ?_
      refine lv_i2l (v := lk (ro_k z)) hx hb d_R_oneRoot_33 (lk_i2l hz0 (by omega)) ?_
      refine rz_sipush hx hb d_R_oneRoot_34 (by decide) ?_
      refine lv_aload_n hx hb d_R_oneRoot_37 rfl (lv_at hl 1 rfl) ?_
      refine va_get (D := D) (ci := 1) (v := .ref pt) (C := R_R) (T := T_R) (N := 8) hx hb hts in_R hown hK hP 0 rfl rfl 3 (by decide) (hts _ kw_33) (fun _ h9 => h9) rfl d_R_oneRoot_38 ?_
      refine rc_callv (va_runV (As := [.long (lk (ro_k z)), .int (iz 16001), .ref pt]) (rest := []) ⟨hx, hb, hml, hown, hts⟩ (m_R_raise l D cJ h fo wh pt rs sq on tw cn pt (kd F 5).toNat 16001 (ro_k z) F r S (by omega) (Or.inr rfl)) (cwV 3 hts (kb_gi (kb_c kw_365 (kb_c kw_367 (kb_c ks_R_raise (kb_c kw_2 (kb_c kw_368 kb_all)))))) rfl rfl rfl (by decide +kernel) ⟨Nat.le_trans (by decide) hR.1, Nat.le_trans (by decide) hR.2⟩) ⟨rc_blind, va_recv hK hP (ci := 1) (q0 := 0) rfl rfl, rc_pre hP hD hK hN [0, 2, 3, 4] rfl rfl [0] rfl⟩ rfl rfl hl.1 rfl (lv_room (Nat.le_of_ble_eq_true rfl)) d_R_oneRoot_41 ⟨Nat.zero_le _, Nat.zero_le _⟩) hP hD hS [0, 2, 3, 4] rfl (fun _ => rfl) (fun u4 H locs hw4 hP hD hS => ?_)
      have hP : va_P D vC [(h, rR fo cn wh pt rs sq on tw), (wh, ka cJ 5 Y), (pt, ka cJ 5 F), (rs, ka cJ 5 (rsF (ro_k z) 16001 (kd F 5).toNat F r S).1), (sq, ka cJ 8 (rsF (ro_k z) 16001 (kd F 5).toNat F r S).2), (on, ka cJ 5 a), (tw, ka cJ 5 b)] H := hP
      have hD : va_D A [(h, rR fo cn wh pt rs sq on tw), (wh, ka cJ 5 Y), (pt, ka cJ 5 F), (rs, ka cJ 5 (rsF (ro_k z) 16001 (kd F 5).toNat F r S).1), (sq, ka cJ 8 (rsF (ro_k z) 16001 (kd F 5).toNat F r S).2), (on, ka cJ 5 a), (tw, ka cJ 5 b)] := hD
      refine lv_aload_n hx hb d_R_oneRoot_44 rfl (lv_at hl 1 rfl) ?_
      refine va_get (D := D) (ci := 1) (v := .ref rs) (C := R_R) (T := T_R) (N := 8) hx hb hts in_R hown hK hP 0 rfl rfl 4 (by decide) (hts _ kw_34) (fun _ h9 => h9) rfl d_R_oneRoot_45 ?_
      refine rz_iconst hx hb d_R_oneRoot_48 ?_
      refine lv_aload_n hx hb d_R_oneRoot_49 rfl (lv_at hl 1 rfl) ?_
      refine va_get (D := D) (ci := 1) (v := .ref rs) (C := R_R) (T := T_R) (N := 8) hx hb hts in_R hown hK hP 0 rfl rfl 4 (by decide) (hts _ kw_34) (fun _ h9 => h9) rfl d_R_oneRoot_50 ?_
      refine rz_iconst hx hb d_R_oneRoot_53 ?_
      refine rk_ld hx hb hK hP 3 0 rfl rfl 0 d_R_oneRoot_54 ?_
      refine lv_lconst (v := lk 1) hx hb d_R_oneRoot_55 rfl ?_
      refine rlq_lsub hx hb 64004 (lq_of (lk_p ((rsF (ro_k z) 16001 (kd F 5).toNat F r S).1 0)) (by decide)) (lq_of (lk_p 1) (by decide)) d_R_oneRoot_56 (fun v5 hv5 => ?_)
      refine rc_calll (va_runSN (As := [.long v5]) (rest := [.int (iz 0), .ref rs]) ⟨hx, hb, hml, hown, hts⟩ (m_O_number l D v5) ⟨va_cnB 1 hts (kb_gi (kb_c kw_125 kb_all)) rfl rfl rfl hN.2.2.1 (hts _ kw_1) (by decide +kernel) ⟨Nat.le_trans (by decide) hR.1, Nat.le_trans (by decide) hR.2⟩, hts _ kw_124, trivial⟩ ⟨rc_blind, rc_pre hP hD hK hN [] rfl rfl [] rfl⟩ rfl rfl hl.1 rfl (lv_room (Nat.le_of_ble_eq_true rfl)) d_R_oneRoot_57 ⟨Nat.zero_le _, Nat.zero_le _⟩) hP hD hS [] rfl (fun _ => rfl) (fun r6 u7 H locs hw7 hP hD hS => ?_)
      rw [hv5.2.2] at hw7
      subst hw7
      have hP : va_P D vC [(h, rR fo cn wh pt rs sq on tw), (wh, ka cJ 5 Y), (pt, ka cJ 5 F), (rs, ka cJ 5 (rsF (ro_k z) 16001 (kd F 5).toNat F r S).1), (sq, ka cJ 8 (rsF (ro_k z) 16001 (kd F 5).toNat F r S).2), (on, ka cJ 5 a), (tw, ka cJ 5 b)] H := hP
      have hD : va_D A [(h, rR fo cn wh pt rs sq on tw), (wh, ka cJ 5 Y), (pt, ka cJ 5 F), (rs, ka cJ 5 (rsF (ro_k z) 16001 (kd F 5).toNat F r S).1), (sq, ka cJ 8 (rsF (ro_k z) 16001 (kd F 5).toNat F r S).2), (on, ka cJ 5 a), (tw, ka cJ 5 b)] := hD
      refine rk_st hx hb hK hP hD hS 3 0 rfl rfl 0 d_R_oneRoot_60 (fun H locs hP hD hS => ?_)
      have hP : va_P D vC [(h, rR fo cn wh pt rs sq on tw), (wh, ka cJ 5 Y), (pt, ka cJ 5 F), (rs, ka cJ 5 (va_up (rsF (ro_k z) 16001 (kd F 5).toNat F r S).1 0 (((rsF (ro_k z) 16001 (kd F 5).toNat F r S).1 0) - 1))), (sq, ka cJ 8 (rsF (ro_k z) 16001 (kd F 5).toNat F r S).2), (on, ka cJ 5 a), (tw, ka cJ 5 b)] H := hP
      have hD : va_D A [(h, rR fo cn wh pt rs sq on tw), (wh, ka cJ 5 Y), (pt, ka cJ 5 F), (rs, ka cJ 5 (va_up (rsF (ro_k z) 16001 (kd F 5).toNat F r S).1 0 (((rsF (ro_k z) 16001 (kd F 5).toNat F r S).1 0) - 1))), (sq, ka cJ 8 (rsF (ro_k z) 16001 (kd F 5).toNat F r S).2), (on, ka cJ 5 a), (tw, ka cJ 5 b)] := hD
      refine lv_aload_n hx hb d_R_oneRoot_61 rfl (lv_at hl 1 rfl) ?_
      refine lv_aload_n hx hb d_R_oneRoot_62 rfl (lv_at hl 1 rfl) ?_
      refine va_get (D := D) (ci := 1) (v := .ref pt) (C := R_R) (T := T_R) (N := 8) hx hb hts in_R hown hK hP 0 rfl rfl 3 (by decide) (hts _ kw_33) (fun _ h9 => h9) rfl d_R_oneRoot_63 ?_
      cases sw with
      | false =>
        refine rc_callr (va_runV (As := [.ref pt]) (rest := []) ⟨hx, hb, hml, hown, hts⟩ (m_R_commonWithRaised l D cJ h fo wh pt rs sq on tw cn pt F (va_up (rsF (ro_k z) 16001 (kd F 5).toNat F r S).1 0 ((rsF (ro_k z) 16001 (kd F 5).toNat F r S).1 0 - 1)) a b (false, G, Lx) hU) (cwV 1 hts (kb_gi (kb_c kw_382 (kb_c kw_384 (kb_c ks_R_commonWithRaised (kb_c kw_2 (kb_c kw_385 kb_all)))))) rfl rfl rfl (by decide +kernel) ⟨Nat.le_trans (by decide) hR.1, Nat.le_trans (by decide) hR.2⟩) ⟨rc_blind, va_recv hK hP (ci := 1) (q0 := 0) rfl rfl, rc_pre hP hD hK hN [0, 2, 3, 5, 6] rfl rfl [0] rfl⟩ rfl rfl hl.1 rfl (lv_room (Nat.le_of_ble_eq_true rfl)) d_R_oneRoot_66 ⟨Nat.zero_le _, Nat.zero_le _⟩) hP hD hS [0, 2, 3, 5, 6] rfl (fun _ => rfl) (fun u8 H locs hw8 hP hD hS => ?_)
        have hP : va_P D vC [(h, rR fo cn wh pt rs sq on tw), (wh, ka cJ 5 Y), (pt, ka cJ 5 F), (rs, ka cJ 5 (va_up (rsF (ro_k z) 16001 (kd F 5).toNat F r S).1 0 (((rsF (ro_k z) 16001 (kd F 5).toNat F r S).1 0) - 1))), (sq, ka cJ 8 (rsF (ro_k z) 16001 (kd F 5).toNat F r S).2), (on, ka cJ 5 G), (tw, ka cJ 5 Lx)] H := hP
        have hD : va_D A [(h, rR fo cn wh pt rs sq on tw), (wh, ka cJ 5 Y), (pt, ka cJ 5 F), (rs, ka cJ 5 (va_up (rsF (ro_k z) 16001 (kd F 5).toNat F r S).1 0 (((rsF (ro_k z) 16001 (kd F 5).toNat F r S).1 0) - 1))), (sq, ka cJ 8 (rsF (ro_k z) 16001 (kd F 5).toNat F r S).2), (on, ka cJ 5 G), (tw, ka cJ 5 Lx)] := hD
        refine lv_astore_n (lv' := [(2, .ref on), (1, .int (iz z)), (0, .ref h)]) hx hb d_R_oneRoot_69 rfl hl (by decide) rfl (fun ls hl => ?_)
        refine lv_aload_n hx hb d_R_oneRoot_70 rfl (lv_at hl 0 rfl) ?_
        refine rc_calli (va_runSN (As := [.ref on]) (rest := []) ⟨hx, hb, hml, hown, hts⟩ (m_O_degree l D cJ on 5 G (by omega)) ⟨va_cnB 1 hts (kb_gi (kb_c kw_330 kb_all)) rfl rfl rfl hN.1 (hts _ kw_1) (by decide +kernel) ⟨Nat.le_trans (by decide) hR.1, Nat.le_trans (by decide) hR.2⟩, hts _ kw_329, trivial⟩ ⟨rc_blind, rc_pre hP hD hK hN [5] rfl rfl [0] rfl⟩ rfl rfl hl.1 rfl (lv_room (Nat.le_of_ble_eq_true rfl)) d_R_oneRoot_71 ⟨Nat.zero_le _, Nat.zero_le _⟩) hP hD hS [5] rfl (fun _ => rfl) (fun r9 u10 H locs hw10 hP hD hS => ?_)
        subst hw10
        have hP : va_P D vC [(h, rR fo cn wh pt rs sq on tw), (wh, ka cJ 5 Y), (pt, ka cJ 5 F), (rs, ka cJ 5 (va_up (rsF (ro_k z) 16001 (kd F 5).toNat F r S).1 0 (((rsF (ro_k z) 16001 (kd F 5).toNat F r S).1 0) - 1))), (sq, ka cJ 8 (rsF (ro_k z) 16001 (kd F 5).toNat F r S).2), (on, ka cJ 5 G), (tw, ka cJ 5 Lx)] H := hP
        have hD : va_D A [(h, rR fo cn wh pt rs sq on tw), (wh, ka cJ 5 Y), (pt, ka cJ 5 F), (rs, ka cJ 5 (va_up (rsF (ro_k z) 16001 (kd F 5).toNat F r S).1 0 (((rsF (ro_k z) 16001 (kd F 5).toNat F r S).1 0) - 1))), (sq, ka cJ 8 (rsF (ro_k z) 16001 (kd F 5).toNat F r S).2), (on, ka cJ 5 G), (tw, ka cJ 5 Lx)] := hD
        refine rz_if_le (tgt := 85) hx hb d_R_oneRoot_74 (by decide) (fun hc11 => ?_) (fun hc11 => ?_)
        · refine lv_iinc (v := iz (z + 1)) (lv' := [(1, .int (iz (z + 1))), (2, .ref on), (0, .ref h)]) hx hb d_R_oneRoot_85 hl (k := 1) rfl (iz_add _ _) (by decide) rfl (fun ls hl => ?_)
          refine lv_goto (tgt := 13) hx hb d_R_oneRoot_88 (by decide) ?_
          exact ih _ _ _ _ _ _ H locs ls (by omega) (by omega) (hs2 (by omega)) hP hD hS (lv_sub hl [0, 2] rfl)
        · refine lv_aload_n hx hb d_R_oneRoot_77 rfl (lv_at hl 0 rfl) ?_
          refine lv_aload_n hx hb d_R_oneRoot_78 rfl (lv_at hl 2 rfl) ?_
          refine va_get (D := D) (ci := 1) (v := .ref pt) (C := R_R) (T := T_R) (N := 8) hx hb hts in_R hown hK hP 0 rfl rfl 3 (by decide) (hts _ kw_33) (fun _ h9 => h9) rfl d_R_oneRoot_79 ?_
          refine rc_callv (va_runS (As := [.ref on, .ref pt]) (rest := []) ⟨hx, hb, hml, hown, hts⟩ (m_R_copy l D cJ on pt 5 G F (by omega)) (cwS 2 hts (kb_gi (kb_c kw_352 (kb_c kw_353 (kb_c kw_2 (kb_c kw_354 kb_all))))) rfl rfl rfl (by decide +kernel) ⟨Nat.le_trans (by decide) hR.1, Nat.le_trans (by decide) hR.2⟩) ⟨rc_blind, rc_pre hP hD hK hN [5, 2] rfl rfl [0] rfl⟩ rfl rfl hl.1 rfl (lv_room (Nat.le_of_ble_eq_true rfl)) d_R_oneRoot_82 ⟨Nat.zero_le _, Nat.zero_le _⟩) hP hD hS [5, 2] rfl (fun _ => rfl) (fun u12 H locs hw12 hP hD hS => ?_)
          have hP : va_P D vC [(h, rR fo cn wh pt rs sq on tw), (wh, ka cJ 5 Y), (pt, ka cJ 5 (va_cpy G F 0 0 5)), (rs, ka cJ 5 (va_up (rsF (ro_k z) 16001 (kd F 5).toNat F r S).1 0 (((rsF (ro_k z) 16001 (kd F 5).toNat F r S).1 0) - 1))), (sq, ka cJ 8 (rsF (ro_k z) 16001 (kd F 5).toNat F r S).2), (on, ka cJ 5 G), (tw, ka cJ 5 Lx)] H := hP
          have hD : va_D A [(h, rR fo cn wh pt rs sq on tw), (wh, ka cJ 5 Y), (pt, ka cJ 5 (va_cpy G F 0 0 5)), (rs, ka cJ 5 (va_up (rsF (ro_k z) 16001 (kd F 5).toNat F r S).1 0 (((rsF (ro_k z) 16001 (kd F 5).toNat F r S).1 0) - 1))), (sq, ka cJ 8 (rsF (ro_k z) 16001 (kd F 5).toNat F r S).2), (on, ka cJ 5 G), (tw, ka cJ 5 Lx)] := hD
          refine lv_iinc (v := iz (z + 1)) (lv' := [(1, .int (iz (z + 1))), (2, .ref on), (0, .ref h)]) hx hb d_R_oneRoot_85 hl (k := 1) rfl (iz_add _ _) (by decide) rfl (fun ls hl => ?_)
          refine lv_goto (tgt := 13) hx hb d_R_oneRoot_88 (by decide) ?_
          exact ih _ _ _ _ _ _ H locs ls (by omega) (by omega) (hs1 (by omega)) hP hD hS (lv_sub hl [0, 2] rfl)
      | true =>
        refine rc_callr (va_runV (As := [.ref pt]) (rest := []) ⟨hx, hb, hml, hown, hts⟩ (m_R_commonWithRaised l D cJ h fo wh pt rs sq on tw cn pt F (va_up (rsF (ro_k z) 16001 (kd F 5).toNat F r S).1 0 ((rsF (ro_k z) 16001 (kd F 5).toNat F r S).1 0 - 1)) a b (true, G, Lx) hU) (cwV 1 hts (kb_gi (kb_c kw_382 (kb_c kw_384 (kb_c ks_R_commonWithRaised (kb_c kw_2 (kb_c kw_385 kb_all)))))) rfl rfl rfl (by decide +kernel) ⟨Nat.le_trans (by decide) hR.1, Nat.le_trans (by decide) hR.2⟩) ⟨rc_blind, va_recv hK hP (ci := 1) (q0 := 0) rfl rfl, rc_pre hP hD hK hN [0, 2, 3, 5, 6] rfl rfl [0] rfl⟩ rfl rfl hl.1 rfl (lv_room (Nat.le_of_ble_eq_true rfl)) d_R_oneRoot_66 ⟨Nat.zero_le _, Nat.zero_le _⟩) hP hD hS [0, 2, 3, 5, 6] rfl (fun _ => rfl) (fun u13 H locs hw13 hP hD hS => ?_)
        have hP : va_P D vC [(h, rR fo cn wh pt rs sq on tw), (wh, ka cJ 5 Y), (pt, ka cJ 5 F), (rs, ka cJ 5 (va_up (rsF (ro_k z) 16001 (kd F 5).toNat F r S).1 0 (((rsF (ro_k z) 16001 (kd F 5).toNat F r S).1 0) - 1))), (sq, ka cJ 8 (rsF (ro_k z) 16001 (kd F 5).toNat F r S).2), (on, ka cJ 5 Lx), (tw, ka cJ 5 G)] H := hP
        have hD : va_D A [(h, rR fo cn wh pt rs sq on tw), (wh, ka cJ 5 Y), (pt, ka cJ 5 F), (rs, ka cJ 5 (va_up (rsF (ro_k z) 16001 (kd F 5).toNat F r S).1 0 (((rsF (ro_k z) 16001 (kd F 5).toNat F r S).1 0) - 1))), (sq, ka cJ 8 (rsF (ro_k z) 16001 (kd F 5).toNat F r S).2), (on, ka cJ 5 Lx), (tw, ka cJ 5 G)] := hD
        refine lv_astore_n (lv' := [(2, .ref tw), (1, .int (iz z)), (0, .ref h)]) hx hb d_R_oneRoot_69 rfl hl (by decide) rfl (fun ls hl => ?_)
        refine lv_aload_n hx hb d_R_oneRoot_70 rfl (lv_at hl 0 rfl) ?_
        refine rc_calli (va_runSN (As := [.ref tw]) (rest := []) ⟨hx, hb, hml, hown, hts⟩ (m_O_degree l D cJ tw 5 G (by omega)) ⟨va_cnB 1 hts (kb_gi (kb_c kw_330 kb_all)) rfl rfl rfl hN.1 (hts _ kw_1) (by decide +kernel) ⟨Nat.le_trans (by decide) hR.1, Nat.le_trans (by decide) hR.2⟩, hts _ kw_329, trivial⟩ ⟨rc_blind, rc_pre hP hD hK hN [6] rfl rfl [0] rfl⟩ rfl rfl hl.1 rfl (lv_room (Nat.le_of_ble_eq_true rfl)) d_R_oneRoot_71 ⟨Nat.zero_le _, Nat.zero_le _⟩) hP hD hS [6] rfl (fun _ => rfl) (fun r14 u15 H locs hw15 hP hD hS => ?_)
        subst hw15
        have hP : va_P D vC [(h, rR fo cn wh pt rs sq on tw), (wh, ka cJ 5 Y), (pt, ka cJ 5 F), (rs, ka cJ 5 (va_up (rsF (ro_k z) 16001 (kd F 5).toNat F r S).1 0 (((rsF (ro_k z) 16001 (kd F 5).toNat F r S).1 0) - 1))), (sq, ka cJ 8 (rsF (ro_k z) 16001 (kd F 5).toNat F r S).2), (on, ka cJ 5 Lx), (tw, ka cJ 5 G)] H := hP
        have hD : va_D A [(h, rR fo cn wh pt rs sq on tw), (wh, ka cJ 5 Y), (pt, ka cJ 5 F), (rs, ka cJ 5 (va_up (rsF (ro_k z) 16001 (kd F 5).toNat F r S).1 0 (((rsF (ro_k z) 16001 (kd F 5).toNat F r S).1 0) - 1))), (sq, ka cJ 8 (rsF (ro_k z) 16001 (kd F 5).toNat F r S).2), (on, ka cJ 5 Lx), (tw, ka cJ 5 G)] := hD
        refine rz_if_le (tgt := 85) hx hb d_R_oneRoot_74 (by decide) (fun hc16 => ?_) (fun hc16 => ?_)
        · refine lv_iinc (v := iz (z + 1)) (lv' := [(1, .int (iz (z + 1))), (2, .ref tw), (0, .ref h)]) hx hb d_R_oneRoot_85 hl (k := 1) rfl (iz_add _ _) (by decide) rfl (fun ls hl => ?_)
          refine lv_goto (tgt := 13) hx hb d_R_oneRoot_88 (by decide) ?_
          exact ih _ _ _ _ _ _ H locs ls (by omega) (by omega) (hs2 (by omega)) hP hD hS (lv_sub hl [0, 2] rfl)
        · refine lv_aload_n hx hb d_R_oneRoot_77 rfl (lv_at hl 0 rfl) ?_
          refine lv_aload_n hx hb d_R_oneRoot_78 rfl (lv_at hl 2 rfl) ?_
          refine va_get (D := D) (ci := 1) (v := .ref pt) (C := R_R) (T := T_R) (N := 8) hx hb hts in_R hown hK hP 0 rfl rfl 3 (by decide) (hts _ kw_33) (fun _ h9 => h9) rfl d_R_oneRoot_79 ?_
          refine rc_callv (va_runS (As := [.ref tw, .ref pt]) (rest := []) ⟨hx, hb, hml, hown, hts⟩ (m_R_copy l D cJ tw pt 5 G F (by omega)) (cwS 2 hts (kb_gi (kb_c kw_352 (kb_c kw_353 (kb_c kw_2 (kb_c kw_354 kb_all))))) rfl rfl rfl (by decide +kernel) ⟨Nat.le_trans (by decide) hR.1, Nat.le_trans (by decide) hR.2⟩) ⟨rc_blind, rc_pre hP hD hK hN [6, 2] rfl rfl [0] rfl⟩ rfl rfl hl.1 rfl (lv_room (Nat.le_of_ble_eq_true rfl)) d_R_oneRoot_82 ⟨Nat.zero_le _, Nat.zero_le _⟩) hP hD hS [6, 2] rfl (fun _ => rfl) (fun u17 H locs hw17 hP hD hS => ?_)
          have hP : va_P D vC [(h, rR fo cn wh pt rs sq on tw), (wh, ka cJ 5 Y), (pt, ka cJ 5 (va_cpy G F 0 0 5)), (rs, ka cJ 5 (va_up (rsF (ro_k z) 16001 (kd F 5).toNat F r S).1 0 (((rsF (ro_k z) 16001 (kd F 5).toNat F r S).1 0) - 1))), (sq, ka cJ 8 (rsF (ro_k z) 16001 (kd F 5).toNat F r S).2), (on, ka cJ 5 Lx), (tw, ka cJ 5 G)] H := hP
          have hD : va_D A [(h, rR fo cn wh pt rs sq on tw), (wh, ka cJ 5 Y), (pt, ka cJ 5 (va_cpy G F 0 0 5)), (rs, ka cJ 5 (va_up (rsF (ro_k z) 16001 (kd F 5).toNat F r S).1 0 (((rsF (ro_k z) 16001 (kd F 5).toNat F r S).1 0) - 1))), (sq, ka cJ 8 (rsF (ro_k z) 16001 (kd F 5).toNat F r S).2), (on, ka cJ 5 Lx), (tw, ka cJ 5 G)] := hD
          refine lv_iinc (v := iz (z + 1)) (lv' := [(1, .int (iz (z + 1))), (2, .ref tw), (0, .ref h)]) hx hb d_R_oneRoot_85 hl (k := 1) rfl (iz_add _ _) (by decide) rfl (fun ls hl => ?_)
          refine lv_goto (tgt := 13) hx hb d_R_oneRoot_88 (by decide) ?_
          exact ih _ _ _ _ _ _ H locs ls (by omega) (by omega) (hs1 (by omega)) hP hD hS (lv_sub hl [0, 2] rfl)
def ws_R_oneRoot : List Cond := .code y_R_oneRoot c_R_oneRoot 3 (some .long) :: kb
set_option maxHeartbeats 4000000 in
set_option maxRecDepth 100000 in
/-- one root -/
theorem m_R_oneRoot (l : Launch) (D : va_G) (cJ : ClassId) (h fo wh pt rs sq on tw : Nat) (cn : Int) (Y F r S a b : Nat → ro_K) (M : List ro_K) (hM : M.Nodup) (hM0 : M ≠ []) (hM4 : M.length ≤ 4) (hY : ∀ i, i < 5 → Y i = ro_pl M i) : Met l y_R_oneRoot ws_R_oneRoot ({ frames := 3, cells := 0, slots := 0, locals := 87 }) (rc_Pc D vC [(cJ, .long)] [.ref h] [(h, rR fo cn wh pt rs sq on tw), (wh, ka cJ 5 Y), (pt, ka cJ 5 F), (rs, ka cJ 5 r), (sq, ka cJ 8 S), (on, ka cJ 5 a), (tw, ka cJ 5 b)]) (va_Ql (fun (q : Int64) (_ : rS5) => ∃ x ∈ M, q = lk x) (fun u t => va_P D vC [(h, rR fo cn wh pt rs sq on tw), (wh, ka cJ 5 Y), (pt, ka cJ 5 u.1), (rs, ka cJ 5 u.2.1), (sq, ka cJ 8 u.2.2.1), (on, ka cJ 5 u.2.2.2.1), (tw, ka cJ 5 u.2.2.2.2)] t.heap) (rc_A [(h, rR fo cn wh pt rs sq on tw), (wh, ka cJ 5 Y), (pt, ka cJ 5 F), (rs, ka cJ 5 r), (sq, ka cJ 8 S), (on, ka cJ 5 a), (tw, ka cJ 5 b)])) 0 0 (rc_A [(h, rR fo cn wh pt rs sq on tw), (wh, ka cJ 5 Y), (pt, ka cJ 5 F), (rs, ka cJ 5 r), (sq, ka cJ 8 S), (on, ka cJ 5 a), (tw, ka cJ 5 b)]) := by
  refine Met.ofW (cc := c_R_oneRoot) (maxL := 3) (ret := (some .long)) (by decide) rfl ?_
  intro p e s m args below meth c s₁ B hml hv
  obtain ⟨rfl, hP, hK, hD0, hN⟩ := hv
  have hx := B.exec
  have hb := B.bytes
  have hr := B.returns
  have hts0 := atoms_spec (ws := ws_R_oneRoot) B.pre
  have hts : ∀ w ∈ kb, w.before _ s = true := fun w h => hts0 w (List.mem_cons_of_mem _ h)
  have hown : s.vm.findClass R_R = some m.cls := findClass_of_methodNamed B.named
  have hlocks := B.notSynchronized
  have hD := rc_self hD0
  generalize hAe : rc_A [(h, rR fo cn wh pt rs sq on tw), (wh, ka cJ 5 Y), (pt, ka cJ 5 F), (rs, ka cJ 5 r), (sq, ka cJ 8 S), (on, ka cJ 5 a), (tw, ka cJ 5 b)] = A at hD ⊢
  have hS : va_S A s.heap s.heap [] := va_S.rf
  have hl := lv_entry ([.ref h]) (n := 3) (Nat.le_of_ble_eq_true rfl)
  rw [lg_entry_eq]
  generalize (lg_sl ([.ref h]) ++ List.replicate (3 - (lg_sl ([.ref h])).length) Slot.unset).toArray = ls at hl ⊢

  have hl : lv_has ls 3 [(0, .ref h)] := hl
  have hp0 : prt M (va_cpy Y F 0 0 5) 0 := ⟨M, hM, hM0, hM4, fun _ h => h, fun i hi => by rw [cpy5 Y F hi]; exact hY i hi, fun y y0 y1 => absurd y1 (by omega)⟩
  refine lv_aload_n hx hb d_R_oneRoot_0 rfl (lv_at hl 0 rfl) ?_
  refine va_get (D := D) (ci := 1) (v := .ref wh) (C := R_R) (T := T_R) (N := 8) hx hb hts in_R hown hK hP 0 rfl rfl 2 (by decide) (hts _ kw_32) (fun _ h9 => h9) rfl d_R_oneRoot_1 ?_
  refine lv_aload_n hx hb d_R_oneRoot_4 rfl (lv_at hl 0 rfl) ?_
  refine va_get (D := D) (ci := 1) (v := .ref pt) (C := R_R) (T := T_R) (N := 8) hx hb hts in_R hown hK hP 0 rfl rfl 3 (by decide) (hts _ kw_33) (fun _ h9 => h9) rfl d_R_oneRoot_5 ?_
  refine rc_callv (va_runS (As := [.ref wh, .ref pt]) (rest := []) ⟨hx, hb, hml, hown, hts⟩ (m_R_copy l D cJ wh pt 5 Y F (by omega)) (cwS 2 hts (kb_gi (kb_c kw_352 (kb_c kw_353 (kb_c kw_2 (kb_c kw_354 kb_all))))) rfl rfl rfl (by decide +kernel) ⟨Nat.le_of_ble_eq_true rfl, Nat.le_of_ble_eq_true rfl⟩) ⟨rc_blind, rc_pre hP hD hK hN [1, 2] rfl rfl [0] rfl⟩ rfl rfl hl.1 rfl (lv_room (Nat.le_of_ble_eq_true rfl)) d_R_oneRoot_8 ⟨Nat.zero_le _, Nat.zero_le _⟩) hP hD hS [1, 2] rfl (fun _ => rfl) (fun u1 H locs hw1 hP hD hS => ?_)
  have hP : va_P D vC [(h, rR fo cn wh pt rs sq on tw), (wh, ka cJ 5 Y), (pt, ka cJ 5 (va_cpy Y F 0 0 5)), (rs, ka cJ 5 r), (sq, ka cJ 8 S), (on, ka cJ 5 a), (tw, ka cJ 5 b)] H := hP
  have hD : va_D A [(h, rR fo cn wh pt rs sq on tw), (wh, ka cJ 5 Y), (pt, ka cJ 5 (va_cpy Y F 0 0 5)), (rs, ka cJ 5 r), (sq, ka cJ 8 S), (on, ka cJ 5 a), (tw, ka cJ 5 b)] := hD
  refine rz_iconst hx hb d_R_oneRoot_11 ?_
  refine lv_istore_n (lv' := [(1, .int (iz 0)), (0, .ref h)]) hx hb d_R_oneRoot_12 rfl hl (by decide) rfl (fun ls hl => ?_)
  refine lo_R_oneRoot (M := M) hx hb hml hown hts hK hN ⟨Nat.le_of_ble_eq_true rfl, Nat.le_of_ble_eq_true rfl⟩ (fun F r S a b H locs ls hx0 hP hD hS hl => ?_) 32003 _ _ _ _ _ _ H locs ls (by omega) (by omega) hp0 hP hD hS (lv_sub hl [0, 1] rfl)
  obtain ⟨x, hxM, hx0⟩ := hx0
  refine lv_aload_n hx hb d_R_oneRoot_91 rfl (lv_at hl 0 rfl) ?_
  refine va_get (D := D) (ci := 1) (v := .ref pt) (C := R_R) (T := T_R) (N := 8) hx hb hts in_R hown hK hP 0 rfl rfl 3 (by decide) (hts _ kw_33) (fun _ h9 => h9) rfl d_R_oneRoot_92 ?_
  refine rz_iconst hx hb d_R_oneRoot_95 ?_
  refine rk_ld hx hb hK hP 2 0 rfl rfl 0 d_R_oneRoot_96 ?_
  refine rlq_lneg hx hb (lq_of (lk_p (F 0)) (by decide)) d_R_oneRoot_97 (fun v2 hv2 => ?_)
  refine rc_calll (va_runSN (As := [.long v2]) (rest := []) ⟨hx, hb, hml, hown, hts⟩ (m_O_number l D v2) ⟨va_cnB 1 hts (kb_gi (kb_c kw_125 kb_all)) rfl rfl rfl hN.2.2.1 (hts _ kw_1) (by decide +kernel) ⟨Nat.le_of_ble_eq_true rfl, Nat.le_of_ble_eq_true rfl⟩, hts _ kw_124, trivial⟩ ⟨rc_blind, rc_pre hP hD hK hN [] rfl rfl [] rfl⟩ rfl rfl hl.1 rfl (lv_room (Nat.le_of_ble_eq_true rfl)) d_R_oneRoot_98 ⟨Nat.zero_le _, Nat.zero_le _⟩) hP hD hS [] rfl (fun _ => rfl) (fun r3 u4 H locs hw4 hP hD hS => ?_)
  rw [hv2.2.2] at hw4
  subst hw4
  have hP : va_P D vC [(h, rR fo cn wh pt rs sq on tw), (wh, ka cJ 5 Y), (pt, ka cJ 5 F), (rs, ka cJ 5 r), (sq, ka cJ 8 S), (on, ka cJ 5 a), (tw, ka cJ 5 b)] H := hP
  have hD : va_D A [(h, rR fo cn wh pt rs sq on tw), (wh, ka cJ 5 Y), (pt, ka cJ 5 F), (rs, ka cJ 5 r), (sq, ka cJ 8 S), (on, ka cJ 5 a), (tw, ka cJ 5 b)] := hD
  exact W.lret hx hb hr (fun t ht hW => ⟨⟨_, (F, r, S, a, b), rfl, ⟨x, hxM, by rw [hx0]; congr 1; grind⟩, rc_out ht hP⟩, hS.F ht⟩) hS.2.2 d_R_oneRoot_101
end WK
end
section
section WK
variable {p : Program} {l : Launch} {e : Env} {R : Room} {s : State} {m : MethodId} {args : Array Value} {below : List Frame} {meth : Method} {c : Code} {H : Heap} {locs : List Loc} {cells slots : Nat} {Q : State → Prop} {D : va_G} {A : Nat → Prop} {H0 : Heap}
/-- the first n of a row are all the roots of F, rising -/
def rts (F : Nat → ro_K) (n : Nat) (Fo : Nat → ro_K) : Prop := n ≤ 4 ∧ srt Fo n ∧ ∀ x, (∃ j, j < n ∧ Fo j = x) ↔ ro_ev 5 F x = 0
/-- .. and the roots in M still are to come -/
def rtp (F : Nat → ro_K) (n : Nat) (Fo : Nat → ro_K) (M : List ro_K) : Prop := n + M.length ≤ 4 ∧ M.Nodup ∧ srt Fo n ∧ (∀ j, j < n → Fo j ∉ M) ∧ ∀ x, ((∃ j, j < n ∧ Fo j = x) ∨ x ∈ M) ↔ ro_ev 5 F x = 0
theorem rtp_step {F Fo : Nat → ro_K} {n : Nat} {M : List ro_K} {x : ro_K} (h : rtp F n Fo M) (hx : x ∈ M) : rtp F (n + 1) (va_up (inK x n Fo).2 (inK x n Fo).1 x) (M.erase x) := by
  obtain ⟨h1, h2, h3, h4, h5⟩ := h
  have hne : ∀ j, j < n → Fo j ≠ x := fun j hj e => h4 j hj (by rw [e]; exact hx)
  obtain ⟨s1, s2⟩ := inK_spec x n n Fo (Nat.le_refl n) (fun i j hij hj _ ej => h3 i j hij (by omega)) (fun j hj1 hj2 => absurd hj2 (by omega)) (fun j hj ej => hne j (by omega))
  have hl := List.length_erase_of_mem hx
  have hp : 0 < M.length := List.length_pos_of_mem hx
  have s3 : ∀ a, (∃ j, j < n + 1 ∧ va_up (inK x n Fo).2 (inK x n Fo).1 x j = a) ↔ (a = x ∨ ∃ j, j < n ∧ Fo j = a) := by
    intro a
    rw [s2 a]
    constructor
    · rintro (z | ⟨j, hj, ej, e⟩)
      · exact Or.inl z
      · exact Or.inr ⟨j, by omega, e⟩
    · rintro (z | ⟨j, hj, e⟩)
      · exact Or.inl z
      · exact Or.inr ⟨j, by omega, by omega, e⟩
  refine ⟨by omega, List.Nodup.erase x h2, s1, fun j hj hm => ?_, fun a => ?_⟩
  · rw [List.Nodup.mem_erase_iff h2] at hm
    rcases (s3 _).mp ⟨j, hj, rfl⟩ with z | ⟨i, hi, e⟩
    · exact hm.1 z
    · exact h4 i hi (by rw [e]; exact hm.2)
  · rw [s3 a, ← h5 a, List.Nodup.mem_erase_iff h2]
    constructor
    · rintro ((z | z) | z)
      · rw [z]; exact Or.inr hx
      · exact Or.inl z
      · exact Or.inr z.2
    · rintro (z | z)
      · exact Or.inl (Or.inr z)
      · by_cases e : a = x
        · exact Or.inl (Or.inl e)
        · exact Or.inr ⟨e, z⟩
theorem rtp_nil {F Fo : Nat → ro_K} {n : Nat} (h : rtp F n Fo []) : rts F n Fo := by
  obtain ⟨h1, h2, h3, h4, h5⟩ := h
  refine ⟨by simpa using h1, h3, fun x => ?_⟩
  rw [← h5 x]
  simp
abbrev rS8 : Type := Nat × (Nat → ro_K) × (Nat → ro_K) × rS5
set_option maxHeartbeats 4000000 in
set_option maxRecDepth 100000 in
theorem lo_R_find {fo wh pt rs sq on tw h pa : Nat} {cJ : ClassId} {F : Nat → ro_K} (hx : p.tables.exec = Jvm.exec) (hb : c.code = c_R_find) (hml : c.maxLocals = 5) (hown : s.vm.findClass R_R = some m.cls) (hts : ∀ w ∈ kb, w.before args s = true) (hK : va_K D vC [(cJ, .long)] s) (hN : rc_N s) (hR : 4 ≤ R.frames ∧ 109 ≤ R.locals) (hend : ∀ (n : Nat) (cn : Int) (Fo Y P r S a b : Nat → ro_K) (H : Heap) (locs : List Loc) (ls : Array Slot), cn = (n : Int) → rts F n Fo → va_P D vC [(pa, ka cJ 5 F), (h, rR fo cn wh pt rs sq on tw), (fo, ka cJ 4 Fo), (wh, ka cJ 5 Y), (pt, ka cJ 5 P), (rs, ka cJ 5 r), (sq, ka cJ 8 S), (on, ka cJ 5 a), (tw, ka cJ 5 b)] H → va_D A [(pa, ka cJ 5 F), (h, rR fo cn wh pt rs sq on tw), (fo, ka cJ 4 Fo), (wh, ka cJ 5 Y), (pt, ka cJ 5 P), (rs, ka cJ 5 r), (sq, ka cJ 8 S), (on, ka cJ 5 a), (tw, ka cJ 5 b)] → va_S A H0 H locs → W p l e R s m args below meth c H locs 0 0 Q (F0 m 66 ls [])) : ∀ (k n : Nat) (M : List ro_K) (cn : Int) (Fo Y P r S a b : Nat → ro_K) (z : Int) (H : Heap) (locs : List Loc) (ls : Array Slot), z = (k : Int) → M.length = k → cn = (n : Int) → rtp F n Fo M → (∀ i, i < 5 → Y i = ro_pl M i) → va_P D vC [(pa, ka cJ 5 F), (h, rR fo cn wh pt rs sq on tw), (fo, ka cJ 4 Fo), (wh, ka cJ 5 Y), (pt, ka cJ 5 P), (rs, ka cJ 5 r), (sq, ka cJ 8 S), (on, ka cJ 5 a), (tw, ka cJ 5 b)] H → va_D A [(pa, ka cJ 5 F), (h, rR fo cn wh pt rs sq on tw), (fo, ka cJ 4 Fo), (wh, ka cJ 5 Y), (pt, ka cJ 5 P), (rs, ka cJ 5 r), (sq, ka cJ 8 S), (on, ka cJ 5 a), (tw, ka cJ 5 b)] → va_S A H0 H locs → lv_has ls 5 [(2, .int (iz z)), (0, .ref h), (1, .ref pa)] → W p l e R s m args below meth c H locs 0 0 Q (F0 m 41 ls []) := by
  intro k
  induction k with
  | zero =>
    intro n M cn Fo Y P r S a b z H locs ls hz hk hcn hp hY hP hD hS hl
    have e : M = [] := List.length_eq_zero_iff.mp hk
    subst e
    refine lv_iload_n hx hb d_R_find_41 rfl (lv_at hl 0 rfl) ?_
    refine rz_if_le (tgt := 66) hx hb d_R_find_42 (by decide) (fun hc => ?_) (fun hc => absurd hc (by omega))
    exact hend n cn Fo Y P r S a b H locs ls hcn (rtp_nil hp) hP hD hS
  | succ k ih =>
    intro n M cn Fo Y P r S a b z H locs ls hz hk hcn hp hY hP hD hS hl
    obtain ⟨p1, p2, p3, p4, p5⟩ := id hp
    have hM0 : M ≠ [] := fun e => by rw [e] at hk; simp at hk
    refine lv_iload_n hx hb d_R_find_41 rfl (lv_at hl 0 rfl) ?_
    refine rz_if_le (tgt := 66) hx hb d_R_find_42 (by decide) (fun hc => absurd hc (by omega)) (fun hc => ?_)
    refine lv_aload_n hx hb d_R_find_45 rfl (lv_at hl 1 rfl) ?_
    refine rc_calll (va_runV (As := []) (rest := []) ⟨hx, hb, hml, hown, hts⟩ (m_R_oneRoot l D cJ h fo wh pt rs sq on tw cn Y P r S a b M p2 hM0 (by omega) hY) (cwV 0 hts (kb_gi (kb_c kw_387 (kb_c kw_389 (kb_c ks_R_oneRoot (kb_c kw_2 (kb_c kw_390 kb_all)))))) rfl rfl rfl (by decide +kernel) ⟨Nat.le_trans (by decide) hR.1, Nat.le_trans (by decide) hR.2⟩) ⟨rc_blind, va_recv hK hP (ci := 1) (q0 := 1) rfl rfl, rc_pre hP hD hK hN [1, 3, 4, 5, 6, 7, 8] rfl rfl [0] rfl⟩ rfl rfl hl.1 rfl (lv_room (Nat.le_of_ble_eq_true rfl)) d_R_find_46 ⟨Nat.zero_le _, Nat.zero_le _⟩) hP hD hS [1, 3, 4, 5, 6, 7, 8] rfl (fun _ => rfl) (fun r1 u2 H locs hw2 hP hD hS => ?_)
    obtain ⟨x, hxM, rfl⟩ := hw2
    have hP : va_P D vC [(pa, ka cJ 5 F), (h, rR fo cn wh pt rs sq on tw), (fo, ka cJ 4 Fo), (wh, ka cJ 5 Y), (pt, ka cJ 5 u2.1), (rs, ka cJ 5 u2.2.1), (sq, ka cJ 8 u2.2.2.1), (on, ka cJ 5 u2.2.2.2.1), (tw, ka cJ 5 u2.2.2.2.2)] H := hP
    have hD : va_D A [(pa, ka cJ 5 F), (h, rR fo cn wh pt rs sq on tw), (fo, ka cJ 4 Fo), (wh, ka cJ 5 Y), (pt, ka cJ 5 u2.1), (rs, ka cJ 5 u2.2.1), (sq, ka cJ 8 u2.2.2.1), (on, ka cJ 5 u2.2.2.2.1), (tw, ka cJ 5 u2.2.2.2.2)] := hD
    refine lv_lstore_n (lv' := [(3, .long (lk x)), (2, .int (iz z)), (0, .ref h), (1, .ref pa)]) hx hb d_R_find_49 rfl hl (by decide) rfl (fun ls hl => ?_)
    refine lv_aload_n hx hb d_R_find_50 rfl (lv_at hl 2 rfl) ?_
    refine lv_lload_n hx hb d_R_find_51 rfl (lv_at hl 0 rfl) ?_
    refine rc_callv (va_runV (As := [.long (lk x)]) (rest := []) ⟨hx, hb, hml, hown, hts⟩ (m_R_insert l D cJ h fo wh pt rs sq on tw cn Fo x n hcn (by omega)) (cwV 1 hts (kb_gi (kb_c kw_391 (kb_c kw_393 (kb_c ks_R_insert (kb_c kw_2 (kb_c kw_394 kb_all)))))) rfl rfl rfl (by decide +kernel) ⟨Nat.le_trans (by decide) hR.1, Nat.le_trans (by decide) hR.2⟩) ⟨rc_blind, va_recv hK hP (ci := 1) (q0 := 1) rfl rfl, rc_pre hP hD hK hN [1, 2] rfl rfl [0] rfl⟩ rfl rfl hl.1 rfl (lv_room (Nat.le_of_ble_eq_true rfl)) d_R_find_52 ⟨Nat.zero_le _, Nat.zero_le _⟩) hP hD hS [1, 2] rfl (fun _ => rfl) (fun u3 H locs hw3 hP hD hS => ?_)
    have hP : va_P D vC [(pa, ka cJ 5 F), (h, rR fo (cn + 1) wh pt rs sq on tw), (fo, ka cJ 4 (va_up (inK x n Fo).2 (inK x n Fo).1 x)), (wh, ka cJ 5 Y), (pt, ka cJ 5 u2.1), (rs, ka cJ 5 u2.2.1), (sq, ka cJ 8 u2.2.2.1), (on, ka cJ 5 u2.2.2.2.1), (tw, ka cJ 5 u2.2.2.2.2)] H := hP
    have hD : va_D A [(pa, ka cJ 5 F), (h, rR fo (cn + 1) wh pt rs sq on tw), (fo, ka cJ 4 (va_up (inK x n Fo).2 (inK x n Fo).1 x)), (wh, ka cJ 5 Y), (pt, ka cJ 5 u2.1), (rs, ka cJ 5 u2.2.1), (sq, ka cJ 8 u2.2.2.1), (on, ka cJ 5 u2.2.2.2.1), (tw, ka cJ 5 u2.2.2.2.2)] := hD
    refine lv_aload_n hx hb d_R_find_55 rfl (lv_at hl 2 rfl) ?_
    refine lv_lload_n hx hb d_R_find_56 rfl (lv_at hl 0 rfl) ?_
    refine rc_callv (va_runV (As := [.long (lk x)]) (rest := []) ⟨hx, hb, hml, hown, hts⟩ (m_R_divideOut l D cJ h fo wh pt rs sq on tw (cn + 1) Y x) (cwV 1 hts (kb_gi (kb_c kw_395 (kb_c kw_397 (kb_c ks_R_divideOut (kb_c kw_2 (kb_c kw_398 kb_all)))))) rfl rfl rfl (by decide +kernel) ⟨Nat.le_trans (by decide) hR.1, Nat.le_trans (by decide) hR.2⟩) ⟨rc_blind, va_recv hK hP (ci := 1) (q0 := 1) rfl rfl, rc_pre hP hD hK hN [1, 3] rfl rfl [0] rfl⟩ rfl rfl hl.1 rfl (lv_room (Nat.le_of_ble_eq_true rfl)) d_R_find_57 ⟨Nat.zero_le _, Nat.zero_le _⟩) hP hD hS [1, 3] rfl (fun _ => rfl) (fun u4 H locs hw4 hP hD hS => ?_)
    have hP : va_P D vC [(pa, ka cJ 5 F), (h, rR fo (cn + 1) wh pt rs sq on tw), (fo, ka cJ 4 (va_up (inK x n Fo).2 (inK x n Fo).1 x)), (wh, ka cJ 5 (dvL x 5 0 Y)), (pt, ka cJ 5 u2.1), (rs, ka cJ 5 u2.2.1), (sq, ka cJ 8 u2.2.2.1), (on, ka cJ 5 u2.2.2.2.1), (tw, ka cJ 5 u2.2.2.2.2)] H := hP
    have hD : va_D A [(pa, ka cJ 5 F), (h, rR fo (cn + 1) wh pt rs sq on tw), (fo, ka cJ 4 (va_up (inK x n Fo).2 (inK x n Fo).1 x)), (wh, ka cJ 5 (dvL x 5 0 Y)), (pt, ka cJ 5 u2.1), (rs, ka cJ 5 u2.2.1), (sq, ka cJ 8 u2.2.2.1), (on, ka cJ 5 u2.2.2.2.1), (tw, ka cJ 5 u2.2.2.2.2)] := hD
    refine lv_iinc (v := iz (z + (-1))) (lv' := [(2, .int (iz (z + (-1)))), (3, .long (lk x)), (0, .ref h), (1, .ref pa)]) hx hb d_R_find_60 hl (k := 1) rfl (iz_add _ _) (by decide) rfl (fun ls hl => ?_)
    refine lv_goto (tgt := 41) hx hb d_R_find_63 (by decide) ?_
    exact ih (n + 1) (M.erase x) (cn + 1) _ _ _ _ _ _ _ _ H locs ls (by omega) (by rw [List.length_erase_of_mem hxM, hk]; rfl) (by omega) (rtp_step hp hxM) (divide_spec p2 (by omega) hxM hY) hP hD hS (lv_sub hl [0, 2, 3] rfl)
def ws_R_find : List Cond := .code y_R_find c_R_find 5 none :: kb
set_option maxHeartbeats 4000000 in
set_option maxRecDepth 100000 in
/-- all roots, rising -/
theorem m_R_find (l : Launch) (D : va_G) (pa : Nat) (cJ : ClassId) (h fo wh pt rs sq on tw : Nat) (cn : Int) (F Fo Y P r S a b : Nat → ro_K) (hF : 0 ≤ kd F 5) : Met l y_R_find ws_R_find ({ frames := 4, cells := 0, slots := 0, locals := 109 }) (rc_Pc D vC [(cJ, .long)] [.ref h, .ref pa] [(pa, ka cJ 5 F), (h, rR fo cn wh pt rs sq on tw), (fo, ka cJ 4 Fo), (wh, ka cJ 5 Y), (pt, ka cJ 5 P), (rs, ka cJ 5 r), (sq, ka cJ 8 S), (on, ka cJ 5 a), (tw, ka cJ 5 b)]) (va_Qv (fun (u : rS8) => rts F u.1 u.2.1) (fun u t => va_P D vC [(pa, ka cJ 5 F), (h, rR fo (u.1 : Int) wh pt rs sq on tw), (fo, ka cJ 4 u.2.1), (wh, ka cJ 5 u.2.2.1), (pt, ka cJ 5 u.2.2.2.1), (rs, ka cJ 5 u.2.2.2.2.1), (sq, ka cJ 8 u.2.2.2.2.2.1), (on, ka cJ 5 u.2.2.2.2.2.2.1), (tw, ka cJ 5 u.2.2.2.2.2.2.2)] t.heap) (rc_A [(pa, ka cJ 5 F), (h, rR fo cn wh pt rs sq on tw), (fo, ka cJ 4 Fo), (wh, ka cJ 5 Y), (pt, ka cJ 5 P), (rs, ka cJ 5 r), (sq, ka cJ 8 S), (on, ka cJ 5 a), (tw, ka cJ 5 b)])) 0 0 (rc_A [(pa, ka cJ 5 F), (h, rR fo cn wh pt rs sq on tw), (fo, ka cJ 4 Fo), (wh, ka cJ 5 Y), (pt, ka cJ 5 P), (rs, ka cJ 5 r), (sq, ka cJ 8 S), (on, ka cJ 5 a), (tw, ka cJ 5 b)]) := by
  refine Met.ofW (cc := c_R_find) (maxL := 5) (ret := none) (by decide) rfl ?_
  intro p e s m args below meth c s₁ B hml hv
  obtain ⟨rfl, hP, hK, hD0, hN⟩ := hv
  have hx := B.exec
  have hb := B.bytes
  have hr := B.returns
  have hts0 := atoms_spec (ws := ws_R_find) B.pre
  have hts : ∀ w ∈ kb, w.before _ s = true := fun w h => hts0 w (List.mem_cons_of_mem _ h)
  have hown : s.vm.findClass R_R = some m.cls := findClass_of_methodNamed B.named
  have hlocks := B.notSynchronized
  have hD := rc_self hD0
  generalize hAe : rc_A [(pa, ka cJ 5 F), (h, rR fo cn wh pt rs sq on tw), (fo, ka cJ 4 Fo), (wh, ka cJ 5 Y), (pt, ka cJ 5 P), (rs, ka cJ 5 r), (sq, ka cJ 8 S), (on, ka cJ 5 a), (tw, ka cJ 5 b)] = A at hD ⊢
  have hS : va_S A s.heap s.heap [] := va_S.rf
  have hl := lv_entry ([.ref h, .ref pa]) (n := 5) (Nat.le_of_ble_eq_true rfl)
  rw [lg_entry_eq]
  generalize (lg_sl ([.ref h, .ref pa]) ++ List.replicate (5 - (lg_sl ([.ref h, .ref pa])).length) Slot.unset).toArray = ls at hl ⊢

  have hl : lv_has ls 5 [(0, .ref h), (1, .ref pa)] := hl
  have hk := kd_lo F 5
  refine lv_aload_n hx hb d_R_find_0 rfl (lv_at hl 0 rfl) ?_
  refine rz_iconst hx hb d_R_find_1 ?_
  refine va_put (D := D) (ci := 1) (v := .int (iz 0)) (ty := .int) (C := R_R) (T := T_R) (N := 8) hx hb hts in_R ty_R tk_R nm_R hown hK hP hD hS 1 rfl rfl 1 (by decide) (hts _ kw_31) (fun _ h9 => h9) rfl (by decide +kernel) rfl rfl (Nat.le_of_ble_eq_true rfl) d_R_find_2 (fun H locs hP hD hS => ?_)
  have hP : va_P D vC [(pa, ka cJ 5 F), (h, rR fo 0 wh pt rs sq on tw), (fo, ka cJ 4 Fo), (wh, ka cJ 5 Y), (pt, ka cJ 5 P), (rs, ka cJ 5 r), (sq, ka cJ 8 S), (on, ka cJ 5 a), (tw, ka cJ 5 b)] H := hP
  have hD : va_D A [(pa, ka cJ 5 F), (h, rR fo 0 wh pt rs sq on tw), (fo, ka cJ 4 Fo), (wh, ka cJ 5 Y), (pt, ka cJ 5 P), (rs, ka cJ 5 r), (sq, ka cJ 8 S), (on, ka cJ 5 a), (tw, ka cJ 5 b)] := hD
  refine lv_aload_n hx hb d_R_find_5 rfl (lv_at hl 1 rfl) ?_
  refine rc_calli (va_runSN (As := [.ref pa]) (rest := []) ⟨hx, hb, hml, hown, hts⟩ (m_O_degree l D cJ pa 5 F (by omega)) ⟨va_cnB 1 hts (kb_gi (kb_c kw_330 kb_all)) rfl rfl rfl hN.1 (hts _ kw_1) (by decide +kernel) ⟨Nat.le_of_ble_eq_true rfl, Nat.le_of_ble_eq_true rfl⟩, hts _ kw_329, trivial⟩ ⟨rc_blind, rc_pre hP hD hK hN [0] rfl rfl [0] rfl⟩ rfl rfl hl.1 rfl (lv_room (Nat.le_of_ble_eq_true rfl)) d_R_find_6 ⟨Nat.zero_le _, Nat.zero_le _⟩) hP hD hS [0] rfl (fun _ => rfl) (fun r1 u2 H locs hw2 hP hD hS => ?_)
  subst hw2
  have hP : va_P D vC [(pa, ka cJ 5 F), (h, rR fo 0 wh pt rs sq on tw), (fo, ka cJ 4 Fo), (wh, ka cJ 5 Y), (pt, ka cJ 5 P), (rs, ka cJ 5 r), (sq, ka cJ 8 S), (on, ka cJ 5 a), (tw, ka cJ 5 b)] H := hP
  have hD : va_D A [(pa, ka cJ 5 F), (h, rR fo 0 wh pt rs sq on tw), (fo, ka cJ 4 Fo), (wh, ka cJ 5 Y), (pt, ka cJ 5 P), (rs, ka cJ 5 r), (sq, ka cJ 8 S), (on, ka cJ 5 a), (tw, ka cJ 5 b)] := hD
  refine rz_iconst hx hb d_R_find_9 ?_
  refine rz_icmp_ge (tgt := 14) hx hb d_R_find_10 (by decide) (fun hc3 => ?_) (fun hc3 => ?_)
  · obtain ⟨d, hd⟩ : ∃ d : Nat, kd (va_cpy F Y 0 0 5) 5 = (d : Int) ∧ 1 ≤ d := by
      rcases kd_spec F 5 with ⟨q, -⟩ | ⟨d, q1, q2, q3, q4⟩
      · omega
      · exact ⟨d, kd_of q2 (by rw [cpy5 F Y q2]; exact q3) (fun i h1 h2 => by rw [cpy5 F Y h2]; exact q4 i h1 h2), by omega⟩
    obtain ⟨hm, cc, hcc, hkm⟩ := km_spec hd.1
    have hroots : ∀ x, ro_ev 5 (km (va_cpy F Y 0 0 5)) x = 0 ↔ ro_ev 5 F x = 0 := by
      intro x
      have e : ro_ev 5 (km (va_cpy F Y 0 0 5)) x = cc * ro_ev 5 F x := by
        rw [ro_ev_congr 5 x (g := fun i => cc * F i) (fun i hi => by rw [hkm i hi, cpy5 F Y hi]; grind), ro_ev_smul]
      have nz : cc ≠ 0 := fun z => ro_1ne0 (by rw [← hcc, z]; grind)
      rw [e]
      constructor
      · intro q
        rcases ro_nz q with z | z
        · exact absurd z nz
        · exact z
      · intro q; rw [q]; grind
    refine lv_aload_n hx hb d_R_find_14 rfl (lv_at hl 1 rfl) ?_
    refine lv_aload_n hx hb d_R_find_15 rfl (lv_at hl 0 rfl) ?_
    refine va_get (D := D) (ci := 1) (v := .ref wh) (C := R_R) (T := T_R) (N := 8) hx hb hts in_R hown hK hP 1 rfl rfl 2 (by decide) (hts _ kw_32) (fun _ h9 => h9) rfl d_R_find_16 ?_
    refine rc_callv (va_runS (As := [.ref pa, .ref wh]) (rest := []) ⟨hx, hb, hml, hown, hts⟩ (m_R_copy l D cJ pa wh 5 F Y (by omega)) (cwS 2 hts (kb_gi (kb_c kw_352 (kb_c kw_353 (kb_c kw_2 (kb_c kw_354 kb_all))))) rfl rfl rfl (by decide +kernel) ⟨Nat.le_of_ble_eq_true rfl, Nat.le_of_ble_eq_true rfl⟩) ⟨rc_blind, rc_pre hP hD hK hN [0, 3] rfl rfl [0] rfl⟩ rfl rfl hl.1 rfl (lv_room (Nat.le_of_ble_eq_true rfl)) d_R_find_19 ⟨Nat.zero_le _, Nat.zero_le _⟩) hP hD hS [0, 3] rfl (fun _ => rfl) (fun u4 H locs hw4 hP hD hS => ?_)
    have hP : va_P D vC [(pa, ka cJ 5 F), (h, rR fo 0 wh pt rs sq on tw), (fo, ka cJ 4 Fo), (wh, ka cJ 5 (va_cpy F Y 0 0 5)), (pt, ka cJ 5 P), (rs, ka cJ 5 r), (sq, ka cJ 8 S), (on, ka cJ 5 a), (tw, ka cJ 5 b)] H := hP
    have hD : va_D A [(pa, ka cJ 5 F), (h, rR fo 0 wh pt rs sq on tw), (fo, ka cJ 4 Fo), (wh, ka cJ 5 (va_cpy F Y 0 0 5)), (pt, ka cJ 5 P), (rs, ka cJ 5 r), (sq, ka cJ 8 S), (on, ka cJ 5 a), (tw, ka cJ 5 b)] := hD
    refine lv_aload_n hx hb d_R_find_22 rfl (lv_at hl 0 rfl) ?_
    refine va_get (D := D) (ci := 1) (v := .ref wh) (C := R_R) (T := T_R) (N := 8) hx hb hts in_R hown hK hP 1 rfl rfl 2 (by decide) (hts _ kw_32) (fun _ h9 => h9) rfl d_R_find_23 ?_
    refine rc_callv (va_runS (As := [.ref wh]) (rest := []) ⟨hx, hb, hml, hown, hts⟩ (m_R_makeMonic l D cJ wh (va_cpy F Y 0 0 5)) (cwS 1 hts (kb_gi (kb_c kw_356 (kb_c kw_357 (kb_c kw_2 (kb_c kw_358 kb_all))))) rfl rfl rfl (by decide +kernel) ⟨Nat.le_of_ble_eq_true rfl, Nat.le_of_ble_eq_true rfl⟩) ⟨rc_blind, rc_pre hP hD hK hN [3] rfl rfl [0] rfl⟩ rfl rfl hl.1 rfl (lv_room (Nat.le_of_ble_eq_true rfl)) d_R_find_26 ⟨Nat.zero_le _, Nat.zero_le _⟩) hP hD hS [3] rfl (fun _ => rfl) (fun u5 H locs hw5 hP hD hS => ?_)
    have hP : va_P D vC [(pa, ka cJ 5 F), (h, rR fo 0 wh pt rs sq on tw), (fo, ka cJ 4 Fo), (wh, ka cJ 5 (km (va_cpy F Y 0 0 5))), (pt, ka cJ 5 P), (rs, ka cJ 5 r), (sq, ka cJ 8 S), (on, ka cJ 5 a), (tw, ka cJ 5 b)] H := hP
    have hD : va_D A [(pa, ka cJ 5 F), (h, rR fo 0 wh pt rs sq on tw), (fo, ka cJ 4 Fo), (wh, ka cJ 5 (km (va_cpy F Y 0 0 5))), (pt, ka cJ 5 P), (rs, ka cJ 5 r), (sq, ka cJ 8 S), (on, ka cJ 5 a), (tw, ka cJ 5 b)] := hD
    refine lv_aload_n hx hb d_R_find_29 rfl (lv_at hl 0 rfl) ?_
    refine rc_callv (va_runV (As := []) (rest := []) ⟨hx, hb, hml, hown, hts⟩ (m_R_keepRootsOnce l D cJ h fo wh pt rs sq on tw 0 (km (va_cpy F Y 0 0 5)) r S a b d hm hd.2) (cwV 0 hts (kb_gi (kb_c kw_361 (kb_c kw_363 (kb_c ks_R_keepRootsOnce (kb_c kw_2 (kb_c kw_364 kb_all)))))) rfl rfl rfl (by decide +kernel) ⟨Nat.le_of_ble_eq_true rfl, Nat.le_of_ble_eq_true rfl⟩) ⟨rc_blind, va_recv hK hP (ci := 1) (q0 := 1) rfl rfl, rc_pre hP hD hK hN [1, 3, 5, 6, 7, 8] rfl rfl [0] rfl⟩ rfl rfl hl.1 rfl (lv_room (Nat.le_of_ble_eq_true rfl)) d_R_find_30 ⟨Nat.zero_le _, Nat.zero_le _⟩) hP hD hS [1, 3, 5, 6, 7, 8] rfl (fun _ => rfl) (fun u6 H locs hw6 hP hD hS => ?_)
    obtain ⟨M, m1, m2, m3, m4⟩ := hw6
    have hkM := mo_kd (pl_mo m2 m3)
    have hP : va_P D vC [(pa, ka cJ 5 F), (h, rR fo 0 wh pt rs sq on tw), (fo, ka cJ 4 Fo), (wh, ka cJ 5 u6.1), (pt, ka cJ 5 P), (rs, ka cJ 5 u6.2.1), (sq, ka cJ 8 u6.2.2.1), (on, ka cJ 5 u6.2.2.2.1), (tw, ka cJ 5 u6.2.2.2.2)] H := hP
    have hD : va_D A [(pa, ka cJ 5 F), (h, rR fo 0 wh pt rs sq on tw), (fo, ka cJ 4 Fo), (wh, ka cJ 5 u6.1), (pt, ka cJ 5 P), (rs, ka cJ 5 u6.2.1), (sq, ka cJ 8 u6.2.2.1), (on, ka cJ 5 u6.2.2.2.1), (tw, ka cJ 5 u6.2.2.2.2)] := hD
    refine lv_aload_n hx hb d_R_find_33 rfl (lv_at hl 0 rfl) ?_
    refine va_get (D := D) (ci := 1) (v := .ref wh) (C := R_R) (T := T_R) (N := 8) hx hb hts in_R hown hK hP 1 rfl rfl 2 (by decide) (hts _ kw_32) (fun _ h9 => h9) rfl d_R_find_34 ?_
    refine rc_calli (va_runSN (As := [.ref wh]) (rest := []) ⟨hx, hb, hml, hown, hts⟩ (m_O_degree l D cJ wh 5 u6.1 (by omega)) ⟨va_cnB 1 hts (kb_gi (kb_c kw_330 kb_all)) rfl rfl rfl hN.1 (hts _ kw_1) (by decide +kernel) ⟨Nat.le_of_ble_eq_true rfl, Nat.le_of_ble_eq_true rfl⟩, hts _ kw_329, trivial⟩ ⟨rc_blind, rc_pre hP hD hK hN [3] rfl rfl [0] rfl⟩ rfl rfl hl.1 rfl (lv_room (Nat.le_of_ble_eq_true rfl)) d_R_find_37 ⟨Nat.zero_le _, Nat.zero_le _⟩) hP hD hS [3] rfl (fun _ => rfl) (fun r7 u8 H locs hw8 hP hD hS => ?_)
    subst hw8
    have hP : va_P D vC [(pa, ka cJ 5 F), (h, rR fo 0 wh pt rs sq on tw), (fo, ka cJ 4 Fo), (wh, ka cJ 5 u6.1), (pt, ka cJ 5 P), (rs, ka cJ 5 u6.2.1), (sq, ka cJ 8 u6.2.2.1), (on, ka cJ 5 u6.2.2.2.1), (tw, ka cJ 5 u6.2.2.2.2)] H := hP
    have hD : va_D A [(pa, ka cJ 5 F), (h, rR fo 0 wh pt rs sq on tw), (fo, ka cJ 4 Fo), (wh, ka cJ 5 u6.1), (pt, ka cJ 5 P), (rs, ka cJ 5 u6.2.1), (sq, ka cJ 8 u6.2.2.1), (on, ka cJ 5 u6.2.2.2.1), (tw, ka cJ 5 u6.2.2.2.2)] := hD
    refine lv_istore_n (lv' := [(2, .int (iz (kd u6.1 5))), (0, .ref h), (1, .ref pa)]) hx hb d_R_find_40 rfl hl (by decide) rfl (fun ls hl => ?_)
    refine lo_R_find (F := F) hx hb hml hown hts hK hN ⟨Nat.le_of_ble_eq_true rfl, Nat.le_of_ble_eq_true rfl⟩ (fun n cn Fo Y P r S a b H locs ls hcn hrt hP hD hS => ?_) M.length 0 M 0 _ _ _ _ _ _ _ _ H locs ls hkM rfl rfl ⟨by omega, m1, fun i j _ h => absurd h (Nat.not_lt_zero j), fun j h => absurd h (Nat.not_lt_zero j), fun x => ?_⟩ m3 hP hD hS (lv_sub hl [0, 1, 2] rfl)
    · subst hcn
      exact W.vret hx hb hr (fun t ht hW => ⟨⟨(n, Fo, Y, P, r, S, a, b), rfl, hrt, rc_out ht hP⟩, hS.F ht⟩) hS.2.2 d_R_find_66
    · rw [← hroots x, ← m4 x]
      constructor
      · rintro (⟨j, h, -⟩ | z)
        · exact absurd h (Nat.not_lt_zero j)
        · exact z
      · exact Or.inr
  · refine W.vret hx hb hr (fun t ht hW => ⟨⟨(0, Fo, Y, P, r, S, a, b), rfl, ⟨Nat.zero_le 4, fun i j _ h => absurd h (Nat.not_lt_zero j), fun x => ⟨fun ⟨j, h, _⟩ => absurd h (Nat.not_lt_zero j), fun h => ?_⟩⟩, rc_out ht hP⟩, hS.F ht⟩) hS.2.2 d_R_find_13
    exfalso
    rcases kd_spec F 5 with ⟨q, -⟩ | ⟨d, q1, q2, q3, q4⟩
    · omega
    · have e0 : d = 0 := by omega
      subst e0
      rw [ro_ev_s, ro_ev_zero 4 x (fun i hi => q4 (i + 1) (by omega) (by omega))] at h
      exact q3 (by grind)
def ws_R_howMany : List Cond := .code y_R_howMany c_R_howMany 1 (some .int) :: kb
set_option maxHeartbeats 4000000 in
set_option maxRecDepth 100000 in
/-- how many -/
theorem m_R_howMany (l : Launch) (D : va_G) (cJ : ClassId) (h fo wh pt rs sq on tw : Nat) (cn : Int) : Met l y_R_howMany ws_R_howMany ({ frames := 0, cells := 0, slots := 0, locals := 0 }) (rc_Pc D vC [] [.ref h] [(h, rR fo cn wh pt rs sq on tw)]) (va_Qi (fun (q : Int32) (_ : Unit) => q = iz cn) (fun _ t => va_P D vC [(h, rR fo cn wh pt rs sq on tw)] t.heap) (rc_A [(h, rR fo cn wh pt rs sq on tw)])) 0 0 (rc_A [(h, rR fo cn wh pt rs sq on tw)]) := by
  refine Met.ofW (cc := c_R_howMany) (maxL := 1) (ret := (some .int)) (by decide) rfl ?_
  intro p e s m args below meth c s₁ B hml hv
  obtain ⟨rfl, hP, hK, hD0, hN⟩ := hv
  have hx := B.exec
  have hb := B.bytes
  have hr := B.returns
  have hts0 := atoms_spec (ws := ws_R_howMany) B.pre
  have hts : ∀ w ∈ kb, w.before _ s = true := fun w h => hts0 w (List.mem_cons_of_mem _ h)
  have hown : s.vm.findClass R_R = some m.cls := findClass_of_methodNamed B.named
  have hlocks := B.notSynchronized
  have hD := rc_self hD0
  generalize hAe : rc_A [(h, rR fo cn wh pt rs sq on tw)] = A at hD ⊢
  have hS : va_S A s.heap s.heap [] := va_S.rf
  have hl := lv_entry ([.ref h]) (n := 1) (Nat.le_of_ble_eq_true rfl)
  rw [lg_entry_eq]
  generalize (lg_sl ([.ref h]) ++ List.replicate (1 - (lg_sl ([.ref h])).length) Slot.unset).toArray = ls at hl ⊢

  have hl : lv_has ls 1 [(0, .ref h)] := hl
  refine lv_aload_n hx hb d_R_howMany_0 rfl (lv_at hl 0 rfl) ?_
  refine va_get (D := D) (ci := 1) (v := .int (iz cn)) (C := R_R) (T := T_R) (N := 8) hx hb hts in_R hown hK hP 0 rfl rfl 1 (by decide) (hts _ kw_31) (fun _ h9 => h9) rfl d_R_howMany_1 ?_
  exact W.iret hx hb hr (fun t ht hW => ⟨⟨_, (), rfl, rfl, rc_out ht hP⟩, hS.F ht⟩) hS.2.2 d_R_howMany_4
def ws_R_orNone : List Cond := .code y_R_orNone c_R_orNone 2 (some .int) :: kb
set_option maxHeartbeats 4000000 in
set_option maxRecDepth 100000 in
/-- the k-th, or -1 -/
theorem m_R_orNone (l : Launch) (D : va_G) (cJ : ClassId) (h fo wh pt rs sq on tw : Nat) (cn : Int) (Fo : Nat → ro_K) (n : Nat) (k : Int32) (hn : cn = (n : Int)) (hn4 : n ≤ 4) : Met l y_R_orNone ws_R_orNone ({ frames := 0, cells := 0, slots := 0, locals := 0 }) (rc_Pc D vC [(cJ, .long)] [.ref h, .int k] [(h, rR fo cn wh pt rs sq on tw), (fo, ka cJ 4 Fo)]) (va_Qi (fun (q : Int32) (_ : Unit) => q = if 0 ≤ k.toInt ∧ k.toInt < (n : Int) then iz ((Fo k.toInt.toNat).val : Int) else iz (-1)) (fun _ t => va_P D vC [(h, rR fo cn wh pt rs sq on tw), (fo, ka cJ 4 Fo)] t.heap) (rc_A [(h, rR fo cn wh pt rs sq on tw), (fo, ka cJ 4 Fo)])) 0 0 (rc_A [(h, rR fo cn wh pt rs sq on tw), (fo, ka cJ 4 Fo)]) := by
  refine Met.ofW (cc := c_R_orNone) (maxL := 2) (ret := (some .int)) (by decide) rfl ?_
  intro p e s m args below meth c s₁ B hml hv
  obtain ⟨rfl, hP, hK, hD0, hN⟩ := hv
  have hx := B.exec
  have hb := B.bytes
  have hr := B.returns
  have hts0 := atoms_spec (ws := ws_R_orNone) B.pre
  have hts : ∀ w ∈ kb, w.before _ s = true := fun w h => hts0 w (List.mem_cons_of_mem _ h)
  have hown : s.vm.findClass R_R = some m.cls := findClass_of_methodNamed B.named
  have hlocks := B.notSynchronized
  have hD := rc_self hD0
  generalize hAe : rc_A [(h, rR fo cn wh pt rs sq on tw), (fo, ka cJ 4 Fo)] = A at hD ⊢
  have hS : va_S A s.heap s.heap [] := va_S.rf
  have hl := lv_entry ([.ref h, .int k]) (n := 2) (Nat.le_of_ble_eq_true rfl)
  rw [lg_entry_eq]
  generalize (lg_sl ([.ref h, .int k]) ++ List.replicate (2 - (lg_sl ([.ref h, .int k])).length) Slot.unset).toArray = ls at hl ⊢

  have hl : lv_has ls 2 [(0, .ref h), (1, .int k)] := hl
  have k1 := iz_lo k
  have k2 := iz_hi k
  rw [iz_self k] at hl
  generalize k.toInt = z at hl k1 k2 ⊢
  refine lv_iload_n hx hb d_R_orNone_0 rfl (lv_at hl 1 rfl) ?_
  refine rz_if_lt (tgt := 12) hx hb d_R_orNone_1 (by decide) (fun hc1 => ?_) (fun hc1 => ?_)
  · refine rz_iconst hx hb d_R_orNone_12 ?_
    refine lv_goto (tgt := 23) hx hb d_R_orNone_13 (by decide) ?_
    exact W.iret hx hb hr (fun t ht hW => ⟨⟨_, (), rfl, (by rw [if_neg (by omega)]), rc_out ht hP⟩, hS.F ht⟩) hS.2.2 d_R_orNone_23
  · refine lv_iload_n hx hb d_R_orNone_4 rfl (lv_at hl 1 rfl) ?_
    refine lv_aload_n hx hb d_R_orNone_5 rfl (lv_at hl 0 rfl) ?_
    refine va_get (D := D) (ci := 1) (v := .int (iz cn)) (C := R_R) (T := T_R) (N := 8) hx hb hts in_R hown hK hP 0 rfl rfl 1 (by decide) (hts _ kw_31) (fun _ h9 => h9) rfl d_R_orNone_6 ?_
    refine rz_icmp_lt (tgt := 16) hx hb d_R_orNone_9 (by decide) (fun hc2 => ?_) (fun hc2 => ?_)
    · refine lv_aload_n hx hb d_R_orNone_16 rfl (lv_at hl 0 rfl) ?_
      refine va_get (D := D) (ci := 1) (v := .ref fo) (C := R_R) (T := T_R) (N := 8) hx hb hts in_R hown hK hP 0 rfl rfl 0 (by decide) (hts _ kw_30) (fun _ h9 => h9) rfl d_R_orNone_17 ?_
      refine lv_iload_n hx hb d_R_orNone_20 rfl (lv_at hl 1 rfl) ?_
      refine rk_ld hx hb hK hP 1 0 rfl rfl z.toNat d_R_orNone_21 ?_
      refine rz_l2i hx hb d_R_orNone_22 ?_
      exact W.iret hx hb hr (fun t ht hW => ⟨⟨_, (), rfl, (by rw [if_pos (by omega)]), rc_out ht hP⟩, hS.F ht⟩) hS.2.2 d_R_orNone_23
    · refine rz_iconst hx hb d_R_orNone_12 ?_
      refine lv_goto (tgt := 23) hx hb d_R_orNone_13 (by decide) ?_
      exact W.iret hx hb hr (fun t ht hW => ⟨⟨_, (), rfl, (by rw [if_neg (by omega)]), rc_out ht hP⟩, hS.F ht⟩) hS.2.2 d_R_orNone_23
end WK
end
