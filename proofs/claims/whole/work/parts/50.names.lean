-- ===== PART A: goes FIRST, ahead of the names: the tables' words, and 'selects' of the private methods out of them =====
/-- a private method of a class that the tables say can be made, by its rows of tables_1 -/
def lw_okq (q : MethodName × Nat) : Prop := (q.1.cls ≠ "java/lang/invoke/MethodHandle" ∧ q.1.cls ≠ "java/lang/invoke/VarHandle") ∧ Cond.instantiable q.1.cls q.2 ∈ tables_1 ∧ Cond.privateMethod q.1 ∈ tables_1 ∧ Cond.instanceMethod q.1 ∈ tables_1
theorem lw_p0 : lw_okq (⟨"RungByADrum$Text", "readItem", "(LRungByADrum$Tower;)Z"⟩, 4) := ⟨⟨by decide +kernel, by decide +kernel⟩, List.mem_of_getElem? (i := 26) (by decide +kernel), List.mem_of_getElem? (i := 244) (by decide +kernel), List.mem_of_getElem? (i := 245) (by decide +kernel)⟩
theorem lw_p1 : lw_okq (⟨"RungByADrum$Text", "peek", "()I"⟩, 4) := ⟨⟨by decide +kernel, by decide +kernel⟩, List.mem_of_getElem? (i := 26) (by decide +kernel), List.mem_of_getElem? (i := 248) (by decide +kernel), List.mem_of_getElem? (i := 249) (by decide +kernel)⟩
theorem lw_p2 : lw_okq (⟨"RungByADrum$Text", "readBell", "(LRungByADrum$Tower;)Z"⟩, 4) := ⟨⟨by decide +kernel, by decide +kernel⟩, List.mem_of_getElem? (i := 26) (by decide +kernel), List.mem_of_getElem? (i := 252) (by decide +kernel), List.mem_of_getElem? (i := 253) (by decide +kernel)⟩
theorem lw_p3 : lw_okq (⟨"RungByADrum$Text", "readNumber", "()I"⟩, 4) := ⟨⟨by decide +kernel, by decide +kernel⟩, List.mem_of_getElem? (i := 26) (by decide +kernel), List.mem_of_getElem? (i := 256) (by decide +kernel), List.mem_of_getElem? (i := 257) (by decide +kernel)⟩
theorem lw_p4 : lw_okq (⟨"RungByADrum$Text", "readFigure", "()I"⟩, 4) := ⟨⟨by decide +kernel, by decide +kernel⟩, List.mem_of_getElem? (i := 26) (by decide +kernel), List.mem_of_getElem? (i := 260) (by decide +kernel), List.mem_of_getElem? (i := 261) (by decide +kernel)⟩
theorem lw_p5 : lw_okq (⟨"RungByADrum$Text", "accept", "(I)Z"⟩, 4) := ⟨⟨by decide +kernel, by decide +kernel⟩, List.mem_of_getElem? (i := 26) (by decide +kernel), List.mem_of_getElem? (i := 264) (by decide +kernel), List.mem_of_getElem? (i := 265) (by decide +kernel)⟩
theorem lw_p6 : lw_okq (⟨"RungByADrum$Text", "readTune", "(LRungByADrum$Tower;)Z"⟩, 4) := ⟨⟨by decide +kernel, by decide +kernel⟩, List.mem_of_getElem? (i := 26) (by decide +kernel), List.mem_of_getElem? (i := 283) (by decide +kernel), List.mem_of_getElem? (i := 284) (by decide +kernel)⟩
theorem lw_p7 : lw_okq (⟨"RungByADrum$Text", "readSet", "(I)I"⟩, 4) := ⟨⟨by decide +kernel, by decide +kernel⟩, List.mem_of_getElem? (i := 26) (by decide +kernel), List.mem_of_getElem? (i := 295) (by decide +kernel), List.mem_of_getElem? (i := 296) (by decide +kernel)⟩
theorem lw_p8 : lw_okq (⟨"RungByADrum$Text", "readBellLetter", "(I)I"⟩, 4) := ⟨⟨by decide +kernel, by decide +kernel⟩, List.mem_of_getElem? (i := 26) (by decide +kernel), List.mem_of_getElem? (i := 299) (by decide +kernel), List.mem_of_getElem? (i := 300) (by decide +kernel)⟩
theorem lw_p9 : lw_okq (⟨"RungByADrum", "layTold", "()V"⟩, 12) := ⟨⟨by decide +kernel, by decide +kernel⟩, List.mem_of_getElem? (i := 18) (by decide +kernel), List.mem_of_getElem? (i := 310) (by decide +kernel), List.mem_of_getElem? (i := 311) (by decide +kernel)⟩
theorem lw_p10 : lw_okq (⟨"RungByADrum", "isBell", "(I)Z"⟩, 12) := ⟨⟨by decide +kernel, by decide +kernel⟩, List.mem_of_getElem? (i := 18) (by decide +kernel), List.mem_of_getElem? (i := 395) (by decide +kernel), List.mem_of_getElem? (i := 396) (by decide +kernel)⟩
theorem lw_p11 : lw_okq (⟨"RungByADrum", "pinsOfBell", "(I)I"⟩, 12) := ⟨⟨by decide +kernel, by decide +kernel⟩, List.mem_of_getElem? (i := 18) (by decide +kernel), List.mem_of_getElem? (i := 399) (by decide +kernel), List.mem_of_getElem? (i := 400) (by decide +kernel)⟩
theorem lw_p12 : lw_okq (⟨"RungByADrum", "isRow", "(I)Z"⟩, 12) := ⟨⟨by decide +kernel, by decide +kernel⟩, List.mem_of_getElem? (i := 18) (by decide +kernel), List.mem_of_getElem? (i := 407) (by decide +kernel), List.mem_of_getElem? (i := 408) (by decide +kernel)⟩
theorem lw_p13 : lw_okq (⟨"RungByADrum$Drum", "ringRow", "(ILRungByADrum$Tower;)I"⟩, 6) := ⟨⟨by decide +kernel, by decide +kernel⟩, List.mem_of_getElem? (i := 99) (by decide +kernel), List.mem_of_getElem? (i := 430) (by decide +kernel), List.mem_of_getElem? (i := 431) (by decide +kernel)⟩
theorem lw_p14 : lw_okq (⟨"RungByADrum$Drum", "strike", "(ILRungByADrum$Tower;)Z"⟩, 6) := ⟨⟨by decide +kernel, by decide +kernel⟩, List.mem_of_getElem? (i := 99) (by decide +kernel), List.mem_of_getElem? (i := 434) (by decide +kernel), List.mem_of_getElem? (i := 435) (by decide +kernel)⟩
theorem lw_p15 : lw_okq (⟨"RungByADrum", "ringsInATurn", "(LRungByADrum$Drum;)I"⟩, 12) := ⟨⟨by decide +kernel, by decide +kernel⟩, List.mem_of_getElem? (i := 18) (by decide +kernel), List.mem_of_getElem? (i := 483) (by decide +kernel), List.mem_of_getElem? (i := 484) (by decide +kernel)⟩
def lw_privs_1 : List (MethodName × Nat) := [(⟨"RungByADrum$Text", "readItem", "(LRungByADrum$Tower;)Z"⟩, 4), (⟨"RungByADrum$Text", "peek", "()I"⟩, 4), (⟨"RungByADrum$Text", "readBell", "(LRungByADrum$Tower;)Z"⟩, 4), (⟨"RungByADrum$Text", "readNumber", "()I"⟩, 4), (⟨"RungByADrum$Text", "readFigure", "()I"⟩, 4), (⟨"RungByADrum$Text", "accept", "(I)Z"⟩, 4), (⟨"RungByADrum$Text", "readTune", "(LRungByADrum$Tower;)Z"⟩, 4), (⟨"RungByADrum$Text", "readSet", "(I)I"⟩, 4), (⟨"RungByADrum$Text", "readBellLetter", "(I)I"⟩, 4), (⟨"RungByADrum", "layTold", "()V"⟩, 12), (⟨"RungByADrum", "isBell", "(I)Z"⟩, 12), (⟨"RungByADrum", "pinsOfBell", "(I)I"⟩, 12), (⟨"RungByADrum", "isRow", "(I)Z"⟩, 12), (⟨"RungByADrum$Drum", "ringRow", "(ILRungByADrum$Tower;)I"⟩, 6), (⟨"RungByADrum$Drum", "strike", "(ILRungByADrum$Tower;)Z"⟩, 6), (⟨"RungByADrum", "ringsInATurn", "(LRungByADrum$Drum;)I"⟩, 12)]
theorem lw_r1 : ∀ q ∈ lw_privs_1, lw_okq q := List.forall_mem_cons.mpr ⟨lw_p0, List.forall_mem_cons.mpr ⟨lw_p1, List.forall_mem_cons.mpr ⟨lw_p2, List.forall_mem_cons.mpr ⟨lw_p3, List.forall_mem_cons.mpr ⟨lw_p4, List.forall_mem_cons.mpr ⟨lw_p5, List.forall_mem_cons.mpr ⟨lw_p6, List.forall_mem_cons.mpr ⟨lw_p7, List.forall_mem_cons.mpr ⟨lw_p8, List.forall_mem_cons.mpr ⟨lw_p9, List.forall_mem_cons.mpr ⟨lw_p10, List.forall_mem_cons.mpr ⟨lw_p11, List.forall_mem_cons.mpr ⟨lw_p12, List.forall_mem_cons.mpr ⟨lw_p13, List.forall_mem_cons.mpr ⟨lw_p14, List.forall_mem_cons.mpr ⟨lw_p15, fun _ h => absurd h List.not_mem_nil⟩⟩⟩⟩⟩⟩⟩⟩⟩⟩⟩⟩⟩⟩⟩⟩
theorem lw_p16 : lw_okq (⟨"RungByADrum", "allPins", "()I"⟩, 12) := ⟨⟨by decide +kernel, by decide +kernel⟩, List.mem_of_getElem? (i := 18) (by decide +kernel), List.mem_of_getElem? (i := 487) (by decide +kernel), List.mem_of_getElem? (i := 488) (by decide +kernel)⟩
theorem lw_p17 : lw_okq (⟨"RungByADrum", "comesAgainAfter", "(I)Z"⟩, 12) := ⟨⟨by decide +kernel, by decide +kernel⟩, List.mem_of_getElem? (i := 18) (by decide +kernel), List.mem_of_getElem? (i := 501) (by decide +kernel), List.mem_of_getElem? (i := 502) (by decide +kernel)⟩
theorem lw_p18 : lw_okq (⟨"RungByADrum", "illTwos", "(I)I"⟩, 12) := ⟨⟨by decide +kernel, by decide +kernel⟩, List.mem_of_getElem? (i := 18) (by decide +kernel), List.mem_of_getElem? (i := 509) (by decide +kernel), List.mem_of_getElem? (i := 510) (by decide +kernel)⟩
theorem lw_p19 : lw_okq (⟨"RungByADrum", "isSet", "(I)Z"⟩, 12) := ⟨⟨by decide +kernel, by decide +kernel⟩, List.mem_of_getElem? (i := 18) (by decide +kernel), List.mem_of_getElem? (i := 521) (by decide +kernel), List.mem_of_getElem? (i := 522) (by decide +kernel)⟩
theorem lw_p20 : lw_okq (⟨"RungByADrum", "changesIfShifted", "(I)I"⟩, 12) := ⟨⟨by decide +kernel, by decide +kernel⟩, List.mem_of_getElem? (i := 18) (by decide +kernel), List.mem_of_getElem? (i := 533) (by decide +kernel), List.mem_of_getElem? (i := 534) (by decide +kernel)⟩
theorem lw_p21 : lw_okq (⟨"RungByADrum$Shortener", "fillFrom", "(II[II)V"⟩, 1) := ⟨⟨by decide +kernel, by decide +kernel⟩, List.mem_of_getElem? (i := 152) (by decide +kernel), List.mem_of_getElem? (i := 545) (by decide +kernel), List.mem_of_getElem? (i := 546) (by decide +kernel)⟩
theorem lw_p22 : lw_okq (⟨"RungByADrum$Shortener", "timesTold", "(II[II)I"⟩, 1) := ⟨⟨by decide +kernel, by decide +kernel⟩, List.mem_of_getElem? (i := 152) (by decide +kernel), List.mem_of_getElem? (i := 553) (by decide +kernel), List.mem_of_getElem? (i := 554) (by decide +kernel)⟩
theorem lw_p23 : lw_okq (⟨"RungByADrum$Shortener", "beginWithPart", "([IIIII)V"⟩, 1) := ⟨⟨by decide +kernel, by decide +kernel⟩, List.mem_of_getElem? (i := 152) (by decide +kernel), List.mem_of_getElem? (i := 558) (by decide +kernel), List.mem_of_getElem? (i := 559) (by decide +kernel)⟩
theorem lw_p24 : lw_okq (⟨"RungByADrum$Parting", "partFrom", "(II)V"⟩, 4) := ⟨⟨by decide +kernel, by decide +kernel⟩, List.mem_of_getElem? (i := 164) (by decide +kernel), List.mem_of_getElem? (i := 571) (by decide +kernel), List.mem_of_getElem? (i := 572) (by decide +kernel)⟩
theorem lw_p25 : lw_okq (⟨"RungByADrum", "isHeardFrom", "(I)Z"⟩, 12) := ⟨⟨by decide +kernel, by decide +kernel⟩, List.mem_of_getElem? (i := 18) (by decide +kernel), List.mem_of_getElem? (i := 588) (by decide +kernel), List.mem_of_getElem? (i := 589) (by decide +kernel)⟩
theorem lw_p26 : lw_okq (⟨"RungByADrumModel", "clean", "()V"⟩, 23) := ⟨⟨by decide +kernel, by decide +kernel⟩, List.mem_of_getElem? (i := 629) (by decide +kernel), List.mem_of_getElem? (i := 635) (by decide +kernel), List.mem_of_getElem? (i := 636) (by decide +kernel)⟩
theorem lw_p27 : lw_okq (⟨"RungByADrumModel", "comes", "(II)V"⟩, 23) := ⟨⟨by decide +kernel, by decide +kernel⟩, List.mem_of_getElem? (i := 629) (by decide +kernel), List.mem_of_getElem? (i := 639) (by decide +kernel), List.mem_of_getElem? (i := 640) (by decide +kernel)⟩
theorem lw_p28 : lw_okq (⟨"RungByADrumModel", "put", "(I)Z"⟩, 23) := ⟨⟨by decide +kernel, by decide +kernel⟩, List.mem_of_getElem? (i := 629) (by decide +kernel), List.mem_of_getElem? (i := 643) (by decide +kernel), List.mem_of_getElem? (i := 644) (by decide +kernel)⟩
theorem lw_p29 : lw_okq (⟨"RungByADrumModel", "begins", "()V"⟩, 23) := ⟨⟨by decide +kernel, by decide +kernel⟩, List.mem_of_getElem? (i := 629) (by decide +kernel), List.mem_of_getElem? (i := 647) (by decide +kernel), List.mem_of_getElem? (i := 648) (by decide +kernel)⟩
theorem lw_p30 : lw_okq (⟨"RungByADrumModel", "takesItem", "()Z"⟩, 23) := ⟨⟨by decide +kernel, by decide +kernel⟩, List.mem_of_getElem? (i := 629) (by decide +kernel), List.mem_of_getElem? (i := 739) (by decide +kernel), List.mem_of_getElem? (i := 740) (by decide +kernel)⟩
theorem lw_p31 : lw_okq (⟨"RungByADrumModel", "here", "()I"⟩, 23) := ⟨⟨by decide +kernel, by decide +kernel⟩, List.mem_of_getElem? (i := 629) (by decide +kernel), List.mem_of_getElem? (i := 743) (by decide +kernel), List.mem_of_getElem? (i := 744) (by decide +kernel)⟩
def lw_privs_2 : List (MethodName × Nat) := [(⟨"RungByADrum", "allPins", "()I"⟩, 12), (⟨"RungByADrum", "comesAgainAfter", "(I)Z"⟩, 12), (⟨"RungByADrum", "illTwos", "(I)I"⟩, 12), (⟨"RungByADrum", "isSet", "(I)Z"⟩, 12), (⟨"RungByADrum", "changesIfShifted", "(I)I"⟩, 12), (⟨"RungByADrum$Shortener", "fillFrom", "(II[II)V"⟩, 1), (⟨"RungByADrum$Shortener", "timesTold", "(II[II)I"⟩, 1), (⟨"RungByADrum$Shortener", "beginWithPart", "([IIIII)V"⟩, 1), (⟨"RungByADrum$Parting", "partFrom", "(II)V"⟩, 4), (⟨"RungByADrum", "isHeardFrom", "(I)Z"⟩, 12), (⟨"RungByADrumModel", "clean", "()V"⟩, 23), (⟨"RungByADrumModel", "comes", "(II)V"⟩, 23), (⟨"RungByADrumModel", "put", "(I)Z"⟩, 23), (⟨"RungByADrumModel", "begins", "()V"⟩, 23), (⟨"RungByADrumModel", "takesItem", "()Z"⟩, 23), (⟨"RungByADrumModel", "here", "()I"⟩, 23)]
theorem lw_r2 : ∀ q ∈ lw_privs_2, lw_okq q := List.forall_mem_cons.mpr ⟨lw_p16, List.forall_mem_cons.mpr ⟨lw_p17, List.forall_mem_cons.mpr ⟨lw_p18, List.forall_mem_cons.mpr ⟨lw_p19, List.forall_mem_cons.mpr ⟨lw_p20, List.forall_mem_cons.mpr ⟨lw_p21, List.forall_mem_cons.mpr ⟨lw_p22, List.forall_mem_cons.mpr ⟨lw_p23, List.forall_mem_cons.mpr ⟨lw_p24, List.forall_mem_cons.mpr ⟨lw_p25, List.forall_mem_cons.mpr ⟨lw_p26, List.forall_mem_cons.mpr ⟨lw_p27, List.forall_mem_cons.mpr ⟨lw_p28, List.forall_mem_cons.mpr ⟨lw_p29, List.forall_mem_cons.mpr ⟨lw_p30, List.forall_mem_cons.mpr ⟨lw_p31, fun _ h => absurd h List.not_mem_nil⟩⟩⟩⟩⟩⟩⟩⟩⟩⟩⟩⟩⟩⟩⟩⟩
theorem lw_p32 : lw_okq (⟨"RungByADrumModel", "takesBell", "()Z"⟩, 23) := ⟨⟨by decide +kernel, by decide +kernel⟩, List.mem_of_getElem? (i := 629) (by decide +kernel), List.mem_of_getElem? (i := 747) (by decide +kernel), List.mem_of_getElem? (i := 748) (by decide +kernel)⟩
theorem lw_p33 : lw_okq (⟨"RungByADrumModel", "takes", "(I)Z"⟩, 23) := ⟨⟨by decide +kernel, by decide +kernel⟩, List.mem_of_getElem? (i := 629) (by decide +kernel), List.mem_of_getElem? (i := 751) (by decide +kernel), List.mem_of_getElem? (i := 752) (by decide +kernel)⟩
theorem lw_p34 : lw_okq (⟨"RungByADrumModel", "takesOne", "(III)Z"⟩, 23) := ⟨⟨by decide +kernel, by decide +kernel⟩, List.mem_of_getElem? (i := 629) (by decide +kernel), List.mem_of_getElem? (i := 758) (by decide +kernel), List.mem_of_getElem? (i := 759) (by decide +kernel)⟩
theorem lw_p35 : lw_okq (⟨"RungByADrumModel", "takesTune", "()Z"⟩, 23) := ⟨⟨by decide +kernel, by decide +kernel⟩, List.mem_of_getElem? (i := 629) (by decide +kernel), List.mem_of_getElem? (i := 762) (by decide +kernel), List.mem_of_getElem? (i := 763) (by decide +kernel)⟩
theorem lw_p36 : lw_okq (⟨"RungByADrumModel", "isBellHere", "()Z"⟩, 23) := ⟨⟨by decide +kernel, by decide +kernel⟩, List.mem_of_getElem? (i := 629) (by decide +kernel), List.mem_of_getElem? (i := 766) (by decide +kernel), List.mem_of_getElem? (i := 767) (by decide +kernel)⟩
theorem lw_p37 : lw_okq (⟨"RungByADrumModel", "chord", "()I"⟩, 23) := ⟨⟨by decide +kernel, by decide +kernel⟩, List.mem_of_getElem? (i := 629) (by decide +kernel), List.mem_of_getElem? (i := 771) (by decide +kernel), List.mem_of_getElem? (i := 772) (by decide +kernel)⟩
theorem lw_p38 : lw_okq (⟨"RungByADrumModel", "tellsAgain", "(II)Z"⟩, 23) := ⟨⟨by decide +kernel, by decide +kernel⟩, List.mem_of_getElem? (i := 629) (by decide +kernel), List.mem_of_getElem? (i := 779) (by decide +kernel), List.mem_of_getElem? (i := 780) (by decide +kernel)⟩
theorem lw_p39 : lw_okq (⟨"RungByADrumModel", "isBell", "(I)Z"⟩, 23) := ⟨⟨by decide +kernel, by decide +kernel⟩, List.mem_of_getElem? (i := 629) (by decide +kernel), List.mem_of_getElem? (i := 792) (by decide +kernel), List.mem_of_getElem? (i := 793) (by decide +kernel)⟩
theorem lw_p40 : lw_okq (⟨"RungByADrumModel", "isRow", "(I)Z"⟩, 23) := ⟨⟨by decide +kernel, by decide +kernel⟩, List.mem_of_getElem? (i := 629) (by decide +kernel), List.mem_of_getElem? (i := 803) (by decide +kernel), List.mem_of_getElem? (i := 804) (by decide +kernel)⟩
theorem lw_p41 : lw_okq (⟨"RungByADrumModel", "remember", "()V"⟩, 23) := ⟨⟨by decide +kernel, by decide +kernel⟩, List.mem_of_getElem? (i := 629) (by decide +kernel), List.mem_of_getElem? (i := 811) (by decide +kernel), List.mem_of_getElem? (i := 812) (by decide +kernel)⟩
theorem lw_p42 : lw_okq (⟨"RungByADrumModel", "comesNext", "([I)I"⟩, 23) := ⟨⟨by decide +kernel, by decide +kernel⟩, List.mem_of_getElem? (i := 629) (by decide +kernel), List.mem_of_getElem? (i := 818) (by decide +kernel), List.mem_of_getElem? (i := 819) (by decide +kernel)⟩
theorem lw_p43 : lw_okq (⟨"RungByADrumModel", "rings", "([II)I"⟩, 23) := ⟨⟨by decide +kernel, by decide +kernel⟩, List.mem_of_getElem? (i := 629) (by decide +kernel), List.mem_of_getElem? (i := 822) (by decide +kernel), List.mem_of_getElem? (i := 823) (by decide +kernel)⟩
theorem lw_p44 : lw_okq (⟨"RungByADrumModel", "shifted", "(II)I"⟩, 23) := ⟨⟨by decide +kernel, by decide +kernel⟩, List.mem_of_getElem? (i := 629) (by decide +kernel), List.mem_of_getElem? (i := 838) (by decide +kernel), List.mem_of_getElem? (i := 839) (by decide +kernel)⟩
theorem lw_p45 : lw_okq (⟨"RungByADrumModel", "go", "(I)V"⟩, 23) := ⟨⟨by decide +kernel, by decide +kernel⟩, List.mem_of_getElem? (i := 629) (by decide +kernel), List.mem_of_getElem? (i := 850) (by decide +kernel), List.mem_of_getElem? (i := 851) (by decide +kernel)⟩
theorem lw_p46 : lw_okq (⟨"RungByADrumModel", "sumOf", "(I)I"⟩, 23) := ⟨⟨by decide +kernel, by decide +kernel⟩, List.mem_of_getElem? (i := 629) (by decide +kernel), List.mem_of_getElem? (i := 854) (by decide +kernel), List.mem_of_getElem? (i := 855) (by decide +kernel)⟩
theorem lw_p47 : lw_okq (⟨"RungByADrumModel", "comesAgain", "(I)Z"⟩, 23) := ⟨⟨by decide +kernel, by decide +kernel⟩, List.mem_of_getElem? (i := 629) (by decide +kernel), List.mem_of_getElem? (i := 866) (by decide +kernel), List.mem_of_getElem? (i := 867) (by decide +kernel)⟩
def lw_privs_3 : List (MethodName × Nat) := [(⟨"RungByADrumModel", "takesBell", "()Z"⟩, 23), (⟨"RungByADrumModel", "takes", "(I)Z"⟩, 23), (⟨"RungByADrumModel", "takesOne", "(III)Z"⟩, 23), (⟨"RungByADrumModel", "takesTune", "()Z"⟩, 23), (⟨"RungByADrumModel", "isBellHere", "()Z"⟩, 23), (⟨"RungByADrumModel", "chord", "()I"⟩, 23), (⟨"RungByADrumModel", "tellsAgain", "(II)Z"⟩, 23), (⟨"RungByADrumModel", "isBell", "(I)Z"⟩, 23), (⟨"RungByADrumModel", "isRow", "(I)Z"⟩, 23), (⟨"RungByADrumModel", "remember", "()V"⟩, 23), (⟨"RungByADrumModel", "comesNext", "([I)I"⟩, 23), (⟨"RungByADrumModel", "rings", "([II)I"⟩, 23), (⟨"RungByADrumModel", "shifted", "(II)I"⟩, 23), (⟨"RungByADrumModel", "go", "(I)V"⟩, 23), (⟨"RungByADrumModel", "sumOf", "(I)I"⟩, 23), (⟨"RungByADrumModel", "comesAgain", "(I)Z"⟩, 23)]
theorem lw_r3 : ∀ q ∈ lw_privs_3, lw_okq q := List.forall_mem_cons.mpr ⟨lw_p32, List.forall_mem_cons.mpr ⟨lw_p33, List.forall_mem_cons.mpr ⟨lw_p34, List.forall_mem_cons.mpr ⟨lw_p35, List.forall_mem_cons.mpr ⟨lw_p36, List.forall_mem_cons.mpr ⟨lw_p37, List.forall_mem_cons.mpr ⟨lw_p38, List.forall_mem_cons.mpr ⟨lw_p39, List.forall_mem_cons.mpr ⟨lw_p40, List.forall_mem_cons.mpr ⟨lw_p41, List.forall_mem_cons.mpr ⟨lw_p42, List.forall_mem_cons.mpr ⟨lw_p43, List.forall_mem_cons.mpr ⟨lw_p44, List.forall_mem_cons.mpr ⟨lw_p45, List.forall_mem_cons.mpr ⟨lw_p46, List.forall_mem_cons.mpr ⟨lw_p47, fun _ h => absurd h List.not_mem_nil⟩⟩⟩⟩⟩⟩⟩⟩⟩⟩⟩⟩⟩⟩⟩⟩
theorem lw_p48 : lw_okq (⟨"RungByADrumModel", "illOf", "(II)I"⟩, 23) := ⟨⟨by decide +kernel, by decide +kernel⟩, List.mem_of_getElem? (i := 629) (by decide +kernel), List.mem_of_getElem? (i := 874) (by decide +kernel), List.mem_of_getElem? (i := 875) (by decide +kernel)⟩
theorem lw_p49 : lw_okq (⟨"RungByADrumModel", "isIll", "(II)Z"⟩, 23) := ⟨⟨by decide +kernel, by decide +kernel⟩, List.mem_of_getElem? (i := 629) (by decide +kernel), List.mem_of_getElem? (i := 878) (by decide +kernel), List.mem_of_getElem? (i := 879) (by decide +kernel)⟩
theorem lw_p50 : lw_okq (⟨"RungByADrumModel", "isSet", "(I)Z"⟩, 23) := ⟨⟨by decide +kernel, by decide +kernel⟩, List.mem_of_getElem? (i := 629) (by decide +kernel), List.mem_of_getElem? (i := 894) (by decide +kernel), List.mem_of_getElem? (i := 895) (by decide +kernel)⟩
theorem lw_p51 : lw_okq (⟨"RungByADrumModel", "fewest", "(III)I"⟩, 23) := ⟨⟨by decide +kernel, by decide +kernel⟩, List.mem_of_getElem? (i := 629) (by decide +kernel), List.mem_of_getElem? (i := 909) (by decide +kernel), List.mem_of_getElem? (i := 910) (by decide +kernel)⟩
theorem lw_p52 : lw_okq (⟨"RungByADrumModel", "isAgain", "(III)Z"⟩, 23) := ⟨⟨by decide +kernel, by decide +kernel⟩, List.mem_of_getElem? (i := 629) (by decide +kernel), List.mem_of_getElem? (i := 913) (by decide +kernel), List.mem_of_getElem? (i := 914) (by decide +kernel)⟩
theorem lw_p53 : lw_okq (⟨"RungByADrumModel", "areOne", "(I)Z"⟩, 23) := ⟨⟨by decide +kernel, by decide +kernel⟩, List.mem_of_getElem? (i := 629) (by decide +kernel), List.mem_of_getElem? (i := 921) (by decide +kernel), List.mem_of_getElem? (i := 922) (by decide +kernel)⟩
def lw_privs_4 : List (MethodName × Nat) := [(⟨"RungByADrumModel", "illOf", "(II)I"⟩, 23), (⟨"RungByADrumModel", "isIll", "(II)Z"⟩, 23), (⟨"RungByADrumModel", "isSet", "(I)Z"⟩, 23), (⟨"RungByADrumModel", "fewest", "(III)I"⟩, 23), (⟨"RungByADrumModel", "isAgain", "(III)Z"⟩, 23), (⟨"RungByADrumModel", "areOne", "(I)Z"⟩, 23)]
theorem lw_r4 : ∀ q ∈ lw_privs_4, lw_okq q := List.forall_mem_cons.mpr ⟨lw_p48, List.forall_mem_cons.mpr ⟨lw_p49, List.forall_mem_cons.mpr ⟨lw_p50, List.forall_mem_cons.mpr ⟨lw_p51, List.forall_mem_cons.mpr ⟨lw_p52, List.forall_mem_cons.mpr ⟨lw_p53, fun _ h => absurd h List.not_mem_nil⟩⟩⟩⟩⟩⟩
def lw_privs : List (MethodName × Nat) := lw_privs_1 ++ (lw_privs_2 ++ (lw_privs_3 ++ (lw_privs_4)))
def lw_tbl : List Cond := k2_sels lw_privs ++ tables_1
theorem lw_privs_ok : ∀ q ∈ lw_privs, lw_okq q := by
  show ∀ q ∈ lw_privs_1 ++ (lw_privs_2 ++ (lw_privs_3 ++ (lw_privs_4))), lw_okq q
  exact List.forall_mem_append.mpr ⟨lw_r1, List.forall_mem_append.mpr ⟨lw_r2, List.forall_mem_append.mpr ⟨lw_r3, lw_r4⟩⟩⟩
def RX0 : String := "RungByADrum$Drum"
def TX0 : u_T := fun k => match k with
  | 0 => ("RungByADrum$Drum", "pins", "[I", true)
  | 1 => ("RungByADrum$Drum", "ready", "[I", true)
  | 2 => ("RungByADrum$Drum", "rung", "[I", true)
  | 3 => ("RungByADrum$Drum", "missed", "[I", true)
  | 4 => ("RungByADrum$Drum", "latest", "I", false)
  | _ => ("RungByADrum$Drum", "turned", "I", false)
def tyX0 : Nat → FieldType := fun k => match k with
  | 0 => .array .int
  | 1 => .array .int
  | 2 => .array .int
  | 3 => .array .int
  | 4 => .int
  | _ => .int
abbrev wsX00 : List Cond := u_ws RX0 TX0 6
theorem nmX0 : ∀ a, a < 6 → ∀ b, b < 6 → a ≠ b → (TX0 a).2.1 ≠ (TX0 b).2.1 := by decide +kernel
theorem tyX0_ok : ∀ k, k < 6 → parseFieldDescriptor (TX0 k).2.2.1 = some (tyX0 k) := by decide +kernel
abbrev cX0_init : ByteArray := prog_2_method_1_code
def yX0_init : MethodName := ⟨RX0, "<init>", "()V"⟩
abbrev cX0_startWith : ByteArray := prog_2_method_2_code
def yX0_startWith : MethodName := ⟨RX0, "startWith", "(LRungByADrum$Tower;)V"⟩
abbrev cX0_turnOn : ByteArray := prog_2_method_3_code
def yX0_turnOn : MethodName := ⟨RX0, "turnOn", "(LRungByADrum$Tower;)I"⟩
abbrev cX0_turnOff : ByteArray := prog_2_method_4_code
def yX0_turnOff : MethodName := ⟨RX0, "turnOff", "(LRungByADrum$Tower;)I"⟩
abbrev cX0_ringRow : ByteArray := prog_2_method_5_code
def yX0_ringRow : MethodName := ⟨RX0, "ringRow", "(ILRungByADrum$Tower;)I"⟩
abbrev cX0_strike : ByteArray := prog_2_method_6_code
def yX0_strike : MethodName := ⟨RX0, "strike", "(ILRungByADrum$Tower;)Z"⟩
abbrev cX0_copy : ByteArray := prog_2_method_7_code
def yX0_copy : MethodName := ⟨RX0, "copy", "(LRungByADrum$Drum;)V"⟩
abbrev cX0_saveTo : ByteArray := prog_2_method_8_code
def yX0_saveTo : MethodName := ⟨RX0, "saveTo", "([II)V"⟩
abbrev cX0_loadFrom : ByteArray := prog_2_method_9_code
def yX0_loadFrom : MethodName := ⟨RX0, "loadFrom", "([II)V"⟩
def RX1 : String := "RungByADrum$Parting"
def TX1 : u_T := fun k => match k with
  | 0 => ("RungByADrum$Parting", "clash", "[I", true)
  | 1 => ("RungByADrum$Parting", "groups", "[I", true)
  | 2 => ("RungByADrum$Parting", "bells", "I", false)
  | _ => ("RungByADrum$Parting", "fewest", "I", false)
def tyX1 : Nat → FieldType := fun k => match k with
  | 0 => .array .int
  | 1 => .array .int
  | 2 => .int
  | _ => .int
abbrev wsX10 : List Cond := u_ws RX1 TX1 4
theorem nmX1 : ∀ a, a < 4 → ∀ b, b < 4 → a ≠ b → (TX1 a).2.1 ≠ (TX1 b).2.1 := by decide +kernel
theorem tyX1_ok : ∀ k, k < 4 → parseFieldDescriptor (TX1 k).2.2.1 = some (tyX1 k) := by decide +kernel
abbrev cX1_init : ByteArray := prog_3_method_1_code
def yX1_init : MethodName := ⟨RX1, "<init>", "()V"⟩
abbrev cX1_fewestPeople : ByteArray := prog_3_method_2_code
def yX1_fewestPeople : MethodName := ⟨RX1, "fewestPeople", "([ILRungByADrum$Tower;)I"⟩
abbrev cX1_partFrom : ByteArray := prog_3_method_3_code
def yX1_partFrom : MethodName := ⟨RX1, "partFrom", "(II)V"⟩
def RX2 : String := "RungByADrum$Shelf"
def TX2 : u_T := fun k => match k with
  | 0 => ("RungByADrum$Shelf", "places", "I", true)
  | 1 => ("RungByADrum$Shelf", "cells", "[I", true)
  | 2 => ("RungByADrum$Shelf", "next", "I", false)
  | _ => ("RungByADrum$Shelf", "held", "I", false)
def tyX2 : Nat → FieldType := fun k => match k with
  | 0 => .int
  | 1 => .array .int
  | 2 => .int
  | _ => .int
abbrev wsX20 : List Cond := u_ws RX2 TX2 4
theorem nmX2 : ∀ a, a < 4 → ∀ b, b < 4 → a ≠ b → (TX2 a).2.1 ≠ (TX2 b).2.1 := by decide +kernel
theorem tyX2_ok : ∀ k, k < 4 → parseFieldDescriptor (TX2 k).2.2.1 = some (tyX2 k) := by decide +kernel
abbrev cX2_init : ByteArray := prog_4_method_1_code
def yX2_init : MethodName := ⟨RX2, "<init>", "(I)V"⟩
abbrev cX2_clear : ByteArray := prog_4_method_2_code
def yX2_clear : MethodName := ⟨RX2, "clear", "()V"⟩
abbrev cX2_put : ByteArray := prog_4_method_3_code
def yX2_put : MethodName := ⟨RX2, "put", "(LRungByADrum$Drum;)V"⟩
abbrev cX2_takeInto : ByteArray := prog_4_method_4_code
def yX2_takeInto : MethodName := ⟨RX2, "takeInto", "(LRungByADrum$Drum;)Z"⟩
def RX3 : String := "RungByADrum$Shortener"
def TX3 : u_T := fun k => match k with
  | _ => ("RungByADrum$Shortener", "fewest", "[[I", true)
def tyX3 : Nat → FieldType := fun k => match k with
  | _ => .array (.array .int)
abbrev wsX30 : List Cond := u_ws RX3 TX3 1
theorem nmX3 : ∀ a, a < 1 → ∀ b, b < 1 → a ≠ b → (TX3 a).2.1 ≠ (TX3 b).2.1 := by decide +kernel
theorem tyX3_ok : ∀ k, k < 1 → parseFieldDescriptor (TX3 k).2.2.1 = some (tyX3 k) := by decide +kernel
abbrev cX3_init : ByteArray := prog_5_method_1_code
def yX3_init : MethodName := ⟨RX3, "<init>", "()V"⟩
abbrev cX3_fewestLetters : ByteArray := prog_5_method_2_code
def yX3_fewestLetters : MethodName := ⟨RX3, "fewestLetters", "([II)I"⟩
abbrev cX3_fillFrom : ByteArray := prog_5_method_3_code
def yX3_fillFrom : MethodName := ⟨RX3, "fillFrom", "(II[II)V"⟩
abbrev cX3_beginWithPart : ByteArray := prog_5_method_4_code
def yX3_beginWithPart : MethodName := ⟨RX3, "beginWithPart", "([IIIII)V"⟩
abbrev cX3_timesTold : ByteArray := prog_5_method_5_code
def yX3_timesTold : MethodName := ⟨RX3, "timesTold", "(II[II)I"⟩
abbrev cX3_lettersOf : ByteArray := prog_5_method_6_code
def yX3_lettersOf : MethodName := ⟨RX3, "lettersOf", "(I)I"⟩
def RX4 : String := "RungByADrum$Text"
def TX4 : u_T := fun k => match k with
  | 0 => ("RungByADrum$Text", "letters", "[I", true)
  | 1 => ("RungByADrum$Text", "length", "I", false)
  | 2 => ("RungByADrum$Text", "place", "I", false)
  | _ => ("RungByADrum$Text", "openedAt", "[I", true)
def tyX4 : Nat → FieldType := fun k => match k with
  | 0 => .array .int
  | 1 => .int
  | 2 => .int
  | _ => .array .int
abbrev wsX40 : List Cond := u_ws RX4 TX4 4
theorem nmX4 : ∀ a, a < 4 → ∀ b, b < 4 → a ≠ b → (TX4 a).2.1 ≠ (TX4 b).2.1 := by decide +kernel
theorem tyX4_ok : ∀ k, k < 4 → parseFieldDescriptor (TX4 k).2.2.1 = some (tyX4 k) := by decide +kernel
abbrev cX4_init : ByteArray := prog_6_method_1_code
def yX4_init : MethodName := ⟨RX4, "<init>", "()V"⟩
abbrev cX4_append : ByteArray := prog_6_method_2_code
def yX4_append : MethodName := ⟨RX4, "append", "(I)Z"⟩
abbrev cX4_clear : ByteArray := prog_6_method_3_code
def yX4_clear : MethodName := ⟨RX4, "clear", "()V"⟩
abbrev cX4_readInto : ByteArray := prog_6_method_4_code
def yX4_readInto : MethodName := ⟨RX4, "readInto", "(LRungByADrum$Tower;)I"⟩
abbrev cX4_readItem : ByteArray := prog_6_method_5_code
def yX4_readItem : MethodName := ⟨RX4, "readItem", "(LRungByADrum$Tower;)Z"⟩
abbrev cX4_readBell : ByteArray := prog_6_method_6_code
def yX4_readBell : MethodName := ⟨RX4, "readBell", "(LRungByADrum$Tower;)Z"⟩
abbrev cX4_readTune : ByteArray := prog_6_method_7_code
def yX4_readTune : MethodName := ⟨RX4, "readTune", "(LRungByADrum$Tower;)Z"⟩
abbrev cX4_readSet : ByteArray := prog_6_method_8_code
def yX4_readSet : MethodName := ⟨RX4, "readSet", "(I)I"⟩
abbrev cX4_readBellLetter : ByteArray := prog_6_method_9_code
def yX4_readBellLetter : MethodName := ⟨RX4, "readBellLetter", "(I)I"⟩
abbrev cX4_readNumber : ByteArray := prog_6_method_10_code
def yX4_readNumber : MethodName := ⟨RX4, "readNumber", "()I"⟩
abbrev cX4_readFigure : ByteArray := prog_6_method_11_code
def yX4_readFigure : MethodName := ⟨RX4, "readFigure", "()I"⟩
abbrev cX4_accept : ByteArray := prog_6_method_12_code
def yX4_accept : MethodName := ⟨RX4, "accept", "(I)Z"⟩
abbrev cX4_peek : ByteArray := prog_6_method_13_code
def yX4_peek : MethodName := ⟨RX4, "peek", "()I"⟩
def RX5 : String := "RungByADrum$Tower"
def TX5 : u_T := fun k => match k with
  | 0 => ("RungByADrum$Tower", "bells", "I", false)
  | 1 => ("RungByADrum$Tower", "tones", "[I", true)
  | 2 => ("RungByADrum$Tower", "hammers", "[I", true)
  | 3 => ("RungByADrum$Tower", "illWith", "[I", true)
  | 4 => ("RungByADrum$Tower", "rows", "I", false)
  | 5 => ("RungByADrum$Tower", "rest", "I", false)
  | 6 => ("RungByADrum$Tower", "hasTune", "Z", false)
  | 7 => ("RungByADrum$Tower", "tuneRows", "I", false)
  | _ => ("RungByADrum$Tower", "tune", "[I", true)
def tyX5 : Nat → FieldType := fun k => match k with
  | 0 => .int
  | 1 => .array .int
  | 2 => .array .int
  | 3 => .array .int
  | 4 => .int
  | 5 => .int
  | 6 => .boolean
  | 7 => .int
  | _ => .array .int
abbrev wsX50 : List Cond := u_ws RX5 TX5 9
theorem nmX5 : ∀ a, a < 9 → ∀ b, b < 9 → a ≠ b → (TX5 a).2.1 ≠ (TX5 b).2.1 := by decide +kernel
theorem tyX5_ok : ∀ k, k < 9 → parseFieldDescriptor (TX5 k).2.2.1 = some (tyX5 k) := by decide +kernel
abbrev cX5_init : ByteArray := prog_7_method_1_code
def yX5_init : MethodName := ⟨RX5, "<init>", "()V"⟩
abbrev cX5_clear : ByteArray := prog_7_method_2_code
def yX5_clear : MethodName := ⟨RX5, "clear", "()V"⟩
abbrev cX5_addBell : ByteArray := prog_7_method_3_code
def yX5_addBell : MethodName := ⟨RX5, "addBell", "(II)Z"⟩
abbrev cX5_tellRows : ByteArray := prog_7_method_4_code
def yX5_tellRows : MethodName := ⟨RX5, "tellRows", "(I)Z"⟩
abbrev cX5_tellRest : ByteArray := prog_7_method_5_code
def yX5_tellRest : MethodName := ⟨RX5, "tellRest", "(I)Z"⟩
abbrev cX5_addRow : ByteArray := prog_7_method_6_code
def yX5_addRow : MethodName := ⟨RX5, "addRow", "(I)Z"⟩
abbrev cX5_tellAgain : ByteArray := prog_7_method_7_code
def yX5_tellAgain : MethodName := ⟨RX5, "tellAgain", "(II)Z"⟩
abbrev cX5_canBeLaid : ByteArray := prog_7_method_8_code
def yX5_canBeLaid : MethodName := ⟨RX5, "canBeLaid", "()Z"⟩
abbrev cX5_everyBell : ByteArray := prog_7_method_9_code
def yX5_everyBell : MethodName := ⟨RX5, "everyBell", "()I"⟩
abbrev cX5_rowBehind : ByteArray := prog_7_method_10_code
def yX5_rowBehind : MethodName := ⟨RX5, "rowBehind", "(II)I"⟩
abbrev cX5_highestTone : ByteArray := prog_7_method_11_code
def yX5_highestTone : MethodName := ⟨RX5, "highestTone", "(I)I"⟩
def RX6 : String := "RungByADrum"
def TX6 : u_T := fun k => match k with
  | 0 => ("RungByADrum", "text", "LRungByADrum$Text;", true)
  | 1 => ("RungByADrum", "tower", "LRungByADrum$Tower;", false)
  | 2 => ("RungByADrum", "told", "LRungByADrum$Tower;", false)
  | 3 => ("RungByADrum", "drum", "LRungByADrum$Drum;", true)
  | 4 => ("RungByADrum", "tried", "LRungByADrum$Drum;", true)
  | 5 => ("RungByADrum", "undoable", "LRungByADrum$Shelf;", true)
  | 6 => ("RungByADrum", "kept", "LRungByADrum$Shelf;", true)
  | 7 => ("RungByADrum", "wanted", "[I", true)
  | 8 => ("RungByADrum", "heard", "[I", true)
  | 9 => ("RungByADrum", "heardCount", "I", false)
  | 10 => ("RungByADrum", "shortener", "LRungByADrum$Shortener;", true)
  | _ => ("RungByADrum", "parting", "LRungByADrum$Parting;", true)
def tyX6 : Nat → FieldType := fun k => match k with
  | 0 => .object "RungByADrum$Text"
  | 1 => .object "RungByADrum$Tower"
  | 2 => .object "RungByADrum$Tower"
  | 3 => .object "RungByADrum$Drum"
  | 4 => .object "RungByADrum$Drum"
  | 5 => .object "RungByADrum$Shelf"
  | 6 => .object "RungByADrum$Shelf"
  | 7 => .array .int
  | 8 => .array .int
  | 9 => .int
  | 10 => .object "RungByADrum$Shortener"
  | _ => .object "RungByADrum$Parting"
abbrev wsX60 : List Cond := u_ws RX6 TX6 12
theorem nmX6 : ∀ a, a < 12 → ∀ b, b < 12 → a ≠ b → (TX6 a).2.1 ≠ (TX6 b).2.1 := by decide +kernel
theorem tyX6_ok : ∀ k, k < 12 → parseFieldDescriptor (TX6 k).2.2.1 = some (tyX6 k) := by decide +kernel
abbrev cX6_init : ByteArray := prog_1_method_1_code
def yX6_init : MethodName := ⟨RX6, "<init>", "()V"⟩
abbrev cX6_write : ByteArray := prog_1_method_2_code
def yX6_write : MethodName := ⟨RX6, "write", "(I)I"⟩
abbrev cX6_wipe : ByteArray := prog_1_method_3_code
def yX6_wipe : MethodName := ⟨RX6, "wipe", "()I"⟩
abbrev cX6_fault : ByteArray := prog_1_method_4_code
def yX6_fault : MethodName := ⟨RX6, "fault", "()I"⟩
abbrev cX6_lay : ByteArray := prog_1_method_5_code
def yX6_lay : MethodName := ⟨RX6, "lay", "()I"⟩
abbrev cX6_bell : ByteArray := prog_1_method_6_code
def yX6_bell : MethodName := ⟨RX6, "bell", "(II)I"⟩
abbrev cX6_pins : ByteArray := prog_1_method_7_code
def yX6_pins : MethodName := ⟨RX6, "pins", "(I)I"⟩
abbrev cX6_layTold : ByteArray := prog_1_method_8_code
def yX6_layTold : MethodName := ⟨RX6, "layTold", "()V"⟩
abbrev cX6_isBell : ByteArray := prog_1_method_9_code
def yX6_isBell : MethodName := ⟨RX6, "isBell", "(I)Z"⟩
abbrev cX6_isRow : ByteArray := prog_1_method_10_code
def yX6_isRow : MethodName := ⟨RX6, "isRow", "(I)Z"⟩
abbrev cX6_isSet : ByteArray := prog_1_method_11_code
def yX6_isSet : MethodName := ⟨RX6, "isSet", "(I)Z"⟩
abbrev cX6_pinsOfBell : ByteArray := prog_1_method_12_code
def yX6_pinsOfBell : MethodName := ⟨RX6, "pinsOfBell", "(I)I"⟩
abbrev cX6_turn : ByteArray := prog_1_method_13_code
def yX6_turn : MethodName := ⟨RX6, "turn", "()I"⟩
abbrev cX6_turnBack : ByteArray := prog_1_method_14_code
def yX6_turnBack : MethodName := ⟨RX6, "turnBack", "()I"⟩
abbrev cX6_pin : ByteArray := prog_1_method_15_code
def yX6_pin : MethodName := ⟨RX6, "pin", "(IIZ)I"⟩
abbrev cX6_shift : ByteArray := prog_1_method_16_code
def yX6_shift : MethodName := ⟨RX6, "shift", "(I)I"⟩
abbrev cX6_undo : ByteArray := prog_1_method_17_code
def yX6_undo : MethodName := ⟨RX6, "undo", "()I"⟩
abbrev cX6_whole : ByteArray := prog_1_method_18_code
def yX6_whole : MethodName := ⟨RX6, "whole", "(I)I"⟩
abbrev cX6_silence : ByteArray := prog_1_method_19_code
def yX6_silence : MethodName := ⟨RX6, "silence", "()I"⟩
abbrev cX6_again : ByteArray := prog_1_method_20_code
def yX6_again : MethodName := ⟨RX6, "again", "()I"⟩
abbrev cX6_harsh : ByteArray := prog_1_method_21_code
def yX6_harsh : MethodName := ⟨RX6, "harsh", "()I"⟩
abbrev cX6_canon : ByteArray := prog_1_method_22_code
def yX6_canon : MethodName := ⟨RX6, "canon", "(I)I"⟩
abbrev cX6_ringsInATurn : ByteArray := prog_1_method_23_code
def yX6_ringsInATurn : MethodName := ⟨RX6, "ringsInATurn", "(LRungByADrum$Drum;)I"⟩
abbrev cX6_allPins : ByteArray := prog_1_method_24_code
def yX6_allPins : MethodName := ⟨RX6, "allPins", "()I"⟩
abbrev cX6_comesAgainAfter : ByteArray := prog_1_method_25_code
def yX6_comesAgainAfter : MethodName := ⟨RX6, "comesAgainAfter", "(I)Z"⟩
abbrev cX6_illTwos : ByteArray := prog_1_method_26_code
def yX6_illTwos : MethodName := ⟨RX6, "illTwos", "(I)I"⟩
abbrev cX6_want : ByteArray := prog_1_method_27_code
def yX6_want : MethodName := ⟨RX6, "want", "(II)I"⟩
abbrev cX6_changes : ByteArray := prog_1_method_28_code
def yX6_changes : MethodName := ⟨RX6, "changes", "(I)I"⟩
abbrev cX6_letters : ByteArray := prog_1_method_29_code
def yX6_letters : MethodName := ⟨RX6, "letters", "()I"⟩
abbrev cX6_ringers : ByteArray := prog_1_method_30_code
def yX6_ringers : MethodName := ⟨RX6, "ringers", "()I"⟩
abbrev cX6_changesIfShifted : ByteArray := prog_1_method_31_code
def yX6_changesIfShifted : MethodName := ⟨RX6, "changesIfShifted", "(I)I"⟩
abbrev cX6_hear : ByteArray := prog_1_method_32_code
def yX6_hear : MethodName := ⟨RX6, "hear", "(I)I"⟩
abbrev cX6_forget : ByteArray := prog_1_method_33_code
def yX6_forget : MethodName := ⟨RX6, "forget", "()I"⟩
abbrev cX6_stood : ByteArray := prog_1_method_34_code
def yX6_stood : MethodName := ⟨RX6, "stood", "()I"⟩
abbrev cX6_octaves : ByteArray := prog_1_method_35_code
def yX6_octaves : MethodName := ⟨RX6, "octaves", "()I"⟩
abbrev cX6_melody : ByteArray := prog_1_method_36_code
def yX6_melody : MethodName := ⟨RX6, "melody", "(I)I"⟩
abbrev cX6_winter : ByteArray := prog_1_method_37_code
def yX6_winter : MethodName := ⟨RX6, "winter", "(III)I"⟩
abbrev cX6_keep : ByteArray := prog_1_method_38_code
def yX6_keep : MethodName := ⟨RX6, "keep", "()I"⟩
abbrev cX6_back : ByteArray := prog_1_method_39_code
def yX6_back : MethodName := ⟨RX6, "back", "()I"⟩
abbrev cX6_count : ByteArray := prog_1_method_40_code
def yX6_count : MethodName := ⟨RX6, "count", "(I)I"⟩
abbrev cX6_isHeardFrom : ByteArray := prog_1_method_41_code
def yX6_isHeardFrom : MethodName := ⟨RX6, "isHeardFrom", "(I)Z"⟩
abbrev cX6_draw : ByteArray := prog_1_method_42_code
def yX6_draw : MethodName := ⟨RX6, "draw", "(II)I"⟩
def RX7 : String := "RungByADrumModel"
def TX7 : u_T := fun k => match k with
  | 0 => ("RungByADrumModel", "tower", "[I", true)
  | 1 => ("RungByADrumModel", "read", "[I", true)
  | 2 => ("RungByADrumModel", "tune", "[I", true)
  | 3 => ("RungByADrumModel", "tuneRows", "I", false)
  | 4 => ("RungByADrumModel", "now", "[I", true)
  | 5 => ("RungByADrumModel", "past", "[I", true)
  | 6 => ("RungByADrumModel", "undos", "I", false)
  | 7 => ("RungByADrumModel", "kept", "[I", true)
  | 8 => ("RungByADrumModel", "keptMany", "I", false)
  | 9 => ("RungByADrumModel", "text", "[I", true)
  | 10 => ("RungByADrumModel", "size", "I", false)
  | 11 => ("RungByADrumModel", "wanted", "[I", true)
  | 12 => ("RungByADrumModel", "heard", "[I", true)
  | 13 => ("RungByADrumModel", "heardMany", "I", false)
  | 14 => ("RungByADrumModel", "at", "I", false)
  | 15 => ("RungByADrumModel", "isTune", "Z", false)
  | 16 => ("RungByADrumModel", "numbers", "[I", true)
  | 17 => ("RungByADrumModel", "starts", "[I", true)
  | 18 => ("RungByADrumModel", "moved", "[I", true)
  | 19 => ("RungByADrumModel", "aside", "[I", true)
  | 20 => ("RungByADrumModel", "shortest", "[I", true)
  | 21 => ("RungByADrumModel", "people", "[I", true)
  | _ => ("RungByADrumModel", "ones", "[Z", true)
def tyX7 : Nat → FieldType := fun k => match k with
  | 0 => .array .int
  | 1 => .array .int
  | 2 => .array .int
  | 3 => .int
  | 4 => .array .int
  | 5 => .array .int
  | 6 => .int
  | 7 => .array .int
  | 8 => .int
  | 9 => .array .int
  | 10 => .int
  | 11 => .array .int
  | 12 => .array .int
  | 13 => .int
  | 14 => .int
  | 15 => .boolean
  | 16 => .array .int
  | 17 => .array .int
  | 18 => .array .int
  | 19 => .array .int
  | 20 => .array .int
  | 21 => .array .int
  | _ => .array .boolean
abbrev wsX70 : List Cond := u_ws RX7 TX7 23
theorem nmX7 : ∀ a, a < 23 → ∀ b, b < 23 → a ≠ b → (TX7 a).2.1 ≠ (TX7 b).2.1 := by decide +kernel
theorem tyX7_ok : ∀ k, k < 23 → parseFieldDescriptor (TX7 k).2.2.1 = some (tyX7 k) := by decide +kernel
abbrev cX7_init : ByteArray := prog_9_method_1_code
def yX7_init : MethodName := ⟨RX7, "<init>", "()V"⟩
abbrev cX7_in : ByteArray := prog_9_method_3_code
def yX7_in : MethodName := ⟨RX7, "in", "(JJJ)Z"⟩
abbrev cX7_isTwo : ByteArray := prog_9_method_4_code
def yX7_isTwo : MethodName := ⟨RX7, "isTwo", "(I)Z"⟩
abbrev cX7_has : ByteArray := prog_9_method_5_code
def yX7_has : MethodName := ⟨RX7, "has", "(II)Z"⟩
abbrev cX7_bits : ByteArray := prog_9_method_6_code
def yX7_bits : MethodName := ⟨RX7, "bits", "(I)I"⟩
abbrev cX7_write : ByteArray := prog_9_method_7_code
def yX7_write : MethodName := ⟨RX7, "write", "(I)I"⟩
abbrev cX7_wipe : ByteArray := prog_9_method_8_code
def yX7_wipe : MethodName := ⟨RX7, "wipe", "()I"⟩
abbrev cX7_clean : ByteArray := prog_9_method_9_code
def yX7_clean : MethodName := ⟨RX7, "clean", "()V"⟩
abbrev cX7_comes : ByteArray := prog_9_method_10_code
def yX7_comes : MethodName := ⟨RX7, "comes", "(II)V"⟩
abbrev cX7_put : ByteArray := prog_9_method_11_code
def yX7_put : MethodName := ⟨RX7, "put", "(I)Z"⟩
abbrev cX7_here : ByteArray := prog_9_method_12_code
def yX7_here : MethodName := ⟨RX7, "here", "()I"⟩
abbrev cX7_takes : ByteArray := prog_9_method_13_code
def yX7_takes : MethodName := ⟨RX7, "takes", "(I)Z"⟩
abbrev cX7_takesBell : ByteArray := prog_9_method_14_code
def yX7_takesBell : MethodName := ⟨RX7, "takesBell", "()Z"⟩
abbrev cX7_takesOne : ByteArray := prog_9_method_15_code
def yX7_takesOne : MethodName := ⟨RX7, "takesOne", "(III)Z"⟩
abbrev cX7_isBellHere : ByteArray := prog_9_method_16_code
def yX7_isBellHere : MethodName := ⟨RX7, "isBellHere", "()Z"⟩
abbrev cX7_chord : ByteArray := prog_9_method_17_code
def yX7_chord : MethodName := ⟨RX7, "chord", "()I"⟩
abbrev cX7_tellsAgain : ByteArray := prog_9_method_18_code
def yX7_tellsAgain : MethodName := ⟨RX7, "tellsAgain", "(II)Z"⟩
abbrev cX7_takesTune : ByteArray := prog_9_method_19_code
def yX7_takesTune : MethodName := ⟨RX7, "takesTune", "()Z"⟩
abbrev cX7_takesItem : ByteArray := prog_9_method_20_code
def yX7_takesItem : MethodName := ⟨RX7, "takesItem", "()Z"⟩
abbrev cX7_fault : ByteArray := prog_9_method_21_code
def yX7_fault : MethodName := ⟨RX7, "fault", "()I"⟩
abbrev cX7_begins : ByteArray := prog_9_method_22_code
def yX7_begins : MethodName := ⟨RX7, "begins", "()V"⟩
abbrev cX7_lay : ByteArray := prog_9_method_23_code
def yX7_lay : MethodName := ⟨RX7, "lay", "()I"⟩
abbrev cX7_isBell : ByteArray := prog_9_method_24_code
def yX7_isBell : MethodName := ⟨RX7, "isBell", "(I)Z"⟩
abbrev cX7_isRow : ByteArray := prog_9_method_25_code
def yX7_isRow : MethodName := ⟨RX7, "isRow", "(I)Z"⟩
abbrev cX7_isSet : ByteArray := prog_9_method_26_code
def yX7_isSet : MethodName := ⟨RX7, "isSet", "(I)Z"⟩
abbrev cX7_rings : ByteArray := prog_9_method_27_code
def yX7_rings : MethodName := ⟨RX7, "rings", "([II)I"⟩
abbrev cX7_comesNext : ByteArray := prog_9_method_28_code
def yX7_comesNext : MethodName := ⟨RX7, "comesNext", "([I)I"⟩
abbrev cX7_bell : ByteArray := prog_9_method_29_code
def yX7_bell : MethodName := ⟨RX7, "bell", "(II)I"⟩
abbrev cX7_pins : ByteArray := prog_9_method_30_code
def yX7_pins : MethodName := ⟨RX7, "pins", "(I)I"⟩
abbrev cX7_copies : ByteArray := prog_9_method_31_code
def yX7_copies : MethodName := ⟨RX7, "copies", "([II[II)V"⟩
abbrev cX7_remember : ByteArray := prog_9_method_32_code
def yX7_remember : MethodName := ⟨RX7, "remember", "()V"⟩
abbrev cX7_turn : ByteArray := prog_9_method_33_code
def yX7_turn : MethodName := ⟨RX7, "turn", "()I"⟩
abbrev cX7_turnBack : ByteArray := prog_9_method_34_code
def yX7_turnBack : MethodName := ⟨RX7, "turnBack", "()I"⟩
abbrev cX7_pin : ByteArray := prog_9_method_35_code
def yX7_pin : MethodName := ⟨RX7, "pin", "(IIZ)I"⟩
abbrev cX7_shifted : ByteArray := prog_9_method_36_code
def yX7_shifted : MethodName := ⟨RX7, "shifted", "(II)I"⟩
abbrev cX7_shift : ByteArray := prog_9_method_37_code
def yX7_shift : MethodName := ⟨RX7, "shift", "(I)I"⟩
abbrev cX7_undo : ByteArray := prog_9_method_38_code
def yX7_undo : MethodName := ⟨RX7, "undo", "()I"⟩
abbrev cX7_sumOf : ByteArray := prog_9_method_39_code
def yX7_sumOf : MethodName := ⟨RX7, "sumOf", "(I)I"⟩
abbrev cX7_go : ByteArray := prog_9_method_40_code
def yX7_go : MethodName := ⟨RX7, "go", "(I)V"⟩
abbrev cX7_whole : ByteArray := prog_9_method_41_code
def yX7_whole : MethodName := ⟨RX7, "whole", "(I)I"⟩
abbrev cX7_silence : ByteArray := prog_9_method_42_code
def yX7_silence : MethodName := ⟨RX7, "silence", "()I"⟩
abbrev cX7_again : ByteArray := prog_9_method_43_code
def yX7_again : MethodName := ⟨RX7, "again", "()I"⟩
abbrev cX7_comesAgain : ByteArray := prog_9_method_44_code
def yX7_comesAgain : MethodName := ⟨RX7, "comesAgain", "(I)Z"⟩
abbrev cX7_isIll : ByteArray := prog_9_method_45_code
def yX7_isIll : MethodName := ⟨RX7, "isIll", "(II)Z"⟩
abbrev cX7_illOf : ByteArray := prog_9_method_46_code
def yX7_illOf : MethodName := ⟨RX7, "illOf", "(II)I"⟩
abbrev cX7_harsh : ByteArray := prog_9_method_47_code
def yX7_harsh : MethodName := ⟨RX7, "harsh", "()I"⟩
abbrev cX7_canon : ByteArray := prog_9_method_48_code
def yX7_canon : MethodName := ⟨RX7, "canon", "(I)I"⟩
abbrev cX7_want : ByteArray := prog_9_method_49_code
def yX7_want : MethodName := ⟨RX7, "want", "(II)I"⟩
abbrev cX7_changes : ByteArray := prog_9_method_50_code
def yX7_changes : MethodName := ⟨RX7, "changes", "(I)I"⟩
abbrev cX7_cell : ByteArray := prog_9_method_51_code
def yX7_cell : MethodName := ⟨RX7, "cell", "(III)I"⟩
abbrev cX7_isAgain : ByteArray := prog_9_method_52_code
def yX7_isAgain : MethodName := ⟨RX7, "isAgain", "(III)Z"⟩
abbrev cX7_fewest : ByteArray := prog_9_method_53_code
def yX7_fewest : MethodName := ⟨RX7, "fewest", "(III)I"⟩
abbrev cX7_letters : ByteArray := prog_9_method_54_code
def yX7_letters : MethodName := ⟨RX7, "letters", "()I"⟩
abbrev cX7_areOne : ByteArray := prog_9_method_55_code
def yX7_areOne : MethodName := ⟨RX7, "areOne", "(I)Z"⟩
abbrev cX7_ringers : ByteArray := prog_9_method_56_code
def yX7_ringers : MethodName := ⟨RX7, "ringers", "()I"⟩
abbrev cX7_hear : ByteArray := prog_9_method_57_code
def yX7_hear : MethodName := ⟨RX7, "hear", "(I)I"⟩
abbrev cX7_forget : ByteArray := prog_9_method_58_code
def yX7_forget : MethodName := ⟨RX7, "forget", "()I"⟩
abbrev cX7_stood : ByteArray := prog_9_method_59_code
def yX7_stood : MethodName := ⟨RX7, "stood", "()I"⟩
abbrev cX7_octaves : ByteArray := prog_9_method_60_code
def yX7_octaves : MethodName := ⟨RX7, "octaves", "()I"⟩
abbrev cX7_melody : ByteArray := prog_9_method_61_code
def yX7_melody : MethodName := ⟨RX7, "melody", "(I)I"⟩
abbrev cX7_winter : ByteArray := prog_9_method_62_code
def yX7_winter : MethodName := ⟨RX7, "winter", "(III)I"⟩
abbrev cX7_keep : ByteArray := prog_9_method_63_code
def yX7_keep : MethodName := ⟨RX7, "keep", "()I"⟩
abbrev cX7_back : ByteArray := prog_9_method_64_code
def yX7_back : MethodName := ⟨RX7, "back", "()I"⟩
abbrev cX7_count : ByteArray := prog_9_method_65_code
def yX7_count : MethodName := ⟨RX7, "count", "(I)I"⟩
def RJx145de : String := "java/io/Serializable"
def TJx145de : u_T := fun k => match k with
  | _ => ("", "", "", false)
def tyJx145de : Nat → FieldType := fun k => match k with
  | _ => .int
abbrev wsJx145de0 : List Cond := u_ws RJx145de TJx145de 0
theorem nmJx145de : ∀ a, a < 0 → ∀ b, b < 0 → a ≠ b → (TJx145de a).2.1 ≠ (TJx145de b).2.1 := by decide +kernel
theorem tyJx145de_ok : ∀ k, k < 0 → parseFieldDescriptor (TJx145de k).2.2.1 = some (tyJx145de k) := by decide +kernel
def RJx9f9b0 : String := "java/lang/CharSequence"
def TJx9f9b0 : u_T := fun k => match k with
  | _ => ("", "", "", false)
def tyJx9f9b0 : Nat → FieldType := fun k => match k with
  | _ => .int
abbrev wsJx9f9b00 : List Cond := u_ws RJx9f9b0 TJx9f9b0 0
theorem nmJx9f9b0 : ∀ a, a < 0 → ∀ b, b < 0 → a ≠ b → (TJx9f9b0 a).2.1 ≠ (TJx9f9b0 b).2.1 := by decide +kernel
theorem tyJx9f9b0_ok : ∀ k, k < 0 → parseFieldDescriptor (TJx9f9b0 k).2.2.1 = some (tyJx9f9b0 k) := by decide +kernel
def RJxb160c : String := "java/lang/Comparable"
def TJxb160c : u_T := fun k => match k with
  | _ => ("", "", "", false)
def tyJxb160c : Nat → FieldType := fun k => match k with
  | _ => .int
abbrev wsJxb160c0 : List Cond := u_ws RJxb160c TJxb160c 0
theorem nmJxb160c : ∀ a, a < 0 → ∀ b, b < 0 → a ≠ b → (TJxb160c a).2.1 ≠ (TJxb160c b).2.1 := by decide +kernel
theorem tyJxb160c_ok : ∀ k, k < 0 → parseFieldDescriptor (TJxb160c k).2.2.1 = some (tyJxb160c k) := by decide +kernel
def RJ6 : String := "java/lang/Integer"
def TJ6 : u_T := fun k => match k with
  | _ => ("", "", "", false)
def tyJ6 : Nat → FieldType := fun k => match k with
  | _ => .int
abbrev wsJ60 : List Cond := u_ws RJ6 TJ6 0
theorem nmJ6 : ∀ a, a < 0 → ∀ b, b < 0 → a ≠ b → (TJ6 a).2.1 ≠ (TJ6 b).2.1 := by decide +kernel
theorem tyJ6_ok : ∀ k, k < 0 → parseFieldDescriptor (TJ6 k).2.2.1 = some (tyJ6 k) := by decide +kernel
abbrev cJ6_bitCount_0f7a4 : ByteArray := prog_10_method_49_code
def yJ6_bitCount_0f7a4 : MethodName := ⟨RJ6, "bitCount", "(I)I"⟩
def RJ9 : String := "java/lang/Math"
def TJ9 : u_T := fun k => match k with
  | _ => ("", "", "", false)
def tyJ9 : Nat → FieldType := fun k => match k with
  | _ => .int
abbrev wsJ90 : List Cond := u_ws RJ9 TJ9 0
theorem nmJ9 : ∀ a, a < 0 → ∀ b, b < 0 → a ≠ b → (TJ9 a).2.1 ≠ (TJ9 b).2.1 := by decide +kernel
theorem tyJ9_ok : ∀ k, k < 0 → parseFieldDescriptor (TJ9 k).2.2.1 = some (tyJ9 k) := by decide +kernel
abbrev cJ9_floorMod_7cf53 : ByteArray := prog_11_method_50_code
def yJ9_floorMod_7cf53 : MethodName := ⟨RJ9, "floorMod", "(II)I"⟩
abbrev cJ9_abs_0f7a4 : ByteArray := prog_11_method_59_code
def yJ9_abs_0f7a4 : MethodName := ⟨RJ9, "abs", "(I)I"⟩
abbrev cJ9_max_7cf53 : ByteArray := prog_11_method_65_code
def yJ9_max_7cf53 : MethodName := ⟨RJ9, "max", "(II)I"⟩
abbrev cJ9_min_7cf53 : ByteArray := prog_11_method_69_code
def yJ9_min_7cf53 : MethodName := ⟨RJ9, "min", "(II)I"⟩
def RJ0 : String := "java/lang/String"
def TJ0 : u_T := fun k => match k with
  | _ => ("", "", "", false)
def tyJ0 : Nat → FieldType := fun k => match k with
  | _ => .int
abbrev wsJ00 : List Cond := u_ws RJ0 TJ0 0
theorem nmJ0 : ∀ a, a < 0 → ∀ b, b < 0 → a ≠ b → (TJ0 a).2.1 ≠ (TJ0 b).2.1 := by decide +kernel
theorem tyJ0_ok : ∀ k, k < 0 → parseFieldDescriptor (TJ0 k).2.2.1 = some (tyJ0 k) := by decide +kernel
abbrev cJ0_length_8abf5 : ByteArray := prog_12_method_54_code
def yJ0_length_8abf5 : MethodName := ⟨RJ0, "length", "()I"⟩
abbrev cJ0_charAt_5068e : ByteArray := prog_12_method_56_code
def yJ0_charAt_5068e : MethodName := ⟨RJ0, "charAt", "(I)C"⟩
abbrev cJ0_coder_7d493 : ByteArray := prog_12_method_152_code
def yJ0_coder_7d493 : MethodName := ⟨RJ0, "coder", "()B"⟩
abbrev cJ0_isLatin1_aae02 : ByteArray := prog_12_method_154_code
def yJ0_isLatin1_aae02 : MethodName := ⟨RJ0, "isLatin1", "()Z"⟩
abbrev cJ0_checkIndex_df160 : ByteArray := prog_12_method_155_code
def yJ0_checkIndex_df160 : MethodName := ⟨RJ0, "checkIndex", "(II)V"⟩
def RJ1 : String := "java/lang/StringLatin1"
def TJ1 : u_T := fun k => match k with
  | _ => ("", "", "", false)
def tyJ1 : Nat → FieldType := fun k => match k with
  | _ => .int
abbrev wsJ10 : List Cond := u_ws RJ1 TJ1 0
theorem nmJ1 : ∀ a, a < 0 → ∀ b, b < 0 → a ≠ b → (TJ1 a).2.1 ≠ (TJ1 b).2.1 := by decide +kernel
theorem tyJ1_ok : ∀ k, k < 0 → parseFieldDescriptor (TJ1 k).2.2.1 = some (tyJ1 k) := by decide +kernel
abbrev cJ1_charAt_3b067 : ByteArray := prog_13_method_2_code
def yJ1_charAt_3b067 : MethodName := ⟨RJ1, "charAt", "([BI)C"⟩
def RJ2 : String := "java/lang/StringUTF16"
def TJ2 : u_T := fun k => match k with
  | _ => ("", "", "", false)
def tyJ2 : Nat → FieldType := fun k => match k with
  | _ => .int
abbrev wsJ20 : List Cond := u_ws RJ2 TJ2 0
theorem nmJ2 : ∀ a, a < 0 → ∀ b, b < 0 → a ≠ b → (TJ2 a).2.1 ≠ (TJ2 b).2.1 := by decide +kernel
theorem tyJ2_ok : ∀ k, k < 0 → parseFieldDescriptor (TJ2 k).2.2.1 = some (tyJ2 k) := by decide +kernel
abbrev cJ2_getChar_3b067 : ByteArray := prog_14_method_5_code
def yJ2_getChar_3b067 : MethodName := ⟨RJ2, "getChar", "([BI)C"⟩
abbrev cJ2_length_9d52b : ByteArray := prog_14_method_6_code
def yJ2_length_9d52b : MethodName := ⟨RJ2, "length", "([B)I"⟩
abbrev cJ2_charAt_3b067 : ByteArray := prog_14_method_83_code
def yJ2_charAt_3b067 : MethodName := ⟨RJ2, "charAt", "([BI)C"⟩
abbrev cJ2_checkIndex_2214a : ByteArray := prog_14_method_91_code
def yJ2_checkIndex_2214a : MethodName := ⟨RJ2, "checkIndex", "(I[B)V"⟩
def RJ10 : String := "java/lang/System"
def TJ10 : u_T := fun k => match k with
  | _ => ("", "", "", false)
def tyJ10 : Nat → FieldType := fun k => match k with
  | _ => .int
abbrev wsJ100 : List Cond := u_ws RJ10 TJ10 0
theorem nmJ10 : ∀ a, a < 0 → ∀ b, b < 0 → a ≠ b → (TJ10 a).2.1 ≠ (TJ10 b).2.1 := by decide +kernel
theorem tyJ10_ok : ∀ k, k < 0 → parseFieldDescriptor (TJ10 k).2.2.1 = some (tyJ10 k) := by decide +kernel
def RJxfd54e : String := "java/lang/constant/Constable"
def TJxfd54e : u_T := fun k => match k with
  | _ => ("", "", "", false)
def tyJxfd54e : Nat → FieldType := fun k => match k with
  | _ => .int
abbrev wsJxfd54e0 : List Cond := u_ws RJxfd54e TJxfd54e 0
theorem nmJxfd54e : ∀ a, a < 0 → ∀ b, b < 0 → a ≠ b → (TJxfd54e a).2.1 ≠ (TJxfd54e b).2.1 := by decide +kernel
theorem tyJxfd54e_ok : ∀ k, k < 0 → parseFieldDescriptor (TJxfd54e k).2.2.1 = some (tyJxfd54e k) := by decide +kernel
def RJx3cf43 : String := "java/lang/constant/ConstantDesc"
def TJx3cf43 : u_T := fun k => match k with
  | _ => ("", "", "", false)
def tyJx3cf43 : Nat → FieldType := fun k => match k with
  | _ => .int
abbrev wsJx3cf430 : List Cond := u_ws RJx3cf43 TJx3cf43 0
theorem nmJx3cf43 : ∀ a, a < 0 → ∀ b, b < 0 → a ≠ b → (TJx3cf43 a).2.1 ≠ (TJx3cf43 b).2.1 := by decide +kernel
theorem tyJx3cf43_ok : ∀ k, k < 0 → parseFieldDescriptor (TJx3cf43 k).2.2.1 = some (tyJx3cf43 k) := by decide +kernel
def RJ7 : String := "java/util/Arrays"
def TJ7 : u_T := fun k => match k with
  | _ => ("", "", "", false)
def tyJ7 : Nat → FieldType := fun k => match k with
  | _ => .int
abbrev wsJ70 : List Cond := u_ws RJ7 TJ7 0
theorem nmJ7 : ∀ a, a < 0 → ∀ b, b < 0 → a ≠ b → (TJ7 a).2.1 ≠ (TJ7 b).2.1 := by decide +kernel
theorem tyJ7_ok : ∀ k, k < 0 → parseFieldDescriptor (TJ7 k).2.2.1 = some (tyJ7 k) := by decide +kernel
abbrev cJ7_fill_53178 : ByteArray := prog_16_method_103_code
def yJ7_fill_53178 : MethodName := ⟨RJ7, "fill", "([II)V"⟩
def RJ3 : String := "jdk/internal/util/Preconditions"
def TJ3 : u_T := fun k => match k with
  | _ => ("", "", "", false)
def tyJ3 : Nat → FieldType := fun k => match k with
  | _ => .int
abbrev wsJ30 : List Cond := u_ws RJ3 TJ3 0
theorem nmJ3 : ∀ a, a < 0 → ∀ b, b < 0 → a ≠ b → (TJ3 a).2.1 ≠ (TJ3 b).2.1 := by decide +kernel
theorem tyJ3_ok : ∀ k, k < 0 → parseFieldDescriptor (TJ3 k).2.2.1 = some (tyJ3 k) := by decide +kernel
abbrev cJ3_checkIndex_8e157 : ByteArray := prog_17_method_11_code
def yJ3_checkIndex_8e157 : MethodName := ⟨RJ3, "checkIndex", "(IILjava/util/function/BiFunction;)I"⟩
def RL : String := "RungByADrumLaw"
abbrev cL_law : ByteArray := code
def yL_law : MethodName := ⟨RL, "law", "([I)Z"⟩
abbrev vwCl : List vw_C := [(RX0, TX0, 6), (RX1, TX1, 4), (RX2, TX2, 4), (RX3, TX3, 1), (RX4, TX4, 4), (RX5, TX5, 9), (RX6, TX6, 12), (RX7, TX7, 23)]
/-- the words of the tables that any state of the run keeps -/
def gt : List Cond := lw_tbl.filter goodWord
theorem gt_in (i : Nat) {w : Cond} (h : lw_tbl[i]? = some w) (hg : goodWord w = true) : w ∈ gt := List.mem_filter.mpr ⟨List.mem_of_getElem? h, hg⟩
theorem gt_good {w : Cond} (h : w ∈ gt) : (w.onTables && w.keeps) = true ∨ ∃ ty, w = .arrayClass ty := good_of_word (List.mem_filter.mp h).2
