section
-- ===== PART A: goes FIRST, ahead of the names: the tables' words, and 'selects' of the private methods out of them =====
/-- a private method of a class that the tables say can be made, by its rows of tables_1 -/
def lw_okq (q : MethodName × Nat) : Prop := (q.1.cls ≠ "java/lang/invoke/MethodHandle" ∧ q.1.cls ≠ "java/lang/invoke/VarHandle") ∧ Cond.instantiable q.1.cls q.2 ∈ tables_1 ∧ Cond.privateMethod q.1 ∈ tables_1 ∧ Cond.instanceMethod q.1 ∈ tables_1
theorem lw_p0 : lw_okq (⟨"RungByADrum$Text", "readItem", "(LRungByADrum$Tower;)Z"⟩, 4) := ⟨⟨by decide +kernel, by decide +kernel⟩, List.mem_of_getElem? (i := 26) (by decide +kernel), List.mem_of_getElem? (i := 244) (by decide +kernel), List.mem_of_getElem? (i := 245) (by decide +kernel)⟩
theorem lw_p1 : lw_okq (⟨"RungByADrum$Text", "peek", "()I"⟩, 4) := ⟨⟨by decide +kernel, by decide +kernel⟩, List.mem_of_getElem? (i := 26) (by decide +kernel), List.mem_of_getElem? (i := 248) (by decide +kernel), List.mem_of_getElem? (i := 249) (by decide +kernel)⟩
theorem lw_p2 : lw_okq (⟨"RungByADrum$Text", "readBell", "(LRungByADrum$Tower;)Z"⟩, 4) := ⟨⟨by decide +kernel, by decide +kernel⟩, List.mem_of_getElem? (i := 26) (by decide +kernel), List.mem_of_getElem? (i := 252) (by decide +kernel), List.mem_of_getElem? (i := 253) (by decide +kernel)⟩
theorem lw_p3 : lw_okq (⟨"RungByADrum$Text", "readNumber", "()I"⟩, 4) := ⟨⟨by decide +kernel, by decide +kernel⟩, List.mem_of_getElem? (i := 26) (by decide +kernel), List.mem_of_getElem? (i := 256) (by decide +kernel), List.mem_of_getElem? (i := 257) (by decide +kernel)⟩
theorem lw_p4 : lw_okq (⟨"RungByADrum$Text", "readFigure", "()I"⟩, 4) := ⟨⟨by decide +kernel, by decide +kernel⟩, List.mem_of_getElem? (i := 26) (by decide +kernel), List.mem_of_getElem? (i := 260) (by decide +kernel), List.mem_of_getElem? (i := 261) (by decide +kernel)⟩
theorem lw_p5 : lw_okq (⟨"RungByADrum$Text", "accept", "(I)Z"⟩, 4) := ⟨⟨by decide +kernel, by decide +kernel⟩, List.mem_of_getElem? (i := 26) (by decide +kernel), List.mem_of_getElem? (i := 264) (by decide +kernel), List.mem_of_getElem? (i := 265) (by decide +kernel)⟩
theorem lw_p6 : lw_okq (⟨"RungByADrum$Text", "readTune", "(LRungByADrum$Tower;)Z"⟩, 4) := ⟨⟨by decide +kernel, by decide +kernel⟩, List.mem_of_getElem? (i := 26) (by decide +kernel), List.mem_of_getElem? (i := 283) (by decide +kernel), List.mem_of_getElem? (i := 284) (by decide +kernel)⟩
theorem lw_p7 : lw_okq (⟨"RungByADrum$Text", "readSet", "(I)I"⟩, 4) := ⟨⟨by decide +kernel, by decide +kernel⟩, List.mem_of_getElem? (i := 26) (by decide +kernel), List.mem_of_getElem? (i := 295) (by decide +kernel), List.mem_of_getElem? (i := 296) (by decide +kernel)⟩
theorem lw_p8 : lw_okq (⟨"RungByADrum$Text", "readBellLetter", "(I)I"⟩, 4) := ⟨⟨by decide +kernel, by decide +kernel⟩, List.mem_of_getElem? (i := 26) (by decide +kernel), List.mem_of_getElem? (i := 299) (by decide +kernel), List.mem_of_getElem? (i := 300) (by decide +kernel)⟩
theorem lw_p9 : lw_okq (⟨"RungByADrum", "layTold", "()V"⟩, 12) := ⟨⟨by decide +kernel, by decide +kernel⟩, List.mem_of_getElem? (i := 18) (by decide +kernel), List.mem_of_getElem? (i := 310) (by decide +kernel), List.mem_of_getElem? (i := 311) (by decide +kernel)⟩
theorem lw_p10 : lw_okq (⟨"RungByADrum", "isBell", "(I)Z"⟩, 12) := ⟨⟨by decide +kernel, by decide +kernel⟩, List.mem_of_getElem? (i := 18) (by decide +kernel), List.mem_of_getElem? (i := 395) (by decide +kernel), List.mem_of_getElem? (i := 396) (by decide +kernel)⟩
theorem lw_p11 : lw_okq (⟨"RungByADrum", "pinsOfBell", "(I)I"⟩, 12) := ⟨⟨by decide +kernel, by decide +kernel⟩, List.mem_of_getElem? (i := 18) (by decide +kernel), List.mem_of_getElem? (i := 399) (by decide +kernel), List.mem_of_getElem? (i := 400) (by decide +kernel)⟩
theorem lw_p12 : lw_okq (⟨"RungByADrum", "isRow", "(I)Z"⟩, 12) := ⟨⟨by decide +kernel, by decide +kernel⟩, List.mem_of_getElem? (i := 18) (by decide +kernel), List.mem_of_getElem? (i := 407) (by decide +kernel), List.mem_of_getElem? (i := 408) (by decide +kernel)⟩
theorem lw_p13 : lw_okq (⟨"RungByADrum$Drum", "ringRow", "(ILRungByADrum$Tower;)I"⟩, 6) := ⟨⟨by decide +kernel, by decide +kernel⟩, List.mem_of_getElem? (i := 99) (by decide +kernel), List.mem_of_getElem? (i := 430) (by decide +kernel), List.mem_of_getElem? (i := 431) (by decide +kernel)⟩
theorem lw_p14 : lw_okq (⟨"RungByADrum$Drum", "strike", "(ILRungByADrum$Tower;)Z"⟩, 6) := ⟨⟨by decide +kernel, by decide +kernel⟩, List.mem_of_getElem? (i := 99) (by decide +kernel), List.mem_of_getElem? (i := 434) (by decide +kernel), List.mem_of_getElem? (i := 435) (by decide +kernel)⟩
theorem lw_p15 : lw_okq (⟨"RungByADrum", "ringsInATurn", "(LRungByADrum$Drum;)I"⟩, 12) := ⟨⟨by decide +kernel, by decide +kernel⟩, List.mem_of_getElem? (i := 18) (by decide +kernel), List.mem_of_getElem? (i := 483) (by decide +kernel), List.mem_of_getElem? (i := 484) (by decide +kernel)⟩
def lw_privs_1 : List (MethodName × Nat) := [(⟨"RungByADrum$Text", "readItem", "(LRungByADrum$Tower;)Z"⟩, 4), (⟨"RungByADrum$Text", "peek", "()I"⟩, 4), (⟨"RungByADrum$Text", "readBell", "(LRungByADrum$Tower;)Z"⟩, 4), (⟨"RungByADrum$Text", "readNumber", "()I"⟩, 4), (⟨"RungByADrum$Text", "readFigure", "()I"⟩, 4), (⟨"RungByADrum$Text", "accept", "(I)Z"⟩, 4), (⟨"RungByADrum$Text", "readTune", "(LRungByADrum$Tower;)Z"⟩, 4), (⟨"RungByADrum$Text", "readSet", "(I)I"⟩, 4), (⟨"RungByADrum$Text", "readBellLetter", "(I)I"⟩, 4), (⟨"RungByADrum", "layTold", "()V"⟩, 12), (⟨"RungByADrum", "isBell", "(I)Z"⟩, 12), (⟨"RungByADrum", "pinsOfBell", "(I)I"⟩, 12), (⟨"RungByADrum", "isRow", "(I)Z"⟩, 12), (⟨"RungByADrum$Drum", "ringRow", "(ILRungByADrum$Tower;)I"⟩, 6), (⟨"RungByADrum$Drum", "strike", "(ILRungByADrum$Tower;)Z"⟩, 6), (⟨"RungByADrum", "ringsInATurn", "(LRungByADrum$Drum;)I"⟩, 12)]
theorem lw_r1 : ∀ q ∈ lw_privs_1, lw_okq q := List.forall_mem_cons.mpr ⟨lw_p0, List.forall_mem_cons.mpr ⟨lw_p1, List.forall_mem_cons.mpr ⟨lw_p2, List.forall_mem_cons.mpr ⟨lw_p3, List.forall_mem_cons.mpr ⟨lw_p4, List.forall_mem_cons.mpr ⟨lw_p5, List.forall_mem_cons.mpr ⟨lw_p6, List.forall_mem_cons.mpr ⟨lw_p7, List.forall_mem_cons.mpr ⟨lw_p8, List.forall_mem_cons.mpr ⟨lw_p9, List.forall_mem_cons.mpr ⟨lw_p10, List.forall_mem_cons.mpr ⟨lw_p11, List.forall_mem_cons.mpr ⟨lw_p12, List.forall_mem_cons.mpr ⟨lw_p13, List.forall_mem_cons.mpr ⟨lw_p14, List.forall_mem_cons.mpr ⟨lw_p15, fun _ h => absurd h List.not_mem_nil⟩⟩⟩⟩⟩⟩⟩⟩⟩⟩⟩⟩⟩⟩⟩⟩
theorem lw_p16 : lw_okq (⟨"RungByADrum", "allPins", "()I"⟩, 12) := ⟨⟨by decide +kernel, by decide +kernel⟩, List.mem_of_getElem? (i := 18) (by decide +kernel), List.mem_of_getElem? (i := 487) (by decide +kernel), List.mem_of_getElem? (i := 488) (by decide +kernel)⟩
theorem lw_p17 : lw_okq (⟨"RungByADrum", "comesAgainAfter", "(I)Z"⟩, 12) := ⟨⟨by decide +kernel, by decide +kernel⟩, List.mem_of_getElem? (i := 18) (by decide +kernel), List.mem_of_getElem? (i := 501) (by decide +kernel), List.mem_of_getElem? (i := 502) (by decide +kernel)⟩
theorem lw_p18 : lw_okq (⟨"RungByADrum", "illTwos", "(I)I"⟩, 12) := ⟨⟨by decide +kernel, by decide +kernel⟩, List.mem_of_getElem? (i := 18) (by decide +kernel), List.mem_of_getElem? (i := 509) (by decide +kernel), List.mem_of_getElem? (i := 510) (by decide +kernel)⟩
theorem lw_p19 : lw_okq (⟨"RungByADrum", "isSet", "(I)Z"⟩, 12) := ⟨⟨by decide +kernel, by decide +kernel⟩, List.mem_of_getElem? (i := 18) (by decide +kernel), List.mem_of_getElem? (i := 521) (by decide +kernel), List.mem_of_getElem? (i := 522) (by decide +kernel)⟩
theorem lw_p20 : lw_okq (⟨"RungByADrum", "changesIfShifted", "(I)I"⟩, 12) := ⟨⟨by decide +kernel, by decide +kernel⟩, List.mem_of_getElem? (i := 18) (by decide +kernel), List.mem_of_getElem? (i := 533) (by decide +kernel), List.mem_of_getElem? (i := 534) (by decide +kernel)⟩
theorem lw_p21 : lw_okq (⟨"RungByADrum$Shortener", "fillFrom", "(II[II)V"⟩, 1) := ⟨⟨by decide +kernel, by decide +kernel⟩, List.mem_of_getElem? (i := 152) (by decide +kernel), List.mem_of_getElem? (i := 545) (by decide +kernel), List.mem_of_getElem? (i := 546) (by decide +kernel)⟩
theorem lw_p22 : lw_okq (⟨"RungByADrum$Shortener", "timesTold", "(II[II)I"⟩, 1) := ⟨⟨by decide +kernel, by decide +kernel⟩, List.mem_of_getElem? (i := 152) (by decide +kernel), List.mem_of_getElem? (i := 553) (by decide +kernel), List.mem_of_getElem? (i := 554) (by decide +kernel)⟩
theorem lw_p23 : lw_okq (⟨"RungByADrum$Shortener", "beginWithPart", "([IIIII)V"⟩, 1) := ⟨⟨by decide +kernel, by decide +kernel⟩, List.mem_of_getElem? (i := 152) (by decide +kernel), List.mem_of_getElem? (i := 558) (by decide +kernel), List.mem_of_getElem? (i := 559) (by decide +kernel)⟩
theorem lw_p24 : lw_okq (⟨"RungByADrum$Parting", "partFrom", "(II)V"⟩, 4) := ⟨⟨by decide +kernel, by decide +kernel⟩, List.mem_of_getElem? (i := 164) (by decide +kernel), List.mem_of_getElem? (i := 571) (by decide +kernel), List.mem_of_getElem? (i := 572) (by decide +kernel)⟩
theorem lw_p25 : lw_okq (⟨"RungByADrum", "isHeardFrom", "(I)Z"⟩, 12) := ⟨⟨by decide +kernel, by decide +kernel⟩, List.mem_of_getElem? (i := 18) (by decide +kernel), List.mem_of_getElem? (i := 588) (by decide +kernel), List.mem_of_getElem? (i := 589) (by decide +kernel)⟩
theorem lw_p26 : lw_okq (⟨"RungByADrumModel", "clean", "()V"⟩, 23) := ⟨⟨by decide +kernel, by decide +kernel⟩, List.mem_of_getElem? (i := 629) (by decide +kernel), List.mem_of_getElem? (i := 635) (by decide +kernel), List.mem_of_getElem? (i := 636) (by decide +kernel)⟩
theorem lw_p27 : lw_okq (⟨"RungByADrumModel", "comes", "(II)V"⟩, 23) := ⟨⟨by decide +kernel, by decide +kernel⟩, List.mem_of_getElem? (i := 629) (by decide +kernel), List.mem_of_getElem? (i := 639) (by decide +kernel), List.mem_of_getElem? (i := 640) (by decide +kernel)⟩
theorem lw_p28 : lw_okq (⟨"RungByADrumModel", "put", "(I)Z"⟩, 23) := ⟨⟨by decide +kernel, by decide +kernel⟩, List.mem_of_getElem? (i := 629) (by decide +kernel), List.mem_of_getElem? (i := 643) (by decide +kernel), List.mem_of_getElem? (i := 644) (by decide +kernel)⟩
theorem lw_p29 : lw_okq (⟨"RungByADrumModel", "begins", "()V"⟩, 23) := ⟨⟨by decide +kernel, by decide +kernel⟩, List.mem_of_getElem? (i := 629) (by decide +kernel), List.mem_of_getElem? (i := 647) (by decide +kernel), List.mem_of_getElem? (i := 648) (by decide +kernel)⟩
theorem lw_p30 : lw_okq (⟨"RungByADrumModel", "takesItem", "()Z"⟩, 23) := ⟨⟨by decide +kernel, by decide +kernel⟩, List.mem_of_getElem? (i := 629) (by decide +kernel), List.mem_of_getElem? (i := 739) (by decide +kernel), List.mem_of_getElem? (i := 740) (by decide +kernel)⟩
theorem lw_p31 : lw_okq (⟨"RungByADrumModel", "here", "()I"⟩, 23) := ⟨⟨by decide +kernel, by decide +kernel⟩, List.mem_of_getElem? (i := 629) (by decide +kernel), List.mem_of_getElem? (i := 743) (by decide +kernel), List.mem_of_getElem? (i := 744) (by decide +kernel)⟩
def lw_privs_2 : List (MethodName × Nat) := [(⟨"RungByADrum", "allPins", "()I"⟩, 12), (⟨"RungByADrum", "comesAgainAfter", "(I)Z"⟩, 12), (⟨"RungByADrum", "illTwos", "(I)I"⟩, 12), (⟨"RungByADrum", "isSet", "(I)Z"⟩, 12), (⟨"RungByADrum", "changesIfShifted", "(I)I"⟩, 12), (⟨"RungByADrum$Shortener", "fillFrom", "(II[II)V"⟩, 1), (⟨"RungByADrum$Shortener", "timesTold", "(II[II)I"⟩, 1), (⟨"RungByADrum$Shortener", "beginWithPart", "([IIIII)V"⟩, 1), (⟨"RungByADrum$Parting", "partFrom", "(II)V"⟩, 4), (⟨"RungByADrum", "isHeardFrom", "(I)Z"⟩, 12), (⟨"RungByADrumModel", "clean", "()V"⟩, 23), (⟨"RungByADrumModel", "comes", "(II)V"⟩, 23), (⟨"RungByADrumModel", "put", "(I)Z"⟩, 23), (⟨"RungByADrumModel", "begins", "()V"⟩, 23), (⟨"RungByADrumModel", "takesItem", "()Z"⟩, 23), (⟨"RungByADrumModel", "here", "()I"⟩, 23)]
theorem lw_r2 : ∀ q ∈ lw_privs_2, lw_okq q := List.forall_mem_cons.mpr ⟨lw_p16, List.forall_mem_cons.mpr ⟨lw_p17, List.forall_mem_cons.mpr ⟨lw_p18, List.forall_mem_cons.mpr ⟨lw_p19, List.forall_mem_cons.mpr ⟨lw_p20, List.forall_mem_cons.mpr ⟨lw_p21, List.forall_mem_cons.mpr ⟨lw_p22, List.forall_mem_cons.mpr ⟨lw_p23, List.forall_mem_cons.mpr ⟨lw_p24, List.forall_mem_cons.mpr ⟨lw_p25, List.forall_mem_cons.mpr ⟨lw_p26, List.forall_mem_cons.mpr ⟨lw_p27, List.forall_mem_cons.mpr ⟨lw_p28, List.forall_mem_cons.mpr ⟨lw_p29, List.forall_mem_cons.mpr ⟨lw_p30, List.forall_mem_cons.mpr ⟨lw_p31, fun _ h => absurd h List.not_mem_nil⟩⟩⟩⟩⟩⟩⟩⟩⟩⟩⟩⟩⟩⟩⟩⟩
theorem lw_p32 : lw_okq (⟨"RungByADrumModel", "takesBell", "()Z"⟩, 23) := ⟨⟨by decide +kernel, by decide +kernel⟩, List.mem_of_getElem? (i := 629) (by decide +kernel), List.mem_of_getElem? (i := 747) (by decide +kernel), List.mem_of_getElem? (i := 748) (by decide +kernel)⟩
theorem lw_p33 : lw_okq (⟨"RungByADrumModel", "takes", "(I)Z"⟩, 23) := ⟨⟨by decide +kernel, by decide +kernel⟩, List.mem_of_getElem? (i := 629) (by decide +kernel), List.mem_of_getElem? (i := 751) (by decide +kernel), List.mem_of_getElem? (i := 752) (by decide +kernel)⟩
theorem lw_p34 : lw_okq (⟨"RungByADrumModel", "takesOne", "(III)Z"⟩, 23) := ⟨⟨by decide +kernel, by decide +kernel⟩, List.mem_of_getElem? (i := 629) (by decide +kernel), List.mem_of_getElem? (i := 758) (by decide +kernel), List.mem_of_getElem? (i := 759) (by decide +kernel)⟩
theorem lw_p35 : lw_okq (⟨"RungByADrumModel", "takesTune", "()Z"⟩, 23) := ⟨⟨by decide +kernel, by decide +kernel⟩, List.mem_of_getElem? (i := 629) (by decide +kernel), List.mem_of_getElem? (i := 762) (by decide +kernel), List.mem_of_getElem? (i := 763) (by decide +kernel)⟩
theorem lw_p36 : lw_okq (⟨"RungByADrumModel", "isBellHere", "()Z"⟩, 23) := ⟨⟨by decide +kernel, by decide +kernel⟩, List.mem_of_getElem? (i := 629) (by decide +kernel), List.mem_of_getElem? (i := 766) (by decide +kernel), List.mem_of_getElem? (i := 767) (by decide +kernel)⟩
theorem lw_p37 : lw_okq (⟨"RungByADrumModel", "chord", "()I"⟩, 23) := ⟨⟨by decide +kernel, by decide +kernel⟩, List.mem_of_getElem? (i := 629) (by decide +kernel), List.mem_of_getElem? (i := 771) (by decide +kernel), List.mem_of_getElem? (i := 772) (by decide +kernel)⟩
theorem lw_p38 : lw_okq (⟨"RungByADrumModel", "tellsAgain", "(II)Z"⟩, 23) := ⟨⟨by decide +kernel, by decide +kernel⟩, List.mem_of_getElem? (i := 629) (by decide +kernel), List.mem_of_getElem? (i := 779) (by decide +kernel), List.mem_of_getElem? (i := 780) (by decide +kernel)⟩
theorem lw_p39 : lw_okq (⟨"RungByADrumModel", "isBell", "(I)Z"⟩, 23) := ⟨⟨by decide +kernel, by decide +kernel⟩, List.mem_of_getElem? (i := 629) (by decide +kernel), List.mem_of_getElem? (i := 792) (by decide +kernel), List.mem_of_getElem? (i := 793) (by decide +kernel)⟩
theorem lw_p40 : lw_okq (⟨"RungByADrumModel", "isRow", "(I)Z"⟩, 23) := ⟨⟨by decide +kernel, by decide +kernel⟩, List.mem_of_getElem? (i := 629) (by decide +kernel), List.mem_of_getElem? (i := 803) (by decide +kernel), List.mem_of_getElem? (i := 804) (by decide +kernel)⟩
theorem lw_p41 : lw_okq (⟨"RungByADrumModel", "remember", "()V"⟩, 23) := ⟨⟨by decide +kernel, by decide +kernel⟩, List.mem_of_getElem? (i := 629) (by decide +kernel), List.mem_of_getElem? (i := 811) (by decide +kernel), List.mem_of_getElem? (i := 812) (by decide +kernel)⟩
theorem lw_p42 : lw_okq (⟨"RungByADrumModel", "comesNext", "([I)I"⟩, 23) := ⟨⟨by decide +kernel, by decide +kernel⟩, List.mem_of_getElem? (i := 629) (by decide +kernel), List.mem_of_getElem? (i := 818) (by decide +kernel), List.mem_of_getElem? (i := 819) (by decide +kernel)⟩
theorem lw_p43 : lw_okq (⟨"RungByADrumModel", "rings", "([II)I"⟩, 23) := ⟨⟨by decide +kernel, by decide +kernel⟩, List.mem_of_getElem? (i := 629) (by decide +kernel), List.mem_of_getElem? (i := 822) (by decide +kernel), List.mem_of_getElem? (i := 823) (by decide +kernel)⟩
theorem lw_p44 : lw_okq (⟨"RungByADrumModel", "shifted", "(II)I"⟩, 23) := ⟨⟨by decide +kernel, by decide +kernel⟩, List.mem_of_getElem? (i := 629) (by decide +kernel), List.mem_of_getElem? (i := 838) (by decide +kernel), List.mem_of_getElem? (i := 839) (by decide +kernel)⟩
theorem lw_p45 : lw_okq (⟨"RungByADrumModel", "go", "(I)V"⟩, 23) := ⟨⟨by decide +kernel, by decide +kernel⟩, List.mem_of_getElem? (i := 629) (by decide +kernel), List.mem_of_getElem? (i := 850) (by decide +kernel), List.mem_of_getElem? (i := 851) (by decide +kernel)⟩
theorem lw_p46 : lw_okq (⟨"RungByADrumModel", "sumOf", "(I)I"⟩, 23) := ⟨⟨by decide +kernel, by decide +kernel⟩, List.mem_of_getElem? (i := 629) (by decide +kernel), List.mem_of_getElem? (i := 854) (by decide +kernel), List.mem_of_getElem? (i := 855) (by decide +kernel)⟩
theorem lw_p47 : lw_okq (⟨"RungByADrumModel", "comesAgain", "(I)Z"⟩, 23) := ⟨⟨by decide +kernel, by decide +kernel⟩, List.mem_of_getElem? (i := 629) (by decide +kernel), List.mem_of_getElem? (i := 866) (by decide +kernel), List.mem_of_getElem? (i := 867) (by decide +kernel)⟩
def lw_privs_3 : List (MethodName × Nat) := [(⟨"RungByADrumModel", "takesBell", "()Z"⟩, 23), (⟨"RungByADrumModel", "takes", "(I)Z"⟩, 23), (⟨"RungByADrumModel", "takesOne", "(III)Z"⟩, 23), (⟨"RungByADrumModel", "takesTune", "()Z"⟩, 23), (⟨"RungByADrumModel", "isBellHere", "()Z"⟩, 23), (⟨"RungByADrumModel", "chord", "()I"⟩, 23), (⟨"RungByADrumModel", "tellsAgain", "(II)Z"⟩, 23), (⟨"RungByADrumModel", "isBell", "(I)Z"⟩, 23), (⟨"RungByADrumModel", "isRow", "(I)Z"⟩, 23), (⟨"RungByADrumModel", "remember", "()V"⟩, 23), (⟨"RungByADrumModel", "comesNext", "([I)I"⟩, 23), (⟨"RungByADrumModel", "rings", "([II)I"⟩, 23), (⟨"RungByADrumModel", "shifted", "(II)I"⟩, 23), (⟨"RungByADrumModel", "go", "(I)V"⟩, 23), (⟨"RungByADrumModel", "sumOf", "(I)I"⟩, 23), (⟨"RungByADrumModel", "comesAgain", "(I)Z"⟩, 23)]
theorem lw_r3 : ∀ q ∈ lw_privs_3, lw_okq q := List.forall_mem_cons.mpr ⟨lw_p32, List.forall_mem_cons.mpr ⟨lw_p33, List.forall_mem_cons.mpr ⟨lw_p34, List.forall_mem_cons.mpr ⟨lw_p35, List.forall_mem_cons.mpr ⟨lw_p36, List.forall_mem_cons.mpr ⟨lw_p37, List.forall_mem_cons.mpr ⟨lw_p38, List.forall_mem_cons.mpr ⟨lw_p39, List.forall_mem_cons.mpr ⟨lw_p40, List.forall_mem_cons.mpr ⟨lw_p41, List.forall_mem_cons.mpr ⟨lw_p42, List.forall_mem_cons.mpr ⟨lw_p43, List.forall_mem_cons.mpr ⟨lw_p44, List.forall_mem_cons.mpr ⟨lw_p45, List.forall_mem_cons.mpr ⟨lw_p46, List.forall_mem_cons.mpr ⟨lw_p47, fun _ h => absurd h List.not_mem_nil⟩⟩⟩⟩⟩⟩⟩⟩⟩⟩⟩⟩⟩⟩⟩⟩
theorem lw_p48 : lw_okq (⟨"RungByADrumModel", "illOf", "(II)I"⟩, 23) := ⟨⟨by decide +kernel, by decide +kernel⟩, List.mem_of_getElem? (i := 629) (by decide +kernel), List.mem_of_getElem? (i := 874) (by decide +kernel), List.mem_of_getElem? (i := 875) (by decide +kernel)⟩
theorem lw_p49 : lw_okq (⟨"RungByADrumModel", "isIll", "(II)Z"⟩, 23) := ⟨⟨by decide +kernel, by decide +kernel⟩, List.mem_of_getElem? (i := 629) (by decide +kernel), List.mem_of_getElem? (i := 878) (by decide +kernel), List.mem_of_getElem? (i := 879) (by decide +kernel)⟩
theorem lw_p50 : lw_okq (⟨"RungByADrumModel", "isSet", "(I)Z"⟩, 23) := ⟨⟨by decide +kernel, by decide +kernel⟩, List.mem_of_getElem? (i := 629) (by decide +kernel), List.mem_of_getElem? (i := 894) (by decide +kernel), List.mem_of_getElem? (i := 895) (by decide +kernel)⟩
theorem lw_p51 : lw_okq (⟨"RungByADrumModel", "fewest", "(III)I"⟩, 23) := ⟨⟨by decide +kernel, by decide +kernel⟩, List.mem_of_getElem? (i := 629) (by decide +kernel), List.mem_of_getElem? (i := 909) (by decide +kernel), List.mem_of_getElem? (i := 910) (by decide +kernel)⟩
theorem lw_p52 : lw_okq (⟨"RungByADrumModel", "isAgain", "(III)Z"⟩, 23) := ⟨⟨by decide +kernel, by decide +kernel⟩, List.mem_of_getElem? (i := 629) (by decide +kernel), List.mem_of_getElem? (i := 913) (by decide +kernel), List.mem_of_getElem? (i := 914) (by decide +kernel)⟩
theorem lw_p53 : lw_okq (⟨"RungByADrumModel", "areOne", "(I)Z"⟩, 23) := ⟨⟨by decide +kernel, by decide +kernel⟩, List.mem_of_getElem? (i := 629) (by decide +kernel), List.mem_of_getElem? (i := 921) (by decide +kernel), List.mem_of_getElem? (i := 922) (by decide +kernel)⟩
def lw_privs_4 : List (MethodName × Nat) := [(⟨"RungByADrumModel", "illOf", "(II)I"⟩, 23), (⟨"RungByADrumModel", "isIll", "(II)Z"⟩, 23), (⟨"RungByADrumModel", "isSet", "(I)Z"⟩, 23), (⟨"RungByADrumModel", "fewest", "(III)I"⟩, 23), (⟨"RungByADrumModel", "isAgain", "(III)Z"⟩, 23), (⟨"RungByADrumModel", "areOne", "(I)Z"⟩, 23)]
theorem lw_r4 : ∀ q ∈ lw_privs_4, lw_okq q := List.forall_mem_cons.mpr ⟨lw_p48, List.forall_mem_cons.mpr ⟨lw_p49, List.forall_mem_cons.mpr ⟨lw_p50, List.forall_mem_cons.mpr ⟨lw_p51, List.forall_mem_cons.mpr ⟨lw_p52, List.forall_mem_cons.mpr ⟨lw_p53, fun _ h => absurd h List.not_mem_nil⟩⟩⟩⟩⟩⟩
def lw_privs : List (MethodName × Nat) := lw_privs_1 ++ (lw_privs_2 ++ (lw_privs_3 ++ (lw_privs_4)))
def lw_tbl : List Cond := k2_sels lw_privs ++ tables_1
theorem lw_privs_ok : ∀ q ∈ lw_privs, lw_okq q := by
  show ∀ q ∈ lw_privs_1 ++ (lw_privs_2 ++ (lw_privs_3 ++ (lw_privs_4))), lw_okq q
  exact List.forall_mem_append.mpr ⟨lw_r1, List.forall_mem_append.mpr ⟨lw_r2, List.forall_mem_append.mpr ⟨lw_r3, lw_r4⟩⟩⟩
def RX0 : String := "RungByADrum$Drum"
def TX0 : u_T := fun k => match k with
  | 0 => ("RungByADrum$Drum", "pins", "[I", true)
  | 1 => ("RungByADrum$Drum", "ready", "[I", true)
  | 2 => ("RungByADrum$Drum", "rung", "[I", true)
  | 3 => ("RungByADrum$Drum", "missed", "[I", true)
  | 4 => ("RungByADrum$Drum", "latest", "I", false)
  | _ => ("RungByADrum$Drum", "turned", "I", false)
def tyX0 : Nat → FieldType := fun k => match k with
  | 0 => .array .int
  | 1 => .array .int
  | 2 => .array .int
  | 3 => .array .int
  | 4 => .int
  | _ => .int
abbrev wsX00 : List Cond := u_ws RX0 TX0 6
theorem nmX0 : ∀ a, a < 6 → ∀ b, b < 6 → a ≠ b → (TX0 a).2.1 ≠ (TX0 b).2.1 := by decide +kernel
theorem tyX0_ok : ∀ k, k < 6 → parseFieldDescriptor (TX0 k).2.2.1 = some (tyX0 k) := by decide +kernel
abbrev cX0_init : ByteArray := prog_2_method_1_code
def yX0_init : MethodName := ⟨RX0, "<init>", "()V"⟩
abbrev cX0_startWith : ByteArray := prog_2_method_2_code
def yX0_startWith : MethodName := ⟨RX0, "startWith", "(LRungByADrum$Tower;)V"⟩
abbrev cX0_turnOn : ByteArray := prog_2_method_3_code
def yX0_turnOn : MethodName := ⟨RX0, "turnOn", "(LRungByADrum$Tower;)I"⟩
abbrev cX0_turnOff : ByteArray := prog_2_method_4_code
def yX0_turnOff : MethodName := ⟨RX0, "turnOff", "(LRungByADrum$Tower;)I"⟩
abbrev cX0_ringRow : ByteArray := prog_2_method_5_code
def yX0_ringRow : MethodName := ⟨RX0, "ringRow", "(ILRungByADrum$Tower;)I"⟩
abbrev cX0_strike : ByteArray := prog_2_method_6_code
def yX0_strike : MethodName := ⟨RX0, "strike", "(ILRungByADrum$Tower;)Z"⟩
abbrev cX0_copy : ByteArray := prog_2_method_7_code
def yX0_copy : MethodName := ⟨RX0, "copy", "(LRungByADrum$Drum;)V"⟩
abbrev cX0_saveTo : ByteArray := prog_2_method_8_code
def yX0_saveTo : MethodName := ⟨RX0, "saveTo", "([II)V"⟩
abbrev cX0_loadFrom : ByteArray := prog_2_method_9_code
def yX0_loadFrom : MethodName := ⟨RX0, "loadFrom", "([II)V"⟩
def RX1 : String := "RungByADrum$Parting"
def TX1 : u_T := fun k => match k with
  | 0 => ("RungByADrum$Parting", "clash", "[I", true)
  | 1 => ("RungByADrum$Parting", "groups", "[I", true)
  | 2 => ("RungByADrum$Parting", "bells", "I", false)
  | _ => ("RungByADrum$Parting", "fewest", "I", false)
def tyX1 : Nat → FieldType := fun k => match k with
  | 0 => .array .int
  | 1 => .array .int
  | 2 => .int
  | _ => .int
abbrev wsX10 : List Cond := u_ws RX1 TX1 4
theorem nmX1 : ∀ a, a < 4 → ∀ b, b < 4 → a ≠ b → (TX1 a).2.1 ≠ (TX1 b).2.1 := by decide +kernel
theorem tyX1_ok : ∀ k, k < 4 → parseFieldDescriptor (TX1 k).2.2.1 = some (tyX1 k) := by decide +kernel
abbrev cX1_init : ByteArray := prog_3_method_1_code
def yX1_init : MethodName := ⟨RX1, "<init>", "()V"⟩
abbrev cX1_fewestPeople : ByteArray := prog_3_method_2_code
def yX1_fewestPeople : MethodName := ⟨RX1, "fewestPeople", "([ILRungByADrum$Tower;)I"⟩
abbrev cX1_partFrom : ByteArray := prog_3_method_3_code
def yX1_partFrom : MethodName := ⟨RX1, "partFrom", "(II)V"⟩
def RX2 : String := "RungByADrum$Shelf"
def TX2 : u_T := fun k => match k with
  | 0 => ("RungByADrum$Shelf", "places", "I", true)
  | 1 => ("RungByADrum$Shelf", "cells", "[I", true)
  | 2 => ("RungByADrum$Shelf", "next", "I", false)
  | _ => ("RungByADrum$Shelf", "held", "I", false)
def tyX2 : Nat → FieldType := fun k => match k with
  | 0 => .int
  | 1 => .array .int
  | 2 => .int
  | _ => .int
abbrev wsX20 : List Cond := u_ws RX2 TX2 4
theorem nmX2 : ∀ a, a < 4 → ∀ b, b < 4 → a ≠ b → (TX2 a).2.1 ≠ (TX2 b).2.1 := by decide +kernel
theorem tyX2_ok : ∀ k, k < 4 → parseFieldDescriptor (TX2 k).2.2.1 = some (tyX2 k) := by decide +kernel
abbrev cX2_init : ByteArray := prog_4_method_1_code
def yX2_init : MethodName := ⟨RX2, "<init>", "(I)V"⟩
abbrev cX2_clear : ByteArray := prog_4_method_2_code
def yX2_clear : MethodName := ⟨RX2, "clear", "()V"⟩
abbrev cX2_put : ByteArray := prog_4_method_3_code
def yX2_put : MethodName := ⟨RX2, "put", "(LRungByADrum$Drum;)V"⟩
abbrev cX2_takeInto : ByteArray := prog_4_method_4_code
def yX2_takeInto : MethodName := ⟨RX2, "takeInto", "(LRungByADrum$Drum;)Z"⟩
def RX3 : String := "RungByADrum$Shortener"
def TX3 : u_T := fun k => match k with
  | _ => ("RungByADrum$Shortener", "fewest", "[[I", true)
def tyX3 : Nat → FieldType := fun k => match k with
  | _ => .array (.array .int)
abbrev wsX30 : List Cond := u_ws RX3 TX3 1
theorem nmX3 : ∀ a, a < 1 → ∀ b, b < 1 → a ≠ b → (TX3 a).2.1 ≠ (TX3 b).2.1 := by decide +kernel
theorem tyX3_ok : ∀ k, k < 1 → parseFieldDescriptor (TX3 k).2.2.1 = some (tyX3 k) := by decide +kernel
abbrev cX3_init : ByteArray := prog_5_method_1_code
def yX3_init : MethodName := ⟨RX3, "<init>", "()V"⟩
abbrev cX3_fewestLetters : ByteArray := prog_5_method_2_code
def yX3_fewestLetters : MethodName := ⟨RX3, "fewestLetters", "([II)I"⟩
abbrev cX3_fillFrom : ByteArray := prog_5_method_3_code
def yX3_fillFrom : MethodName := ⟨RX3, "fillFrom", "(II[II)V"⟩
abbrev cX3_beginWithPart : ByteArray := prog_5_method_4_code
def yX3_beginWithPart : MethodName := ⟨RX3, "beginWithPart", "([IIIII)V"⟩
abbrev cX3_timesTold : ByteArray := prog_5_method_5_code
def yX3_timesTold : MethodName := ⟨RX3, "timesTold", "(II[II)I"⟩
abbrev cX3_lettersOf : ByteArray := prog_5_method_6_code
def yX3_lettersOf : MethodName := ⟨RX3, "lettersOf", "(I)I"⟩
def RX4 : String := "RungByADrum$Text"
def TX4 : u_T := fun k => match k with
  | 0 => ("RungByADrum$Text", "letters", "[I", true)
  | 1 => ("RungByADrum$Text", "length", "I", false)
  | 2 => ("RungByADrum$Text", "place", "I", false)
  | _ => ("RungByADrum$Text", "openedAt", "[I", true)
def tyX4 : Nat → FieldType := fun k => match k with
  | 0 => .array .int
  | 1 => .int
  | 2 => .int
  | _ => .array .int
abbrev wsX40 : List Cond := u_ws RX4 TX4 4
theorem nmX4 : ∀ a, a < 4 → ∀ b, b < 4 → a ≠ b → (TX4 a).2.1 ≠ (TX4 b).2.1 := by decide +kernel
theorem tyX4_ok : ∀ k, k < 4 → parseFieldDescriptor (TX4 k).2.2.1 = some (tyX4 k) := by decide +kernel
abbrev cX4_init : ByteArray := prog_6_method_1_code
def yX4_init : MethodName := ⟨RX4, "<init>", "()V"⟩
abbrev cX4_append : ByteArray := prog_6_method_2_code
def yX4_append : MethodName := ⟨RX4, "append", "(I)Z"⟩
abbrev cX4_clear : ByteArray := prog_6_method_3_code
def yX4_clear : MethodName := ⟨RX4, "clear", "()V"⟩
abbrev cX4_readInto : ByteArray := prog_6_method_4_code
def yX4_readInto : MethodName := ⟨RX4, "readInto", "(LRungByADrum$Tower;)I"⟩
abbrev cX4_readItem : ByteArray := prog_6_method_5_code
def yX4_readItem : MethodName := ⟨RX4, "readItem", "(LRungByADrum$Tower;)Z"⟩
abbrev cX4_readBell : ByteArray := prog_6_method_6_code
def yX4_readBell : MethodName := ⟨RX4, "readBell", "(LRungByADrum$Tower;)Z"⟩
abbrev cX4_readTune : ByteArray := prog_6_method_7_code
def yX4_readTune : MethodName := ⟨RX4, "readTune", "(LRungByADrum$Tower;)Z"⟩
abbrev cX4_readSet : ByteArray := prog_6_method_8_code
def yX4_readSet : MethodName := ⟨RX4, "readSet", "(I)I"⟩
abbrev cX4_readBellLetter : ByteArray := prog_6_method_9_code
def yX4_readBellLetter : MethodName := ⟨RX4, "readBellLetter", "(I)I"⟩
abbrev cX4_readNumber : ByteArray := prog_6_method_10_code
def yX4_readNumber : MethodName := ⟨RX4, "readNumber", "()I"⟩
abbrev cX4_readFigure : ByteArray := prog_6_method_11_code
def yX4_readFigure : MethodName := ⟨RX4, "readFigure", "()I"⟩
abbrev cX4_accept : ByteArray := prog_6_method_12_code
def yX4_accept : MethodName := ⟨RX4, "accept", "(I)Z"⟩
abbrev cX4_peek : ByteArray := prog_6_method_13_code
def yX4_peek : MethodName := ⟨RX4, "peek", "()I"⟩
def RX5 : String := "RungByADrum$Tower"
def TX5 : u_T := fun k => match k with
  | 0 => ("RungByADrum$Tower", "bells", "I", false)
  | 1 => ("RungByADrum$Tower", "tones", "[I", true)
  | 2 => ("RungByADrum$Tower", "hammers", "[I", true)
  | 3 => ("RungByADrum$Tower", "illWith", "[I", true)
  | 4 => ("RungByADrum$Tower", "rows", "I", false)
  | 5 => ("RungByADrum$Tower", "rest", "I", false)
  | 6 => ("RungByADrum$Tower", "hasTune", "Z", false)
  | 7 => ("RungByADrum$Tower", "tuneRows", "I", false)
  | _ => ("RungByADrum$Tower", "tune", "[I", true)
def tyX5 : Nat → FieldType := fun k => match k with
  | 0 => .int
  | 1 => .array .int
  | 2 => .array .int
  | 3 => .array .int
  | 4 => .int
  | 5 => .int
  | 6 => .boolean
  | 7 => .int
  | _ => .array .int
abbrev wsX50 : List Cond := u_ws RX5 TX5 9
theorem nmX5 : ∀ a, a < 9 → ∀ b, b < 9 → a ≠ b → (TX5 a).2.1 ≠ (TX5 b).2.1 := by decide +kernel
theorem tyX5_ok : ∀ k, k < 9 → parseFieldDescriptor (TX5 k).2.2.1 = some (tyX5 k) := by decide +kernel
abbrev cX5_init : ByteArray := prog_7_method_1_code
def yX5_init : MethodName := ⟨RX5, "<init>", "()V"⟩
abbrev cX5_clear : ByteArray := prog_7_method_2_code
def yX5_clear : MethodName := ⟨RX5, "clear", "()V"⟩
abbrev cX5_addBell : ByteArray := prog_7_method_3_code
def yX5_addBell : MethodName := ⟨RX5, "addBell", "(II)Z"⟩
abbrev cX5_tellRows : ByteArray := prog_7_method_4_code
def yX5_tellRows : MethodName := ⟨RX5, "tellRows", "(I)Z"⟩
abbrev cX5_tellRest : ByteArray := prog_7_method_5_code
def yX5_tellRest : MethodName := ⟨RX5, "tellRest", "(I)Z"⟩
abbrev cX5_addRow : ByteArray := prog_7_method_6_code
def yX5_addRow : MethodName := ⟨RX5, "addRow", "(I)Z"⟩
abbrev cX5_tellAgain : ByteArray := prog_7_method_7_code
def yX5_tellAgain : MethodName := ⟨RX5, "tellAgain", "(II)Z"⟩
abbrev cX5_canBeLaid : ByteArray := prog_7_method_8_code
def yX5_canBeLaid : MethodName := ⟨RX5, "canBeLaid", "()Z"⟩
abbrev cX5_everyBell : ByteArray := prog_7_method_9_code
def yX5_everyBell : MethodName := ⟨RX5, "everyBell", "()I"⟩
abbrev cX5_rowBehind : ByteArray := prog_7_method_10_code
def yX5_rowBehind : MethodName := ⟨RX5, "rowBehind", "(II)I"⟩
abbrev cX5_highestTone : ByteArray := prog_7_method_11_code
def yX5_highestTone : MethodName := ⟨RX5, "highestTone", "(I)I"⟩
def RX6 : String := "RungByADrum"
def TX6 : u_T := fun k => match k with
  | 0 => ("RungByADrum", "text", "LRungByADrum$Text;", true)
  | 1 => ("RungByADrum", "tower", "LRungByADrum$Tower;", false)
  | 2 => ("RungByADrum", "told", "LRungByADrum$Tower;", false)
  | 3 => ("RungByADrum", "drum", "LRungByADrum$Drum;", true)
  | 4 => ("RungByADrum", "tried", "LRungByADrum$Drum;", true)
  | 5 => ("RungByADrum", "undoable", "LRungByADrum$Shelf;", true)
  | 6 => ("RungByADrum", "kept", "LRungByADrum$Shelf;", true)
  | 7 => ("RungByADrum", "wanted", "[I", true)
  | 8 => ("RungByADrum", "heard", "[I", true)
  | 9 => ("RungByADrum", "heardCount", "I", false)
  | 10 => ("RungByADrum", "shortener", "LRungByADrum$Shortener;", true)
  | _ => ("RungByADrum", "parting", "LRungByADrum$Parting;", true)
def tyX6 : Nat → FieldType := fun k => match k with
  | 0 => .object "RungByADrum$Text"
  | 1 => .object "RungByADrum$Tower"
  | 2 => .object "RungByADrum$Tower"
  | 3 => .object "RungByADrum$Drum"
  | 4 => .object "RungByADrum$Drum"
  | 5 => .object "RungByADrum$Shelf"
  | 6 => .object "RungByADrum$Shelf"
  | 7 => .array .int
  | 8 => .array .int
  | 9 => .int
  | 10 => .object "RungByADrum$Shortener"
  | _ => .object "RungByADrum$Parting"
abbrev wsX60 : List Cond := u_ws RX6 TX6 12
theorem nmX6 : ∀ a, a < 12 → ∀ b, b < 12 → a ≠ b → (TX6 a).2.1 ≠ (TX6 b).2.1 := by decide +kernel
theorem tyX6_ok : ∀ k, k < 12 → parseFieldDescriptor (TX6 k).2.2.1 = some (tyX6 k) := by decide +kernel
abbrev cX6_init : ByteArray := prog_1_method_1_code
def yX6_init : MethodName := ⟨RX6, "<init>", "()V"⟩
abbrev cX6_write : ByteArray := prog_1_method_2_code
def yX6_write : MethodName := ⟨RX6, "write", "(I)I"⟩
abbrev cX6_wipe : ByteArray := prog_1_method_3_code
def yX6_wipe : MethodName := ⟨RX6, "wipe", "()I"⟩
abbrev cX6_fault : ByteArray := prog_1_method_4_code
def yX6_fault : MethodName := ⟨RX6, "fault", "()I"⟩
abbrev cX6_lay : ByteArray := prog_1_method_5_code
def yX6_lay : MethodName := ⟨RX6, "lay", "()I"⟩
abbrev cX6_bell : ByteArray := prog_1_method_6_code
def yX6_bell : MethodName := ⟨RX6, "bell", "(II)I"⟩
abbrev cX6_pins : ByteArray := prog_1_method_7_code
def yX6_pins : MethodName := ⟨RX6, "pins", "(I)I"⟩
abbrev cX6_layTold : ByteArray := prog_1_method_8_code
def yX6_layTold : MethodName := ⟨RX6, "layTold", "()V"⟩
abbrev cX6_isBell : ByteArray := prog_1_method_9_code
def yX6_isBell : MethodName := ⟨RX6, "isBell", "(I)Z"⟩
abbrev cX6_isRow : ByteArray := prog_1_method_10_code
def yX6_isRow : MethodName := ⟨RX6, "isRow", "(I)Z"⟩
abbrev cX6_isSet : ByteArray := prog_1_method_11_code
def yX6_isSet : MethodName := ⟨RX6, "isSet", "(I)Z"⟩
abbrev cX6_pinsOfBell : ByteArray := prog_1_method_12_code
def yX6_pinsOfBell : MethodName := ⟨RX6, "pinsOfBell", "(I)I"⟩
abbrev cX6_turn : ByteArray := prog_1_method_13_code
def yX6_turn : MethodName := ⟨RX6, "turn", "()I"⟩
abbrev cX6_turnBack : ByteArray := prog_1_method_14_code
def yX6_turnBack : MethodName := ⟨RX6, "turnBack", "()I"⟩
abbrev cX6_pin : ByteArray := prog_1_method_15_code
def yX6_pin : MethodName := ⟨RX6, "pin", "(IIZ)I"⟩
abbrev cX6_shift : ByteArray := prog_1_method_16_code
def yX6_shift : MethodName := ⟨RX6, "shift", "(I)I"⟩
abbrev cX6_undo : ByteArray := prog_1_method_17_code
def yX6_undo : MethodName := ⟨RX6, "undo", "()I"⟩
abbrev cX6_whole : ByteArray := prog_1_method_18_code
def yX6_whole : MethodName := ⟨RX6, "whole", "(I)I"⟩
abbrev cX6_silence : ByteArray := prog_1_method_19_code
def yX6_silence : MethodName := ⟨RX6, "silence", "()I"⟩
abbrev cX6_again : ByteArray := prog_1_method_20_code
def yX6_again : MethodName := ⟨RX6, "again", "()I"⟩
abbrev cX6_harsh : ByteArray := prog_1_method_21_code
def yX6_harsh : MethodName := ⟨RX6, "harsh", "()I"⟩
abbrev cX6_canon : ByteArray := prog_1_method_22_code
def yX6_canon : MethodName := ⟨RX6, "canon", "(I)I"⟩
abbrev cX6_ringsInATurn : ByteArray := prog_1_method_23_code
def yX6_ringsInATurn : MethodName := ⟨RX6, "ringsInATurn", "(LRungByADrum$Drum;)I"⟩
abbrev cX6_allPins : ByteArray := prog_1_method_24_code
def yX6_allPins : MethodName := ⟨RX6, "allPins", "()I"⟩
abbrev cX6_comesAgainAfter : ByteArray := prog_1_method_25_code
def yX6_comesAgainAfter : MethodName := ⟨RX6, "comesAgainAfter", "(I)Z"⟩
abbrev cX6_illTwos : ByteArray := prog_1_method_26_code
def yX6_illTwos : MethodName := ⟨RX6, "illTwos", "(I)I"⟩
abbrev cX6_want : ByteArray := prog_1_method_27_code
def yX6_want : MethodName := ⟨RX6, "want", "(II)I"⟩
abbrev cX6_changes : ByteArray := prog_1_method_28_code
def yX6_changes : MethodName := ⟨RX6, "changes", "(I)I"⟩
abbrev cX6_letters : ByteArray := prog_1_method_29_code
def yX6_letters : MethodName := ⟨RX6, "letters", "()I"⟩
abbrev cX6_ringers : ByteArray := prog_1_method_30_code
def yX6_ringers : MethodName := ⟨RX6, "ringers", "()I"⟩
abbrev cX6_changesIfShifted : ByteArray := prog_1_method_31_code
def yX6_changesIfShifted : MethodName := ⟨RX6, "changesIfShifted", "(I)I"⟩
abbrev cX6_hear : ByteArray := prog_1_method_32_code
def yX6_hear : MethodName := ⟨RX6, "hear", "(I)I"⟩
abbrev cX6_forget : ByteArray := prog_1_method_33_code
def yX6_forget : MethodName := ⟨RX6, "forget", "()I"⟩
abbrev cX6_stood : ByteArray := prog_1_method_34_code
def yX6_stood : MethodName := ⟨RX6, "stood", "()I"⟩
abbrev cX6_octaves : ByteArray := prog_1_method_35_code
def yX6_octaves : MethodName := ⟨RX6, "octaves", "()I"⟩
abbrev cX6_melody : ByteArray := prog_1_method_36_code
def yX6_melody : MethodName := ⟨RX6, "melody", "(I)I"⟩
abbrev cX6_winter : ByteArray := prog_1_method_37_code
def yX6_winter : MethodName := ⟨RX6, "winter", "(III)I"⟩
abbrev cX6_keep : ByteArray := prog_1_method_38_code
def yX6_keep : MethodName := ⟨RX6, "keep", "()I"⟩
abbrev cX6_back : ByteArray := prog_1_method_39_code
def yX6_back : MethodName := ⟨RX6, "back", "()I"⟩
abbrev cX6_count : ByteArray := prog_1_method_40_code
def yX6_count : MethodName := ⟨RX6, "count", "(I)I"⟩
abbrev cX6_isHeardFrom : ByteArray := prog_1_method_41_code
def yX6_isHeardFrom : MethodName := ⟨RX6, "isHeardFrom", "(I)Z"⟩
abbrev cX6_draw : ByteArray := prog_1_method_42_code
def yX6_draw : MethodName := ⟨RX6, "draw", "(II)I"⟩
def RX7 : String := "RungByADrumModel"
def TX7 : u_T := fun k => match k with
  | 0 => ("RungByADrumModel", "tower", "[I", true)
  | 1 => ("RungByADrumModel", "read", "[I", true)
  | 2 => ("RungByADrumModel", "tune", "[I", true)
  | 3 => ("RungByADrumModel", "tuneRows", "I", false)
  | 4 => ("RungByADrumModel", "now", "[I", true)
  | 5 => ("RungByADrumModel", "past", "[I", true)
  | 6 => ("RungByADrumModel", "undos", "I", false)
  | 7 => ("RungByADrumModel", "kept", "[I", true)
  | 8 => ("RungByADrumModel", "keptMany", "I", false)
  | 9 => ("RungByADrumModel", "text", "[I", true)
  | 10 => ("RungByADrumModel", "size", "I", false)
  | 11 => ("RungByADrumModel", "wanted", "[I", true)
  | 12 => ("RungByADrumModel", "heard", "[I", true)
  | 13 => ("RungByADrumModel", "heardMany", "I", false)
  | 14 => ("RungByADrumModel", "at", "I", false)
  | 15 => ("RungByADrumModel", "isTune", "Z", false)
  | 16 => ("RungByADrumModel", "numbers", "[I", true)
  | 17 => ("RungByADrumModel", "starts", "[I", true)
  | 18 => ("RungByADrumModel", "moved", "[I", true)
  | 19 => ("RungByADrumModel", "aside", "[I", true)
  | 20 => ("RungByADrumModel", "shortest", "[I", true)
  | 21 => ("RungByADrumModel", "people", "[I", true)
  | _ => ("RungByADrumModel", "ones", "[Z", true)
def tyX7 : Nat → FieldType := fun k => match k with
  | 0 => .array .int
  | 1 => .array .int
  | 2 => .array .int
  | 3 => .int
  | 4 => .array .int
  | 5 => .array .int
  | 6 => .int
  | 7 => .array .int
  | 8 => .int
  | 9 => .array .int
  | 10 => .int
  | 11 => .array .int
  | 12 => .array .int
  | 13 => .int
  | 14 => .int
  | 15 => .boolean
  | 16 => .array .int
  | 17 => .array .int
  | 18 => .array .int
  | 19 => .array .int
  | 20 => .array .int
  | 21 => .array .int
  | _ => .array .boolean
abbrev wsX70 : List Cond := u_ws RX7 TX7 23
theorem nmX7 : ∀ a, a < 23 → ∀ b, b < 23 → a ≠ b → (TX7 a).2.1 ≠ (TX7 b).2.1 := by decide +kernel
theorem tyX7_ok : ∀ k, k < 23 → parseFieldDescriptor (TX7 k).2.2.1 = some (tyX7 k) := by decide +kernel
abbrev cX7_init : ByteArray := prog_9_method_1_code
def yX7_init : MethodName := ⟨RX7, "<init>", "()V"⟩
abbrev cX7_in : ByteArray := prog_9_method_3_code
def yX7_in : MethodName := ⟨RX7, "in", "(JJJ)Z"⟩
abbrev cX7_isTwo : ByteArray := prog_9_method_4_code
def yX7_isTwo : MethodName := ⟨RX7, "isTwo", "(I)Z"⟩
abbrev cX7_has : ByteArray := prog_9_method_5_code
def yX7_has : MethodName := ⟨RX7, "has", "(II)Z"⟩
abbrev cX7_bits : ByteArray := prog_9_method_6_code
def yX7_bits : MethodName := ⟨RX7, "bits", "(I)I"⟩
abbrev cX7_write : ByteArray := prog_9_method_7_code
def yX7_write : MethodName := ⟨RX7, "write", "(I)I"⟩
abbrev cX7_wipe : ByteArray := prog_9_method_8_code
def yX7_wipe : MethodName := ⟨RX7, "wipe", "()I"⟩
abbrev cX7_clean : ByteArray := prog_9_method_9_code
def yX7_clean : MethodName := ⟨RX7, "clean", "()V"⟩
abbrev cX7_comes : ByteArray := prog_9_method_10_code
def yX7_comes : MethodName := ⟨RX7, "comes", "(II)V"⟩
abbrev cX7_put : ByteArray := prog_9_method_11_code
def yX7_put : MethodName := ⟨RX7, "put", "(I)Z"⟩
abbrev cX7_here : ByteArray := prog_9_method_12_code
def yX7_here : MethodName := ⟨RX7, "here", "()I"⟩
abbrev cX7_takes : ByteArray := prog_9_method_13_code
def yX7_takes : MethodName := ⟨RX7, "takes", "(I)Z"⟩
abbrev cX7_takesBell : ByteArray := prog_9_method_14_code
def yX7_takesBell : MethodName := ⟨RX7, "takesBell", "()Z"⟩
abbrev cX7_takesOne : ByteArray := prog_9_method_15_code
def yX7_takesOne : MethodName := ⟨RX7, "takesOne", "(III)Z"⟩
abbrev cX7_isBellHere : ByteArray := prog_9_method_16_code
def yX7_isBellHere : MethodName := ⟨RX7, "isBellHere", "()Z"⟩
abbrev cX7_chord : ByteArray := prog_9_method_17_code
def yX7_chord : MethodName := ⟨RX7, "chord", "()I"⟩
abbrev cX7_tellsAgain : ByteArray := prog_9_method_18_code
def yX7_tellsAgain : MethodName := ⟨RX7, "tellsAgain", "(II)Z"⟩
abbrev cX7_takesTune : ByteArray := prog_9_method_19_code
def yX7_takesTune : MethodName := ⟨RX7, "takesTune", "()Z"⟩
abbrev cX7_takesItem : ByteArray := prog_9_method_20_code
def yX7_takesItem : MethodName := ⟨RX7, "takesItem", "()Z"⟩
abbrev cX7_fault : ByteArray := prog_9_method_21_code
def yX7_fault : MethodName := ⟨RX7, "fault", "()I"⟩
abbrev cX7_begins : ByteArray := prog_9_method_22_code
def yX7_begins : MethodName := ⟨RX7, "begins", "()V"⟩
abbrev cX7_lay : ByteArray := prog_9_method_23_code
def yX7_lay : MethodName := ⟨RX7, "lay", "()I"⟩
abbrev cX7_isBell : ByteArray := prog_9_method_24_code
def yX7_isBell : MethodName := ⟨RX7, "isBell", "(I)Z"⟩
abbrev cX7_isRow : ByteArray := prog_9_method_25_code
def yX7_isRow : MethodName := ⟨RX7, "isRow", "(I)Z"⟩
abbrev cX7_isSet : ByteArray := prog_9_method_26_code
def yX7_isSet : MethodName := ⟨RX7, "isSet", "(I)Z"⟩
abbrev cX7_rings : ByteArray := prog_9_method_27_code
def yX7_rings : MethodName := ⟨RX7, "rings", "([II)I"⟩
abbrev cX7_comesNext : ByteArray := prog_9_method_28_code
def yX7_comesNext : MethodName := ⟨RX7, "comesNext", "([I)I"⟩
abbrev cX7_bell : ByteArray := prog_9_method_29_code
def yX7_bell : MethodName := ⟨RX7, "bell", "(II)I"⟩
abbrev cX7_pins : ByteArray := prog_9_method_30_code
def yX7_pins : MethodName := ⟨RX7, "pins", "(I)I"⟩
abbrev cX7_copies : ByteArray := prog_9_method_31_code
def yX7_copies : MethodName := ⟨RX7, "copies", "([II[II)V"⟩
abbrev cX7_remember : ByteArray := prog_9_method_32_code
def yX7_remember : MethodName := ⟨RX7, "remember", "()V"⟩
abbrev cX7_turn : ByteArray := prog_9_method_33_code
def yX7_turn : MethodName := ⟨RX7, "turn", "()I"⟩
abbrev cX7_turnBack : ByteArray := prog_9_method_34_code
def yX7_turnBack : MethodName := ⟨RX7, "turnBack", "()I"⟩
abbrev cX7_pin : ByteArray := prog_9_method_35_code
def yX7_pin : MethodName := ⟨RX7, "pin", "(IIZ)I"⟩
abbrev cX7_shifted : ByteArray := prog_9_method_36_code
def yX7_shifted : MethodName := ⟨RX7, "shifted", "(II)I"⟩
abbrev cX7_shift : ByteArray := prog_9_method_37_code
def yX7_shift : MethodName := ⟨RX7, "shift", "(I)I"⟩
abbrev cX7_undo : ByteArray := prog_9_method_38_code
def yX7_undo : MethodName := ⟨RX7, "undo", "()I"⟩
abbrev cX7_sumOf : ByteArray := prog_9_method_39_code
def yX7_sumOf : MethodName := ⟨RX7, "sumOf", "(I)I"⟩
abbrev cX7_go : ByteArray := prog_9_method_40_code
def yX7_go : MethodName := ⟨RX7, "go", "(I)V"⟩
abbrev cX7_whole : ByteArray := prog_9_method_41_code
def yX7_whole : MethodName := ⟨RX7, "whole", "(I)I"⟩
abbrev cX7_silence : ByteArray := prog_9_method_42_code
def yX7_silence : MethodName := ⟨RX7, "silence", "()I"⟩
abbrev cX7_again : ByteArray := prog_9_method_43_code
def yX7_again : MethodName := ⟨RX7, "again", "()I"⟩
abbrev cX7_comesAgain : ByteArray := prog_9_method_44_code
def yX7_comesAgain : MethodName := ⟨RX7, "comesAgain", "(I)Z"⟩
abbrev cX7_isIll : ByteArray := prog_9_method_45_code
def yX7_isIll : MethodName := ⟨RX7, "isIll", "(II)Z"⟩
abbrev cX7_illOf : ByteArray := prog_9_method_46_code
def yX7_illOf : MethodName := ⟨RX7, "illOf", "(II)I"⟩
abbrev cX7_harsh : ByteArray := prog_9_method_47_code
def yX7_harsh : MethodName := ⟨RX7, "harsh", "()I"⟩
abbrev cX7_canon : ByteArray := prog_9_method_48_code
def yX7_canon : MethodName := ⟨RX7, "canon", "(I)I"⟩
abbrev cX7_want : ByteArray := prog_9_method_49_code
def yX7_want : MethodName := ⟨RX7, "want", "(II)I"⟩
abbrev cX7_changes : ByteArray := prog_9_method_50_code
def yX7_changes : MethodName := ⟨RX7, "changes", "(I)I"⟩
abbrev cX7_cell : ByteArray := prog_9_method_51_code
def yX7_cell : MethodName := ⟨RX7, "cell", "(III)I"⟩
abbrev cX7_isAgain : ByteArray := prog_9_method_52_code
def yX7_isAgain : MethodName := ⟨RX7, "isAgain", "(III)Z"⟩
abbrev cX7_fewest : ByteArray := prog_9_method_53_code
def yX7_fewest : MethodName := ⟨RX7, "fewest", "(III)I"⟩
abbrev cX7_letters : ByteArray := prog_9_method_54_code
def yX7_letters : MethodName := ⟨RX7, "letters", "()I"⟩
abbrev cX7_areOne : ByteArray := prog_9_method_55_code
def yX7_areOne : MethodName := ⟨RX7, "areOne", "(I)Z"⟩
abbrev cX7_ringers : ByteArray := prog_9_method_56_code
def yX7_ringers : MethodName := ⟨RX7, "ringers", "()I"⟩
abbrev cX7_hear : ByteArray := prog_9_method_57_code
def yX7_hear : MethodName := ⟨RX7, "hear", "(I)I"⟩
abbrev cX7_forget : ByteArray := prog_9_method_58_code
def yX7_forget : MethodName := ⟨RX7, "forget", "()I"⟩
abbrev cX7_stood : ByteArray := prog_9_method_59_code
def yX7_stood : MethodName := ⟨RX7, "stood", "()I"⟩
abbrev cX7_octaves : ByteArray := prog_9_method_60_code
def yX7_octaves : MethodName := ⟨RX7, "octaves", "()I"⟩
abbrev cX7_melody : ByteArray := prog_9_method_61_code
def yX7_melody : MethodName := ⟨RX7, "melody", "(I)I"⟩
abbrev cX7_winter : ByteArray := prog_9_method_62_code
def yX7_winter : MethodName := ⟨RX7, "winter", "(III)I"⟩
abbrev cX7_keep : ByteArray := prog_9_method_63_code
def yX7_keep : MethodName := ⟨RX7, "keep", "()I"⟩
abbrev cX7_back : ByteArray := prog_9_method_64_code
def yX7_back : MethodName := ⟨RX7, "back", "()I"⟩
abbrev cX7_count : ByteArray := prog_9_method_65_code
def yX7_count : MethodName := ⟨RX7, "count", "(I)I"⟩
def RJx145de : String := "java/io/Serializable"
def TJx145de : u_T := fun k => match k with
  | _ => ("", "", "", false)
def tyJx145de : Nat → FieldType := fun k => match k with
  | _ => .int
abbrev wsJx145de0 : List Cond := u_ws RJx145de TJx145de 0
theorem nmJx145de : ∀ a, a < 0 → ∀ b, b < 0 → a ≠ b → (TJx145de a).2.1 ≠ (TJx145de b).2.1 := by decide +kernel
theorem tyJx145de_ok : ∀ k, k < 0 → parseFieldDescriptor (TJx145de k).2.2.1 = some (tyJx145de k) := by decide +kernel
def RJx9f9b0 : String := "java/lang/CharSequence"
def TJx9f9b0 : u_T := fun k => match k with
  | _ => ("", "", "", false)
def tyJx9f9b0 : Nat → FieldType := fun k => match k with
  | _ => .int
abbrev wsJx9f9b00 : List Cond := u_ws RJx9f9b0 TJx9f9b0 0
theorem nmJx9f9b0 : ∀ a, a < 0 → ∀ b, b < 0 → a ≠ b → (TJx9f9b0 a).2.1 ≠ (TJx9f9b0 b).2.1 := by decide +kernel
theorem tyJx9f9b0_ok : ∀ k, k < 0 → parseFieldDescriptor (TJx9f9b0 k).2.2.1 = some (tyJx9f9b0 k) := by decide +kernel
def RJxb160c : String := "java/lang/Comparable"
def TJxb160c : u_T := fun k => match k with
  | _ => ("", "", "", false)
def tyJxb160c : Nat → FieldType := fun k => match k with
  | _ => .int
abbrev wsJxb160c0 : List Cond := u_ws RJxb160c TJxb160c 0
theorem nmJxb160c : ∀ a, a < 0 → ∀ b, b < 0 → a ≠ b → (TJxb160c a).2.1 ≠ (TJxb160c b).2.1 := by decide +kernel
theorem tyJxb160c_ok : ∀ k, k < 0 → parseFieldDescriptor (TJxb160c k).2.2.1 = some (tyJxb160c k) := by decide +kernel
def RJ6 : String := "java/lang/Integer"
def TJ6 : u_T := fun k => match k with
  | _ => ("", "", "", false)
def tyJ6 : Nat → FieldType := fun k => match k with
  | _ => .int
abbrev wsJ60 : List Cond := u_ws RJ6 TJ6 0
theorem nmJ6 : ∀ a, a < 0 → ∀ b, b < 0 → a ≠ b → (TJ6 a).2.1 ≠ (TJ6 b).2.1 := by decide +kernel
theorem tyJ6_ok : ∀ k, k < 0 → parseFieldDescriptor (TJ6 k).2.2.1 = some (tyJ6 k) := by decide +kernel
abbrev cJ6_bitCount_0f7a4 : ByteArray := prog_10_method_49_code
def yJ6_bitCount_0f7a4 : MethodName := ⟨RJ6, "bitCount", "(I)I"⟩
def RJ9 : String := "java/lang/Math"
def TJ9 : u_T := fun k => match k with
  | _ => ("", "", "", false)
def tyJ9 : Nat → FieldType := fun k => match k with
  | _ => .int
abbrev wsJ90 : List Cond := u_ws RJ9 TJ9 0
theorem nmJ9 : ∀ a, a < 0 → ∀ b, b < 0 → a ≠ b → (TJ9 a).2.1 ≠ (TJ9 b).2.1 := by decide +kernel
theorem tyJ9_ok : ∀ k, k < 0 → parseFieldDescriptor (TJ9 k).2.2.1 = some (tyJ9 k) := by decide +kernel
abbrev cJ9_floorMod_7cf53 : ByteArray := prog_11_method_50_code
def yJ9_floorMod_7cf53 : MethodName := ⟨RJ9, "floorMod", "(II)I"⟩
abbrev cJ9_abs_0f7a4 : ByteArray := prog_11_method_59_code
def yJ9_abs_0f7a4 : MethodName := ⟨RJ9, "abs", "(I)I"⟩
abbrev cJ9_max_7cf53 : ByteArray := prog_11_method_65_code
def yJ9_max_7cf53 : MethodName := ⟨RJ9, "max", "(II)I"⟩
abbrev cJ9_min_7cf53 : ByteArray := prog_11_method_69_code
def yJ9_min_7cf53 : MethodName := ⟨RJ9, "min", "(II)I"⟩
def RJ0 : String := "java/lang/String"
def TJ0 : u_T := fun k => match k with
  | _ => ("", "", "", false)
def tyJ0 : Nat → FieldType := fun k => match k with
  | _ => .int
abbrev wsJ00 : List Cond := u_ws RJ0 TJ0 0
theorem nmJ0 : ∀ a, a < 0 → ∀ b, b < 0 → a ≠ b → (TJ0 a).2.1 ≠ (TJ0 b).2.1 := by decide +kernel
theorem tyJ0_ok : ∀ k, k < 0 → parseFieldDescriptor (TJ0 k).2.2.1 = some (tyJ0 k) := by decide +kernel
abbrev cJ0_length_8abf5 : ByteArray := prog_12_method_54_code
def yJ0_length_8abf5 : MethodName := ⟨RJ0, "length", "()I"⟩
abbrev cJ0_charAt_5068e : ByteArray := prog_12_method_56_code
def yJ0_charAt_5068e : MethodName := ⟨RJ0, "charAt", "(I)C"⟩
abbrev cJ0_coder_7d493 : ByteArray := prog_12_method_152_code
def yJ0_coder_7d493 : MethodName := ⟨RJ0, "coder", "()B"⟩
abbrev cJ0_isLatin1_aae02 : ByteArray := prog_12_method_154_code
def yJ0_isLatin1_aae02 : MethodName := ⟨RJ0, "isLatin1", "()Z"⟩
abbrev cJ0_checkIndex_df160 : ByteArray := prog_12_method_155_code
def yJ0_checkIndex_df160 : MethodName := ⟨RJ0, "checkIndex", "(II)V"⟩
def RJ1 : String := "java/lang/StringLatin1"
def TJ1 : u_T := fun k => match k with
  | _ => ("", "", "", false)
def tyJ1 : Nat → FieldType := fun k => match k with
  | _ => .int
abbrev wsJ10 : List Cond := u_ws RJ1 TJ1 0
theorem nmJ1 : ∀ a, a < 0 → ∀ b, b < 0 → a ≠ b → (TJ1 a).2.1 ≠ (TJ1 b).2.1 := by decide +kernel
theorem tyJ1_ok : ∀ k, k < 0 → parseFieldDescriptor (TJ1 k).2.2.1 = some (tyJ1 k) := by decide +kernel
abbrev cJ1_charAt_3b067 : ByteArray := prog_13_method_2_code
def yJ1_charAt_3b067 : MethodName := ⟨RJ1, "charAt", "([BI)C"⟩
def RJ2 : String := "java/lang/StringUTF16"
def TJ2 : u_T := fun k => match k with
  | _ => ("", "", "", false)
def tyJ2 : Nat → FieldType := fun k => match k with
  | _ => .int
abbrev wsJ20 : List Cond := u_ws RJ2 TJ2 0
theorem nmJ2 : ∀ a, a < 0 → ∀ b, b < 0 → a ≠ b → (TJ2 a).2.1 ≠ (TJ2 b).2.1 := by decide +kernel
theorem tyJ2_ok : ∀ k, k < 0 → parseFieldDescriptor (TJ2 k).2.2.1 = some (tyJ2 k) := by decide +kernel
abbrev cJ2_getChar_3b067 : ByteArray := prog_14_method_5_code
def yJ2_getChar_3b067 : MethodName := ⟨RJ2, "getChar", "([BI)C"⟩
abbrev cJ2_length_9d52b : ByteArray := prog_14_method_6_code
def yJ2_length_9d52b : MethodName := ⟨RJ2, "length", "([B)I"⟩
abbrev cJ2_charAt_3b067 : ByteArray := prog_14_method_83_code
def yJ2_charAt_3b067 : MethodName := ⟨RJ2, "charAt", "([BI)C"⟩
abbrev cJ2_checkIndex_2214a : ByteArray := prog_14_method_91_code
def yJ2_checkIndex_2214a : MethodName := ⟨RJ2, "checkIndex", "(I[B)V"⟩
def RJ10 : String := "java/lang/System"
def TJ10 : u_T := fun k => match k with
  | _ => ("", "", "", false)
def tyJ10 : Nat → FieldType := fun k => match k with
  | _ => .int
abbrev wsJ100 : List Cond := u_ws RJ10 TJ10 0
theorem nmJ10 : ∀ a, a < 0 → ∀ b, b < 0 → a ≠ b → (TJ10 a).2.1 ≠ (TJ10 b).2.1 := by decide +kernel
theorem tyJ10_ok : ∀ k, k < 0 → parseFieldDescriptor (TJ10 k).2.2.1 = some (tyJ10 k) := by decide +kernel
def RJxfd54e : String := "java/lang/constant/Constable"
def TJxfd54e : u_T := fun k => match k with
  | _ => ("", "", "", false)
def tyJxfd54e : Nat → FieldType := fun k => match k with
  | _ => .int
abbrev wsJxfd54e0 : List Cond := u_ws RJxfd54e TJxfd54e 0
theorem nmJxfd54e : ∀ a, a < 0 → ∀ b, b < 0 → a ≠ b → (TJxfd54e a).2.1 ≠ (TJxfd54e b).2.1 := by decide +kernel
theorem tyJxfd54e_ok : ∀ k, k < 0 → parseFieldDescriptor (TJxfd54e k).2.2.1 = some (tyJxfd54e k) := by decide +kernel
def RJx3cf43 : String := "java/lang/constant/ConstantDesc"
def TJx3cf43 : u_T := fun k => match k with
  | _ => ("", "", "", false)
def tyJx3cf43 : Nat → FieldType := fun k => match k with
  | _ => .int
abbrev wsJx3cf430 : List Cond := u_ws RJx3cf43 TJx3cf43 0
theorem nmJx3cf43 : ∀ a, a < 0 → ∀ b, b < 0 → a ≠ b → (TJx3cf43 a).2.1 ≠ (TJx3cf43 b).2.1 := by decide +kernel
theorem tyJx3cf43_ok : ∀ k, k < 0 → parseFieldDescriptor (TJx3cf43 k).2.2.1 = some (tyJx3cf43 k) := by decide +kernel
def RJ7 : String := "java/util/Arrays"
def TJ7 : u_T := fun k => match k with
  | _ => ("", "", "", false)
def tyJ7 : Nat → FieldType := fun k => match k with
  | _ => .int
abbrev wsJ70 : List Cond := u_ws RJ7 TJ7 0
theorem nmJ7 : ∀ a, a < 0 → ∀ b, b < 0 → a ≠ b → (TJ7 a).2.1 ≠ (TJ7 b).2.1 := by decide +kernel
theorem tyJ7_ok : ∀ k, k < 0 → parseFieldDescriptor (TJ7 k).2.2.1 = some (tyJ7 k) := by decide +kernel
abbrev cJ7_fill_53178 : ByteArray := prog_16_method_103_code
def yJ7_fill_53178 : MethodName := ⟨RJ7, "fill", "([II)V"⟩
def RJ3 : String := "jdk/internal/util/Preconditions"
def TJ3 : u_T := fun k => match k with
  | _ => ("", "", "", false)
def tyJ3 : Nat → FieldType := fun k => match k with
  | _ => .int
abbrev wsJ30 : List Cond := u_ws RJ3 TJ3 0
theorem nmJ3 : ∀ a, a < 0 → ∀ b, b < 0 → a ≠ b → (TJ3 a).2.1 ≠ (TJ3 b).2.1 := by decide +kernel
theorem tyJ3_ok : ∀ k, k < 0 → parseFieldDescriptor (TJ3 k).2.2.1 = some (tyJ3 k) := by decide +kernel
abbrev cJ3_checkIndex_8e157 : ByteArray := prog_17_method_11_code
def yJ3_checkIndex_8e157 : MethodName := ⟨RJ3, "checkIndex", "(IILjava/util/function/BiFunction;)I"⟩
def RL : String := "RungByADrumLaw"
abbrev cL_law : ByteArray := code
def yL_law : MethodName := ⟨RL, "law", "([I)Z"⟩
abbrev vwCl : List vw_C := [(RX0, TX0, 6), (RX1, TX1, 4), (RX2, TX2, 4), (RX3, TX3, 1), (RX4, TX4, 4), (RX5, TX5, 9), (RX6, TX6, 12), (RX7, TX7, 23)]
/-- the words of the tables that any state of the run keeps -/
def gt : List Cond := lw_tbl.filter goodWord
theorem gt_in (i : Nat) {w : Cond} (h : lw_tbl[i]? = some w) (hg : goodWord w = true) : w ∈ gt := List.mem_filter.mpr ⟨List.mem_of_getElem? h, hg⟩
theorem gt_good {w : Cond} (h : w ∈ gt) : (w.onTables && w.keeps) = true ∨ ∃ ty, w = .arrayClass ty := good_of_word (List.mem_filter.mp h).2
end
section
theorem dX0_init_0 : decode cX0_init 0 = .ok (.aload_n 0, 1) := by decide +kernel
theorem dX0_init_1 : decode cX0_init 1 = .ok (.invokespecial 3, 3) := by decide +kernel
theorem dX0_init_4 : decode cX0_init 4 = .ok (.aload_n 0, 1) := by decide +kernel
theorem dX0_init_5 : decode cX0_init 5 = .ok (.bipush 32, 2) := by decide +kernel
theorem dX0_init_7 : decode cX0_init 7 = .ok (.newarray .int, 2) := by decide +kernel
theorem dX0_init_9 : decode cX0_init 9 = .ok (.putfield 9, 3) := by decide +kernel
theorem dX0_init_12 : decode cX0_init 12 = .ok (.aload_n 0, 1) := by decide +kernel
theorem dX0_init_13 : decode cX0_init 13 = .ok (.bipush 16, 2) := by decide +kernel
theorem dX0_init_15 : decode cX0_init 15 = .ok (.newarray .int, 2) := by decide +kernel
theorem dX0_init_17 : decode cX0_init 17 = .ok (.putfield 15, 3) := by decide +kernel
theorem dX0_init_20 : decode cX0_init 20 = .ok (.aload_n 0, 1) := by decide +kernel
theorem dX0_init_21 : decode cX0_init 21 = .ok (.bipush 8, 2) := by decide +kernel
theorem dX0_init_23 : decode cX0_init 23 = .ok (.newarray .int, 2) := by decide +kernel
theorem dX0_init_25 : decode cX0_init 25 = .ok (.putfield 18, 3) := by decide +kernel
theorem dX0_init_28 : decode cX0_init 28 = .ok (.aload_n 0, 1) := by decide +kernel
theorem dX0_init_29 : decode cX0_init 29 = .ok (.bipush 8, 2) := by decide +kernel
theorem dX0_init_31 : decode cX0_init 31 = .ok (.newarray .int, 2) := by decide +kernel
theorem dX0_init_33 : decode cX0_init 33 = .ok (.putfield 21, 3) := by decide +kernel
theorem dX0_init_36 : decode cX0_init 36 = .ok (.return_, 1) := by decide +kernel
theorem dX0_startWith_0 : decode cX0_startWith 0 = .ok (.aload_n 0, 1) := by decide +kernel
theorem dX0_startWith_1 : decode cX0_startWith 1 = .ok (.getfield 9, 3) := by decide +kernel
theorem dX0_startWith_4 : decode cX0_startWith 4 = .ok (.iconst 0, 1) := by decide +kernel
theorem dX0_startWith_5 : decode cX0_startWith 5 = .ok (.invokestatic 24, 3) := by decide +kernel
theorem dX0_startWith_8 : decode cX0_startWith 8 = .ok (.aload_n 1, 1) := by decide +kernel
theorem dX0_startWith_9 : decode cX0_startWith 9 = .ok (.getfield 30, 3) := by decide +kernel
theorem dX0_startWith_12 : decode cX0_startWith 12 = .ok (.iconst 0, 1) := by decide +kernel
theorem dX0_startWith_13 : decode cX0_startWith 13 = .ok (.aload_n 0, 1) := by decide +kernel
theorem dX0_startWith_14 : decode cX0_startWith 14 = .ok (.getfield 9, 3) := by decide +kernel
theorem dX0_startWith_17 : decode cX0_startWith 17 = .ok (.iconst 0, 1) := by decide +kernel
theorem dX0_startWith_18 : decode cX0_startWith 18 = .ok (.aload_n 1, 1) := by decide +kernel
theorem dX0_startWith_19 : decode cX0_startWith 19 = .ok (.getfield 35, 3) := by decide +kernel
theorem dX0_startWith_22 : decode cX0_startWith 22 = .ok (.invokestatic 39, 3) := by decide +kernel
theorem dX0_startWith_25 : decode cX0_startWith 25 = .ok (.aload_n 0, 1) := by decide +kernel
theorem dX0_startWith_26 : decode cX0_startWith 26 = .ok (.getfield 15, 3) := by decide +kernel
theorem dX0_startWith_29 : decode cX0_startWith 29 = .ok (.iconst 0, 1) := by decide +kernel
theorem dX0_startWith_30 : decode cX0_startWith 30 = .ok (.invokestatic 24, 3) := by decide +kernel
theorem dX0_startWith_33 : decode cX0_startWith 33 = .ok (.aload_n 0, 1) := by decide +kernel
theorem dX0_startWith_34 : decode cX0_startWith 34 = .ok (.getfield 18, 3) := by decide +kernel
theorem dX0_startWith_37 : decode cX0_startWith 37 = .ok (.iconst 0, 1) := by decide +kernel
theorem dX0_startWith_38 : decode cX0_startWith 38 = .ok (.invokestatic 24, 3) := by decide +kernel
theorem dX0_startWith_41 : decode cX0_startWith 41 = .ok (.aload_n 0, 1) := by decide +kernel
theorem dX0_startWith_42 : decode cX0_startWith 42 = .ok (.getfield 21, 3) := by decide +kernel
theorem dX0_startWith_45 : decode cX0_startWith 45 = .ok (.iconst 0, 1) := by decide +kernel
theorem dX0_startWith_46 : decode cX0_startWith 46 = .ok (.invokestatic 24, 3) := by decide +kernel
theorem dX0_startWith_49 : decode cX0_startWith 49 = .ok (.aload_n 0, 1) := by decide +kernel
theorem dX0_startWith_50 : decode cX0_startWith 50 = .ok (.aload_n 1, 1) := by decide +kernel
theorem dX0_startWith_51 : decode cX0_startWith 51 = .ok (.getfield 45, 3) := by decide +kernel
theorem dX0_startWith_54 : decode cX0_startWith 54 = .ok (.putfield 48, 3) := by decide +kernel
theorem dX0_startWith_57 : decode cX0_startWith 57 = .ok (.aload_n 0, 1) := by decide +kernel
theorem dX0_startWith_58 : decode cX0_startWith 58 = .ok (.iconst 0, 1) := by decide +kernel
theorem dX0_startWith_59 : decode cX0_startWith 59 = .ok (.putfield 51, 3) := by decide +kernel
theorem dX0_startWith_62 : decode cX0_startWith 62 = .ok (.return_, 1) := by decide +kernel
theorem dX0_turnOn_0 : decode cX0_turnOn 0 = .ok (.aload_n 0, 1) := by decide +kernel
theorem dX0_turnOn_1 : decode cX0_turnOn 1 = .ok (.aload_n 0, 1) := by decide +kernel
theorem dX0_turnOn_2 : decode cX0_turnOn 2 = .ok (.getfield 48, 3) := by decide +kernel
theorem dX0_turnOn_5 : decode cX0_turnOn 5 = .ok (.aload_n 1, 1) := by decide +kernel
theorem dX0_turnOn_6 : decode cX0_turnOn 6 = .ok (.getfield 45, 3) := by decide +kernel
theorem dX0_turnOn_9 : decode cX0_turnOn 9 = .ok (.iconst 1, 1) := by decide +kernel
theorem dX0_turnOn_10 : decode cX0_turnOn 10 = .ok (.isub, 1) := by decide +kernel
theorem dX0_turnOn_11 : decode cX0_turnOn 11 = .ok (.if_icmp .lt 7, 3) := by decide +kernel
theorem dX0_turnOn_14 : decode cX0_turnOn 14 = .ok (.iconst 0, 1) := by decide +kernel
theorem dX0_turnOn_15 : decode cX0_turnOn 15 = .ok (.goto 9, 3) := by decide +kernel
theorem dX0_turnOn_18 : decode cX0_turnOn 18 = .ok (.aload_n 0, 1) := by decide +kernel
theorem dX0_turnOn_19 : decode cX0_turnOn 19 = .ok (.getfield 48, 3) := by decide +kernel
theorem dX0_turnOn_22 : decode cX0_turnOn 22 = .ok (.iconst 1, 1) := by decide +kernel
theorem dX0_turnOn_23 : decode cX0_turnOn 23 = .ok (.iadd, 1) := by decide +kernel
theorem dX0_turnOn_24 : decode cX0_turnOn 24 = .ok (.aload_n 1, 1) := by decide +kernel
theorem dX0_turnOn_25 : decode cX0_turnOn 25 = .ok (.invokevirtual 54, 3) := by decide +kernel
theorem dX0_turnOn_28 : decode cX0_turnOn 28 = .ok (.ireturn, 1) := by decide +kernel
theorem dX0_turnOff_0 : decode cX0_turnOff 0 = .ok (.aload_n 0, 1) := by decide +kernel
theorem dX0_turnOff_1 : decode cX0_turnOff 1 = .ok (.aload_n 0, 1) := by decide +kernel
theorem dX0_turnOff_2 : decode cX0_turnOff 2 = .ok (.getfield 48, 3) := by decide +kernel
theorem dX0_turnOff_5 : decode cX0_turnOff 5 = .ok (.ifCond .gt 12, 3) := by decide +kernel
theorem dX0_turnOff_8 : decode cX0_turnOff 8 = .ok (.aload_n 1, 1) := by decide +kernel
theorem dX0_turnOff_9 : decode cX0_turnOff 9 = .ok (.getfield 45, 3) := by decide +kernel
theorem dX0_turnOff_12 : decode cX0_turnOff 12 = .ok (.iconst 1, 1) := by decide +kernel
theorem dX0_turnOff_13 : decode cX0_turnOff 13 = .ok (.isub, 1) := by decide +kernel
theorem dX0_turnOff_14 : decode cX0_turnOff 14 = .ok (.goto 9, 3) := by decide +kernel
theorem dX0_turnOff_17 : decode cX0_turnOff 17 = .ok (.aload_n 0, 1) := by decide +kernel
theorem dX0_turnOff_18 : decode cX0_turnOff 18 = .ok (.getfield 48, 3) := by decide +kernel
theorem dX0_turnOff_21 : decode cX0_turnOff 21 = .ok (.iconst 1, 1) := by decide +kernel
theorem dX0_turnOff_22 : decode cX0_turnOff 22 = .ok (.isub, 1) := by decide +kernel
theorem dX0_turnOff_23 : decode cX0_turnOff 23 = .ok (.aload_n 1, 1) := by decide +kernel
theorem dX0_turnOff_24 : decode cX0_turnOff 24 = .ok (.invokevirtual 54, 3) := by decide +kernel
theorem dX0_turnOff_27 : decode cX0_turnOff 27 = .ok (.ireturn, 1) := by decide +kernel
theorem dX0_ringRow_0 : decode cX0_ringRow 0 = .ok (.iload_n 1, 1) := by decide +kernel
theorem dX0_ringRow_1 : decode cX0_ringRow 1 = .ok (.ifCond .lt 9, 3) := by decide +kernel
theorem dX0_ringRow_4 : decode cX0_ringRow 4 = .ok (.iload_n 1, 1) := by decide +kernel
theorem dX0_ringRow_5 : decode cX0_ringRow 5 = .ok (.bipush 32, 2) := by decide +kernel
theorem dX0_ringRow_7 : decode cX0_ringRow 7 = .ok (.if_icmp .lt 5, 3) := by decide +kernel
theorem dX0_ringRow_10 : decode cX0_ringRow 10 = .ok (.iconst 0, 1) := by decide +kernel
theorem dX0_ringRow_11 : decode cX0_ringRow 11 = .ok (.ireturn, 1) := by decide +kernel
theorem dX0_ringRow_12 : decode cX0_ringRow 12 = .ok (.aload_n 0, 1) := by decide +kernel
theorem dX0_ringRow_13 : decode cX0_ringRow 13 = .ok (.iload_n 1, 1) := by decide +kernel
theorem dX0_ringRow_14 : decode cX0_ringRow 14 = .ok (.putfield 48, 3) := by decide +kernel
theorem dX0_ringRow_17 : decode cX0_ringRow 17 = .ok (.aload_n 0, 1) := by decide +kernel
theorem dX0_ringRow_18 : decode cX0_ringRow 18 = .ok (.dup, 1) := by decide +kernel
theorem dX0_ringRow_19 : decode cX0_ringRow 19 = .ok (.getfield 51, 3) := by decide +kernel
theorem dX0_ringRow_22 : decode cX0_ringRow 22 = .ok (.iconst 1, 1) := by decide +kernel
theorem dX0_ringRow_23 : decode cX0_ringRow 23 = .ok (.iadd, 1) := by decide +kernel
theorem dX0_ringRow_24 : decode cX0_ringRow 24 = .ok (.putfield 51, 3) := by decide +kernel
theorem dX0_ringRow_27 : decode cX0_ringRow 27 = .ok (.iconst 0, 1) := by decide +kernel
theorem dX0_ringRow_28 : decode cX0_ringRow 28 = .ok (.istore_n 3, 1) := by decide +kernel
theorem dX0_ringRow_29 : decode cX0_ringRow 29 = .ok (.iconst 0, 1) := by decide +kernel
theorem dX0_ringRow_30 : decode cX0_ringRow 30 = .ok (.istore 4, 2) := by decide +kernel
theorem dX0_ringRow_32 : decode cX0_ringRow 32 = .ok (.iload 4, 2) := by decide +kernel
theorem dX0_ringRow_34 : decode cX0_ringRow 34 = .ok (.aload_n 2, 1) := by decide +kernel
theorem dX0_ringRow_35 : decode cX0_ringRow 35 = .ok (.getfield 58, 3) := by decide +kernel
theorem dX0_ringRow_38 : decode cX0_ringRow 38 = .ok (.if_icmp .ge 68, 3) := by decide +kernel
theorem dX0_ringRow_41 : decode cX0_ringRow 41 = .ok (.aload_n 0, 1) := by decide +kernel
theorem dX0_ringRow_42 : decode cX0_ringRow 42 = .ok (.getfield 9, 3) := by decide +kernel
theorem dX0_ringRow_45 : decode cX0_ringRow 45 = .ok (.iload_n 1, 1) := by decide +kernel
theorem dX0_ringRow_46 : decode cX0_ringRow 46 = .ok (.iaload, 1) := by decide +kernel
theorem dX0_ringRow_47 : decode cX0_ringRow 47 = .ok (.iload 4, 2) := by decide +kernel
theorem dX0_ringRow_49 : decode cX0_ringRow 49 = .ok (.ishr, 1) := by decide +kernel
theorem dX0_ringRow_50 : decode cX0_ringRow 50 = .ok (.iconst 1, 1) := by decide +kernel
theorem dX0_ringRow_51 : decode cX0_ringRow 51 = .ok (.iand, 1) := by decide +kernel
theorem dX0_ringRow_52 : decode cX0_ringRow 52 = .ok (.ifCond .ne 6, 3) := by decide +kernel
theorem dX0_ringRow_55 : decode cX0_ringRow 55 = .ok (.goto 45, 3) := by decide +kernel
theorem dX0_ringRow_58 : decode cX0_ringRow 58 = .ok (.aload_n 0, 1) := by decide +kernel
theorem dX0_ringRow_59 : decode cX0_ringRow 59 = .ok (.iload 4, 2) := by decide +kernel
theorem dX0_ringRow_61 : decode cX0_ringRow 61 = .ok (.aload_n 2, 1) := by decide +kernel
theorem dX0_ringRow_62 : decode cX0_ringRow 62 = .ok (.invokevirtual 61, 3) := by decide +kernel
theorem dX0_ringRow_65 : decode cX0_ringRow 65 = .ok (.ifCond .eq 24, 3) := by decide +kernel
theorem dX0_ringRow_68 : decode cX0_ringRow 68 = .ok (.iload_n 3, 1) := by decide +kernel
theorem dX0_ringRow_69 : decode cX0_ringRow 69 = .ok (.iconst 1, 1) := by decide +kernel
theorem dX0_ringRow_70 : decode cX0_ringRow 70 = .ok (.iload 4, 2) := by decide +kernel
theorem dX0_ringRow_72 : decode cX0_ringRow 72 = .ok (.ishl, 1) := by decide +kernel
theorem dX0_ringRow_73 : decode cX0_ringRow 73 = .ok (.ior, 1) := by decide +kernel
theorem dX0_ringRow_74 : decode cX0_ringRow 74 = .ok (.istore_n 3, 1) := by decide +kernel
theorem dX0_ringRow_75 : decode cX0_ringRow 75 = .ok (.aload_n 0, 1) := by decide +kernel
theorem dX0_ringRow_76 : decode cX0_ringRow 76 = .ok (.getfield 18, 3) := by decide +kernel
theorem dX0_ringRow_79 : decode cX0_ringRow 79 = .ok (.iload 4, 2) := by decide +kernel
theorem dX0_ringRow_81 : decode cX0_ringRow 81 = .ok (.dup2, 1) := by decide +kernel
theorem dX0_ringRow_82 : decode cX0_ringRow 82 = .ok (.iaload, 1) := by decide +kernel
theorem dX0_ringRow_83 : decode cX0_ringRow 83 = .ok (.iconst 1, 1) := by decide +kernel
theorem dX0_ringRow_84 : decode cX0_ringRow 84 = .ok (.iadd, 1) := by decide +kernel
theorem dX0_ringRow_85 : decode cX0_ringRow 85 = .ok (.iastore, 1) := by decide +kernel
theorem dX0_ringRow_86 : decode cX0_ringRow 86 = .ok (.goto 14, 3) := by decide +kernel
theorem dX0_ringRow_89 : decode cX0_ringRow 89 = .ok (.aload_n 0, 1) := by decide +kernel
theorem dX0_ringRow_90 : decode cX0_ringRow 90 = .ok (.getfield 21, 3) := by decide +kernel
theorem dX0_ringRow_93 : decode cX0_ringRow 93 = .ok (.iload 4, 2) := by decide +kernel
theorem dX0_ringRow_95 : decode cX0_ringRow 95 = .ok (.dup2, 1) := by decide +kernel
theorem dX0_ringRow_96 : decode cX0_ringRow 96 = .ok (.iaload, 1) := by decide +kernel
theorem dX0_ringRow_97 : decode cX0_ringRow 97 = .ok (.iconst 1, 1) := by decide +kernel
theorem dX0_ringRow_98 : decode cX0_ringRow 98 = .ok (.iadd, 1) := by decide +kernel
theorem dX0_ringRow_99 : decode cX0_ringRow 99 = .ok (.iastore, 1) := by decide +kernel
theorem dX0_ringRow_100 : decode cX0_ringRow 100 = .ok (.iinc 4 1, 3) := by decide +kernel
theorem dX0_ringRow_103 : decode cX0_ringRow 103 = .ok (.goto (-71), 3) := by decide +kernel
theorem dX0_ringRow_106 : decode cX0_ringRow 106 = .ok (.iload_n 3, 1) := by decide +kernel
theorem dX0_ringRow_107 : decode cX0_ringRow 107 = .ok (.ireturn, 1) := by decide +kernel
theorem dX0_strike_0 : decode cX0_strike 0 = .ok (.iload_n 1, 1) := by decide +kernel
theorem dX0_strike_1 : decode cX0_strike 1 = .ok (.iconst 2, 1) := by decide +kernel
theorem dX0_strike_2 : decode cX0_strike 2 = .ok (.imul, 1) := by decide +kernel
theorem dX0_strike_3 : decode cX0_strike 3 = .ok (.istore_n 3, 1) := by decide +kernel
theorem dX0_strike_4 : decode cX0_strike 4 = .ok (.iload_n 3, 1) := by decide +kernel
theorem dX0_strike_5 : decode cX0_strike 5 = .ok (.istore 4, 2) := by decide +kernel
theorem dX0_strike_7 : decode cX0_strike 7 = .ok (.iload 4, 2) := by decide +kernel
theorem dX0_strike_9 : decode cX0_strike 9 = .ok (.iload_n 3, 1) := by decide +kernel
theorem dX0_strike_10 : decode cX0_strike 10 = .ok (.aload_n 2, 1) := by decide +kernel
theorem dX0_strike_11 : decode cX0_strike 11 = .ok (.getfield 65, 3) := by decide +kernel
theorem dX0_strike_14 : decode cX0_strike 14 = .ok (.iload_n 1, 1) := by decide +kernel
theorem dX0_strike_15 : decode cX0_strike 15 = .ok (.iaload, 1) := by decide +kernel
theorem dX0_strike_16 : decode cX0_strike 16 = .ok (.iadd, 1) := by decide +kernel
theorem dX0_strike_17 : decode cX0_strike 17 = .ok (.if_icmp .ge 43, 3) := by decide +kernel
theorem dX0_strike_20 : decode cX0_strike 20 = .ok (.aload_n 0, 1) := by decide +kernel
theorem dX0_strike_21 : decode cX0_strike 21 = .ok (.getfield 15, 3) := by decide +kernel
theorem dX0_strike_24 : decode cX0_strike 24 = .ok (.iload 4, 2) := by decide +kernel
theorem dX0_strike_26 : decode cX0_strike 26 = .ok (.iaload, 1) := by decide +kernel
theorem dX0_strike_27 : decode cX0_strike 27 = .ok (.aload_n 0, 1) := by decide +kernel
theorem dX0_strike_28 : decode cX0_strike 28 = .ok (.getfield 51, 3) := by decide +kernel
theorem dX0_strike_31 : decode cX0_strike 31 = .ok (.if_icmp .gt 23, 3) := by decide +kernel
theorem dX0_strike_34 : decode cX0_strike 34 = .ok (.aload_n 0, 1) := by decide +kernel
theorem dX0_strike_35 : decode cX0_strike 35 = .ok (.getfield 15, 3) := by decide +kernel
theorem dX0_strike_38 : decode cX0_strike 38 = .ok (.iload 4, 2) := by decide +kernel
theorem dX0_strike_40 : decode cX0_strike 40 = .ok (.aload_n 0, 1) := by decide +kernel
theorem dX0_strike_41 : decode cX0_strike 41 = .ok (.getfield 51, 3) := by decide +kernel
theorem dX0_strike_44 : decode cX0_strike 44 = .ok (.aload_n 2, 1) := by decide +kernel
theorem dX0_strike_45 : decode cX0_strike 45 = .ok (.getfield 68, 3) := by decide +kernel
theorem dX0_strike_48 : decode cX0_strike 48 = .ok (.iadd, 1) := by decide +kernel
theorem dX0_strike_49 : decode cX0_strike 49 = .ok (.iconst 1, 1) := by decide +kernel
theorem dX0_strike_50 : decode cX0_strike 50 = .ok (.iadd, 1) := by decide +kernel
theorem dX0_strike_51 : decode cX0_strike 51 = .ok (.iastore, 1) := by decide +kernel
theorem dX0_strike_52 : decode cX0_strike 52 = .ok (.iconst 1, 1) := by decide +kernel
theorem dX0_strike_53 : decode cX0_strike 53 = .ok (.ireturn, 1) := by decide +kernel
theorem dX0_strike_54 : decode cX0_strike 54 = .ok (.iinc 4 1, 3) := by decide +kernel
theorem dX0_strike_57 : decode cX0_strike 57 = .ok (.goto (-50), 3) := by decide +kernel
theorem dX0_strike_60 : decode cX0_strike 60 = .ok (.iconst 0, 1) := by decide +kernel
theorem dX0_strike_61 : decode cX0_strike 61 = .ok (.ireturn, 1) := by decide +kernel
theorem dX0_copy_0 : decode cX0_copy 0 = .ok (.aload_n 1, 1) := by decide +kernel
theorem dX0_copy_1 : decode cX0_copy 1 = .ok (.getfield 9, 3) := by decide +kernel
theorem dX0_copy_4 : decode cX0_copy 4 = .ok (.iconst 0, 1) := by decide +kernel
theorem dX0_copy_5 : decode cX0_copy 5 = .ok (.aload_n 0, 1) := by decide +kernel
theorem dX0_copy_6 : decode cX0_copy 6 = .ok (.getfield 9, 3) := by decide +kernel
theorem dX0_copy_9 : decode cX0_copy 9 = .ok (.iconst 0, 1) := by decide +kernel
theorem dX0_copy_10 : decode cX0_copy 10 = .ok (.aload_n 0, 1) := by decide +kernel
theorem dX0_copy_11 : decode cX0_copy 11 = .ok (.getfield 9, 3) := by decide +kernel
theorem dX0_copy_14 : decode cX0_copy 14 = .ok (.arraylength, 1) := by decide +kernel
theorem dX0_copy_15 : decode cX0_copy 15 = .ok (.invokestatic 39, 3) := by decide +kernel
theorem dX0_copy_18 : decode cX0_copy 18 = .ok (.aload_n 1, 1) := by decide +kernel
theorem dX0_copy_19 : decode cX0_copy 19 = .ok (.getfield 15, 3) := by decide +kernel
theorem dX0_copy_22 : decode cX0_copy 22 = .ok (.iconst 0, 1) := by decide +kernel
theorem dX0_copy_23 : decode cX0_copy 23 = .ok (.aload_n 0, 1) := by decide +kernel
theorem dX0_copy_24 : decode cX0_copy 24 = .ok (.getfield 15, 3) := by decide +kernel
theorem dX0_copy_27 : decode cX0_copy 27 = .ok (.iconst 0, 1) := by decide +kernel
theorem dX0_copy_28 : decode cX0_copy 28 = .ok (.aload_n 0, 1) := by decide +kernel
theorem dX0_copy_29 : decode cX0_copy 29 = .ok (.getfield 15, 3) := by decide +kernel
theorem dX0_copy_32 : decode cX0_copy 32 = .ok (.arraylength, 1) := by decide +kernel
theorem dX0_copy_33 : decode cX0_copy 33 = .ok (.invokestatic 39, 3) := by decide +kernel
theorem dX0_copy_36 : decode cX0_copy 36 = .ok (.aload_n 1, 1) := by decide +kernel
theorem dX0_copy_37 : decode cX0_copy 37 = .ok (.getfield 18, 3) := by decide +kernel
theorem dX0_copy_40 : decode cX0_copy 40 = .ok (.iconst 0, 1) := by decide +kernel
theorem dX0_copy_41 : decode cX0_copy 41 = .ok (.aload_n 0, 1) := by decide +kernel
theorem dX0_copy_42 : decode cX0_copy 42 = .ok (.getfield 18, 3) := by decide +kernel
theorem dX0_copy_45 : decode cX0_copy 45 = .ok (.iconst 0, 1) := by decide +kernel
theorem dX0_copy_46 : decode cX0_copy 46 = .ok (.aload_n 0, 1) := by decide +kernel
theorem dX0_copy_47 : decode cX0_copy 47 = .ok (.getfield 18, 3) := by decide +kernel
theorem dX0_copy_50 : decode cX0_copy 50 = .ok (.arraylength, 1) := by decide +kernel
theorem dX0_copy_51 : decode cX0_copy 51 = .ok (.invokestatic 39, 3) := by decide +kernel
theorem dX0_copy_54 : decode cX0_copy 54 = .ok (.aload_n 1, 1) := by decide +kernel
theorem dX0_copy_55 : decode cX0_copy 55 = .ok (.getfield 21, 3) := by decide +kernel
theorem dX0_copy_58 : decode cX0_copy 58 = .ok (.iconst 0, 1) := by decide +kernel
theorem dX0_copy_59 : decode cX0_copy 59 = .ok (.aload_n 0, 1) := by decide +kernel
theorem dX0_copy_60 : decode cX0_copy 60 = .ok (.getfield 21, 3) := by decide +kernel
theorem dX0_copy_63 : decode cX0_copy 63 = .ok (.iconst 0, 1) := by decide +kernel
theorem dX0_copy_64 : decode cX0_copy 64 = .ok (.aload_n 0, 1) := by decide +kernel
theorem dX0_copy_65 : decode cX0_copy 65 = .ok (.getfield 21, 3) := by decide +kernel
theorem dX0_copy_68 : decode cX0_copy 68 = .ok (.arraylength, 1) := by decide +kernel
theorem dX0_copy_69 : decode cX0_copy 69 = .ok (.invokestatic 39, 3) := by decide +kernel
theorem dX0_copy_72 : decode cX0_copy 72 = .ok (.aload_n 0, 1) := by decide +kernel
theorem dX0_copy_73 : decode cX0_copy 73 = .ok (.aload_n 1, 1) := by decide +kernel
theorem dX0_copy_74 : decode cX0_copy 74 = .ok (.getfield 48, 3) := by decide +kernel
theorem dX0_copy_77 : decode cX0_copy 77 = .ok (.putfield 48, 3) := by decide +kernel
theorem dX0_copy_80 : decode cX0_copy 80 = .ok (.aload_n 0, 1) := by decide +kernel
theorem dX0_copy_81 : decode cX0_copy 81 = .ok (.aload_n 1, 1) := by decide +kernel
theorem dX0_copy_82 : decode cX0_copy 82 = .ok (.getfield 51, 3) := by decide +kernel
theorem dX0_copy_85 : decode cX0_copy 85 = .ok (.putfield 51, 3) := by decide +kernel
theorem dX0_copy_88 : decode cX0_copy 88 = .ok (.return_, 1) := by decide +kernel
theorem dX0_saveTo_0 : decode cX0_saveTo 0 = .ok (.iload_n 2, 1) := by decide +kernel
theorem dX0_saveTo_1 : decode cX0_saveTo 1 = .ok (.ifCond .lt 12, 3) := by decide +kernel
theorem dX0_saveTo_4 : decode cX0_saveTo 4 = .ok (.iload_n 2, 1) := by decide +kernel
theorem dX0_saveTo_5 : decode cX0_saveTo 5 = .ok (.bipush 66, 2) := by decide +kernel
theorem dX0_saveTo_7 : decode cX0_saveTo 7 = .ok (.iadd, 1) := by decide +kernel
theorem dX0_saveTo_8 : decode cX0_saveTo 8 = .ok (.aload_n 1, 1) := by decide +kernel
theorem dX0_saveTo_9 : decode cX0_saveTo 9 = .ok (.arraylength, 1) := by decide +kernel
theorem dX0_saveTo_10 : decode cX0_saveTo 10 = .ok (.if_icmp .le 4, 3) := by decide +kernel
theorem dX0_saveTo_13 : decode cX0_saveTo 13 = .ok (.return_, 1) := by decide +kernel
theorem dX0_saveTo_14 : decode cX0_saveTo 14 = .ok (.iload_n 2, 1) := by decide +kernel
theorem dX0_saveTo_15 : decode cX0_saveTo 15 = .ok (.istore_n 3, 1) := by decide +kernel
theorem dX0_saveTo_16 : decode cX0_saveTo 16 = .ok (.aload_n 1, 1) := by decide +kernel
theorem dX0_saveTo_17 : decode cX0_saveTo 17 = .ok (.iload_n 3, 1) := by decide +kernel
theorem dX0_saveTo_18 : decode cX0_saveTo 18 = .ok (.iinc 3 1, 3) := by decide +kernel
theorem dX0_saveTo_21 : decode cX0_saveTo 21 = .ok (.aload_n 0, 1) := by decide +kernel
theorem dX0_saveTo_22 : decode cX0_saveTo 22 = .ok (.getfield 48, 3) := by decide +kernel
theorem dX0_saveTo_25 : decode cX0_saveTo 25 = .ok (.iastore, 1) := by decide +kernel
theorem dX0_saveTo_26 : decode cX0_saveTo 26 = .ok (.aload_n 1, 1) := by decide +kernel
theorem dX0_saveTo_27 : decode cX0_saveTo 27 = .ok (.iload_n 3, 1) := by decide +kernel
theorem dX0_saveTo_28 : decode cX0_saveTo 28 = .ok (.iinc 3 1, 3) := by decide +kernel
theorem dX0_saveTo_31 : decode cX0_saveTo 31 = .ok (.aload_n 0, 1) := by decide +kernel
theorem dX0_saveTo_32 : decode cX0_saveTo 32 = .ok (.getfield 51, 3) := by decide +kernel
theorem dX0_saveTo_35 : decode cX0_saveTo 35 = .ok (.iastore, 1) := by decide +kernel
theorem dX0_saveTo_36 : decode cX0_saveTo 36 = .ok (.aload_n 0, 1) := by decide +kernel
theorem dX0_saveTo_37 : decode cX0_saveTo 37 = .ok (.getfield 9, 3) := by decide +kernel
theorem dX0_saveTo_40 : decode cX0_saveTo 40 = .ok (.iconst 0, 1) := by decide +kernel
theorem dX0_saveTo_41 : decode cX0_saveTo 41 = .ok (.aload_n 1, 1) := by decide +kernel
theorem dX0_saveTo_42 : decode cX0_saveTo 42 = .ok (.iload_n 3, 1) := by decide +kernel
theorem dX0_saveTo_43 : decode cX0_saveTo 43 = .ok (.aload_n 0, 1) := by decide +kernel
theorem dX0_saveTo_44 : decode cX0_saveTo 44 = .ok (.getfield 9, 3) := by decide +kernel
theorem dX0_saveTo_47 : decode cX0_saveTo 47 = .ok (.arraylength, 1) := by decide +kernel
theorem dX0_saveTo_48 : decode cX0_saveTo 48 = .ok (.invokestatic 39, 3) := by decide +kernel
theorem dX0_saveTo_51 : decode cX0_saveTo 51 = .ok (.iload_n 3, 1) := by decide +kernel
theorem dX0_saveTo_52 : decode cX0_saveTo 52 = .ok (.aload_n 0, 1) := by decide +kernel
theorem dX0_saveTo_53 : decode cX0_saveTo 53 = .ok (.getfield 9, 3) := by decide +kernel
theorem dX0_saveTo_56 : decode cX0_saveTo 56 = .ok (.arraylength, 1) := by decide +kernel
theorem dX0_saveTo_57 : decode cX0_saveTo 57 = .ok (.iadd, 1) := by decide +kernel
theorem dX0_saveTo_58 : decode cX0_saveTo 58 = .ok (.istore_n 3, 1) := by decide +kernel
theorem dX0_saveTo_59 : decode cX0_saveTo 59 = .ok (.aload_n 0, 1) := by decide +kernel
theorem dX0_saveTo_60 : decode cX0_saveTo 60 = .ok (.getfield 15, 3) := by decide +kernel
theorem dX0_saveTo_63 : decode cX0_saveTo 63 = .ok (.iconst 0, 1) := by decide +kernel
theorem dX0_saveTo_64 : decode cX0_saveTo 64 = .ok (.aload_n 1, 1) := by decide +kernel
theorem dX0_saveTo_65 : decode cX0_saveTo 65 = .ok (.iload_n 3, 1) := by decide +kernel
theorem dX0_saveTo_66 : decode cX0_saveTo 66 = .ok (.aload_n 0, 1) := by decide +kernel
theorem dX0_saveTo_67 : decode cX0_saveTo 67 = .ok (.getfield 15, 3) := by decide +kernel
theorem dX0_saveTo_70 : decode cX0_saveTo 70 = .ok (.arraylength, 1) := by decide +kernel
theorem dX0_saveTo_71 : decode cX0_saveTo 71 = .ok (.invokestatic 39, 3) := by decide +kernel
theorem dX0_saveTo_74 : decode cX0_saveTo 74 = .ok (.iload_n 3, 1) := by decide +kernel
theorem dX0_saveTo_75 : decode cX0_saveTo 75 = .ok (.aload_n 0, 1) := by decide +kernel
theorem dX0_saveTo_76 : decode cX0_saveTo 76 = .ok (.getfield 15, 3) := by decide +kernel
theorem dX0_saveTo_79 : decode cX0_saveTo 79 = .ok (.arraylength, 1) := by decide +kernel
theorem dX0_saveTo_80 : decode cX0_saveTo 80 = .ok (.iadd, 1) := by decide +kernel
theorem dX0_saveTo_81 : decode cX0_saveTo 81 = .ok (.istore_n 3, 1) := by decide +kernel
theorem dX0_saveTo_82 : decode cX0_saveTo 82 = .ok (.aload_n 0, 1) := by decide +kernel
theorem dX0_saveTo_83 : decode cX0_saveTo 83 = .ok (.getfield 18, 3) := by decide +kernel
theorem dX0_saveTo_86 : decode cX0_saveTo 86 = .ok (.iconst 0, 1) := by decide +kernel
theorem dX0_saveTo_87 : decode cX0_saveTo 87 = .ok (.aload_n 1, 1) := by decide +kernel
theorem dX0_saveTo_88 : decode cX0_saveTo 88 = .ok (.iload_n 3, 1) := by decide +kernel
theorem dX0_saveTo_89 : decode cX0_saveTo 89 = .ok (.aload_n 0, 1) := by decide +kernel
theorem dX0_saveTo_90 : decode cX0_saveTo 90 = .ok (.getfield 18, 3) := by decide +kernel
theorem dX0_saveTo_93 : decode cX0_saveTo 93 = .ok (.arraylength, 1) := by decide +kernel
theorem dX0_saveTo_94 : decode cX0_saveTo 94 = .ok (.invokestatic 39, 3) := by decide +kernel
theorem dX0_saveTo_97 : decode cX0_saveTo 97 = .ok (.iload_n 3, 1) := by decide +kernel
theorem dX0_saveTo_98 : decode cX0_saveTo 98 = .ok (.aload_n 0, 1) := by decide +kernel
theorem dX0_saveTo_99 : decode cX0_saveTo 99 = .ok (.getfield 18, 3) := by decide +kernel
theorem dX0_saveTo_102 : decode cX0_saveTo 102 = .ok (.arraylength, 1) := by decide +kernel
theorem dX0_saveTo_103 : decode cX0_saveTo 103 = .ok (.iadd, 1) := by decide +kernel
theorem dX0_saveTo_104 : decode cX0_saveTo 104 = .ok (.istore_n 3, 1) := by decide +kernel
theorem dX0_saveTo_105 : decode cX0_saveTo 105 = .ok (.aload_n 0, 1) := by decide +kernel
theorem dX0_saveTo_106 : decode cX0_saveTo 106 = .ok (.getfield 21, 3) := by decide +kernel
theorem dX0_saveTo_109 : decode cX0_saveTo 109 = .ok (.iconst 0, 1) := by decide +kernel
theorem dX0_saveTo_110 : decode cX0_saveTo 110 = .ok (.aload_n 1, 1) := by decide +kernel
theorem dX0_saveTo_111 : decode cX0_saveTo 111 = .ok (.iload_n 3, 1) := by decide +kernel
theorem dX0_saveTo_112 : decode cX0_saveTo 112 = .ok (.aload_n 0, 1) := by decide +kernel
theorem dX0_saveTo_113 : decode cX0_saveTo 113 = .ok (.getfield 21, 3) := by decide +kernel
theorem dX0_saveTo_116 : decode cX0_saveTo 116 = .ok (.arraylength, 1) := by decide +kernel
theorem dX0_saveTo_117 : decode cX0_saveTo 117 = .ok (.invokestatic 39, 3) := by decide +kernel
theorem dX0_saveTo_120 : decode cX0_saveTo 120 = .ok (.return_, 1) := by decide +kernel
theorem dX0_loadFrom_0 : decode cX0_loadFrom 0 = .ok (.iload_n 2, 1) := by decide +kernel
theorem dX0_loadFrom_1 : decode cX0_loadFrom 1 = .ok (.ifCond .lt 12, 3) := by decide +kernel
theorem dX0_loadFrom_4 : decode cX0_loadFrom 4 = .ok (.iload_n 2, 1) := by decide +kernel
theorem dX0_loadFrom_5 : decode cX0_loadFrom 5 = .ok (.bipush 66, 2) := by decide +kernel
theorem dX0_loadFrom_7 : decode cX0_loadFrom 7 = .ok (.iadd, 1) := by decide +kernel
theorem dX0_loadFrom_8 : decode cX0_loadFrom 8 = .ok (.aload_n 1, 1) := by decide +kernel
theorem dX0_loadFrom_9 : decode cX0_loadFrom 9 = .ok (.arraylength, 1) := by decide +kernel
theorem dX0_loadFrom_10 : decode cX0_loadFrom 10 = .ok (.if_icmp .le 4, 3) := by decide +kernel
theorem dX0_loadFrom_13 : decode cX0_loadFrom 13 = .ok (.return_, 1) := by decide +kernel
theorem dX0_loadFrom_14 : decode cX0_loadFrom 14 = .ok (.iload_n 2, 1) := by decide +kernel
theorem dX0_loadFrom_15 : decode cX0_loadFrom 15 = .ok (.istore_n 3, 1) := by decide +kernel
theorem dX0_loadFrom_16 : decode cX0_loadFrom 16 = .ok (.aload_n 0, 1) := by decide +kernel
theorem dX0_loadFrom_17 : decode cX0_loadFrom 17 = .ok (.aload_n 1, 1) := by decide +kernel
theorem dX0_loadFrom_18 : decode cX0_loadFrom 18 = .ok (.iload_n 3, 1) := by decide +kernel
theorem dX0_loadFrom_19 : decode cX0_loadFrom 19 = .ok (.iinc 3 1, 3) := by decide +kernel
theorem dX0_loadFrom_22 : decode cX0_loadFrom 22 = .ok (.iaload, 1) := by decide +kernel
theorem dX0_loadFrom_23 : decode cX0_loadFrom 23 = .ok (.putfield 48, 3) := by decide +kernel
theorem dX0_loadFrom_26 : decode cX0_loadFrom 26 = .ok (.aload_n 0, 1) := by decide +kernel
theorem dX0_loadFrom_27 : decode cX0_loadFrom 27 = .ok (.aload_n 1, 1) := by decide +kernel
theorem dX0_loadFrom_28 : decode cX0_loadFrom 28 = .ok (.iload_n 3, 1) := by decide +kernel
theorem dX0_loadFrom_29 : decode cX0_loadFrom 29 = .ok (.iinc 3 1, 3) := by decide +kernel
theorem dX0_loadFrom_32 : decode cX0_loadFrom 32 = .ok (.iaload, 1) := by decide +kernel
theorem dX0_loadFrom_33 : decode cX0_loadFrom 33 = .ok (.putfield 51, 3) := by decide +kernel
theorem dX0_loadFrom_36 : decode cX0_loadFrom 36 = .ok (.aload_n 1, 1) := by decide +kernel
theorem dX0_loadFrom_37 : decode cX0_loadFrom 37 = .ok (.iload_n 3, 1) := by decide +kernel
theorem dX0_loadFrom_38 : decode cX0_loadFrom 38 = .ok (.aload_n 0, 1) := by decide +kernel
theorem dX0_loadFrom_39 : decode cX0_loadFrom 39 = .ok (.getfield 9, 3) := by decide +kernel
theorem dX0_loadFrom_42 : decode cX0_loadFrom 42 = .ok (.iconst 0, 1) := by decide +kernel
theorem dX0_loadFrom_43 : decode cX0_loadFrom 43 = .ok (.aload_n 0, 1) := by decide +kernel
theorem dX0_loadFrom_44 : decode cX0_loadFrom 44 = .ok (.getfield 9, 3) := by decide +kernel
theorem dX0_loadFrom_47 : decode cX0_loadFrom 47 = .ok (.arraylength, 1) := by decide +kernel
theorem dX0_loadFrom_48 : decode cX0_loadFrom 48 = .ok (.invokestatic 39, 3) := by decide +kernel
theorem dX0_loadFrom_51 : decode cX0_loadFrom 51 = .ok (.iload_n 3, 1) := by decide +kernel
theorem dX0_loadFrom_52 : decode cX0_loadFrom 52 = .ok (.aload_n 0, 1) := by decide +kernel
theorem dX0_loadFrom_53 : decode cX0_loadFrom 53 = .ok (.getfield 9, 3) := by decide +kernel
theorem dX0_loadFrom_56 : decode cX0_loadFrom 56 = .ok (.arraylength, 1) := by decide +kernel
theorem dX0_loadFrom_57 : decode cX0_loadFrom 57 = .ok (.iadd, 1) := by decide +kernel
theorem dX0_loadFrom_58 : decode cX0_loadFrom 58 = .ok (.istore_n 3, 1) := by decide +kernel
theorem dX0_loadFrom_59 : decode cX0_loadFrom 59 = .ok (.aload_n 1, 1) := by decide +kernel
theorem dX0_loadFrom_60 : decode cX0_loadFrom 60 = .ok (.iload_n 3, 1) := by decide +kernel
theorem dX0_loadFrom_61 : decode cX0_loadFrom 61 = .ok (.aload_n 0, 1) := by decide +kernel
theorem dX0_loadFrom_62 : decode cX0_loadFrom 62 = .ok (.getfield 15, 3) := by decide +kernel
theorem dX0_loadFrom_65 : decode cX0_loadFrom 65 = .ok (.iconst 0, 1) := by decide +kernel
theorem dX0_loadFrom_66 : decode cX0_loadFrom 66 = .ok (.aload_n 0, 1) := by decide +kernel
theorem dX0_loadFrom_67 : decode cX0_loadFrom 67 = .ok (.getfield 15, 3) := by decide +kernel
theorem dX0_loadFrom_70 : decode cX0_loadFrom 70 = .ok (.arraylength, 1) := by decide +kernel
theorem dX0_loadFrom_71 : decode cX0_loadFrom 71 = .ok (.invokestatic 39, 3) := by decide +kernel
theorem dX0_loadFrom_74 : decode cX0_loadFrom 74 = .ok (.iload_n 3, 1) := by decide +kernel
theorem dX0_loadFrom_75 : decode cX0_loadFrom 75 = .ok (.aload_n 0, 1) := by decide +kernel
theorem dX0_loadFrom_76 : decode cX0_loadFrom 76 = .ok (.getfield 15, 3) := by decide +kernel
theorem dX0_loadFrom_79 : decode cX0_loadFrom 79 = .ok (.arraylength, 1) := by decide +kernel
theorem dX0_loadFrom_80 : decode cX0_loadFrom 80 = .ok (.iadd, 1) := by decide +kernel
theorem dX0_loadFrom_81 : decode cX0_loadFrom 81 = .ok (.istore_n 3, 1) := by decide +kernel
theorem dX0_loadFrom_82 : decode cX0_loadFrom 82 = .ok (.aload_n 1, 1) := by decide +kernel
theorem dX0_loadFrom_83 : decode cX0_loadFrom 83 = .ok (.iload_n 3, 1) := by decide +kernel
theorem dX0_loadFrom_84 : decode cX0_loadFrom 84 = .ok (.aload_n 0, 1) := by decide +kernel
theorem dX0_loadFrom_85 : decode cX0_loadFrom 85 = .ok (.getfield 18, 3) := by decide +kernel
theorem dX0_loadFrom_88 : decode cX0_loadFrom 88 = .ok (.iconst 0, 1) := by decide +kernel
theorem dX0_loadFrom_89 : decode cX0_loadFrom 89 = .ok (.aload_n 0, 1) := by decide +kernel
theorem dX0_loadFrom_90 : decode cX0_loadFrom 90 = .ok (.getfield 18, 3) := by decide +kernel
theorem dX0_loadFrom_93 : decode cX0_loadFrom 93 = .ok (.arraylength, 1) := by decide +kernel
theorem dX0_loadFrom_94 : decode cX0_loadFrom 94 = .ok (.invokestatic 39, 3) := by decide +kernel
theorem dX0_loadFrom_97 : decode cX0_loadFrom 97 = .ok (.iload_n 3, 1) := by decide +kernel
theorem dX0_loadFrom_98 : decode cX0_loadFrom 98 = .ok (.aload_n 0, 1) := by decide +kernel
theorem dX0_loadFrom_99 : decode cX0_loadFrom 99 = .ok (.getfield 18, 3) := by decide +kernel
theorem dX0_loadFrom_102 : decode cX0_loadFrom 102 = .ok (.arraylength, 1) := by decide +kernel
theorem dX0_loadFrom_103 : decode cX0_loadFrom 103 = .ok (.iadd, 1) := by decide +kernel
theorem dX0_loadFrom_104 : decode cX0_loadFrom 104 = .ok (.istore_n 3, 1) := by decide +kernel
theorem dX0_loadFrom_105 : decode cX0_loadFrom 105 = .ok (.aload_n 1, 1) := by decide +kernel
theorem dX0_loadFrom_106 : decode cX0_loadFrom 106 = .ok (.iload_n 3, 1) := by decide +kernel
theorem dX0_loadFrom_107 : decode cX0_loadFrom 107 = .ok (.aload_n 0, 1) := by decide +kernel
theorem dX0_loadFrom_108 : decode cX0_loadFrom 108 = .ok (.getfield 21, 3) := by decide +kernel
theorem dX0_loadFrom_111 : decode cX0_loadFrom 111 = .ok (.iconst 0, 1) := by decide +kernel
theorem dX0_loadFrom_112 : decode cX0_loadFrom 112 = .ok (.aload_n 0, 1) := by decide +kernel
theorem dX0_loadFrom_113 : decode cX0_loadFrom 113 = .ok (.getfield 21, 3) := by decide +kernel
theorem dX0_loadFrom_116 : decode cX0_loadFrom 116 = .ok (.arraylength, 1) := by decide +kernel
theorem dX0_loadFrom_117 : decode cX0_loadFrom 117 = .ok (.invokestatic 39, 3) := by decide +kernel
theorem dX0_loadFrom_120 : decode cX0_loadFrom 120 = .ok (.return_, 1) := by decide +kernel
theorem dX1_init_0 : decode cX1_init 0 = .ok (.aload_n 0, 1) := by decide +kernel
theorem dX1_init_1 : decode cX1_init 1 = .ok (.invokespecial 3, 3) := by decide +kernel
theorem dX1_init_4 : decode cX1_init 4 = .ok (.aload_n 0, 1) := by decide +kernel
theorem dX1_init_5 : decode cX1_init 5 = .ok (.bipush 8, 2) := by decide +kernel
theorem dX1_init_7 : decode cX1_init 7 = .ok (.newarray .int, 2) := by decide +kernel
theorem dX1_init_9 : decode cX1_init 9 = .ok (.putfield 9, 3) := by decide +kernel
theorem dX1_init_12 : decode cX1_init 12 = .ok (.aload_n 0, 1) := by decide +kernel
theorem dX1_init_13 : decode cX1_init 13 = .ok (.bipush 8, 2) := by decide +kernel
theorem dX1_init_15 : decode cX1_init 15 = .ok (.newarray .int, 2) := by decide +kernel
theorem dX1_init_17 : decode cX1_init 17 = .ok (.putfield 15, 3) := by decide +kernel
theorem dX1_init_20 : decode cX1_init 20 = .ok (.return_, 1) := by decide +kernel
theorem dX1_fewestPeople_0 : decode cX1_fewestPeople 0 = .ok (.aload_n 0, 1) := by decide +kernel
theorem dX1_fewestPeople_1 : decode cX1_fewestPeople 1 = .ok (.aload_n 2, 1) := by decide +kernel
theorem dX1_fewestPeople_2 : decode cX1_fewestPeople 2 = .ok (.getfield 18, 3) := by decide +kernel
theorem dX1_fewestPeople_5 : decode cX1_fewestPeople 5 = .ok (.putfield 24, 3) := by decide +kernel
theorem dX1_fewestPeople_8 : decode cX1_fewestPeople 8 = .ok (.aload_n 0, 1) := by decide +kernel
theorem dX1_fewestPeople_9 : decode cX1_fewestPeople 9 = .ok (.aload_n 0, 1) := by decide +kernel
theorem dX1_fewestPeople_10 : decode cX1_fewestPeople 10 = .ok (.getfield 24, 3) := by decide +kernel
theorem dX1_fewestPeople_13 : decode cX1_fewestPeople 13 = .ok (.putfield 25, 3) := by decide +kernel
theorem dX1_fewestPeople_16 : decode cX1_fewestPeople 16 = .ok (.aload_n 0, 1) := by decide +kernel
theorem dX1_fewestPeople_17 : decode cX1_fewestPeople 17 = .ok (.getfield 9, 3) := by decide +kernel
theorem dX1_fewestPeople_20 : decode cX1_fewestPeople 20 = .ok (.iconst 0, 1) := by decide +kernel
theorem dX1_fewestPeople_21 : decode cX1_fewestPeople 21 = .ok (.invokestatic 28, 3) := by decide +kernel
theorem dX1_fewestPeople_24 : decode cX1_fewestPeople 24 = .ok (.aload_n 0, 1) := by decide +kernel
theorem dX1_fewestPeople_25 : decode cX1_fewestPeople 25 = .ok (.getfield 15, 3) := by decide +kernel
theorem dX1_fewestPeople_28 : decode cX1_fewestPeople 28 = .ok (.iconst 0, 1) := by decide +kernel
theorem dX1_fewestPeople_29 : decode cX1_fewestPeople 29 = .ok (.invokestatic 28, 3) := by decide +kernel
theorem dX1_fewestPeople_32 : decode cX1_fewestPeople 32 = .ok (.iconst 0, 1) := by decide +kernel
theorem dX1_fewestPeople_33 : decode cX1_fewestPeople 33 = .ok (.istore_n 3, 1) := by decide +kernel
theorem dX1_fewestPeople_34 : decode cX1_fewestPeople 34 = .ok (.iload_n 3, 1) := by decide +kernel
theorem dX1_fewestPeople_35 : decode cX1_fewestPeople 35 = .ok (.aload_n 2, 1) := by decide +kernel
theorem dX1_fewestPeople_36 : decode cX1_fewestPeople 36 = .ok (.getfield 34, 3) := by decide +kernel
theorem dX1_fewestPeople_39 : decode cX1_fewestPeople 39 = .ok (.if_icmp .ge 59, 3) := by decide +kernel
theorem dX1_fewestPeople_42 : decode cX1_fewestPeople 42 = .ok (.iconst 0, 1) := by decide +kernel
theorem dX1_fewestPeople_43 : decode cX1_fewestPeople 43 = .ok (.istore 4, 2) := by decide +kernel
theorem dX1_fewestPeople_45 : decode cX1_fewestPeople 45 = .ok (.iload 4, 2) := by decide +kernel
theorem dX1_fewestPeople_47 : decode cX1_fewestPeople 47 = .ok (.aload_n 0, 1) := by decide +kernel
theorem dX1_fewestPeople_48 : decode cX1_fewestPeople 48 = .ok (.getfield 24, 3) := by decide +kernel
theorem dX1_fewestPeople_51 : decode cX1_fewestPeople 51 = .ok (.if_icmp .ge 41, 3) := by decide +kernel
theorem dX1_fewestPeople_54 : decode cX1_fewestPeople 54 = .ok (.aload_n 1, 1) := by decide +kernel
theorem dX1_fewestPeople_55 : decode cX1_fewestPeople 55 = .ok (.iload_n 3, 1) := by decide +kernel
theorem dX1_fewestPeople_56 : decode cX1_fewestPeople 56 = .ok (.iaload, 1) := by decide +kernel
theorem dX1_fewestPeople_57 : decode cX1_fewestPeople 57 = .ok (.iload 4, 2) := by decide +kernel
theorem dX1_fewestPeople_59 : decode cX1_fewestPeople 59 = .ok (.ishr, 1) := by decide +kernel
theorem dX1_fewestPeople_60 : decode cX1_fewestPeople 60 = .ok (.iconst 1, 1) := by decide +kernel
theorem dX1_fewestPeople_61 : decode cX1_fewestPeople 61 = .ok (.iand, 1) := by decide +kernel
theorem dX1_fewestPeople_62 : decode cX1_fewestPeople 62 = .ok (.iconst 1, 1) := by decide +kernel
theorem dX1_fewestPeople_63 : decode cX1_fewestPeople 63 = .ok (.if_icmp .ne 23, 3) := by decide +kernel
theorem dX1_fewestPeople_66 : decode cX1_fewestPeople 66 = .ok (.aload_n 0, 1) := by decide +kernel
theorem dX1_fewestPeople_67 : decode cX1_fewestPeople 67 = .ok (.getfield 9, 3) := by decide +kernel
theorem dX1_fewestPeople_70 : decode cX1_fewestPeople 70 = .ok (.iload 4, 2) := by decide +kernel
theorem dX1_fewestPeople_72 : decode cX1_fewestPeople 72 = .ok (.dup2, 1) := by decide +kernel
theorem dX1_fewestPeople_73 : decode cX1_fewestPeople 73 = .ok (.iaload, 1) := by decide +kernel
theorem dX1_fewestPeople_74 : decode cX1_fewestPeople 74 = .ok (.aload_n 1, 1) := by decide +kernel
theorem dX1_fewestPeople_75 : decode cX1_fewestPeople 75 = .ok (.iload_n 3, 1) := by decide +kernel
theorem dX1_fewestPeople_76 : decode cX1_fewestPeople 76 = .ok (.iaload, 1) := by decide +kernel
theorem dX1_fewestPeople_77 : decode cX1_fewestPeople 77 = .ok (.iconst 1, 1) := by decide +kernel
theorem dX1_fewestPeople_78 : decode cX1_fewestPeople 78 = .ok (.iload 4, 2) := by decide +kernel
theorem dX1_fewestPeople_80 : decode cX1_fewestPeople 80 = .ok (.ishl, 1) := by decide +kernel
theorem dX1_fewestPeople_81 : decode cX1_fewestPeople 81 = .ok (.iconst (-1), 1) := by decide +kernel
theorem dX1_fewestPeople_82 : decode cX1_fewestPeople 82 = .ok (.ixor, 1) := by decide +kernel
theorem dX1_fewestPeople_83 : decode cX1_fewestPeople 83 = .ok (.iand, 1) := by decide +kernel
theorem dX1_fewestPeople_84 : decode cX1_fewestPeople 84 = .ok (.ior, 1) := by decide +kernel
theorem dX1_fewestPeople_85 : decode cX1_fewestPeople 85 = .ok (.iastore, 1) := by decide +kernel
theorem dX1_fewestPeople_86 : decode cX1_fewestPeople 86 = .ok (.iinc 4 1, 3) := by decide +kernel
theorem dX1_fewestPeople_89 : decode cX1_fewestPeople 89 = .ok (.goto (-44), 3) := by decide +kernel
theorem dX1_fewestPeople_92 : decode cX1_fewestPeople 92 = .ok (.iinc 3 1, 3) := by decide +kernel
theorem dX1_fewestPeople_95 : decode cX1_fewestPeople 95 = .ok (.goto (-61), 3) := by decide +kernel
theorem dX1_fewestPeople_98 : decode cX1_fewestPeople 98 = .ok (.aload_n 0, 1) := by decide +kernel
theorem dX1_fewestPeople_99 : decode cX1_fewestPeople 99 = .ok (.iconst 0, 1) := by decide +kernel
theorem dX1_fewestPeople_100 : decode cX1_fewestPeople 100 = .ok (.iconst 0, 1) := by decide +kernel
theorem dX1_fewestPeople_101 : decode cX1_fewestPeople 101 = .ok (.invokevirtual 37, 3) := by decide +kernel
theorem dX1_fewestPeople_104 : decode cX1_fewestPeople 104 = .ok (.aload_n 0, 1) := by decide +kernel
theorem dX1_fewestPeople_105 : decode cX1_fewestPeople 105 = .ok (.getfield 25, 3) := by decide +kernel
theorem dX1_fewestPeople_108 : decode cX1_fewestPeople 108 = .ok (.ireturn, 1) := by decide +kernel
theorem dX1_partFrom_0 : decode cX1_partFrom 0 = .ok (.iload_n 2, 1) := by decide +kernel
theorem dX1_partFrom_1 : decode cX1_partFrom 1 = .ok (.aload_n 0, 1) := by decide +kernel
theorem dX1_partFrom_2 : decode cX1_partFrom 2 = .ok (.getfield 25, 3) := by decide +kernel
theorem dX1_partFrom_5 : decode cX1_partFrom 5 = .ok (.if_icmp .lt 4, 3) := by decide +kernel
theorem dX1_partFrom_8 : decode cX1_partFrom 8 = .ok (.return_, 1) := by decide +kernel
theorem dX1_partFrom_9 : decode cX1_partFrom 9 = .ok (.iload_n 1, 1) := by decide +kernel
theorem dX1_partFrom_10 : decode cX1_partFrom 10 = .ok (.aload_n 0, 1) := by decide +kernel
theorem dX1_partFrom_11 : decode cX1_partFrom 11 = .ok (.getfield 24, 3) := by decide +kernel
theorem dX1_partFrom_14 : decode cX1_partFrom 14 = .ok (.if_icmp .ge 9, 3) := by decide +kernel
theorem dX1_partFrom_17 : decode cX1_partFrom 17 = .ok (.iload_n 1, 1) := by decide +kernel
theorem dX1_partFrom_18 : decode cX1_partFrom 18 = .ok (.bipush 8, 2) := by decide +kernel
theorem dX1_partFrom_20 : decode cX1_partFrom 20 = .ok (.if_icmp .lt 9, 3) := by decide +kernel
theorem dX1_partFrom_23 : decode cX1_partFrom 23 = .ok (.aload_n 0, 1) := by decide +kernel
theorem dX1_partFrom_24 : decode cX1_partFrom 24 = .ok (.iload_n 2, 1) := by decide +kernel
theorem dX1_partFrom_25 : decode cX1_partFrom 25 = .ok (.putfield 25, 3) := by decide +kernel
theorem dX1_partFrom_28 : decode cX1_partFrom 28 = .ok (.return_, 1) := by decide +kernel
theorem dX1_partFrom_29 : decode cX1_partFrom 29 = .ok (.iconst 0, 1) := by decide +kernel
theorem dX1_partFrom_30 : decode cX1_partFrom 30 = .ok (.istore_n 3, 1) := by decide +kernel
theorem dX1_partFrom_31 : decode cX1_partFrom 31 = .ok (.iload_n 3, 1) := by decide +kernel
theorem dX1_partFrom_32 : decode cX1_partFrom 32 = .ok (.iload_n 2, 1) := by decide +kernel
theorem dX1_partFrom_33 : decode cX1_partFrom 33 = .ok (.if_icmp .gt 71, 3) := by decide +kernel
theorem dX1_partFrom_36 : decode cX1_partFrom 36 = .ok (.iload_n 3, 1) := by decide +kernel
theorem dX1_partFrom_37 : decode cX1_partFrom 37 = .ok (.bipush 8, 2) := by decide +kernel
theorem dX1_partFrom_39 : decode cX1_partFrom 39 = .ok (.if_icmp .ge 65, 3) := by decide +kernel
theorem dX1_partFrom_42 : decode cX1_partFrom 42 = .ok (.aload_n 0, 1) := by decide +kernel
theorem dX1_partFrom_43 : decode cX1_partFrom 43 = .ok (.getfield 15, 3) := by decide +kernel
theorem dX1_partFrom_46 : decode cX1_partFrom 46 = .ok (.iload_n 3, 1) := by decide +kernel
theorem dX1_partFrom_47 : decode cX1_partFrom 47 = .ok (.iaload, 1) := by decide +kernel
theorem dX1_partFrom_48 : decode cX1_partFrom 48 = .ok (.aload_n 0, 1) := by decide +kernel
theorem dX1_partFrom_49 : decode cX1_partFrom 49 = .ok (.getfield 9, 3) := by decide +kernel
theorem dX1_partFrom_52 : decode cX1_partFrom 52 = .ok (.iload_n 1, 1) := by decide +kernel
theorem dX1_partFrom_53 : decode cX1_partFrom 53 = .ok (.iaload, 1) := by decide +kernel
theorem dX1_partFrom_54 : decode cX1_partFrom 54 = .ok (.iand, 1) := by decide +kernel
theorem dX1_partFrom_55 : decode cX1_partFrom 55 = .ok (.ifCond .ne 43, 3) := by decide +kernel
theorem dX1_partFrom_58 : decode cX1_partFrom 58 = .ok (.aload_n 0, 1) := by decide +kernel
theorem dX1_partFrom_59 : decode cX1_partFrom 59 = .ok (.getfield 15, 3) := by decide +kernel
theorem dX1_partFrom_62 : decode cX1_partFrom 62 = .ok (.iload_n 3, 1) := by decide +kernel
theorem dX1_partFrom_63 : decode cX1_partFrom 63 = .ok (.dup2, 1) := by decide +kernel
theorem dX1_partFrom_64 : decode cX1_partFrom 64 = .ok (.iaload, 1) := by decide +kernel
theorem dX1_partFrom_65 : decode cX1_partFrom 65 = .ok (.iconst 1, 1) := by decide +kernel
theorem dX1_partFrom_66 : decode cX1_partFrom 66 = .ok (.iload_n 1, 1) := by decide +kernel
theorem dX1_partFrom_67 : decode cX1_partFrom 67 = .ok (.ishl, 1) := by decide +kernel
theorem dX1_partFrom_68 : decode cX1_partFrom 68 = .ok (.ior, 1) := by decide +kernel
theorem dX1_partFrom_69 : decode cX1_partFrom 69 = .ok (.iastore, 1) := by decide +kernel
theorem dX1_partFrom_70 : decode cX1_partFrom 70 = .ok (.aload_n 0, 1) := by decide +kernel
theorem dX1_partFrom_71 : decode cX1_partFrom 71 = .ok (.iload_n 1, 1) := by decide +kernel
theorem dX1_partFrom_72 : decode cX1_partFrom 72 = .ok (.iconst 1, 1) := by decide +kernel
theorem dX1_partFrom_73 : decode cX1_partFrom 73 = .ok (.iadd, 1) := by decide +kernel
theorem dX1_partFrom_74 : decode cX1_partFrom 74 = .ok (.iload_n 2, 1) := by decide +kernel
theorem dX1_partFrom_75 : decode cX1_partFrom 75 = .ok (.iload_n 3, 1) := by decide +kernel
theorem dX1_partFrom_76 : decode cX1_partFrom 76 = .ok (.iconst 1, 1) := by decide +kernel
theorem dX1_partFrom_77 : decode cX1_partFrom 77 = .ok (.iadd, 1) := by decide +kernel
theorem dX1_partFrom_78 : decode cX1_partFrom 78 = .ok (.invokestatic 41, 3) := by decide +kernel
theorem dX1_partFrom_81 : decode cX1_partFrom 81 = .ok (.invokevirtual 37, 3) := by decide +kernel
theorem dX1_partFrom_84 : decode cX1_partFrom 84 = .ok (.aload_n 0, 1) := by decide +kernel
theorem dX1_partFrom_85 : decode cX1_partFrom 85 = .ok (.getfield 15, 3) := by decide +kernel
theorem dX1_partFrom_88 : decode cX1_partFrom 88 = .ok (.iload_n 3, 1) := by decide +kernel
theorem dX1_partFrom_89 : decode cX1_partFrom 89 = .ok (.dup2, 1) := by decide +kernel
theorem dX1_partFrom_90 : decode cX1_partFrom 90 = .ok (.iaload, 1) := by decide +kernel
theorem dX1_partFrom_91 : decode cX1_partFrom 91 = .ok (.iconst 1, 1) := by decide +kernel
theorem dX1_partFrom_92 : decode cX1_partFrom 92 = .ok (.iload_n 1, 1) := by decide +kernel
theorem dX1_partFrom_93 : decode cX1_partFrom 93 = .ok (.ishl, 1) := by decide +kernel
theorem dX1_partFrom_94 : decode cX1_partFrom 94 = .ok (.iconst (-1), 1) := by decide +kernel
theorem dX1_partFrom_95 : decode cX1_partFrom 95 = .ok (.ixor, 1) := by decide +kernel
theorem dX1_partFrom_96 : decode cX1_partFrom 96 = .ok (.iand, 1) := by decide +kernel
theorem dX1_partFrom_97 : decode cX1_partFrom 97 = .ok (.iastore, 1) := by decide +kernel
theorem dX1_partFrom_98 : decode cX1_partFrom 98 = .ok (.iinc 3 1, 3) := by decide +kernel
theorem dX1_partFrom_101 : decode cX1_partFrom 101 = .ok (.goto (-70), 3) := by decide +kernel
theorem dX1_partFrom_104 : decode cX1_partFrom 104 = .ok (.return_, 1) := by decide +kernel
theorem dX2_init_0 : decode cX2_init 0 = .ok (.aload_n 0, 1) := by decide +kernel
theorem dX2_init_1 : decode cX2_init 1 = .ok (.invokespecial 1, 3) := by decide +kernel
theorem dX2_init_4 : decode cX2_init 4 = .ok (.aload_n 0, 1) := by decide +kernel
theorem dX2_init_5 : decode cX2_init 5 = .ok (.iload_n 1, 1) := by decide +kernel
theorem dX2_init_6 : decode cX2_init 6 = .ok (.iconst 1, 1) := by decide +kernel
theorem dX2_init_7 : decode cX2_init 7 = .ok (.invokestatic 7, 3) := by decide +kernel
theorem dX2_init_10 : decode cX2_init 10 = .ok (.putfield 13, 3) := by decide +kernel
theorem dX2_init_13 : decode cX2_init 13 = .ok (.aload_n 0, 1) := by decide +kernel
theorem dX2_init_14 : decode cX2_init 14 = .ok (.aload_n 0, 1) := by decide +kernel
theorem dX2_init_15 : decode cX2_init 15 = .ok (.getfield 13, 3) := by decide +kernel
theorem dX2_init_18 : decode cX2_init 18 = .ok (.bipush 66, 2) := by decide +kernel
theorem dX2_init_20 : decode cX2_init 20 = .ok (.imul, 1) := by decide +kernel
theorem dX2_init_21 : decode cX2_init 21 = .ok (.newarray .int, 2) := by decide +kernel
theorem dX2_init_23 : decode cX2_init 23 = .ok (.putfield 21, 3) := by decide +kernel
theorem dX2_init_26 : decode cX2_init 26 = .ok (.return_, 1) := by decide +kernel
theorem dX2_clear_0 : decode cX2_clear 0 = .ok (.aload_n 0, 1) := by decide +kernel
theorem dX2_clear_1 : decode cX2_clear 1 = .ok (.iconst 0, 1) := by decide +kernel
theorem dX2_clear_2 : decode cX2_clear 2 = .ok (.putfield 25, 3) := by decide +kernel
theorem dX2_clear_5 : decode cX2_clear 5 = .ok (.return_, 1) := by decide +kernel
theorem dX2_put_0 : decode cX2_put 0 = .ok (.aload_n 1, 1) := by decide +kernel
theorem dX2_put_1 : decode cX2_put 1 = .ok (.aload_n 0, 1) := by decide +kernel
theorem dX2_put_2 : decode cX2_put 2 = .ok (.getfield 21, 3) := by decide +kernel
theorem dX2_put_5 : decode cX2_put 5 = .ok (.aload_n 0, 1) := by decide +kernel
theorem dX2_put_6 : decode cX2_put 6 = .ok (.getfield 28, 3) := by decide +kernel
theorem dX2_put_9 : decode cX2_put 9 = .ok (.bipush 66, 2) := by decide +kernel
theorem dX2_put_11 : decode cX2_put 11 = .ok (.imul, 1) := by decide +kernel
theorem dX2_put_12 : decode cX2_put 12 = .ok (.invokevirtual 31, 3) := by decide +kernel
theorem dX2_put_15 : decode cX2_put 15 = .ok (.aload_n 0, 1) := by decide +kernel
theorem dX2_put_16 : decode cX2_put 16 = .ok (.aload_n 0, 1) := by decide +kernel
theorem dX2_put_17 : decode cX2_put 17 = .ok (.getfield 28, 3) := by decide +kernel
theorem dX2_put_20 : decode cX2_put 20 = .ok (.iconst 1, 1) := by decide +kernel
theorem dX2_put_21 : decode cX2_put 21 = .ok (.iadd, 1) := by decide +kernel
theorem dX2_put_22 : decode cX2_put 22 = .ok (.aload_n 0, 1) := by decide +kernel
theorem dX2_put_23 : decode cX2_put 23 = .ok (.getfield 13, 3) := by decide +kernel
theorem dX2_put_26 : decode cX2_put 26 = .ok (.if_icmp .ge 12, 3) := by decide +kernel
theorem dX2_put_29 : decode cX2_put 29 = .ok (.aload_n 0, 1) := by decide +kernel
theorem dX2_put_30 : decode cX2_put 30 = .ok (.getfield 28, 3) := by decide +kernel
theorem dX2_put_33 : decode cX2_put 33 = .ok (.iconst 1, 1) := by decide +kernel
theorem dX2_put_34 : decode cX2_put 34 = .ok (.iadd, 1) := by decide +kernel
theorem dX2_put_35 : decode cX2_put 35 = .ok (.goto 4, 3) := by decide +kernel
theorem dX2_put_38 : decode cX2_put 38 = .ok (.iconst 0, 1) := by decide +kernel
theorem dX2_put_39 : decode cX2_put 39 = .ok (.putfield 28, 3) := by decide +kernel
theorem dX2_put_42 : decode cX2_put 42 = .ok (.aload_n 0, 1) := by decide +kernel
theorem dX2_put_43 : decode cX2_put 43 = .ok (.aload_n 0, 1) := by decide +kernel
theorem dX2_put_44 : decode cX2_put 44 = .ok (.getfield 25, 3) := by decide +kernel
theorem dX2_put_47 : decode cX2_put 47 = .ok (.iconst 1, 1) := by decide +kernel
theorem dX2_put_48 : decode cX2_put 48 = .ok (.iadd, 1) := by decide +kernel
theorem dX2_put_49 : decode cX2_put 49 = .ok (.aload_n 0, 1) := by decide +kernel
theorem dX2_put_50 : decode cX2_put 50 = .ok (.getfield 13, 3) := by decide +kernel
theorem dX2_put_53 : decode cX2_put 53 = .ok (.invokestatic 35, 3) := by decide +kernel
theorem dX2_put_56 : decode cX2_put 56 = .ok (.putfield 25, 3) := by decide +kernel
theorem dX2_put_59 : decode cX2_put 59 = .ok (.return_, 1) := by decide +kernel
theorem dX2_takeInto_0 : decode cX2_takeInto 0 = .ok (.aload_n 0, 1) := by decide +kernel
theorem dX2_takeInto_1 : decode cX2_takeInto 1 = .ok (.getfield 25, 3) := by decide +kernel
theorem dX2_takeInto_4 : decode cX2_takeInto 4 = .ok (.iconst 1, 1) := by decide +kernel
theorem dX2_takeInto_5 : decode cX2_takeInto 5 = .ok (.if_icmp .ge 5, 3) := by decide +kernel
theorem dX2_takeInto_8 : decode cX2_takeInto 8 = .ok (.iconst 0, 1) := by decide +kernel
theorem dX2_takeInto_9 : decode cX2_takeInto 9 = .ok (.ireturn, 1) := by decide +kernel
theorem dX2_takeInto_10 : decode cX2_takeInto 10 = .ok (.aload_n 0, 1) := by decide +kernel
theorem dX2_takeInto_11 : decode cX2_takeInto 11 = .ok (.dup, 1) := by decide +kernel
theorem dX2_takeInto_12 : decode cX2_takeInto 12 = .ok (.getfield 25, 3) := by decide +kernel
theorem dX2_takeInto_15 : decode cX2_takeInto 15 = .ok (.iconst 1, 1) := by decide +kernel
theorem dX2_takeInto_16 : decode cX2_takeInto 16 = .ok (.isub, 1) := by decide +kernel
theorem dX2_takeInto_17 : decode cX2_takeInto 17 = .ok (.putfield 25, 3) := by decide +kernel
theorem dX2_takeInto_20 : decode cX2_takeInto 20 = .ok (.aload_n 0, 1) := by decide +kernel
theorem dX2_takeInto_21 : decode cX2_takeInto 21 = .ok (.aload_n 0, 1) := by decide +kernel
theorem dX2_takeInto_22 : decode cX2_takeInto 22 = .ok (.getfield 28, 3) := by decide +kernel
theorem dX2_takeInto_25 : decode cX2_takeInto 25 = .ok (.ifCond .le 12, 3) := by decide +kernel
theorem dX2_takeInto_28 : decode cX2_takeInto 28 = .ok (.aload_n 0, 1) := by decide +kernel
theorem dX2_takeInto_29 : decode cX2_takeInto 29 = .ok (.getfield 28, 3) := by decide +kernel
theorem dX2_takeInto_32 : decode cX2_takeInto 32 = .ok (.iconst 1, 1) := by decide +kernel
theorem dX2_takeInto_33 : decode cX2_takeInto 33 = .ok (.isub, 1) := by decide +kernel
theorem dX2_takeInto_34 : decode cX2_takeInto 34 = .ok (.goto 9, 3) := by decide +kernel
theorem dX2_takeInto_37 : decode cX2_takeInto 37 = .ok (.aload_n 0, 1) := by decide +kernel
theorem dX2_takeInto_38 : decode cX2_takeInto 38 = .ok (.getfield 13, 3) := by decide +kernel
theorem dX2_takeInto_41 : decode cX2_takeInto 41 = .ok (.iconst 1, 1) := by decide +kernel
theorem dX2_takeInto_42 : decode cX2_takeInto 42 = .ok (.isub, 1) := by decide +kernel
theorem dX2_takeInto_43 : decode cX2_takeInto 43 = .ok (.putfield 28, 3) := by decide +kernel
theorem dX2_takeInto_46 : decode cX2_takeInto 46 = .ok (.aload_n 1, 1) := by decide +kernel
theorem dX2_takeInto_47 : decode cX2_takeInto 47 = .ok (.aload_n 0, 1) := by decide +kernel
theorem dX2_takeInto_48 : decode cX2_takeInto 48 = .ok (.getfield 21, 3) := by decide +kernel
theorem dX2_takeInto_51 : decode cX2_takeInto 51 = .ok (.aload_n 0, 1) := by decide +kernel
theorem dX2_takeInto_52 : decode cX2_takeInto 52 = .ok (.getfield 28, 3) := by decide +kernel
theorem dX2_takeInto_55 : decode cX2_takeInto 55 = .ok (.bipush 66, 2) := by decide +kernel
theorem dX2_takeInto_57 : decode cX2_takeInto 57 = .ok (.imul, 1) := by decide +kernel
theorem dX2_takeInto_58 : decode cX2_takeInto 58 = .ok (.invokevirtual 38, 3) := by decide +kernel
theorem dX2_takeInto_61 : decode cX2_takeInto 61 = .ok (.iconst 1, 1) := by decide +kernel
theorem dX2_takeInto_62 : decode cX2_takeInto 62 = .ok (.ireturn, 1) := by decide +kernel
theorem dX3_init_0 : decode cX3_init 0 = .ok (.aload_n 0, 1) := by decide +kernel
theorem dX3_init_1 : decode cX3_init 1 = .ok (.invokespecial 3, 3) := by decide +kernel
theorem dX3_init_4 : decode cX3_init 4 = .ok (.aload_n 0, 1) := by decide +kernel
theorem dX3_init_5 : decode cX3_init 5 = .ok (.iconst 4, 1) := by decide +kernel
theorem dX3_init_6 : decode cX3_init 6 = .ok (.sipush 1089, 3) := by decide +kernel
theorem dX3_init_9 : decode cX3_init 9 = .ok (.multianewarray 11 2, 4) := by decide +kernel
theorem dX3_init_13 : decode cX3_init 13 = .ok (.putfield 13, 3) := by decide +kernel
theorem dX3_init_16 : decode cX3_init 16 = .ok (.return_, 1) := by decide +kernel
theorem dX3_fewestLetters_0 : decode cX3_fewestLetters 0 = .ok (.iload_n 2, 1) := by decide +kernel
theorem dX3_fewestLetters_1 : decode cX3_fewestLetters 1 = .ok (.ifCond .lt 15, 3) := by decide +kernel
theorem dX3_fewestLetters_4 : decode cX3_fewestLetters 4 = .ok (.iload_n 2, 1) := by decide +kernel
theorem dX3_fewestLetters_5 : decode cX3_fewestLetters 5 = .ok (.bipush 32, 2) := by decide +kernel
theorem dX3_fewestLetters_7 : decode cX3_fewestLetters 7 = .ok (.if_icmp .gt 9, 3) := by decide +kernel
theorem dX3_fewestLetters_10 : decode cX3_fewestLetters 10 = .ok (.iload_n 2, 1) := by decide +kernel
theorem dX3_fewestLetters_11 : decode cX3_fewestLetters 11 = .ok (.aload_n 1, 1) := by decide +kernel
theorem dX3_fewestLetters_12 : decode cX3_fewestLetters 12 = .ok (.arraylength, 1) := by decide +kernel
theorem dX3_fewestLetters_13 : decode cX3_fewestLetters 13 = .ok (.if_icmp .le 5, 3) := by decide +kernel
theorem dX3_fewestLetters_16 : decode cX3_fewestLetters 16 = .ok (.iconst 0, 1) := by decide +kernel
theorem dX3_fewestLetters_17 : decode cX3_fewestLetters 17 = .ok (.ireturn, 1) := by decide +kernel
theorem dX3_fewestLetters_18 : decode cX3_fewestLetters 18 = .ok (.iconst 0, 1) := by decide +kernel
theorem dX3_fewestLetters_19 : decode cX3_fewestLetters 19 = .ok (.istore_n 3, 1) := by decide +kernel
theorem dX3_fewestLetters_20 : decode cX3_fewestLetters 20 = .ok (.iload_n 3, 1) := by decide +kernel
theorem dX3_fewestLetters_21 : decode cX3_fewestLetters 21 = .ok (.iconst 3, 1) := by decide +kernel
theorem dX3_fewestLetters_22 : decode cX3_fewestLetters 22 = .ok (.if_icmp .gt 32, 3) := by decide +kernel
theorem dX3_fewestLetters_25 : decode cX3_fewestLetters 25 = .ok (.iload_n 2, 1) := by decide +kernel
theorem dX3_fewestLetters_26 : decode cX3_fewestLetters 26 = .ok (.istore 4, 2) := by decide +kernel
theorem dX3_fewestLetters_28 : decode cX3_fewestLetters 28 = .ok (.iload 4, 2) := by decide +kernel
theorem dX3_fewestLetters_30 : decode cX3_fewestLetters 30 = .ok (.ifCond .lt 18, 3) := by decide +kernel
theorem dX3_fewestLetters_33 : decode cX3_fewestLetters 33 = .ok (.aload_n 0, 1) := by decide +kernel
theorem dX3_fewestLetters_34 : decode cX3_fewestLetters 34 = .ok (.iload_n 3, 1) := by decide +kernel
theorem dX3_fewestLetters_35 : decode cX3_fewestLetters 35 = .ok (.iload 4, 2) := by decide +kernel
theorem dX3_fewestLetters_37 : decode cX3_fewestLetters 37 = .ok (.aload_n 1, 1) := by decide +kernel
theorem dX3_fewestLetters_38 : decode cX3_fewestLetters 38 = .ok (.iload_n 2, 1) := by decide +kernel
theorem dX3_fewestLetters_39 : decode cX3_fewestLetters 39 = .ok (.invokevirtual 16, 3) := by decide +kernel
theorem dX3_fewestLetters_42 : decode cX3_fewestLetters 42 = .ok (.iinc 4 (-1), 3) := by decide +kernel
theorem dX3_fewestLetters_45 : decode cX3_fewestLetters 45 = .ok (.goto (-17), 3) := by decide +kernel
theorem dX3_fewestLetters_48 : decode cX3_fewestLetters 48 = .ok (.iinc 3 1, 3) := by decide +kernel
theorem dX3_fewestLetters_51 : decode cX3_fewestLetters 51 = .ok (.goto (-31), 3) := by decide +kernel
theorem dX3_fewestLetters_54 : decode cX3_fewestLetters 54 = .ok (.aload_n 0, 1) := by decide +kernel
theorem dX3_fewestLetters_55 : decode cX3_fewestLetters 55 = .ok (.getfield 13, 3) := by decide +kernel
theorem dX3_fewestLetters_58 : decode cX3_fewestLetters 58 = .ok (.iconst 3, 1) := by decide +kernel
theorem dX3_fewestLetters_59 : decode cX3_fewestLetters 59 = .ok (.aaload, 1) := by decide +kernel
theorem dX3_fewestLetters_60 : decode cX3_fewestLetters 60 = .ok (.iload_n 2, 1) := by decide +kernel
theorem dX3_fewestLetters_61 : decode cX3_fewestLetters 61 = .ok (.iaload, 1) := by decide +kernel
theorem dX3_fewestLetters_62 : decode cX3_fewestLetters 62 = .ok (.ireturn, 1) := by decide +kernel
theorem dX3_fillFrom_0 : decode cX3_fillFrom 0 = .ok (.aload_n 0, 1) := by decide +kernel
theorem dX3_fillFrom_1 : decode cX3_fillFrom 1 = .ok (.getfield 13, 3) := by decide +kernel
theorem dX3_fillFrom_4 : decode cX3_fillFrom 4 = .ok (.iload_n 1, 1) := by decide +kernel
theorem dX3_fillFrom_5 : decode cX3_fillFrom 5 = .ok (.aaload, 1) := by decide +kernel
theorem dX3_fillFrom_6 : decode cX3_fillFrom 6 = .ok (.astore 5, 2) := by decide +kernel
theorem dX3_fillFrom_8 : decode cX3_fillFrom 8 = .ok (.aload 5, 2) := by decide +kernel
theorem dX3_fillFrom_10 : decode cX3_fillFrom 10 = .ok (.iload_n 2, 1) := by decide +kernel
theorem dX3_fillFrom_11 : decode cX3_fillFrom 11 = .ok (.bipush 33, 2) := by decide +kernel
theorem dX3_fillFrom_13 : decode cX3_fillFrom 13 = .ok (.imul, 1) := by decide +kernel
theorem dX3_fillFrom_14 : decode cX3_fillFrom 14 = .ok (.iload_n 2, 1) := by decide +kernel
theorem dX3_fillFrom_15 : decode cX3_fillFrom 15 = .ok (.iadd, 1) := by decide +kernel
theorem dX3_fillFrom_16 : decode cX3_fillFrom 16 = .ok (.iconst 0, 1) := by decide +kernel
theorem dX3_fillFrom_17 : decode cX3_fillFrom 17 = .ok (.iastore, 1) := by decide +kernel
theorem dX3_fillFrom_18 : decode cX3_fillFrom 18 = .ok (.iload_n 2, 1) := by decide +kernel
theorem dX3_fillFrom_19 : decode cX3_fillFrom 19 = .ok (.iload 4, 2) := by decide +kernel
theorem dX3_fillFrom_21 : decode cX3_fillFrom 21 = .ok (.if_icmp .lt 4, 3) := by decide +kernel
theorem dX3_fillFrom_24 : decode cX3_fillFrom 24 = .ok (.return_, 1) := by decide +kernel
theorem dX3_fillFrom_25 : decode cX3_fillFrom 25 = .ok (.aload_n 3, 1) := by decide +kernel
theorem dX3_fillFrom_26 : decode cX3_fillFrom 26 = .ok (.iload_n 2, 1) := by decide +kernel
theorem dX3_fillFrom_27 : decode cX3_fillFrom 27 = .ok (.iaload, 1) := by decide +kernel
theorem dX3_fillFrom_28 : decode cX3_fillFrom 28 = .ok (.invokestatic 20, 3) := by decide +kernel
theorem dX3_fillFrom_31 : decode cX3_fillFrom 31 = .ok (.istore 6, 2) := by decide +kernel
theorem dX3_fillFrom_33 : decode cX3_fillFrom 33 = .ok (.iload_n 2, 1) := by decide +kernel
theorem dX3_fillFrom_34 : decode cX3_fillFrom 34 = .ok (.iconst 1, 1) := by decide +kernel
theorem dX3_fillFrom_35 : decode cX3_fillFrom 35 = .ok (.iadd, 1) := by decide +kernel
theorem dX3_fillFrom_36 : decode cX3_fillFrom 36 = .ok (.istore 7, 2) := by decide +kernel
theorem dX3_fillFrom_38 : decode cX3_fillFrom 38 = .ok (.iload 7, 2) := by decide +kernel
theorem dX3_fillFrom_40 : decode cX3_fillFrom 40 = .ok (.iload 4, 2) := by decide +kernel
theorem dX3_fillFrom_42 : decode cX3_fillFrom 42 = .ok (.if_icmp .gt 34, 3) := by decide +kernel
theorem dX3_fillFrom_45 : decode cX3_fillFrom 45 = .ok (.aload 5, 2) := by decide +kernel
theorem dX3_fillFrom_47 : decode cX3_fillFrom 47 = .ok (.iload_n 2, 1) := by decide +kernel
theorem dX3_fillFrom_48 : decode cX3_fillFrom 48 = .ok (.bipush 33, 2) := by decide +kernel
theorem dX3_fillFrom_50 : decode cX3_fillFrom 50 = .ok (.imul, 1) := by decide +kernel
theorem dX3_fillFrom_51 : decode cX3_fillFrom 51 = .ok (.iload 7, 2) := by decide +kernel
theorem dX3_fillFrom_53 : decode cX3_fillFrom 53 = .ok (.iadd, 1) := by decide +kernel
theorem dX3_fillFrom_54 : decode cX3_fillFrom 54 = .ok (.iload 6, 2) := by decide +kernel
theorem dX3_fillFrom_56 : decode cX3_fillFrom 56 = .ok (.aload 5, 2) := by decide +kernel
theorem dX3_fillFrom_58 : decode cX3_fillFrom 58 = .ok (.iload_n 2, 1) := by decide +kernel
theorem dX3_fillFrom_59 : decode cX3_fillFrom 59 = .ok (.iconst 1, 1) := by decide +kernel
theorem dX3_fillFrom_60 : decode cX3_fillFrom 60 = .ok (.iadd, 1) := by decide +kernel
theorem dX3_fillFrom_61 : decode cX3_fillFrom 61 = .ok (.bipush 33, 2) := by decide +kernel
theorem dX3_fillFrom_63 : decode cX3_fillFrom 63 = .ok (.imul, 1) := by decide +kernel
theorem dX3_fillFrom_64 : decode cX3_fillFrom 64 = .ok (.iload 7, 2) := by decide +kernel
theorem dX3_fillFrom_66 : decode cX3_fillFrom 66 = .ok (.iadd, 1) := by decide +kernel
theorem dX3_fillFrom_67 : decode cX3_fillFrom 67 = .ok (.iaload, 1) := by decide +kernel
theorem dX3_fillFrom_68 : decode cX3_fillFrom 68 = .ok (.iadd, 1) := by decide +kernel
theorem dX3_fillFrom_69 : decode cX3_fillFrom 69 = .ok (.iastore, 1) := by decide +kernel
theorem dX3_fillFrom_70 : decode cX3_fillFrom 70 = .ok (.iinc 7 1, 3) := by decide +kernel
theorem dX3_fillFrom_73 : decode cX3_fillFrom 73 = .ok (.goto (-35), 3) := by decide +kernel
theorem dX3_fillFrom_76 : decode cX3_fillFrom 76 = .ok (.iconst 1, 1) := by decide +kernel
theorem dX3_fillFrom_77 : decode cX3_fillFrom 77 = .ok (.istore 7, 2) := by decide +kernel
theorem dX3_fillFrom_79 : decode cX3_fillFrom 79 = .ok (.iload_n 1, 1) := by decide +kernel
theorem dX3_fillFrom_80 : decode cX3_fillFrom 80 = .ok (.ifCond .le 97, 3) := by decide +kernel
theorem dX3_fillFrom_83 : decode cX3_fillFrom 83 = .ok (.iload_n 2, 1) := by decide +kernel
theorem dX3_fillFrom_84 : decode cX3_fillFrom 84 = .ok (.iconst 2, 1) := by decide +kernel
theorem dX3_fillFrom_85 : decode cX3_fillFrom 85 = .ok (.iload 7, 2) := by decide +kernel
theorem dX3_fillFrom_87 : decode cX3_fillFrom 87 = .ok (.imul, 1) := by decide +kernel
theorem dX3_fillFrom_88 : decode cX3_fillFrom 88 = .ok (.iadd, 1) := by decide +kernel
theorem dX3_fillFrom_89 : decode cX3_fillFrom 89 = .ok (.iload 4, 2) := by decide +kernel
theorem dX3_fillFrom_91 : decode cX3_fillFrom 91 = .ok (.if_icmp .gt 86, 3) := by decide +kernel
theorem dX3_fillFrom_94 : decode cX3_fillFrom 94 = .ok (.iconst 3, 1) := by decide +kernel
theorem dX3_fillFrom_95 : decode cX3_fillFrom 95 = .ok (.aload_n 0, 1) := by decide +kernel
theorem dX3_fillFrom_96 : decode cX3_fillFrom 96 = .ok (.getfield 13, 3) := by decide +kernel
theorem dX3_fillFrom_99 : decode cX3_fillFrom 99 = .ok (.iload_n 1, 1) := by decide +kernel
theorem dX3_fillFrom_100 : decode cX3_fillFrom 100 = .ok (.iconst 1, 1) := by decide +kernel
theorem dX3_fillFrom_101 : decode cX3_fillFrom 101 = .ok (.isub, 1) := by decide +kernel
theorem dX3_fillFrom_102 : decode cX3_fillFrom 102 = .ok (.aaload, 1) := by decide +kernel
theorem dX3_fillFrom_103 : decode cX3_fillFrom 103 = .ok (.iload_n 2, 1) := by decide +kernel
theorem dX3_fillFrom_104 : decode cX3_fillFrom 104 = .ok (.bipush 33, 2) := by decide +kernel
theorem dX3_fillFrom_106 : decode cX3_fillFrom 106 = .ok (.imul, 1) := by decide +kernel
theorem dX3_fillFrom_107 : decode cX3_fillFrom 107 = .ok (.iload_n 2, 1) := by decide +kernel
theorem dX3_fillFrom_108 : decode cX3_fillFrom 108 = .ok (.iadd, 1) := by decide +kernel
theorem dX3_fillFrom_109 : decode cX3_fillFrom 109 = .ok (.iload 7, 2) := by decide +kernel
theorem dX3_fillFrom_111 : decode cX3_fillFrom 111 = .ok (.iadd, 1) := by decide +kernel
theorem dX3_fillFrom_112 : decode cX3_fillFrom 112 = .ok (.iaload, 1) := by decide +kernel
theorem dX3_fillFrom_113 : decode cX3_fillFrom 113 = .ok (.iadd, 1) := by decide +kernel
theorem dX3_fillFrom_114 : decode cX3_fillFrom 114 = .ok (.istore 8, 2) := by decide +kernel
theorem dX3_fillFrom_116 : decode cX3_fillFrom 116 = .ok (.aload_n 0, 1) := by decide +kernel
theorem dX3_fillFrom_117 : decode cX3_fillFrom 117 = .ok (.iload_n 2, 1) := by decide +kernel
theorem dX3_fillFrom_118 : decode cX3_fillFrom 118 = .ok (.iload 7, 2) := by decide +kernel
theorem dX3_fillFrom_120 : decode cX3_fillFrom 120 = .ok (.aload_n 3, 1) := by decide +kernel
theorem dX3_fillFrom_121 : decode cX3_fillFrom 121 = .ok (.iload 4, 2) := by decide +kernel
theorem dX3_fillFrom_123 : decode cX3_fillFrom 123 = .ok (.invokevirtual 24, 3) := by decide +kernel
theorem dX3_fillFrom_126 : decode cX3_fillFrom 126 = .ok (.istore 9, 2) := by decide +kernel
theorem dX3_fillFrom_128 : decode cX3_fillFrom 128 = .ok (.iload_n 2, 1) := by decide +kernel
theorem dX3_fillFrom_129 : decode cX3_fillFrom 129 = .ok (.iconst 2, 1) := by decide +kernel
theorem dX3_fillFrom_130 : decode cX3_fillFrom 130 = .ok (.iload 7, 2) := by decide +kernel
theorem dX3_fillFrom_132 : decode cX3_fillFrom 132 = .ok (.imul, 1) := by decide +kernel
theorem dX3_fillFrom_133 : decode cX3_fillFrom 133 = .ok (.iadd, 1) := by decide +kernel
theorem dX3_fillFrom_134 : decode cX3_fillFrom 134 = .ok (.istore 10, 2) := by decide +kernel
theorem dX3_fillFrom_136 : decode cX3_fillFrom 136 = .ok (.iload 10, 2) := by decide +kernel
theorem dX3_fillFrom_138 : decode cX3_fillFrom 138 = .ok (.iload_n 2, 1) := by decide +kernel
theorem dX3_fillFrom_139 : decode cX3_fillFrom 139 = .ok (.iload 9, 2) := by decide +kernel
theorem dX3_fillFrom_141 : decode cX3_fillFrom 141 = .ok (.iload 7, 2) := by decide +kernel
theorem dX3_fillFrom_143 : decode cX3_fillFrom 143 = .ok (.imul, 1) := by decide +kernel
theorem dX3_fillFrom_144 : decode cX3_fillFrom 144 = .ok (.iadd, 1) := by decide +kernel
theorem dX3_fillFrom_145 : decode cX3_fillFrom 145 = .ok (.if_icmp .gt 26, 3) := by decide +kernel
theorem dX3_fillFrom_148 : decode cX3_fillFrom 148 = .ok (.aload_n 0, 1) := by decide +kernel
theorem dX3_fillFrom_149 : decode cX3_fillFrom 149 = .ok (.aload 5, 2) := by decide +kernel
theorem dX3_fillFrom_151 : decode cX3_fillFrom 151 = .ok (.iload_n 2, 1) := by decide +kernel
theorem dX3_fillFrom_152 : decode cX3_fillFrom 152 = .ok (.iload 10, 2) := by decide +kernel
theorem dX3_fillFrom_154 : decode cX3_fillFrom 154 = .ok (.iload 8, 2) := by decide +kernel
theorem dX3_fillFrom_156 : decode cX3_fillFrom 156 = .ok (.iload 4, 2) := by decide +kernel
theorem dX3_fillFrom_158 : decode cX3_fillFrom 158 = .ok (.invokevirtual 28, 3) := by decide +kernel
theorem dX3_fillFrom_161 : decode cX3_fillFrom 161 = .ok (.iload 10, 2) := by decide +kernel
theorem dX3_fillFrom_163 : decode cX3_fillFrom 163 = .ok (.iload 7, 2) := by decide +kernel
theorem dX3_fillFrom_165 : decode cX3_fillFrom 165 = .ok (.iadd, 1) := by decide +kernel
theorem dX3_fillFrom_166 : decode cX3_fillFrom 166 = .ok (.istore 10, 2) := by decide +kernel
theorem dX3_fillFrom_168 : decode cX3_fillFrom 168 = .ok (.goto (-32), 3) := by decide +kernel
theorem dX3_fillFrom_171 : decode cX3_fillFrom 171 = .ok (.iinc 7 1, 3) := by decide +kernel
theorem dX3_fillFrom_174 : decode cX3_fillFrom 174 = .ok (.goto (-95), 3) := by decide +kernel
theorem dX3_fillFrom_177 : decode cX3_fillFrom 177 = .ok (.return_, 1) := by decide +kernel
theorem dX3_beginWithPart_0 : decode cX3_beginWithPart 0 = .ok (.iload_n 3, 1) := by decide +kernel
theorem dX3_beginWithPart_1 : decode cX3_beginWithPart 1 = .ok (.istore 6, 2) := by decide +kernel
theorem dX3_beginWithPart_3 : decode cX3_beginWithPart 3 = .ok (.iload 6, 2) := by decide +kernel
theorem dX3_beginWithPart_5 : decode cX3_beginWithPart 5 = .ok (.iload 5, 2) := by decide +kernel
theorem dX3_beginWithPart_7 : decode cX3_beginWithPart 7 = .ok (.if_icmp .gt 48, 3) := by decide +kernel
theorem dX3_beginWithPart_10 : decode cX3_beginWithPart 10 = .ok (.iload 4, 2) := by decide +kernel
theorem dX3_beginWithPart_12 : decode cX3_beginWithPart 12 = .ok (.aload_n 1, 1) := by decide +kernel
theorem dX3_beginWithPart_13 : decode cX3_beginWithPart 13 = .ok (.iload_n 3, 1) := by decide +kernel
theorem dX3_beginWithPart_14 : decode cX3_beginWithPart 14 = .ok (.bipush 33, 2) := by decide +kernel
theorem dX3_beginWithPart_16 : decode cX3_beginWithPart 16 = .ok (.imul, 1) := by decide +kernel
theorem dX3_beginWithPart_17 : decode cX3_beginWithPart 17 = .ok (.iload 6, 2) := by decide +kernel
theorem dX3_beginWithPart_19 : decode cX3_beginWithPart 19 = .ok (.iadd, 1) := by decide +kernel
theorem dX3_beginWithPart_20 : decode cX3_beginWithPart 20 = .ok (.iaload, 1) := by decide +kernel
theorem dX3_beginWithPart_21 : decode cX3_beginWithPart 21 = .ok (.iadd, 1) := by decide +kernel
theorem dX3_beginWithPart_22 : decode cX3_beginWithPart 22 = .ok (.istore 7, 2) := by decide +kernel
theorem dX3_beginWithPart_24 : decode cX3_beginWithPart 24 = .ok (.iload 7, 2) := by decide +kernel
theorem dX3_beginWithPart_26 : decode cX3_beginWithPart 26 = .ok (.aload_n 1, 1) := by decide +kernel
theorem dX3_beginWithPart_27 : decode cX3_beginWithPart 27 = .ok (.iload_n 2, 1) := by decide +kernel
theorem dX3_beginWithPart_28 : decode cX3_beginWithPart 28 = .ok (.bipush 33, 2) := by decide +kernel
theorem dX3_beginWithPart_30 : decode cX3_beginWithPart 30 = .ok (.imul, 1) := by decide +kernel
theorem dX3_beginWithPart_31 : decode cX3_beginWithPart 31 = .ok (.iload 6, 2) := by decide +kernel
theorem dX3_beginWithPart_33 : decode cX3_beginWithPart 33 = .ok (.iadd, 1) := by decide +kernel
theorem dX3_beginWithPart_34 : decode cX3_beginWithPart 34 = .ok (.iaload, 1) := by decide +kernel
theorem dX3_beginWithPart_35 : decode cX3_beginWithPart 35 = .ok (.if_icmp .ge 14, 3) := by decide +kernel
theorem dX3_beginWithPart_38 : decode cX3_beginWithPart 38 = .ok (.aload_n 1, 1) := by decide +kernel
theorem dX3_beginWithPart_39 : decode cX3_beginWithPart 39 = .ok (.iload_n 2, 1) := by decide +kernel
theorem dX3_beginWithPart_40 : decode cX3_beginWithPart 40 = .ok (.bipush 33, 2) := by decide +kernel
theorem dX3_beginWithPart_42 : decode cX3_beginWithPart 42 = .ok (.imul, 1) := by decide +kernel
theorem dX3_beginWithPart_43 : decode cX3_beginWithPart 43 = .ok (.iload 6, 2) := by decide +kernel
theorem dX3_beginWithPart_45 : decode cX3_beginWithPart 45 = .ok (.iadd, 1) := by decide +kernel
theorem dX3_beginWithPart_46 : decode cX3_beginWithPart 46 = .ok (.iload 7, 2) := by decide +kernel
theorem dX3_beginWithPart_48 : decode cX3_beginWithPart 48 = .ok (.iastore, 1) := by decide +kernel
theorem dX3_beginWithPart_49 : decode cX3_beginWithPart 49 = .ok (.iinc 6 1, 3) := by decide +kernel
theorem dX3_beginWithPart_52 : decode cX3_beginWithPart 52 = .ok (.goto (-49), 3) := by decide +kernel
theorem dX3_beginWithPart_55 : decode cX3_beginWithPart 55 = .ok (.return_, 1) := by decide +kernel
theorem dX3_timesTold_0 : decode cX3_timesTold 0 = .ok (.iconst 0, 1) := by decide +kernel
theorem dX3_timesTold_1 : decode cX3_timesTold 1 = .ok (.istore 5, 2) := by decide +kernel
theorem dX3_timesTold_3 : decode cX3_timesTold 3 = .ok (.iload 4, 2) := by decide +kernel
theorem dX3_timesTold_5 : decode cX3_timesTold 5 = .ok (.iload_n 1, 1) := by decide +kernel
theorem dX3_timesTold_6 : decode cX3_timesTold 6 = .ok (.isub, 1) := by decide +kernel
theorem dX3_timesTold_7 : decode cX3_timesTold 7 = .ok (.iload_n 2, 1) := by decide +kernel
theorem dX3_timesTold_8 : decode cX3_timesTold 8 = .ok (.isub, 1) := by decide +kernel
theorem dX3_timesTold_9 : decode cX3_timesTold 9 = .ok (.bipush 8, 2) := by decide +kernel
theorem dX3_timesTold_11 : decode cX3_timesTold 11 = .ok (.iload_n 2, 1) := by decide +kernel
theorem dX3_timesTold_12 : decode cX3_timesTold 12 = .ok (.imul, 1) := by decide +kernel
theorem dX3_timesTold_13 : decode cX3_timesTold 13 = .ok (.invokestatic 32, 3) := by decide +kernel
theorem dX3_timesTold_16 : decode cX3_timesTold 16 = .ok (.istore 6, 2) := by decide +kernel
theorem dX3_timesTold_18 : decode cX3_timesTold 18 = .ok (.iload 5, 2) := by decide +kernel
theorem dX3_timesTold_20 : decode cX3_timesTold 20 = .ok (.iload 6, 2) := by decide +kernel
theorem dX3_timesTold_22 : decode cX3_timesTold 22 = .ok (.if_icmp .ge 26, 3) := by decide +kernel
theorem dX3_timesTold_25 : decode cX3_timesTold 25 = .ok (.aload_n 3, 1) := by decide +kernel
theorem dX3_timesTold_26 : decode cX3_timesTold 26 = .ok (.iload_n 1, 1) := by decide +kernel
theorem dX3_timesTold_27 : decode cX3_timesTold 27 = .ok (.iload 5, 2) := by decide +kernel
theorem dX3_timesTold_29 : decode cX3_timesTold 29 = .ok (.iadd, 1) := by decide +kernel
theorem dX3_timesTold_30 : decode cX3_timesTold 30 = .ok (.iaload, 1) := by decide +kernel
theorem dX3_timesTold_31 : decode cX3_timesTold 31 = .ok (.aload_n 3, 1) := by decide +kernel
theorem dX3_timesTold_32 : decode cX3_timesTold 32 = .ok (.iload_n 1, 1) := by decide +kernel
theorem dX3_timesTold_33 : decode cX3_timesTold 33 = .ok (.iload 5, 2) := by decide +kernel
theorem dX3_timesTold_35 : decode cX3_timesTold 35 = .ok (.iadd, 1) := by decide +kernel
theorem dX3_timesTold_36 : decode cX3_timesTold 36 = .ok (.iload_n 2, 1) := by decide +kernel
theorem dX3_timesTold_37 : decode cX3_timesTold 37 = .ok (.iadd, 1) := by decide +kernel
theorem dX3_timesTold_38 : decode cX3_timesTold 38 = .ok (.iaload, 1) := by decide +kernel
theorem dX3_timesTold_39 : decode cX3_timesTold 39 = .ok (.if_icmp .ne 9, 3) := by decide +kernel
theorem dX3_timesTold_42 : decode cX3_timesTold 42 = .ok (.iinc 5 1, 3) := by decide +kernel
theorem dX3_timesTold_45 : decode cX3_timesTold 45 = .ok (.goto (-27), 3) := by decide +kernel
theorem dX3_timesTold_48 : decode cX3_timesTold 48 = .ok (.iload_n 2, 1) := by decide +kernel
theorem dX3_timesTold_49 : decode cX3_timesTold 49 = .ok (.ifCond .le 12, 3) := by decide +kernel
theorem dX3_timesTold_52 : decode cX3_timesTold 52 = .ok (.iconst 1, 1) := by decide +kernel
theorem dX3_timesTold_53 : decode cX3_timesTold 53 = .ok (.iload 5, 2) := by decide +kernel
theorem dX3_timesTold_55 : decode cX3_timesTold 55 = .ok (.iload_n 2, 1) := by decide +kernel
theorem dX3_timesTold_56 : decode cX3_timesTold 56 = .ok (.idiv, 1) := by decide +kernel
theorem dX3_timesTold_57 : decode cX3_timesTold 57 = .ok (.iadd, 1) := by decide +kernel
theorem dX3_timesTold_58 : decode cX3_timesTold 58 = .ok (.goto 4, 3) := by decide +kernel
theorem dX3_timesTold_61 : decode cX3_timesTold 61 = .ok (.iconst 1, 1) := by decide +kernel
theorem dX3_timesTold_62 : decode cX3_timesTold 62 = .ok (.ireturn, 1) := by decide +kernel
theorem dX3_lettersOf_0 : decode cX3_lettersOf 0 = .ok (.iload_n 0, 1) := by decide +kernel
theorem dX3_lettersOf_1 : decode cX3_lettersOf 1 = .ok (.invokestatic 38, 3) := by decide +kernel
theorem dX3_lettersOf_4 : decode cX3_lettersOf 4 = .ok (.istore_n 1, 1) := by decide +kernel
theorem dX3_lettersOf_5 : decode cX3_lettersOf 5 = .ok (.iload_n 1, 1) := by decide +kernel
theorem dX3_lettersOf_6 : decode cX3_lettersOf 6 = .ok (.iconst 2, 1) := by decide +kernel
theorem dX3_lettersOf_7 : decode cX3_lettersOf 7 = .ok (.if_icmp .ge 7, 3) := by decide +kernel
theorem dX3_lettersOf_10 : decode cX3_lettersOf 10 = .ok (.iconst 1, 1) := by decide +kernel
theorem dX3_lettersOf_11 : decode cX3_lettersOf 11 = .ok (.goto 6, 3) := by decide +kernel
theorem dX3_lettersOf_14 : decode cX3_lettersOf 14 = .ok (.iload_n 1, 1) := by decide +kernel
theorem dX3_lettersOf_15 : decode cX3_lettersOf 15 = .ok (.iconst 2, 1) := by decide +kernel
theorem dX3_lettersOf_16 : decode cX3_lettersOf 16 = .ok (.iadd, 1) := by decide +kernel
theorem dX3_lettersOf_17 : decode cX3_lettersOf 17 = .ok (.ireturn, 1) := by decide +kernel
theorem dX4_init_0 : decode cX4_init 0 = .ok (.aload_n 0, 1) := by decide +kernel
theorem dX4_init_1 : decode cX4_init 1 = .ok (.invokespecial 3, 3) := by decide +kernel
theorem dX4_init_4 : decode cX4_init 4 = .ok (.aload_n 0, 1) := by decide +kernel
theorem dX4_init_5 : decode cX4_init 5 = .ok (.sipush 200, 3) := by decide +kernel
theorem dX4_init_8 : decode cX4_init 8 = .ok (.newarray .int, 2) := by decide +kernel
theorem dX4_init_10 : decode cX4_init 10 = .ok (.putfield 9, 3) := by decide +kernel
theorem dX4_init_13 : decode cX4_init 13 = .ok (.aload_n 0, 1) := by decide +kernel
theorem dX4_init_14 : decode cX4_init 14 = .ok (.iconst 3, 1) := by decide +kernel
theorem dX4_init_15 : decode cX4_init 15 = .ok (.newarray .int, 2) := by decide +kernel
theorem dX4_init_17 : decode cX4_init 17 = .ok (.putfield 15, 3) := by decide +kernel
theorem dX4_init_20 : decode cX4_init 20 = .ok (.return_, 1) := by decide +kernel
theorem dX4_append_0 : decode cX4_append 0 = .ok (.aload_n 0, 1) := by decide +kernel
theorem dX4_append_1 : decode cX4_append 1 = .ok (.getfield 18, 3) := by decide +kernel
theorem dX4_append_4 : decode cX4_append 4 = .ok (.sipush 200, 3) := by decide +kernel
theorem dX4_append_7 : decode cX4_append 7 = .ok (.if_icmp .lt 5, 3) := by decide +kernel
theorem dX4_append_10 : decode cX4_append 10 = .ok (.iconst 0, 1) := by decide +kernel
theorem dX4_append_11 : decode cX4_append 11 = .ok (.ireturn, 1) := by decide +kernel
theorem dX4_append_12 : decode cX4_append 12 = .ok (.aload_n 0, 1) := by decide +kernel
theorem dX4_append_13 : decode cX4_append 13 = .ok (.getfield 9, 3) := by decide +kernel
theorem dX4_append_16 : decode cX4_append 16 = .ok (.aload_n 0, 1) := by decide +kernel
theorem dX4_append_17 : decode cX4_append 17 = .ok (.getfield 18, 3) := by decide +kernel
theorem dX4_append_20 : decode cX4_append 20 = .ok (.iload_n 1, 1) := by decide +kernel
theorem dX4_append_21 : decode cX4_append 21 = .ok (.iastore, 1) := by decide +kernel
theorem dX4_append_22 : decode cX4_append 22 = .ok (.aload_n 0, 1) := by decide +kernel
theorem dX4_append_23 : decode cX4_append 23 = .ok (.dup, 1) := by decide +kernel
theorem dX4_append_24 : decode cX4_append 24 = .ok (.getfield 18, 3) := by decide +kernel
theorem dX4_append_27 : decode cX4_append 27 = .ok (.iconst 1, 1) := by decide +kernel
theorem dX4_append_28 : decode cX4_append 28 = .ok (.iadd, 1) := by decide +kernel
theorem dX4_append_29 : decode cX4_append 29 = .ok (.putfield 18, 3) := by decide +kernel
theorem dX4_append_32 : decode cX4_append 32 = .ok (.iconst 1, 1) := by decide +kernel
theorem dX4_append_33 : decode cX4_append 33 = .ok (.ireturn, 1) := by decide +kernel
theorem dX4_clear_0 : decode cX4_clear 0 = .ok (.aload_n 0, 1) := by decide +kernel
theorem dX4_clear_1 : decode cX4_clear 1 = .ok (.iconst 0, 1) := by decide +kernel
theorem dX4_clear_2 : decode cX4_clear 2 = .ok (.putfield 18, 3) := by decide +kernel
theorem dX4_clear_5 : decode cX4_clear 5 = .ok (.return_, 1) := by decide +kernel
theorem dX4_readInto_0 : decode cX4_readInto 0 = .ok (.aload_n 1, 1) := by decide +kernel
theorem dX4_readInto_1 : decode cX4_readInto 1 = .ok (.invokevirtual 22, 3) := by decide +kernel
theorem dX4_readInto_4 : decode cX4_readInto 4 = .ok (.aload_n 0, 1) := by decide +kernel
theorem dX4_readInto_5 : decode cX4_readInto 5 = .ok (.iconst 0, 1) := by decide +kernel
theorem dX4_readInto_6 : decode cX4_readInto 6 = .ok (.putfield 27, 3) := by decide +kernel
theorem dX4_readInto_9 : decode cX4_readInto 9 = .ok (.iconst 0, 1) := by decide +kernel
theorem dX4_readInto_10 : decode cX4_readInto 10 = .ok (.istore_n 2, 1) := by decide +kernel
theorem dX4_readInto_11 : decode cX4_readInto 11 = .ok (.iload_n 2, 1) := by decide +kernel
theorem dX4_readInto_12 : decode cX4_readInto 12 = .ok (.sipush 200, 3) := by decide +kernel
theorem dX4_readInto_15 : decode cX4_readInto 15 = .ok (.if_icmp .ge 44, 3) := by decide +kernel
theorem dX4_readInto_18 : decode cX4_readInto 18 = .ok (.aload_n 0, 1) := by decide +kernel
theorem dX4_readInto_19 : decode cX4_readInto 19 = .ok (.getfield 27, 3) := by decide +kernel
theorem dX4_readInto_22 : decode cX4_readInto 22 = .ok (.aload_n 0, 1) := by decide +kernel
theorem dX4_readInto_23 : decode cX4_readInto 23 = .ok (.getfield 18, 3) := by decide +kernel
theorem dX4_readInto_26 : decode cX4_readInto 26 = .ok (.if_icmp .ge 33, 3) := by decide +kernel
theorem dX4_readInto_29 : decode cX4_readInto 29 = .ok (.aload_n 0, 1) := by decide +kernel
theorem dX4_readInto_30 : decode cX4_readInto 30 = .ok (.getfield 27, 3) := by decide +kernel
theorem dX4_readInto_33 : decode cX4_readInto 33 = .ok (.istore_n 3, 1) := by decide +kernel
theorem dX4_readInto_34 : decode cX4_readInto 34 = .ok (.aload_n 0, 1) := by decide +kernel
theorem dX4_readInto_35 : decode cX4_readInto 35 = .ok (.aload_n 1, 1) := by decide +kernel
theorem dX4_readInto_36 : decode cX4_readInto 36 = .ok (.invokevirtual 30, 3) := by decide +kernel
theorem dX4_readInto_39 : decode cX4_readInto 39 = .ok (.ifCond .eq 12, 3) := by decide +kernel
theorem dX4_readInto_42 : decode cX4_readInto 42 = .ok (.aload_n 0, 1) := by decide +kernel
theorem dX4_readInto_43 : decode cX4_readInto 43 = .ok (.bipush 59, 2) := by decide +kernel
theorem dX4_readInto_45 : decode cX4_readInto 45 = .ok (.invokevirtual 34, 3) := by decide +kernel
theorem dX4_readInto_48 : decode cX4_readInto 48 = .ok (.ifCond .ne 5, 3) := by decide +kernel
theorem dX4_readInto_51 : decode cX4_readInto 51 = .ok (.iload_n 3, 1) := by decide +kernel
theorem dX4_readInto_52 : decode cX4_readInto 52 = .ok (.ireturn, 1) := by decide +kernel
theorem dX4_readInto_53 : decode cX4_readInto 53 = .ok (.iinc 2 1, 3) := by decide +kernel
theorem dX4_readInto_56 : decode cX4_readInto 56 = .ok (.goto (-45), 3) := by decide +kernel
theorem dX4_readInto_59 : decode cX4_readInto 59 = .ok (.bipush (-4), 2) := by decide +kernel
theorem dX4_readInto_61 : decode cX4_readInto 61 = .ok (.ireturn, 1) := by decide +kernel
theorem dX4_readItem_0 : decode cX4_readItem 0 = .ok (.aload_n 0, 1) := by decide +kernel
theorem dX4_readItem_1 : decode cX4_readItem 1 = .ok (.invokevirtual 38, 3) := by decide +kernel
theorem dX4_readItem_4 : decode cX4_readItem 4 = .ok (.istore_n 2, 1) := by decide +kernel
theorem dX4_readItem_5 : decode cX4_readItem 5 = .ok (.aload_n 0, 1) := by decide +kernel
theorem dX4_readItem_6 : decode cX4_readItem 6 = .ok (.dup, 1) := by decide +kernel
theorem dX4_readItem_7 : decode cX4_readItem 7 = .ok (.getfield 27, 3) := by decide +kernel
theorem dX4_readItem_10 : decode cX4_readItem 10 = .ok (.iconst 1, 1) := by decide +kernel
theorem dX4_readItem_11 : decode cX4_readItem 11 = .ok (.iadd, 1) := by decide +kernel
theorem dX4_readItem_12 : decode cX4_readItem 12 = .ok (.putfield 27, 3) := by decide +kernel
theorem dX4_readItem_15 : decode cX4_readItem 15 = .ok (.iload_n 2, 1) := by decide +kernel
theorem dX4_readItem_16 : decode cX4_readItem 16 = .ok (.lookupswitch 74 #[(98, 44), (110, 50), (114, 59), (116, 68)], 44) := by decide +kernel
theorem dX4_readItem_60 : decode cX4_readItem 60 = .ok (.aload_n 0, 1) := by decide +kernel
theorem dX4_readItem_61 : decode cX4_readItem 61 = .ok (.aload_n 1, 1) := by decide +kernel
theorem dX4_readItem_62 : decode cX4_readItem 62 = .ok (.invokevirtual 42, 3) := by decide +kernel
theorem dX4_readItem_65 : decode cX4_readItem 65 = .ok (.ireturn, 1) := by decide +kernel
theorem dX4_readItem_66 : decode cX4_readItem 66 = .ok (.aload_n 1, 1) := by decide +kernel
theorem dX4_readItem_67 : decode cX4_readItem 67 = .ok (.aload_n 0, 1) := by decide +kernel
theorem dX4_readItem_68 : decode cX4_readItem 68 = .ok (.invokevirtual 45, 3) := by decide +kernel
theorem dX4_readItem_71 : decode cX4_readItem 71 = .ok (.invokevirtual 48, 3) := by decide +kernel
theorem dX4_readItem_74 : decode cX4_readItem 74 = .ok (.ireturn, 1) := by decide +kernel
theorem dX4_readItem_75 : decode cX4_readItem 75 = .ok (.aload_n 1, 1) := by decide +kernel
theorem dX4_readItem_76 : decode cX4_readItem 76 = .ok (.aload_n 0, 1) := by decide +kernel
theorem dX4_readItem_77 : decode cX4_readItem 77 = .ok (.invokevirtual 45, 3) := by decide +kernel
theorem dX4_readItem_80 : decode cX4_readItem 80 = .ok (.invokevirtual 51, 3) := by decide +kernel
theorem dX4_readItem_83 : decode cX4_readItem 83 = .ok (.ireturn, 1) := by decide +kernel
theorem dX4_readItem_84 : decode cX4_readItem 84 = .ok (.aload_n 0, 1) := by decide +kernel
theorem dX4_readItem_85 : decode cX4_readItem 85 = .ok (.aload_n 1, 1) := by decide +kernel
theorem dX4_readItem_86 : decode cX4_readItem 86 = .ok (.invokevirtual 54, 3) := by decide +kernel
theorem dX4_readItem_89 : decode cX4_readItem 89 = .ok (.ireturn, 1) := by decide +kernel
theorem dX4_readItem_90 : decode cX4_readItem 90 = .ok (.iconst 0, 1) := by decide +kernel
theorem dX4_readItem_91 : decode cX4_readItem 91 = .ok (.ireturn, 1) := by decide +kernel
theorem dX4_readBell_0 : decode cX4_readBell 0 = .ok (.aload_n 0, 1) := by decide +kernel
theorem dX4_readBell_1 : decode cX4_readBell 1 = .ok (.invokevirtual 45, 3) := by decide +kernel
theorem dX4_readBell_4 : decode cX4_readBell 4 = .ok (.istore_n 2, 1) := by decide +kernel
theorem dX4_readBell_5 : decode cX4_readBell 5 = .ok (.aload_n 0, 1) := by decide +kernel
theorem dX4_readBell_6 : decode cX4_readBell 6 = .ok (.bipush 44, 2) := by decide +kernel
theorem dX4_readBell_8 : decode cX4_readBell 8 = .ok (.invokevirtual 34, 3) := by decide +kernel
theorem dX4_readBell_11 : decode cX4_readBell 11 = .ok (.ifCond .eq 19, 3) := by decide +kernel
theorem dX4_readBell_14 : decode cX4_readBell 14 = .ok (.aload_n 1, 1) := by decide +kernel
theorem dX4_readBell_15 : decode cX4_readBell 15 = .ok (.iload_n 2, 1) := by decide +kernel
theorem dX4_readBell_16 : decode cX4_readBell 16 = .ok (.aload_n 0, 1) := by decide +kernel
theorem dX4_readBell_17 : decode cX4_readBell 17 = .ok (.invokevirtual 45, 3) := by decide +kernel
theorem dX4_readBell_20 : decode cX4_readBell 20 = .ok (.invokevirtual 57, 3) := by decide +kernel
theorem dX4_readBell_23 : decode cX4_readBell 23 = .ok (.ifCond .eq 7, 3) := by decide +kernel
theorem dX4_readBell_26 : decode cX4_readBell 26 = .ok (.iconst 1, 1) := by decide +kernel
theorem dX4_readBell_27 : decode cX4_readBell 27 = .ok (.goto 4, 3) := by decide +kernel
theorem dX4_readBell_30 : decode cX4_readBell 30 = .ok (.iconst 0, 1) := by decide +kernel
theorem dX4_readBell_31 : decode cX4_readBell 31 = .ok (.ireturn, 1) := by decide +kernel
theorem dX4_readTune_0 : decode cX4_readTune 0 = .ok (.aload_n 1, 1) := by decide +kernel
theorem dX4_readTune_1 : decode cX4_readTune 1 = .ok (.getfield 61, 3) := by decide +kernel
theorem dX4_readTune_4 : decode cX4_readTune 4 = .ok (.ifCond .eq 5, 3) := by decide +kernel
theorem dX4_readTune_7 : decode cX4_readTune 7 = .ok (.iconst 0, 1) := by decide +kernel
theorem dX4_readTune_8 : decode cX4_readTune 8 = .ok (.ireturn, 1) := by decide +kernel
theorem dX4_readTune_9 : decode cX4_readTune 9 = .ok (.aload_n 1, 1) := by decide +kernel
theorem dX4_readTune_10 : decode cX4_readTune 10 = .ok (.iconst 1, 1) := by decide +kernel
theorem dX4_readTune_11 : decode cX4_readTune 11 = .ok (.putfield 61, 3) := by decide +kernel
theorem dX4_readTune_14 : decode cX4_readTune 14 = .ok (.iconst 0, 1) := by decide +kernel
theorem dX4_readTune_15 : decode cX4_readTune 15 = .ok (.istore_n 2, 1) := by decide +kernel
theorem dX4_readTune_16 : decode cX4_readTune 16 = .ok (.iconst 0, 1) := by decide +kernel
theorem dX4_readTune_17 : decode cX4_readTune 17 = .ok (.istore_n 3, 1) := by decide +kernel
theorem dX4_readTune_18 : decode cX4_readTune 18 = .ok (.iload_n 3, 1) := by decide +kernel
theorem dX4_readTune_19 : decode cX4_readTune 19 = .ok (.sipush 200, 3) := by decide +kernel
theorem dX4_readTune_22 : decode cX4_readTune 22 = .ok (.if_icmp .ge 127, 3) := by decide +kernel
theorem dX4_readTune_25 : decode cX4_readTune 25 = .ok (.aload_n 0, 1) := by decide +kernel
theorem dX4_readTune_26 : decode cX4_readTune 26 = .ok (.invokevirtual 38, 3) := by decide +kernel
theorem dX4_readTune_29 : decode cX4_readTune 29 = .ok (.bipush 59, 2) := by decide +kernel
theorem dX4_readTune_31 : decode cX4_readTune 31 = .ok (.if_icmp .eq 118, 3) := by decide +kernel
theorem dX4_readTune_34 : decode cX4_readTune 34 = .ok (.aload_n 0, 1) := by decide +kernel
theorem dX4_readTune_35 : decode cX4_readTune 35 = .ok (.bipush 40, 2) := by decide +kernel
theorem dX4_readTune_37 : decode cX4_readTune 37 = .ok (.invokevirtual 34, 3) := by decide +kernel
theorem dX4_readTune_40 : decode cX4_readTune 40 = .ok (.ifCond .eq 26, 3) := by decide +kernel
theorem dX4_readTune_43 : decode cX4_readTune 43 = .ok (.iload_n 2, 1) := by decide +kernel
theorem dX4_readTune_44 : decode cX4_readTune 44 = .ok (.iconst 3, 1) := by decide +kernel
theorem dX4_readTune_45 : decode cX4_readTune 45 = .ok (.if_icmp .lt 5, 3) := by decide +kernel
theorem dX4_readTune_48 : decode cX4_readTune 48 = .ok (.iconst 0, 1) := by decide +kernel
theorem dX4_readTune_49 : decode cX4_readTune 49 = .ok (.ireturn, 1) := by decide +kernel
theorem dX4_readTune_50 : decode cX4_readTune 50 = .ok (.aload_n 0, 1) := by decide +kernel
theorem dX4_readTune_51 : decode cX4_readTune 51 = .ok (.getfield 15, 3) := by decide +kernel
theorem dX4_readTune_54 : decode cX4_readTune 54 = .ok (.iload_n 2, 1) := by decide +kernel
theorem dX4_readTune_55 : decode cX4_readTune 55 = .ok (.aload_n 1, 1) := by decide +kernel
theorem dX4_readTune_56 : decode cX4_readTune 56 = .ok (.getfield 65, 3) := by decide +kernel
theorem dX4_readTune_59 : decode cX4_readTune 59 = .ok (.iastore, 1) := by decide +kernel
theorem dX4_readTune_60 : decode cX4_readTune 60 = .ok (.iinc 2 1, 3) := by decide +kernel
theorem dX4_readTune_63 : decode cX4_readTune 63 = .ok (.goto 80, 3) := by decide +kernel
theorem dX4_readTune_66 : decode cX4_readTune 66 = .ok (.aload_n 0, 1) := by decide +kernel
theorem dX4_readTune_67 : decode cX4_readTune 67 = .ok (.bipush 41, 2) := by decide +kernel
theorem dX4_readTune_69 : decode cX4_readTune 69 = .ok (.invokevirtual 34, 3) := by decide +kernel
theorem dX4_readTune_72 : decode cX4_readTune 72 = .ok (.ifCond .eq 45, 3) := by decide +kernel
theorem dX4_readTune_75 : decode cX4_readTune 75 = .ok (.aload_n 0, 1) := by decide +kernel
theorem dX4_readTune_76 : decode cX4_readTune 76 = .ok (.invokevirtual 68, 3) := by decide +kernel
theorem dX4_readTune_79 : decode cX4_readTune 79 = .ok (.istore 4, 2) := by decide +kernel
theorem dX4_readTune_81 : decode cX4_readTune 81 = .ok (.iload_n 2, 1) := by decide +kernel
theorem dX4_readTune_82 : decode cX4_readTune 82 = .ok (.iconst 1, 1) := by decide +kernel
theorem dX4_readTune_83 : decode cX4_readTune 83 = .ok (.if_icmp .lt 26, 3) := by decide +kernel
theorem dX4_readTune_86 : decode cX4_readTune 86 = .ok (.iload 4, 2) := by decide +kernel
theorem dX4_readTune_88 : decode cX4_readTune 88 = .ok (.iconst 2, 1) := by decide +kernel
theorem dX4_readTune_89 : decode cX4_readTune 89 = .ok (.if_icmp .lt 20, 3) := by decide +kernel
theorem dX4_readTune_92 : decode cX4_readTune 92 = .ok (.aload_n 1, 1) := by decide +kernel
theorem dX4_readTune_93 : decode cX4_readTune 93 = .ok (.aload_n 0, 1) := by decide +kernel
theorem dX4_readTune_94 : decode cX4_readTune 94 = .ok (.getfield 15, 3) := by decide +kernel
theorem dX4_readTune_97 : decode cX4_readTune 97 = .ok (.iload_n 2, 1) := by decide +kernel
theorem dX4_readTune_98 : decode cX4_readTune 98 = .ok (.iconst 1, 1) := by decide +kernel
theorem dX4_readTune_99 : decode cX4_readTune 99 = .ok (.isub, 1) := by decide +kernel
theorem dX4_readTune_100 : decode cX4_readTune 100 = .ok (.iaload, 1) := by decide +kernel
theorem dX4_readTune_101 : decode cX4_readTune 101 = .ok (.iload 4, 2) := by decide +kernel
theorem dX4_readTune_103 : decode cX4_readTune 103 = .ok (.invokevirtual 71, 3) := by decide +kernel
theorem dX4_readTune_106 : decode cX4_readTune 106 = .ok (.ifCond .ne 5, 3) := by decide +kernel
theorem dX4_readTune_109 : decode cX4_readTune 109 = .ok (.iconst 0, 1) := by decide +kernel
theorem dX4_readTune_110 : decode cX4_readTune 110 = .ok (.ireturn, 1) := by decide +kernel
theorem dX4_readTune_111 : decode cX4_readTune 111 = .ok (.iinc 2 (-1), 3) := by decide +kernel
theorem dX4_readTune_114 : decode cX4_readTune 114 = .ok (.goto 29, 3) := by decide +kernel
theorem dX4_readTune_117 : decode cX4_readTune 117 = .ok (.aload_n 0, 1) := by decide +kernel
theorem dX4_readTune_118 : decode cX4_readTune 118 = .ok (.aload_n 1, 1) := by decide +kernel
theorem dX4_readTune_119 : decode cX4_readTune 119 = .ok (.getfield 74, 3) := by decide +kernel
theorem dX4_readTune_122 : decode cX4_readTune 122 = .ok (.invokevirtual 77, 3) := by decide +kernel
theorem dX4_readTune_125 : decode cX4_readTune 125 = .ok (.istore 4, 2) := by decide +kernel
theorem dX4_readTune_127 : decode cX4_readTune 127 = .ok (.iload 4, 2) := by decide +kernel
theorem dX4_readTune_129 : decode cX4_readTune 129 = .ok (.ifCond .lt 12, 3) := by decide +kernel
theorem dX4_readTune_132 : decode cX4_readTune 132 = .ok (.aload_n 1, 1) := by decide +kernel
theorem dX4_readTune_133 : decode cX4_readTune 133 = .ok (.iload 4, 2) := by decide +kernel
theorem dX4_readTune_135 : decode cX4_readTune 135 = .ok (.invokevirtual 81, 3) := by decide +kernel
theorem dX4_readTune_138 : decode cX4_readTune 138 = .ok (.ifCond .ne 5, 3) := by decide +kernel
theorem dX4_readTune_141 : decode cX4_readTune 141 = .ok (.iconst 0, 1) := by decide +kernel
theorem dX4_readTune_142 : decode cX4_readTune 142 = .ok (.ireturn, 1) := by decide +kernel
theorem dX4_readTune_143 : decode cX4_readTune 143 = .ok (.iinc 3 1, 3) := by decide +kernel
theorem dX4_readTune_146 : decode cX4_readTune 146 = .ok (.goto (-128), 3) := by decide +kernel
theorem dX4_readTune_149 : decode cX4_readTune 149 = .ok (.iload_n 2, 1) := by decide +kernel
theorem dX4_readTune_150 : decode cX4_readTune 150 = .ok (.ifCond .ne 14, 3) := by decide +kernel
theorem dX4_readTune_153 : decode cX4_readTune 153 = .ok (.aload_n 1, 1) := by decide +kernel
theorem dX4_readTune_154 : decode cX4_readTune 154 = .ok (.getfield 65, 3) := by decide +kernel
theorem dX4_readTune_157 : decode cX4_readTune 157 = .ok (.ifCond .le 7, 3) := by decide +kernel
theorem dX4_readTune_160 : decode cX4_readTune 160 = .ok (.iconst 1, 1) := by decide +kernel
theorem dX4_readTune_161 : decode cX4_readTune 161 = .ok (.goto 4, 3) := by decide +kernel
theorem dX4_readTune_164 : decode cX4_readTune 164 = .ok (.iconst 0, 1) := by decide +kernel
theorem dX4_readTune_165 : decode cX4_readTune 165 = .ok (.ireturn, 1) := by decide +kernel
theorem dX4_readSet_0 : decode cX4_readSet 0 = .ok (.aload_n 0, 1) := by decide +kernel
theorem dX4_readSet_1 : decode cX4_readSet 1 = .ok (.bipush 46, 2) := by decide +kernel
theorem dX4_readSet_3 : decode cX4_readSet 3 = .ok (.invokevirtual 34, 3) := by decide +kernel
theorem dX4_readSet_6 : decode cX4_readSet 6 = .ok (.ifCond .eq 5, 3) := by decide +kernel
theorem dX4_readSet_9 : decode cX4_readSet 9 = .ok (.iconst 0, 1) := by decide +kernel
theorem dX4_readSet_10 : decode cX4_readSet 10 = .ok (.ireturn, 1) := by decide +kernel
theorem dX4_readSet_11 : decode cX4_readSet 11 = .ok (.aload_n 0, 1) := by decide +kernel
theorem dX4_readSet_12 : decode cX4_readSet 12 = .ok (.bipush 91, 2) := by decide +kernel
theorem dX4_readSet_14 : decode cX4_readSet 14 = .ok (.invokevirtual 34, 3) := by decide +kernel
theorem dX4_readSet_17 : decode cX4_readSet 17 = .ok (.ifCond .ne 21, 3) := by decide +kernel
theorem dX4_readSet_20 : decode cX4_readSet 20 = .ok (.aload_n 0, 1) := by decide +kernel
theorem dX4_readSet_21 : decode cX4_readSet 21 = .ok (.iload_n 1, 1) := by decide +kernel
theorem dX4_readSet_22 : decode cX4_readSet 22 = .ok (.invokevirtual 84, 3) := by decide +kernel
theorem dX4_readSet_25 : decode cX4_readSet 25 = .ok (.istore_n 2, 1) := by decide +kernel
theorem dX4_readSet_26 : decode cX4_readSet 26 = .ok (.iload_n 2, 1) := by decide +kernel
theorem dX4_readSet_27 : decode cX4_readSet 27 = .ok (.ifCond .ge 7, 3) := by decide +kernel
theorem dX4_readSet_30 : decode cX4_readSet 30 = .ok (.iconst (-1), 1) := by decide +kernel
theorem dX4_readSet_31 : decode cX4_readSet 31 = .ok (.goto 6, 3) := by decide +kernel
theorem dX4_readSet_34 : decode cX4_readSet 34 = .ok (.iconst 1, 1) := by decide +kernel
theorem dX4_readSet_35 : decode cX4_readSet 35 = .ok (.iload_n 2, 1) := by decide +kernel
theorem dX4_readSet_36 : decode cX4_readSet 36 = .ok (.ishl, 1) := by decide +kernel
theorem dX4_readSet_37 : decode cX4_readSet 37 = .ok (.ireturn, 1) := by decide +kernel
theorem dX4_readSet_38 : decode cX4_readSet 38 = .ok (.iconst 0, 1) := by decide +kernel
theorem dX4_readSet_39 : decode cX4_readSet 39 = .ok (.istore_n 2, 1) := by decide +kernel
theorem dX4_readSet_40 : decode cX4_readSet 40 = .ok (.iconst 0, 1) := by decide +kernel
theorem dX4_readSet_41 : decode cX4_readSet 41 = .ok (.istore_n 3, 1) := by decide +kernel
theorem dX4_readSet_42 : decode cX4_readSet 42 = .ok (.iload_n 3, 1) := by decide +kernel
theorem dX4_readSet_43 : decode cX4_readSet 43 = .ok (.bipush 8, 2) := by decide +kernel
theorem dX4_readSet_45 : decode cX4_readSet 45 = .ok (.if_icmp .ge 46, 3) := by decide +kernel
theorem dX4_readSet_48 : decode cX4_readSet 48 = .ok (.aload_n 0, 1) := by decide +kernel
theorem dX4_readSet_49 : decode cX4_readSet 49 = .ok (.invokevirtual 38, 3) := by decide +kernel
theorem dX4_readSet_52 : decode cX4_readSet 52 = .ok (.bipush 93, 2) := by decide +kernel
theorem dX4_readSet_54 : decode cX4_readSet 54 = .ok (.if_icmp .eq 37, 3) := by decide +kernel
theorem dX4_readSet_57 : decode cX4_readSet 57 = .ok (.aload_n 0, 1) := by decide +kernel
theorem dX4_readSet_58 : decode cX4_readSet 58 = .ok (.iload_n 1, 1) := by decide +kernel
theorem dX4_readSet_59 : decode cX4_readSet 59 = .ok (.invokevirtual 84, 3) := by decide +kernel
theorem dX4_readSet_62 : decode cX4_readSet 62 = .ok (.istore 4, 2) := by decide +kernel
theorem dX4_readSet_64 : decode cX4_readSet 64 = .ok (.iload 4, 2) := by decide +kernel
theorem dX4_readSet_66 : decode cX4_readSet 66 = .ok (.ifCond .lt 10, 3) := by decide +kernel
theorem dX4_readSet_69 : decode cX4_readSet 69 = .ok (.iload_n 2, 1) := by decide +kernel
theorem dX4_readSet_70 : decode cX4_readSet 70 = .ok (.iload 4, 2) := by decide +kernel
theorem dX4_readSet_72 : decode cX4_readSet 72 = .ok (.ishr, 1) := by decide +kernel
theorem dX4_readSet_73 : decode cX4_readSet 73 = .ok (.ifCond .eq 5, 3) := by decide +kernel
theorem dX4_readSet_76 : decode cX4_readSet 76 = .ok (.iconst (-1), 1) := by decide +kernel
theorem dX4_readSet_77 : decode cX4_readSet 77 = .ok (.ireturn, 1) := by decide +kernel
theorem dX4_readSet_78 : decode cX4_readSet 78 = .ok (.iload_n 2, 1) := by decide +kernel
theorem dX4_readSet_79 : decode cX4_readSet 79 = .ok (.iconst 1, 1) := by decide +kernel
theorem dX4_readSet_80 : decode cX4_readSet 80 = .ok (.iload 4, 2) := by decide +kernel
theorem dX4_readSet_82 : decode cX4_readSet 82 = .ok (.ishl, 1) := by decide +kernel
theorem dX4_readSet_83 : decode cX4_readSet 83 = .ok (.ior, 1) := by decide +kernel
theorem dX4_readSet_84 : decode cX4_readSet 84 = .ok (.istore_n 2, 1) := by decide +kernel
theorem dX4_readSet_85 : decode cX4_readSet 85 = .ok (.iinc 3 1, 3) := by decide +kernel
theorem dX4_readSet_88 : decode cX4_readSet 88 = .ok (.goto (-46), 3) := by decide +kernel
theorem dX4_readSet_91 : decode cX4_readSet 91 = .ok (.aload_n 0, 1) := by decide +kernel
theorem dX4_readSet_92 : decode cX4_readSet 92 = .ok (.bipush 93, 2) := by decide +kernel
theorem dX4_readSet_94 : decode cX4_readSet 94 = .ok (.invokevirtual 34, 3) := by decide +kernel
theorem dX4_readSet_97 : decode cX4_readSet 97 = .ok (.ifCond .eq 15, 3) := by decide +kernel
theorem dX4_readSet_100 : decode cX4_readSet 100 = .ok (.iload_n 2, 1) := by decide +kernel
theorem dX4_readSet_101 : decode cX4_readSet 101 = .ok (.invokestatic 87, 3) := by decide +kernel
theorem dX4_readSet_104 : decode cX4_readSet 104 = .ok (.iconst 2, 1) := by decide +kernel
theorem dX4_readSet_105 : decode cX4_readSet 105 = .ok (.if_icmp .lt 7, 3) := by decide +kernel
theorem dX4_readSet_108 : decode cX4_readSet 108 = .ok (.iload_n 2, 1) := by decide +kernel
theorem dX4_readSet_109 : decode cX4_readSet 109 = .ok (.goto 4, 3) := by decide +kernel
theorem dX4_readSet_112 : decode cX4_readSet 112 = .ok (.iconst (-1), 1) := by decide +kernel
theorem dX4_readSet_113 : decode cX4_readSet 113 = .ok (.ireturn, 1) := by decide +kernel
theorem dX4_readBellLetter_0 : decode cX4_readBellLetter 0 = .ok (.aload_n 0, 1) := by decide +kernel
theorem dX4_readBellLetter_1 : decode cX4_readBellLetter 1 = .ok (.invokevirtual 38, 3) := by decide +kernel
theorem dX4_readBellLetter_4 : decode cX4_readBellLetter 4 = .ok (.bipush 97, 2) := by decide +kernel
theorem dX4_readBellLetter_6 : decode cX4_readBellLetter 6 = .ok (.isub, 1) := by decide +kernel
theorem dX4_readBellLetter_7 : decode cX4_readBellLetter 7 = .ok (.istore_n 2, 1) := by decide +kernel
theorem dX4_readBellLetter_8 : decode cX4_readBellLetter 8 = .ok (.aload_n 0, 1) := by decide +kernel
theorem dX4_readBellLetter_9 : decode cX4_readBellLetter 9 = .ok (.dup, 1) := by decide +kernel
theorem dX4_readBellLetter_10 : decode cX4_readBellLetter 10 = .ok (.getfield 27, 3) := by decide +kernel
theorem dX4_readBellLetter_13 : decode cX4_readBellLetter 13 = .ok (.iconst 1, 1) := by decide +kernel
theorem dX4_readBellLetter_14 : decode cX4_readBellLetter 14 = .ok (.iadd, 1) := by decide +kernel
theorem dX4_readBellLetter_15 : decode cX4_readBellLetter 15 = .ok (.putfield 27, 3) := by decide +kernel
theorem dX4_readBellLetter_18 : decode cX4_readBellLetter 18 = .ok (.iload_n 2, 1) := by decide +kernel
theorem dX4_readBellLetter_19 : decode cX4_readBellLetter 19 = .ok (.ifCond .lt 12, 3) := by decide +kernel
theorem dX4_readBellLetter_22 : decode cX4_readBellLetter 22 = .ok (.iload_n 2, 1) := by decide +kernel
theorem dX4_readBellLetter_23 : decode cX4_readBellLetter 23 = .ok (.iload_n 1, 1) := by decide +kernel
theorem dX4_readBellLetter_24 : decode cX4_readBellLetter 24 = .ok (.if_icmp .ge 7, 3) := by decide +kernel
theorem dX4_readBellLetter_27 : decode cX4_readBellLetter 27 = .ok (.iload_n 2, 1) := by decide +kernel
theorem dX4_readBellLetter_28 : decode cX4_readBellLetter 28 = .ok (.goto 4, 3) := by decide +kernel
theorem dX4_readBellLetter_31 : decode cX4_readBellLetter 31 = .ok (.iconst (-1), 1) := by decide +kernel
theorem dX4_readBellLetter_32 : decode cX4_readBellLetter 32 = .ok (.ireturn, 1) := by decide +kernel
theorem dX4_readNumber_0 : decode cX4_readNumber 0 = .ok (.aload_n 0, 1) := by decide +kernel
theorem dX4_readNumber_1 : decode cX4_readNumber 1 = .ok (.invokevirtual 68, 3) := by decide +kernel
theorem dX4_readNumber_4 : decode cX4_readNumber 4 = .ok (.istore_n 1, 1) := by decide +kernel
theorem dX4_readNumber_5 : decode cX4_readNumber 5 = .ok (.iload_n 1, 1) := by decide +kernel
theorem dX4_readNumber_6 : decode cX4_readNumber 6 = .ok (.ifCond .ge 5, 3) := by decide +kernel
theorem dX4_readNumber_9 : decode cX4_readNumber 9 = .ok (.iconst (-1), 1) := by decide +kernel
theorem dX4_readNumber_10 : decode cX4_readNumber 10 = .ok (.ireturn, 1) := by decide +kernel
theorem dX4_readNumber_11 : decode cX4_readNumber 11 = .ok (.aload_n 0, 1) := by decide +kernel
theorem dX4_readNumber_12 : decode cX4_readNumber 12 = .ok (.invokevirtual 68, 3) := by decide +kernel
theorem dX4_readNumber_15 : decode cX4_readNumber 15 = .ok (.istore_n 2, 1) := by decide +kernel
theorem dX4_readNumber_16 : decode cX4_readNumber 16 = .ok (.iload_n 2, 1) := by decide +kernel
theorem dX4_readNumber_17 : decode cX4_readNumber 17 = .ok (.ifCond .ge 7, 3) := by decide +kernel
theorem dX4_readNumber_20 : decode cX4_readNumber 20 = .ok (.iload_n 1, 1) := by decide +kernel
theorem dX4_readNumber_21 : decode cX4_readNumber 21 = .ok (.goto 9, 3) := by decide +kernel
theorem dX4_readNumber_24 : decode cX4_readNumber 24 = .ok (.iload_n 1, 1) := by decide +kernel
theorem dX4_readNumber_25 : decode cX4_readNumber 25 = .ok (.bipush 10, 2) := by decide +kernel
theorem dX4_readNumber_27 : decode cX4_readNumber 27 = .ok (.imul, 1) := by decide +kernel
theorem dX4_readNumber_28 : decode cX4_readNumber 28 = .ok (.iload_n 2, 1) := by decide +kernel
theorem dX4_readNumber_29 : decode cX4_readNumber 29 = .ok (.iadd, 1) := by decide +kernel
theorem dX4_readNumber_30 : decode cX4_readNumber 30 = .ok (.ireturn, 1) := by decide +kernel
theorem dX4_readFigure_0 : decode cX4_readFigure 0 = .ok (.aload_n 0, 1) := by decide +kernel
theorem dX4_readFigure_1 : decode cX4_readFigure 1 = .ok (.invokevirtual 38, 3) := by decide +kernel
theorem dX4_readFigure_4 : decode cX4_readFigure 4 = .ok (.bipush 48, 2) := by decide +kernel
theorem dX4_readFigure_6 : decode cX4_readFigure 6 = .ok (.isub, 1) := by decide +kernel
theorem dX4_readFigure_7 : decode cX4_readFigure 7 = .ok (.istore_n 1, 1) := by decide +kernel
theorem dX4_readFigure_8 : decode cX4_readFigure 8 = .ok (.iload_n 1, 1) := by decide +kernel
theorem dX4_readFigure_9 : decode cX4_readFigure 9 = .ok (.ifCond .lt 9, 3) := by decide +kernel
theorem dX4_readFigure_12 : decode cX4_readFigure 12 = .ok (.iload_n 1, 1) := by decide +kernel
theorem dX4_readFigure_13 : decode cX4_readFigure 13 = .ok (.bipush 9, 2) := by decide +kernel
theorem dX4_readFigure_15 : decode cX4_readFigure 15 = .ok (.if_icmp .le 5, 3) := by decide +kernel
theorem dX4_readFigure_18 : decode cX4_readFigure 18 = .ok (.iconst (-1), 1) := by decide +kernel
theorem dX4_readFigure_19 : decode cX4_readFigure 19 = .ok (.ireturn, 1) := by decide +kernel
theorem dX4_readFigure_20 : decode cX4_readFigure 20 = .ok (.aload_n 0, 1) := by decide +kernel
theorem dX4_readFigure_21 : decode cX4_readFigure 21 = .ok (.dup, 1) := by decide +kernel
theorem dX4_readFigure_22 : decode cX4_readFigure 22 = .ok (.getfield 27, 3) := by decide +kernel
theorem dX4_readFigure_25 : decode cX4_readFigure 25 = .ok (.iconst 1, 1) := by decide +kernel
theorem dX4_readFigure_26 : decode cX4_readFigure 26 = .ok (.iadd, 1) := by decide +kernel
theorem dX4_readFigure_27 : decode cX4_readFigure 27 = .ok (.putfield 27, 3) := by decide +kernel
theorem dX4_readFigure_30 : decode cX4_readFigure 30 = .ok (.iload_n 1, 1) := by decide +kernel
theorem dX4_readFigure_31 : decode cX4_readFigure 31 = .ok (.ireturn, 1) := by decide +kernel
theorem dX4_accept_0 : decode cX4_accept 0 = .ok (.aload_n 0, 1) := by decide +kernel
theorem dX4_accept_1 : decode cX4_accept 1 = .ok (.invokevirtual 38, 3) := by decide +kernel
theorem dX4_accept_4 : decode cX4_accept 4 = .ok (.iload_n 1, 1) := by decide +kernel
theorem dX4_accept_5 : decode cX4_accept 5 = .ok (.if_icmp .eq 5, 3) := by decide +kernel
theorem dX4_accept_8 : decode cX4_accept 8 = .ok (.iconst 0, 1) := by decide +kernel
theorem dX4_accept_9 : decode cX4_accept 9 = .ok (.ireturn, 1) := by decide +kernel
theorem dX4_accept_10 : decode cX4_accept 10 = .ok (.aload_n 0, 1) := by decide +kernel
theorem dX4_accept_11 : decode cX4_accept 11 = .ok (.dup, 1) := by decide +kernel
theorem dX4_accept_12 : decode cX4_accept 12 = .ok (.getfield 27, 3) := by decide +kernel
theorem dX4_accept_15 : decode cX4_accept 15 = .ok (.iconst 1, 1) := by decide +kernel
theorem dX4_accept_16 : decode cX4_accept 16 = .ok (.iadd, 1) := by decide +kernel
theorem dX4_accept_17 : decode cX4_accept 17 = .ok (.putfield 27, 3) := by decide +kernel
theorem dX4_accept_20 : decode cX4_accept 20 = .ok (.iconst 1, 1) := by decide +kernel
theorem dX4_accept_21 : decode cX4_accept 21 = .ok (.ireturn, 1) := by decide +kernel
theorem dX4_peek_0 : decode cX4_peek 0 = .ok (.aload_n 0, 1) := by decide +kernel
theorem dX4_peek_1 : decode cX4_peek 1 = .ok (.getfield 27, 3) := by decide +kernel
theorem dX4_peek_4 : decode cX4_peek 4 = .ok (.ifCond .lt 26, 3) := by decide +kernel
theorem dX4_peek_7 : decode cX4_peek 7 = .ok (.aload_n 0, 1) := by decide +kernel
theorem dX4_peek_8 : decode cX4_peek 8 = .ok (.getfield 27, 3) := by decide +kernel
theorem dX4_peek_11 : decode cX4_peek 11 = .ok (.aload_n 0, 1) := by decide +kernel
theorem dX4_peek_12 : decode cX4_peek 12 = .ok (.getfield 18, 3) := by decide +kernel
theorem dX4_peek_15 : decode cX4_peek 15 = .ok (.if_icmp .ge 15, 3) := by decide +kernel
theorem dX4_peek_18 : decode cX4_peek 18 = .ok (.aload_n 0, 1) := by decide +kernel
theorem dX4_peek_19 : decode cX4_peek 19 = .ok (.getfield 9, 3) := by decide +kernel
theorem dX4_peek_22 : decode cX4_peek 22 = .ok (.aload_n 0, 1) := by decide +kernel
theorem dX4_peek_23 : decode cX4_peek 23 = .ok (.getfield 27, 3) := by decide +kernel
theorem dX4_peek_26 : decode cX4_peek 26 = .ok (.iaload, 1) := by decide +kernel
theorem dX4_peek_27 : decode cX4_peek 27 = .ok (.goto 4, 3) := by decide +kernel
theorem dX4_peek_30 : decode cX4_peek 30 = .ok (.iconst 0, 1) := by decide +kernel
theorem dX4_peek_31 : decode cX4_peek 31 = .ok (.ireturn, 1) := by decide +kernel
theorem dX5_init_0 : decode cX5_init 0 = .ok (.aload_n 0, 1) := by decide +kernel
theorem dX5_init_1 : decode cX5_init 1 = .ok (.invokespecial 3, 3) := by decide +kernel
theorem dX5_init_4 : decode cX5_init 4 = .ok (.aload_n 0, 1) := by decide +kernel
theorem dX5_init_5 : decode cX5_init 5 = .ok (.bipush 8, 2) := by decide +kernel
theorem dX5_init_7 : decode cX5_init 7 = .ok (.newarray .int, 2) := by decide +kernel
theorem dX5_init_9 : decode cX5_init 9 = .ok (.putfield 9, 3) := by decide +kernel
theorem dX5_init_12 : decode cX5_init 12 = .ok (.aload_n 0, 1) := by decide +kernel
theorem dX5_init_13 : decode cX5_init 13 = .ok (.bipush 8, 2) := by decide +kernel
theorem dX5_init_15 : decode cX5_init 15 = .ok (.newarray .int, 2) := by decide +kernel
theorem dX5_init_17 : decode cX5_init 17 = .ok (.putfield 15, 3) := by decide +kernel
theorem dX5_init_20 : decode cX5_init 20 = .ok (.aload_n 0, 1) := by decide +kernel
theorem dX5_init_21 : decode cX5_init 21 = .ok (.bipush 8, 2) := by decide +kernel
theorem dX5_init_23 : decode cX5_init 23 = .ok (.newarray .int, 2) := by decide +kernel
theorem dX5_init_25 : decode cX5_init 25 = .ok (.putfield 18, 3) := by decide +kernel
theorem dX5_init_28 : decode cX5_init 28 = .ok (.aload_n 0, 1) := by decide +kernel
theorem dX5_init_29 : decode cX5_init 29 = .ok (.bipush 16, 2) := by decide +kernel
theorem dX5_init_31 : decode cX5_init 31 = .ok (.putfield 21, 3) := by decide +kernel
theorem dX5_init_34 : decode cX5_init 34 = .ok (.aload_n 0, 1) := by decide +kernel
theorem dX5_init_35 : decode cX5_init 35 = .ok (.iconst 1, 1) := by decide +kernel
theorem dX5_init_36 : decode cX5_init 36 = .ok (.putfield 25, 3) := by decide +kernel
theorem dX5_init_39 : decode cX5_init 39 = .ok (.aload_n 0, 1) := by decide +kernel
theorem dX5_init_40 : decode cX5_init 40 = .ok (.bipush 32, 2) := by decide +kernel
theorem dX5_init_42 : decode cX5_init 42 = .ok (.newarray .int, 2) := by decide +kernel
theorem dX5_init_44 : decode cX5_init 44 = .ok (.putfield 28, 3) := by decide +kernel
theorem dX5_init_47 : decode cX5_init 47 = .ok (.return_, 1) := by decide +kernel
theorem dX5_clear_0 : decode cX5_clear 0 = .ok (.aload_n 0, 1) := by decide +kernel
theorem dX5_clear_1 : decode cX5_clear 1 = .ok (.iconst 0, 1) := by decide +kernel
theorem dX5_clear_2 : decode cX5_clear 2 = .ok (.putfield 31, 3) := by decide +kernel
theorem dX5_clear_5 : decode cX5_clear 5 = .ok (.aload_n 0, 1) := by decide +kernel
theorem dX5_clear_6 : decode cX5_clear 6 = .ok (.bipush 16, 2) := by decide +kernel
theorem dX5_clear_8 : decode cX5_clear 8 = .ok (.putfield 21, 3) := by decide +kernel
theorem dX5_clear_11 : decode cX5_clear 11 = .ok (.aload_n 0, 1) := by decide +kernel
theorem dX5_clear_12 : decode cX5_clear 12 = .ok (.iconst 1, 1) := by decide +kernel
theorem dX5_clear_13 : decode cX5_clear 13 = .ok (.putfield 25, 3) := by decide +kernel
theorem dX5_clear_16 : decode cX5_clear 16 = .ok (.aload_n 0, 1) := by decide +kernel
theorem dX5_clear_17 : decode cX5_clear 17 = .ok (.iconst 0, 1) := by decide +kernel
theorem dX5_clear_18 : decode cX5_clear 18 = .ok (.putfield 34, 3) := by decide +kernel
theorem dX5_clear_21 : decode cX5_clear 21 = .ok (.aload_n 0, 1) := by decide +kernel
theorem dX5_clear_22 : decode cX5_clear 22 = .ok (.iconst 0, 1) := by decide +kernel
theorem dX5_clear_23 : decode cX5_clear 23 = .ok (.putfield 38, 3) := by decide +kernel
theorem dX5_clear_26 : decode cX5_clear 26 = .ok (.return_, 1) := by decide +kernel
theorem dX5_addBell_0 : decode cX5_addBell 0 = .ok (.aload_n 0, 1) := by decide +kernel
theorem dX5_addBell_1 : decode cX5_addBell 1 = .ok (.getfield 31, 3) := by decide +kernel
theorem dX5_addBell_4 : decode cX5_addBell 4 = .ok (.bipush 8, 2) := by decide +kernel
theorem dX5_addBell_6 : decode cX5_addBell 6 = .ok (.if_icmp .ge 23, 3) := by decide +kernel
theorem dX5_addBell_9 : decode cX5_addBell 9 = .ok (.iload_n 1, 1) := by decide +kernel
theorem dX5_addBell_10 : decode cX5_addBell 10 = .ok (.ifCond .lt 19, 3) := by decide +kernel
theorem dX5_addBell_13 : decode cX5_addBell 13 = .ok (.iload_n 1, 1) := by decide +kernel
theorem dX5_addBell_14 : decode cX5_addBell 14 = .ok (.bipush 40, 2) := by decide +kernel
theorem dX5_addBell_16 : decode cX5_addBell 16 = .ok (.if_icmp .gt 13, 3) := by decide +kernel
theorem dX5_addBell_19 : decode cX5_addBell 19 = .ok (.iload_n 2, 1) := by decide +kernel
theorem dX5_addBell_20 : decode cX5_addBell 20 = .ok (.iconst 1, 1) := by decide +kernel
theorem dX5_addBell_21 : decode cX5_addBell 21 = .ok (.if_icmp .lt 8, 3) := by decide +kernel
theorem dX5_addBell_24 : decode cX5_addBell 24 = .ok (.iload_n 2, 1) := by decide +kernel
theorem dX5_addBell_25 : decode cX5_addBell 25 = .ok (.iconst 2, 1) := by decide +kernel
theorem dX5_addBell_26 : decode cX5_addBell 26 = .ok (.if_icmp .le 5, 3) := by decide +kernel
theorem dX5_addBell_29 : decode cX5_addBell 29 = .ok (.iconst 0, 1) := by decide +kernel
theorem dX5_addBell_30 : decode cX5_addBell 30 = .ok (.ireturn, 1) := by decide +kernel
theorem dX5_addBell_31 : decode cX5_addBell 31 = .ok (.aload_n 0, 1) := by decide +kernel
theorem dX5_addBell_32 : decode cX5_addBell 32 = .ok (.getfield 9, 3) := by decide +kernel
theorem dX5_addBell_35 : decode cX5_addBell 35 = .ok (.aload_n 0, 1) := by decide +kernel
theorem dX5_addBell_36 : decode cX5_addBell 36 = .ok (.getfield 31, 3) := by decide +kernel
theorem dX5_addBell_39 : decode cX5_addBell 39 = .ok (.iload_n 1, 1) := by decide +kernel
theorem dX5_addBell_40 : decode cX5_addBell 40 = .ok (.iastore, 1) := by decide +kernel
theorem dX5_addBell_41 : decode cX5_addBell 41 = .ok (.aload_n 0, 1) := by decide +kernel
theorem dX5_addBell_42 : decode cX5_addBell 42 = .ok (.getfield 15, 3) := by decide +kernel
theorem dX5_addBell_45 : decode cX5_addBell 45 = .ok (.aload_n 0, 1) := by decide +kernel
theorem dX5_addBell_46 : decode cX5_addBell 46 = .ok (.getfield 31, 3) := by decide +kernel
theorem dX5_addBell_49 : decode cX5_addBell 49 = .ok (.iload_n 2, 1) := by decide +kernel
theorem dX5_addBell_50 : decode cX5_addBell 50 = .ok (.iastore, 1) := by decide +kernel
theorem dX5_addBell_51 : decode cX5_addBell 51 = .ok (.aload_n 0, 1) := by decide +kernel
theorem dX5_addBell_52 : decode cX5_addBell 52 = .ok (.getfield 18, 3) := by decide +kernel
theorem dX5_addBell_55 : decode cX5_addBell 55 = .ok (.aload_n 0, 1) := by decide +kernel
theorem dX5_addBell_56 : decode cX5_addBell 56 = .ok (.getfield 31, 3) := by decide +kernel
theorem dX5_addBell_59 : decode cX5_addBell 59 = .ok (.iconst 0, 1) := by decide +kernel
theorem dX5_addBell_60 : decode cX5_addBell 60 = .ok (.iastore, 1) := by decide +kernel
theorem dX5_addBell_61 : decode cX5_addBell 61 = .ok (.iconst 0, 1) := by decide +kernel
theorem dX5_addBell_62 : decode cX5_addBell 62 = .ok (.istore_n 3, 1) := by decide +kernel
theorem dX5_addBell_63 : decode cX5_addBell 63 = .ok (.iload_n 3, 1) := by decide +kernel
theorem dX5_addBell_64 : decode cX5_addBell 64 = .ok (.aload_n 0, 1) := by decide +kernel
theorem dX5_addBell_65 : decode cX5_addBell 65 = .ok (.getfield 31, 3) := by decide +kernel
theorem dX5_addBell_68 : decode cX5_addBell 68 = .ok (.if_icmp .ge 63, 3) := by decide +kernel
theorem dX5_addBell_71 : decode cX5_addBell 71 = .ok (.sipush 3142, 3) := by decide +kernel
theorem dX5_addBell_74 : decode cX5_addBell 74 = .ok (.aload_n 0, 1) := by decide +kernel
theorem dX5_addBell_75 : decode cX5_addBell 75 = .ok (.getfield 9, 3) := by decide +kernel
theorem dX5_addBell_78 : decode cX5_addBell 78 = .ok (.iload_n 3, 1) := by decide +kernel
theorem dX5_addBell_79 : decode cX5_addBell 79 = .ok (.iaload, 1) := by decide +kernel
theorem dX5_addBell_80 : decode cX5_addBell 80 = .ok (.iload_n 1, 1) := by decide +kernel
theorem dX5_addBell_81 : decode cX5_addBell 81 = .ok (.isub, 1) := by decide +kernel
theorem dX5_addBell_82 : decode cX5_addBell 82 = .ok (.invokestatic 41, 3) := by decide +kernel
theorem dX5_addBell_85 : decode cX5_addBell 85 = .ok (.bipush 12, 2) := by decide +kernel
theorem dX5_addBell_87 : decode cX5_addBell 87 = .ok (.irem, 1) := by decide +kernel
theorem dX5_addBell_88 : decode cX5_addBell 88 = .ok (.ishr, 1) := by decide +kernel
theorem dX5_addBell_89 : decode cX5_addBell 89 = .ok (.iconst 1, 1) := by decide +kernel
theorem dX5_addBell_90 : decode cX5_addBell 90 = .ok (.iand, 1) := by decide +kernel
theorem dX5_addBell_91 : decode cX5_addBell 91 = .ok (.iconst 1, 1) := by decide +kernel
theorem dX5_addBell_92 : decode cX5_addBell 92 = .ok (.if_icmp .ne 33, 3) := by decide +kernel
theorem dX5_addBell_95 : decode cX5_addBell 95 = .ok (.aload_n 0, 1) := by decide +kernel
theorem dX5_addBell_96 : decode cX5_addBell 96 = .ok (.getfield 18, 3) := by decide +kernel
theorem dX5_addBell_99 : decode cX5_addBell 99 = .ok (.iload_n 3, 1) := by decide +kernel
theorem dX5_addBell_100 : decode cX5_addBell 100 = .ok (.dup2, 1) := by decide +kernel
theorem dX5_addBell_101 : decode cX5_addBell 101 = .ok (.iaload, 1) := by decide +kernel
theorem dX5_addBell_102 : decode cX5_addBell 102 = .ok (.iconst 1, 1) := by decide +kernel
theorem dX5_addBell_103 : decode cX5_addBell 103 = .ok (.aload_n 0, 1) := by decide +kernel
theorem dX5_addBell_104 : decode cX5_addBell 104 = .ok (.getfield 31, 3) := by decide +kernel
theorem dX5_addBell_107 : decode cX5_addBell 107 = .ok (.ishl, 1) := by decide +kernel
theorem dX5_addBell_108 : decode cX5_addBell 108 = .ok (.ior, 1) := by decide +kernel
theorem dX5_addBell_109 : decode cX5_addBell 109 = .ok (.iastore, 1) := by decide +kernel
theorem dX5_addBell_110 : decode cX5_addBell 110 = .ok (.aload_n 0, 1) := by decide +kernel
theorem dX5_addBell_111 : decode cX5_addBell 111 = .ok (.getfield 18, 3) := by decide +kernel
theorem dX5_addBell_114 : decode cX5_addBell 114 = .ok (.aload_n 0, 1) := by decide +kernel
theorem dX5_addBell_115 : decode cX5_addBell 115 = .ok (.getfield 31, 3) := by decide +kernel
theorem dX5_addBell_118 : decode cX5_addBell 118 = .ok (.dup2, 1) := by decide +kernel
theorem dX5_addBell_119 : decode cX5_addBell 119 = .ok (.iaload, 1) := by decide +kernel
theorem dX5_addBell_120 : decode cX5_addBell 120 = .ok (.iconst 1, 1) := by decide +kernel
theorem dX5_addBell_121 : decode cX5_addBell 121 = .ok (.iload_n 3, 1) := by decide +kernel
theorem dX5_addBell_122 : decode cX5_addBell 122 = .ok (.ishl, 1) := by decide +kernel
theorem dX5_addBell_123 : decode cX5_addBell 123 = .ok (.ior, 1) := by decide +kernel
theorem dX5_addBell_124 : decode cX5_addBell 124 = .ok (.iastore, 1) := by decide +kernel
theorem dX5_addBell_125 : decode cX5_addBell 125 = .ok (.iinc 3 1, 3) := by decide +kernel
theorem dX5_addBell_128 : decode cX5_addBell 128 = .ok (.goto (-65), 3) := by decide +kernel
theorem dX5_addBell_131 : decode cX5_addBell 131 = .ok (.aload_n 0, 1) := by decide +kernel
theorem dX5_addBell_132 : decode cX5_addBell 132 = .ok (.dup, 1) := by decide +kernel
theorem dX5_addBell_133 : decode cX5_addBell 133 = .ok (.getfield 31, 3) := by decide +kernel
theorem dX5_addBell_136 : decode cX5_addBell 136 = .ok (.iconst 1, 1) := by decide +kernel
theorem dX5_addBell_137 : decode cX5_addBell 137 = .ok (.iadd, 1) := by decide +kernel
theorem dX5_addBell_138 : decode cX5_addBell 138 = .ok (.putfield 31, 3) := by decide +kernel
theorem dX5_addBell_141 : decode cX5_addBell 141 = .ok (.iconst 1, 1) := by decide +kernel
theorem dX5_addBell_142 : decode cX5_addBell 142 = .ok (.ireturn, 1) := by decide +kernel
theorem dX5_tellRows_0 : decode cX5_tellRows 0 = .ok (.iload_n 1, 1) := by decide +kernel
theorem dX5_tellRows_1 : decode cX5_tellRows 1 = .ok (.iconst 2, 1) := by decide +kernel
theorem dX5_tellRows_2 : decode cX5_tellRows 2 = .ok (.if_icmp .lt 9, 3) := by decide +kernel
theorem dX5_tellRows_5 : decode cX5_tellRows 5 = .ok (.iload_n 1, 1) := by decide +kernel
theorem dX5_tellRows_6 : decode cX5_tellRows 6 = .ok (.bipush 32, 2) := by decide +kernel
theorem dX5_tellRows_8 : decode cX5_tellRows 8 = .ok (.if_icmp .le 5, 3) := by decide +kernel
theorem dX5_tellRows_11 : decode cX5_tellRows 11 = .ok (.iconst 0, 1) := by decide +kernel
theorem dX5_tellRows_12 : decode cX5_tellRows 12 = .ok (.ireturn, 1) := by decide +kernel
theorem dX5_tellRows_13 : decode cX5_tellRows 13 = .ok (.aload_n 0, 1) := by decide +kernel
theorem dX5_tellRows_14 : decode cX5_tellRows 14 = .ok (.iload_n 1, 1) := by decide +kernel
theorem dX5_tellRows_15 : decode cX5_tellRows 15 = .ok (.putfield 21, 3) := by decide +kernel
theorem dX5_tellRows_18 : decode cX5_tellRows 18 = .ok (.iconst 1, 1) := by decide +kernel
theorem dX5_tellRows_19 : decode cX5_tellRows 19 = .ok (.ireturn, 1) := by decide +kernel
theorem dX5_tellRest_0 : decode cX5_tellRest 0 = .ok (.iload_n 1, 1) := by decide +kernel
theorem dX5_tellRest_1 : decode cX5_tellRest 1 = .ok (.ifCond .lt 9, 3) := by decide +kernel
theorem dX5_tellRest_4 : decode cX5_tellRest 4 = .ok (.iload_n 1, 1) := by decide +kernel
theorem dX5_tellRest_5 : decode cX5_tellRest 5 = .ok (.bipush 6, 2) := by decide +kernel
theorem dX5_tellRest_7 : decode cX5_tellRest 7 = .ok (.if_icmp .le 5, 3) := by decide +kernel
theorem dX5_tellRest_10 : decode cX5_tellRest 10 = .ok (.iconst 0, 1) := by decide +kernel
theorem dX5_tellRest_11 : decode cX5_tellRest 11 = .ok (.ireturn, 1) := by decide +kernel
theorem dX5_tellRest_12 : decode cX5_tellRest 12 = .ok (.aload_n 0, 1) := by decide +kernel
theorem dX5_tellRest_13 : decode cX5_tellRest 13 = .ok (.iload_n 1, 1) := by decide +kernel
theorem dX5_tellRest_14 : decode cX5_tellRest 14 = .ok (.putfield 25, 3) := by decide +kernel
theorem dX5_tellRest_17 : decode cX5_tellRest 17 = .ok (.iconst 1, 1) := by decide +kernel
theorem dX5_tellRest_18 : decode cX5_tellRest 18 = .ok (.ireturn, 1) := by decide +kernel
theorem dX5_addRow_0 : decode cX5_addRow 0 = .ok (.aload_n 0, 1) := by decide +kernel
theorem dX5_addRow_1 : decode cX5_addRow 1 = .ok (.getfield 38, 3) := by decide +kernel
theorem dX5_addRow_4 : decode cX5_addRow 4 = .ok (.bipush 32, 2) := by decide +kernel
theorem dX5_addRow_6 : decode cX5_addRow 6 = .ok (.if_icmp .lt 5, 3) := by decide +kernel
theorem dX5_addRow_9 : decode cX5_addRow 9 = .ok (.iconst 0, 1) := by decide +kernel
theorem dX5_addRow_10 : decode cX5_addRow 10 = .ok (.ireturn, 1) := by decide +kernel
theorem dX5_addRow_11 : decode cX5_addRow 11 = .ok (.aload_n 0, 1) := by decide +kernel
theorem dX5_addRow_12 : decode cX5_addRow 12 = .ok (.getfield 28, 3) := by decide +kernel
theorem dX5_addRow_15 : decode cX5_addRow 15 = .ok (.aload_n 0, 1) := by decide +kernel
theorem dX5_addRow_16 : decode cX5_addRow 16 = .ok (.getfield 38, 3) := by decide +kernel
theorem dX5_addRow_19 : decode cX5_addRow 19 = .ok (.iload_n 1, 1) := by decide +kernel
theorem dX5_addRow_20 : decode cX5_addRow 20 = .ok (.iastore, 1) := by decide +kernel
theorem dX5_addRow_21 : decode cX5_addRow 21 = .ok (.aload_n 0, 1) := by decide +kernel
theorem dX5_addRow_22 : decode cX5_addRow 22 = .ok (.dup, 1) := by decide +kernel
theorem dX5_addRow_23 : decode cX5_addRow 23 = .ok (.getfield 38, 3) := by decide +kernel
theorem dX5_addRow_26 : decode cX5_addRow 26 = .ok (.iconst 1, 1) := by decide +kernel
theorem dX5_addRow_27 : decode cX5_addRow 27 = .ok (.iadd, 1) := by decide +kernel
theorem dX5_addRow_28 : decode cX5_addRow 28 = .ok (.putfield 38, 3) := by decide +kernel
theorem dX5_addRow_31 : decode cX5_addRow 31 = .ok (.iconst 1, 1) := by decide +kernel
theorem dX5_addRow_32 : decode cX5_addRow 32 = .ok (.ireturn, 1) := by decide +kernel
theorem dX5_tellAgain_0 : decode cX5_tellAgain 0 = .ok (.aload_n 0, 1) := by decide +kernel
theorem dX5_tellAgain_1 : decode cX5_tellAgain 1 = .ok (.getfield 38, 3) := by decide +kernel
theorem dX5_tellAgain_4 : decode cX5_tellAgain 4 = .ok (.iload_n 1, 1) := by decide +kernel
theorem dX5_tellAgain_5 : decode cX5_tellAgain 5 = .ok (.isub, 1) := by decide +kernel
theorem dX5_tellAgain_6 : decode cX5_tellAgain 6 = .ok (.istore_n 3, 1) := by decide +kernel
theorem dX5_tellAgain_7 : decode cX5_tellAgain 7 = .ok (.iload_n 1, 1) := by decide +kernel
theorem dX5_tellAgain_8 : decode cX5_tellAgain 8 = .ok (.ifCond .lt 18, 3) := by decide +kernel
theorem dX5_tellAgain_11 : decode cX5_tellAgain 11 = .ok (.iload_n 3, 1) := by decide +kernel
theorem dX5_tellAgain_12 : decode cX5_tellAgain 12 = .ok (.iconst 1, 1) := by decide +kernel
theorem dX5_tellAgain_13 : decode cX5_tellAgain 13 = .ok (.if_icmp .lt 13, 3) := by decide +kernel
theorem dX5_tellAgain_16 : decode cX5_tellAgain 16 = .ok (.iload_n 1, 1) := by decide +kernel
theorem dX5_tellAgain_17 : decode cX5_tellAgain 17 = .ok (.iload_n 3, 1) := by decide +kernel
theorem dX5_tellAgain_18 : decode cX5_tellAgain 18 = .ok (.iload_n 2, 1) := by decide +kernel
theorem dX5_tellAgain_19 : decode cX5_tellAgain 19 = .ok (.imul, 1) := by decide +kernel
theorem dX5_tellAgain_20 : decode cX5_tellAgain 20 = .ok (.iadd, 1) := by decide +kernel
theorem dX5_tellAgain_21 : decode cX5_tellAgain 21 = .ok (.bipush 32, 2) := by decide +kernel
theorem dX5_tellAgain_23 : decode cX5_tellAgain 23 = .ok (.if_icmp .le 5, 3) := by decide +kernel
theorem dX5_tellAgain_26 : decode cX5_tellAgain 26 = .ok (.iconst 0, 1) := by decide +kernel
theorem dX5_tellAgain_27 : decode cX5_tellAgain 27 = .ok (.ireturn, 1) := by decide +kernel
theorem dX5_tellAgain_28 : decode cX5_tellAgain 28 = .ok (.iconst 0, 1) := by decide +kernel
theorem dX5_tellAgain_29 : decode cX5_tellAgain 29 = .ok (.istore 4, 2) := by decide +kernel
theorem dX5_tellAgain_31 : decode cX5_tellAgain 31 = .ok (.iload 4, 2) := by decide +kernel
theorem dX5_tellAgain_33 : decode cX5_tellAgain 33 = .ok (.iload_n 3, 1) := by decide +kernel
theorem dX5_tellAgain_34 : decode cX5_tellAgain 34 = .ok (.iload_n 2, 1) := by decide +kernel
theorem dX5_tellAgain_35 : decode cX5_tellAgain 35 = .ok (.iconst 1, 1) := by decide +kernel
theorem dX5_tellAgain_36 : decode cX5_tellAgain 36 = .ok (.isub, 1) := by decide +kernel
theorem dX5_tellAgain_37 : decode cX5_tellAgain 37 = .ok (.imul, 1) := by decide +kernel
theorem dX5_tellAgain_38 : decode cX5_tellAgain 38 = .ok (.if_icmp .ge 23, 3) := by decide +kernel
theorem dX5_tellAgain_41 : decode cX5_tellAgain 41 = .ok (.aload_n 0, 1) := by decide +kernel
theorem dX5_tellAgain_42 : decode cX5_tellAgain 42 = .ok (.aload_n 0, 1) := by decide +kernel
theorem dX5_tellAgain_43 : decode cX5_tellAgain 43 = .ok (.getfield 28, 3) := by decide +kernel
theorem dX5_tellAgain_46 : decode cX5_tellAgain 46 = .ok (.iload_n 1, 1) := by decide +kernel
theorem dX5_tellAgain_47 : decode cX5_tellAgain 47 = .ok (.iload 4, 2) := by decide +kernel
theorem dX5_tellAgain_49 : decode cX5_tellAgain 49 = .ok (.iadd, 1) := by decide +kernel
theorem dX5_tellAgain_50 : decode cX5_tellAgain 50 = .ok (.iaload, 1) := by decide +kernel
theorem dX5_tellAgain_51 : decode cX5_tellAgain 51 = .ok (.invokevirtual 47, 3) := by decide +kernel
theorem dX5_tellAgain_54 : decode cX5_tellAgain 54 = .ok (.pop, 1) := by decide +kernel
theorem dX5_tellAgain_55 : decode cX5_tellAgain 55 = .ok (.iinc 4 1, 3) := by decide +kernel
theorem dX5_tellAgain_58 : decode cX5_tellAgain 58 = .ok (.goto (-27), 3) := by decide +kernel
theorem dX5_tellAgain_61 : decode cX5_tellAgain 61 = .ok (.iconst 1, 1) := by decide +kernel
theorem dX5_tellAgain_62 : decode cX5_tellAgain 62 = .ok (.ireturn, 1) := by decide +kernel
theorem dX5_canBeLaid_0 : decode cX5_canBeLaid 0 = .ok (.aload_n 0, 1) := by decide +kernel
theorem dX5_canBeLaid_1 : decode cX5_canBeLaid 1 = .ok (.getfield 31, 3) := by decide +kernel
theorem dX5_canBeLaid_4 : decode cX5_canBeLaid 4 = .ok (.ifCond .le 18, 3) := by decide +kernel
theorem dX5_canBeLaid_7 : decode cX5_canBeLaid 7 = .ok (.aload_n 0, 1) := by decide +kernel
theorem dX5_canBeLaid_8 : decode cX5_canBeLaid 8 = .ok (.getfield 38, 3) := by decide +kernel
theorem dX5_canBeLaid_11 : decode cX5_canBeLaid 11 = .ok (.aload_n 0, 1) := by decide +kernel
theorem dX5_canBeLaid_12 : decode cX5_canBeLaid 12 = .ok (.getfield 21, 3) := by decide +kernel
theorem dX5_canBeLaid_15 : decode cX5_canBeLaid 15 = .ok (.if_icmp .gt 7, 3) := by decide +kernel
theorem dX5_canBeLaid_18 : decode cX5_canBeLaid 18 = .ok (.iconst 1, 1) := by decide +kernel
theorem dX5_canBeLaid_19 : decode cX5_canBeLaid 19 = .ok (.goto 4, 3) := by decide +kernel
theorem dX5_canBeLaid_22 : decode cX5_canBeLaid 22 = .ok (.iconst 0, 1) := by decide +kernel
theorem dX5_canBeLaid_23 : decode cX5_canBeLaid 23 = .ok (.ireturn, 1) := by decide +kernel
theorem dX5_everyBell_0 : decode cX5_everyBell 0 = .ok (.iconst 1, 1) := by decide +kernel
theorem dX5_everyBell_1 : decode cX5_everyBell 1 = .ok (.aload_n 0, 1) := by decide +kernel
theorem dX5_everyBell_2 : decode cX5_everyBell 2 = .ok (.getfield 31, 3) := by decide +kernel
theorem dX5_everyBell_5 : decode cX5_everyBell 5 = .ok (.ishl, 1) := by decide +kernel
theorem dX5_everyBell_6 : decode cX5_everyBell 6 = .ok (.iconst 1, 1) := by decide +kernel
theorem dX5_everyBell_7 : decode cX5_everyBell 7 = .ok (.isub, 1) := by decide +kernel
theorem dX5_everyBell_8 : decode cX5_everyBell 8 = .ok (.ireturn, 1) := by decide +kernel
theorem dX5_rowBehind_0 : decode cX5_rowBehind 0 = .ok (.aload_n 0, 1) := by decide +kernel
theorem dX5_rowBehind_1 : decode cX5_rowBehind 1 = .ok (.getfield 21, 3) := by decide +kernel
theorem dX5_rowBehind_4 : decode cX5_rowBehind 4 = .ok (.ifCond .le 16, 3) := by decide +kernel
theorem dX5_rowBehind_7 : decode cX5_rowBehind 7 = .ok (.iload_n 1, 1) := by decide +kernel
theorem dX5_rowBehind_8 : decode cX5_rowBehind 8 = .ok (.iload_n 2, 1) := by decide +kernel
theorem dX5_rowBehind_9 : decode cX5_rowBehind 9 = .ok (.iadd, 1) := by decide +kernel
theorem dX5_rowBehind_10 : decode cX5_rowBehind 10 = .ok (.aload_n 0, 1) := by decide +kernel
theorem dX5_rowBehind_11 : decode cX5_rowBehind 11 = .ok (.getfield 21, 3) := by decide +kernel
theorem dX5_rowBehind_14 : decode cX5_rowBehind 14 = .ok (.invokestatic 51, 3) := by decide +kernel
theorem dX5_rowBehind_17 : decode cX5_rowBehind 17 = .ok (.goto 4, 3) := by decide +kernel
theorem dX5_rowBehind_20 : decode cX5_rowBehind 20 = .ok (.iconst 0, 1) := by decide +kernel
theorem dX5_rowBehind_21 : decode cX5_rowBehind 21 = .ok (.ireturn, 1) := by decide +kernel
theorem dX5_highestTone_0 : decode cX5_highestTone 0 = .ok (.bipush (-4), 2) := by decide +kernel
theorem dX5_highestTone_2 : decode cX5_highestTone 2 = .ok (.istore_n 2, 1) := by decide +kernel
theorem dX5_highestTone_3 : decode cX5_highestTone 3 = .ok (.iconst 0, 1) := by decide +kernel
theorem dX5_highestTone_4 : decode cX5_highestTone 4 = .ok (.istore_n 3, 1) := by decide +kernel
theorem dX5_highestTone_5 : decode cX5_highestTone 5 = .ok (.iload_n 3, 1) := by decide +kernel
theorem dX5_highestTone_6 : decode cX5_highestTone 6 = .ok (.aload_n 0, 1) := by decide +kernel
theorem dX5_highestTone_7 : decode cX5_highestTone 7 = .ok (.getfield 31, 3) := by decide +kernel
theorem dX5_highestTone_10 : decode cX5_highestTone 10 = .ok (.if_icmp .ge 29, 3) := by decide +kernel
theorem dX5_highestTone_13 : decode cX5_highestTone 13 = .ok (.iload_n 1, 1) := by decide +kernel
theorem dX5_highestTone_14 : decode cX5_highestTone 14 = .ok (.iload_n 3, 1) := by decide +kernel
theorem dX5_highestTone_15 : decode cX5_highestTone 15 = .ok (.ishr, 1) := by decide +kernel
theorem dX5_highestTone_16 : decode cX5_highestTone 16 = .ok (.iconst 1, 1) := by decide +kernel
theorem dX5_highestTone_17 : decode cX5_highestTone 17 = .ok (.iand, 1) := by decide +kernel
theorem dX5_highestTone_18 : decode cX5_highestTone 18 = .ok (.iconst 1, 1) := by decide +kernel
theorem dX5_highestTone_19 : decode cX5_highestTone 19 = .ok (.if_icmp .ne 14, 3) := by decide +kernel
theorem dX5_highestTone_22 : decode cX5_highestTone 22 = .ok (.iload_n 2, 1) := by decide +kernel
theorem dX5_highestTone_23 : decode cX5_highestTone 23 = .ok (.aload_n 0, 1) := by decide +kernel
theorem dX5_highestTone_24 : decode cX5_highestTone 24 = .ok (.getfield 9, 3) := by decide +kernel
theorem dX5_highestTone_27 : decode cX5_highestTone 27 = .ok (.iload_n 3, 1) := by decide +kernel
theorem dX5_highestTone_28 : decode cX5_highestTone 28 = .ok (.iaload, 1) := by decide +kernel
theorem dX5_highestTone_29 : decode cX5_highestTone 29 = .ok (.invokestatic 55, 3) := by decide +kernel
theorem dX5_highestTone_32 : decode cX5_highestTone 32 = .ok (.istore_n 2, 1) := by decide +kernel
theorem dX5_highestTone_33 : decode cX5_highestTone 33 = .ok (.iinc 3 1, 3) := by decide +kernel
theorem dX5_highestTone_36 : decode cX5_highestTone 36 = .ok (.goto (-31), 3) := by decide +kernel
theorem dX5_highestTone_39 : decode cX5_highestTone 39 = .ok (.iload_n 2, 1) := by decide +kernel
theorem dX5_highestTone_40 : decode cX5_highestTone 40 = .ok (.ireturn, 1) := by decide +kernel
theorem dJ6_bitCount_0f7a4_0 : decode cJ6_bitCount_0f7a4 0 = .ok (.iload_n 0, 1) := by decide +kernel
theorem dJ6_bitCount_0f7a4_1 : decode cJ6_bitCount_0f7a4 1 = .ok (.iload_n 0, 1) := by decide +kernel
theorem dJ6_bitCount_0f7a4_2 : decode cJ6_bitCount_0f7a4 2 = .ok (.iconst 1, 1) := by decide +kernel
theorem dJ6_bitCount_0f7a4_3 : decode cJ6_bitCount_0f7a4 3 = .ok (.iushr, 1) := by decide +kernel
theorem dJ6_bitCount_0f7a4_4 : decode cJ6_bitCount_0f7a4 4 = .ok (.ldc_w 265, 3) := by decide +kernel
theorem dJ6_bitCount_0f7a4_7 : decode cJ6_bitCount_0f7a4 7 = .ok (.iand, 1) := by decide +kernel
theorem dJ6_bitCount_0f7a4_8 : decode cJ6_bitCount_0f7a4 8 = .ok (.isub, 1) := by decide +kernel
theorem dJ6_bitCount_0f7a4_9 : decode cJ6_bitCount_0f7a4 9 = .ok (.istore_n 0, 1) := by decide +kernel
theorem dJ6_bitCount_0f7a4_10 : decode cJ6_bitCount_0f7a4 10 = .ok (.iload_n 0, 1) := by decide +kernel
theorem dJ6_bitCount_0f7a4_11 : decode cJ6_bitCount_0f7a4 11 = .ok (.ldc_w 266, 3) := by decide +kernel
theorem dJ6_bitCount_0f7a4_14 : decode cJ6_bitCount_0f7a4 14 = .ok (.iand, 1) := by decide +kernel
theorem dJ6_bitCount_0f7a4_15 : decode cJ6_bitCount_0f7a4 15 = .ok (.iload_n 0, 1) := by decide +kernel
theorem dJ6_bitCount_0f7a4_16 : decode cJ6_bitCount_0f7a4 16 = .ok (.iconst 2, 1) := by decide +kernel
theorem dJ6_bitCount_0f7a4_17 : decode cJ6_bitCount_0f7a4 17 = .ok (.iushr, 1) := by decide +kernel
theorem dJ6_bitCount_0f7a4_18 : decode cJ6_bitCount_0f7a4 18 = .ok (.ldc_w 266, 3) := by decide +kernel
theorem dJ6_bitCount_0f7a4_21 : decode cJ6_bitCount_0f7a4 21 = .ok (.iand, 1) := by decide +kernel
theorem dJ6_bitCount_0f7a4_22 : decode cJ6_bitCount_0f7a4 22 = .ok (.iadd, 1) := by decide +kernel
theorem dJ6_bitCount_0f7a4_23 : decode cJ6_bitCount_0f7a4 23 = .ok (.istore_n 0, 1) := by decide +kernel
theorem dJ6_bitCount_0f7a4_24 : decode cJ6_bitCount_0f7a4 24 = .ok (.iload_n 0, 1) := by decide +kernel
theorem dJ6_bitCount_0f7a4_25 : decode cJ6_bitCount_0f7a4 25 = .ok (.iload_n 0, 1) := by decide +kernel
theorem dJ6_bitCount_0f7a4_26 : decode cJ6_bitCount_0f7a4 26 = .ok (.iconst 4, 1) := by decide +kernel
theorem dJ6_bitCount_0f7a4_27 : decode cJ6_bitCount_0f7a4 27 = .ok (.iushr, 1) := by decide +kernel
theorem dJ6_bitCount_0f7a4_28 : decode cJ6_bitCount_0f7a4 28 = .ok (.iadd, 1) := by decide +kernel
theorem dJ6_bitCount_0f7a4_29 : decode cJ6_bitCount_0f7a4 29 = .ok (.ldc_w 267, 3) := by decide +kernel
theorem dJ6_bitCount_0f7a4_32 : decode cJ6_bitCount_0f7a4 32 = .ok (.iand, 1) := by decide +kernel
theorem dJ6_bitCount_0f7a4_33 : decode cJ6_bitCount_0f7a4 33 = .ok (.istore_n 0, 1) := by decide +kernel
theorem dJ6_bitCount_0f7a4_34 : decode cJ6_bitCount_0f7a4 34 = .ok (.iload_n 0, 1) := by decide +kernel
theorem dJ6_bitCount_0f7a4_35 : decode cJ6_bitCount_0f7a4 35 = .ok (.iload_n 0, 1) := by decide +kernel
theorem dJ6_bitCount_0f7a4_36 : decode cJ6_bitCount_0f7a4 36 = .ok (.bipush 8, 2) := by decide +kernel
theorem dJ6_bitCount_0f7a4_38 : decode cJ6_bitCount_0f7a4 38 = .ok (.iushr, 1) := by decide +kernel
theorem dJ6_bitCount_0f7a4_39 : decode cJ6_bitCount_0f7a4 39 = .ok (.iadd, 1) := by decide +kernel
theorem dJ6_bitCount_0f7a4_40 : decode cJ6_bitCount_0f7a4 40 = .ok (.istore_n 0, 1) := by decide +kernel
theorem dJ6_bitCount_0f7a4_41 : decode cJ6_bitCount_0f7a4 41 = .ok (.iload_n 0, 1) := by decide +kernel
theorem dJ6_bitCount_0f7a4_42 : decode cJ6_bitCount_0f7a4 42 = .ok (.iload_n 0, 1) := by decide +kernel
theorem dJ6_bitCount_0f7a4_43 : decode cJ6_bitCount_0f7a4 43 = .ok (.bipush 16, 2) := by decide +kernel
theorem dJ6_bitCount_0f7a4_45 : decode cJ6_bitCount_0f7a4 45 = .ok (.iushr, 1) := by decide +kernel
theorem dJ6_bitCount_0f7a4_46 : decode cJ6_bitCount_0f7a4 46 = .ok (.iadd, 1) := by decide +kernel
theorem dJ6_bitCount_0f7a4_47 : decode cJ6_bitCount_0f7a4 47 = .ok (.istore_n 0, 1) := by decide +kernel
theorem dJ6_bitCount_0f7a4_48 : decode cJ6_bitCount_0f7a4 48 = .ok (.iload_n 0, 1) := by decide +kernel
theorem dJ6_bitCount_0f7a4_49 : decode cJ6_bitCount_0f7a4 49 = .ok (.bipush 63, 2) := by decide +kernel
theorem dJ6_bitCount_0f7a4_51 : decode cJ6_bitCount_0f7a4 51 = .ok (.iand, 1) := by decide +kernel
theorem dJ6_bitCount_0f7a4_52 : decode cJ6_bitCount_0f7a4 52 = .ok (.ireturn, 1) := by decide +kernel
theorem dJ9_floorMod_7cf53_0 : decode cJ9_floorMod_7cf53 0 = .ok (.iload_n 0, 1) := by decide +kernel
theorem dJ9_floorMod_7cf53_1 : decode cJ9_floorMod_7cf53 1 = .ok (.iload_n 1, 1) := by decide +kernel
theorem dJ9_floorMod_7cf53_2 : decode cJ9_floorMod_7cf53 2 = .ok (.irem, 1) := by decide +kernel
theorem dJ9_floorMod_7cf53_3 : decode cJ9_floorMod_7cf53 3 = .ok (.istore_n 2, 1) := by decide +kernel
theorem dJ9_floorMod_7cf53_4 : decode cJ9_floorMod_7cf53 4 = .ok (.iload_n 0, 1) := by decide +kernel
theorem dJ9_floorMod_7cf53_5 : decode cJ9_floorMod_7cf53 5 = .ok (.iload_n 1, 1) := by decide +kernel
theorem dJ9_floorMod_7cf53_6 : decode cJ9_floorMod_7cf53 6 = .ok (.ixor, 1) := by decide +kernel
theorem dJ9_floorMod_7cf53_7 : decode cJ9_floorMod_7cf53 7 = .ok (.ifCond .ge 11, 3) := by decide +kernel
theorem dJ9_floorMod_7cf53_10 : decode cJ9_floorMod_7cf53 10 = .ok (.iload_n 2, 1) := by decide +kernel
theorem dJ9_floorMod_7cf53_11 : decode cJ9_floorMod_7cf53 11 = .ok (.ifCond .eq 7, 3) := by decide +kernel
theorem dJ9_floorMod_7cf53_14 : decode cJ9_floorMod_7cf53 14 = .ok (.iload_n 2, 1) := by decide +kernel
theorem dJ9_floorMod_7cf53_15 : decode cJ9_floorMod_7cf53 15 = .ok (.iload_n 1, 1) := by decide +kernel
theorem dJ9_floorMod_7cf53_16 : decode cJ9_floorMod_7cf53 16 = .ok (.iadd, 1) := by decide +kernel
theorem dJ9_floorMod_7cf53_17 : decode cJ9_floorMod_7cf53 17 = .ok (.ireturn, 1) := by decide +kernel
theorem dJ9_floorMod_7cf53_18 : decode cJ9_floorMod_7cf53 18 = .ok (.iload_n 2, 1) := by decide +kernel
theorem dJ9_floorMod_7cf53_19 : decode cJ9_floorMod_7cf53 19 = .ok (.ireturn, 1) := by decide +kernel
theorem dJ9_abs_0f7a4_0 : decode cJ9_abs_0f7a4 0 = .ok (.iload_n 0, 1) := by decide +kernel
theorem dJ9_abs_0f7a4_1 : decode cJ9_abs_0f7a4 1 = .ok (.ifCond .ge 8, 3) := by decide +kernel
theorem dJ9_abs_0f7a4_4 : decode cJ9_abs_0f7a4 4 = .ok (.iload_n 0, 1) := by decide +kernel
theorem dJ9_abs_0f7a4_5 : decode cJ9_abs_0f7a4 5 = .ok (.ineg, 1) := by decide +kernel
theorem dJ9_abs_0f7a4_6 : decode cJ9_abs_0f7a4 6 = .ok (.goto 4, 3) := by decide +kernel
theorem dJ9_abs_0f7a4_9 : decode cJ9_abs_0f7a4 9 = .ok (.iload_n 0, 1) := by decide +kernel
theorem dJ9_abs_0f7a4_10 : decode cJ9_abs_0f7a4 10 = .ok (.ireturn, 1) := by decide +kernel
theorem dJ9_max_7cf53_0 : decode cJ9_max_7cf53 0 = .ok (.iload_n 0, 1) := by decide +kernel
theorem dJ9_max_7cf53_1 : decode cJ9_max_7cf53 1 = .ok (.iload_n 1, 1) := by decide +kernel
theorem dJ9_max_7cf53_2 : decode cJ9_max_7cf53 2 = .ok (.if_icmp .lt 7, 3) := by decide +kernel
theorem dJ9_max_7cf53_5 : decode cJ9_max_7cf53 5 = .ok (.iload_n 0, 1) := by decide +kernel
theorem dJ9_max_7cf53_6 : decode cJ9_max_7cf53 6 = .ok (.goto 4, 3) := by decide +kernel
theorem dJ9_max_7cf53_9 : decode cJ9_max_7cf53 9 = .ok (.iload_n 1, 1) := by decide +kernel
theorem dJ9_max_7cf53_10 : decode cJ9_max_7cf53 10 = .ok (.ireturn, 1) := by decide +kernel
theorem dJ9_min_7cf53_0 : decode cJ9_min_7cf53 0 = .ok (.iload_n 0, 1) := by decide +kernel
theorem dJ9_min_7cf53_1 : decode cJ9_min_7cf53 1 = .ok (.iload_n 1, 1) := by decide +kernel
theorem dJ9_min_7cf53_2 : decode cJ9_min_7cf53 2 = .ok (.if_icmp .gt 7, 3) := by decide +kernel
theorem dJ9_min_7cf53_5 : decode cJ9_min_7cf53 5 = .ok (.iload_n 0, 1) := by decide +kernel
theorem dJ9_min_7cf53_6 : decode cJ9_min_7cf53 6 = .ok (.goto 4, 3) := by decide +kernel
theorem dJ9_min_7cf53_9 : decode cJ9_min_7cf53 9 = .ok (.iload_n 1, 1) := by decide +kernel
theorem dJ9_min_7cf53_10 : decode cJ9_min_7cf53 10 = .ok (.ireturn, 1) := by decide +kernel
theorem dJ0_length_8abf5_0 : decode cJ0_length_8abf5 0 = .ok (.aload_n 0, 1) := by decide +kernel
theorem dJ0_length_8abf5_1 : decode cJ0_length_8abf5 1 = .ok (.getfield 9, 3) := by decide +kernel
theorem dJ0_length_8abf5_4 : decode cJ0_length_8abf5 4 = .ok (.arraylength, 1) := by decide +kernel
theorem dJ0_length_8abf5_5 : decode cJ0_length_8abf5 5 = .ok (.aload_n 0, 1) := by decide +kernel
theorem dJ0_length_8abf5_6 : decode cJ0_length_8abf5 6 = .ok (.invokevirtual 335, 3) := by decide +kernel
theorem dJ0_length_8abf5_9 : decode cJ0_length_8abf5 9 = .ok (.ishr, 1) := by decide +kernel
theorem dJ0_length_8abf5_10 : decode cJ0_length_8abf5 10 = .ok (.ireturn, 1) := by decide +kernel
theorem dJ0_charAt_5068e_0 : decode cJ0_charAt_5068e 0 = .ok (.aload_n 0, 1) := by decide +kernel
theorem dJ0_charAt_5068e_1 : decode cJ0_charAt_5068e 1 = .ok (.invokevirtual 492, 3) := by decide +kernel
theorem dJ0_charAt_5068e_4 : decode cJ0_charAt_5068e 4 = .ok (.ifCond .eq 12, 3) := by decide +kernel
theorem dJ0_charAt_5068e_7 : decode cJ0_charAt_5068e 7 = .ok (.aload_n 0, 1) := by decide +kernel
theorem dJ0_charAt_5068e_8 : decode cJ0_charAt_5068e 8 = .ok (.getfield 9, 3) := by decide +kernel
theorem dJ0_charAt_5068e_11 : decode cJ0_charAt_5068e 11 = .ok (.iload_n 1, 1) := by decide +kernel
theorem dJ0_charAt_5068e_12 : decode cJ0_charAt_5068e 12 = .ok (.invokestatic 495, 3) := by decide +kernel
theorem dJ0_charAt_5068e_15 : decode cJ0_charAt_5068e 15 = .ok (.ireturn, 1) := by decide +kernel
theorem dJ0_charAt_5068e_16 : decode cJ0_charAt_5068e 16 = .ok (.aload_n 0, 1) := by decide +kernel
theorem dJ0_charAt_5068e_17 : decode cJ0_charAt_5068e 17 = .ok (.getfield 9, 3) := by decide +kernel
theorem dJ0_charAt_5068e_20 : decode cJ0_charAt_5068e 20 = .ok (.iload_n 1, 1) := by decide +kernel
theorem dJ0_charAt_5068e_21 : decode cJ0_charAt_5068e 21 = .ok (.invokestatic 498, 3) := by decide +kernel
theorem dJ0_charAt_5068e_24 : decode cJ0_charAt_5068e 24 = .ok (.ireturn, 1) := by decide +kernel
theorem dJ0_coder_7d493_0 : decode cJ0_coder_7d493 0 = .ok (.getstatic 38, 3) := by decide +kernel
theorem dJ0_coder_7d493_3 : decode cJ0_coder_7d493 3 = .ok (.ifCond .eq 10, 3) := by decide +kernel
theorem dJ0_coder_7d493_6 : decode cJ0_coder_7d493 6 = .ok (.aload_n 0, 1) := by decide +kernel
theorem dJ0_coder_7d493_7 : decode cJ0_coder_7d493 7 = .ok (.getfield 15, 3) := by decide +kernel
theorem dJ0_coder_7d493_10 : decode cJ0_coder_7d493 10 = .ok (.goto 4, 3) := by decide +kernel
theorem dJ0_coder_7d493_13 : decode cJ0_coder_7d493 13 = .ok (.iconst 1, 1) := by decide +kernel
theorem dJ0_coder_7d493_14 : decode cJ0_coder_7d493 14 = .ok (.ireturn, 1) := by decide +kernel
theorem dJ0_isLatin1_aae02_0 : decode cJ0_isLatin1_aae02 0 = .ok (.getstatic 38, 3) := by decide +kernel
theorem dJ0_isLatin1_aae02_3 : decode cJ0_isLatin1_aae02 3 = .ok (.ifCond .eq 14, 3) := by decide +kernel
theorem dJ0_isLatin1_aae02_6 : decode cJ0_isLatin1_aae02 6 = .ok (.aload_n 0, 1) := by decide +kernel
theorem dJ0_isLatin1_aae02_7 : decode cJ0_isLatin1_aae02 7 = .ok (.getfield 15, 3) := by decide +kernel
theorem dJ0_isLatin1_aae02_10 : decode cJ0_isLatin1_aae02 10 = .ok (.ifCond .ne 7, 3) := by decide +kernel
theorem dJ0_isLatin1_aae02_13 : decode cJ0_isLatin1_aae02 13 = .ok (.iconst 1, 1) := by decide +kernel
theorem dJ0_isLatin1_aae02_14 : decode cJ0_isLatin1_aae02 14 = .ok (.goto 4, 3) := by decide +kernel
theorem dJ0_isLatin1_aae02_17 : decode cJ0_isLatin1_aae02 17 = .ok (.iconst 0, 1) := by decide +kernel
theorem dJ0_isLatin1_aae02_18 : decode cJ0_isLatin1_aae02 18 = .ok (.ireturn, 1) := by decide +kernel
theorem dJ0_checkIndex_df160_0 : decode cJ0_checkIndex_df160 0 = .ok (.iload_n 0, 1) := by decide +kernel
theorem dJ0_checkIndex_df160_1 : decode cJ0_checkIndex_df160 1 = .ok (.iload_n 1, 1) := by decide +kernel
theorem dJ0_checkIndex_df160_2 : decode cJ0_checkIndex_df160 2 = .ok (.getstatic 1053, 3) := by decide +kernel
theorem dJ0_checkIndex_df160_5 : decode cJ0_checkIndex_df160 5 = .ok (.invokestatic 1059, 3) := by decide +kernel
theorem dJ0_checkIndex_df160_8 : decode cJ0_checkIndex_df160 8 = .ok (.pop, 1) := by decide +kernel
theorem dJ0_checkIndex_df160_9 : decode cJ0_checkIndex_df160 9 = .ok (.return_, 1) := by decide +kernel
theorem dJ1_charAt_3b067_0 : decode cJ1_charAt_3b067 0 = .ok (.iload_n 1, 1) := by decide +kernel
theorem dJ1_charAt_3b067_1 : decode cJ1_charAt_3b067 1 = .ok (.aload_n 0, 1) := by decide +kernel
theorem dJ1_charAt_3b067_2 : decode cJ1_charAt_3b067 2 = .ok (.arraylength, 1) := by decide +kernel
theorem dJ1_charAt_3b067_3 : decode cJ1_charAt_3b067 3 = .ok (.invokestatic 9, 3) := by decide +kernel
theorem dJ1_charAt_3b067_6 : decode cJ1_charAt_3b067 6 = .ok (.aload_n 0, 1) := by decide +kernel
theorem dJ1_charAt_3b067_7 : decode cJ1_charAt_3b067 7 = .ok (.iload_n 1, 1) := by decide +kernel
theorem dJ1_charAt_3b067_8 : decode cJ1_charAt_3b067 8 = .ok (.baload, 1) := by decide +kernel
theorem dJ1_charAt_3b067_9 : decode cJ1_charAt_3b067 9 = .ok (.sipush 255, 3) := by decide +kernel
theorem dJ1_charAt_3b067_12 : decode cJ1_charAt_3b067 12 = .ok (.iand, 1) := by decide +kernel
theorem dJ1_charAt_3b067_13 : decode cJ1_charAt_3b067 13 = .ok (.i2c, 1) := by decide +kernel
theorem dJ1_charAt_3b067_14 : decode cJ1_charAt_3b067 14 = .ok (.ireturn, 1) := by decide +kernel
theorem dJ2_getChar_3b067_0 : decode cJ2_getChar_3b067 0 = .ok (.getstatic 44, 3) := by decide +kernel
theorem dJ2_getChar_3b067_3 : decode cJ2_getChar_3b067 3 = .ok (.ifCond .ne 25, 3) := by decide +kernel
theorem dJ2_getChar_3b067_6 : decode cJ2_getChar_3b067 6 = .ok (.iload_n 1, 1) := by decide +kernel
theorem dJ2_getChar_3b067_7 : decode cJ2_getChar_3b067 7 = .ok (.ifCond .lt 11, 3) := by decide +kernel
theorem dJ2_getChar_3b067_10 : decode cJ2_getChar_3b067 10 = .ok (.iload_n 1, 1) := by decide +kernel
theorem dJ2_getChar_3b067_11 : decode cJ2_getChar_3b067 11 = .ok (.aload_n 0, 1) := by decide +kernel
theorem dJ2_getChar_3b067_12 : decode cJ2_getChar_3b067 12 = .ok (.invokestatic 48, 3) := by decide +kernel
theorem dJ2_getChar_3b067_15 : decode cJ2_getChar_3b067 15 = .ok (.if_icmp .lt 13, 3) := by decide +kernel
theorem dJ2_getChar_3b067_18 : decode cJ2_getChar_3b067 18 = .ok (.new 52, 3) := by decide +kernel
theorem dJ2_getChar_3b067_21 : decode cJ2_getChar_3b067 21 = .ok (.dup, 1) := by decide +kernel
theorem dJ2_getChar_3b067_22 : decode cJ2_getChar_3b067 22 = .ok (.ldc 54, 2) := by decide +kernel
theorem dJ2_getChar_3b067_24 : decode cJ2_getChar_3b067 24 = .ok (.invokespecial 56, 3) := by decide +kernel
theorem dJ2_getChar_3b067_27 : decode cJ2_getChar_3b067 27 = .ok (.athrow, 1) := by decide +kernel
theorem dJ2_getChar_3b067_28 : decode cJ2_getChar_3b067 28 = .ok (.iload_n 1, 1) := by decide +kernel
theorem dJ2_getChar_3b067_29 : decode cJ2_getChar_3b067 29 = .ok (.iconst 1, 1) := by decide +kernel
theorem dJ2_getChar_3b067_30 : decode cJ2_getChar_3b067 30 = .ok (.ishl, 1) := by decide +kernel
theorem dJ2_getChar_3b067_31 : decode cJ2_getChar_3b067 31 = .ok (.istore_n 1, 1) := by decide +kernel
theorem dJ2_getChar_3b067_32 : decode cJ2_getChar_3b067 32 = .ok (.aload_n 0, 1) := by decide +kernel
theorem dJ2_getChar_3b067_33 : decode cJ2_getChar_3b067 33 = .ok (.iload_n 1, 1) := by decide +kernel
theorem dJ2_getChar_3b067_34 : decode cJ2_getChar_3b067 34 = .ok (.iinc 1 1, 3) := by decide +kernel
theorem dJ2_getChar_3b067_37 : decode cJ2_getChar_3b067 37 = .ok (.baload, 1) := by decide +kernel
theorem dJ2_getChar_3b067_38 : decode cJ2_getChar_3b067 38 = .ok (.sipush 255, 3) := by decide +kernel
theorem dJ2_getChar_3b067_41 : decode cJ2_getChar_3b067 41 = .ok (.iand, 1) := by decide +kernel
theorem dJ2_getChar_3b067_42 : decode cJ2_getChar_3b067 42 = .ok (.getstatic 59, 3) := by decide +kernel
theorem dJ2_getChar_3b067_45 : decode cJ2_getChar_3b067 45 = .ok (.ishl, 1) := by decide +kernel
theorem dJ2_getChar_3b067_46 : decode cJ2_getChar_3b067 46 = .ok (.aload_n 0, 1) := by decide +kernel
theorem dJ2_getChar_3b067_47 : decode cJ2_getChar_3b067 47 = .ok (.iload_n 1, 1) := by decide +kernel
theorem dJ2_getChar_3b067_48 : decode cJ2_getChar_3b067 48 = .ok (.baload, 1) := by decide +kernel
theorem dJ2_getChar_3b067_49 : decode cJ2_getChar_3b067 49 = .ok (.sipush 255, 3) := by decide +kernel
theorem dJ2_getChar_3b067_52 : decode cJ2_getChar_3b067 52 = .ok (.iand, 1) := by decide +kernel
theorem dJ2_getChar_3b067_53 : decode cJ2_getChar_3b067 53 = .ok (.getstatic 63, 3) := by decide +kernel
theorem dJ2_getChar_3b067_56 : decode cJ2_getChar_3b067 56 = .ok (.ishl, 1) := by decide +kernel
theorem dJ2_getChar_3b067_57 : decode cJ2_getChar_3b067 57 = .ok (.ior, 1) := by decide +kernel
theorem dJ2_getChar_3b067_58 : decode cJ2_getChar_3b067 58 = .ok (.i2c, 1) := by decide +kernel
theorem dJ2_getChar_3b067_59 : decode cJ2_getChar_3b067 59 = .ok (.ireturn, 1) := by decide +kernel
theorem dJ2_length_9d52b_0 : decode cJ2_length_9d52b 0 = .ok (.aload_n 0, 1) := by decide +kernel
theorem dJ2_length_9d52b_1 : decode cJ2_length_9d52b 1 = .ok (.arraylength, 1) := by decide +kernel
theorem dJ2_length_9d52b_2 : decode cJ2_length_9d52b 2 = .ok (.iconst 1, 1) := by decide +kernel
theorem dJ2_length_9d52b_3 : decode cJ2_length_9d52b 3 = .ok (.ishr, 1) := by decide +kernel
theorem dJ2_length_9d52b_4 : decode cJ2_length_9d52b 4 = .ok (.ireturn, 1) := by decide +kernel
theorem dJ2_charAt_3b067_0 : decode cJ2_charAt_3b067 0 = .ok (.iload_n 1, 1) := by decide +kernel
theorem dJ2_charAt_3b067_1 : decode cJ2_charAt_3b067 1 = .ok (.aload_n 0, 1) := by decide +kernel
theorem dJ2_charAt_3b067_2 : decode cJ2_charAt_3b067 2 = .ok (.invokestatic 67, 3) := by decide +kernel
theorem dJ2_charAt_3b067_5 : decode cJ2_charAt_3b067 5 = .ok (.aload_n 0, 1) := by decide +kernel
theorem dJ2_charAt_3b067_6 : decode cJ2_charAt_3b067 6 = .ok (.iload_n 1, 1) := by decide +kernel
theorem dJ2_charAt_3b067_7 : decode cJ2_charAt_3b067 7 = .ok (.invokestatic 71, 3) := by decide +kernel
theorem dJ2_charAt_3b067_10 : decode cJ2_charAt_3b067 10 = .ok (.ireturn, 1) := by decide +kernel
theorem dJ2_checkIndex_2214a_0 : decode cJ2_checkIndex_2214a 0 = .ok (.iload_n 0, 1) := by decide +kernel
theorem dJ2_checkIndex_2214a_1 : decode cJ2_checkIndex_2214a 1 = .ok (.aload_n 1, 1) := by decide +kernel
theorem dJ2_checkIndex_2214a_2 : decode cJ2_checkIndex_2214a 2 = .ok (.invokestatic 48, 3) := by decide +kernel
theorem dJ2_checkIndex_2214a_5 : decode cJ2_checkIndex_2214a 5 = .ok (.invokestatic 414, 3) := by decide +kernel
theorem dJ2_checkIndex_2214a_8 : decode cJ2_checkIndex_2214a 8 = .ok (.return_, 1) := by decide +kernel
theorem dJ7_fill_53178_0 : decode cJ7_fill_53178 0 = .ok (.iconst 0, 1) := by decide +kernel
theorem dJ7_fill_53178_1 : decode cJ7_fill_53178 1 = .ok (.istore_n 2, 1) := by decide +kernel
theorem dJ7_fill_53178_2 : decode cJ7_fill_53178 2 = .ok (.aload_n 0, 1) := by decide +kernel
theorem dJ7_fill_53178_3 : decode cJ7_fill_53178 3 = .ok (.arraylength, 1) := by decide +kernel
theorem dJ7_fill_53178_4 : decode cJ7_fill_53178 4 = .ok (.istore_n 3, 1) := by decide +kernel
theorem dJ7_fill_53178_5 : decode cJ7_fill_53178 5 = .ok (.iload_n 2, 1) := by decide +kernel
theorem dJ7_fill_53178_6 : decode cJ7_fill_53178 6 = .ok (.iload_n 3, 1) := by decide +kernel
theorem dJ7_fill_53178_7 : decode cJ7_fill_53178 7 = .ok (.if_icmp .ge 13, 3) := by decide +kernel
theorem dJ7_fill_53178_10 : decode cJ7_fill_53178 10 = .ok (.aload_n 0, 1) := by decide +kernel
theorem dJ7_fill_53178_11 : decode cJ7_fill_53178 11 = .ok (.iload_n 2, 1) := by decide +kernel
theorem dJ7_fill_53178_12 : decode cJ7_fill_53178 12 = .ok (.iload_n 1, 1) := by decide +kernel
theorem dJ7_fill_53178_13 : decode cJ7_fill_53178 13 = .ok (.iastore, 1) := by decide +kernel
theorem dJ7_fill_53178_14 : decode cJ7_fill_53178 14 = .ok (.iinc 2 1, 3) := by decide +kernel
theorem dJ7_fill_53178_17 : decode cJ7_fill_53178 17 = .ok (.goto (-12), 3) := by decide +kernel
theorem dJ7_fill_53178_20 : decode cJ7_fill_53178 20 = .ok (.return_, 1) := by decide +kernel
theorem dJ3_checkIndex_8e157_0 : decode cJ3_checkIndex_8e157 0 = .ok (.iload_n 0, 1) := by decide +kernel
theorem dJ3_checkIndex_8e157_1 : decode cJ3_checkIndex_8e157 1 = .ok (.ifCond .lt 8, 3) := by decide +kernel
theorem dJ3_checkIndex_8e157_4 : decode cJ3_checkIndex_8e157 4 = .ok (.iload_n 0, 1) := by decide +kernel
theorem dJ3_checkIndex_8e157_5 : decode cJ3_checkIndex_8e157 5 = .ok (.iload_n 1, 1) := by decide +kernel
theorem dJ3_checkIndex_8e157_6 : decode cJ3_checkIndex_8e157 6 = .ok (.if_icmp .lt 10, 3) := by decide +kernel
theorem dJ3_checkIndex_8e157_9 : decode cJ3_checkIndex_8e157 9 = .ok (.aload_n 2, 1) := by decide +kernel
theorem dJ3_checkIndex_8e157_10 : decode cJ3_checkIndex_8e157 10 = .ok (.iload_n 0, 1) := by decide +kernel
theorem dJ3_checkIndex_8e157_11 : decode cJ3_checkIndex_8e157 11 = .ok (.iload_n 1, 1) := by decide +kernel
theorem dJ3_checkIndex_8e157_12 : decode cJ3_checkIndex_8e157 12 = .ok (.invokestatic 95, 3) := by decide +kernel
theorem dJ3_checkIndex_8e157_15 : decode cJ3_checkIndex_8e157 15 = .ok (.athrow, 1) := by decide +kernel
theorem dJ3_checkIndex_8e157_16 : decode cJ3_checkIndex_8e157 16 = .ok (.iload_n 0, 1) := by decide +kernel
theorem dJ3_checkIndex_8e157_17 : decode cJ3_checkIndex_8e157 17 = .ok (.ireturn, 1) := by decide +kernel
end
section
theorem dX6_init_0 : decode cX6_init 0 = .ok (.aload_n 0, 1) := by decide +kernel
theorem dX6_init_1 : decode cX6_init 1 = .ok (.invokespecial 1, 3) := by decide +kernel
theorem dX6_init_4 : decode cX6_init 4 = .ok (.aload_n 0, 1) := by decide +kernel
theorem dX6_init_5 : decode cX6_init 5 = .ok (.new 7, 3) := by decide +kernel
theorem dX6_init_8 : decode cX6_init 8 = .ok (.dup, 1) := by decide +kernel
theorem dX6_init_9 : decode cX6_init 9 = .ok (.invokespecial 9, 3) := by decide +kernel
theorem dX6_init_12 : decode cX6_init 12 = .ok (.putfield 10, 3) := by decide +kernel
theorem dX6_init_15 : decode cX6_init 15 = .ok (.aload_n 0, 1) := by decide +kernel
theorem dX6_init_16 : decode cX6_init 16 = .ok (.new 16, 3) := by decide +kernel
theorem dX6_init_19 : decode cX6_init 19 = .ok (.dup, 1) := by decide +kernel
theorem dX6_init_20 : decode cX6_init 20 = .ok (.invokespecial 18, 3) := by decide +kernel
theorem dX6_init_23 : decode cX6_init 23 = .ok (.putfield 19, 3) := by decide +kernel
theorem dX6_init_26 : decode cX6_init 26 = .ok (.aload_n 0, 1) := by decide +kernel
theorem dX6_init_27 : decode cX6_init 27 = .ok (.new 16, 3) := by decide +kernel
theorem dX6_init_30 : decode cX6_init 30 = .ok (.dup, 1) := by decide +kernel
theorem dX6_init_31 : decode cX6_init 31 = .ok (.invokespecial 18, 3) := by decide +kernel
theorem dX6_init_34 : decode cX6_init 34 = .ok (.putfield 23, 3) := by decide +kernel
theorem dX6_init_37 : decode cX6_init 37 = .ok (.aload_n 0, 1) := by decide +kernel
theorem dX6_init_38 : decode cX6_init 38 = .ok (.new 26, 3) := by decide +kernel
theorem dX6_init_41 : decode cX6_init 41 = .ok (.dup, 1) := by decide +kernel
theorem dX6_init_42 : decode cX6_init 42 = .ok (.invokespecial 28, 3) := by decide +kernel
theorem dX6_init_45 : decode cX6_init 45 = .ok (.putfield 29, 3) := by decide +kernel
theorem dX6_init_48 : decode cX6_init 48 = .ok (.aload_n 0, 1) := by decide +kernel
theorem dX6_init_49 : decode cX6_init 49 = .ok (.new 26, 3) := by decide +kernel
theorem dX6_init_52 : decode cX6_init 52 = .ok (.dup, 1) := by decide +kernel
theorem dX6_init_53 : decode cX6_init 53 = .ok (.invokespecial 28, 3) := by decide +kernel
theorem dX6_init_56 : decode cX6_init 56 = .ok (.putfield 33, 3) := by decide +kernel
theorem dX6_init_59 : decode cX6_init 59 = .ok (.aload_n 0, 1) := by decide +kernel
theorem dX6_init_60 : decode cX6_init 60 = .ok (.new 36, 3) := by decide +kernel
theorem dX6_init_63 : decode cX6_init 63 = .ok (.dup, 1) := by decide +kernel
theorem dX6_init_64 : decode cX6_init 64 = .ok (.bipush 8, 2) := by decide +kernel
theorem dX6_init_66 : decode cX6_init 66 = .ok (.invokespecial 38, 3) := by decide +kernel
theorem dX6_init_69 : decode cX6_init 69 = .ok (.putfield 41, 3) := by decide +kernel
theorem dX6_init_72 : decode cX6_init 72 = .ok (.aload_n 0, 1) := by decide +kernel
theorem dX6_init_73 : decode cX6_init 73 = .ok (.new 36, 3) := by decide +kernel
theorem dX6_init_76 : decode cX6_init 76 = .ok (.dup, 1) := by decide +kernel
theorem dX6_init_77 : decode cX6_init 77 = .ok (.iconst 2, 1) := by decide +kernel
theorem dX6_init_78 : decode cX6_init 78 = .ok (.invokespecial 38, 3) := by decide +kernel
theorem dX6_init_81 : decode cX6_init 81 = .ok (.putfield 45, 3) := by decide +kernel
theorem dX6_init_84 : decode cX6_init 84 = .ok (.aload_n 0, 1) := by decide +kernel
theorem dX6_init_85 : decode cX6_init 85 = .ok (.bipush 32, 2) := by decide +kernel
theorem dX6_init_87 : decode cX6_init 87 = .ok (.newarray .int, 2) := by decide +kernel
theorem dX6_init_89 : decode cX6_init 89 = .ok (.putfield 48, 3) := by decide +kernel
theorem dX6_init_92 : decode cX6_init 92 = .ok (.aload_n 0, 1) := by decide +kernel
theorem dX6_init_93 : decode cX6_init 93 = .ok (.bipush 8, 2) := by decide +kernel
theorem dX6_init_95 : decode cX6_init 95 = .ok (.newarray .int, 2) := by decide +kernel
theorem dX6_init_97 : decode cX6_init 97 = .ok (.putfield 52, 3) := by decide +kernel
theorem dX6_init_100 : decode cX6_init 100 = .ok (.aload_n 0, 1) := by decide +kernel
theorem dX6_init_101 : decode cX6_init 101 = .ok (.new 55, 3) := by decide +kernel
theorem dX6_init_104 : decode cX6_init 104 = .ok (.dup, 1) := by decide +kernel
theorem dX6_init_105 : decode cX6_init 105 = .ok (.invokespecial 57, 3) := by decide +kernel
theorem dX6_init_108 : decode cX6_init 108 = .ok (.putfield 58, 3) := by decide +kernel
theorem dX6_init_111 : decode cX6_init 111 = .ok (.aload_n 0, 1) := by decide +kernel
theorem dX6_init_112 : decode cX6_init 112 = .ok (.new 62, 3) := by decide +kernel
theorem dX6_init_115 : decode cX6_init 115 = .ok (.dup, 1) := by decide +kernel
theorem dX6_init_116 : decode cX6_init 116 = .ok (.invokespecial 64, 3) := by decide +kernel
theorem dX6_init_119 : decode cX6_init 119 = .ok (.putfield 65, 3) := by decide +kernel
theorem dX6_init_122 : decode cX6_init 122 = .ok (.iconst 0, 1) := by decide +kernel
theorem dX6_init_123 : decode cX6_init 123 = .ok (.istore_n 1, 1) := by decide +kernel
theorem dX6_init_124 : decode cX6_init 124 = .ok (.iload_n 1, 1) := by decide +kernel
theorem dX6_init_125 : decode cX6_init 125 = .ok (.ldc 69, 2) := by decide +kernel
theorem dX6_init_127 : decode cX6_init 127 = .ok (.invokevirtual 71, 3) := by decide +kernel
theorem dX6_init_130 : decode cX6_init 130 = .ok (.if_icmp .ge 23, 3) := by decide +kernel
theorem dX6_init_133 : decode cX6_init 133 = .ok (.aload_n 0, 1) := by decide +kernel
theorem dX6_init_134 : decode cX6_init 134 = .ok (.getfield 10, 3) := by decide +kernel
theorem dX6_init_137 : decode cX6_init 137 = .ok (.ldc 69, 2) := by decide +kernel
theorem dX6_init_139 : decode cX6_init 139 = .ok (.iload_n 1, 1) := by decide +kernel
theorem dX6_init_140 : decode cX6_init 140 = .ok (.invokevirtual 77, 3) := by decide +kernel
theorem dX6_init_143 : decode cX6_init 143 = .ok (.invokevirtual 81, 3) := by decide +kernel
theorem dX6_init_146 : decode cX6_init 146 = .ok (.pop, 1) := by decide +kernel
theorem dX6_init_147 : decode cX6_init 147 = .ok (.iinc 1 1, 3) := by decide +kernel
theorem dX6_init_150 : decode cX6_init 150 = .ok (.goto (-26), 3) := by decide +kernel
theorem dX6_init_153 : decode cX6_init 153 = .ok (.aload_n 0, 1) := by decide +kernel
theorem dX6_init_154 : decode cX6_init 154 = .ok (.getfield 10, 3) := by decide +kernel
theorem dX6_init_157 : decode cX6_init 157 = .ok (.aload_n 0, 1) := by decide +kernel
theorem dX6_init_158 : decode cX6_init 158 = .ok (.getfield 23, 3) := by decide +kernel
theorem dX6_init_161 : decode cX6_init 161 = .ok (.invokevirtual 85, 3) := by decide +kernel
theorem dX6_init_164 : decode cX6_init 164 = .ok (.pop, 1) := by decide +kernel
theorem dX6_init_165 : decode cX6_init 165 = .ok (.aload_n 0, 1) := by decide +kernel
theorem dX6_init_166 : decode cX6_init 166 = .ok (.invokevirtual 89, 3) := by decide +kernel
theorem dX6_init_169 : decode cX6_init 169 = .ok (.aload_n 0, 1) := by decide +kernel
theorem dX6_init_170 : decode cX6_init 170 = .ok (.getfield 10, 3) := by decide +kernel
theorem dX6_init_173 : decode cX6_init 173 = .ok (.invokevirtual 92, 3) := by decide +kernel
theorem dX6_init_176 : decode cX6_init 176 = .ok (.return_, 1) := by decide +kernel
theorem dX6_write_0 : decode cX6_write 0 = .ok (.iload_n 1, 1) := by decide +kernel
theorem dX6_write_1 : decode cX6_write 1 = .ok (.bipush 32, 2) := by decide +kernel
theorem dX6_write_3 : decode cX6_write 3 = .ok (.if_icmp .lt 9, 3) := by decide +kernel
theorem dX6_write_6 : decode cX6_write 6 = .ok (.iload_n 1, 1) := by decide +kernel
theorem dX6_write_7 : decode cX6_write 7 = .ok (.bipush 126, 2) := by decide +kernel
theorem dX6_write_9 : decode cX6_write 9 = .ok (.if_icmp .le 5, 3) := by decide +kernel
theorem dX6_write_12 : decode cX6_write 12 = .ok (.iconst (-1), 1) := by decide +kernel
theorem dX6_write_13 : decode cX6_write 13 = .ok (.ireturn, 1) := by decide +kernel
theorem dX6_write_14 : decode cX6_write 14 = .ok (.aload_n 0, 1) := by decide +kernel
theorem dX6_write_15 : decode cX6_write 15 = .ok (.getfield 10, 3) := by decide +kernel
theorem dX6_write_18 : decode cX6_write 18 = .ok (.iload_n 1, 1) := by decide +kernel
theorem dX6_write_19 : decode cX6_write 19 = .ok (.invokevirtual 81, 3) := by decide +kernel
theorem dX6_write_22 : decode cX6_write 22 = .ok (.ifCond .eq 13, 3) := by decide +kernel
theorem dX6_write_25 : decode cX6_write 25 = .ok (.aload_n 0, 1) := by decide +kernel
theorem dX6_write_26 : decode cX6_write 26 = .ok (.getfield 10, 3) := by decide +kernel
theorem dX6_write_29 : decode cX6_write 29 = .ok (.getfield 95, 3) := by decide +kernel
theorem dX6_write_32 : decode cX6_write 32 = .ok (.goto 5, 3) := by decide +kernel
theorem dX6_write_35 : decode cX6_write 35 = .ok (.bipush (-3), 2) := by decide +kernel
theorem dX6_write_37 : decode cX6_write 37 = .ok (.ireturn, 1) := by decide +kernel
theorem dX6_wipe_0 : decode cX6_wipe 0 = .ok (.aload_n 0, 1) := by decide +kernel
theorem dX6_wipe_1 : decode cX6_wipe 1 = .ok (.getfield 10, 3) := by decide +kernel
theorem dX6_wipe_4 : decode cX6_wipe 4 = .ok (.getfield 95, 3) := by decide +kernel
theorem dX6_wipe_7 : decode cX6_wipe 7 = .ok (.istore_n 1, 1) := by decide +kernel
theorem dX6_wipe_8 : decode cX6_wipe 8 = .ok (.aload_n 0, 1) := by decide +kernel
theorem dX6_wipe_9 : decode cX6_wipe 9 = .ok (.getfield 10, 3) := by decide +kernel
theorem dX6_wipe_12 : decode cX6_wipe 12 = .ok (.invokevirtual 92, 3) := by decide +kernel
theorem dX6_wipe_15 : decode cX6_wipe 15 = .ok (.iload_n 1, 1) := by decide +kernel
theorem dX6_wipe_16 : decode cX6_wipe 16 = .ok (.ireturn, 1) := by decide +kernel
theorem dX6_fault_0 : decode cX6_fault 0 = .ok (.aload_n 0, 1) := by decide +kernel
theorem dX6_fault_1 : decode cX6_fault 1 = .ok (.getfield 10, 3) := by decide +kernel
theorem dX6_fault_4 : decode cX6_fault 4 = .ok (.aload_n 0, 1) := by decide +kernel
theorem dX6_fault_5 : decode cX6_fault 5 = .ok (.getfield 23, 3) := by decide +kernel
theorem dX6_fault_8 : decode cX6_fault 8 = .ok (.invokevirtual 85, 3) := by decide +kernel
theorem dX6_fault_11 : decode cX6_fault 11 = .ok (.ireturn, 1) := by decide +kernel
theorem dX6_lay_0 : decode cX6_lay 0 = .ok (.aload_n 0, 1) := by decide +kernel
theorem dX6_lay_1 : decode cX6_lay 1 = .ok (.getfield 10, 3) := by decide +kernel
theorem dX6_lay_4 : decode cX6_lay 4 = .ok (.aload_n 0, 1) := by decide +kernel
theorem dX6_lay_5 : decode cX6_lay 5 = .ok (.getfield 23, 3) := by decide +kernel
theorem dX6_lay_8 : decode cX6_lay 8 = .ok (.invokevirtual 85, 3) := by decide +kernel
theorem dX6_lay_11 : decode cX6_lay 11 = .ok (.bipush (-4), 2) := by decide +kernel
theorem dX6_lay_13 : decode cX6_lay 13 = .ok (.if_icmp .ne 13, 3) := by decide +kernel
theorem dX6_lay_16 : decode cX6_lay 16 = .ok (.aload_n 0, 1) := by decide +kernel
theorem dX6_lay_17 : decode cX6_lay 17 = .ok (.getfield 23, 3) := by decide +kernel
theorem dX6_lay_20 : decode cX6_lay 20 = .ok (.invokevirtual 98, 3) := by decide +kernel
theorem dX6_lay_23 : decode cX6_lay 23 = .ok (.ifCond .ne 6, 3) := by decide +kernel
theorem dX6_lay_26 : decode cX6_lay 26 = .ok (.bipush (-2), 2) := by decide +kernel
theorem dX6_lay_28 : decode cX6_lay 28 = .ok (.ireturn, 1) := by decide +kernel
theorem dX6_lay_29 : decode cX6_lay 29 = .ok (.aload_n 0, 1) := by decide +kernel
theorem dX6_lay_30 : decode cX6_lay 30 = .ok (.invokevirtual 89, 3) := by decide +kernel
theorem dX6_lay_33 : decode cX6_lay 33 = .ok (.aload_n 0, 1) := by decide +kernel
theorem dX6_lay_34 : decode cX6_lay 34 = .ok (.getfield 19, 3) := by decide +kernel
theorem dX6_lay_37 : decode cX6_lay 37 = .ok (.getfield 102, 3) := by decide +kernel
theorem dX6_lay_40 : decode cX6_lay 40 = .ok (.ireturn, 1) := by decide +kernel
theorem dX6_bell_0 : decode cX6_bell 0 = .ok (.aload_n 0, 1) := by decide +kernel
theorem dX6_bell_1 : decode cX6_bell 1 = .ok (.iload_n 1, 1) := by decide +kernel
theorem dX6_bell_2 : decode cX6_bell 2 = .ok (.invokevirtual 105, 3) := by decide +kernel
theorem dX6_bell_5 : decode cX6_bell 5 = .ok (.ifCond .ne 5, 3) := by decide +kernel
theorem dX6_bell_8 : decode cX6_bell 8 = .ok (.iconst (-1), 1) := by decide +kernel
theorem dX6_bell_9 : decode cX6_bell 9 = .ok (.ireturn, 1) := by decide +kernel
theorem dX6_bell_10 : decode cX6_bell 10 = .ok (.iload_n 2, 1) := by decide +kernel
theorem dX6_bell_11 : decode cX6_bell 11 = .ok (.tableswitch 79 0 4 #[33, 43, 53, 59, 69], 33) := by decide +kernel
theorem dX6_bell_44 : decode cX6_bell 44 = .ok (.aload_n 0, 1) := by decide +kernel
theorem dX6_bell_45 : decode cX6_bell 45 = .ok (.getfield 19, 3) := by decide +kernel
theorem dX6_bell_48 : decode cX6_bell 48 = .ok (.getfield 108, 3) := by decide +kernel
theorem dX6_bell_51 : decode cX6_bell 51 = .ok (.iload_n 1, 1) := by decide +kernel
theorem dX6_bell_52 : decode cX6_bell 52 = .ok (.iaload, 1) := by decide +kernel
theorem dX6_bell_53 : decode cX6_bell 53 = .ok (.ireturn, 1) := by decide +kernel
theorem dX6_bell_54 : decode cX6_bell 54 = .ok (.aload_n 0, 1) := by decide +kernel
theorem dX6_bell_55 : decode cX6_bell 55 = .ok (.getfield 19, 3) := by decide +kernel
theorem dX6_bell_58 : decode cX6_bell 58 = .ok (.getfield 111, 3) := by decide +kernel
theorem dX6_bell_61 : decode cX6_bell 61 = .ok (.iload_n 1, 1) := by decide +kernel
theorem dX6_bell_62 : decode cX6_bell 62 = .ok (.iaload, 1) := by decide +kernel
theorem dX6_bell_63 : decode cX6_bell 63 = .ok (.ireturn, 1) := by decide +kernel
theorem dX6_bell_64 : decode cX6_bell 64 = .ok (.aload_n 0, 1) := by decide +kernel
theorem dX6_bell_65 : decode cX6_bell 65 = .ok (.iload_n 1, 1) := by decide +kernel
theorem dX6_bell_66 : decode cX6_bell 66 = .ok (.invokevirtual 114, 3) := by decide +kernel
theorem dX6_bell_69 : decode cX6_bell 69 = .ok (.ireturn, 1) := by decide +kernel
theorem dX6_bell_70 : decode cX6_bell 70 = .ok (.aload_n 0, 1) := by decide +kernel
theorem dX6_bell_71 : decode cX6_bell 71 = .ok (.getfield 29, 3) := by decide +kernel
theorem dX6_bell_74 : decode cX6_bell 74 = .ok (.getfield 118, 3) := by decide +kernel
theorem dX6_bell_77 : decode cX6_bell 77 = .ok (.iload_n 1, 1) := by decide +kernel
theorem dX6_bell_78 : decode cX6_bell 78 = .ok (.iaload, 1) := by decide +kernel
theorem dX6_bell_79 : decode cX6_bell 79 = .ok (.ireturn, 1) := by decide +kernel
theorem dX6_bell_80 : decode cX6_bell 80 = .ok (.aload_n 0, 1) := by decide +kernel
theorem dX6_bell_81 : decode cX6_bell 81 = .ok (.getfield 29, 3) := by decide +kernel
theorem dX6_bell_84 : decode cX6_bell 84 = .ok (.getfield 121, 3) := by decide +kernel
theorem dX6_bell_87 : decode cX6_bell 87 = .ok (.iload_n 1, 1) := by decide +kernel
theorem dX6_bell_88 : decode cX6_bell 88 = .ok (.iaload, 1) := by decide +kernel
theorem dX6_bell_89 : decode cX6_bell 89 = .ok (.ireturn, 1) := by decide +kernel
theorem dX6_bell_90 : decode cX6_bell 90 = .ok (.iconst (-1), 1) := by decide +kernel
theorem dX6_bell_91 : decode cX6_bell 91 = .ok (.ireturn, 1) := by decide +kernel
theorem dX6_pins_0 : decode cX6_pins 0 = .ok (.aload_n 0, 1) := by decide +kernel
theorem dX6_pins_1 : decode cX6_pins 1 = .ok (.iload_n 1, 1) := by decide +kernel
theorem dX6_pins_2 : decode cX6_pins 2 = .ok (.invokevirtual 124, 3) := by decide +kernel
theorem dX6_pins_5 : decode cX6_pins 5 = .ok (.ifCond .eq 15, 3) := by decide +kernel
theorem dX6_pins_8 : decode cX6_pins 8 = .ok (.aload_n 0, 1) := by decide +kernel
theorem dX6_pins_9 : decode cX6_pins 9 = .ok (.getfield 29, 3) := by decide +kernel
theorem dX6_pins_12 : decode cX6_pins 12 = .ok (.getfield 127, 3) := by decide +kernel
theorem dX6_pins_15 : decode cX6_pins 15 = .ok (.iload_n 1, 1) := by decide +kernel
theorem dX6_pins_16 : decode cX6_pins 16 = .ok (.iaload, 1) := by decide +kernel
theorem dX6_pins_17 : decode cX6_pins 17 = .ok (.goto 4, 3) := by decide +kernel
theorem dX6_pins_20 : decode cX6_pins 20 = .ok (.iconst (-1), 1) := by decide +kernel
theorem dX6_pins_21 : decode cX6_pins 21 = .ok (.ireturn, 1) := by decide +kernel
theorem dX6_layTold_0 : decode cX6_layTold 0 = .ok (.aload_n 0, 1) := by decide +kernel
theorem dX6_layTold_1 : decode cX6_layTold 1 = .ok (.getfield 19, 3) := by decide +kernel
theorem dX6_layTold_4 : decode cX6_layTold 4 = .ok (.astore_n 1, 1) := by decide +kernel
theorem dX6_layTold_5 : decode cX6_layTold 5 = .ok (.aload_n 0, 1) := by decide +kernel
theorem dX6_layTold_6 : decode cX6_layTold 6 = .ok (.aload_n 0, 1) := by decide +kernel
theorem dX6_layTold_7 : decode cX6_layTold 7 = .ok (.getfield 23, 3) := by decide +kernel
theorem dX6_layTold_10 : decode cX6_layTold 10 = .ok (.putfield 19, 3) := by decide +kernel
theorem dX6_layTold_13 : decode cX6_layTold 13 = .ok (.aload_n 0, 1) := by decide +kernel
theorem dX6_layTold_14 : decode cX6_layTold 14 = .ok (.aload_n 1, 1) := by decide +kernel
theorem dX6_layTold_15 : decode cX6_layTold 15 = .ok (.putfield 23, 3) := by decide +kernel
theorem dX6_layTold_18 : decode cX6_layTold 18 = .ok (.aload_n 0, 1) := by decide +kernel
theorem dX6_layTold_19 : decode cX6_layTold 19 = .ok (.getfield 29, 3) := by decide +kernel
theorem dX6_layTold_22 : decode cX6_layTold 22 = .ok (.aload_n 0, 1) := by decide +kernel
theorem dX6_layTold_23 : decode cX6_layTold 23 = .ok (.getfield 19, 3) := by decide +kernel
theorem dX6_layTold_26 : decode cX6_layTold 26 = .ok (.invokevirtual 130, 3) := by decide +kernel
theorem dX6_layTold_29 : decode cX6_layTold 29 = .ok (.aload_n 0, 1) := by decide +kernel
theorem dX6_layTold_30 : decode cX6_layTold 30 = .ok (.getfield 48, 3) := by decide +kernel
theorem dX6_layTold_33 : decode cX6_layTold 33 = .ok (.iconst 0, 1) := by decide +kernel
theorem dX6_layTold_34 : decode cX6_layTold 34 = .ok (.invokestatic 134, 3) := by decide +kernel
theorem dX6_layTold_37 : decode cX6_layTold 37 = .ok (.aload_n 0, 1) := by decide +kernel
theorem dX6_layTold_38 : decode cX6_layTold 38 = .ok (.iconst 0, 1) := by decide +kernel
theorem dX6_layTold_39 : decode cX6_layTold 39 = .ok (.putfield 140, 3) := by decide +kernel
theorem dX6_layTold_42 : decode cX6_layTold 42 = .ok (.aload_n 0, 1) := by decide +kernel
theorem dX6_layTold_43 : decode cX6_layTold 43 = .ok (.getfield 41, 3) := by decide +kernel
theorem dX6_layTold_46 : decode cX6_layTold 46 = .ok (.invokevirtual 143, 3) := by decide +kernel
theorem dX6_layTold_49 : decode cX6_layTold 49 = .ok (.aload_n 0, 1) := by decide +kernel
theorem dX6_layTold_50 : decode cX6_layTold 50 = .ok (.getfield 45, 3) := by decide +kernel
theorem dX6_layTold_53 : decode cX6_layTold 53 = .ok (.invokevirtual 143, 3) := by decide +kernel
theorem dX6_layTold_56 : decode cX6_layTold 56 = .ok (.return_, 1) := by decide +kernel
theorem dX6_isBell_0 : decode cX6_isBell 0 = .ok (.iload_n 1, 1) := by decide +kernel
theorem dX6_isBell_1 : decode cX6_isBell 1 = .ok (.ifCond .lt 18, 3) := by decide +kernel
theorem dX6_isBell_4 : decode cX6_isBell 4 = .ok (.iload_n 1, 1) := by decide +kernel
theorem dX6_isBell_5 : decode cX6_isBell 5 = .ok (.aload_n 0, 1) := by decide +kernel
theorem dX6_isBell_6 : decode cX6_isBell 6 = .ok (.getfield 19, 3) := by decide +kernel
theorem dX6_isBell_9 : decode cX6_isBell 9 = .ok (.getfield 144, 3) := by decide +kernel
theorem dX6_isBell_12 : decode cX6_isBell 12 = .ok (.if_icmp .ge 7, 3) := by decide +kernel
theorem dX6_isBell_15 : decode cX6_isBell 15 = .ok (.iconst 1, 1) := by decide +kernel
theorem dX6_isBell_16 : decode cX6_isBell 16 = .ok (.goto 4, 3) := by decide +kernel
theorem dX6_isBell_19 : decode cX6_isBell 19 = .ok (.iconst 0, 1) := by decide +kernel
theorem dX6_isBell_20 : decode cX6_isBell 20 = .ok (.ireturn, 1) := by decide +kernel
theorem dX6_isRow_0 : decode cX6_isRow 0 = .ok (.iload_n 1, 1) := by decide +kernel
theorem dX6_isRow_1 : decode cX6_isRow 1 = .ok (.ifCond .lt 18, 3) := by decide +kernel
theorem dX6_isRow_4 : decode cX6_isRow 4 = .ok (.iload_n 1, 1) := by decide +kernel
theorem dX6_isRow_5 : decode cX6_isRow 5 = .ok (.aload_n 0, 1) := by decide +kernel
theorem dX6_isRow_6 : decode cX6_isRow 6 = .ok (.getfield 19, 3) := by decide +kernel
theorem dX6_isRow_9 : decode cX6_isRow 9 = .ok (.getfield 147, 3) := by decide +kernel
theorem dX6_isRow_12 : decode cX6_isRow 12 = .ok (.if_icmp .ge 7, 3) := by decide +kernel
theorem dX6_isRow_15 : decode cX6_isRow 15 = .ok (.iconst 1, 1) := by decide +kernel
theorem dX6_isRow_16 : decode cX6_isRow 16 = .ok (.goto 4, 3) := by decide +kernel
theorem dX6_isRow_19 : decode cX6_isRow 19 = .ok (.iconst 0, 1) := by decide +kernel
theorem dX6_isRow_20 : decode cX6_isRow 20 = .ok (.ireturn, 1) := by decide +kernel
theorem dX6_isSet_0 : decode cX6_isSet 0 = .ok (.iload_n 1, 1) := by decide +kernel
theorem dX6_isSet_1 : decode cX6_isSet 1 = .ok (.ifCond .lt 18, 3) := by decide +kernel
theorem dX6_isSet_4 : decode cX6_isSet 4 = .ok (.iload_n 1, 1) := by decide +kernel
theorem dX6_isSet_5 : decode cX6_isSet 5 = .ok (.aload_n 0, 1) := by decide +kernel
theorem dX6_isSet_6 : decode cX6_isSet 6 = .ok (.getfield 19, 3) := by decide +kernel
theorem dX6_isSet_9 : decode cX6_isSet 9 = .ok (.invokevirtual 150, 3) := by decide +kernel
theorem dX6_isSet_12 : decode cX6_isSet 12 = .ok (.if_icmp .gt 7, 3) := by decide +kernel
theorem dX6_isSet_15 : decode cX6_isSet 15 = .ok (.iconst 1, 1) := by decide +kernel
theorem dX6_isSet_16 : decode cX6_isSet 16 = .ok (.goto 4, 3) := by decide +kernel
theorem dX6_isSet_19 : decode cX6_isSet 19 = .ok (.iconst 0, 1) := by decide +kernel
theorem dX6_isSet_20 : decode cX6_isSet 20 = .ok (.ireturn, 1) := by decide +kernel
theorem dX6_pinsOfBell_0 : decode cX6_pinsOfBell 0 = .ok (.iconst 0, 1) := by decide +kernel
theorem dX6_pinsOfBell_1 : decode cX6_pinsOfBell 1 = .ok (.istore_n 2, 1) := by decide +kernel
theorem dX6_pinsOfBell_2 : decode cX6_pinsOfBell 2 = .ok (.iconst 0, 1) := by decide +kernel
theorem dX6_pinsOfBell_3 : decode cX6_pinsOfBell 3 = .ok (.istore_n 3, 1) := by decide +kernel
theorem dX6_pinsOfBell_4 : decode cX6_pinsOfBell 4 = .ok (.iload_n 3, 1) := by decide +kernel
theorem dX6_pinsOfBell_5 : decode cX6_pinsOfBell 5 = .ok (.aload_n 0, 1) := by decide +kernel
theorem dX6_pinsOfBell_6 : decode cX6_pinsOfBell 6 = .ok (.getfield 19, 3) := by decide +kernel
theorem dX6_pinsOfBell_9 : decode cX6_pinsOfBell 9 = .ok (.getfield 147, 3) := by decide +kernel
theorem dX6_pinsOfBell_12 : decode cX6_pinsOfBell 12 = .ok (.if_icmp .ge 25, 3) := by decide +kernel
theorem dX6_pinsOfBell_15 : decode cX6_pinsOfBell 15 = .ok (.iload_n 2, 1) := by decide +kernel
theorem dX6_pinsOfBell_16 : decode cX6_pinsOfBell 16 = .ok (.aload_n 0, 1) := by decide +kernel
theorem dX6_pinsOfBell_17 : decode cX6_pinsOfBell 17 = .ok (.getfield 29, 3) := by decide +kernel
theorem dX6_pinsOfBell_20 : decode cX6_pinsOfBell 20 = .ok (.getfield 127, 3) := by decide +kernel
theorem dX6_pinsOfBell_23 : decode cX6_pinsOfBell 23 = .ok (.iload_n 3, 1) := by decide +kernel
theorem dX6_pinsOfBell_24 : decode cX6_pinsOfBell 24 = .ok (.iaload, 1) := by decide +kernel
theorem dX6_pinsOfBell_25 : decode cX6_pinsOfBell 25 = .ok (.iload_n 1, 1) := by decide +kernel
theorem dX6_pinsOfBell_26 : decode cX6_pinsOfBell 26 = .ok (.ishr, 1) := by decide +kernel
theorem dX6_pinsOfBell_27 : decode cX6_pinsOfBell 27 = .ok (.iconst 1, 1) := by decide +kernel
theorem dX6_pinsOfBell_28 : decode cX6_pinsOfBell 28 = .ok (.iand, 1) := by decide +kernel
theorem dX6_pinsOfBell_29 : decode cX6_pinsOfBell 29 = .ok (.iadd, 1) := by decide +kernel
theorem dX6_pinsOfBell_30 : decode cX6_pinsOfBell 30 = .ok (.istore_n 2, 1) := by decide +kernel
theorem dX6_pinsOfBell_31 : decode cX6_pinsOfBell 31 = .ok (.iinc 3 1, 3) := by decide +kernel
theorem dX6_pinsOfBell_34 : decode cX6_pinsOfBell 34 = .ok (.goto (-30), 3) := by decide +kernel
theorem dX6_pinsOfBell_37 : decode cX6_pinsOfBell 37 = .ok (.iload_n 2, 1) := by decide +kernel
theorem dX6_pinsOfBell_38 : decode cX6_pinsOfBell 38 = .ok (.ireturn, 1) := by decide +kernel
theorem dX6_turn_0 : decode cX6_turn 0 = .ok (.aload_n 0, 1) := by decide +kernel
theorem dX6_turn_1 : decode cX6_turn 1 = .ok (.getfield 41, 3) := by decide +kernel
theorem dX6_turn_4 : decode cX6_turn 4 = .ok (.aload_n 0, 1) := by decide +kernel
theorem dX6_turn_5 : decode cX6_turn 5 = .ok (.getfield 29, 3) := by decide +kernel
theorem dX6_turn_8 : decode cX6_turn 8 = .ok (.invokevirtual 153, 3) := by decide +kernel
theorem dX6_turn_11 : decode cX6_turn 11 = .ok (.aload_n 0, 1) := by decide +kernel
theorem dX6_turn_12 : decode cX6_turn 12 = .ok (.getfield 29, 3) := by decide +kernel
theorem dX6_turn_15 : decode cX6_turn 15 = .ok (.aload_n 0, 1) := by decide +kernel
theorem dX6_turn_16 : decode cX6_turn 16 = .ok (.getfield 19, 3) := by decide +kernel
theorem dX6_turn_19 : decode cX6_turn 19 = .ok (.invokevirtual 157, 3) := by decide +kernel
theorem dX6_turn_22 : decode cX6_turn 22 = .ok (.ireturn, 1) := by decide +kernel
theorem dX6_turnBack_0 : decode cX6_turnBack 0 = .ok (.aload_n 0, 1) := by decide +kernel
theorem dX6_turnBack_1 : decode cX6_turnBack 1 = .ok (.getfield 41, 3) := by decide +kernel
theorem dX6_turnBack_4 : decode cX6_turnBack 4 = .ok (.aload_n 0, 1) := by decide +kernel
theorem dX6_turnBack_5 : decode cX6_turnBack 5 = .ok (.getfield 29, 3) := by decide +kernel
theorem dX6_turnBack_8 : decode cX6_turnBack 8 = .ok (.invokevirtual 153, 3) := by decide +kernel
theorem dX6_turnBack_11 : decode cX6_turnBack 11 = .ok (.aload_n 0, 1) := by decide +kernel
theorem dX6_turnBack_12 : decode cX6_turnBack 12 = .ok (.getfield 29, 3) := by decide +kernel
theorem dX6_turnBack_15 : decode cX6_turnBack 15 = .ok (.aload_n 0, 1) := by decide +kernel
theorem dX6_turnBack_16 : decode cX6_turnBack 16 = .ok (.getfield 19, 3) := by decide +kernel
theorem dX6_turnBack_19 : decode cX6_turnBack 19 = .ok (.invokevirtual 160, 3) := by decide +kernel
theorem dX6_turnBack_22 : decode cX6_turnBack 22 = .ok (.ireturn, 1) := by decide +kernel
theorem dX6_pin_0 : decode cX6_pin 0 = .ok (.aload_n 0, 1) := by decide +kernel
theorem dX6_pin_1 : decode cX6_pin 1 = .ok (.iload_n 1, 1) := by decide +kernel
theorem dX6_pin_2 : decode cX6_pin 2 = .ok (.invokevirtual 124, 3) := by decide +kernel
theorem dX6_pin_5 : decode cX6_pin 5 = .ok (.ifCond .eq 11, 3) := by decide +kernel
theorem dX6_pin_8 : decode cX6_pin 8 = .ok (.aload_n 0, 1) := by decide +kernel
theorem dX6_pin_9 : decode cX6_pin 9 = .ok (.iload_n 2, 1) := by decide +kernel
theorem dX6_pin_10 : decode cX6_pin 10 = .ok (.invokevirtual 105, 3) := by decide +kernel
theorem dX6_pin_13 : decode cX6_pin 13 = .ok (.ifCond .ne 5, 3) := by decide +kernel
theorem dX6_pin_16 : decode cX6_pin 16 = .ok (.iconst (-1), 1) := by decide +kernel
theorem dX6_pin_17 : decode cX6_pin 17 = .ok (.ireturn, 1) := by decide +kernel
theorem dX6_pin_18 : decode cX6_pin 18 = .ok (.aload_n 0, 1) := by decide +kernel
theorem dX6_pin_19 : decode cX6_pin 19 = .ok (.getfield 29, 3) := by decide +kernel
theorem dX6_pin_22 : decode cX6_pin 22 = .ok (.getfield 127, 3) := by decide +kernel
theorem dX6_pin_25 : decode cX6_pin 25 = .ok (.iload_n 1, 1) := by decide +kernel
theorem dX6_pin_26 : decode cX6_pin 26 = .ok (.iaload, 1) := by decide +kernel
theorem dX6_pin_27 : decode cX6_pin 27 = .ok (.iload_n 2, 1) := by decide +kernel
theorem dX6_pin_28 : decode cX6_pin 28 = .ok (.ishr, 1) := by decide +kernel
theorem dX6_pin_29 : decode cX6_pin 29 = .ok (.iconst 1, 1) := by decide +kernel
theorem dX6_pin_30 : decode cX6_pin 30 = .ok (.iand, 1) := by decide +kernel
theorem dX6_pin_31 : decode cX6_pin 31 = .ok (.iconst 1, 1) := by decide +kernel
theorem dX6_pin_32 : decode cX6_pin 32 = .ok (.if_icmp .ne 7, 3) := by decide +kernel
theorem dX6_pin_35 : decode cX6_pin 35 = .ok (.iconst 1, 1) := by decide +kernel
theorem dX6_pin_36 : decode cX6_pin 36 = .ok (.goto 4, 3) := by decide +kernel
theorem dX6_pin_39 : decode cX6_pin 39 = .ok (.iconst 0, 1) := by decide +kernel
theorem dX6_pin_40 : decode cX6_pin 40 = .ok (.istore 4, 2) := by decide +kernel
theorem dX6_pin_42 : decode cX6_pin 42 = .ok (.iload 4, 2) := by decide +kernel
theorem dX6_pin_44 : decode cX6_pin 44 = .ok (.iload_n 3, 1) := by decide +kernel
theorem dX6_pin_45 : decode cX6_pin 45 = .ok (.if_icmp .ne 6, 3) := by decide +kernel
theorem dX6_pin_48 : decode cX6_pin 48 = .ok (.bipush (-2), 2) := by decide +kernel
theorem dX6_pin_50 : decode cX6_pin 50 = .ok (.ireturn, 1) := by decide +kernel
theorem dX6_pin_51 : decode cX6_pin 51 = .ok (.aload_n 0, 1) := by decide +kernel
theorem dX6_pin_52 : decode cX6_pin 52 = .ok (.getfield 41, 3) := by decide +kernel
theorem dX6_pin_55 : decode cX6_pin 55 = .ok (.aload_n 0, 1) := by decide +kernel
theorem dX6_pin_56 : decode cX6_pin 56 = .ok (.getfield 29, 3) := by decide +kernel
theorem dX6_pin_59 : decode cX6_pin 59 = .ok (.invokevirtual 153, 3) := by decide +kernel
theorem dX6_pin_62 : decode cX6_pin 62 = .ok (.aload_n 0, 1) := by decide +kernel
theorem dX6_pin_63 : decode cX6_pin 63 = .ok (.getfield 29, 3) := by decide +kernel
theorem dX6_pin_66 : decode cX6_pin 66 = .ok (.getfield 127, 3) := by decide +kernel
theorem dX6_pin_69 : decode cX6_pin 69 = .ok (.iload_n 1, 1) := by decide +kernel
theorem dX6_pin_70 : decode cX6_pin 70 = .ok (.dup2, 1) := by decide +kernel
theorem dX6_pin_71 : decode cX6_pin 71 = .ok (.iaload, 1) := by decide +kernel
theorem dX6_pin_72 : decode cX6_pin 72 = .ok (.iconst 1, 1) := by decide +kernel
theorem dX6_pin_73 : decode cX6_pin 73 = .ok (.iload_n 2, 1) := by decide +kernel
theorem dX6_pin_74 : decode cX6_pin 74 = .ok (.ishl, 1) := by decide +kernel
theorem dX6_pin_75 : decode cX6_pin 75 = .ok (.ixor, 1) := by decide +kernel
theorem dX6_pin_76 : decode cX6_pin 76 = .ok (.iastore, 1) := by decide +kernel
theorem dX6_pin_77 : decode cX6_pin 77 = .ok (.aload_n 0, 1) := by decide +kernel
theorem dX6_pin_78 : decode cX6_pin 78 = .ok (.getfield 29, 3) := by decide +kernel
theorem dX6_pin_81 : decode cX6_pin 81 = .ok (.getfield 127, 3) := by decide +kernel
theorem dX6_pin_84 : decode cX6_pin 84 = .ok (.iload_n 1, 1) := by decide +kernel
theorem dX6_pin_85 : decode cX6_pin 85 = .ok (.iaload, 1) := by decide +kernel
theorem dX6_pin_86 : decode cX6_pin 86 = .ok (.invokestatic 163, 3) := by decide +kernel
theorem dX6_pin_89 : decode cX6_pin 89 = .ok (.ireturn, 1) := by decide +kernel
theorem dX6_shift_0 : decode cX6_shift 0 = .ok (.aload_n 0, 1) := by decide +kernel
theorem dX6_shift_1 : decode cX6_shift 1 = .ok (.iload_n 1, 1) := by decide +kernel
theorem dX6_shift_2 : decode cX6_shift 2 = .ok (.invokevirtual 124, 3) := by decide +kernel
theorem dX6_shift_5 : decode cX6_shift 5 = .ok (.ifCond .ne 5, 3) := by decide +kernel
theorem dX6_shift_8 : decode cX6_shift 8 = .ok (.iconst (-1), 1) := by decide +kernel
theorem dX6_shift_9 : decode cX6_shift 9 = .ok (.ireturn, 1) := by decide +kernel
theorem dX6_shift_10 : decode cX6_shift 10 = .ok (.aload_n 0, 1) := by decide +kernel
theorem dX6_shift_11 : decode cX6_shift 11 = .ok (.getfield 41, 3) := by decide +kernel
theorem dX6_shift_14 : decode cX6_shift 14 = .ok (.aload_n 0, 1) := by decide +kernel
theorem dX6_shift_15 : decode cX6_shift 15 = .ok (.getfield 29, 3) := by decide +kernel
theorem dX6_shift_18 : decode cX6_shift 18 = .ok (.invokevirtual 153, 3) := by decide +kernel
theorem dX6_shift_21 : decode cX6_shift 21 = .ok (.iconst 0, 1) := by decide +kernel
theorem dX6_shift_22 : decode cX6_shift 22 = .ok (.istore_n 2, 1) := by decide +kernel
theorem dX6_shift_23 : decode cX6_shift 23 = .ok (.iload_n 2, 1) := by decide +kernel
theorem dX6_shift_24 : decode cX6_shift 24 = .ok (.aload_n 0, 1) := by decide +kernel
theorem dX6_shift_25 : decode cX6_shift 25 = .ok (.getfield 19, 3) := by decide +kernel
theorem dX6_shift_28 : decode cX6_shift 28 = .ok (.getfield 147, 3) := by decide +kernel
theorem dX6_shift_31 : decode cX6_shift 31 = .ok (.if_icmp .ge 35, 3) := by decide +kernel
theorem dX6_shift_34 : decode cX6_shift 34 = .ok (.aload_n 0, 1) := by decide +kernel
theorem dX6_shift_35 : decode cX6_shift 35 = .ok (.getfield 33, 3) := by decide +kernel
theorem dX6_shift_38 : decode cX6_shift 38 = .ok (.getfield 127, 3) := by decide +kernel
theorem dX6_shift_41 : decode cX6_shift 41 = .ok (.aload_n 0, 1) := by decide +kernel
theorem dX6_shift_42 : decode cX6_shift 42 = .ok (.getfield 19, 3) := by decide +kernel
theorem dX6_shift_45 : decode cX6_shift 45 = .ok (.iload_n 2, 1) := by decide +kernel
theorem dX6_shift_46 : decode cX6_shift 46 = .ok (.iload_n 1, 1) := by decide +kernel
theorem dX6_shift_47 : decode cX6_shift 47 = .ok (.invokevirtual 168, 3) := by decide +kernel
theorem dX6_shift_50 : decode cX6_shift 50 = .ok (.aload_n 0, 1) := by decide +kernel
theorem dX6_shift_51 : decode cX6_shift 51 = .ok (.getfield 29, 3) := by decide +kernel
theorem dX6_shift_54 : decode cX6_shift 54 = .ok (.getfield 127, 3) := by decide +kernel
theorem dX6_shift_57 : decode cX6_shift 57 = .ok (.iload_n 2, 1) := by decide +kernel
theorem dX6_shift_58 : decode cX6_shift 58 = .ok (.iaload, 1) := by decide +kernel
theorem dX6_shift_59 : decode cX6_shift 59 = .ok (.iastore, 1) := by decide +kernel
theorem dX6_shift_60 : decode cX6_shift 60 = .ok (.iinc 2 1, 3) := by decide +kernel
theorem dX6_shift_63 : decode cX6_shift 63 = .ok (.goto (-40), 3) := by decide +kernel
theorem dX6_shift_66 : decode cX6_shift 66 = .ok (.aload_n 0, 1) := by decide +kernel
theorem dX6_shift_67 : decode cX6_shift 67 = .ok (.getfield 33, 3) := by decide +kernel
theorem dX6_shift_70 : decode cX6_shift 70 = .ok (.getfield 127, 3) := by decide +kernel
theorem dX6_shift_73 : decode cX6_shift 73 = .ok (.iconst 0, 1) := by decide +kernel
theorem dX6_shift_74 : decode cX6_shift 74 = .ok (.aload_n 0, 1) := by decide +kernel
theorem dX6_shift_75 : decode cX6_shift 75 = .ok (.getfield 29, 3) := by decide +kernel
theorem dX6_shift_78 : decode cX6_shift 78 = .ok (.getfield 127, 3) := by decide +kernel
theorem dX6_shift_81 : decode cX6_shift 81 = .ok (.iconst 0, 1) := by decide +kernel
theorem dX6_shift_82 : decode cX6_shift 82 = .ok (.aload_n 0, 1) := by decide +kernel
theorem dX6_shift_83 : decode cX6_shift 83 = .ok (.getfield 19, 3) := by decide +kernel
theorem dX6_shift_86 : decode cX6_shift 86 = .ok (.getfield 147, 3) := by decide +kernel
theorem dX6_shift_89 : decode cX6_shift 89 = .ok (.invokestatic 172, 3) := by decide +kernel
theorem dX6_shift_92 : decode cX6_shift 92 = .ok (.aload_n 0, 1) := by decide +kernel
theorem dX6_shift_93 : decode cX6_shift 93 = .ok (.getfield 29, 3) := by decide +kernel
theorem dX6_shift_96 : decode cX6_shift 96 = .ok (.getfield 127, 3) := by decide +kernel
theorem dX6_shift_99 : decode cX6_shift 99 = .ok (.iconst 0, 1) := by decide +kernel
theorem dX6_shift_100 : decode cX6_shift 100 = .ok (.iaload, 1) := by decide +kernel
theorem dX6_shift_101 : decode cX6_shift 101 = .ok (.ireturn, 1) := by decide +kernel
theorem dX6_undo_0 : decode cX6_undo 0 = .ok (.aload_n 0, 1) := by decide +kernel
theorem dX6_undo_1 : decode cX6_undo 1 = .ok (.getfield 41, 3) := by decide +kernel
theorem dX6_undo_4 : decode cX6_undo 4 = .ok (.aload_n 0, 1) := by decide +kernel
theorem dX6_undo_5 : decode cX6_undo 5 = .ok (.getfield 29, 3) := by decide +kernel
theorem dX6_undo_8 : decode cX6_undo 8 = .ok (.invokevirtual 178, 3) := by decide +kernel
theorem dX6_undo_11 : decode cX6_undo 11 = .ok (.ifCond .eq 13, 3) := by decide +kernel
theorem dX6_undo_14 : decode cX6_undo 14 = .ok (.aload_n 0, 1) := by decide +kernel
theorem dX6_undo_15 : decode cX6_undo 15 = .ok (.getfield 41, 3) := by decide +kernel
theorem dX6_undo_18 : decode cX6_undo 18 = .ok (.getfield 182, 3) := by decide +kernel
theorem dX6_undo_21 : decode cX6_undo 21 = .ok (.goto 5, 3) := by decide +kernel
theorem dX6_undo_24 : decode cX6_undo 24 = .ok (.bipush (-2), 2) := by decide +kernel
theorem dX6_undo_26 : decode cX6_undo 26 = .ok (.ireturn, 1) := by decide +kernel
theorem dX6_whole_0 : decode cX6_whole 0 = .ok (.iload_n 1, 1) := by decide +kernel
theorem dX6_whole_1 : decode cX6_whole 1 = .ok (.ifCond .lt 8, 3) := by decide +kernel
theorem dX6_whole_4 : decode cX6_whole 4 = .ok (.iload_n 1, 1) := by decide +kernel
theorem dX6_whole_5 : decode cX6_whole 5 = .ok (.iconst 2, 1) := by decide +kernel
theorem dX6_whole_6 : decode cX6_whole 6 = .ok (.if_icmp .le 5, 3) := by decide +kernel
theorem dX6_whole_9 : decode cX6_whole 9 = .ok (.iconst (-1), 1) := by decide +kernel
theorem dX6_whole_10 : decode cX6_whole 10 = .ok (.ireturn, 1) := by decide +kernel
theorem dX6_whole_11 : decode cX6_whole 11 = .ok (.aload_n 0, 1) := by decide +kernel
theorem dX6_whole_12 : decode cX6_whole 12 = .ok (.getfield 33, 3) := by decide +kernel
theorem dX6_whole_15 : decode cX6_whole 15 = .ok (.aload_n 0, 1) := by decide +kernel
theorem dX6_whole_16 : decode cX6_whole 16 = .ok (.getfield 29, 3) := by decide +kernel
theorem dX6_whole_19 : decode cX6_whole 19 = .ok (.invokevirtual 185, 3) := by decide +kernel
theorem dX6_whole_22 : decode cX6_whole 22 = .ok (.iload_n 1, 1) := by decide +kernel
theorem dX6_whole_23 : decode cX6_whole 23 = .ok (.iconst 2, 1) := by decide +kernel
theorem dX6_whole_24 : decode cX6_whole 24 = .ok (.if_icmp .ne 26, 3) := by decide +kernel
theorem dX6_whole_27 : decode cX6_whole 27 = .ok (.iconst 0, 1) := by decide +kernel
theorem dX6_whole_28 : decode cX6_whole 28 = .ok (.istore_n 2, 1) := by decide +kernel
theorem dX6_whole_29 : decode cX6_whole 29 = .ok (.iload_n 2, 1) := by decide +kernel
theorem dX6_whole_30 : decode cX6_whole 30 = .ok (.bipush 8, 2) := by decide +kernel
theorem dX6_whole_32 : decode cX6_whole 32 = .ok (.if_icmp .ge 18, 3) := by decide +kernel
theorem dX6_whole_35 : decode cX6_whole 35 = .ok (.aload_n 0, 1) := by decide +kernel
theorem dX6_whole_36 : decode cX6_whole 36 = .ok (.aload_n 0, 1) := by decide +kernel
theorem dX6_whole_37 : decode cX6_whole 37 = .ok (.getfield 33, 3) := by decide +kernel
theorem dX6_whole_40 : decode cX6_whole 40 = .ok (.invokevirtual 188, 3) := by decide +kernel
theorem dX6_whole_43 : decode cX6_whole 43 = .ok (.pop, 1) := by decide +kernel
theorem dX6_whole_44 : decode cX6_whole 44 = .ok (.iinc 2 1, 3) := by decide +kernel
theorem dX6_whole_47 : decode cX6_whole 47 = .ok (.goto (-18), 3) := by decide +kernel
theorem dX6_whole_50 : decode cX6_whole 50 = .ok (.aload_n 0, 1) := by decide +kernel
theorem dX6_whole_51 : decode cX6_whole 51 = .ok (.aload_n 0, 1) := by decide +kernel
theorem dX6_whole_52 : decode cX6_whole 52 = .ok (.getfield 33, 3) := by decide +kernel
theorem dX6_whole_55 : decode cX6_whole 55 = .ok (.invokevirtual 188, 3) := by decide +kernel
theorem dX6_whole_58 : decode cX6_whole 58 = .ok (.istore_n 2, 1) := by decide +kernel
theorem dX6_whole_59 : decode cX6_whole 59 = .ok (.iload_n 1, 1) := by decide +kernel
theorem dX6_whole_60 : decode cX6_whole 60 = .ok (.ifCond .ne 7, 3) := by decide +kernel
theorem dX6_whole_63 : decode cX6_whole 63 = .ok (.iload_n 2, 1) := by decide +kernel
theorem dX6_whole_64 : decode cX6_whole 64 = .ok (.goto 9, 3) := by decide +kernel
theorem dX6_whole_67 : decode cX6_whole 67 = .ok (.aload_n 0, 1) := by decide +kernel
theorem dX6_whole_68 : decode cX6_whole 68 = .ok (.invokevirtual 192, 3) := by decide +kernel
theorem dX6_whole_71 : decode cX6_whole 71 = .ok (.iload_n 2, 1) := by decide +kernel
theorem dX6_whole_72 : decode cX6_whole 72 = .ok (.isub, 1) := by decide +kernel
theorem dX6_whole_73 : decode cX6_whole 73 = .ok (.ireturn, 1) := by decide +kernel
theorem dX6_silence_0 : decode cX6_silence 0 = .ok (.iconst 0, 1) := by decide +kernel
theorem dX6_silence_1 : decode cX6_silence 1 = .ok (.istore_n 1, 1) := by decide +kernel
theorem dX6_silence_2 : decode cX6_silence 2 = .ok (.iconst 0, 1) := by decide +kernel
theorem dX6_silence_3 : decode cX6_silence 3 = .ok (.istore_n 2, 1) := by decide +kernel
theorem dX6_silence_4 : decode cX6_silence 4 = .ok (.iconst 0, 1) := by decide +kernel
theorem dX6_silence_5 : decode cX6_silence 5 = .ok (.istore_n 3, 1) := by decide +kernel
theorem dX6_silence_6 : decode cX6_silence 6 = .ok (.iload_n 3, 1) := by decide +kernel
theorem dX6_silence_7 : decode cX6_silence 7 = .ok (.iconst 2, 1) := by decide +kernel
theorem dX6_silence_8 : decode cX6_silence 8 = .ok (.aload_n 0, 1) := by decide +kernel
theorem dX6_silence_9 : decode cX6_silence 9 = .ok (.getfield 19, 3) := by decide +kernel
theorem dX6_silence_12 : decode cX6_silence 12 = .ok (.getfield 147, 3) := by decide +kernel
theorem dX6_silence_15 : decode cX6_silence 15 = .ok (.imul, 1) := by decide +kernel
theorem dX6_silence_16 : decode cX6_silence 16 = .ok (.if_icmp .ge 43, 3) := by decide +kernel
theorem dX6_silence_19 : decode cX6_silence 19 = .ok (.aload_n 0, 1) := by decide +kernel
theorem dX6_silence_20 : decode cX6_silence 20 = .ok (.getfield 29, 3) := by decide +kernel
theorem dX6_silence_23 : decode cX6_silence 23 = .ok (.getfield 127, 3) := by decide +kernel
theorem dX6_silence_26 : decode cX6_silence 26 = .ok (.aload_n 0, 1) := by decide +kernel
theorem dX6_silence_27 : decode cX6_silence 27 = .ok (.getfield 19, 3) := by decide +kernel
theorem dX6_silence_30 : decode cX6_silence 30 = .ok (.iconst 0, 1) := by decide +kernel
theorem dX6_silence_31 : decode cX6_silence 31 = .ok (.iload_n 3, 1) := by decide +kernel
theorem dX6_silence_32 : decode cX6_silence 32 = .ok (.invokevirtual 168, 3) := by decide +kernel
theorem dX6_silence_35 : decode cX6_silence 35 = .ok (.iaload, 1) := by decide +kernel
theorem dX6_silence_36 : decode cX6_silence 36 = .ok (.ifCond .ne 9, 3) := by decide +kernel
theorem dX6_silence_39 : decode cX6_silence 39 = .ok (.iload_n 2, 1) := by decide +kernel
theorem dX6_silence_40 : decode cX6_silence 40 = .ok (.iconst 1, 1) := by decide +kernel
theorem dX6_silence_41 : decode cX6_silence 41 = .ok (.iadd, 1) := by decide +kernel
theorem dX6_silence_42 : decode cX6_silence 42 = .ok (.goto 4, 3) := by decide +kernel
theorem dX6_silence_45 : decode cX6_silence 45 = .ok (.iconst 0, 1) := by decide +kernel
theorem dX6_silence_46 : decode cX6_silence 46 = .ok (.istore_n 2, 1) := by decide +kernel
theorem dX6_silence_47 : decode cX6_silence 47 = .ok (.iload_n 1, 1) := by decide +kernel
theorem dX6_silence_48 : decode cX6_silence 48 = .ok (.iload_n 2, 1) := by decide +kernel
theorem dX6_silence_49 : decode cX6_silence 49 = .ok (.invokestatic 195, 3) := by decide +kernel
theorem dX6_silence_52 : decode cX6_silence 52 = .ok (.istore_n 1, 1) := by decide +kernel
theorem dX6_silence_53 : decode cX6_silence 53 = .ok (.iinc 3 1, 3) := by decide +kernel
theorem dX6_silence_56 : decode cX6_silence 56 = .ok (.goto (-50), 3) := by decide +kernel
theorem dX6_silence_59 : decode cX6_silence 59 = .ok (.iload_n 1, 1) := by decide +kernel
theorem dX6_silence_60 : decode cX6_silence 60 = .ok (.aload_n 0, 1) := by decide +kernel
theorem dX6_silence_61 : decode cX6_silence 61 = .ok (.getfield 19, 3) := by decide +kernel
theorem dX6_silence_64 : decode cX6_silence 64 = .ok (.getfield 147, 3) := by decide +kernel
theorem dX6_silence_67 : decode cX6_silence 67 = .ok (.invokestatic 200, 3) := by decide +kernel
theorem dX6_silence_70 : decode cX6_silence 70 = .ok (.ireturn, 1) := by decide +kernel
theorem dX6_again_0 : decode cX6_again 0 = .ok (.iconst 1, 1) := by decide +kernel
theorem dX6_again_1 : decode cX6_again 1 = .ok (.istore_n 1, 1) := by decide +kernel
theorem dX6_again_2 : decode cX6_again 2 = .ok (.iload_n 1, 1) := by decide +kernel
theorem dX6_again_3 : decode cX6_again 3 = .ok (.aload_n 0, 1) := by decide +kernel
theorem dX6_again_4 : decode cX6_again 4 = .ok (.getfield 19, 3) := by decide +kernel
theorem dX6_again_7 : decode cX6_again 7 = .ok (.getfield 147, 3) := by decide +kernel
theorem dX6_again_10 : decode cX6_again 10 = .ok (.if_icmp .ge 19, 3) := by decide +kernel
theorem dX6_again_13 : decode cX6_again 13 = .ok (.aload_n 0, 1) := by decide +kernel
theorem dX6_again_14 : decode cX6_again 14 = .ok (.iload_n 1, 1) := by decide +kernel
theorem dX6_again_15 : decode cX6_again 15 = .ok (.invokevirtual 203, 3) := by decide +kernel
theorem dX6_again_18 : decode cX6_again 18 = .ok (.ifCond .eq 5, 3) := by decide +kernel
theorem dX6_again_21 : decode cX6_again 21 = .ok (.iload_n 1, 1) := by decide +kernel
theorem dX6_again_22 : decode cX6_again 22 = .ok (.ireturn, 1) := by decide +kernel
theorem dX6_again_23 : decode cX6_again 23 = .ok (.iinc 1 1, 3) := by decide +kernel
theorem dX6_again_26 : decode cX6_again 26 = .ok (.goto (-24), 3) := by decide +kernel
theorem dX6_again_29 : decode cX6_again 29 = .ok (.aload_n 0, 1) := by decide +kernel
theorem dX6_again_30 : decode cX6_again 30 = .ok (.getfield 19, 3) := by decide +kernel
theorem dX6_again_33 : decode cX6_again 33 = .ok (.getfield 147, 3) := by decide +kernel
theorem dX6_again_36 : decode cX6_again 36 = .ok (.ireturn, 1) := by decide +kernel
theorem dX6_harsh_0 : decode cX6_harsh 0 = .ok (.aload_n 0, 1) := by decide +kernel
theorem dX6_harsh_1 : decode cX6_harsh 1 = .ok (.iconst 0, 1) := by decide +kernel
theorem dX6_harsh_2 : decode cX6_harsh 2 = .ok (.invokevirtual 206, 3) := by decide +kernel
theorem dX6_harsh_5 : decode cX6_harsh 5 = .ok (.iconst 2, 1) := by decide +kernel
theorem dX6_harsh_6 : decode cX6_harsh 6 = .ok (.idiv, 1) := by decide +kernel
theorem dX6_harsh_7 : decode cX6_harsh 7 = .ok (.ireturn, 1) := by decide +kernel
theorem dX6_canon_0 : decode cX6_canon 0 = .ok (.iload_n 1, 1) := by decide +kernel
theorem dX6_canon_1 : decode cX6_canon 1 = .ok (.ifCond .lt 8, 3) := by decide +kernel
theorem dX6_canon_4 : decode cX6_canon 4 = .ok (.iload_n 1, 1) := by decide +kernel
theorem dX6_canon_5 : decode cX6_canon 5 = .ok (.iconst 1, 1) := by decide +kernel
theorem dX6_canon_6 : decode cX6_canon 6 = .ok (.if_icmp .le 5, 3) := by decide +kernel
theorem dX6_canon_9 : decode cX6_canon 9 = .ok (.iconst (-1), 1) := by decide +kernel
theorem dX6_canon_10 : decode cX6_canon 10 = .ok (.ireturn, 1) := by decide +kernel
theorem dX6_canon_11 : decode cX6_canon 11 = .ok (.iconst 1, 1) := by decide +kernel
theorem dX6_canon_12 : decode cX6_canon 12 = .ok (.istore_n 2, 1) := by decide +kernel
theorem dX6_canon_13 : decode cX6_canon 13 = .ok (.aload_n 0, 1) := by decide +kernel
theorem dX6_canon_14 : decode cX6_canon 14 = .ok (.iconst 1, 1) := by decide +kernel
theorem dX6_canon_15 : decode cX6_canon 15 = .ok (.invokevirtual 206, 3) := by decide +kernel
theorem dX6_canon_18 : decode cX6_canon 18 = .ok (.istore_n 3, 1) := by decide +kernel
theorem dX6_canon_19 : decode cX6_canon 19 = .ok (.iconst 2, 1) := by decide +kernel
theorem dX6_canon_20 : decode cX6_canon 20 = .ok (.istore 4, 2) := by decide +kernel
theorem dX6_canon_22 : decode cX6_canon 22 = .ok (.iload 4, 2) := by decide +kernel
theorem dX6_canon_24 : decode cX6_canon 24 = .ok (.aload_n 0, 1) := by decide +kernel
theorem dX6_canon_25 : decode cX6_canon 25 = .ok (.getfield 19, 3) := by decide +kernel
theorem dX6_canon_28 : decode cX6_canon 28 = .ok (.getfield 147, 3) := by decide +kernel
theorem dX6_canon_31 : decode cX6_canon 31 = .ok (.if_icmp .ge 29, 3) := by decide +kernel
theorem dX6_canon_34 : decode cX6_canon 34 = .ok (.aload_n 0, 1) := by decide +kernel
theorem dX6_canon_35 : decode cX6_canon 35 = .ok (.iload 4, 2) := by decide +kernel
theorem dX6_canon_37 : decode cX6_canon 37 = .ok (.invokevirtual 206, 3) := by decide +kernel
theorem dX6_canon_40 : decode cX6_canon 40 = .ok (.istore 5, 2) := by decide +kernel
theorem dX6_canon_42 : decode cX6_canon 42 = .ok (.iload 5, 2) := by decide +kernel
theorem dX6_canon_44 : decode cX6_canon 44 = .ok (.iload_n 3, 1) := by decide +kernel
theorem dX6_canon_45 : decode cX6_canon 45 = .ok (.if_icmp .ge 9, 3) := by decide +kernel
theorem dX6_canon_48 : decode cX6_canon 48 = .ok (.iload 4, 2) := by decide +kernel
theorem dX6_canon_50 : decode cX6_canon 50 = .ok (.istore_n 2, 1) := by decide +kernel
theorem dX6_canon_51 : decode cX6_canon 51 = .ok (.iload 5, 2) := by decide +kernel
theorem dX6_canon_53 : decode cX6_canon 53 = .ok (.istore_n 3, 1) := by decide +kernel
theorem dX6_canon_54 : decode cX6_canon 54 = .ok (.iinc 4 1, 3) := by decide +kernel
theorem dX6_canon_57 : decode cX6_canon 57 = .ok (.goto (-35), 3) := by decide +kernel
theorem dX6_canon_60 : decode cX6_canon 60 = .ok (.iload_n 1, 1) := by decide +kernel
theorem dX6_canon_61 : decode cX6_canon 61 = .ok (.ifCond .ne 7, 3) := by decide +kernel
theorem dX6_canon_64 : decode cX6_canon 64 = .ok (.iload_n 2, 1) := by decide +kernel
theorem dX6_canon_65 : decode cX6_canon 65 = .ok (.goto 4, 3) := by decide +kernel
theorem dX6_canon_68 : decode cX6_canon 68 = .ok (.iload_n 3, 1) := by decide +kernel
theorem dX6_canon_69 : decode cX6_canon 69 = .ok (.ireturn, 1) := by decide +kernel
theorem dX6_ringsInATurn_0 : decode cX6_ringsInATurn 0 = .ok (.iconst 0, 1) := by decide +kernel
theorem dX6_ringsInATurn_1 : decode cX6_ringsInATurn 1 = .ok (.istore_n 2, 1) := by decide +kernel
theorem dX6_ringsInATurn_2 : decode cX6_ringsInATurn 2 = .ok (.iconst 0, 1) := by decide +kernel
theorem dX6_ringsInATurn_3 : decode cX6_ringsInATurn 3 = .ok (.istore_n 3, 1) := by decide +kernel
theorem dX6_ringsInATurn_4 : decode cX6_ringsInATurn 4 = .ok (.iload_n 3, 1) := by decide +kernel
theorem dX6_ringsInATurn_5 : decode cX6_ringsInATurn 5 = .ok (.aload_n 0, 1) := by decide +kernel
theorem dX6_ringsInATurn_6 : decode cX6_ringsInATurn 6 = .ok (.getfield 19, 3) := by decide +kernel
theorem dX6_ringsInATurn_9 : decode cX6_ringsInATurn 9 = .ok (.getfield 147, 3) := by decide +kernel
theorem dX6_ringsInATurn_12 : decode cX6_ringsInATurn 12 = .ok (.if_icmp .ge 23, 3) := by decide +kernel
theorem dX6_ringsInATurn_15 : decode cX6_ringsInATurn 15 = .ok (.iload_n 2, 1) := by decide +kernel
theorem dX6_ringsInATurn_16 : decode cX6_ringsInATurn 16 = .ok (.aload_n 1, 1) := by decide +kernel
theorem dX6_ringsInATurn_17 : decode cX6_ringsInATurn 17 = .ok (.aload_n 0, 1) := by decide +kernel
theorem dX6_ringsInATurn_18 : decode cX6_ringsInATurn 18 = .ok (.getfield 19, 3) := by decide +kernel
theorem dX6_ringsInATurn_21 : decode cX6_ringsInATurn 21 = .ok (.invokevirtual 157, 3) := by decide +kernel
theorem dX6_ringsInATurn_24 : decode cX6_ringsInATurn 24 = .ok (.invokestatic 163, 3) := by decide +kernel
theorem dX6_ringsInATurn_27 : decode cX6_ringsInATurn 27 = .ok (.iadd, 1) := by decide +kernel
theorem dX6_ringsInATurn_28 : decode cX6_ringsInATurn 28 = .ok (.istore_n 2, 1) := by decide +kernel
theorem dX6_ringsInATurn_29 : decode cX6_ringsInATurn 29 = .ok (.iinc 3 1, 3) := by decide +kernel
theorem dX6_ringsInATurn_32 : decode cX6_ringsInATurn 32 = .ok (.goto (-28), 3) := by decide +kernel
theorem dX6_ringsInATurn_35 : decode cX6_ringsInATurn 35 = .ok (.iload_n 2, 1) := by decide +kernel
theorem dX6_ringsInATurn_36 : decode cX6_ringsInATurn 36 = .ok (.ireturn, 1) := by decide +kernel
theorem dX6_allPins_0 : decode cX6_allPins 0 = .ok (.iconst 0, 1) := by decide +kernel
theorem dX6_allPins_1 : decode cX6_allPins 1 = .ok (.istore_n 1, 1) := by decide +kernel
theorem dX6_allPins_2 : decode cX6_allPins 2 = .ok (.iconst 0, 1) := by decide +kernel
theorem dX6_allPins_3 : decode cX6_allPins 3 = .ok (.istore_n 2, 1) := by decide +kernel
theorem dX6_allPins_4 : decode cX6_allPins 4 = .ok (.iload_n 2, 1) := by decide +kernel
theorem dX6_allPins_5 : decode cX6_allPins 5 = .ok (.aload_n 0, 1) := by decide +kernel
theorem dX6_allPins_6 : decode cX6_allPins 6 = .ok (.getfield 19, 3) := by decide +kernel
theorem dX6_allPins_9 : decode cX6_allPins 9 = .ok (.getfield 147, 3) := by decide +kernel
theorem dX6_allPins_12 : decode cX6_allPins 12 = .ok (.if_icmp .ge 24, 3) := by decide +kernel
theorem dX6_allPins_15 : decode cX6_allPins 15 = .ok (.iload_n 1, 1) := by decide +kernel
theorem dX6_allPins_16 : decode cX6_allPins 16 = .ok (.aload_n 0, 1) := by decide +kernel
theorem dX6_allPins_17 : decode cX6_allPins 17 = .ok (.getfield 29, 3) := by decide +kernel
theorem dX6_allPins_20 : decode cX6_allPins 20 = .ok (.getfield 127, 3) := by decide +kernel
theorem dX6_allPins_23 : decode cX6_allPins 23 = .ok (.iload_n 2, 1) := by decide +kernel
theorem dX6_allPins_24 : decode cX6_allPins 24 = .ok (.iaload, 1) := by decide +kernel
theorem dX6_allPins_25 : decode cX6_allPins 25 = .ok (.invokestatic 163, 3) := by decide +kernel
theorem dX6_allPins_28 : decode cX6_allPins 28 = .ok (.iadd, 1) := by decide +kernel
theorem dX6_allPins_29 : decode cX6_allPins 29 = .ok (.istore_n 1, 1) := by decide +kernel
theorem dX6_allPins_30 : decode cX6_allPins 30 = .ok (.iinc 2 1, 3) := by decide +kernel
theorem dX6_allPins_33 : decode cX6_allPins 33 = .ok (.goto (-29), 3) := by decide +kernel
theorem dX6_allPins_36 : decode cX6_allPins 36 = .ok (.iload_n 1, 1) := by decide +kernel
theorem dX6_allPins_37 : decode cX6_allPins 37 = .ok (.ireturn, 1) := by decide +kernel
theorem dX6_comesAgainAfter_0 : decode cX6_comesAgainAfter 0 = .ok (.iconst 0, 1) := by decide +kernel
theorem dX6_comesAgainAfter_1 : decode cX6_comesAgainAfter 1 = .ok (.istore_n 2, 1) := by decide +kernel
theorem dX6_comesAgainAfter_2 : decode cX6_comesAgainAfter 2 = .ok (.iload_n 2, 1) := by decide +kernel
theorem dX6_comesAgainAfter_3 : decode cX6_comesAgainAfter 3 = .ok (.aload_n 0, 1) := by decide +kernel
theorem dX6_comesAgainAfter_4 : decode cX6_comesAgainAfter 4 = .ok (.getfield 19, 3) := by decide +kernel
theorem dX6_comesAgainAfter_7 : decode cX6_comesAgainAfter 7 = .ok (.getfield 147, 3) := by decide +kernel
theorem dX6_comesAgainAfter_10 : decode cX6_comesAgainAfter 10 = .ok (.if_icmp .ge 40, 3) := by decide +kernel
theorem dX6_comesAgainAfter_13 : decode cX6_comesAgainAfter 13 = .ok (.aload_n 0, 1) := by decide +kernel
theorem dX6_comesAgainAfter_14 : decode cX6_comesAgainAfter 14 = .ok (.getfield 29, 3) := by decide +kernel
theorem dX6_comesAgainAfter_17 : decode cX6_comesAgainAfter 17 = .ok (.getfield 127, 3) := by decide +kernel
theorem dX6_comesAgainAfter_20 : decode cX6_comesAgainAfter 20 = .ok (.iload_n 2, 1) := by decide +kernel
theorem dX6_comesAgainAfter_21 : decode cX6_comesAgainAfter 21 = .ok (.iaload, 1) := by decide +kernel
theorem dX6_comesAgainAfter_22 : decode cX6_comesAgainAfter 22 = .ok (.aload_n 0, 1) := by decide +kernel
theorem dX6_comesAgainAfter_23 : decode cX6_comesAgainAfter 23 = .ok (.getfield 29, 3) := by decide +kernel
theorem dX6_comesAgainAfter_26 : decode cX6_comesAgainAfter 26 = .ok (.getfield 127, 3) := by decide +kernel
theorem dX6_comesAgainAfter_29 : decode cX6_comesAgainAfter 29 = .ok (.aload_n 0, 1) := by decide +kernel
theorem dX6_comesAgainAfter_30 : decode cX6_comesAgainAfter 30 = .ok (.getfield 19, 3) := by decide +kernel
theorem dX6_comesAgainAfter_33 : decode cX6_comesAgainAfter 33 = .ok (.iload_n 2, 1) := by decide +kernel
theorem dX6_comesAgainAfter_34 : decode cX6_comesAgainAfter 34 = .ok (.iload_n 1, 1) := by decide +kernel
theorem dX6_comesAgainAfter_35 : decode cX6_comesAgainAfter 35 = .ok (.invokevirtual 168, 3) := by decide +kernel
theorem dX6_comesAgainAfter_38 : decode cX6_comesAgainAfter 38 = .ok (.iaload, 1) := by decide +kernel
theorem dX6_comesAgainAfter_39 : decode cX6_comesAgainAfter 39 = .ok (.if_icmp .eq 5, 3) := by decide +kernel
theorem dX6_comesAgainAfter_42 : decode cX6_comesAgainAfter 42 = .ok (.iconst 0, 1) := by decide +kernel
theorem dX6_comesAgainAfter_43 : decode cX6_comesAgainAfter 43 = .ok (.ireturn, 1) := by decide +kernel
theorem dX6_comesAgainAfter_44 : decode cX6_comesAgainAfter 44 = .ok (.iinc 2 1, 3) := by decide +kernel
theorem dX6_comesAgainAfter_47 : decode cX6_comesAgainAfter 47 = .ok (.goto (-45), 3) := by decide +kernel
theorem dX6_comesAgainAfter_50 : decode cX6_comesAgainAfter 50 = .ok (.iconst 1, 1) := by decide +kernel
theorem dX6_comesAgainAfter_51 : decode cX6_comesAgainAfter 51 = .ok (.ireturn, 1) := by decide +kernel
theorem dX6_illTwos_0 : decode cX6_illTwos 0 = .ok (.iconst 0, 1) := by decide +kernel
theorem dX6_illTwos_1 : decode cX6_illTwos 1 = .ok (.istore_n 2, 1) := by decide +kernel
theorem dX6_illTwos_2 : decode cX6_illTwos 2 = .ok (.iconst 0, 1) := by decide +kernel
theorem dX6_illTwos_3 : decode cX6_illTwos 3 = .ok (.istore_n 3, 1) := by decide +kernel
theorem dX6_illTwos_4 : decode cX6_illTwos 4 = .ok (.iload_n 3, 1) := by decide +kernel
theorem dX6_illTwos_5 : decode cX6_illTwos 5 = .ok (.aload_n 0, 1) := by decide +kernel
theorem dX6_illTwos_6 : decode cX6_illTwos 6 = .ok (.getfield 19, 3) := by decide +kernel
theorem dX6_illTwos_9 : decode cX6_illTwos 9 = .ok (.getfield 147, 3) := by decide +kernel
theorem dX6_illTwos_12 : decode cX6_illTwos 12 = .ok (.if_icmp .ge 91, 3) := by decide +kernel
theorem dX6_illTwos_15 : decode cX6_illTwos 15 = .ok (.aload_n 0, 1) := by decide +kernel
theorem dX6_illTwos_16 : decode cX6_illTwos 16 = .ok (.getfield 29, 3) := by decide +kernel
theorem dX6_illTwos_19 : decode cX6_illTwos 19 = .ok (.getfield 127, 3) := by decide +kernel
theorem dX6_illTwos_22 : decode cX6_illTwos 22 = .ok (.aload_n 0, 1) := by decide +kernel
theorem dX6_illTwos_23 : decode cX6_illTwos 23 = .ok (.getfield 19, 3) := by decide +kernel
theorem dX6_illTwos_26 : decode cX6_illTwos 26 = .ok (.iload_n 3, 1) := by decide +kernel
theorem dX6_illTwos_27 : decode cX6_illTwos 27 = .ok (.iload_n 1, 1) := by decide +kernel
theorem dX6_illTwos_28 : decode cX6_illTwos 28 = .ok (.invokevirtual 168, 3) := by decide +kernel
theorem dX6_illTwos_31 : decode cX6_illTwos 31 = .ok (.iaload, 1) := by decide +kernel
theorem dX6_illTwos_32 : decode cX6_illTwos 32 = .ok (.istore 4, 2) := by decide +kernel
theorem dX6_illTwos_34 : decode cX6_illTwos 34 = .ok (.iconst 0, 1) := by decide +kernel
theorem dX6_illTwos_35 : decode cX6_illTwos 35 = .ok (.istore 5, 2) := by decide +kernel
theorem dX6_illTwos_37 : decode cX6_illTwos 37 = .ok (.iload 5, 2) := by decide +kernel
theorem dX6_illTwos_39 : decode cX6_illTwos 39 = .ok (.aload_n 0, 1) := by decide +kernel
theorem dX6_illTwos_40 : decode cX6_illTwos 40 = .ok (.getfield 19, 3) := by decide +kernel
theorem dX6_illTwos_43 : decode cX6_illTwos 43 = .ok (.getfield 144, 3) := by decide +kernel
theorem dX6_illTwos_46 : decode cX6_illTwos 46 = .ok (.if_icmp .ge 51, 3) := by decide +kernel
theorem dX6_illTwos_49 : decode cX6_illTwos 49 = .ok (.iload 4, 2) := by decide +kernel
theorem dX6_illTwos_51 : decode cX6_illTwos 51 = .ok (.ifCond .eq 46, 3) := by decide +kernel
theorem dX6_illTwos_54 : decode cX6_illTwos 54 = .ok (.aload_n 0, 1) := by decide +kernel
theorem dX6_illTwos_55 : decode cX6_illTwos 55 = .ok (.getfield 29, 3) := by decide +kernel
theorem dX6_illTwos_58 : decode cX6_illTwos 58 = .ok (.getfield 127, 3) := by decide +kernel
theorem dX6_illTwos_61 : decode cX6_illTwos 61 = .ok (.iload_n 3, 1) := by decide +kernel
theorem dX6_illTwos_62 : decode cX6_illTwos 62 = .ok (.iaload, 1) := by decide +kernel
theorem dX6_illTwos_63 : decode cX6_illTwos 63 = .ok (.iload 5, 2) := by decide +kernel
theorem dX6_illTwos_65 : decode cX6_illTwos 65 = .ok (.ishr, 1) := by decide +kernel
theorem dX6_illTwos_66 : decode cX6_illTwos 66 = .ok (.iconst 1, 1) := by decide +kernel
theorem dX6_illTwos_67 : decode cX6_illTwos 67 = .ok (.iand, 1) := by decide +kernel
theorem dX6_illTwos_68 : decode cX6_illTwos 68 = .ok (.iconst 1, 1) := by decide +kernel
theorem dX6_illTwos_69 : decode cX6_illTwos 69 = .ok (.if_icmp .ne 22, 3) := by decide +kernel
theorem dX6_illTwos_72 : decode cX6_illTwos 72 = .ok (.iload_n 2, 1) := by decide +kernel
theorem dX6_illTwos_73 : decode cX6_illTwos 73 = .ok (.aload_n 0, 1) := by decide +kernel
theorem dX6_illTwos_74 : decode cX6_illTwos 74 = .ok (.getfield 19, 3) := by decide +kernel
theorem dX6_illTwos_77 : decode cX6_illTwos 77 = .ok (.getfield 209, 3) := by decide +kernel
theorem dX6_illTwos_80 : decode cX6_illTwos 80 = .ok (.iload 5, 2) := by decide +kernel
theorem dX6_illTwos_82 : decode cX6_illTwos 82 = .ok (.iaload, 1) := by decide +kernel
theorem dX6_illTwos_83 : decode cX6_illTwos 83 = .ok (.iload 4, 2) := by decide +kernel
theorem dX6_illTwos_85 : decode cX6_illTwos 85 = .ok (.iand, 1) := by decide +kernel
theorem dX6_illTwos_86 : decode cX6_illTwos 86 = .ok (.invokestatic 163, 3) := by decide +kernel
theorem dX6_illTwos_89 : decode cX6_illTwos 89 = .ok (.iadd, 1) := by decide +kernel
theorem dX6_illTwos_90 : decode cX6_illTwos 90 = .ok (.istore_n 2, 1) := by decide +kernel
theorem dX6_illTwos_91 : decode cX6_illTwos 91 = .ok (.iinc 5 1, 3) := by decide +kernel
theorem dX6_illTwos_94 : decode cX6_illTwos 94 = .ok (.goto (-57), 3) := by decide +kernel
theorem dX6_illTwos_97 : decode cX6_illTwos 97 = .ok (.iinc 3 1, 3) := by decide +kernel
theorem dX6_illTwos_100 : decode cX6_illTwos 100 = .ok (.goto (-96), 3) := by decide +kernel
theorem dX6_illTwos_103 : decode cX6_illTwos 103 = .ok (.iload_n 2, 1) := by decide +kernel
theorem dX6_illTwos_104 : decode cX6_illTwos 104 = .ok (.ireturn, 1) := by decide +kernel
theorem dX6_want_0 : decode cX6_want 0 = .ok (.aload_n 0, 1) := by decide +kernel
theorem dX6_want_1 : decode cX6_want 1 = .ok (.iload_n 1, 1) := by decide +kernel
theorem dX6_want_2 : decode cX6_want 2 = .ok (.invokevirtual 124, 3) := by decide +kernel
theorem dX6_want_5 : decode cX6_want 5 = .ok (.ifCond .eq 11, 3) := by decide +kernel
theorem dX6_want_8 : decode cX6_want 8 = .ok (.aload_n 0, 1) := by decide +kernel
theorem dX6_want_9 : decode cX6_want 9 = .ok (.iload_n 2, 1) := by decide +kernel
theorem dX6_want_10 : decode cX6_want 10 = .ok (.invokevirtual 212, 3) := by decide +kernel
theorem dX6_want_13 : decode cX6_want 13 = .ok (.ifCond .ne 5, 3) := by decide +kernel
theorem dX6_want_16 : decode cX6_want 16 = .ok (.iconst (-1), 1) := by decide +kernel
theorem dX6_want_17 : decode cX6_want 17 = .ok (.ireturn, 1) := by decide +kernel
theorem dX6_want_18 : decode cX6_want 18 = .ok (.aload_n 0, 1) := by decide +kernel
theorem dX6_want_19 : decode cX6_want 19 = .ok (.getfield 48, 3) := by decide +kernel
theorem dX6_want_22 : decode cX6_want 22 = .ok (.iload_n 1, 1) := by decide +kernel
theorem dX6_want_23 : decode cX6_want 23 = .ok (.iaload, 1) := by decide +kernel
theorem dX6_want_24 : decode cX6_want 24 = .ok (.istore_n 3, 1) := by decide +kernel
theorem dX6_want_25 : decode cX6_want 25 = .ok (.aload_n 0, 1) := by decide +kernel
theorem dX6_want_26 : decode cX6_want 26 = .ok (.getfield 48, 3) := by decide +kernel
theorem dX6_want_29 : decode cX6_want 29 = .ok (.iload_n 1, 1) := by decide +kernel
theorem dX6_want_30 : decode cX6_want 30 = .ok (.iload_n 2, 1) := by decide +kernel
theorem dX6_want_31 : decode cX6_want 31 = .ok (.iastore, 1) := by decide +kernel
theorem dX6_want_32 : decode cX6_want 32 = .ok (.iload_n 3, 1) := by decide +kernel
theorem dX6_want_33 : decode cX6_want 33 = .ok (.ireturn, 1) := by decide +kernel
theorem dX6_changes_0 : decode cX6_changes 0 = .ok (.iload_n 1, 1) := by decide +kernel
theorem dX6_changes_1 : decode cX6_changes 1 = .ok (.ifCond .lt 8, 3) := by decide +kernel
theorem dX6_changes_4 : decode cX6_changes 4 = .ok (.iload_n 1, 1) := by decide +kernel
theorem dX6_changes_5 : decode cX6_changes 5 = .ok (.iconst 1, 1) := by decide +kernel
theorem dX6_changes_6 : decode cX6_changes 6 = .ok (.if_icmp .le 5, 3) := by decide +kernel
theorem dX6_changes_9 : decode cX6_changes 9 = .ok (.iconst (-1), 1) := by decide +kernel
theorem dX6_changes_10 : decode cX6_changes 10 = .ok (.ireturn, 1) := by decide +kernel
theorem dX6_changes_11 : decode cX6_changes 11 = .ok (.iconst 0, 1) := by decide +kernel
theorem dX6_changes_12 : decode cX6_changes 12 = .ok (.istore_n 2, 1) := by decide +kernel
theorem dX6_changes_13 : decode cX6_changes 13 = .ok (.aload_n 0, 1) := by decide +kernel
theorem dX6_changes_14 : decode cX6_changes 14 = .ok (.iconst 0, 1) := by decide +kernel
theorem dX6_changes_15 : decode cX6_changes 15 = .ok (.invokevirtual 215, 3) := by decide +kernel
theorem dX6_changes_18 : decode cX6_changes 18 = .ok (.istore_n 3, 1) := by decide +kernel
theorem dX6_changes_19 : decode cX6_changes 19 = .ok (.iconst 1, 1) := by decide +kernel
theorem dX6_changes_20 : decode cX6_changes 20 = .ok (.istore 4, 2) := by decide +kernel
theorem dX6_changes_22 : decode cX6_changes 22 = .ok (.iload 4, 2) := by decide +kernel
theorem dX6_changes_24 : decode cX6_changes 24 = .ok (.aload_n 0, 1) := by decide +kernel
theorem dX6_changes_25 : decode cX6_changes 25 = .ok (.getfield 19, 3) := by decide +kernel
theorem dX6_changes_28 : decode cX6_changes 28 = .ok (.getfield 147, 3) := by decide +kernel
theorem dX6_changes_31 : decode cX6_changes 31 = .ok (.if_icmp .ge 29, 3) := by decide +kernel
theorem dX6_changes_34 : decode cX6_changes 34 = .ok (.aload_n 0, 1) := by decide +kernel
theorem dX6_changes_35 : decode cX6_changes 35 = .ok (.iload 4, 2) := by decide +kernel
theorem dX6_changes_37 : decode cX6_changes 37 = .ok (.invokevirtual 215, 3) := by decide +kernel
theorem dX6_changes_40 : decode cX6_changes 40 = .ok (.istore 5, 2) := by decide +kernel
theorem dX6_changes_42 : decode cX6_changes 42 = .ok (.iload 5, 2) := by decide +kernel
theorem dX6_changes_44 : decode cX6_changes 44 = .ok (.iload_n 3, 1) := by decide +kernel
theorem dX6_changes_45 : decode cX6_changes 45 = .ok (.if_icmp .ge 9, 3) := by decide +kernel
theorem dX6_changes_48 : decode cX6_changes 48 = .ok (.iload 4, 2) := by decide +kernel
theorem dX6_changes_50 : decode cX6_changes 50 = .ok (.istore_n 2, 1) := by decide +kernel
theorem dX6_changes_51 : decode cX6_changes 51 = .ok (.iload 5, 2) := by decide +kernel
theorem dX6_changes_53 : decode cX6_changes 53 = .ok (.istore_n 3, 1) := by decide +kernel
theorem dX6_changes_54 : decode cX6_changes 54 = .ok (.iinc 4 1, 3) := by decide +kernel
theorem dX6_changes_57 : decode cX6_changes 57 = .ok (.goto (-35), 3) := by decide +kernel
theorem dX6_changes_60 : decode cX6_changes 60 = .ok (.iload_n 1, 1) := by decide +kernel
theorem dX6_changes_61 : decode cX6_changes 61 = .ok (.ifCond .ne 7, 3) := by decide +kernel
theorem dX6_changes_64 : decode cX6_changes 64 = .ok (.iload_n 3, 1) := by decide +kernel
theorem dX6_changes_65 : decode cX6_changes 65 = .ok (.goto 4, 3) := by decide +kernel
theorem dX6_changes_68 : decode cX6_changes 68 = .ok (.iload_n 2, 1) := by decide +kernel
theorem dX6_changes_69 : decode cX6_changes 69 = .ok (.ireturn, 1) := by decide +kernel
theorem dX6_letters_0 : decode cX6_letters 0 = .ok (.aload_n 0, 1) := by decide +kernel
theorem dX6_letters_1 : decode cX6_letters 1 = .ok (.getfield 58, 3) := by decide +kernel
theorem dX6_letters_4 : decode cX6_letters 4 = .ok (.aload_n 0, 1) := by decide +kernel
theorem dX6_letters_5 : decode cX6_letters 5 = .ok (.getfield 29, 3) := by decide +kernel
theorem dX6_letters_8 : decode cX6_letters 8 = .ok (.getfield 127, 3) := by decide +kernel
theorem dX6_letters_11 : decode cX6_letters 11 = .ok (.aload_n 0, 1) := by decide +kernel
theorem dX6_letters_12 : decode cX6_letters 12 = .ok (.getfield 19, 3) := by decide +kernel
theorem dX6_letters_15 : decode cX6_letters 15 = .ok (.getfield 147, 3) := by decide +kernel
theorem dX6_letters_18 : decode cX6_letters 18 = .ok (.invokevirtual 218, 3) := by decide +kernel
theorem dX6_letters_21 : decode cX6_letters 21 = .ok (.ireturn, 1) := by decide +kernel
theorem dX6_ringers_0 : decode cX6_ringers 0 = .ok (.aload_n 0, 1) := by decide +kernel
theorem dX6_ringers_1 : decode cX6_ringers 1 = .ok (.getfield 65, 3) := by decide +kernel
theorem dX6_ringers_4 : decode cX6_ringers 4 = .ok (.aload_n 0, 1) := by decide +kernel
theorem dX6_ringers_5 : decode cX6_ringers 5 = .ok (.getfield 29, 3) := by decide +kernel
theorem dX6_ringers_8 : decode cX6_ringers 8 = .ok (.getfield 127, 3) := by decide +kernel
theorem dX6_ringers_11 : decode cX6_ringers 11 = .ok (.aload_n 0, 1) := by decide +kernel
theorem dX6_ringers_12 : decode cX6_ringers 12 = .ok (.getfield 19, 3) := by decide +kernel
theorem dX6_ringers_15 : decode cX6_ringers 15 = .ok (.invokevirtual 222, 3) := by decide +kernel
theorem dX6_ringers_18 : decode cX6_ringers 18 = .ok (.ireturn, 1) := by decide +kernel
theorem dX6_changesIfShifted_0 : decode cX6_changesIfShifted 0 = .ok (.iconst 0, 1) := by decide +kernel
theorem dX6_changesIfShifted_1 : decode cX6_changesIfShifted 1 = .ok (.istore_n 2, 1) := by decide +kernel
theorem dX6_changesIfShifted_2 : decode cX6_changesIfShifted 2 = .ok (.iconst 0, 1) := by decide +kernel
theorem dX6_changesIfShifted_3 : decode cX6_changesIfShifted 3 = .ok (.istore_n 3, 1) := by decide +kernel
theorem dX6_changesIfShifted_4 : decode cX6_changesIfShifted 4 = .ok (.iload_n 3, 1) := by decide +kernel
theorem dX6_changesIfShifted_5 : decode cX6_changesIfShifted 5 = .ok (.aload_n 0, 1) := by decide +kernel
theorem dX6_changesIfShifted_6 : decode cX6_changesIfShifted 6 = .ok (.getfield 19, 3) := by decide +kernel
theorem dX6_changesIfShifted_9 : decode cX6_changesIfShifted 9 = .ok (.getfield 147, 3) := by decide +kernel
theorem dX6_changesIfShifted_12 : decode cX6_changesIfShifted 12 = .ok (.if_icmp .ge 39, 3) := by decide +kernel
theorem dX6_changesIfShifted_15 : decode cX6_changesIfShifted 15 = .ok (.iload_n 2, 1) := by decide +kernel
theorem dX6_changesIfShifted_16 : decode cX6_changesIfShifted 16 = .ok (.aload_n 0, 1) := by decide +kernel
theorem dX6_changesIfShifted_17 : decode cX6_changesIfShifted 17 = .ok (.getfield 29, 3) := by decide +kernel
theorem dX6_changesIfShifted_20 : decode cX6_changesIfShifted 20 = .ok (.getfield 127, 3) := by decide +kernel
theorem dX6_changesIfShifted_23 : decode cX6_changesIfShifted 23 = .ok (.iload_n 3, 1) := by decide +kernel
theorem dX6_changesIfShifted_24 : decode cX6_changesIfShifted 24 = .ok (.iaload, 1) := by decide +kernel
theorem dX6_changesIfShifted_25 : decode cX6_changesIfShifted 25 = .ok (.aload_n 0, 1) := by decide +kernel
theorem dX6_changesIfShifted_26 : decode cX6_changesIfShifted 26 = .ok (.getfield 48, 3) := by decide +kernel
theorem dX6_changesIfShifted_29 : decode cX6_changesIfShifted 29 = .ok (.aload_n 0, 1) := by decide +kernel
theorem dX6_changesIfShifted_30 : decode cX6_changesIfShifted 30 = .ok (.getfield 19, 3) := by decide +kernel
theorem dX6_changesIfShifted_33 : decode cX6_changesIfShifted 33 = .ok (.iload_n 3, 1) := by decide +kernel
theorem dX6_changesIfShifted_34 : decode cX6_changesIfShifted 34 = .ok (.iload_n 1, 1) := by decide +kernel
theorem dX6_changesIfShifted_35 : decode cX6_changesIfShifted 35 = .ok (.invokevirtual 168, 3) := by decide +kernel
theorem dX6_changesIfShifted_38 : decode cX6_changesIfShifted 38 = .ok (.iaload, 1) := by decide +kernel
theorem dX6_changesIfShifted_39 : decode cX6_changesIfShifted 39 = .ok (.ixor, 1) := by decide +kernel
theorem dX6_changesIfShifted_40 : decode cX6_changesIfShifted 40 = .ok (.invokestatic 163, 3) := by decide +kernel
theorem dX6_changesIfShifted_43 : decode cX6_changesIfShifted 43 = .ok (.iadd, 1) := by decide +kernel
theorem dX6_changesIfShifted_44 : decode cX6_changesIfShifted 44 = .ok (.istore_n 2, 1) := by decide +kernel
theorem dX6_changesIfShifted_45 : decode cX6_changesIfShifted 45 = .ok (.iinc 3 1, 3) := by decide +kernel
theorem dX6_changesIfShifted_48 : decode cX6_changesIfShifted 48 = .ok (.goto (-44), 3) := by decide +kernel
theorem dX6_changesIfShifted_51 : decode cX6_changesIfShifted 51 = .ok (.iload_n 2, 1) := by decide +kernel
theorem dX6_changesIfShifted_52 : decode cX6_changesIfShifted 52 = .ok (.ireturn, 1) := by decide +kernel
theorem dX6_hear_0 : decode cX6_hear 0 = .ok (.aload_n 0, 1) := by decide +kernel
theorem dX6_hear_1 : decode cX6_hear 1 = .ok (.iload_n 1, 1) := by decide +kernel
theorem dX6_hear_2 : decode cX6_hear 2 = .ok (.invokevirtual 212, 3) := by decide +kernel
theorem dX6_hear_5 : decode cX6_hear 5 = .ok (.ifCond .ne 5, 3) := by decide +kernel
theorem dX6_hear_8 : decode cX6_hear 8 = .ok (.iconst (-1), 1) := by decide +kernel
theorem dX6_hear_9 : decode cX6_hear 9 = .ok (.ireturn, 1) := by decide +kernel
theorem dX6_hear_10 : decode cX6_hear 10 = .ok (.aload_n 0, 1) := by decide +kernel
theorem dX6_hear_11 : decode cX6_hear 11 = .ok (.getfield 140, 3) := by decide +kernel
theorem dX6_hear_14 : decode cX6_hear 14 = .ok (.bipush 8, 2) := by decide +kernel
theorem dX6_hear_16 : decode cX6_hear 16 = .ok (.if_icmp .lt 6, 3) := by decide +kernel
theorem dX6_hear_19 : decode cX6_hear 19 = .ok (.bipush (-3), 2) := by decide +kernel
theorem dX6_hear_21 : decode cX6_hear 21 = .ok (.ireturn, 1) := by decide +kernel
theorem dX6_hear_22 : decode cX6_hear 22 = .ok (.aload_n 0, 1) := by decide +kernel
theorem dX6_hear_23 : decode cX6_hear 23 = .ok (.getfield 52, 3) := by decide +kernel
theorem dX6_hear_26 : decode cX6_hear 26 = .ok (.aload_n 0, 1) := by decide +kernel
theorem dX6_hear_27 : decode cX6_hear 27 = .ok (.getfield 140, 3) := by decide +kernel
theorem dX6_hear_30 : decode cX6_hear 30 = .ok (.iload_n 1, 1) := by decide +kernel
theorem dX6_hear_31 : decode cX6_hear 31 = .ok (.iastore, 1) := by decide +kernel
theorem dX6_hear_32 : decode cX6_hear 32 = .ok (.aload_n 0, 1) := by decide +kernel
theorem dX6_hear_33 : decode cX6_hear 33 = .ok (.dup, 1) := by decide +kernel
theorem dX6_hear_34 : decode cX6_hear 34 = .ok (.getfield 140, 3) := by decide +kernel
theorem dX6_hear_37 : decode cX6_hear 37 = .ok (.iconst 1, 1) := by decide +kernel
theorem dX6_hear_38 : decode cX6_hear 38 = .ok (.iadd, 1) := by decide +kernel
theorem dX6_hear_39 : decode cX6_hear 39 = .ok (.putfield 140, 3) := by decide +kernel
theorem dX6_hear_42 : decode cX6_hear 42 = .ok (.aload_n 0, 1) := by decide +kernel
theorem dX6_hear_43 : decode cX6_hear 43 = .ok (.getfield 140, 3) := by decide +kernel
theorem dX6_hear_46 : decode cX6_hear 46 = .ok (.ireturn, 1) := by decide +kernel
theorem dX6_forget_0 : decode cX6_forget 0 = .ok (.aload_n 0, 1) := by decide +kernel
theorem dX6_forget_1 : decode cX6_forget 1 = .ok (.getfield 140, 3) := by decide +kernel
theorem dX6_forget_4 : decode cX6_forget 4 = .ok (.istore_n 1, 1) := by decide +kernel
theorem dX6_forget_5 : decode cX6_forget 5 = .ok (.aload_n 0, 1) := by decide +kernel
theorem dX6_forget_6 : decode cX6_forget 6 = .ok (.iconst 0, 1) := by decide +kernel
theorem dX6_forget_7 : decode cX6_forget 7 = .ok (.putfield 140, 3) := by decide +kernel
theorem dX6_forget_10 : decode cX6_forget 10 = .ok (.iload_n 1, 1) := by decide +kernel
theorem dX6_forget_11 : decode cX6_forget 11 = .ok (.ireturn, 1) := by decide +kernel
theorem dX6_stood_0 : decode cX6_stood 0 = .ok (.iconst 0, 1) := by decide +kernel
theorem dX6_stood_1 : decode cX6_stood 1 = .ok (.istore_n 1, 1) := by decide +kernel
theorem dX6_stood_2 : decode cX6_stood 2 = .ok (.iconst 0, 1) := by decide +kernel
theorem dX6_stood_3 : decode cX6_stood 3 = .ok (.istore_n 2, 1) := by decide +kernel
theorem dX6_stood_4 : decode cX6_stood 4 = .ok (.iload_n 2, 1) := by decide +kernel
theorem dX6_stood_5 : decode cX6_stood 5 = .ok (.aload_n 0, 1) := by decide +kernel
theorem dX6_stood_6 : decode cX6_stood 6 = .ok (.getfield 19, 3) := by decide +kernel
theorem dX6_stood_9 : decode cX6_stood 9 = .ok (.getfield 147, 3) := by decide +kernel
theorem dX6_stood_12 : decode cX6_stood 12 = .ok (.if_icmp .ge 23, 3) := by decide +kernel
theorem dX6_stood_15 : decode cX6_stood 15 = .ok (.aload_n 0, 1) := by decide +kernel
theorem dX6_stood_16 : decode cX6_stood 16 = .ok (.iload_n 2, 1) := by decide +kernel
theorem dX6_stood_17 : decode cX6_stood 17 = .ok (.invokevirtual 226, 3) := by decide +kernel
theorem dX6_stood_20 : decode cX6_stood 20 = .ok (.ifCond .eq 9, 3) := by decide +kernel
theorem dX6_stood_23 : decode cX6_stood 23 = .ok (.iload_n 1, 1) := by decide +kernel
theorem dX6_stood_24 : decode cX6_stood 24 = .ok (.iconst 1, 1) := by decide +kernel
theorem dX6_stood_25 : decode cX6_stood 25 = .ok (.iload_n 2, 1) := by decide +kernel
theorem dX6_stood_26 : decode cX6_stood 26 = .ok (.ishl, 1) := by decide +kernel
theorem dX6_stood_27 : decode cX6_stood 27 = .ok (.ior, 1) := by decide +kernel
theorem dX6_stood_28 : decode cX6_stood 28 = .ok (.istore_n 1, 1) := by decide +kernel
theorem dX6_stood_29 : decode cX6_stood 29 = .ok (.iinc 2 1, 3) := by decide +kernel
theorem dX6_stood_32 : decode cX6_stood 32 = .ok (.goto (-28), 3) := by decide +kernel
theorem dX6_stood_35 : decode cX6_stood 35 = .ok (.iload_n 1, 1) := by decide +kernel
theorem dX6_stood_36 : decode cX6_stood 36 = .ok (.ireturn, 1) := by decide +kernel
theorem dX6_octaves_0 : decode cX6_octaves 0 = .ok (.iconst 0, 1) := by decide +kernel
theorem dX6_octaves_1 : decode cX6_octaves 1 = .ok (.istore_n 1, 1) := by decide +kernel
theorem dX6_octaves_2 : decode cX6_octaves 2 = .ok (.iconst 0, 1) := by decide +kernel
theorem dX6_octaves_3 : decode cX6_octaves 3 = .ok (.istore_n 2, 1) := by decide +kernel
theorem dX6_octaves_4 : decode cX6_octaves 4 = .ok (.iconst 0, 1) := by decide +kernel
theorem dX6_octaves_5 : decode cX6_octaves 5 = .ok (.istore_n 3, 1) := by decide +kernel
theorem dX6_octaves_6 : decode cX6_octaves 6 = .ok (.iload_n 3, 1) := by decide +kernel
theorem dX6_octaves_7 : decode cX6_octaves 7 = .ok (.aload_n 0, 1) := by decide +kernel
theorem dX6_octaves_8 : decode cX6_octaves 8 = .ok (.getfield 19, 3) := by decide +kernel
theorem dX6_octaves_11 : decode cX6_octaves 11 = .ok (.getfield 144, 3) := by decide +kernel
theorem dX6_octaves_14 : decode cX6_octaves 14 = .ok (.if_icmp .ge 37, 3) := by decide +kernel
theorem dX6_octaves_17 : decode cX6_octaves 17 = .ok (.iconst 1, 1) := by decide +kernel
theorem dX6_octaves_18 : decode cX6_octaves 18 = .ok (.aload_n 0, 1) := by decide +kernel
theorem dX6_octaves_19 : decode cX6_octaves 19 = .ok (.getfield 19, 3) := by decide +kernel
theorem dX6_octaves_22 : decode cX6_octaves 22 = .ok (.getfield 108, 3) := by decide +kernel
theorem dX6_octaves_25 : decode cX6_octaves 25 = .ok (.iload_n 3, 1) := by decide +kernel
theorem dX6_octaves_26 : decode cX6_octaves 26 = .ok (.iaload, 1) := by decide +kernel
theorem dX6_octaves_27 : decode cX6_octaves 27 = .ok (.bipush 12, 2) := by decide +kernel
theorem dX6_octaves_29 : decode cX6_octaves 29 = .ok (.irem, 1) := by decide +kernel
theorem dX6_octaves_30 : decode cX6_octaves 30 = .ok (.ishl, 1) := by decide +kernel
theorem dX6_octaves_31 : decode cX6_octaves 31 = .ok (.istore 4, 2) := by decide +kernel
theorem dX6_octaves_33 : decode cX6_octaves 33 = .ok (.iload_n 2, 1) := by decide +kernel
theorem dX6_octaves_34 : decode cX6_octaves 34 = .ok (.iload_n 1, 1) := by decide +kernel
theorem dX6_octaves_35 : decode cX6_octaves 35 = .ok (.iload 4, 2) := by decide +kernel
theorem dX6_octaves_37 : decode cX6_octaves 37 = .ok (.iand, 1) := by decide +kernel
theorem dX6_octaves_38 : decode cX6_octaves 38 = .ok (.ior, 1) := by decide +kernel
theorem dX6_octaves_39 : decode cX6_octaves 39 = .ok (.istore_n 2, 1) := by decide +kernel
theorem dX6_octaves_40 : decode cX6_octaves 40 = .ok (.iload_n 1, 1) := by decide +kernel
theorem dX6_octaves_41 : decode cX6_octaves 41 = .ok (.iload 4, 2) := by decide +kernel
theorem dX6_octaves_43 : decode cX6_octaves 43 = .ok (.ior, 1) := by decide +kernel
theorem dX6_octaves_44 : decode cX6_octaves 44 = .ok (.istore_n 1, 1) := by decide +kernel
theorem dX6_octaves_45 : decode cX6_octaves 45 = .ok (.iinc 3 1, 3) := by decide +kernel
theorem dX6_octaves_48 : decode cX6_octaves 48 = .ok (.goto (-42), 3) := by decide +kernel
theorem dX6_octaves_51 : decode cX6_octaves 51 = .ok (.iload_n 2, 1) := by decide +kernel
theorem dX6_octaves_52 : decode cX6_octaves 52 = .ok (.invokestatic 163, 3) := by decide +kernel
theorem dX6_octaves_55 : decode cX6_octaves 55 = .ok (.ireturn, 1) := by decide +kernel
theorem dX6_melody_0 : decode cX6_melody 0 = .ok (.iload_n 1, 1) := by decide +kernel
theorem dX6_melody_1 : decode cX6_melody 1 = .ok (.ifCond .lt 8, 3) := by decide +kernel
theorem dX6_melody_4 : decode cX6_melody 4 = .ok (.iload_n 1, 1) := by decide +kernel
theorem dX6_melody_5 : decode cX6_melody 5 = .ok (.iconst 2, 1) := by decide +kernel
theorem dX6_melody_6 : decode cX6_melody 6 = .ok (.if_icmp .le 5, 3) := by decide +kernel
theorem dX6_melody_9 : decode cX6_melody 9 = .ok (.iconst (-1), 1) := by decide +kernel
theorem dX6_melody_10 : decode cX6_melody 10 = .ok (.ireturn, 1) := by decide +kernel
theorem dX6_melody_11 : decode cX6_melody 11 = .ok (.iconst 0, 1) := by decide +kernel
theorem dX6_melody_12 : decode cX6_melody 12 = .ok (.istore_n 2, 1) := by decide +kernel
theorem dX6_melody_13 : decode cX6_melody 13 = .ok (.iconst 0, 1) := by decide +kernel
theorem dX6_melody_14 : decode cX6_melody 14 = .ok (.istore_n 3, 1) := by decide +kernel
theorem dX6_melody_15 : decode cX6_melody 15 = .ok (.iconst 0, 1) := by decide +kernel
theorem dX6_melody_16 : decode cX6_melody 16 = .ok (.istore 4, 2) := by decide +kernel
theorem dX6_melody_18 : decode cX6_melody 18 = .ok (.bipush (-4), 2) := by decide +kernel
theorem dX6_melody_20 : decode cX6_melody 20 = .ok (.istore 5, 2) := by decide +kernel
theorem dX6_melody_22 : decode cX6_melody 22 = .ok (.iconst 0, 1) := by decide +kernel
theorem dX6_melody_23 : decode cX6_melody 23 = .ok (.istore 6, 2) := by decide +kernel
theorem dX6_melody_25 : decode cX6_melody 25 = .ok (.iload 6, 2) := by decide +kernel
theorem dX6_melody_27 : decode cX6_melody 27 = .ok (.aload_n 0, 1) := by decide +kernel
theorem dX6_melody_28 : decode cX6_melody 28 = .ok (.getfield 19, 3) := by decide +kernel
theorem dX6_melody_31 : decode cX6_melody 31 = .ok (.getfield 147, 3) := by decide +kernel
theorem dX6_melody_34 : decode cX6_melody 34 = .ok (.if_icmp .ge 103, 3) := by decide +kernel
theorem dX6_melody_37 : decode cX6_melody 37 = .ok (.aload_n 0, 1) := by decide +kernel
theorem dX6_melody_38 : decode cX6_melody 38 = .ok (.getfield 19, 3) := by decide +kernel
theorem dX6_melody_41 : decode cX6_melody 41 = .ok (.aload_n 0, 1) := by decide +kernel
theorem dX6_melody_42 : decode cX6_melody 42 = .ok (.getfield 29, 3) := by decide +kernel
theorem dX6_melody_45 : decode cX6_melody 45 = .ok (.getfield 127, 3) := by decide +kernel
theorem dX6_melody_48 : decode cX6_melody 48 = .ok (.iload 6, 2) := by decide +kernel
theorem dX6_melody_50 : decode cX6_melody 50 = .ok (.iaload, 1) := by decide +kernel
theorem dX6_melody_51 : decode cX6_melody 51 = .ok (.invokevirtual 229, 3) := by decide +kernel
theorem dX6_melody_54 : decode cX6_melody 54 = .ok (.istore 7, 2) := by decide +kernel
theorem dX6_melody_56 : decode cX6_melody 56 = .ok (.iload 7, 2) := by decide +kernel
theorem dX6_melody_58 : decode cX6_melody 58 = .ok (.bipush (-4), 2) := by decide +kernel
theorem dX6_melody_60 : decode cX6_melody 60 = .ok (.if_icmp .eq 55, 3) := by decide +kernel
theorem dX6_melody_63 : decode cX6_melody 63 = .ok (.iload 5, 2) := by decide +kernel
theorem dX6_melody_65 : decode cX6_melody 65 = .ok (.bipush (-4), 2) := by decide +kernel
theorem dX6_melody_67 : decode cX6_melody 67 = .ok (.if_icmp .eq 48, 3) := by decide +kernel
theorem dX6_melody_70 : decode cX6_melody 70 = .ok (.iload_n 2, 1) := by decide +kernel
theorem dX6_melody_71 : decode cX6_melody 71 = .ok (.iload 7, 2) := by decide +kernel
theorem dX6_melody_73 : decode cX6_melody 73 = .ok (.iload 5, 2) := by decide +kernel
theorem dX6_melody_75 : decode cX6_melody 75 = .ok (.if_icmp .le 7, 3) := by decide +kernel
theorem dX6_melody_78 : decode cX6_melody 78 = .ok (.iconst 1, 1) := by decide +kernel
theorem dX6_melody_79 : decode cX6_melody 79 = .ok (.goto 4, 3) := by decide +kernel
theorem dX6_melody_82 : decode cX6_melody 82 = .ok (.iconst 0, 1) := by decide +kernel
theorem dX6_melody_83 : decode cX6_melody 83 = .ok (.iadd, 1) := by decide +kernel
theorem dX6_melody_84 : decode cX6_melody 84 = .ok (.istore_n 2, 1) := by decide +kernel
theorem dX6_melody_85 : decode cX6_melody 85 = .ok (.iload_n 3, 1) := by decide +kernel
theorem dX6_melody_86 : decode cX6_melody 86 = .ok (.iload 7, 2) := by decide +kernel
theorem dX6_melody_88 : decode cX6_melody 88 = .ok (.iload 5, 2) := by decide +kernel
theorem dX6_melody_90 : decode cX6_melody 90 = .ok (.if_icmp .ge 7, 3) := by decide +kernel
theorem dX6_melody_93 : decode cX6_melody 93 = .ok (.iconst 1, 1) := by decide +kernel
theorem dX6_melody_94 : decode cX6_melody 94 = .ok (.goto 4, 3) := by decide +kernel
theorem dX6_melody_97 : decode cX6_melody 97 = .ok (.iconst 0, 1) := by decide +kernel
theorem dX6_melody_98 : decode cX6_melody 98 = .ok (.iadd, 1) := by decide +kernel
theorem dX6_melody_99 : decode cX6_melody 99 = .ok (.istore_n 3, 1) := by decide +kernel
theorem dX6_melody_100 : decode cX6_melody 100 = .ok (.iload 4, 2) := by decide +kernel
theorem dX6_melody_102 : decode cX6_melody 102 = .ok (.iload 7, 2) := by decide +kernel
theorem dX6_melody_104 : decode cX6_melody 104 = .ok (.iload 5, 2) := by decide +kernel
theorem dX6_melody_106 : decode cX6_melody 106 = .ok (.isub, 1) := by decide +kernel
theorem dX6_melody_107 : decode cX6_melody 107 = .ok (.invokestatic 232, 3) := by decide +kernel
theorem dX6_melody_110 : decode cX6_melody 110 = .ok (.invokestatic 195, 3) := by decide +kernel
theorem dX6_melody_113 : decode cX6_melody 113 = .ok (.istore 4, 2) := by decide +kernel
theorem dX6_melody_115 : decode cX6_melody 115 = .ok (.iload 7, 2) := by decide +kernel
theorem dX6_melody_117 : decode cX6_melody 117 = .ok (.bipush (-4), 2) := by decide +kernel
theorem dX6_melody_119 : decode cX6_melody 119 = .ok (.if_icmp .eq 8, 3) := by decide +kernel
theorem dX6_melody_122 : decode cX6_melody 122 = .ok (.iload 7, 2) := by decide +kernel
theorem dX6_melody_124 : decode cX6_melody 124 = .ok (.goto 5, 3) := by decide +kernel
theorem dX6_melody_127 : decode cX6_melody 127 = .ok (.iload 5, 2) := by decide +kernel
theorem dX6_melody_129 : decode cX6_melody 129 = .ok (.istore 5, 2) := by decide +kernel
theorem dX6_melody_131 : decode cX6_melody 131 = .ok (.iinc 6 1, 3) := by decide +kernel
theorem dX6_melody_134 : decode cX6_melody 134 = .ok (.goto (-109), 3) := by decide +kernel
theorem dX6_melody_137 : decode cX6_melody 137 = .ok (.iload_n 1, 1) := by decide +kernel
theorem dX6_melody_138 : decode cX6_melody 138 = .ok (.ifCond .ne 7, 3) := by decide +kernel
theorem dX6_melody_141 : decode cX6_melody 141 = .ok (.iload_n 2, 1) := by decide +kernel
theorem dX6_melody_142 : decode cX6_melody 142 = .ok (.goto 14, 3) := by decide +kernel
theorem dX6_melody_145 : decode cX6_melody 145 = .ok (.iload_n 1, 1) := by decide +kernel
theorem dX6_melody_146 : decode cX6_melody 146 = .ok (.iconst 1, 1) := by decide +kernel
theorem dX6_melody_147 : decode cX6_melody 147 = .ok (.if_icmp .ne 7, 3) := by decide +kernel
theorem dX6_melody_150 : decode cX6_melody 150 = .ok (.iload_n 3, 1) := by decide +kernel
theorem dX6_melody_151 : decode cX6_melody 151 = .ok (.goto 5, 3) := by decide +kernel
theorem dX6_melody_154 : decode cX6_melody 154 = .ok (.iload 4, 2) := by decide +kernel
theorem dX6_melody_156 : decode cX6_melody 156 = .ok (.ireturn, 1) := by decide +kernel
theorem dX6_winter_0 : decode cX6_winter 0 = .ok (.iload_n 1, 1) := by decide +kernel
theorem dX6_winter_1 : decode cX6_winter 1 = .ok (.ifCond .lt 30, 3) := by decide +kernel
theorem dX6_winter_4 : decode cX6_winter 4 = .ok (.iload_n 1, 1) := by decide +kernel
theorem dX6_winter_5 : decode cX6_winter 5 = .ok (.sipush 9999, 3) := by decide +kernel
theorem dX6_winter_8 : decode cX6_winter 8 = .ok (.if_icmp .gt 23, 3) := by decide +kernel
theorem dX6_winter_11 : decode cX6_winter 11 = .ok (.iload_n 2, 1) := by decide +kernel
theorem dX6_winter_12 : decode cX6_winter 12 = .ok (.iconst 1, 1) := by decide +kernel
theorem dX6_winter_13 : decode cX6_winter 13 = .ok (.if_icmp .lt 18, 3) := by decide +kernel
theorem dX6_winter_16 : decode cX6_winter 16 = .ok (.iload_n 2, 1) := by decide +kernel
theorem dX6_winter_17 : decode cX6_winter 17 = .ok (.bipush 60, 2) := by decide +kernel
theorem dX6_winter_19 : decode cX6_winter 19 = .ok (.if_icmp .gt 12, 3) := by decide +kernel
theorem dX6_winter_22 : decode cX6_winter 22 = .ok (.iload_n 3, 1) := by decide +kernel
theorem dX6_winter_23 : decode cX6_winter 23 = .ok (.ifCond .lt 8, 3) := by decide +kernel
theorem dX6_winter_26 : decode cX6_winter 26 = .ok (.iload_n 3, 1) := by decide +kernel
theorem dX6_winter_27 : decode cX6_winter 27 = .ok (.iconst 1, 1) := by decide +kernel
theorem dX6_winter_28 : decode cX6_winter 28 = .ok (.if_icmp .le 5, 3) := by decide +kernel
theorem dX6_winter_31 : decode cX6_winter 31 = .ok (.iconst (-1), 1) := by decide +kernel
theorem dX6_winter_32 : decode cX6_winter 32 = .ok (.ireturn, 1) := by decide +kernel
theorem dX6_winter_33 : decode cX6_winter 33 = .ok (.aload_n 0, 1) := by decide +kernel
theorem dX6_winter_34 : decode cX6_winter 34 = .ok (.getfield 33, 3) := by decide +kernel
theorem dX6_winter_37 : decode cX6_winter 37 = .ok (.aload_n 0, 1) := by decide +kernel
theorem dX6_winter_38 : decode cX6_winter 38 = .ok (.getfield 29, 3) := by decide +kernel
theorem dX6_winter_41 : decode cX6_winter 41 = .ok (.invokevirtual 185, 3) := by decide +kernel
theorem dX6_winter_44 : decode cX6_winter 44 = .ok (.iconst 0, 1) := by decide +kernel
theorem dX6_winter_45 : decode cX6_winter 45 = .ok (.istore 4, 2) := by decide +kernel
theorem dX6_winter_47 : decode cX6_winter 47 = .ok (.iload 4, 2) := by decide +kernel
theorem dX6_winter_49 : decode cX6_winter 49 = .ok (.iload_n 2, 1) := by decide +kernel
theorem dX6_winter_50 : decode cX6_winter 50 = .ok (.if_icmp .ge 50, 3) := by decide +kernel
theorem dX6_winter_53 : decode cX6_winter 53 = .ok (.aload_n 0, 1) := by decide +kernel
theorem dX6_winter_54 : decode cX6_winter 54 = .ok (.getfield 19, 3) := by decide +kernel
theorem dX6_winter_57 : decode cX6_winter 57 = .ok (.iconst 0, 1) := by decide +kernel
theorem dX6_winter_58 : decode cX6_winter 58 = .ok (.iload_n 1, 1) := by decide +kernel
theorem dX6_winter_59 : decode cX6_winter 59 = .ok (.iload 4, 2) := by decide +kernel
theorem dX6_winter_61 : decode cX6_winter 61 = .ok (.invokestatic 235, 3) := by decide +kernel
theorem dX6_winter_64 : decode cX6_winter 64 = .ok (.invokevirtual 168, 3) := by decide +kernel
theorem dX6_winter_67 : decode cX6_winter 67 = .ok (.istore 5, 2) := by decide +kernel
theorem dX6_winter_69 : decode cX6_winter 69 = .ok (.aload_n 0, 1) := by decide +kernel
theorem dX6_winter_70 : decode cX6_winter 70 = .ok (.getfield 33, 3) := by decide +kernel
theorem dX6_winter_73 : decode cX6_winter 73 = .ok (.getfield 127, 3) := by decide +kernel
theorem dX6_winter_76 : decode cX6_winter 76 = .ok (.iload 5, 2) := by decide +kernel
theorem dX6_winter_78 : decode cX6_winter 78 = .ok (.dup2, 1) := by decide +kernel
theorem dX6_winter_79 : decode cX6_winter 79 = .ok (.iaload, 1) := by decide +kernel
theorem dX6_winter_80 : decode cX6_winter 80 = .ok (.aload_n 0, 1) := by decide +kernel
theorem dX6_winter_81 : decode cX6_winter 81 = .ok (.getfield 33, 3) := by decide +kernel
theorem dX6_winter_84 : decode cX6_winter 84 = .ok (.getfield 127, 3) := by decide +kernel
theorem dX6_winter_87 : decode cX6_winter 87 = .ok (.iload 5, 2) := by decide +kernel
theorem dX6_winter_89 : decode cX6_winter 89 = .ok (.iaload, 1) := by decide +kernel
theorem dX6_winter_90 : decode cX6_winter 90 = .ok (.iconst 1, 1) := by decide +kernel
theorem dX6_winter_91 : decode cX6_winter 91 = .ok (.isub, 1) := by decide +kernel
theorem dX6_winter_92 : decode cX6_winter 92 = .ok (.iand, 1) := by decide +kernel
theorem dX6_winter_93 : decode cX6_winter 93 = .ok (.iastore, 1) := by decide +kernel
theorem dX6_winter_94 : decode cX6_winter 94 = .ok (.iinc 4 1, 3) := by decide +kernel
theorem dX6_winter_97 : decode cX6_winter 97 = .ok (.goto (-50), 3) := by decide +kernel
theorem dX6_winter_100 : decode cX6_winter 100 = .ok (.iconst 0, 1) := by decide +kernel
theorem dX6_winter_101 : decode cX6_winter 101 = .ok (.istore 4, 2) := by decide +kernel
theorem dX6_winter_103 : decode cX6_winter 103 = .ok (.iconst 0, 1) := by decide +kernel
theorem dX6_winter_104 : decode cX6_winter 104 = .ok (.istore 5, 2) := by decide +kernel
theorem dX6_winter_106 : decode cX6_winter 106 = .ok (.iconst 0, 1) := by decide +kernel
theorem dX6_winter_107 : decode cX6_winter 107 = .ok (.istore 6, 2) := by decide +kernel
theorem dX6_winter_109 : decode cX6_winter 109 = .ok (.iload 6, 2) := by decide +kernel
theorem dX6_winter_111 : decode cX6_winter 111 = .ok (.aload_n 0, 1) := by decide +kernel
theorem dX6_winter_112 : decode cX6_winter 112 = .ok (.getfield 19, 3) := by decide +kernel
theorem dX6_winter_115 : decode cX6_winter 115 = .ok (.getfield 147, 3) := by decide +kernel
theorem dX6_winter_118 : decode cX6_winter 118 = .ok (.if_icmp .ge 50, 3) := by decide +kernel
theorem dX6_winter_121 : decode cX6_winter 121 = .ok (.iload 4, 2) := by decide +kernel
theorem dX6_winter_123 : decode cX6_winter 123 = .ok (.aload_n 0, 1) := by decide +kernel
theorem dX6_winter_124 : decode cX6_winter 124 = .ok (.getfield 33, 3) := by decide +kernel
theorem dX6_winter_127 : decode cX6_winter 127 = .ok (.getfield 127, 3) := by decide +kernel
theorem dX6_winter_130 : decode cX6_winter 130 = .ok (.iload 6, 2) := by decide +kernel
theorem dX6_winter_132 : decode cX6_winter 132 = .ok (.iaload, 1) := by decide +kernel
theorem dX6_winter_133 : decode cX6_winter 133 = .ok (.invokestatic 163, 3) := by decide +kernel
theorem dX6_winter_136 : decode cX6_winter 136 = .ok (.iadd, 1) := by decide +kernel
theorem dX6_winter_137 : decode cX6_winter 137 = .ok (.istore 4, 2) := by decide +kernel
theorem dX6_winter_139 : decode cX6_winter 139 = .ok (.iload 5, 2) := by decide +kernel
theorem dX6_winter_141 : decode cX6_winter 141 = .ok (.aload_n 0, 1) := by decide +kernel
theorem dX6_winter_142 : decode cX6_winter 142 = .ok (.getfield 33, 3) := by decide +kernel
theorem dX6_winter_145 : decode cX6_winter 145 = .ok (.getfield 127, 3) := by decide +kernel
theorem dX6_winter_148 : decode cX6_winter 148 = .ok (.iload 6, 2) := by decide +kernel
theorem dX6_winter_150 : decode cX6_winter 150 = .ok (.iaload, 1) := by decide +kernel
theorem dX6_winter_151 : decode cX6_winter 151 = .ok (.ifCond .ne 7, 3) := by decide +kernel
theorem dX6_winter_154 : decode cX6_winter 154 = .ok (.iconst 1, 1) := by decide +kernel
theorem dX6_winter_155 : decode cX6_winter 155 = .ok (.goto 4, 3) := by decide +kernel
theorem dX6_winter_158 : decode cX6_winter 158 = .ok (.iconst 0, 1) := by decide +kernel
theorem dX6_winter_159 : decode cX6_winter 159 = .ok (.iadd, 1) := by decide +kernel
theorem dX6_winter_160 : decode cX6_winter 160 = .ok (.istore 5, 2) := by decide +kernel
theorem dX6_winter_162 : decode cX6_winter 162 = .ok (.iinc 6 1, 3) := by decide +kernel
theorem dX6_winter_165 : decode cX6_winter 165 = .ok (.goto (-56), 3) := by decide +kernel
theorem dX6_winter_168 : decode cX6_winter 168 = .ok (.iload_n 3, 1) := by decide +kernel
theorem dX6_winter_169 : decode cX6_winter 169 = .ok (.ifCond .ne 8, 3) := by decide +kernel
theorem dX6_winter_172 : decode cX6_winter 172 = .ok (.iload 4, 2) := by decide +kernel
theorem dX6_winter_174 : decode cX6_winter 174 = .ok (.goto 5, 3) := by decide +kernel
theorem dX6_winter_177 : decode cX6_winter 177 = .ok (.iload 5, 2) := by decide +kernel
theorem dX6_winter_179 : decode cX6_winter 179 = .ok (.ireturn, 1) := by decide +kernel
theorem dX6_keep_0 : decode cX6_keep 0 = .ok (.aload_n 0, 1) := by decide +kernel
theorem dX6_keep_1 : decode cX6_keep 1 = .ok (.getfield 45, 3) := by decide +kernel
theorem dX6_keep_4 : decode cX6_keep 4 = .ok (.getfield 182, 3) := by decide +kernel
theorem dX6_keep_7 : decode cX6_keep 7 = .ok (.iconst 2, 1) := by decide +kernel
theorem dX6_keep_8 : decode cX6_keep 8 = .ok (.if_icmp .lt 6, 3) := by decide +kernel
theorem dX6_keep_11 : decode cX6_keep 11 = .ok (.bipush (-3), 2) := by decide +kernel
theorem dX6_keep_13 : decode cX6_keep 13 = .ok (.ireturn, 1) := by decide +kernel
theorem dX6_keep_14 : decode cX6_keep 14 = .ok (.aload_n 0, 1) := by decide +kernel
theorem dX6_keep_15 : decode cX6_keep 15 = .ok (.getfield 45, 3) := by decide +kernel
theorem dX6_keep_18 : decode cX6_keep 18 = .ok (.aload_n 0, 1) := by decide +kernel
theorem dX6_keep_19 : decode cX6_keep 19 = .ok (.getfield 29, 3) := by decide +kernel
theorem dX6_keep_22 : decode cX6_keep 22 = .ok (.invokevirtual 153, 3) := by decide +kernel
theorem dX6_keep_25 : decode cX6_keep 25 = .ok (.aload_n 0, 1) := by decide +kernel
theorem dX6_keep_26 : decode cX6_keep 26 = .ok (.getfield 45, 3) := by decide +kernel
theorem dX6_keep_29 : decode cX6_keep 29 = .ok (.getfield 182, 3) := by decide +kernel
theorem dX6_keep_32 : decode cX6_keep 32 = .ok (.ireturn, 1) := by decide +kernel
theorem dX6_back_0 : decode cX6_back 0 = .ok (.aload_n 0, 1) := by decide +kernel
theorem dX6_back_1 : decode cX6_back 1 = .ok (.getfield 45, 3) := by decide +kernel
theorem dX6_back_4 : decode cX6_back 4 = .ok (.aload_n 0, 1) := by decide +kernel
theorem dX6_back_5 : decode cX6_back 5 = .ok (.getfield 29, 3) := by decide +kernel
theorem dX6_back_8 : decode cX6_back 8 = .ok (.invokevirtual 178, 3) := by decide +kernel
theorem dX6_back_11 : decode cX6_back 11 = .ok (.ifCond .ne 6, 3) := by decide +kernel
theorem dX6_back_14 : decode cX6_back 14 = .ok (.bipush (-2), 2) := by decide +kernel
theorem dX6_back_16 : decode cX6_back 16 = .ok (.ireturn, 1) := by decide +kernel
theorem dX6_back_17 : decode cX6_back 17 = .ok (.aload_n 0, 1) := by decide +kernel
theorem dX6_back_18 : decode cX6_back 18 = .ok (.getfield 41, 3) := by decide +kernel
theorem dX6_back_21 : decode cX6_back 21 = .ok (.invokevirtual 143, 3) := by decide +kernel
theorem dX6_back_24 : decode cX6_back 24 = .ok (.aload_n 0, 1) := by decide +kernel
theorem dX6_back_25 : decode cX6_back 25 = .ok (.getfield 45, 3) := by decide +kernel
theorem dX6_back_28 : decode cX6_back 28 = .ok (.getfield 182, 3) := by decide +kernel
theorem dX6_back_31 : decode cX6_back 31 = .ok (.ireturn, 1) := by decide +kernel
theorem dX6_count_0 : decode cX6_count 0 = .ok (.iload_n 1, 1) := by decide +kernel
theorem dX6_count_1 : decode cX6_count 1 = .ok (.tableswitch 129 0 9 #[55, 63, 71, 79, 84, 92, 100, 105, 113, 121], 55) := by decide +kernel
theorem dX6_count_56 : decode cX6_count 56 = .ok (.aload_n 0, 1) := by decide +kernel
theorem dX6_count_57 : decode cX6_count 57 = .ok (.getfield 19, 3) := by decide +kernel
theorem dX6_count_60 : decode cX6_count 60 = .ok (.getfield 144, 3) := by decide +kernel
theorem dX6_count_63 : decode cX6_count 63 = .ok (.ireturn, 1) := by decide +kernel
theorem dX6_count_64 : decode cX6_count 64 = .ok (.aload_n 0, 1) := by decide +kernel
theorem dX6_count_65 : decode cX6_count 65 = .ok (.getfield 19, 3) := by decide +kernel
theorem dX6_count_68 : decode cX6_count 68 = .ok (.getfield 147, 3) := by decide +kernel
theorem dX6_count_71 : decode cX6_count 71 = .ok (.ireturn, 1) := by decide +kernel
theorem dX6_count_72 : decode cX6_count 72 = .ok (.aload_n 0, 1) := by decide +kernel
theorem dX6_count_73 : decode cX6_count 73 = .ok (.getfield 19, 3) := by decide +kernel
theorem dX6_count_76 : decode cX6_count 76 = .ok (.getfield 238, 3) := by decide +kernel
theorem dX6_count_79 : decode cX6_count 79 = .ok (.ireturn, 1) := by decide +kernel
theorem dX6_count_80 : decode cX6_count 80 = .ok (.aload_n 0, 1) := by decide +kernel
theorem dX6_count_81 : decode cX6_count 81 = .ok (.invokevirtual 192, 3) := by decide +kernel
theorem dX6_count_84 : decode cX6_count 84 = .ok (.ireturn, 1) := by decide +kernel
theorem dX6_count_85 : decode cX6_count 85 = .ok (.aload_n 0, 1) := by decide +kernel
theorem dX6_count_86 : decode cX6_count 86 = .ok (.getfield 29, 3) := by decide +kernel
theorem dX6_count_89 : decode cX6_count 89 = .ok (.getfield 241, 3) := by decide +kernel
theorem dX6_count_92 : decode cX6_count 92 = .ok (.ireturn, 1) := by decide +kernel
theorem dX6_count_93 : decode cX6_count 93 = .ok (.aload_n 0, 1) := by decide +kernel
theorem dX6_count_94 : decode cX6_count 94 = .ok (.getfield 29, 3) := by decide +kernel
theorem dX6_count_97 : decode cX6_count 97 = .ok (.getfield 244, 3) := by decide +kernel
theorem dX6_count_100 : decode cX6_count 100 = .ok (.ireturn, 1) := by decide +kernel
theorem dX6_count_101 : decode cX6_count 101 = .ok (.aload_n 0, 1) := by decide +kernel
theorem dX6_count_102 : decode cX6_count 102 = .ok (.getfield 140, 3) := by decide +kernel
theorem dX6_count_105 : decode cX6_count 105 = .ok (.ireturn, 1) := by decide +kernel
theorem dX6_count_106 : decode cX6_count 106 = .ok (.aload_n 0, 1) := by decide +kernel
theorem dX6_count_107 : decode cX6_count 107 = .ok (.getfield 41, 3) := by decide +kernel
theorem dX6_count_110 : decode cX6_count 110 = .ok (.getfield 182, 3) := by decide +kernel
theorem dX6_count_113 : decode cX6_count 113 = .ok (.ireturn, 1) := by decide +kernel
theorem dX6_count_114 : decode cX6_count 114 = .ok (.aload_n 0, 1) := by decide +kernel
theorem dX6_count_115 : decode cX6_count 115 = .ok (.getfield 45, 3) := by decide +kernel
theorem dX6_count_118 : decode cX6_count 118 = .ok (.getfield 182, 3) := by decide +kernel
theorem dX6_count_121 : decode cX6_count 121 = .ok (.ireturn, 1) := by decide +kernel
theorem dX6_count_122 : decode cX6_count 122 = .ok (.aload_n 0, 1) := by decide +kernel
theorem dX6_count_123 : decode cX6_count 123 = .ok (.getfield 10, 3) := by decide +kernel
theorem dX6_count_126 : decode cX6_count 126 = .ok (.getfield 95, 3) := by decide +kernel
theorem dX6_count_129 : decode cX6_count 129 = .ok (.ireturn, 1) := by decide +kernel
theorem dX6_count_130 : decode cX6_count 130 = .ok (.iconst (-1), 1) := by decide +kernel
theorem dX6_count_131 : decode cX6_count 131 = .ok (.ireturn, 1) := by decide +kernel
theorem dX6_isHeardFrom_0 : decode cX6_isHeardFrom 0 = .ok (.iconst 0, 1) := by decide +kernel
theorem dX6_isHeardFrom_1 : decode cX6_isHeardFrom 1 = .ok (.istore_n 2, 1) := by decide +kernel
theorem dX6_isHeardFrom_2 : decode cX6_isHeardFrom 2 = .ok (.iload_n 2, 1) := by decide +kernel
theorem dX6_isHeardFrom_3 : decode cX6_isHeardFrom 3 = .ok (.aload_n 0, 1) := by decide +kernel
theorem dX6_isHeardFrom_4 : decode cX6_isHeardFrom 4 = .ok (.getfield 140, 3) := by decide +kernel
theorem dX6_isHeardFrom_7 : decode cX6_isHeardFrom 7 = .ok (.if_icmp .ge 37, 3) := by decide +kernel
theorem dX6_isHeardFrom_10 : decode cX6_isHeardFrom 10 = .ok (.aload_n 0, 1) := by decide +kernel
theorem dX6_isHeardFrom_11 : decode cX6_isHeardFrom 11 = .ok (.getfield 29, 3) := by decide +kernel
theorem dX6_isHeardFrom_14 : decode cX6_isHeardFrom 14 = .ok (.getfield 127, 3) := by decide +kernel
theorem dX6_isHeardFrom_17 : decode cX6_isHeardFrom 17 = .ok (.aload_n 0, 1) := by decide +kernel
theorem dX6_isHeardFrom_18 : decode cX6_isHeardFrom 18 = .ok (.getfield 19, 3) := by decide +kernel
theorem dX6_isHeardFrom_21 : decode cX6_isHeardFrom 21 = .ok (.iload_n 1, 1) := by decide +kernel
theorem dX6_isHeardFrom_22 : decode cX6_isHeardFrom 22 = .ok (.iload_n 2, 1) := by decide +kernel
theorem dX6_isHeardFrom_23 : decode cX6_isHeardFrom 23 = .ok (.invokevirtual 168, 3) := by decide +kernel
theorem dX6_isHeardFrom_26 : decode cX6_isHeardFrom 26 = .ok (.iaload, 1) := by decide +kernel
theorem dX6_isHeardFrom_27 : decode cX6_isHeardFrom 27 = .ok (.aload_n 0, 1) := by decide +kernel
theorem dX6_isHeardFrom_28 : decode cX6_isHeardFrom 28 = .ok (.getfield 52, 3) := by decide +kernel
theorem dX6_isHeardFrom_31 : decode cX6_isHeardFrom 31 = .ok (.iload_n 2, 1) := by decide +kernel
theorem dX6_isHeardFrom_32 : decode cX6_isHeardFrom 32 = .ok (.iaload, 1) := by decide +kernel
theorem dX6_isHeardFrom_33 : decode cX6_isHeardFrom 33 = .ok (.if_icmp .eq 5, 3) := by decide +kernel
theorem dX6_isHeardFrom_36 : decode cX6_isHeardFrom 36 = .ok (.iconst 0, 1) := by decide +kernel
theorem dX6_isHeardFrom_37 : decode cX6_isHeardFrom 37 = .ok (.ireturn, 1) := by decide +kernel
theorem dX6_isHeardFrom_38 : decode cX6_isHeardFrom 38 = .ok (.iinc 2 1, 3) := by decide +kernel
theorem dX6_isHeardFrom_41 : decode cX6_isHeardFrom 41 = .ok (.goto (-39), 3) := by decide +kernel
theorem dX6_isHeardFrom_44 : decode cX6_isHeardFrom 44 = .ok (.iconst 1, 1) := by decide +kernel
theorem dX6_isHeardFrom_45 : decode cX6_isHeardFrom 45 = .ok (.ireturn, 1) := by decide +kernel
theorem dX6_draw_0 : decode cX6_draw 0 = .ok (.ldc2_w 247, 3) := by decide +kernel
theorem dX6_draw_3 : decode cX6_draw 3 = .ok (.iload_n 0, 1) := by decide +kernel
theorem dX6_draw_4 : decode cX6_draw 4 = .ok (.i2l, 1) := by decide +kernel
theorem dX6_draw_5 : decode cX6_draw 5 = .ok (.lmul, 1) := by decide +kernel
theorem dX6_draw_6 : decode cX6_draw 6 = .ok (.ldc2_w 249, 3) := by decide +kernel
theorem dX6_draw_9 : decode cX6_draw 9 = .ok (.iload_n 1, 1) := by decide +kernel
theorem dX6_draw_10 : decode cX6_draw 10 = .ok (.i2l, 1) := by decide +kernel
theorem dX6_draw_11 : decode cX6_draw 11 = .ok (.lmul, 1) := by decide +kernel
theorem dX6_draw_12 : decode cX6_draw 12 = .ok (.ladd, 1) := by decide +kernel
theorem dX6_draw_13 : decode cX6_draw 13 = .ok (.lconst 1, 1) := by decide +kernel
theorem dX6_draw_14 : decode cX6_draw 14 = .ok (.ladd, 1) := by decide +kernel
theorem dX6_draw_15 : decode cX6_draw 15 = .ok (.lstore_n 2, 1) := by decide +kernel
theorem dX6_draw_16 : decode cX6_draw 16 = .ok (.lload_n 2, 1) := by decide +kernel
theorem dX6_draw_17 : decode cX6_draw 17 = .ok (.lload_n 2, 1) := by decide +kernel
theorem dX6_draw_18 : decode cX6_draw 18 = .ok (.lmul, 1) := by decide +kernel
theorem dX6_draw_19 : decode cX6_draw 19 = .ok (.ldc2_w 251, 3) := by decide +kernel
theorem dX6_draw_22 : decode cX6_draw 22 = .ok (.lrem, 1) := by decide +kernel
theorem dX6_draw_23 : decode cX6_draw 23 = .ok (.ldc2_w 253, 3) := by decide +kernel
theorem dX6_draw_26 : decode cX6_draw 26 = .ok (.ldiv, 1) := by decide +kernel
theorem dX6_draw_27 : decode cX6_draw 27 = .ok (.l2i, 1) := by decide +kernel
theorem dX6_draw_28 : decode cX6_draw 28 = .ok (.ireturn, 1) := by decide +kernel
theorem dL_law_0 : decode cL_law 0 = .ok (.new 7, 3) := by decide +kernel
theorem dL_law_3 : decode cL_law 3 = .ok (.dup, 1) := by decide +kernel
theorem dL_law_4 : decode cL_law 4 = .ok (.invokespecial 9, 3) := by decide +kernel
theorem dL_law_7 : decode cL_law 7 = .ok (.astore_n 1, 1) := by decide +kernel
theorem dL_law_8 : decode cL_law 8 = .ok (.new 10, 3) := by decide +kernel
theorem dL_law_11 : decode cL_law 11 = .ok (.dup, 1) := by decide +kernel
theorem dL_law_12 : decode cL_law 12 = .ok (.invokespecial 12, 3) := by decide +kernel
theorem dL_law_15 : decode cL_law 15 = .ok (.astore_n 2, 1) := by decide +kernel
theorem dL_law_16 : decode cL_law 16 = .ok (.iconst 0, 1) := by decide +kernel
theorem dL_law_17 : decode cL_law 17 = .ok (.istore_n 3, 1) := by decide +kernel
theorem dL_law_18 : decode cL_law 18 = .ok (.iload_n 3, 1) := by decide +kernel
theorem dL_law_19 : decode cL_law 19 = .ok (.aload_n 0, 1) := by decide +kernel
theorem dL_law_20 : decode cL_law 20 = .ok (.arraylength, 1) := by decide +kernel
theorem dL_law_21 : decode cL_law 21 = .ok (.iconst 4, 1) := by decide +kernel
theorem dL_law_22 : decode cL_law 22 = .ok (.isub, 1) := by decide +kernel
theorem dL_law_23 : decode cL_law 23 = .ok (.if_icmp .gt 730, 3) := by decide +kernel
theorem dL_law_26 : decode cL_law 26 = .ok (.aload_n 0, 1) := by decide +kernel
theorem dL_law_27 : decode cL_law 27 = .ok (.iload_n 3, 1) := by decide +kernel
theorem dL_law_28 : decode cL_law 28 = .ok (.iaload, 1) := by decide +kernel
theorem dL_law_29 : decode cL_law 29 = .ok (.bipush 31, 2) := by decide +kernel
theorem dL_law_31 : decode cL_law 31 = .ok (.iand, 1) := by decide +kernel
theorem dL_law_32 : decode cL_law 32 = .ok (.tableswitch 715 0 28 #[132, 155, 168, 181, 194, 227, 250, 263, 276, 335, 358, 371, 394, 407, 420, 433, 456, 489, 512, 525, 538, 561, 574, 587, 600, 623, 666, 679, 692], 132) := by decide +kernel
theorem dL_law_164 : decode cL_law 164 = .ok (.aload_n 1, 1) := by decide +kernel
theorem dL_law_165 : decode cL_law 165 = .ok (.aload_n 0, 1) := by decide +kernel
theorem dL_law_166 : decode cL_law 166 = .ok (.iload_n 3, 1) := by decide +kernel
theorem dL_law_167 : decode cL_law 167 = .ok (.iconst 1, 1) := by decide +kernel
theorem dL_law_168 : decode cL_law 168 = .ok (.iadd, 1) := by decide +kernel
theorem dL_law_169 : decode cL_law 169 = .ok (.iaload, 1) := by decide +kernel
theorem dL_law_170 : decode cL_law 170 = .ok (.invokevirtual 13, 3) := by decide +kernel
theorem dL_law_173 : decode cL_law 173 = .ok (.aload_n 2, 1) := by decide +kernel
theorem dL_law_174 : decode cL_law 174 = .ok (.aload_n 0, 1) := by decide +kernel
theorem dL_law_175 : decode cL_law 175 = .ok (.iload_n 3, 1) := by decide +kernel
theorem dL_law_176 : decode cL_law 176 = .ok (.iconst 1, 1) := by decide +kernel
theorem dL_law_177 : decode cL_law 177 = .ok (.iadd, 1) := by decide +kernel
theorem dL_law_178 : decode cL_law 178 = .ok (.iaload, 1) := by decide +kernel
theorem dL_law_179 : decode cL_law 179 = .ok (.invokevirtual 17, 3) := by decide +kernel
theorem dL_law_182 : decode cL_law 182 = .ok (.if_icmp .eq 565, 3) := by decide +kernel
theorem dL_law_185 : decode cL_law 185 = .ok (.iconst 0, 1) := by decide +kernel
theorem dL_law_186 : decode cL_law 186 = .ok (.ireturn, 1) := by decide +kernel
theorem dL_law_187 : decode cL_law 187 = .ok (.aload_n 1, 1) := by decide +kernel
theorem dL_law_188 : decode cL_law 188 = .ok (.invokevirtual 18, 3) := by decide +kernel
theorem dL_law_191 : decode cL_law 191 = .ok (.aload_n 2, 1) := by decide +kernel
theorem dL_law_192 : decode cL_law 192 = .ok (.invokevirtual 22, 3) := by decide +kernel
theorem dL_law_195 : decode cL_law 195 = .ok (.if_icmp .eq 552, 3) := by decide +kernel
theorem dL_law_198 : decode cL_law 198 = .ok (.iconst 0, 1) := by decide +kernel
theorem dL_law_199 : decode cL_law 199 = .ok (.ireturn, 1) := by decide +kernel
theorem dL_law_200 : decode cL_law 200 = .ok (.aload_n 1, 1) := by decide +kernel
theorem dL_law_201 : decode cL_law 201 = .ok (.invokevirtual 23, 3) := by decide +kernel
theorem dL_law_204 : decode cL_law 204 = .ok (.aload_n 2, 1) := by decide +kernel
theorem dL_law_205 : decode cL_law 205 = .ok (.invokevirtual 26, 3) := by decide +kernel
theorem dL_law_208 : decode cL_law 208 = .ok (.if_icmp .eq 539, 3) := by decide +kernel
theorem dL_law_211 : decode cL_law 211 = .ok (.iconst 0, 1) := by decide +kernel
theorem dL_law_212 : decode cL_law 212 = .ok (.ireturn, 1) := by decide +kernel
theorem dL_law_213 : decode cL_law 213 = .ok (.aload_n 1, 1) := by decide +kernel
theorem dL_law_214 : decode cL_law 214 = .ok (.invokevirtual 27, 3) := by decide +kernel
theorem dL_law_217 : decode cL_law 217 = .ok (.aload_n 2, 1) := by decide +kernel
theorem dL_law_218 : decode cL_law 218 = .ok (.invokevirtual 30, 3) := by decide +kernel
theorem dL_law_221 : decode cL_law 221 = .ok (.if_icmp .eq 526, 3) := by decide +kernel
theorem dL_law_224 : decode cL_law 224 = .ok (.iconst 0, 1) := by decide +kernel
theorem dL_law_225 : decode cL_law 225 = .ok (.ireturn, 1) := by decide +kernel
theorem dL_law_226 : decode cL_law 226 = .ok (.aload_n 1, 1) := by decide +kernel
theorem dL_law_227 : decode cL_law 227 = .ok (.aload_n 0, 1) := by decide +kernel
theorem dL_law_228 : decode cL_law 228 = .ok (.iload_n 3, 1) := by decide +kernel
theorem dL_law_229 : decode cL_law 229 = .ok (.iconst 1, 1) := by decide +kernel
theorem dL_law_230 : decode cL_law 230 = .ok (.iadd, 1) := by decide +kernel
theorem dL_law_231 : decode cL_law 231 = .ok (.iaload, 1) := by decide +kernel
theorem dL_law_232 : decode cL_law 232 = .ok (.aload_n 0, 1) := by decide +kernel
theorem dL_law_233 : decode cL_law 233 = .ok (.iload_n 3, 1) := by decide +kernel
theorem dL_law_234 : decode cL_law 234 = .ok (.iconst 2, 1) := by decide +kernel
theorem dL_law_235 : decode cL_law 235 = .ok (.iadd, 1) := by decide +kernel
theorem dL_law_236 : decode cL_law 236 = .ok (.iaload, 1) := by decide +kernel
theorem dL_law_237 : decode cL_law 237 = .ok (.invokevirtual 31, 3) := by decide +kernel
theorem dL_law_240 : decode cL_law 240 = .ok (.aload_n 2, 1) := by decide +kernel
theorem dL_law_241 : decode cL_law 241 = .ok (.aload_n 0, 1) := by decide +kernel
theorem dL_law_242 : decode cL_law 242 = .ok (.iload_n 3, 1) := by decide +kernel
theorem dL_law_243 : decode cL_law 243 = .ok (.iconst 1, 1) := by decide +kernel
theorem dL_law_244 : decode cL_law 244 = .ok (.iadd, 1) := by decide +kernel
theorem dL_law_245 : decode cL_law 245 = .ok (.iaload, 1) := by decide +kernel
theorem dL_law_246 : decode cL_law 246 = .ok (.aload_n 0, 1) := by decide +kernel
theorem dL_law_247 : decode cL_law 247 = .ok (.iload_n 3, 1) := by decide +kernel
theorem dL_law_248 : decode cL_law 248 = .ok (.iconst 2, 1) := by decide +kernel
theorem dL_law_249 : decode cL_law 249 = .ok (.iadd, 1) := by decide +kernel
theorem dL_law_250 : decode cL_law 250 = .ok (.iaload, 1) := by decide +kernel
theorem dL_law_251 : decode cL_law 251 = .ok (.invokevirtual 35, 3) := by decide +kernel
theorem dL_law_254 : decode cL_law 254 = .ok (.if_icmp .eq 493, 3) := by decide +kernel
theorem dL_law_257 : decode cL_law 257 = .ok (.iconst 0, 1) := by decide +kernel
theorem dL_law_258 : decode cL_law 258 = .ok (.ireturn, 1) := by decide +kernel
theorem dL_law_259 : decode cL_law 259 = .ok (.aload_n 1, 1) := by decide +kernel
theorem dL_law_260 : decode cL_law 260 = .ok (.aload_n 0, 1) := by decide +kernel
theorem dL_law_261 : decode cL_law 261 = .ok (.iload_n 3, 1) := by decide +kernel
theorem dL_law_262 : decode cL_law 262 = .ok (.iconst 1, 1) := by decide +kernel
theorem dL_law_263 : decode cL_law 263 = .ok (.iadd, 1) := by decide +kernel
theorem dL_law_264 : decode cL_law 264 = .ok (.iaload, 1) := by decide +kernel
theorem dL_law_265 : decode cL_law 265 = .ok (.invokevirtual 36, 3) := by decide +kernel
theorem dL_law_268 : decode cL_law 268 = .ok (.aload_n 2, 1) := by decide +kernel
theorem dL_law_269 : decode cL_law 269 = .ok (.aload_n 0, 1) := by decide +kernel
theorem dL_law_270 : decode cL_law 270 = .ok (.iload_n 3, 1) := by decide +kernel
theorem dL_law_271 : decode cL_law 271 = .ok (.iconst 1, 1) := by decide +kernel
theorem dL_law_272 : decode cL_law 272 = .ok (.iadd, 1) := by decide +kernel
theorem dL_law_273 : decode cL_law 273 = .ok (.iaload, 1) := by decide +kernel
theorem dL_law_274 : decode cL_law 274 = .ok (.invokevirtual 39, 3) := by decide +kernel
theorem dL_law_277 : decode cL_law 277 = .ok (.if_icmp .eq 470, 3) := by decide +kernel
theorem dL_law_280 : decode cL_law 280 = .ok (.iconst 0, 1) := by decide +kernel
theorem dL_law_281 : decode cL_law 281 = .ok (.ireturn, 1) := by decide +kernel
theorem dL_law_282 : decode cL_law 282 = .ok (.aload_n 1, 1) := by decide +kernel
theorem dL_law_283 : decode cL_law 283 = .ok (.invokevirtual 40, 3) := by decide +kernel
theorem dL_law_286 : decode cL_law 286 = .ok (.aload_n 2, 1) := by decide +kernel
theorem dL_law_287 : decode cL_law 287 = .ok (.invokevirtual 43, 3) := by decide +kernel
theorem dL_law_290 : decode cL_law 290 = .ok (.if_icmp .eq 457, 3) := by decide +kernel
theorem dL_law_293 : decode cL_law 293 = .ok (.iconst 0, 1) := by decide +kernel
theorem dL_law_294 : decode cL_law 294 = .ok (.ireturn, 1) := by decide +kernel
theorem dL_law_295 : decode cL_law 295 = .ok (.aload_n 1, 1) := by decide +kernel
theorem dL_law_296 : decode cL_law 296 = .ok (.invokevirtual 44, 3) := by decide +kernel
theorem dL_law_299 : decode cL_law 299 = .ok (.aload_n 2, 1) := by decide +kernel
theorem dL_law_300 : decode cL_law 300 = .ok (.invokevirtual 47, 3) := by decide +kernel
theorem dL_law_303 : decode cL_law 303 = .ok (.if_icmp .eq 444, 3) := by decide +kernel
theorem dL_law_306 : decode cL_law 306 = .ok (.iconst 0, 1) := by decide +kernel
theorem dL_law_307 : decode cL_law 307 = .ok (.ireturn, 1) := by decide +kernel
theorem dL_law_308 : decode cL_law 308 = .ok (.aload_n 1, 1) := by decide +kernel
theorem dL_law_309 : decode cL_law 309 = .ok (.aload_n 0, 1) := by decide +kernel
theorem dL_law_310 : decode cL_law 310 = .ok (.iload_n 3, 1) := by decide +kernel
theorem dL_law_311 : decode cL_law 311 = .ok (.iconst 1, 1) := by decide +kernel
theorem dL_law_312 : decode cL_law 312 = .ok (.iadd, 1) := by decide +kernel
theorem dL_law_313 : decode cL_law 313 = .ok (.iaload, 1) := by decide +kernel
theorem dL_law_314 : decode cL_law 314 = .ok (.aload_n 0, 1) := by decide +kernel
theorem dL_law_315 : decode cL_law 315 = .ok (.iload_n 3, 1) := by decide +kernel
theorem dL_law_316 : decode cL_law 316 = .ok (.iconst 2, 1) := by decide +kernel
theorem dL_law_317 : decode cL_law 317 = .ok (.iadd, 1) := by decide +kernel
theorem dL_law_318 : decode cL_law 318 = .ok (.iaload, 1) := by decide +kernel
theorem dL_law_319 : decode cL_law 319 = .ok (.aload_n 0, 1) := by decide +kernel
theorem dL_law_320 : decode cL_law 320 = .ok (.iload_n 3, 1) := by decide +kernel
theorem dL_law_321 : decode cL_law 321 = .ok (.iconst 3, 1) := by decide +kernel
theorem dL_law_322 : decode cL_law 322 = .ok (.iadd, 1) := by decide +kernel
theorem dL_law_323 : decode cL_law 323 = .ok (.iaload, 1) := by decide +kernel
theorem dL_law_324 : decode cL_law 324 = .ok (.ifCond .eq 7, 3) := by decide +kernel
theorem dL_law_327 : decode cL_law 327 = .ok (.iconst 1, 1) := by decide +kernel
theorem dL_law_328 : decode cL_law 328 = .ok (.goto 4, 3) := by decide +kernel
theorem dL_law_331 : decode cL_law 331 = .ok (.iconst 0, 1) := by decide +kernel
theorem dL_law_332 : decode cL_law 332 = .ok (.invokevirtual 48, 3) := by decide +kernel
theorem dL_law_335 : decode cL_law 335 = .ok (.aload_n 2, 1) := by decide +kernel
theorem dL_law_336 : decode cL_law 336 = .ok (.aload_n 0, 1) := by decide +kernel
theorem dL_law_337 : decode cL_law 337 = .ok (.iload_n 3, 1) := by decide +kernel
theorem dL_law_338 : decode cL_law 338 = .ok (.iconst 1, 1) := by decide +kernel
theorem dL_law_339 : decode cL_law 339 = .ok (.iadd, 1) := by decide +kernel
theorem dL_law_340 : decode cL_law 340 = .ok (.iaload, 1) := by decide +kernel
theorem dL_law_341 : decode cL_law 341 = .ok (.aload_n 0, 1) := by decide +kernel
theorem dL_law_342 : decode cL_law 342 = .ok (.iload_n 3, 1) := by decide +kernel
theorem dL_law_343 : decode cL_law 343 = .ok (.iconst 2, 1) := by decide +kernel
theorem dL_law_344 : decode cL_law 344 = .ok (.iadd, 1) := by decide +kernel
theorem dL_law_345 : decode cL_law 345 = .ok (.iaload, 1) := by decide +kernel
theorem dL_law_346 : decode cL_law 346 = .ok (.aload_n 0, 1) := by decide +kernel
theorem dL_law_347 : decode cL_law 347 = .ok (.iload_n 3, 1) := by decide +kernel
theorem dL_law_348 : decode cL_law 348 = .ok (.iconst 3, 1) := by decide +kernel
theorem dL_law_349 : decode cL_law 349 = .ok (.iadd, 1) := by decide +kernel
theorem dL_law_350 : decode cL_law 350 = .ok (.iaload, 1) := by decide +kernel
theorem dL_law_351 : decode cL_law 351 = .ok (.ifCond .eq 7, 3) := by decide +kernel
theorem dL_law_354 : decode cL_law 354 = .ok (.iconst 1, 1) := by decide +kernel
theorem dL_law_355 : decode cL_law 355 = .ok (.goto 4, 3) := by decide +kernel
theorem dL_law_358 : decode cL_law 358 = .ok (.iconst 0, 1) := by decide +kernel
theorem dL_law_359 : decode cL_law 359 = .ok (.invokevirtual 52, 3) := by decide +kernel
theorem dL_law_362 : decode cL_law 362 = .ok (.if_icmp .eq 385, 3) := by decide +kernel
theorem dL_law_365 : decode cL_law 365 = .ok (.iconst 0, 1) := by decide +kernel
theorem dL_law_366 : decode cL_law 366 = .ok (.ireturn, 1) := by decide +kernel
theorem dL_law_367 : decode cL_law 367 = .ok (.aload_n 1, 1) := by decide +kernel
theorem dL_law_368 : decode cL_law 368 = .ok (.aload_n 0, 1) := by decide +kernel
theorem dL_law_369 : decode cL_law 369 = .ok (.iload_n 3, 1) := by decide +kernel
theorem dL_law_370 : decode cL_law 370 = .ok (.iconst 1, 1) := by decide +kernel
theorem dL_law_371 : decode cL_law 371 = .ok (.iadd, 1) := by decide +kernel
theorem dL_law_372 : decode cL_law 372 = .ok (.iaload, 1) := by decide +kernel
theorem dL_law_373 : decode cL_law 373 = .ok (.invokevirtual 53, 3) := by decide +kernel
theorem dL_law_376 : decode cL_law 376 = .ok (.aload_n 2, 1) := by decide +kernel
theorem dL_law_377 : decode cL_law 377 = .ok (.aload_n 0, 1) := by decide +kernel
theorem dL_law_378 : decode cL_law 378 = .ok (.iload_n 3, 1) := by decide +kernel
theorem dL_law_379 : decode cL_law 379 = .ok (.iconst 1, 1) := by decide +kernel
theorem dL_law_380 : decode cL_law 380 = .ok (.iadd, 1) := by decide +kernel
theorem dL_law_381 : decode cL_law 381 = .ok (.iaload, 1) := by decide +kernel
theorem dL_law_382 : decode cL_law 382 = .ok (.invokevirtual 56, 3) := by decide +kernel
theorem dL_law_385 : decode cL_law 385 = .ok (.if_icmp .eq 362, 3) := by decide +kernel
theorem dL_law_388 : decode cL_law 388 = .ok (.iconst 0, 1) := by decide +kernel
theorem dL_law_389 : decode cL_law 389 = .ok (.ireturn, 1) := by decide +kernel
theorem dL_law_390 : decode cL_law 390 = .ok (.aload_n 1, 1) := by decide +kernel
theorem dL_law_391 : decode cL_law 391 = .ok (.invokevirtual 57, 3) := by decide +kernel
theorem dL_law_394 : decode cL_law 394 = .ok (.aload_n 2, 1) := by decide +kernel
theorem dL_law_395 : decode cL_law 395 = .ok (.invokevirtual 60, 3) := by decide +kernel
theorem dL_law_398 : decode cL_law 398 = .ok (.if_icmp .eq 349, 3) := by decide +kernel
theorem dL_law_401 : decode cL_law 401 = .ok (.iconst 0, 1) := by decide +kernel
theorem dL_law_402 : decode cL_law 402 = .ok (.ireturn, 1) := by decide +kernel
theorem dL_law_403 : decode cL_law 403 = .ok (.aload_n 1, 1) := by decide +kernel
theorem dL_law_404 : decode cL_law 404 = .ok (.aload_n 0, 1) := by decide +kernel
theorem dL_law_405 : decode cL_law 405 = .ok (.iload_n 3, 1) := by decide +kernel
theorem dL_law_406 : decode cL_law 406 = .ok (.iconst 1, 1) := by decide +kernel
theorem dL_law_407 : decode cL_law 407 = .ok (.iadd, 1) := by decide +kernel
theorem dL_law_408 : decode cL_law 408 = .ok (.iaload, 1) := by decide +kernel
theorem dL_law_409 : decode cL_law 409 = .ok (.invokevirtual 61, 3) := by decide +kernel
theorem dL_law_412 : decode cL_law 412 = .ok (.aload_n 2, 1) := by decide +kernel
theorem dL_law_413 : decode cL_law 413 = .ok (.aload_n 0, 1) := by decide +kernel
theorem dL_law_414 : decode cL_law 414 = .ok (.iload_n 3, 1) := by decide +kernel
theorem dL_law_415 : decode cL_law 415 = .ok (.iconst 1, 1) := by decide +kernel
theorem dL_law_416 : decode cL_law 416 = .ok (.iadd, 1) := by decide +kernel
theorem dL_law_417 : decode cL_law 417 = .ok (.iaload, 1) := by decide +kernel
theorem dL_law_418 : decode cL_law 418 = .ok (.invokevirtual 64, 3) := by decide +kernel
theorem dL_law_421 : decode cL_law 421 = .ok (.if_icmp .eq 326, 3) := by decide +kernel
theorem dL_law_424 : decode cL_law 424 = .ok (.iconst 0, 1) := by decide +kernel
theorem dL_law_425 : decode cL_law 425 = .ok (.ireturn, 1) := by decide +kernel
theorem dL_law_426 : decode cL_law 426 = .ok (.aload_n 1, 1) := by decide +kernel
theorem dL_law_427 : decode cL_law 427 = .ok (.invokevirtual 65, 3) := by decide +kernel
theorem dL_law_430 : decode cL_law 430 = .ok (.aload_n 2, 1) := by decide +kernel
theorem dL_law_431 : decode cL_law 431 = .ok (.invokevirtual 68, 3) := by decide +kernel
theorem dL_law_434 : decode cL_law 434 = .ok (.if_icmp .eq 313, 3) := by decide +kernel
theorem dL_law_437 : decode cL_law 437 = .ok (.iconst 0, 1) := by decide +kernel
theorem dL_law_438 : decode cL_law 438 = .ok (.ireturn, 1) := by decide +kernel
theorem dL_law_439 : decode cL_law 439 = .ok (.aload_n 1, 1) := by decide +kernel
theorem dL_law_440 : decode cL_law 440 = .ok (.invokevirtual 69, 3) := by decide +kernel
theorem dL_law_443 : decode cL_law 443 = .ok (.aload_n 2, 1) := by decide +kernel
theorem dL_law_444 : decode cL_law 444 = .ok (.invokevirtual 72, 3) := by decide +kernel
theorem dL_law_447 : decode cL_law 447 = .ok (.if_icmp .eq 300, 3) := by decide +kernel
theorem dL_law_450 : decode cL_law 450 = .ok (.iconst 0, 1) := by decide +kernel
theorem dL_law_451 : decode cL_law 451 = .ok (.ireturn, 1) := by decide +kernel
theorem dL_law_452 : decode cL_law 452 = .ok (.aload_n 1, 1) := by decide +kernel
theorem dL_law_453 : decode cL_law 453 = .ok (.invokevirtual 73, 3) := by decide +kernel
theorem dL_law_456 : decode cL_law 456 = .ok (.aload_n 2, 1) := by decide +kernel
theorem dL_law_457 : decode cL_law 457 = .ok (.invokevirtual 76, 3) := by decide +kernel
theorem dL_law_460 : decode cL_law 460 = .ok (.if_icmp .eq 287, 3) := by decide +kernel
theorem dL_law_463 : decode cL_law 463 = .ok (.iconst 0, 1) := by decide +kernel
theorem dL_law_464 : decode cL_law 464 = .ok (.ireturn, 1) := by decide +kernel
theorem dL_law_465 : decode cL_law 465 = .ok (.aload_n 1, 1) := by decide +kernel
theorem dL_law_466 : decode cL_law 466 = .ok (.aload_n 0, 1) := by decide +kernel
theorem dL_law_467 : decode cL_law 467 = .ok (.iload_n 3, 1) := by decide +kernel
theorem dL_law_468 : decode cL_law 468 = .ok (.iconst 1, 1) := by decide +kernel
theorem dL_law_469 : decode cL_law 469 = .ok (.iadd, 1) := by decide +kernel
theorem dL_law_470 : decode cL_law 470 = .ok (.iaload, 1) := by decide +kernel
theorem dL_law_471 : decode cL_law 471 = .ok (.invokevirtual 77, 3) := by decide +kernel
theorem dL_law_474 : decode cL_law 474 = .ok (.aload_n 2, 1) := by decide +kernel
theorem dL_law_475 : decode cL_law 475 = .ok (.aload_n 0, 1) := by decide +kernel
theorem dL_law_476 : decode cL_law 476 = .ok (.iload_n 3, 1) := by decide +kernel
theorem dL_law_477 : decode cL_law 477 = .ok (.iconst 1, 1) := by decide +kernel
theorem dL_law_478 : decode cL_law 478 = .ok (.iadd, 1) := by decide +kernel
theorem dL_law_479 : decode cL_law 479 = .ok (.iaload, 1) := by decide +kernel
theorem dL_law_480 : decode cL_law 480 = .ok (.invokevirtual 80, 3) := by decide +kernel
theorem dL_law_483 : decode cL_law 483 = .ok (.if_icmp .eq 264, 3) := by decide +kernel
theorem dL_law_486 : decode cL_law 486 = .ok (.iconst 0, 1) := by decide +kernel
theorem dL_law_487 : decode cL_law 487 = .ok (.ireturn, 1) := by decide +kernel
theorem dL_law_488 : decode cL_law 488 = .ok (.aload_n 1, 1) := by decide +kernel
theorem dL_law_489 : decode cL_law 489 = .ok (.aload_n 0, 1) := by decide +kernel
theorem dL_law_490 : decode cL_law 490 = .ok (.iload_n 3, 1) := by decide +kernel
theorem dL_law_491 : decode cL_law 491 = .ok (.iconst 1, 1) := by decide +kernel
theorem dL_law_492 : decode cL_law 492 = .ok (.iadd, 1) := by decide +kernel
theorem dL_law_493 : decode cL_law 493 = .ok (.iaload, 1) := by decide +kernel
theorem dL_law_494 : decode cL_law 494 = .ok (.aload_n 0, 1) := by decide +kernel
theorem dL_law_495 : decode cL_law 495 = .ok (.iload_n 3, 1) := by decide +kernel
theorem dL_law_496 : decode cL_law 496 = .ok (.iconst 2, 1) := by decide +kernel
theorem dL_law_497 : decode cL_law 497 = .ok (.iadd, 1) := by decide +kernel
theorem dL_law_498 : decode cL_law 498 = .ok (.iaload, 1) := by decide +kernel
theorem dL_law_499 : decode cL_law 499 = .ok (.invokevirtual 81, 3) := by decide +kernel
theorem dL_law_502 : decode cL_law 502 = .ok (.aload_n 2, 1) := by decide +kernel
theorem dL_law_503 : decode cL_law 503 = .ok (.aload_n 0, 1) := by decide +kernel
theorem dL_law_504 : decode cL_law 504 = .ok (.iload_n 3, 1) := by decide +kernel
theorem dL_law_505 : decode cL_law 505 = .ok (.iconst 1, 1) := by decide +kernel
theorem dL_law_506 : decode cL_law 506 = .ok (.iadd, 1) := by decide +kernel
theorem dL_law_507 : decode cL_law 507 = .ok (.iaload, 1) := by decide +kernel
theorem dL_law_508 : decode cL_law 508 = .ok (.aload_n 0, 1) := by decide +kernel
theorem dL_law_509 : decode cL_law 509 = .ok (.iload_n 3, 1) := by decide +kernel
theorem dL_law_510 : decode cL_law 510 = .ok (.iconst 2, 1) := by decide +kernel
theorem dL_law_511 : decode cL_law 511 = .ok (.iadd, 1) := by decide +kernel
theorem dL_law_512 : decode cL_law 512 = .ok (.iaload, 1) := by decide +kernel
theorem dL_law_513 : decode cL_law 513 = .ok (.invokevirtual 84, 3) := by decide +kernel
theorem dL_law_516 : decode cL_law 516 = .ok (.if_icmp .eq 231, 3) := by decide +kernel
theorem dL_law_519 : decode cL_law 519 = .ok (.iconst 0, 1) := by decide +kernel
theorem dL_law_520 : decode cL_law 520 = .ok (.ireturn, 1) := by decide +kernel
theorem dL_law_521 : decode cL_law 521 = .ok (.aload_n 1, 1) := by decide +kernel
theorem dL_law_522 : decode cL_law 522 = .ok (.aload_n 0, 1) := by decide +kernel
theorem dL_law_523 : decode cL_law 523 = .ok (.iload_n 3, 1) := by decide +kernel
theorem dL_law_524 : decode cL_law 524 = .ok (.iconst 1, 1) := by decide +kernel
theorem dL_law_525 : decode cL_law 525 = .ok (.iadd, 1) := by decide +kernel
theorem dL_law_526 : decode cL_law 526 = .ok (.iaload, 1) := by decide +kernel
theorem dL_law_527 : decode cL_law 527 = .ok (.invokevirtual 85, 3) := by decide +kernel
theorem dL_law_530 : decode cL_law 530 = .ok (.aload_n 2, 1) := by decide +kernel
theorem dL_law_531 : decode cL_law 531 = .ok (.aload_n 0, 1) := by decide +kernel
theorem dL_law_532 : decode cL_law 532 = .ok (.iload_n 3, 1) := by decide +kernel
theorem dL_law_533 : decode cL_law 533 = .ok (.iconst 1, 1) := by decide +kernel
theorem dL_law_534 : decode cL_law 534 = .ok (.iadd, 1) := by decide +kernel
theorem dL_law_535 : decode cL_law 535 = .ok (.iaload, 1) := by decide +kernel
theorem dL_law_536 : decode cL_law 536 = .ok (.invokevirtual 88, 3) := by decide +kernel
theorem dL_law_539 : decode cL_law 539 = .ok (.if_icmp .eq 208, 3) := by decide +kernel
theorem dL_law_542 : decode cL_law 542 = .ok (.iconst 0, 1) := by decide +kernel
theorem dL_law_543 : decode cL_law 543 = .ok (.ireturn, 1) := by decide +kernel
theorem dL_law_544 : decode cL_law 544 = .ok (.aload_n 1, 1) := by decide +kernel
theorem dL_law_545 : decode cL_law 545 = .ok (.invokevirtual 89, 3) := by decide +kernel
theorem dL_law_548 : decode cL_law 548 = .ok (.aload_n 2, 1) := by decide +kernel
theorem dL_law_549 : decode cL_law 549 = .ok (.invokevirtual 92, 3) := by decide +kernel
theorem dL_law_552 : decode cL_law 552 = .ok (.if_icmp .eq 195, 3) := by decide +kernel
theorem dL_law_555 : decode cL_law 555 = .ok (.iconst 0, 1) := by decide +kernel
theorem dL_law_556 : decode cL_law 556 = .ok (.ireturn, 1) := by decide +kernel
theorem dL_law_557 : decode cL_law 557 = .ok (.aload_n 1, 1) := by decide +kernel
theorem dL_law_558 : decode cL_law 558 = .ok (.invokevirtual 93, 3) := by decide +kernel
theorem dL_law_561 : decode cL_law 561 = .ok (.aload_n 2, 1) := by decide +kernel
theorem dL_law_562 : decode cL_law 562 = .ok (.invokevirtual 96, 3) := by decide +kernel
theorem dL_law_565 : decode cL_law 565 = .ok (.if_icmp .eq 182, 3) := by decide +kernel
theorem dL_law_568 : decode cL_law 568 = .ok (.iconst 0, 1) := by decide +kernel
theorem dL_law_569 : decode cL_law 569 = .ok (.ireturn, 1) := by decide +kernel
theorem dL_law_570 : decode cL_law 570 = .ok (.aload_n 1, 1) := by decide +kernel
theorem dL_law_571 : decode cL_law 571 = .ok (.aload_n 0, 1) := by decide +kernel
theorem dL_law_572 : decode cL_law 572 = .ok (.iload_n 3, 1) := by decide +kernel
theorem dL_law_573 : decode cL_law 573 = .ok (.iconst 1, 1) := by decide +kernel
theorem dL_law_574 : decode cL_law 574 = .ok (.iadd, 1) := by decide +kernel
theorem dL_law_575 : decode cL_law 575 = .ok (.iaload, 1) := by decide +kernel
theorem dL_law_576 : decode cL_law 576 = .ok (.invokevirtual 97, 3) := by decide +kernel
theorem dL_law_579 : decode cL_law 579 = .ok (.aload_n 2, 1) := by decide +kernel
theorem dL_law_580 : decode cL_law 580 = .ok (.aload_n 0, 1) := by decide +kernel
theorem dL_law_581 : decode cL_law 581 = .ok (.iload_n 3, 1) := by decide +kernel
theorem dL_law_582 : decode cL_law 582 = .ok (.iconst 1, 1) := by decide +kernel
theorem dL_law_583 : decode cL_law 583 = .ok (.iadd, 1) := by decide +kernel
theorem dL_law_584 : decode cL_law 584 = .ok (.iaload, 1) := by decide +kernel
theorem dL_law_585 : decode cL_law 585 = .ok (.invokevirtual 100, 3) := by decide +kernel
theorem dL_law_588 : decode cL_law 588 = .ok (.if_icmp .eq 159, 3) := by decide +kernel
theorem dL_law_591 : decode cL_law 591 = .ok (.iconst 0, 1) := by decide +kernel
theorem dL_law_592 : decode cL_law 592 = .ok (.ireturn, 1) := by decide +kernel
theorem dL_law_593 : decode cL_law 593 = .ok (.aload_n 1, 1) := by decide +kernel
theorem dL_law_594 : decode cL_law 594 = .ok (.invokevirtual 101, 3) := by decide +kernel
theorem dL_law_597 : decode cL_law 597 = .ok (.aload_n 2, 1) := by decide +kernel
theorem dL_law_598 : decode cL_law 598 = .ok (.invokevirtual 104, 3) := by decide +kernel
theorem dL_law_601 : decode cL_law 601 = .ok (.if_icmp .eq 146, 3) := by decide +kernel
theorem dL_law_604 : decode cL_law 604 = .ok (.iconst 0, 1) := by decide +kernel
theorem dL_law_605 : decode cL_law 605 = .ok (.ireturn, 1) := by decide +kernel
theorem dL_law_606 : decode cL_law 606 = .ok (.aload_n 1, 1) := by decide +kernel
theorem dL_law_607 : decode cL_law 607 = .ok (.invokevirtual 105, 3) := by decide +kernel
theorem dL_law_610 : decode cL_law 610 = .ok (.aload_n 2, 1) := by decide +kernel
theorem dL_law_611 : decode cL_law 611 = .ok (.invokevirtual 108, 3) := by decide +kernel
theorem dL_law_614 : decode cL_law 614 = .ok (.if_icmp .eq 133, 3) := by decide +kernel
theorem dL_law_617 : decode cL_law 617 = .ok (.iconst 0, 1) := by decide +kernel
theorem dL_law_618 : decode cL_law 618 = .ok (.ireturn, 1) := by decide +kernel
theorem dL_law_619 : decode cL_law 619 = .ok (.aload_n 1, 1) := by decide +kernel
theorem dL_law_620 : decode cL_law 620 = .ok (.invokevirtual 109, 3) := by decide +kernel
theorem dL_law_623 : decode cL_law 623 = .ok (.aload_n 2, 1) := by decide +kernel
theorem dL_law_624 : decode cL_law 624 = .ok (.invokevirtual 112, 3) := by decide +kernel
theorem dL_law_627 : decode cL_law 627 = .ok (.if_icmp .eq 120, 3) := by decide +kernel
theorem dL_law_630 : decode cL_law 630 = .ok (.iconst 0, 1) := by decide +kernel
theorem dL_law_631 : decode cL_law 631 = .ok (.ireturn, 1) := by decide +kernel
theorem dL_law_632 : decode cL_law 632 = .ok (.aload_n 1, 1) := by decide +kernel
theorem dL_law_633 : decode cL_law 633 = .ok (.aload_n 0, 1) := by decide +kernel
theorem dL_law_634 : decode cL_law 634 = .ok (.iload_n 3, 1) := by decide +kernel
theorem dL_law_635 : decode cL_law 635 = .ok (.iconst 1, 1) := by decide +kernel
theorem dL_law_636 : decode cL_law 636 = .ok (.iadd, 1) := by decide +kernel
theorem dL_law_637 : decode cL_law 637 = .ok (.iaload, 1) := by decide +kernel
theorem dL_law_638 : decode cL_law 638 = .ok (.invokevirtual 113, 3) := by decide +kernel
theorem dL_law_641 : decode cL_law 641 = .ok (.aload_n 2, 1) := by decide +kernel
theorem dL_law_642 : decode cL_law 642 = .ok (.aload_n 0, 1) := by decide +kernel
theorem dL_law_643 : decode cL_law 643 = .ok (.iload_n 3, 1) := by decide +kernel
theorem dL_law_644 : decode cL_law 644 = .ok (.iconst 1, 1) := by decide +kernel
theorem dL_law_645 : decode cL_law 645 = .ok (.iadd, 1) := by decide +kernel
theorem dL_law_646 : decode cL_law 646 = .ok (.iaload, 1) := by decide +kernel
theorem dL_law_647 : decode cL_law 647 = .ok (.invokevirtual 116, 3) := by decide +kernel
theorem dL_law_650 : decode cL_law 650 = .ok (.if_icmp .eq 97, 3) := by decide +kernel
theorem dL_law_653 : decode cL_law 653 = .ok (.iconst 0, 1) := by decide +kernel
theorem dL_law_654 : decode cL_law 654 = .ok (.ireturn, 1) := by decide +kernel
theorem dL_law_655 : decode cL_law 655 = .ok (.aload_n 1, 1) := by decide +kernel
theorem dL_law_656 : decode cL_law 656 = .ok (.aload_n 0, 1) := by decide +kernel
theorem dL_law_657 : decode cL_law 657 = .ok (.iload_n 3, 1) := by decide +kernel
theorem dL_law_658 : decode cL_law 658 = .ok (.iconst 1, 1) := by decide +kernel
theorem dL_law_659 : decode cL_law 659 = .ok (.iadd, 1) := by decide +kernel
theorem dL_law_660 : decode cL_law 660 = .ok (.iaload, 1) := by decide +kernel
theorem dL_law_661 : decode cL_law 661 = .ok (.aload_n 0, 1) := by decide +kernel
theorem dL_law_662 : decode cL_law 662 = .ok (.iload_n 3, 1) := by decide +kernel
theorem dL_law_663 : decode cL_law 663 = .ok (.iconst 2, 1) := by decide +kernel
theorem dL_law_664 : decode cL_law 664 = .ok (.iadd, 1) := by decide +kernel
theorem dL_law_665 : decode cL_law 665 = .ok (.iaload, 1) := by decide +kernel
theorem dL_law_666 : decode cL_law 666 = .ok (.aload_n 0, 1) := by decide +kernel
theorem dL_law_667 : decode cL_law 667 = .ok (.iload_n 3, 1) := by decide +kernel
theorem dL_law_668 : decode cL_law 668 = .ok (.iconst 3, 1) := by decide +kernel
theorem dL_law_669 : decode cL_law 669 = .ok (.iadd, 1) := by decide +kernel
theorem dL_law_670 : decode cL_law 670 = .ok (.iaload, 1) := by decide +kernel
theorem dL_law_671 : decode cL_law 671 = .ok (.invokevirtual 117, 3) := by decide +kernel
theorem dL_law_674 : decode cL_law 674 = .ok (.aload_n 2, 1) := by decide +kernel
theorem dL_law_675 : decode cL_law 675 = .ok (.aload_n 0, 1) := by decide +kernel
theorem dL_law_676 : decode cL_law 676 = .ok (.iload_n 3, 1) := by decide +kernel
theorem dL_law_677 : decode cL_law 677 = .ok (.iconst 1, 1) := by decide +kernel
theorem dL_law_678 : decode cL_law 678 = .ok (.iadd, 1) := by decide +kernel
theorem dL_law_679 : decode cL_law 679 = .ok (.iaload, 1) := by decide +kernel
theorem dL_law_680 : decode cL_law 680 = .ok (.aload_n 0, 1) := by decide +kernel
theorem dL_law_681 : decode cL_law 681 = .ok (.iload_n 3, 1) := by decide +kernel
theorem dL_law_682 : decode cL_law 682 = .ok (.iconst 2, 1) := by decide +kernel
theorem dL_law_683 : decode cL_law 683 = .ok (.iadd, 1) := by decide +kernel
theorem dL_law_684 : decode cL_law 684 = .ok (.iaload, 1) := by decide +kernel
theorem dL_law_685 : decode cL_law 685 = .ok (.aload_n 0, 1) := by decide +kernel
theorem dL_law_686 : decode cL_law 686 = .ok (.iload_n 3, 1) := by decide +kernel
theorem dL_law_687 : decode cL_law 687 = .ok (.iconst 3, 1) := by decide +kernel
theorem dL_law_688 : decode cL_law 688 = .ok (.iadd, 1) := by decide +kernel
theorem dL_law_689 : decode cL_law 689 = .ok (.iaload, 1) := by decide +kernel
theorem dL_law_690 : decode cL_law 690 = .ok (.invokevirtual 121, 3) := by decide +kernel
theorem dL_law_693 : decode cL_law 693 = .ok (.if_icmp .eq 54, 3) := by decide +kernel
theorem dL_law_696 : decode cL_law 696 = .ok (.iconst 0, 1) := by decide +kernel
theorem dL_law_697 : decode cL_law 697 = .ok (.ireturn, 1) := by decide +kernel
theorem dL_law_698 : decode cL_law 698 = .ok (.aload_n 1, 1) := by decide +kernel
theorem dL_law_699 : decode cL_law 699 = .ok (.invokevirtual 122, 3) := by decide +kernel
theorem dL_law_702 : decode cL_law 702 = .ok (.aload_n 2, 1) := by decide +kernel
theorem dL_law_703 : decode cL_law 703 = .ok (.invokevirtual 125, 3) := by decide +kernel
theorem dL_law_706 : decode cL_law 706 = .ok (.if_icmp .eq 41, 3) := by decide +kernel
theorem dL_law_709 : decode cL_law 709 = .ok (.iconst 0, 1) := by decide +kernel
theorem dL_law_710 : decode cL_law 710 = .ok (.ireturn, 1) := by decide +kernel
theorem dL_law_711 : decode cL_law 711 = .ok (.aload_n 1, 1) := by decide +kernel
theorem dL_law_712 : decode cL_law 712 = .ok (.invokevirtual 126, 3) := by decide +kernel
theorem dL_law_715 : decode cL_law 715 = .ok (.aload_n 2, 1) := by decide +kernel
theorem dL_law_716 : decode cL_law 716 = .ok (.invokevirtual 129, 3) := by decide +kernel
theorem dL_law_719 : decode cL_law 719 = .ok (.if_icmp .eq 28, 3) := by decide +kernel
theorem dL_law_722 : decode cL_law 722 = .ok (.iconst 0, 1) := by decide +kernel
theorem dL_law_723 : decode cL_law 723 = .ok (.ireturn, 1) := by decide +kernel
theorem dL_law_724 : decode cL_law 724 = .ok (.aload_n 1, 1) := by decide +kernel
theorem dL_law_725 : decode cL_law 725 = .ok (.aload_n 0, 1) := by decide +kernel
theorem dL_law_726 : decode cL_law 726 = .ok (.iload_n 3, 1) := by decide +kernel
theorem dL_law_727 : decode cL_law 727 = .ok (.iconst 1, 1) := by decide +kernel
theorem dL_law_728 : decode cL_law 728 = .ok (.iadd, 1) := by decide +kernel
theorem dL_law_729 : decode cL_law 729 = .ok (.iaload, 1) := by decide +kernel
theorem dL_law_730 : decode cL_law 730 = .ok (.invokevirtual 130, 3) := by decide +kernel
theorem dL_law_733 : decode cL_law 733 = .ok (.aload_n 2, 1) := by decide +kernel
theorem dL_law_734 : decode cL_law 734 = .ok (.aload_n 0, 1) := by decide +kernel
theorem dL_law_735 : decode cL_law 735 = .ok (.iload_n 3, 1) := by decide +kernel
theorem dL_law_736 : decode cL_law 736 = .ok (.iconst 1, 1) := by decide +kernel
theorem dL_law_737 : decode cL_law 737 = .ok (.iadd, 1) := by decide +kernel
theorem dL_law_738 : decode cL_law 738 = .ok (.iaload, 1) := by decide +kernel
theorem dL_law_739 : decode cL_law 739 = .ok (.invokevirtual 133, 3) := by decide +kernel
theorem dL_law_742 : decode cL_law 742 = .ok (.if_icmp .eq 5, 3) := by decide +kernel
theorem dL_law_745 : decode cL_law 745 = .ok (.iconst 0, 1) := by decide +kernel
theorem dL_law_746 : decode cL_law 746 = .ok (.ireturn, 1) := by decide +kernel
theorem dL_law_747 : decode cL_law 747 = .ok (.iinc 3 4, 3) := by decide +kernel
theorem dL_law_750 : decode cL_law 750 = .ok (.goto (-732), 3) := by decide +kernel
theorem dL_law_753 : decode cL_law 753 = .ok (.iconst 1, 1) := by decide +kernel
theorem dL_law_754 : decode cL_law 754 = .ok (.ireturn, 1) := by decide +kernel
end
section
theorem dX7_init_0 : decode cX7_init 0 = .ok (.aload_n 0, 1) := by decide +kernel
theorem dX7_init_1 : decode cX7_init 1 = .ok (.invokespecial 1, 3) := by decide +kernel
theorem dX7_init_4 : decode cX7_init 4 = .ok (.aload_n 0, 1) := by decide +kernel
theorem dX7_init_5 : decode cX7_init 5 = .ok (.bipush 19, 2) := by decide +kernel
theorem dX7_init_7 : decode cX7_init 7 = .ok (.newarray .int, 2) := by decide +kernel
theorem dX7_init_9 : decode cX7_init 9 = .ok (.putfield 7, 3) := by decide +kernel
theorem dX7_init_12 : decode cX7_init 12 = .ok (.aload_n 0, 1) := by decide +kernel
theorem dX7_init_13 : decode cX7_init 13 = .ok (.bipush 19, 2) := by decide +kernel
theorem dX7_init_15 : decode cX7_init 15 = .ok (.newarray .int, 2) := by decide +kernel
theorem dX7_init_17 : decode cX7_init 17 = .ok (.putfield 13, 3) := by decide +kernel
theorem dX7_init_20 : decode cX7_init 20 = .ok (.aload_n 0, 1) := by decide +kernel
theorem dX7_init_21 : decode cX7_init 21 = .ok (.bipush 32, 2) := by decide +kernel
theorem dX7_init_23 : decode cX7_init 23 = .ok (.newarray .int, 2) := by decide +kernel
theorem dX7_init_25 : decode cX7_init 25 = .ok (.putfield 16, 3) := by decide +kernel
theorem dX7_init_28 : decode cX7_init 28 = .ok (.aload_n 0, 1) := by decide +kernel
theorem dX7_init_29 : decode cX7_init 29 = .ok (.bipush 66, 2) := by decide +kernel
theorem dX7_init_31 : decode cX7_init 31 = .ok (.newarray .int, 2) := by decide +kernel
theorem dX7_init_33 : decode cX7_init 33 = .ok (.putfield 19, 3) := by decide +kernel
theorem dX7_init_36 : decode cX7_init 36 = .ok (.aload_n 0, 1) := by decide +kernel
theorem dX7_init_37 : decode cX7_init 37 = .ok (.sipush 528, 3) := by decide +kernel
theorem dX7_init_40 : decode cX7_init 40 = .ok (.newarray .int, 2) := by decide +kernel
theorem dX7_init_42 : decode cX7_init 42 = .ok (.putfield 22, 3) := by decide +kernel
theorem dX7_init_45 : decode cX7_init 45 = .ok (.aload_n 0, 1) := by decide +kernel
theorem dX7_init_46 : decode cX7_init 46 = .ok (.sipush 132, 3) := by decide +kernel
theorem dX7_init_49 : decode cX7_init 49 = .ok (.newarray .int, 2) := by decide +kernel
theorem dX7_init_51 : decode cX7_init 51 = .ok (.putfield 25, 3) := by decide +kernel
theorem dX7_init_54 : decode cX7_init 54 = .ok (.aload_n 0, 1) := by decide +kernel
theorem dX7_init_55 : decode cX7_init 55 = .ok (.sipush 200, 3) := by decide +kernel
theorem dX7_init_58 : decode cX7_init 58 = .ok (.newarray .int, 2) := by decide +kernel
theorem dX7_init_60 : decode cX7_init 60 = .ok (.putfield 28, 3) := by decide +kernel
theorem dX7_init_63 : decode cX7_init 63 = .ok (.aload_n 0, 1) := by decide +kernel
theorem dX7_init_64 : decode cX7_init 64 = .ok (.bipush 32, 2) := by decide +kernel
theorem dX7_init_66 : decode cX7_init 66 = .ok (.newarray .int, 2) := by decide +kernel
theorem dX7_init_68 : decode cX7_init 68 = .ok (.putfield 31, 3) := by decide +kernel
theorem dX7_init_71 : decode cX7_init 71 = .ok (.aload_n 0, 1) := by decide +kernel
theorem dX7_init_72 : decode cX7_init 72 = .ok (.bipush 8, 2) := by decide +kernel
theorem dX7_init_74 : decode cX7_init 74 = .ok (.newarray .int, 2) := by decide +kernel
theorem dX7_init_76 : decode cX7_init 76 = .ok (.putfield 34, 3) := by decide +kernel
theorem dX7_init_79 : decode cX7_init 79 = .ok (.aload_n 0, 1) := by decide +kernel
theorem dX7_init_80 : decode cX7_init 80 = .ok (.iconst 2, 1) := by decide +kernel
theorem dX7_init_81 : decode cX7_init 81 = .ok (.newarray .int, 2) := by decide +kernel
theorem dX7_init_83 : decode cX7_init 83 = .ok (.putfield 37, 3) := by decide +kernel
theorem dX7_init_86 : decode cX7_init 86 = .ok (.aload_n 0, 1) := by decide +kernel
theorem dX7_init_87 : decode cX7_init 87 = .ok (.iconst 3, 1) := by decide +kernel
theorem dX7_init_88 : decode cX7_init 88 = .ok (.newarray .int, 2) := by decide +kernel
theorem dX7_init_90 : decode cX7_init 90 = .ok (.putfield 40, 3) := by decide +kernel
theorem dX7_init_93 : decode cX7_init 93 = .ok (.aload_n 0, 1) := by decide +kernel
theorem dX7_init_94 : decode cX7_init 94 = .ok (.bipush 32, 2) := by decide +kernel
theorem dX7_init_96 : decode cX7_init 96 = .ok (.newarray .int, 2) := by decide +kernel
theorem dX7_init_98 : decode cX7_init 98 = .ok (.putfield 43, 3) := by decide +kernel
theorem dX7_init_101 : decode cX7_init 101 = .ok (.aload_n 0, 1) := by decide +kernel
theorem dX7_init_102 : decode cX7_init 102 = .ok (.bipush 66, 2) := by decide +kernel
theorem dX7_init_104 : decode cX7_init 104 = .ok (.newarray .int, 2) := by decide +kernel
theorem dX7_init_106 : decode cX7_init 106 = .ok (.putfield 46, 3) := by decide +kernel
theorem dX7_init_109 : decode cX7_init 109 = .ok (.aload_n 0, 1) := by decide +kernel
theorem dX7_init_110 : decode cX7_init 110 = .ok (.sipush 4356, 3) := by decide +kernel
theorem dX7_init_113 : decode cX7_init 113 = .ok (.newarray .int, 2) := by decide +kernel
theorem dX7_init_115 : decode cX7_init 115 = .ok (.putfield 49, 3) := by decide +kernel
theorem dX7_init_118 : decode cX7_init 118 = .ok (.aload_n 0, 1) := by decide +kernel
theorem dX7_init_119 : decode cX7_init 119 = .ok (.sipush 256, 3) := by decide +kernel
theorem dX7_init_122 : decode cX7_init 122 = .ok (.newarray .int, 2) := by decide +kernel
theorem dX7_init_124 : decode cX7_init 124 = .ok (.putfield 52, 3) := by decide +kernel
theorem dX7_init_127 : decode cX7_init 127 = .ok (.aload_n 0, 1) := by decide +kernel
theorem dX7_init_128 : decode cX7_init 128 = .ok (.sipush 256, 3) := by decide +kernel
theorem dX7_init_131 : decode cX7_init 131 = .ok (.newarray .boolean, 2) := by decide +kernel
theorem dX7_init_133 : decode cX7_init 133 = .ok (.putfield 55, 3) := by decide +kernel
theorem dX7_init_136 : decode cX7_init 136 = .ok (.aload_n 0, 1) := by decide +kernel
theorem dX7_init_137 : decode cX7_init 137 = .ok (.invokevirtual 59, 3) := by decide +kernel
theorem dX7_init_140 : decode cX7_init 140 = .ok (.aload_n 0, 1) := by decide +kernel
theorem dX7_init_141 : decode cX7_init 141 = .ok (.iconst 0, 1) := by decide +kernel
theorem dX7_init_142 : decode cX7_init 142 = .ok (.iconst 1, 1) := by decide +kernel
theorem dX7_init_143 : decode cX7_init 143 = .ok (.invokevirtual 62, 3) := by decide +kernel
theorem dX7_init_146 : decode cX7_init 146 = .ok (.aload_n 0, 1) := by decide +kernel
theorem dX7_init_147 : decode cX7_init 147 = .ok (.iconst 4, 1) := by decide +kernel
theorem dX7_init_148 : decode cX7_init 148 = .ok (.iconst 1, 1) := by decide +kernel
theorem dX7_init_149 : decode cX7_init 149 = .ok (.invokevirtual 62, 3) := by decide +kernel
theorem dX7_init_152 : decode cX7_init 152 = .ok (.aload_n 0, 1) := by decide +kernel
theorem dX7_init_153 : decode cX7_init 153 = .ok (.bipush 7, 2) := by decide +kernel
theorem dX7_init_155 : decode cX7_init 155 = .ok (.iconst 2, 1) := by decide +kernel
theorem dX7_init_156 : decode cX7_init 156 = .ok (.invokevirtual 62, 3) := by decide +kernel
theorem dX7_init_159 : decode cX7_init 159 = .ok (.aload_n 0, 1) := by decide +kernel
theorem dX7_init_160 : decode cX7_init 160 = .ok (.getfield 13, 3) := by decide +kernel
theorem dX7_init_163 : decode cX7_init 163 = .ok (.iconst 1, 1) := by decide +kernel
theorem dX7_init_164 : decode cX7_init 164 = .ok (.bipush 14, 2) := by decide +kernel
theorem dX7_init_166 : decode cX7_init 166 = .ok (.iastore, 1) := by decide +kernel
theorem dX7_init_167 : decode cX7_init 167 = .ok (.aload_n 0, 1) := by decide +kernel
theorem dX7_init_168 : decode cX7_init 168 = .ok (.iconst 1, 1) := by decide +kernel
theorem dX7_init_169 : decode cX7_init 169 = .ok (.invokevirtual 66, 3) := by decide +kernel
theorem dX7_init_172 : decode cX7_init 172 = .ok (.pop, 1) := by decide +kernel
theorem dX7_init_173 : decode cX7_init 173 = .ok (.aload_n 0, 1) := by decide +kernel
theorem dX7_init_174 : decode cX7_init 174 = .ok (.iconst 2, 1) := by decide +kernel
theorem dX7_init_175 : decode cX7_init 175 = .ok (.invokevirtual 66, 3) := by decide +kernel
theorem dX7_init_178 : decode cX7_init 178 = .ok (.pop, 1) := by decide +kernel
theorem dX7_init_179 : decode cX7_init 179 = .ok (.aload_n 0, 1) := by decide +kernel
theorem dX7_init_180 : decode cX7_init 180 = .ok (.iconst 1, 1) := by decide +kernel
theorem dX7_init_181 : decode cX7_init 181 = .ok (.invokevirtual 66, 3) := by decide +kernel
theorem dX7_init_184 : decode cX7_init 184 = .ok (.pop, 1) := by decide +kernel
theorem dX7_init_185 : decode cX7_init 185 = .ok (.aload_n 0, 1) := by decide +kernel
theorem dX7_init_186 : decode cX7_init 186 = .ok (.iconst 2, 1) := by decide +kernel
theorem dX7_init_187 : decode cX7_init 187 = .ok (.invokevirtual 66, 3) := by decide +kernel
theorem dX7_init_190 : decode cX7_init 190 = .ok (.pop, 1) := by decide +kernel
theorem dX7_init_191 : decode cX7_init 191 = .ok (.aload_n 0, 1) := by decide +kernel
theorem dX7_init_192 : decode cX7_init 192 = .ok (.iconst 5, 1) := by decide +kernel
theorem dX7_init_193 : decode cX7_init 193 = .ok (.invokevirtual 66, 3) := by decide +kernel
theorem dX7_init_196 : decode cX7_init 196 = .ok (.pop, 1) := by decide +kernel
theorem dX7_init_197 : decode cX7_init 197 = .ok (.aload_n 0, 1) := by decide +kernel
theorem dX7_init_198 : decode cX7_init 198 = .ok (.iconst 0, 1) := by decide +kernel
theorem dX7_init_199 : decode cX7_init 199 = .ok (.invokevirtual 66, 3) := by decide +kernel
theorem dX7_init_202 : decode cX7_init 202 = .ok (.pop, 1) := by decide +kernel
theorem dX7_init_203 : decode cX7_init 203 = .ok (.aload_n 0, 1) := by decide +kernel
theorem dX7_init_204 : decode cX7_init 204 = .ok (.iconst 0, 1) := by decide +kernel
theorem dX7_init_205 : decode cX7_init 205 = .ok (.invokevirtual 66, 3) := by decide +kernel
theorem dX7_init_208 : decode cX7_init 208 = .ok (.pop, 1) := by decide +kernel
theorem dX7_init_209 : decode cX7_init 209 = .ok (.aload_n 0, 1) := by decide +kernel
theorem dX7_init_210 : decode cX7_init 210 = .ok (.iconst 4, 1) := by decide +kernel
theorem dX7_init_211 : decode cX7_init 211 = .ok (.invokevirtual 66, 3) := by decide +kernel
theorem dX7_init_214 : decode cX7_init 214 = .ok (.pop, 1) := by decide +kernel
theorem dX7_init_215 : decode cX7_init 215 = .ok (.aload_n 0, 1) := by decide +kernel
theorem dX7_init_216 : decode cX7_init 216 = .ok (.iconst 2, 1) := by decide +kernel
theorem dX7_init_217 : decode cX7_init 217 = .ok (.invokevirtual 66, 3) := by decide +kernel
theorem dX7_init_220 : decode cX7_init 220 = .ok (.pop, 1) := by decide +kernel
theorem dX7_init_221 : decode cX7_init 221 = .ok (.aload_n 0, 1) := by decide +kernel
theorem dX7_init_222 : decode cX7_init 222 = .ok (.iconst 4, 1) := by decide +kernel
theorem dX7_init_223 : decode cX7_init 223 = .ok (.invokevirtual 66, 3) := by decide +kernel
theorem dX7_init_226 : decode cX7_init 226 = .ok (.pop, 1) := by decide +kernel
theorem dX7_init_227 : decode cX7_init 227 = .ok (.aload_n 0, 1) := by decide +kernel
theorem dX7_init_228 : decode cX7_init 228 = .ok (.iconst 2, 1) := by decide +kernel
theorem dX7_init_229 : decode cX7_init 229 = .ok (.invokevirtual 66, 3) := by decide +kernel
theorem dX7_init_232 : decode cX7_init 232 = .ok (.pop, 1) := by decide +kernel
theorem dX7_init_233 : decode cX7_init 233 = .ok (.aload_n 0, 1) := by decide +kernel
theorem dX7_init_234 : decode cX7_init 234 = .ok (.iconst 4, 1) := by decide +kernel
theorem dX7_init_235 : decode cX7_init 235 = .ok (.invokevirtual 66, 3) := by decide +kernel
theorem dX7_init_238 : decode cX7_init 238 = .ok (.pop, 1) := by decide +kernel
theorem dX7_init_239 : decode cX7_init 239 = .ok (.aload_n 0, 1) := by decide +kernel
theorem dX7_init_240 : decode cX7_init 240 = .ok (.iconst 0, 1) := by decide +kernel
theorem dX7_init_241 : decode cX7_init 241 = .ok (.invokevirtual 66, 3) := by decide +kernel
theorem dX7_init_244 : decode cX7_init 244 = .ok (.pop, 1) := by decide +kernel
theorem dX7_init_245 : decode cX7_init 245 = .ok (.aload_n 0, 1) := by decide +kernel
theorem dX7_init_246 : decode cX7_init 246 = .ok (.invokevirtual 70, 3) := by decide +kernel
theorem dX7_init_249 : decode cX7_init 249 = .ok (.return_, 1) := by decide +kernel
theorem dX7_in_0 : decode cX7_in 0 = .ok (.lload_n 0, 1) := by decide +kernel
theorem dX7_in_1 : decode cX7_in 1 = .ok (.lload_n 2, 1) := by decide +kernel
theorem dX7_in_2 : decode cX7_in 2 = .ok (.lcmp, 1) := by decide +kernel
theorem dX7_in_3 : decode cX7_in 3 = .ok (.ifCond .lt 14, 3) := by decide +kernel
theorem dX7_in_6 : decode cX7_in 6 = .ok (.lload_n 0, 1) := by decide +kernel
theorem dX7_in_7 : decode cX7_in 7 = .ok (.lload 4, 2) := by decide +kernel
theorem dX7_in_9 : decode cX7_in 9 = .ok (.lcmp, 1) := by decide +kernel
theorem dX7_in_10 : decode cX7_in 10 = .ok (.ifCond .gt 7, 3) := by decide +kernel
theorem dX7_in_13 : decode cX7_in 13 = .ok (.iconst 1, 1) := by decide +kernel
theorem dX7_in_14 : decode cX7_in 14 = .ok (.goto 4, 3) := by decide +kernel
theorem dX7_in_17 : decode cX7_in 17 = .ok (.iconst 0, 1) := by decide +kernel
theorem dX7_in_18 : decode cX7_in 18 = .ok (.ireturn, 1) := by decide +kernel
theorem dX7_isTwo_0 : decode cX7_isTwo 0 = .ok (.iload_n 0, 1) := by decide +kernel
theorem dX7_isTwo_1 : decode cX7_isTwo 1 = .ok (.i2l, 1) := by decide +kernel
theorem dX7_isTwo_2 : decode cX7_isTwo 2 = .ok (.lconst 0, 1) := by decide +kernel
theorem dX7_isTwo_3 : decode cX7_isTwo 3 = .ok (.lconst 1, 1) := by decide +kernel
theorem dX7_isTwo_4 : decode cX7_isTwo 4 = .ok (.invokestatic 73, 3) := by decide +kernel
theorem dX7_isTwo_7 : decode cX7_isTwo 7 = .ok (.ireturn, 1) := by decide +kernel
theorem dX7_has_0 : decode cX7_has 0 = .ok (.iload_n 0, 1) := by decide +kernel
theorem dX7_has_1 : decode cX7_has 1 = .ok (.iload_n 1, 1) := by decide +kernel
theorem dX7_has_2 : decode cX7_has 2 = .ok (.ishr, 1) := by decide +kernel
theorem dX7_has_3 : decode cX7_has 3 = .ok (.iconst 1, 1) := by decide +kernel
theorem dX7_has_4 : decode cX7_has 4 = .ok (.iand, 1) := by decide +kernel
theorem dX7_has_5 : decode cX7_has 5 = .ok (.iconst 1, 1) := by decide +kernel
theorem dX7_has_6 : decode cX7_has 6 = .ok (.if_icmp .ne 7, 3) := by decide +kernel
theorem dX7_has_9 : decode cX7_has 9 = .ok (.iconst 1, 1) := by decide +kernel
theorem dX7_has_10 : decode cX7_has 10 = .ok (.goto 4, 3) := by decide +kernel
theorem dX7_has_13 : decode cX7_has 13 = .ok (.iconst 0, 1) := by decide +kernel
theorem dX7_has_14 : decode cX7_has 14 = .ok (.ireturn, 1) := by decide +kernel
theorem dX7_bits_0 : decode cX7_bits 0 = .ok (.iconst 0, 1) := by decide +kernel
theorem dX7_bits_1 : decode cX7_bits 1 = .ok (.istore_n 1, 1) := by decide +kernel
theorem dX7_bits_2 : decode cX7_bits 2 = .ok (.iload_n 0, 1) := by decide +kernel
theorem dX7_bits_3 : decode cX7_bits 3 = .ok (.istore_n 2, 1) := by decide +kernel
theorem dX7_bits_4 : decode cX7_bits 4 = .ok (.iload_n 2, 1) := by decide +kernel
theorem dX7_bits_5 : decode cX7_bits 5 = .ok (.ifCond .eq 15, 3) := by decide +kernel
theorem dX7_bits_8 : decode cX7_bits 8 = .ok (.iinc 1 1, 3) := by decide +kernel
theorem dX7_bits_11 : decode cX7_bits 11 = .ok (.iload_n 2, 1) := by decide +kernel
theorem dX7_bits_12 : decode cX7_bits 12 = .ok (.iload_n 2, 1) := by decide +kernel
theorem dX7_bits_13 : decode cX7_bits 13 = .ok (.iconst 1, 1) := by decide +kernel
theorem dX7_bits_14 : decode cX7_bits 14 = .ok (.isub, 1) := by decide +kernel
theorem dX7_bits_15 : decode cX7_bits 15 = .ok (.iand, 1) := by decide +kernel
theorem dX7_bits_16 : decode cX7_bits 16 = .ok (.istore_n 2, 1) := by decide +kernel
theorem dX7_bits_17 : decode cX7_bits 17 = .ok (.goto (-13), 3) := by decide +kernel
theorem dX7_bits_20 : decode cX7_bits 20 = .ok (.iload_n 1, 1) := by decide +kernel
theorem dX7_bits_21 : decode cX7_bits 21 = .ok (.ireturn, 1) := by decide +kernel
theorem dX7_write_0 : decode cX7_write 0 = .ok (.iload_n 1, 1) := by decide +kernel
theorem dX7_write_1 : decode cX7_write 1 = .ok (.i2l, 1) := by decide +kernel
theorem dX7_write_2 : decode cX7_write 2 = .ok (.ldc2_w 77, 3) := by decide +kernel
theorem dX7_write_5 : decode cX7_write 5 = .ok (.ldc2_w 79, 3) := by decide +kernel
theorem dX7_write_8 : decode cX7_write 8 = .ok (.invokestatic 73, 3) := by decide +kernel
theorem dX7_write_11 : decode cX7_write 11 = .ok (.ifCond .ne 5, 3) := by decide +kernel
theorem dX7_write_14 : decode cX7_write 14 = .ok (.iconst (-1), 1) := by decide +kernel
theorem dX7_write_15 : decode cX7_write 15 = .ok (.ireturn, 1) := by decide +kernel
theorem dX7_write_16 : decode cX7_write 16 = .ok (.aload_n 0, 1) := by decide +kernel
theorem dX7_write_17 : decode cX7_write 17 = .ok (.getfield 81, 3) := by decide +kernel
theorem dX7_write_20 : decode cX7_write 20 = .ok (.sipush 200, 3) := by decide +kernel
theorem dX7_write_23 : decode cX7_write 23 = .ok (.if_icmp .ne 6, 3) := by decide +kernel
theorem dX7_write_26 : decode cX7_write 26 = .ok (.bipush (-3), 2) := by decide +kernel
theorem dX7_write_28 : decode cX7_write 28 = .ok (.ireturn, 1) := by decide +kernel
theorem dX7_write_29 : decode cX7_write 29 = .ok (.aload_n 0, 1) := by decide +kernel
theorem dX7_write_30 : decode cX7_write 30 = .ok (.getfield 28, 3) := by decide +kernel
theorem dX7_write_33 : decode cX7_write 33 = .ok (.aload_n 0, 1) := by decide +kernel
theorem dX7_write_34 : decode cX7_write 34 = .ok (.getfield 81, 3) := by decide +kernel
theorem dX7_write_37 : decode cX7_write 37 = .ok (.iload_n 1, 1) := by decide +kernel
theorem dX7_write_38 : decode cX7_write 38 = .ok (.iastore, 1) := by decide +kernel
theorem dX7_write_39 : decode cX7_write 39 = .ok (.aload_n 0, 1) := by decide +kernel
theorem dX7_write_40 : decode cX7_write 40 = .ok (.dup, 1) := by decide +kernel
theorem dX7_write_41 : decode cX7_write 41 = .ok (.getfield 81, 3) := by decide +kernel
theorem dX7_write_44 : decode cX7_write 44 = .ok (.iconst 1, 1) := by decide +kernel
theorem dX7_write_45 : decode cX7_write 45 = .ok (.iadd, 1) := by decide +kernel
theorem dX7_write_46 : decode cX7_write 46 = .ok (.putfield 81, 3) := by decide +kernel
theorem dX7_write_49 : decode cX7_write 49 = .ok (.aload_n 0, 1) := by decide +kernel
theorem dX7_write_50 : decode cX7_write 50 = .ok (.getfield 81, 3) := by decide +kernel
theorem dX7_write_53 : decode cX7_write 53 = .ok (.ireturn, 1) := by decide +kernel
theorem dX7_wipe_0 : decode cX7_wipe 0 = .ok (.aload_n 0, 1) := by decide +kernel
theorem dX7_wipe_1 : decode cX7_wipe 1 = .ok (.getfield 81, 3) := by decide +kernel
theorem dX7_wipe_4 : decode cX7_wipe 4 = .ok (.istore_n 1, 1) := by decide +kernel
theorem dX7_wipe_5 : decode cX7_wipe 5 = .ok (.aload_n 0, 1) := by decide +kernel
theorem dX7_wipe_6 : decode cX7_wipe 6 = .ok (.iconst 0, 1) := by decide +kernel
theorem dX7_wipe_7 : decode cX7_wipe 7 = .ok (.putfield 81, 3) := by decide +kernel
theorem dX7_wipe_10 : decode cX7_wipe 10 = .ok (.iload_n 1, 1) := by decide +kernel
theorem dX7_wipe_11 : decode cX7_wipe 11 = .ok (.ireturn, 1) := by decide +kernel
theorem dX7_clean_0 : decode cX7_clean 0 = .ok (.iconst 0, 1) := by decide +kernel
theorem dX7_clean_1 : decode cX7_clean 1 = .ok (.istore_n 1, 1) := by decide +kernel
theorem dX7_clean_2 : decode cX7_clean 2 = .ok (.iload_n 1, 1) := by decide +kernel
theorem dX7_clean_3 : decode cX7_clean 3 = .ok (.bipush 19, 2) := by decide +kernel
theorem dX7_clean_5 : decode cX7_clean 5 = .ok (.if_icmp .ge 16, 3) := by decide +kernel
theorem dX7_clean_8 : decode cX7_clean 8 = .ok (.aload_n 0, 1) := by decide +kernel
theorem dX7_clean_9 : decode cX7_clean 9 = .ok (.getfield 13, 3) := by decide +kernel
theorem dX7_clean_12 : decode cX7_clean 12 = .ok (.iload_n 1, 1) := by decide +kernel
theorem dX7_clean_13 : decode cX7_clean 13 = .ok (.iconst 0, 1) := by decide +kernel
theorem dX7_clean_14 : decode cX7_clean 14 = .ok (.iastore, 1) := by decide +kernel
theorem dX7_clean_15 : decode cX7_clean 15 = .ok (.iinc 1 1, 3) := by decide +kernel
theorem dX7_clean_18 : decode cX7_clean 18 = .ok (.goto (-16), 3) := by decide +kernel
theorem dX7_clean_21 : decode cX7_clean 21 = .ok (.aload_n 0, 1) := by decide +kernel
theorem dX7_clean_22 : decode cX7_clean 22 = .ok (.getfield 13, 3) := by decide +kernel
theorem dX7_clean_25 : decode cX7_clean 25 = .ok (.iconst 1, 1) := by decide +kernel
theorem dX7_clean_26 : decode cX7_clean 26 = .ok (.bipush 16, 2) := by decide +kernel
theorem dX7_clean_28 : decode cX7_clean 28 = .ok (.iastore, 1) := by decide +kernel
theorem dX7_clean_29 : decode cX7_clean 29 = .ok (.aload_n 0, 1) := by decide +kernel
theorem dX7_clean_30 : decode cX7_clean 30 = .ok (.getfield 13, 3) := by decide +kernel
theorem dX7_clean_33 : decode cX7_clean 33 = .ok (.iconst 2, 1) := by decide +kernel
theorem dX7_clean_34 : decode cX7_clean 34 = .ok (.iconst 1, 1) := by decide +kernel
theorem dX7_clean_35 : decode cX7_clean 35 = .ok (.iastore, 1) := by decide +kernel
theorem dX7_clean_36 : decode cX7_clean 36 = .ok (.aload_n 0, 1) := by decide +kernel
theorem dX7_clean_37 : decode cX7_clean 37 = .ok (.iconst 0, 1) := by decide +kernel
theorem dX7_clean_38 : decode cX7_clean 38 = .ok (.putfield 85, 3) := by decide +kernel
theorem dX7_clean_41 : decode cX7_clean 41 = .ok (.aload_n 0, 1) := by decide +kernel
theorem dX7_clean_42 : decode cX7_clean 42 = .ok (.iconst 0, 1) := by decide +kernel
theorem dX7_clean_43 : decode cX7_clean 43 = .ok (.putfield 88, 3) := by decide +kernel
theorem dX7_clean_46 : decode cX7_clean 46 = .ok (.return_, 1) := by decide +kernel
theorem dX7_comes_0 : decode cX7_comes 0 = .ok (.aload_n 0, 1) := by decide +kernel
theorem dX7_comes_1 : decode cX7_comes 1 = .ok (.getfield 13, 3) := by decide +kernel
theorem dX7_comes_4 : decode cX7_comes 4 = .ok (.iconst 0, 1) := by decide +kernel
theorem dX7_comes_5 : decode cX7_comes 5 = .ok (.iaload, 1) := by decide +kernel
theorem dX7_comes_6 : decode cX7_comes 6 = .ok (.istore_n 3, 1) := by decide +kernel
theorem dX7_comes_7 : decode cX7_comes 7 = .ok (.aload_n 0, 1) := by decide +kernel
theorem dX7_comes_8 : decode cX7_comes 8 = .ok (.getfield 13, 3) := by decide +kernel
theorem dX7_comes_11 : decode cX7_comes 11 = .ok (.iconst 3, 1) := by decide +kernel
theorem dX7_comes_12 : decode cX7_comes 12 = .ok (.iload_n 3, 1) := by decide +kernel
theorem dX7_comes_13 : decode cX7_comes 13 = .ok (.iadd, 1) := by decide +kernel
theorem dX7_comes_14 : decode cX7_comes 14 = .ok (.iload_n 1, 1) := by decide +kernel
theorem dX7_comes_15 : decode cX7_comes 15 = .ok (.iastore, 1) := by decide +kernel
theorem dX7_comes_16 : decode cX7_comes 16 = .ok (.aload_n 0, 1) := by decide +kernel
theorem dX7_comes_17 : decode cX7_comes 17 = .ok (.getfield 13, 3) := by decide +kernel
theorem dX7_comes_20 : decode cX7_comes 20 = .ok (.bipush 11, 2) := by decide +kernel
theorem dX7_comes_22 : decode cX7_comes 22 = .ok (.iload_n 3, 1) := by decide +kernel
theorem dX7_comes_23 : decode cX7_comes 23 = .ok (.iadd, 1) := by decide +kernel
theorem dX7_comes_24 : decode cX7_comes 24 = .ok (.iload_n 2, 1) := by decide +kernel
theorem dX7_comes_25 : decode cX7_comes 25 = .ok (.iastore, 1) := by decide +kernel
theorem dX7_comes_26 : decode cX7_comes 26 = .ok (.aload_n 0, 1) := by decide +kernel
theorem dX7_comes_27 : decode cX7_comes 27 = .ok (.getfield 13, 3) := by decide +kernel
theorem dX7_comes_30 : decode cX7_comes 30 = .ok (.iconst 0, 1) := by decide +kernel
theorem dX7_comes_31 : decode cX7_comes 31 = .ok (.dup2, 1) := by decide +kernel
theorem dX7_comes_32 : decode cX7_comes 32 = .ok (.iaload, 1) := by decide +kernel
theorem dX7_comes_33 : decode cX7_comes 33 = .ok (.iconst 1, 1) := by decide +kernel
theorem dX7_comes_34 : decode cX7_comes 34 = .ok (.iadd, 1) := by decide +kernel
theorem dX7_comes_35 : decode cX7_comes 35 = .ok (.iastore, 1) := by decide +kernel
theorem dX7_comes_36 : decode cX7_comes 36 = .ok (.return_, 1) := by decide +kernel
theorem dX7_put_0 : decode cX7_put 0 = .ok (.aload_n 0, 1) := by decide +kernel
theorem dX7_put_1 : decode cX7_put 1 = .ok (.getfield 85, 3) := by decide +kernel
theorem dX7_put_4 : decode cX7_put 4 = .ok (.bipush 32, 2) := by decide +kernel
theorem dX7_put_6 : decode cX7_put 6 = .ok (.if_icmp .ne 5, 3) := by decide +kernel
theorem dX7_put_9 : decode cX7_put 9 = .ok (.iconst 0, 1) := by decide +kernel
theorem dX7_put_10 : decode cX7_put 10 = .ok (.ireturn, 1) := by decide +kernel
theorem dX7_put_11 : decode cX7_put 11 = .ok (.aload_n 0, 1) := by decide +kernel
theorem dX7_put_12 : decode cX7_put 12 = .ok (.getfield 16, 3) := by decide +kernel
theorem dX7_put_15 : decode cX7_put 15 = .ok (.aload_n 0, 1) := by decide +kernel
theorem dX7_put_16 : decode cX7_put 16 = .ok (.getfield 85, 3) := by decide +kernel
theorem dX7_put_19 : decode cX7_put 19 = .ok (.iload_n 1, 1) := by decide +kernel
theorem dX7_put_20 : decode cX7_put 20 = .ok (.iastore, 1) := by decide +kernel
theorem dX7_put_21 : decode cX7_put 21 = .ok (.aload_n 0, 1) := by decide +kernel
theorem dX7_put_22 : decode cX7_put 22 = .ok (.dup, 1) := by decide +kernel
theorem dX7_put_23 : decode cX7_put 23 = .ok (.getfield 85, 3) := by decide +kernel
theorem dX7_put_26 : decode cX7_put 26 = .ok (.iconst 1, 1) := by decide +kernel
theorem dX7_put_27 : decode cX7_put 27 = .ok (.iadd, 1) := by decide +kernel
theorem dX7_put_28 : decode cX7_put 28 = .ok (.putfield 85, 3) := by decide +kernel
theorem dX7_put_31 : decode cX7_put 31 = .ok (.iconst 1, 1) := by decide +kernel
theorem dX7_put_32 : decode cX7_put 32 = .ok (.ireturn, 1) := by decide +kernel
theorem dX7_here_0 : decode cX7_here 0 = .ok (.aload_n 0, 1) := by decide +kernel
theorem dX7_here_1 : decode cX7_here 1 = .ok (.getfield 92, 3) := by decide +kernel
theorem dX7_here_4 : decode cX7_here 4 = .ok (.aload_n 0, 1) := by decide +kernel
theorem dX7_here_5 : decode cX7_here 5 = .ok (.getfield 81, 3) := by decide +kernel
theorem dX7_here_8 : decode cX7_here 8 = .ok (.if_icmp .ge 15, 3) := by decide +kernel
theorem dX7_here_11 : decode cX7_here 11 = .ok (.aload_n 0, 1) := by decide +kernel
theorem dX7_here_12 : decode cX7_here 12 = .ok (.getfield 28, 3) := by decide +kernel
theorem dX7_here_15 : decode cX7_here 15 = .ok (.aload_n 0, 1) := by decide +kernel
theorem dX7_here_16 : decode cX7_here 16 = .ok (.getfield 92, 3) := by decide +kernel
theorem dX7_here_19 : decode cX7_here 19 = .ok (.iaload, 1) := by decide +kernel
theorem dX7_here_20 : decode cX7_here 20 = .ok (.goto 4, 3) := by decide +kernel
theorem dX7_here_23 : decode cX7_here 23 = .ok (.iconst (-1), 1) := by decide +kernel
theorem dX7_here_24 : decode cX7_here 24 = .ok (.ireturn, 1) := by decide +kernel
theorem dX7_takes_0 : decode cX7_takes 0 = .ok (.iconst 0, 1) := by decide +kernel
theorem dX7_takes_1 : decode cX7_takes 1 = .ok (.istore_n 2, 1) := by decide +kernel
theorem dX7_takes_2 : decode cX7_takes 2 = .ok (.iload_n 2, 1) := by decide +kernel
theorem dX7_takes_3 : decode cX7_takes 3 = .ok (.iload_n 1, 1) := by decide +kernel
theorem dX7_takes_4 : decode cX7_takes 4 = .ok (.if_icmp .ge 123, 3) := by decide +kernel
theorem dX7_takes_7 : decode cX7_takes 7 = .ok (.iconst 0, 1) := by decide +kernel
theorem dX7_takes_8 : decode cX7_takes 8 = .ok (.istore_n 3, 1) := by decide +kernel
theorem dX7_takes_9 : decode cX7_takes 9 = .ok (.iconst 0, 1) := by decide +kernel
theorem dX7_takes_10 : decode cX7_takes 10 = .ok (.istore 4, 2) := by decide +kernel
theorem dX7_takes_12 : decode cX7_takes 12 = .ok (.aload_n 0, 1) := by decide +kernel
theorem dX7_takes_13 : decode cX7_takes 13 = .ok (.invokevirtual 95, 3) := by decide +kernel
theorem dX7_takes_16 : decode cX7_takes 16 = .ok (.i2l, 1) := by decide +kernel
theorem dX7_takes_17 : decode cX7_takes 17 = .ok (.ldc2_w 99, 3) := by decide +kernel
theorem dX7_takes_20 : decode cX7_takes 20 = .ok (.ldc2_w 101, 3) := by decide +kernel
theorem dX7_takes_23 : decode cX7_takes 23 = .ok (.invokestatic 73, 3) := by decide +kernel
theorem dX7_takes_26 : decode cX7_takes 26 = .ok (.ifCond .eq 42, 3) := by decide +kernel
theorem dX7_takes_29 : decode cX7_takes 29 = .ok (.iload 4, 2) := by decide +kernel
theorem dX7_takes_31 : decode cX7_takes 31 = .ok (.iconst 2, 1) := by decide +kernel
theorem dX7_takes_32 : decode cX7_takes 32 = .ok (.if_icmp .ge 18, 3) := by decide +kernel
theorem dX7_takes_35 : decode cX7_takes 35 = .ok (.bipush 10, 2) := by decide +kernel
theorem dX7_takes_37 : decode cX7_takes 37 = .ok (.iload_n 3, 1) := by decide +kernel
theorem dX7_takes_38 : decode cX7_takes 38 = .ok (.imul, 1) := by decide +kernel
theorem dX7_takes_39 : decode cX7_takes 39 = .ok (.aload_n 0, 1) := by decide +kernel
theorem dX7_takes_40 : decode cX7_takes 40 = .ok (.invokevirtual 95, 3) := by decide +kernel
theorem dX7_takes_43 : decode cX7_takes 43 = .ok (.iadd, 1) := by decide +kernel
theorem dX7_takes_44 : decode cX7_takes 44 = .ok (.bipush 48, 2) := by decide +kernel
theorem dX7_takes_46 : decode cX7_takes 46 = .ok (.isub, 1) := by decide +kernel
theorem dX7_takes_47 : decode cX7_takes 47 = .ok (.goto 4, 3) := by decide +kernel
theorem dX7_takes_50 : decode cX7_takes 50 = .ok (.iload_n 3, 1) := by decide +kernel
theorem dX7_takes_51 : decode cX7_takes 51 = .ok (.istore_n 3, 1) := by decide +kernel
theorem dX7_takes_52 : decode cX7_takes 52 = .ok (.iinc 4 1, 3) := by decide +kernel
theorem dX7_takes_55 : decode cX7_takes 55 = .ok (.aload_n 0, 1) := by decide +kernel
theorem dX7_takes_56 : decode cX7_takes 56 = .ok (.dup, 1) := by decide +kernel
theorem dX7_takes_57 : decode cX7_takes 57 = .ok (.getfield 92, 3) := by decide +kernel
theorem dX7_takes_60 : decode cX7_takes 60 = .ok (.iconst 1, 1) := by decide +kernel
theorem dX7_takes_61 : decode cX7_takes 61 = .ok (.iadd, 1) := by decide +kernel
theorem dX7_takes_62 : decode cX7_takes 62 = .ok (.putfield 92, 3) := by decide +kernel
theorem dX7_takes_65 : decode cX7_takes 65 = .ok (.goto (-53), 3) := by decide +kernel
theorem dX7_takes_68 : decode cX7_takes 68 = .ok (.iload 4, 2) := by decide +kernel
theorem dX7_takes_70 : decode cX7_takes 70 = .ok (.i2l, 1) := by decide +kernel
theorem dX7_takes_71 : decode cX7_takes 71 = .ok (.lconst 1, 1) := by decide +kernel
theorem dX7_takes_72 : decode cX7_takes 72 = .ok (.ldc2_w 103, 3) := by decide +kernel
theorem dX7_takes_75 : decode cX7_takes 75 = .ok (.invokestatic 73, 3) := by decide +kernel
theorem dX7_takes_78 : decode cX7_takes 78 = .ok (.ifCond .eq 24, 3) := by decide +kernel
theorem dX7_takes_81 : decode cX7_takes 81 = .ok (.aload_n 0, 1) := by decide +kernel
theorem dX7_takes_82 : decode cX7_takes 82 = .ok (.invokevirtual 95, 3) := by decide +kernel
theorem dX7_takes_85 : decode cX7_takes 85 = .ok (.iload_n 2, 1) := by decide +kernel
theorem dX7_takes_86 : decode cX7_takes 86 = .ok (.iload_n 1, 1) := by decide +kernel
theorem dX7_takes_87 : decode cX7_takes 87 = .ok (.iconst 1, 1) := by decide +kernel
theorem dX7_takes_88 : decode cX7_takes 88 = .ok (.isub, 1) := by decide +kernel
theorem dX7_takes_89 : decode cX7_takes 89 = .ok (.if_icmp .ge 8, 3) := by decide +kernel
theorem dX7_takes_92 : decode cX7_takes 92 = .ok (.bipush 44, 2) := by decide +kernel
theorem dX7_takes_94 : decode cX7_takes 94 = .ok (.goto 5, 3) := by decide +kernel
theorem dX7_takes_97 : decode cX7_takes 97 = .ok (.bipush 59, 2) := by decide +kernel
theorem dX7_takes_99 : decode cX7_takes 99 = .ok (.if_icmp .eq 5, 3) := by decide +kernel
theorem dX7_takes_102 : decode cX7_takes 102 = .ok (.iconst 0, 1) := by decide +kernel
theorem dX7_takes_103 : decode cX7_takes 103 = .ok (.ireturn, 1) := by decide +kernel
theorem dX7_takes_104 : decode cX7_takes 104 = .ok (.aload_n 0, 1) := by decide +kernel
theorem dX7_takes_105 : decode cX7_takes 105 = .ok (.getfield 37, 3) := by decide +kernel
theorem dX7_takes_108 : decode cX7_takes 108 = .ok (.iload_n 2, 1) := by decide +kernel
theorem dX7_takes_109 : decode cX7_takes 109 = .ok (.iload_n 3, 1) := by decide +kernel
theorem dX7_takes_110 : decode cX7_takes 110 = .ok (.iastore, 1) := by decide +kernel
theorem dX7_takes_111 : decode cX7_takes 111 = .ok (.aload_n 0, 1) := by decide +kernel
theorem dX7_takes_112 : decode cX7_takes 112 = .ok (.dup, 1) := by decide +kernel
theorem dX7_takes_113 : decode cX7_takes 113 = .ok (.getfield 92, 3) := by decide +kernel
theorem dX7_takes_116 : decode cX7_takes 116 = .ok (.iconst 1, 1) := by decide +kernel
theorem dX7_takes_117 : decode cX7_takes 117 = .ok (.iadd, 1) := by decide +kernel
theorem dX7_takes_118 : decode cX7_takes 118 = .ok (.putfield 92, 3) := by decide +kernel
theorem dX7_takes_121 : decode cX7_takes 121 = .ok (.iinc 2 1, 3) := by decide +kernel
theorem dX7_takes_124 : decode cX7_takes 124 = .ok (.goto (-122), 3) := by decide +kernel
theorem dX7_takes_127 : decode cX7_takes 127 = .ok (.iconst 1, 1) := by decide +kernel
theorem dX7_takes_128 : decode cX7_takes 128 = .ok (.ireturn, 1) := by decide +kernel
theorem dX7_takesBell_0 : decode cX7_takesBell 0 = .ok (.aload_n 0, 1) := by decide +kernel
theorem dX7_takesBell_1 : decode cX7_takesBell 1 = .ok (.iconst 2, 1) := by decide +kernel
theorem dX7_takesBell_2 : decode cX7_takesBell 2 = .ok (.invokevirtual 105, 3) := by decide +kernel
theorem dX7_takesBell_5 : decode cX7_takesBell 5 = .ok (.ifCond .eq 42, 3) := by decide +kernel
theorem dX7_takesBell_8 : decode cX7_takesBell 8 = .ok (.aload_n 0, 1) := by decide +kernel
theorem dX7_takesBell_9 : decode cX7_takesBell 9 = .ok (.getfield 37, 3) := by decide +kernel
theorem dX7_takesBell_12 : decode cX7_takesBell 12 = .ok (.iconst 0, 1) := by decide +kernel
theorem dX7_takesBell_13 : decode cX7_takesBell 13 = .ok (.iaload, 1) := by decide +kernel
theorem dX7_takesBell_14 : decode cX7_takesBell 14 = .ok (.bipush 40, 2) := by decide +kernel
theorem dX7_takesBell_16 : decode cX7_takesBell 16 = .ok (.if_icmp .gt 31, 3) := by decide +kernel
theorem dX7_takesBell_19 : decode cX7_takesBell 19 = .ok (.aload_n 0, 1) := by decide +kernel
theorem dX7_takesBell_20 : decode cX7_takesBell 20 = .ok (.getfield 37, 3) := by decide +kernel
theorem dX7_takesBell_23 : decode cX7_takesBell 23 = .ok (.iconst 1, 1) := by decide +kernel
theorem dX7_takesBell_24 : decode cX7_takesBell 24 = .ok (.iaload, 1) := by decide +kernel
theorem dX7_takesBell_25 : decode cX7_takesBell 25 = .ok (.i2l, 1) := by decide +kernel
theorem dX7_takesBell_26 : decode cX7_takesBell 26 = .ok (.lconst 1, 1) := by decide +kernel
theorem dX7_takesBell_27 : decode cX7_takesBell 27 = .ok (.ldc2_w 103, 3) := by decide +kernel
theorem dX7_takesBell_30 : decode cX7_takesBell 30 = .ok (.invokestatic 73, 3) := by decide +kernel
theorem dX7_takesBell_33 : decode cX7_takesBell 33 = .ok (.ifCond .eq 14, 3) := by decide +kernel
theorem dX7_takesBell_36 : decode cX7_takesBell 36 = .ok (.aload_n 0, 1) := by decide +kernel
theorem dX7_takesBell_37 : decode cX7_takesBell 37 = .ok (.getfield 13, 3) := by decide +kernel
theorem dX7_takesBell_40 : decode cX7_takesBell 40 = .ok (.iconst 0, 1) := by decide +kernel
theorem dX7_takesBell_41 : decode cX7_takesBell 41 = .ok (.iaload, 1) := by decide +kernel
theorem dX7_takesBell_42 : decode cX7_takesBell 42 = .ok (.bipush 8, 2) := by decide +kernel
theorem dX7_takesBell_44 : decode cX7_takesBell 44 = .ok (.if_icmp .ne 5, 3) := by decide +kernel
theorem dX7_takesBell_47 : decode cX7_takesBell 47 = .ok (.iconst 0, 1) := by decide +kernel
theorem dX7_takesBell_48 : decode cX7_takesBell 48 = .ok (.ireturn, 1) := by decide +kernel
theorem dX7_takesBell_49 : decode cX7_takesBell 49 = .ok (.aload_n 0, 1) := by decide +kernel
theorem dX7_takesBell_50 : decode cX7_takesBell 50 = .ok (.aload_n 0, 1) := by decide +kernel
theorem dX7_takesBell_51 : decode cX7_takesBell 51 = .ok (.getfield 37, 3) := by decide +kernel
theorem dX7_takesBell_54 : decode cX7_takesBell 54 = .ok (.iconst 0, 1) := by decide +kernel
theorem dX7_takesBell_55 : decode cX7_takesBell 55 = .ok (.iaload, 1) := by decide +kernel
theorem dX7_takesBell_56 : decode cX7_takesBell 56 = .ok (.aload_n 0, 1) := by decide +kernel
theorem dX7_takesBell_57 : decode cX7_takesBell 57 = .ok (.getfield 37, 3) := by decide +kernel
theorem dX7_takesBell_60 : decode cX7_takesBell 60 = .ok (.iconst 1, 1) := by decide +kernel
theorem dX7_takesBell_61 : decode cX7_takesBell 61 = .ok (.iaload, 1) := by decide +kernel
theorem dX7_takesBell_62 : decode cX7_takesBell 62 = .ok (.invokevirtual 62, 3) := by decide +kernel
theorem dX7_takesBell_65 : decode cX7_takesBell 65 = .ok (.iconst 1, 1) := by decide +kernel
theorem dX7_takesBell_66 : decode cX7_takesBell 66 = .ok (.ireturn, 1) := by decide +kernel
theorem dX7_takesOne_0 : decode cX7_takesOne 0 = .ok (.aload_n 0, 1) := by decide +kernel
theorem dX7_takesOne_1 : decode cX7_takesOne 1 = .ok (.iconst 1, 1) := by decide +kernel
theorem dX7_takesOne_2 : decode cX7_takesOne 2 = .ok (.invokevirtual 105, 3) := by decide +kernel
theorem dX7_takesOne_5 : decode cX7_takesOne 5 = .ok (.ifCond .eq 20, 3) := by decide +kernel
theorem dX7_takesOne_8 : decode cX7_takesOne 8 = .ok (.aload_n 0, 1) := by decide +kernel
theorem dX7_takesOne_9 : decode cX7_takesOne 9 = .ok (.getfield 37, 3) := by decide +kernel
theorem dX7_takesOne_12 : decode cX7_takesOne 12 = .ok (.iconst 0, 1) := by decide +kernel
theorem dX7_takesOne_13 : decode cX7_takesOne 13 = .ok (.iaload, 1) := by decide +kernel
theorem dX7_takesOne_14 : decode cX7_takesOne 14 = .ok (.i2l, 1) := by decide +kernel
theorem dX7_takesOne_15 : decode cX7_takesOne 15 = .ok (.iload_n 2, 1) := by decide +kernel
theorem dX7_takesOne_16 : decode cX7_takesOne 16 = .ok (.i2l, 1) := by decide +kernel
theorem dX7_takesOne_17 : decode cX7_takesOne 17 = .ok (.iload_n 3, 1) := by decide +kernel
theorem dX7_takesOne_18 : decode cX7_takesOne 18 = .ok (.i2l, 1) := by decide +kernel
theorem dX7_takesOne_19 : decode cX7_takesOne 19 = .ok (.invokestatic 73, 3) := by decide +kernel
theorem dX7_takesOne_22 : decode cX7_takesOne 22 = .ok (.ifCond .ne 5, 3) := by decide +kernel
theorem dX7_takesOne_25 : decode cX7_takesOne 25 = .ok (.iconst 0, 1) := by decide +kernel
theorem dX7_takesOne_26 : decode cX7_takesOne 26 = .ok (.ireturn, 1) := by decide +kernel
theorem dX7_takesOne_27 : decode cX7_takesOne 27 = .ok (.aload_n 0, 1) := by decide +kernel
theorem dX7_takesOne_28 : decode cX7_takesOne 28 = .ok (.getfield 13, 3) := by decide +kernel
theorem dX7_takesOne_31 : decode cX7_takesOne 31 = .ok (.iload_n 1, 1) := by decide +kernel
theorem dX7_takesOne_32 : decode cX7_takesOne 32 = .ok (.aload_n 0, 1) := by decide +kernel
theorem dX7_takesOne_33 : decode cX7_takesOne 33 = .ok (.getfield 37, 3) := by decide +kernel
theorem dX7_takesOne_36 : decode cX7_takesOne 36 = .ok (.iconst 0, 1) := by decide +kernel
theorem dX7_takesOne_37 : decode cX7_takesOne 37 = .ok (.iaload, 1) := by decide +kernel
theorem dX7_takesOne_38 : decode cX7_takesOne 38 = .ok (.iastore, 1) := by decide +kernel
theorem dX7_takesOne_39 : decode cX7_takesOne 39 = .ok (.iconst 1, 1) := by decide +kernel
theorem dX7_takesOne_40 : decode cX7_takesOne 40 = .ok (.ireturn, 1) := by decide +kernel
theorem dX7_isBellHere_0 : decode cX7_isBellHere 0 = .ok (.aload_n 0, 1) := by decide +kernel
theorem dX7_isBellHere_1 : decode cX7_isBellHere 1 = .ok (.invokevirtual 95, 3) := by decide +kernel
theorem dX7_isBellHere_4 : decode cX7_isBellHere 4 = .ok (.i2l, 1) := by decide +kernel
theorem dX7_isBellHere_5 : decode cX7_isBellHere 5 = .ok (.ldc2_w 108, 3) := by decide +kernel
theorem dX7_isBellHere_8 : decode cX7_isBellHere 8 = .ok (.bipush 96, 2) := by decide +kernel
theorem dX7_isBellHere_10 : decode cX7_isBellHere 10 = .ok (.aload_n 0, 1) := by decide +kernel
theorem dX7_isBellHere_11 : decode cX7_isBellHere 11 = .ok (.getfield 13, 3) := by decide +kernel
theorem dX7_isBellHere_14 : decode cX7_isBellHere 14 = .ok (.iconst 0, 1) := by decide +kernel
theorem dX7_isBellHere_15 : decode cX7_isBellHere 15 = .ok (.iaload, 1) := by decide +kernel
theorem dX7_isBellHere_16 : decode cX7_isBellHere 16 = .ok (.iadd, 1) := by decide +kernel
theorem dX7_isBellHere_17 : decode cX7_isBellHere 17 = .ok (.i2l, 1) := by decide +kernel
theorem dX7_isBellHere_18 : decode cX7_isBellHere 18 = .ok (.invokestatic 73, 3) := by decide +kernel
theorem dX7_isBellHere_21 : decode cX7_isBellHere 21 = .ok (.ireturn, 1) := by decide +kernel
theorem dX7_chord_0 : decode cX7_chord 0 = .ok (.iconst 0, 1) := by decide +kernel
theorem dX7_chord_1 : decode cX7_chord 1 = .ok (.istore_n 1, 1) := by decide +kernel
theorem dX7_chord_2 : decode cX7_chord 2 = .ok (.iconst (-1), 1) := by decide +kernel
theorem dX7_chord_3 : decode cX7_chord 3 = .ok (.istore_n 2, 1) := by decide +kernel
theorem dX7_chord_4 : decode cX7_chord 4 = .ok (.aload_n 0, 1) := by decide +kernel
theorem dX7_chord_5 : decode cX7_chord 5 = .ok (.invokevirtual 110, 3) := by decide +kernel
theorem dX7_chord_8 : decode cX7_chord 8 = .ok (.ifCond .eq 39, 3) := by decide +kernel
theorem dX7_chord_11 : decode cX7_chord 11 = .ok (.aload_n 0, 1) := by decide +kernel
theorem dX7_chord_12 : decode cX7_chord 12 = .ok (.invokevirtual 95, 3) := by decide +kernel
theorem dX7_chord_15 : decode cX7_chord 15 = .ok (.bipush 97, 2) := by decide +kernel
theorem dX7_chord_17 : decode cX7_chord 17 = .ok (.isub, 1) := by decide +kernel
theorem dX7_chord_18 : decode cX7_chord 18 = .ok (.istore_n 3, 1) := by decide +kernel
theorem dX7_chord_19 : decode cX7_chord 19 = .ok (.iload_n 3, 1) := by decide +kernel
theorem dX7_chord_20 : decode cX7_chord 20 = .ok (.iload_n 2, 1) := by decide +kernel
theorem dX7_chord_21 : decode cX7_chord 21 = .ok (.if_icmp .gt 5, 3) := by decide +kernel
theorem dX7_chord_24 : decode cX7_chord 24 = .ok (.iconst (-1), 1) := by decide +kernel
theorem dX7_chord_25 : decode cX7_chord 25 = .ok (.ireturn, 1) := by decide +kernel
theorem dX7_chord_26 : decode cX7_chord 26 = .ok (.iload_n 3, 1) := by decide +kernel
theorem dX7_chord_27 : decode cX7_chord 27 = .ok (.istore_n 2, 1) := by decide +kernel
theorem dX7_chord_28 : decode cX7_chord 28 = .ok (.iload_n 1, 1) := by decide +kernel
theorem dX7_chord_29 : decode cX7_chord 29 = .ok (.iconst 1, 1) := by decide +kernel
theorem dX7_chord_30 : decode cX7_chord 30 = .ok (.iload_n 3, 1) := by decide +kernel
theorem dX7_chord_31 : decode cX7_chord 31 = .ok (.ishl, 1) := by decide +kernel
theorem dX7_chord_32 : decode cX7_chord 32 = .ok (.ior, 1) := by decide +kernel
theorem dX7_chord_33 : decode cX7_chord 33 = .ok (.istore_n 1, 1) := by decide +kernel
theorem dX7_chord_34 : decode cX7_chord 34 = .ok (.aload_n 0, 1) := by decide +kernel
theorem dX7_chord_35 : decode cX7_chord 35 = .ok (.dup, 1) := by decide +kernel
theorem dX7_chord_36 : decode cX7_chord 36 = .ok (.getfield 92, 3) := by decide +kernel
theorem dX7_chord_39 : decode cX7_chord 39 = .ok (.iconst 1, 1) := by decide +kernel
theorem dX7_chord_40 : decode cX7_chord 40 = .ok (.iadd, 1) := by decide +kernel
theorem dX7_chord_41 : decode cX7_chord 41 = .ok (.putfield 92, 3) := by decide +kernel
theorem dX7_chord_44 : decode cX7_chord 44 = .ok (.goto (-40), 3) := by decide +kernel
theorem dX7_chord_47 : decode cX7_chord 47 = .ok (.aload_n 0, 1) := by decide +kernel
theorem dX7_chord_48 : decode cX7_chord 48 = .ok (.invokevirtual 95, 3) := by decide +kernel
theorem dX7_chord_51 : decode cX7_chord 51 = .ok (.bipush 93, 2) := by decide +kernel
theorem dX7_chord_53 : decode cX7_chord 53 = .ok (.if_icmp .ne 11, 3) := by decide +kernel
theorem dX7_chord_56 : decode cX7_chord 56 = .ok (.iload_n 1, 1) := by decide +kernel
theorem dX7_chord_57 : decode cX7_chord 57 = .ok (.invokestatic 114, 3) := by decide +kernel
theorem dX7_chord_60 : decode cX7_chord 60 = .ok (.iconst 2, 1) := by decide +kernel
theorem dX7_chord_61 : decode cX7_chord 61 = .ok (.if_icmp .ge 5, 3) := by decide +kernel
theorem dX7_chord_64 : decode cX7_chord 64 = .ok (.iconst (-1), 1) := by decide +kernel
theorem dX7_chord_65 : decode cX7_chord 65 = .ok (.ireturn, 1) := by decide +kernel
theorem dX7_chord_66 : decode cX7_chord 66 = .ok (.aload_n 0, 1) := by decide +kernel
theorem dX7_chord_67 : decode cX7_chord 67 = .ok (.dup, 1) := by decide +kernel
theorem dX7_chord_68 : decode cX7_chord 68 = .ok (.getfield 92, 3) := by decide +kernel
theorem dX7_chord_71 : decode cX7_chord 71 = .ok (.iconst 1, 1) := by decide +kernel
theorem dX7_chord_72 : decode cX7_chord 72 = .ok (.iadd, 1) := by decide +kernel
theorem dX7_chord_73 : decode cX7_chord 73 = .ok (.putfield 92, 3) := by decide +kernel
theorem dX7_chord_76 : decode cX7_chord 76 = .ok (.iload_n 1, 1) := by decide +kernel
theorem dX7_chord_77 : decode cX7_chord 77 = .ok (.ireturn, 1) := by decide +kernel
theorem dX7_tellsAgain_0 : decode cX7_tellsAgain 0 = .ok (.aload_n 0, 1) := by decide +kernel
theorem dX7_tellsAgain_1 : decode cX7_tellsAgain 1 = .ok (.getfield 85, 3) := by decide +kernel
theorem dX7_tellsAgain_4 : decode cX7_tellsAgain 4 = .ok (.istore_n 3, 1) := by decide +kernel
theorem dX7_tellsAgain_5 : decode cX7_tellsAgain 5 = .ok (.iconst 1, 1) := by decide +kernel
theorem dX7_tellsAgain_6 : decode cX7_tellsAgain 6 = .ok (.istore 4, 2) := by decide +kernel
theorem dX7_tellsAgain_8 : decode cX7_tellsAgain 8 = .ok (.iload 4, 2) := by decide +kernel
theorem dX7_tellsAgain_10 : decode cX7_tellsAgain 10 = .ok (.iload_n 2, 1) := by decide +kernel
theorem dX7_tellsAgain_11 : decode cX7_tellsAgain 11 = .ok (.if_icmp .ge 40, 3) := by decide +kernel
theorem dX7_tellsAgain_14 : decode cX7_tellsAgain 14 = .ok (.iload_n 1, 1) := by decide +kernel
theorem dX7_tellsAgain_15 : decode cX7_tellsAgain 15 = .ok (.istore 5, 2) := by decide +kernel
theorem dX7_tellsAgain_17 : decode cX7_tellsAgain 17 = .ok (.iload 5, 2) := by decide +kernel
theorem dX7_tellsAgain_19 : decode cX7_tellsAgain 19 = .ok (.iload_n 3, 1) := by decide +kernel
theorem dX7_tellsAgain_20 : decode cX7_tellsAgain 20 = .ok (.if_icmp .ge 25, 3) := by decide +kernel
theorem dX7_tellsAgain_23 : decode cX7_tellsAgain 23 = .ok (.aload_n 0, 1) := by decide +kernel
theorem dX7_tellsAgain_24 : decode cX7_tellsAgain 24 = .ok (.aload_n 0, 1) := by decide +kernel
theorem dX7_tellsAgain_25 : decode cX7_tellsAgain 25 = .ok (.getfield 16, 3) := by decide +kernel
theorem dX7_tellsAgain_28 : decode cX7_tellsAgain 28 = .ok (.iload 5, 2) := by decide +kernel
theorem dX7_tellsAgain_30 : decode cX7_tellsAgain 30 = .ok (.iaload, 1) := by decide +kernel
theorem dX7_tellsAgain_31 : decode cX7_tellsAgain 31 = .ok (.invokevirtual 66, 3) := by decide +kernel
theorem dX7_tellsAgain_34 : decode cX7_tellsAgain 34 = .ok (.ifCond .ne 5, 3) := by decide +kernel
theorem dX7_tellsAgain_37 : decode cX7_tellsAgain 37 = .ok (.iconst 0, 1) := by decide +kernel
theorem dX7_tellsAgain_38 : decode cX7_tellsAgain 38 = .ok (.ireturn, 1) := by decide +kernel
theorem dX7_tellsAgain_39 : decode cX7_tellsAgain 39 = .ok (.iinc 5 1, 3) := by decide +kernel
theorem dX7_tellsAgain_42 : decode cX7_tellsAgain 42 = .ok (.goto (-25), 3) := by decide +kernel
theorem dX7_tellsAgain_45 : decode cX7_tellsAgain 45 = .ok (.iinc 4 1, 3) := by decide +kernel
theorem dX7_tellsAgain_48 : decode cX7_tellsAgain 48 = .ok (.goto (-40), 3) := by decide +kernel
theorem dX7_tellsAgain_51 : decode cX7_tellsAgain 51 = .ok (.iconst 1, 1) := by decide +kernel
theorem dX7_tellsAgain_52 : decode cX7_tellsAgain 52 = .ok (.ireturn, 1) := by decide +kernel
theorem dX7_takesTune_0 : decode cX7_takesTune 0 = .ok (.aload_n 0, 1) := by decide +kernel
theorem dX7_takesTune_1 : decode cX7_takesTune 1 = .ok (.getfield 88, 3) := by decide +kernel
theorem dX7_takesTune_4 : decode cX7_takesTune 4 = .ok (.ifCond .eq 5, 3) := by decide +kernel
theorem dX7_takesTune_7 : decode cX7_takesTune 7 = .ok (.iconst 0, 1) := by decide +kernel
theorem dX7_takesTune_8 : decode cX7_takesTune 8 = .ok (.ireturn, 1) := by decide +kernel
theorem dX7_takesTune_9 : decode cX7_takesTune 9 = .ok (.aload_n 0, 1) := by decide +kernel
theorem dX7_takesTune_10 : decode cX7_takesTune 10 = .ok (.iconst 1, 1) := by decide +kernel
theorem dX7_takesTune_11 : decode cX7_takesTune 11 = .ok (.putfield 88, 3) := by decide +kernel
theorem dX7_takesTune_14 : decode cX7_takesTune 14 = .ok (.iconst 0, 1) := by decide +kernel
theorem dX7_takesTune_15 : decode cX7_takesTune 15 = .ok (.istore_n 1, 1) := by decide +kernel
theorem dX7_takesTune_16 : decode cX7_takesTune 16 = .ok (.aload_n 0, 1) := by decide +kernel
theorem dX7_takesTune_17 : decode cX7_takesTune 17 = .ok (.invokevirtual 95, 3) := by decide +kernel
theorem dX7_takesTune_20 : decode cX7_takesTune 20 = .ok (.bipush 59, 2) := by decide +kernel
theorem dX7_takesTune_22 : decode cX7_takesTune 22 = .ok (.if_icmp .eq 250, 3) := by decide +kernel
theorem dX7_takesTune_25 : decode cX7_takesTune 25 = .ok (.aload_n 0, 1) := by decide +kernel
theorem dX7_takesTune_26 : decode cX7_takesTune 26 = .ok (.invokevirtual 95, 3) := by decide +kernel
theorem dX7_takesTune_29 : decode cX7_takesTune 29 = .ok (.istore_n 2, 1) := by decide +kernel
theorem dX7_takesTune_30 : decode cX7_takesTune 30 = .ok (.iconst 0, 1) := by decide +kernel
theorem dX7_takesTune_31 : decode cX7_takesTune 31 = .ok (.istore_n 3, 1) := by decide +kernel
theorem dX7_takesTune_32 : decode cX7_takesTune 32 = .ok (.aload_n 0, 1) := by decide +kernel
theorem dX7_takesTune_33 : decode cX7_takesTune 33 = .ok (.invokevirtual 110, 3) := by decide +kernel
theorem dX7_takesTune_36 : decode cX7_takesTune 36 = .ok (.ifCond .eq 27, 3) := by decide +kernel
theorem dX7_takesTune_39 : decode cX7_takesTune 39 = .ok (.aload_n 0, 1) := by decide +kernel
theorem dX7_takesTune_40 : decode cX7_takesTune 40 = .ok (.dup, 1) := by decide +kernel
theorem dX7_takesTune_41 : decode cX7_takesTune 41 = .ok (.getfield 92, 3) := by decide +kernel
theorem dX7_takesTune_44 : decode cX7_takesTune 44 = .ok (.iconst 1, 1) := by decide +kernel
theorem dX7_takesTune_45 : decode cX7_takesTune 45 = .ok (.iadd, 1) := by decide +kernel
theorem dX7_takesTune_46 : decode cX7_takesTune 46 = .ok (.putfield 92, 3) := by decide +kernel
theorem dX7_takesTune_49 : decode cX7_takesTune 49 = .ok (.aload_n 0, 1) := by decide +kernel
theorem dX7_takesTune_50 : decode cX7_takesTune 50 = .ok (.iconst 1, 1) := by decide +kernel
theorem dX7_takesTune_51 : decode cX7_takesTune 51 = .ok (.iload_n 2, 1) := by decide +kernel
theorem dX7_takesTune_52 : decode cX7_takesTune 52 = .ok (.bipush 97, 2) := by decide +kernel
theorem dX7_takesTune_54 : decode cX7_takesTune 54 = .ok (.isub, 1) := by decide +kernel
theorem dX7_takesTune_55 : decode cX7_takesTune 55 = .ok (.ishl, 1) := by decide +kernel
theorem dX7_takesTune_56 : decode cX7_takesTune 56 = .ok (.invokevirtual 66, 3) := by decide +kernel
theorem dX7_takesTune_59 : decode cX7_takesTune 59 = .ok (.istore_n 3, 1) := by decide +kernel
theorem dX7_takesTune_60 : decode cX7_takesTune 60 = .ok (.goto 203, 3) := by decide +kernel
theorem dX7_takesTune_63 : decode cX7_takesTune 63 = .ok (.iload_n 2, 1) := by decide +kernel
theorem dX7_takesTune_64 : decode cX7_takesTune 64 = .ok (.bipush 46, 2) := by decide +kernel
theorem dX7_takesTune_66 : decode cX7_takesTune 66 = .ok (.if_icmp .ne 22, 3) := by decide +kernel
theorem dX7_takesTune_69 : decode cX7_takesTune 69 = .ok (.aload_n 0, 1) := by decide +kernel
theorem dX7_takesTune_70 : decode cX7_takesTune 70 = .ok (.dup, 1) := by decide +kernel
theorem dX7_takesTune_71 : decode cX7_takesTune 71 = .ok (.getfield 92, 3) := by decide +kernel
theorem dX7_takesTune_74 : decode cX7_takesTune 74 = .ok (.iconst 1, 1) := by decide +kernel
theorem dX7_takesTune_75 : decode cX7_takesTune 75 = .ok (.iadd, 1) := by decide +kernel
theorem dX7_takesTune_76 : decode cX7_takesTune 76 = .ok (.putfield 92, 3) := by decide +kernel
theorem dX7_takesTune_79 : decode cX7_takesTune 79 = .ok (.aload_n 0, 1) := by decide +kernel
theorem dX7_takesTune_80 : decode cX7_takesTune 80 = .ok (.iconst 0, 1) := by decide +kernel
theorem dX7_takesTune_81 : decode cX7_takesTune 81 = .ok (.invokevirtual 66, 3) := by decide +kernel
theorem dX7_takesTune_84 : decode cX7_takesTune 84 = .ok (.istore_n 3, 1) := by decide +kernel
theorem dX7_takesTune_85 : decode cX7_takesTune 85 = .ok (.goto 178, 3) := by decide +kernel
theorem dX7_takesTune_88 : decode cX7_takesTune 88 = .ok (.iload_n 2, 1) := by decide +kernel
theorem dX7_takesTune_89 : decode cX7_takesTune 89 = .ok (.bipush 91, 2) := by decide +kernel
theorem dX7_takesTune_91 : decode cX7_takesTune 91 = .ok (.if_icmp .ne 42, 3) := by decide +kernel
theorem dX7_takesTune_94 : decode cX7_takesTune 94 = .ok (.aload_n 0, 1) := by decide +kernel
theorem dX7_takesTune_95 : decode cX7_takesTune 95 = .ok (.dup, 1) := by decide +kernel
theorem dX7_takesTune_96 : decode cX7_takesTune 96 = .ok (.getfield 92, 3) := by decide +kernel
theorem dX7_takesTune_99 : decode cX7_takesTune 99 = .ok (.iconst 1, 1) := by decide +kernel
theorem dX7_takesTune_100 : decode cX7_takesTune 100 = .ok (.iadd, 1) := by decide +kernel
theorem dX7_takesTune_101 : decode cX7_takesTune 101 = .ok (.putfield 92, 3) := by decide +kernel
theorem dX7_takesTune_104 : decode cX7_takesTune 104 = .ok (.aload_n 0, 1) := by decide +kernel
theorem dX7_takesTune_105 : decode cX7_takesTune 105 = .ok (.invokevirtual 118, 3) := by decide +kernel
theorem dX7_takesTune_108 : decode cX7_takesTune 108 = .ok (.istore 4, 2) := by decide +kernel
theorem dX7_takesTune_110 : decode cX7_takesTune 110 = .ok (.iload 4, 2) := by decide +kernel
theorem dX7_takesTune_112 : decode cX7_takesTune 112 = .ok (.ifCond .le 16, 3) := by decide +kernel
theorem dX7_takesTune_115 : decode cX7_takesTune 115 = .ok (.aload_n 0, 1) := by decide +kernel
theorem dX7_takesTune_116 : decode cX7_takesTune 116 = .ok (.iload 4, 2) := by decide +kernel
theorem dX7_takesTune_118 : decode cX7_takesTune 118 = .ok (.invokevirtual 66, 3) := by decide +kernel
theorem dX7_takesTune_121 : decode cX7_takesTune 121 = .ok (.ifCond .eq 7, 3) := by decide +kernel
theorem dX7_takesTune_124 : decode cX7_takesTune 124 = .ok (.iconst 1, 1) := by decide +kernel
theorem dX7_takesTune_125 : decode cX7_takesTune 125 = .ok (.goto 4, 3) := by decide +kernel
theorem dX7_takesTune_128 : decode cX7_takesTune 128 = .ok (.iconst 0, 1) := by decide +kernel
theorem dX7_takesTune_129 : decode cX7_takesTune 129 = .ok (.istore_n 3, 1) := by decide +kernel
theorem dX7_takesTune_130 : decode cX7_takesTune 130 = .ok (.goto 133, 3) := by decide +kernel
theorem dX7_takesTune_133 : decode cX7_takesTune 133 = .ok (.iload_n 2, 1) := by decide +kernel
theorem dX7_takesTune_134 : decode cX7_takesTune 134 = .ok (.bipush 40, 2) := by decide +kernel
theorem dX7_takesTune_136 : decode cX7_takesTune 136 = .ok (.if_icmp .ne 36, 3) := by decide +kernel
theorem dX7_takesTune_139 : decode cX7_takesTune 139 = .ok (.iload_n 1, 1) := by decide +kernel
theorem dX7_takesTune_140 : decode cX7_takesTune 140 = .ok (.iconst 3, 1) := by decide +kernel
theorem dX7_takesTune_141 : decode cX7_takesTune 141 = .ok (.if_icmp .ge 31, 3) := by decide +kernel
theorem dX7_takesTune_144 : decode cX7_takesTune 144 = .ok (.aload_n 0, 1) := by decide +kernel
theorem dX7_takesTune_145 : decode cX7_takesTune 145 = .ok (.dup, 1) := by decide +kernel
theorem dX7_takesTune_146 : decode cX7_takesTune 146 = .ok (.getfield 92, 3) := by decide +kernel
theorem dX7_takesTune_149 : decode cX7_takesTune 149 = .ok (.iconst 1, 1) := by decide +kernel
theorem dX7_takesTune_150 : decode cX7_takesTune 150 = .ok (.iadd, 1) := by decide +kernel
theorem dX7_takesTune_151 : decode cX7_takesTune 151 = .ok (.putfield 92, 3) := by decide +kernel
theorem dX7_takesTune_154 : decode cX7_takesTune 154 = .ok (.aload_n 0, 1) := by decide +kernel
theorem dX7_takesTune_155 : decode cX7_takesTune 155 = .ok (.getfield 40, 3) := by decide +kernel
theorem dX7_takesTune_158 : decode cX7_takesTune 158 = .ok (.iload_n 1, 1) := by decide +kernel
theorem dX7_takesTune_159 : decode cX7_takesTune 159 = .ok (.aload_n 0, 1) := by decide +kernel
theorem dX7_takesTune_160 : decode cX7_takesTune 160 = .ok (.getfield 85, 3) := by decide +kernel
theorem dX7_takesTune_163 : decode cX7_takesTune 163 = .ok (.iastore, 1) := by decide +kernel
theorem dX7_takesTune_164 : decode cX7_takesTune 164 = .ok (.iinc 1 1, 3) := by decide +kernel
theorem dX7_takesTune_167 : decode cX7_takesTune 167 = .ok (.iconst 1, 1) := by decide +kernel
theorem dX7_takesTune_168 : decode cX7_takesTune 168 = .ok (.istore_n 3, 1) := by decide +kernel
theorem dX7_takesTune_169 : decode cX7_takesTune 169 = .ok (.goto 94, 3) := by decide +kernel
theorem dX7_takesTune_172 : decode cX7_takesTune 172 = .ok (.iload_n 2, 1) := by decide +kernel
theorem dX7_takesTune_173 : decode cX7_takesTune 173 = .ok (.bipush 41, 2) := by decide +kernel
theorem dX7_takesTune_175 : decode cX7_takesTune 175 = .ok (.if_icmp .ne 88, 3) := by decide +kernel
theorem dX7_takesTune_178 : decode cX7_takesTune 178 = .ok (.iload_n 1, 1) := by decide +kernel
theorem dX7_takesTune_179 : decode cX7_takesTune 179 = .ok (.ifCond .le 84, 3) := by decide +kernel
theorem dX7_takesTune_182 : decode cX7_takesTune 182 = .ok (.aload_n 0, 1) := by decide +kernel
theorem dX7_takesTune_183 : decode cX7_takesTune 183 = .ok (.dup, 1) := by decide +kernel
theorem dX7_takesTune_184 : decode cX7_takesTune 184 = .ok (.getfield 92, 3) := by decide +kernel
theorem dX7_takesTune_187 : decode cX7_takesTune 187 = .ok (.iconst 1, 1) := by decide +kernel
theorem dX7_takesTune_188 : decode cX7_takesTune 188 = .ok (.iadd, 1) := by decide +kernel
theorem dX7_takesTune_189 : decode cX7_takesTune 189 = .ok (.putfield 92, 3) := by decide +kernel
theorem dX7_takesTune_192 : decode cX7_takesTune 192 = .ok (.iinc 1 (-1), 3) := by decide +kernel
theorem dX7_takesTune_195 : decode cX7_takesTune 195 = .ok (.aload_n 0, 1) := by decide +kernel
theorem dX7_takesTune_196 : decode cX7_takesTune 196 = .ok (.invokevirtual 95, 3) := by decide +kernel
theorem dX7_takesTune_199 : decode cX7_takesTune 199 = .ok (.bipush 48, 2) := by decide +kernel
theorem dX7_takesTune_201 : decode cX7_takesTune 201 = .ok (.isub, 1) := by decide +kernel
theorem dX7_takesTune_202 : decode cX7_takesTune 202 = .ok (.istore 4, 2) := by decide +kernel
theorem dX7_takesTune_204 : decode cX7_takesTune 204 = .ok (.aload_n 0, 1) := by decide +kernel
theorem dX7_takesTune_205 : decode cX7_takesTune 205 = .ok (.dup, 1) := by decide +kernel
theorem dX7_takesTune_206 : decode cX7_takesTune 206 = .ok (.getfield 92, 3) := by decide +kernel
theorem dX7_takesTune_209 : decode cX7_takesTune 209 = .ok (.iconst 1, 1) := by decide +kernel
theorem dX7_takesTune_210 : decode cX7_takesTune 210 = .ok (.iadd, 1) := by decide +kernel
theorem dX7_takesTune_211 : decode cX7_takesTune 211 = .ok (.putfield 92, 3) := by decide +kernel
theorem dX7_takesTune_214 : decode cX7_takesTune 214 = .ok (.iload 4, 2) := by decide +kernel
theorem dX7_takesTune_216 : decode cX7_takesTune 216 = .ok (.i2l, 1) := by decide +kernel
theorem dX7_takesTune_217 : decode cX7_takesTune 217 = .ok (.ldc2_w 103, 3) := by decide +kernel
theorem dX7_takesTune_220 : decode cX7_takesTune 220 = .ok (.ldc2_w 121, 3) := by decide +kernel
theorem dX7_takesTune_223 : decode cX7_takesTune 223 = .ok (.invokestatic 73, 3) := by decide +kernel
theorem dX7_takesTune_226 : decode cX7_takesTune 226 = .ok (.ifCond .eq 35, 3) := by decide +kernel
theorem dX7_takesTune_229 : decode cX7_takesTune 229 = .ok (.aload_n 0, 1) := by decide +kernel
theorem dX7_takesTune_230 : decode cX7_takesTune 230 = .ok (.getfield 85, 3) := by decide +kernel
theorem dX7_takesTune_233 : decode cX7_takesTune 233 = .ok (.aload_n 0, 1) := by decide +kernel
theorem dX7_takesTune_234 : decode cX7_takesTune 234 = .ok (.getfield 40, 3) := by decide +kernel
theorem dX7_takesTune_237 : decode cX7_takesTune 237 = .ok (.iload_n 1, 1) := by decide +kernel
theorem dX7_takesTune_238 : decode cX7_takesTune 238 = .ok (.iaload, 1) := by decide +kernel
theorem dX7_takesTune_239 : decode cX7_takesTune 239 = .ok (.if_icmp .le 22, 3) := by decide +kernel
theorem dX7_takesTune_242 : decode cX7_takesTune 242 = .ok (.aload_n 0, 1) := by decide +kernel
theorem dX7_takesTune_243 : decode cX7_takesTune 243 = .ok (.aload_n 0, 1) := by decide +kernel
theorem dX7_takesTune_244 : decode cX7_takesTune 244 = .ok (.getfield 40, 3) := by decide +kernel
theorem dX7_takesTune_247 : decode cX7_takesTune 247 = .ok (.iload_n 1, 1) := by decide +kernel
theorem dX7_takesTune_248 : decode cX7_takesTune 248 = .ok (.iaload, 1) := by decide +kernel
theorem dX7_takesTune_249 : decode cX7_takesTune 249 = .ok (.iload 4, 2) := by decide +kernel
theorem dX7_takesTune_251 : decode cX7_takesTune 251 = .ok (.invokevirtual 123, 3) := by decide +kernel
theorem dX7_takesTune_254 : decode cX7_takesTune 254 = .ok (.ifCond .eq 7, 3) := by decide +kernel
theorem dX7_takesTune_257 : decode cX7_takesTune 257 = .ok (.iconst 1, 1) := by decide +kernel
theorem dX7_takesTune_258 : decode cX7_takesTune 258 = .ok (.goto 4, 3) := by decide +kernel
theorem dX7_takesTune_261 : decode cX7_takesTune 261 = .ok (.iconst 0, 1) := by decide +kernel
theorem dX7_takesTune_262 : decode cX7_takesTune 262 = .ok (.istore_n 3, 1) := by decide +kernel
theorem dX7_takesTune_263 : decode cX7_takesTune 263 = .ok (.iload_n 3, 1) := by decide +kernel
theorem dX7_takesTune_264 : decode cX7_takesTune 264 = .ok (.ifCond .ne 5, 3) := by decide +kernel
theorem dX7_takesTune_267 : decode cX7_takesTune 267 = .ok (.iconst 0, 1) := by decide +kernel
theorem dX7_takesTune_268 : decode cX7_takesTune 268 = .ok (.ireturn, 1) := by decide +kernel
theorem dX7_takesTune_269 : decode cX7_takesTune 269 = .ok (.goto (-253), 3) := by decide +kernel
theorem dX7_takesTune_272 : decode cX7_takesTune 272 = .ok (.aload_n 0, 1) := by decide +kernel
theorem dX7_takesTune_273 : decode cX7_takesTune 273 = .ok (.dup, 1) := by decide +kernel
theorem dX7_takesTune_274 : decode cX7_takesTune 274 = .ok (.getfield 92, 3) := by decide +kernel
theorem dX7_takesTune_277 : decode cX7_takesTune 277 = .ok (.iconst 1, 1) := by decide +kernel
theorem dX7_takesTune_278 : decode cX7_takesTune 278 = .ok (.iadd, 1) := by decide +kernel
theorem dX7_takesTune_279 : decode cX7_takesTune 279 = .ok (.putfield 92, 3) := by decide +kernel
theorem dX7_takesTune_282 : decode cX7_takesTune 282 = .ok (.iload_n 1, 1) := by decide +kernel
theorem dX7_takesTune_283 : decode cX7_takesTune 283 = .ok (.ifCond .ne 14, 3) := by decide +kernel
theorem dX7_takesTune_286 : decode cX7_takesTune 286 = .ok (.aload_n 0, 1) := by decide +kernel
theorem dX7_takesTune_287 : decode cX7_takesTune 287 = .ok (.getfield 85, 3) := by decide +kernel
theorem dX7_takesTune_290 : decode cX7_takesTune 290 = .ok (.ifCond .le 7, 3) := by decide +kernel
theorem dX7_takesTune_293 : decode cX7_takesTune 293 = .ok (.iconst 1, 1) := by decide +kernel
theorem dX7_takesTune_294 : decode cX7_takesTune 294 = .ok (.goto 4, 3) := by decide +kernel
theorem dX7_takesTune_297 : decode cX7_takesTune 297 = .ok (.iconst 0, 1) := by decide +kernel
theorem dX7_takesTune_298 : decode cX7_takesTune 298 = .ok (.ireturn, 1) := by decide +kernel
theorem dX7_takesItem_0 : decode cX7_takesItem 0 = .ok (.aload_n 0, 1) := by decide +kernel
theorem dX7_takesItem_1 : decode cX7_takesItem 1 = .ok (.invokevirtual 95, 3) := by decide +kernel
theorem dX7_takesItem_4 : decode cX7_takesItem 4 = .ok (.istore_n 1, 1) := by decide +kernel
theorem dX7_takesItem_5 : decode cX7_takesItem 5 = .ok (.aload_n 0, 1) := by decide +kernel
theorem dX7_takesItem_6 : decode cX7_takesItem 6 = .ok (.dup, 1) := by decide +kernel
theorem dX7_takesItem_7 : decode cX7_takesItem 7 = .ok (.getfield 92, 3) := by decide +kernel
theorem dX7_takesItem_10 : decode cX7_takesItem 10 = .ok (.iconst 1, 1) := by decide +kernel
theorem dX7_takesItem_11 : decode cX7_takesItem 11 = .ok (.iadd, 1) := by decide +kernel
theorem dX7_takesItem_12 : decode cX7_takesItem 12 = .ok (.putfield 92, 3) := by decide +kernel
theorem dX7_takesItem_15 : decode cX7_takesItem 15 = .ok (.iload_n 1, 1) := by decide +kernel
theorem dX7_takesItem_16 : decode cX7_takesItem 16 = .ok (.lookupswitch 72 #[(98, 44), (110, 49), (114, 58), (116, 67)], 44) := by decide +kernel
theorem dX7_takesItem_60 : decode cX7_takesItem 60 = .ok (.aload_n 0, 1) := by decide +kernel
theorem dX7_takesItem_61 : decode cX7_takesItem 61 = .ok (.invokevirtual 127, 3) := by decide +kernel
theorem dX7_takesItem_64 : decode cX7_takesItem 64 = .ok (.ireturn, 1) := by decide +kernel
theorem dX7_takesItem_65 : decode cX7_takesItem 65 = .ok (.aload_n 0, 1) := by decide +kernel
theorem dX7_takesItem_66 : decode cX7_takesItem 66 = .ok (.iconst 1, 1) := by decide +kernel
theorem dX7_takesItem_67 : decode cX7_takesItem 67 = .ok (.iconst 2, 1) := by decide +kernel
theorem dX7_takesItem_68 : decode cX7_takesItem 68 = .ok (.bipush 32, 2) := by decide +kernel
theorem dX7_takesItem_70 : decode cX7_takesItem 70 = .ok (.invokevirtual 130, 3) := by decide +kernel
theorem dX7_takesItem_73 : decode cX7_takesItem 73 = .ok (.ireturn, 1) := by decide +kernel
theorem dX7_takesItem_74 : decode cX7_takesItem 74 = .ok (.aload_n 0, 1) := by decide +kernel
theorem dX7_takesItem_75 : decode cX7_takesItem 75 = .ok (.iconst 2, 1) := by decide +kernel
theorem dX7_takesItem_76 : decode cX7_takesItem 76 = .ok (.iconst 0, 1) := by decide +kernel
theorem dX7_takesItem_77 : decode cX7_takesItem 77 = .ok (.bipush 6, 2) := by decide +kernel
theorem dX7_takesItem_79 : decode cX7_takesItem 79 = .ok (.invokevirtual 130, 3) := by decide +kernel
theorem dX7_takesItem_82 : decode cX7_takesItem 82 = .ok (.ireturn, 1) := by decide +kernel
theorem dX7_takesItem_83 : decode cX7_takesItem 83 = .ok (.aload_n 0, 1) := by decide +kernel
theorem dX7_takesItem_84 : decode cX7_takesItem 84 = .ok (.invokevirtual 134, 3) := by decide +kernel
theorem dX7_takesItem_87 : decode cX7_takesItem 87 = .ok (.ireturn, 1) := by decide +kernel
theorem dX7_takesItem_88 : decode cX7_takesItem 88 = .ok (.iconst 0, 1) := by decide +kernel
theorem dX7_takesItem_89 : decode cX7_takesItem 89 = .ok (.ireturn, 1) := by decide +kernel
theorem dX7_fault_0 : decode cX7_fault 0 = .ok (.aload_n 0, 1) := by decide +kernel
theorem dX7_fault_1 : decode cX7_fault 1 = .ok (.invokevirtual 59, 3) := by decide +kernel
theorem dX7_fault_4 : decode cX7_fault 4 = .ok (.aload_n 0, 1) := by decide +kernel
theorem dX7_fault_5 : decode cX7_fault 5 = .ok (.iconst 0, 1) := by decide +kernel
theorem dX7_fault_6 : decode cX7_fault 6 = .ok (.putfield 92, 3) := by decide +kernel
theorem dX7_fault_9 : decode cX7_fault 9 = .ok (.aload_n 0, 1) := by decide +kernel
theorem dX7_fault_10 : decode cX7_fault 10 = .ok (.getfield 92, 3) := by decide +kernel
theorem dX7_fault_13 : decode cX7_fault 13 = .ok (.aload_n 0, 1) := by decide +kernel
theorem dX7_fault_14 : decode cX7_fault 14 = .ok (.getfield 81, 3) := by decide +kernel
theorem dX7_fault_17 : decode cX7_fault 17 = .ok (.if_icmp .ge 20, 3) := by decide +kernel
theorem dX7_fault_20 : decode cX7_fault 20 = .ok (.aload_n 0, 1) := by decide +kernel
theorem dX7_fault_21 : decode cX7_fault 21 = .ok (.getfield 92, 3) := by decide +kernel
theorem dX7_fault_24 : decode cX7_fault 24 = .ok (.istore_n 1, 1) := by decide +kernel
theorem dX7_fault_25 : decode cX7_fault 25 = .ok (.aload_n 0, 1) := by decide +kernel
theorem dX7_fault_26 : decode cX7_fault 26 = .ok (.invokevirtual 137, 3) := by decide +kernel
theorem dX7_fault_29 : decode cX7_fault 29 = .ok (.ifCond .ne 5, 3) := by decide +kernel
theorem dX7_fault_32 : decode cX7_fault 32 = .ok (.iload_n 1, 1) := by decide +kernel
theorem dX7_fault_33 : decode cX7_fault 33 = .ok (.ireturn, 1) := by decide +kernel
theorem dX7_fault_34 : decode cX7_fault 34 = .ok (.goto (-25), 3) := by decide +kernel
theorem dX7_fault_37 : decode cX7_fault 37 = .ok (.bipush (-4), 2) := by decide +kernel
theorem dX7_fault_39 : decode cX7_fault 39 = .ok (.ireturn, 1) := by decide +kernel
theorem dX7_begins_0 : decode cX7_begins 0 = .ok (.iconst 0, 1) := by decide +kernel
theorem dX7_begins_1 : decode cX7_begins 1 = .ok (.istore_n 1, 1) := by decide +kernel
theorem dX7_begins_2 : decode cX7_begins 2 = .ok (.iload_n 1, 1) := by decide +kernel
theorem dX7_begins_3 : decode cX7_begins 3 = .ok (.bipush 19, 2) := by decide +kernel
theorem dX7_begins_5 : decode cX7_begins 5 = .ok (.if_icmp .ge 21, 3) := by decide +kernel
theorem dX7_begins_8 : decode cX7_begins 8 = .ok (.aload_n 0, 1) := by decide +kernel
theorem dX7_begins_9 : decode cX7_begins 9 = .ok (.getfield 7, 3) := by decide +kernel
theorem dX7_begins_12 : decode cX7_begins 12 = .ok (.iload_n 1, 1) := by decide +kernel
theorem dX7_begins_13 : decode cX7_begins 13 = .ok (.aload_n 0, 1) := by decide +kernel
theorem dX7_begins_14 : decode cX7_begins 14 = .ok (.getfield 13, 3) := by decide +kernel
theorem dX7_begins_17 : decode cX7_begins 17 = .ok (.iload_n 1, 1) := by decide +kernel
theorem dX7_begins_18 : decode cX7_begins 18 = .ok (.iaload, 1) := by decide +kernel
theorem dX7_begins_19 : decode cX7_begins 19 = .ok (.iastore, 1) := by decide +kernel
theorem dX7_begins_20 : decode cX7_begins 20 = .ok (.iinc 1 1, 3) := by decide +kernel
theorem dX7_begins_23 : decode cX7_begins 23 = .ok (.goto (-21), 3) := by decide +kernel
theorem dX7_begins_26 : decode cX7_begins 26 = .ok (.iconst 0, 1) := by decide +kernel
theorem dX7_begins_27 : decode cX7_begins 27 = .ok (.istore_n 1, 1) := by decide +kernel
theorem dX7_begins_28 : decode cX7_begins 28 = .ok (.iload_n 1, 1) := by decide +kernel
theorem dX7_begins_29 : decode cX7_begins 29 = .ok (.bipush 66, 2) := by decide +kernel
theorem dX7_begins_31 : decode cX7_begins 31 = .ok (.if_icmp .ge 34, 3) := by decide +kernel
theorem dX7_begins_34 : decode cX7_begins 34 = .ok (.aload_n 0, 1) := by decide +kernel
theorem dX7_begins_35 : decode cX7_begins 35 = .ok (.getfield 19, 3) := by decide +kernel
theorem dX7_begins_38 : decode cX7_begins 38 = .ok (.iload_n 1, 1) := by decide +kernel
theorem dX7_begins_39 : decode cX7_begins 39 = .ok (.iload_n 1, 1) := by decide +kernel
theorem dX7_begins_40 : decode cX7_begins 40 = .ok (.bipush 34, 2) := by decide +kernel
theorem dX7_begins_42 : decode cX7_begins 42 = .ok (.if_icmp .lt 15, 3) := by decide +kernel
theorem dX7_begins_45 : decode cX7_begins 45 = .ok (.iload_n 1, 1) := by decide +kernel
theorem dX7_begins_46 : decode cX7_begins 46 = .ok (.bipush 50, 2) := by decide +kernel
theorem dX7_begins_48 : decode cX7_begins 48 = .ok (.if_icmp .ge 9, 3) := by decide +kernel
theorem dX7_begins_51 : decode cX7_begins 51 = .ok (.sipush (-1000), 3) := by decide +kernel
theorem dX7_begins_54 : decode cX7_begins 54 = .ok (.goto 4, 3) := by decide +kernel
theorem dX7_begins_57 : decode cX7_begins 57 = .ok (.iconst 0, 1) := by decide +kernel
theorem dX7_begins_58 : decode cX7_begins 58 = .ok (.iastore, 1) := by decide +kernel
theorem dX7_begins_59 : decode cX7_begins 59 = .ok (.iinc 1 1, 3) := by decide +kernel
theorem dX7_begins_62 : decode cX7_begins 62 = .ok (.goto (-34), 3) := by decide +kernel
theorem dX7_begins_65 : decode cX7_begins 65 = .ok (.aload_n 0, 1) := by decide +kernel
theorem dX7_begins_66 : decode cX7_begins 66 = .ok (.getfield 19, 3) := by decide +kernel
theorem dX7_begins_69 : decode cX7_begins 69 = .ok (.iconst 0, 1) := by decide +kernel
theorem dX7_begins_70 : decode cX7_begins 70 = .ok (.aload_n 0, 1) := by decide +kernel
theorem dX7_begins_71 : decode cX7_begins 71 = .ok (.getfield 7, 3) := by decide +kernel
theorem dX7_begins_74 : decode cX7_begins 74 = .ok (.iconst 1, 1) := by decide +kernel
theorem dX7_begins_75 : decode cX7_begins 75 = .ok (.iaload, 1) := by decide +kernel
theorem dX7_begins_76 : decode cX7_begins 76 = .ok (.iastore, 1) := by decide +kernel
theorem dX7_begins_77 : decode cX7_begins 77 = .ok (.iconst 0, 1) := by decide +kernel
theorem dX7_begins_78 : decode cX7_begins 78 = .ok (.istore_n 1, 1) := by decide +kernel
theorem dX7_begins_79 : decode cX7_begins 79 = .ok (.iload_n 1, 1) := by decide +kernel
theorem dX7_begins_80 : decode cX7_begins 80 = .ok (.bipush 32, 2) := by decide +kernel
theorem dX7_begins_82 : decode cX7_begins 82 = .ok (.if_icmp .ge 42, 3) := by decide +kernel
theorem dX7_begins_85 : decode cX7_begins 85 = .ok (.aload_n 0, 1) := by decide +kernel
theorem dX7_begins_86 : decode cX7_begins 86 = .ok (.getfield 19, 3) := by decide +kernel
theorem dX7_begins_89 : decode cX7_begins 89 = .ok (.iconst 2, 1) := by decide +kernel
theorem dX7_begins_90 : decode cX7_begins 90 = .ok (.iload_n 1, 1) := by decide +kernel
theorem dX7_begins_91 : decode cX7_begins 91 = .ok (.iadd, 1) := by decide +kernel
theorem dX7_begins_92 : decode cX7_begins 92 = .ok (.iload_n 1, 1) := by decide +kernel
theorem dX7_begins_93 : decode cX7_begins 93 = .ok (.aload_n 0, 1) := by decide +kernel
theorem dX7_begins_94 : decode cX7_begins 94 = .ok (.getfield 85, 3) := by decide +kernel
theorem dX7_begins_97 : decode cX7_begins 97 = .ok (.if_icmp .ge 12, 3) := by decide +kernel
theorem dX7_begins_100 : decode cX7_begins 100 = .ok (.aload_n 0, 1) := by decide +kernel
theorem dX7_begins_101 : decode cX7_begins 101 = .ok (.getfield 16, 3) := by decide +kernel
theorem dX7_begins_104 : decode cX7_begins 104 = .ok (.iload_n 1, 1) := by decide +kernel
theorem dX7_begins_105 : decode cX7_begins 105 = .ok (.iaload, 1) := by decide +kernel
theorem dX7_begins_106 : decode cX7_begins 106 = .ok (.goto 4, 3) := by decide +kernel
theorem dX7_begins_109 : decode cX7_begins 109 = .ok (.iconst 0, 1) := by decide +kernel
theorem dX7_begins_110 : decode cX7_begins 110 = .ok (.iastore, 1) := by decide +kernel
theorem dX7_begins_111 : decode cX7_begins 111 = .ok (.aload_n 0, 1) := by decide +kernel
theorem dX7_begins_112 : decode cX7_begins 112 = .ok (.getfield 31, 3) := by decide +kernel
theorem dX7_begins_115 : decode cX7_begins 115 = .ok (.iload_n 1, 1) := by decide +kernel
theorem dX7_begins_116 : decode cX7_begins 116 = .ok (.iconst 0, 1) := by decide +kernel
theorem dX7_begins_117 : decode cX7_begins 117 = .ok (.iastore, 1) := by decide +kernel
theorem dX7_begins_118 : decode cX7_begins 118 = .ok (.iinc 1 1, 3) := by decide +kernel
theorem dX7_begins_121 : decode cX7_begins 121 = .ok (.goto (-42), 3) := by decide +kernel
theorem dX7_begins_124 : decode cX7_begins 124 = .ok (.aload_n 0, 1) := by decide +kernel
theorem dX7_begins_125 : decode cX7_begins 125 = .ok (.iconst 0, 1) := by decide +kernel
theorem dX7_begins_126 : decode cX7_begins 126 = .ok (.putfield 140, 3) := by decide +kernel
theorem dX7_begins_129 : decode cX7_begins 129 = .ok (.aload_n 0, 1) := by decide +kernel
theorem dX7_begins_130 : decode cX7_begins 130 = .ok (.iconst 0, 1) := by decide +kernel
theorem dX7_begins_131 : decode cX7_begins 131 = .ok (.putfield 143, 3) := by decide +kernel
theorem dX7_begins_134 : decode cX7_begins 134 = .ok (.aload_n 0, 1) := by decide +kernel
theorem dX7_begins_135 : decode cX7_begins 135 = .ok (.iconst 0, 1) := by decide +kernel
theorem dX7_begins_136 : decode cX7_begins 136 = .ok (.putfield 146, 3) := by decide +kernel
theorem dX7_begins_139 : decode cX7_begins 139 = .ok (.return_, 1) := by decide +kernel
theorem dX7_lay_0 : decode cX7_lay 0 = .ok (.aload_n 0, 1) := by decide +kernel
theorem dX7_lay_1 : decode cX7_lay 1 = .ok (.invokevirtual 149, 3) := by decide +kernel
theorem dX7_lay_4 : decode cX7_lay 4 = .ok (.bipush (-4), 2) := by decide +kernel
theorem dX7_lay_6 : decode cX7_lay 6 = .ok (.if_icmp .ne 25, 3) := by decide +kernel
theorem dX7_lay_9 : decode cX7_lay 9 = .ok (.aload_n 0, 1) := by decide +kernel
theorem dX7_lay_10 : decode cX7_lay 10 = .ok (.getfield 13, 3) := by decide +kernel
theorem dX7_lay_13 : decode cX7_lay 13 = .ok (.iconst 0, 1) := by decide +kernel
theorem dX7_lay_14 : decode cX7_lay 14 = .ok (.iaload, 1) := by decide +kernel
theorem dX7_lay_15 : decode cX7_lay 15 = .ok (.ifCond .eq 16, 3) := by decide +kernel
theorem dX7_lay_18 : decode cX7_lay 18 = .ok (.aload_n 0, 1) := by decide +kernel
theorem dX7_lay_19 : decode cX7_lay 19 = .ok (.getfield 85, 3) := by decide +kernel
theorem dX7_lay_22 : decode cX7_lay 22 = .ok (.aload_n 0, 1) := by decide +kernel
theorem dX7_lay_23 : decode cX7_lay 23 = .ok (.getfield 13, 3) := by decide +kernel
theorem dX7_lay_26 : decode cX7_lay 26 = .ok (.iconst 1, 1) := by decide +kernel
theorem dX7_lay_27 : decode cX7_lay 27 = .ok (.iaload, 1) := by decide +kernel
theorem dX7_lay_28 : decode cX7_lay 28 = .ok (.if_icmp .le 6, 3) := by decide +kernel
theorem dX7_lay_31 : decode cX7_lay 31 = .ok (.bipush (-2), 2) := by decide +kernel
theorem dX7_lay_33 : decode cX7_lay 33 = .ok (.ireturn, 1) := by decide +kernel
theorem dX7_lay_34 : decode cX7_lay 34 = .ok (.aload_n 0, 1) := by decide +kernel
theorem dX7_lay_35 : decode cX7_lay 35 = .ok (.invokevirtual 70, 3) := by decide +kernel
theorem dX7_lay_38 : decode cX7_lay 38 = .ok (.aload_n 0, 1) := by decide +kernel
theorem dX7_lay_39 : decode cX7_lay 39 = .ok (.getfield 85, 3) := by decide +kernel
theorem dX7_lay_42 : decode cX7_lay 42 = .ok (.ireturn, 1) := by decide +kernel
theorem dX7_isBell_0 : decode cX7_isBell 0 = .ok (.iload_n 1, 1) := by decide +kernel
theorem dX7_isBell_1 : decode cX7_isBell 1 = .ok (.i2l, 1) := by decide +kernel
theorem dX7_isBell_2 : decode cX7_isBell 2 = .ok (.lconst 0, 1) := by decide +kernel
theorem dX7_isBell_3 : decode cX7_isBell 3 = .ok (.aload_n 0, 1) := by decide +kernel
theorem dX7_isBell_4 : decode cX7_isBell 4 = .ok (.getfield 7, 3) := by decide +kernel
theorem dX7_isBell_7 : decode cX7_isBell 7 = .ok (.iconst 0, 1) := by decide +kernel
theorem dX7_isBell_8 : decode cX7_isBell 8 = .ok (.iaload, 1) := by decide +kernel
theorem dX7_isBell_9 : decode cX7_isBell 9 = .ok (.iconst 1, 1) := by decide +kernel
theorem dX7_isBell_10 : decode cX7_isBell 10 = .ok (.isub, 1) := by decide +kernel
theorem dX7_isBell_11 : decode cX7_isBell 11 = .ok (.i2l, 1) := by decide +kernel
theorem dX7_isBell_12 : decode cX7_isBell 12 = .ok (.invokestatic 73, 3) := by decide +kernel
theorem dX7_isBell_15 : decode cX7_isBell 15 = .ok (.ireturn, 1) := by decide +kernel
theorem dX7_isRow_0 : decode cX7_isRow 0 = .ok (.iload_n 1, 1) := by decide +kernel
theorem dX7_isRow_1 : decode cX7_isRow 1 = .ok (.i2l, 1) := by decide +kernel
theorem dX7_isRow_2 : decode cX7_isRow 2 = .ok (.lconst 0, 1) := by decide +kernel
theorem dX7_isRow_3 : decode cX7_isRow 3 = .ok (.aload_n 0, 1) := by decide +kernel
theorem dX7_isRow_4 : decode cX7_isRow 4 = .ok (.getfield 7, 3) := by decide +kernel
theorem dX7_isRow_7 : decode cX7_isRow 7 = .ok (.iconst 1, 1) := by decide +kernel
theorem dX7_isRow_8 : decode cX7_isRow 8 = .ok (.iaload, 1) := by decide +kernel
theorem dX7_isRow_9 : decode cX7_isRow 9 = .ok (.iconst 1, 1) := by decide +kernel
theorem dX7_isRow_10 : decode cX7_isRow 10 = .ok (.isub, 1) := by decide +kernel
theorem dX7_isRow_11 : decode cX7_isRow 11 = .ok (.i2l, 1) := by decide +kernel
theorem dX7_isRow_12 : decode cX7_isRow 12 = .ok (.invokestatic 73, 3) := by decide +kernel
theorem dX7_isRow_15 : decode cX7_isRow 15 = .ok (.ireturn, 1) := by decide +kernel
theorem dX7_isSet_0 : decode cX7_isSet 0 = .ok (.iload_n 1, 1) := by decide +kernel
theorem dX7_isSet_1 : decode cX7_isSet 1 = .ok (.i2l, 1) := by decide +kernel
theorem dX7_isSet_2 : decode cX7_isSet 2 = .ok (.lconst 0, 1) := by decide +kernel
theorem dX7_isSet_3 : decode cX7_isSet 3 = .ok (.iconst 1, 1) := by decide +kernel
theorem dX7_isSet_4 : decode cX7_isSet 4 = .ok (.aload_n 0, 1) := by decide +kernel
theorem dX7_isSet_5 : decode cX7_isSet 5 = .ok (.getfield 7, 3) := by decide +kernel
theorem dX7_isSet_8 : decode cX7_isSet 8 = .ok (.iconst 0, 1) := by decide +kernel
theorem dX7_isSet_9 : decode cX7_isSet 9 = .ok (.iaload, 1) := by decide +kernel
theorem dX7_isSet_10 : decode cX7_isSet 10 = .ok (.ishl, 1) := by decide +kernel
theorem dX7_isSet_11 : decode cX7_isSet 11 = .ok (.iconst 1, 1) := by decide +kernel
theorem dX7_isSet_12 : decode cX7_isSet 12 = .ok (.isub, 1) := by decide +kernel
theorem dX7_isSet_13 : decode cX7_isSet 13 = .ok (.i2l, 1) := by decide +kernel
theorem dX7_isSet_14 : decode cX7_isSet 14 = .ok (.invokestatic 73, 3) := by decide +kernel
theorem dX7_isSet_17 : decode cX7_isSet 17 = .ok (.ireturn, 1) := by decide +kernel
theorem dX7_rings_0 : decode cX7_rings 0 = .ok (.iconst 0, 1) := by decide +kernel
theorem dX7_rings_1 : decode cX7_rings 1 = .ok (.istore_n 3, 1) := by decide +kernel
theorem dX7_rings_2 : decode cX7_rings 2 = .ok (.iconst 0, 1) := by decide +kernel
theorem dX7_rings_3 : decode cX7_rings 3 = .ok (.istore 4, 2) := by decide +kernel
theorem dX7_rings_5 : decode cX7_rings 5 = .ok (.iload 4, 2) := by decide +kernel
theorem dX7_rings_7 : decode cX7_rings 7 = .ok (.aload_n 0, 1) := by decide +kernel
theorem dX7_rings_8 : decode cX7_rings 8 = .ok (.getfield 7, 3) := by decide +kernel
theorem dX7_rings_11 : decode cX7_rings 11 = .ok (.iconst 0, 1) := by decide +kernel
theorem dX7_rings_12 : decode cX7_rings 12 = .ok (.iaload, 1) := by decide +kernel
theorem dX7_rings_13 : decode cX7_rings 13 = .ok (.if_icmp .ge 136, 3) := by decide +kernel
theorem dX7_rings_16 : decode cX7_rings 16 = .ok (.aload_n 1, 1) := by decide +kernel
theorem dX7_rings_17 : decode cX7_rings 17 = .ok (.iconst 2, 1) := by decide +kernel
theorem dX7_rings_18 : decode cX7_rings 18 = .ok (.iload_n 2, 1) := by decide +kernel
theorem dX7_rings_19 : decode cX7_rings 19 = .ok (.iadd, 1) := by decide +kernel
theorem dX7_rings_20 : decode cX7_rings 20 = .ok (.iaload, 1) := by decide +kernel
theorem dX7_rings_21 : decode cX7_rings 21 = .ok (.iload 4, 2) := by decide +kernel
theorem dX7_rings_23 : decode cX7_rings 23 = .ok (.invokestatic 152, 3) := by decide +kernel
theorem dX7_rings_26 : decode cX7_rings 26 = .ok (.ifCond .eq 117, 3) := by decide +kernel
theorem dX7_rings_29 : decode cX7_rings 29 = .ok (.iconst (-1), 1) := by decide +kernel
theorem dX7_rings_30 : decode cX7_rings 30 = .ok (.istore 5, 2) := by decide +kernel
theorem dX7_rings_32 : decode cX7_rings 32 = .ok (.aload_n 0, 1) := by decide +kernel
theorem dX7_rings_33 : decode cX7_rings 33 = .ok (.getfield 7, 3) := by decide +kernel
theorem dX7_rings_36 : decode cX7_rings 36 = .ok (.bipush 11, 2) := by decide +kernel
theorem dX7_rings_38 : decode cX7_rings 38 = .ok (.iload 4, 2) := by decide +kernel
theorem dX7_rings_40 : decode cX7_rings 40 = .ok (.iadd, 1) := by decide +kernel
theorem dX7_rings_41 : decode cX7_rings 41 = .ok (.iaload, 1) := by decide +kernel
theorem dX7_rings_42 : decode cX7_rings 42 = .ok (.iconst 1, 1) := by decide +kernel
theorem dX7_rings_43 : decode cX7_rings 43 = .ok (.isub, 1) := by decide +kernel
theorem dX7_rings_44 : decode cX7_rings 44 = .ok (.istore 6, 2) := by decide +kernel
theorem dX7_rings_46 : decode cX7_rings 46 = .ok (.iload 6, 2) := by decide +kernel
theorem dX7_rings_48 : decode cX7_rings 48 = .ok (.ifCond .lt 43, 3) := by decide +kernel
theorem dX7_rings_51 : decode cX7_rings 51 = .ok (.aload_n 1, 1) := by decide +kernel
theorem dX7_rings_52 : decode cX7_rings 52 = .ok (.iconst 1, 1) := by decide +kernel
theorem dX7_rings_53 : decode cX7_rings 53 = .ok (.iaload, 1) := by decide +kernel
theorem dX7_rings_54 : decode cX7_rings 54 = .ok (.aload_n 1, 1) := by decide +kernel
theorem dX7_rings_55 : decode cX7_rings 55 = .ok (.bipush 34, 2) := by decide +kernel
theorem dX7_rings_57 : decode cX7_rings 57 = .ok (.iconst 2, 1) := by decide +kernel
theorem dX7_rings_58 : decode cX7_rings 58 = .ok (.iload 4, 2) := by decide +kernel
theorem dX7_rings_60 : decode cX7_rings 60 = .ok (.imul, 1) := by decide +kernel
theorem dX7_rings_61 : decode cX7_rings 61 = .ok (.iadd, 1) := by decide +kernel
theorem dX7_rings_62 : decode cX7_rings 62 = .ok (.iload 6, 2) := by decide +kernel
theorem dX7_rings_64 : decode cX7_rings 64 = .ok (.iadd, 1) := by decide +kernel
theorem dX7_rings_65 : decode cX7_rings 65 = .ok (.iaload, 1) := by decide +kernel
theorem dX7_rings_66 : decode cX7_rings 66 = .ok (.isub, 1) := by decide +kernel
theorem dX7_rings_67 : decode cX7_rings 67 = .ok (.aload_n 0, 1) := by decide +kernel
theorem dX7_rings_68 : decode cX7_rings 68 = .ok (.getfield 7, 3) := by decide +kernel
theorem dX7_rings_71 : decode cX7_rings 71 = .ok (.iconst 2, 1) := by decide +kernel
theorem dX7_rings_72 : decode cX7_rings 72 = .ok (.iaload, 1) := by decide +kernel
theorem dX7_rings_73 : decode cX7_rings 73 = .ok (.if_icmp .le 8, 3) := by decide +kernel
theorem dX7_rings_76 : decode cX7_rings 76 = .ok (.iload 6, 2) := by decide +kernel
theorem dX7_rings_78 : decode cX7_rings 78 = .ok (.goto 5, 3) := by decide +kernel
theorem dX7_rings_81 : decode cX7_rings 81 = .ok (.iload 5, 2) := by decide +kernel
theorem dX7_rings_83 : decode cX7_rings 83 = .ok (.istore 5, 2) := by decide +kernel
theorem dX7_rings_85 : decode cX7_rings 85 = .ok (.iinc 6 (-1), 3) := by decide +kernel
theorem dX7_rings_88 : decode cX7_rings 88 = .ok (.goto (-42), 3) := by decide +kernel
theorem dX7_rings_91 : decode cX7_rings 91 = .ok (.iload 5, 2) := by decide +kernel
theorem dX7_rings_93 : decode cX7_rings 93 = .ok (.ifCond .ge 17, 3) := by decide +kernel
theorem dX7_rings_96 : decode cX7_rings 96 = .ok (.aload_n 1, 1) := by decide +kernel
theorem dX7_rings_97 : decode cX7_rings 97 = .ok (.bipush 58, 2) := by decide +kernel
theorem dX7_rings_99 : decode cX7_rings 99 = .ok (.iload 4, 2) := by decide +kernel
theorem dX7_rings_101 : decode cX7_rings 101 = .ok (.iadd, 1) := by decide +kernel
theorem dX7_rings_102 : decode cX7_rings 102 = .ok (.dup2, 1) := by decide +kernel
theorem dX7_rings_103 : decode cX7_rings 103 = .ok (.iaload, 1) := by decide +kernel
theorem dX7_rings_104 : decode cX7_rings 104 = .ok (.iconst 1, 1) := by decide +kernel
theorem dX7_rings_105 : decode cX7_rings 105 = .ok (.iadd, 1) := by decide +kernel
theorem dX7_rings_106 : decode cX7_rings 106 = .ok (.iastore, 1) := by decide +kernel
theorem dX7_rings_107 : decode cX7_rings 107 = .ok (.goto 36, 3) := by decide +kernel
theorem dX7_rings_110 : decode cX7_rings 110 = .ok (.aload_n 1, 1) := by decide +kernel
theorem dX7_rings_111 : decode cX7_rings 111 = .ok (.bipush 34, 2) := by decide +kernel
theorem dX7_rings_113 : decode cX7_rings 113 = .ok (.iconst 2, 1) := by decide +kernel
theorem dX7_rings_114 : decode cX7_rings 114 = .ok (.iload 4, 2) := by decide +kernel
theorem dX7_rings_116 : decode cX7_rings 116 = .ok (.imul, 1) := by decide +kernel
theorem dX7_rings_117 : decode cX7_rings 117 = .ok (.iadd, 1) := by decide +kernel
theorem dX7_rings_118 : decode cX7_rings 118 = .ok (.iload 5, 2) := by decide +kernel
theorem dX7_rings_120 : decode cX7_rings 120 = .ok (.iadd, 1) := by decide +kernel
theorem dX7_rings_121 : decode cX7_rings 121 = .ok (.aload_n 1, 1) := by decide +kernel
theorem dX7_rings_122 : decode cX7_rings 122 = .ok (.iconst 1, 1) := by decide +kernel
theorem dX7_rings_123 : decode cX7_rings 123 = .ok (.iaload, 1) := by decide +kernel
theorem dX7_rings_124 : decode cX7_rings 124 = .ok (.iastore, 1) := by decide +kernel
theorem dX7_rings_125 : decode cX7_rings 125 = .ok (.aload_n 1, 1) := by decide +kernel
theorem dX7_rings_126 : decode cX7_rings 126 = .ok (.bipush 50, 2) := by decide +kernel
theorem dX7_rings_128 : decode cX7_rings 128 = .ok (.iload 4, 2) := by decide +kernel
theorem dX7_rings_130 : decode cX7_rings 130 = .ok (.iadd, 1) := by decide +kernel
theorem dX7_rings_131 : decode cX7_rings 131 = .ok (.dup2, 1) := by decide +kernel
theorem dX7_rings_132 : decode cX7_rings 132 = .ok (.iaload, 1) := by decide +kernel
theorem dX7_rings_133 : decode cX7_rings 133 = .ok (.iconst 1, 1) := by decide +kernel
theorem dX7_rings_134 : decode cX7_rings 134 = .ok (.iadd, 1) := by decide +kernel
theorem dX7_rings_135 : decode cX7_rings 135 = .ok (.iastore, 1) := by decide +kernel
theorem dX7_rings_136 : decode cX7_rings 136 = .ok (.iload_n 3, 1) := by decide +kernel
theorem dX7_rings_137 : decode cX7_rings 137 = .ok (.iconst 1, 1) := by decide +kernel
theorem dX7_rings_138 : decode cX7_rings 138 = .ok (.iload 4, 2) := by decide +kernel
theorem dX7_rings_140 : decode cX7_rings 140 = .ok (.ishl, 1) := by decide +kernel
theorem dX7_rings_141 : decode cX7_rings 141 = .ok (.ior, 1) := by decide +kernel
theorem dX7_rings_142 : decode cX7_rings 142 = .ok (.istore_n 3, 1) := by decide +kernel
theorem dX7_rings_143 : decode cX7_rings 143 = .ok (.iinc 4 1, 3) := by decide +kernel
theorem dX7_rings_146 : decode cX7_rings 146 = .ok (.goto (-141), 3) := by decide +kernel
theorem dX7_rings_149 : decode cX7_rings 149 = .ok (.aload_n 1, 1) := by decide +kernel
theorem dX7_rings_150 : decode cX7_rings 150 = .ok (.iconst 1, 1) := by decide +kernel
theorem dX7_rings_151 : decode cX7_rings 151 = .ok (.dup2, 1) := by decide +kernel
theorem dX7_rings_152 : decode cX7_rings 152 = .ok (.iaload, 1) := by decide +kernel
theorem dX7_rings_153 : decode cX7_rings 153 = .ok (.iconst 1, 1) := by decide +kernel
theorem dX7_rings_154 : decode cX7_rings 154 = .ok (.iadd, 1) := by decide +kernel
theorem dX7_rings_155 : decode cX7_rings 155 = .ok (.iastore, 1) := by decide +kernel
theorem dX7_rings_156 : decode cX7_rings 156 = .ok (.aload_n 1, 1) := by decide +kernel
theorem dX7_rings_157 : decode cX7_rings 157 = .ok (.iconst 0, 1) := by decide +kernel
theorem dX7_rings_158 : decode cX7_rings 158 = .ok (.iload_n 2, 1) := by decide +kernel
theorem dX7_rings_159 : decode cX7_rings 159 = .ok (.iastore, 1) := by decide +kernel
theorem dX7_rings_160 : decode cX7_rings 160 = .ok (.iload_n 3, 1) := by decide +kernel
theorem dX7_rings_161 : decode cX7_rings 161 = .ok (.ireturn, 1) := by decide +kernel
theorem dX7_comesNext_0 : decode cX7_comesNext 0 = .ok (.aload_n 0, 1) := by decide +kernel
theorem dX7_comesNext_1 : decode cX7_comesNext 1 = .ok (.aload_n 1, 1) := by decide +kernel
theorem dX7_comesNext_2 : decode cX7_comesNext 2 = .ok (.aload_n 1, 1) := by decide +kernel
theorem dX7_comesNext_3 : decode cX7_comesNext 3 = .ok (.iconst 0, 1) := by decide +kernel
theorem dX7_comesNext_4 : decode cX7_comesNext 4 = .ok (.iaload, 1) := by decide +kernel
theorem dX7_comesNext_5 : decode cX7_comesNext 5 = .ok (.aload_n 0, 1) := by decide +kernel
theorem dX7_comesNext_6 : decode cX7_comesNext 6 = .ok (.getfield 7, 3) := by decide +kernel
theorem dX7_comesNext_9 : decode cX7_comesNext 9 = .ok (.iconst 1, 1) := by decide +kernel
theorem dX7_comesNext_10 : decode cX7_comesNext 10 = .ok (.iaload, 1) := by decide +kernel
theorem dX7_comesNext_11 : decode cX7_comesNext 11 = .ok (.iconst 1, 1) := by decide +kernel
theorem dX7_comesNext_12 : decode cX7_comesNext 12 = .ok (.isub, 1) := by decide +kernel
theorem dX7_comesNext_13 : decode cX7_comesNext 13 = .ok (.if_icmp .lt 7, 3) := by decide +kernel
theorem dX7_comesNext_16 : decode cX7_comesNext 16 = .ok (.iconst 0, 1) := by decide +kernel
theorem dX7_comesNext_17 : decode cX7_comesNext 17 = .ok (.goto 8, 3) := by decide +kernel
theorem dX7_comesNext_20 : decode cX7_comesNext 20 = .ok (.aload_n 1, 1) := by decide +kernel
theorem dX7_comesNext_21 : decode cX7_comesNext 21 = .ok (.iconst 0, 1) := by decide +kernel
theorem dX7_comesNext_22 : decode cX7_comesNext 22 = .ok (.iaload, 1) := by decide +kernel
theorem dX7_comesNext_23 : decode cX7_comesNext 23 = .ok (.iconst 1, 1) := by decide +kernel
theorem dX7_comesNext_24 : decode cX7_comesNext 24 = .ok (.iadd, 1) := by decide +kernel
theorem dX7_comesNext_25 : decode cX7_comesNext 25 = .ok (.invokevirtual 155, 3) := by decide +kernel
theorem dX7_comesNext_28 : decode cX7_comesNext 28 = .ok (.ireturn, 1) := by decide +kernel
theorem dX7_bell_0 : decode cX7_bell 0 = .ok (.aload_n 0, 1) := by decide +kernel
theorem dX7_bell_1 : decode cX7_bell 1 = .ok (.iload_n 1, 1) := by decide +kernel
theorem dX7_bell_2 : decode cX7_bell 2 = .ok (.invokevirtual 159, 3) := by decide +kernel
theorem dX7_bell_5 : decode cX7_bell 5 = .ok (.ifCond .ne 5, 3) := by decide +kernel
theorem dX7_bell_8 : decode cX7_bell 8 = .ok (.iconst (-1), 1) := by decide +kernel
theorem dX7_bell_9 : decode cX7_bell 9 = .ok (.ireturn, 1) := by decide +kernel
theorem dX7_bell_10 : decode cX7_bell 10 = .ok (.iconst 0, 1) := by decide +kernel
theorem dX7_bell_11 : decode cX7_bell 11 = .ok (.istore_n 3, 1) := by decide +kernel
theorem dX7_bell_12 : decode cX7_bell 12 = .ok (.iconst 0, 1) := by decide +kernel
theorem dX7_bell_13 : decode cX7_bell 13 = .ok (.istore 4, 2) := by decide +kernel
theorem dX7_bell_15 : decode cX7_bell 15 = .ok (.iload 4, 2) := by decide +kernel
theorem dX7_bell_17 : decode cX7_bell 17 = .ok (.aload_n 0, 1) := by decide +kernel
theorem dX7_bell_18 : decode cX7_bell 18 = .ok (.getfield 7, 3) := by decide +kernel
theorem dX7_bell_21 : decode cX7_bell 21 = .ok (.iconst 1, 1) := by decide +kernel
theorem dX7_bell_22 : decode cX7_bell 22 = .ok (.iaload, 1) := by decide +kernel
theorem dX7_bell_23 : decode cX7_bell 23 = .ok (.if_icmp .ge 33, 3) := by decide +kernel
theorem dX7_bell_26 : decode cX7_bell 26 = .ok (.iload_n 3, 1) := by decide +kernel
theorem dX7_bell_27 : decode cX7_bell 27 = .ok (.aload_n 0, 1) := by decide +kernel
theorem dX7_bell_28 : decode cX7_bell 28 = .ok (.getfield 19, 3) := by decide +kernel
theorem dX7_bell_31 : decode cX7_bell 31 = .ok (.iconst 2, 1) := by decide +kernel
theorem dX7_bell_32 : decode cX7_bell 32 = .ok (.iload 4, 2) := by decide +kernel
theorem dX7_bell_34 : decode cX7_bell 34 = .ok (.iadd, 1) := by decide +kernel
theorem dX7_bell_35 : decode cX7_bell 35 = .ok (.iaload, 1) := by decide +kernel
theorem dX7_bell_36 : decode cX7_bell 36 = .ok (.iload_n 1, 1) := by decide +kernel
theorem dX7_bell_37 : decode cX7_bell 37 = .ok (.invokestatic 152, 3) := by decide +kernel
theorem dX7_bell_40 : decode cX7_bell 40 = .ok (.ifCond .eq 7, 3) := by decide +kernel
theorem dX7_bell_43 : decode cX7_bell 43 = .ok (.iconst 1, 1) := by decide +kernel
theorem dX7_bell_44 : decode cX7_bell 44 = .ok (.goto 4, 3) := by decide +kernel
theorem dX7_bell_47 : decode cX7_bell 47 = .ok (.iconst 0, 1) := by decide +kernel
theorem dX7_bell_48 : decode cX7_bell 48 = .ok (.iadd, 1) := by decide +kernel
theorem dX7_bell_49 : decode cX7_bell 49 = .ok (.istore_n 3, 1) := by decide +kernel
theorem dX7_bell_50 : decode cX7_bell 50 = .ok (.iinc 4 1, 3) := by decide +kernel
theorem dX7_bell_53 : decode cX7_bell 53 = .ok (.goto (-38), 3) := by decide +kernel
theorem dX7_bell_56 : decode cX7_bell 56 = .ok (.iload_n 2, 1) := by decide +kernel
theorem dX7_bell_57 : decode cX7_bell 57 = .ok (.tableswitch 76 0 4 #[35, 44, 54, 56, 66], 35) := by decide +kernel
theorem dX7_bell_92 : decode cX7_bell 92 = .ok (.aload_n 0, 1) := by decide +kernel
theorem dX7_bell_93 : decode cX7_bell 93 = .ok (.getfield 7, 3) := by decide +kernel
theorem dX7_bell_96 : decode cX7_bell 96 = .ok (.iconst 3, 1) := by decide +kernel
theorem dX7_bell_97 : decode cX7_bell 97 = .ok (.iload_n 1, 1) := by decide +kernel
theorem dX7_bell_98 : decode cX7_bell 98 = .ok (.iadd, 1) := by decide +kernel
theorem dX7_bell_99 : decode cX7_bell 99 = .ok (.iaload, 1) := by decide +kernel
theorem dX7_bell_100 : decode cX7_bell 100 = .ok (.ireturn, 1) := by decide +kernel
theorem dX7_bell_101 : decode cX7_bell 101 = .ok (.aload_n 0, 1) := by decide +kernel
theorem dX7_bell_102 : decode cX7_bell 102 = .ok (.getfield 7, 3) := by decide +kernel
theorem dX7_bell_105 : decode cX7_bell 105 = .ok (.bipush 11, 2) := by decide +kernel
theorem dX7_bell_107 : decode cX7_bell 107 = .ok (.iload_n 1, 1) := by decide +kernel
theorem dX7_bell_108 : decode cX7_bell 108 = .ok (.iadd, 1) := by decide +kernel
theorem dX7_bell_109 : decode cX7_bell 109 = .ok (.iaload, 1) := by decide +kernel
theorem dX7_bell_110 : decode cX7_bell 110 = .ok (.ireturn, 1) := by decide +kernel
theorem dX7_bell_111 : decode cX7_bell 111 = .ok (.iload_n 3, 1) := by decide +kernel
theorem dX7_bell_112 : decode cX7_bell 112 = .ok (.ireturn, 1) := by decide +kernel
theorem dX7_bell_113 : decode cX7_bell 113 = .ok (.aload_n 0, 1) := by decide +kernel
theorem dX7_bell_114 : decode cX7_bell 114 = .ok (.getfield 19, 3) := by decide +kernel
theorem dX7_bell_117 : decode cX7_bell 117 = .ok (.bipush 50, 2) := by decide +kernel
theorem dX7_bell_119 : decode cX7_bell 119 = .ok (.iload_n 1, 1) := by decide +kernel
theorem dX7_bell_120 : decode cX7_bell 120 = .ok (.iadd, 1) := by decide +kernel
theorem dX7_bell_121 : decode cX7_bell 121 = .ok (.iaload, 1) := by decide +kernel
theorem dX7_bell_122 : decode cX7_bell 122 = .ok (.ireturn, 1) := by decide +kernel
theorem dX7_bell_123 : decode cX7_bell 123 = .ok (.aload_n 0, 1) := by decide +kernel
theorem dX7_bell_124 : decode cX7_bell 124 = .ok (.getfield 19, 3) := by decide +kernel
theorem dX7_bell_127 : decode cX7_bell 127 = .ok (.bipush 58, 2) := by decide +kernel
theorem dX7_bell_129 : decode cX7_bell 129 = .ok (.iload_n 1, 1) := by decide +kernel
theorem dX7_bell_130 : decode cX7_bell 130 = .ok (.iadd, 1) := by decide +kernel
theorem dX7_bell_131 : decode cX7_bell 131 = .ok (.iaload, 1) := by decide +kernel
theorem dX7_bell_132 : decode cX7_bell 132 = .ok (.ireturn, 1) := by decide +kernel
theorem dX7_bell_133 : decode cX7_bell 133 = .ok (.iconst (-1), 1) := by decide +kernel
theorem dX7_bell_134 : decode cX7_bell 134 = .ok (.ireturn, 1) := by decide +kernel
theorem dX7_pins_0 : decode cX7_pins 0 = .ok (.aload_n 0, 1) := by decide +kernel
theorem dX7_pins_1 : decode cX7_pins 1 = .ok (.iload_n 1, 1) := by decide +kernel
theorem dX7_pins_2 : decode cX7_pins 2 = .ok (.invokevirtual 162, 3) := by decide +kernel
theorem dX7_pins_5 : decode cX7_pins 5 = .ok (.ifCond .eq 14, 3) := by decide +kernel
theorem dX7_pins_8 : decode cX7_pins 8 = .ok (.aload_n 0, 1) := by decide +kernel
theorem dX7_pins_9 : decode cX7_pins 9 = .ok (.getfield 19, 3) := by decide +kernel
theorem dX7_pins_12 : decode cX7_pins 12 = .ok (.iconst 2, 1) := by decide +kernel
theorem dX7_pins_13 : decode cX7_pins 13 = .ok (.iload_n 1, 1) := by decide +kernel
theorem dX7_pins_14 : decode cX7_pins 14 = .ok (.iadd, 1) := by decide +kernel
theorem dX7_pins_15 : decode cX7_pins 15 = .ok (.iaload, 1) := by decide +kernel
theorem dX7_pins_16 : decode cX7_pins 16 = .ok (.goto 4, 3) := by decide +kernel
theorem dX7_pins_19 : decode cX7_pins 19 = .ok (.iconst (-1), 1) := by decide +kernel
theorem dX7_pins_20 : decode cX7_pins 20 = .ok (.ireturn, 1) := by decide +kernel
theorem dX7_copies_0 : decode cX7_copies 0 = .ok (.iconst 0, 1) := by decide +kernel
theorem dX7_copies_1 : decode cX7_copies 1 = .ok (.istore 4, 2) := by decide +kernel
theorem dX7_copies_3 : decode cX7_copies 3 = .ok (.iload 4, 2) := by decide +kernel
theorem dX7_copies_5 : decode cX7_copies 5 = .ok (.bipush 66, 2) := by decide +kernel
theorem dX7_copies_7 : decode cX7_copies 7 = .ok (.if_icmp .ge 21, 3) := by decide +kernel
theorem dX7_copies_10 : decode cX7_copies 10 = .ok (.aload_n 2, 1) := by decide +kernel
theorem dX7_copies_11 : decode cX7_copies 11 = .ok (.iload_n 3, 1) := by decide +kernel
theorem dX7_copies_12 : decode cX7_copies 12 = .ok (.iload 4, 2) := by decide +kernel
theorem dX7_copies_14 : decode cX7_copies 14 = .ok (.iadd, 1) := by decide +kernel
theorem dX7_copies_15 : decode cX7_copies 15 = .ok (.aload_n 0, 1) := by decide +kernel
theorem dX7_copies_16 : decode cX7_copies 16 = .ok (.iload_n 1, 1) := by decide +kernel
theorem dX7_copies_17 : decode cX7_copies 17 = .ok (.iload 4, 2) := by decide +kernel
theorem dX7_copies_19 : decode cX7_copies 19 = .ok (.iadd, 1) := by decide +kernel
theorem dX7_copies_20 : decode cX7_copies 20 = .ok (.iaload, 1) := by decide +kernel
theorem dX7_copies_21 : decode cX7_copies 21 = .ok (.iastore, 1) := by decide +kernel
theorem dX7_copies_22 : decode cX7_copies 22 = .ok (.iinc 4 1, 3) := by decide +kernel
theorem dX7_copies_25 : decode cX7_copies 25 = .ok (.goto (-22), 3) := by decide +kernel
theorem dX7_copies_28 : decode cX7_copies 28 = .ok (.return_, 1) := by decide +kernel
theorem dX7_remember_0 : decode cX7_remember 0 = .ok (.aload_n 0, 1) := by decide +kernel
theorem dX7_remember_1 : decode cX7_remember 1 = .ok (.getfield 143, 3) := by decide +kernel
theorem dX7_remember_4 : decode cX7_remember 4 = .ok (.bipush 8, 2) := by decide +kernel
theorem dX7_remember_6 : decode cX7_remember 6 = .ok (.if_icmp .ne 43, 3) := by decide +kernel
theorem dX7_remember_9 : decode cX7_remember 9 = .ok (.iconst 0, 1) := by decide +kernel
theorem dX7_remember_10 : decode cX7_remember 10 = .ok (.istore_n 1, 1) := by decide +kernel
theorem dX7_remember_11 : decode cX7_remember 11 = .ok (.iload_n 1, 1) := by decide +kernel
theorem dX7_remember_12 : decode cX7_remember 12 = .ok (.sipush 462, 3) := by decide +kernel
theorem dX7_remember_15 : decode cX7_remember 15 = .ok (.if_icmp .ge 24, 3) := by decide +kernel
theorem dX7_remember_18 : decode cX7_remember 18 = .ok (.aload_n 0, 1) := by decide +kernel
theorem dX7_remember_19 : decode cX7_remember 19 = .ok (.getfield 22, 3) := by decide +kernel
theorem dX7_remember_22 : decode cX7_remember 22 = .ok (.iload_n 1, 1) := by decide +kernel
theorem dX7_remember_23 : decode cX7_remember 23 = .ok (.aload_n 0, 1) := by decide +kernel
theorem dX7_remember_24 : decode cX7_remember 24 = .ok (.getfield 22, 3) := by decide +kernel
theorem dX7_remember_27 : decode cX7_remember 27 = .ok (.iload_n 1, 1) := by decide +kernel
theorem dX7_remember_28 : decode cX7_remember 28 = .ok (.bipush 66, 2) := by decide +kernel
theorem dX7_remember_30 : decode cX7_remember 30 = .ok (.iadd, 1) := by decide +kernel
theorem dX7_remember_31 : decode cX7_remember 31 = .ok (.iaload, 1) := by decide +kernel
theorem dX7_remember_32 : decode cX7_remember 32 = .ok (.iastore, 1) := by decide +kernel
theorem dX7_remember_33 : decode cX7_remember 33 = .ok (.iinc 1 1, 3) := by decide +kernel
theorem dX7_remember_36 : decode cX7_remember 36 = .ok (.goto (-25), 3) := by decide +kernel
theorem dX7_remember_39 : decode cX7_remember 39 = .ok (.aload_n 0, 1) := by decide +kernel
theorem dX7_remember_40 : decode cX7_remember 40 = .ok (.dup, 1) := by decide +kernel
theorem dX7_remember_41 : decode cX7_remember 41 = .ok (.getfield 143, 3) := by decide +kernel
theorem dX7_remember_44 : decode cX7_remember 44 = .ok (.iconst 1, 1) := by decide +kernel
theorem dX7_remember_45 : decode cX7_remember 45 = .ok (.isub, 1) := by decide +kernel
theorem dX7_remember_46 : decode cX7_remember 46 = .ok (.putfield 143, 3) := by decide +kernel
theorem dX7_remember_49 : decode cX7_remember 49 = .ok (.aload_n 0, 1) := by decide +kernel
theorem dX7_remember_50 : decode cX7_remember 50 = .ok (.getfield 19, 3) := by decide +kernel
theorem dX7_remember_53 : decode cX7_remember 53 = .ok (.iconst 0, 1) := by decide +kernel
theorem dX7_remember_54 : decode cX7_remember 54 = .ok (.aload_n 0, 1) := by decide +kernel
theorem dX7_remember_55 : decode cX7_remember 55 = .ok (.getfield 22, 3) := by decide +kernel
theorem dX7_remember_58 : decode cX7_remember 58 = .ok (.bipush 66, 2) := by decide +kernel
theorem dX7_remember_60 : decode cX7_remember 60 = .ok (.aload_n 0, 1) := by decide +kernel
theorem dX7_remember_61 : decode cX7_remember 61 = .ok (.getfield 143, 3) := by decide +kernel
theorem dX7_remember_64 : decode cX7_remember 64 = .ok (.imul, 1) := by decide +kernel
theorem dX7_remember_65 : decode cX7_remember 65 = .ok (.invokestatic 165, 3) := by decide +kernel
theorem dX7_remember_68 : decode cX7_remember 68 = .ok (.aload_n 0, 1) := by decide +kernel
theorem dX7_remember_69 : decode cX7_remember 69 = .ok (.dup, 1) := by decide +kernel
theorem dX7_remember_70 : decode cX7_remember 70 = .ok (.getfield 143, 3) := by decide +kernel
theorem dX7_remember_73 : decode cX7_remember 73 = .ok (.iconst 1, 1) := by decide +kernel
theorem dX7_remember_74 : decode cX7_remember 74 = .ok (.iadd, 1) := by decide +kernel
theorem dX7_remember_75 : decode cX7_remember 75 = .ok (.putfield 143, 3) := by decide +kernel
theorem dX7_remember_78 : decode cX7_remember 78 = .ok (.return_, 1) := by decide +kernel
theorem dX7_turn_0 : decode cX7_turn 0 = .ok (.aload_n 0, 1) := by decide +kernel
theorem dX7_turn_1 : decode cX7_turn 1 = .ok (.invokevirtual 169, 3) := by decide +kernel
theorem dX7_turn_4 : decode cX7_turn 4 = .ok (.aload_n 0, 1) := by decide +kernel
theorem dX7_turn_5 : decode cX7_turn 5 = .ok (.aload_n 0, 1) := by decide +kernel
theorem dX7_turn_6 : decode cX7_turn 6 = .ok (.getfield 19, 3) := by decide +kernel
theorem dX7_turn_9 : decode cX7_turn 9 = .ok (.invokevirtual 172, 3) := by decide +kernel
theorem dX7_turn_12 : decode cX7_turn 12 = .ok (.ireturn, 1) := by decide +kernel
theorem dX7_turnBack_0 : decode cX7_turnBack 0 = .ok (.aload_n 0, 1) := by decide +kernel
theorem dX7_turnBack_1 : decode cX7_turnBack 1 = .ok (.invokevirtual 169, 3) := by decide +kernel
theorem dX7_turnBack_4 : decode cX7_turnBack 4 = .ok (.aload_n 0, 1) := by decide +kernel
theorem dX7_turnBack_5 : decode cX7_turnBack 5 = .ok (.aload_n 0, 1) := by decide +kernel
theorem dX7_turnBack_6 : decode cX7_turnBack 6 = .ok (.getfield 19, 3) := by decide +kernel
theorem dX7_turnBack_9 : decode cX7_turnBack 9 = .ok (.aload_n 0, 1) := by decide +kernel
theorem dX7_turnBack_10 : decode cX7_turnBack 10 = .ok (.getfield 19, 3) := by decide +kernel
theorem dX7_turnBack_13 : decode cX7_turnBack 13 = .ok (.iconst 0, 1) := by decide +kernel
theorem dX7_turnBack_14 : decode cX7_turnBack 14 = .ok (.iaload, 1) := by decide +kernel
theorem dX7_turnBack_15 : decode cX7_turnBack 15 = .ok (.ifCond .ne 14, 3) := by decide +kernel
theorem dX7_turnBack_18 : decode cX7_turnBack 18 = .ok (.aload_n 0, 1) := by decide +kernel
theorem dX7_turnBack_19 : decode cX7_turnBack 19 = .ok (.getfield 7, 3) := by decide +kernel
theorem dX7_turnBack_22 : decode cX7_turnBack 22 = .ok (.iconst 1, 1) := by decide +kernel
theorem dX7_turnBack_23 : decode cX7_turnBack 23 = .ok (.iaload, 1) := by decide +kernel
theorem dX7_turnBack_24 : decode cX7_turnBack 24 = .ok (.iconst 1, 1) := by decide +kernel
theorem dX7_turnBack_25 : decode cX7_turnBack 25 = .ok (.isub, 1) := by decide +kernel
theorem dX7_turnBack_26 : decode cX7_turnBack 26 = .ok (.goto 11, 3) := by decide +kernel
theorem dX7_turnBack_29 : decode cX7_turnBack 29 = .ok (.aload_n 0, 1) := by decide +kernel
theorem dX7_turnBack_30 : decode cX7_turnBack 30 = .ok (.getfield 19, 3) := by decide +kernel
theorem dX7_turnBack_33 : decode cX7_turnBack 33 = .ok (.iconst 0, 1) := by decide +kernel
theorem dX7_turnBack_34 : decode cX7_turnBack 34 = .ok (.iaload, 1) := by decide +kernel
theorem dX7_turnBack_35 : decode cX7_turnBack 35 = .ok (.iconst 1, 1) := by decide +kernel
theorem dX7_turnBack_36 : decode cX7_turnBack 36 = .ok (.isub, 1) := by decide +kernel
theorem dX7_turnBack_37 : decode cX7_turnBack 37 = .ok (.invokevirtual 155, 3) := by decide +kernel
theorem dX7_turnBack_40 : decode cX7_turnBack 40 = .ok (.ireturn, 1) := by decide +kernel
theorem dX7_pin_0 : decode cX7_pin 0 = .ok (.aload_n 0, 1) := by decide +kernel
theorem dX7_pin_1 : decode cX7_pin 1 = .ok (.iload_n 1, 1) := by decide +kernel
theorem dX7_pin_2 : decode cX7_pin 2 = .ok (.invokevirtual 162, 3) := by decide +kernel
theorem dX7_pin_5 : decode cX7_pin 5 = .ok (.ifCond .eq 11, 3) := by decide +kernel
theorem dX7_pin_8 : decode cX7_pin 8 = .ok (.aload_n 0, 1) := by decide +kernel
theorem dX7_pin_9 : decode cX7_pin 9 = .ok (.iload_n 2, 1) := by decide +kernel
theorem dX7_pin_10 : decode cX7_pin 10 = .ok (.invokevirtual 159, 3) := by decide +kernel
theorem dX7_pin_13 : decode cX7_pin 13 = .ok (.ifCond .ne 5, 3) := by decide +kernel
theorem dX7_pin_16 : decode cX7_pin 16 = .ok (.iconst (-1), 1) := by decide +kernel
theorem dX7_pin_17 : decode cX7_pin 17 = .ok (.ireturn, 1) := by decide +kernel
theorem dX7_pin_18 : decode cX7_pin 18 = .ok (.aload_n 0, 1) := by decide +kernel
theorem dX7_pin_19 : decode cX7_pin 19 = .ok (.getfield 19, 3) := by decide +kernel
theorem dX7_pin_22 : decode cX7_pin 22 = .ok (.iconst 2, 1) := by decide +kernel
theorem dX7_pin_23 : decode cX7_pin 23 = .ok (.iload_n 1, 1) := by decide +kernel
theorem dX7_pin_24 : decode cX7_pin 24 = .ok (.iadd, 1) := by decide +kernel
theorem dX7_pin_25 : decode cX7_pin 25 = .ok (.iaload, 1) := by decide +kernel
theorem dX7_pin_26 : decode cX7_pin 26 = .ok (.iload_n 2, 1) := by decide +kernel
theorem dX7_pin_27 : decode cX7_pin 27 = .ok (.invokestatic 152, 3) := by decide +kernel
theorem dX7_pin_30 : decode cX7_pin 30 = .ok (.iload_n 3, 1) := by decide +kernel
theorem dX7_pin_31 : decode cX7_pin 31 = .ok (.if_icmp .ne 6, 3) := by decide +kernel
theorem dX7_pin_34 : decode cX7_pin 34 = .ok (.bipush (-2), 2) := by decide +kernel
theorem dX7_pin_36 : decode cX7_pin 36 = .ok (.ireturn, 1) := by decide +kernel
theorem dX7_pin_37 : decode cX7_pin 37 = .ok (.aload_n 0, 1) := by decide +kernel
theorem dX7_pin_38 : decode cX7_pin 38 = .ok (.invokevirtual 169, 3) := by decide +kernel
theorem dX7_pin_41 : decode cX7_pin 41 = .ok (.aload_n 0, 1) := by decide +kernel
theorem dX7_pin_42 : decode cX7_pin 42 = .ok (.getfield 19, 3) := by decide +kernel
theorem dX7_pin_45 : decode cX7_pin 45 = .ok (.iconst 2, 1) := by decide +kernel
theorem dX7_pin_46 : decode cX7_pin 46 = .ok (.iload_n 1, 1) := by decide +kernel
theorem dX7_pin_47 : decode cX7_pin 47 = .ok (.iadd, 1) := by decide +kernel
theorem dX7_pin_48 : decode cX7_pin 48 = .ok (.dup2, 1) := by decide +kernel
theorem dX7_pin_49 : decode cX7_pin 49 = .ok (.iaload, 1) := by decide +kernel
theorem dX7_pin_50 : decode cX7_pin 50 = .ok (.iconst 1, 1) := by decide +kernel
theorem dX7_pin_51 : decode cX7_pin 51 = .ok (.iload_n 2, 1) := by decide +kernel
theorem dX7_pin_52 : decode cX7_pin 52 = .ok (.ishl, 1) := by decide +kernel
theorem dX7_pin_53 : decode cX7_pin 53 = .ok (.ixor, 1) := by decide +kernel
theorem dX7_pin_54 : decode cX7_pin 54 = .ok (.iastore, 1) := by decide +kernel
theorem dX7_pin_55 : decode cX7_pin 55 = .ok (.aload_n 0, 1) := by decide +kernel
theorem dX7_pin_56 : decode cX7_pin 56 = .ok (.getfield 19, 3) := by decide +kernel
theorem dX7_pin_59 : decode cX7_pin 59 = .ok (.iconst 2, 1) := by decide +kernel
theorem dX7_pin_60 : decode cX7_pin 60 = .ok (.iload_n 1, 1) := by decide +kernel
theorem dX7_pin_61 : decode cX7_pin 61 = .ok (.iadd, 1) := by decide +kernel
theorem dX7_pin_62 : decode cX7_pin 62 = .ok (.iaload, 1) := by decide +kernel
theorem dX7_pin_63 : decode cX7_pin 63 = .ok (.invokestatic 114, 3) := by decide +kernel
theorem dX7_pin_66 : decode cX7_pin 66 = .ok (.ireturn, 1) := by decide +kernel
theorem dX7_shifted_0 : decode cX7_shifted 0 = .ok (.aload_n 0, 1) := by decide +kernel
theorem dX7_shifted_1 : decode cX7_shifted 1 = .ok (.getfield 19, 3) := by decide +kernel
theorem dX7_shifted_4 : decode cX7_shifted 4 = .ok (.iconst 2, 1) := by decide +kernel
theorem dX7_shifted_5 : decode cX7_shifted 5 = .ok (.iload_n 1, 1) := by decide +kernel
theorem dX7_shifted_6 : decode cX7_shifted 6 = .ok (.iload_n 2, 1) := by decide +kernel
theorem dX7_shifted_7 : decode cX7_shifted 7 = .ok (.isub, 1) := by decide +kernel
theorem dX7_shifted_8 : decode cX7_shifted 8 = .ok (.aload_n 0, 1) := by decide +kernel
theorem dX7_shifted_9 : decode cX7_shifted 9 = .ok (.getfield 7, 3) := by decide +kernel
theorem dX7_shifted_12 : decode cX7_shifted 12 = .ok (.iconst 1, 1) := by decide +kernel
theorem dX7_shifted_13 : decode cX7_shifted 13 = .ok (.iaload, 1) := by decide +kernel
theorem dX7_shifted_14 : decode cX7_shifted 14 = .ok (.iadd, 1) := by decide +kernel
theorem dX7_shifted_15 : decode cX7_shifted 15 = .ok (.aload_n 0, 1) := by decide +kernel
theorem dX7_shifted_16 : decode cX7_shifted 16 = .ok (.getfield 7, 3) := by decide +kernel
theorem dX7_shifted_19 : decode cX7_shifted 19 = .ok (.iconst 1, 1) := by decide +kernel
theorem dX7_shifted_20 : decode cX7_shifted 20 = .ok (.iaload, 1) := by decide +kernel
theorem dX7_shifted_21 : decode cX7_shifted 21 = .ok (.irem, 1) := by decide +kernel
theorem dX7_shifted_22 : decode cX7_shifted 22 = .ok (.iadd, 1) := by decide +kernel
theorem dX7_shifted_23 : decode cX7_shifted 23 = .ok (.iaload, 1) := by decide +kernel
theorem dX7_shifted_24 : decode cX7_shifted 24 = .ok (.ireturn, 1) := by decide +kernel
theorem dX7_shift_0 : decode cX7_shift 0 = .ok (.aload_n 0, 1) := by decide +kernel
theorem dX7_shift_1 : decode cX7_shift 1 = .ok (.iload_n 1, 1) := by decide +kernel
theorem dX7_shift_2 : decode cX7_shift 2 = .ok (.invokevirtual 162, 3) := by decide +kernel
theorem dX7_shift_5 : decode cX7_shift 5 = .ok (.ifCond .ne 5, 3) := by decide +kernel
theorem dX7_shift_8 : decode cX7_shift 8 = .ok (.iconst (-1), 1) := by decide +kernel
theorem dX7_shift_9 : decode cX7_shift 9 = .ok (.ireturn, 1) := by decide +kernel
theorem dX7_shift_10 : decode cX7_shift 10 = .ok (.aload_n 0, 1) := by decide +kernel
theorem dX7_shift_11 : decode cX7_shift 11 = .ok (.invokevirtual 169, 3) := by decide +kernel
theorem dX7_shift_14 : decode cX7_shift 14 = .ok (.iconst 0, 1) := by decide +kernel
theorem dX7_shift_15 : decode cX7_shift 15 = .ok (.istore_n 2, 1) := by decide +kernel
theorem dX7_shift_16 : decode cX7_shift 16 = .ok (.iload_n 2, 1) := by decide +kernel
theorem dX7_shift_17 : decode cX7_shift 17 = .ok (.aload_n 0, 1) := by decide +kernel
theorem dX7_shift_18 : decode cX7_shift 18 = .ok (.getfield 7, 3) := by decide +kernel
theorem dX7_shift_21 : decode cX7_shift 21 = .ok (.iconst 1, 1) := by decide +kernel
theorem dX7_shift_22 : decode cX7_shift 22 = .ok (.iaload, 1) := by decide +kernel
theorem dX7_shift_23 : decode cX7_shift 23 = .ok (.if_icmp .ge 21, 3) := by decide +kernel
theorem dX7_shift_26 : decode cX7_shift 26 = .ok (.aload_n 0, 1) := by decide +kernel
theorem dX7_shift_27 : decode cX7_shift 27 = .ok (.getfield 43, 3) := by decide +kernel
theorem dX7_shift_30 : decode cX7_shift 30 = .ok (.iload_n 2, 1) := by decide +kernel
theorem dX7_shift_31 : decode cX7_shift 31 = .ok (.aload_n 0, 1) := by decide +kernel
theorem dX7_shift_32 : decode cX7_shift 32 = .ok (.iload_n 2, 1) := by decide +kernel
theorem dX7_shift_33 : decode cX7_shift 33 = .ok (.iload_n 1, 1) := by decide +kernel
theorem dX7_shift_34 : decode cX7_shift 34 = .ok (.invokevirtual 176, 3) := by decide +kernel
theorem dX7_shift_37 : decode cX7_shift 37 = .ok (.iastore, 1) := by decide +kernel
theorem dX7_shift_38 : decode cX7_shift 38 = .ok (.iinc 2 1, 3) := by decide +kernel
theorem dX7_shift_41 : decode cX7_shift 41 = .ok (.goto (-25), 3) := by decide +kernel
theorem dX7_shift_44 : decode cX7_shift 44 = .ok (.iconst 0, 1) := by decide +kernel
theorem dX7_shift_45 : decode cX7_shift 45 = .ok (.istore_n 2, 1) := by decide +kernel
theorem dX7_shift_46 : decode cX7_shift 46 = .ok (.iload_n 2, 1) := by decide +kernel
theorem dX7_shift_47 : decode cX7_shift 47 = .ok (.aload_n 0, 1) := by decide +kernel
theorem dX7_shift_48 : decode cX7_shift 48 = .ok (.getfield 7, 3) := by decide +kernel
theorem dX7_shift_51 : decode cX7_shift 51 = .ok (.iconst 1, 1) := by decide +kernel
theorem dX7_shift_52 : decode cX7_shift 52 = .ok (.iaload, 1) := by decide +kernel
theorem dX7_shift_53 : decode cX7_shift 53 = .ok (.if_icmp .ge 23, 3) := by decide +kernel
theorem dX7_shift_56 : decode cX7_shift 56 = .ok (.aload_n 0, 1) := by decide +kernel
theorem dX7_shift_57 : decode cX7_shift 57 = .ok (.getfield 19, 3) := by decide +kernel
theorem dX7_shift_60 : decode cX7_shift 60 = .ok (.iconst 2, 1) := by decide +kernel
theorem dX7_shift_61 : decode cX7_shift 61 = .ok (.iload_n 2, 1) := by decide +kernel
theorem dX7_shift_62 : decode cX7_shift 62 = .ok (.iadd, 1) := by decide +kernel
theorem dX7_shift_63 : decode cX7_shift 63 = .ok (.aload_n 0, 1) := by decide +kernel
theorem dX7_shift_64 : decode cX7_shift 64 = .ok (.getfield 43, 3) := by decide +kernel
theorem dX7_shift_67 : decode cX7_shift 67 = .ok (.iload_n 2, 1) := by decide +kernel
theorem dX7_shift_68 : decode cX7_shift 68 = .ok (.iaload, 1) := by decide +kernel
theorem dX7_shift_69 : decode cX7_shift 69 = .ok (.iastore, 1) := by decide +kernel
theorem dX7_shift_70 : decode cX7_shift 70 = .ok (.iinc 2 1, 3) := by decide +kernel
theorem dX7_shift_73 : decode cX7_shift 73 = .ok (.goto (-27), 3) := by decide +kernel
theorem dX7_shift_76 : decode cX7_shift 76 = .ok (.aload_n 0, 1) := by decide +kernel
theorem dX7_shift_77 : decode cX7_shift 77 = .ok (.getfield 19, 3) := by decide +kernel
theorem dX7_shift_80 : decode cX7_shift 80 = .ok (.iconst 2, 1) := by decide +kernel
theorem dX7_shift_81 : decode cX7_shift 81 = .ok (.iaload, 1) := by decide +kernel
theorem dX7_shift_82 : decode cX7_shift 82 = .ok (.ireturn, 1) := by decide +kernel
theorem dX7_undo_0 : decode cX7_undo 0 = .ok (.aload_n 0, 1) := by decide +kernel
theorem dX7_undo_1 : decode cX7_undo 1 = .ok (.getfield 143, 3) := by decide +kernel
theorem dX7_undo_4 : decode cX7_undo 4 = .ok (.ifCond .ne 6, 3) := by decide +kernel
theorem dX7_undo_7 : decode cX7_undo 7 = .ok (.bipush (-2), 2) := by decide +kernel
theorem dX7_undo_9 : decode cX7_undo 9 = .ok (.ireturn, 1) := by decide +kernel
theorem dX7_undo_10 : decode cX7_undo 10 = .ok (.aload_n 0, 1) := by decide +kernel
theorem dX7_undo_11 : decode cX7_undo 11 = .ok (.dup, 1) := by decide +kernel
theorem dX7_undo_12 : decode cX7_undo 12 = .ok (.getfield 143, 3) := by decide +kernel
theorem dX7_undo_15 : decode cX7_undo 15 = .ok (.iconst 1, 1) := by decide +kernel
theorem dX7_undo_16 : decode cX7_undo 16 = .ok (.isub, 1) := by decide +kernel
theorem dX7_undo_17 : decode cX7_undo 17 = .ok (.putfield 143, 3) := by decide +kernel
theorem dX7_undo_20 : decode cX7_undo 20 = .ok (.aload_n 0, 1) := by decide +kernel
theorem dX7_undo_21 : decode cX7_undo 21 = .ok (.getfield 22, 3) := by decide +kernel
theorem dX7_undo_24 : decode cX7_undo 24 = .ok (.bipush 66, 2) := by decide +kernel
theorem dX7_undo_26 : decode cX7_undo 26 = .ok (.aload_n 0, 1) := by decide +kernel
theorem dX7_undo_27 : decode cX7_undo 27 = .ok (.getfield 143, 3) := by decide +kernel
theorem dX7_undo_30 : decode cX7_undo 30 = .ok (.imul, 1) := by decide +kernel
theorem dX7_undo_31 : decode cX7_undo 31 = .ok (.aload_n 0, 1) := by decide +kernel
theorem dX7_undo_32 : decode cX7_undo 32 = .ok (.getfield 19, 3) := by decide +kernel
theorem dX7_undo_35 : decode cX7_undo 35 = .ok (.iconst 0, 1) := by decide +kernel
theorem dX7_undo_36 : decode cX7_undo 36 = .ok (.invokestatic 165, 3) := by decide +kernel
theorem dX7_undo_39 : decode cX7_undo 39 = .ok (.aload_n 0, 1) := by decide +kernel
theorem dX7_undo_40 : decode cX7_undo 40 = .ok (.getfield 143, 3) := by decide +kernel
theorem dX7_undo_43 : decode cX7_undo 43 = .ok (.ireturn, 1) := by decide +kernel
theorem dX7_sumOf_0 : decode cX7_sumOf 0 = .ok (.iconst 0, 1) := by decide +kernel
theorem dX7_sumOf_1 : decode cX7_sumOf 1 = .ok (.istore_n 2, 1) := by decide +kernel
theorem dX7_sumOf_2 : decode cX7_sumOf 2 = .ok (.iconst 0, 1) := by decide +kernel
theorem dX7_sumOf_3 : decode cX7_sumOf 3 = .ok (.istore_n 3, 1) := by decide +kernel
theorem dX7_sumOf_4 : decode cX7_sumOf 4 = .ok (.iload_n 3, 1) := by decide +kernel
theorem dX7_sumOf_5 : decode cX7_sumOf 5 = .ok (.aload_n 0, 1) := by decide +kernel
theorem dX7_sumOf_6 : decode cX7_sumOf 6 = .ok (.getfield 7, 3) := by decide +kernel
theorem dX7_sumOf_9 : decode cX7_sumOf 9 = .ok (.iconst 0, 1) := by decide +kernel
theorem dX7_sumOf_10 : decode cX7_sumOf 10 = .ok (.iaload, 1) := by decide +kernel
theorem dX7_sumOf_11 : decode cX7_sumOf 11 = .ok (.if_icmp .ge 20, 3) := by decide +kernel
theorem dX7_sumOf_14 : decode cX7_sumOf 14 = .ok (.iload_n 2, 1) := by decide +kernel
theorem dX7_sumOf_15 : decode cX7_sumOf 15 = .ok (.aload_n 0, 1) := by decide +kernel
theorem dX7_sumOf_16 : decode cX7_sumOf 16 = .ok (.getfield 46, 3) := by decide +kernel
theorem dX7_sumOf_19 : decode cX7_sumOf 19 = .ok (.iload_n 1, 1) := by decide +kernel
theorem dX7_sumOf_20 : decode cX7_sumOf 20 = .ok (.iload_n 3, 1) := by decide +kernel
theorem dX7_sumOf_21 : decode cX7_sumOf 21 = .ok (.iadd, 1) := by decide +kernel
theorem dX7_sumOf_22 : decode cX7_sumOf 22 = .ok (.iaload, 1) := by decide +kernel
theorem dX7_sumOf_23 : decode cX7_sumOf 23 = .ok (.iadd, 1) := by decide +kernel
theorem dX7_sumOf_24 : decode cX7_sumOf 24 = .ok (.istore_n 2, 1) := by decide +kernel
theorem dX7_sumOf_25 : decode cX7_sumOf 25 = .ok (.iinc 3 1, 3) := by decide +kernel
theorem dX7_sumOf_28 : decode cX7_sumOf 28 = .ok (.goto (-24), 3) := by decide +kernel
theorem dX7_sumOf_31 : decode cX7_sumOf 31 = .ok (.iload_n 2, 1) := by decide +kernel
theorem dX7_sumOf_32 : decode cX7_sumOf 32 = .ok (.ireturn, 1) := by decide +kernel
theorem dX7_go_0 : decode cX7_go 0 = .ok (.iconst 0, 1) := by decide +kernel
theorem dX7_go_1 : decode cX7_go 1 = .ok (.istore_n 2, 1) := by decide +kernel
theorem dX7_go_2 : decode cX7_go 2 = .ok (.iload_n 2, 1) := by decide +kernel
theorem dX7_go_3 : decode cX7_go 3 = .ok (.iload_n 1, 1) := by decide +kernel
theorem dX7_go_4 : decode cX7_go 4 = .ok (.if_icmp .ge 18, 3) := by decide +kernel
theorem dX7_go_7 : decode cX7_go 7 = .ok (.aload_n 0, 1) := by decide +kernel
theorem dX7_go_8 : decode cX7_go 8 = .ok (.aload_n 0, 1) := by decide +kernel
theorem dX7_go_9 : decode cX7_go 9 = .ok (.getfield 46, 3) := by decide +kernel
theorem dX7_go_12 : decode cX7_go 12 = .ok (.invokevirtual 172, 3) := by decide +kernel
theorem dX7_go_15 : decode cX7_go 15 = .ok (.istore_n 3, 1) := by decide +kernel
theorem dX7_go_16 : decode cX7_go 16 = .ok (.iinc 2 1, 3) := by decide +kernel
theorem dX7_go_19 : decode cX7_go 19 = .ok (.goto (-17), 3) := by decide +kernel
theorem dX7_go_22 : decode cX7_go 22 = .ok (.return_, 1) := by decide +kernel
theorem dX7_whole_0 : decode cX7_whole 0 = .ok (.iload_n 1, 1) := by decide +kernel
theorem dX7_whole_1 : decode cX7_whole 1 = .ok (.i2l, 1) := by decide +kernel
theorem dX7_whole_2 : decode cX7_whole 2 = .ok (.lconst 0, 1) := by decide +kernel
theorem dX7_whole_3 : decode cX7_whole 3 = .ok (.ldc2_w 103, 3) := by decide +kernel
theorem dX7_whole_6 : decode cX7_whole 6 = .ok (.invokestatic 73, 3) := by decide +kernel
theorem dX7_whole_9 : decode cX7_whole 9 = .ok (.ifCond .ne 5, 3) := by decide +kernel
theorem dX7_whole_12 : decode cX7_whole 12 = .ok (.iconst (-1), 1) := by decide +kernel
theorem dX7_whole_13 : decode cX7_whole 13 = .ok (.ireturn, 1) := by decide +kernel
theorem dX7_whole_14 : decode cX7_whole 14 = .ok (.aload_n 0, 1) := by decide +kernel
theorem dX7_whole_15 : decode cX7_whole 15 = .ok (.getfield 19, 3) := by decide +kernel
theorem dX7_whole_18 : decode cX7_whole 18 = .ok (.iconst 0, 1) := by decide +kernel
theorem dX7_whole_19 : decode cX7_whole 19 = .ok (.aload_n 0, 1) := by decide +kernel
theorem dX7_whole_20 : decode cX7_whole 20 = .ok (.getfield 46, 3) := by decide +kernel
theorem dX7_whole_23 : decode cX7_whole 23 = .ok (.iconst 0, 1) := by decide +kernel
theorem dX7_whole_24 : decode cX7_whole 24 = .ok (.invokestatic 165, 3) := by decide +kernel
theorem dX7_whole_27 : decode cX7_whole 27 = .ok (.aload_n 0, 1) := by decide +kernel
theorem dX7_whole_28 : decode cX7_whole 28 = .ok (.iload_n 1, 1) := by decide +kernel
theorem dX7_whole_29 : decode cX7_whole 29 = .ok (.iconst 2, 1) := by decide +kernel
theorem dX7_whole_30 : decode cX7_whole 30 = .ok (.if_icmp .ne 15, 3) := by decide +kernel
theorem dX7_whole_33 : decode cX7_whole 33 = .ok (.bipush 8, 2) := by decide +kernel
theorem dX7_whole_35 : decode cX7_whole 35 = .ok (.aload_n 0, 1) := by decide +kernel
theorem dX7_whole_36 : decode cX7_whole 36 = .ok (.getfield 7, 3) := by decide +kernel
theorem dX7_whole_39 : decode cX7_whole 39 = .ok (.iconst 1, 1) := by decide +kernel
theorem dX7_whole_40 : decode cX7_whole 40 = .ok (.iaload, 1) := by decide +kernel
theorem dX7_whole_41 : decode cX7_whole 41 = .ok (.imul, 1) := by decide +kernel
theorem dX7_whole_42 : decode cX7_whole 42 = .ok (.goto 4, 3) := by decide +kernel
theorem dX7_whole_45 : decode cX7_whole 45 = .ok (.iconst 0, 1) := by decide +kernel
theorem dX7_whole_46 : decode cX7_whole 46 = .ok (.invokevirtual 180, 3) := by decide +kernel
theorem dX7_whole_49 : decode cX7_whole 49 = .ok (.iload_n 1, 1) := by decide +kernel
theorem dX7_whole_50 : decode cX7_whole 50 = .ok (.ifCond .ne 8, 3) := by decide +kernel
theorem dX7_whole_53 : decode cX7_whole 53 = .ok (.bipush 50, 2) := by decide +kernel
theorem dX7_whole_55 : decode cX7_whole 55 = .ok (.goto 5, 3) := by decide +kernel
theorem dX7_whole_58 : decode cX7_whole 58 = .ok (.bipush 58, 2) := by decide +kernel
theorem dX7_whole_60 : decode cX7_whole 60 = .ok (.istore_n 2, 1) := by decide +kernel
theorem dX7_whole_61 : decode cX7_whole 61 = .ok (.aload_n 0, 1) := by decide +kernel
theorem dX7_whole_62 : decode cX7_whole 62 = .ok (.iload_n 2, 1) := by decide +kernel
theorem dX7_whole_63 : decode cX7_whole 63 = .ok (.invokevirtual 184, 3) := by decide +kernel
theorem dX7_whole_66 : decode cX7_whole 66 = .ok (.istore_n 3, 1) := by decide +kernel
theorem dX7_whole_67 : decode cX7_whole 67 = .ok (.aload_n 0, 1) := by decide +kernel
theorem dX7_whole_68 : decode cX7_whole 68 = .ok (.aload_n 0, 1) := by decide +kernel
theorem dX7_whole_69 : decode cX7_whole 69 = .ok (.getfield 7, 3) := by decide +kernel
theorem dX7_whole_72 : decode cX7_whole 72 = .ok (.iconst 1, 1) := by decide +kernel
theorem dX7_whole_73 : decode cX7_whole 73 = .ok (.iaload, 1) := by decide +kernel
theorem dX7_whole_74 : decode cX7_whole 74 = .ok (.invokevirtual 180, 3) := by decide +kernel
theorem dX7_whole_77 : decode cX7_whole 77 = .ok (.aload_n 0, 1) := by decide +kernel
theorem dX7_whole_78 : decode cX7_whole 78 = .ok (.iload_n 2, 1) := by decide +kernel
theorem dX7_whole_79 : decode cX7_whole 79 = .ok (.invokevirtual 184, 3) := by decide +kernel
theorem dX7_whole_82 : decode cX7_whole 82 = .ok (.iload_n 3, 1) := by decide +kernel
theorem dX7_whole_83 : decode cX7_whole 83 = .ok (.isub, 1) := by decide +kernel
theorem dX7_whole_84 : decode cX7_whole 84 = .ok (.ireturn, 1) := by decide +kernel
theorem dX7_silence_0 : decode cX7_silence 0 = .ok (.iconst 0, 1) := by decide +kernel
theorem dX7_silence_1 : decode cX7_silence 1 = .ok (.istore_n 1, 1) := by decide +kernel
theorem dX7_silence_2 : decode cX7_silence 2 = .ok (.iconst 0, 1) := by decide +kernel
theorem dX7_silence_3 : decode cX7_silence 3 = .ok (.istore_n 2, 1) := by decide +kernel
theorem dX7_silence_4 : decode cX7_silence 4 = .ok (.iconst 0, 1) := by decide +kernel
theorem dX7_silence_5 : decode cX7_silence 5 = .ok (.istore_n 3, 1) := by decide +kernel
theorem dX7_silence_6 : decode cX7_silence 6 = .ok (.iload_n 3, 1) := by decide +kernel
theorem dX7_silence_7 : decode cX7_silence 7 = .ok (.iconst 2, 1) := by decide +kernel
theorem dX7_silence_8 : decode cX7_silence 8 = .ok (.aload_n 0, 1) := by decide +kernel
theorem dX7_silence_9 : decode cX7_silence 9 = .ok (.getfield 7, 3) := by decide +kernel
theorem dX7_silence_12 : decode cX7_silence 12 = .ok (.iconst 1, 1) := by decide +kernel
theorem dX7_silence_13 : decode cX7_silence 13 = .ok (.iaload, 1) := by decide +kernel
theorem dX7_silence_14 : decode cX7_silence 14 = .ok (.imul, 1) := by decide +kernel
theorem dX7_silence_15 : decode cX7_silence 15 = .ok (.if_icmp .ge 46, 3) := by decide +kernel
theorem dX7_silence_18 : decode cX7_silence 18 = .ok (.aload_n 0, 1) := by decide +kernel
theorem dX7_silence_19 : decode cX7_silence 19 = .ok (.getfield 19, 3) := by decide +kernel
theorem dX7_silence_22 : decode cX7_silence 22 = .ok (.iconst 2, 1) := by decide +kernel
theorem dX7_silence_23 : decode cX7_silence 23 = .ok (.iload_n 3, 1) := by decide +kernel
theorem dX7_silence_24 : decode cX7_silence 24 = .ok (.aload_n 0, 1) := by decide +kernel
theorem dX7_silence_25 : decode cX7_silence 25 = .ok (.getfield 7, 3) := by decide +kernel
theorem dX7_silence_28 : decode cX7_silence 28 = .ok (.iconst 1, 1) := by decide +kernel
theorem dX7_silence_29 : decode cX7_silence 29 = .ok (.iaload, 1) := by decide +kernel
theorem dX7_silence_30 : decode cX7_silence 30 = .ok (.irem, 1) := by decide +kernel
theorem dX7_silence_31 : decode cX7_silence 31 = .ok (.iadd, 1) := by decide +kernel
theorem dX7_silence_32 : decode cX7_silence 32 = .ok (.iaload, 1) := by decide +kernel
theorem dX7_silence_33 : decode cX7_silence 33 = .ok (.ifCond .ne 9, 3) := by decide +kernel
theorem dX7_silence_36 : decode cX7_silence 36 = .ok (.iload_n 2, 1) := by decide +kernel
theorem dX7_silence_37 : decode cX7_silence 37 = .ok (.iconst 1, 1) := by decide +kernel
theorem dX7_silence_38 : decode cX7_silence 38 = .ok (.iadd, 1) := by decide +kernel
theorem dX7_silence_39 : decode cX7_silence 39 = .ok (.goto 4, 3) := by decide +kernel
theorem dX7_silence_42 : decode cX7_silence 42 = .ok (.iconst 0, 1) := by decide +kernel
theorem dX7_silence_43 : decode cX7_silence 43 = .ok (.istore_n 2, 1) := by decide +kernel
theorem dX7_silence_44 : decode cX7_silence 44 = .ok (.iload_n 2, 1) := by decide +kernel
theorem dX7_silence_45 : decode cX7_silence 45 = .ok (.iload_n 1, 1) := by decide +kernel
theorem dX7_silence_46 : decode cX7_silence 46 = .ok (.if_icmp .le 7, 3) := by decide +kernel
theorem dX7_silence_49 : decode cX7_silence 49 = .ok (.iload_n 2, 1) := by decide +kernel
theorem dX7_silence_50 : decode cX7_silence 50 = .ok (.goto 4, 3) := by decide +kernel
theorem dX7_silence_53 : decode cX7_silence 53 = .ok (.iload_n 1, 1) := by decide +kernel
theorem dX7_silence_54 : decode cX7_silence 54 = .ok (.istore_n 1, 1) := by decide +kernel
theorem dX7_silence_55 : decode cX7_silence 55 = .ok (.iinc 3 1, 3) := by decide +kernel
theorem dX7_silence_58 : decode cX7_silence 58 = .ok (.goto (-52), 3) := by decide +kernel
theorem dX7_silence_61 : decode cX7_silence 61 = .ok (.iload_n 1, 1) := by decide +kernel
theorem dX7_silence_62 : decode cX7_silence 62 = .ok (.aload_n 0, 1) := by decide +kernel
theorem dX7_silence_63 : decode cX7_silence 63 = .ok (.getfield 7, 3) := by decide +kernel
theorem dX7_silence_66 : decode cX7_silence 66 = .ok (.iconst 1, 1) := by decide +kernel
theorem dX7_silence_67 : decode cX7_silence 67 = .ok (.iaload, 1) := by decide +kernel
theorem dX7_silence_68 : decode cX7_silence 68 = .ok (.if_icmp .le 12, 3) := by decide +kernel
theorem dX7_silence_71 : decode cX7_silence 71 = .ok (.aload_n 0, 1) := by decide +kernel
theorem dX7_silence_72 : decode cX7_silence 72 = .ok (.getfield 7, 3) := by decide +kernel
theorem dX7_silence_75 : decode cX7_silence 75 = .ok (.iconst 1, 1) := by decide +kernel
theorem dX7_silence_76 : decode cX7_silence 76 = .ok (.iaload, 1) := by decide +kernel
theorem dX7_silence_77 : decode cX7_silence 77 = .ok (.goto 4, 3) := by decide +kernel
theorem dX7_silence_80 : decode cX7_silence 80 = .ok (.iload_n 1, 1) := by decide +kernel
theorem dX7_silence_81 : decode cX7_silence 81 = .ok (.ireturn, 1) := by decide +kernel
theorem dX7_again_0 : decode cX7_again 0 = .ok (.iconst 1, 1) := by decide +kernel
theorem dX7_again_1 : decode cX7_again 1 = .ok (.istore_n 1, 1) := by decide +kernel
theorem dX7_again_2 : decode cX7_again 2 = .ok (.aload_n 0, 1) := by decide +kernel
theorem dX7_again_3 : decode cX7_again 3 = .ok (.iload_n 1, 1) := by decide +kernel
theorem dX7_again_4 : decode cX7_again 4 = .ok (.invokevirtual 187, 3) := by decide +kernel
theorem dX7_again_7 : decode cX7_again 7 = .ok (.ifCond .ne 9, 3) := by decide +kernel
theorem dX7_again_10 : decode cX7_again 10 = .ok (.iinc 1 1, 3) := by decide +kernel
theorem dX7_again_13 : decode cX7_again 13 = .ok (.goto (-11), 3) := by decide +kernel
theorem dX7_again_16 : decode cX7_again 16 = .ok (.iload_n 1, 1) := by decide +kernel
theorem dX7_again_17 : decode cX7_again 17 = .ok (.ireturn, 1) := by decide +kernel
theorem dX7_comesAgain_0 : decode cX7_comesAgain 0 = .ok (.iconst 1, 1) := by decide +kernel
theorem dX7_comesAgain_1 : decode cX7_comesAgain 1 = .ok (.istore_n 2, 1) := by decide +kernel
theorem dX7_comesAgain_2 : decode cX7_comesAgain 2 = .ok (.iconst 0, 1) := by decide +kernel
theorem dX7_comesAgain_3 : decode cX7_comesAgain 3 = .ok (.istore_n 3, 1) := by decide +kernel
theorem dX7_comesAgain_4 : decode cX7_comesAgain 4 = .ok (.iload_n 3, 1) := by decide +kernel
theorem dX7_comesAgain_5 : decode cX7_comesAgain 5 = .ok (.aload_n 0, 1) := by decide +kernel
theorem dX7_comesAgain_6 : decode cX7_comesAgain 6 = .ok (.getfield 7, 3) := by decide +kernel
theorem dX7_comesAgain_9 : decode cX7_comesAgain 9 = .ok (.iconst 1, 1) := by decide +kernel
theorem dX7_comesAgain_10 : decode cX7_comesAgain 10 = .ok (.iaload, 1) := by decide +kernel
theorem dX7_comesAgain_11 : decode cX7_comesAgain 11 = .ok (.if_icmp .ge 43, 3) := by decide +kernel
theorem dX7_comesAgain_14 : decode cX7_comesAgain 14 = .ok (.iload_n 2, 1) := by decide +kernel
theorem dX7_comesAgain_15 : decode cX7_comesAgain 15 = .ok (.ifCond .eq 31, 3) := by decide +kernel
theorem dX7_comesAgain_18 : decode cX7_comesAgain 18 = .ok (.aload_n 0, 1) := by decide +kernel
theorem dX7_comesAgain_19 : decode cX7_comesAgain 19 = .ok (.iload_n 3, 1) := by decide +kernel
theorem dX7_comesAgain_20 : decode cX7_comesAgain 20 = .ok (.iload_n 1, 1) := by decide +kernel
theorem dX7_comesAgain_21 : decode cX7_comesAgain 21 = .ok (.aload_n 0, 1) := by decide +kernel
theorem dX7_comesAgain_22 : decode cX7_comesAgain 22 = .ok (.getfield 7, 3) := by decide +kernel
theorem dX7_comesAgain_25 : decode cX7_comesAgain 25 = .ok (.iconst 1, 1) := by decide +kernel
theorem dX7_comesAgain_26 : decode cX7_comesAgain 26 = .ok (.iaload, 1) := by decide +kernel
theorem dX7_comesAgain_27 : decode cX7_comesAgain 27 = .ok (.irem, 1) := by decide +kernel
theorem dX7_comesAgain_28 : decode cX7_comesAgain 28 = .ok (.invokevirtual 176, 3) := by decide +kernel
theorem dX7_comesAgain_31 : decode cX7_comesAgain 31 = .ok (.aload_n 0, 1) := by decide +kernel
theorem dX7_comesAgain_32 : decode cX7_comesAgain 32 = .ok (.getfield 19, 3) := by decide +kernel
theorem dX7_comesAgain_35 : decode cX7_comesAgain 35 = .ok (.iconst 2, 1) := by decide +kernel
theorem dX7_comesAgain_36 : decode cX7_comesAgain 36 = .ok (.iload_n 3, 1) := by decide +kernel
theorem dX7_comesAgain_37 : decode cX7_comesAgain 37 = .ok (.iadd, 1) := by decide +kernel
theorem dX7_comesAgain_38 : decode cX7_comesAgain 38 = .ok (.iaload, 1) := by decide +kernel
theorem dX7_comesAgain_39 : decode cX7_comesAgain 39 = .ok (.if_icmp .ne 7, 3) := by decide +kernel
theorem dX7_comesAgain_42 : decode cX7_comesAgain 42 = .ok (.iconst 1, 1) := by decide +kernel
theorem dX7_comesAgain_43 : decode cX7_comesAgain 43 = .ok (.goto 4, 3) := by decide +kernel
theorem dX7_comesAgain_46 : decode cX7_comesAgain 46 = .ok (.iconst 0, 1) := by decide +kernel
theorem dX7_comesAgain_47 : decode cX7_comesAgain 47 = .ok (.istore_n 2, 1) := by decide +kernel
theorem dX7_comesAgain_48 : decode cX7_comesAgain 48 = .ok (.iinc 3 1, 3) := by decide +kernel
theorem dX7_comesAgain_51 : decode cX7_comesAgain 51 = .ok (.goto (-47), 3) := by decide +kernel
theorem dX7_comesAgain_54 : decode cX7_comesAgain 54 = .ok (.iload_n 2, 1) := by decide +kernel
theorem dX7_comesAgain_55 : decode cX7_comesAgain 55 = .ok (.ireturn, 1) := by decide +kernel
theorem dX7_isIll_0 : decode cX7_isIll 0 = .ok (.aload_n 0, 1) := by decide +kernel
theorem dX7_isIll_1 : decode cX7_isIll 1 = .ok (.getfield 7, 3) := by decide +kernel
theorem dX7_isIll_4 : decode cX7_isIll 4 = .ok (.iconst 3, 1) := by decide +kernel
theorem dX7_isIll_5 : decode cX7_isIll 5 = .ok (.iload_n 1, 1) := by decide +kernel
theorem dX7_isIll_6 : decode cX7_isIll 6 = .ok (.iadd, 1) := by decide +kernel
theorem dX7_isIll_7 : decode cX7_isIll 7 = .ok (.iaload, 1) := by decide +kernel
theorem dX7_isIll_8 : decode cX7_isIll 8 = .ok (.aload_n 0, 1) := by decide +kernel
theorem dX7_isIll_9 : decode cX7_isIll 9 = .ok (.getfield 7, 3) := by decide +kernel
theorem dX7_isIll_12 : decode cX7_isIll 12 = .ok (.iconst 3, 1) := by decide +kernel
theorem dX7_isIll_13 : decode cX7_isIll 13 = .ok (.iload_n 2, 1) := by decide +kernel
theorem dX7_isIll_14 : decode cX7_isIll 14 = .ok (.iadd, 1) := by decide +kernel
theorem dX7_isIll_15 : decode cX7_isIll 15 = .ok (.iaload, 1) := by decide +kernel
theorem dX7_isIll_16 : decode cX7_isIll 16 = .ok (.isub, 1) := by decide +kernel
theorem dX7_isIll_17 : decode cX7_isIll 17 = .ok (.istore_n 3, 1) := by decide +kernel
theorem dX7_isIll_18 : decode cX7_isIll 18 = .ok (.iload_n 3, 1) := by decide +kernel
theorem dX7_isIll_19 : decode cX7_isIll 19 = .ok (.ifCond .ge 8, 3) := by decide +kernel
theorem dX7_isIll_22 : decode cX7_isIll 22 = .ok (.iload_n 3, 1) := by decide +kernel
theorem dX7_isIll_23 : decode cX7_isIll 23 = .ok (.ineg, 1) := by decide +kernel
theorem dX7_isIll_24 : decode cX7_isIll 24 = .ok (.goto 4, 3) := by decide +kernel
theorem dX7_isIll_27 : decode cX7_isIll 27 = .ok (.iload_n 3, 1) := by decide +kernel
theorem dX7_isIll_28 : decode cX7_isIll 28 = .ok (.bipush 12, 2) := by decide +kernel
theorem dX7_isIll_30 : decode cX7_isIll 30 = .ok (.irem, 1) := by decide +kernel
theorem dX7_isIll_31 : decode cX7_isIll 31 = .ok (.istore_n 3, 1) := by decide +kernel
theorem dX7_isIll_32 : decode cX7_isIll 32 = .ok (.iload_n 3, 1) := by decide +kernel
theorem dX7_isIll_33 : decode cX7_isIll 33 = .ok (.iconst 1, 1) := by decide +kernel
theorem dX7_isIll_34 : decode cX7_isIll 34 = .ok (.if_icmp .eq 26, 3) := by decide +kernel
theorem dX7_isIll_37 : decode cX7_isIll 37 = .ok (.iload_n 3, 1) := by decide +kernel
theorem dX7_isIll_38 : decode cX7_isIll 38 = .ok (.iconst 2, 1) := by decide +kernel
theorem dX7_isIll_39 : decode cX7_isIll 39 = .ok (.if_icmp .eq 21, 3) := by decide +kernel
theorem dX7_isIll_42 : decode cX7_isIll 42 = .ok (.iload_n 3, 1) := by decide +kernel
theorem dX7_isIll_43 : decode cX7_isIll 43 = .ok (.bipush 6, 2) := by decide +kernel
theorem dX7_isIll_45 : decode cX7_isIll 45 = .ok (.if_icmp .eq 15, 3) := by decide +kernel
theorem dX7_isIll_48 : decode cX7_isIll 48 = .ok (.iload_n 3, 1) := by decide +kernel
theorem dX7_isIll_49 : decode cX7_isIll 49 = .ok (.bipush 10, 2) := by decide +kernel
theorem dX7_isIll_51 : decode cX7_isIll 51 = .ok (.if_icmp .eq 9, 3) := by decide +kernel
theorem dX7_isIll_54 : decode cX7_isIll 54 = .ok (.iload_n 3, 1) := by decide +kernel
theorem dX7_isIll_55 : decode cX7_isIll 55 = .ok (.bipush 11, 2) := by decide +kernel
theorem dX7_isIll_57 : decode cX7_isIll 57 = .ok (.if_icmp .ne 7, 3) := by decide +kernel
theorem dX7_isIll_60 : decode cX7_isIll 60 = .ok (.iconst 1, 1) := by decide +kernel
theorem dX7_isIll_61 : decode cX7_isIll 61 = .ok (.goto 4, 3) := by decide +kernel
theorem dX7_isIll_64 : decode cX7_isIll 64 = .ok (.iconst 0, 1) := by decide +kernel
theorem dX7_isIll_65 : decode cX7_isIll 65 = .ok (.ireturn, 1) := by decide +kernel
theorem dX7_illOf_0 : decode cX7_illOf 0 = .ok (.iconst 0, 1) := by decide +kernel
theorem dX7_illOf_1 : decode cX7_illOf 1 = .ok (.istore_n 3, 1) := by decide +kernel
theorem dX7_illOf_2 : decode cX7_illOf 2 = .ok (.iconst 0, 1) := by decide +kernel
theorem dX7_illOf_3 : decode cX7_illOf 3 = .ok (.istore 4, 2) := by decide +kernel
theorem dX7_illOf_5 : decode cX7_illOf 5 = .ok (.iload 4, 2) := by decide +kernel
theorem dX7_illOf_7 : decode cX7_illOf 7 = .ok (.aload_n 0, 1) := by decide +kernel
theorem dX7_illOf_8 : decode cX7_illOf 8 = .ok (.getfield 7, 3) := by decide +kernel
theorem dX7_illOf_11 : decode cX7_illOf 11 = .ok (.iconst 0, 1) := by decide +kernel
theorem dX7_illOf_12 : decode cX7_illOf 12 = .ok (.iaload, 1) := by decide +kernel
theorem dX7_illOf_13 : decode cX7_illOf 13 = .ok (.if_icmp .ge 66, 3) := by decide +kernel
theorem dX7_illOf_16 : decode cX7_illOf 16 = .ok (.iconst 0, 1) := by decide +kernel
theorem dX7_illOf_17 : decode cX7_illOf 17 = .ok (.istore 5, 2) := by decide +kernel
theorem dX7_illOf_19 : decode cX7_illOf 19 = .ok (.iload 5, 2) := by decide +kernel
theorem dX7_illOf_21 : decode cX7_illOf 21 = .ok (.aload_n 0, 1) := by decide +kernel
theorem dX7_illOf_22 : decode cX7_illOf 22 = .ok (.getfield 7, 3) := by decide +kernel
theorem dX7_illOf_25 : decode cX7_illOf 25 = .ok (.iconst 0, 1) := by decide +kernel
theorem dX7_illOf_26 : decode cX7_illOf 26 = .ok (.iaload, 1) := by decide +kernel
theorem dX7_illOf_27 : decode cX7_illOf 27 = .ok (.if_icmp .ge 46, 3) := by decide +kernel
theorem dX7_illOf_30 : decode cX7_illOf 30 = .ok (.iload_n 3, 1) := by decide +kernel
theorem dX7_illOf_31 : decode cX7_illOf 31 = .ok (.iload_n 1, 1) := by decide +kernel
theorem dX7_illOf_32 : decode cX7_illOf 32 = .ok (.iload 4, 2) := by decide +kernel
theorem dX7_illOf_34 : decode cX7_illOf 34 = .ok (.invokestatic 152, 3) := by decide +kernel
theorem dX7_illOf_37 : decode cX7_illOf 37 = .ok (.ifCond .eq 27, 3) := by decide +kernel
theorem dX7_illOf_40 : decode cX7_illOf 40 = .ok (.iload_n 2, 1) := by decide +kernel
theorem dX7_illOf_41 : decode cX7_illOf 41 = .ok (.iload 5, 2) := by decide +kernel
theorem dX7_illOf_43 : decode cX7_illOf 43 = .ok (.invokestatic 152, 3) := by decide +kernel
theorem dX7_illOf_46 : decode cX7_illOf 46 = .ok (.ifCond .eq 18, 3) := by decide +kernel
theorem dX7_illOf_49 : decode cX7_illOf 49 = .ok (.aload_n 0, 1) := by decide +kernel
theorem dX7_illOf_50 : decode cX7_illOf 50 = .ok (.iload 4, 2) := by decide +kernel
theorem dX7_illOf_52 : decode cX7_illOf 52 = .ok (.iload 5, 2) := by decide +kernel
theorem dX7_illOf_54 : decode cX7_illOf 54 = .ok (.invokevirtual 190, 3) := by decide +kernel
theorem dX7_illOf_57 : decode cX7_illOf 57 = .ok (.ifCond .eq 7, 3) := by decide +kernel
theorem dX7_illOf_60 : decode cX7_illOf 60 = .ok (.iconst 1, 1) := by decide +kernel
theorem dX7_illOf_61 : decode cX7_illOf 61 = .ok (.goto 4, 3) := by decide +kernel
theorem dX7_illOf_64 : decode cX7_illOf 64 = .ok (.iconst 0, 1) := by decide +kernel
theorem dX7_illOf_65 : decode cX7_illOf 65 = .ok (.iadd, 1) := by decide +kernel
theorem dX7_illOf_66 : decode cX7_illOf 66 = .ok (.istore_n 3, 1) := by decide +kernel
theorem dX7_illOf_67 : decode cX7_illOf 67 = .ok (.iinc 5 1, 3) := by decide +kernel
theorem dX7_illOf_70 : decode cX7_illOf 70 = .ok (.goto (-51), 3) := by decide +kernel
theorem dX7_illOf_73 : decode cX7_illOf 73 = .ok (.iinc 4 1, 3) := by decide +kernel
theorem dX7_illOf_76 : decode cX7_illOf 76 = .ok (.goto (-71), 3) := by decide +kernel
theorem dX7_illOf_79 : decode cX7_illOf 79 = .ok (.iload_n 3, 1) := by decide +kernel
theorem dX7_illOf_80 : decode cX7_illOf 80 = .ok (.ireturn, 1) := by decide +kernel
theorem dX7_harsh_0 : decode cX7_harsh 0 = .ok (.iconst 0, 1) := by decide +kernel
theorem dX7_harsh_1 : decode cX7_harsh 1 = .ok (.istore_n 1, 1) := by decide +kernel
theorem dX7_harsh_2 : decode cX7_harsh 2 = .ok (.iconst 0, 1) := by decide +kernel
theorem dX7_harsh_3 : decode cX7_harsh 3 = .ok (.istore_n 2, 1) := by decide +kernel
theorem dX7_harsh_4 : decode cX7_harsh 4 = .ok (.iload_n 2, 1) := by decide +kernel
theorem dX7_harsh_5 : decode cX7_harsh 5 = .ok (.aload_n 0, 1) := by decide +kernel
theorem dX7_harsh_6 : decode cX7_harsh 6 = .ok (.getfield 7, 3) := by decide +kernel
theorem dX7_harsh_9 : decode cX7_harsh 9 = .ok (.iconst 1, 1) := by decide +kernel
theorem dX7_harsh_10 : decode cX7_harsh 10 = .ok (.iaload, 1) := by decide +kernel
theorem dX7_harsh_11 : decode cX7_harsh 11 = .ok (.if_icmp .ge 34, 3) := by decide +kernel
theorem dX7_harsh_14 : decode cX7_harsh 14 = .ok (.iload_n 1, 1) := by decide +kernel
theorem dX7_harsh_15 : decode cX7_harsh 15 = .ok (.aload_n 0, 1) := by decide +kernel
theorem dX7_harsh_16 : decode cX7_harsh 16 = .ok (.aload_n 0, 1) := by decide +kernel
theorem dX7_harsh_17 : decode cX7_harsh 17 = .ok (.getfield 19, 3) := by decide +kernel
theorem dX7_harsh_20 : decode cX7_harsh 20 = .ok (.iconst 2, 1) := by decide +kernel
theorem dX7_harsh_21 : decode cX7_harsh 21 = .ok (.iload_n 2, 1) := by decide +kernel
theorem dX7_harsh_22 : decode cX7_harsh 22 = .ok (.iadd, 1) := by decide +kernel
theorem dX7_harsh_23 : decode cX7_harsh 23 = .ok (.iaload, 1) := by decide +kernel
theorem dX7_harsh_24 : decode cX7_harsh 24 = .ok (.aload_n 0, 1) := by decide +kernel
theorem dX7_harsh_25 : decode cX7_harsh 25 = .ok (.getfield 19, 3) := by decide +kernel
theorem dX7_harsh_28 : decode cX7_harsh 28 = .ok (.iconst 2, 1) := by decide +kernel
theorem dX7_harsh_29 : decode cX7_harsh 29 = .ok (.iload_n 2, 1) := by decide +kernel
theorem dX7_harsh_30 : decode cX7_harsh 30 = .ok (.iadd, 1) := by decide +kernel
theorem dX7_harsh_31 : decode cX7_harsh 31 = .ok (.iaload, 1) := by decide +kernel
theorem dX7_harsh_32 : decode cX7_harsh 32 = .ok (.invokevirtual 193, 3) := by decide +kernel
theorem dX7_harsh_35 : decode cX7_harsh 35 = .ok (.iconst 2, 1) := by decide +kernel
theorem dX7_harsh_36 : decode cX7_harsh 36 = .ok (.idiv, 1) := by decide +kernel
theorem dX7_harsh_37 : decode cX7_harsh 37 = .ok (.iadd, 1) := by decide +kernel
theorem dX7_harsh_38 : decode cX7_harsh 38 = .ok (.istore_n 1, 1) := by decide +kernel
theorem dX7_harsh_39 : decode cX7_harsh 39 = .ok (.iinc 2 1, 3) := by decide +kernel
theorem dX7_harsh_42 : decode cX7_harsh 42 = .ok (.goto (-38), 3) := by decide +kernel
theorem dX7_harsh_45 : decode cX7_harsh 45 = .ok (.iload_n 1, 1) := by decide +kernel
theorem dX7_harsh_46 : decode cX7_harsh 46 = .ok (.ireturn, 1) := by decide +kernel
theorem dX7_canon_0 : decode cX7_canon 0 = .ok (.iload_n 1, 1) := by decide +kernel
theorem dX7_canon_1 : decode cX7_canon 1 = .ok (.invokestatic 196, 3) := by decide +kernel
theorem dX7_canon_4 : decode cX7_canon 4 = .ok (.ifCond .ne 5, 3) := by decide +kernel
theorem dX7_canon_7 : decode cX7_canon 7 = .ok (.iconst (-1), 1) := by decide +kernel
theorem dX7_canon_8 : decode cX7_canon 8 = .ok (.ireturn, 1) := by decide +kernel
theorem dX7_canon_9 : decode cX7_canon 9 = .ok (.iconst 0, 1) := by decide +kernel
theorem dX7_canon_10 : decode cX7_canon 10 = .ok (.istore_n 2, 1) := by decide +kernel
theorem dX7_canon_11 : decode cX7_canon 11 = .ok (.ldc 199, 2) := by decide +kernel
theorem dX7_canon_13 : decode cX7_canon 13 = .ok (.istore_n 3, 1) := by decide +kernel
theorem dX7_canon_14 : decode cX7_canon 14 = .ok (.iconst 1, 1) := by decide +kernel
theorem dX7_canon_15 : decode cX7_canon 15 = .ok (.istore 4, 2) := by decide +kernel
theorem dX7_canon_17 : decode cX7_canon 17 = .ok (.iload 4, 2) := by decide +kernel
theorem dX7_canon_19 : decode cX7_canon 19 = .ok (.aload_n 0, 1) := by decide +kernel
theorem dX7_canon_20 : decode cX7_canon 20 = .ok (.getfield 7, 3) := by decide +kernel
theorem dX7_canon_23 : decode cX7_canon 23 = .ok (.iconst 1, 1) := by decide +kernel
theorem dX7_canon_24 : decode cX7_canon 24 = .ok (.iaload, 1) := by decide +kernel
theorem dX7_canon_25 : decode cX7_canon 25 = .ok (.if_icmp .ge 84, 3) := by decide +kernel
theorem dX7_canon_28 : decode cX7_canon 28 = .ok (.iconst 0, 1) := by decide +kernel
theorem dX7_canon_29 : decode cX7_canon 29 = .ok (.istore 5, 2) := by decide +kernel
theorem dX7_canon_31 : decode cX7_canon 31 = .ok (.iconst 0, 1) := by decide +kernel
theorem dX7_canon_32 : decode cX7_canon 32 = .ok (.istore 6, 2) := by decide +kernel
theorem dX7_canon_34 : decode cX7_canon 34 = .ok (.iload 6, 2) := by decide +kernel
theorem dX7_canon_36 : decode cX7_canon 36 = .ok (.aload_n 0, 1) := by decide +kernel
theorem dX7_canon_37 : decode cX7_canon 37 = .ok (.getfield 7, 3) := by decide +kernel
theorem dX7_canon_40 : decode cX7_canon 40 = .ok (.iconst 1, 1) := by decide +kernel
theorem dX7_canon_41 : decode cX7_canon 41 = .ok (.iaload, 1) := by decide +kernel
theorem dX7_canon_42 : decode cX7_canon 42 = .ok (.if_icmp .ge 35, 3) := by decide +kernel
theorem dX7_canon_45 : decode cX7_canon 45 = .ok (.iload 5, 2) := by decide +kernel
theorem dX7_canon_47 : decode cX7_canon 47 = .ok (.aload_n 0, 1) := by decide +kernel
theorem dX7_canon_48 : decode cX7_canon 48 = .ok (.aload_n 0, 1) := by decide +kernel
theorem dX7_canon_49 : decode cX7_canon 49 = .ok (.getfield 19, 3) := by decide +kernel
theorem dX7_canon_52 : decode cX7_canon 52 = .ok (.iconst 2, 1) := by decide +kernel
theorem dX7_canon_53 : decode cX7_canon 53 = .ok (.iload 6, 2) := by decide +kernel
theorem dX7_canon_55 : decode cX7_canon 55 = .ok (.iadd, 1) := by decide +kernel
theorem dX7_canon_56 : decode cX7_canon 56 = .ok (.iaload, 1) := by decide +kernel
theorem dX7_canon_57 : decode cX7_canon 57 = .ok (.aload_n 0, 1) := by decide +kernel
theorem dX7_canon_58 : decode cX7_canon 58 = .ok (.iload 6, 2) := by decide +kernel
theorem dX7_canon_60 : decode cX7_canon 60 = .ok (.iload 4, 2) := by decide +kernel
theorem dX7_canon_62 : decode cX7_canon 62 = .ok (.invokevirtual 176, 3) := by decide +kernel
theorem dX7_canon_65 : decode cX7_canon 65 = .ok (.invokevirtual 193, 3) := by decide +kernel
theorem dX7_canon_68 : decode cX7_canon 68 = .ok (.iadd, 1) := by decide +kernel
theorem dX7_canon_69 : decode cX7_canon 69 = .ok (.istore 5, 2) := by decide +kernel
theorem dX7_canon_71 : decode cX7_canon 71 = .ok (.iinc 6 1, 3) := by decide +kernel
theorem dX7_canon_74 : decode cX7_canon 74 = .ok (.goto (-40), 3) := by decide +kernel
theorem dX7_canon_77 : decode cX7_canon 77 = .ok (.iload 5, 2) := by decide +kernel
theorem dX7_canon_79 : decode cX7_canon 79 = .ok (.iload_n 3, 1) := by decide +kernel
theorem dX7_canon_80 : decode cX7_canon 80 = .ok (.if_icmp .ge 8, 3) := by decide +kernel
theorem dX7_canon_83 : decode cX7_canon 83 = .ok (.iload 4, 2) := by decide +kernel
theorem dX7_canon_85 : decode cX7_canon 85 = .ok (.goto 4, 3) := by decide +kernel
theorem dX7_canon_88 : decode cX7_canon 88 = .ok (.iload_n 2, 1) := by decide +kernel
theorem dX7_canon_89 : decode cX7_canon 89 = .ok (.istore_n 2, 1) := by decide +kernel
theorem dX7_canon_90 : decode cX7_canon 90 = .ok (.iload 5, 2) := by decide +kernel
theorem dX7_canon_92 : decode cX7_canon 92 = .ok (.iload_n 3, 1) := by decide +kernel
theorem dX7_canon_93 : decode cX7_canon 93 = .ok (.if_icmp .ge 8, 3) := by decide +kernel
theorem dX7_canon_96 : decode cX7_canon 96 = .ok (.iload 5, 2) := by decide +kernel
theorem dX7_canon_98 : decode cX7_canon 98 = .ok (.goto 4, 3) := by decide +kernel
theorem dX7_canon_101 : decode cX7_canon 101 = .ok (.iload_n 3, 1) := by decide +kernel
theorem dX7_canon_102 : decode cX7_canon 102 = .ok (.istore_n 3, 1) := by decide +kernel
theorem dX7_canon_103 : decode cX7_canon 103 = .ok (.iinc 4 1, 3) := by decide +kernel
theorem dX7_canon_106 : decode cX7_canon 106 = .ok (.goto (-89), 3) := by decide +kernel
theorem dX7_canon_109 : decode cX7_canon 109 = .ok (.iload_n 1, 1) := by decide +kernel
theorem dX7_canon_110 : decode cX7_canon 110 = .ok (.ifCond .ne 7, 3) := by decide +kernel
theorem dX7_canon_113 : decode cX7_canon 113 = .ok (.iload_n 2, 1) := by decide +kernel
theorem dX7_canon_114 : decode cX7_canon 114 = .ok (.goto 4, 3) := by decide +kernel
theorem dX7_canon_117 : decode cX7_canon 117 = .ok (.iload_n 3, 1) := by decide +kernel
theorem dX7_canon_118 : decode cX7_canon 118 = .ok (.ireturn, 1) := by decide +kernel
theorem dX7_want_0 : decode cX7_want 0 = .ok (.aload_n 0, 1) := by decide +kernel
theorem dX7_want_1 : decode cX7_want 1 = .ok (.iload_n 1, 1) := by decide +kernel
theorem dX7_want_2 : decode cX7_want 2 = .ok (.invokevirtual 162, 3) := by decide +kernel
theorem dX7_want_5 : decode cX7_want 5 = .ok (.ifCond .eq 11, 3) := by decide +kernel
theorem dX7_want_8 : decode cX7_want 8 = .ok (.aload_n 0, 1) := by decide +kernel
theorem dX7_want_9 : decode cX7_want 9 = .ok (.iload_n 2, 1) := by decide +kernel
theorem dX7_want_10 : decode cX7_want 10 = .ok (.invokevirtual 200, 3) := by decide +kernel
theorem dX7_want_13 : decode cX7_want 13 = .ok (.ifCond .ne 5, 3) := by decide +kernel
theorem dX7_want_16 : decode cX7_want 16 = .ok (.iconst (-1), 1) := by decide +kernel
theorem dX7_want_17 : decode cX7_want 17 = .ok (.ireturn, 1) := by decide +kernel
theorem dX7_want_18 : decode cX7_want 18 = .ok (.aload_n 0, 1) := by decide +kernel
theorem dX7_want_19 : decode cX7_want 19 = .ok (.getfield 31, 3) := by decide +kernel
theorem dX7_want_22 : decode cX7_want 22 = .ok (.iload_n 1, 1) := by decide +kernel
theorem dX7_want_23 : decode cX7_want 23 = .ok (.iaload, 1) := by decide +kernel
theorem dX7_want_24 : decode cX7_want 24 = .ok (.istore_n 3, 1) := by decide +kernel
theorem dX7_want_25 : decode cX7_want 25 = .ok (.aload_n 0, 1) := by decide +kernel
theorem dX7_want_26 : decode cX7_want 26 = .ok (.getfield 31, 3) := by decide +kernel
theorem dX7_want_29 : decode cX7_want 29 = .ok (.iload_n 1, 1) := by decide +kernel
theorem dX7_want_30 : decode cX7_want 30 = .ok (.iload_n 2, 1) := by decide +kernel
theorem dX7_want_31 : decode cX7_want 31 = .ok (.iastore, 1) := by decide +kernel
theorem dX7_want_32 : decode cX7_want 32 = .ok (.iload_n 3, 1) := by decide +kernel
theorem dX7_want_33 : decode cX7_want 33 = .ok (.ireturn, 1) := by decide +kernel
theorem dX7_changes_0 : decode cX7_changes 0 = .ok (.iload_n 1, 1) := by decide +kernel
theorem dX7_changes_1 : decode cX7_changes 1 = .ok (.invokestatic 196, 3) := by decide +kernel
theorem dX7_changes_4 : decode cX7_changes 4 = .ok (.ifCond .ne 5, 3) := by decide +kernel
theorem dX7_changes_7 : decode cX7_changes 7 = .ok (.iconst (-1), 1) := by decide +kernel
theorem dX7_changes_8 : decode cX7_changes 8 = .ok (.ireturn, 1) := by decide +kernel
theorem dX7_changes_9 : decode cX7_changes 9 = .ok (.iconst 0, 1) := by decide +kernel
theorem dX7_changes_10 : decode cX7_changes 10 = .ok (.istore_n 2, 1) := by decide +kernel
theorem dX7_changes_11 : decode cX7_changes 11 = .ok (.ldc 199, 2) := by decide +kernel
theorem dX7_changes_13 : decode cX7_changes 13 = .ok (.istore_n 3, 1) := by decide +kernel
theorem dX7_changes_14 : decode cX7_changes 14 = .ok (.iconst 0, 1) := by decide +kernel
theorem dX7_changes_15 : decode cX7_changes 15 = .ok (.istore 4, 2) := by decide +kernel
theorem dX7_changes_17 : decode cX7_changes 17 = .ok (.iload 4, 2) := by decide +kernel
theorem dX7_changes_19 : decode cX7_changes 19 = .ok (.aload_n 0, 1) := by decide +kernel
theorem dX7_changes_20 : decode cX7_changes 20 = .ok (.getfield 7, 3) := by decide +kernel
theorem dX7_changes_23 : decode cX7_changes 23 = .ok (.iconst 1, 1) := by decide +kernel
theorem dX7_changes_24 : decode cX7_changes 24 = .ok (.iaload, 1) := by decide +kernel
theorem dX7_changes_25 : decode cX7_changes 25 = .ok (.if_icmp .ge 82, 3) := by decide +kernel
theorem dX7_changes_28 : decode cX7_changes 28 = .ok (.iconst 0, 1) := by decide +kernel
theorem dX7_changes_29 : decode cX7_changes 29 = .ok (.istore 5, 2) := by decide +kernel
theorem dX7_changes_31 : decode cX7_changes 31 = .ok (.iconst 0, 1) := by decide +kernel
theorem dX7_changes_32 : decode cX7_changes 32 = .ok (.istore 6, 2) := by decide +kernel
theorem dX7_changes_34 : decode cX7_changes 34 = .ok (.iload 6, 2) := by decide +kernel
theorem dX7_changes_36 : decode cX7_changes 36 = .ok (.aload_n 0, 1) := by decide +kernel
theorem dX7_changes_37 : decode cX7_changes 37 = .ok (.getfield 7, 3) := by decide +kernel
theorem dX7_changes_40 : decode cX7_changes 40 = .ok (.iconst 1, 1) := by decide +kernel
theorem dX7_changes_41 : decode cX7_changes 41 = .ok (.iaload, 1) := by decide +kernel
theorem dX7_changes_42 : decode cX7_changes 42 = .ok (.if_icmp .ge 33, 3) := by decide +kernel
theorem dX7_changes_45 : decode cX7_changes 45 = .ok (.iload 5, 2) := by decide +kernel
theorem dX7_changes_47 : decode cX7_changes 47 = .ok (.aload_n 0, 1) := by decide +kernel
theorem dX7_changes_48 : decode cX7_changes 48 = .ok (.iload 6, 2) := by decide +kernel
theorem dX7_changes_50 : decode cX7_changes 50 = .ok (.iload 4, 2) := by decide +kernel
theorem dX7_changes_52 : decode cX7_changes 52 = .ok (.invokevirtual 176, 3) := by decide +kernel
theorem dX7_changes_55 : decode cX7_changes 55 = .ok (.aload_n 0, 1) := by decide +kernel
theorem dX7_changes_56 : decode cX7_changes 56 = .ok (.getfield 31, 3) := by decide +kernel
theorem dX7_changes_59 : decode cX7_changes 59 = .ok (.iload 6, 2) := by decide +kernel
theorem dX7_changes_61 : decode cX7_changes 61 = .ok (.iaload, 1) := by decide +kernel
theorem dX7_changes_62 : decode cX7_changes 62 = .ok (.ixor, 1) := by decide +kernel
theorem dX7_changes_63 : decode cX7_changes 63 = .ok (.invokestatic 114, 3) := by decide +kernel
theorem dX7_changes_66 : decode cX7_changes 66 = .ok (.iadd, 1) := by decide +kernel
theorem dX7_changes_67 : decode cX7_changes 67 = .ok (.istore 5, 2) := by decide +kernel
theorem dX7_changes_69 : decode cX7_changes 69 = .ok (.iinc 6 1, 3) := by decide +kernel
theorem dX7_changes_72 : decode cX7_changes 72 = .ok (.goto (-38), 3) := by decide +kernel
theorem dX7_changes_75 : decode cX7_changes 75 = .ok (.iload 5, 2) := by decide +kernel
theorem dX7_changes_77 : decode cX7_changes 77 = .ok (.iload_n 3, 1) := by decide +kernel
theorem dX7_changes_78 : decode cX7_changes 78 = .ok (.if_icmp .ge 8, 3) := by decide +kernel
theorem dX7_changes_81 : decode cX7_changes 81 = .ok (.iload 4, 2) := by decide +kernel
theorem dX7_changes_83 : decode cX7_changes 83 = .ok (.goto 4, 3) := by decide +kernel
theorem dX7_changes_86 : decode cX7_changes 86 = .ok (.iload_n 2, 1) := by decide +kernel
theorem dX7_changes_87 : decode cX7_changes 87 = .ok (.istore_n 2, 1) := by decide +kernel
theorem dX7_changes_88 : decode cX7_changes 88 = .ok (.iload 5, 2) := by decide +kernel
theorem dX7_changes_90 : decode cX7_changes 90 = .ok (.iload_n 3, 1) := by decide +kernel
theorem dX7_changes_91 : decode cX7_changes 91 = .ok (.if_icmp .ge 8, 3) := by decide +kernel
theorem dX7_changes_94 : decode cX7_changes 94 = .ok (.iload 5, 2) := by decide +kernel
theorem dX7_changes_96 : decode cX7_changes 96 = .ok (.goto 4, 3) := by decide +kernel
theorem dX7_changes_99 : decode cX7_changes 99 = .ok (.iload_n 3, 1) := by decide +kernel
theorem dX7_changes_100 : decode cX7_changes 100 = .ok (.istore_n 3, 1) := by decide +kernel
theorem dX7_changes_101 : decode cX7_changes 101 = .ok (.iinc 4 1, 3) := by decide +kernel
theorem dX7_changes_104 : decode cX7_changes 104 = .ok (.goto (-87), 3) := by decide +kernel
theorem dX7_changes_107 : decode cX7_changes 107 = .ok (.iload_n 1, 1) := by decide +kernel
theorem dX7_changes_108 : decode cX7_changes 108 = .ok (.ifCond .ne 7, 3) := by decide +kernel
theorem dX7_changes_111 : decode cX7_changes 111 = .ok (.iload_n 3, 1) := by decide +kernel
theorem dX7_changes_112 : decode cX7_changes 112 = .ok (.goto 4, 3) := by decide +kernel
theorem dX7_changes_115 : decode cX7_changes 115 = .ok (.iload_n 2, 1) := by decide +kernel
theorem dX7_changes_116 : decode cX7_changes 116 = .ok (.ireturn, 1) := by decide +kernel
theorem dX7_cell_0 : decode cX7_cell 0 = .ok (.bipush 33, 2) := by decide +kernel
theorem dX7_cell_2 : decode cX7_cell 2 = .ok (.iload_n 0, 1) := by decide +kernel
theorem dX7_cell_3 : decode cX7_cell 3 = .ok (.imul, 1) := by decide +kernel
theorem dX7_cell_4 : decode cX7_cell 4 = .ok (.iload_n 1, 1) := by decide +kernel
theorem dX7_cell_5 : decode cX7_cell 5 = .ok (.iadd, 1) := by decide +kernel
theorem dX7_cell_6 : decode cX7_cell 6 = .ok (.bipush 33, 2) := by decide +kernel
theorem dX7_cell_8 : decode cX7_cell 8 = .ok (.imul, 1) := by decide +kernel
theorem dX7_cell_9 : decode cX7_cell 9 = .ok (.iload_n 2, 1) := by decide +kernel
theorem dX7_cell_10 : decode cX7_cell 10 = .ok (.iadd, 1) := by decide +kernel
theorem dX7_cell_11 : decode cX7_cell 11 = .ok (.ireturn, 1) := by decide +kernel
theorem dX7_isAgain_0 : decode cX7_isAgain 0 = .ok (.iconst 1, 1) := by decide +kernel
theorem dX7_isAgain_1 : decode cX7_isAgain 1 = .ok (.istore 4, 2) := by decide +kernel
theorem dX7_isAgain_3 : decode cX7_isAgain 3 = .ok (.iload_n 1, 1) := by decide +kernel
theorem dX7_isAgain_4 : decode cX7_isAgain 4 = .ok (.iload_n 3, 1) := by decide +kernel
theorem dX7_isAgain_5 : decode cX7_isAgain 5 = .ok (.iadd, 1) := by decide +kernel
theorem dX7_isAgain_6 : decode cX7_isAgain 6 = .ok (.istore 5, 2) := by decide +kernel
theorem dX7_isAgain_8 : decode cX7_isAgain 8 = .ok (.iload 5, 2) := by decide +kernel
theorem dX7_isAgain_10 : decode cX7_isAgain 10 = .ok (.iload_n 2, 1) := by decide +kernel
theorem dX7_isAgain_11 : decode cX7_isAgain 11 = .ok (.if_icmp .ge 44, 3) := by decide +kernel
theorem dX7_isAgain_14 : decode cX7_isAgain 14 = .ok (.iload 4, 2) := by decide +kernel
theorem dX7_isAgain_16 : decode cX7_isAgain 16 = .ok (.ifCond .eq 30, 3) := by decide +kernel
theorem dX7_isAgain_19 : decode cX7_isAgain 19 = .ok (.aload_n 0, 1) := by decide +kernel
theorem dX7_isAgain_20 : decode cX7_isAgain 20 = .ok (.getfield 19, 3) := by decide +kernel
theorem dX7_isAgain_23 : decode cX7_isAgain 23 = .ok (.iconst 2, 1) := by decide +kernel
theorem dX7_isAgain_24 : decode cX7_isAgain 24 = .ok (.iload 5, 2) := by decide +kernel
theorem dX7_isAgain_26 : decode cX7_isAgain 26 = .ok (.iadd, 1) := by decide +kernel
theorem dX7_isAgain_27 : decode cX7_isAgain 27 = .ok (.iaload, 1) := by decide +kernel
theorem dX7_isAgain_28 : decode cX7_isAgain 28 = .ok (.aload_n 0, 1) := by decide +kernel
theorem dX7_isAgain_29 : decode cX7_isAgain 29 = .ok (.getfield 19, 3) := by decide +kernel
theorem dX7_isAgain_32 : decode cX7_isAgain 32 = .ok (.iconst 2, 1) := by decide +kernel
theorem dX7_isAgain_33 : decode cX7_isAgain 33 = .ok (.iload 5, 2) := by decide +kernel
theorem dX7_isAgain_35 : decode cX7_isAgain 35 = .ok (.iadd, 1) := by decide +kernel
theorem dX7_isAgain_36 : decode cX7_isAgain 36 = .ok (.iload_n 3, 1) := by decide +kernel
theorem dX7_isAgain_37 : decode cX7_isAgain 37 = .ok (.isub, 1) := by decide +kernel
theorem dX7_isAgain_38 : decode cX7_isAgain 38 = .ok (.iaload, 1) := by decide +kernel
theorem dX7_isAgain_39 : decode cX7_isAgain 39 = .ok (.if_icmp .ne 7, 3) := by decide +kernel
theorem dX7_isAgain_42 : decode cX7_isAgain 42 = .ok (.iconst 1, 1) := by decide +kernel
theorem dX7_isAgain_43 : decode cX7_isAgain 43 = .ok (.goto 4, 3) := by decide +kernel
theorem dX7_isAgain_46 : decode cX7_isAgain 46 = .ok (.iconst 0, 1) := by decide +kernel
theorem dX7_isAgain_47 : decode cX7_isAgain 47 = .ok (.istore 4, 2) := by decide +kernel
theorem dX7_isAgain_49 : decode cX7_isAgain 49 = .ok (.iinc 5 1, 3) := by decide +kernel
theorem dX7_isAgain_52 : decode cX7_isAgain 52 = .ok (.goto (-44), 3) := by decide +kernel
theorem dX7_isAgain_55 : decode cX7_isAgain 55 = .ok (.iload 4, 2) := by decide +kernel
theorem dX7_isAgain_57 : decode cX7_isAgain 57 = .ok (.ireturn, 1) := by decide +kernel
theorem dX7_fewest_0 : decode cX7_fewest 0 = .ok (.iload_n 3, 1) := by decide +kernel
theorem dX7_fewest_1 : decode cX7_fewest 1 = .ok (.iload_n 2, 1) := by decide +kernel
theorem dX7_fewest_2 : decode cX7_fewest 2 = .ok (.isub, 1) := by decide +kernel
theorem dX7_fewest_3 : decode cX7_fewest 3 = .ok (.istore 4, 2) := by decide +kernel
theorem dX7_fewest_5 : decode cX7_fewest 5 = .ok (.iload 4, 2) := by decide +kernel
theorem dX7_fewest_7 : decode cX7_fewest 7 = .ok (.iconst 1, 1) := by decide +kernel
theorem dX7_fewest_8 : decode cX7_fewest 8 = .ok (.if_icmp .ne 31, 3) := by decide +kernel
theorem dX7_fewest_11 : decode cX7_fewest 11 = .ok (.aload_n 0, 1) := by decide +kernel
theorem dX7_fewest_12 : decode cX7_fewest 12 = .ok (.getfield 19, 3) := by decide +kernel
theorem dX7_fewest_15 : decode cX7_fewest 15 = .ok (.iconst 2, 1) := by decide +kernel
theorem dX7_fewest_16 : decode cX7_fewest 16 = .ok (.iload_n 2, 1) := by decide +kernel
theorem dX7_fewest_17 : decode cX7_fewest 17 = .ok (.iadd, 1) := by decide +kernel
theorem dX7_fewest_18 : decode cX7_fewest 18 = .ok (.iaload, 1) := by decide +kernel
theorem dX7_fewest_19 : decode cX7_fewest 19 = .ok (.invokestatic 114, 3) := by decide +kernel
theorem dX7_fewest_22 : decode cX7_fewest 22 = .ok (.istore 5, 2) := by decide +kernel
theorem dX7_fewest_24 : decode cX7_fewest 24 = .ok (.iload 5, 2) := by decide +kernel
theorem dX7_fewest_26 : decode cX7_fewest 26 = .ok (.iconst 2, 1) := by decide +kernel
theorem dX7_fewest_27 : decode cX7_fewest 27 = .ok (.if_icmp .ge 7, 3) := by decide +kernel
theorem dX7_fewest_30 : decode cX7_fewest 30 = .ok (.iconst 1, 1) := by decide +kernel
theorem dX7_fewest_31 : decode cX7_fewest 31 = .ok (.goto 7, 3) := by decide +kernel
theorem dX7_fewest_34 : decode cX7_fewest 34 = .ok (.iload 5, 2) := by decide +kernel
theorem dX7_fewest_36 : decode cX7_fewest 36 = .ok (.iconst 2, 1) := by decide +kernel
theorem dX7_fewest_37 : decode cX7_fewest 37 = .ok (.iadd, 1) := by decide +kernel
theorem dX7_fewest_38 : decode cX7_fewest 38 = .ok (.ireturn, 1) := by decide +kernel
theorem dX7_fewest_39 : decode cX7_fewest 39 = .ok (.ldc 199, 2) := by decide +kernel
theorem dX7_fewest_41 : decode cX7_fewest 41 = .ok (.istore 5, 2) := by decide +kernel
theorem dX7_fewest_43 : decode cX7_fewest 43 = .ok (.iload_n 2, 1) := by decide +kernel
theorem dX7_fewest_44 : decode cX7_fewest 44 = .ok (.iconst 1, 1) := by decide +kernel
theorem dX7_fewest_45 : decode cX7_fewest 45 = .ok (.iadd, 1) := by decide +kernel
theorem dX7_fewest_46 : decode cX7_fewest 46 = .ok (.istore 6, 2) := by decide +kernel
theorem dX7_fewest_48 : decode cX7_fewest 48 = .ok (.iload 6, 2) := by decide +kernel
theorem dX7_fewest_50 : decode cX7_fewest 50 = .ok (.iload_n 3, 1) := by decide +kernel
theorem dX7_fewest_51 : decode cX7_fewest 51 = .ok (.if_icmp .ge 52, 3) := by decide +kernel
theorem dX7_fewest_54 : decode cX7_fewest 54 = .ok (.aload_n 0, 1) := by decide +kernel
theorem dX7_fewest_55 : decode cX7_fewest 55 = .ok (.getfield 49, 3) := by decide +kernel
theorem dX7_fewest_58 : decode cX7_fewest 58 = .ok (.iload_n 1, 1) := by decide +kernel
theorem dX7_fewest_59 : decode cX7_fewest 59 = .ok (.iload_n 2, 1) := by decide +kernel
theorem dX7_fewest_60 : decode cX7_fewest 60 = .ok (.iload 6, 2) := by decide +kernel
theorem dX7_fewest_62 : decode cX7_fewest 62 = .ok (.invokestatic 203, 3) := by decide +kernel
theorem dX7_fewest_65 : decode cX7_fewest 65 = .ok (.iaload, 1) := by decide +kernel
theorem dX7_fewest_66 : decode cX7_fewest 66 = .ok (.aload_n 0, 1) := by decide +kernel
theorem dX7_fewest_67 : decode cX7_fewest 67 = .ok (.getfield 49, 3) := by decide +kernel
theorem dX7_fewest_70 : decode cX7_fewest 70 = .ok (.iload_n 1, 1) := by decide +kernel
theorem dX7_fewest_71 : decode cX7_fewest 71 = .ok (.iload 6, 2) := by decide +kernel
theorem dX7_fewest_73 : decode cX7_fewest 73 = .ok (.iload_n 3, 1) := by decide +kernel
theorem dX7_fewest_74 : decode cX7_fewest 74 = .ok (.invokestatic 203, 3) := by decide +kernel
theorem dX7_fewest_77 : decode cX7_fewest 77 = .ok (.iaload, 1) := by decide +kernel
theorem dX7_fewest_78 : decode cX7_fewest 78 = .ok (.iadd, 1) := by decide +kernel
theorem dX7_fewest_79 : decode cX7_fewest 79 = .ok (.istore 7, 2) := by decide +kernel
theorem dX7_fewest_81 : decode cX7_fewest 81 = .ok (.iload 7, 2) := by decide +kernel
theorem dX7_fewest_83 : decode cX7_fewest 83 = .ok (.iload 5, 2) := by decide +kernel
theorem dX7_fewest_85 : decode cX7_fewest 85 = .ok (.if_icmp .ge 8, 3) := by decide +kernel
theorem dX7_fewest_88 : decode cX7_fewest 88 = .ok (.iload 7, 2) := by decide +kernel
theorem dX7_fewest_90 : decode cX7_fewest 90 = .ok (.goto 5, 3) := by decide +kernel
theorem dX7_fewest_93 : decode cX7_fewest 93 = .ok (.iload 5, 2) := by decide +kernel
theorem dX7_fewest_95 : decode cX7_fewest 95 = .ok (.istore 5, 2) := by decide +kernel
theorem dX7_fewest_97 : decode cX7_fewest 97 = .ok (.iinc 6 1, 3) := by decide +kernel
theorem dX7_fewest_100 : decode cX7_fewest 100 = .ok (.goto (-52), 3) := by decide +kernel
theorem dX7_fewest_103 : decode cX7_fewest 103 = .ok (.iconst 2, 1) := by decide +kernel
theorem dX7_fewest_104 : decode cX7_fewest 104 = .ok (.istore 6, 2) := by decide +kernel
theorem dX7_fewest_106 : decode cX7_fewest 106 = .ok (.iload 6, 2) := by decide +kernel
theorem dX7_fewest_108 : decode cX7_fewest 108 = .ok (.bipush 10, 2) := by decide +kernel
theorem dX7_fewest_110 : decode cX7_fewest 110 = .ok (.if_icmp .ge 75, 3) := by decide +kernel
theorem dX7_fewest_113 : decode cX7_fewest 113 = .ok (.iload_n 1, 1) := by decide +kernel
theorem dX7_fewest_114 : decode cX7_fewest 114 = .ok (.ifCond .le 71, 3) := by decide +kernel
theorem dX7_fewest_117 : decode cX7_fewest 117 = .ok (.iload 4, 2) := by decide +kernel
theorem dX7_fewest_119 : decode cX7_fewest 119 = .ok (.iload 6, 2) := by decide +kernel
theorem dX7_fewest_121 : decode cX7_fewest 121 = .ok (.idiv, 1) := by decide +kernel
theorem dX7_fewest_122 : decode cX7_fewest 122 = .ok (.istore 7, 2) := by decide +kernel
theorem dX7_fewest_124 : decode cX7_fewest 124 = .ok (.iload 4, 2) := by decide +kernel
theorem dX7_fewest_126 : decode cX7_fewest 126 = .ok (.iload 6, 2) := by decide +kernel
theorem dX7_fewest_128 : decode cX7_fewest 128 = .ok (.irem, 1) := by decide +kernel
theorem dX7_fewest_129 : decode cX7_fewest 129 = .ok (.ifCond .ne 50, 3) := by decide +kernel
theorem dX7_fewest_132 : decode cX7_fewest 132 = .ok (.aload_n 0, 1) := by decide +kernel
theorem dX7_fewest_133 : decode cX7_fewest 133 = .ok (.iload_n 2, 1) := by decide +kernel
theorem dX7_fewest_134 : decode cX7_fewest 134 = .ok (.iload_n 3, 1) := by decide +kernel
theorem dX7_fewest_135 : decode cX7_fewest 135 = .ok (.iload 7, 2) := by decide +kernel
theorem dX7_fewest_137 : decode cX7_fewest 137 = .ok (.invokevirtual 207, 3) := by decide +kernel
theorem dX7_fewest_140 : decode cX7_fewest 140 = .ok (.ifCond .eq 39, 3) := by decide +kernel
theorem dX7_fewest_143 : decode cX7_fewest 143 = .ok (.iconst 3, 1) := by decide +kernel
theorem dX7_fewest_144 : decode cX7_fewest 144 = .ok (.aload_n 0, 1) := by decide +kernel
theorem dX7_fewest_145 : decode cX7_fewest 145 = .ok (.getfield 49, 3) := by decide +kernel
theorem dX7_fewest_148 : decode cX7_fewest 148 = .ok (.iload_n 1, 1) := by decide +kernel
theorem dX7_fewest_149 : decode cX7_fewest 149 = .ok (.iconst 1, 1) := by decide +kernel
theorem dX7_fewest_150 : decode cX7_fewest 150 = .ok (.isub, 1) := by decide +kernel
theorem dX7_fewest_151 : decode cX7_fewest 151 = .ok (.iload_n 2, 1) := by decide +kernel
theorem dX7_fewest_152 : decode cX7_fewest 152 = .ok (.iload_n 2, 1) := by decide +kernel
theorem dX7_fewest_153 : decode cX7_fewest 153 = .ok (.iload 7, 2) := by decide +kernel
theorem dX7_fewest_155 : decode cX7_fewest 155 = .ok (.iadd, 1) := by decide +kernel
theorem dX7_fewest_156 : decode cX7_fewest 156 = .ok (.invokestatic 203, 3) := by decide +kernel
theorem dX7_fewest_159 : decode cX7_fewest 159 = .ok (.iaload, 1) := by decide +kernel
theorem dX7_fewest_160 : decode cX7_fewest 160 = .ok (.iadd, 1) := by decide +kernel
theorem dX7_fewest_161 : decode cX7_fewest 161 = .ok (.istore 8, 2) := by decide +kernel
theorem dX7_fewest_163 : decode cX7_fewest 163 = .ok (.iload 8, 2) := by decide +kernel
theorem dX7_fewest_165 : decode cX7_fewest 165 = .ok (.iload 5, 2) := by decide +kernel
theorem dX7_fewest_167 : decode cX7_fewest 167 = .ok (.if_icmp .ge 8, 3) := by decide +kernel
theorem dX7_fewest_170 : decode cX7_fewest 170 = .ok (.iload 8, 2) := by decide +kernel
theorem dX7_fewest_172 : decode cX7_fewest 172 = .ok (.goto 5, 3) := by decide +kernel
theorem dX7_fewest_175 : decode cX7_fewest 175 = .ok (.iload 5, 2) := by decide +kernel
theorem dX7_fewest_177 : decode cX7_fewest 177 = .ok (.istore 5, 2) := by decide +kernel
theorem dX7_fewest_179 : decode cX7_fewest 179 = .ok (.iinc 6 1, 3) := by decide +kernel
theorem dX7_fewest_182 : decode cX7_fewest 182 = .ok (.goto (-76), 3) := by decide +kernel
theorem dX7_fewest_185 : decode cX7_fewest 185 = .ok (.iload 5, 2) := by decide +kernel
theorem dX7_fewest_187 : decode cX7_fewest 187 = .ok (.ireturn, 1) := by decide +kernel
theorem dX7_letters_0 : decode cX7_letters 0 = .ok (.iconst 0, 1) := by decide +kernel
theorem dX7_letters_1 : decode cX7_letters 1 = .ok (.istore_n 1, 1) := by decide +kernel
theorem dX7_letters_2 : decode cX7_letters 2 = .ok (.iload_n 1, 1) := by decide +kernel
theorem dX7_letters_3 : decode cX7_letters 3 = .ok (.iconst 4, 1) := by decide +kernel
theorem dX7_letters_4 : decode cX7_letters 4 = .ok (.if_icmp .ge 69, 3) := by decide +kernel
theorem dX7_letters_7 : decode cX7_letters 7 = .ok (.iconst 1, 1) := by decide +kernel
theorem dX7_letters_8 : decode cX7_letters 8 = .ok (.istore_n 2, 1) := by decide +kernel
theorem dX7_letters_9 : decode cX7_letters 9 = .ok (.iload_n 2, 1) := by decide +kernel
theorem dX7_letters_10 : decode cX7_letters 10 = .ok (.aload_n 0, 1) := by decide +kernel
theorem dX7_letters_11 : decode cX7_letters 11 = .ok (.getfield 7, 3) := by decide +kernel
theorem dX7_letters_14 : decode cX7_letters 14 = .ok (.iconst 1, 1) := by decide +kernel
theorem dX7_letters_15 : decode cX7_letters 15 = .ok (.iaload, 1) := by decide +kernel
theorem dX7_letters_16 : decode cX7_letters 16 = .ok (.if_icmp .gt 51, 3) := by decide +kernel
theorem dX7_letters_19 : decode cX7_letters 19 = .ok (.iconst 0, 1) := by decide +kernel
theorem dX7_letters_20 : decode cX7_letters 20 = .ok (.istore_n 3, 1) := by decide +kernel
theorem dX7_letters_21 : decode cX7_letters 21 = .ok (.iload_n 3, 1) := by decide +kernel
theorem dX7_letters_22 : decode cX7_letters 22 = .ok (.iload_n 2, 1) := by decide +kernel
theorem dX7_letters_23 : decode cX7_letters 23 = .ok (.iadd, 1) := by decide +kernel
theorem dX7_letters_24 : decode cX7_letters 24 = .ok (.aload_n 0, 1) := by decide +kernel
theorem dX7_letters_25 : decode cX7_letters 25 = .ok (.getfield 7, 3) := by decide +kernel
theorem dX7_letters_28 : decode cX7_letters 28 = .ok (.iconst 1, 1) := by decide +kernel
theorem dX7_letters_29 : decode cX7_letters 29 = .ok (.iaload, 1) := by decide +kernel
theorem dX7_letters_30 : decode cX7_letters 30 = .ok (.if_icmp .gt 31, 3) := by decide +kernel
theorem dX7_letters_33 : decode cX7_letters 33 = .ok (.aload_n 0, 1) := by decide +kernel
theorem dX7_letters_34 : decode cX7_letters 34 = .ok (.getfield 49, 3) := by decide +kernel
theorem dX7_letters_37 : decode cX7_letters 37 = .ok (.iload_n 1, 1) := by decide +kernel
theorem dX7_letters_38 : decode cX7_letters 38 = .ok (.iload_n 3, 1) := by decide +kernel
theorem dX7_letters_39 : decode cX7_letters 39 = .ok (.iload_n 3, 1) := by decide +kernel
theorem dX7_letters_40 : decode cX7_letters 40 = .ok (.iload_n 2, 1) := by decide +kernel
theorem dX7_letters_41 : decode cX7_letters 41 = .ok (.iadd, 1) := by decide +kernel
theorem dX7_letters_42 : decode cX7_letters 42 = .ok (.invokestatic 203, 3) := by decide +kernel
theorem dX7_letters_45 : decode cX7_letters 45 = .ok (.aload_n 0, 1) := by decide +kernel
theorem dX7_letters_46 : decode cX7_letters 46 = .ok (.iload_n 1, 1) := by decide +kernel
theorem dX7_letters_47 : decode cX7_letters 47 = .ok (.iload_n 3, 1) := by decide +kernel
theorem dX7_letters_48 : decode cX7_letters 48 = .ok (.iload_n 3, 1) := by decide +kernel
theorem dX7_letters_49 : decode cX7_letters 49 = .ok (.iload_n 2, 1) := by decide +kernel
theorem dX7_letters_50 : decode cX7_letters 50 = .ok (.iadd, 1) := by decide +kernel
theorem dX7_letters_51 : decode cX7_letters 51 = .ok (.invokevirtual 210, 3) := by decide +kernel
theorem dX7_letters_54 : decode cX7_letters 54 = .ok (.iastore, 1) := by decide +kernel
theorem dX7_letters_55 : decode cX7_letters 55 = .ok (.iinc 3 1, 3) := by decide +kernel
theorem dX7_letters_58 : decode cX7_letters 58 = .ok (.goto (-37), 3) := by decide +kernel
theorem dX7_letters_61 : decode cX7_letters 61 = .ok (.iinc 2 1, 3) := by decide +kernel
theorem dX7_letters_64 : decode cX7_letters 64 = .ok (.goto (-55), 3) := by decide +kernel
theorem dX7_letters_67 : decode cX7_letters 67 = .ok (.iinc 1 1, 3) := by decide +kernel
theorem dX7_letters_70 : decode cX7_letters 70 = .ok (.goto (-68), 3) := by decide +kernel
theorem dX7_letters_73 : decode cX7_letters 73 = .ok (.aload_n 0, 1) := by decide +kernel
theorem dX7_letters_74 : decode cX7_letters 74 = .ok (.getfield 49, 3) := by decide +kernel
theorem dX7_letters_77 : decode cX7_letters 77 = .ok (.iconst 3, 1) := by decide +kernel
theorem dX7_letters_78 : decode cX7_letters 78 = .ok (.iconst 0, 1) := by decide +kernel
theorem dX7_letters_79 : decode cX7_letters 79 = .ok (.aload_n 0, 1) := by decide +kernel
theorem dX7_letters_80 : decode cX7_letters 80 = .ok (.getfield 7, 3) := by decide +kernel
theorem dX7_letters_83 : decode cX7_letters 83 = .ok (.iconst 1, 1) := by decide +kernel
theorem dX7_letters_84 : decode cX7_letters 84 = .ok (.iaload, 1) := by decide +kernel
theorem dX7_letters_85 : decode cX7_letters 85 = .ok (.invokestatic 203, 3) := by decide +kernel
theorem dX7_letters_88 : decode cX7_letters 88 = .ok (.iaload, 1) := by decide +kernel
theorem dX7_letters_89 : decode cX7_letters 89 = .ok (.ireturn, 1) := by decide +kernel
theorem dX7_areOne_0 : decode cX7_areOne 0 = .ok (.iconst 1, 1) := by decide +kernel
theorem dX7_areOne_1 : decode cX7_areOne 1 = .ok (.istore_n 2, 1) := by decide +kernel
theorem dX7_areOne_2 : decode cX7_areOne 2 = .ok (.iconst 0, 1) := by decide +kernel
theorem dX7_areOne_3 : decode cX7_areOne 3 = .ok (.istore_n 3, 1) := by decide +kernel
theorem dX7_areOne_4 : decode cX7_areOne 4 = .ok (.iload_n 3, 1) := by decide +kernel
theorem dX7_areOne_5 : decode cX7_areOne 5 = .ok (.aload_n 0, 1) := by decide +kernel
theorem dX7_areOne_6 : decode cX7_areOne 6 = .ok (.getfield 7, 3) := by decide +kernel
theorem dX7_areOne_9 : decode cX7_areOne 9 = .ok (.iconst 1, 1) := by decide +kernel
theorem dX7_areOne_10 : decode cX7_areOne 10 = .ok (.iaload, 1) := by decide +kernel
theorem dX7_areOne_11 : decode cX7_areOne 11 = .ok (.if_icmp .ge 36, 3) := by decide +kernel
theorem dX7_areOne_14 : decode cX7_areOne 14 = .ok (.iload_n 2, 1) := by decide +kernel
theorem dX7_areOne_15 : decode cX7_areOne 15 = .ok (.ifCond .eq 24, 3) := by decide +kernel
theorem dX7_areOne_18 : decode cX7_areOne 18 = .ok (.iload_n 1, 1) := by decide +kernel
theorem dX7_areOne_19 : decode cX7_areOne 19 = .ok (.aload_n 0, 1) := by decide +kernel
theorem dX7_areOne_20 : decode cX7_areOne 20 = .ok (.getfield 19, 3) := by decide +kernel
theorem dX7_areOne_23 : decode cX7_areOne 23 = .ok (.iconst 2, 1) := by decide +kernel
theorem dX7_areOne_24 : decode cX7_areOne 24 = .ok (.iload_n 3, 1) := by decide +kernel
theorem dX7_areOne_25 : decode cX7_areOne 25 = .ok (.iadd, 1) := by decide +kernel
theorem dX7_areOne_26 : decode cX7_areOne 26 = .ok (.iaload, 1) := by decide +kernel
theorem dX7_areOne_27 : decode cX7_areOne 27 = .ok (.iand, 1) := by decide +kernel
theorem dX7_areOne_28 : decode cX7_areOne 28 = .ok (.invokestatic 114, 3) := by decide +kernel
theorem dX7_areOne_31 : decode cX7_areOne 31 = .ok (.iconst 2, 1) := by decide +kernel
theorem dX7_areOne_32 : decode cX7_areOne 32 = .ok (.if_icmp .ge 7, 3) := by decide +kernel
theorem dX7_areOne_35 : decode cX7_areOne 35 = .ok (.iconst 1, 1) := by decide +kernel
theorem dX7_areOne_36 : decode cX7_areOne 36 = .ok (.goto 4, 3) := by decide +kernel
theorem dX7_areOne_39 : decode cX7_areOne 39 = .ok (.iconst 0, 1) := by decide +kernel
theorem dX7_areOne_40 : decode cX7_areOne 40 = .ok (.istore_n 2, 1) := by decide +kernel
theorem dX7_areOne_41 : decode cX7_areOne 41 = .ok (.iinc 3 1, 3) := by decide +kernel
theorem dX7_areOne_44 : decode cX7_areOne 44 = .ok (.goto (-40), 3) := by decide +kernel
theorem dX7_areOne_47 : decode cX7_areOne 47 = .ok (.iload_n 2, 1) := by decide +kernel
theorem dX7_areOne_48 : decode cX7_areOne 48 = .ok (.ireturn, 1) := by decide +kernel
theorem dX7_ringers_0 : decode cX7_ringers 0 = .ok (.iconst 1, 1) := by decide +kernel
theorem dX7_ringers_1 : decode cX7_ringers 1 = .ok (.aload_n 0, 1) := by decide +kernel
theorem dX7_ringers_2 : decode cX7_ringers 2 = .ok (.getfield 7, 3) := by decide +kernel
theorem dX7_ringers_5 : decode cX7_ringers 5 = .ok (.iconst 0, 1) := by decide +kernel
theorem dX7_ringers_6 : decode cX7_ringers 6 = .ok (.iaload, 1) := by decide +kernel
theorem dX7_ringers_7 : decode cX7_ringers 7 = .ok (.ishl, 1) := by decide +kernel
theorem dX7_ringers_8 : decode cX7_ringers 8 = .ok (.iconst 1, 1) := by decide +kernel
theorem dX7_ringers_9 : decode cX7_ringers 9 = .ok (.isub, 1) := by decide +kernel
theorem dX7_ringers_10 : decode cX7_ringers 10 = .ok (.istore_n 1, 1) := by decide +kernel
theorem dX7_ringers_11 : decode cX7_ringers 11 = .ok (.iconst 1, 1) := by decide +kernel
theorem dX7_ringers_12 : decode cX7_ringers 12 = .ok (.istore_n 2, 1) := by decide +kernel
theorem dX7_ringers_13 : decode cX7_ringers 13 = .ok (.iload_n 2, 1) := by decide +kernel
theorem dX7_ringers_14 : decode cX7_ringers 14 = .ok (.iload_n 1, 1) := by decide +kernel
theorem dX7_ringers_15 : decode cX7_ringers 15 = .ok (.if_icmp .gt 108, 3) := by decide +kernel
theorem dX7_ringers_18 : decode cX7_ringers 18 = .ok (.aload_n 0, 1) := by decide +kernel
theorem dX7_ringers_19 : decode cX7_ringers 19 = .ok (.getfield 55, 3) := by decide +kernel
theorem dX7_ringers_22 : decode cX7_ringers 22 = .ok (.iload_n 2, 1) := by decide +kernel
theorem dX7_ringers_23 : decode cX7_ringers 23 = .ok (.aload_n 0, 1) := by decide +kernel
theorem dX7_ringers_24 : decode cX7_ringers 24 = .ok (.iload_n 2, 1) := by decide +kernel
theorem dX7_ringers_25 : decode cX7_ringers 25 = .ok (.invokevirtual 213, 3) := by decide +kernel
theorem dX7_ringers_28 : decode cX7_ringers 28 = .ok (.bastore, 1) := by decide +kernel
theorem dX7_ringers_29 : decode cX7_ringers 29 = .ok (.aload_n 0, 1) := by decide +kernel
theorem dX7_ringers_30 : decode cX7_ringers 30 = .ok (.getfield 52, 3) := by decide +kernel
theorem dX7_ringers_33 : decode cX7_ringers 33 = .ok (.iload_n 2, 1) := by decide +kernel
theorem dX7_ringers_34 : decode cX7_ringers 34 = .ok (.ldc 199, 2) := by decide +kernel
theorem dX7_ringers_36 : decode cX7_ringers 36 = .ok (.iastore, 1) := by decide +kernel
theorem dX7_ringers_37 : decode cX7_ringers 37 = .ok (.iload_n 2, 1) := by decide +kernel
theorem dX7_ringers_38 : decode cX7_ringers 38 = .ok (.istore_n 3, 1) := by decide +kernel
theorem dX7_ringers_39 : decode cX7_ringers 39 = .ok (.iload_n 3, 1) := by decide +kernel
theorem dX7_ringers_40 : decode cX7_ringers 40 = .ok (.ifCond .le 77, 3) := by decide +kernel
theorem dX7_ringers_43 : decode cX7_ringers 43 = .ok (.aload_n 0, 1) := by decide +kernel
theorem dX7_ringers_44 : decode cX7_ringers 44 = .ok (.getfield 55, 3) := by decide +kernel
theorem dX7_ringers_47 : decode cX7_ringers 47 = .ok (.iload_n 3, 1) := by decide +kernel
theorem dX7_ringers_48 : decode cX7_ringers 48 = .ok (.baload, 1) := by decide +kernel
theorem dX7_ringers_49 : decode cX7_ringers 49 = .ok (.ifCond .eq 27, 3) := by decide +kernel
theorem dX7_ringers_52 : decode cX7_ringers 52 = .ok (.iconst 1, 1) := by decide +kernel
theorem dX7_ringers_53 : decode cX7_ringers 53 = .ok (.iload_n 3, 1) := by decide +kernel
theorem dX7_ringers_54 : decode cX7_ringers 54 = .ok (.iload_n 2, 1) := by decide +kernel
theorem dX7_ringers_55 : decode cX7_ringers 55 = .ok (.if_icmp .ne 7, 3) := by decide +kernel
theorem dX7_ringers_58 : decode cX7_ringers 58 = .ok (.iconst 0, 1) := by decide +kernel
theorem dX7_ringers_59 : decode cX7_ringers 59 = .ok (.goto 13, 3) := by decide +kernel
theorem dX7_ringers_62 : decode cX7_ringers 62 = .ok (.aload_n 0, 1) := by decide +kernel
theorem dX7_ringers_63 : decode cX7_ringers 63 = .ok (.getfield 52, 3) := by decide +kernel
theorem dX7_ringers_66 : decode cX7_ringers 66 = .ok (.iload_n 2, 1) := by decide +kernel
theorem dX7_ringers_67 : decode cX7_ringers 67 = .ok (.iload_n 3, 1) := by decide +kernel
theorem dX7_ringers_68 : decode cX7_ringers 68 = .ok (.iconst (-1), 1) := by decide +kernel
theorem dX7_ringers_69 : decode cX7_ringers 69 = .ok (.ixor, 1) := by decide +kernel
theorem dX7_ringers_70 : decode cX7_ringers 70 = .ok (.iand, 1) := by decide +kernel
theorem dX7_ringers_71 : decode cX7_ringers 71 = .ok (.iaload, 1) := by decide +kernel
theorem dX7_ringers_72 : decode cX7_ringers 72 = .ok (.iadd, 1) := by decide +kernel
theorem dX7_ringers_73 : decode cX7_ringers 73 = .ok (.goto 5, 3) := by decide +kernel
theorem dX7_ringers_76 : decode cX7_ringers 76 = .ok (.ldc 199, 2) := by decide +kernel
theorem dX7_ringers_78 : decode cX7_ringers 78 = .ok (.istore 4, 2) := by decide +kernel
theorem dX7_ringers_80 : decode cX7_ringers 80 = .ok (.aload_n 0, 1) := by decide +kernel
theorem dX7_ringers_81 : decode cX7_ringers 81 = .ok (.getfield 52, 3) := by decide +kernel
theorem dX7_ringers_84 : decode cX7_ringers 84 = .ok (.iload_n 2, 1) := by decide +kernel
theorem dX7_ringers_85 : decode cX7_ringers 85 = .ok (.iload 4, 2) := by decide +kernel
theorem dX7_ringers_87 : decode cX7_ringers 87 = .ok (.aload_n 0, 1) := by decide +kernel
theorem dX7_ringers_88 : decode cX7_ringers 88 = .ok (.getfield 52, 3) := by decide +kernel
theorem dX7_ringers_91 : decode cX7_ringers 91 = .ok (.iload_n 2, 1) := by decide +kernel
theorem dX7_ringers_92 : decode cX7_ringers 92 = .ok (.iaload, 1) := by decide +kernel
theorem dX7_ringers_93 : decode cX7_ringers 93 = .ok (.if_icmp .ge 8, 3) := by decide +kernel
theorem dX7_ringers_96 : decode cX7_ringers 96 = .ok (.iload 4, 2) := by decide +kernel
theorem dX7_ringers_98 : decode cX7_ringers 98 = .ok (.goto 9, 3) := by decide +kernel
theorem dX7_ringers_101 : decode cX7_ringers 101 = .ok (.aload_n 0, 1) := by decide +kernel
theorem dX7_ringers_102 : decode cX7_ringers 102 = .ok (.getfield 52, 3) := by decide +kernel
theorem dX7_ringers_105 : decode cX7_ringers 105 = .ok (.iload_n 2, 1) := by decide +kernel
theorem dX7_ringers_106 : decode cX7_ringers 106 = .ok (.iaload, 1) := by decide +kernel
theorem dX7_ringers_107 : decode cX7_ringers 107 = .ok (.iastore, 1) := by decide +kernel
theorem dX7_ringers_108 : decode cX7_ringers 108 = .ok (.iload_n 3, 1) := by decide +kernel
theorem dX7_ringers_109 : decode cX7_ringers 109 = .ok (.iconst 1, 1) := by decide +kernel
theorem dX7_ringers_110 : decode cX7_ringers 110 = .ok (.isub, 1) := by decide +kernel
theorem dX7_ringers_111 : decode cX7_ringers 111 = .ok (.iload_n 2, 1) := by decide +kernel
theorem dX7_ringers_112 : decode cX7_ringers 112 = .ok (.iand, 1) := by decide +kernel
theorem dX7_ringers_113 : decode cX7_ringers 113 = .ok (.istore_n 3, 1) := by decide +kernel
theorem dX7_ringers_114 : decode cX7_ringers 114 = .ok (.goto (-75), 3) := by decide +kernel
theorem dX7_ringers_117 : decode cX7_ringers 117 = .ok (.iinc 2 1, 3) := by decide +kernel
theorem dX7_ringers_120 : decode cX7_ringers 120 = .ok (.goto (-107), 3) := by decide +kernel
theorem dX7_ringers_123 : decode cX7_ringers 123 = .ok (.aload_n 0, 1) := by decide +kernel
theorem dX7_ringers_124 : decode cX7_ringers 124 = .ok (.getfield 52, 3) := by decide +kernel
theorem dX7_ringers_127 : decode cX7_ringers 127 = .ok (.iload_n 1, 1) := by decide +kernel
theorem dX7_ringers_128 : decode cX7_ringers 128 = .ok (.iaload, 1) := by decide +kernel
theorem dX7_ringers_129 : decode cX7_ringers 129 = .ok (.ireturn, 1) := by decide +kernel
theorem dX7_hear_0 : decode cX7_hear 0 = .ok (.aload_n 0, 1) := by decide +kernel
theorem dX7_hear_1 : decode cX7_hear 1 = .ok (.iload_n 1, 1) := by decide +kernel
theorem dX7_hear_2 : decode cX7_hear 2 = .ok (.invokevirtual 200, 3) := by decide +kernel
theorem dX7_hear_5 : decode cX7_hear 5 = .ok (.ifCond .ne 5, 3) := by decide +kernel
theorem dX7_hear_8 : decode cX7_hear 8 = .ok (.iconst (-1), 1) := by decide +kernel
theorem dX7_hear_9 : decode cX7_hear 9 = .ok (.ireturn, 1) := by decide +kernel
theorem dX7_hear_10 : decode cX7_hear 10 = .ok (.aload_n 0, 1) := by decide +kernel
theorem dX7_hear_11 : decode cX7_hear 11 = .ok (.getfield 140, 3) := by decide +kernel
theorem dX7_hear_14 : decode cX7_hear 14 = .ok (.bipush 8, 2) := by decide +kernel
theorem dX7_hear_16 : decode cX7_hear 16 = .ok (.if_icmp .ne 6, 3) := by decide +kernel
theorem dX7_hear_19 : decode cX7_hear 19 = .ok (.bipush (-3), 2) := by decide +kernel
theorem dX7_hear_21 : decode cX7_hear 21 = .ok (.ireturn, 1) := by decide +kernel
theorem dX7_hear_22 : decode cX7_hear 22 = .ok (.aload_n 0, 1) := by decide +kernel
theorem dX7_hear_23 : decode cX7_hear 23 = .ok (.getfield 34, 3) := by decide +kernel
theorem dX7_hear_26 : decode cX7_hear 26 = .ok (.aload_n 0, 1) := by decide +kernel
theorem dX7_hear_27 : decode cX7_hear 27 = .ok (.getfield 140, 3) := by decide +kernel
theorem dX7_hear_30 : decode cX7_hear 30 = .ok (.iload_n 1, 1) := by decide +kernel
theorem dX7_hear_31 : decode cX7_hear 31 = .ok (.iastore, 1) := by decide +kernel
theorem dX7_hear_32 : decode cX7_hear 32 = .ok (.aload_n 0, 1) := by decide +kernel
theorem dX7_hear_33 : decode cX7_hear 33 = .ok (.dup, 1) := by decide +kernel
theorem dX7_hear_34 : decode cX7_hear 34 = .ok (.getfield 140, 3) := by decide +kernel
theorem dX7_hear_37 : decode cX7_hear 37 = .ok (.iconst 1, 1) := by decide +kernel
theorem dX7_hear_38 : decode cX7_hear 38 = .ok (.iadd, 1) := by decide +kernel
theorem dX7_hear_39 : decode cX7_hear 39 = .ok (.putfield 140, 3) := by decide +kernel
theorem dX7_hear_42 : decode cX7_hear 42 = .ok (.aload_n 0, 1) := by decide +kernel
theorem dX7_hear_43 : decode cX7_hear 43 = .ok (.getfield 140, 3) := by decide +kernel
theorem dX7_hear_46 : decode cX7_hear 46 = .ok (.ireturn, 1) := by decide +kernel
theorem dX7_forget_0 : decode cX7_forget 0 = .ok (.aload_n 0, 1) := by decide +kernel
theorem dX7_forget_1 : decode cX7_forget 1 = .ok (.getfield 140, 3) := by decide +kernel
theorem dX7_forget_4 : decode cX7_forget 4 = .ok (.istore_n 1, 1) := by decide +kernel
theorem dX7_forget_5 : decode cX7_forget 5 = .ok (.aload_n 0, 1) := by decide +kernel
theorem dX7_forget_6 : decode cX7_forget 6 = .ok (.iconst 0, 1) := by decide +kernel
theorem dX7_forget_7 : decode cX7_forget 7 = .ok (.putfield 140, 3) := by decide +kernel
theorem dX7_forget_10 : decode cX7_forget 10 = .ok (.iload_n 1, 1) := by decide +kernel
theorem dX7_forget_11 : decode cX7_forget 11 = .ok (.ireturn, 1) := by decide +kernel
theorem dX7_stood_0 : decode cX7_stood 0 = .ok (.iconst 0, 1) := by decide +kernel
theorem dX7_stood_1 : decode cX7_stood 1 = .ok (.istore_n 1, 1) := by decide +kernel
theorem dX7_stood_2 : decode cX7_stood 2 = .ok (.iconst 0, 1) := by decide +kernel
theorem dX7_stood_3 : decode cX7_stood 3 = .ok (.istore_n 2, 1) := by decide +kernel
theorem dX7_stood_4 : decode cX7_stood 4 = .ok (.iload_n 2, 1) := by decide +kernel
theorem dX7_stood_5 : decode cX7_stood 5 = .ok (.aload_n 0, 1) := by decide +kernel
theorem dX7_stood_6 : decode cX7_stood 6 = .ok (.getfield 7, 3) := by decide +kernel
theorem dX7_stood_9 : decode cX7_stood 9 = .ok (.iconst 1, 1) := by decide +kernel
theorem dX7_stood_10 : decode cX7_stood 10 = .ok (.iaload, 1) := by decide +kernel
theorem dX7_stood_11 : decode cX7_stood 11 = .ok (.if_icmp .ge 81, 3) := by decide +kernel
theorem dX7_stood_14 : decode cX7_stood 14 = .ok (.iconst 1, 1) := by decide +kernel
theorem dX7_stood_15 : decode cX7_stood 15 = .ok (.istore_n 3, 1) := by decide +kernel
theorem dX7_stood_16 : decode cX7_stood 16 = .ok (.iconst 0, 1) := by decide +kernel
theorem dX7_stood_17 : decode cX7_stood 17 = .ok (.istore 4, 2) := by decide +kernel
theorem dX7_stood_19 : decode cX7_stood 19 = .ok (.iload 4, 2) := by decide +kernel
theorem dX7_stood_21 : decode cX7_stood 21 = .ok (.aload_n 0, 1) := by decide +kernel
theorem dX7_stood_22 : decode cX7_stood 22 = .ok (.getfield 140, 3) := by decide +kernel
theorem dX7_stood_25 : decode cX7_stood 25 = .ok (.if_icmp .ge 47, 3) := by decide +kernel
theorem dX7_stood_28 : decode cX7_stood 28 = .ok (.iload_n 3, 1) := by decide +kernel
theorem dX7_stood_29 : decode cX7_stood 29 = .ok (.ifCond .eq 35, 3) := by decide +kernel
theorem dX7_stood_32 : decode cX7_stood 32 = .ok (.aload_n 0, 1) := by decide +kernel
theorem dX7_stood_33 : decode cX7_stood 33 = .ok (.getfield 19, 3) := by decide +kernel
theorem dX7_stood_36 : decode cX7_stood 36 = .ok (.iconst 2, 1) := by decide +kernel
theorem dX7_stood_37 : decode cX7_stood 37 = .ok (.iload_n 2, 1) := by decide +kernel
theorem dX7_stood_38 : decode cX7_stood 38 = .ok (.iload 4, 2) := by decide +kernel
theorem dX7_stood_40 : decode cX7_stood 40 = .ok (.iadd, 1) := by decide +kernel
theorem dX7_stood_41 : decode cX7_stood 41 = .ok (.aload_n 0, 1) := by decide +kernel
theorem dX7_stood_42 : decode cX7_stood 42 = .ok (.getfield 7, 3) := by decide +kernel
theorem dX7_stood_45 : decode cX7_stood 45 = .ok (.iconst 1, 1) := by decide +kernel
theorem dX7_stood_46 : decode cX7_stood 46 = .ok (.iaload, 1) := by decide +kernel
theorem dX7_stood_47 : decode cX7_stood 47 = .ok (.irem, 1) := by decide +kernel
theorem dX7_stood_48 : decode cX7_stood 48 = .ok (.iadd, 1) := by decide +kernel
theorem dX7_stood_49 : decode cX7_stood 49 = .ok (.iaload, 1) := by decide +kernel
theorem dX7_stood_50 : decode cX7_stood 50 = .ok (.aload_n 0, 1) := by decide +kernel
theorem dX7_stood_51 : decode cX7_stood 51 = .ok (.getfield 34, 3) := by decide +kernel
theorem dX7_stood_54 : decode cX7_stood 54 = .ok (.iload 4, 2) := by decide +kernel
theorem dX7_stood_56 : decode cX7_stood 56 = .ok (.iaload, 1) := by decide +kernel
theorem dX7_stood_57 : decode cX7_stood 57 = .ok (.if_icmp .ne 7, 3) := by decide +kernel
theorem dX7_stood_60 : decode cX7_stood 60 = .ok (.iconst 1, 1) := by decide +kernel
theorem dX7_stood_61 : decode cX7_stood 61 = .ok (.goto 4, 3) := by decide +kernel
theorem dX7_stood_64 : decode cX7_stood 64 = .ok (.iconst 0, 1) := by decide +kernel
theorem dX7_stood_65 : decode cX7_stood 65 = .ok (.istore_n 3, 1) := by decide +kernel
theorem dX7_stood_66 : decode cX7_stood 66 = .ok (.iinc 4 1, 3) := by decide +kernel
theorem dX7_stood_69 : decode cX7_stood 69 = .ok (.goto (-50), 3) := by decide +kernel
theorem dX7_stood_72 : decode cX7_stood 72 = .ok (.iload_n 1, 1) := by decide +kernel
theorem dX7_stood_73 : decode cX7_stood 73 = .ok (.iload_n 3, 1) := by decide +kernel
theorem dX7_stood_74 : decode cX7_stood 74 = .ok (.ifCond .eq 9, 3) := by decide +kernel
theorem dX7_stood_77 : decode cX7_stood 77 = .ok (.iconst 1, 1) := by decide +kernel
theorem dX7_stood_78 : decode cX7_stood 78 = .ok (.iload_n 2, 1) := by decide +kernel
theorem dX7_stood_79 : decode cX7_stood 79 = .ok (.ishl, 1) := by decide +kernel
theorem dX7_stood_80 : decode cX7_stood 80 = .ok (.goto 4, 3) := by decide +kernel
theorem dX7_stood_83 : decode cX7_stood 83 = .ok (.iconst 0, 1) := by decide +kernel
theorem dX7_stood_84 : decode cX7_stood 84 = .ok (.ior, 1) := by decide +kernel
theorem dX7_stood_85 : decode cX7_stood 85 = .ok (.istore_n 1, 1) := by decide +kernel
theorem dX7_stood_86 : decode cX7_stood 86 = .ok (.iinc 2 1, 3) := by decide +kernel
theorem dX7_stood_89 : decode cX7_stood 89 = .ok (.goto (-85), 3) := by decide +kernel
theorem dX7_stood_92 : decode cX7_stood 92 = .ok (.iload_n 1, 1) := by decide +kernel
theorem dX7_stood_93 : decode cX7_stood 93 = .ok (.ireturn, 1) := by decide +kernel
theorem dX7_octaves_0 : decode cX7_octaves 0 = .ok (.iconst 0, 1) := by decide +kernel
theorem dX7_octaves_1 : decode cX7_octaves 1 = .ok (.istore_n 1, 1) := by decide +kernel
theorem dX7_octaves_2 : decode cX7_octaves 2 = .ok (.iconst 0, 1) := by decide +kernel
theorem dX7_octaves_3 : decode cX7_octaves 3 = .ok (.istore_n 2, 1) := by decide +kernel
theorem dX7_octaves_4 : decode cX7_octaves 4 = .ok (.iload_n 2, 1) := by decide +kernel
theorem dX7_octaves_5 : decode cX7_octaves 5 = .ok (.bipush 12, 2) := by decide +kernel
theorem dX7_octaves_7 : decode cX7_octaves 7 = .ok (.if_icmp .ge 68, 3) := by decide +kernel
theorem dX7_octaves_10 : decode cX7_octaves 10 = .ok (.iconst 0, 1) := by decide +kernel
theorem dX7_octaves_11 : decode cX7_octaves 11 = .ok (.istore_n 3, 1) := by decide +kernel
theorem dX7_octaves_12 : decode cX7_octaves 12 = .ok (.iconst 0, 1) := by decide +kernel
theorem dX7_octaves_13 : decode cX7_octaves 13 = .ok (.istore 4, 2) := by decide +kernel
theorem dX7_octaves_15 : decode cX7_octaves 15 = .ok (.iload 4, 2) := by decide +kernel
theorem dX7_octaves_17 : decode cX7_octaves 17 = .ok (.aload_n 0, 1) := by decide +kernel
theorem dX7_octaves_18 : decode cX7_octaves 18 = .ok (.getfield 7, 3) := by decide +kernel
theorem dX7_octaves_21 : decode cX7_octaves 21 = .ok (.iconst 0, 1) := by decide +kernel
theorem dX7_octaves_22 : decode cX7_octaves 22 = .ok (.iaload, 1) := by decide +kernel
theorem dX7_octaves_23 : decode cX7_octaves 23 = .ok (.if_icmp .ge 33, 3) := by decide +kernel
theorem dX7_octaves_26 : decode cX7_octaves 26 = .ok (.iload_n 3, 1) := by decide +kernel
theorem dX7_octaves_27 : decode cX7_octaves 27 = .ok (.aload_n 0, 1) := by decide +kernel
theorem dX7_octaves_28 : decode cX7_octaves 28 = .ok (.getfield 7, 3) := by decide +kernel
theorem dX7_octaves_31 : decode cX7_octaves 31 = .ok (.iconst 3, 1) := by decide +kernel
theorem dX7_octaves_32 : decode cX7_octaves 32 = .ok (.iload 4, 2) := by decide +kernel
theorem dX7_octaves_34 : decode cX7_octaves 34 = .ok (.iadd, 1) := by decide +kernel
theorem dX7_octaves_35 : decode cX7_octaves 35 = .ok (.iaload, 1) := by decide +kernel
theorem dX7_octaves_36 : decode cX7_octaves 36 = .ok (.bipush 12, 2) := by decide +kernel
theorem dX7_octaves_38 : decode cX7_octaves 38 = .ok (.irem, 1) := by decide +kernel
theorem dX7_octaves_39 : decode cX7_octaves 39 = .ok (.iload_n 2, 1) := by decide +kernel
theorem dX7_octaves_40 : decode cX7_octaves 40 = .ok (.if_icmp .ne 7, 3) := by decide +kernel
theorem dX7_octaves_43 : decode cX7_octaves 43 = .ok (.iconst 1, 1) := by decide +kernel
theorem dX7_octaves_44 : decode cX7_octaves 44 = .ok (.goto 4, 3) := by decide +kernel
theorem dX7_octaves_47 : decode cX7_octaves 47 = .ok (.iconst 0, 1) := by decide +kernel
theorem dX7_octaves_48 : decode cX7_octaves 48 = .ok (.iadd, 1) := by decide +kernel
theorem dX7_octaves_49 : decode cX7_octaves 49 = .ok (.istore_n 3, 1) := by decide +kernel
theorem dX7_octaves_50 : decode cX7_octaves 50 = .ok (.iinc 4 1, 3) := by decide +kernel
theorem dX7_octaves_53 : decode cX7_octaves 53 = .ok (.goto (-38), 3) := by decide +kernel
theorem dX7_octaves_56 : decode cX7_octaves 56 = .ok (.iload_n 1, 1) := by decide +kernel
theorem dX7_octaves_57 : decode cX7_octaves 57 = .ok (.iload_n 3, 1) := by decide +kernel
theorem dX7_octaves_58 : decode cX7_octaves 58 = .ok (.iconst 1, 1) := by decide +kernel
theorem dX7_octaves_59 : decode cX7_octaves 59 = .ok (.if_icmp .le 7, 3) := by decide +kernel
theorem dX7_octaves_62 : decode cX7_octaves 62 = .ok (.iconst 1, 1) := by decide +kernel
theorem dX7_octaves_63 : decode cX7_octaves 63 = .ok (.goto 4, 3) := by decide +kernel
theorem dX7_octaves_66 : decode cX7_octaves 66 = .ok (.iconst 0, 1) := by decide +kernel
theorem dX7_octaves_67 : decode cX7_octaves 67 = .ok (.iadd, 1) := by decide +kernel
theorem dX7_octaves_68 : decode cX7_octaves 68 = .ok (.istore_n 1, 1) := by decide +kernel
theorem dX7_octaves_69 : decode cX7_octaves 69 = .ok (.iinc 2 1, 3) := by decide +kernel
theorem dX7_octaves_72 : decode cX7_octaves 72 = .ok (.goto (-68), 3) := by decide +kernel
theorem dX7_octaves_75 : decode cX7_octaves 75 = .ok (.iload_n 1, 1) := by decide +kernel
theorem dX7_octaves_76 : decode cX7_octaves 76 = .ok (.ireturn, 1) := by decide +kernel
theorem dX7_melody_0 : decode cX7_melody 0 = .ok (.iload_n 1, 1) := by decide +kernel
theorem dX7_melody_1 : decode cX7_melody 1 = .ok (.i2l, 1) := by decide +kernel
theorem dX7_melody_2 : decode cX7_melody 2 = .ok (.lconst 0, 1) := by decide +kernel
theorem dX7_melody_3 : decode cX7_melody 3 = .ok (.ldc2_w 103, 3) := by decide +kernel
theorem dX7_melody_6 : decode cX7_melody 6 = .ok (.invokestatic 73, 3) := by decide +kernel
theorem dX7_melody_9 : decode cX7_melody 9 = .ok (.ifCond .ne 5, 3) := by decide +kernel
theorem dX7_melody_12 : decode cX7_melody 12 = .ok (.iconst (-1), 1) := by decide +kernel
theorem dX7_melody_13 : decode cX7_melody 13 = .ok (.ireturn, 1) := by decide +kernel
theorem dX7_melody_14 : decode cX7_melody 14 = .ok (.iconst 0, 1) := by decide +kernel
theorem dX7_melody_15 : decode cX7_melody 15 = .ok (.istore_n 2, 1) := by decide +kernel
theorem dX7_melody_16 : decode cX7_melody 16 = .ok (.iconst 0, 1) := by decide +kernel
theorem dX7_melody_17 : decode cX7_melody 17 = .ok (.istore_n 3, 1) := by decide +kernel
theorem dX7_melody_18 : decode cX7_melody 18 = .ok (.iconst 0, 1) := by decide +kernel
theorem dX7_melody_19 : decode cX7_melody 19 = .ok (.istore 4, 2) := by decide +kernel
theorem dX7_melody_21 : decode cX7_melody 21 = .ok (.iconst (-1), 1) := by decide +kernel
theorem dX7_melody_22 : decode cX7_melody 22 = .ok (.istore 5, 2) := by decide +kernel
theorem dX7_melody_24 : decode cX7_melody 24 = .ok (.iconst 0, 1) := by decide +kernel
theorem dX7_melody_25 : decode cX7_melody 25 = .ok (.istore 6, 2) := by decide +kernel
theorem dX7_melody_27 : decode cX7_melody 27 = .ok (.iload 6, 2) := by decide +kernel
theorem dX7_melody_29 : decode cX7_melody 29 = .ok (.aload_n 0, 1) := by decide +kernel
theorem dX7_melody_30 : decode cX7_melody 30 = .ok (.getfield 7, 3) := by decide +kernel
theorem dX7_melody_33 : decode cX7_melody 33 = .ok (.iconst 1, 1) := by decide +kernel
theorem dX7_melody_34 : decode cX7_melody 34 = .ok (.iaload, 1) := by decide +kernel
theorem dX7_melody_35 : decode cX7_melody 35 = .ok (.if_icmp .ge 161, 3) := by decide +kernel
theorem dX7_melody_38 : decode cX7_melody 38 = .ok (.iconst (-1), 1) := by decide +kernel
theorem dX7_melody_39 : decode cX7_melody 39 = .ok (.istore 7, 2) := by decide +kernel
theorem dX7_melody_41 : decode cX7_melody 41 = .ok (.iconst 0, 1) := by decide +kernel
theorem dX7_melody_42 : decode cX7_melody 42 = .ok (.istore 8, 2) := by decide +kernel
theorem dX7_melody_44 : decode cX7_melody 44 = .ok (.iload 8, 2) := by decide +kernel
theorem dX7_melody_46 : decode cX7_melody 46 = .ok (.aload_n 0, 1) := by decide +kernel
theorem dX7_melody_47 : decode cX7_melody 47 = .ok (.getfield 7, 3) := by decide +kernel
theorem dX7_melody_50 : decode cX7_melody 50 = .ok (.iconst 0, 1) := by decide +kernel
theorem dX7_melody_51 : decode cX7_melody 51 = .ok (.iaload, 1) := by decide +kernel
theorem dX7_melody_52 : decode cX7_melody 52 = .ok (.if_icmp .ge 56, 3) := by decide +kernel
theorem dX7_melody_55 : decode cX7_melody 55 = .ok (.aload_n 0, 1) := by decide +kernel
theorem dX7_melody_56 : decode cX7_melody 56 = .ok (.getfield 19, 3) := by decide +kernel
theorem dX7_melody_59 : decode cX7_melody 59 = .ok (.iconst 2, 1) := by decide +kernel
theorem dX7_melody_60 : decode cX7_melody 60 = .ok (.iload 6, 2) := by decide +kernel
theorem dX7_melody_62 : decode cX7_melody 62 = .ok (.iadd, 1) := by decide +kernel
theorem dX7_melody_63 : decode cX7_melody 63 = .ok (.iaload, 1) := by decide +kernel
theorem dX7_melody_64 : decode cX7_melody 64 = .ok (.iload 8, 2) := by decide +kernel
theorem dX7_melody_66 : decode cX7_melody 66 = .ok (.invokestatic 152, 3) := by decide +kernel
theorem dX7_melody_69 : decode cX7_melody 69 = .ok (.ifCond .eq 29, 3) := by decide +kernel
theorem dX7_melody_72 : decode cX7_melody 72 = .ok (.aload_n 0, 1) := by decide +kernel
theorem dX7_melody_73 : decode cX7_melody 73 = .ok (.getfield 7, 3) := by decide +kernel
theorem dX7_melody_76 : decode cX7_melody 76 = .ok (.iconst 3, 1) := by decide +kernel
theorem dX7_melody_77 : decode cX7_melody 77 = .ok (.iload 8, 2) := by decide +kernel
theorem dX7_melody_79 : decode cX7_melody 79 = .ok (.iadd, 1) := by decide +kernel
theorem dX7_melody_80 : decode cX7_melody 80 = .ok (.iaload, 1) := by decide +kernel
theorem dX7_melody_81 : decode cX7_melody 81 = .ok (.iload 7, 2) := by decide +kernel
theorem dX7_melody_83 : decode cX7_melody 83 = .ok (.if_icmp .le 15, 3) := by decide +kernel
theorem dX7_melody_86 : decode cX7_melody 86 = .ok (.aload_n 0, 1) := by decide +kernel
theorem dX7_melody_87 : decode cX7_melody 87 = .ok (.getfield 7, 3) := by decide +kernel
theorem dX7_melody_90 : decode cX7_melody 90 = .ok (.iconst 3, 1) := by decide +kernel
theorem dX7_melody_91 : decode cX7_melody 91 = .ok (.iload 8, 2) := by decide +kernel
theorem dX7_melody_93 : decode cX7_melody 93 = .ok (.iadd, 1) := by decide +kernel
theorem dX7_melody_94 : decode cX7_melody 94 = .ok (.iaload, 1) := by decide +kernel
theorem dX7_melody_95 : decode cX7_melody 95 = .ok (.goto 5, 3) := by decide +kernel
theorem dX7_melody_98 : decode cX7_melody 98 = .ok (.iload 7, 2) := by decide +kernel
theorem dX7_melody_100 : decode cX7_melody 100 = .ok (.istore 7, 2) := by decide +kernel
theorem dX7_melody_102 : decode cX7_melody 102 = .ok (.iinc 8 1, 3) := by decide +kernel
theorem dX7_melody_105 : decode cX7_melody 105 = .ok (.goto (-61), 3) := by decide +kernel
theorem dX7_melody_108 : decode cX7_melody 108 = .ok (.iload 7, 2) := by decide +kernel
theorem dX7_melody_110 : decode cX7_melody 110 = .ok (.ifCond .lt 80, 3) := by decide +kernel
theorem dX7_melody_113 : decode cX7_melody 113 = .ok (.iload 5, 2) := by decide +kernel
theorem dX7_melody_115 : decode cX7_melody 115 = .ok (.ifCond .ge 7, 3) := by decide +kernel
theorem dX7_melody_118 : decode cX7_melody 118 = .ok (.iconst 0, 1) := by decide +kernel
theorem dX7_melody_119 : decode cX7_melody 119 = .ok (.goto 8, 3) := by decide +kernel
theorem dX7_melody_122 : decode cX7_melody 122 = .ok (.iload 7, 2) := by decide +kernel
theorem dX7_melody_124 : decode cX7_melody 124 = .ok (.iload 5, 2) := by decide +kernel
theorem dX7_melody_126 : decode cX7_melody 126 = .ok (.isub, 1) := by decide +kernel
theorem dX7_melody_127 : decode cX7_melody 127 = .ok (.istore 8, 2) := by decide +kernel
theorem dX7_melody_129 : decode cX7_melody 129 = .ok (.iload_n 2, 1) := by decide +kernel
theorem dX7_melody_130 : decode cX7_melody 130 = .ok (.iload 8, 2) := by decide +kernel
theorem dX7_melody_132 : decode cX7_melody 132 = .ok (.ifCond .le 7, 3) := by decide +kernel
theorem dX7_melody_135 : decode cX7_melody 135 = .ok (.iconst 1, 1) := by decide +kernel
theorem dX7_melody_136 : decode cX7_melody 136 = .ok (.goto 4, 3) := by decide +kernel
theorem dX7_melody_139 : decode cX7_melody 139 = .ok (.iconst 0, 1) := by decide +kernel
theorem dX7_melody_140 : decode cX7_melody 140 = .ok (.iadd, 1) := by decide +kernel
theorem dX7_melody_141 : decode cX7_melody 141 = .ok (.istore_n 2, 1) := by decide +kernel
theorem dX7_melody_142 : decode cX7_melody 142 = .ok (.iload_n 3, 1) := by decide +kernel
theorem dX7_melody_143 : decode cX7_melody 143 = .ok (.iload 8, 2) := by decide +kernel
theorem dX7_melody_145 : decode cX7_melody 145 = .ok (.ifCond .ge 7, 3) := by decide +kernel
theorem dX7_melody_148 : decode cX7_melody 148 = .ok (.iconst 1, 1) := by decide +kernel
theorem dX7_melody_149 : decode cX7_melody 149 = .ok (.goto 4, 3) := by decide +kernel
theorem dX7_melody_152 : decode cX7_melody 152 = .ok (.iconst 0, 1) := by decide +kernel
theorem dX7_melody_153 : decode cX7_melody 153 = .ok (.iadd, 1) := by decide +kernel
theorem dX7_melody_154 : decode cX7_melody 154 = .ok (.istore_n 3, 1) := by decide +kernel
theorem dX7_melody_155 : decode cX7_melody 155 = .ok (.iload 8, 2) := by decide +kernel
theorem dX7_melody_157 : decode cX7_melody 157 = .ok (.ifCond .ge 9, 3) := by decide +kernel
theorem dX7_melody_160 : decode cX7_melody 160 = .ok (.iload 8, 2) := by decide +kernel
theorem dX7_melody_162 : decode cX7_melody 162 = .ok (.ineg, 1) := by decide +kernel
theorem dX7_melody_163 : decode cX7_melody 163 = .ok (.goto 5, 3) := by decide +kernel
theorem dX7_melody_166 : decode cX7_melody 166 = .ok (.iload 8, 2) := by decide +kernel
theorem dX7_melody_168 : decode cX7_melody 168 = .ok (.istore 9, 2) := by decide +kernel
theorem dX7_melody_170 : decode cX7_melody 170 = .ok (.iload 9, 2) := by decide +kernel
theorem dX7_melody_172 : decode cX7_melody 172 = .ok (.iload 4, 2) := by decide +kernel
theorem dX7_melody_174 : decode cX7_melody 174 = .ok (.if_icmp .le 8, 3) := by decide +kernel
theorem dX7_melody_177 : decode cX7_melody 177 = .ok (.iload 9, 2) := by decide +kernel
theorem dX7_melody_179 : decode cX7_melody 179 = .ok (.goto 5, 3) := by decide +kernel
theorem dX7_melody_182 : decode cX7_melody 182 = .ok (.iload 4, 2) := by decide +kernel
theorem dX7_melody_184 : decode cX7_melody 184 = .ok (.istore 4, 2) := by decide +kernel
theorem dX7_melody_186 : decode cX7_melody 186 = .ok (.iload 7, 2) := by decide +kernel
theorem dX7_melody_188 : decode cX7_melody 188 = .ok (.istore 5, 2) := by decide +kernel
theorem dX7_melody_190 : decode cX7_melody 190 = .ok (.iinc 6 1, 3) := by decide +kernel
theorem dX7_melody_193 : decode cX7_melody 193 = .ok (.goto (-166), 3) := by decide +kernel
theorem dX7_melody_196 : decode cX7_melody 196 = .ok (.iload_n 1, 1) := by decide +kernel
theorem dX7_melody_197 : decode cX7_melody 197 = .ok (.ifCond .ne 7, 3) := by decide +kernel
theorem dX7_melody_200 : decode cX7_melody 200 = .ok (.iload_n 2, 1) := by decide +kernel
theorem dX7_melody_201 : decode cX7_melody 201 = .ok (.goto 14, 3) := by decide +kernel
theorem dX7_melody_204 : decode cX7_melody 204 = .ok (.iload_n 1, 1) := by decide +kernel
theorem dX7_melody_205 : decode cX7_melody 205 = .ok (.iconst 1, 1) := by decide +kernel
theorem dX7_melody_206 : decode cX7_melody 206 = .ok (.if_icmp .ne 7, 3) := by decide +kernel
theorem dX7_melody_209 : decode cX7_melody 209 = .ok (.iload_n 3, 1) := by decide +kernel
theorem dX7_melody_210 : decode cX7_melody 210 = .ok (.goto 5, 3) := by decide +kernel
theorem dX7_melody_213 : decode cX7_melody 213 = .ok (.iload 4, 2) := by decide +kernel
theorem dX7_melody_215 : decode cX7_melody 215 = .ok (.ireturn, 1) := by decide +kernel
theorem dX7_winter_0 : decode cX7_winter 0 = .ok (.iload_n 1, 1) := by decide +kernel
theorem dX7_winter_1 : decode cX7_winter 1 = .ok (.i2l, 1) := by decide +kernel
theorem dX7_winter_2 : decode cX7_winter 2 = .ok (.lconst 0, 1) := by decide +kernel
theorem dX7_winter_3 : decode cX7_winter 3 = .ok (.ldc2_w 216, 3) := by decide +kernel
theorem dX7_winter_6 : decode cX7_winter 6 = .ok (.invokestatic 73, 3) := by decide +kernel
theorem dX7_winter_9 : decode cX7_winter 9 = .ok (.ifCond .eq 22, 3) := by decide +kernel
theorem dX7_winter_12 : decode cX7_winter 12 = .ok (.iload_n 2, 1) := by decide +kernel
theorem dX7_winter_13 : decode cX7_winter 13 = .ok (.i2l, 1) := by decide +kernel
theorem dX7_winter_14 : decode cX7_winter 14 = .ok (.lconst 1, 1) := by decide +kernel
theorem dX7_winter_15 : decode cX7_winter 15 = .ok (.ldc2_w 218, 3) := by decide +kernel
theorem dX7_winter_18 : decode cX7_winter 18 = .ok (.invokestatic 73, 3) := by decide +kernel
theorem dX7_winter_21 : decode cX7_winter 21 = .ok (.ifCond .eq 10, 3) := by decide +kernel
theorem dX7_winter_24 : decode cX7_winter 24 = .ok (.iload_n 3, 1) := by decide +kernel
theorem dX7_winter_25 : decode cX7_winter 25 = .ok (.invokestatic 196, 3) := by decide +kernel
theorem dX7_winter_28 : decode cX7_winter 28 = .ok (.ifCond .ne 5, 3) := by decide +kernel
theorem dX7_winter_31 : decode cX7_winter 31 = .ok (.iconst (-1), 1) := by decide +kernel
theorem dX7_winter_32 : decode cX7_winter 32 = .ok (.ireturn, 1) := by decide +kernel
theorem dX7_winter_33 : decode cX7_winter 33 = .ok (.aload_n 0, 1) := by decide +kernel
theorem dX7_winter_34 : decode cX7_winter 34 = .ok (.getfield 19, 3) := by decide +kernel
theorem dX7_winter_37 : decode cX7_winter 37 = .ok (.iconst 0, 1) := by decide +kernel
theorem dX7_winter_38 : decode cX7_winter 38 = .ok (.aload_n 0, 1) := by decide +kernel
theorem dX7_winter_39 : decode cX7_winter 39 = .ok (.getfield 46, 3) := by decide +kernel
theorem dX7_winter_42 : decode cX7_winter 42 = .ok (.iconst 0, 1) := by decide +kernel
theorem dX7_winter_43 : decode cX7_winter 43 = .ok (.invokestatic 165, 3) := by decide +kernel
theorem dX7_winter_46 : decode cX7_winter 46 = .ok (.iconst 0, 1) := by decide +kernel
theorem dX7_winter_47 : decode cX7_winter 47 = .ok (.istore 4, 2) := by decide +kernel
theorem dX7_winter_49 : decode cX7_winter 49 = .ok (.iload 4, 2) := by decide +kernel
theorem dX7_winter_51 : decode cX7_winter 51 = .ok (.iload_n 2, 1) := by decide +kernel
theorem dX7_winter_52 : decode cX7_winter 52 = .ok (.if_icmp .ge 74, 3) := by decide +kernel
theorem dX7_winter_55 : decode cX7_winter 55 = .ok (.ldc2_w 220, 3) := by decide +kernel
theorem dX7_winter_58 : decode cX7_winter 58 = .ok (.iload_n 1, 1) := by decide +kernel
theorem dX7_winter_59 : decode cX7_winter 59 = .ok (.i2l, 1) := by decide +kernel
theorem dX7_winter_60 : decode cX7_winter 60 = .ok (.lmul, 1) := by decide +kernel
theorem dX7_winter_61 : decode cX7_winter 61 = .ok (.ldc2_w 222, 3) := by decide +kernel
theorem dX7_winter_64 : decode cX7_winter 64 = .ok (.iload 4, 2) := by decide +kernel
theorem dX7_winter_66 : decode cX7_winter 66 = .ok (.i2l, 1) := by decide +kernel
theorem dX7_winter_67 : decode cX7_winter 67 = .ok (.lmul, 1) := by decide +kernel
theorem dX7_winter_68 : decode cX7_winter 68 = .ok (.ladd, 1) := by decide +kernel
theorem dX7_winter_69 : decode cX7_winter 69 = .ok (.lconst 1, 1) := by decide +kernel
theorem dX7_winter_70 : decode cX7_winter 70 = .ok (.ladd, 1) := by decide +kernel
theorem dX7_winter_71 : decode cX7_winter 71 = .ok (.lstore 5, 2) := by decide +kernel
theorem dX7_winter_73 : decode cX7_winter 73 = .ok (.lload 5, 2) := by decide +kernel
theorem dX7_winter_75 : decode cX7_winter 75 = .ok (.lload 5, 2) := by decide +kernel
theorem dX7_winter_77 : decode cX7_winter 77 = .ok (.lmul, 1) := by decide +kernel
theorem dX7_winter_78 : decode cX7_winter 78 = .ok (.ldc2_w 224, 3) := by decide +kernel
theorem dX7_winter_81 : decode cX7_winter 81 = .ok (.lrem, 1) := by decide +kernel
theorem dX7_winter_82 : decode cX7_winter 82 = .ok (.l2i, 1) := by decide +kernel
theorem dX7_winter_83 : decode cX7_winter 83 = .ok (.bipush 8, 2) := by decide +kernel
theorem dX7_winter_85 : decode cX7_winter 85 = .ok (.idiv, 1) := by decide +kernel
theorem dX7_winter_86 : decode cX7_winter 86 = .ok (.istore 7, 2) := by decide +kernel
theorem dX7_winter_88 : decode cX7_winter 88 = .ok (.iconst 2, 1) := by decide +kernel
theorem dX7_winter_89 : decode cX7_winter 89 = .ok (.iload 7, 2) := by decide +kernel
theorem dX7_winter_91 : decode cX7_winter 91 = .ok (.aload_n 0, 1) := by decide +kernel
theorem dX7_winter_92 : decode cX7_winter 92 = .ok (.getfield 7, 3) := by decide +kernel
theorem dX7_winter_95 : decode cX7_winter 95 = .ok (.iconst 1, 1) := by decide +kernel
theorem dX7_winter_96 : decode cX7_winter 96 = .ok (.iaload, 1) := by decide +kernel
theorem dX7_winter_97 : decode cX7_winter 97 = .ok (.irem, 1) := by decide +kernel
theorem dX7_winter_98 : decode cX7_winter 98 = .ok (.iadd, 1) := by decide +kernel
theorem dX7_winter_99 : decode cX7_winter 99 = .ok (.istore 8, 2) := by decide +kernel
theorem dX7_winter_101 : decode cX7_winter 101 = .ok (.aload_n 0, 1) := by decide +kernel
theorem dX7_winter_102 : decode cX7_winter 102 = .ok (.getfield 46, 3) := by decide +kernel
theorem dX7_winter_105 : decode cX7_winter 105 = .ok (.iload 8, 2) := by decide +kernel
theorem dX7_winter_107 : decode cX7_winter 107 = .ok (.dup2, 1) := by decide +kernel
theorem dX7_winter_108 : decode cX7_winter 108 = .ok (.iaload, 1) := by decide +kernel
theorem dX7_winter_109 : decode cX7_winter 109 = .ok (.aload_n 0, 1) := by decide +kernel
theorem dX7_winter_110 : decode cX7_winter 110 = .ok (.getfield 46, 3) := by decide +kernel
theorem dX7_winter_113 : decode cX7_winter 113 = .ok (.iload 8, 2) := by decide +kernel
theorem dX7_winter_115 : decode cX7_winter 115 = .ok (.iaload, 1) := by decide +kernel
theorem dX7_winter_116 : decode cX7_winter 116 = .ok (.iconst 1, 1) := by decide +kernel
theorem dX7_winter_117 : decode cX7_winter 117 = .ok (.isub, 1) := by decide +kernel
theorem dX7_winter_118 : decode cX7_winter 118 = .ok (.iand, 1) := by decide +kernel
theorem dX7_winter_119 : decode cX7_winter 119 = .ok (.iastore, 1) := by decide +kernel
theorem dX7_winter_120 : decode cX7_winter 120 = .ok (.iinc 4 1, 3) := by decide +kernel
theorem dX7_winter_123 : decode cX7_winter 123 = .ok (.goto (-74), 3) := by decide +kernel
theorem dX7_winter_126 : decode cX7_winter 126 = .ok (.iconst 0, 1) := by decide +kernel
theorem dX7_winter_127 : decode cX7_winter 127 = .ok (.istore 4, 2) := by decide +kernel
theorem dX7_winter_129 : decode cX7_winter 129 = .ok (.iconst 0, 1) := by decide +kernel
theorem dX7_winter_130 : decode cX7_winter 130 = .ok (.istore 5, 2) := by decide +kernel
theorem dX7_winter_132 : decode cX7_winter 132 = .ok (.iconst 0, 1) := by decide +kernel
theorem dX7_winter_133 : decode cX7_winter 133 = .ok (.istore 6, 2) := by decide +kernel
theorem dX7_winter_135 : decode cX7_winter 135 = .ok (.iload 6, 2) := by decide +kernel
theorem dX7_winter_137 : decode cX7_winter 137 = .ok (.aload_n 0, 1) := by decide +kernel
theorem dX7_winter_138 : decode cX7_winter 138 = .ok (.getfield 7, 3) := by decide +kernel
theorem dX7_winter_141 : decode cX7_winter 141 = .ok (.iconst 1, 1) := by decide +kernel
theorem dX7_winter_142 : decode cX7_winter 142 = .ok (.iaload, 1) := by decide +kernel
theorem dX7_winter_143 : decode cX7_winter 143 = .ok (.if_icmp .ge 48, 3) := by decide +kernel
theorem dX7_winter_146 : decode cX7_winter 146 = .ok (.iload 4, 2) := by decide +kernel
theorem dX7_winter_148 : decode cX7_winter 148 = .ok (.aload_n 0, 1) := by decide +kernel
theorem dX7_winter_149 : decode cX7_winter 149 = .ok (.getfield 46, 3) := by decide +kernel
theorem dX7_winter_152 : decode cX7_winter 152 = .ok (.iconst 2, 1) := by decide +kernel
theorem dX7_winter_153 : decode cX7_winter 153 = .ok (.iload 6, 2) := by decide +kernel
theorem dX7_winter_155 : decode cX7_winter 155 = .ok (.iadd, 1) := by decide +kernel
theorem dX7_winter_156 : decode cX7_winter 156 = .ok (.iaload, 1) := by decide +kernel
theorem dX7_winter_157 : decode cX7_winter 157 = .ok (.invokestatic 114, 3) := by decide +kernel
theorem dX7_winter_160 : decode cX7_winter 160 = .ok (.iadd, 1) := by decide +kernel
theorem dX7_winter_161 : decode cX7_winter 161 = .ok (.istore 4, 2) := by decide +kernel
theorem dX7_winter_163 : decode cX7_winter 163 = .ok (.iload 5, 2) := by decide +kernel
theorem dX7_winter_165 : decode cX7_winter 165 = .ok (.aload_n 0, 1) := by decide +kernel
theorem dX7_winter_166 : decode cX7_winter 166 = .ok (.getfield 46, 3) := by decide +kernel
theorem dX7_winter_169 : decode cX7_winter 169 = .ok (.iconst 2, 1) := by decide +kernel
theorem dX7_winter_170 : decode cX7_winter 170 = .ok (.iload 6, 2) := by decide +kernel
theorem dX7_winter_172 : decode cX7_winter 172 = .ok (.iadd, 1) := by decide +kernel
theorem dX7_winter_173 : decode cX7_winter 173 = .ok (.iaload, 1) := by decide +kernel
theorem dX7_winter_174 : decode cX7_winter 174 = .ok (.ifCond .ne 7, 3) := by decide +kernel
theorem dX7_winter_177 : decode cX7_winter 177 = .ok (.iconst 1, 1) := by decide +kernel
theorem dX7_winter_178 : decode cX7_winter 178 = .ok (.goto 4, 3) := by decide +kernel
theorem dX7_winter_181 : decode cX7_winter 181 = .ok (.iconst 0, 1) := by decide +kernel
theorem dX7_winter_182 : decode cX7_winter 182 = .ok (.iadd, 1) := by decide +kernel
theorem dX7_winter_183 : decode cX7_winter 183 = .ok (.istore 5, 2) := by decide +kernel
theorem dX7_winter_185 : decode cX7_winter 185 = .ok (.iinc 6 1, 3) := by decide +kernel
theorem dX7_winter_188 : decode cX7_winter 188 = .ok (.goto (-53), 3) := by decide +kernel
theorem dX7_winter_191 : decode cX7_winter 191 = .ok (.iload_n 3, 1) := by decide +kernel
theorem dX7_winter_192 : decode cX7_winter 192 = .ok (.ifCond .ne 8, 3) := by decide +kernel
theorem dX7_winter_195 : decode cX7_winter 195 = .ok (.iload 4, 2) := by decide +kernel
theorem dX7_winter_197 : decode cX7_winter 197 = .ok (.goto 5, 3) := by decide +kernel
theorem dX7_winter_200 : decode cX7_winter 200 = .ok (.iload 5, 2) := by decide +kernel
theorem dX7_winter_202 : decode cX7_winter 202 = .ok (.ireturn, 1) := by decide +kernel
theorem dX7_keep_0 : decode cX7_keep 0 = .ok (.aload_n 0, 1) := by decide +kernel
theorem dX7_keep_1 : decode cX7_keep 1 = .ok (.getfield 146, 3) := by decide +kernel
theorem dX7_keep_4 : decode cX7_keep 4 = .ok (.iconst 2, 1) := by decide +kernel
theorem dX7_keep_5 : decode cX7_keep 5 = .ok (.if_icmp .ne 6, 3) := by decide +kernel
theorem dX7_keep_8 : decode cX7_keep 8 = .ok (.bipush (-3), 2) := by decide +kernel
theorem dX7_keep_10 : decode cX7_keep 10 = .ok (.ireturn, 1) := by decide +kernel
theorem dX7_keep_11 : decode cX7_keep 11 = .ok (.aload_n 0, 1) := by decide +kernel
theorem dX7_keep_12 : decode cX7_keep 12 = .ok (.getfield 19, 3) := by decide +kernel
theorem dX7_keep_15 : decode cX7_keep 15 = .ok (.iconst 0, 1) := by decide +kernel
theorem dX7_keep_16 : decode cX7_keep 16 = .ok (.aload_n 0, 1) := by decide +kernel
theorem dX7_keep_17 : decode cX7_keep 17 = .ok (.getfield 25, 3) := by decide +kernel
theorem dX7_keep_20 : decode cX7_keep 20 = .ok (.bipush 66, 2) := by decide +kernel
theorem dX7_keep_22 : decode cX7_keep 22 = .ok (.aload_n 0, 1) := by decide +kernel
theorem dX7_keep_23 : decode cX7_keep 23 = .ok (.getfield 146, 3) := by decide +kernel
theorem dX7_keep_26 : decode cX7_keep 26 = .ok (.imul, 1) := by decide +kernel
theorem dX7_keep_27 : decode cX7_keep 27 = .ok (.invokestatic 165, 3) := by decide +kernel
theorem dX7_keep_30 : decode cX7_keep 30 = .ok (.aload_n 0, 1) := by decide +kernel
theorem dX7_keep_31 : decode cX7_keep 31 = .ok (.dup, 1) := by decide +kernel
theorem dX7_keep_32 : decode cX7_keep 32 = .ok (.getfield 146, 3) := by decide +kernel
theorem dX7_keep_35 : decode cX7_keep 35 = .ok (.iconst 1, 1) := by decide +kernel
theorem dX7_keep_36 : decode cX7_keep 36 = .ok (.iadd, 1) := by decide +kernel
theorem dX7_keep_37 : decode cX7_keep 37 = .ok (.putfield 146, 3) := by decide +kernel
theorem dX7_keep_40 : decode cX7_keep 40 = .ok (.aload_n 0, 1) := by decide +kernel
theorem dX7_keep_41 : decode cX7_keep 41 = .ok (.getfield 146, 3) := by decide +kernel
theorem dX7_keep_44 : decode cX7_keep 44 = .ok (.ireturn, 1) := by decide +kernel
theorem dX7_back_0 : decode cX7_back 0 = .ok (.aload_n 0, 1) := by decide +kernel
theorem dX7_back_1 : decode cX7_back 1 = .ok (.getfield 146, 3) := by decide +kernel
theorem dX7_back_4 : decode cX7_back 4 = .ok (.ifCond .ne 6, 3) := by decide +kernel
theorem dX7_back_7 : decode cX7_back 7 = .ok (.bipush (-2), 2) := by decide +kernel
theorem dX7_back_9 : decode cX7_back 9 = .ok (.ireturn, 1) := by decide +kernel
theorem dX7_back_10 : decode cX7_back 10 = .ok (.aload_n 0, 1) := by decide +kernel
theorem dX7_back_11 : decode cX7_back 11 = .ok (.dup, 1) := by decide +kernel
theorem dX7_back_12 : decode cX7_back 12 = .ok (.getfield 146, 3) := by decide +kernel
theorem dX7_back_15 : decode cX7_back 15 = .ok (.iconst 1, 1) := by decide +kernel
theorem dX7_back_16 : decode cX7_back 16 = .ok (.isub, 1) := by decide +kernel
theorem dX7_back_17 : decode cX7_back 17 = .ok (.putfield 146, 3) := by decide +kernel
theorem dX7_back_20 : decode cX7_back 20 = .ok (.aload_n 0, 1) := by decide +kernel
theorem dX7_back_21 : decode cX7_back 21 = .ok (.getfield 25, 3) := by decide +kernel
theorem dX7_back_24 : decode cX7_back 24 = .ok (.bipush 66, 2) := by decide +kernel
theorem dX7_back_26 : decode cX7_back 26 = .ok (.aload_n 0, 1) := by decide +kernel
theorem dX7_back_27 : decode cX7_back 27 = .ok (.getfield 146, 3) := by decide +kernel
theorem dX7_back_30 : decode cX7_back 30 = .ok (.imul, 1) := by decide +kernel
theorem dX7_back_31 : decode cX7_back 31 = .ok (.aload_n 0, 1) := by decide +kernel
theorem dX7_back_32 : decode cX7_back 32 = .ok (.getfield 19, 3) := by decide +kernel
theorem dX7_back_35 : decode cX7_back 35 = .ok (.iconst 0, 1) := by decide +kernel
theorem dX7_back_36 : decode cX7_back 36 = .ok (.invokestatic 165, 3) := by decide +kernel
theorem dX7_back_39 : decode cX7_back 39 = .ok (.aload_n 0, 1) := by decide +kernel
theorem dX7_back_40 : decode cX7_back 40 = .ok (.iconst 0, 1) := by decide +kernel
theorem dX7_back_41 : decode cX7_back 41 = .ok (.putfield 143, 3) := by decide +kernel
theorem dX7_back_44 : decode cX7_back 44 = .ok (.aload_n 0, 1) := by decide +kernel
theorem dX7_back_45 : decode cX7_back 45 = .ok (.getfield 146, 3) := by decide +kernel
theorem dX7_back_48 : decode cX7_back 48 = .ok (.ireturn, 1) := by decide +kernel
theorem dX7_count_0 : decode cX7_count 0 = .ok (.iconst 0, 1) := by decide +kernel
theorem dX7_count_1 : decode cX7_count 1 = .ok (.istore_n 2, 1) := by decide +kernel
theorem dX7_count_2 : decode cX7_count 2 = .ok (.iconst 0, 1) := by decide +kernel
theorem dX7_count_3 : decode cX7_count 3 = .ok (.istore_n 3, 1) := by decide +kernel
theorem dX7_count_4 : decode cX7_count 4 = .ok (.iload_n 3, 1) := by decide +kernel
theorem dX7_count_5 : decode cX7_count 5 = .ok (.aload_n 0, 1) := by decide +kernel
theorem dX7_count_6 : decode cX7_count 6 = .ok (.getfield 7, 3) := by decide +kernel
theorem dX7_count_9 : decode cX7_count 9 = .ok (.iconst 1, 1) := by decide +kernel
theorem dX7_count_10 : decode cX7_count 10 = .ok (.iaload, 1) := by decide +kernel
theorem dX7_count_11 : decode cX7_count 11 = .ok (.if_icmp .ge 23, 3) := by decide +kernel
theorem dX7_count_14 : decode cX7_count 14 = .ok (.iload_n 2, 1) := by decide +kernel
theorem dX7_count_15 : decode cX7_count 15 = .ok (.aload_n 0, 1) := by decide +kernel
theorem dX7_count_16 : decode cX7_count 16 = .ok (.getfield 19, 3) := by decide +kernel
theorem dX7_count_19 : decode cX7_count 19 = .ok (.iconst 2, 1) := by decide +kernel
theorem dX7_count_20 : decode cX7_count 20 = .ok (.iload_n 3, 1) := by decide +kernel
theorem dX7_count_21 : decode cX7_count 21 = .ok (.iadd, 1) := by decide +kernel
theorem dX7_count_22 : decode cX7_count 22 = .ok (.iaload, 1) := by decide +kernel
theorem dX7_count_23 : decode cX7_count 23 = .ok (.invokestatic 114, 3) := by decide +kernel
theorem dX7_count_26 : decode cX7_count 26 = .ok (.iadd, 1) := by decide +kernel
theorem dX7_count_27 : decode cX7_count 27 = .ok (.istore_n 2, 1) := by decide +kernel
theorem dX7_count_28 : decode cX7_count 28 = .ok (.iinc 3 1, 3) := by decide +kernel
theorem dX7_count_31 : decode cX7_count 31 = .ok (.goto (-27), 3) := by decide +kernel
theorem dX7_count_34 : decode cX7_count 34 = .ok (.iload_n 1, 1) := by decide +kernel
theorem dX7_count_35 : decode cX7_count 35 = .ok (.tableswitch 96 0 9 #[53, 53, 53, 60, 62, 69, 76, 81, 86, 91], 53) := by decide +kernel
theorem dX7_count_88 : decode cX7_count 88 = .ok (.aload_n 0, 1) := by decide +kernel
theorem dX7_count_89 : decode cX7_count 89 = .ok (.getfield 7, 3) := by decide +kernel
theorem dX7_count_92 : decode cX7_count 92 = .ok (.iload_n 1, 1) := by decide +kernel
theorem dX7_count_93 : decode cX7_count 93 = .ok (.iaload, 1) := by decide +kernel
theorem dX7_count_94 : decode cX7_count 94 = .ok (.ireturn, 1) := by decide +kernel
theorem dX7_count_95 : decode cX7_count 95 = .ok (.iload_n 2, 1) := by decide +kernel
theorem dX7_count_96 : decode cX7_count 96 = .ok (.ireturn, 1) := by decide +kernel
theorem dX7_count_97 : decode cX7_count 97 = .ok (.aload_n 0, 1) := by decide +kernel
theorem dX7_count_98 : decode cX7_count 98 = .ok (.getfield 19, 3) := by decide +kernel
theorem dX7_count_101 : decode cX7_count 101 = .ok (.iconst 1, 1) := by decide +kernel
theorem dX7_count_102 : decode cX7_count 102 = .ok (.iaload, 1) := by decide +kernel
theorem dX7_count_103 : decode cX7_count 103 = .ok (.ireturn, 1) := by decide +kernel
theorem dX7_count_104 : decode cX7_count 104 = .ok (.aload_n 0, 1) := by decide +kernel
theorem dX7_count_105 : decode cX7_count 105 = .ok (.getfield 19, 3) := by decide +kernel
theorem dX7_count_108 : decode cX7_count 108 = .ok (.iconst 0, 1) := by decide +kernel
theorem dX7_count_109 : decode cX7_count 109 = .ok (.iaload, 1) := by decide +kernel
theorem dX7_count_110 : decode cX7_count 110 = .ok (.ireturn, 1) := by decide +kernel
theorem dX7_count_111 : decode cX7_count 111 = .ok (.aload_n 0, 1) := by decide +kernel
theorem dX7_count_112 : decode cX7_count 112 = .ok (.getfield 140, 3) := by decide +kernel
theorem dX7_count_115 : decode cX7_count 115 = .ok (.ireturn, 1) := by decide +kernel
theorem dX7_count_116 : decode cX7_count 116 = .ok (.aload_n 0, 1) := by decide +kernel
theorem dX7_count_117 : decode cX7_count 117 = .ok (.getfield 143, 3) := by decide +kernel
theorem dX7_count_120 : decode cX7_count 120 = .ok (.ireturn, 1) := by decide +kernel
theorem dX7_count_121 : decode cX7_count 121 = .ok (.aload_n 0, 1) := by decide +kernel
theorem dX7_count_122 : decode cX7_count 122 = .ok (.getfield 146, 3) := by decide +kernel
theorem dX7_count_125 : decode cX7_count 125 = .ok (.ireturn, 1) := by decide +kernel
theorem dX7_count_126 : decode cX7_count 126 = .ok (.aload_n 0, 1) := by decide +kernel
theorem dX7_count_127 : decode cX7_count 127 = .ok (.getfield 81, 3) := by decide +kernel
theorem dX7_count_130 : decode cX7_count 130 = .ok (.ireturn, 1) := by decide +kernel
theorem dX7_count_131 : decode cX7_count 131 = .ok (.iconst (-1), 1) := by decide +kernel
theorem dX7_count_132 : decode cX7_count 132 = .ok (.ireturn, 1) := by decide +kernel
end
section
/-! ===== THE LAYER: the cells of the run are numbered; a state is what they hold; the kit's W, said of states ===== -/
abbrev HP : Type := Nat → Nat → Int32
abbrev LC : Type := List (Option Value)
/-- launch, where the cells lie, how many there are, classes' numbers and slots, the classes of the arrays -/
abbrev EV : Type := Launch × (Nat → Nat) × Nat × va_G × (ClassId × ClassId × ClassId)
abbrev eL (E : EV) : Launch := E.1
abbrev eA (E : EV) : Nat → Nat := E.2.1
abbrev eN (E : EV) : Nat := E.2.2.1
abbrev eD (E : EV) : va_G := E.2.2.2.1
abbrev eI (E : EV) : ClassId := E.2.2.2.2.1
abbrev eZ (E : EV) : ClassId := E.2.2.2.2.2.1
abbrev eO (E : EV) : ClassId := E.2.2.2.2.2.2
def cv (E : EV) : Value → Value
  | .ref k => .ref (eA E k)
  | v => v
theorem cv_cat (E : EV) (v : Value) : (cv E v).category = v.category := by cases v <;> rfl
/-- the cells: what each is (0 ints, 1 booleans, 2 rows of ints, c + 3 an object of class c) and how long -/
def kdL : List (Nat × Nat) := [(9, 12), (7, 4), (0, 200), (0, 3), (8, 9), (0, 8), (0, 8), (0, 8), (0, 32), (8, 9), (0, 8), (0, 8), (0, 8), (0, 32),
  (3, 6), (0, 32), (0, 16), (0, 8), (0, 8), (3, 6), (0, 32), (0, 16), (0, 8), (0, 8), (5, 4), (0, 528), (5, 4), (0, 132), (0, 32), (0, 8),
  (6, 1), (2, 4), (0, 1089), (0, 1089), (0, 1089), (0, 1089), (4, 4), (0, 8), (0, 8),
  (10, 23), (0, 19), (0, 19), (0, 32), (0, 66), (0, 528), (0, 132), (0, 200), (0, 32), (0, 8), (0, 2), (0, 3), (0, 32), (0, 66), (0, 4356), (0, 256), (1, 256)]
def kd (k : Nat) : Nat × Nat := kdL.getD k (11, 0)
/-- how long a cell is -/
def ln (k : Nat) : Nat := (kd k).2
/-- a field that holds a cell: how far behind its object that cell stands -/
def rfo : Nat → Nat → Option Nat
  | 0, 0 => some 1 | 0, 1 => some 2 | 0, 2 => some 3 | 0, 3 => some 4
  | 1, 0 => some 1 | 1, 1 => some 2
  | 2, 1 => some 1
  | 3, 0 => some 1
  | 4, 0 => some 1 | 4, 3 => some 2
  | 5, 1 => some 1 | 5, 2 => some 2 | 5, 3 => some 3 | 5, 8 => some 4
  | 6, 0 => some 1 | 6, 3 => some 14 | 6, 4 => some 19 | 6, 5 => some 24 | 6, 6 => some 26 | 6, 7 => some 28 | 6, 8 => some 29 | 6, 10 => some 30 | 6, 11 => some 36
  | 7, 0 => some 1 | 7, 1 => some 2 | 7, 2 => some 3 | 7, 4 => some 4 | 7, 5 => some 5 | 7, 7 => some 6 | 7, 9 => some 7 | 7, 11 => some 8 | 7, 12 => some 9
  | 7, 16 => some 10 | 7, 17 => some 11 | 7, 18 => some 12 | 7, 19 => some 13 | 7, 20 => some 14 | 7, 21 => some 15 | 7, 22 => some 16
  | _, _ => none
/-- which cells the towers are that are laid, told -/
abbrev TW : Type := Nat × Nat
def rft (tw : TW) (k : Nat) : Nat → Nat → Option Nat
  | 6, 1 => some tw.1
  | 6, 2 => some tw.2
  | c, j => (rfo c j).map (fun o => k + o)
def fv (tw : TW) (h : HP) (k c j : Nat) : Value := match rft tw k c j with
  | some q => .ref q
  | none => .int (h k j)
def wE (E : EV) (tw : TW) (h : HP) (k : Nat) : va_E := match kd k with
  | (0, L) => .inl (eI E, L, .inl (h k))
  | (1, L) => .inl (eZ E, L, .inl (h k))
  | (2, L) => .inl (eO E, L, .inr (.inr (.inr (.inr (fun j => if j < L then some (eA E (k + 1 + j)) else none)))))
  | (c + 3, L) => .inr (c, (List.range L).map (fun j => cv E (fv tw h k c j)))
def wW (E : EV) (tw : TW) (h : HP) : va_W := (List.range (eN E)).map (fun k => (eA E k, wE E tw h k))
theorem wW_get (E : EV) (tw : TW) (h : HP) {k : Nat} (hk : k < eN E) : (wW E tw h)[k]? = some (eA E k, wE E tw h k) := by
  unfold wW
  simp [hk]
theorem wW_set (E : EV) {tw tw' : TW} {h h' : HP} {k : Nat} {x : va_E} (hk : k < eN E) (hx : x = wE E tw' h' k) (ho : ∀ j, j ≠ k → wE E tw' h' j = wE E tw h j) : (wW E tw h).set k (eA E k, x) = wW E tw' h' := by
  subst hx
  apply List.ext_getElem?
  intro j
  by_cases hj : j = k
  · subst hj
    rw [List.getElem?_set_self (by unfold wW; simpa using hk), wW_get E tw' h' hk]
  · rw [List.getElem?_set_ne (fun q => hj q.symm)]
    by_cases hn : j < eN E
    · rw [wW_get E tw h hn, wW_get E tw' h' hn, ho j hj]
    · unfold wW
      simp [hn]
/-- cell k holds f -/
def upc (h : HP) (k : Nat) (f : Nat → Int32) : HP := fun q => if q = k then f else h q
def up (h : HP) (k j : Nat) (x : Int32) : HP := upc h k (upd (h k) j x)
theorem upc_same (h : HP) (k : Nat) (f : Nat → Int32) : upc h k f k = f := if_pos rfl
theorem upc_ne (h : HP) {k q : Nat} (f : Nat → Int32) (n : q ≠ k) : upc h k f q = h q := if_neg n
theorem wE_upc (E : EV) (tw : TW) (h : HP) {k j : Nat} (f : Nat → Int32) (n : j ≠ k) : wE E tw (upc h k f) j = wE E tw h j := by
  unfold wE fv
  rw [upc_ne h f n]
def fA (E : EV) (sz : Nat) : Nat → Prop := fun q => (∃ k, k < eN E ∧ q = eA E k) ∨ sz ≤ q
def EI (E : EV) : Prop := ∀ i j, i < eN E → j < eN E → eA E i = eA E j → i = j
theorem wD {E : EV} (hE : EI E) (tw : TW) (h : HP) (sz : Nat) : va_D (fA E sz) (wW E tw h) := by
  have key : ∀ (i : Nat) (p : Nat × va_E), (wW E tw h)[i]? = some p → i < eN E ∧ p.1 = eA E i := by
    intro i p hp
    by_cases hn : i < eN E
    · rw [wW_get E tw h hn] at hp
      cases hp
      exact ⟨hn, rfl⟩
    · unfold wW at hp
      simp [hn] at hp
  refine ⟨fun i j p q hp hq e => ?_, fun k q hq => Or.inl ⟨k, (key k q hq).1, (key k q hq).2⟩⟩
  obtain ⟨a1, a2⟩ := key i p hp
  obtain ⟨b1, b2⟩ := key j q hq
  exact hE i j a1 b1 (by rw [← a2, ← b2]; exact e)
def tyE (E : EV) : List (ClassId × FieldType) := [(eI E, .int), (eZ E, .boolean), (eO E, .array .int)]
/-- a method: its name, code, locals, what it returns, how deep it calls -/
abbrev MI : Type := MethodName × ByteArray × Nat × Option FieldType × Nat
abbrev mY (M : MI) : MethodName := M.1
abbrev mC (M : MI) : ByteArray := M.2.1
abbrev mL (M : MI) : Nat := M.2.2.1
abbrev mR (M : MI) : Option FieldType := M.2.2.2.1
abbrev mD (M : MI) : Nat := M.2.2.2.2
def wds (M : MI) : List Cond := Cond.code (mY M) (mC M) (mL M) (mR M) :: gt
def rmM (M : MI) : Room := { frames := mD M, cells := 0, slots := 0, locals := 64 * mD M }
/-- room, cells and slots made so far, what is to be reached, what is known of the start -/
abbrev KX : Type := Room × Nat × Nat × (List Frame → Array Value → State → State → Prop) × (State → Prop)
def CX (E : EV) (M : MI) (K : KX) (p : Program) (s : State) (m : MethodId) (args : Array Value) (meth : Method) (c : Code) : Prop :=
  p.tables.exec = Jvm.exec ∧ c.code = mC M ∧ meth.sig.returnType = mR M ∧ c.maxLocals = mL M ∧ s.vm.findClass (mY M).cls = some m.cls ∧ (∀ w ∈ gt, w.before args s = true) ∧ va_K (eD E) vwCl (tyE E) s ∧ meth.locks = false ∧ EI E ∧ K.2.2.2.2 s
def ld (loc : LC) (i : Nat) : Option Value := (loc[i]?).getD none
def LR (E : EV) (M : MI) (ls : Array Slot) (loc : LC) : Prop := ls.size = mL M ∧ lv_wf ls ∧ ∀ i v, ld loc i = some v → ls[i]? = some (.val (cv E v))
/-- one cell of the locals is set; a long whose second half it was is gone -/
def clr : Nat → Option Value → Option Value
  | 0, some (.long _) => none
  | 0, some (.double _) => none
  | _, x => x
def so : LC → Nat → Value → LC
  | [], _, _ => []
  | _ :: t, 0, v => some v :: t
  | x :: t, i + 1, v => clr i x :: so t i v
def tl0 : LC → LC
  | [] => []
  | _ :: t => none :: t
def so2 : LC → Nat → Value → LC
  | [], _, _ => []
  | _ :: t, 0, v => some v :: tl0 t
  | x :: t, i + 1, v => clr i x :: so2 t i v
theorem clr_some {i : Nat} {x : Option Value} {w : Value} (h : clr i x = some w) : x = some w ∧ ¬ (i = 0 ∧ w.category = 2) := by
  cases i with
  | succ i => exact ⟨by simpa [clr] using h, by omega⟩
  | zero =>
    cases x with
    | none => simp [clr] at h
    | some v => cases v <;> simp_all [clr] <;> subst h <;> simp [Value.category]
def lvl (E : EV) : Nat → LC → List (Nat × Value)
  | _, [] => []
  | i, none :: t => lvl E (i + 1) t
  | i, some v :: t => (i, cv E v) :: lvl E (i + 1) t
theorem lvl_mem {E : EV} {loc : LC} : ∀ {i k : Nat} {v : Value}, ld loc k = some v → (i + k, cv E v) ∈ lvl E i loc := by
  induction loc with
  | nil => intro i k v h; simp [ld] at h
  | cons x t ih =>
    intro i k v h
    cases k with
    | zero =>
      simp [ld] at h
      subst h
      exact List.mem_cons_self
    | succ k =>
      have h' : ld t k = some v := by simpa [ld] using h
      have := ih (i := i + 1) h'
      rw [show i + 1 + k = i + (k + 1) by omega] at this
      cases x with
      | none => exact this
      | some y => exact List.mem_cons_of_mem _ this
theorem lvl_of {E : EV} {loc : LC} : ∀ {i : Nat} {q : Nat × Value}, q ∈ lvl E i loc → ∃ k v, q = (i + k, cv E v) ∧ ld loc k = some v := by
  induction loc with
  | nil => intro i q h; simp [lvl] at h
  | cons x t ih =>
    intro i q h
    cases x with
    | none =>
      obtain ⟨k, v, e, hv⟩ := ih (i := i + 1) h
      exact ⟨k + 1, v, by rw [e, show i + 1 + k = i + (k + 1) by omega], by simpa [ld] using hv⟩
    | some y =>
      rcases List.mem_cons.mp h with e | h
      · exact ⟨0, y, e, by simp [ld]⟩
      · obtain ⟨k, v, e, hv⟩ := ih (i := i + 1) h
        exact ⟨k + 1, v, by rw [e, show i + 1 + k = i + (k + 1) by omega], by simpa [ld] using hv⟩
theorem LR.has {E : EV} {M : MI} {ls : Array Slot} {loc : LC} (h : LR E M ls loc) : lv_has ls (mL M) (lvl E 0 loc) := by
  refine ⟨h.1, h.2.1, fun q hq => ?_⟩
  obtain ⟨k, v, rfl, hv⟩ := lvl_of hq
  simpa using h.2.2 k v hv
theorem ld_cons (x : Option Value) (t : LC) (k : Nat) : ld (x :: t) (k + 1) = ld t k := by simp [ld]
theorem ld_zero (x : Option Value) (t : LC) : ld (x :: t) 0 = x := by simp [ld]
theorem ld_so {loc : LC} : ∀ {i j : Nat} {v w : Value}, ld (so loc i v) j = some w → (j = i ∧ w = v) ∨ (j ≠ i ∧ ld loc j = some w ∧ ¬ (j + 1 = i ∧ w.category = 2)) := by
  induction loc with
  | nil => intro i j v w h; simp [so, ld] at h
  | cons x t ih =>
    intro i j v w h
    cases i with
    | zero =>
      cases j with
      | zero => simp [so, ld] at h; exact Or.inl ⟨rfl, h.symm⟩
      | succ j => exact Or.inr ⟨by omega, by simpa [so, ld] using h, by omega⟩
    | succ i =>
      cases j with
      | succ j =>
        have h' : ld (so t i v) j = some w := by simpa [so, ld_cons] using h
        rcases ih h' with ⟨a, b⟩ | ⟨a, b, c⟩
        · exact Or.inl ⟨by omega, b⟩
        · exact Or.inr ⟨by omega, by rw [ld_cons]; exact b, fun q => c ⟨by omega, q.2⟩⟩
      | zero =>
        have h' : clr i x = some w := by simpa [so, ld_zero] using h
        obtain ⟨a, b⟩ := clr_some h'
        exact Or.inr ⟨by omega, by rw [ld_zero]; exact a, fun q => b ⟨by omega, q.2⟩⟩
theorem ld_so2 {loc : LC} : ∀ {i j : Nat} {v w : Value}, ld (so2 loc i v) j = some w → (j = i ∧ w = v) ∨ (j ≠ i ∧ j ≠ i + 1 ∧ ld loc j = some w ∧ ¬ (j + 1 = i ∧ w.category = 2)) := by
  induction loc with
  | nil => intro i j v w h; simp [so2, ld] at h
  | cons x t ih =>
    intro i j v w h
    cases i with
    | zero =>
      cases j with
      | zero => simp [so2, ld] at h; exact Or.inl ⟨rfl, h.symm⟩
      | succ j =>
        have h' : ld (tl0 t) j = some w := by simpa [so2, ld_cons] using h
        cases t with
        | nil => simp [tl0, ld] at h'
        | cons y t =>
          cases j with
          | zero => simp [tl0, ld] at h'
          | succ j => exact Or.inr ⟨by omega, by omega, by simpa [tl0, ld] using h', by omega⟩
    | succ i =>
      cases j with
      | succ j =>
        have h' : ld (so2 t i v) j = some w := by simpa [so2, ld_cons] using h
        rcases ih h' with ⟨a, b⟩ | ⟨a, b, c, d⟩
        · exact Or.inl ⟨by omega, b⟩
        · exact Or.inr ⟨by omega, by omega, by rw [ld_cons]; exact c, fun q => d ⟨by omega, q.2⟩⟩
      | zero =>
        have h' : clr i x = some w := by simpa [so2, ld_zero] using h
        obtain ⟨a, b⟩ := clr_some h'
        exact Or.inr ⟨by omega, by omega, by rw [ld_zero]; exact a, fun q => b ⟨by omega, q.2⟩⟩
theorem LR.so {E : EV} {M : MI} {ls' : Array Slot} {loc : LC} {i : Nat} {v : Value} (h : lv_has ls' (mL M) ((i, cv E v) :: (lvl E 0 loc).filter (fun q => !(q.1 == i) && !(q.1 + 1 == i && q.2.category == 2)))) : LR E M ls' (so loc i v) := by
  refine ⟨h.1, h.2.1, fun j w hw => ?_⟩
  rcases ld_so hw with ⟨rfl, rfl⟩ | ⟨a, b, c⟩
  · exact h.2.2 _ List.mem_cons_self
  · have hm := lvl_mem (E := E) (i := 0) b
    rw [Nat.zero_add] at hm
    refine h.2.2 (j, cv E w) (List.mem_cons_of_mem _ (List.mem_filter.mpr ⟨hm, ?_⟩))
    simp only [cv_cat]
    simp [a]
    omega
theorem LR.so2 {E : EV} {M : MI} {ls' : Array Slot} {loc : LC} {i : Nat} {v : Value} (h : lv_has ls' (mL M) ((i, cv E v) :: (lvl E 0 loc).filter (fun q => !(q.1 == i) && (!(q.1 == i + 1) && !(q.1 + 1 == i && q.2.category == 2))))) : LR E M ls' (so2 loc i v) := by
  refine ⟨h.1, h.2.1, fun j w hw => ?_⟩
  rcases ld_so2 hw with ⟨rfl, rfl⟩ | ⟨a, a', b, c⟩
  · exact h.2.2 _ List.mem_cons_self
  · have hm := lvl_mem (E := E) (i := 0) b
    rw [Nat.zero_add] at hm
    refine h.2.2 (j, cv E w) (List.mem_cons_of_mem _ (List.mem_filter.mpr ⟨hm, ?_⟩))
    simp only [cv_cat]
    simp [a, a']
    omega
/-- fewer locals are known -/
def dl : LC → LC → Prop
  | [], _ => True
  | none :: a, _ :: b => dl a b
  | none :: a, [] => dl a []
  | some v :: a, x :: b => x = some v ∧ dl a b
  | some _ :: _, [] => False
theorem ld_dl : ∀ {a b : LC} {i : Nat} {v : Value}, dl a b → ld a i = some v → ld b i = some v := by
  intro a
  induction a with
  | nil => intro b i v _ h; simp [ld] at h
  | cons x a ih =>
    intro b i v hd h
    cases x with
    | none =>
      cases i with
      | zero => simp [ld] at h
      | succ i =>
        rw [ld_cons] at h
        cases b with
        | nil => have := ih (b := []) hd h; simp [ld] at this
        | cons y b => rw [ld_cons]; exact ih hd h
    | some u =>
      cases b with
      | nil => exact hd.elim
      | cons y b =>
        cases i with
        | zero => rw [ld_zero] at h ⊢; rw [hd.1]; exact h
        | succ i => rw [ld_cons] at h ⊢; exact ih hd.2 h
theorem LR.dl {E : EV} {M : MI} {ls : Array Slot} {a b : LC} (h : LR E M ls b) (hd : dl a b) : LR E M ls a := ⟨h.1, h.2.1, fun i v q => h.2.2 i v (ld_dl hd q)⟩
def AW (E : EV) (M : MI) (K : KX) (tw : TW) (h : HP) (pc : Nat) (loc : LC) (st : List Value) : Prop :=
  ∀ (p : Program) (e : Env) (s : State) (m : MethodId) (args : Array Value) (below : List Frame) (meth : Method) (c : Code) (H : Heap) (ls : Array Slot) (locs : List Loc),
    CX E M K p s m args meth c → va_P (eD E) vwCl (wW E tw h) H → va_S (fA E s.heap.size) s.heap H locs → LR E M ls loc →
    W p (eL E) e K.1 s m args below meth c H locs K.2.1 K.2.2.1 (K.2.2.2.1 below args s) (F0 m pc ls (st.map (cv E)))
def QC (E : EV) (sz : Nat) (rv : Option Value) (tw : TW) (h : HP) : Array Value → State → Outcome → State → Prop := fun _ st oc t =>
  (oc = .returned (rv.map (cv E)) ∧ va_P (eD E) vwCl (wW E tw h) t.heap ∧ va_K (eD E) vwCl (tyE E) t) ∧ va_F (fA E sz) st t
/-- the contract: with these arguments, from this state, the method returns this and the cells hold that -/
def CT (E : EV) (M : MI) (tw : TW) (h : HP) (av : List Value) (rv : Option Value) (tw' : TW) (h' : HP) : Prop :=
  ∀ sz : Nat, Met (eL E) (mY M) (wds M) (rmM M) (va_Pc (av.map (cv E)) (fun U => U.heap.size = sz ∧ va_P (eD E) vwCl (wW E tw h) U.heap ∧ va_K (eD E) vwCl (tyE E) U)) (QC E sz rv tw' h') 0 0 (fA E sz)
def KM (E : EV) (M : MI) (rv : Option Value) (tw : TW) (h : HP) : KX := (rmM M, 0, 0, fun below args s => MQ below (QC E s.heap.size rv tw h) args s 0 0 (fA E s.heap.size), fun _ => True)
def lo0 : List Value → LC
  | [] => []
  | v :: t => if v.category = 2 then some v :: none :: lo0 t else some v :: lo0 t
theorem lo0_args {E : EV} : ∀ (av : List Value) (r : Nat) {j i : Nat} {v : Value}, ld (lo0 av ++ List.replicate r none) i = some v → (j + i, cv E v) ∈ lv_args j (av.map (cv E)) := by
  intro av
  induction av with
  | nil =>
    intro r j i v h
    simp only [lo0, List.nil_append, ld] at h
    by_cases q : i < r <;> simp [q] at h
  | cons a t ih =>
    intro r j i v h
    simp only [lo0] at h
    simp only [List.map_cons, lv_args, cv_cat]
    by_cases hc : a.category = 2
    · simp only [hc, if_true] at h ⊢
      match i, h with
      | 0, h => simp [ld] at h; subst h; exact List.mem_cons_self
      | 1, h => simp [ld] at h
      | i + 2, h =>
        rw [List.cons_append, ld_cons, List.cons_append, ld_cons] at h
        have := ih r (j := j + 2) h
        rw [show j + 2 + i = j + (i + 2) by omega] at this
        exact List.mem_cons_of_mem _ this
    · simp only [hc, if_false] at h ⊢
      match i, h with
      | 0, h => simp [ld] at h; subst h; exact List.mem_cons_self
      | i + 1, h =>
        rw [List.cons_append, ld_cons] at h
        have := ih r (j := j + 1) h
        rw [show j + 1 + i = j + (i + 1) by omega] at this
        exact List.mem_cons_of_mem _ this
theorem CT.of {E : EV} {M : MI} {tw tw' : TW} {h h' : HP} {av : List Value} {rv : Option Value} (hE : EI E) (hpl : plainName (mY M).cls = true) (hlen : (lg_sl (av.map (cv E))).length ≤ mL M) (r : Nat)
    (k : AW E M (KM E M rv tw' h') tw h 0 (lo0 av ++ List.replicate r none) []) : CT E M tw h av rv tw' h' := by
  intro sz
  refine Met.ofW (cc := mC M) (maxL := mL M) (ret := mR M) hpl rfl ?_
  intro p e s m args below meth c s₁ B hml hv
  obtain ⟨rfl, hsz, hP, hK⟩ := hv
  subst hsz
  have hts := atoms_spec (ws := wds M) B.pre
  have hown : s.vm.findClass (mY M).cls = some m.cls := findClass_of_methodNamed B.named
  have hl := lv_entry (av.map (cv E)) (n := mL M) hlen
  rw [lg_entry_eq]
  generalize (lg_sl (av.map (cv E)) ++ List.replicate (mL M - (lg_sl (av.map (cv E))).length) Slot.unset).toArray = ls at hl ⊢
  exact k p e s m _ below meth c s.heap ls [] ⟨B.exec, B.bytes, B.returns, hml, hown, fun w hw => hts w (List.mem_cons_of_mem _ hw), hK, B.notSynchronized, hE, trivial⟩ hP va_S.rf
    ⟨hl.1, hl.2.1, fun i v q => hl.2.2 (i, cv E v) (by have := lo0_args (E := E) av r (j := 0) q; rwa [Nat.zero_add] at this)⟩
end
section
def jrem (x y : Int32) : Int32 := x - x / y * y
def jlrem (x y : Int64) : Int64 := x - x / y * y
def jshl (x y : Int32) : Int32 := x <<< (y &&& 31)
def jshr (x y : Int32) : Int32 := x >>> (y &&& 31)
def jushr (x y : Int32) : Int32 := (x.toUInt32 >>> (y.toUInt32 &&& Int32.toUInt32 31)).toInt32
section AWR
variable {E : EV} {M : MI} {K : KX} {tw tw' : TW} {h h' : HP} {pc : Nat} {loc : LC} {st : List Value}
theorem aw_iconst {n : Int} (v : Int32) (d : decode (mC M) pc = .ok (.iconst n, 1)) (hv : Int32.ofInt n = v) (k : AW E M K tw h (pc + 1) loc (.int v :: st)) : AW E M K tw h pc loc (st) :=
  fun p e s m args below meth c H ls locs C hP hS hl => lv_iconst C.1 C.2.1 d hv (k p e s m args below meth c H ls locs C hP hS hl)
theorem aw_bipush {n : Int} (v : Int32) (d : decode (mC M) pc = .ok (.bipush n, 2)) (hv : (Int8.ofInt n).toInt32 = v) (k : AW E M K tw h (pc + 2) loc (.int v :: st)) : AW E M K tw h pc loc (st) :=
  fun p e s m args below meth c H ls locs C hP hS hl => lv_bipush C.1 C.2.1 d hv (k p e s m args below meth c H ls locs C hP hS hl)
theorem aw_sipush {n : Int} (v : Int32) (d : decode (mC M) pc = .ok (.sipush n, 3)) (hv : (Int16.ofInt n).toInt32 = v) (k : AW E M K tw h (pc + 3) loc (.int v :: st)) : AW E M K tw h pc loc (st) :=
  fun p e s m args below meth c H ls locs C hP hS hl => lv_sipush C.1 C.2.1 d hv (k p e s m args below meth c H ls locs C hP hS hl)
theorem aw_ldc {i : Nat} {v : Int32} (g : Cond.constant (mY M).cls i v ∈ gt) (d : decode (mC M) pc = .ok (.ldc i, 2)) (k : AW E M K tw h (pc + 2) loc (.int v :: st)) : AW E M K tw h pc loc (st) :=
  fun p e s m args below meth c H ls locs C hP hS hl => lv_ldc C.1 C.2.1 C.2.2.2.2.1 (C.2.2.2.2.2.1 _ g) d (k p e s m args below meth c H ls locs C hP hS hl)
theorem aw_ldcw {i : Nat} {v : Int32} (g : Cond.constant (mY M).cls i v ∈ gt) (d : decode (mC M) pc = .ok (.ldc_w i, 3)) (k : AW E M K tw h (pc + 3) loc (.int v :: st)) : AW E M K tw h pc loc (st) :=
  fun p e s m args below meth c H ls locs C hP hS hl => lv_ldcw C.1 C.2.1 C.2.2.2.2.1 (C.2.2.2.2.2.1 _ g) d (k p e s m args below meth c H ls locs C hP hS hl)
theorem aw_ldc2 {i : Nat} {v : Int64} (g : Cond.constantLong (mY M).cls i v ∈ gt) (d : decode (mC M) pc = .ok (.ldc2_w i, 3)) (k : AW E M K tw h (pc + 3) loc (.long v :: st)) : AW E M K tw h pc loc (st) :=
  fun p e s m args below meth c H ls locs C hP hS hl => lv_ldc2 C.1 C.2.1 C.2.2.2.2.1 (C.2.2.2.2.2.1 _ g) d (k p e s m args below meth c H ls locs C hP hS hl)
theorem aw_lconst {n : Fin 2} (v : Int64) (d : decode (mC M) pc = .ok (.lconst n, 1)) (hv : Int64.ofNat n = v) (k : AW E M K tw h (pc + 1) loc (.long v :: st)) : AW E M K tw h pc loc (st) :=
  fun p e s m args below meth c H ls locs C hP hS hl => lv_lconst C.1 C.2.1 d hv (k p e s m args below meth c H ls locs C hP hS hl)
theorem aw_iload_n {n : Fin 4} {x : Int32} (d : decode (mC M) pc = .ok (.iload_n n, 1)) (q : ld loc n = some (.int x)) (k : AW E M K tw h (pc + 1) loc (.int x :: st)) : AW E M K tw h pc loc (st) :=
  fun p e s m args below meth c H ls locs C hP hS hl => lv_iload_n C.1 C.2.1 d rfl (hl.2.2 _ _ q) (k p e s m args below meth c H ls locs C hP hS hl)
theorem aw_iload {i : Nat} {x : Int32} (d : decode (mC M) pc = .ok (.iload i, 2)) (q : ld loc i = some (.int x)) (k : AW E M K tw h (pc + 2) loc (.int x :: st)) : AW E M K tw h pc loc (st) :=
  fun p e s m args below meth c H ls locs C hP hS hl => lv_iload C.1 C.2.1 d (hl.2.2 _ _ q) (k p e s m args below meth c H ls locs C hP hS hl)
theorem aw_lload_n {n : Fin 4} {x : Int64} (d : decode (mC M) pc = .ok (.lload_n n, 1)) (q : ld loc n = some (.long x)) (k : AW E M K tw h (pc + 1) loc (.long x :: st)) : AW E M K tw h pc loc (st) :=
  fun p e s m args below meth c H ls locs C hP hS hl => lv_lload_n C.1 C.2.1 d rfl (hl.2.2 _ _ q) (k p e s m args below meth c H ls locs C hP hS hl)
theorem aw_lload {i : Nat} {x : Int64} (d : decode (mC M) pc = .ok (.lload i, 2)) (q : ld loc i = some (.long x)) (k : AW E M K tw h (pc + 2) loc (.long x :: st)) : AW E M K tw h pc loc (st) :=
  fun p e s m args below meth c H ls locs C hP hS hl => lv_lload C.1 C.2.1 d (hl.2.2 _ _ q) (k p e s m args below meth c H ls locs C hP hS hl)
theorem aw_aload_n {n : Fin 4} {x : Nat} (d : decode (mC M) pc = .ok (.aload_n n, 1)) (q : ld loc n = some (.ref x)) (k : AW E M K tw h (pc + 1) loc (.ref x :: st)) : AW E M K tw h pc loc (st) :=
  fun p e s m args below meth c H ls locs C hP hS hl => lv_aload_n C.1 C.2.1 d rfl (hl.2.2 _ _ q) (k p e s m args below meth c H ls locs C hP hS hl)
theorem aw_aload {i : Nat} {x : Nat} (d : decode (mC M) pc = .ok (.aload i, 2)) (q : ld loc i = some (.ref x)) (k : AW E M K tw h (pc + 2) loc (.ref x :: st)) : AW E M K tw h pc loc (st) :=
  fun p e s m args below meth c H ls locs C hP hS hl => lv_aload C.1 C.2.1 d (hl.2.2 _ _ q) (k p e s m args below meth c H ls locs C hP hS hl)
theorem aw_istore_n {n : Fin 4} {x : Int32} (d : decode (mC M) pc = .ok (.istore_n n, 1)) (q : (n : Nat) < mL M) (k : AW E M K tw h (pc + 1) (so loc n (.int x)) (st)) : AW E M K tw h pc loc (.int x :: st) :=
  fun p e s m args below meth c H ls locs C hP hS hl => lv_istore_n C.1 C.2.1 d rfl hl.has q rfl (fun ls2 h2 => k p e s m args below meth c H ls2 locs C hP hS (LR.so h2))
theorem aw_istore {i : Nat} {x : Int32} (d : decode (mC M) pc = .ok (.istore i, 2)) (q : i < mL M) (k : AW E M K tw h (pc + 2) (so loc i (.int x)) (st)) : AW E M K tw h pc loc (.int x :: st) :=
  fun p e s m args below meth c H ls locs C hP hS hl => lv_istore C.1 C.2.1 d hl.has q rfl (fun ls2 h2 => k p e s m args below meth c H ls2 locs C hP hS (LR.so h2))
theorem aw_astore_n {n : Fin 4} {x : Nat} (d : decode (mC M) pc = .ok (.astore_n n, 1)) (q : (n : Nat) < mL M) (k : AW E M K tw h (pc + 1) (so loc n (.ref x)) (st)) : AW E M K tw h pc loc (.ref x :: st) :=
  fun p e s m args below meth c H ls locs C hP hS hl => lv_astore_n C.1 C.2.1 d rfl hl.has q rfl (fun ls2 h2 => k p e s m args below meth c H ls2 locs C hP hS (LR.so h2))
theorem aw_astore {i : Nat} {x : Nat} (d : decode (mC M) pc = .ok (.astore i, 2)) (q : i < mL M) (k : AW E M K tw h (pc + 2) (so loc i (.ref x)) (st)) : AW E M K tw h pc loc (.ref x :: st) :=
  fun p e s m args below meth c H ls locs C hP hS hl => lv_astore C.1 C.2.1 d hl.has q rfl (fun ls2 h2 => k p e s m args below meth c H ls2 locs C hP hS (LR.so h2))
theorem aw_lstore_n {n : Fin 4} {x : Int64} (d : decode (mC M) pc = .ok (.lstore_n n, 1)) (q : (n : Nat) + 1 < mL M) (k : AW E M K tw h (pc + 1) (so2 loc n (.long x)) (st)) : AW E M K tw h pc loc (.long x :: st) :=
  fun p e s m args below meth c H ls locs C hP hS hl => lv_lstore_n C.1 C.2.1 d rfl hl.has q rfl (fun ls2 h2 => k p e s m args below meth c H ls2 locs C hP hS (LR.so2 h2))
theorem aw_lstore {i : Nat} {x : Int64} (d : decode (mC M) pc = .ok (.lstore i, 2)) (q : i + 1 < mL M) (k : AW E M K tw h (pc + 2) (so2 loc i (.long x)) (st)) : AW E M K tw h pc loc (.long x :: st) :=
  fun p e s m args below meth c H ls locs C hP hS hl => lv_lstore C.1 C.2.1 d hl.has q rfl (fun ls2 h2 => k p e s m args below meth c H ls2 locs C hP hS (LR.so2 h2))
theorem lvl_at {loc : LC} {i : Nat} {v : Value} (q : ld loc i = some v) : ∃ j : Nat, (lvl E 0 loc)[j]? = some (i, cv E v) := by
  have := lvl_mem (E := E) (i := 0) q
  rw [Nat.zero_add] at this
  exact List.getElem?_of_mem this
theorem aw_iinc {i : Nat} {n : Int} {x : Int32} (v : Int32) (d : decode (mC M) pc = .ok (.iinc i n, 3)) (q : ld loc i = some (.int x)) (hn : i < mL M) (hv : Int32.ofInt n = v) (k : AW E M K tw h (pc + 3) (so loc i (.int (x + v))) st) : AW E M K tw h pc loc st := by
  intro p e s m args below meth c H ls locs C hP hS hl
  obtain ⟨j, hj⟩ := lvl_at (E := E) q
  exact lv_iinc C.1 C.2.1 d hl.has hj (by rw [hv]) hn rfl (fun ls2 h2 => k p e s m args below meth c H ls2 locs C hP hS (LR.so h2))
theorem aw_iadd {x y : Int32} (d : decode (mC M) pc = .ok (.iadd, 1)) (k : AW E M K tw h (pc + 1) loc (.int (x + y) :: st)) : AW E M K tw h pc loc (.int y :: .int x :: st) :=
  fun p e s m args below meth c H ls locs C hP hS hl => lv_iadd C.1 C.2.1 d (k p e s m args below meth c H ls locs C hP hS hl)
theorem aw_isub {x y : Int32} (d : decode (mC M) pc = .ok (.isub, 1)) (k : AW E M K tw h (pc + 1) loc (.int (x - y) :: st)) : AW E M K tw h pc loc (.int y :: .int x :: st) :=
  fun p e s m args below meth c H ls locs C hP hS hl => lv_isub C.1 C.2.1 d (k p e s m args below meth c H ls locs C hP hS hl)
theorem aw_imul {x y : Int32} (d : decode (mC M) pc = .ok (.imul, 1)) (k : AW E M K tw h (pc + 1) loc (.int (x * y) :: st)) : AW E M K tw h pc loc (.int y :: .int x :: st) :=
  fun p e s m args below meth c H ls locs C hP hS hl => lv_imul C.1 C.2.1 d (k p e s m args below meth c H ls locs C hP hS hl)
theorem aw_iand {x y : Int32} (d : decode (mC M) pc = .ok (.iand, 1)) (k : AW E M K tw h (pc + 1) loc (.int (x &&& y) :: st)) : AW E M K tw h pc loc (.int y :: .int x :: st) :=
  fun p e s m args below meth c H ls locs C hP hS hl => lv_iand C.1 C.2.1 d (k p e s m args below meth c H ls locs C hP hS hl)
theorem aw_ior {x y : Int32} (d : decode (mC M) pc = .ok (.ior, 1)) (k : AW E M K tw h (pc + 1) loc (.int (x ||| y) :: st)) : AW E M K tw h pc loc (.int y :: .int x :: st) :=
  fun p e s m args below meth c H ls locs C hP hS hl => lv_ior C.1 C.2.1 d (k p e s m args below meth c H ls locs C hP hS hl)
theorem aw_ixor {x y : Int32} (d : decode (mC M) pc = .ok (.ixor, 1)) (k : AW E M K tw h (pc + 1) loc (.int (x ^^^ y) :: st)) : AW E M K tw h pc loc (.int y :: .int x :: st) :=
  fun p e s m args below meth c H ls locs C hP hS hl => lv_ixor C.1 C.2.1 d (k p e s m args below meth c H ls locs C hP hS hl)
theorem aw_ishl {x y : Int32} (d : decode (mC M) pc = .ok (.ishl, 1)) (k : AW E M K tw h (pc + 1) loc (.int (jshl x y) :: st)) : AW E M K tw h pc loc (.int y :: .int x :: st) :=
  fun p e s m args below meth c H ls locs C hP hS hl => lv_ishl C.1 C.2.1 d (k p e s m args below meth c H ls locs C hP hS hl)
theorem aw_ishr {x y : Int32} (d : decode (mC M) pc = .ok (.ishr, 1)) (k : AW E M K tw h (pc + 1) loc (.int (jshr x y) :: st)) : AW E M K tw h pc loc (.int y :: .int x :: st) :=
  fun p e s m args below meth c H ls locs C hP hS hl => lv_ishr C.1 C.2.1 d (k p e s m args below meth c H ls locs C hP hS hl)
theorem aw_iushr {x y : Int32} (d : decode (mC M) pc = .ok (.iushr, 1)) (k : AW E M K tw h (pc + 1) loc (.int (jushr x y) :: st)) : AW E M K tw h pc loc (.int y :: .int x :: st) :=
  fun p e s m args below meth c H ls locs C hP hS hl => lv_iushr C.1 C.2.1 d rfl (k p e s m args below meth c H ls locs C hP hS hl)
theorem aw_ladd {x y : Int64} (d : decode (mC M) pc = .ok (.ladd, 1)) (k : AW E M K tw h (pc + 1) loc (.long (x + y) :: st)) : AW E M K tw h pc loc (.long y :: .long x :: st) :=
  fun p e s m args below meth c H ls locs C hP hS hl => lv_ladd C.1 C.2.1 d (k p e s m args below meth c H ls locs C hP hS hl)
theorem aw_lmul {x y : Int64} (d : decode (mC M) pc = .ok (.lmul, 1)) (k : AW E M K tw h (pc + 1) loc (.long (x * y) :: st)) : AW E M K tw h pc loc (.long y :: .long x :: st) :=
  fun p e s m args below meth c H ls locs C hP hS hl => lv_lmul C.1 C.2.1 d (k p e s m args below meth c H ls locs C hP hS hl)
theorem aw_idiv {x y : Int32} (hne : ¬ y = 0) (d : decode (mC M) pc = .ok (.idiv, 1)) (k : AW E M K tw h (pc + 1) loc (.int (x / y) :: st)) : AW E M K tw h pc loc (.int y :: .int x :: st) :=
  fun p e s m args below meth c H ls locs C hP hS hl => lv_idiv C.1 C.2.1 d hne (k p e s m args below meth c H ls locs C hP hS hl)
theorem aw_irem {x y : Int32} (hne : ¬ y = 0) (d : decode (mC M) pc = .ok (.irem, 1)) (k : AW E M K tw h (pc + 1) loc (.int (jrem x y) :: st)) : AW E M K tw h pc loc (.int y :: .int x :: st) :=
  fun p e s m args below meth c H ls locs C hP hS hl => lv_irem C.1 C.2.1 d hne (k p e s m args below meth c H ls locs C hP hS hl)
theorem aw_ldiv {x y : Int64} (hne : ¬ y = 0) (d : decode (mC M) pc = .ok (.ldiv, 1)) (k : AW E M K tw h (pc + 1) loc (.long (x / y) :: st)) : AW E M K tw h pc loc (.long y :: .long x :: st) :=
  fun p e s m args below meth c H ls locs C hP hS hl => lv_ldiv C.1 C.2.1 d hne (k p e s m args below meth c H ls locs C hP hS hl)
theorem aw_lrem {x y : Int64} (hne : ¬ y = 0) (d : decode (mC M) pc = .ok (.lrem, 1)) (k : AW E M K tw h (pc + 1) loc (.long (jlrem x y) :: st)) : AW E M K tw h pc loc (.long y :: .long x :: st) :=
  fun p e s m args below meth c H ls locs C hP hS hl => lv_lrem C.1 C.2.1 d hne (k p e s m args below meth c H ls locs C hP hS hl)
theorem aw_ineg {x : Int32} (d : decode (mC M) pc = .ok (.ineg, 1)) (k : AW E M K tw h (pc + 1) loc (.int (-x) :: st)) : AW E M K tw h pc loc (.int x :: st) :=
  fun p e s m args below meth c H ls locs C hP hS hl => lv_ineg C.1 C.2.1 d (k p e s m args below meth c H ls locs C hP hS hl)
theorem aw_i2l {x : Int32} (d : decode (mC M) pc = .ok (.i2l, 1)) (k : AW E M K tw h (pc + 1) loc (.long x.toInt64 :: st)) : AW E M K tw h pc loc (.int x :: st) :=
  fun p e s m args below meth c H ls locs C hP hS hl => lv_i2l C.1 C.2.1 d rfl (k p e s m args below meth c H ls locs C hP hS hl)
theorem aw_l2i {x : Int64} (d : decode (mC M) pc = .ok (.l2i, 1)) (k : AW E M K tw h (pc + 1) loc (.int x.toInt32 :: st)) : AW E M K tw h pc loc (.long x :: st) :=
  fun p e s m args below meth c H ls locs C hP hS hl => lv_l2i C.1 C.2.1 d rfl (k p e s m args below meth c H ls locs C hP hS hl)
theorem aw_lcmp {x y : Int64} (d : decode (mC M) pc = .ok (.lcmp, 1)) (k : AW E M K tw h (pc + 1) loc (.int (lg_cmp x y) :: st)) : AW E M K tw h pc loc (.long y :: .long x :: st) :=
  fun p e s m args below meth c H ls locs C hP hS hl => W.lcmp C.1 C.2.1 d (k p e s m args below meth c H ls locs C hP hS hl)
theorem aw_dup {v : Value} (d : decode (mC M) pc = .ok (.dup, 1)) (q : v.category = 1) (k : AW E M K tw h (pc + 1) loc (v :: v :: st)) : AW E M K tw h pc loc (v :: st) :=
  fun p e s m args below meth c H ls locs C hP hS hl => lv_dup C.1 C.2.1 d (by rw [cv_cat]; exact q) (k p e s m args below meth c H ls locs C hP hS hl)
theorem aw_pop {v : Value} (d : decode (mC M) pc = .ok (.pop, 1)) (q : v.category = 1) (k : AW E M K tw h (pc + 1) loc (st)) : AW E M K tw h pc loc (v :: st) :=
  fun p e s m args below meth c H ls locs C hP hS hl => lv_pop C.1 C.2.1 d (by rw [cv_cat]; exact q) (k p e s m args below meth c H ls locs C hP hS hl)
theorem aw_dup2 {v u : Value} (d : decode (mC M) pc = .ok (.dup2, 1)) (q : v.category = 1) (q2 : u.category = 1) (k : AW E M K tw h (pc + 1) loc (v :: u :: v :: u :: st)) : AW E M K tw h pc loc (v :: u :: st) :=
  fun p e s m args below meth c H ls locs C hP hS hl => lv_dup2_11 C.1 C.2.1 d (by rw [cv_cat]; exact q) (by rw [cv_cat]; exact q2) (k p e s m args below meth c H ls locs C hP hS hl)
theorem aw_goto {off : Int} (tgt : Nat) (d : decode (mC M) pc = .ok (.goto off, 3)) (ht : (pc : Int) + off = (tgt : Int)) (k : AW E M K tw h (tgt) loc (st)) : AW E M K tw h pc loc (st) :=
  fun p e s m args below meth c H ls locs C hP hS hl => lv_goto C.1 C.2.1 d ht (k p e s m args below meth c H ls locs C hP hS hl)
theorem aw_if_eq {x : Int32} {off : Int} (tgt : Nat) (d : decode (mC M) pc = .ok (.ifCond .eq off, 3)) (ht : (pc : Int) + off = (tgt : Int)) (kt : x = 0 → AW E M K tw h tgt loc st) (kf : ¬ x = 0 → AW E M K tw h (pc + 3) loc st) : AW E M K tw h pc loc (.int x :: st) :=
  fun p e s m args below meth c H ls locs C hP hS hl => lv_if_eq C.1 C.2.1 d ht (fun q => kt q p e s m args below meth c H ls locs C hP hS hl) (fun q => kf q p e s m args below meth c H ls locs C hP hS hl)
theorem aw_if_ne {x : Int32} {off : Int} (tgt : Nat) (d : decode (mC M) pc = .ok (.ifCond .ne off, 3)) (ht : (pc : Int) + off = (tgt : Int)) (kt : ¬ x = 0 → AW E M K tw h tgt loc st) (kf : x = 0 → AW E M K tw h (pc + 3) loc st) : AW E M K tw h pc loc (.int x :: st) :=
  fun p e s m args below meth c H ls locs C hP hS hl => lv_if_ne C.1 C.2.1 d ht (fun q => kt q p e s m args below meth c H ls locs C hP hS hl) (fun q => kf q p e s m args below meth c H ls locs C hP hS hl)
theorem aw_if_lt {x : Int32} {off : Int} (tgt : Nat) (d : decode (mC M) pc = .ok (.ifCond .lt off, 3)) (ht : (pc : Int) + off = (tgt : Int)) (kt : x < 0 → AW E M K tw h tgt loc st) (kf : ¬ x < 0 → AW E M K tw h (pc + 3) loc st) : AW E M K tw h pc loc (.int x :: st) :=
  fun p e s m args below meth c H ls locs C hP hS hl => lv_if_lt C.1 C.2.1 d ht (fun q => kt q p e s m args below meth c H ls locs C hP hS hl) (fun q => kf q p e s m args below meth c H ls locs C hP hS hl)
theorem aw_if_ge {x : Int32} {off : Int} (tgt : Nat) (d : decode (mC M) pc = .ok (.ifCond .ge off, 3)) (ht : (pc : Int) + off = (tgt : Int)) (kt : 0 ≤ x → AW E M K tw h tgt loc st) (kf : ¬ 0 ≤ x → AW E M K tw h (pc + 3) loc st) : AW E M K tw h pc loc (.int x :: st) :=
  fun p e s m args below meth c H ls locs C hP hS hl => lv_if_ge C.1 C.2.1 d ht (fun q => kt q p e s m args below meth c H ls locs C hP hS hl) (fun q => kf q p e s m args below meth c H ls locs C hP hS hl)
theorem aw_if_gt {x : Int32} {off : Int} (tgt : Nat) (d : decode (mC M) pc = .ok (.ifCond .gt off, 3)) (ht : (pc : Int) + off = (tgt : Int)) (kt : 0 < x → AW E M K tw h tgt loc st) (kf : ¬ 0 < x → AW E M K tw h (pc + 3) loc st) : AW E M K tw h pc loc (.int x :: st) :=
  fun p e s m args below meth c H ls locs C hP hS hl => lv_if_gt C.1 C.2.1 d ht (fun q => kt q p e s m args below meth c H ls locs C hP hS hl) (fun q => kf q p e s m args below meth c H ls locs C hP hS hl)
theorem aw_if_le {x : Int32} {off : Int} (tgt : Nat) (d : decode (mC M) pc = .ok (.ifCond .le off, 3)) (ht : (pc : Int) + off = (tgt : Int)) (kt : x ≤ 0 → AW E M K tw h tgt loc st) (kf : ¬ x ≤ 0 → AW E M K tw h (pc + 3) loc st) : AW E M K tw h pc loc (.int x :: st) :=
  fun p e s m args below meth c H ls locs C hP hS hl => lv_if_le C.1 C.2.1 d ht (fun q => kt q p e s m args below meth c H ls locs C hP hS hl) (fun q => kf q p e s m args below meth c H ls locs C hP hS hl)
theorem aw_icmp_eq {x y : Int32} {off : Int} (tgt : Nat) (d : decode (mC M) pc = .ok (.if_icmp .eq off, 3)) (ht : (pc : Int) + off = (tgt : Int)) (kt : x = y → AW E M K tw h tgt loc st) (kf : ¬ x = y → AW E M K tw h (pc + 3) loc st) : AW E M K tw h pc loc (.int y :: .int x :: st) :=
  fun p e s m args below meth c H ls locs C hP hS hl => lv_icmp_eq C.1 C.2.1 d ht (fun q => kt q p e s m args below meth c H ls locs C hP hS hl) (fun q => kf q p e s m args below meth c H ls locs C hP hS hl)
theorem aw_icmp_ne {x y : Int32} {off : Int} (tgt : Nat) (d : decode (mC M) pc = .ok (.if_icmp .ne off, 3)) (ht : (pc : Int) + off = (tgt : Int)) (kt : ¬ x = y → AW E M K tw h tgt loc st) (kf : x = y → AW E M K tw h (pc + 3) loc st) : AW E M K tw h pc loc (.int y :: .int x :: st) :=
  fun p e s m args below meth c H ls locs C hP hS hl => lv_icmp_ne C.1 C.2.1 d ht (fun q => kt q p e s m args below meth c H ls locs C hP hS hl) (fun q => kf q p e s m args below meth c H ls locs C hP hS hl)
theorem aw_icmp_lt {x y : Int32} {off : Int} (tgt : Nat) (d : decode (mC M) pc = .ok (.if_icmp .lt off, 3)) (ht : (pc : Int) + off = (tgt : Int)) (kt : x < y → AW E M K tw h tgt loc st) (kf : ¬ x < y → AW E M K tw h (pc + 3) loc st) : AW E M K tw h pc loc (.int y :: .int x :: st) :=
  fun p e s m args below meth c H ls locs C hP hS hl => lv_icmp_lt C.1 C.2.1 d ht (fun q => kt q p e s m args below meth c H ls locs C hP hS hl) (fun q => kf q p e s m args below meth c H ls locs C hP hS hl)
theorem aw_icmp_ge {x y : Int32} {off : Int} (tgt : Nat) (d : decode (mC M) pc = .ok (.if_icmp .ge off, 3)) (ht : (pc : Int) + off = (tgt : Int)) (kt : y ≤ x → AW E M K tw h tgt loc st) (kf : ¬ y ≤ x → AW E M K tw h (pc + 3) loc st) : AW E M K tw h pc loc (.int y :: .int x :: st) :=
  fun p e s m args below meth c H ls locs C hP hS hl => lv_icmp_ge C.1 C.2.1 d ht (fun q => kt q p e s m args below meth c H ls locs C hP hS hl) (fun q => kf q p e s m args below meth c H ls locs C hP hS hl)
theorem aw_icmp_gt {x y : Int32} {off : Int} (tgt : Nat) (d : decode (mC M) pc = .ok (.if_icmp .gt off, 3)) (ht : (pc : Int) + off = (tgt : Int)) (kt : y < x → AW E M K tw h tgt loc st) (kf : ¬ y < x → AW E M K tw h (pc + 3) loc st) : AW E M K tw h pc loc (.int y :: .int x :: st) :=
  fun p e s m args below meth c H ls locs C hP hS hl => lv_icmp_gt C.1 C.2.1 d ht (fun q => kt q p e s m args below meth c H ls locs C hP hS hl) (fun q => kf q p e s m args below meth c H ls locs C hP hS hl)
theorem aw_icmp_le {x y : Int32} {off : Int} (tgt : Nat) (d : decode (mC M) pc = .ok (.if_icmp .le off, 3)) (ht : (pc : Int) + off = (tgt : Int)) (kt : x ≤ y → AW E M K tw h tgt loc st) (kf : ¬ x ≤ y → AW E M K tw h (pc + 3) loc st) : AW E M K tw h pc loc (.int y :: .int x :: st) :=
  fun p e s m args below meth c H ls locs C hP hS hl => lv_icmp_le C.1 C.2.1 d ht (fun q => kt q p e s m args below meth c H ls locs C hP hS hl) (fun q => kf q p e s m args below meth c H ls locs C hP hS hl)
theorem aw_tableOut {dflt lo hi : Int} {offs : Array Int} {len : Nat} {x : Int32} (tgt : Nat) (d : decode (mC M) pc = .ok (.tableswitch dflt lo hi offs, len)) (q : x.toInt < lo ∨ hi < x.toInt) (ht : (pc : Int) + dflt = (tgt : Int)) (k : AW E M K tw h tgt loc st) : AW E M K tw h pc loc (.int x :: st) :=
  fun p e s m args below meth c H ls locs C hP hS hl => lv_tableOut C.1 C.2.1 d q ht (k p e s m args below meth c H ls locs C hP hS hl)
theorem aw_tableIn {dflt lo hi : Int} {offs : Array Int} {len : Nat} {x : Int32} {off : Int} (tgt : Nat) (d : decode (mC M) pc = .ok (.tableswitch dflt lo hi offs, len)) (q1 : ¬ x.toInt < lo) (q2 : ¬ hi < x.toInt) (ho : offs[(x.toInt - lo).toNat]? = some off) (ht : (pc : Int) + off = (tgt : Int)) (k : AW E M K tw h tgt loc st) : AW E M K tw h pc loc (.int x :: st) :=
  fun p e s m args below meth c H ls locs C hP hS hl => lv_tableIn C.1 C.2.1 d q1 q2 ho ht (k p e s m args below meth c H ls locs C hP hS hl)
theorem aw_lookup {dflt : Int} {ps : Array (Int × Int)} {len : Nat} {x : Int32} {off : Int} (tgt : Nat) (d : decode (mC M) pc = .ok (.lookupswitch dflt ps, len)) (hp : (ps.toList.zip (ps.toList.drop 1)).all (fun (a, next) => a.1 < next.1) = true) (ho : Op.lookupswitch.offset ps.toList dflt x.toInt = off) (ht : (pc : Int) + off = (tgt : Int)) (k : AW E M K tw h tgt loc st) : AW E M K tw h pc loc (.int x :: st) :=
  fun p e s m args below meth c H ls locs C hP hS hl => lv_lookup C.1 C.2.1 d hp ho ht (k p e s m args below meth c H ls locs C hP hS hl)
theorem aw_dk {loc' : LC} (k : AW E M K tw h pc loc' st) (q : dl loc' loc) : AW E M K tw h pc loc st :=
  fun p e s m args below meth c H ls locs C hP hS hl => k p e s m args below meth c H ls locs C hP hS (hl.dl q)
theorem aw_dl {loc' : LC} (q : dl loc' loc) (k : AW E M K tw h pc loc' st) : AW E M K tw h pc loc st :=
  fun p e s m args below meth c H ls locs C hP hS hl => k p e s m args below meth c H ls locs C hP hS (hl.dl q)
theorem wE_obj {k c N : Nat} (hk : kd k = (c + 3, N)) : wE E tw h k = .inr (c, (List.range N).map (fun j => cv E (fv tw h k c j))) := by unfold wE; rw [hk]
theorem wE_int {k N : Nat} (hk : kd k = (0, N)) : wE E tw h k = .inl (eI E, N, .inl (h k)) := by unfold wE; rw [hk]
theorem wE_bool {k N : Nat} (hk : kd k = (1, N)) : wE E tw h k = .inl (eZ E, N, .inl (h k)) := by unfold wE; rw [hk]
theorem wE_row {k N : Nat} (hk : kd k = (2, N)) : wE E tw h k = .inl (eO E, N, .inr (.inr (.inr (.inr (fun j => if j < N then some (eA E (k + 1 + j)) else none))))) := by unfold wE; rw [hk]
theorem wW_obj {k c N : Nat} (hn : k < eN E) (hk : kd k = (c + 3, N)) : (wW E tw h)[k]? = some (eA E k, .inr (c, (List.range N).map (fun j => cv E (fv tw h k c j)))) := by rw [wW_get E tw h hn, wE_obj hk]
theorem wW_int {k N : Nat} (hn : k < eN E) (hk : kd k = (0, N)) : (wW E tw h)[k]? = some (eA E k, .inl (eI E, N, .inl (h k))) := by rw [wW_get E tw h hn, wE_int hk]
theorem wW_bool {k N : Nat} (hn : k < eN E) (hk : kd k = (1, N)) : (wW E tw h)[k]? = some (eA E k, .inl (eZ E, N, .inl (h k))) := by rw [wW_get E tw h hn, wE_bool hk]
theorem wW_row {k N : Nat} (hn : k < eN E) (hk : kd k = (2, N)) : (wW E tw h)[k]? = some (eA E k, .inl (eO E, N, .inr (.inr (.inr (.inr (fun j => if j < N then some (eA E (k + 1 + j)) else none)))))) := by rw [wW_get E tw h hn, wE_row hk]
/-- field j of class c (its name, its table, how many fields): 'own' links it at index i -/
def fk (own : String) (i c j : Nat) : Prop := ∃ q : vw_C, vwCl[c]? = some q ∧ j < q.2.2 ∧ (∀ w ∈ u_ws q.1 q.2.1 q.2.2, w ∈ gt) ∧ Cond.fieldLink own i (q.2.1 j).1 (q.2.1 j).2.1 (q.2.1 j).2.2.1 ∈ gt
theorem aw_get {q c N i j : Nat} {v : Value} (hf : fk (mY M).cls i c j) (hn : q < eN E) (hk : kd q = (c + 3, N)) (hj : j < N) (hv : fv tw h q c j = v) (d : decode (mC M) pc = .ok (.getfield i, 3)) (k : AW E M K tw h (pc + 3) loc (v :: st)) : AW E M K tw h pc loc (.ref q :: st) := by
  intro p e s m args below meth c' H ls locs C hP hS hl
  obtain ⟨⟨C1, T, N1⟩, h1, h2, h3, h4⟩ := hf
  subst hv
  exact va_get (D := eD E) (ci := c) (v := cv E (fv tw h q c j)) C.1 C.2.1 C.2.2.2.2.2.1 h3 C.2.2.2.2.1 C.2.2.2.2.2.2.1 hP q (wW_obj hn hk) h1 j h2 (C.2.2.2.2.2.1 _ h4) (fun _ h9 => h9) (by simp [hj]) d (k p e s m args below meth c' H ls locs C hP hS hl)
theorem fv_int {k c j : Nat} (hr : rft tw k c j = none) : fv tw h k c j = .int (h k j) := by unfold fv; rw [hr]
theorem fv_ref {k c j q : Nat} (hr : rft tw k c j = some q) : fv tw h k c j = .ref q := by unfold fv; rw [hr]
theorem aw_geti {q c N i j : Nat} (hf : fk (mY M).cls i c j) (hn : q < eN E) (hk : kd q = (c + 3, N)) (hj : j < N) (hr : rft tw q c j = none) (d : decode (mC M) pc = .ok (.getfield i, 3)) (k : AW E M K tw h (pc + 3) loc (.int (h q j) :: st)) : AW E M K tw h pc loc (.ref q :: st) := aw_get hf hn hk hj (fv_int hr) d k
theorem aw_getr {q c N i j x : Nat} (hf : fk (mY M).cls i c j) (hn : q < eN E) (hk : kd q = (c + 3, N)) (hj : j < N) (hr : rft tw q c j = some x) (d : decode (mC M) pc = .ok (.getfield i, 3)) (k : AW E M K tw h (pc + 3) loc (.ref x :: st)) : AW E M K tw h pc loc (.ref q :: st) := aw_get hf hn hk hj (fv_ref hr) d k
theorem set_map' {N j : Nat} {f g : Nat → Value} (ho : ∀ i, i ≠ j → f i = g i) {v : Value} (hv : v = g j) : ((List.range N).map f).set j v = (List.range N).map g := by
  subst hv
  apply List.ext_getElem?
  intro i
  by_cases hi : i = j
  · subst hi
    by_cases hn : i < N
    · rw [List.getElem?_set_self (by simpa using hn)]; simp [hn]
    · rw [List.getElem?_eq_none (by simpa using Nat.le_of_not_lt hn), List.getElem?_eq_none (by simpa using Nat.le_of_not_lt hn)]
  · rw [List.getElem?_set_ne (fun q => hi q.symm)]
    by_cases hn : i < N
    · simp [hn, ho i hi]
    · rw [List.getElem?_eq_none (by simpa using Nat.le_of_not_lt hn), List.getElem?_eq_none (by simpa using Nat.le_of_not_lt hn)]
theorem fv_up {q c j i : Nat} {x : Int32} (hi : i ≠ j) : fv tw h q c i = fv tw (up h q j x) q c i := by
  unfold fv up
  rw [upc_same]
  cases rft tw q c i with
  | some _ => rfl
  | none => show Value.int _ = Value.int _; unfold upd; rw [if_neg hi]
/-- field j of class c can be written: its types' table -/
def fw (c j : Nat) (ty : FieldType) : Prop := ∃ (q : vw_C) (ty0 : Nat → FieldType), vwCl[c]? = some q ∧ (∀ k, k < q.2.2 → parseFieldDescriptor (q.2.1 k).2.2.1 = some (ty0 k)) ∧ (∀ a, a < q.2.2 → ∀ b, b < q.2.2 → a ≠ b → (q.2.1 a).2.1 ≠ (q.2.1 b).2.1) ∧ (q.2.1 j).2.2.2 = false ∧ parseFieldDescriptor (q.2.1 j).2.2.1 = some ty
theorem aw_put {q c N i j : Nat} {v : Value} {ty : FieldType} (hf : fk (mY M).cls i c j) (hw : fw c j ty) (hn : q < eN E) (hk : kd q = (c + 3, N)) (hj : j < N) (hnr : narrow ty (cv E v) = cv E v) (hft : fits ty (cv E v) = true)
    (hs : (wW E tw h).set q (eA E q, .inr (c, ((List.range N).map (fun j => cv E (fv tw h q c j))).set j (cv E v))) = wW E tw' h') (d : decode (mC M) pc = .ok (.putfield i, 3)) (k : AW E M K tw' h' (pc + 3) loc st) : AW E M K tw h pc loc (v :: .ref q :: st) := by
  intro p e s m args below meth c' H ls locs C hP hS hl
  obtain ⟨⟨C1, T, N1⟩, h1, h2, h3, h4⟩ := hf
  obtain ⟨⟨C2, T2, N2⟩, ty0, g1, g2, g3, g4, g5⟩ := hw
  have e1 : some (C1, T, N1) = some (C2, T2, N2) := h1.symm.trans g1
  cases e1
  refine va_put (D := eD E) (ci := c) (v := cv E v) (ty := ty) C.1 C.2.1 C.2.2.2.2.2.1 h3 ty0 g2 g3 C.2.2.2.2.1 C.2.2.2.2.2.2.1 hP (wD C.2.2.2.2.2.2.2.2.1 tw h s.heap.size) hS q (wW_obj hn hk) h1 j h2 (C.2.2.2.2.2.1 _ h4) (fun _ h9 => h9) g4 g5 hnr hft (by simpa using hj) d (fun H1 locs1 hP1 hD1 hS1 => ?_)
  rw [hs] at hP1
  exact k p e s m args below meth c' H1 ls locs1 C hP1 hS1 hl
theorem aw_puti {q c N i j : Nat} {x : Int32} (hf : fk (mY M).cls i c j) (hw : fw c j .int) (hn : q < eN E) (hk : kd q = (c + 3, N)) (hj : j < N) (hr : rft tw q c j = none) (d : decode (mC M) pc = .ok (.putfield i, 3)) (k : AW E M K tw (up h q j x) (pc + 3) loc st) : AW E M K tw h pc loc (.int x :: .ref q :: st) := by
  refine aw_put hf hw hn hk hj rfl rfl ?_ d k
  refine wW_set E hn ?_ (fun i hi => wE_upc E tw h _ hi)
  rw [wE_obj hk, set_map' (g := fun i => cv E (fv tw (up h q j x) q c i)) (fun i hi => by rw [fv_up hi]) ?_]
  rw [fv_int hr, up, upc_same]
  unfold upd
  rw [if_pos rfl]
theorem up_same (h : HP) (q j : Nat) (x : Int32) : up h q j x q j = x := by unfold up upc upd; rw [if_pos rfl, if_pos rfl]
theorem aw_putz {q c N i j : Nat} {x : Int32} (hf : fk (mY M).cls i c j) (hw : fw c j .boolean) (hn : q < eN E) (hk : kd q = (c + 3, N)) (hj : j < N) (hr : rft tw q c j = none) (hx : x = 0 ∨ x = 1) (d : decode (mC M) pc = .ok (.putfield i, 3)) (k : AW E M K tw (up h q j x) (pc + 3) loc st) : AW E M K tw h pc loc (.int x :: .ref q :: st) := by
  refine aw_put hf hw hn hk hj (by rcases hx with rfl | rfl <;> rfl) (by rcases hx with rfl | rfl <;> rfl) ?_ d k
  refine wW_set E hn ?_ (fun i hi => wE_upc E tw h _ hi)
  rw [wE_obj hk, set_map' (g := fun i => cv E (fv tw (up h q j x) q c i)) (fun i hi => by rw [fv_up hi]) ?_]
  rw [fv_int hr, up_same]
theorem rft_tw {c : Nat} (hc : c ≠ 6) (tw2 : TW) (k j : Nat) : rft tw2 k c j = rft tw k c j := by
  unfold rft
  split <;> simp_all
theorem wE_tw {j : Nat} (hj : (kd j).1 ≠ 9) (tw2 : TW) : wE E tw2 h j = wE E tw h j := by
  unfold wE
  split <;> try rfl
  next c L hk =>
    have hc : c ≠ 6 := fun q => hj (by rw [hk, q])
    refine congrArg (fun z => Sum.inr (c, z)) (List.map_congr_left fun i _ => ?_)
    unfold fv
    rw [rft_tw (tw := tw) hc tw2]
theorem kd9 : ∀ j, j ≠ 0 → (kd j).1 ≠ 9 := by
  intro j hj
  by_cases h : j < 56
  · revert hj
    revert j
    decide +kernel
  · unfold kd
    rw [List.getD_eq_getElem?_getD, List.getElem?_eq_none (by simpa [kdL] using Nat.le_of_not_lt h)]
    decide
theorem aw_putT {i j x : Nat} {ty : FieldType} (hn : 0 < eN E) (hf : fk (mY M).cls i 6 j) (hw : fw 6 j ty) (hj : j = 1 ∧ tw' = (x, tw.2) ∨ j = 2 ∧ tw' = (tw.1, x)) (hnr : ∀ a, narrow ty (.ref a) = .ref a) (hft : ∀ a, fits ty (.ref a) = true) (d : decode (mC M) pc = .ok (.putfield i, 3)) (k : AW E M K tw' h (pc + 3) loc st) : AW E M K tw h pc loc (.ref x :: .ref 0 :: st) := by
  refine aw_put (tw' := tw') (h' := h) (q := 0) (c := 6) (N := 12) hf hw hn rfl (by omega) (hnr _) (hft _) ?_ d k
  refine wW_set E hn ?_ (fun i hi => wE_tw (kd9 i hi) _)
  have ho : ∀ z, z ≠ j → cv E (fv tw h 0 6 z) = cv E (fv tw' h 0 6 z) := by
    intro z hz
    have : rft tw 0 6 z = rft tw' 0 6 z := by
      rcases hj with ⟨rfl, rfl⟩ | ⟨rfl, rfl⟩ <;> unfold rft <;> split <;> simp_all
    unfold fv
    rw [this]
  have hv : cv E (.ref x) = cv E (fv tw' h 0 6 j) := by rcases hj with ⟨rfl, rfl⟩ | ⟨rfl, rfl⟩ <;> rfl
  rw [wE_obj (c := 6) (N := 12) rfl, set_map' (g := fun i => cv E (fv tw' h 0 6 i)) ho hv]
/-- a place in a row of so many -/
def inb (x : Int32) (L : Nat) : Bool := decide (¬ (x < 0 ∨ L ≤ x.toNatClampNeg))
theorem inb_in {x : Int32} {L : Nat} (q : inb x L = true) : vp_in x L := of_decide_eq_true (p := ¬ (x < 0 ∨ L ≤ x.toNatClampNeg)) q
theorem aw_iald {q N : Nat} {x : Int32} (hn : q < eN E) (hk : kd q = (0, N)) (hin : inb x N = true) (d : decode (mC M) pc = .ok (.iaload, 1)) (k : AW E M K tw h (pc + 1) loc (.int (h q x.toNatClampNeg) :: st)) : AW E M K tw h pc loc (.int x :: .ref q :: st) :=
  fun p e s m args below meth c H ls locs C hP hS hl => va_iald (D := eD E) C.1 C.2.1 C.2.2.2.2.2.2.1 hP q 0 (wW_int hn hk) rfl (inb_in hin) d (k p e s m args below meth c H ls locs C hP hS hl)
theorem aw_zald {q N : Nat} {x : Int32} (hn : q < eN E) (hk : kd q = (1, N)) (hin : inb x N = true) (d : decode (mC M) pc = .ok (.baload, 1)) (k : AW E M K tw h (pc + 1) loc (.int (h q x.toNatClampNeg) :: st)) : AW E M K tw h pc loc (.int x :: .ref q :: st) :=
  fun p e s m args below meth c H ls locs C hP hS hl => va_zald (D := eD E) C.1 C.2.1 C.2.2.2.2.2.2.1 hP q 1 (wW_bool hn hk) rfl (inb_in hin) d (k p e s m args below meth c H ls locs C hP hS hl)
theorem aw_aald {q N : Nat} {x : Int32} (hn : q < eN E) (hk : kd q = (2, N)) (hin : inb x N = true) (d : decode (mC M) pc = .ok (.aaload, 1)) (k : AW E M K tw h (pc + 1) loc (.ref (q + 1 + x.toNatClampNeg) :: st)) : AW E M K tw h pc loc (.int x :: .ref q :: st) := by
  intro p e s m args below meth c H ls locs C hP hS hl
  have hin' := inb_in hin
  have hlt : x.toNatClampNeg < N := Nat.not_le.mp fun z => hin' (Or.inr z)
  refine W.aald (v := .ref (eA E (q + 1 + x.toNatClampNeg))) (ty := .array .int) C.1 C.2.1 (hP q _ (wW_row hn hk)) ((C.2.2.2.2.2.2.1.2 2 _ rfl).1 N _) rfl (fun z => by cases z) (by show ¬ (x < 0 ∨ (arrV _ _ _).slots.size ≤ _); rw [arrV_size]; exact hin') (by show (arrV _ _ _).slots[_]? = _; rw [arrV_read _ _ hlt]; show some (va_rf (if _ then _ else _)) = _; rw [if_pos hlt]; rfl) rfl rfl d (k p e s m args below meth c H ls locs C hP hS hl)
theorem aw_alen {q N : Nat} (v : Int32) (hn : q < eN E) (hk : kd q = (0, N)) (hv : Int32.ofNat N = v) (d : decode (mC M) pc = .ok (.arraylength, 1)) (k : AW E M K tw h (pc + 1) loc (.int v :: st)) : AW E M K tw h pc loc (.ref q :: st) :=
  fun p e s m args below meth c H ls locs C hP hS hl => va_alen (D := eD E) C.1 C.2.1 C.2.2.2.2.2.2.1 hP q 0 (wW_int hn hk) rfl hv d (k p e s m args below meth c H ls locs C hP hS hl)
theorem aw_iast {q N : Nat} {x y : Int32} (hn : q < eN E) (hk : kd q = (0, N)) (hin : inb x N = true) (d : decode (mC M) pc = .ok (.iastore, 1)) (k : AW E M K tw (up h q x.toNatClampNeg y) (pc + 1) loc st) : AW E M K tw h pc loc (.int y :: .int x :: .ref q :: st) := by
  intro p e s m args below meth c H ls locs C hP hS hl
  refine va_iast (D := eD E) C.1 C.2.1 C.2.2.2.2.2.2.1 hP (wD C.2.2.2.2.2.2.2.2.1 tw h s.heap.size) hS q 0 (wW_int hn hk) rfl (inb_in hin) d (fun H1 locs1 hP1 hD1 hS1 => ?_)
  rw [wW_set E (tw' := tw) (h' := up h q x.toNatClampNeg y) hn (by rw [wE_int hk, up, upc_same]) (fun i hi => wE_upc E tw h _ hi)] at hP1
  exact k p e s m args below meth c H1 ls locs1 C hP1 hS1 hl
theorem aw_zast {q N : Nat} {x y : Int32} (hn : q < eN E) (hk : kd q = (1, N)) (hin : inb x N = true) (hy : y = 0 ∨ y = 1) (d : decode (mC M) pc = .ok (.bastore, 1)) (k : AW E M K tw (up h q x.toNatClampNeg y) (pc + 1) loc st) : AW E M K tw h pc loc (.int y :: .int x :: .ref q :: st) := by
  intro p e s m args below meth c H ls locs C hP hS hl
  refine va_zast (D := eD E) C.1 C.2.1 C.2.2.2.2.2.2.1 hP (wD C.2.2.2.2.2.2.2.2.1 tw h s.heap.size) hS q 1 (wW_bool hn hk) rfl (inb_in hin) d (fun H1 locs1 hP1 hD1 hS1 => ?_)
  rw [show vp_nar .boolean y = y by rcases hy with rfl | rfl <;> rfl] at hP1
  rw [wW_set E (tw' := tw) (h' := up h q x.toNatClampNeg y) hn (by rw [wE_bool hk, up, upc_same]) (fun i hi => wE_upc E tw h _ hi)] at hP1
  exact k p e s m args below meth c H1 ls locs1 C hP1 hS1 hl
/-- System.arraycopy -/
def cpb (x y n : Int32) (L0 L1 : Nat) : Bool := decide (¬ x < 0 ∧ ¬ y < 0 ∧ ¬ n < 0 ∧ x.toNatClampNeg + n.toNatClampNeg ≤ L0 ∧ y.toNatClampNeg + n.toNatClampNeg ≤ L1)
def cpy (h : HP) (a : Nat) (x : Int32) (b : Nat) (y n : Int32) : HP := upc h b (va_cpy (h a) (h b) x.toNatClampNeg y.toNatClampNeg n.toNatClampNeg)
theorem aw_copy {i a b L0 L1 : Nat} {x y n : Int32} (ha : a < eN E) (ka : kd a = (0, L0)) (hb : b < eN E) (kb : kd b = (0, L1)) (hc : cpb x y n L0 L1 = true) (gl : Cond.methodLink (mY M).cls i arraycopyName ∈ gt) (gn : Cond.native arraycopyName ∈ gt) (gs : Cond.static arraycopyName ∈ gt) (gi : Cond.initialized "java/lang/System" ∈ gt)
    (hR : 1 ≤ K.1.frames ∧ (st.map Value.category).sum + (nativeFrameWords "java/lang/System" "arraycopy" 5 + 11) ≤ K.1.locals) (d : decode (mC M) pc = .ok (.invokestatic i, 3)) (k : AW E M K tw (cpy h a x b y n) (pc + 3) loc st) : AW E M K tw h pc loc (.int n :: .int y :: .ref b :: .int x :: .ref a :: st) := by
  intro p e s m args below meth c H ls locs C hP hS hl
  obtain ⟨h1, h2, h3, h4, h5⟩ := of_decide_eq_true hc
  have hg := C.2.2.2.2.2.1
  refine va_copyi (D := eD E) C.1 C.2.1 (by rw [C.2.2.2.1, hl.1]) C.2.2.2.2.1 (hg _ gl) (hg _ gn) (hg _ gs) (hg _ gi) C.2.2.2.2.2.2.1 hP (wD C.2.2.2.2.2.2.2.2.1 tw h s.heap.size) hS a b 0 0 (wW_int ha ka) (wW_int hb kb) rfl rfl rfl h1 h2 h3 h4 h5 (fun _ _ => rfl) hR.1 ?_ d (fun H1 locs1 hP1 hD1 hS1 => ?_)
  · rw [List.map_map, show ((fun v : Value => v.category) ∘ cv E) = Value.category from funext fun v => cv_cat E v]
    exact hR.2
  · rw [wW_set E (tw' := tw) (h' := cpy h a x b y n) hb (by rw [wE_int kb, cpy, upc_same]) (fun i hi => wE_upc E tw h _ hi)] at hP1
    exact k p e s m args below meth c H1 ls locs1 C hP1 hS1 hl
end AWR
section AWC
variable {E : EV} {M N : MI} {K : KX} {tw tw' : TW} {h h' : HP} {pc : Nat} {loc : LC} {st : List Value}
theorem QC.blind {av : List Value} {sz : Nat} : FrameBlind (va_Pc (av.map (cv E)) (fun U => U.heap.size = sz ∧ va_P (eD E) vwCl (wW E tw h) U.heap ∧ va_K (eD E) vwCl (tyE E) U)) := by
  intro a U g mk q
  obtain ⟨q0, q1, qP, qK⟩ := q
  exact ⟨q0, q1, qP, va_K.moved (u := U) (U := U.calling g mk a) (Vm.Alike.refl U.vm) qK⟩
/-- behind a call -/
theorem aw_back {p : Program} {e : Env} {s : State} {m : MethodId} {args : Array Value} {below : List Frame} {meth : Method} {c : Code} {H : Heap} {ls : Array Slot} {locs : List Loc} {rv : Option Value} {a : Array Value} {st0 : List Value}
    (C : CX E M K p s m args meth c) (hS : va_S (fA E s.heap.size) s.heap H locs) (hl : LR E M ls loc) (hr : va_Run p (eL E) e K.1 s m args below meth c H locs K.2.1 K.2.2.1 0 0 (F0 m pc ls st0) (st.map (cv E)) (QC E H.size rv tw' h' a) (fA E H.size))
    (k : AW E M K tw' h' (pc + 3) loc (rv.toList ++ st)) : W p (eL E) e K.1 s m args below meth c H locs K.2.1 K.2.2.1 (K.2.2.2.1 below args s) (F0 m pc ls st0) := by
  intro T hT X
  obtain ⟨v, st₀, t, T', L, h0, X', hL, e1, e2, ⟨⟨hv, hp, hb⟩, hz, hk⟩, stp⟩ := hr T hT X
  have hv2 : v = rv.map (cv E) := by cases hv; rfl
  subst hv2
  rw [h0] at hz hk
  have hsub : ∀ q, fA E H.size q → fA E s.heap.size q := fun q hq => by
    rcases hq with hq | hq
    · exact Or.inl hq
    · exact Or.inr (Nat.le_trans hS.1 hq)
  have hS' : va_S (fA E s.heap.size) s.heap T'.heap (locs ++ L) := by
    refine ⟨Nat.le_trans hS.1 (by rw [e1]; exact hz), fun q h1 h2 => ?_, fun q hq => ?_⟩
    · rw [e1, hk q (Nat.lt_of_lt_of_le h1 hS.1) (fun z => h2 (hsub q z))]
      exact hS.2.1 q h1 h2
    · rcases List.mem_append.mp hq with z | z
      · exact hS.2.2 q z
      · exact hsub _ (hL q z)
  obtain ⟨t2, a1, b1⟩ := k p e s m args below meth c T'.heap ls (locs ++ L) C (by rw [e1]; exact hp) hS' hl T' rfl X'
  refine ⟨t2, stp t2 ?_, b1⟩
  have : (rv.map (cv E)).toList ++ st.map (cv E) = (rv.toList ++ st).map (cv E) := by cases rv <;> rfl
  rw [this]
  exact a1
/-- a method that can be called on an object of its class: the words -/
def okV (N : MI) (n : Nat) : Prop := Cond.instanceMethod (mY N) ∈ gt ∧ Cond.selects (mY N).cls (mY N) (mY N) ∈ gt ∧ Cond.initialized (mY N).cls ∈ gt ∧ Cond.code (mY N) (mC N) (mL N) (mR N) ∈ gt ∧ (mY N).cls ≠ "java/lang/invoke/MethodHandle" ∧ (mY N).cls ≠ "java/lang/invoke/VarHandle" ∧ (parseMethodDescriptor (mY N).desc).map (fun d => d.parameters.length) = some n
def okS (N : MI) (n : Nat) : Prop := Cond.static (mY N) ∈ gt ∧ Cond.initialized (mY N).cls ∈ gt ∧ Cond.code (mY N) (mC N) (mL N) (mR N) ∈ gt ∧ (mY N).cls ≠ "java/lang/invoke/MethodHandle" ∧ (mY N).cls ≠ "java/lang/invoke/VarHandle" ∧ (parseMethodDescriptor (mY N).desc).map (fun d => d.parameters.length) = some n
def roomy (N : MI) (R : Room) : Prop := mD N + 1 ≤ R.frames ∧ 8 + (mL N + 11) + 64 * mD N ≤ R.locals
theorem aw_callV {i q c NF n : Nat} {As st0 : List Value} {rv : Option Value} (hn : q < eN E) (hk : kd q = (c + 3, NF)) (hcl : (vwCl[c]?).map (fun z => z.1) = some (mY N).cls) (ok : okV N n) (hlk : Cond.methodLink (mY M).cls i (mY N) ∈ gt) (hlen : As.length = n) (hs : st0 = As.reverse ++ .ref q :: st) (hst : (st.map Value.category).sum ≤ 8) (hR : roomy N K.1) (d : decode (mC M) pc = .ok (.invokevirtual i, 3))
    (hR2 : K.2.1 ≤ K.1.cells ∧ K.2.2.1 ≤ K.1.slots) (hc : CT E N tw h (.ref q :: As) rv tw' h') (k : AW E M K tw' h' (pc + 3) loc (rv.toList ++ st)) : AW E M K tw h pc loc st0 := by
  intro p e s m args below meth c' H ls locs C hP hS hl
  subst hs
  obtain ⟨o1, o2, o3, o4, o5, o6, o7⟩ := ok
  obtain ⟨q3, hq3, hq4⟩ : ∃ z, vwCl[c]? = some z ∧ z.1 = (mY N).cls := by
    cases hz : vwCl[c]? with
    | none => rw [hz] at hcl; cases hcl
    | some z => rw [hz] at hcl; exact ⟨z, rfl, by simpa using hcl⟩
  have hG : GoodIn gt (wsV (mY M).cls i (mY N).cls (mY N) (wds N)) := by
    intro w hw
    have : w ∈ gt := by
      simp only [wsV, wds, List.cons_append, List.nil_append, List.mem_cons] at hw
      rcases hw with rfl | rfl | rfl | rfl | rfl | hw <;> assumption
    exact ⟨this, gt_good this⟩
  refine aw_back C hS hl (va_runV (As := As.map (cv E)) (rest := st.map (cv E)) (mc := 0) (ms := 0) (n := n) ⟨C.1, C.2.1, C.2.2.2.1, C.2.2.2.2.1, C.2.2.2.2.2.1⟩ (hc H.size) (cwV n C.2.2.2.2.2.1 hG rfl rfl rfl ⟨rfl, o5, o6, o7⟩ hR) ⟨QC.blind, ?_, fun U hU hW => ⟨rfl, by rw [hU], by rw [hU]; exact hP, va_K.moved hW.alike C.2.2.2.2.2.2.1⟩⟩ rfl (by simpa using hlen) hl.1 ?_ ?_ d hR2) k
  · have := va_recv C.2.2.2.2.2.2.1 hP hq3 (wW_obj hn hk)
    rw [hq4] at this
    exact this
  · show List.map (cv E) _ = _
    simp [cv]
  · refine lv_room ?_
    rw [List.map_map, show ((fun v : Value => v.category) ∘ cv E) = Value.category from funext fun v => cv_cat E v]
    exact hst
theorem aw_callS {i n : Nat} {As st0 : List Value} {rv : Option Value} (ok : okS N n) (hlk : Cond.methodLink (mY M).cls i (mY N) ∈ gt) (hlen : As.length = n) (hs : st0 = As.reverse ++ st) (hst : (st.map Value.category).sum ≤ 8) (hR : roomy N K.1) (d : decode (mC M) pc = .ok (.invokestatic i, 3))
    (hR2 : K.2.1 ≤ K.1.cells ∧ K.2.2.1 ≤ K.1.slots) (hc : CT E N tw h As rv tw' h') (k : AW E M K tw' h' (pc + 3) loc (rv.toList ++ st)) : AW E M K tw h pc loc st0 := by
  intro p e s m args below meth c' H ls locs C hP hS hl
  subst hs
  obtain ⟨o1, o3, o4, o5, o6, o7⟩ := ok
  have hG : GoodIn gt (va_wsS (mY M).cls i (mY N) (wds N)) := by
    intro w hw
    have : w ∈ gt := by
      simp only [va_wsS, wds, List.cons_append, List.nil_append, List.mem_cons] at hw
      rcases hw with rfl | rfl | rfl | rfl | hw <;> assumption
    exact ⟨this, gt_good this⟩
  refine aw_back C hS hl (va_runS (As := As.map (cv E)) (rest := st.map (cv E)) (mc := 0) (ms := 0) (n := n) ⟨C.1, C.2.1, C.2.2.2.1, C.2.2.2.2.1, C.2.2.2.2.2.1⟩ (hc H.size) (va_cwS n C.2.2.2.2.2.1 hG rfl rfl rfl ⟨o5, o6, o7⟩ hR) ⟨QC.blind, fun U hU hW => ⟨rfl, by rw [hU], by rw [hU]; exact hP, va_K.moved hW.alike C.2.2.2.2.2.2.1⟩⟩ rfl (by simpa using hlen) hl.1 ?_ ?_ d hR2) k
  · show List.map (cv E) _ = _
    simp
  · refine lv_room ?_
    rw [List.map_map, show ((fun v : Value => v.category) ∘ cv E) = Value.category from funext fun v => cv_cat E v]
    exact hst
theorem aw_callVi {i q c NF n : Nat} {As st0 : List Value} {r : Int32} (hlk : Cond.methodLink (mY M).cls i (mY N) ∈ gt) (ok : okV N n) (hn : q < eN E) (hk : kd q = (c + 3, NF)) (hcl : (vwCl[c]?).map (fun z => z.1) = some (mY N).cls) (hlen : As.length = n) (hs : st0 = As.reverse ++ .ref q :: st) (hst : (st.map Value.category).sum ≤ 8) (hR : roomy N K.1) (d : decode (mC M) pc = .ok (.invokevirtual i, 3))
    (hR2 : K.2.1 ≤ K.1.cells ∧ K.2.2.1 ≤ K.1.slots) (hc : CT E N tw h (.ref q :: As) (some (.int r)) tw' h') (k : AW E M K tw' h' (pc + 3) loc (.int r :: st)) : AW E M K tw h pc loc st0 := aw_callV hn hk hcl ok hlk hlen hs hst hR d hR2 hc k
theorem aw_callVv {i q c NF n : Nat} {As st0 : List Value} (hlk : Cond.methodLink (mY M).cls i (mY N) ∈ gt) (ok : okV N n) (hn : q < eN E) (hk : kd q = (c + 3, NF)) (hcl : (vwCl[c]?).map (fun z => z.1) = some (mY N).cls) (hlen : As.length = n) (hs : st0 = As.reverse ++ .ref q :: st) (hst : (st.map Value.category).sum ≤ 8) (hR : roomy N K.1) (d : decode (mC M) pc = .ok (.invokevirtual i, 3))
    (hR2 : K.2.1 ≤ K.1.cells ∧ K.2.2.1 ≤ K.1.slots) (hc : CT E N tw h (.ref q :: As) none tw' h') (k : AW E M K tw' h' (pc + 3) loc st) : AW E M K tw h pc loc st0 := aw_callV hn hk hcl ok hlk hlen hs hst hR d hR2 hc k
theorem aw_callSi {i n : Nat} {As st0 : List Value} {r : Int32} (hlk : Cond.methodLink (mY M).cls i (mY N) ∈ gt) (ok : okS N n) (hlen : As.length = n) (hs : st0 = As.reverse ++ st) (hst : (st.map Value.category).sum ≤ 8) (hR : roomy N K.1) (d : decode (mC M) pc = .ok (.invokestatic i, 3))
    (hR2 : K.2.1 ≤ K.1.cells ∧ K.2.2.1 ≤ K.1.slots) (hc : CT E N tw h As (some (.int r)) tw' h') (k : AW E M K tw' h' (pc + 3) loc (.int r :: st)) : AW E M K tw h pc loc st0 := aw_callS ok hlk hlen hs hst hR d hR2 hc k
theorem aw_callSv {i n : Nat} {As st0 : List Value} (hlk : Cond.methodLink (mY M).cls i (mY N) ∈ gt) (ok : okS N n) (hlen : As.length = n) (hs : st0 = As.reverse ++ st) (hst : (st.map Value.category).sum ≤ 8) (hR : roomy N K.1) (d : decode (mC M) pc = .ok (.invokestatic i, 3))
    (hR2 : K.2.1 ≤ K.1.cells ∧ K.2.2.1 ≤ K.1.slots) (hc : CT E N tw h As none tw' h') (k : AW E M K tw' h' (pc + 3) loc st) : AW E M K tw h pc loc st0 := aw_callS ok hlk hlen hs hst hR d hR2 hc k
theorem aw_iret {x : Int32} (hr : mR M = some .int) (d : decode (mC M) pc = .ok (.ireturn, 1)) : AW E M (KM E M (some (.int x)) tw h) tw h pc loc [.int x] :=
  fun p e s m args below meth c H ls locs C hP hS hl => W.iret (v := x) C.1 C.2.1 (C.2.2.1.trans hr) (fun t ht hW => ⟨⟨rfl, by rw [ht]; exact hP, va_K.moved hW.alike C.2.2.2.2.2.2.1⟩, hS.F ht⟩) hS.2.2 d C.2.2.2.2.2.2.2.1
theorem aw_zret {x : Int32} (hr : mR M = some .boolean) (hx : x = 0 ∨ x = 1) (d : decode (mC M) pc = .ok (.ireturn, 1)) : AW E M (KM E M (some (.int x)) tw h) tw h pc loc [.int x] :=
  fun p e s m args below meth c H ls locs C hP hS hl => W.zret (v := x) C.1 C.2.1 (C.2.2.1.trans hr) (by rcases hx with rfl | rfl <;> rfl) (fun t ht hW => ⟨⟨rfl, by rw [ht]; exact hP, va_K.moved hW.alike C.2.2.2.2.2.2.1⟩, hS.F ht⟩) hS.2.2 d C.2.2.2.2.2.2.2.1
theorem aw_vret (hr : mR M = none) (d : decode (mC M) pc = .ok (.return_, 1)) : AW E M (KM E M none tw h) tw h pc loc [] :=
  fun p e s m args below meth c H ls locs C hP hS hl => W.vret C.1 C.2.1 (C.2.2.1.trans hr) (fun t ht hW => ⟨⟨rfl, by rw [ht]; exact hP, va_K.moved hW.alike C.2.2.2.2.2.2.1⟩, hS.F ht⟩) hS.2.2 d C.2.2.2.2.2.2.2.1
end AWC
end
section
theorem usX0 : ∀ w ∈ u_ws RX0 TX0 6, w ∈ gt := by decide +kernel
theorem usX1 : ∀ w ∈ u_ws RX1 TX1 4, w ∈ gt := by decide +kernel
theorem usX2 : ∀ w ∈ u_ws RX2 TX2 4, w ∈ gt := by decide +kernel
theorem usX3 : ∀ w ∈ u_ws RX3 TX3 1, w ∈ gt := by decide +kernel
theorem usX4 : ∀ w ∈ u_ws RX4 TX4 4, w ∈ gt := by decide +kernel
theorem usX5 : ∀ w ∈ u_ws RX5 TX5 9, w ∈ gt := by decide +kernel
theorem usX6 : ∀ w ∈ u_ws RX6 TX6 12, w ∈ gt := by decide +kernel
theorem usX7 : ∀ w ∈ u_ws RX7 TX7 23, w ∈ gt := by decide +kernel
def mX0_startWith : MI := (yX0_startWith, cX0_startWith, 2, none, 1)
theorem okX0_startWith : okV mX0_startWith 1 := ⟨gt_in 368 (by decide +kernel) (by decide +kernel), gt_in 369 (by decide +kernel) (by decide +kernel), gt_in 58 (by decide +kernel) (by decide +kernel), gt_in 370 (by decide +kernel) (by decide +kernel), by decide +kernel, by decide +kernel, by decide +kernel⟩
def mX0_turnOn : MI := (yX0_turnOn, cX0_turnOn, 2, some .int, 2)
theorem okX0_turnOn : okV mX0_turnOn 1 := ⟨gt_in 480 (by decide +kernel) (by decide +kernel), gt_in 481 (by decide +kernel) (by decide +kernel), gt_in 58 (by decide +kernel) (by decide +kernel), gt_in 482 (by decide +kernel) (by decide +kernel), by decide +kernel, by decide +kernel, by decide +kernel⟩
def mX0_turnOff : MI := (yX0_turnOff, cX0_turnOff, 2, some .int, 2)
theorem okX0_turnOff : okV mX0_turnOff 1 := ⟨gt_in 496 (by decide +kernel) (by decide +kernel), gt_in 497 (by decide +kernel) (by decide +kernel), gt_in 58 (by decide +kernel) (by decide +kernel), gt_in 498 (by decide +kernel) (by decide +kernel), by decide +kernel, by decide +kernel, by decide +kernel⟩
def mX0_ringRow : MI := (yX0_ringRow, cX0_ringRow, 5, some .int, 1)
theorem okX0_ringRow : okV mX0_ringRow 2 := ⟨gt_in 485 (by decide +kernel) (by decide +kernel), gt_in 13 (by decide +kernel) (by decide +kernel), gt_in 58 (by decide +kernel) (by decide +kernel), gt_in 486 (by decide +kernel) (by decide +kernel), by decide +kernel, by decide +kernel, by decide +kernel⟩
def mX0_strike : MI := (yX0_strike, cX0_strike, 5, some .boolean, 0)
theorem okX0_strike : okV mX0_strike 2 := ⟨gt_in 489 (by decide +kernel) (by decide +kernel), gt_in 14 (by decide +kernel) (by decide +kernel), gt_in 58 (by decide +kernel) (by decide +kernel), gt_in 490 (by decide +kernel) (by decide +kernel), by decide +kernel, by decide +kernel, by decide +kernel⟩
def mX0_copy : MI := (yX0_copy, cX0_copy, 2, none, 1)
theorem okX0_copy : okV mX0_copy 1 := ⟨gt_in 533 (by decide +kernel) (by decide +kernel), gt_in 534 (by decide +kernel) (by decide +kernel), gt_in 58 (by decide +kernel) (by decide +kernel), gt_in 535 (by decide +kernel) (by decide +kernel), by decide +kernel, by decide +kernel, by decide +kernel⟩
def mX0_saveTo : MI := (yX0_saveTo, cX0_saveTo, 4, none, 1)
theorem okX0_saveTo : okV mX0_saveTo 2 := ⟨gt_in 473 (by decide +kernel) (by decide +kernel), gt_in 474 (by decide +kernel) (by decide +kernel), gt_in 58 (by decide +kernel) (by decide +kernel), gt_in 475 (by decide +kernel) (by decide +kernel), by decide +kernel, by decide +kernel, by decide +kernel⟩
def mX0_loadFrom : MI := (yX0_loadFrom, cX0_loadFrom, 4, none, 1)
theorem okX0_loadFrom : okV mX0_loadFrom 2 := ⟨gt_in 525 (by decide +kernel) (by decide +kernel), gt_in 526 (by decide +kernel) (by decide +kernel), gt_in 58 (by decide +kernel) (by decide +kernel), gt_in 527 (by decide +kernel) (by decide +kernel), by decide +kernel, by decide +kernel, by decide +kernel⟩
def mX1_fewestPeople : MI := (yX1_fewestPeople, cX1_fewestPeople, 5, some .int, 13)
theorem okX1_fewestPeople : okV mX1_fewestPeople 2 := ⟨gt_in 620 (by decide +kernel) (by decide +kernel), gt_in 621 (by decide +kernel) (by decide +kernel), gt_in 62 (by decide +kernel) (by decide +kernel), gt_in 622 (by decide +kernel) (by decide +kernel), by decide +kernel, by decide +kernel, by decide +kernel⟩
def mX1_partFrom (d : Nat) : MI := (yX1_partFrom, cX1_partFrom, 4, none, d)
theorem okX1_partFrom0 : okV (mX1_partFrom 0) 2 := ⟨gt_in 626 (by decide +kernel) (by decide +kernel), gt_in 24 (by decide +kernel) (by decide +kernel), gt_in 62 (by decide +kernel) (by decide +kernel), gt_in 627 (by decide +kernel) (by decide +kernel), by decide +kernel, by decide +kernel, by decide +kernel⟩
theorem okX1_partFrom (d : Nat) : okV (mX1_partFrom d) 2 := okX1_partFrom0
def mX2_clear : MI := (yX2_clear, cX2_clear, 1, none, 0)
theorem okX2_clear : okV mX2_clear 0 := ⟨gt_in 379 (by decide +kernel) (by decide +kernel), gt_in 380 (by decide +kernel) (by decide +kernel), gt_in 59 (by decide +kernel) (by decide +kernel), gt_in 381 (by decide +kernel) (by decide +kernel), by decide +kernel, by decide +kernel, by decide +kernel⟩
def mX2_put : MI := (yX2_put, cX2_put, 2, none, 2)
theorem okX2_put : okV mX2_put 1 := ⟨gt_in 469 (by decide +kernel) (by decide +kernel), gt_in 470 (by decide +kernel) (by decide +kernel), gt_in 59 (by decide +kernel) (by decide +kernel), gt_in 471 (by decide +kernel) (by decide +kernel), by decide +kernel, by decide +kernel, by decide +kernel⟩
def mX2_takeInto : MI := (yX2_takeInto, cX2_takeInto, 2, some .boolean, 2)
theorem okX2_takeInto : okV mX2_takeInto 1 := ⟨gt_in 521 (by decide +kernel) (by decide +kernel), gt_in 522 (by decide +kernel) (by decide +kernel), gt_in 59 (by decide +kernel) (by decide +kernel), gt_in 523 (by decide +kernel) (by decide +kernel), by decide +kernel, by decide +kernel, by decide +kernel⟩
def mX3_fewestLetters : MI := (yX3_fewestLetters, cX3_fewestLetters, 5, some .int, 3)
theorem okX3_fewestLetters : okV mX3_fewestLetters 2 := ⟨gt_in 595 (by decide +kernel) (by decide +kernel), gt_in 596 (by decide +kernel) (by decide +kernel), gt_in 61 (by decide +kernel) (by decide +kernel), gt_in 597 (by decide +kernel) (by decide +kernel), by decide +kernel, by decide +kernel, by decide +kernel⟩
def mX3_fillFrom : MI := (yX3_fillFrom, cX3_fillFrom, 11, none, 2)
theorem okX3_fillFrom : okV mX3_fillFrom 4 := ⟨gt_in 600 (by decide +kernel) (by decide +kernel), gt_in 21 (by decide +kernel) (by decide +kernel), gt_in 61 (by decide +kernel) (by decide +kernel), gt_in 601 (by decide +kernel) (by decide +kernel), by decide +kernel, by decide +kernel, by decide +kernel⟩
def mX3_beginWithPart : MI := (yX3_beginWithPart, cX3_beginWithPart, 8, none, 0)
theorem okX3_beginWithPart : okV mX3_beginWithPart 5 := ⟨gt_in 613 (by decide +kernel) (by decide +kernel), gt_in 23 (by decide +kernel) (by decide +kernel), gt_in 61 (by decide +kernel) (by decide +kernel), gt_in 614 (by decide +kernel) (by decide +kernel), by decide +kernel, by decide +kernel, by decide +kernel⟩
def mX3_timesTold : MI := (yX3_timesTold, cX3_timesTold, 7, some .int, 1)
theorem okX3_timesTold : okV mX3_timesTold 4 := ⟨gt_in 608 (by decide +kernel) (by decide +kernel), gt_in 22 (by decide +kernel) (by decide +kernel), gt_in 61 (by decide +kernel) (by decide +kernel), gt_in 609 (by decide +kernel) (by decide +kernel), by decide +kernel, by decide +kernel, by decide +kernel⟩
def mX3_lettersOf : MI := (yX3_lettersOf, cX3_lettersOf, 2, some .int, 1)
theorem okX3_lettersOf : okS mX3_lettersOf 1 := ⟨gt_in 603 (by decide +kernel) (by decide +kernel), gt_in 61 (by decide +kernel) (by decide +kernel), gt_in 604 (by decide +kernel) (by decide +kernel), by decide +kernel, by decide +kernel, by decide +kernel⟩
def mX4_append : MI := (yX4_append, cX4_append, 2, some .boolean, 0)
theorem okX4_append : okV mX4_append 1 := ⟨gt_in 286 (by decide +kernel) (by decide +kernel), gt_in 287 (by decide +kernel) (by decide +kernel), gt_in 56 (by decide +kernel) (by decide +kernel), gt_in 288 (by decide +kernel) (by decide +kernel), by decide +kernel, by decide +kernel, by decide +kernel⟩
def mX4_clear : MI := (yX4_clear, cX4_clear, 1, none, 0)
theorem okX4_clear : okV mX4_clear 0 := ⟨gt_in 383 (by decide +kernel) (by decide +kernel), gt_in 384 (by decide +kernel) (by decide +kernel), gt_in 56 (by decide +kernel) (by decide +kernel), gt_in 385 (by decide +kernel) (by decide +kernel), by decide +kernel, by decide +kernel, by decide +kernel⟩
def mX4_readInto : MI := (yX4_readInto, cX4_readInto, 4, some .int, 5)
theorem okX4_readInto : okV mX4_readInto 1 := ⟨gt_in 290 (by decide +kernel) (by decide +kernel), gt_in 291 (by decide +kernel) (by decide +kernel), gt_in 56 (by decide +kernel) (by decide +kernel), gt_in 292 (by decide +kernel) (by decide +kernel), by decide +kernel, by decide +kernel, by decide +kernel⟩
def mX4_readItem : MI := (yX4_readItem, cX4_readItem, 3, some .boolean, 4)
theorem okX4_readItem : okV mX4_readItem 1 := ⟨gt_in 299 (by decide +kernel) (by decide +kernel), gt_in 0 (by decide +kernel) (by decide +kernel), gt_in 56 (by decide +kernel) (by decide +kernel), gt_in 300 (by decide +kernel) (by decide +kernel), by decide +kernel, by decide +kernel, by decide +kernel⟩
def mX4_readBell : MI := (yX4_readBell, cX4_readBell, 3, some .boolean, 3)
theorem okX4_readBell : okV mX4_readBell 1 := ⟨gt_in 307 (by decide +kernel) (by decide +kernel), gt_in 2 (by decide +kernel) (by decide +kernel), gt_in 56 (by decide +kernel) (by decide +kernel), gt_in 308 (by decide +kernel) (by decide +kernel), by decide +kernel, by decide +kernel, by decide +kernel⟩
def mX4_readTune : MI := (yX4_readTune, cX4_readTune, 5, some .boolean, 3)
theorem okX4_readTune : okV mX4_readTune 1 := ⟨gt_in 338 (by decide +kernel) (by decide +kernel), gt_in 6 (by decide +kernel) (by decide +kernel), gt_in 56 (by decide +kernel) (by decide +kernel), gt_in 339 (by decide +kernel) (by decide +kernel), by decide +kernel, by decide +kernel, by decide +kernel⟩
def mX4_readSet : MI := (yX4_readSet, cX4_readSet, 5, some .int, 2)
theorem okX4_readSet : okV mX4_readSet 1 := ⟨gt_in 350 (by decide +kernel) (by decide +kernel), gt_in 7 (by decide +kernel) (by decide +kernel), gt_in 56 (by decide +kernel) (by decide +kernel), gt_in 351 (by decide +kernel) (by decide +kernel), by decide +kernel, by decide +kernel, by decide +kernel⟩
def mX4_readBellLetter : MI := (yX4_readBellLetter, cX4_readBellLetter, 3, some .int, 1)
theorem okX4_readBellLetter : okV mX4_readBellLetter 1 := ⟨gt_in 354 (by decide +kernel) (by decide +kernel), gt_in 8 (by decide +kernel) (by decide +kernel), gt_in 56 (by decide +kernel) (by decide +kernel), gt_in 355 (by decide +kernel) (by decide +kernel), by decide +kernel, by decide +kernel, by decide +kernel⟩
def mX4_readNumber : MI := (yX4_readNumber, cX4_readNumber, 3, some .int, 2)
theorem okX4_readNumber : okV mX4_readNumber 0 := ⟨gt_in 311 (by decide +kernel) (by decide +kernel), gt_in 3 (by decide +kernel) (by decide +kernel), gt_in 56 (by decide +kernel) (by decide +kernel), gt_in 312 (by decide +kernel) (by decide +kernel), by decide +kernel, by decide +kernel, by decide +kernel⟩
def mX4_readFigure : MI := (yX4_readFigure, cX4_readFigure, 2, some .int, 1)
theorem okX4_readFigure : okV mX4_readFigure 0 := ⟨gt_in 315 (by decide +kernel) (by decide +kernel), gt_in 4 (by decide +kernel) (by decide +kernel), gt_in 56 (by decide +kernel) (by decide +kernel), gt_in 316 (by decide +kernel) (by decide +kernel), by decide +kernel, by decide +kernel, by decide +kernel⟩
def mX4_accept : MI := (yX4_accept, cX4_accept, 2, some .boolean, 1)
theorem okX4_accept : okV mX4_accept 1 := ⟨gt_in 319 (by decide +kernel) (by decide +kernel), gt_in 5 (by decide +kernel) (by decide +kernel), gt_in 56 (by decide +kernel) (by decide +kernel), gt_in 320 (by decide +kernel) (by decide +kernel), by decide +kernel, by decide +kernel, by decide +kernel⟩
def mX4_peek : MI := (yX4_peek, cX4_peek, 1, some .int, 0)
theorem okX4_peek : okV mX4_peek 0 := ⟨gt_in 303 (by decide +kernel) (by decide +kernel), gt_in 1 (by decide +kernel) (by decide +kernel), gt_in 56 (by decide +kernel) (by decide +kernel), gt_in 304 (by decide +kernel) (by decide +kernel), by decide +kernel, by decide +kernel, by decide +kernel⟩
def mX5_clear : MI := (yX5_clear, cX5_clear, 1, none, 0)
theorem okX5_clear : okV mX5_clear 0 := ⟨gt_in 294 (by decide +kernel) (by decide +kernel), gt_in 295 (by decide +kernel) (by decide +kernel), gt_in 57 (by decide +kernel) (by decide +kernel), gt_in 296 (by decide +kernel) (by decide +kernel), by decide +kernel, by decide +kernel, by decide +kernel⟩
def mX5_addBell : MI := (yX5_addBell, cX5_addBell, 4, some .boolean, 1)
theorem okX5_addBell : okV mX5_addBell 2 := ⟨gt_in 322 (by decide +kernel) (by decide +kernel), gt_in 323 (by decide +kernel) (by decide +kernel), gt_in 57 (by decide +kernel) (by decide +kernel), gt_in 324 (by decide +kernel) (by decide +kernel), by decide +kernel, by decide +kernel, by decide +kernel⟩
def mX5_tellRows : MI := (yX5_tellRows, cX5_tellRows, 2, some .boolean, 0)
theorem okX5_tellRows : okV mX5_tellRows 1 := ⟨gt_in 329 (by decide +kernel) (by decide +kernel), gt_in 330 (by decide +kernel) (by decide +kernel), gt_in 57 (by decide +kernel) (by decide +kernel), gt_in 331 (by decide +kernel) (by decide +kernel), by decide +kernel, by decide +kernel, by decide +kernel⟩
def mX5_tellRest : MI := (yX5_tellRest, cX5_tellRest, 2, some .boolean, 0)
theorem okX5_tellRest : okV mX5_tellRest 1 := ⟨gt_in 333 (by decide +kernel) (by decide +kernel), gt_in 334 (by decide +kernel) (by decide +kernel), gt_in 57 (by decide +kernel) (by decide +kernel), gt_in 335 (by decide +kernel) (by decide +kernel), by decide +kernel, by decide +kernel, by decide +kernel⟩
def mX5_addRow : MI := (yX5_addRow, cX5_addRow, 2, some .boolean, 0)
theorem okX5_addRow : okV mX5_addRow 1 := ⟨gt_in 345 (by decide +kernel) (by decide +kernel), gt_in 346 (by decide +kernel) (by decide +kernel), gt_in 57 (by decide +kernel) (by decide +kernel), gt_in 347 (by decide +kernel) (by decide +kernel), by decide +kernel, by decide +kernel, by decide +kernel⟩
def mX5_tellAgain : MI := (yX5_tellAgain, cX5_tellAgain, 5, some .boolean, 1)
theorem okX5_tellAgain : okV mX5_tellAgain 2 := ⟨gt_in 341 (by decide +kernel) (by decide +kernel), gt_in 342 (by decide +kernel) (by decide +kernel), gt_in 57 (by decide +kernel) (by decide +kernel), gt_in 343 (by decide +kernel) (by decide +kernel), by decide +kernel, by decide +kernel, by decide +kernel⟩
def mX5_canBeLaid : MI := (yX5_canBeLaid, cX5_canBeLaid, 1, some .boolean, 0)
theorem okX5_canBeLaid : okV mX5_canBeLaid 0 := ⟨gt_in 441 (by decide +kernel) (by decide +kernel), gt_in 442 (by decide +kernel) (by decide +kernel), gt_in 57 (by decide +kernel) (by decide +kernel), gt_in 443 (by decide +kernel) (by decide +kernel), by decide +kernel, by decide +kernel, by decide +kernel⟩
def mX5_everyBell : MI := (yX5_everyBell, cX5_everyBell, 1, some .int, 0)
theorem okX5_everyBell : okV mX5_everyBell 0 := ⟨gt_in 579 (by decide +kernel) (by decide +kernel), gt_in 580 (by decide +kernel) (by decide +kernel), gt_in 57 (by decide +kernel) (by decide +kernel), gt_in 581 (by decide +kernel) (by decide +kernel), by decide +kernel, by decide +kernel, by decide +kernel⟩
def mX5_rowBehind : MI := (yX5_rowBehind, cX5_rowBehind, 3, some .int, 1)
theorem okX5_rowBehind : okV mX5_rowBehind 2 := ⟨gt_in 509 (by decide +kernel) (by decide +kernel), gt_in 510 (by decide +kernel) (by decide +kernel), gt_in 57 (by decide +kernel) (by decide +kernel), gt_in 511 (by decide +kernel) (by decide +kernel), by decide +kernel, by decide +kernel, by decide +kernel⟩
def mX5_highestTone : MI := (yX5_highestTone, cX5_highestTone, 4, some .int, 1)
theorem okX5_highestTone : okV mX5_highestTone 1 := ⟨gt_in 654 (by decide +kernel) (by decide +kernel), gt_in 655 (by decide +kernel) (by decide +kernel), gt_in 57 (by decide +kernel) (by decide +kernel), gt_in 656 (by decide +kernel) (by decide +kernel), by decide +kernel, by decide +kernel, by decide +kernel⟩
def mX6_write : MI := (yX6_write, cX6_write, 2, some .int, 1)
theorem okX6_write : okV mX6_write 1 := ⟨gt_in 425 (by decide +kernel) (by decide +kernel), gt_in 426 (by decide +kernel) (by decide +kernel), gt_in 55 (by decide +kernel) (by decide +kernel), gt_in 427 (by decide +kernel) (by decide +kernel), by decide +kernel, by decide +kernel, by decide +kernel⟩
def mX6_wipe : MI := (yX6_wipe, cX6_wipe, 2, some .int, 1)
theorem okX6_wipe : okV mX6_wipe 0 := ⟨gt_in 429 (by decide +kernel) (by decide +kernel), gt_in 430 (by decide +kernel) (by decide +kernel), gt_in 55 (by decide +kernel) (by decide +kernel), gt_in 431 (by decide +kernel) (by decide +kernel), by decide +kernel, by decide +kernel, by decide +kernel⟩
def mX6_fault : MI := (yX6_fault, cX6_fault, 1, some .int, 6)
theorem okX6_fault : okV mX6_fault 0 := ⟨gt_in 433 (by decide +kernel) (by decide +kernel), gt_in 434 (by decide +kernel) (by decide +kernel), gt_in 55 (by decide +kernel) (by decide +kernel), gt_in 435 (by decide +kernel) (by decide +kernel), by decide +kernel, by decide +kernel, by decide +kernel⟩
def mX6_lay : MI := (yX6_lay, cX6_lay, 1, some .int, 6)
theorem okX6_lay : okV mX6_lay 0 := ⟨gt_in 437 (by decide +kernel) (by decide +kernel), gt_in 438 (by decide +kernel) (by decide +kernel), gt_in 55 (by decide +kernel) (by decide +kernel), gt_in 439 (by decide +kernel) (by decide +kernel), by decide +kernel, by decide +kernel, by decide +kernel⟩
def mX6_bell : MI := (yX6_bell, cX6_bell, 3, some .int, 1)
theorem okX6_bell : okV mX6_bell 2 := ⟨gt_in 445 (by decide +kernel) (by decide +kernel), gt_in 446 (by decide +kernel) (by decide +kernel), gt_in 55 (by decide +kernel) (by decide +kernel), gt_in 447 (by decide +kernel) (by decide +kernel), by decide +kernel, by decide +kernel, by decide +kernel⟩
def mX6_pins : MI := (yX6_pins, cX6_pins, 2, some .int, 1)
theorem okX6_pins : okV mX6_pins 1 := ⟨gt_in 457 (by decide +kernel) (by decide +kernel), gt_in 458 (by decide +kernel) (by decide +kernel), gt_in 55 (by decide +kernel) (by decide +kernel), gt_in 459 (by decide +kernel) (by decide +kernel), by decide +kernel, by decide +kernel, by decide +kernel⟩
def mX6_layTold : MI := (yX6_layTold, cX6_layTold, 2, none, 2)
theorem okX6_layTold : okV mX6_layTold 0 := ⟨gt_in 365 (by decide +kernel) (by decide +kernel), gt_in 9 (by decide +kernel) (by decide +kernel), gt_in 55 (by decide +kernel) (by decide +kernel), gt_in 366 (by decide +kernel) (by decide +kernel), by decide +kernel, by decide +kernel, by decide +kernel⟩
def mX6_isBell : MI := (yX6_isBell, cX6_isBell, 2, some .boolean, 0)
theorem okX6_isBell : okV mX6_isBell 1 := ⟨gt_in 450 (by decide +kernel) (by decide +kernel), gt_in 10 (by decide +kernel) (by decide +kernel), gt_in 55 (by decide +kernel) (by decide +kernel), gt_in 451 (by decide +kernel) (by decide +kernel), by decide +kernel, by decide +kernel, by decide +kernel⟩
def mX6_isRow : MI := (yX6_isRow, cX6_isRow, 2, some .boolean, 0)
theorem okX6_isRow : okV mX6_isRow 1 := ⟨gt_in 462 (by decide +kernel) (by decide +kernel), gt_in 12 (by decide +kernel) (by decide +kernel), gt_in 55 (by decide +kernel) (by decide +kernel), gt_in 463 (by decide +kernel) (by decide +kernel), by decide +kernel, by decide +kernel, by decide +kernel⟩
def mX6_isSet : MI := (yX6_isSet, cX6_isSet, 2, some .boolean, 1)
theorem okX6_isSet : okV mX6_isSet 1 := ⟨gt_in 576 (by decide +kernel) (by decide +kernel), gt_in 19 (by decide +kernel) (by decide +kernel), gt_in 55 (by decide +kernel) (by decide +kernel), gt_in 577 (by decide +kernel) (by decide +kernel), by decide +kernel, by decide +kernel, by decide +kernel⟩
def mX6_pinsOfBell : MI := (yX6_pinsOfBell, cX6_pinsOfBell, 4, some .int, 0)
theorem okX6_pinsOfBell : okV mX6_pinsOfBell 1 := ⟨gt_in 454 (by decide +kernel) (by decide +kernel), gt_in 11 (by decide +kernel) (by decide +kernel), gt_in 55 (by decide +kernel) (by decide +kernel), gt_in 455 (by decide +kernel) (by decide +kernel), by decide +kernel, by decide +kernel, by decide +kernel⟩
def mX6_turn : MI := (yX6_turn, cX6_turn, 1, some .int, 3)
theorem okX6_turn : okV mX6_turn 0 := ⟨gt_in 465 (by decide +kernel) (by decide +kernel), gt_in 466 (by decide +kernel) (by decide +kernel), gt_in 55 (by decide +kernel) (by decide +kernel), gt_in 467 (by decide +kernel) (by decide +kernel), by decide +kernel, by decide +kernel, by decide +kernel⟩
def mX6_turnBack : MI := (yX6_turnBack, cX6_turnBack, 1, some .int, 3)
theorem okX6_turnBack : okV mX6_turnBack 0 := ⟨gt_in 492 (by decide +kernel) (by decide +kernel), gt_in 493 (by decide +kernel) (by decide +kernel), gt_in 55 (by decide +kernel) (by decide +kernel), gt_in 494 (by decide +kernel) (by decide +kernel), by decide +kernel, by decide +kernel, by decide +kernel⟩
def mX6_pin : MI := (yX6_pin, cX6_pin, 5, some .int, 3)
theorem okX6_pin : okV mX6_pin 3 := ⟨gt_in 500 (by decide +kernel) (by decide +kernel), gt_in 501 (by decide +kernel) (by decide +kernel), gt_in 55 (by decide +kernel) (by decide +kernel), gt_in 502 (by decide +kernel) (by decide +kernel), by decide +kernel, by decide +kernel, by decide +kernel⟩
def mX6_shift : MI := (yX6_shift, cX6_shift, 3, some .int, 3)
theorem okX6_shift : okV mX6_shift 1 := ⟨gt_in 505 (by decide +kernel) (by decide +kernel), gt_in 506 (by decide +kernel) (by decide +kernel), gt_in 55 (by decide +kernel) (by decide +kernel), gt_in 507 (by decide +kernel) (by decide +kernel), by decide +kernel, by decide +kernel, by decide +kernel⟩
def mX6_undo : MI := (yX6_undo, cX6_undo, 1, some .int, 3)
theorem okX6_undo : okV mX6_undo 0 := ⟨gt_in 517 (by decide +kernel) (by decide +kernel), gt_in 518 (by decide +kernel) (by decide +kernel), gt_in 55 (by decide +kernel) (by decide +kernel), gt_in 519 (by decide +kernel) (by decide +kernel), by decide +kernel, by decide +kernel, by decide +kernel⟩
def mX6_whole : MI := (yX6_whole, cX6_whole, 3, some .int, 4)
theorem okX6_whole : okV mX6_whole 1 := ⟨gt_in 529 (by decide +kernel) (by decide +kernel), gt_in 530 (by decide +kernel) (by decide +kernel), gt_in 55 (by decide +kernel) (by decide +kernel), gt_in 531 (by decide +kernel) (by decide +kernel), by decide +kernel, by decide +kernel, by decide +kernel⟩
def mX6_silence : MI := (yX6_silence, cX6_silence, 4, some .int, 2)
theorem okX6_silence : okV mX6_silence 0 := ⟨gt_in 545 (by decide +kernel) (by decide +kernel), gt_in 546 (by decide +kernel) (by decide +kernel), gt_in 55 (by decide +kernel) (by decide +kernel), gt_in 547 (by decide +kernel) (by decide +kernel), by decide +kernel, by decide +kernel, by decide +kernel⟩
def mX6_again : MI := (yX6_again, cX6_again, 2, some .int, 3)
theorem okX6_again : okV mX6_again 0 := ⟨gt_in 551 (by decide +kernel) (by decide +kernel), gt_in 552 (by decide +kernel) (by decide +kernel), gt_in 55 (by decide +kernel) (by decide +kernel), gt_in 553 (by decide +kernel) (by decide +kernel), by decide +kernel, by decide +kernel, by decide +kernel⟩
def mX6_harsh : MI := (yX6_harsh, cX6_harsh, 1, some .int, 3)
theorem okX6_harsh : okV mX6_harsh 0 := ⟨gt_in 559 (by decide +kernel) (by decide +kernel), gt_in 560 (by decide +kernel) (by decide +kernel), gt_in 55 (by decide +kernel) (by decide +kernel), gt_in 561 (by decide +kernel) (by decide +kernel), by decide +kernel, by decide +kernel, by decide +kernel⟩
def mX6_canon : MI := (yX6_canon, cX6_canon, 6, some .int, 3)
theorem okX6_canon : okV mX6_canon 1 := ⟨gt_in 567 (by decide +kernel) (by decide +kernel), gt_in 568 (by decide +kernel) (by decide +kernel), gt_in 55 (by decide +kernel) (by decide +kernel), gt_in 569 (by decide +kernel) (by decide +kernel), by decide +kernel, by decide +kernel, by decide +kernel⟩
def mX6_ringsInATurn : MI := (yX6_ringsInATurn, cX6_ringsInATurn, 4, some .int, 3)
theorem okX6_ringsInATurn : okV mX6_ringsInATurn 1 := ⟨gt_in 538 (by decide +kernel) (by decide +kernel), gt_in 15 (by decide +kernel) (by decide +kernel), gt_in 55 (by decide +kernel) (by decide +kernel), gt_in 539 (by decide +kernel) (by decide +kernel), by decide +kernel, by decide +kernel, by decide +kernel⟩
def mX6_allPins : MI := (yX6_allPins, cX6_allPins, 3, some .int, 1)
theorem okX6_allPins : okV mX6_allPins 0 := ⟨gt_in 542 (by decide +kernel) (by decide +kernel), gt_in 16 (by decide +kernel) (by decide +kernel), gt_in 55 (by decide +kernel) (by decide +kernel), gt_in 543 (by decide +kernel) (by decide +kernel), by decide +kernel, by decide +kernel, by decide +kernel⟩
def mX6_comesAgainAfter : MI := (yX6_comesAgainAfter, cX6_comesAgainAfter, 3, some .boolean, 2)
theorem okX6_comesAgainAfter : okV mX6_comesAgainAfter 1 := ⟨gt_in 556 (by decide +kernel) (by decide +kernel), gt_in 17 (by decide +kernel) (by decide +kernel), gt_in 55 (by decide +kernel) (by decide +kernel), gt_in 557 (by decide +kernel) (by decide +kernel), by decide +kernel, by decide +kernel, by decide +kernel⟩
def mX6_illTwos : MI := (yX6_illTwos, cX6_illTwos, 6, some .int, 2)
theorem okX6_illTwos : okV mX6_illTwos 1 := ⟨gt_in 564 (by decide +kernel) (by decide +kernel), gt_in 18 (by decide +kernel) (by decide +kernel), gt_in 55 (by decide +kernel) (by decide +kernel), gt_in 565 (by decide +kernel) (by decide +kernel), by decide +kernel, by decide +kernel, by decide +kernel⟩
def mX6_want : MI := (yX6_want, cX6_want, 4, some .int, 2)
theorem okX6_want : okV mX6_want 2 := ⟨gt_in 571 (by decide +kernel) (by decide +kernel), gt_in 572 (by decide +kernel) (by decide +kernel), gt_in 55 (by decide +kernel) (by decide +kernel), gt_in 573 (by decide +kernel) (by decide +kernel), by decide +kernel, by decide +kernel, by decide +kernel⟩
def mX6_changes : MI := (yX6_changes, cX6_changes, 6, some .int, 3)
theorem okX6_changes : okV mX6_changes 1 := ⟨gt_in 583 (by decide +kernel) (by decide +kernel), gt_in 584 (by decide +kernel) (by decide +kernel), gt_in 55 (by decide +kernel) (by decide +kernel), gt_in 585 (by decide +kernel) (by decide +kernel), by decide +kernel, by decide +kernel, by decide +kernel⟩
def mX6_letters : MI := (yX6_letters, cX6_letters, 1, some .int, 4)
theorem okX6_letters : okV mX6_letters 0 := ⟨gt_in 591 (by decide +kernel) (by decide +kernel), gt_in 592 (by decide +kernel) (by decide +kernel), gt_in 55 (by decide +kernel) (by decide +kernel), gt_in 593 (by decide +kernel) (by decide +kernel), by decide +kernel, by decide +kernel, by decide +kernel⟩
def mX6_ringers : MI := (yX6_ringers, cX6_ringers, 1, some .int, 14)
theorem okX6_ringers : okV mX6_ringers 0 := ⟨gt_in 616 (by decide +kernel) (by decide +kernel), gt_in 617 (by decide +kernel) (by decide +kernel), gt_in 55 (by decide +kernel) (by decide +kernel), gt_in 618 (by decide +kernel) (by decide +kernel), by decide +kernel, by decide +kernel, by decide +kernel⟩
def mX6_changesIfShifted : MI := (yX6_changesIfShifted, cX6_changesIfShifted, 4, some .int, 2)
theorem okX6_changesIfShifted : okV mX6_changesIfShifted 1 := ⟨gt_in 588 (by decide +kernel) (by decide +kernel), gt_in 20 (by decide +kernel) (by decide +kernel), gt_in 55 (by decide +kernel) (by decide +kernel), gt_in 589 (by decide +kernel) (by decide +kernel), by decide +kernel, by decide +kernel, by decide +kernel⟩
def mX6_hear : MI := (yX6_hear, cX6_hear, 2, some .int, 2)
theorem okX6_hear : okV mX6_hear 1 := ⟨gt_in 630 (by decide +kernel) (by decide +kernel), gt_in 631 (by decide +kernel) (by decide +kernel), gt_in 55 (by decide +kernel) (by decide +kernel), gt_in 632 (by decide +kernel) (by decide +kernel), by decide +kernel, by decide +kernel, by decide +kernel⟩
def mX6_forget : MI := (yX6_forget, cX6_forget, 2, some .int, 0)
theorem okX6_forget : okV mX6_forget 0 := ⟨gt_in 634 (by decide +kernel) (by decide +kernel), gt_in 635 (by decide +kernel) (by decide +kernel), gt_in 55 (by decide +kernel) (by decide +kernel), gt_in 636 (by decide +kernel) (by decide +kernel), by decide +kernel, by decide +kernel, by decide +kernel⟩
def mX6_stood : MI := (yX6_stood, cX6_stood, 3, some .int, 3)
theorem okX6_stood : okV mX6_stood 0 := ⟨gt_in 638 (by decide +kernel) (by decide +kernel), gt_in 639 (by decide +kernel) (by decide +kernel), gt_in 55 (by decide +kernel) (by decide +kernel), gt_in 640 (by decide +kernel) (by decide +kernel), by decide +kernel, by decide +kernel, by decide +kernel⟩
def mX6_octaves : MI := (yX6_octaves, cX6_octaves, 5, some .int, 1)
theorem okX6_octaves : okV mX6_octaves 0 := ⟨gt_in 646 (by decide +kernel) (by decide +kernel), gt_in 647 (by decide +kernel) (by decide +kernel), gt_in 55 (by decide +kernel) (by decide +kernel), gt_in 648 (by decide +kernel) (by decide +kernel), by decide +kernel, by decide +kernel, by decide +kernel⟩
def mX6_melody : MI := (yX6_melody, cX6_melody, 8, some .int, 2)
theorem okX6_melody : okV mX6_melody 1 := ⟨gt_in 650 (by decide +kernel) (by decide +kernel), gt_in 651 (by decide +kernel) (by decide +kernel), gt_in 55 (by decide +kernel) (by decide +kernel), gt_in 652 (by decide +kernel) (by decide +kernel), by decide +kernel, by decide +kernel, by decide +kernel⟩
def mX6_winter : MI := (yX6_winter, cX6_winter, 7, some .int, 2)
theorem okX6_winter : okV mX6_winter 3 := ⟨gt_in 660 (by decide +kernel) (by decide +kernel), gt_in 661 (by decide +kernel) (by decide +kernel), gt_in 55 (by decide +kernel) (by decide +kernel), gt_in 662 (by decide +kernel) (by decide +kernel), by decide +kernel, by decide +kernel, by decide +kernel⟩
def mX6_keep : MI := (yX6_keep, cX6_keep, 1, some .int, 3)
theorem okX6_keep : okV mX6_keep 0 := ⟨gt_in 671 (by decide +kernel) (by decide +kernel), gt_in 672 (by decide +kernel) (by decide +kernel), gt_in 55 (by decide +kernel) (by decide +kernel), gt_in 673 (by decide +kernel) (by decide +kernel), by decide +kernel, by decide +kernel, by decide +kernel⟩
def mX6_back : MI := (yX6_back, cX6_back, 1, some .int, 3)
theorem okX6_back : okV mX6_back 0 := ⟨gt_in 675 (by decide +kernel) (by decide +kernel), gt_in 676 (by decide +kernel) (by decide +kernel), gt_in 55 (by decide +kernel) (by decide +kernel), gt_in 677 (by decide +kernel) (by decide +kernel), by decide +kernel, by decide +kernel, by decide +kernel⟩
def mX6_count : MI := (yX6_count, cX6_count, 2, some .int, 2)
theorem okX6_count : okV mX6_count 1 := ⟨gt_in 679 (by decide +kernel) (by decide +kernel), gt_in 680 (by decide +kernel) (by decide +kernel), gt_in 55 (by decide +kernel) (by decide +kernel), gt_in 681 (by decide +kernel) (by decide +kernel), by decide +kernel, by decide +kernel, by decide +kernel⟩
def mX6_isHeardFrom : MI := (yX6_isHeardFrom, cX6_isHeardFrom, 3, some .boolean, 2)
theorem okX6_isHeardFrom : okV mX6_isHeardFrom 1 := ⟨gt_in 643 (by decide +kernel) (by decide +kernel), gt_in 25 (by decide +kernel) (by decide +kernel), gt_in 55 (by decide +kernel) (by decide +kernel), gt_in 644 (by decide +kernel) (by decide +kernel), by decide +kernel, by decide +kernel, by decide +kernel⟩
def mX6_draw : MI := (yX6_draw, cX6_draw, 4, some .int, 0)
theorem okX6_draw : okS mX6_draw 2 := ⟨gt_in 664 (by decide +kernel) (by decide +kernel), gt_in 55 (by decide +kernel) (by decide +kernel), gt_in 665 (by decide +kernel) (by decide +kernel), by decide +kernel, by decide +kernel, by decide +kernel⟩
def mX7_in : MI := (yX7_in, cX7_in, 6, some .boolean, 0)
theorem okX7_in : okS mX7_in 3 := ⟨gt_in 782 (by decide +kernel) (by decide +kernel), gt_in 70 (by decide +kernel) (by decide +kernel), gt_in 783 (by decide +kernel) (by decide +kernel), by decide +kernel, by decide +kernel, by decide +kernel⟩
def mX7_isTwo : MI := (yX7_isTwo, cX7_isTwo, 1, some .boolean, 1)
theorem okX7_isTwo : okS mX7_isTwo 1 := ⟨gt_in 940 (by decide +kernel) (by decide +kernel), gt_in 70 (by decide +kernel) (by decide +kernel), gt_in 941 (by decide +kernel) (by decide +kernel), by decide +kernel, by decide +kernel, by decide +kernel⟩
def mX7_has : MI := (yX7_has, cX7_has, 2, some .boolean, 0)
theorem okX7_has : okS mX7_has 2 := ⟨gt_in 850 (by decide +kernel) (by decide +kernel), gt_in 70 (by decide +kernel) (by decide +kernel), gt_in 851 (by decide +kernel) (by decide +kernel), by decide +kernel, by decide +kernel, by decide +kernel⟩
def mX7_bits : MI := (yX7_bits, cX7_bits, 3, some .int, 0)
theorem okX7_bits : okS mX7_bits 1 := ⟨gt_in 829 (by decide +kernel) (by decide +kernel), gt_in 70 (by decide +kernel) (by decide +kernel), gt_in 830 (by decide +kernel) (by decide +kernel), by decide +kernel, by decide +kernel, by decide +kernel⟩
def mX7_write : MI := (yX7_write, cX7_write, 2, some .int, 1)
theorem okX7_write : okV mX7_write 1 := ⟨gt_in 776 (by decide +kernel) (by decide +kernel), gt_in 777 (by decide +kernel) (by decide +kernel), gt_in 70 (by decide +kernel) (by decide +kernel), gt_in 778 (by decide +kernel) (by decide +kernel), by decide +kernel, by decide +kernel, by decide +kernel⟩
def mX7_wipe : MI := (yX7_wipe, cX7_wipe, 2, some .int, 0)
theorem okX7_wipe : okV mX7_wipe 0 := ⟨gt_in 785 (by decide +kernel) (by decide +kernel), gt_in 786 (by decide +kernel) (by decide +kernel), gt_in 70 (by decide +kernel) (by decide +kernel), gt_in 787 (by decide +kernel) (by decide +kernel), by decide +kernel, by decide +kernel, by decide +kernel⟩
def mX7_clean : MI := (yX7_clean, cX7_clean, 2, none, 0)
theorem okX7_clean : okV mX7_clean 0 := ⟨gt_in 690 (by decide +kernel) (by decide +kernel), gt_in 26 (by decide +kernel) (by decide +kernel), gt_in 70 (by decide +kernel) (by decide +kernel), gt_in 691 (by decide +kernel) (by decide +kernel), by decide +kernel, by decide +kernel, by decide +kernel⟩
def mX7_comes : MI := (yX7_comes, cX7_comes, 4, none, 0)
theorem okX7_comes : okV mX7_comes 2 := ⟨gt_in 694 (by decide +kernel) (by decide +kernel), gt_in 27 (by decide +kernel) (by decide +kernel), gt_in 70 (by decide +kernel) (by decide +kernel), gt_in 695 (by decide +kernel) (by decide +kernel), by decide +kernel, by decide +kernel, by decide +kernel⟩
def mX7_put : MI := (yX7_put, cX7_put, 2, some .boolean, 0)
theorem okX7_put : okV mX7_put 1 := ⟨gt_in 698 (by decide +kernel) (by decide +kernel), gt_in 28 (by decide +kernel) (by decide +kernel), gt_in 70 (by decide +kernel) (by decide +kernel), gt_in 699 (by decide +kernel) (by decide +kernel), by decide +kernel, by decide +kernel, by decide +kernel⟩
def mX7_here : MI := (yX7_here, cX7_here, 1, some .int, 0)
theorem okX7_here : okV mX7_here 0 := ⟨gt_in 798 (by decide +kernel) (by decide +kernel), gt_in 31 (by decide +kernel) (by decide +kernel), gt_in 70 (by decide +kernel) (by decide +kernel), gt_in 799 (by decide +kernel) (by decide +kernel), by decide +kernel, by decide +kernel, by decide +kernel⟩
def mX7_takes : MI := (yX7_takes, cX7_takes, 5, some .boolean, 1)
theorem okX7_takes : okV mX7_takes 1 := ⟨gt_in 806 (by decide +kernel) (by decide +kernel), gt_in 33 (by decide +kernel) (by decide +kernel), gt_in 70 (by decide +kernel) (by decide +kernel), gt_in 807 (by decide +kernel) (by decide +kernel), by decide +kernel, by decide +kernel, by decide +kernel⟩
def mX7_takesBell : MI := (yX7_takesBell, cX7_takesBell, 1, some .boolean, 2)
theorem okX7_takesBell : okV mX7_takesBell 0 := ⟨gt_in 802 (by decide +kernel) (by decide +kernel), gt_in 32 (by decide +kernel) (by decide +kernel), gt_in 70 (by decide +kernel) (by decide +kernel), gt_in 803 (by decide +kernel) (by decide +kernel), by decide +kernel, by decide +kernel, by decide +kernel⟩
def mX7_takesOne : MI := (yX7_takesOne, cX7_takesOne, 4, some .boolean, 2)
theorem okX7_takesOne : okV mX7_takesOne 3 := ⟨gt_in 813 (by decide +kernel) (by decide +kernel), gt_in 34 (by decide +kernel) (by decide +kernel), gt_in 70 (by decide +kernel) (by decide +kernel), gt_in 814 (by decide +kernel) (by decide +kernel), by decide +kernel, by decide +kernel, by decide +kernel⟩
def mX7_isBellHere : MI := (yX7_isBellHere, cX7_isBellHere, 1, some .boolean, 1)
theorem okX7_isBellHere : okV mX7_isBellHere 0 := ⟨gt_in 821 (by decide +kernel) (by decide +kernel), gt_in 36 (by decide +kernel) (by decide +kernel), gt_in 70 (by decide +kernel) (by decide +kernel), gt_in 822 (by decide +kernel) (by decide +kernel), by decide +kernel, by decide +kernel, by decide +kernel⟩
def mX7_chord : MI := (yX7_chord, cX7_chord, 4, some .int, 2)
theorem okX7_chord : okV mX7_chord 0 := ⟨gt_in 826 (by decide +kernel) (by decide +kernel), gt_in 37 (by decide +kernel) (by decide +kernel), gt_in 70 (by decide +kernel) (by decide +kernel), gt_in 827 (by decide +kernel) (by decide +kernel), by decide +kernel, by decide +kernel, by decide +kernel⟩
def mX7_tellsAgain : MI := (yX7_tellsAgain, cX7_tellsAgain, 6, some .boolean, 1)
theorem okX7_tellsAgain : okV mX7_tellsAgain 2 := ⟨gt_in 834 (by decide +kernel) (by decide +kernel), gt_in 38 (by decide +kernel) (by decide +kernel), gt_in 70 (by decide +kernel) (by decide +kernel), gt_in 835 (by decide +kernel) (by decide +kernel), by decide +kernel, by decide +kernel, by decide +kernel⟩
def mX7_takesTune : MI := (yX7_takesTune, cX7_takesTune, 5, some .boolean, 3)
theorem okX7_takesTune : okV mX7_takesTune 0 := ⟨gt_in 817 (by decide +kernel) (by decide +kernel), gt_in 35 (by decide +kernel) (by decide +kernel), gt_in 70 (by decide +kernel) (by decide +kernel), gt_in 818 (by decide +kernel) (by decide +kernel), by decide +kernel, by decide +kernel, by decide +kernel⟩
def mX7_takesItem : MI := (yX7_takesItem, cX7_takesItem, 2, some .boolean, 4)
theorem okX7_takesItem : okV mX7_takesItem 0 := ⟨gt_in 794 (by decide +kernel) (by decide +kernel), gt_in 30 (by decide +kernel) (by decide +kernel), gt_in 70 (by decide +kernel) (by decide +kernel), gt_in 795 (by decide +kernel) (by decide +kernel), by decide +kernel, by decide +kernel, by decide +kernel⟩
def mX7_fault : MI := (yX7_fault, cX7_fault, 2, some .int, 5)
theorem okX7_fault : okV mX7_fault 0 := ⟨gt_in 789 (by decide +kernel) (by decide +kernel), gt_in 790 (by decide +kernel) (by decide +kernel), gt_in 70 (by decide +kernel) (by decide +kernel), gt_in 791 (by decide +kernel) (by decide +kernel), by decide +kernel, by decide +kernel, by decide +kernel⟩
def mX7_begins : MI := (yX7_begins, cX7_begins, 2, none, 0)
theorem okX7_begins : okV mX7_begins 0 := ⟨gt_in 702 (by decide +kernel) (by decide +kernel), gt_in 29 (by decide +kernel) (by decide +kernel), gt_in 70 (by decide +kernel) (by decide +kernel), gt_in 703 (by decide +kernel) (by decide +kernel), by decide +kernel, by decide +kernel, by decide +kernel⟩
def mX7_lay : MI := (yX7_lay, cX7_lay, 1, some .int, 6)
theorem okX7_lay : okV mX7_lay 0 := ⟨gt_in 837 (by decide +kernel) (by decide +kernel), gt_in 838 (by decide +kernel) (by decide +kernel), gt_in 70 (by decide +kernel) (by decide +kernel), gt_in 839 (by decide +kernel) (by decide +kernel), by decide +kernel, by decide +kernel, by decide +kernel⟩
def mX7_isBell : MI := (yX7_isBell, cX7_isBell, 2, some .boolean, 1)
theorem okX7_isBell : okV mX7_isBell 1 := ⟨gt_in 847 (by decide +kernel) (by decide +kernel), gt_in 39 (by decide +kernel) (by decide +kernel), gt_in 70 (by decide +kernel) (by decide +kernel), gt_in 848 (by decide +kernel) (by decide +kernel), by decide +kernel, by decide +kernel, by decide +kernel⟩
def mX7_isRow : MI := (yX7_isRow, cX7_isRow, 2, some .boolean, 1)
theorem okX7_isRow : okV mX7_isRow 1 := ⟨gt_in 858 (by decide +kernel) (by decide +kernel), gt_in 40 (by decide +kernel) (by decide +kernel), gt_in 70 (by decide +kernel) (by decide +kernel), gt_in 859 (by decide +kernel) (by decide +kernel), by decide +kernel, by decide +kernel, by decide +kernel⟩
def mX7_isSet : MI := (yX7_isSet, cX7_isSet, 2, some .boolean, 1)
theorem okX7_isSet : okV mX7_isSet 1 := ⟨gt_in 949 (by decide +kernel) (by decide +kernel), gt_in 50 (by decide +kernel) (by decide +kernel), gt_in 70 (by decide +kernel) (by decide +kernel), gt_in 950 (by decide +kernel) (by decide +kernel), by decide +kernel, by decide +kernel, by decide +kernel⟩
def mX7_rings : MI := (yX7_rings, cX7_rings, 7, some .int, 1)
theorem okX7_rings : okV mX7_rings 2 := ⟨gt_in 877 (by decide +kernel) (by decide +kernel), gt_in 43 (by decide +kernel) (by decide +kernel), gt_in 70 (by decide +kernel) (by decide +kernel), gt_in 878 (by decide +kernel) (by decide +kernel), by decide +kernel, by decide +kernel, by decide +kernel⟩
def mX7_comesNext : MI := (yX7_comesNext, cX7_comesNext, 2, some .int, 2)
theorem okX7_comesNext : okV mX7_comesNext 1 := ⟨gt_in 873 (by decide +kernel) (by decide +kernel), gt_in 42 (by decide +kernel) (by decide +kernel), gt_in 70 (by decide +kernel) (by decide +kernel), gt_in 874 (by decide +kernel) (by decide +kernel), by decide +kernel, by decide +kernel, by decide +kernel⟩
def mX7_bell : MI := (yX7_bell, cX7_bell, 5, some .int, 2)
theorem okX7_bell : okV mX7_bell 2 := ⟨gt_in 842 (by decide +kernel) (by decide +kernel), gt_in 843 (by decide +kernel) (by decide +kernel), gt_in 70 (by decide +kernel) (by decide +kernel), gt_in 844 (by decide +kernel) (by decide +kernel), by decide +kernel, by decide +kernel, by decide +kernel⟩
def mX7_pins : MI := (yX7_pins, cX7_pins, 2, some .int, 2)
theorem okX7_pins : okV mX7_pins 1 := ⟨gt_in 853 (by decide +kernel) (by decide +kernel), gt_in 854 (by decide +kernel) (by decide +kernel), gt_in 70 (by decide +kernel) (by decide +kernel), gt_in 855 (by decide +kernel) (by decide +kernel), by decide +kernel, by decide +kernel, by decide +kernel⟩
def mX7_copies : MI := (yX7_copies, cX7_copies, 5, none, 0)
theorem okX7_copies : okS mX7_copies 4 := ⟨gt_in 869 (by decide +kernel) (by decide +kernel), gt_in 70 (by decide +kernel) (by decide +kernel), gt_in 870 (by decide +kernel) (by decide +kernel), by decide +kernel, by decide +kernel, by decide +kernel⟩
def mX7_remember : MI := (yX7_remember, cX7_remember, 2, none, 1)
theorem okX7_remember : okV mX7_remember 0 := ⟨gt_in 866 (by decide +kernel) (by decide +kernel), gt_in 41 (by decide +kernel) (by decide +kernel), gt_in 70 (by decide +kernel) (by decide +kernel), gt_in 867 (by decide +kernel) (by decide +kernel), by decide +kernel, by decide +kernel, by decide +kernel⟩
def mX7_turn : MI := (yX7_turn, cX7_turn, 1, some .int, 3)
theorem okX7_turn : okV mX7_turn 0 := ⟨gt_in 861 (by decide +kernel) (by decide +kernel), gt_in 862 (by decide +kernel) (by decide +kernel), gt_in 70 (by decide +kernel) (by decide +kernel), gt_in 863 (by decide +kernel) (by decide +kernel), by decide +kernel, by decide +kernel, by decide +kernel⟩
def mX7_turnBack : MI := (yX7_turnBack, cX7_turnBack, 1, some .int, 2)
theorem okX7_turnBack : okV mX7_turnBack 0 := ⟨gt_in 880 (by decide +kernel) (by decide +kernel), gt_in 881 (by decide +kernel) (by decide +kernel), gt_in 70 (by decide +kernel) (by decide +kernel), gt_in 882 (by decide +kernel) (by decide +kernel), by decide +kernel, by decide +kernel, by decide +kernel⟩
def mX7_pin : MI := (yX7_pin, cX7_pin, 4, some .int, 2)
theorem okX7_pin : okV mX7_pin 3 := ⟨gt_in 884 (by decide +kernel) (by decide +kernel), gt_in 885 (by decide +kernel) (by decide +kernel), gt_in 70 (by decide +kernel) (by decide +kernel), gt_in 886 (by decide +kernel) (by decide +kernel), by decide +kernel, by decide +kernel, by decide +kernel⟩
def mX7_shifted : MI := (yX7_shifted, cX7_shifted, 3, some .int, 0)
theorem okX7_shifted : okV mX7_shifted 2 := ⟨gt_in 893 (by decide +kernel) (by decide +kernel), gt_in 44 (by decide +kernel) (by decide +kernel), gt_in 70 (by decide +kernel) (by decide +kernel), gt_in 894 (by decide +kernel) (by decide +kernel), by decide +kernel, by decide +kernel, by decide +kernel⟩
def mX7_shift : MI := (yX7_shift, cX7_shift, 3, some .int, 2)
theorem okX7_shift : okV mX7_shift 1 := ⟨gt_in 888 (by decide +kernel) (by decide +kernel), gt_in 889 (by decide +kernel) (by decide +kernel), gt_in 70 (by decide +kernel) (by decide +kernel), gt_in 890 (by decide +kernel) (by decide +kernel), by decide +kernel, by decide +kernel, by decide +kernel⟩
def mX7_undo : MI := (yX7_undo, cX7_undo, 1, some .int, 1)
theorem okX7_undo : okV mX7_undo 0 := ⟨gt_in 896 (by decide +kernel) (by decide +kernel), gt_in 897 (by decide +kernel) (by decide +kernel), gt_in 70 (by decide +kernel) (by decide +kernel), gt_in 898 (by decide +kernel) (by decide +kernel), by decide +kernel, by decide +kernel, by decide +kernel⟩
def mX7_sumOf : MI := (yX7_sumOf, cX7_sumOf, 4, some .int, 0)
theorem okX7_sumOf : okV mX7_sumOf 1 := ⟨gt_in 909 (by decide +kernel) (by decide +kernel), gt_in 46 (by decide +kernel) (by decide +kernel), gt_in 70 (by decide +kernel) (by decide +kernel), gt_in 910 (by decide +kernel) (by decide +kernel), by decide +kernel, by decide +kernel, by decide +kernel⟩
def mX7_go : MI := (yX7_go, cX7_go, 4, none, 3)
theorem okX7_go : okV mX7_go 1 := ⟨gt_in 905 (by decide +kernel) (by decide +kernel), gt_in 45 (by decide +kernel) (by decide +kernel), gt_in 70 (by decide +kernel) (by decide +kernel), gt_in 906 (by decide +kernel) (by decide +kernel), by decide +kernel, by decide +kernel, by decide +kernel⟩
def mX7_whole : MI := (yX7_whole, cX7_whole, 4, some .int, 4)
theorem okX7_whole : okV mX7_whole 1 := ⟨gt_in 900 (by decide +kernel) (by decide +kernel), gt_in 901 (by decide +kernel) (by decide +kernel), gt_in 70 (by decide +kernel) (by decide +kernel), gt_in 902 (by decide +kernel) (by decide +kernel), by decide +kernel, by decide +kernel, by decide +kernel⟩
def mX7_silence : MI := (yX7_silence, cX7_silence, 4, some .int, 0)
theorem okX7_silence : okV mX7_silence 0 := ⟨gt_in 912 (by decide +kernel) (by decide +kernel), gt_in 913 (by decide +kernel) (by decide +kernel), gt_in 70 (by decide +kernel) (by decide +kernel), gt_in 914 (by decide +kernel) (by decide +kernel), by decide +kernel, by decide +kernel, by decide +kernel⟩
def mX7_again : MI := (yX7_again, cX7_again, 2, some .int, 2)
theorem okX7_again : okV mX7_again 0 := ⟨gt_in 916 (by decide +kernel) (by decide +kernel), gt_in 917 (by decide +kernel) (by decide +kernel), gt_in 70 (by decide +kernel) (by decide +kernel), gt_in 918 (by decide +kernel) (by decide +kernel), by decide +kernel, by decide +kernel, by decide +kernel⟩
def mX7_comesAgain : MI := (yX7_comesAgain, cX7_comesAgain, 4, some .boolean, 1)
theorem okX7_comesAgain : okV mX7_comesAgain 1 := ⟨gt_in 921 (by decide +kernel) (by decide +kernel), gt_in 47 (by decide +kernel) (by decide +kernel), gt_in 70 (by decide +kernel) (by decide +kernel), gt_in 922 (by decide +kernel) (by decide +kernel), by decide +kernel, by decide +kernel, by decide +kernel⟩
def mX7_isIll : MI := (yX7_isIll, cX7_isIll, 4, some .boolean, 0)
theorem okX7_isIll : okV mX7_isIll 2 := ⟨gt_in 933 (by decide +kernel) (by decide +kernel), gt_in 49 (by decide +kernel) (by decide +kernel), gt_in 70 (by decide +kernel) (by decide +kernel), gt_in 934 (by decide +kernel) (by decide +kernel), by decide +kernel, by decide +kernel, by decide +kernel⟩
def mX7_illOf : MI := (yX7_illOf, cX7_illOf, 6, some .int, 1)
theorem okX7_illOf : okV mX7_illOf 2 := ⟨gt_in 929 (by decide +kernel) (by decide +kernel), gt_in 48 (by decide +kernel) (by decide +kernel), gt_in 70 (by decide +kernel) (by decide +kernel), gt_in 930 (by decide +kernel) (by decide +kernel), by decide +kernel, by decide +kernel, by decide +kernel⟩
def mX7_harsh : MI := (yX7_harsh, cX7_harsh, 3, some .int, 2)
theorem okX7_harsh : okV mX7_harsh 0 := ⟨gt_in 924 (by decide +kernel) (by decide +kernel), gt_in 925 (by decide +kernel) (by decide +kernel), gt_in 70 (by decide +kernel) (by decide +kernel), gt_in 926 (by decide +kernel) (by decide +kernel), by decide +kernel, by decide +kernel, by decide +kernel⟩
def mX7_canon : MI := (yX7_canon, cX7_canon, 7, some .int, 2)
theorem okX7_canon : okV mX7_canon 1 := ⟨gt_in 936 (by decide +kernel) (by decide +kernel), gt_in 937 (by decide +kernel) (by decide +kernel), gt_in 70 (by decide +kernel) (by decide +kernel), gt_in 938 (by decide +kernel) (by decide +kernel), by decide +kernel, by decide +kernel, by decide +kernel⟩
def mX7_want : MI := (yX7_want, cX7_want, 4, some .int, 2)
theorem okX7_want : okV mX7_want 2 := ⟨gt_in 944 (by decide +kernel) (by decide +kernel), gt_in 945 (by decide +kernel) (by decide +kernel), gt_in 70 (by decide +kernel) (by decide +kernel), gt_in 946 (by decide +kernel) (by decide +kernel), by decide +kernel, by decide +kernel, by decide +kernel⟩
def mX7_changes : MI := (yX7_changes, cX7_changes, 7, some .int, 2)
theorem okX7_changes : okV mX7_changes 1 := ⟨gt_in 952 (by decide +kernel) (by decide +kernel), gt_in 953 (by decide +kernel) (by decide +kernel), gt_in 70 (by decide +kernel) (by decide +kernel), gt_in 954 (by decide +kernel) (by decide +kernel), by decide +kernel, by decide +kernel, by decide +kernel⟩
def mX7_cell : MI := (yX7_cell, cX7_cell, 3, some .int, 0)
theorem okX7_cell : okS mX7_cell 3 := ⟨gt_in 960 (by decide +kernel) (by decide +kernel), gt_in 70 (by decide +kernel) (by decide +kernel), gt_in 961 (by decide +kernel) (by decide +kernel), by decide +kernel, by decide +kernel, by decide +kernel⟩
def mX7_isAgain : MI := (yX7_isAgain, cX7_isAgain, 6, some .boolean, 0)
theorem okX7_isAgain : okV mX7_isAgain 3 := ⟨gt_in 968 (by decide +kernel) (by decide +kernel), gt_in 52 (by decide +kernel) (by decide +kernel), gt_in 70 (by decide +kernel) (by decide +kernel), gt_in 969 (by decide +kernel) (by decide +kernel), by decide +kernel, by decide +kernel, by decide +kernel⟩
def mX7_fewest : MI := (yX7_fewest, cX7_fewest, 9, some .int, 1)
theorem okX7_fewest : okV mX7_fewest 3 := ⟨gt_in 964 (by decide +kernel) (by decide +kernel), gt_in 51 (by decide +kernel) (by decide +kernel), gt_in 70 (by decide +kernel) (by decide +kernel), gt_in 965 (by decide +kernel) (by decide +kernel), by decide +kernel, by decide +kernel, by decide +kernel⟩
def mX7_letters : MI := (yX7_letters, cX7_letters, 4, some .int, 2)
theorem okX7_letters : okV mX7_letters 0 := ⟨gt_in 956 (by decide +kernel) (by decide +kernel), gt_in 957 (by decide +kernel) (by decide +kernel), gt_in 70 (by decide +kernel) (by decide +kernel), gt_in 958 (by decide +kernel) (by decide +kernel), by decide +kernel, by decide +kernel, by decide +kernel⟩
def mX7_areOne : MI := (yX7_areOne, cX7_areOne, 4, some .boolean, 1)
theorem okX7_areOne : okV mX7_areOne 1 := ⟨gt_in 976 (by decide +kernel) (by decide +kernel), gt_in 53 (by decide +kernel) (by decide +kernel), gt_in 70 (by decide +kernel) (by decide +kernel), gt_in 977 (by decide +kernel) (by decide +kernel), by decide +kernel, by decide +kernel, by decide +kernel⟩
def mX7_ringers : MI := (yX7_ringers, cX7_ringers, 5, some .int, 2)
theorem okX7_ringers : okV mX7_ringers 0 := ⟨gt_in 971 (by decide +kernel) (by decide +kernel), gt_in 972 (by decide +kernel) (by decide +kernel), gt_in 70 (by decide +kernel) (by decide +kernel), gt_in 973 (by decide +kernel) (by decide +kernel), by decide +kernel, by decide +kernel, by decide +kernel⟩
def mX7_hear : MI := (yX7_hear, cX7_hear, 2, some .int, 2)
theorem okX7_hear : okV mX7_hear 1 := ⟨gt_in 979 (by decide +kernel) (by decide +kernel), gt_in 980 (by decide +kernel) (by decide +kernel), gt_in 70 (by decide +kernel) (by decide +kernel), gt_in 981 (by decide +kernel) (by decide +kernel), by decide +kernel, by decide +kernel, by decide +kernel⟩
def mX7_forget : MI := (yX7_forget, cX7_forget, 2, some .int, 0)
theorem okX7_forget : okV mX7_forget 0 := ⟨gt_in 983 (by decide +kernel) (by decide +kernel), gt_in 984 (by decide +kernel) (by decide +kernel), gt_in 70 (by decide +kernel) (by decide +kernel), gt_in 985 (by decide +kernel) (by decide +kernel), by decide +kernel, by decide +kernel, by decide +kernel⟩
def mX7_stood : MI := (yX7_stood, cX7_stood, 5, some .int, 0)
theorem okX7_stood : okV mX7_stood 0 := ⟨gt_in 987 (by decide +kernel) (by decide +kernel), gt_in 988 (by decide +kernel) (by decide +kernel), gt_in 70 (by decide +kernel) (by decide +kernel), gt_in 989 (by decide +kernel) (by decide +kernel), by decide +kernel, by decide +kernel, by decide +kernel⟩
def mX7_octaves : MI := (yX7_octaves, cX7_octaves, 5, some .int, 0)
theorem okX7_octaves : okV mX7_octaves 0 := ⟨gt_in 991 (by decide +kernel) (by decide +kernel), gt_in 992 (by decide +kernel) (by decide +kernel), gt_in 70 (by decide +kernel) (by decide +kernel), gt_in 993 (by decide +kernel) (by decide +kernel), by decide +kernel, by decide +kernel, by decide +kernel⟩
def mX7_melody : MI := (yX7_melody, cX7_melody, 10, some .int, 1)
theorem okX7_melody : okV mX7_melody 1 := ⟨gt_in 995 (by decide +kernel) (by decide +kernel), gt_in 996 (by decide +kernel) (by decide +kernel), gt_in 70 (by decide +kernel) (by decide +kernel), gt_in 997 (by decide +kernel) (by decide +kernel), by decide +kernel, by decide +kernel, by decide +kernel⟩
def mX7_winter : MI := (yX7_winter, cX7_winter, 9, some .int, 2)
theorem okX7_winter : okV mX7_winter 3 := ⟨gt_in 999 (by decide +kernel) (by decide +kernel), gt_in 1000 (by decide +kernel) (by decide +kernel), gt_in 70 (by decide +kernel) (by decide +kernel), gt_in 1001 (by decide +kernel) (by decide +kernel), by decide +kernel, by decide +kernel, by decide +kernel⟩
def mX7_keep : MI := (yX7_keep, cX7_keep, 1, some .int, 1)
theorem okX7_keep : okV mX7_keep 0 := ⟨gt_in 1008 (by decide +kernel) (by decide +kernel), gt_in 1009 (by decide +kernel) (by decide +kernel), gt_in 70 (by decide +kernel) (by decide +kernel), gt_in 1010 (by decide +kernel) (by decide +kernel), by decide +kernel, by decide +kernel, by decide +kernel⟩
def mX7_back : MI := (yX7_back, cX7_back, 1, some .int, 1)
theorem okX7_back : okV mX7_back 0 := ⟨gt_in 1012 (by decide +kernel) (by decide +kernel), gt_in 1013 (by decide +kernel) (by decide +kernel), gt_in 70 (by decide +kernel) (by decide +kernel), gt_in 1014 (by decide +kernel) (by decide +kernel), by decide +kernel, by decide +kernel, by decide +kernel⟩
def mX7_count : MI := (yX7_count, cX7_count, 4, some .int, 1)
theorem okX7_count : okV mX7_count 1 := ⟨gt_in 1016 (by decide +kernel) (by decide +kernel), gt_in 1017 (by decide +kernel) (by decide +kernel), gt_in 70 (by decide +kernel) (by decide +kernel), gt_in 1018 (by decide +kernel) (by decide +kernel), by decide +kernel, by decide +kernel, by decide +kernel⟩
def mJ6_bitCount_0f7a4 : MI := (yJ6_bitCount_0f7a4, cJ6_bitCount_0f7a4, 1, some .int, 0)
theorem okJ6_bitCount_0f7a4 : okS mJ6_bitCount_0f7a4 1 := ⟨gt_in 357 (by decide +kernel) (by decide +kernel), gt_in 67 (by decide +kernel) (by decide +kernel), gt_in 358 (by decide +kernel) (by decide +kernel), by decide +kernel, by decide +kernel, by decide +kernel⟩
def mJ9_floorMod_7cf53 : MI := (yJ9_floorMod_7cf53, cJ9_floorMod_7cf53, 3, some .int, 0)
theorem okJ9_floorMod_7cf53 : okS mJ9_floorMod_7cf53 2 := ⟨gt_in 513 (by decide +kernel) (by decide +kernel), gt_in 60 (by decide +kernel) (by decide +kernel), gt_in 514 (by decide +kernel) (by decide +kernel), by decide +kernel, by decide +kernel, by decide +kernel⟩
def mJ9_abs_0f7a4 : MI := (yJ9_abs_0f7a4, cJ9_abs_0f7a4, 1, some .int, 0)
theorem okJ9_abs_0f7a4 : okS mJ9_abs_0f7a4 1 := ⟨gt_in 326 (by decide +kernel) (by decide +kernel), gt_in 60 (by decide +kernel) (by decide +kernel), gt_in 327 (by decide +kernel) (by decide +kernel), by decide +kernel, by decide +kernel, by decide +kernel⟩
def mJ9_max_7cf53 : MI := (yJ9_max_7cf53, cJ9_max_7cf53, 2, some .int, 0)
theorem okJ9_max_7cf53 : okS mJ9_max_7cf53 2 := ⟨gt_in 189 (by decide +kernel) (by decide +kernel), gt_in 60 (by decide +kernel) (by decide +kernel), gt_in 190 (by decide +kernel) (by decide +kernel), by decide +kernel, by decide +kernel, by decide +kernel⟩
def mJ9_min_7cf53 : MI := (yJ9_min_7cf53, cJ9_min_7cf53, 2, some .int, 0)
theorem okJ9_min_7cf53 : okS mJ9_min_7cf53 2 := ⟨gt_in 477 (by decide +kernel) (by decide +kernel), gt_in 60 (by decide +kernel) (by decide +kernel), gt_in 478 (by decide +kernel) (by decide +kernel), by decide +kernel, by decide +kernel, by decide +kernel⟩
def mJ7_fill_53178 : MI := (yJ7_fill_53178, cJ7_fill_53178, 4, none, 0)
theorem okJ7_fill_53178 : okS mJ7_fill_53178 2 := ⟨gt_in 372 (by decide +kernel) (by decide +kernel), gt_in 68 (by decide +kernel) (by decide +kernel), gt_in 373 (by decide +kernel) (by decide +kernel), by decide +kernel, by decide +kernel, by decide +kernel⟩
theorem lkX6_81 : Cond.methodLink RX6 81 yX4_append ∈ gt := gt_in 285 (by decide +kernel) (by decide +kernel)
theorem lkX6_85 : Cond.methodLink RX6 85 yX4_readInto ∈ gt := gt_in 289 (by decide +kernel) (by decide +kernel)
theorem lkX6_89 : Cond.methodLink RX6 89 yX6_layTold ∈ gt := gt_in 363 (by decide +kernel) (by decide +kernel)
theorem lkX6_92 : Cond.methodLink RX6 92 yX4_clear ∈ gt := gt_in 382 (by decide +kernel) (by decide +kernel)
theorem lkX6_98 : Cond.methodLink RX6 98 yX5_canBeLaid ∈ gt := gt_in 440 (by decide +kernel) (by decide +kernel)
theorem lkX6_105 : Cond.methodLink RX6 105 yX6_isBell ∈ gt := gt_in 448 (by decide +kernel) (by decide +kernel)
theorem lkX6_114 : Cond.methodLink RX6 114 yX6_pinsOfBell ∈ gt := gt_in 452 (by decide +kernel) (by decide +kernel)
theorem lkX6_124 : Cond.methodLink RX6 124 yX6_isRow ∈ gt := gt_in 460 (by decide +kernel) (by decide +kernel)
theorem lkX6_130 : Cond.methodLink RX6 130 yX0_startWith ∈ gt := gt_in 367 (by decide +kernel) (by decide +kernel)
theorem lkX6_134 : Cond.methodLink RX6 134 yJ7_fill_53178 ∈ gt := gt_in 377 (by decide +kernel) (by decide +kernel)
theorem lkX6_143 : Cond.methodLink RX6 143 yX2_clear ∈ gt := gt_in 378 (by decide +kernel) (by decide +kernel)
theorem lkX6_150 : Cond.methodLink RX6 150 yX5_everyBell ∈ gt := gt_in 578 (by decide +kernel) (by decide +kernel)
theorem lkX6_153 : Cond.methodLink RX6 153 yX2_put ∈ gt := gt_in 468 (by decide +kernel) (by decide +kernel)
theorem lkX6_157 : Cond.methodLink RX6 157 yX0_turnOn ∈ gt := gt_in 479 (by decide +kernel) (by decide +kernel)
theorem lkX6_160 : Cond.methodLink RX6 160 yX0_turnOff ∈ gt := gt_in 495 (by decide +kernel) (by decide +kernel)
theorem lkX6_163 : Cond.methodLink RX6 163 yJ6_bitCount_0f7a4 ∈ gt := gt_in 503 (by decide +kernel) (by decide +kernel)
theorem lkX6_168 : Cond.methodLink RX6 168 yX5_rowBehind ∈ gt := gt_in 508 (by decide +kernel) (by decide +kernel)
theorem lkX6_172 : Cond.methodLink RX6 172 arraycopyName ∈ gt := gt_in 515 (by decide +kernel) (by decide +kernel)
theorem lkX6_178 : Cond.methodLink RX6 178 yX2_takeInto ∈ gt := gt_in 520 (by decide +kernel) (by decide +kernel)
theorem lkX6_185 : Cond.methodLink RX6 185 yX0_copy ∈ gt := gt_in 532 (by decide +kernel) (by decide +kernel)
theorem lkX6_188 : Cond.methodLink RX6 188 yX6_ringsInATurn ∈ gt := gt_in 536 (by decide +kernel) (by decide +kernel)
theorem lkX6_192 : Cond.methodLink RX6 192 yX6_allPins ∈ gt := gt_in 540 (by decide +kernel) (by decide +kernel)
theorem lkX6_195 : Cond.methodLink RX6 195 yJ9_max_7cf53 ∈ gt := gt_in 548 (by decide +kernel) (by decide +kernel)
theorem lkX6_200 : Cond.methodLink RX6 200 yJ9_min_7cf53 ∈ gt := gt_in 549 (by decide +kernel) (by decide +kernel)
theorem lkX6_203 : Cond.methodLink RX6 203 yX6_comesAgainAfter ∈ gt := gt_in 554 (by decide +kernel) (by decide +kernel)
theorem lkX6_206 : Cond.methodLink RX6 206 yX6_illTwos ∈ gt := gt_in 562 (by decide +kernel) (by decide +kernel)
theorem lkX6_212 : Cond.methodLink RX6 212 yX6_isSet ∈ gt := gt_in 574 (by decide +kernel) (by decide +kernel)
theorem lkX6_215 : Cond.methodLink RX6 215 yX6_changesIfShifted ∈ gt := gt_in 586 (by decide +kernel) (by decide +kernel)
theorem lkX6_218 : Cond.methodLink RX6 218 yX3_fewestLetters ∈ gt := gt_in 594 (by decide +kernel) (by decide +kernel)
theorem lkX6_222 : Cond.methodLink RX6 222 yX1_fewestPeople ∈ gt := gt_in 619 (by decide +kernel) (by decide +kernel)
theorem lkX6_226 : Cond.methodLink RX6 226 yX6_isHeardFrom ∈ gt := gt_in 641 (by decide +kernel) (by decide +kernel)
theorem lkX6_229 : Cond.methodLink RX6 229 yX5_highestTone ∈ gt := gt_in 653 (by decide +kernel) (by decide +kernel)
theorem lkX6_232 : Cond.methodLink RX6 232 yJ9_abs_0f7a4 ∈ gt := gt_in 658 (by decide +kernel) (by decide +kernel)
theorem lkX6_235 : Cond.methodLink RX6 235 yX6_draw ∈ gt := gt_in 663 (by decide +kernel) (by decide +kernel)
theorem lkX0_24 : Cond.methodLink RX0 24 yJ7_fill_53178 ∈ gt := gt_in 371 (by decide +kernel) (by decide +kernel)
theorem lkX0_39 : Cond.methodLink RX0 39 arraycopyName ∈ gt := gt_in 374 (by decide +kernel) (by decide +kernel)
theorem lkX0_54 : Cond.methodLink RX0 54 yX0_ringRow ∈ gt := gt_in 483 (by decide +kernel) (by decide +kernel)
theorem lkX0_61 : Cond.methodLink RX0 61 yX0_strike ∈ gt := gt_in 487 (by decide +kernel) (by decide +kernel)
theorem lkX1_28 : Cond.methodLink RX1 28 yJ7_fill_53178 ∈ gt := gt_in 623 (by decide +kernel) (by decide +kernel)
theorem lkX1_37 : Cond.methodLink RX1 37 yX1_partFrom ∈ gt := gt_in 624 (by decide +kernel) (by decide +kernel)
theorem lkX1_41 : Cond.methodLink RX1 41 yJ9_max_7cf53 ∈ gt := gt_in 628 (by decide +kernel) (by decide +kernel)
theorem lkX2_31 : Cond.methodLink RX2 31 yX0_saveTo ∈ gt := gt_in 472 (by decide +kernel) (by decide +kernel)
theorem lkX2_35 : Cond.methodLink RX2 35 yJ9_min_7cf53 ∈ gt := gt_in 476 (by decide +kernel) (by decide +kernel)
theorem lkX2_38 : Cond.methodLink RX2 38 yX0_loadFrom ∈ gt := gt_in 524 (by decide +kernel) (by decide +kernel)
theorem lkX3_16 : Cond.methodLink RX3 16 yX3_fillFrom ∈ gt := gt_in 598 (by decide +kernel) (by decide +kernel)
theorem lkX3_20 : Cond.methodLink RX3 20 yX3_lettersOf ∈ gt := gt_in 602 (by decide +kernel) (by decide +kernel)
theorem lkX3_24 : Cond.methodLink RX3 24 yX3_timesTold ∈ gt := gt_in 606 (by decide +kernel) (by decide +kernel)
theorem lkX3_28 : Cond.methodLink RX3 28 yX3_beginWithPart ∈ gt := gt_in 611 (by decide +kernel) (by decide +kernel)
theorem lkX3_32 : Cond.methodLink RX3 32 yJ9_min_7cf53 ∈ gt := gt_in 610 (by decide +kernel) (by decide +kernel)
theorem lkX3_38 : Cond.methodLink RX3 38 yJ6_bitCount_0f7a4 ∈ gt := gt_in 605 (by decide +kernel) (by decide +kernel)
theorem lkX4_22 : Cond.methodLink RX4 22 yX5_clear ∈ gt := gt_in 293 (by decide +kernel) (by decide +kernel)
theorem lkX4_30 : Cond.methodLink RX4 30 yX4_readItem ∈ gt := gt_in 297 (by decide +kernel) (by decide +kernel)
theorem lkX4_34 : Cond.methodLink RX4 34 yX4_accept ∈ gt := gt_in 317 (by decide +kernel) (by decide +kernel)
theorem lkX4_38 : Cond.methodLink RX4 38 yX4_peek ∈ gt := gt_in 301 (by decide +kernel) (by decide +kernel)
theorem lkX4_42 : Cond.methodLink RX4 42 yX4_readBell ∈ gt := gt_in 305 (by decide +kernel) (by decide +kernel)
theorem lkX4_45 : Cond.methodLink RX4 45 yX4_readNumber ∈ gt := gt_in 309 (by decide +kernel) (by decide +kernel)
theorem lkX4_48 : Cond.methodLink RX4 48 yX5_tellRows ∈ gt := gt_in 328 (by decide +kernel) (by decide +kernel)
theorem lkX4_51 : Cond.methodLink RX4 51 yX5_tellRest ∈ gt := gt_in 332 (by decide +kernel) (by decide +kernel)
theorem lkX4_54 : Cond.methodLink RX4 54 yX4_readTune ∈ gt := gt_in 336 (by decide +kernel) (by decide +kernel)
theorem lkX4_57 : Cond.methodLink RX4 57 yX5_addBell ∈ gt := gt_in 321 (by decide +kernel) (by decide +kernel)
theorem lkX4_68 : Cond.methodLink RX4 68 yX4_readFigure ∈ gt := gt_in 313 (by decide +kernel) (by decide +kernel)
theorem lkX4_71 : Cond.methodLink RX4 71 yX5_tellAgain ∈ gt := gt_in 340 (by decide +kernel) (by decide +kernel)
theorem lkX4_77 : Cond.methodLink RX4 77 yX4_readSet ∈ gt := gt_in 348 (by decide +kernel) (by decide +kernel)
theorem lkX4_81 : Cond.methodLink RX4 81 yX5_addRow ∈ gt := gt_in 362 (by decide +kernel) (by decide +kernel)
theorem lkX4_84 : Cond.methodLink RX4 84 yX4_readBellLetter ∈ gt := gt_in 352 (by decide +kernel) (by decide +kernel)
theorem lkX4_87 : Cond.methodLink RX4 87 yJ6_bitCount_0f7a4 ∈ gt := gt_in 356 (by decide +kernel) (by decide +kernel)
theorem lkX5_41 : Cond.methodLink RX5 41 yJ9_abs_0f7a4 ∈ gt := gt_in 325 (by decide +kernel) (by decide +kernel)
theorem lkX5_47 : Cond.methodLink RX5 47 yX5_addRow ∈ gt := gt_in 344 (by decide +kernel) (by decide +kernel)
theorem lkX5_51 : Cond.methodLink RX5 51 yJ9_floorMod_7cf53 ∈ gt := gt_in 512 (by decide +kernel) (by decide +kernel)
theorem lkX5_55 : Cond.methodLink RX5 55 yJ9_max_7cf53 ∈ gt := gt_in 657 (by decide +kernel) (by decide +kernel)
theorem lkL_13 : Cond.methodLink RL 13 yX6_write ∈ gt := gt_in 424 (by decide +kernel) (by decide +kernel)
theorem lkL_17 : Cond.methodLink RL 17 yX7_write ∈ gt := gt_in 775 (by decide +kernel) (by decide +kernel)
theorem lkL_18 : Cond.methodLink RL 18 yX6_wipe ∈ gt := gt_in 428 (by decide +kernel) (by decide +kernel)
theorem lkL_22 : Cond.methodLink RL 22 yX7_wipe ∈ gt := gt_in 784 (by decide +kernel) (by decide +kernel)
theorem lkL_23 : Cond.methodLink RL 23 yX6_fault ∈ gt := gt_in 432 (by decide +kernel) (by decide +kernel)
theorem lkL_26 : Cond.methodLink RL 26 yX7_fault ∈ gt := gt_in 788 (by decide +kernel) (by decide +kernel)
theorem lkL_27 : Cond.methodLink RL 27 yX6_lay ∈ gt := gt_in 436 (by decide +kernel) (by decide +kernel)
theorem lkL_30 : Cond.methodLink RL 30 yX7_lay ∈ gt := gt_in 836 (by decide +kernel) (by decide +kernel)
theorem lkL_31 : Cond.methodLink RL 31 yX6_bell ∈ gt := gt_in 444 (by decide +kernel) (by decide +kernel)
theorem lkL_35 : Cond.methodLink RL 35 yX7_bell ∈ gt := gt_in 841 (by decide +kernel) (by decide +kernel)
theorem lkL_36 : Cond.methodLink RL 36 yX6_pins ∈ gt := gt_in 456 (by decide +kernel) (by decide +kernel)
theorem lkL_39 : Cond.methodLink RL 39 yX7_pins ∈ gt := gt_in 852 (by decide +kernel) (by decide +kernel)
theorem lkL_40 : Cond.methodLink RL 40 yX6_turn ∈ gt := gt_in 464 (by decide +kernel) (by decide +kernel)
theorem lkL_43 : Cond.methodLink RL 43 yX7_turn ∈ gt := gt_in 860 (by decide +kernel) (by decide +kernel)
theorem lkL_44 : Cond.methodLink RL 44 yX6_turnBack ∈ gt := gt_in 491 (by decide +kernel) (by decide +kernel)
theorem lkL_47 : Cond.methodLink RL 47 yX7_turnBack ∈ gt := gt_in 879 (by decide +kernel) (by decide +kernel)
theorem lkL_48 : Cond.methodLink RL 48 yX6_pin ∈ gt := gt_in 499 (by decide +kernel) (by decide +kernel)
theorem lkL_52 : Cond.methodLink RL 52 yX7_pin ∈ gt := gt_in 883 (by decide +kernel) (by decide +kernel)
theorem lkL_53 : Cond.methodLink RL 53 yX6_shift ∈ gt := gt_in 504 (by decide +kernel) (by decide +kernel)
theorem lkL_56 : Cond.methodLink RL 56 yX7_shift ∈ gt := gt_in 887 (by decide +kernel) (by decide +kernel)
theorem lkL_57 : Cond.methodLink RL 57 yX6_undo ∈ gt := gt_in 516 (by decide +kernel) (by decide +kernel)
theorem lkL_60 : Cond.methodLink RL 60 yX7_undo ∈ gt := gt_in 895 (by decide +kernel) (by decide +kernel)
theorem lkL_61 : Cond.methodLink RL 61 yX6_whole ∈ gt := gt_in 528 (by decide +kernel) (by decide +kernel)
theorem lkL_64 : Cond.methodLink RL 64 yX7_whole ∈ gt := gt_in 899 (by decide +kernel) (by decide +kernel)
theorem lkL_65 : Cond.methodLink RL 65 yX6_silence ∈ gt := gt_in 544 (by decide +kernel) (by decide +kernel)
theorem lkL_68 : Cond.methodLink RL 68 yX7_silence ∈ gt := gt_in 911 (by decide +kernel) (by decide +kernel)
theorem lkL_69 : Cond.methodLink RL 69 yX6_again ∈ gt := gt_in 550 (by decide +kernel) (by decide +kernel)
theorem lkL_72 : Cond.methodLink RL 72 yX7_again ∈ gt := gt_in 915 (by decide +kernel) (by decide +kernel)
theorem lkL_73 : Cond.methodLink RL 73 yX6_harsh ∈ gt := gt_in 558 (by decide +kernel) (by decide +kernel)
theorem lkL_76 : Cond.methodLink RL 76 yX7_harsh ∈ gt := gt_in 923 (by decide +kernel) (by decide +kernel)
theorem lkL_77 : Cond.methodLink RL 77 yX6_canon ∈ gt := gt_in 566 (by decide +kernel) (by decide +kernel)
theorem lkL_80 : Cond.methodLink RL 80 yX7_canon ∈ gt := gt_in 935 (by decide +kernel) (by decide +kernel)
theorem lkL_81 : Cond.methodLink RL 81 yX6_want ∈ gt := gt_in 570 (by decide +kernel) (by decide +kernel)
theorem lkL_84 : Cond.methodLink RL 84 yX7_want ∈ gt := gt_in 943 (by decide +kernel) (by decide +kernel)
theorem lkL_85 : Cond.methodLink RL 85 yX6_changes ∈ gt := gt_in 582 (by decide +kernel) (by decide +kernel)
theorem lkL_88 : Cond.methodLink RL 88 yX7_changes ∈ gt := gt_in 951 (by decide +kernel) (by decide +kernel)
theorem lkL_89 : Cond.methodLink RL 89 yX6_letters ∈ gt := gt_in 590 (by decide +kernel) (by decide +kernel)
theorem lkL_92 : Cond.methodLink RL 92 yX7_letters ∈ gt := gt_in 955 (by decide +kernel) (by decide +kernel)
theorem lkL_93 : Cond.methodLink RL 93 yX6_ringers ∈ gt := gt_in 615 (by decide +kernel) (by decide +kernel)
theorem lkL_96 : Cond.methodLink RL 96 yX7_ringers ∈ gt := gt_in 970 (by decide +kernel) (by decide +kernel)
theorem lkL_97 : Cond.methodLink RL 97 yX6_hear ∈ gt := gt_in 629 (by decide +kernel) (by decide +kernel)
theorem lkL_100 : Cond.methodLink RL 100 yX7_hear ∈ gt := gt_in 978 (by decide +kernel) (by decide +kernel)
theorem lkL_101 : Cond.methodLink RL 101 yX6_forget ∈ gt := gt_in 633 (by decide +kernel) (by decide +kernel)
theorem lkL_104 : Cond.methodLink RL 104 yX7_forget ∈ gt := gt_in 982 (by decide +kernel) (by decide +kernel)
theorem lkL_105 : Cond.methodLink RL 105 yX6_stood ∈ gt := gt_in 637 (by decide +kernel) (by decide +kernel)
theorem lkL_108 : Cond.methodLink RL 108 yX7_stood ∈ gt := gt_in 986 (by decide +kernel) (by decide +kernel)
theorem lkL_109 : Cond.methodLink RL 109 yX6_octaves ∈ gt := gt_in 645 (by decide +kernel) (by decide +kernel)
theorem lkL_112 : Cond.methodLink RL 112 yX7_octaves ∈ gt := gt_in 990 (by decide +kernel) (by decide +kernel)
theorem lkL_113 : Cond.methodLink RL 113 yX6_melody ∈ gt := gt_in 649 (by decide +kernel) (by decide +kernel)
theorem lkL_116 : Cond.methodLink RL 116 yX7_melody ∈ gt := gt_in 994 (by decide +kernel) (by decide +kernel)
theorem lkL_117 : Cond.methodLink RL 117 yX6_winter ∈ gt := gt_in 659 (by decide +kernel) (by decide +kernel)
theorem lkL_121 : Cond.methodLink RL 121 yX7_winter ∈ gt := gt_in 998 (by decide +kernel) (by decide +kernel)
theorem lkL_122 : Cond.methodLink RL 122 yX6_keep ∈ gt := gt_in 670 (by decide +kernel) (by decide +kernel)
theorem lkL_125 : Cond.methodLink RL 125 yX7_keep ∈ gt := gt_in 1007 (by decide +kernel) (by decide +kernel)
theorem lkL_126 : Cond.methodLink RL 126 yX6_back ∈ gt := gt_in 674 (by decide +kernel) (by decide +kernel)
theorem lkL_129 : Cond.methodLink RL 129 yX7_back ∈ gt := gt_in 1011 (by decide +kernel) (by decide +kernel)
theorem lkL_130 : Cond.methodLink RL 130 yX6_count ∈ gt := gt_in 678 (by decide +kernel) (by decide +kernel)
theorem lkL_133 : Cond.methodLink RL 133 yX7_count ∈ gt := gt_in 1015 (by decide +kernel) (by decide +kernel)
theorem lkX7_59 : Cond.methodLink RX7 59 yX7_clean ∈ gt := gt_in 688 (by decide +kernel) (by decide +kernel)
theorem lkX7_62 : Cond.methodLink RX7 62 yX7_comes ∈ gt := gt_in 692 (by decide +kernel) (by decide +kernel)
theorem lkX7_66 : Cond.methodLink RX7 66 yX7_put ∈ gt := gt_in 696 (by decide +kernel) (by decide +kernel)
theorem lkX7_70 : Cond.methodLink RX7 70 yX7_begins ∈ gt := gt_in 700 (by decide +kernel) (by decide +kernel)
theorem lkX7_73 : Cond.methodLink RX7 73 yX7_in ∈ gt := gt_in 781 (by decide +kernel) (by decide +kernel)
theorem lkX7_95 : Cond.methodLink RX7 95 yX7_here ∈ gt := gt_in 796 (by decide +kernel) (by decide +kernel)
theorem lkX7_105 : Cond.methodLink RX7 105 yX7_takes ∈ gt := gt_in 804 (by decide +kernel) (by decide +kernel)
theorem lkX7_110 : Cond.methodLink RX7 110 yX7_isBellHere ∈ gt := gt_in 819 (by decide +kernel) (by decide +kernel)
theorem lkX7_114 : Cond.methodLink RX7 114 yX7_bits ∈ gt := gt_in 828 (by decide +kernel) (by decide +kernel)
theorem lkX7_118 : Cond.methodLink RX7 118 yX7_chord ∈ gt := gt_in 824 (by decide +kernel) (by decide +kernel)
theorem lkX7_123 : Cond.methodLink RX7 123 yX7_tellsAgain ∈ gt := gt_in 832 (by decide +kernel) (by decide +kernel)
theorem lkX7_127 : Cond.methodLink RX7 127 yX7_takesBell ∈ gt := gt_in 800 (by decide +kernel) (by decide +kernel)
theorem lkX7_130 : Cond.methodLink RX7 130 yX7_takesOne ∈ gt := gt_in 811 (by decide +kernel) (by decide +kernel)
theorem lkX7_134 : Cond.methodLink RX7 134 yX7_takesTune ∈ gt := gt_in 815 (by decide +kernel) (by decide +kernel)
theorem lkX7_137 : Cond.methodLink RX7 137 yX7_takesItem ∈ gt := gt_in 792 (by decide +kernel) (by decide +kernel)
theorem lkX7_149 : Cond.methodLink RX7 149 yX7_fault ∈ gt := gt_in 840 (by decide +kernel) (by decide +kernel)
theorem lkX7_152 : Cond.methodLink RX7 152 yX7_has ∈ gt := gt_in 849 (by decide +kernel) (by decide +kernel)
theorem lkX7_155 : Cond.methodLink RX7 155 yX7_rings ∈ gt := gt_in 875 (by decide +kernel) (by decide +kernel)
theorem lkX7_159 : Cond.methodLink RX7 159 yX7_isBell ∈ gt := gt_in 845 (by decide +kernel) (by decide +kernel)
theorem lkX7_162 : Cond.methodLink RX7 162 yX7_isRow ∈ gt := gt_in 856 (by decide +kernel) (by decide +kernel)
theorem lkX7_165 : Cond.methodLink RX7 165 yX7_copies ∈ gt := gt_in 868 (by decide +kernel) (by decide +kernel)
theorem lkX7_169 : Cond.methodLink RX7 169 yX7_remember ∈ gt := gt_in 864 (by decide +kernel) (by decide +kernel)
theorem lkX7_172 : Cond.methodLink RX7 172 yX7_comesNext ∈ gt := gt_in 871 (by decide +kernel) (by decide +kernel)
theorem lkX7_176 : Cond.methodLink RX7 176 yX7_shifted ∈ gt := gt_in 891 (by decide +kernel) (by decide +kernel)
theorem lkX7_180 : Cond.methodLink RX7 180 yX7_go ∈ gt := gt_in 903 (by decide +kernel) (by decide +kernel)
theorem lkX7_184 : Cond.methodLink RX7 184 yX7_sumOf ∈ gt := gt_in 907 (by decide +kernel) (by decide +kernel)
theorem lkX7_187 : Cond.methodLink RX7 187 yX7_comesAgain ∈ gt := gt_in 919 (by decide +kernel) (by decide +kernel)
theorem lkX7_190 : Cond.methodLink RX7 190 yX7_isIll ∈ gt := gt_in 931 (by decide +kernel) (by decide +kernel)
theorem lkX7_193 : Cond.methodLink RX7 193 yX7_illOf ∈ gt := gt_in 927 (by decide +kernel) (by decide +kernel)
theorem lkX7_196 : Cond.methodLink RX7 196 yX7_isTwo ∈ gt := gt_in 939 (by decide +kernel) (by decide +kernel)
theorem lkX7_200 : Cond.methodLink RX7 200 yX7_isSet ∈ gt := gt_in 947 (by decide +kernel) (by decide +kernel)
theorem lkX7_203 : Cond.methodLink RX7 203 yX7_cell ∈ gt := gt_in 959 (by decide +kernel) (by decide +kernel)
theorem lkX7_207 : Cond.methodLink RX7 207 yX7_isAgain ∈ gt := gt_in 966 (by decide +kernel) (by decide +kernel)
theorem lkX7_210 : Cond.methodLink RX7 210 yX7_fewest ∈ gt := gt_in 962 (by decide +kernel) (by decide +kernel)
theorem lkX7_213 : Cond.methodLink RX7 213 yX7_areOne ∈ gt := gt_in 974 (by decide +kernel) (by decide +kernel)
theorem fkX6_10 : fk RX6 10 6 0 := ⟨(RX6, TX6, 12), rfl, by decide, usX6, gt_in 386 (by decide +kernel) (by decide +kernel)⟩
theorem fkX6_19 : fk RX6 19 6 1 := ⟨(RX6, TX6, 12), rfl, by decide, usX6, gt_in 387 (by decide +kernel) (by decide +kernel)⟩
theorem fw_6_1 : fw 6 1 (.object "RungByADrum$Tower") := ⟨(RX6, TX6, 12), tyX6, rfl, tyX6_ok, nmX6, by decide +kernel, by decide +kernel⟩
theorem fkX6_23 : fk RX6 23 6 2 := ⟨(RX6, TX6, 12), rfl, by decide, usX6, gt_in 388 (by decide +kernel) (by decide +kernel)⟩
theorem fw_6_2 : fw 6 2 (.object "RungByADrum$Tower") := ⟨(RX6, TX6, 12), tyX6, rfl, tyX6_ok, nmX6, by decide +kernel, by decide +kernel⟩
theorem fkX6_29 : fk RX6 29 6 3 := ⟨(RX6, TX6, 12), rfl, by decide, usX6, gt_in 389 (by decide +kernel) (by decide +kernel)⟩
theorem fkX6_33 : fk RX6 33 6 4 := ⟨(RX6, TX6, 12), rfl, by decide, usX6, gt_in 390 (by decide +kernel) (by decide +kernel)⟩
theorem fkX6_41 : fk RX6 41 6 5 := ⟨(RX6, TX6, 12), rfl, by decide, usX6, gt_in 391 (by decide +kernel) (by decide +kernel)⟩
theorem fkX6_45 : fk RX6 45 6 6 := ⟨(RX6, TX6, 12), rfl, by decide, usX6, gt_in 392 (by decide +kernel) (by decide +kernel)⟩
theorem fkX6_48 : fk RX6 48 6 7 := ⟨(RX6, TX6, 12), rfl, by decide, usX6, gt_in 393 (by decide +kernel) (by decide +kernel)⟩
theorem fkX6_52 : fk RX6 52 6 8 := ⟨(RX6, TX6, 12), rfl, by decide, usX6, gt_in 394 (by decide +kernel) (by decide +kernel)⟩
theorem fkX6_58 : fk RX6 58 6 10 := ⟨(RX6, TX6, 12), rfl, by decide, usX6, gt_in 396 (by decide +kernel) (by decide +kernel)⟩
theorem fkX6_65 : fk RX6 65 6 11 := ⟨(RX6, TX6, 12), rfl, by decide, usX6, gt_in 397 (by decide +kernel) (by decide +kernel)⟩
theorem fkX6_95 : fk RX6 95 4 1 := ⟨(RX4, TX4, 4), rfl, by decide, usX4, gt_in 87 (by decide +kernel) (by decide +kernel)⟩
theorem fkX6_102 : fk RX6 102 5 7 := ⟨(RX5, TX5, 9), rfl, by decide, usX5, gt_in 129 (by decide +kernel) (by decide +kernel)⟩
theorem fkX6_108 : fk RX6 108 5 1 := ⟨(RX5, TX5, 9), rfl, by decide, usX5, gt_in 112 (by decide +kernel) (by decide +kernel)⟩
theorem fkX6_111 : fk RX6 111 5 2 := ⟨(RX5, TX5, 9), rfl, by decide, usX5, gt_in 115 (by decide +kernel) (by decide +kernel)⟩
theorem fkX6_118 : fk RX6 118 0 2 := ⟨(RX0, TX0, 6), rfl, by decide, usX0, gt_in 162 (by decide +kernel) (by decide +kernel)⟩
theorem fkX6_121 : fk RX6 121 0 3 := ⟨(RX0, TX0, 6), rfl, by decide, usX0, gt_in 164 (by decide +kernel) (by decide +kernel)⟩
theorem fkX6_127 : fk RX6 127 0 0 := ⟨(RX0, TX0, 6), rfl, by decide, usX0, gt_in 159 (by decide +kernel) (by decide +kernel)⟩
theorem fkX6_140 : fk RX6 140 6 9 := ⟨(RX6, TX6, 12), rfl, by decide, usX6, gt_in 395 (by decide +kernel) (by decide +kernel)⟩
theorem fw_6_9 : fw 6 9 .int := ⟨(RX6, TX6, 12), tyX6, rfl, tyX6_ok, nmX6, by decide +kernel, by decide +kernel⟩
theorem fkX6_144 : fk RX6 144 5 0 := ⟨(RX5, TX5, 9), rfl, by decide, usX5, gt_in 110 (by decide +kernel) (by decide +kernel)⟩
theorem fkX6_147 : fk RX6 147 5 4 := ⟨(RX5, TX5, 9), rfl, by decide, usX5, gt_in 121 (by decide +kernel) (by decide +kernel)⟩
theorem fkX6_182 : fk RX6 182 2 3 := ⟨(RX2, TX2, 4), rfl, by decide, usX2, gt_in 195 (by decide +kernel) (by decide +kernel)⟩
theorem fkX6_209 : fk RX6 209 5 3 := ⟨(RX5, TX5, 9), rfl, by decide, usX5, gt_in 117 (by decide +kernel) (by decide +kernel)⟩
theorem fkX6_238 : fk RX6 238 5 5 := ⟨(RX5, TX5, 9), rfl, by decide, usX5, gt_in 124 (by decide +kernel) (by decide +kernel)⟩
theorem fkX6_241 : fk RX6 241 0 5 := ⟨(RX0, TX0, 6), rfl, by decide, usX0, gt_in 168 (by decide +kernel) (by decide +kernel)⟩
theorem fkX6_244 : fk RX6 244 0 4 := ⟨(RX0, TX0, 6), rfl, by decide, usX0, gt_in 166 (by decide +kernel) (by decide +kernel)⟩
theorem fkX0_9 : fk RX0 9 0 0 := ⟨(RX0, TX0, 6), rfl, by decide, usX0, gt_in 158 (by decide +kernel) (by decide +kernel)⟩
theorem fkX0_15 : fk RX0 15 0 1 := ⟨(RX0, TX0, 6), rfl, by decide, usX0, gt_in 160 (by decide +kernel) (by decide +kernel)⟩
theorem fkX0_18 : fk RX0 18 0 2 := ⟨(RX0, TX0, 6), rfl, by decide, usX0, gt_in 161 (by decide +kernel) (by decide +kernel)⟩
theorem fkX0_21 : fk RX0 21 0 3 := ⟨(RX0, TX0, 6), rfl, by decide, usX0, gt_in 163 (by decide +kernel) (by decide +kernel)⟩
theorem fkX0_30 : fk RX0 30 5 8 := ⟨(RX5, TX5, 9), rfl, by decide, usX5, gt_in 132 (by decide +kernel) (by decide +kernel)⟩
theorem fkX0_35 : fk RX0 35 5 7 := ⟨(RX5, TX5, 9), rfl, by decide, usX5, gt_in 127 (by decide +kernel) (by decide +kernel)⟩
theorem fkX0_45 : fk RX0 45 5 4 := ⟨(RX5, TX5, 9), rfl, by decide, usX5, gt_in 120 (by decide +kernel) (by decide +kernel)⟩
theorem fkX0_48 : fk RX0 48 0 4 := ⟨(RX0, TX0, 6), rfl, by decide, usX0, gt_in 165 (by decide +kernel) (by decide +kernel)⟩
theorem fw_0_4 : fw 0 4 .int := ⟨(RX0, TX0, 6), tyX0, rfl, tyX0_ok, nmX0, by decide +kernel, by decide +kernel⟩
theorem fkX0_51 : fk RX0 51 0 5 := ⟨(RX0, TX0, 6), rfl, by decide, usX0, gt_in 167 (by decide +kernel) (by decide +kernel)⟩
theorem fw_0_5 : fw 0 5 .int := ⟨(RX0, TX0, 6), tyX0, rfl, tyX0_ok, nmX0, by decide +kernel, by decide +kernel⟩
theorem fkX0_58 : fk RX0 58 5 0 := ⟨(RX5, TX5, 9), rfl, by decide, usX5, gt_in 108 (by decide +kernel) (by decide +kernel)⟩
theorem fkX0_65 : fk RX0 65 5 2 := ⟨(RX5, TX5, 9), rfl, by decide, usX5, gt_in 114 (by decide +kernel) (by decide +kernel)⟩
theorem fkX0_68 : fk RX0 68 5 5 := ⟨(RX5, TX5, 9), rfl, by decide, usX5, gt_in 123 (by decide +kernel) (by decide +kernel)⟩
theorem fkX1_9 : fk RX1 9 1 0 := ⟨(RX1, TX1, 4), rfl, by decide, usX1, gt_in 223 (by decide +kernel) (by decide +kernel)⟩
theorem fkX1_15 : fk RX1 15 1 1 := ⟨(RX1, TX1, 4), rfl, by decide, usX1, gt_in 224 (by decide +kernel) (by decide +kernel)⟩
theorem fkX1_18 : fk RX1 18 5 0 := ⟨(RX5, TX5, 9), rfl, by decide, usX5, gt_in 107 (by decide +kernel) (by decide +kernel)⟩
theorem fkX1_24 : fk RX1 24 1 2 := ⟨(RX1, TX1, 4), rfl, by decide, usX1, gt_in 225 (by decide +kernel) (by decide +kernel)⟩
theorem fw_1_2 : fw 1 2 .int := ⟨(RX1, TX1, 4), tyX1, rfl, tyX1_ok, nmX1, by decide +kernel, by decide +kernel⟩
theorem fkX1_25 : fk RX1 25 1 3 := ⟨(RX1, TX1, 4), rfl, by decide, usX1, gt_in 226 (by decide +kernel) (by decide +kernel)⟩
theorem fw_1_3 : fw 1 3 .int := ⟨(RX1, TX1, 4), tyX1, rfl, tyX1_ok, nmX1, by decide +kernel, by decide +kernel⟩
theorem fkX1_34 : fk RX1 34 5 4 := ⟨(RX5, TX5, 9), rfl, by decide, usX5, gt_in 119 (by decide +kernel) (by decide +kernel)⟩
theorem fkX2_13 : fk RX2 13 2 0 := ⟨(RX2, TX2, 4), rfl, by decide, usX2, gt_in 191 (by decide +kernel) (by decide +kernel)⟩
theorem fkX2_21 : fk RX2 21 2 1 := ⟨(RX2, TX2, 4), rfl, by decide, usX2, gt_in 192 (by decide +kernel) (by decide +kernel)⟩
theorem fkX2_25 : fk RX2 25 2 3 := ⟨(RX2, TX2, 4), rfl, by decide, usX2, gt_in 194 (by decide +kernel) (by decide +kernel)⟩
theorem fw_2_3 : fw 2 3 .int := ⟨(RX2, TX2, 4), tyX2, rfl, tyX2_ok, nmX2, by decide +kernel, by decide +kernel⟩
theorem fkX2_28 : fk RX2 28 2 2 := ⟨(RX2, TX2, 4), rfl, by decide, usX2, gt_in 193 (by decide +kernel) (by decide +kernel)⟩
theorem fw_2_2 : fw 2 2 .int := ⟨(RX2, TX2, 4), tyX2, rfl, tyX2_ok, nmX2, by decide +kernel, by decide +kernel⟩
theorem fkX3_13 : fk RX3 13 3 0 := ⟨(RX3, TX3, 1), rfl, by decide, usX3, gt_in 213 (by decide +kernel) (by decide +kernel)⟩
theorem fkX4_9 : fk RX4 9 4 0 := ⟨(RX4, TX4, 4), rfl, by decide, usX4, gt_in 85 (by decide +kernel) (by decide +kernel)⟩
theorem fkX4_15 : fk RX4 15 4 3 := ⟨(RX4, TX4, 4), rfl, by decide, usX4, gt_in 89 (by decide +kernel) (by decide +kernel)⟩
theorem fkX4_18 : fk RX4 18 4 1 := ⟨(RX4, TX4, 4), rfl, by decide, usX4, gt_in 86 (by decide +kernel) (by decide +kernel)⟩
theorem fw_4_1 : fw 4 1 .int := ⟨(RX4, TX4, 4), tyX4, rfl, tyX4_ok, nmX4, by decide +kernel, by decide +kernel⟩
theorem fkX4_27 : fk RX4 27 4 2 := ⟨(RX4, TX4, 4), rfl, by decide, usX4, gt_in 88 (by decide +kernel) (by decide +kernel)⟩
theorem fw_4_2 : fw 4 2 .int := ⟨(RX4, TX4, 4), tyX4, rfl, tyX4_ok, nmX4, by decide +kernel, by decide +kernel⟩
theorem fkX4_61 : fk RX4 61 5 6 := ⟨(RX5, TX5, 9), rfl, by decide, usX5, gt_in 126 (by decide +kernel) (by decide +kernel)⟩
theorem fw_5_6 : fw 5 6 .boolean := ⟨(RX5, TX5, 9), tyX5, rfl, tyX5_ok, nmX5, by decide +kernel, by decide +kernel⟩
theorem fkX4_65 : fk RX4 65 5 7 := ⟨(RX5, TX5, 9), rfl, by decide, usX5, gt_in 130 (by decide +kernel) (by decide +kernel)⟩
theorem fkX4_74 : fk RX4 74 5 0 := ⟨(RX5, TX5, 9), rfl, by decide, usX5, gt_in 109 (by decide +kernel) (by decide +kernel)⟩
theorem fkX5_9 : fk RX5 9 5 1 := ⟨(RX5, TX5, 9), rfl, by decide, usX5, gt_in 111 (by decide +kernel) (by decide +kernel)⟩
theorem fkX5_15 : fk RX5 15 5 2 := ⟨(RX5, TX5, 9), rfl, by decide, usX5, gt_in 113 (by decide +kernel) (by decide +kernel)⟩
theorem fkX5_18 : fk RX5 18 5 3 := ⟨(RX5, TX5, 9), rfl, by decide, usX5, gt_in 116 (by decide +kernel) (by decide +kernel)⟩
theorem fkX5_21 : fk RX5 21 5 4 := ⟨(RX5, TX5, 9), rfl, by decide, usX5, gt_in 118 (by decide +kernel) (by decide +kernel)⟩
theorem fw_5_4 : fw 5 4 .int := ⟨(RX5, TX5, 9), tyX5, rfl, tyX5_ok, nmX5, by decide +kernel, by decide +kernel⟩
theorem fkX5_25 : fk RX5 25 5 5 := ⟨(RX5, TX5, 9), rfl, by decide, usX5, gt_in 122 (by decide +kernel) (by decide +kernel)⟩
theorem fw_5_5 : fw 5 5 .int := ⟨(RX5, TX5, 9), tyX5, rfl, tyX5_ok, nmX5, by decide +kernel, by decide +kernel⟩
theorem fkX5_28 : fk RX5 28 5 8 := ⟨(RX5, TX5, 9), rfl, by decide, usX5, gt_in 131 (by decide +kernel) (by decide +kernel)⟩
theorem fkX5_31 : fk RX5 31 5 0 := ⟨(RX5, TX5, 9), rfl, by decide, usX5, gt_in 106 (by decide +kernel) (by decide +kernel)⟩
theorem fw_5_0 : fw 5 0 .int := ⟨(RX5, TX5, 9), tyX5, rfl, tyX5_ok, nmX5, by decide +kernel, by decide +kernel⟩
theorem fkX5_34 : fk RX5 34 5 6 := ⟨(RX5, TX5, 9), rfl, by decide, usX5, gt_in 125 (by decide +kernel) (by decide +kernel)⟩
theorem fkX5_38 : fk RX5 38 5 7 := ⟨(RX5, TX5, 9), rfl, by decide, usX5, gt_in 128 (by decide +kernel) (by decide +kernel)⟩
theorem fw_5_7 : fw 5 7 .int := ⟨(RX5, TX5, 9), tyX5, rfl, tyX5_ok, nmX5, by decide +kernel, by decide +kernel⟩
theorem fkX7_7 : fk RX7 7 7 0 := ⟨(RX7, TX7, 23), rfl, by decide, usX7, gt_in 704 (by decide +kernel) (by decide +kernel)⟩
theorem fkX7_13 : fk RX7 13 7 1 := ⟨(RX7, TX7, 23), rfl, by decide, usX7, gt_in 705 (by decide +kernel) (by decide +kernel)⟩
theorem fkX7_16 : fk RX7 16 7 2 := ⟨(RX7, TX7, 23), rfl, by decide, usX7, gt_in 706 (by decide +kernel) (by decide +kernel)⟩
theorem fkX7_19 : fk RX7 19 7 4 := ⟨(RX7, TX7, 23), rfl, by decide, usX7, gt_in 708 (by decide +kernel) (by decide +kernel)⟩
theorem fkX7_22 : fk RX7 22 7 5 := ⟨(RX7, TX7, 23), rfl, by decide, usX7, gt_in 709 (by decide +kernel) (by decide +kernel)⟩
theorem fkX7_25 : fk RX7 25 7 7 := ⟨(RX7, TX7, 23), rfl, by decide, usX7, gt_in 711 (by decide +kernel) (by decide +kernel)⟩
theorem fkX7_28 : fk RX7 28 7 9 := ⟨(RX7, TX7, 23), rfl, by decide, usX7, gt_in 713 (by decide +kernel) (by decide +kernel)⟩
theorem fkX7_31 : fk RX7 31 7 11 := ⟨(RX7, TX7, 23), rfl, by decide, usX7, gt_in 715 (by decide +kernel) (by decide +kernel)⟩
theorem fkX7_34 : fk RX7 34 7 12 := ⟨(RX7, TX7, 23), rfl, by decide, usX7, gt_in 716 (by decide +kernel) (by decide +kernel)⟩
theorem fkX7_37 : fk RX7 37 7 16 := ⟨(RX7, TX7, 23), rfl, by decide, usX7, gt_in 720 (by decide +kernel) (by decide +kernel)⟩
theorem fkX7_40 : fk RX7 40 7 17 := ⟨(RX7, TX7, 23), rfl, by decide, usX7, gt_in 721 (by decide +kernel) (by decide +kernel)⟩
theorem fkX7_43 : fk RX7 43 7 18 := ⟨(RX7, TX7, 23), rfl, by decide, usX7, gt_in 722 (by decide +kernel) (by decide +kernel)⟩
theorem fkX7_46 : fk RX7 46 7 19 := ⟨(RX7, TX7, 23), rfl, by decide, usX7, gt_in 723 (by decide +kernel) (by decide +kernel)⟩
theorem fkX7_49 : fk RX7 49 7 20 := ⟨(RX7, TX7, 23), rfl, by decide, usX7, gt_in 724 (by decide +kernel) (by decide +kernel)⟩
theorem fkX7_52 : fk RX7 52 7 21 := ⟨(RX7, TX7, 23), rfl, by decide, usX7, gt_in 725 (by decide +kernel) (by decide +kernel)⟩
theorem fkX7_55 : fk RX7 55 7 22 := ⟨(RX7, TX7, 23), rfl, by decide, usX7, gt_in 726 (by decide +kernel) (by decide +kernel)⟩
theorem fkX7_81 : fk RX7 81 7 10 := ⟨(RX7, TX7, 23), rfl, by decide, usX7, gt_in 714 (by decide +kernel) (by decide +kernel)⟩
theorem fw_7_10 : fw 7 10 .int := ⟨(RX7, TX7, 23), tyX7, rfl, tyX7_ok, nmX7, by decide +kernel, by decide +kernel⟩
theorem fkX7_85 : fk RX7 85 7 3 := ⟨(RX7, TX7, 23), rfl, by decide, usX7, gt_in 707 (by decide +kernel) (by decide +kernel)⟩
theorem fw_7_3 : fw 7 3 .int := ⟨(RX7, TX7, 23), tyX7, rfl, tyX7_ok, nmX7, by decide +kernel, by decide +kernel⟩
theorem fkX7_88 : fk RX7 88 7 15 := ⟨(RX7, TX7, 23), rfl, by decide, usX7, gt_in 719 (by decide +kernel) (by decide +kernel)⟩
theorem fw_7_15 : fw 7 15 .boolean := ⟨(RX7, TX7, 23), tyX7, rfl, tyX7_ok, nmX7, by decide +kernel, by decide +kernel⟩
theorem fkX7_92 : fk RX7 92 7 14 := ⟨(RX7, TX7, 23), rfl, by decide, usX7, gt_in 718 (by decide +kernel) (by decide +kernel)⟩
theorem fw_7_14 : fw 7 14 .int := ⟨(RX7, TX7, 23), tyX7, rfl, tyX7_ok, nmX7, by decide +kernel, by decide +kernel⟩
theorem fkX7_140 : fk RX7 140 7 13 := ⟨(RX7, TX7, 23), rfl, by decide, usX7, gt_in 717 (by decide +kernel) (by decide +kernel)⟩
theorem fw_7_13 : fw 7 13 .int := ⟨(RX7, TX7, 23), tyX7, rfl, tyX7_ok, nmX7, by decide +kernel, by decide +kernel⟩
theorem fkX7_143 : fk RX7 143 7 6 := ⟨(RX7, TX7, 23), rfl, by decide, usX7, gt_in 710 (by decide +kernel) (by decide +kernel)⟩
theorem fw_7_6 : fw 7 6 .int := ⟨(RX7, TX7, 23), tyX7, rfl, tyX7_ok, nmX7, by decide +kernel, by decide +kernel⟩
theorem fkX7_146 : fk RX7 146 7 8 := ⟨(RX7, TX7, 23), rfl, by decide, usX7, gt_in 712 (by decide +kernel) (by decide +kernel)⟩
theorem fw_7_8 : fw 7 8 .int := ⟨(RX7, TX7, 23), tyX7, rfl, tyX7_ok, nmX7, by decide +kernel, by decide +kernel⟩
theorem kcX6_247 : Cond.constantLong RX6 247 7919 ∈ gt := gt_in 666 (by decide +kernel) (by decide +kernel)
theorem kcX6_249 : Cond.constantLong RX6 249 6151 ∈ gt := gt_in 667 (by decide +kernel) (by decide +kernel)
theorem kcX6_251 : Cond.constantLong RX6 251 65521 ∈ gt := gt_in 668 (by decide +kernel) (by decide +kernel)
theorem kcX6_253 : Cond.constantLong RX6 253 8 ∈ gt := gt_in 669 (by decide +kernel) (by decide +kernel)
theorem kcX7_77 : Cond.constantLong RX7 77 32 ∈ gt := gt_in 779 (by decide +kernel) (by decide +kernel)
theorem kcX7_79 : Cond.constantLong RX7 79 126 ∈ gt := gt_in 780 (by decide +kernel) (by decide +kernel)
theorem kcX7_99 : Cond.constantLong RX7 99 48 ∈ gt := gt_in 808 (by decide +kernel) (by decide +kernel)
theorem kcX7_101 : Cond.constantLong RX7 101 57 ∈ gt := gt_in 809 (by decide +kernel) (by decide +kernel)
theorem kcX7_103 : Cond.constantLong RX7 103 2 ∈ gt := gt_in 810 (by decide +kernel) (by decide +kernel)
theorem kcX7_108 : Cond.constantLong RX7 108 97 ∈ gt := gt_in 823 (by decide +kernel) (by decide +kernel)
theorem kcX7_121 : Cond.constantLong RX7 121 9 ∈ gt := gt_in 831 (by decide +kernel) (by decide +kernel)
theorem kcX7_199 : Cond.constant RX7 199 1000000 ∈ gt := gt_in 942 (by decide +kernel) (by decide +kernel)
theorem kcX7_216 : Cond.constantLong RX7 216 9999 ∈ gt := gt_in 1002 (by decide +kernel) (by decide +kernel)
theorem kcX7_218 : Cond.constantLong RX7 218 60 ∈ gt := gt_in 1003 (by decide +kernel) (by decide +kernel)
theorem kcX7_220 : Cond.constantLong RX7 220 7919 ∈ gt := gt_in 1004 (by decide +kernel) (by decide +kernel)
theorem kcX7_222 : Cond.constantLong RX7 222 6151 ∈ gt := gt_in 1005 (by decide +kernel) (by decide +kernel)
theorem kcX7_224 : Cond.constantLong RX7 224 65521 ∈ gt := gt_in 1006 (by decide +kernel) (by decide +kernel)
theorem kcJ6_265 : Cond.constant RJ6 265 1431655765 ∈ gt := gt_in 359 (by decide +kernel) (by decide +kernel)
theorem kcJ6_266 : Cond.constant RJ6 266 858993459 ∈ gt := gt_in 360 (by decide +kernel) (by decide +kernel)
theorem kcJ6_267 : Cond.constant RJ6 267 252645135 ∈ gt := gt_in 361 (by decide +kernel) (by decide +kernel)
theorem ac_n : Cond.native arraycopyName ∈ gt := gt_in 376 (by decide +kernel) (by decide +kernel)
theorem ac_s : Cond.static arraycopyName ∈ gt := gt_in 375 (by decide +kernel) (by decide +kernel)
theorem ac_i : Cond.initialized "java/lang/System" ∈ gt := gt_in 69 (by decide +kernel) (by decide +kernel)
end
section
/-! ===== what the printed walks use ===== -/
abbrev ix (x : Int32) : Nat := x.toNatClampNeg
def ob {α β : Type} (o : Option (α × HP)) (k : α → HP → Option β) : Option β := match o with
  | none => none
  | some q => k q.1 q.2
def obv {β : Type} (o : Option HP) (k : HP → Option β) : Option β := match o with
  | none => none
  | some q => k q
theorem ob_some {α β : Type} {o : Option (α × HP)} {k : α → HP → Option β} {r : β} (h : ob o k = some r) : ∃ a h1, o = some (a, h1) ∧ k a h1 = some r := by
  cases o with
  | none => exact absurd h (fun z => nomatch z)
  | some q => exact ⟨q.1, q.2, rfl, h⟩
theorem obv_some {β : Type} {o : Option HP} {k : HP → Option β} {r : β} (h : obv o k = some r) : ∃ h1, o = some h1 ∧ k h1 = some r := by
  cases o with
  | none => exact absurd h (fun z => nomatch z)
  | some q => exact ⟨q, rfl, h⟩
theorem ogd {α : Type} {c : Prop} {hd : Decidable c} {a : Option α} {r : α} (h : (if c then a else none) = some r) : c ∧ a = some r := by
  by_cases hc : c
  · exact ⟨hc, by rwa [if_pos hc] at h⟩
  · rw [if_neg hc] at h; cases h
theorem nl {q m n : Nat} (h : m ≤ n) (b : Nat.ble (q + 1) m = true) : q < n := Nat.lt_of_lt_of_le (Nat.le_of_ble_eq_true b) h
def TO (t : Nat) : Prop := t = 4 ∨ t = 9
def DR (t : Nat) : Prop := t = 14 ∨ t = 19
def SF (t : Nat) : Prop := t = 24 ∨ t = 26
def IA (E : EV) (a : Nat) : Prop := kd a = (0, ln a) ∧ a < eN E
theorem IA.of {E : EV} {a L : Nat} (h : kd a = (0, L)) (n : a < eN E) : IA E a := ⟨by unfold ln; rw [h], n⟩
theorem tbl_out {x : Int32} (n : Nat) (l : List Int32) (hl : l = (List.range (n + 1)).map Int32.ofNat) (h : ∀ k ∈ l, ¬ x = k) : x.toInt < 0 ∨ (n : Int) < x.toInt := by
  by_cases h1 : x.toInt < 0
  · exact Or.inl h1
  · refine Or.inr (Int.not_le.mp fun h2 => ?_)
    subst hl
    refine h (Int32.ofNat x.toInt.toNat) (List.mem_map.mpr ⟨x.toInt.toNat, List.mem_range.mpr (by omega), rfl⟩) ?_
    apply Int32.toInt_inj.mp
    have hx := x.toInt_lt
    rw [show Int32.ofNat x.toInt.toNat = nI x.toInt.toNat from rfl, nI_toInt (by omega)]
    omega
theorem lk_out {x : Int32} {o1 o2 o3 o4 df : Int} (g1 : ¬ x = 98) (g2 : ¬ x = 110) (g3 : ¬ x = 114) (g4 : ¬ x = 116) : Op.lookupswitch.offset (#[(98, o1), (110, o2), (114, o3), (116, o4)] : Array (Int × Int)).toList df x.toInt = df := by
  have e : ∀ k : Int32, ¬ x = k → ¬ k.toInt = x.toInt := fun k hk z => hk (Int32.toInt_inj.mp z).symm
  have h1 := e 98 g1
  have h2 := e 110 g2
  have h3 := e 114 g3
  have h4 := e 116 g4
  rw [show (98 : Int32).toInt = 98 by decide] at h1
  rw [show (110 : Int32).toInt = 110 by decide] at h2
  rw [show (114 : Int32).toInt = 114 by decide] at h3
  rw [show (116 : Int32).toInt = 116 by decide] at h4
  simp [Op.lookupswitch.offset, h1, h2, h3, h4]
theorem inb_lt {x : Int32} {L : Nat} (g : inb x L = true) : ix x < L := Nat.not_le.mp fun z => inb_in g (Or.inr z)
theorem rowk {x : Int32} (g : inb x 4 = true) : kd (31 + 1 + ix x) = (0, 1089) := by
  have h := inb_lt g
  generalize ix x = j at h
  rcases (show j = 0 ∨ j = 1 ∨ j = 2 ∨ j = 3 by omega) with rfl | rfl | rfl | rfl <;> rfl
theorem rown {x : Int32} {n : Nat} (g : inb x 4 = true) (hN : 39 ≤ n) : 31 + 1 + ix x < n := by
  have h := inb_lt g
  omega
theorem rm_part (d : Nat) : roomy (mX1_partFrom d) (rmM (mX1_partFrom (d + 1))) := And.intro (Nat.le_refl _) (by show 8 + (4 + 11) + 64 * d ≤ 64 * (d + 1); omega)
section AWK
variable {E : EV} {M : MI} {K : KX} {tw : TW} {h : HP} {pc : Nat} {loc : LC} {st : List Value}
theorem aw_ialdk {q N j : Nat} {x : Int32} (hx : x.toNatClampNeg = j) (hn : q < eN E) (hk : kd q = (0, N)) (hin : inb x N = true) (d : decode (mC M) pc = .ok (.iaload, 1)) (k : AW E M K tw h (pc + 1) loc (.int (h q j) :: st)) : AW E M K tw h pc loc (.int x :: .ref q :: st) := by
  subst hx
  exact aw_iald hn hk hin d k
theorem aw_iastk {q N j : Nat} {x y : Int32} (hx : x.toNatClampNeg = j) (hn : q < eN E) (hk : kd q = (0, N)) (hin : inb x N = true) (d : decode (mC M) pc = .ok (.iastore, 1)) (k : AW E M K tw (up h q j y) (pc + 1) loc st) : AW E M K tw h pc loc (.int y :: .int x :: .ref q :: st) := by
  subst hx
  exact aw_iast hn hk hin d k
theorem aw_aaldk {q N j : Nat} {x : Int32} (hx : x.toNatClampNeg = j) (hn : q < eN E) (hk : kd q = (2, N)) (hin : inb x N = true) (d : decode (mC M) pc = .ok (.aaload, 1)) (k : AW E M K tw h (pc + 1) loc (.ref (q + 1 + j) :: st)) : AW E M K tw h pc loc (.int x :: .ref q :: st) := by
  subst hx
  exact aw_aald hn hk hin d k
end AWK

theorem TO.k {t : Nat} (h : TO t) : kd t = (8, 9) := by rcases h with rfl | rfl <;> rfl
theorem TO.n {t n : Nat} (h : TO t) (hN : 39 ≤ n) : t < n := by rcases h with rfl | rfl <;> omega
theorem TO.k1 {t : Nat} (h : TO t) : kd (t + 1) = (0, 8) := by rcases h with rfl | rfl <;> rfl
theorem TO.n1 {t n : Nat} (h : TO t) (hN : 39 ≤ n) : t + 1 < n := by rcases h with rfl | rfl <;> omega
theorem TO.k2 {t : Nat} (h : TO t) : kd (t + 2) = (0, 8) := by rcases h with rfl | rfl <;> rfl
theorem TO.n2 {t n : Nat} (h : TO t) (hN : 39 ≤ n) : t + 2 < n := by rcases h with rfl | rfl <;> omega
theorem TO.k3 {t : Nat} (h : TO t) : kd (t + 3) = (0, 8) := by rcases h with rfl | rfl <;> rfl
theorem TO.n3 {t n : Nat} (h : TO t) (hN : 39 ≤ n) : t + 3 < n := by rcases h with rfl | rfl <;> omega
theorem TO.k4 {t : Nat} (h : TO t) : kd (t + 4) = (0, 32) := by rcases h with rfl | rfl <;> rfl
theorem TO.n4 {t n : Nat} (h : TO t) (hN : 39 ≤ n) : t + 4 < n := by rcases h with rfl | rfl <;> omega
theorem DR.k {t : Nat} (h : DR t) : kd t = (3, 6) := by rcases h with rfl | rfl <;> rfl
theorem DR.n {t n : Nat} (h : DR t) (hN : 39 ≤ n) : t < n := by rcases h with rfl | rfl <;> omega
theorem DR.k1 {t : Nat} (h : DR t) : kd (t + 1) = (0, 32) := by rcases h with rfl | rfl <;> rfl
theorem DR.n1 {t n : Nat} (h : DR t) (hN : 39 ≤ n) : t + 1 < n := by rcases h with rfl | rfl <;> omega
theorem DR.k2 {t : Nat} (h : DR t) : kd (t + 2) = (0, 16) := by rcases h with rfl | rfl <;> rfl
theorem DR.n2 {t n : Nat} (h : DR t) (hN : 39 ≤ n) : t + 2 < n := by rcases h with rfl | rfl <;> omega
theorem DR.k3 {t : Nat} (h : DR t) : kd (t + 3) = (0, 8) := by rcases h with rfl | rfl <;> rfl
theorem DR.n3 {t n : Nat} (h : DR t) (hN : 39 ≤ n) : t + 3 < n := by rcases h with rfl | rfl <;> omega
theorem DR.k4 {t : Nat} (h : DR t) : kd (t + 4) = (0, 8) := by rcases h with rfl | rfl <;> rfl
theorem DR.n4 {t n : Nat} (h : DR t) (hN : 39 ≤ n) : t + 4 < n := by rcases h with rfl | rfl <;> omega
theorem SF.k {t : Nat} (h : SF t) : kd t = (5, 4) := by rcases h with rfl | rfl <;> rfl
theorem SF.n {t n : Nat} (h : SF t) (hN : 39 ≤ n) : t < n := by rcases h with rfl | rfl <;> omega
theorem SF.k1 {t : Nat} (h : SF t) : kd (t + 1) = (0, ln (t + 1)) := by rcases h with rfl | rfl <;> rfl
theorem SF.n1 {t n : Nat} (h : SF t) (hN : 39 ≤ n) : t + 1 < n := by rcases h with rfl | rfl <;> omega
theorem kd_0 : kd 0 = (9, 12) := rfl
theorem kd_1 : kd 1 = (7, 4) := rfl
theorem kd_2 : kd 2 = (0, 200) := rfl
theorem kd_3 : kd 3 = (0, 3) := rfl
theorem kd_4 : kd 4 = (8, 9) := rfl
theorem kd_5 : kd 5 = (0, 8) := rfl
theorem kd_6 : kd 6 = (0, 8) := rfl
theorem kd_7 : kd 7 = (0, 8) := rfl
theorem kd_8 : kd 8 = (0, 32) := rfl
theorem kd_9 : kd 9 = (8, 9) := rfl
theorem kd_10 : kd 10 = (0, 8) := rfl
theorem kd_11 : kd 11 = (0, 8) := rfl
theorem kd_12 : kd 12 = (0, 8) := rfl
theorem kd_13 : kd 13 = (0, 32) := rfl
theorem kd_14 : kd 14 = (3, 6) := rfl
theorem kd_15 : kd 15 = (0, 32) := rfl
theorem kd_16 : kd 16 = (0, 16) := rfl
theorem kd_17 : kd 17 = (0, 8) := rfl
theorem kd_18 : kd 18 = (0, 8) := rfl
theorem kd_19 : kd 19 = (3, 6) := rfl
theorem kd_20 : kd 20 = (0, 32) := rfl
theorem kd_21 : kd 21 = (0, 16) := rfl
theorem kd_22 : kd 22 = (0, 8) := rfl
theorem kd_23 : kd 23 = (0, 8) := rfl
theorem kd_24 : kd 24 = (5, 4) := rfl
theorem kd_25 : kd 25 = (0, 528) := rfl
theorem kd_26 : kd 26 = (5, 4) := rfl
theorem kd_27 : kd 27 = (0, 132) := rfl
theorem kd_28 : kd 28 = (0, 32) := rfl
theorem kd_29 : kd 29 = (0, 8) := rfl
theorem kd_30 : kd 30 = (6, 1) := rfl
theorem kd_31 : kd 31 = (2, 4) := rfl
theorem kd_32 : kd 32 = (0, 1089) := rfl
theorem kd_33 : kd 33 = (0, 1089) := rfl
theorem kd_34 : kd 34 = (0, 1089) := rfl
theorem kd_35 : kd 35 = (0, 1089) := rfl
theorem kd_36 : kd 36 = (4, 4) := rfl
theorem kd_37 : kd 37 = (0, 8) := rfl
theorem kd_38 : kd 38 = (0, 8) := rfl
theorem kd_39 : kd 39 = (10, 23) := rfl
theorem kd_40 : kd 40 = (0, 19) := rfl
theorem kd_41 : kd 41 = (0, 19) := rfl
theorem kd_42 : kd 42 = (0, 32) := rfl
theorem kd_43 : kd 43 = (0, 66) := rfl
theorem kd_44 : kd 44 = (0, 528) := rfl
theorem kd_45 : kd 45 = (0, 132) := rfl
theorem kd_46 : kd 46 = (0, 200) := rfl
theorem kd_47 : kd 47 = (0, 32) := rfl
theorem kd_48 : kd 48 = (0, 8) := rfl
theorem kd_49 : kd 49 = (0, 2) := rfl
theorem kd_50 : kd 50 = (0, 3) := rfl
theorem kd_51 : kd 51 = (0, 32) := rfl
theorem kd_52 : kd 52 = (0, 66) := rfl
theorem kd_53 : kd 53 = (0, 4356) := rfl
theorem kd_54 : kd 54 = (0, 256) := rfl
theorem kd_55 : kd 55 = (1, 256) := rfl
theorem kb_m2 : (Int8.ofInt (-2)).toInt32 = (-2) := by decide
theorem kb_m3 : (Int8.ofInt (-3)).toInt32 = (-3) := by decide
theorem kb_m4 : (Int8.ofInt (-4)).toInt32 = (-4) := by decide
theorem kb_10 : (Int8.ofInt 10).toInt32 = 10 := by decide
theorem kb_11 : (Int8.ofInt 11).toInt32 = 11 := by decide
theorem kb_12 : (Int8.ofInt 12).toInt32 = 12 := by decide
theorem kb_126 : (Int8.ofInt 126).toInt32 = 126 := by decide
theorem kb_16 : (Int8.ofInt 16).toInt32 = 16 := by decide
theorem kb_19 : (Int8.ofInt 19).toInt32 = 19 := by decide
theorem kb_32 : (Int8.ofInt 32).toInt32 = 32 := by decide
theorem kb_33 : (Int8.ofInt 33).toInt32 = 33 := by decide
theorem kb_34 : (Int8.ofInt 34).toInt32 = 34 := by decide
theorem kb_40 : (Int8.ofInt 40).toInt32 = 40 := by decide
theorem kb_41 : (Int8.ofInt 41).toInt32 = 41 := by decide
theorem kb_44 : (Int8.ofInt 44).toInt32 = 44 := by decide
theorem kb_46 : (Int8.ofInt 46).toInt32 = 46 := by decide
theorem kb_48 : (Int8.ofInt 48).toInt32 = 48 := by decide
theorem kb_50 : (Int8.ofInt 50).toInt32 = 50 := by decide
theorem kb_58 : (Int8.ofInt 58).toInt32 = 58 := by decide
theorem kb_59 : (Int8.ofInt 59).toInt32 = 59 := by decide
theorem kb_6 : (Int8.ofInt 6).toInt32 = 6 := by decide
theorem kb_60 : (Int8.ofInt 60).toInt32 = 60 := by decide
theorem kb_63 : (Int8.ofInt 63).toInt32 = 63 := by decide
theorem kb_66 : (Int8.ofInt 66).toInt32 = 66 := by decide
theorem kb_8 : (Int8.ofInt 8).toInt32 = 8 := by decide
theorem kb_9 : (Int8.ofInt 9).toInt32 = 9 := by decide
theorem kb_91 : (Int8.ofInt 91).toInt32 = 91 := by decide
theorem kb_93 : (Int8.ofInt 93).toInt32 = 93 := by decide
theorem kb_96 : (Int8.ofInt 96).toInt32 = 96 := by decide
theorem kb_97 : (Int8.ofInt 97).toInt32 = 97 := by decide
theorem ki_m1 : Int32.ofInt (-1) = (-1) := by decide
theorem ki_0 : Int32.ofInt 0 = 0 := by decide
theorem ki_1 : Int32.ofInt 1 = 1 := by decide
theorem ki_2 : Int32.ofInt 2 = 2 := by decide
theorem ki_3 : Int32.ofInt 3 = 3 := by decide
theorem ki_4 : Int32.ofInt 4 = 4 := by decide
theorem ib_0_19 : inb 0 19 = true := by decide
theorem ib_0_2 : inb 0 2 = true := by decide
theorem ib_0_32 : inb 0 32 = true := by decide
theorem ib_0_66 : inb 0 66 = true := by decide
theorem ib_1_19 : inb 1 19 = true := by decide
theorem ib_1_2 : inb 1 2 = true := by decide
theorem ib_1_66 : inb 1 66 = true := by decide
theorem ib_2_19 : inb 2 19 = true := by decide
theorem ib_2_66 : inb 2 66 = true := by decide
theorem ib_3_4 : inb 3 4 = true := by decide
theorem ks_m1000 : (Int16.ofInt (-1000)).toInt32 = (-1000) := by decide
theorem ks_200 : (Int16.ofInt 200).toInt32 = 200 := by decide
theorem ks_3142 : (Int16.ofInt 3142).toInt32 = 3142 := by decide
theorem ks_462 : (Int16.ofInt 462).toInt32 = 462 := by decide
theorem ks_9999 : (Int16.ofInt 9999).toInt32 = 9999 := by decide
theorem cx_0 : (0 : Int32).toNatClampNeg = 0 := by decide
theorem cx_1 : (1 : Int32).toNatClampNeg = 1 := by decide
theorem cx_2 : (2 : Int32).toNatClampNeg = 2 := by decide
theorem cx_3 : (3 : Int32).toNatClampNeg = 3 := by decide
theorem ry_X0_ringRow_X0_strike : roomy mX0_strike (rmM mX0_ringRow) := And.intro (Nat.le_of_ble_eq_true rfl) (Nat.le_of_ble_eq_true rfl)
theorem ry_X0_startWith_J7_fill_53178 : roomy mJ7_fill_53178 (rmM mX0_startWith) := And.intro (Nat.le_of_ble_eq_true rfl) (Nat.le_of_ble_eq_true rfl)
theorem ry_X0_turnOff_X0_ringRow : roomy mX0_ringRow (rmM mX0_turnOff) := And.intro (Nat.le_of_ble_eq_true rfl) (Nat.le_of_ble_eq_true rfl)
theorem ry_X0_turnOn_X0_ringRow : roomy mX0_ringRow (rmM mX0_turnOn) := And.intro (Nat.le_of_ble_eq_true rfl) (Nat.le_of_ble_eq_true rfl)
theorem ry_X1_fewestPeople_J7_fill_53178 : roomy mJ7_fill_53178 (rmM mX1_fewestPeople) := And.intro (Nat.le_of_ble_eq_true rfl) (Nat.le_of_ble_eq_true rfl)
theorem ry_X1_fewestPeople_X1_partFrom : roomy (mX1_partFrom 12) (rmM mX1_fewestPeople) := And.intro (Nat.le_of_ble_eq_true rfl) (Nat.le_of_ble_eq_true rfl)
theorem ry_X1_partFrom_J9_max_7cf53 (dd : Nat) : roomy mJ9_max_7cf53 (rmM (mX1_partFrom (dd + 1))) := And.intro (by show 0 + 1 ≤ dd + 1; omega) (by show 8 + (2 + 11) + 64 * 0 ≤ 64 * (dd + 1); omega)
theorem ry_X2_put_J9_min_7cf53 : roomy mJ9_min_7cf53 (rmM mX2_put) := And.intro (Nat.le_of_ble_eq_true rfl) (Nat.le_of_ble_eq_true rfl)
theorem ry_X2_put_X0_saveTo : roomy mX0_saveTo (rmM mX2_put) := And.intro (Nat.le_of_ble_eq_true rfl) (Nat.le_of_ble_eq_true rfl)
theorem ry_X2_takeInto_X0_loadFrom : roomy mX0_loadFrom (rmM mX2_takeInto) := And.intro (Nat.le_of_ble_eq_true rfl) (Nat.le_of_ble_eq_true rfl)
theorem ry_X3_fewestLetters_X3_fillFrom : roomy mX3_fillFrom (rmM mX3_fewestLetters) := And.intro (Nat.le_of_ble_eq_true rfl) (Nat.le_of_ble_eq_true rfl)
theorem ry_X3_fillFrom_X3_beginWithPart : roomy mX3_beginWithPart (rmM mX3_fillFrom) := And.intro (Nat.le_of_ble_eq_true rfl) (Nat.le_of_ble_eq_true rfl)
theorem ry_X3_fillFrom_X3_lettersOf : roomy mX3_lettersOf (rmM mX3_fillFrom) := And.intro (Nat.le_of_ble_eq_true rfl) (Nat.le_of_ble_eq_true rfl)
theorem ry_X3_fillFrom_X3_timesTold : roomy mX3_timesTold (rmM mX3_fillFrom) := And.intro (Nat.le_of_ble_eq_true rfl) (Nat.le_of_ble_eq_true rfl)
theorem ry_X3_lettersOf_J6_bitCount_0f7a4 : roomy mJ6_bitCount_0f7a4 (rmM mX3_lettersOf) := And.intro (Nat.le_of_ble_eq_true rfl) (Nat.le_of_ble_eq_true rfl)
theorem ry_X3_timesTold_J9_min_7cf53 : roomy mJ9_min_7cf53 (rmM mX3_timesTold) := And.intro (Nat.le_of_ble_eq_true rfl) (Nat.le_of_ble_eq_true rfl)
theorem ry_X4_accept_X4_peek : roomy mX4_peek (rmM mX4_accept) := And.intro (Nat.le_of_ble_eq_true rfl) (Nat.le_of_ble_eq_true rfl)
theorem ry_X4_readBell_X4_accept : roomy mX4_accept (rmM mX4_readBell) := And.intro (Nat.le_of_ble_eq_true rfl) (Nat.le_of_ble_eq_true rfl)
theorem ry_X4_readBell_X4_readNumber : roomy mX4_readNumber (rmM mX4_readBell) := And.intro (Nat.le_of_ble_eq_true rfl) (Nat.le_of_ble_eq_true rfl)
theorem ry_X4_readBell_X5_addBell : roomy mX5_addBell (rmM mX4_readBell) := And.intro (Nat.le_of_ble_eq_true rfl) (Nat.le_of_ble_eq_true rfl)
theorem ry_X4_readBellLetter_X4_peek : roomy mX4_peek (rmM mX4_readBellLetter) := And.intro (Nat.le_of_ble_eq_true rfl) (Nat.le_of_ble_eq_true rfl)
theorem ry_X4_readFigure_X4_peek : roomy mX4_peek (rmM mX4_readFigure) := And.intro (Nat.le_of_ble_eq_true rfl) (Nat.le_of_ble_eq_true rfl)
theorem ry_X4_readInto_X4_accept : roomy mX4_accept (rmM mX4_readInto) := And.intro (Nat.le_of_ble_eq_true rfl) (Nat.le_of_ble_eq_true rfl)
theorem ry_X4_readInto_X4_readItem : roomy mX4_readItem (rmM mX4_readInto) := And.intro (Nat.le_of_ble_eq_true rfl) (Nat.le_of_ble_eq_true rfl)
theorem ry_X4_readInto_X5_clear : roomy mX5_clear (rmM mX4_readInto) := And.intro (Nat.le_of_ble_eq_true rfl) (Nat.le_of_ble_eq_true rfl)
theorem ry_X4_readItem_X4_peek : roomy mX4_peek (rmM mX4_readItem) := And.intro (Nat.le_of_ble_eq_true rfl) (Nat.le_of_ble_eq_true rfl)
theorem ry_X4_readItem_X4_readBell : roomy mX4_readBell (rmM mX4_readItem) := And.intro (Nat.le_of_ble_eq_true rfl) (Nat.le_of_ble_eq_true rfl)
theorem ry_X4_readItem_X4_readNumber : roomy mX4_readNumber (rmM mX4_readItem) := And.intro (Nat.le_of_ble_eq_true rfl) (Nat.le_of_ble_eq_true rfl)
theorem ry_X4_readItem_X4_readTune : roomy mX4_readTune (rmM mX4_readItem) := And.intro (Nat.le_of_ble_eq_true rfl) (Nat.le_of_ble_eq_true rfl)
theorem ry_X4_readItem_X5_tellRest : roomy mX5_tellRest (rmM mX4_readItem) := And.intro (Nat.le_of_ble_eq_true rfl) (Nat.le_of_ble_eq_true rfl)
theorem ry_X4_readItem_X5_tellRows : roomy mX5_tellRows (rmM mX4_readItem) := And.intro (Nat.le_of_ble_eq_true rfl) (Nat.le_of_ble_eq_true rfl)
theorem ry_X4_readNumber_X4_readFigure : roomy mX4_readFigure (rmM mX4_readNumber) := And.intro (Nat.le_of_ble_eq_true rfl) (Nat.le_of_ble_eq_true rfl)
theorem ry_X4_readSet_J6_bitCount_0f7a4 : roomy mJ6_bitCount_0f7a4 (rmM mX4_readSet) := And.intro (Nat.le_of_ble_eq_true rfl) (Nat.le_of_ble_eq_true rfl)
theorem ry_X4_readSet_X4_accept : roomy mX4_accept (rmM mX4_readSet) := And.intro (Nat.le_of_ble_eq_true rfl) (Nat.le_of_ble_eq_true rfl)
theorem ry_X4_readSet_X4_peek : roomy mX4_peek (rmM mX4_readSet) := And.intro (Nat.le_of_ble_eq_true rfl) (Nat.le_of_ble_eq_true rfl)
theorem ry_X4_readSet_X4_readBellLetter : roomy mX4_readBellLetter (rmM mX4_readSet) := And.intro (Nat.le_of_ble_eq_true rfl) (Nat.le_of_ble_eq_true rfl)
theorem ry_X4_readTune_X4_accept : roomy mX4_accept (rmM mX4_readTune) := And.intro (Nat.le_of_ble_eq_true rfl) (Nat.le_of_ble_eq_true rfl)
theorem ry_X4_readTune_X4_peek : roomy mX4_peek (rmM mX4_readTune) := And.intro (Nat.le_of_ble_eq_true rfl) (Nat.le_of_ble_eq_true rfl)
theorem ry_X4_readTune_X4_readFigure : roomy mX4_readFigure (rmM mX4_readTune) := And.intro (Nat.le_of_ble_eq_true rfl) (Nat.le_of_ble_eq_true rfl)
theorem ry_X4_readTune_X4_readSet : roomy mX4_readSet (rmM mX4_readTune) := And.intro (Nat.le_of_ble_eq_true rfl) (Nat.le_of_ble_eq_true rfl)
theorem ry_X4_readTune_X5_addRow : roomy mX5_addRow (rmM mX4_readTune) := And.intro (Nat.le_of_ble_eq_true rfl) (Nat.le_of_ble_eq_true rfl)
theorem ry_X4_readTune_X5_tellAgain : roomy mX5_tellAgain (rmM mX4_readTune) := And.intro (Nat.le_of_ble_eq_true rfl) (Nat.le_of_ble_eq_true rfl)
theorem ry_X5_addBell_J9_abs_0f7a4 : roomy mJ9_abs_0f7a4 (rmM mX5_addBell) := And.intro (Nat.le_of_ble_eq_true rfl) (Nat.le_of_ble_eq_true rfl)
theorem ry_X5_highestTone_J9_max_7cf53 : roomy mJ9_max_7cf53 (rmM mX5_highestTone) := And.intro (Nat.le_of_ble_eq_true rfl) (Nat.le_of_ble_eq_true rfl)
theorem ry_X5_rowBehind_J9_floorMod_7cf53 : roomy mJ9_floorMod_7cf53 (rmM mX5_rowBehind) := And.intro (Nat.le_of_ble_eq_true rfl) (Nat.le_of_ble_eq_true rfl)
theorem ry_X5_tellAgain_X5_addRow : roomy mX5_addRow (rmM mX5_tellAgain) := And.intro (Nat.le_of_ble_eq_true rfl) (Nat.le_of_ble_eq_true rfl)
theorem ry_X6_again_X6_comesAgainAfter : roomy mX6_comesAgainAfter (rmM mX6_again) := And.intro (Nat.le_of_ble_eq_true rfl) (Nat.le_of_ble_eq_true rfl)
theorem ry_X6_allPins_J6_bitCount_0f7a4 : roomy mJ6_bitCount_0f7a4 (rmM mX6_allPins) := And.intro (Nat.le_of_ble_eq_true rfl) (Nat.le_of_ble_eq_true rfl)
theorem ry_X6_back_X2_clear : roomy mX2_clear (rmM mX6_back) := And.intro (Nat.le_of_ble_eq_true rfl) (Nat.le_of_ble_eq_true rfl)
theorem ry_X6_back_X2_takeInto : roomy mX2_takeInto (rmM mX6_back) := And.intro (Nat.le_of_ble_eq_true rfl) (Nat.le_of_ble_eq_true rfl)
theorem ry_X6_bell_X6_isBell : roomy mX6_isBell (rmM mX6_bell) := And.intro (Nat.le_of_ble_eq_true rfl) (Nat.le_of_ble_eq_true rfl)
theorem ry_X6_bell_X6_pinsOfBell : roomy mX6_pinsOfBell (rmM mX6_bell) := And.intro (Nat.le_of_ble_eq_true rfl) (Nat.le_of_ble_eq_true rfl)
theorem ry_X6_canon_X6_illTwos : roomy mX6_illTwos (rmM mX6_canon) := And.intro (Nat.le_of_ble_eq_true rfl) (Nat.le_of_ble_eq_true rfl)
theorem ry_X6_changes_X6_changesIfShifted : roomy mX6_changesIfShifted (rmM mX6_changes) := And.intro (Nat.le_of_ble_eq_true rfl) (Nat.le_of_ble_eq_true rfl)
theorem ry_X6_changesIfShifted_J6_bitCount_0f7a4 : roomy mJ6_bitCount_0f7a4 (rmM mX6_changesIfShifted) := And.intro (Nat.le_of_ble_eq_true rfl) (Nat.le_of_ble_eq_true rfl)
theorem ry_X6_changesIfShifted_X5_rowBehind : roomy mX5_rowBehind (rmM mX6_changesIfShifted) := And.intro (Nat.le_of_ble_eq_true rfl) (Nat.le_of_ble_eq_true rfl)
theorem ry_X6_comesAgainAfter_X5_rowBehind : roomy mX5_rowBehind (rmM mX6_comesAgainAfter) := And.intro (Nat.le_of_ble_eq_true rfl) (Nat.le_of_ble_eq_true rfl)
theorem ry_X6_count_X6_allPins : roomy mX6_allPins (rmM mX6_count) := And.intro (Nat.le_of_ble_eq_true rfl) (Nat.le_of_ble_eq_true rfl)
theorem ry_X6_fault_X4_readInto : roomy mX4_readInto (rmM mX6_fault) := And.intro (Nat.le_of_ble_eq_true rfl) (Nat.le_of_ble_eq_true rfl)
theorem ry_X6_harsh_X6_illTwos : roomy mX6_illTwos (rmM mX6_harsh) := And.intro (Nat.le_of_ble_eq_true rfl) (Nat.le_of_ble_eq_true rfl)
theorem ry_X6_hear_X6_isSet : roomy mX6_isSet (rmM mX6_hear) := And.intro (Nat.le_of_ble_eq_true rfl) (Nat.le_of_ble_eq_true rfl)
theorem ry_X6_illTwos_J6_bitCount_0f7a4 : roomy mJ6_bitCount_0f7a4 (rmM mX6_illTwos) := And.intro (Nat.le_of_ble_eq_true rfl) (Nat.le_of_ble_eq_true rfl)
theorem ry_X6_illTwos_X5_rowBehind : roomy mX5_rowBehind (rmM mX6_illTwos) := And.intro (Nat.le_of_ble_eq_true rfl) (Nat.le_of_ble_eq_true rfl)
theorem ry_X6_isHeardFrom_X5_rowBehind : roomy mX5_rowBehind (rmM mX6_isHeardFrom) := And.intro (Nat.le_of_ble_eq_true rfl) (Nat.le_of_ble_eq_true rfl)
theorem ry_X6_isSet_X5_everyBell : roomy mX5_everyBell (rmM mX6_isSet) := And.intro (Nat.le_of_ble_eq_true rfl) (Nat.le_of_ble_eq_true rfl)
theorem ry_X6_keep_X2_put : roomy mX2_put (rmM mX6_keep) := And.intro (Nat.le_of_ble_eq_true rfl) (Nat.le_of_ble_eq_true rfl)
theorem ry_X6_lay_X4_readInto : roomy mX4_readInto (rmM mX6_lay) := And.intro (Nat.le_of_ble_eq_true rfl) (Nat.le_of_ble_eq_true rfl)
theorem ry_X6_lay_X5_canBeLaid : roomy mX5_canBeLaid (rmM mX6_lay) := And.intro (Nat.le_of_ble_eq_true rfl) (Nat.le_of_ble_eq_true rfl)
theorem ry_X6_lay_X6_layTold : roomy mX6_layTold (rmM mX6_lay) := And.intro (Nat.le_of_ble_eq_true rfl) (Nat.le_of_ble_eq_true rfl)
theorem ry_X6_layTold_J7_fill_53178 : roomy mJ7_fill_53178 (rmM mX6_layTold) := And.intro (Nat.le_of_ble_eq_true rfl) (Nat.le_of_ble_eq_true rfl)
theorem ry_X6_layTold_X0_startWith : roomy mX0_startWith (rmM mX6_layTold) := And.intro (Nat.le_of_ble_eq_true rfl) (Nat.le_of_ble_eq_true rfl)
theorem ry_X6_layTold_X2_clear : roomy mX2_clear (rmM mX6_layTold) := And.intro (Nat.le_of_ble_eq_true rfl) (Nat.le_of_ble_eq_true rfl)
theorem ry_X6_letters_X3_fewestLetters : roomy mX3_fewestLetters (rmM mX6_letters) := And.intro (Nat.le_of_ble_eq_true rfl) (Nat.le_of_ble_eq_true rfl)
theorem ry_X6_melody_J9_abs_0f7a4 : roomy mJ9_abs_0f7a4 (rmM mX6_melody) := And.intro (Nat.le_of_ble_eq_true rfl) (Nat.le_of_ble_eq_true rfl)
theorem ry_X6_melody_J9_max_7cf53 : roomy mJ9_max_7cf53 (rmM mX6_melody) := And.intro (Nat.le_of_ble_eq_true rfl) (Nat.le_of_ble_eq_true rfl)
theorem ry_X6_melody_X5_highestTone : roomy mX5_highestTone (rmM mX6_melody) := And.intro (Nat.le_of_ble_eq_true rfl) (Nat.le_of_ble_eq_true rfl)
theorem ry_X6_octaves_J6_bitCount_0f7a4 : roomy mJ6_bitCount_0f7a4 (rmM mX6_octaves) := And.intro (Nat.le_of_ble_eq_true rfl) (Nat.le_of_ble_eq_true rfl)
theorem ry_X6_pin_J6_bitCount_0f7a4 : roomy mJ6_bitCount_0f7a4 (rmM mX6_pin) := And.intro (Nat.le_of_ble_eq_true rfl) (Nat.le_of_ble_eq_true rfl)
theorem ry_X6_pin_X2_put : roomy mX2_put (rmM mX6_pin) := And.intro (Nat.le_of_ble_eq_true rfl) (Nat.le_of_ble_eq_true rfl)
theorem ry_X6_pin_X6_isBell : roomy mX6_isBell (rmM mX6_pin) := And.intro (Nat.le_of_ble_eq_true rfl) (Nat.le_of_ble_eq_true rfl)
theorem ry_X6_pin_X6_isRow : roomy mX6_isRow (rmM mX6_pin) := And.intro (Nat.le_of_ble_eq_true rfl) (Nat.le_of_ble_eq_true rfl)
theorem ry_X6_pins_X6_isRow : roomy mX6_isRow (rmM mX6_pins) := And.intro (Nat.le_of_ble_eq_true rfl) (Nat.le_of_ble_eq_true rfl)
theorem ry_X6_ringers_X1_fewestPeople : roomy mX1_fewestPeople (rmM mX6_ringers) := And.intro (Nat.le_of_ble_eq_true rfl) (Nat.le_of_ble_eq_true rfl)
theorem ry_X6_ringsInATurn_J6_bitCount_0f7a4 : roomy mJ6_bitCount_0f7a4 (rmM mX6_ringsInATurn) := And.intro (Nat.le_of_ble_eq_true rfl) (Nat.le_of_ble_eq_true rfl)
theorem ry_X6_ringsInATurn_X0_turnOn : roomy mX0_turnOn (rmM mX6_ringsInATurn) := And.intro (Nat.le_of_ble_eq_true rfl) (Nat.le_of_ble_eq_true rfl)
theorem ry_X6_shift_X2_put : roomy mX2_put (rmM mX6_shift) := And.intro (Nat.le_of_ble_eq_true rfl) (Nat.le_of_ble_eq_true rfl)
theorem ry_X6_shift_X5_rowBehind : roomy mX5_rowBehind (rmM mX6_shift) := And.intro (Nat.le_of_ble_eq_true rfl) (Nat.le_of_ble_eq_true rfl)
theorem ry_X6_shift_X6_isRow : roomy mX6_isRow (rmM mX6_shift) := And.intro (Nat.le_of_ble_eq_true rfl) (Nat.le_of_ble_eq_true rfl)
theorem ry_X6_silence_J9_max_7cf53 : roomy mJ9_max_7cf53 (rmM mX6_silence) := And.intro (Nat.le_of_ble_eq_true rfl) (Nat.le_of_ble_eq_true rfl)
theorem ry_X6_silence_J9_min_7cf53 : roomy mJ9_min_7cf53 (rmM mX6_silence) := And.intro (Nat.le_of_ble_eq_true rfl) (Nat.le_of_ble_eq_true rfl)
theorem ry_X6_silence_X5_rowBehind : roomy mX5_rowBehind (rmM mX6_silence) := And.intro (Nat.le_of_ble_eq_true rfl) (Nat.le_of_ble_eq_true rfl)
theorem ry_X6_stood_X6_isHeardFrom : roomy mX6_isHeardFrom (rmM mX6_stood) := And.intro (Nat.le_of_ble_eq_true rfl) (Nat.le_of_ble_eq_true rfl)
theorem ry_X6_turn_X0_turnOn : roomy mX0_turnOn (rmM mX6_turn) := And.intro (Nat.le_of_ble_eq_true rfl) (Nat.le_of_ble_eq_true rfl)
theorem ry_X6_turn_X2_put : roomy mX2_put (rmM mX6_turn) := And.intro (Nat.le_of_ble_eq_true rfl) (Nat.le_of_ble_eq_true rfl)
theorem ry_X6_turnBack_X0_turnOff : roomy mX0_turnOff (rmM mX6_turnBack) := And.intro (Nat.le_of_ble_eq_true rfl) (Nat.le_of_ble_eq_true rfl)
theorem ry_X6_turnBack_X2_put : roomy mX2_put (rmM mX6_turnBack) := And.intro (Nat.le_of_ble_eq_true rfl) (Nat.le_of_ble_eq_true rfl)
theorem ry_X6_undo_X2_takeInto : roomy mX2_takeInto (rmM mX6_undo) := And.intro (Nat.le_of_ble_eq_true rfl) (Nat.le_of_ble_eq_true rfl)
theorem ry_X6_want_X6_isRow : roomy mX6_isRow (rmM mX6_want) := And.intro (Nat.le_of_ble_eq_true rfl) (Nat.le_of_ble_eq_true rfl)
theorem ry_X6_want_X6_isSet : roomy mX6_isSet (rmM mX6_want) := And.intro (Nat.le_of_ble_eq_true rfl) (Nat.le_of_ble_eq_true rfl)
theorem ry_X6_whole_X0_copy : roomy mX0_copy (rmM mX6_whole) := And.intro (Nat.le_of_ble_eq_true rfl) (Nat.le_of_ble_eq_true rfl)
theorem ry_X6_whole_X6_allPins : roomy mX6_allPins (rmM mX6_whole) := And.intro (Nat.le_of_ble_eq_true rfl) (Nat.le_of_ble_eq_true rfl)
theorem ry_X6_whole_X6_ringsInATurn : roomy mX6_ringsInATurn (rmM mX6_whole) := And.intro (Nat.le_of_ble_eq_true rfl) (Nat.le_of_ble_eq_true rfl)
theorem ry_X6_winter_J6_bitCount_0f7a4 : roomy mJ6_bitCount_0f7a4 (rmM mX6_winter) := And.intro (Nat.le_of_ble_eq_true rfl) (Nat.le_of_ble_eq_true rfl)
theorem ry_X6_winter_X0_copy : roomy mX0_copy (rmM mX6_winter) := And.intro (Nat.le_of_ble_eq_true rfl) (Nat.le_of_ble_eq_true rfl)
theorem ry_X6_winter_X5_rowBehind : roomy mX5_rowBehind (rmM mX6_winter) := And.intro (Nat.le_of_ble_eq_true rfl) (Nat.le_of_ble_eq_true rfl)
theorem ry_X6_winter_X6_draw : roomy mX6_draw (rmM mX6_winter) := And.intro (Nat.le_of_ble_eq_true rfl) (Nat.le_of_ble_eq_true rfl)
theorem ry_X6_wipe_X4_clear : roomy mX4_clear (rmM mX6_wipe) := And.intro (Nat.le_of_ble_eq_true rfl) (Nat.le_of_ble_eq_true rfl)
theorem ry_X6_write_X4_append : roomy mX4_append (rmM mX6_write) := And.intro (Nat.le_of_ble_eq_true rfl) (Nat.le_of_ble_eq_true rfl)
theorem ry_X7_again_X7_comesAgain : roomy mX7_comesAgain (rmM mX7_again) := And.intro (Nat.le_of_ble_eq_true rfl) (Nat.le_of_ble_eq_true rfl)
theorem ry_X7_areOne_X7_bits : roomy mX7_bits (rmM mX7_areOne) := And.intro (Nat.le_of_ble_eq_true rfl) (Nat.le_of_ble_eq_true rfl)
theorem ry_X7_back_X7_copies : roomy mX7_copies (rmM mX7_back) := And.intro (Nat.le_of_ble_eq_true rfl) (Nat.le_of_ble_eq_true rfl)
theorem ry_X7_bell_X7_has : roomy mX7_has (rmM mX7_bell) := And.intro (Nat.le_of_ble_eq_true rfl) (Nat.le_of_ble_eq_true rfl)
theorem ry_X7_bell_X7_isBell : roomy mX7_isBell (rmM mX7_bell) := And.intro (Nat.le_of_ble_eq_true rfl) (Nat.le_of_ble_eq_true rfl)
theorem ry_X7_canon_X7_illOf : roomy mX7_illOf (rmM mX7_canon) := And.intro (Nat.le_of_ble_eq_true rfl) (Nat.le_of_ble_eq_true rfl)
theorem ry_X7_canon_X7_isTwo : roomy mX7_isTwo (rmM mX7_canon) := And.intro (Nat.le_of_ble_eq_true rfl) (Nat.le_of_ble_eq_true rfl)
theorem ry_X7_canon_X7_shifted : roomy mX7_shifted (rmM mX7_canon) := And.intro (Nat.le_of_ble_eq_true rfl) (Nat.le_of_ble_eq_true rfl)
theorem ry_X7_changes_X7_bits : roomy mX7_bits (rmM mX7_changes) := And.intro (Nat.le_of_ble_eq_true rfl) (Nat.le_of_ble_eq_true rfl)
theorem ry_X7_changes_X7_isTwo : roomy mX7_isTwo (rmM mX7_changes) := And.intro (Nat.le_of_ble_eq_true rfl) (Nat.le_of_ble_eq_true rfl)
theorem ry_X7_changes_X7_shifted : roomy mX7_shifted (rmM mX7_changes) := And.intro (Nat.le_of_ble_eq_true rfl) (Nat.le_of_ble_eq_true rfl)
theorem ry_X7_chord_X7_bits : roomy mX7_bits (rmM mX7_chord) := And.intro (Nat.le_of_ble_eq_true rfl) (Nat.le_of_ble_eq_true rfl)
theorem ry_X7_chord_X7_here : roomy mX7_here (rmM mX7_chord) := And.intro (Nat.le_of_ble_eq_true rfl) (Nat.le_of_ble_eq_true rfl)
theorem ry_X7_chord_X7_isBellHere : roomy mX7_isBellHere (rmM mX7_chord) := And.intro (Nat.le_of_ble_eq_true rfl) (Nat.le_of_ble_eq_true rfl)
theorem ry_X7_comesAgain_X7_shifted : roomy mX7_shifted (rmM mX7_comesAgain) := And.intro (Nat.le_of_ble_eq_true rfl) (Nat.le_of_ble_eq_true rfl)
theorem ry_X7_comesNext_X7_rings : roomy mX7_rings (rmM mX7_comesNext) := And.intro (Nat.le_of_ble_eq_true rfl) (Nat.le_of_ble_eq_true rfl)
theorem ry_X7_count_X7_bits : roomy mX7_bits (rmM mX7_count) := And.intro (Nat.le_of_ble_eq_true rfl) (Nat.le_of_ble_eq_true rfl)
theorem ry_X7_fault_X7_clean : roomy mX7_clean (rmM mX7_fault) := And.intro (Nat.le_of_ble_eq_true rfl) (Nat.le_of_ble_eq_true rfl)
theorem ry_X7_fault_X7_takesItem : roomy mX7_takesItem (rmM mX7_fault) := And.intro (Nat.le_of_ble_eq_true rfl) (Nat.le_of_ble_eq_true rfl)
theorem ry_X7_fewest_X7_bits : roomy mX7_bits (rmM mX7_fewest) := And.intro (Nat.le_of_ble_eq_true rfl) (Nat.le_of_ble_eq_true rfl)
theorem ry_X7_fewest_X7_cell : roomy mX7_cell (rmM mX7_fewest) := And.intro (Nat.le_of_ble_eq_true rfl) (Nat.le_of_ble_eq_true rfl)
theorem ry_X7_fewest_X7_isAgain : roomy mX7_isAgain (rmM mX7_fewest) := And.intro (Nat.le_of_ble_eq_true rfl) (Nat.le_of_ble_eq_true rfl)
theorem ry_X7_go_X7_comesNext : roomy mX7_comesNext (rmM mX7_go) := And.intro (Nat.le_of_ble_eq_true rfl) (Nat.le_of_ble_eq_true rfl)
theorem ry_X7_harsh_X7_illOf : roomy mX7_illOf (rmM mX7_harsh) := And.intro (Nat.le_of_ble_eq_true rfl) (Nat.le_of_ble_eq_true rfl)
theorem ry_X7_hear_X7_isSet : roomy mX7_isSet (rmM mX7_hear) := And.intro (Nat.le_of_ble_eq_true rfl) (Nat.le_of_ble_eq_true rfl)
theorem ry_X7_illOf_X7_has : roomy mX7_has (rmM mX7_illOf) := And.intro (Nat.le_of_ble_eq_true rfl) (Nat.le_of_ble_eq_true rfl)
theorem ry_X7_illOf_X7_isIll : roomy mX7_isIll (rmM mX7_illOf) := And.intro (Nat.le_of_ble_eq_true rfl) (Nat.le_of_ble_eq_true rfl)
theorem ry_X7_isBell_X7_in : roomy mX7_in (rmM mX7_isBell) := And.intro (Nat.le_of_ble_eq_true rfl) (Nat.le_of_ble_eq_true rfl)
theorem ry_X7_isBellHere_X7_here : roomy mX7_here (rmM mX7_isBellHere) := And.intro (Nat.le_of_ble_eq_true rfl) (Nat.le_of_ble_eq_true rfl)
theorem ry_X7_isBellHere_X7_in : roomy mX7_in (rmM mX7_isBellHere) := And.intro (Nat.le_of_ble_eq_true rfl) (Nat.le_of_ble_eq_true rfl)
theorem ry_X7_isRow_X7_in : roomy mX7_in (rmM mX7_isRow) := And.intro (Nat.le_of_ble_eq_true rfl) (Nat.le_of_ble_eq_true rfl)
theorem ry_X7_isSet_X7_in : roomy mX7_in (rmM mX7_isSet) := And.intro (Nat.le_of_ble_eq_true rfl) (Nat.le_of_ble_eq_true rfl)
theorem ry_X7_isTwo_X7_in : roomy mX7_in (rmM mX7_isTwo) := And.intro (Nat.le_of_ble_eq_true rfl) (Nat.le_of_ble_eq_true rfl)
theorem ry_X7_keep_X7_copies : roomy mX7_copies (rmM mX7_keep) := And.intro (Nat.le_of_ble_eq_true rfl) (Nat.le_of_ble_eq_true rfl)
theorem ry_X7_lay_X7_begins : roomy mX7_begins (rmM mX7_lay) := And.intro (Nat.le_of_ble_eq_true rfl) (Nat.le_of_ble_eq_true rfl)
theorem ry_X7_lay_X7_fault : roomy mX7_fault (rmM mX7_lay) := And.intro (Nat.le_of_ble_eq_true rfl) (Nat.le_of_ble_eq_true rfl)
theorem ry_X7_letters_X7_cell : roomy mX7_cell (rmM mX7_letters) := And.intro (Nat.le_of_ble_eq_true rfl) (Nat.le_of_ble_eq_true rfl)
theorem ry_X7_letters_X7_fewest : roomy mX7_fewest (rmM mX7_letters) := And.intro (Nat.le_of_ble_eq_true rfl) (Nat.le_of_ble_eq_true rfl)
theorem ry_X7_melody_X7_has : roomy mX7_has (rmM mX7_melody) := And.intro (Nat.le_of_ble_eq_true rfl) (Nat.le_of_ble_eq_true rfl)
theorem ry_X7_melody_X7_in : roomy mX7_in (rmM mX7_melody) := And.intro (Nat.le_of_ble_eq_true rfl) (Nat.le_of_ble_eq_true rfl)
theorem ry_X7_pin_X7_bits : roomy mX7_bits (rmM mX7_pin) := And.intro (Nat.le_of_ble_eq_true rfl) (Nat.le_of_ble_eq_true rfl)
theorem ry_X7_pin_X7_has : roomy mX7_has (rmM mX7_pin) := And.intro (Nat.le_of_ble_eq_true rfl) (Nat.le_of_ble_eq_true rfl)
theorem ry_X7_pin_X7_isBell : roomy mX7_isBell (rmM mX7_pin) := And.intro (Nat.le_of_ble_eq_true rfl) (Nat.le_of_ble_eq_true rfl)
theorem ry_X7_pin_X7_isRow : roomy mX7_isRow (rmM mX7_pin) := And.intro (Nat.le_of_ble_eq_true rfl) (Nat.le_of_ble_eq_true rfl)
theorem ry_X7_pin_X7_remember : roomy mX7_remember (rmM mX7_pin) := And.intro (Nat.le_of_ble_eq_true rfl) (Nat.le_of_ble_eq_true rfl)
theorem ry_X7_pins_X7_isRow : roomy mX7_isRow (rmM mX7_pins) := And.intro (Nat.le_of_ble_eq_true rfl) (Nat.le_of_ble_eq_true rfl)
theorem ry_X7_remember_X7_copies : roomy mX7_copies (rmM mX7_remember) := And.intro (Nat.le_of_ble_eq_true rfl) (Nat.le_of_ble_eq_true rfl)
theorem ry_X7_ringers_X7_areOne : roomy mX7_areOne (rmM mX7_ringers) := And.intro (Nat.le_of_ble_eq_true rfl) (Nat.le_of_ble_eq_true rfl)
theorem ry_X7_rings_X7_has : roomy mX7_has (rmM mX7_rings) := And.intro (Nat.le_of_ble_eq_true rfl) (Nat.le_of_ble_eq_true rfl)
theorem ry_X7_shift_X7_isRow : roomy mX7_isRow (rmM mX7_shift) := And.intro (Nat.le_of_ble_eq_true rfl) (Nat.le_of_ble_eq_true rfl)
theorem ry_X7_shift_X7_remember : roomy mX7_remember (rmM mX7_shift) := And.intro (Nat.le_of_ble_eq_true rfl) (Nat.le_of_ble_eq_true rfl)
theorem ry_X7_shift_X7_shifted : roomy mX7_shifted (rmM mX7_shift) := And.intro (Nat.le_of_ble_eq_true rfl) (Nat.le_of_ble_eq_true rfl)
theorem ry_X7_takes_X7_here : roomy mX7_here (rmM mX7_takes) := And.intro (Nat.le_of_ble_eq_true rfl) (Nat.le_of_ble_eq_true rfl)
theorem ry_X7_takes_X7_in : roomy mX7_in (rmM mX7_takes) := And.intro (Nat.le_of_ble_eq_true rfl) (Nat.le_of_ble_eq_true rfl)
theorem ry_X7_takesBell_X7_comes : roomy mX7_comes (rmM mX7_takesBell) := And.intro (Nat.le_of_ble_eq_true rfl) (Nat.le_of_ble_eq_true rfl)
theorem ry_X7_takesBell_X7_in : roomy mX7_in (rmM mX7_takesBell) := And.intro (Nat.le_of_ble_eq_true rfl) (Nat.le_of_ble_eq_true rfl)
theorem ry_X7_takesBell_X7_takes : roomy mX7_takes (rmM mX7_takesBell) := And.intro (Nat.le_of_ble_eq_true rfl) (Nat.le_of_ble_eq_true rfl)
theorem ry_X7_takesItem_X7_here : roomy mX7_here (rmM mX7_takesItem) := And.intro (Nat.le_of_ble_eq_true rfl) (Nat.le_of_ble_eq_true rfl)
theorem ry_X7_takesItem_X7_takesBell : roomy mX7_takesBell (rmM mX7_takesItem) := And.intro (Nat.le_of_ble_eq_true rfl) (Nat.le_of_ble_eq_true rfl)
theorem ry_X7_takesItem_X7_takesOne : roomy mX7_takesOne (rmM mX7_takesItem) := And.intro (Nat.le_of_ble_eq_true rfl) (Nat.le_of_ble_eq_true rfl)
theorem ry_X7_takesItem_X7_takesTune : roomy mX7_takesTune (rmM mX7_takesItem) := And.intro (Nat.le_of_ble_eq_true rfl) (Nat.le_of_ble_eq_true rfl)
theorem ry_X7_takesOne_X7_in : roomy mX7_in (rmM mX7_takesOne) := And.intro (Nat.le_of_ble_eq_true rfl) (Nat.le_of_ble_eq_true rfl)
theorem ry_X7_takesOne_X7_takes : roomy mX7_takes (rmM mX7_takesOne) := And.intro (Nat.le_of_ble_eq_true rfl) (Nat.le_of_ble_eq_true rfl)
theorem ry_X7_takesTune_X7_chord : roomy mX7_chord (rmM mX7_takesTune) := And.intro (Nat.le_of_ble_eq_true rfl) (Nat.le_of_ble_eq_true rfl)
theorem ry_X7_takesTune_X7_here : roomy mX7_here (rmM mX7_takesTune) := And.intro (Nat.le_of_ble_eq_true rfl) (Nat.le_of_ble_eq_true rfl)
theorem ry_X7_takesTune_X7_in : roomy mX7_in (rmM mX7_takesTune) := And.intro (Nat.le_of_ble_eq_true rfl) (Nat.le_of_ble_eq_true rfl)
theorem ry_X7_takesTune_X7_isBellHere : roomy mX7_isBellHere (rmM mX7_takesTune) := And.intro (Nat.le_of_ble_eq_true rfl) (Nat.le_of_ble_eq_true rfl)
theorem ry_X7_takesTune_X7_put : roomy mX7_put (rmM mX7_takesTune) := And.intro (Nat.le_of_ble_eq_true rfl) (Nat.le_of_ble_eq_true rfl)
theorem ry_X7_takesTune_X7_tellsAgain : roomy mX7_tellsAgain (rmM mX7_takesTune) := And.intro (Nat.le_of_ble_eq_true rfl) (Nat.le_of_ble_eq_true rfl)
theorem ry_X7_tellsAgain_X7_put : roomy mX7_put (rmM mX7_tellsAgain) := And.intro (Nat.le_of_ble_eq_true rfl) (Nat.le_of_ble_eq_true rfl)
theorem ry_X7_turn_X7_comesNext : roomy mX7_comesNext (rmM mX7_turn) := And.intro (Nat.le_of_ble_eq_true rfl) (Nat.le_of_ble_eq_true rfl)
theorem ry_X7_turn_X7_remember : roomy mX7_remember (rmM mX7_turn) := And.intro (Nat.le_of_ble_eq_true rfl) (Nat.le_of_ble_eq_true rfl)
theorem ry_X7_turnBack_X7_remember : roomy mX7_remember (rmM mX7_turnBack) := And.intro (Nat.le_of_ble_eq_true rfl) (Nat.le_of_ble_eq_true rfl)
theorem ry_X7_turnBack_X7_rings : roomy mX7_rings (rmM mX7_turnBack) := And.intro (Nat.le_of_ble_eq_true rfl) (Nat.le_of_ble_eq_true rfl)
theorem ry_X7_undo_X7_copies : roomy mX7_copies (rmM mX7_undo) := And.intro (Nat.le_of_ble_eq_true rfl) (Nat.le_of_ble_eq_true rfl)
theorem ry_X7_want_X7_isRow : roomy mX7_isRow (rmM mX7_want) := And.intro (Nat.le_of_ble_eq_true rfl) (Nat.le_of_ble_eq_true rfl)
theorem ry_X7_want_X7_isSet : roomy mX7_isSet (rmM mX7_want) := And.intro (Nat.le_of_ble_eq_true rfl) (Nat.le_of_ble_eq_true rfl)
theorem ry_X7_whole_X7_copies : roomy mX7_copies (rmM mX7_whole) := And.intro (Nat.le_of_ble_eq_true rfl) (Nat.le_of_ble_eq_true rfl)
theorem ry_X7_whole_X7_go : roomy mX7_go (rmM mX7_whole) := And.intro (Nat.le_of_ble_eq_true rfl) (Nat.le_of_ble_eq_true rfl)
theorem ry_X7_whole_X7_in : roomy mX7_in (rmM mX7_whole) := And.intro (Nat.le_of_ble_eq_true rfl) (Nat.le_of_ble_eq_true rfl)
theorem ry_X7_whole_X7_sumOf : roomy mX7_sumOf (rmM mX7_whole) := And.intro (Nat.le_of_ble_eq_true rfl) (Nat.le_of_ble_eq_true rfl)
theorem ry_X7_winter_X7_bits : roomy mX7_bits (rmM mX7_winter) := And.intro (Nat.le_of_ble_eq_true rfl) (Nat.le_of_ble_eq_true rfl)
theorem ry_X7_winter_X7_copies : roomy mX7_copies (rmM mX7_winter) := And.intro (Nat.le_of_ble_eq_true rfl) (Nat.le_of_ble_eq_true rfl)
theorem ry_X7_winter_X7_in : roomy mX7_in (rmM mX7_winter) := And.intro (Nat.le_of_ble_eq_true rfl) (Nat.le_of_ble_eq_true rfl)
theorem ry_X7_winter_X7_isTwo : roomy mX7_isTwo (rmM mX7_winter) := And.intro (Nat.le_of_ble_eq_true rfl) (Nat.le_of_ble_eq_true rfl)
theorem ry_X7_write_X7_in : roomy mX7_in (rmM mX7_write) := And.intro (Nat.le_of_ble_eq_true rfl) (Nat.le_of_ble_eq_true rfl)
end
section
def f_X0_strike_7 (F : Nat) (r0 : Nat) (x1 : Int32) (r2 : Nat) : Nat → Int32 → Int32 → HP → Option (Int32 × HP)
  | 0, _, _, _ => none
  | n + 1, x3, x4, h =>
    if inb x1 8 then
      if (x3 + (h (r2 + 2) (ix x1))) ≤ x4 then
        some (0, h)
      else
        if inb x4 16 then
          if (h r0 5) < (h (r0 + 2) (ix x4)) then
            f_X0_strike_7 F r0 x1 r2 n x3 (x4 + 1) h
          else
            some (1, up h (r0 + 2) (ix x4) (((h r0 5) + (h r2 5)) + 1))
        else none
    else none
set_option maxHeartbeats 4000000 in
set_option maxRecDepth 100000 in
theorem ct_X0_strike_7 {E : EV} (hE : EI E) (hN : 39 ≤ eN E) (F : Nat) {tw : TW} {r0 : Nat} (q0 : DR r0) {x1 : Int32} {r2 : Nat} (q2 : TO r2) {v : Int32} {h' : HP} : ∀ (n : Nat) (x3 : Int32) (x4 : Int32) (h : HP), f_X0_strike_7 F r0 x1 r2 n x3 x4 h = some (v, h') → AW E mX0_strike (KM E mX0_strike (some (.int v)) tw h') tw h 7 [some (.ref r0), some (.int x1), some (.ref r2), some (.int x3), some (.int x4)] [] := by
  intro n
  induction n with
  | zero => intro x3 x4 h hf; exact absurd (show (none : Option (Int32 × HP)) = some _ from hf) (fun z => nomatch z)
  | succ n ih =>
    intro x3 x4 h hf
    rw [f_X0_strike_7] at hf
    refine aw_iload dX0_strike_7 rfl (aw_iload_n dX0_strike_9 rfl (aw_aload_n dX0_strike_10 rfl (aw_getr fkX0_65 (TO.n q2 hN) (TO.k q2) (Nat.le_of_ble_eq_true rfl) rfl dX0_strike_11 (aw_iload_n dX0_strike_14 rfl ?_))))
    obtain ⟨g1, hf⟩ := ogd hf
    refine aw_iald (TO.n2 q2 hN) (TO.k2 q2) g1 dX0_strike_15 (aw_iadd dX0_strike_16 ?_)
    refine aw_icmp_ge 60 dX0_strike_17 rfl (fun g2 => ?_) (fun g2 => ?_)
    · replace hf := (if_pos g2).symm.trans hf
      cases hf
      exact aw_iconst (0 : Int32) dX0_strike_60 ki_0 (aw_zret rfl (Or.inl rfl) dX0_strike_61)
    · replace hf := (if_neg g2).symm.trans hf
      refine aw_aload_n dX0_strike_20 rfl (aw_getr fkX0_15 (DR.n q0 hN) (DR.k q0) (Nat.le_of_ble_eq_true rfl) rfl dX0_strike_21 (aw_iload dX0_strike_24 rfl ?_))
      obtain ⟨g3, hf⟩ := ogd hf
      refine aw_iald (DR.n2 q0 hN) (DR.k2 q0) g3 dX0_strike_26 (aw_aload_n dX0_strike_27 rfl (aw_geti fkX0_51 (DR.n q0 hN) (DR.k q0) (Nat.le_of_ble_eq_true rfl) rfl dX0_strike_28 ?_))
      refine aw_icmp_gt 54 dX0_strike_31 rfl (fun g4 => ?_) (fun g4 => ?_)
      · replace hf := (if_pos g4).symm.trans hf
        refine aw_iinc (1 : Int32) dX0_strike_54 rfl (Nat.le_of_ble_eq_true rfl) ki_1 (aw_goto 7 dX0_strike_57 rfl ?_)
        exact aw_dk (ih _ _ _ hf) (And.intro rfl (And.intro rfl (And.intro rfl (And.intro rfl (And.intro rfl trivial)))))
      · replace hf := (if_neg g4).symm.trans hf
        cases hf
        refine aw_aload_n dX0_strike_34 rfl (aw_getr fkX0_15 (DR.n q0 hN) (DR.k q0) (Nat.le_of_ble_eq_true rfl) rfl dX0_strike_35 (aw_iload dX0_strike_38 rfl (aw_aload_n dX0_strike_40 rfl (aw_geti fkX0_51 (DR.n q0 hN) (DR.k q0) (Nat.le_of_ble_eq_true rfl) rfl dX0_strike_41 (aw_aload_n dX0_strike_44 rfl (aw_geti fkX0_68 (TO.n q2 hN) (TO.k q2) (Nat.le_of_ble_eq_true rfl) rfl dX0_strike_45 (aw_iadd dX0_strike_48 (aw_iconst (1 : Int32) dX0_strike_49 ki_1 (aw_iadd dX0_strike_50 (aw_iast (DR.n2 q0 hN) (DR.k2 q0) g3 dX0_strike_51 (aw_iconst (1 : Int32) dX0_strike_52 ki_1 ?_)))))))))))
        exact aw_zret rfl (Or.inr rfl) dX0_strike_53
def f_X0_strike (F : Nat) (r0 : Nat) (x1 : Int32) (r2 : Nat) (h : HP) : Option (Int32 × HP) :=
  f_X0_strike_7 F r0 x1 r2 F (x1 * 2) (x1 * 2) h
set_option maxHeartbeats 4000000 in
set_option maxRecDepth 100000 in
theorem ct_X0_strike {E : EV} (hE : EI E) (hN : 39 ≤ eN E) (F : Nat) {tw : TW} {r0 : Nat} (q0 : DR r0) {x1 : Int32} {r2 : Nat} (q2 : TO r2) {h : HP} {v : Int32} {h' : HP} (hf : f_X0_strike F r0 x1 r2 h = some (v, h')) : CT E mX0_strike tw h [.ref r0, .int x1, .ref r2] (some (.int v)) tw h' := by
  refine CT.of hE (by decide) (Nat.le_of_ble_eq_true rfl) 2 ?_
  show AW E mX0_strike (KM E mX0_strike (some (.int v)) tw h') tw h 0 [some (.ref r0), some (.int x1), some (.ref r2), none, none] []
  unfold f_X0_strike at hf
  refine aw_iload_n dX0_strike_0 rfl (aw_iconst (2 : Int32) dX0_strike_1 ki_2 (aw_imul dX0_strike_2 (aw_istore_n dX0_strike_3 (Nat.le_of_ble_eq_true rfl) (aw_iload_n dX0_strike_4 rfl (aw_istore dX0_strike_5 (Nat.le_of_ble_eq_true rfl) ?_)))))
  exact aw_dk (ct_X0_strike_7 hE hN F q0 q2 F _ _ _ hf) (And.intro rfl (And.intro rfl (And.intro rfl (And.intro rfl (And.intro rfl trivial)))))
def f_X0_ringRow_32 (F : Nat) (r0 : Nat) (x1 : Int32) (r2 : Nat) : Nat → Int32 → Int32 → HP → Option (Int32 × HP)
  | 0, _, _, _ => none
  | n + 1, x3, x4, h =>
    if (h r2 0) ≤ x4 then
      some (x3, h)
    else
      if inb x1 32 then
        if ((jshr (h (r0 + 1) (ix x1)) x4) &&& 1) = 0 then
          f_X0_ringRow_32 F r0 x1 r2 n x3 (x4 + 1) h
        else
          ob (f_X0_strike F r0 x4 r2 h) (fun v8 h6 =>
          if v8 = 0 then
            if inb x4 8 then
              f_X0_ringRow_32 F r0 x1 r2 n x3 (x4 + 1) (up h6 (r0 + 4) (ix x4) ((h6 (r0 + 4) (ix x4)) + 1))
            else none
          else
            if inb x4 8 then
              f_X0_ringRow_32 F r0 x1 r2 n (x3 ||| (jshl 1 x4)) (x4 + 1) (up h6 (r0 + 3) (ix x4) ((h6 (r0 + 3) (ix x4)) + 1))
            else none)
      else none
set_option maxHeartbeats 4000000 in
set_option maxRecDepth 100000 in
theorem ct_X0_ringRow_32 {E : EV} (hE : EI E) (hN : 39 ≤ eN E) (F : Nat) {tw : TW} {r0 : Nat} (q0 : DR r0) {x1 : Int32} {r2 : Nat} (q2 : TO r2) {v : Int32} {h' : HP} : ∀ (n : Nat) (x3 : Int32) (x4 : Int32) (h : HP), f_X0_ringRow_32 F r0 x1 r2 n x3 x4 h = some (v, h') → AW E mX0_ringRow (KM E mX0_ringRow (some (.int v)) tw h') tw h 32 [some (.ref r0), some (.int x1), some (.ref r2), some (.int x3), some (.int x4)] [] := by
  intro n
  induction n with
  | zero => intro x3 x4 h hf; exact absurd (show (none : Option (Int32 × HP)) = some _ from hf) (fun z => nomatch z)
  | succ n ih =>
    intro x3 x4 h hf
    rw [f_X0_ringRow_32] at hf
    refine aw_iload dX0_ringRow_32 rfl (aw_aload_n dX0_ringRow_34 rfl (aw_geti fkX0_58 (TO.n q2 hN) (TO.k q2) (Nat.le_of_ble_eq_true rfl) rfl dX0_ringRow_35 ?_))
    refine aw_icmp_ge 106 dX0_ringRow_38 rfl (fun g3 => ?_) (fun g3 => ?_)
    · replace hf := (if_pos g3).symm.trans hf
      cases hf
      exact aw_iload_n dX0_ringRow_106 rfl (aw_iret rfl dX0_ringRow_107)
    · replace hf := (if_neg g3).symm.trans hf
      refine aw_aload_n dX0_ringRow_41 rfl (aw_getr fkX0_9 (DR.n q0 hN) (DR.k q0) (Nat.le_of_ble_eq_true rfl) rfl dX0_ringRow_42 (aw_iload_n dX0_ringRow_45 rfl ?_))
      obtain ⟨g4, hf⟩ := ogd hf
      refine aw_iald (DR.n1 q0 hN) (DR.k1 q0) g4 dX0_ringRow_46 (aw_iload dX0_ringRow_47 rfl (aw_ishr dX0_ringRow_49 (aw_iconst (1 : Int32) dX0_ringRow_50 ki_1 (aw_iand dX0_ringRow_51 ?_))))
      refine aw_if_ne 58 dX0_ringRow_52 rfl (fun g5 => ?_) (fun g5 => ?_)
      · replace hf := (if_neg g5).symm.trans hf
        refine aw_aload_n dX0_ringRow_58 rfl (aw_iload dX0_ringRow_59 rfl (aw_aload_n dX0_ringRow_61 rfl ?_))
        obtain ⟨v8, h6, c7, hf⟩ := ob_some hf
        refine aw_callVi (N := mX0_strike) (As := [.int x4, .ref r2]) lkX0_61 okX0_strike (DR.n q0 hN) (DR.k q0) rfl (by rfl) (by rfl) (Nat.le_of_ble_eq_true rfl) ry_X0_ringRow_X0_strike dX0_ringRow_62 (And.intro (Nat.le_refl _) (Nat.le_refl _)) (ct_X0_strike hE hN F q0 q2 c7) ?_
        refine aw_if_eq 89 dX0_ringRow_65 rfl (fun g9 => ?_) (fun g9 => ?_)
        · replace hf := (if_pos g9).symm.trans hf
          refine aw_aload_n dX0_ringRow_89 rfl (aw_getr fkX0_21 (DR.n q0 hN) (DR.k q0) (Nat.le_of_ble_eq_true rfl) rfl dX0_ringRow_90 (aw_iload dX0_ringRow_93 rfl (aw_dup2 dX0_ringRow_95 rfl rfl ?_)))
          obtain ⟨g10, hf⟩ := ogd hf
          refine aw_iald (DR.n4 q0 hN) (DR.k4 q0) g10 dX0_ringRow_96 (aw_iconst (1 : Int32) dX0_ringRow_97 ki_1 (aw_iadd dX0_ringRow_98 (aw_iast (DR.n4 q0 hN) (DR.k4 q0) g10 dX0_ringRow_99 (aw_iinc (1 : Int32) dX0_ringRow_100 rfl (Nat.le_of_ble_eq_true rfl) ki_1 (aw_goto 32 dX0_ringRow_103 rfl ?_)))))
          exact aw_dk (ih _ _ _ hf) (And.intro rfl (And.intro rfl (And.intro rfl (And.intro rfl (And.intro rfl trivial)))))
        · replace hf := (if_neg g9).symm.trans hf
          refine aw_iload_n dX0_ringRow_68 rfl (aw_iconst (1 : Int32) dX0_ringRow_69 ki_1 (aw_iload dX0_ringRow_70 rfl (aw_ishl dX0_ringRow_72 (aw_ior dX0_ringRow_73 (aw_istore_n dX0_ringRow_74 (Nat.le_of_ble_eq_true rfl) (aw_aload_n dX0_ringRow_75 rfl (aw_getr fkX0_18 (DR.n q0 hN) (DR.k q0) (Nat.le_of_ble_eq_true rfl) rfl dX0_ringRow_76 (aw_iload dX0_ringRow_79 rfl (aw_dup2 dX0_ringRow_81 rfl rfl ?_)))))))))
          obtain ⟨g11, hf⟩ := ogd hf
          refine aw_iald (DR.n3 q0 hN) (DR.k3 q0) g11 dX0_ringRow_82 (aw_iconst (1 : Int32) dX0_ringRow_83 ki_1 (aw_iadd dX0_ringRow_84 (aw_iast (DR.n3 q0 hN) (DR.k3 q0) g11 dX0_ringRow_85 (aw_goto 100 dX0_ringRow_86 rfl (aw_iinc (1 : Int32) dX0_ringRow_100 rfl (Nat.le_of_ble_eq_true rfl) ki_1 (aw_goto 32 dX0_ringRow_103 rfl ?_))))))
          exact aw_dk (ih _ _ _ hf) (And.intro rfl (And.intro rfl (And.intro rfl (And.intro rfl (And.intro rfl trivial)))))
      · replace hf := (if_pos g5).symm.trans hf
        refine aw_goto 100 dX0_ringRow_55 rfl (aw_iinc (1 : Int32) dX0_ringRow_100 rfl (Nat.le_of_ble_eq_true rfl) ki_1 (aw_goto 32 dX0_ringRow_103 rfl ?_))
        exact aw_dk (ih _ _ _ hf) (And.intro rfl (And.intro rfl (And.intro rfl (And.intro rfl (And.intro rfl trivial)))))
def f_X0_ringRow (F : Nat) (r0 : Nat) (x1 : Int32) (r2 : Nat) (h : HP) : Option (Int32 × HP) :=
  if x1 < 0 then
    some (0, h)
  else
    if x1 < 32 then
      f_X0_ringRow_32 F r0 x1 r2 F 0 0 (up (up h r0 4 x1) r0 5 (((up h r0 4 x1) r0 5) + 1))
    else
      some (0, h)
set_option maxHeartbeats 4000000 in
set_option maxRecDepth 100000 in
theorem ct_X0_ringRow {E : EV} (hE : EI E) (hN : 39 ≤ eN E) (F : Nat) {tw : TW} {r0 : Nat} (q0 : DR r0) {x1 : Int32} {r2 : Nat} (q2 : TO r2) {h : HP} {v : Int32} {h' : HP} (hf : f_X0_ringRow F r0 x1 r2 h = some (v, h')) : CT E mX0_ringRow tw h [.ref r0, .int x1, .ref r2] (some (.int v)) tw h' := by
  refine CT.of hE (by decide) (Nat.le_of_ble_eq_true rfl) 2 ?_
  show AW E mX0_ringRow (KM E mX0_ringRow (some (.int v)) tw h') tw h 0 [some (.ref r0), some (.int x1), some (.ref r2), none, none] []
  unfold f_X0_ringRow at hf
  refine aw_iload_n dX0_ringRow_0 rfl ?_
  refine aw_if_lt 10 dX0_ringRow_1 rfl (fun g1 => ?_) (fun g1 => ?_)
  · replace hf := (if_pos g1).symm.trans hf
    cases hf
    exact aw_iconst (0 : Int32) dX0_ringRow_10 ki_0 (aw_iret rfl dX0_ringRow_11)
  · replace hf := (if_neg g1).symm.trans hf
    refine aw_iload_n dX0_ringRow_4 rfl (aw_bipush (32 : Int32) dX0_ringRow_5 kb_32 ?_)
    refine aw_icmp_lt 12 dX0_ringRow_7 rfl (fun g2 => ?_) (fun g2 => ?_)
    · replace hf := (if_pos g2).symm.trans hf
      refine aw_aload_n dX0_ringRow_12 rfl (aw_iload_n dX0_ringRow_13 rfl (aw_puti fkX0_48 fw_0_4 (DR.n q0 hN) (DR.k q0) (Nat.le_of_ble_eq_true rfl) rfl dX0_ringRow_14 (aw_aload_n dX0_ringRow_17 rfl (aw_dup dX0_ringRow_18 rfl (aw_geti fkX0_51 (DR.n q0 hN) (DR.k q0) (Nat.le_of_ble_eq_true rfl) rfl dX0_ringRow_19 (aw_iconst (1 : Int32) dX0_ringRow_22 ki_1 (aw_iadd dX0_ringRow_23 (aw_puti fkX0_51 fw_0_5 (DR.n q0 hN) (DR.k q0) (Nat.le_of_ble_eq_true rfl) rfl dX0_ringRow_24 (aw_iconst (0 : Int32) dX0_ringRow_27 ki_0 (aw_istore_n dX0_ringRow_28 (Nat.le_of_ble_eq_true rfl) (aw_iconst (0 : Int32) dX0_ringRow_29 ki_0 ?_)))))))))))
      refine aw_istore dX0_ringRow_30 (Nat.le_of_ble_eq_true rfl) ?_
      exact aw_dk (ct_X0_ringRow_32 hE hN F q0 q2 F _ _ _ hf) (And.intro rfl (And.intro rfl (And.intro rfl (And.intro rfl (And.intro rfl trivial)))))
    · replace hf := (if_neg g2).symm.trans hf
      cases hf
      exact aw_iconst (0 : Int32) dX0_ringRow_10 ki_0 (aw_iret rfl dX0_ringRow_11)
def f_X0_turnOn (F : Nat) (r0 : Nat) (r1 : Nat) (h : HP) : Option (Int32 × HP) :=
  ob (f_X0_ringRow F r0 (if (h r0 4) < ((h r1 4) - 1) then (h r0 4) + 1 else 0) r1 h) (fun v3 h1 =>
  some (v3, h1))
set_option maxHeartbeats 4000000 in
set_option maxRecDepth 100000 in
theorem ct_X0_turnOn {E : EV} (hE : EI E) (hN : 39 ≤ eN E) (F : Nat) {tw : TW} {r0 : Nat} (q0 : DR r0) {r1 : Nat} (q1 : TO r1) {h : HP} {v : Int32} {h' : HP} (hf : f_X0_turnOn F r0 r1 h = some (v, h')) : CT E mX0_turnOn tw h [.ref r0, .ref r1] (some (.int v)) tw h' := by
  refine CT.of hE (by decide) (Nat.le_of_ble_eq_true rfl) 0 ?_
  show AW E mX0_turnOn (KM E mX0_turnOn (some (.int v)) tw h') tw h 0 [some (.ref r0), some (.ref r1)] []
  unfold f_X0_turnOn at hf
  have key4 : AW E mX0_turnOn (KM E mX0_turnOn (some (.int v)) tw h') tw h 24 [some (.ref r0), some (.ref r1)] [.int (if (h r0 4) < ((h r1 4) - 1) then (h r0 4) + 1 else 0), .ref r0] := by
    refine aw_aload_n dX0_turnOn_24 rfl ?_
    obtain ⟨v3, h1, c2, hf⟩ := ob_some hf
    cases hf
    exact aw_callVi (N := mX0_ringRow) (As := [.int (if (h r0 4) < ((h r1 4) - 1) then (h r0 4) + 1 else 0), .ref r1]) lkX0_54 okX0_ringRow (DR.n q0 hN) (DR.k q0) rfl (by rfl) (by rfl) (Nat.le_of_ble_eq_true rfl) ry_X0_turnOn_X0_ringRow dX0_turnOn_25 (And.intro (Nat.le_refl _) (Nat.le_refl _)) (ct_X0_ringRow hE hN F q0 q1 c2) (aw_iret rfl dX0_turnOn_28)
  refine aw_aload_n dX0_turnOn_0 rfl (aw_aload_n dX0_turnOn_1 rfl (aw_geti fkX0_48 (DR.n q0 hN) (DR.k q0) (Nat.le_of_ble_eq_true rfl) rfl dX0_turnOn_2 (aw_aload_n dX0_turnOn_5 rfl (aw_geti fkX0_45 (TO.n q1 hN) (TO.k q1) (Nat.le_of_ble_eq_true rfl) rfl dX0_turnOn_6 (aw_iconst (1 : Int32) dX0_turnOn_9 ki_1 (aw_isub dX0_turnOn_10 ?_))))))
  refine aw_icmp_lt 18 dX0_turnOn_11 rfl (fun g5 => ?_) (fun g5 => ?_)
  · skip
    refine aw_aload_n dX0_turnOn_18 rfl (aw_geti fkX0_48 (DR.n q0 hN) (DR.k q0) (Nat.le_of_ble_eq_true rfl) rfl dX0_turnOn_19 (aw_iconst (1 : Int32) dX0_turnOn_22 ki_1 (aw_iadd dX0_turnOn_23 ?_)))
    simp only [if_pos g5] at key4
    exact aw_dk key4 (And.intro rfl (And.intro rfl trivial))
  · skip
    refine aw_iconst (0 : Int32) dX0_turnOn_14 ki_0 (aw_goto 24 dX0_turnOn_15 rfl ?_)
    simp only [if_neg g5] at key4
    exact aw_dk key4 (And.intro rfl (And.intro rfl trivial))
def f_J6_bitCount_0f7a4 (F : Nat) (x0 : Int32) (h : HP) : Option (Int32 × HP) :=
  some ((((((((x0 - ((jushr x0 1) &&& 1431655765)) &&& 858993459) + ((jushr (x0 - ((jushr x0 1) &&& 1431655765)) 2) &&& 858993459)) + (jushr (((x0 - ((jushr x0 1) &&& 1431655765)) &&& 858993459) + ((jushr (x0 - ((jushr x0 1) &&& 1431655765)) 2) &&& 858993459)) 4)) &&& 252645135) + (jushr (((((x0 - ((jushr x0 1) &&& 1431655765)) &&& 858993459) + ((jushr (x0 - ((jushr x0 1) &&& 1431655765)) 2) &&& 858993459)) + (jushr (((x0 - ((jushr x0 1) &&& 1431655765)) &&& 858993459) + ((jushr (x0 - ((jushr x0 1) &&& 1431655765)) 2) &&& 858993459)) 4)) &&& 252645135) 8)) + (jushr ((((((x0 - ((jushr x0 1) &&& 1431655765)) &&& 858993459) + ((jushr (x0 - ((jushr x0 1) &&& 1431655765)) 2) &&& 858993459)) + (jushr (((x0 - ((jushr x0 1) &&& 1431655765)) &&& 858993459) + ((jushr (x0 - ((jushr x0 1) &&& 1431655765)) 2) &&& 858993459)) 4)) &&& 252645135) + (jushr (((((x0 - ((jushr x0 1) &&& 1431655765)) &&& 858993459) + ((jushr (x0 - ((jushr x0 1) &&& 1431655765)) 2) &&& 858993459)) + (jushr (((x0 - ((jushr x0 1) &&& 1431655765)) &&& 858993459) + ((jushr (x0 - ((jushr x0 1) &&& 1431655765)) 2) &&& 858993459)) 4)) &&& 252645135) 8)) 16)) &&& 63, h)
set_option maxHeartbeats 4000000 in
set_option maxRecDepth 100000 in
theorem ct_J6_bitCount_0f7a4 {E : EV} (hE : EI E) {zN : Nat} (hN : zN ≤ eN E) (F : Nat) {tw : TW} {x0 : Int32} {h : HP} {v : Int32} {h' : HP} (hf : f_J6_bitCount_0f7a4 F x0 h = some (v, h')) : CT E mJ6_bitCount_0f7a4 tw h [.int x0] (some (.int v)) tw h' := by
  refine CT.of hE (by decide) (Nat.le_of_ble_eq_true rfl) 0 ?_
  show AW E mJ6_bitCount_0f7a4 (KM E mJ6_bitCount_0f7a4 (some (.int v)) tw h') tw h 0 [some (.int x0)] []
  unfold f_J6_bitCount_0f7a4 at hf
  cases hf
  refine aw_iload_n dJ6_bitCount_0f7a4_0 rfl (aw_iload_n dJ6_bitCount_0f7a4_1 rfl (aw_iconst (1 : Int32) dJ6_bitCount_0f7a4_2 ki_1 (aw_iushr dJ6_bitCount_0f7a4_3 (aw_ldcw kcJ6_265 dJ6_bitCount_0f7a4_4 (aw_iand dJ6_bitCount_0f7a4_7 (aw_isub dJ6_bitCount_0f7a4_8 (aw_istore_n dJ6_bitCount_0f7a4_9 (Nat.le_of_ble_eq_true rfl) (aw_iload_n dJ6_bitCount_0f7a4_10 rfl (aw_ldcw kcJ6_266 dJ6_bitCount_0f7a4_11 (aw_iand dJ6_bitCount_0f7a4_14 (aw_iload_n dJ6_bitCount_0f7a4_15 rfl ?_)))))))))))
  refine aw_iconst (2 : Int32) dJ6_bitCount_0f7a4_16 ki_2 (aw_iushr dJ6_bitCount_0f7a4_17 (aw_ldcw kcJ6_266 dJ6_bitCount_0f7a4_18 (aw_iand dJ6_bitCount_0f7a4_21 (aw_iadd dJ6_bitCount_0f7a4_22 (aw_istore_n dJ6_bitCount_0f7a4_23 (Nat.le_of_ble_eq_true rfl) (aw_iload_n dJ6_bitCount_0f7a4_24 rfl (aw_iload_n dJ6_bitCount_0f7a4_25 rfl (aw_iconst (4 : Int32) dJ6_bitCount_0f7a4_26 ki_4 (aw_iushr dJ6_bitCount_0f7a4_27 (aw_iadd dJ6_bitCount_0f7a4_28 (aw_ldcw kcJ6_267 dJ6_bitCount_0f7a4_29 ?_)))))))))))
  refine aw_iand dJ6_bitCount_0f7a4_32 (aw_istore_n dJ6_bitCount_0f7a4_33 (Nat.le_of_ble_eq_true rfl) (aw_iload_n dJ6_bitCount_0f7a4_34 rfl (aw_iload_n dJ6_bitCount_0f7a4_35 rfl (aw_bipush (8 : Int32) dJ6_bitCount_0f7a4_36 kb_8 (aw_iushr dJ6_bitCount_0f7a4_38 (aw_iadd dJ6_bitCount_0f7a4_39 (aw_istore_n dJ6_bitCount_0f7a4_40 (Nat.le_of_ble_eq_true rfl) (aw_iload_n dJ6_bitCount_0f7a4_41 rfl (aw_iload_n dJ6_bitCount_0f7a4_42 rfl (aw_bipush (16 : Int32) dJ6_bitCount_0f7a4_43 kb_16 (aw_iushr dJ6_bitCount_0f7a4_45 ?_)))))))))))
  refine aw_iadd dJ6_bitCount_0f7a4_46 (aw_istore_n dJ6_bitCount_0f7a4_47 (Nat.le_of_ble_eq_true rfl) (aw_iload_n dJ6_bitCount_0f7a4_48 rfl (aw_bipush (63 : Int32) dJ6_bitCount_0f7a4_49 kb_63 (aw_iand dJ6_bitCount_0f7a4_51 ?_))))
  exact aw_iret rfl dJ6_bitCount_0f7a4_52
end
