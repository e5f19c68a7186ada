section
-- ===== PART A: goes FIRST, ahead of the names: the tables' words, and 'selects' of the private methods out of them =====
/-- a private method of a class that the tables say can be made, by its rows of tables_1 -/
def lw_okq (q : MethodName × Nat) : Prop := (q.1.cls ≠ "java/lang/invoke/MethodHandle" ∧ q.1.cls ≠ "java/lang/invoke/VarHandle") ∧ Cond.instantiable q.1.cls q.2 ∈ tables_1 ∧ Cond.privateMethod q.1 ∈ tables_1 ∧ Cond.instanceMethod q.1 ∈ tables_1
theorem lw_p0 : lw_okq (⟨"RungByADrum$Text", "readItem", "(LRungByADrum$Tower;)Z"⟩, 4) := ⟨⟨by decide +kernel, by decide +kernel⟩, List.mem_of_getElem? (i := 26) (by decide +kernel), List.mem_of_getElem? (i := 244) (by decide +kernel), List.mem_of_getElem? (i := 245) (by decide +kernel)⟩
theorem lw_p1 : lw_okq (⟨"RungByADrum$Text", "peek", "()I"⟩, 4) := ⟨⟨by decide +kernel, by decide +kernel⟩, List.mem_of_getElem? (i := 26) (by decide +kernel), List.mem_of_getElem? (i := 248) (by decide +kernel), List.mem_of_getElem? (i := 249) (by decide +kernel)⟩
theorem lw_p2 : lw_okq (⟨"RungByADrum$Text", "readBell", "(LRungByADrum$Tower;)Z"⟩, 4) := ⟨⟨by decide +kernel, by decide +kernel⟩, List.mem_of_getElem? (i := 26) (by decide +kernel), List.mem_of_getElem? (i := 252) (by decide +kernel), List.mem_of_getElem? (i := 253) (by decide +kernel)⟩
theorem lw_p3 : lw_okq (⟨"RungByADrum$Text", "readNumber", "()I"⟩, 4) := ⟨⟨by decide +kernel, by decide +kernel⟩, List.mem_of_getElem? (i := 26) (by decide +kernel), List.mem_of_getElem? (i := 256) (by decide +kernel), List.mem_of_getElem? (i := 257) (by decide +kernel)⟩
theorem lw_p4 : lw_okq (⟨"RungByADrum$Text", "readFigure", "()I"⟩, 4) := ⟨⟨by decide +kernel, by decide +kernel⟩, List.mem_of_getElem? (i := 26) (by decide +kernel), List.mem_of_getElem? (i := 260) (by decide +kernel), List.mem_of_getElem? (i := 261) (by decide +kernel)⟩
theorem lw_p5 : lw_okq (⟨"RungByADrum$Text", "accept", "(I)Z"⟩, 4) := ⟨⟨by decide +kernel, by decide +kernel⟩, List.mem_of_getElem? (i := 26) (by decide +kernel), List.mem_of_getElem? (i := 264) (by decide +kernel), List.mem_of_getElem? (i := 265) (by decide +kernel)⟩
theorem lw_p6 : lw_okq (⟨"RungByADrum$Text", "readTune", "(LRungByADrum$Tower;)Z"⟩, 4) := ⟨⟨by decide +kernel, by decide +kernel⟩, List.mem_of_getElem? (i := 26) (by decide +kernel), List.mem_of_getElem? (i := 283) (by decide +kernel), List.mem_of_getElem? (i := 284) (by decide +kernel)⟩
theorem lw_p7 : lw_okq (⟨"RungByADrum$Text", "readSet", "(I)I"⟩, 4) := ⟨⟨by decide +kernel, by decide +kernel⟩, List.mem_of_getElem? (i := 26) (by decide +kernel), List.mem_of_getElem? (i := 295) (by decide +kernel), List.mem_of_getElem? (i := 296) (by decide +kernel)⟩
theorem lw_p8 : lw_okq (⟨"RungByADrum$Text", "readBellLetter", "(I)I"⟩, 4) := ⟨⟨by decide +kernel, by decide +kernel⟩, List.mem_of_getElem? (i := 26) (by decide +kernel), List.mem_of_getElem? (i := 299) (by decide +kernel), List.mem_of_getElem? (i := 300) (by decide +kernel)⟩
theorem lw_p9 : lw_okq (⟨"RungByADrum", "layTold", "()V"⟩, 12) := ⟨⟨by decide +kernel, by decide +kernel⟩, List.mem_of_getElem? (i := 18) (by decide +kernel), List.mem_of_getElem? (i := 310) (by decide +kernel), List.mem_of_getElem? (i := 311) (by decide +kernel)⟩
theorem lw_p10 : lw_okq (⟨"RungByADrum", "isBell", "(I)Z"⟩, 12) := ⟨⟨by decide +kernel, by decide +kernel⟩, List.mem_of_getElem? (i := 18) (by decide +kernel), List.mem_of_getElem? (i := 395) (by decide +kernel), List.mem_of_getElem? (i := 396) (by decide +kernel)⟩
theorem lw_p11 : lw_okq (⟨"RungByADrum", "pinsOfBell", "(I)I"⟩, 12) := ⟨⟨by decide +kernel, by decide +kernel⟩, List.mem_of_getElem? (i := 18) (by decide +kernel), List.mem_of_getElem? (i := 399) (by decide +kernel), List.mem_of_getElem? (i := 400) (by decide +kernel)⟩
theorem lw_p12 : lw_okq (⟨"RungByADrum", "isRow", "(I)Z"⟩, 12) := ⟨⟨by decide +kernel, by decide +kernel⟩, List.mem_of_getElem? (i := 18) (by decide +kernel), List.mem_of_getElem? (i := 407) (by decide +kernel), List.mem_of_getElem? (i := 408) (by decide +kernel)⟩
theorem lw_p13 : lw_okq (⟨"RungByADrum$Drum", "ringRow", "(ILRungByADrum$Tower;)I"⟩, 6) := ⟨⟨by decide +kernel, by decide +kernel⟩, List.mem_of_getElem? (i := 99) (by decide +kernel), List.mem_of_getElem? (i := 430) (by decide +kernel), List.mem_of_getElem? (i := 431) (by decide +kernel)⟩
theorem lw_p14 : lw_okq (⟨"RungByADrum$Drum", "strike", "(ILRungByADrum$Tower;)Z"⟩, 6) := ⟨⟨by decide +kernel, by decide +kernel⟩, List.mem_of_getElem? (i := 99) (by decide +kernel), List.mem_of_getElem? (i := 434) (by decide +kernel), List.mem_of_getElem? (i := 435) (by decide +kernel)⟩
theorem lw_p15 : lw_okq (⟨"RungByADrum", "ringsInATurn", "(LRungByADrum$Drum;)I"⟩, 12) := ⟨⟨by decide +kernel, by decide +kernel⟩, List.mem_of_getElem? (i := 18) (by decide +kernel), List.mem_of_getElem? (i := 483) (by decide +kernel), List.mem_of_getElem? (i := 484) (by decide +kernel)⟩
def lw_privs_1 : List (MethodName × Nat) := [(⟨"RungByADrum$Text", "readItem", "(LRungByADrum$Tower;)Z"⟩, 4), (⟨"RungByADrum$Text", "peek", "()I"⟩, 4), (⟨"RungByADrum$Text", "readBell", "(LRungByADrum$Tower;)Z"⟩, 4), (⟨"RungByADrum$Text", "readNumber", "()I"⟩, 4), (⟨"RungByADrum$Text", "readFigure", "()I"⟩, 4), (⟨"RungByADrum$Text", "accept", "(I)Z"⟩, 4), (⟨"RungByADrum$Text", "readTune", "(LRungByADrum$Tower;)Z"⟩, 4), (⟨"RungByADrum$Text", "readSet", "(I)I"⟩, 4), (⟨"RungByADrum$Text", "readBellLetter", "(I)I"⟩, 4), (⟨"RungByADrum", "layTold", "()V"⟩, 12), (⟨"RungByADrum", "isBell", "(I)Z"⟩, 12), (⟨"RungByADrum", "pinsOfBell", "(I)I"⟩, 12), (⟨"RungByADrum", "isRow", "(I)Z"⟩, 12), (⟨"RungByADrum$Drum", "ringRow", "(ILRungByADrum$Tower;)I"⟩, 6), (⟨"RungByADrum$Drum", "strike", "(ILRungByADrum$Tower;)Z"⟩, 6), (⟨"RungByADrum", "ringsInATurn", "(LRungByADrum$Drum;)I"⟩, 12)]
theorem lw_r1 : ∀ q ∈ lw_privs_1, lw_okq q := List.forall_mem_cons.mpr ⟨lw_p0, List.forall_mem_cons.mpr ⟨lw_p1, List.forall_mem_cons.mpr ⟨lw_p2, List.forall_mem_cons.mpr ⟨lw_p3, List.forall_mem_cons.mpr ⟨lw_p4, List.forall_mem_cons.mpr ⟨lw_p5, List.forall_mem_cons.mpr ⟨lw_p6, List.forall_mem_cons.mpr ⟨lw_p7, List.forall_mem_cons.mpr ⟨lw_p8, List.forall_mem_cons.mpr ⟨lw_p9, List.forall_mem_cons.mpr ⟨lw_p10, List.forall_mem_cons.mpr ⟨lw_p11, List.forall_mem_cons.mpr ⟨lw_p12, List.forall_mem_cons.mpr ⟨lw_p13, List.forall_mem_cons.mpr ⟨lw_p14, List.forall_mem_cons.mpr ⟨lw_p15, fun _ h => absurd h List.not_mem_nil⟩⟩⟩⟩⟩⟩⟩⟩⟩⟩⟩⟩⟩⟩⟩⟩
theorem lw_p16 : lw_okq (⟨"RungByADrum", "allPins", "()I"⟩, 12) := ⟨⟨by decide +kernel, by decide +kernel⟩, List.mem_of_getElem? (i := 18) (by decide +kernel), List.mem_of_getElem? (i := 487) (by decide +kernel), List.mem_of_getElem? (i := 488) (by decide +kernel)⟩
theorem lw_p17 : lw_okq (⟨"RungByADrum", "comesAgainAfter", "(I)Z"⟩, 12) := ⟨⟨by decide +kernel, by decide +kernel⟩, List.mem_of_getElem? (i := 18) (by decide +kernel), List.mem_of_getElem? (i := 501) (by decide +kernel), List.mem_of_getElem? (i := 502) (by decide +kernel)⟩
theorem lw_p18 : lw_okq (⟨"RungByADrum", "illTwos", "(I)I"⟩, 12) := ⟨⟨by decide +kernel, by decide +kernel⟩, List.mem_of_getElem? (i := 18) (by decide +kernel), List.mem_of_getElem? (i := 509) (by decide +kernel), List.mem_of_getElem? (i := 510) (by decide +kernel)⟩
theorem lw_p19 : lw_okq (⟨"RungByADrum", "isSet", "(I)Z"⟩, 12) := ⟨⟨by decide +kernel, by decide +kernel⟩, List.mem_of_getElem? (i := 18) (by decide +kernel), List.mem_of_getElem? (i := 521) (by decide +kernel), List.mem_of_getElem? (i := 522) (by decide +kernel)⟩
theorem lw_p20 : lw_okq (⟨"RungByADrum", "changesIfShifted", "(I)I"⟩, 12) := ⟨⟨by decide +kernel, by decide +kernel⟩, List.mem_of_getElem? (i := 18) (by decide +kernel), List.mem_of_getElem? (i := 533) (by decide +kernel), List.mem_of_getElem? (i := 534) (by decide +kernel)⟩
theorem lw_p21 : lw_okq (⟨"RungByADrum$Shortener", "fillFrom", "(II[II)V"⟩, 1) := ⟨⟨by decide +kernel, by decide +kernel⟩, List.mem_of_getElem? (i := 152) (by decide +kernel), List.mem_of_getElem? (i := 545) (by decide +kernel), List.mem_of_getElem? (i := 546) (by decide +kernel)⟩
theorem lw_p22 : lw_okq (⟨"RungByADrum$Shortener", "timesTold", "(II[II)I"⟩, 1) := ⟨⟨by decide +kernel, by decide +kernel⟩, List.mem_of_getElem? (i := 152) (by decide +kernel), List.mem_of_getElem? (i := 553) (by decide +kernel), List.mem_of_getElem? (i := 554) (by decide +kernel)⟩
theorem lw_p23 : lw_okq (⟨"RungByADrum$Shortener", "beginWithPart", "([IIIII)V"⟩, 1) := ⟨⟨by decide +kernel, by decide +kernel⟩, List.mem_of_getElem? (i := 152) (by decide +kernel), List.mem_of_getElem? (i := 558) (by decide +kernel), List.mem_of_getElem? (i := 559) (by decide +kernel)⟩
theorem lw_p24 : lw_okq (⟨"RungByADrum$Parting", "partFrom", "(II)V"⟩, 4) := ⟨⟨by decide +kernel, by decide +kernel⟩, List.mem_of_getElem? (i := 164) (by decide +kernel), List.mem_of_getElem? (i := 571) (by decide +kernel), List.mem_of_getElem? (i := 572) (by decide +kernel)⟩
theorem lw_p25 : lw_okq (⟨"RungByADrum", "isHeardFrom", "(I)Z"⟩, 12) := ⟨⟨by decide +kernel, by decide +kernel⟩, List.mem_of_getElem? (i := 18) (by decide +kernel), List.mem_of_getElem? (i := 588) (by decide +kernel), List.mem_of_getElem? (i := 589) (by decide +kernel)⟩
theorem lw_p26 : lw_okq (⟨"RungByADrumModel", "clean", "()V"⟩, 23) := ⟨⟨by decide +kernel, by decide +kernel⟩, List.mem_of_getElem? (i := 629) (by decide +kernel), List.mem_of_getElem? (i := 635) (by decide +kernel), List.mem_of_getElem? (i := 636) (by decide +kernel)⟩
theorem lw_p27 : lw_okq (⟨"RungByADrumModel", "comes", "(II)V"⟩, 23) := ⟨⟨by decide +kernel, by decide +kernel⟩, List.mem_of_getElem? (i := 629) (by decide +kernel), List.mem_of_getElem? (i := 639) (by decide +kernel), List.mem_of_getElem? (i := 640) (by decide +kernel)⟩
theorem lw_p28 : lw_okq (⟨"RungByADrumModel", "put", "(I)Z"⟩, 23) := ⟨⟨by decide +kernel, by decide +kernel⟩, List.mem_of_getElem? (i := 629) (by decide +kernel), List.mem_of_getElem? (i := 643) (by decide +kernel), List.mem_of_getElem? (i := 644) (by decide +kernel)⟩
theorem lw_p29 : lw_okq (⟨"RungByADrumModel", "begins", "()V"⟩, 23) := ⟨⟨by decide +kernel, by decide +kernel⟩, List.mem_of_getElem? (i := 629) (by decide +kernel), List.mem_of_getElem? (i := 647) (by decide +kernel), List.mem_of_getElem? (i := 648) (by decide +kernel)⟩
theorem lw_p30 : lw_okq (⟨"RungByADrumModel", "takesItem", "()Z"⟩, 23) := ⟨⟨by decide +kernel, by decide +kernel⟩, List.mem_of_getElem? (i := 629) (by decide +kernel), List.mem_of_getElem? (i := 739) (by decide +kernel), List.mem_of_getElem? (i := 740) (by decide +kernel)⟩
theorem lw_p31 : lw_okq (⟨"RungByADrumModel", "here", "()I"⟩, 23) := ⟨⟨by decide +kernel, by decide +kernel⟩, List.mem_of_getElem? (i := 629) (by decide +kernel), List.mem_of_getElem? (i := 743) (by decide +kernel), List.mem_of_getElem? (i := 744) (by decide +kernel)⟩
def lw_privs_2 : List (MethodName × Nat) := [(⟨"RungByADrum", "allPins", "()I"⟩, 12), (⟨"RungByADrum", "comesAgainAfter", "(I)Z"⟩, 12), (⟨"RungByADrum", "illTwos", "(I)I"⟩, 12), (⟨"RungByADrum", "isSet", "(I)Z"⟩, 12), (⟨"RungByADrum", "changesIfShifted", "(I)I"⟩, 12), (⟨"RungByADrum$Shortener", "fillFrom", "(II[II)V"⟩, 1), (⟨"RungByADrum$Shortener", "timesTold", "(II[II)I"⟩, 1), (⟨"RungByADrum$Shortener", "beginWithPart", "([IIIII)V"⟩, 1), (⟨"RungByADrum$Parting", "partFrom", "(II)V"⟩, 4), (⟨"RungByADrum", "isHeardFrom", "(I)Z"⟩, 12), (⟨"RungByADrumModel", "clean", "()V"⟩, 23), (⟨"RungByADrumModel", "comes", "(II)V"⟩, 23), (⟨"RungByADrumModel", "put", "(I)Z"⟩, 23), (⟨"RungByADrumModel", "begins", "()V"⟩, 23), (⟨"RungByADrumModel", "takesItem", "()Z"⟩, 23), (⟨"RungByADrumModel", "here", "()I"⟩, 23)]
theorem lw_r2 : ∀ q ∈ lw_privs_2, lw_okq q := List.forall_mem_cons.mpr ⟨lw_p16, List.forall_mem_cons.mpr ⟨lw_p17, List.forall_mem_cons.mpr ⟨lw_p18, List.forall_mem_cons.mpr ⟨lw_p19, List.forall_mem_cons.mpr ⟨lw_p20, List.forall_mem_cons.mpr ⟨lw_p21, List.forall_mem_cons.mpr ⟨lw_p22, List.forall_mem_cons.mpr ⟨lw_p23, List.forall_mem_cons.mpr ⟨lw_p24, List.forall_mem_cons.mpr ⟨lw_p25, List.forall_mem_cons.mpr ⟨lw_p26, List.forall_mem_cons.mpr ⟨lw_p27, List.forall_mem_cons.mpr ⟨lw_p28, List.forall_mem_cons.mpr ⟨lw_p29, List.forall_mem_cons.mpr ⟨lw_p30, List.forall_mem_cons.mpr ⟨lw_p31, fun _ h => absurd h List.not_mem_nil⟩⟩⟩⟩⟩⟩⟩⟩⟩⟩⟩⟩⟩⟩⟩⟩
theorem lw_p32 : lw_okq (⟨"RungByADrumModel", "takesBell", "()Z"⟩, 23) := ⟨⟨by decide +kernel, by decide +kernel⟩, List.mem_of_getElem? (i := 629) (by decide +kernel), List.mem_of_getElem? (i := 747) (by decide +kernel), List.mem_of_getElem? (i := 748) (by decide +kernel)⟩
theorem lw_p33 : lw_okq (⟨"RungByADrumModel", "takes", "(I)Z"⟩, 23) := ⟨⟨by decide +kernel, by decide +kernel⟩, List.mem_of_getElem? (i := 629) (by decide +kernel), List.mem_of_getElem? (i := 751) (by decide +kernel), List.mem_of_getElem? (i := 752) (by decide +kernel)⟩
theorem lw_p34 : lw_okq (⟨"RungByADrumModel", "takesOne", "(III)Z"⟩, 23) := ⟨⟨by decide +kernel, by decide +kernel⟩, List.mem_of_getElem? (i := 629) (by decide +kernel), List.mem_of_getElem? (i := 758) (by decide +kernel), List.mem_of_getElem? (i := 759) (by decide +kernel)⟩
theorem lw_p35 : lw_okq (⟨"RungByADrumModel", "takesTune", "()Z"⟩, 23) := ⟨⟨by decide +kernel, by decide +kernel⟩, List.mem_of_getElem? (i := 629) (by decide +kernel), List.mem_of_getElem? (i := 762) (by decide +kernel), List.mem_of_getElem? (i := 763) (by decide +kernel)⟩
theorem lw_p36 : lw_okq (⟨"RungByADrumModel", "isBellHere", "()Z"⟩, 23) := ⟨⟨by decide +kernel, by decide +kernel⟩, List.mem_of_getElem? (i := 629) (by decide +kernel), List.mem_of_getElem? (i := 766) (by decide +kernel), List.mem_of_getElem? (i := 767) (by decide +kernel)⟩
theorem lw_p37 : lw_okq (⟨"RungByADrumModel", "chord", "()I"⟩, 23) := ⟨⟨by decide +kernel, by decide +kernel⟩, List.mem_of_getElem? (i := 629) (by decide +kernel), List.mem_of_getElem? (i := 771) (by decide +kernel), List.mem_of_getElem? (i := 772) (by decide +kernel)⟩
theorem lw_p38 : lw_okq (⟨"RungByADrumModel", "tellsAgain", "(II)Z"⟩, 23) := ⟨⟨by decide +kernel, by decide +kernel⟩, List.mem_of_getElem? (i := 629) (by decide +kernel), List.mem_of_getElem? (i := 779) (by decide +kernel), List.mem_of_getElem? (i := 780) (by decide +kernel)⟩
theorem lw_p39 : lw_okq (⟨"RungByADrumModel", "isBell", "(I)Z"⟩, 23) := ⟨⟨by decide +kernel, by decide +kernel⟩, List.mem_of_getElem? (i := 629) (by decide +kernel), List.mem_of_getElem? (i := 792) (by decide +kernel), List.mem_of_getElem? (i := 793) (by decide +kernel)⟩
theorem lw_p40 : lw_okq (⟨"RungByADrumModel", "isRow", "(I)Z"⟩, 23) := ⟨⟨by decide +kernel, by decide +kernel⟩, List.mem_of_getElem? (i := 629) (by decide +kernel), List.mem_of_getElem? (i := 803) (by decide +kernel), List.mem_of_getElem? (i := 804) (by decide +kernel)⟩
theorem lw_p41 : lw_okq (⟨"RungByADrumModel", "remember", "()V"⟩, 23) := ⟨⟨by decide +kernel, by decide +kernel⟩, List.mem_of_getElem? (i := 629) (by decide +kernel), List.mem_of_getElem? (i := 811) (by decide +kernel), List.mem_of_getElem? (i := 812) (by decide +kernel)⟩
theorem lw_p42 : lw_okq (⟨"RungByADrumModel", "comesNext", "([I)I"⟩, 23) := ⟨⟨by decide +kernel, by decide +kernel⟩, List.mem_of_getElem? (i := 629) (by decide +kernel), List.mem_of_getElem? (i := 818) (by decide +kernel), List.mem_of_getElem? (i := 819) (by decide +kernel)⟩
theorem lw_p43 : lw_okq (⟨"RungByADrumModel", "rings", "([II)I"⟩, 23) := ⟨⟨by decide +kernel, by decide +kernel⟩, List.mem_of_getElem? (i := 629) (by decide +kernel), List.mem_of_getElem? (i := 822) (by decide +kernel), List.mem_of_getElem? (i := 823) (by decide +kernel)⟩
theorem lw_p44 : lw_okq (⟨"RungByADrumModel", "shifted", "(II)I"⟩, 23) := ⟨⟨by decide +kernel, by decide +kernel⟩, List.mem_of_getElem? (i := 629) (by decide +kernel), List.mem_of_getElem? (i := 838) (by decide +kernel), List.mem_of_getElem? (i := 839) (by decide +kernel)⟩
theorem lw_p45 : lw_okq (⟨"RungByADrumModel", "go", "(I)V"⟩, 23) := ⟨⟨by decide +kernel, by decide +kernel⟩, List.mem_of_getElem? (i := 629) (by decide +kernel), List.mem_of_getElem? (i := 850) (by decide +kernel), List.mem_of_getElem? (i := 851) (by decide +kernel)⟩
theorem lw_p46 : lw_okq (⟨"RungByADrumModel", "sumOf", "(I)I"⟩, 23) := ⟨⟨by decide +kernel, by decide +kernel⟩, List.mem_of_getElem? (i := 629) (by decide +kernel), List.mem_of_getElem? (i := 854) (by decide +kernel), List.mem_of_getElem? (i := 855) (by decide +kernel)⟩
theorem lw_p47 : lw_okq (⟨"RungByADrumModel", "comesAgain", "(I)Z"⟩, 23) := ⟨⟨by decide +kernel, by decide +kernel⟩, List.mem_of_getElem? (i := 629) (by decide +kernel), List.mem_of_getElem? (i := 866) (by decide +kernel), List.mem_of_getElem? (i := 867) (by decide +kernel)⟩
def lw_privs_3 : List (MethodName × Nat) := [(⟨"RungByADrumModel", "takesBell", "()Z"⟩, 23), (⟨"RungByADrumModel", "takes", "(I)Z"⟩, 23), (⟨"RungByADrumModel", "takesOne", "(III)Z"⟩, 23), (⟨"RungByADrumModel", "takesTune", "()Z"⟩, 23), (⟨"RungByADrumModel", "isBellHere", "()Z"⟩, 23), (⟨"RungByADrumModel", "chord", "()I"⟩, 23), (⟨"RungByADrumModel", "tellsAgain", "(II)Z"⟩, 23), (⟨"RungByADrumModel", "isBell", "(I)Z"⟩, 23), (⟨"RungByADrumModel", "isRow", "(I)Z"⟩, 23), (⟨"RungByADrumModel", "remember", "()V"⟩, 23), (⟨"RungByADrumModel", "comesNext", "([I)I"⟩, 23), (⟨"RungByADrumModel", "rings", "([II)I"⟩, 23), (⟨"RungByADrumModel", "shifted", "(II)I"⟩, 23), (⟨"RungByADrumModel", "go", "(I)V"⟩, 23), (⟨"RungByADrumModel", "sumOf", "(I)I"⟩, 23), (⟨"RungByADrumModel", "comesAgain", "(I)Z"⟩, 23)]
theorem lw_r3 : ∀ q ∈ lw_privs_3, lw_okq q := List.forall_mem_cons.mpr ⟨lw_p32, List.forall_mem_cons.mpr ⟨lw_p33, List.forall_mem_cons.mpr ⟨lw_p34, List.forall_mem_cons.mpr ⟨lw_p35, List.forall_mem_cons.mpr ⟨lw_p36, List.forall_mem_cons.mpr ⟨lw_p37, List.forall_mem_cons.mpr ⟨lw_p38, List.forall_mem_cons.mpr ⟨lw_p39, List.forall_mem_cons.mpr ⟨lw_p40, List.forall_mem_cons.mpr ⟨lw_p41, List.forall_mem_cons.mpr ⟨lw_p42, List.forall_mem_cons.mpr ⟨lw_p43, List.forall_mem_cons.mpr ⟨lw_p44, List.forall_mem_cons.mpr ⟨lw_p45, List.forall_mem_cons.mpr ⟨lw_p46, List.forall_mem_cons.mpr ⟨lw_p47, fun _ h => absurd h List.not_mem_nil⟩⟩⟩⟩⟩⟩⟩⟩⟩⟩⟩⟩⟩⟩⟩⟩
theorem lw_p48 : lw_okq (⟨"RungByADrumModel", "illOf", "(II)I"⟩, 23) := ⟨⟨by decide +kernel, by decide +kernel⟩, List.mem_of_getElem? (i := 629) (by decide +kernel), List.mem_of_getElem? (i := 874) (by decide +kernel), List.mem_of_getElem? (i := 875) (by decide +kernel)⟩
theorem lw_p49 : lw_okq (⟨"RungByADrumModel", "isIll", "(II)Z"⟩, 23) := ⟨⟨by decide +kernel, by decide +kernel⟩, List.mem_of_getElem? (i := 629) (by decide +kernel), List.mem_of_getElem? (i := 878) (by decide +kernel), List.mem_of_getElem? (i := 879) (by decide +kernel)⟩
theorem lw_p50 : lw_okq (⟨"RungByADrumModel", "isSet", "(I)Z"⟩, 23) := ⟨⟨by decide +kernel, by decide +kernel⟩, List.mem_of_getElem? (i := 629) (by decide +kernel), List.mem_of_getElem? (i := 894) (by decide +kernel), List.mem_of_getElem? (i := 895) (by decide +kernel)⟩
theorem lw_p51 : lw_okq (⟨"RungByADrumModel", "fewest", "(III)I"⟩, 23) := ⟨⟨by decide +kernel, by decide +kernel⟩, List.mem_of_getElem? (i := 629) (by decide +kernel), List.mem_of_getElem? (i := 909) (by decide +kernel), List.mem_of_getElem? (i := 910) (by decide +kernel)⟩
theorem lw_p52 : lw_okq (⟨"RungByADrumModel", "isAgain", "(III)Z"⟩, 23) := ⟨⟨by decide +kernel, by decide +kernel⟩, List.mem_of_getElem? (i := 629) (by decide +kernel), List.mem_of_getElem? (i := 913) (by decide +kernel), List.mem_of_getElem? (i := 914) (by decide +kernel)⟩
theorem lw_p53 : lw_okq (⟨"RungByADrumModel", "areOne", "(I)Z"⟩, 23) := ⟨⟨by decide +kernel, by decide +kernel⟩, List.mem_of_getElem? (i := 629) (by decide +kernel), List.mem_of_getElem? (i := 921) (by decide +kernel), List.mem_of_getElem? (i := 922) (by decide +kernel)⟩
def lw_privs_4 : List (MethodName × Nat) := [(⟨"RungByADrumModel", "illOf", "(II)I"⟩, 23), (⟨"RungByADrumModel", "isIll", "(II)Z"⟩, 23), (⟨"RungByADrumModel", "isSet", "(I)Z"⟩, 23), (⟨"RungByADrumModel", "fewest", "(III)I"⟩, 23), (⟨"RungByADrumModel", "isAgain", "(III)Z"⟩, 23), (⟨"RungByADrumModel", "areOne", "(I)Z"⟩, 23)]
theorem lw_r4 : ∀ q ∈ lw_privs_4, lw_okq q := List.forall_mem_cons.mpr ⟨lw_p48, List.forall_mem_cons.mpr ⟨lw_p49, List.forall_mem_cons.mpr ⟨lw_p50, List.forall_mem_cons.mpr ⟨lw_p51, List.forall_mem_cons.mpr ⟨lw_p52, List.forall_mem_cons.mpr ⟨lw_p53, fun _ h => absurd h List.not_mem_nil⟩⟩⟩⟩⟩⟩
def lw_privs : List (MethodName × Nat) := lw_privs_1 ++ (lw_privs_2 ++ (lw_privs_3 ++ (lw_privs_4)))
def lw_tbl : List Cond := k2_sels lw_privs ++ tables_1
theorem lw_privs_ok : ∀ q ∈ lw_privs, lw_okq q := by
  show ∀ q ∈ lw_privs_1 ++ (lw_privs_2 ++ (lw_privs_3 ++ (lw_privs_4))), lw_okq q
  exact List.forall_mem_append.mpr ⟨lw_r1, List.forall_mem_append.mpr ⟨lw_r2, List.forall_mem_append.mpr ⟨lw_r3, lw_r4⟩⟩⟩
def RX0 : String := "RungByADrum$Drum"
def TX0 : u_T := fun k => match k with
  | 0 => ("RungByADrum$Drum", "pins", "[I", true)
  | 1 => ("RungByADrum$Drum", "ready", "[I", true)
  | 2 => ("RungByADrum$Drum", "rung", "[I", true)
  | 3 => ("RungByADrum$Drum", "missed", "[I", true)
  | 4 => ("RungByADrum$Drum", "latest", "I", false)
  | _ => ("RungByADrum$Drum", "turned", "I", false)
def tyX0 : Nat → FieldType := fun k => match k with
  | 0 => .array .int
  | 1 => .array .int
  | 2 => .array .int
  | 3 => .array .int
  | 4 => .int
  | _ => .int
abbrev wsX00 : List Cond := u_ws RX0 TX0 6
theorem nmX0 : ∀ a, a < 6 → ∀ b, b < 6 → a ≠ b → (TX0 a).2.1 ≠ (TX0 b).2.1 := by decide +kernel
theorem tyX0_ok : ∀ k, k < 6 → parseFieldDescriptor (TX0 k).2.2.1 = some (tyX0 k) := by decide +kernel
abbrev cX0_init : ByteArray := prog_2_method_1_code
def yX0_init : MethodName := ⟨RX0, "<init>", "()V"⟩
abbrev cX0_startWith : ByteArray := prog_2_method_2_code
def yX0_startWith : MethodName := ⟨RX0, "startWith", "(LRungByADrum$Tower;)V"⟩
abbrev cX0_turnOn : ByteArray := prog_2_method_3_code
def yX0_turnOn : MethodName := ⟨RX0, "turnOn", "(LRungByADrum$Tower;)I"⟩
abbrev cX0_turnOff : ByteArray := prog_2_method_4_code
def yX0_turnOff : MethodName := ⟨RX0, "turnOff", "(LRungByADrum$Tower;)I"⟩
abbrev cX0_ringRow : ByteArray := prog_2_method_5_code
def yX0_ringRow : MethodName := ⟨RX0, "ringRow", "(ILRungByADrum$Tower;)I"⟩
abbrev cX0_strike : ByteArray := prog_2_method_6_code
def yX0_strike : MethodName := ⟨RX0, "strike", "(ILRungByADrum$Tower;)Z"⟩
abbrev cX0_copy : ByteArray := prog_2_method_7_code
def yX0_copy : MethodName := ⟨RX0, "copy", "(LRungByADrum$Drum;)V"⟩
abbrev cX0_saveTo : ByteArray := prog_2_method_8_code
def yX0_saveTo : MethodName := ⟨RX0, "saveTo", "([II)V"⟩
abbrev cX0_loadFrom : ByteArray := prog_2_method_9_code
def yX0_loadFrom : MethodName := ⟨RX0, "loadFrom", "([II)V"⟩
def RX1 : String := "RungByADrum$Parting"
def TX1 : u_T := fun k => match k with
  | 0 => ("RungByADrum$Parting", "clash", "[I", true)
  | 1 => ("RungByADrum$Parting", "groups", "[I", true)
  | 2 => ("RungByADrum$Parting", "bells", "I", false)
  | _ => ("RungByADrum$Parting", "fewest", "I", false)
def tyX1 : Nat → FieldType := fun k => match k with
  | 0 => .array .int
  | 1 => .array .int
  | 2 => .int
  | _ => .int
abbrev wsX10 : List Cond := u_ws RX1 TX1 4
theorem nmX1 : ∀ a, a < 4 → ∀ b, b < 4 → a ≠ b → (TX1 a).2.1 ≠ (TX1 b).2.1 := by decide +kernel
theorem tyX1_ok : ∀ k, k < 4 → parseFieldDescriptor (TX1 k).2.2.1 = some (tyX1 k) := by decide +kernel
abbrev cX1_init : ByteArray := prog_3_method_1_code
def yX1_init : MethodName := ⟨RX1, "<init>", "()V"⟩
abbrev cX1_fewestPeople : ByteArray := prog_3_method_2_code
def yX1_fewestPeople : MethodName := ⟨RX1, "fewestPeople", "([ILRungByADrum$Tower;)I"⟩
abbrev cX1_partFrom : ByteArray := prog_3_method_3_code
def yX1_partFrom : MethodName := ⟨RX1, "partFrom", "(II)V"⟩
def RX2 : String := "RungByADrum$Shelf"
def TX2 : u_T := fun k => match k with
  | 0 => ("RungByADrum$Shelf", "places", "I", true)
  | 1 => ("RungByADrum$Shelf", "cells", "[I", true)
  | 2 => ("RungByADrum$Shelf", "next", "I", false)
  | _ => ("RungByADrum$Shelf", "held", "I", false)
def tyX2 : Nat → FieldType := fun k => match k with
  | 0 => .int
  | 1 => .array .int
  | 2 => .int
  | _ => .int
abbrev wsX20 : List Cond := u_ws RX2 TX2 4
theorem nmX2 : ∀ a, a < 4 → ∀ b, b < 4 → a ≠ b → (TX2 a).2.1 ≠ (TX2 b).2.1 := by decide +kernel
theorem tyX2_ok : ∀ k, k < 4 → parseFieldDescriptor (TX2 k).2.2.1 = some (tyX2 k) := by decide +kernel
abbrev cX2_init : ByteArray := prog_4_method_1_code
def yX2_init : MethodName := ⟨RX2, "<init>", "(I)V"⟩
abbrev cX2_clear : ByteArray := prog_4_method_2_code
def yX2_clear : MethodName := ⟨RX2, "clear", "()V"⟩
abbrev cX2_put : ByteArray := prog_4_method_3_code
def yX2_put : MethodName := ⟨RX2, "put", "(LRungByADrum$Drum;)V"⟩
abbrev cX2_takeInto : ByteArray := prog_4_method_4_code
def yX2_takeInto : MethodName := ⟨RX2, "takeInto", "(LRungByADrum$Drum;)Z"⟩
def RX3 : String := "RungByADrum$Shortener"
def TX3 : u_T := fun k => match k with
  | _ => ("RungByADrum$Shortener", "fewest", "[[I", true)
def tyX3 : Nat → FieldType := fun k => match k with
  | _ => .array (.array .int)
abbrev wsX30 : List Cond := u_ws RX3 TX3 1
theorem nmX3 : ∀ a, a < 1 → ∀ b, b < 1 → a ≠ b → (TX3 a).2.1 ≠ (TX3 b).2.1 := by decide +kernel
theorem tyX3_ok : ∀ k, k < 1 → parseFieldDescriptor (TX3 k).2.2.1 = some (tyX3 k) := by decide +kernel
abbrev cX3_init : ByteArray := prog_5_method_1_code
def yX3_init : MethodName := ⟨RX3, "<init>", "()V"⟩
abbrev cX3_fewestLetters : ByteArray := prog_5_method_2_code
def yX3_fewestLetters : MethodName := ⟨RX3, "fewestLetters", "([II)I"⟩
abbrev cX3_fillFrom : ByteArray := prog_5_method_3_code
def yX3_fillFrom : MethodName := ⟨RX3, "fillFrom", "(II[II)V"⟩
abbrev cX3_beginWithPart : ByteArray := prog_5_method_4_code
def yX3_beginWithPart : MethodName := ⟨RX3, "beginWithPart", "([IIIII)V"⟩
abbrev cX3_timesTold : ByteArray := prog_5_method_5_code
def yX3_timesTold : MethodName := ⟨RX3, "timesTold", "(II[II)I"⟩
abbrev cX3_lettersOf : ByteArray := prog_5_method_6_code
def yX3_lettersOf : MethodName := ⟨RX3, "lettersOf", "(I)I"⟩
def RX4 : String := "RungByADrum$Text"
def TX4 : u_T := fun k => match k with
  | 0 => ("RungByADrum$Text", "letters", "[I", true)
  | 1 => ("RungByADrum$Text", "length", "I", false)
  | 2 => ("RungByADrum$Text", "place", "I", false)
  | _ => ("RungByADrum$Text", "openedAt", "[I", true)
def tyX4 : Nat → FieldType := fun k => match k with
  | 0 => .array .int
  | 1 => .int
  | 2 => .int
  | _ => .array .int
abbrev wsX40 : List Cond := u_ws RX4 TX4 4
theorem nmX4 : ∀ a, a < 4 → ∀ b, b < 4 → a ≠ b → (TX4 a).2.1 ≠ (TX4 b).2.1 := by decide +kernel
theorem tyX4_ok : ∀ k, k < 4 → parseFieldDescriptor (TX4 k).2.2.1 = some (tyX4 k) := by decide +kernel
abbrev cX4_init : ByteArray := prog_6_method_1_code
def yX4_init : MethodName := ⟨RX4, "<init>", "()V"⟩
abbrev cX4_append : ByteArray := prog_6_method_2_code
def yX4_append : MethodName := ⟨RX4, "append", "(I)Z"⟩
abbrev cX4_clear : ByteArray := prog_6_method_3_code
def yX4_clear : MethodName := ⟨RX4, "clear", "()V"⟩
abbrev cX4_readInto : ByteArray := prog_6_method_4_code
def yX4_readInto : MethodName := ⟨RX4, "readInto", "(LRungByADrum$Tower;)I"⟩
abbrev cX4_readItem : ByteArray := prog_6_method_5_code
def yX4_readItem : MethodName := ⟨RX4, "readItem", "(LRungByADrum$Tower;)Z"⟩
abbrev cX4_readBell : ByteArray := prog_6_method_6_code
def yX4_readBell : MethodName := ⟨RX4, "readBell", "(LRungByADrum$Tower;)Z"⟩
abbrev cX4_readTune : ByteArray := prog_6_method_7_code
def yX4_readTune : MethodName := ⟨RX4, "readTune", "(LRungByADrum$Tower;)Z"⟩
abbrev cX4_readSet : ByteArray := prog_6_method_8_code
def yX4_readSet : MethodName := ⟨RX4, "readSet", "(I)I"⟩
abbrev cX4_readBellLetter : ByteArray := prog_6_method_9_code
def yX4_readBellLetter : MethodName := ⟨RX4, "readBellLetter", "(I)I"⟩
abbrev cX4_readNumber : ByteArray := prog_6_method_10_code
def yX4_readNumber : MethodName := ⟨RX4, "readNumber", "()I"⟩
abbrev cX4_readFigure : ByteArray := prog_6_method_11_code
def yX4_readFigure : MethodName := ⟨RX4, "readFigure", "()I"⟩
abbrev cX4_accept : ByteArray := prog_6_method_12_code
def yX4_accept : MethodName := ⟨RX4, "accept", "(I)Z"⟩
abbrev cX4_peek : ByteArray := prog_6_method_13_code
def yX4_peek : MethodName := ⟨RX4, "peek", "()I"⟩
def RX5 : String := "RungByADrum$Tower"
def TX5 : u_T := fun k => match k with
  | 0 => ("RungByADrum$Tower", "bells", "I", false)
  | 1 => ("RungByADrum$Tower", "tones", "[I", true)
  | 2 => ("RungByADrum$Tower", "hammers", "[I", true)
  | 3 => ("RungByADrum$Tower", "illWith", "[I", true)
  | 4 => ("RungByADrum$Tower", "rows", "I", false)
  | 5 => ("RungByADrum$Tower", "rest", "I", false)
  | 6 => ("RungByADrum$Tower", "hasTune", "Z", false)
  | 7 => ("RungByADrum$Tower", "tuneRows", "I", false)
  | _ => ("RungByADrum$Tower", "tune", "[I", true)
def tyX5 : Nat → FieldType := fun k => match k with
  | 0 => .int
  | 1 => .array .int
  | 2 => .array .int
  | 3 => .array .int
  | 4 => .int
  | 5 => .int
  | 6 => .boolean
  | 7 => .int
  | _ => .array .int
abbrev wsX50 : List Cond := u_ws RX5 TX5 9
theorem nmX5 : ∀ a, a < 9 → ∀ b, b < 9 → a ≠ b → (TX5 a).2.1 ≠ (TX5 b).2.1 := by decide +kernel
theorem tyX5_ok : ∀ k, k < 9 → parseFieldDescriptor (TX5 k).2.2.1 = some (tyX5 k) := by decide +kernel
abbrev cX5_init : ByteArray := prog_7_method_1_code
def yX5_init : MethodName := ⟨RX5, "<init>", "()V"⟩
abbrev cX5_clear : ByteArray := prog_7_method_2_code
def yX5_clear : MethodName := ⟨RX5, "clear", "()V"⟩
abbrev cX5_addBell : ByteArray := prog_7_method_3_code
def yX5_addBell : MethodName := ⟨RX5, "addBell", "(II)Z"⟩
abbrev cX5_tellRows : ByteArray := prog_7_method_4_code
def yX5_tellRows : MethodName := ⟨RX5, "tellRows", "(I)Z"⟩
abbrev cX5_tellRest : ByteArray := prog_7_method_5_code
def yX5_tellRest : MethodName := ⟨RX5, "tellRest", "(I)Z"⟩
abbrev cX5_addRow : ByteArray := prog_7_method_6_code
def yX5_addRow : MethodName := ⟨RX5, "addRow", "(I)Z"⟩
abbrev cX5_tellAgain : ByteArray := prog_7_method_7_code
def yX5_tellAgain : MethodName := ⟨RX5, "tellAgain", "(II)Z"⟩
abbrev cX5_canBeLaid : ByteArray := prog_7_method_8_code
def yX5_canBeLaid : MethodName := ⟨RX5, "canBeLaid", "()Z"⟩
abbrev cX5_everyBell : ByteArray := prog_7_method_9_code
def yX5_everyBell : MethodName := ⟨RX5, "everyBell", "()I"⟩
abbrev cX5_rowBehind : ByteArray := prog_7_method_10_code
def yX5_rowBehind : MethodName := ⟨RX5, "rowBehind", "(II)I"⟩
abbrev cX5_highestTone : ByteArray := prog_7_method_11_code
def yX5_highestTone : MethodName := ⟨RX5, "highestTone", "(I)I"⟩
def RX6 : String := "RungByADrum"
def TX6 : u_T := fun k => match k with
  | 0 => ("RungByADrum", "text", "LRungByADrum$Text;", true)
  | 1 => ("RungByADrum", "tower", "LRungByADrum$Tower;", false)
  | 2 => ("RungByADrum", "told", "LRungByADrum$Tower;", false)
  | 3 => ("RungByADrum", "drum", "LRungByADrum$Drum;", true)
  | 4 => ("RungByADrum", "tried", "LRungByADrum$Drum;", true)
  | 5 => ("RungByADrum", "undoable", "LRungByADrum$Shelf;", true)
  | 6 => ("RungByADrum", "kept", "LRungByADrum$Shelf;", true)
  | 7 => ("RungByADrum", "wanted", "[I", true)
  | 8 => ("RungByADrum", "heard", "[I", true)
  | 9 => ("RungByADrum", "heardCount", "I", false)
  | 10 => ("RungByADrum", "shortener", "LRungByADrum$Shortener;", true)
  | _ => ("RungByADrum", "parting", "LRungByADrum$Parting;", true)
def tyX6 : Nat → FieldType := fun k => match k with
  | 0 => .object "RungByADrum$Text"
  | 1 => .object "RungByADrum$Tower"
  | 2 => .object "RungByADrum$Tower"
  | 3 => .object "RungByADrum$Drum"
  | 4 => .object "RungByADrum$Drum"
  | 5 => .object "RungByADrum$Shelf"
  | 6 => .object "RungByADrum$Shelf"
  | 7 => .array .int
  | 8 => .array .int
  | 9 => .int
  | 10 => .object "RungByADrum$Shortener"
  | _ => .object "RungByADrum$Parting"
abbrev wsX60 : List Cond := u_ws RX6 TX6 12
theorem nmX6 : ∀ a, a < 12 → ∀ b, b < 12 → a ≠ b → (TX6 a).2.1 ≠ (TX6 b).2.1 := by decide +kernel
theorem tyX6_ok : ∀ k, k < 12 → parseFieldDescriptor (TX6 k).2.2.1 = some (tyX6 k) := by decide +kernel
abbrev cX6_init : ByteArray := prog_1_method_1_code
def yX6_init : MethodName := ⟨RX6, "<init>", "()V"⟩
abbrev cX6_write : ByteArray := prog_1_method_2_code
def yX6_write : MethodName := ⟨RX6, "write", "(I)I"⟩
abbrev cX6_wipe : ByteArray := prog_1_method_3_code
def yX6_wipe : MethodName := ⟨RX6, "wipe", "()I"⟩
abbrev cX6_fault : ByteArray := prog_1_method_4_code
def yX6_fault : MethodName := ⟨RX6, "fault", "()I"⟩
abbrev cX6_lay : ByteArray := prog_1_method_5_code
def yX6_lay : MethodName := ⟨RX6, "lay", "()I"⟩
abbrev cX6_bell : ByteArray := prog_1_method_6_code
def yX6_bell : MethodName := ⟨RX6, "bell", "(II)I"⟩
abbrev cX6_pins : ByteArray := prog_1_method_7_code
def yX6_pins : MethodName := ⟨RX6, "pins", "(I)I"⟩
abbrev cX6_layTold : ByteArray := prog_1_method_8_code
def yX6_layTold : MethodName := ⟨RX6, "layTold", "()V"⟩
abbrev cX6_isBell : ByteArray := prog_1_method_9_code
def yX6_isBell : MethodName := ⟨RX6, "isBell", "(I)Z"⟩
abbrev cX6_isRow : ByteArray := prog_1_method_10_code
def yX6_isRow : MethodName := ⟨RX6, "isRow", "(I)Z"⟩
abbrev cX6_isSet : ByteArray := prog_1_method_11_code
def yX6_isSet : MethodName := ⟨RX6, "isSet", "(I)Z"⟩
abbrev cX6_pinsOfBell : ByteArray := prog_1_method_12_code
def yX6_pinsOfBell : MethodName := ⟨RX6, "pinsOfBell", "(I)I"⟩
abbrev cX6_turn : ByteArray := prog_1_method_13_code
def yX6_turn : MethodName := ⟨RX6, "turn", "()I"⟩
abbrev cX6_turnBack : ByteArray := prog_1_method_14_code
def yX6_turnBack : MethodName := ⟨RX6, "turnBack", "()I"⟩
abbrev cX6_pin : ByteArray := prog_1_method_15_code
def yX6_pin : MethodName := ⟨RX6, "pin", "(IIZ)I"⟩
abbrev cX6_shift : ByteArray := prog_1_method_16_code
def yX6_shift : MethodName := ⟨RX6, "shift", "(I)I"⟩
abbrev cX6_undo : ByteArray := prog_1_method_17_code
def yX6_undo : MethodName := ⟨RX6, "undo", "()I"⟩
abbrev cX6_whole : ByteArray := prog_1_method_18_code
def yX6_whole : MethodName := ⟨RX6, "whole", "(I)I"⟩
abbrev cX6_silence : ByteArray := prog_1_method_19_code
def yX6_silence : MethodName := ⟨RX6, "silence", "()I"⟩
abbrev cX6_again : ByteArray := prog_1_method_20_code
def yX6_again : MethodName := ⟨RX6, "again", "()I"⟩
abbrev cX6_harsh : ByteArray := prog_1_method_21_code
def yX6_harsh : MethodName := ⟨RX6, "harsh", "()I"⟩
abbrev cX6_canon : ByteArray := prog_1_method_22_code
def yX6_canon : MethodName := ⟨RX6, "canon", "(I)I"⟩
abbrev cX6_ringsInATurn : ByteArray := prog_1_method_23_code
def yX6_ringsInATurn : MethodName := ⟨RX6, "ringsInATurn", "(LRungByADrum$Drum;)I"⟩
abbrev cX6_allPins : ByteArray := prog_1_method_24_code
def yX6_allPins : MethodName := ⟨RX6, "allPins", "()I"⟩
abbrev cX6_comesAgainAfter : ByteArray := prog_1_method_25_code
def yX6_comesAgainAfter : MethodName := ⟨RX6, "comesAgainAfter", "(I)Z"⟩
abbrev cX6_illTwos : ByteArray := prog_1_method_26_code
def yX6_illTwos : MethodName := ⟨RX6, "illTwos", "(I)I"⟩
abbrev cX6_want : ByteArray := prog_1_method_27_code
def yX6_want : MethodName := ⟨RX6, "want", "(II)I"⟩
abbrev cX6_changes : ByteArray := prog_1_method_28_code
def yX6_changes : MethodName := ⟨RX6, "changes", "(I)I"⟩
abbrev cX6_letters : ByteArray := prog_1_method_29_code
def yX6_letters : MethodName := ⟨RX6, "letters", "()I"⟩
abbrev cX6_ringers : ByteArray := prog_1_method_30_code
def yX6_ringers : MethodName := ⟨RX6, "ringers", "()I"⟩
abbrev cX6_changesIfShifted : ByteArray := prog_1_method_31_code
def yX6_changesIfShifted : MethodName := ⟨RX6, "changesIfShifted", "(I)I"⟩
abbrev cX6_hear : ByteArray := prog_1_method_32_code
def yX6_hear : MethodName := ⟨RX6, "hear", "(I)I"⟩
abbrev cX6_forget : ByteArray := prog_1_method_33_code
def yX6_forget : MethodName := ⟨RX6, "forget", "()I"⟩
abbrev cX6_stood : ByteArray := prog_1_method_34_code
def yX6_stood : MethodName := ⟨RX6, "stood", "()I"⟩
abbrev cX6_octaves : ByteArray := prog_1_method_35_code
def yX6_octaves : MethodName := ⟨RX6, "octaves", "()I"⟩
abbrev cX6_melody : ByteArray := prog_1_method_36_code
def yX6_melody : MethodName := ⟨RX6, "melody", "(I)I"⟩
abbrev cX6_winter : ByteArray := prog_1_method_37_code
def yX6_winter : MethodName := ⟨RX6, "winter", "(III)I"⟩
abbrev cX6_keep : ByteArray := prog_1_method_38_code
def yX6_keep : MethodName := ⟨RX6, "keep", "()I"⟩
abbrev cX6_back : ByteArray := prog_1_method_39_code
def yX6_back : MethodName := ⟨RX6, "back", "()I"⟩
abbrev cX6_count : ByteArray := prog_1_method_40_code
def yX6_count : MethodName := ⟨RX6, "count", "(I)I"⟩
abbrev cX6_isHeardFrom : ByteArray := prog_1_method_41_code
def yX6_isHeardFrom : MethodName := ⟨RX6, "isHeardFrom", "(I)Z"⟩
abbrev cX6_draw : ByteArray := prog_1_method_42_code
def yX6_draw : MethodName := ⟨RX6, "draw", "(II)I"⟩
def RX7 : String := "RungByADrumModel"
def TX7 : u_T := fun k => match k with
  | 0 => ("RungByADrumModel", "tower", "[I", true)
  | 1 => ("RungByADrumModel", "read", "[I", true)
  | 2 => ("RungByADrumModel", "tune", "[I", true)
  | 3 => ("RungByADrumModel", "tuneRows", "I", false)
  | 4 => ("RungByADrumModel", "now", "[I", true)
  | 5 => ("RungByADrumModel", "past", "[I", true)
  | 6 => ("RungByADrumModel", "undos", "I", false)
  | 7 => ("RungByADrumModel", "kept", "[I", true)
  | 8 => ("RungByADrumModel", "keptMany", "I", false)
  | 9 => ("RungByADrumModel", "text", "[I", true)
  | 10 => ("RungByADrumModel", "size", "I", false)
  | 11 => ("RungByADrumModel", "wanted", "[I", true)
  | 12 => ("RungByADrumModel", "heard", "[I", true)
  | 13 => ("RungByADrumModel", "heardMany", "I", false)
  | 14 => ("RungByADrumModel", "at", "I", false)
  | 15 => ("RungByADrumModel", "isTune", "Z", false)
  | 16 => ("RungByADrumModel", "numbers", "[I", true)
  | 17 => ("RungByADrumModel", "starts", "[I", true)
  | 18 => ("RungByADrumModel", "moved", "[I", true)
  | 19 => ("RungByADrumModel", "aside", "[I", true)
  | 20 => ("RungByADrumModel", "shortest", "[I", true)
  | 21 => ("RungByADrumModel", "people", "[I", true)
  | _ => ("RungByADrumModel", "ones", "[Z", true)
def tyX7 : Nat → FieldType := fun k => match k with
  | 0 => .array .int
  | 1 => .array .int
  | 2 => .array .int
  | 3 => .int
  | 4 => .array .int
  | 5 => .array .int
  | 6 => .int
  | 7 => .array .int
  | 8 => .int
  | 9 => .array .int
  | 10 => .int
  | 11 => .array .int
  | 12 => .array .int
  | 13 => .int
  | 14 => .int
  | 15 => .boolean
  | 16 => .array .int
  | 17 => .array .int
  | 18 => .array .int
  | 19 => .array .int
  | 20 => .array .int
  | 21 => .array .int
  | _ => .array .boolean
abbrev wsX70 : List Cond := u_ws RX7 TX7 23
theorem nmX7 : ∀ a, a < 23 → ∀ b, b < 23 → a ≠ b → (TX7 a).2.1 ≠ (TX7 b).2.1 := by decide +kernel
theorem tyX7_ok : ∀ k, k < 23 → parseFieldDescriptor (TX7 k).2.2.1 = some (tyX7 k) := by decide +kernel
abbrev cX7_init : ByteArray := prog_9_method_1_code
def yX7_init : MethodName := ⟨RX7, "<init>", "()V"⟩
abbrev cX7_in : ByteArray := prog_9_method_3_code
def yX7_in : MethodName := ⟨RX7, "in", "(JJJ)Z"⟩
abbrev cX7_isTwo : ByteArray := prog_9_method_4_code
def yX7_isTwo : MethodName := ⟨RX7, "isTwo", "(I)Z"⟩
abbrev cX7_has : ByteArray := prog_9_method_5_code
def yX7_has : MethodName := ⟨RX7, "has", "(II)Z"⟩
abbrev cX7_bits : ByteArray := prog_9_method_6_code
def yX7_bits : MethodName := ⟨RX7, "bits", "(I)I"⟩
abbrev cX7_write : ByteArray := prog_9_method_7_code
def yX7_write : MethodName := ⟨RX7, "write", "(I)I"⟩
abbrev cX7_wipe : ByteArray := prog_9_method_8_code
def yX7_wipe : MethodName := ⟨RX7, "wipe", "()I"⟩
abbrev cX7_clean : ByteArray := prog_9_method_9_code
def yX7_clean : MethodName := ⟨RX7, "clean", "()V"⟩
abbrev cX7_comes : ByteArray := prog_9_method_10_code
def yX7_comes : MethodName := ⟨RX7, "comes", "(II)V"⟩
abbrev cX7_put : ByteArray := prog_9_method_11_code
def yX7_put : MethodName := ⟨RX7, "put", "(I)Z"⟩
abbrev cX7_here : ByteArray := prog_9_method_12_code
def yX7_here : MethodName := ⟨RX7, "here", "()I"⟩
abbrev cX7_takes : ByteArray := prog_9_method_13_code
def yX7_takes : MethodName := ⟨RX7, "takes", "(I)Z"⟩
abbrev cX7_takesBell : ByteArray := prog_9_method_14_code
def yX7_takesBell : MethodName := ⟨RX7, "takesBell", "()Z"⟩
abbrev cX7_takesOne : ByteArray := prog_9_method_15_code
def yX7_takesOne : MethodName := ⟨RX7, "takesOne", "(III)Z"⟩
abbrev cX7_isBellHere : ByteArray := prog_9_method_16_code
def yX7_isBellHere : MethodName := ⟨RX7, "isBellHere", "()Z"⟩
abbrev cX7_chord : ByteArray := prog_9_method_17_code
def yX7_chord : MethodName := ⟨RX7, "chord", "()I"⟩
abbrev cX7_tellsAgain : ByteArray := prog_9_method_18_code
def yX7_tellsAgain : MethodName := ⟨RX7, "tellsAgain", "(II)Z"⟩
abbrev cX7_takesTune : ByteArray := prog_9_method_19_code
def yX7_takesTune : MethodName := ⟨RX7, "takesTune", "()Z"⟩
abbrev cX7_takesItem : ByteArray := prog_9_method_20_code
def yX7_takesItem : MethodName := ⟨RX7, "takesItem", "()Z"⟩
abbrev cX7_fault : ByteArray := prog_9_method_21_code
def yX7_fault : MethodName := ⟨RX7, "fault", "()I"⟩
abbrev cX7_begins : ByteArray := prog_9_method_22_code
def yX7_begins : MethodName := ⟨RX7, "begins", "()V"⟩
abbrev cX7_lay : ByteArray := prog_9_method_23_code
def yX7_lay : MethodName := ⟨RX7, "lay", "()I"⟩
abbrev cX7_isBell : ByteArray := prog_9_method_24_code
def yX7_isBell : MethodName := ⟨RX7, "isBell", "(I)Z"⟩
abbrev cX7_isRow : ByteArray := prog_9_method_25_code
def yX7_isRow : MethodName := ⟨RX7, "isRow", "(I)Z"⟩
abbrev cX7_isSet : ByteArray := prog_9_method_26_code
def yX7_isSet : MethodName := ⟨RX7, "isSet", "(I)Z"⟩
abbrev cX7_rings : ByteArray := prog_9_method_27_code
def yX7_rings : MethodName := ⟨RX7, "rings", "([II)I"⟩
abbrev cX7_comesNext : ByteArray := prog_9_method_28_code
def yX7_comesNext : MethodName := ⟨RX7, "comesNext", "([I)I"⟩
abbrev cX7_bell : ByteArray := prog_9_method_29_code
def yX7_bell : MethodName := ⟨RX7, "bell", "(II)I"⟩
abbrev cX7_pins : ByteArray := prog_9_method_30_code
def yX7_pins : MethodName := ⟨RX7, "pins", "(I)I"⟩
abbrev cX7_copies : ByteArray := prog_9_method_31_code
def yX7_copies : MethodName := ⟨RX7, "copies", "([II[II)V"⟩
abbrev cX7_remember : ByteArray := prog_9_method_32_code
def yX7_remember : MethodName := ⟨RX7, "remember", "()V"⟩
abbrev cX7_turn : ByteArray := prog_9_method_33_code
def yX7_turn : MethodName := ⟨RX7, "turn", "()I"⟩
abbrev cX7_turnBack : ByteArray := prog_9_method_34_code
def yX7_turnBack : MethodName := ⟨RX7, "turnBack", "()I"⟩
abbrev cX7_pin : ByteArray := prog_9_method_35_code
def yX7_pin : MethodName := ⟨RX7, "pin", "(IIZ)I"⟩
abbrev cX7_shifted : ByteArray := prog_9_method_36_code
def yX7_shifted : MethodName := ⟨RX7, "shifted", "(II)I"⟩
abbrev cX7_shift : ByteArray := prog_9_method_37_code
def yX7_shift : MethodName := ⟨RX7, "shift", "(I)I"⟩
abbrev cX7_undo : ByteArray := prog_9_method_38_code
def yX7_undo : MethodName := ⟨RX7, "undo", "()I"⟩
abbrev cX7_sumOf : ByteArray := prog_9_method_39_code
def yX7_sumOf : MethodName := ⟨RX7, "sumOf", "(I)I"⟩
abbrev cX7_go : ByteArray := prog_9_method_40_code
def yX7_go : MethodName := ⟨RX7, "go", "(I)V"⟩
abbrev cX7_whole : ByteArray := prog_9_method_41_code
def yX7_whole : MethodName := ⟨RX7, "whole", "(I)I"⟩
abbrev cX7_silence : ByteArray := prog_9_method_42_code
def yX7_silence : MethodName := ⟨RX7, "silence", "()I"⟩
abbrev cX7_again : ByteArray := prog_9_method_43_code
def yX7_again : MethodName := ⟨RX7, "again", "()I"⟩
abbrev cX7_comesAgain : ByteArray := prog_9_method_44_code
def yX7_comesAgain : MethodName := ⟨RX7, "comesAgain", "(I)Z"⟩
abbrev cX7_isIll : ByteArray := prog_9_method_45_code
def yX7_isIll : MethodName := ⟨RX7, "isIll", "(II)Z"⟩
abbrev cX7_illOf : ByteArray := prog_9_method_46_code
def yX7_illOf : MethodName := ⟨RX7, "illOf", "(II)I"⟩
abbrev cX7_harsh : ByteArray := prog_9_method_47_code
def yX7_harsh : MethodName := ⟨RX7, "harsh", "()I"⟩
abbrev cX7_canon : ByteArray := prog_9_method_48_code
def yX7_canon : MethodName := ⟨RX7, "canon", "(I)I"⟩
abbrev cX7_want : ByteArray := prog_9_method_49_code
def yX7_want : MethodName := ⟨RX7, "want", "(II)I"⟩
abbrev cX7_changes : ByteArray := prog_9_method_50_code
def yX7_changes : MethodName := ⟨RX7, "changes", "(I)I"⟩
abbrev cX7_cell : ByteArray := prog_9_method_51_code
def yX7_cell : MethodName := ⟨RX7, "cell", "(III)I"⟩
abbrev cX7_isAgain : ByteArray := prog_9_method_52_code
def yX7_isAgain : MethodName := ⟨RX7, "isAgain", "(III)Z"⟩
abbrev cX7_fewest : ByteArray := prog_9_method_53_code
def yX7_fewest : MethodName := ⟨RX7, "fewest", "(III)I"⟩
abbrev cX7_letters : ByteArray := prog_9_method_54_code
def yX7_letters : MethodName := ⟨RX7, "letters", "()I"⟩
abbrev cX7_areOne : ByteArray := prog_9_method_55_code
def yX7_areOne : MethodName := ⟨RX7, "areOne", "(I)Z"⟩
abbrev cX7_ringers : ByteArray := prog_9_method_56_code
def yX7_ringers : MethodName := ⟨RX7, "ringers", "()I"⟩
abbrev cX7_hear : ByteArray := prog_9_method_57_code
def yX7_hear : MethodName := ⟨RX7, "hear", "(I)I"⟩
abbrev cX7_forget : ByteArray := prog_9_method_58_code
def yX7_forget : MethodName := ⟨RX7, "forget", "()I"⟩
abbrev cX7_stood : ByteArray := prog_9_method_59_code
def yX7_stood : MethodName := ⟨RX7, "stood", "()I"⟩
abbrev cX7_octaves : ByteArray := prog_9_method_60_code
def yX7_octaves : MethodName := ⟨RX7, "octaves", "()I"⟩
abbrev cX7_melody : ByteArray := prog_9_method_61_code
def yX7_melody : MethodName := ⟨RX7, "melody", "(I)I"⟩
abbrev cX7_winter : ByteArray := prog_9_method_62_code
def yX7_winter : MethodName := ⟨RX7, "winter", "(III)I"⟩
abbrev cX7_keep : ByteArray := prog_9_method_63_code
def yX7_keep : MethodName := ⟨RX7, "keep", "()I"⟩
abbrev cX7_back : ByteArray := prog_9_method_64_code
def yX7_back : MethodName := ⟨RX7, "back", "()I"⟩
abbrev cX7_count : ByteArray := prog_9_method_65_code
def yX7_count : MethodName := ⟨RX7, "count", "(I)I"⟩
def RJx145de : String := "java/io/Serializable"
def TJx145de : u_T := fun k => match k with
  | _ => ("", "", "", false)
def tyJx145de : Nat → FieldType := fun k => match k with
  | _ => .int
abbrev wsJx145de0 : List Cond := u_ws RJx145de TJx145de 0
theorem nmJx145de : ∀ a, a < 0 → ∀ b, b < 0 → a ≠ b → (TJx145de a).2.1 ≠ (TJx145de b).2.1 := by decide +kernel
theorem tyJx145de_ok : ∀ k, k < 0 → parseFieldDescriptor (TJx145de k).2.2.1 = some (tyJx145de k) := by decide +kernel
def RJx9f9b0 : String := "java/lang/CharSequence"
def TJx9f9b0 : u_T := fun k => match k with
  | _ => ("", "", "", false)
def tyJx9f9b0 : Nat → FieldType := fun k => match k with
  | _ => .int
abbrev wsJx9f9b00 : List Cond := u_ws RJx9f9b0 TJx9f9b0 0
theorem nmJx9f9b0 : ∀ a, a < 0 → ∀ b, b < 0 → a ≠ b → (TJx9f9b0 a).2.1 ≠ (TJx9f9b0 b).2.1 := by decide +kernel
theorem tyJx9f9b0_ok : ∀ k, k < 0 → parseFieldDescriptor (TJx9f9b0 k).2.2.1 = some (tyJx9f9b0 k) := by decide +kernel
def RJxb160c : String := "java/lang/Comparable"
def TJxb160c : u_T := fun k => match k with
  | _ => ("", "", "", false)
def tyJxb160c : Nat → FieldType := fun k => match k with
  | _ => .int
abbrev wsJxb160c0 : List Cond := u_ws RJxb160c TJxb160c 0
theorem nmJxb160c : ∀ a, a < 0 → ∀ b, b < 0 → a ≠ b → (TJxb160c a).2.1 ≠ (TJxb160c b).2.1 := by decide +kernel
theorem tyJxb160c_ok : ∀ k, k < 0 → parseFieldDescriptor (TJxb160c k).2.2.1 = some (tyJxb160c k) := by decide +kernel
def RJ6 : String := "java/lang/Integer"
def TJ6 : u_T := fun k => match k with
  | _ => ("", "", "", false)
def tyJ6 : Nat → FieldType := fun k => match k with
  | _ => .int
abbrev wsJ60 : List Cond := u_ws RJ6 TJ6 0
theorem nmJ6 : ∀ a, a < 0 → ∀ b, b < 0 → a ≠ b → (TJ6 a).2.1 ≠ (TJ6 b).2.1 := by decide +kernel
theorem tyJ6_ok : ∀ k, k < 0 → parseFieldDescriptor (TJ6 k).2.2.1 = some (tyJ6 k) := by decide +kernel
abbrev cJ6_bitCount_0f7a4 : ByteArray := prog_10_method_49_code
def yJ6_bitCount_0f7a4 : MethodName := ⟨RJ6, "bitCount", "(I)I"⟩
def RJ9 : String := "java/lang/Math"
def TJ9 : u_T := fun k => match k with
  | _ => ("", "", "", false)
def tyJ9 : Nat → FieldType := fun k => match k with
  | _ => .int
abbrev wsJ90 : List Cond := u_ws RJ9 TJ9 0
theorem nmJ9 : ∀ a, a < 0 → ∀ b, b < 0 → a ≠ b → (TJ9 a).2.1 ≠ (TJ9 b).2.1 := by decide +kernel
theorem tyJ9_ok : ∀ k, k < 0 → parseFieldDescriptor (TJ9 k).2.2.1 = some (tyJ9 k) := by decide +kernel
abbrev cJ9_floorMod_7cf53 : ByteArray := prog_11_method_50_code
def yJ9_floorMod_7cf53 : MethodName := ⟨RJ9, "floorMod", "(II)I"⟩
abbrev cJ9_abs_0f7a4 : ByteArray := prog_11_method_59_code
def yJ9_abs_0f7a4 : MethodName := ⟨RJ9, "abs", "(I)I"⟩
abbrev cJ9_max_7cf53 : ByteArray := prog_11_method_65_code
def yJ9_max_7cf53 : MethodName := ⟨RJ9, "max", "(II)I"⟩
abbrev cJ9_min_7cf53 : ByteArray := prog_11_method_69_code
def yJ9_min_7cf53 : MethodName := ⟨RJ9, "min", "(II)I"⟩
def RJ0 : String := "java/lang/String"
def TJ0 : u_T := fun k => match k with
  | _ => ("", "", "", false)
def tyJ0 : Nat → FieldType := fun k => match k with
  | _ => .int
abbrev wsJ00 : List Cond := u_ws RJ0 TJ0 0
theorem nmJ0 : ∀ a, a < 0 → ∀ b, b < 0 → a ≠ b → (TJ0 a).2.1 ≠ (TJ0 b).2.1 := by decide +kernel
theorem tyJ0_ok : ∀ k, k < 0 → parseFieldDescriptor (TJ0 k).2.2.1 = some (tyJ0 k) := by decide +kernel
abbrev cJ0_length_8abf5 : ByteArray := prog_12_method_54_code
def yJ0_length_8abf5 : MethodName := ⟨RJ0, "length", "()I"⟩
abbrev cJ0_charAt_5068e : ByteArray := prog_12_method_56_code
def yJ0_charAt_5068e : MethodName := ⟨RJ0, "charAt", "(I)C"⟩
abbrev cJ0_coder_7d493 : ByteArray := prog_12_method_152_code
def yJ0_coder_7d493 : MethodName := ⟨RJ0, "coder", "()B"⟩
abbrev cJ0_isLatin1_aae02 : ByteArray := prog_12_method_154_code
def yJ0_isLatin1_aae02 : MethodName := ⟨RJ0, "isLatin1", "()Z"⟩
abbrev cJ0_checkIndex_df160 : ByteArray := prog_12_method_155_code
def yJ0_checkIndex_df160 : MethodName := ⟨RJ0, "checkIndex", "(II)V"⟩
def RJ1 : String := "java/lang/StringLatin1"
def TJ1 : u_T := fun k => match k with
  | _ => ("", "", "", false)
def tyJ1 : Nat → FieldType := fun k => match k with
  | _ => .int
abbrev wsJ10 : List Cond := u_ws RJ1 TJ1 0
theorem nmJ1 : ∀ a, a < 0 → ∀ b, b < 0 → a ≠ b → (TJ1 a).2.1 ≠ (TJ1 b).2.1 := by decide +kernel
theorem tyJ1_ok : ∀ k, k < 0 → parseFieldDescriptor (TJ1 k).2.2.1 = some (tyJ1 k) := by decide +kernel
abbrev cJ1_charAt_3b067 : ByteArray := prog_13_method_2_code
def yJ1_charAt_3b067 : MethodName := ⟨RJ1, "charAt", "([BI)C"⟩
def RJ2 : String := "java/lang/StringUTF16"
def TJ2 : u_T := fun k => match k with
  | _ => ("", "", "", false)
def tyJ2 : Nat → FieldType := fun k => match k with
  | _ => .int
abbrev wsJ20 : List Cond := u_ws RJ2 TJ2 0
theorem nmJ2 : ∀ a, a < 0 → ∀ b, b < 0 → a ≠ b → (TJ2 a).2.1 ≠ (TJ2 b).2.1 := by decide +kernel
theorem tyJ2_ok : ∀ k, k < 0 → parseFieldDescriptor (TJ2 k).2.2.1 = some (tyJ2 k) := by decide +kernel
abbrev cJ2_getChar_3b067 : ByteArray := prog_14_method_5_code
def yJ2_getChar_3b067 : MethodName := ⟨RJ2, "getChar", "([BI)C"⟩
abbrev cJ2_length_9d52b : ByteArray := prog_14_method_6_code
def yJ2_length_9d52b : MethodName := ⟨RJ2, "length", "([B)I"⟩
abbrev cJ2_charAt_3b067 : ByteArray := prog_14_method_83_code
def yJ2_charAt_3b067 : MethodName := ⟨RJ2, "charAt", "([BI)C"⟩
abbrev cJ2_checkIndex_2214a : ByteArray := prog_14_method_91_code
def yJ2_checkIndex_2214a : MethodName := ⟨RJ2, "checkIndex", "(I[B)V"⟩
def RJ10 : String := "java/lang/System"
def TJ10 : u_T := fun k => match k with
  | _ => ("", "", "", false)
def tyJ10 : Nat → FieldType := fun k => match k with
  | _ => .int
abbrev wsJ100 : List Cond := u_ws RJ10 TJ10 0
theorem nmJ10 : ∀ a, a < 0 → ∀ b, b < 0 → a ≠ b → (TJ10 a).2.1 ≠ (TJ10 b).2.1 := by decide +kernel
theorem tyJ10_ok : ∀ k, k < 0 → parseFieldDescriptor (TJ10 k).2.2.1 = some (tyJ10 k) := by decide +kernel
def RJxfd54e : String := "java/lang/constant/Constable"
def TJxfd54e : u_T := fun k => match k with
  | _ => ("", "", "", false)
def tyJxfd54e : Nat → FieldType := fun k => match k with
  | _ => .int
abbrev wsJxfd54e0 : List Cond := u_ws RJxfd54e TJxfd54e 0
theorem nmJxfd54e : ∀ a, a < 0 → ∀ b, b < 0 → a ≠ b → (TJxfd54e a).2.1 ≠ (TJxfd54e b).2.1 := by decide +kernel
theorem tyJxfd54e_ok : ∀ k, k < 0 → parseFieldDescriptor (TJxfd54e k).2.2.1 = some (tyJxfd54e k) := by decide +kernel
def RJx3cf43 : String := "java/lang/constant/ConstantDesc"
def TJx3cf43 : u_T := fun k => match k with
  | _ => ("", "", "", false)
def tyJx3cf43 : Nat → FieldType := fun k => match k with
  | _ => .int
abbrev wsJx3cf430 : List Cond := u_ws RJx3cf43 TJx3cf43 0
theorem nmJx3cf43 : ∀ a, a < 0 → ∀ b, b < 0 → a ≠ b → (TJx3cf43 a).2.1 ≠ (TJx3cf43 b).2.1 := by decide +kernel
theorem tyJx3cf43_ok : ∀ k, k < 0 → parseFieldDescriptor (TJx3cf43 k).2.2.1 = some (tyJx3cf43 k) := by decide +kernel
def RJ7 : String := "java/util/Arrays"
def TJ7 : u_T := fun k => match k with
  | _ => ("", "", "", false)
def tyJ7 : Nat → FieldType := fun k => match k with
  | _ => .int
abbrev wsJ70 : List Cond := u_ws RJ7 TJ7 0
theorem nmJ7 : ∀ a, a < 0 → ∀ b, b < 0 → a ≠ b → (TJ7 a).2.1 ≠ (TJ7 b).2.1 := by decide +kernel
theorem tyJ7_ok : ∀ k, k < 0 → parseFieldDescriptor (TJ7 k).2.2.1 = some (tyJ7 k) := by decide +kernel
abbrev cJ7_fill_53178 : ByteArray := prog_16_method_103_code
def yJ7_fill_53178 : MethodName := ⟨RJ7, "fill", "([II)V"⟩
def RJ3 : String := "jdk/internal/util/Preconditions"
def TJ3 : u_T := fun k => match k with
  | _ => ("", "", "", false)
def tyJ3 : Nat → FieldType := fun k => match k with
  | _ => .int
abbrev wsJ30 : List Cond := u_ws RJ3 TJ3 0
theorem nmJ3 : ∀ a, a < 0 → ∀ b, b < 0 → a ≠ b → (TJ3 a).2.1 ≠ (TJ3 b).2.1 := by decide +kernel
theorem tyJ3_ok : ∀ k, k < 0 → parseFieldDescriptor (TJ3 k).2.2.1 = some (tyJ3 k) := by decide +kernel
abbrev cJ3_checkIndex_8e157 : ByteArray := prog_17_method_11_code
def yJ3_checkIndex_8e157 : MethodName := ⟨RJ3, "checkIndex", "(IILjava/util/function/BiFunction;)I"⟩
def RL : String := "RungByADrumLaw"
abbrev cL_law : ByteArray := code
def yL_law : MethodName := ⟨RL, "law", "([I)Z"⟩
abbrev vwCl : List vw_C := [(RX0, TX0, 6), (RX1, TX1, 4), (RX2, TX2, 4), (RX3, TX3, 1), (RX4, TX4, 4), (RX5, TX5, 9), (RX6, TX6, 12), (RX7, TX7, 23)]
/-- the words of the tables that any state of the run keeps -/
def gt : List Cond := lw_tbl.filter goodWord
theorem gt_in (i : Nat) {w : Cond} (h : lw_tbl[i]? = some w) (hg : goodWord w = true) : w ∈ gt := List.mem_filter.mpr ⟨List.mem_of_getElem? h, hg⟩
theorem gt_good {w : Cond} (h : w ∈ gt) : (w.onTables && w.keeps) = true ∨ ∃ ty, w = .arrayClass ty := good_of_word (List.mem_filter.mp h).2
end
section
/-! ===== THE LAYER: the cells of the run are numbered; a state is what they hold; the kit's W, said of states ===== -/
abbrev HP : Type := Nat → Nat → Int32
abbrev LC : Type := List (Option Value)
/-- launch, where the cells lie, how many there are, classes' numbers and slots, the classes of the arrays -/
abbrev EV : Type := Launch × (Nat → Nat) × Nat × va_G × (ClassId × ClassId × ClassId)
abbrev eL (E : EV) : Launch := E.1
abbrev eA (E : EV) : Nat → Nat := E.2.1
abbrev eN (E : EV) : Nat := E.2.2.1
abbrev eD (E : EV) : va_G := E.2.2.2.1
abbrev eI (E : EV) : ClassId := E.2.2.2.2.1
abbrev eZ (E : EV) : ClassId := E.2.2.2.2.2.1
abbrev eO (E : EV) : ClassId := E.2.2.2.2.2.2
def cv (E : EV) : Value → Value
  | .ref k => .ref (eA E k)
  | v => v
theorem cv_cat (E : EV) (v : Value) : (cv E v).category = v.category := by cases v <;> rfl
/-- the cells: what each is (0 ints, 1 booleans, 2 rows of ints, c + 3 an object of class c) and how long -/
def kdL : List (Nat × Nat) := [(9, 12), (7, 4), (0, 200), (0, 3), (8, 9), (0, 8), (0, 8), (0, 8), (0, 32), (8, 9), (0, 8), (0, 8), (0, 8), (0, 32),
  (3, 6), (0, 32), (0, 16), (0, 8), (0, 8), (3, 6), (0, 32), (0, 16), (0, 8), (0, 8), (5, 4), (0, 528), (5, 4), (0, 132), (0, 32), (0, 8),
  (6, 1), (2, 4), (0, 1089), (0, 1089), (0, 1089), (0, 1089), (4, 4), (0, 8), (0, 8),
  (10, 23), (0, 19), (0, 19), (0, 32), (0, 66), (0, 528), (0, 132), (0, 200), (0, 32), (0, 8), (0, 2), (0, 3), (0, 32), (0, 66), (0, 4356), (0, 256), (1, 256)]
def kd (k : Nat) : Nat × Nat := kdL.getD k (11, 0)
/-- how long a cell is -/
def ln (k : Nat) : Nat := (kd k).2
/-- a field that holds a cell: how far behind its object that cell stands -/
def rfo : Nat → Nat → Option Nat
  | 0, 0 => some 1 | 0, 1 => some 2 | 0, 2 => some 3 | 0, 3 => some 4
  | 1, 0 => some 1 | 1, 1 => some 2
  | 2, 1 => some 1
  | 3, 0 => some 1
  | 4, 0 => some 1 | 4, 3 => some 2
  | 5, 1 => some 1 | 5, 2 => some 2 | 5, 3 => some 3 | 5, 8 => some 4
  | 6, 0 => some 1 | 6, 3 => some 14 | 6, 4 => some 19 | 6, 5 => some 24 | 6, 6 => some 26 | 6, 7 => some 28 | 6, 8 => some 29 | 6, 10 => some 30 | 6, 11 => some 36
  | 7, 0 => some 1 | 7, 1 => some 2 | 7, 2 => some 3 | 7, 4 => some 4 | 7, 5 => some 5 | 7, 7 => some 6 | 7, 9 => some 7 | 7, 11 => some 8 | 7, 12 => some 9
  | 7, 16 => some 10 | 7, 17 => some 11 | 7, 18 => some 12 | 7, 19 => some 13 | 7, 20 => some 14 | 7, 21 => some 15 | 7, 22 => some 16
  | _, _ => none
/-- which cells the towers are that are laid, told -/
abbrev TW : Type := Nat × Nat
def rft (tw : TW) (k : Nat) : Nat → Nat → Option Nat
  | 6, 1 => some tw.1
  | 6, 2 => some tw.2
  | c, j => (rfo c j).map (fun o => k + o)
def fv (tw : TW) (h : HP) (k c j : Nat) : Value := match rft tw k c j with
  | some q => .ref q
  | none => .int (h k j)
def wE (E : EV) (tw : TW) (h : HP) (k : Nat) : va_E := match kd k with
  | (0, L) => .inl (eI E, L, .inl (h k))
  | (1, L) => .inl (eZ E, L, .inl (h k))
  | (2, L) => .inl (eO E, L, .inr (.inr (.inr (.inr (fun j => if j < L then some (eA E (k + 1 + j)) else none)))))
  | (c + 3, L) => .inr (c, (List.range L).map (fun j => cv E (fv tw h k c j)))
def wW (E : EV) (tw : TW) (h : HP) : va_W := (List.range (eN E)).map (fun k => (eA E k, wE E tw h k))
theorem wW_get (E : EV) (tw : TW) (h : HP) {k : Nat} (hk : k < eN E) : (wW E tw h)[k]? = some (eA E k, wE E tw h k) := by
  unfold wW
  simp [hk]
theorem wW_set (E : EV) {tw tw' : TW} {h h' : HP} {k : Nat} {x : va_E} (hk : k < eN E) (hx : x = wE E tw' h' k) (ho : ∀ j, j ≠ k → wE E tw' h' j = wE E tw h j) : (wW E tw h).set k (eA E k, x) = wW E tw' h' := by
  subst hx
  apply List.ext_getElem?
  intro j
  by_cases hj : j = k
  · subst hj
    rw [List.getElem?_set_self (by unfold wW; simpa using hk), wW_get E tw' h' hk]
  · rw [List.getElem?_set_ne (fun q => hj q.symm)]
    by_cases hn : j < eN E
    · rw [wW_get E tw h hn, wW_get E tw' h' hn, ho j hj]
    · unfold wW
      simp [hn]
/-- cell k holds f -/
def upc (h : HP) (k : Nat) (f : Nat → Int32) : HP := fun q => if q = k then f else h q
def up (h : HP) (k j : Nat) (x : Int32) : HP := upc h k (upd (h k) j x)
theorem upc_same (h : HP) (k : Nat) (f : Nat → Int32) : upc h k f k = f := if_pos rfl
theorem upc_ne (h : HP) {k q : Nat} (f : Nat → Int32) (n : q ≠ k) : upc h k f q = h q := if_neg n
theorem wE_upc (E : EV) (tw : TW) (h : HP) {k j : Nat} (f : Nat → Int32) (n : j ≠ k) : wE E tw (upc h k f) j = wE E tw h j := by
  unfold wE fv
  rw [upc_ne h f n]
def fA (E : EV) (sz : Nat) : Nat → Prop := fun q => (∃ k, k < eN E ∧ q = eA E k) ∨ sz ≤ q
def EI (E : EV) : Prop := ∀ i j, i < eN E → j < eN E → eA E i = eA E j → i = j
theorem wD {E : EV} (hE : EI E) (tw : TW) (h : HP) (sz : Nat) : va_D (fA E sz) (wW E tw h) := by
  have key : ∀ (i : Nat) (p : Nat × va_E), (wW E tw h)[i]? = some p → i < eN E ∧ p.1 = eA E i := by
    intro i p hp
    by_cases hn : i < eN E
    · rw [wW_get E tw h hn] at hp
      cases hp
      exact ⟨hn, rfl⟩
    · unfold wW at hp
      simp [hn] at hp
  refine ⟨fun i j p q hp hq e => ?_, fun k q hq => Or.inl ⟨k, (key k q hq).1, (key k q hq).2⟩⟩
  obtain ⟨a1, a2⟩ := key i p hp
  obtain ⟨b1, b2⟩ := key j q hq
  exact hE i j a1 b1 (by rw [← a2, ← b2]; exact e)
def tyE (E : EV) : List (ClassId × FieldType) := [(eI E, .int), (eZ E, .boolean), (eO E, .array .int)]
/-- a method: its name, code, locals, what it returns, how deep it calls -/
abbrev MI : Type := MethodName × ByteArray × Nat × Option FieldType × Nat
abbrev mY (M : MI) : MethodName := M.1
abbrev mC (M : MI) : ByteArray := M.2.1
abbrev mL (M : MI) : Nat := M.2.2.1
abbrev mR (M : MI) : Option FieldType := M.2.2.2.1
abbrev mD (M : MI) : Nat := M.2.2.2.2
def wds (M : MI) : List Cond := Cond.code (mY M) (mC M) (mL M) (mR M) :: gt
def rmM (M : MI) : Room := { frames := mD M, cells := 0, slots := 0, locals := 64 * mD M }
/-- room, cells and slots made so far, what is to be reached, what is known of the start -/
abbrev KX : Type := Room × Nat × Nat × (List Frame → Array Value → State → State → Prop) × (State → Prop)
def CX (E : EV) (M : MI) (K : KX) (p : Program) (s : State) (m : MethodId) (args : Array Value) (meth : Method) (c : Code) : Prop :=
  p.tables.exec = Jvm.exec ∧ c.code = mC M ∧ meth.sig.returnType = mR M ∧ c.maxLocals = mL M ∧ s.vm.findClass (mY M).cls = some m.cls ∧ (∀ w ∈ gt, w.before args s = true) ∧ va_K (eD E) vwCl (tyE E) s ∧ meth.locks = false ∧ EI E ∧ K.2.2.2.2 s
def ld (loc : LC) (i : Nat) : Option Value := (loc[i]?).getD none
def LR (E : EV) (M : MI) (ls : Array Slot) (loc : LC) : Prop := ls.size = mL M ∧ lv_wf ls ∧ ∀ i v, ld loc i = some v → ls[i]? = some (.val (cv E v))
/-- one cell of the locals is set; a long whose second half it was is gone -/
def clr : Nat → Option Value → Option Value
  | 0, some (.long _) => none
  | 0, some (.double _) => none
  | _, x => x
def so : LC → Nat → Value → LC
  | [], _, _ => []
  | _ :: t, 0, v => some v :: t
  | x :: t, i + 1, v => clr i x :: so t i v
def tl0 : LC → LC
  | [] => []
  | _ :: t => none :: t
def so2 : LC → Nat → Value → LC
  | [], _, _ => []
  | _ :: t, 0, v => some v :: tl0 t
  | x :: t, i + 1, v => clr i x :: so2 t i v
theorem clr_some {i : Nat} {x : Option Value} {w : Value} (h : clr i x = some w) : x = some w ∧ ¬ (i = 0 ∧ w.category = 2) := by
  cases i with
  | succ i => exact ⟨by simpa [clr] using h, by omega⟩
  | zero =>
    cases x with
    | none => simp [clr] at h
    | some v => cases v <;> simp_all [clr] <;> subst h <;> simp [Value.category]
def lvl (E : EV) : Nat → LC → List (Nat × Value)
  | _, [] => []
  | i, none :: t => lvl E (i + 1) t
  | i, some v :: t => (i, cv E v) :: lvl E (i + 1) t
theorem lvl_mem {E : EV} {loc : LC} : ∀ {i k : Nat} {v : Value}, ld loc k = some v → (i + k, cv E v) ∈ lvl E i loc := by
  induction loc with
  | nil => intro i k v h; simp [ld] at h
  | cons x t ih =>
    intro i k v h
    cases k with
    | zero =>
      simp [ld] at h
      subst h
      exact List.mem_cons_self
    | succ k =>
      have h' : ld t k = some v := by simpa [ld] using h
      have := ih (i := i + 1) h'
      rw [show i + 1 + k = i + (k + 1) by omega] at this
      cases x with
      | none => exact this
      | some y => exact List.mem_cons_of_mem _ this
theorem lvl_of {E : EV} {loc : LC} : ∀ {i : Nat} {q : Nat × Value}, q ∈ lvl E i loc → ∃ k v, q = (i + k, cv E v) ∧ ld loc k = some v := by
  induction loc with
  | nil => intro i q h; simp [lvl] at h
  | cons x t ih =>
    intro i q h
    cases x with
    | none =>
      obtain ⟨k, v, e, hv⟩ := ih (i := i + 1) h
      exact ⟨k + 1, v, by rw [e, show i + 1 + k = i + (k + 1) by omega], by simpa [ld] using hv⟩
    | some y =>
      rcases List.mem_cons.mp h with e | h
      · exact ⟨0, y, e, by simp [ld]⟩
      · obtain ⟨k, v, e, hv⟩ := ih (i := i + 1) h
        exact ⟨k + 1, v, by rw [e, show i + 1 + k = i + (k + 1) by omega], by simpa [ld] using hv⟩
theorem LR.has {E : EV} {M : MI} {ls : Array Slot} {loc : LC} (h : LR E M ls loc) : lv_has ls (mL M) (lvl E 0 loc) := by
  refine ⟨h.1, h.2.1, fun q hq => ?_⟩
  obtain ⟨k, v, rfl, hv⟩ := lvl_of hq
  simpa using h.2.2 k v hv
theorem ld_cons (x : Option Value) (t : LC) (k : Nat) : ld (x :: t) (k + 1) = ld t k := by simp [ld]
theorem ld_zero (x : Option Value) (t : LC) : ld (x :: t) 0 = x := by simp [ld]
theorem ld_so {loc : LC} : ∀ {i j : Nat} {v w : Value}, ld (so loc i v) j = some w → (j = i ∧ w = v) ∨ (j ≠ i ∧ ld loc j = some w ∧ ¬ (j + 1 = i ∧ w.category = 2)) := by
  induction loc with
  | nil => intro i j v w h; simp [so, ld] at h
  | cons x t ih =>
    intro i j v w h
    cases i with
    | zero =>
      cases j with
      | zero => simp [so, ld] at h; exact Or.inl ⟨rfl, h.symm⟩
      | succ j => exact Or.inr ⟨by omega, by simpa [so, ld] using h, by omega⟩
    | succ i =>
      cases j with
      | succ j =>
        have h' : ld (so t i v) j = some w := by simpa [so, ld_cons] using h
        rcases ih h' with ⟨a, b⟩ | ⟨a, b, c⟩
        · exact Or.inl ⟨by omega, b⟩
        · exact Or.inr ⟨by omega, by rw [ld_cons]; exact b, fun q => c ⟨by omega, q.2⟩⟩
      | zero =>
        have h' : clr i x = some w := by simpa [so, ld_zero] using h
        obtain ⟨a, b⟩ := clr_some h'
        exact Or.inr ⟨by omega, by rw [ld_zero]; exact a, fun q => b ⟨by omega, q.2⟩⟩
theorem ld_so2 {loc : LC} : ∀ {i j : Nat} {v w : Value}, ld (so2 loc i v) j = some w → (j = i ∧ w = v) ∨ (j ≠ i ∧ j ≠ i + 1 ∧ ld loc j = some w ∧ ¬ (j + 1 = i ∧ w.category = 2)) := by
  induction loc with
  | nil => intro i j v w h; simp [so2, ld] at h
  | cons x t ih =>
    intro i j v w h
    cases i with
    | zero =>
      cases j with
      | zero => simp [so2, ld] at h; exact Or.inl ⟨rfl, h.symm⟩
      | succ j =>
        have h' : ld (tl0 t) j = some w := by simpa [so2, ld_cons] using h
        cases t with
        | nil => simp [tl0, ld] at h'
        | cons y t =>
          cases j with
          | zero => simp [tl0, ld] at h'
          | succ j => exact Or.inr ⟨by omega, by omega, by simpa [tl0, ld] using h', by omega⟩
    | succ i =>
      cases j with
      | succ j =>
        have h' : ld (so2 t i v) j = some w := by simpa [so2, ld_cons] using h
        rcases ih h' with ⟨a, b⟩ | ⟨a, b, c, d⟩
        · exact Or.inl ⟨by omega, b⟩
        · exact Or.inr ⟨by omega, by omega, by rw [ld_cons]; exact c, fun q => d ⟨by omega, q.2⟩⟩
      | zero =>
        have h' : clr i x = some w := by simpa [so2, ld_zero] using h
        obtain ⟨a, b⟩ := clr_some h'
        exact Or.inr ⟨by omega, by omega, by rw [ld_zero]; exact a, fun q => b ⟨by omega, q.2⟩⟩
theorem LR.so {E : EV} {M : MI} {ls' : Array Slot} {loc : LC} {i : Nat} {v : Value} (h : lv_has ls' (mL M) ((i, cv E v) :: (lvl E 0 loc).filter (fun q => !(q.1 == i) && !(q.1 + 1 == i && q.2.category == 2)))) : LR E M ls' (so loc i v) := by
  refine ⟨h.1, h.2.1, fun j w hw => ?_⟩
  rcases ld_so hw with ⟨rfl, rfl⟩ | ⟨a, b, c⟩
  · exact h.2.2 _ List.mem_cons_self
  · have hm := lvl_mem (E := E) (i := 0) b
    rw [Nat.zero_add] at hm
    refine h.2.2 (j, cv E w) (List.mem_cons_of_mem _ (List.mem_filter.mpr ⟨hm, ?_⟩))
    simp only [cv_cat]
    simp [a]
    omega
theorem LR.so2 {E : EV} {M : MI} {ls' : Array Slot} {loc : LC} {i : Nat} {v : Value} (h : lv_has ls' (mL M) ((i, cv E v) :: (lvl E 0 loc).filter (fun q => !(q.1 == i) && (!(q.1 == i + 1) && !(q.1 + 1 == i && q.2.category == 2))))) : LR E M ls' (so2 loc i v) := by
  refine ⟨h.1, h.2.1, fun j w hw => ?_⟩
  rcases ld_so2 hw with ⟨rfl, rfl⟩ | ⟨a, a', b, c⟩
  · exact h.2.2 _ List.mem_cons_self
  · have hm := lvl_mem (E := E) (i := 0) b
    rw [Nat.zero_add] at hm
    refine h.2.2 (j, cv E w) (List.mem_cons_of_mem _ (List.mem_filter.mpr ⟨hm, ?_⟩))
    simp only [cv_cat]
    simp [a, a']
    omega
/-- fewer locals are known -/
def dl : LC → LC → Prop
  | [], _ => True
  | none :: a, _ :: b => dl a b
  | none :: a, [] => dl a []
  | some v :: a, x :: b => x = some v ∧ dl a b
  | some _ :: _, [] => False
theorem ld_dl : ∀ {a b : LC} {i : Nat} {v : Value}, dl a b → ld a i = some v → ld b i = some v := by
  intro a
  induction a with
  | nil => intro b i v _ h; simp [ld] at h
  | cons x a ih =>
    intro b i v hd h
    cases x with
    | none =>
      cases i with
      | zero => simp [ld] at h
      | succ i =>
        rw [ld_cons] at h
        cases b with
        | nil => have := ih (b := []) hd h; simp [ld] at this
        | cons y b => rw [ld_cons]; exact ih hd h
    | some u =>
      cases b with
      | nil => exact hd.elim
      | cons y b =>
        cases i with
        | zero => rw [ld_zero] at h ⊢; rw [hd.1]; exact h
        | succ i => rw [ld_cons] at h ⊢; exact ih hd.2 h
theorem LR.dl {E : EV} {M : MI} {ls : Array Slot} {a b : LC} (h : LR E M ls b) (hd : dl a b) : LR E M ls a := ⟨h.1, h.2.1, fun i v q => h.2.2 i v (ld_dl hd q)⟩
def AW (E : EV) (M : MI) (K : KX) (tw : TW) (h : HP) (pc : Nat) (loc : LC) (st : List Value) : Prop :=
  ∀ (p : Program) (e : Env) (s : State) (m : MethodId) (args : Array Value) (below : List Frame) (meth : Method) (c : Code) (H : Heap) (ls : Array Slot) (locs : List Loc),
    CX E M K p s m args meth c → va_P (eD E) vwCl (wW E tw h) H → va_S (fA E s.heap.size) s.heap H locs → LR E M ls loc →
    W p (eL E) e K.1 s m args below meth c H locs K.2.1 K.2.2.1 (K.2.2.2.1 below args s) (F0 m pc ls (st.map (cv E)))
def QC (E : EV) (sz : Nat) (rv : Option Value) (tw : TW) (h : HP) : Array Value → State → Outcome → State → Prop := fun _ st oc t =>
  (oc = .returned (rv.map (cv E)) ∧ va_P (eD E) vwCl (wW E tw h) t.heap ∧ va_K (eD E) vwCl (tyE E) t) ∧ va_F (fA E sz) st t
/-- the contract: with these arguments, from this state, the method returns this and the cells hold that -/
def CT (E : EV) (M : MI) (tw : TW) (h : HP) (av : List Value) (rv : Option Value) (tw' : TW) (h' : HP) : Prop :=
  ∀ sz : Nat, Met (eL E) (mY M) (wds M) (rmM M) (va_Pc (av.map (cv E)) (fun U => U.heap.size = sz ∧ va_P (eD E) vwCl (wW E tw h) U.heap ∧ va_K (eD E) vwCl (tyE E) U)) (QC E sz rv tw' h') 0 0 (fA E sz)
def KM (E : EV) (M : MI) (rv : Option Value) (tw : TW) (h : HP) : KX := (rmM M, 0, 0, fun below args s => MQ below (QC E s.heap.size rv tw h) args s 0 0 (fA E s.heap.size), fun _ => True)
def lo0 : List Value → LC
  | [] => []
  | v :: t => if v.category = 2 then some v :: none :: lo0 t else some v :: lo0 t
theorem lo0_args {E : EV} : ∀ (av : List Value) (r : Nat) {j i : Nat} {v : Value}, ld (lo0 av ++ List.replicate r none) i = some v → (j + i, cv E v) ∈ lv_args j (av.map (cv E)) := by
  intro av
  induction av with
  | nil =>
    intro r j i v h
    simp only [lo0, List.nil_append, ld] at h
    by_cases q : i < r <;> simp [q] at h
  | cons a t ih =>
    intro r j i v h
    simp only [lo0] at h
    simp only [List.map_cons, lv_args, cv_cat]
    by_cases hc : a.category = 2
    · simp only [hc, if_true] at h ⊢
      match i, h with
      | 0, h => simp [ld] at h; subst h; exact List.mem_cons_self
      | 1, h => simp [ld] at h
      | i + 2, h =>
        rw [List.cons_append, ld_cons, List.cons_append, ld_cons] at h
        have := ih r (j := j + 2) h
        rw [show j + 2 + i = j + (i + 2) by omega] at this
        exact List.mem_cons_of_mem _ this
    · simp only [hc, if_false] at h ⊢
      match i, h with
      | 0, h => simp [ld] at h; subst h; exact List.mem_cons_self
      | i + 1, h =>
        rw [List.cons_append, ld_cons] at h
        have := ih r (j := j + 1) h
        rw [show j + 1 + i = j + (i + 1) by omega] at this
        exact List.mem_cons_of_mem _ this
theorem CT.of {E : EV} {M : MI} {tw tw' : TW} {h h' : HP} {av : List Value} {rv : Option Value} (hE : EI E) (hpl : plainName (mY M).cls = true) (hlen : (lg_sl (av.map (cv E))).length ≤ mL M) (r : Nat)
    (k : AW E M (KM E M rv tw' h') tw h 0 (lo0 av ++ List.replicate r none) []) : CT E M tw h av rv tw' h' := by
  intro sz
  refine Met.ofW (cc := mC M) (maxL := mL M) (ret := mR M) hpl rfl ?_
  intro p e s m args below meth c s₁ B hml hv
  obtain ⟨rfl, hsz, hP, hK⟩ := hv
  subst hsz
  have hts := atoms_spec (ws := wds M) B.pre
  have hown : s.vm.findClass (mY M).cls = some m.cls := findClass_of_methodNamed B.named
  have hl := lv_entry (av.map (cv E)) (n := mL M) hlen
  rw [lg_entry_eq]
  generalize (lg_sl (av.map (cv E)) ++ List.replicate (mL M - (lg_sl (av.map (cv E))).length) Slot.unset).toArray = ls at hl ⊢
  exact k p e s m _ below meth c s.heap ls [] ⟨B.exec, B.bytes, B.returns, hml, hown, fun w hw => hts w (List.mem_cons_of_mem _ hw), hK, B.notSynchronized, hE, trivial⟩ hP va_S.rf
    ⟨hl.1, hl.2.1, fun i v q => hl.2.2 (i, cv E v) (by have := lo0_args (E := E) av r (j := 0) q; rwa [Nat.zero_add] at this)⟩
end
section
section AWR
variable {E : EV} {M : MI} {K : KX} {tw tw' : TW} {h h' : HP} {pc : Nat} {loc : LC} {st : List Value}
theorem aw_iconst {n : Int} (v : Int32) (d : decode (mC M) pc = .ok (.iconst n, 1)) (hv : Int32.ofInt n = v) (k : AW E M K tw h (pc + 1) loc (.int v :: st)) : AW E M K tw h pc loc (st) :=
  fun p e s m args below meth c H ls locs C hP hS hl => lv_iconst C.1 C.2.1 d hv (k p e s m args below meth c H ls locs C hP hS hl)
theorem aw_bipush {n : Int} (v : Int32) (d : decode (mC M) pc = .ok (.bipush n, 2)) (hv : (Int8.ofInt n).toInt32 = v) (k : AW E M K tw h (pc + 2) loc (.int v :: st)) : AW E M K tw h pc loc (st) :=
  fun p e s m args below meth c H ls locs C hP hS hl => lv_bipush C.1 C.2.1 d hv (k p e s m args below meth c H ls locs C hP hS hl)
theorem aw_sipush {n : Int} (v : Int32) (d : decode (mC M) pc = .ok (.sipush n, 3)) (hv : (Int16.ofInt n).toInt32 = v) (k : AW E M K tw h (pc + 3) loc (.int v :: st)) : AW E M K tw h pc loc (st) :=
  fun p e s m args below meth c H ls locs C hP hS hl => lv_sipush C.1 C.2.1 d hv (k p e s m args below meth c H ls locs C hP hS hl)
theorem aw_ldc {i : Nat} {v : Int32} (g : Cond.constant (mY M).cls i v ∈ gt) (d : decode (mC M) pc = .ok (.ldc i, 2)) (k : AW E M K tw h (pc + 2) loc (.int v :: st)) : AW E M K tw h pc loc (st) :=
  fun p e s m args below meth c H ls locs C hP hS hl => lv_ldc C.1 C.2.1 C.2.2.2.2.1 (C.2.2.2.2.2.1 _ g) d (k p e s m args below meth c H ls locs C hP hS hl)
theorem aw_ldcw {i : Nat} {v : Int32} (g : Cond.constant (mY M).cls i v ∈ gt) (d : decode (mC M) pc = .ok (.ldc_w i, 3)) (k : AW E M K tw h (pc + 3) loc (.int v :: st)) : AW E M K tw h pc loc (st) :=
  fun p e s m args below meth c H ls locs C hP hS hl => lv_ldcw C.1 C.2.1 C.2.2.2.2.1 (C.2.2.2.2.2.1 _ g) d (k p e s m args below meth c H ls locs C hP hS hl)
theorem aw_ldc2 {i : Nat} {v : Int64} (g : Cond.constantLong (mY M).cls i v ∈ gt) (d : decode (mC M) pc = .ok (.ldc2_w i, 3)) (k : AW E M K tw h (pc + 3) loc (.long v :: st)) : AW E M K tw h pc loc (st) :=
  fun p e s m args below meth c H ls locs C hP hS hl => lv_ldc2 C.1 C.2.1 C.2.2.2.2.1 (C.2.2.2.2.2.1 _ g) d (k p e s m args below meth c H ls locs C hP hS hl)
theorem aw_lconst {n : Fin 2} (v : Int64) (d : decode (mC M) pc = .ok (.lconst n, 1)) (hv : Int64.ofNat n = v) (k : AW E M K tw h (pc + 1) loc (.long v :: st)) : AW E M K tw h pc loc (st) :=
  fun p e s m args below meth c H ls locs C hP hS hl => lv_lconst C.1 C.2.1 d hv (k p e s m args below meth c H ls locs C hP hS hl)
theorem aw_iload_n {n : Fin 4} {x : Int32} (d : decode (mC M) pc = .ok (.iload_n n, 1)) (q : ld loc n = some (.int x)) (k : AW E M K tw h (pc + 1) loc (.int x :: st)) : AW E M K tw h pc loc (st) :=
  fun p e s m args below meth c H ls locs C hP hS hl => lv_iload_n C.1 C.2.1 d rfl (hl.2.2 _ _ q) (k p e s m args below meth c H ls locs C hP hS hl)
theorem aw_iload {i : Nat} {x : Int32} (d : decode (mC M) pc = .ok (.iload i, 2)) (q : ld loc i = some (.int x)) (k : AW E M K tw h (pc + 2) loc (.int x :: st)) : AW E M K tw h pc loc (st) :=
  fun p e s m args below meth c H ls locs C hP hS hl => lv_iload C.1 C.2.1 d (hl.2.2 _ _ q) (k p e s m args below meth c H ls locs C hP hS hl)
theorem aw_lload_n {n : Fin 4} {x : Int64} (d : decode (mC M) pc = .ok (.lload_n n, 1)) (q : ld loc n = some (.long x)) (k : AW E M K tw h (pc + 1) loc (.long x :: st)) : AW E M K tw h pc loc (st) :=
  fun p e s m args below meth c H ls locs C hP hS hl => lv_lload_n C.1 C.2.1 d rfl (hl.2.2 _ _ q) (k p e s m args below meth c H ls locs C hP hS hl)
theorem aw_lload {i : Nat} {x : Int64} (d : decode (mC M) pc = .ok (.lload i, 2)) (q : ld loc i = some (.long x)) (k : AW E M K tw h (pc + 2) loc (.long x :: st)) : AW E M K tw h pc loc (st) :=
  fun p e s m args below meth c H ls locs C hP hS hl => lv_lload C.1 C.2.1 d (hl.2.2 _ _ q) (k p e s m args below meth c H ls locs C hP hS hl)
theorem aw_aload_n {n : Fin 4} {x : Nat} (d : decode (mC M) pc = .ok (.aload_n n, 1)) (q : ld loc n = some (.ref x)) (k : AW E M K tw h (pc + 1) loc (.ref x :: st)) : AW E M K tw h pc loc (st) :=
  fun p e s m args below meth c H ls locs C hP hS hl => lv_aload_n C.1 C.2.1 d rfl (hl.2.2 _ _ q) (k p e s m args below meth c H ls locs C hP hS hl)
theorem aw_aload {i : Nat} {x : Nat} (d : decode (mC M) pc = .ok (.aload i, 2)) (q : ld loc i = some (.ref x)) (k : AW E M K tw h (pc + 2) loc (.ref x :: st)) : AW E M K tw h pc loc (st) :=
  fun p e s m args below meth c H ls locs C hP hS hl => lv_aload C.1 C.2.1 d (hl.2.2 _ _ q) (k p e s m args below meth c H ls locs C hP hS hl)
theorem aw_istore_n {n : Fin 4} {x : Int32} (d : decode (mC M) pc = .ok (.istore_n n, 1)) (q : (n : Nat) < mL M) (k : AW E M K tw h (pc + 1) (so loc n (.int x)) (st)) : AW E M K tw h pc loc (.int x :: st) :=
  fun p e s m args below meth c H ls locs C hP hS hl => lv_istore_n C.1 C.2.1 d rfl hl.has q rfl (fun ls2 h2 => k p e s m args below meth c H ls2 locs C hP hS (LR.so h2))
theorem aw_istore {i : Nat} {x : Int32} (d : decode (mC M) pc = .ok (.istore i, 2)) (q : i < mL M) (k : AW E M K tw h (pc + 2) (so loc i (.int x)) (st)) : AW E M K tw h pc loc (.int x :: st) :=
  fun p e s m args below meth c H ls locs C hP hS hl => lv_istore C.1 C.2.1 d hl.has q rfl (fun ls2 h2 => k p e s m args below meth c H ls2 locs C hP hS (LR.so h2))
theorem aw_astore_n {n : Fin 4} {x : Nat} (d : decode (mC M) pc = .ok (.astore_n n, 1)) (q : (n : Nat) < mL M) (k : AW E M K tw h (pc + 1) (so loc n (.ref x)) (st)) : AW E M K tw h pc loc (.ref x :: st) :=
  fun p e s m args below meth c H ls locs C hP hS hl => lv_astore_n C.1 C.2.1 d rfl hl.has q rfl (fun ls2 h2 => k p e s m args below meth c H ls2 locs C hP hS (LR.so h2))
theorem aw_astore {i : Nat} {x : Nat} (d : decode (mC M) pc = .ok (.astore i, 2)) (q : i < mL M) (k : AW E M K tw h (pc + 2) (so loc i (.ref x)) (st)) : AW E M K tw h pc loc (.ref x :: st) :=
  fun p e s m args below meth c H ls locs C hP hS hl => lv_astore C.1 C.2.1 d hl.has q rfl (fun ls2 h2 => k p e s m args below meth c H ls2 locs C hP hS (LR.so h2))
theorem aw_lstore_n {n : Fin 4} {x : Int64} (d : decode (mC M) pc = .ok (.lstore_n n, 1)) (q : (n : Nat) + 1 < mL M) (k : AW E M K tw h (pc + 1) (so2 loc n (.long x)) (st)) : AW E M K tw h pc loc (.long x :: st) :=
  fun p e s m args below meth c H ls locs C hP hS hl => lv_lstore_n C.1 C.2.1 d rfl hl.has q rfl (fun ls2 h2 => k p e s m args below meth c H ls2 locs C hP hS (LR.so2 h2))
theorem aw_lstore {i : Nat} {x : Int64} (d : decode (mC M) pc = .ok (.lstore i, 2)) (q : i + 1 < mL M) (k : AW E M K tw h (pc + 2) (so2 loc i (.long x)) (st)) : AW E M K tw h pc loc (.long x :: st) :=
  fun p e s m args below meth c H ls locs C hP hS hl => lv_lstore C.1 C.2.1 d hl.has q rfl (fun ls2 h2 => k p e s m args below meth c H ls2 locs C hP hS (LR.so2 h2))
theorem lvl_at {loc : LC} {i : Nat} {v : Value} (q : ld loc i = some v) : ∃ j : Nat, (lvl E 0 loc)[j]? = some (i, cv E v) := by
  have := lvl_mem (E := E) (i := 0) q
  rw [Nat.zero_add] at this
  exact List.getElem?_of_mem this
theorem aw_iinc {i : Nat} {n : Int} {x : Int32} (v : Int32) (d : decode (mC M) pc = .ok (.iinc i n, 3)) (q : ld loc i = some (.int x)) (hn : i < mL M) (hv : Int32.ofInt n = v) (k : AW E M K tw h (pc + 3) (so loc i (.int (x + v))) st) : AW E M K tw h pc loc st := by
  intro p e s m args below meth c H ls locs C hP hS hl
  obtain ⟨j, hj⟩ := lvl_at (E := E) q
  exact lv_iinc C.1 C.2.1 d hl.has hj (by rw [hv]) hn rfl (fun ls2 h2 => k p e s m args below meth c H ls2 locs C hP hS (LR.so h2))
theorem aw_iadd {x y : Int32} (d : decode (mC M) pc = .ok (.iadd, 1)) (k : AW E M K tw h (pc + 1) loc (.int (x + y) :: st)) : AW E M K tw h pc loc (.int y :: .int x :: st) :=
  fun p e s m args below meth c H ls locs C hP hS hl => lv_iadd C.1 C.2.1 d (k p e s m args below meth c H ls locs C hP hS hl)
theorem aw_isub {x y : Int32} (d : decode (mC M) pc = .ok (.isub, 1)) (k : AW E M K tw h (pc + 1) loc (.int (x - y) :: st)) : AW E M K tw h pc loc (.int y :: .int x :: st) :=
  fun p e s m args below meth c H ls locs C hP hS hl => lv_isub C.1 C.2.1 d (k p e s m args below meth c H ls locs C hP hS hl)
theorem aw_imul {x y : Int32} (d : decode (mC M) pc = .ok (.imul, 1)) (k : AW E M K tw h (pc + 1) loc (.int (x * y) :: st)) : AW E M K tw h pc loc (.int y :: .int x :: st) :=
  fun p e s m args below meth c H ls locs C hP hS hl => lv_imul C.1 C.2.1 d (k p e s m args below meth c H ls locs C hP hS hl)
theorem aw_iand {x y : Int32} (d : decode (mC M) pc = .ok (.iand, 1)) (k : AW E M K tw h (pc + 1) loc (.int (x &&& y) :: st)) : AW E M K tw h pc loc (.int y :: .int x :: st) :=
  fun p e s m args below meth c H ls locs C hP hS hl => lv_iand C.1 C.2.1 d (k p e s m args below meth c H ls locs C hP hS hl)
theorem aw_ior {x y : Int32} (d : decode (mC M) pc = .ok (.ior, 1)) (k : AW E M K tw h (pc + 1) loc (.int (x ||| y) :: st)) : AW E M K tw h pc loc (.int y :: .int x :: st) :=
  fun p e s m args below meth c H ls locs C hP hS hl => lv_ior C.1 C.2.1 d (k p e s m args below meth c H ls locs C hP hS hl)
theorem aw_ixor {x y : Int32} (d : decode (mC M) pc = .ok (.ixor, 1)) (k : AW E M K tw h (pc + 1) loc (.int (x ^^^ y) :: st)) : AW E M K tw h pc loc (.int y :: .int x :: st) :=
  fun p e s m args below meth c H ls locs C hP hS hl => lv_ixor C.1 C.2.1 d (k p e s m args below meth c H ls locs C hP hS hl)
theorem aw_ishl {x y : Int32} (d : decode (mC M) pc = .ok (.ishl, 1)) (k : AW E M K tw h (pc + 1) loc (.int (x <<< (y &&& 31)) :: st)) : AW E M K tw h pc loc (.int y :: .int x :: st) :=
  fun p e s m args below meth c H ls locs C hP hS hl => lv_ishl C.1 C.2.1 d (k p e s m args below meth c H ls locs C hP hS hl)
theorem aw_ishr {x y : Int32} (d : decode (mC M) pc = .ok (.ishr, 1)) (k : AW E M K tw h (pc + 1) loc (.int (x >>> (y &&& 31)) :: st)) : AW E M K tw h pc loc (.int y :: .int x :: st) :=
  fun p e s m args below meth c H ls locs C hP hS hl => lv_ishr C.1 C.2.1 d (k p e s m args below meth c H ls locs C hP hS hl)
theorem aw_iushr {x y : Int32} (d : decode (mC M) pc = .ok (.iushr, 1)) (k : AW E M K tw h (pc + 1) loc (.int ((x.toUInt32 >>> (y.toUInt32 &&& Int32.toUInt32 31)).toInt32) :: st)) : AW E M K tw h pc loc (.int y :: .int x :: st) :=
  fun p e s m args below meth c H ls locs C hP hS hl => lv_iushr C.1 C.2.1 d rfl (k p e s m args below meth c H ls locs C hP hS hl)
theorem aw_ladd {x y : Int64} (d : decode (mC M) pc = .ok (.ladd, 1)) (k : AW E M K tw h (pc + 1) loc (.long (x + y) :: st)) : AW E M K tw h pc loc (.long y :: .long x :: st) :=
  fun p e s m args below meth c H ls locs C hP hS hl => lv_ladd C.1 C.2.1 d (k p e s m args below meth c H ls locs C hP hS hl)
theorem aw_lmul {x y : Int64} (d : decode (mC M) pc = .ok (.lmul, 1)) (k : AW E M K tw h (pc + 1) loc (.long (x * y) :: st)) : AW E M K tw h pc loc (.long y :: .long x :: st) :=
  fun p e s m args below meth c H ls locs C hP hS hl => lv_lmul C.1 C.2.1 d (k p e s m args below meth c H ls locs C hP hS hl)
theorem aw_idiv {x y : Int32} (hne : ¬ y = 0) (d : decode (mC M) pc = .ok (.idiv, 1)) (k : AW E M K tw h (pc + 1) loc (.int (x / y) :: st)) : AW E M K tw h pc loc (.int y :: .int x :: st) :=
  fun p e s m args below meth c H ls locs C hP hS hl => lv_idiv C.1 C.2.1 d hne (k p e s m args below meth c H ls locs C hP hS hl)
theorem aw_irem {x y : Int32} (hne : ¬ y = 0) (d : decode (mC M) pc = .ok (.irem, 1)) (k : AW E M K tw h (pc + 1) loc (.int (x - x / y * y) :: st)) : AW E M K tw h pc loc (.int y :: .int x :: st) :=
  fun p e s m args below meth c H ls locs C hP hS hl => lv_irem C.1 C.2.1 d hne (k p e s m args below meth c H ls locs C hP hS hl)
theorem aw_ldiv {x y : Int64} (hne : ¬ y = 0) (d : decode (mC M) pc = .ok (.ldiv, 1)) (k : AW E M K tw h (pc + 1) loc (.long (x / y) :: st)) : AW E M K tw h pc loc (.long y :: .long x :: st) :=
  fun p e s m args below meth c H ls locs C hP hS hl => lv_ldiv C.1 C.2.1 d hne (k p e s m args below meth c H ls locs C hP hS hl)
theorem aw_lrem {x y : Int64} (hne : ¬ y = 0) (d : decode (mC M) pc = .ok (.lrem, 1)) (k : AW E M K tw h (pc + 1) loc (.long (x - x / y * y) :: st)) : AW E M K tw h pc loc (.long y :: .long x :: st) :=
  fun p e s m args below meth c H ls locs C hP hS hl => lv_lrem C.1 C.2.1 d hne (k p e s m args below meth c H ls locs C hP hS hl)
theorem aw_ineg {x : Int32} (d : decode (mC M) pc = .ok (.ineg, 1)) (k : AW E M K tw h (pc + 1) loc (.int (-x) :: st)) : AW E M K tw h pc loc (.int x :: st) :=
  fun p e s m args below meth c H ls locs C hP hS hl => lv_ineg C.1 C.2.1 d (k p e s m args below meth c H ls locs C hP hS hl)
theorem aw_i2l {x : Int32} (d : decode (mC M) pc = .ok (.i2l, 1)) (k : AW E M K tw h (pc + 1) loc (.long x.toInt64 :: st)) : AW E M K tw h pc loc (.int x :: st) :=
  fun p e s m args below meth c H ls locs C hP hS hl => lv_i2l C.1 C.2.1 d rfl (k p e s m args below meth c H ls locs C hP hS hl)
theorem aw_l2i {x : Int64} (d : decode (mC M) pc = .ok (.l2i, 1)) (k : AW E M K tw h (pc + 1) loc (.int x.toInt32 :: st)) : AW E M K tw h pc loc (.long x :: st) :=
  fun p e s m args below meth c H ls locs C hP hS hl => lv_l2i C.1 C.2.1 d rfl (k p e s m args below meth c H ls locs C hP hS hl)
theorem aw_lcmp {x y : Int64} (d : decode (mC M) pc = .ok (.lcmp, 1)) (k : AW E M K tw h (pc + 1) loc (.int (lg_cmp x y) :: st)) : AW E M K tw h pc loc (.long y :: .long x :: st) :=
  fun p e s m args below meth c H ls locs C hP hS hl => W.lcmp C.1 C.2.1 d (k p e s m args below meth c H ls locs C hP hS hl)
theorem aw_dup {v : Value} (d : decode (mC M) pc = .ok (.dup, 1)) (q : v.category = 1) (k : AW E M K tw h (pc + 1) loc (v :: v :: st)) : AW E M K tw h pc loc (v :: st) :=
  fun p e s m args below meth c H ls locs C hP hS hl => lv_dup C.1 C.2.1 d (by rw [cv_cat]; exact q) (k p e s m args below meth c H ls locs C hP hS hl)
theorem aw_pop {v : Value} (d : decode (mC M) pc = .ok (.pop, 1)) (q : v.category = 1) (k : AW E M K tw h (pc + 1) loc (st)) : AW E M K tw h pc loc (v :: st) :=
  fun p e s m args below meth c H ls locs C hP hS hl => lv_pop C.1 C.2.1 d (by rw [cv_cat]; exact q) (k p e s m args below meth c H ls locs C hP hS hl)
theorem aw_dup2 {v u : Value} (d : decode (mC M) pc = .ok (.dup2, 1)) (q : v.category = 1) (q2 : u.category = 1) (k : AW E M K tw h (pc + 1) loc (v :: u :: v :: u :: st)) : AW E M K tw h pc loc (v :: u :: st) :=
  fun p e s m args below meth c H ls locs C hP hS hl => lv_dup2_11 C.1 C.2.1 d (by rw [cv_cat]; exact q) (by rw [cv_cat]; exact q2) (k p e s m args below meth c H ls locs C hP hS hl)
theorem aw_goto {off : Int} (tgt : Nat) (d : decode (mC M) pc = .ok (.goto off, 3)) (ht : (pc : Int) + off = (tgt : Int)) (k : AW E M K tw h (tgt) loc (st)) : AW E M K tw h pc loc (st) :=
  fun p e s m args below meth c H ls locs C hP hS hl => lv_goto C.1 C.2.1 d ht (k p e s m args below meth c H ls locs C hP hS hl)
theorem aw_if_eq {x : Int32} {off : Int} (tgt : Nat) (d : decode (mC M) pc = .ok (.ifCond .eq off, 3)) (ht : (pc : Int) + off = (tgt : Int)) (kt : x = 0 → AW E M K tw h tgt loc st) (kf : ¬ x = 0 → AW E M K tw h (pc + 3) loc st) : AW E M K tw h pc loc (.int x :: st) :=
  fun p e s m args below meth c H ls locs C hP hS hl => lv_if_eq C.1 C.2.1 d ht (fun q => kt q p e s m args below meth c H ls locs C hP hS hl) (fun q => kf q p e s m args below meth c H ls locs C hP hS hl)
theorem aw_if_ne {x : Int32} {off : Int} (tgt : Nat) (d : decode (mC M) pc = .ok (.ifCond .ne off, 3)) (ht : (pc : Int) + off = (tgt : Int)) (kt : ¬ x = 0 → AW E M K tw h tgt loc st) (kf : x = 0 → AW E M K tw h (pc + 3) loc st) : AW E M K tw h pc loc (.int x :: st) :=
  fun p e s m args below meth c H ls locs C hP hS hl => lv_if_ne C.1 C.2.1 d ht (fun q => kt q p e s m args below meth c H ls locs C hP hS hl) (fun q => kf q p e s m args below meth c H ls locs C hP hS hl)
theorem aw_if_lt {x : Int32} {off : Int} (tgt : Nat) (d : decode (mC M) pc = .ok (.ifCond .lt off, 3)) (ht : (pc : Int) + off = (tgt : Int)) (kt : x < 0 → AW E M K tw h tgt loc st) (kf : ¬ x < 0 → AW E M K tw h (pc + 3) loc st) : AW E M K tw h pc loc (.int x :: st) :=
  fun p e s m args below meth c H ls locs C hP hS hl => lv_if_lt C.1 C.2.1 d ht (fun q => kt q p e s m args below meth c H ls locs C hP hS hl) (fun q => kf q p e s m args below meth c H ls locs C hP hS hl)
theorem aw_if_ge {x : Int32} {off : Int} (tgt : Nat) (d : decode (mC M) pc = .ok (.ifCond .ge off, 3)) (ht : (pc : Int) + off = (tgt : Int)) (kt : 0 ≤ x → AW E M K tw h tgt loc st) (kf : ¬ 0 ≤ x → AW E M K tw h (pc + 3) loc st) : AW E M K tw h pc loc (.int x :: st) :=
  fun p e s m args below meth c H ls locs C hP hS hl => lv_if_ge C.1 C.2.1 d ht (fun q => kt q p e s m args below meth c H ls locs C hP hS hl) (fun q => kf q p e s m args below meth c H ls locs C hP hS hl)
theorem aw_if_gt {x : Int32} {off : Int} (tgt : Nat) (d : decode (mC M) pc = .ok (.ifCond .gt off, 3)) (ht : (pc : Int) + off = (tgt : Int)) (kt : 0 < x → AW E M K tw h tgt loc st) (kf : ¬ 0 < x → AW E M K tw h (pc + 3) loc st) : AW E M K tw h pc loc (.int x :: st) :=
  fun p e s m args below meth c H ls locs C hP hS hl => lv_if_gt C.1 C.2.1 d ht (fun q => kt q p e s m args below meth c H ls locs C hP hS hl) (fun q => kf q p e s m args below meth c H ls locs C hP hS hl)
theorem aw_if_le {x : Int32} {off : Int} (tgt : Nat) (d : decode (mC M) pc = .ok (.ifCond .le off, 3)) (ht : (pc : Int) + off = (tgt : Int)) (kt : x ≤ 0 → AW E M K tw h tgt loc st) (kf : ¬ x ≤ 0 → AW E M K tw h (pc + 3) loc st) : AW E M K tw h pc loc (.int x :: st) :=
  fun p e s m args below meth c H ls locs C hP hS hl => lv_if_le C.1 C.2.1 d ht (fun q => kt q p e s m args below meth c H ls locs C hP hS hl) (fun q => kf q p e s m args below meth c H ls locs C hP hS hl)
theorem aw_icmp_eq {x y : Int32} {off : Int} (tgt : Nat) (d : decode (mC M) pc = .ok (.if_icmp .eq off, 3)) (ht : (pc : Int) + off = (tgt : Int)) (kt : x = y → AW E M K tw h tgt loc st) (kf : ¬ x = y → AW E M K tw h (pc + 3) loc st) : AW E M K tw h pc loc (.int y :: .int x :: st) :=
  fun p e s m args below meth c H ls locs C hP hS hl => lv_icmp_eq C.1 C.2.1 d ht (fun q => kt q p e s m args below meth c H ls locs C hP hS hl) (fun q => kf q p e s m args below meth c H ls locs C hP hS hl)
theorem aw_icmp_ne {x y : Int32} {off : Int} (tgt : Nat) (d : decode (mC M) pc = .ok (.if_icmp .ne off, 3)) (ht : (pc : Int) + off = (tgt : Int)) (kt : ¬ x = y → AW E M K tw h tgt loc st) (kf : x = y → AW E M K tw h (pc + 3) loc st) : AW E M K tw h pc loc (.int y :: .int x :: st) :=
  fun p e s m args below meth c H ls locs C hP hS hl => lv_icmp_ne C.1 C.2.1 d ht (fun q => kt q p e s m args below meth c H ls locs C hP hS hl) (fun q => kf q p e s m args below meth c H ls locs C hP hS hl)
theorem aw_icmp_lt {x y : Int32} {off : Int} (tgt : Nat) (d : decode (mC M) pc = .ok (.if_icmp .lt off, 3)) (ht : (pc : Int) + off = (tgt : Int)) (kt : x < y → AW E M K tw h tgt loc st) (kf : ¬ x < y → AW E M K tw h (pc + 3) loc st) : AW E M K tw h pc loc (.int y :: .int x :: st) :=
  fun p e s m args below meth c H ls locs C hP hS hl => lv_icmp_lt C.1 C.2.1 d ht (fun q => kt q p e s m args below meth c H ls locs C hP hS hl) (fun q => kf q p e s m args below meth c H ls locs C hP hS hl)
theorem aw_icmp_ge {x y : Int32} {off : Int} (tgt : Nat) (d : decode (mC M) pc = .ok (.if_icmp .ge off, 3)) (ht : (pc : Int) + off = (tgt : Int)) (kt : y ≤ x → AW E M K tw h tgt loc st) (kf : ¬ y ≤ x → AW E M K tw h (pc + 3) loc st) : AW E M K tw h pc loc (.int y :: .int x :: st) :=
  fun p e s m args below meth c H ls locs C hP hS hl => lv_icmp_ge C.1 C.2.1 d ht (fun q => kt q p e s m args below meth c H ls locs C hP hS hl) (fun q => kf q p e s m args below meth c H ls locs C hP hS hl)
theorem aw_icmp_gt {x y : Int32} {off : Int} (tgt : Nat) (d : decode (mC M) pc = .ok (.if_icmp .gt off, 3)) (ht : (pc : Int) + off = (tgt : Int)) (kt : y < x → AW E M K tw h tgt loc st) (kf : ¬ y < x → AW E M K tw h (pc + 3) loc st) : AW E M K tw h pc loc (.int y :: .int x :: st) :=
  fun p e s m args below meth c H ls locs C hP hS hl => lv_icmp_gt C.1 C.2.1 d ht (fun q => kt q p e s m args below meth c H ls locs C hP hS hl) (fun q => kf q p e s m args below meth c H ls locs C hP hS hl)
theorem aw_icmp_le {x y : Int32} {off : Int} (tgt : Nat) (d : decode (mC M) pc = .ok (.if_icmp .le off, 3)) (ht : (pc : Int) + off = (tgt : Int)) (kt : x ≤ y → AW E M K tw h tgt loc st) (kf : ¬ x ≤ y → AW E M K tw h (pc + 3) loc st) : AW E M K tw h pc loc (.int y :: .int x :: st) :=
  fun p e s m args below meth c H ls locs C hP hS hl => lv_icmp_le C.1 C.2.1 d ht (fun q => kt q p e s m args below meth c H ls locs C hP hS hl) (fun q => kf q p e s m args below meth c H ls locs C hP hS hl)
theorem aw_tableOut {dflt lo hi : Int} {offs : Array Int} {len : Nat} {x : Int32} (tgt : Nat) (d : decode (mC M) pc = .ok (.tableswitch dflt lo hi offs, len)) (q : x.toInt < lo ∨ hi < x.toInt) (ht : (pc : Int) + dflt = (tgt : Int)) (k : AW E M K tw h tgt loc st) : AW E M K tw h pc loc (.int x :: st) :=
  fun p e s m args below meth c H ls locs C hP hS hl => lv_tableOut C.1 C.2.1 d q ht (k p e s m args below meth c H ls locs C hP hS hl)
theorem aw_tableIn {dflt lo hi : Int} {offs : Array Int} {len : Nat} {x : Int32} {off : Int} (tgt : Nat) (d : decode (mC M) pc = .ok (.tableswitch dflt lo hi offs, len)) (q1 : ¬ x.toInt < lo) (q2 : ¬ hi < x.toInt) (ho : offs[(x.toInt - lo).toNat]? = some off) (ht : (pc : Int) + off = (tgt : Int)) (k : AW E M K tw h tgt loc st) : AW E M K tw h pc loc (.int x :: st) :=
  fun p e s m args below meth c H ls locs C hP hS hl => lv_tableIn C.1 C.2.1 d q1 q2 ho ht (k p e s m args below meth c H ls locs C hP hS hl)
theorem aw_lookup {dflt : Int} {ps : Array (Int × Int)} {len : Nat} {x : Int32} {off : Int} (tgt : Nat) (d : decode (mC M) pc = .ok (.lookupswitch dflt ps, len)) (hp : (ps.toList.zip (ps.toList.drop 1)).all (fun (a, next) => a.1 < next.1) = true) (ho : Op.lookupswitch.offset ps.toList dflt x.toInt = off) (ht : (pc : Int) + off = (tgt : Int)) (k : AW E M K tw h tgt loc st) : AW E M K tw h pc loc (.int x :: st) :=
  fun p e s m args below meth c H ls locs C hP hS hl => lv_lookup C.1 C.2.1 d hp ho ht (k p e s m args below meth c H ls locs C hP hS hl)
theorem aw_dl {loc' : LC} (q : dl loc' loc) (k : AW E M K tw h pc loc' st) : AW E M K tw h pc loc st :=
  fun p e s m args below meth c H ls locs C hP hS hl => k p e s m args below meth c H ls locs C hP hS (hl.dl q)
theorem wE_obj {k c N : Nat} (hk : kd k = (c + 3, N)) : wE E tw h k = .inr (c, (List.range N).map (fun j => cv E (fv tw h k c j))) := by unfold wE; rw [hk]
theorem wE_int {k N : Nat} (hk : kd k = (0, N)) : wE E tw h k = .inl (eI E, N, .inl (h k)) := by unfold wE; rw [hk]
theorem wE_bool {k N : Nat} (hk : kd k = (1, N)) : wE E tw h k = .inl (eZ E, N, .inl (h k)) := by unfold wE; rw [hk]
theorem wE_row {k N : Nat} (hk : kd k = (2, N)) : wE E tw h k = .inl (eO E, N, .inr (.inr (.inr (.inr (fun j => if j < N then some (eA E (k + 1 + j)) else none))))) := by unfold wE; rw [hk]
theorem wW_obj {k c N : Nat} (hn : k < eN E) (hk : kd k = (c + 3, N)) : (wW E tw h)[k]? = some (eA E k, .inr (c, (List.range N).map (fun j => cv E (fv tw h k c j)))) := by rw [wW_get E tw h hn, wE_obj hk]
theorem wW_int {k N : Nat} (hn : k < eN E) (hk : kd k = (0, N)) : (wW E tw h)[k]? = some (eA E k, .inl (eI E, N, .inl (h k))) := by rw [wW_get E tw h hn, wE_int hk]
theorem wW_bool {k N : Nat} (hn : k < eN E) (hk : kd k = (1, N)) : (wW E tw h)[k]? = some (eA E k, .inl (eZ E, N, .inl (h k))) := by rw [wW_get E tw h hn, wE_bool hk]
theorem wW_row {k N : Nat} (hn : k < eN E) (hk : kd k = (2, N)) : (wW E tw h)[k]? = some (eA E k, .inl (eO E, N, .inr (.inr (.inr (.inr (fun j => if j < N then some (eA E (k + 1 + j)) else none)))))) := by rw [wW_get E tw h hn, wE_row hk]
/-- field j of class c (its name, its table, how many fields): 'own' links it at index i -/
def fk (M : MI) (i c j : Nat) : Prop := ∃ q : vw_C, vwCl[c]? = some q ∧ j < q.2.2 ∧ (∀ w ∈ u_ws q.1 q.2.1 q.2.2, w ∈ gt) ∧ Cond.fieldLink (mY M).cls i (q.2.1 j).1 (q.2.1 j).2.1 (q.2.1 j).2.2.1 ∈ gt
theorem aw_get {q c N i j : Nat} {v : Value} (hn : q < eN E) (hk : kd q = (c + 3, N)) (hf : fk M i c j) (hj : j < N) (hv : fv tw h q c j = v) (d : decode (mC M) pc = .ok (.getfield i, 3)) (k : AW E M K tw h (pc + 3) loc (v :: st)) : AW E M K tw h pc loc (.ref q :: st) := by
  intro p e s m args below meth c' H ls locs C hP hS hl
  obtain ⟨⟨C1, T, N1⟩, h1, h2, h3, h4⟩ := hf
  subst hv
  exact va_get (D := eD E) (ci := c) (v := cv E (fv tw h q c j)) C.1 C.2.1 C.2.2.2.2.2.1 h3 C.2.2.2.2.1 C.2.2.2.2.2.2.1 hP q (wW_obj hn hk) h1 j h2 (C.2.2.2.2.2.1 _ h4) (fun _ h9 => h9) (by simp [hj]) d (k p e s m args below meth c' H ls locs C hP hS hl)
theorem fv_int {k c j : Nat} (hr : rft tw k c j = none) : fv tw h k c j = .int (h k j) := by unfold fv; rw [hr]
theorem fv_ref {k c j q : Nat} (hr : rft tw k c j = some q) : fv tw h k c j = .ref q := by unfold fv; rw [hr]
theorem aw_geti {q c N i j : Nat} (hn : q < eN E) (hk : kd q = (c + 3, N)) (hf : fk M i c j) (hj : j < N) (hr : rft tw q c j = none) (d : decode (mC M) pc = .ok (.getfield i, 3)) (k : AW E M K tw h (pc + 3) loc (.int (h q j) :: st)) : AW E M K tw h pc loc (.ref q :: st) := aw_get hn hk hf hj (fv_int hr) d k
theorem aw_getr {q c N i j x : Nat} (hn : q < eN E) (hk : kd q = (c + 3, N)) (hf : fk M i c j) (hj : j < N) (hr : rft tw q c j = some x) (d : decode (mC M) pc = .ok (.getfield i, 3)) (k : AW E M K tw h (pc + 3) loc (.ref x :: st)) : AW E M K tw h pc loc (.ref q :: st) := aw_get hn hk hf hj (fv_ref hr) d k
theorem set_map' {N j : Nat} {f g : Nat → Value} (ho : ∀ i, i ≠ j → f i = g i) {v : Value} (hv : v = g j) : ((List.range N).map f).set j v = (List.range N).map g := by
  subst hv
  apply List.ext_getElem?
  intro i
  by_cases hi : i = j
  · subst hi
    by_cases hn : i < N
    · rw [List.getElem?_set_self (by simpa using hn)]; simp [hn]
    · rw [List.getElem?_eq_none (by simpa using Nat.le_of_not_lt hn), List.getElem?_eq_none (by simpa using Nat.le_of_not_lt hn)]
  · rw [List.getElem?_set_ne (fun q => hi q.symm)]
    by_cases hn : i < N
    · simp [hn, ho i hi]
    · rw [List.getElem?_eq_none (by simpa using Nat.le_of_not_lt hn), List.getElem?_eq_none (by simpa using Nat.le_of_not_lt hn)]
theorem fv_up {q c j i : Nat} {x : Int32} (hi : i ≠ j) : fv tw h q c i = fv tw (up h q j x) q c i := by
  unfold fv up
  rw [upc_same]
  cases rft tw q c i with
  | some _ => rfl
  | none => show Value.int _ = Value.int _; unfold upd; rw [if_neg hi]
/-- field j of class c can be written: its types' table -/
def fw (c j : Nat) (ty : FieldType) : Prop := ∃ (q : vw_C) (ty0 : Nat → FieldType), vwCl[c]? = some q ∧ (∀ k, k < q.2.2 → parseFieldDescriptor (q.2.1 k).2.2.1 = some (ty0 k)) ∧ (∀ a, a < q.2.2 → ∀ b, b < q.2.2 → a ≠ b → (q.2.1 a).2.1 ≠ (q.2.1 b).2.1) ∧ (q.2.1 j).2.2.2 = false ∧ parseFieldDescriptor (q.2.1 j).2.2.1 = some ty
theorem aw_put {q c N i j : Nat} {v : Value} {ty : FieldType} (hn : q < eN E) (hk : kd q = (c + 3, N)) (hf : fk M i c j) (hw : fw c j ty) (hj : j < N) (hnr : narrow ty (cv E v) = cv E v) (hft : fits ty (cv E v) = true)
    (hs : (wW E tw h).set q (eA E q, .inr (c, ((List.range N).map (fun j => cv E (fv tw h q c j))).set j (cv E v))) = wW E tw' h') (d : decode (mC M) pc = .ok (.putfield i, 3)) (k : AW E M K tw' h' (pc + 3) loc st) : AW E M K tw h pc loc (v :: .ref q :: st) := by
  intro p e s m args below meth c' H ls locs C hP hS hl
  obtain ⟨⟨C1, T, N1⟩, h1, h2, h3, h4⟩ := hf
  obtain ⟨⟨C2, T2, N2⟩, ty0, g1, g2, g3, g4, g5⟩ := hw
  have e1 : some (C1, T, N1) = some (C2, T2, N2) := h1.symm.trans g1
  cases e1
  refine va_put (D := eD E) (ci := c) (v := cv E v) (ty := ty) C.1 C.2.1 C.2.2.2.2.2.1 h3 ty0 g2 g3 C.2.2.2.2.1 C.2.2.2.2.2.2.1 hP (wD C.2.2.2.2.2.2.2.2.1 tw h s.heap.size) hS q (wW_obj hn hk) h1 j h2 (C.2.2.2.2.2.1 _ h4) (fun _ h9 => h9) g4 g5 hnr hft (by simpa using hj) d (fun H1 locs1 hP1 hD1 hS1 => ?_)
  rw [hs] at hP1
  exact k p e s m args below meth c' H1 ls locs1 C hP1 hS1 hl
theorem aw_puti {q c N i j : Nat} {x : Int32} (hn : q < eN E) (hk : kd q = (c + 3, N)) (hf : fk M i c j) (hw : fw c j .int) (hj : j < N) (hr : rft tw q c j = none) (d : decode (mC M) pc = .ok (.putfield i, 3)) (k : AW E M K tw (up h q j x) (pc + 3) loc st) : AW E M K tw h pc loc (.int x :: .ref q :: st) := by
  refine aw_put hn hk hf hw hj rfl rfl ?_ d k
  refine wW_set E hn ?_ (fun i hi => wE_upc E tw h _ hi)
  rw [wE_obj hk, set_map' (g := fun i => cv E (fv tw (up h q j x) q c i)) (fun i hi => by rw [fv_up hi]) ?_]
  rw [fv_int hr, up, upc_same]
  unfold upd
  rw [if_pos rfl]
theorem up_same (h : HP) (q j : Nat) (x : Int32) : up h q j x q j = x := by unfold up upc upd; rw [if_pos rfl, if_pos rfl]
theorem aw_putz {q c N i j : Nat} {x : Int32} (hn : q < eN E) (hk : kd q = (c + 3, N)) (hf : fk M i c j) (hw : fw c j .boolean) (hj : j < N) (hr : rft tw q c j = none) (hx : x = 0 ∨ x = 1) (d : decode (mC M) pc = .ok (.putfield i, 3)) (k : AW E M K tw (up h q j x) (pc + 3) loc st) : AW E M K tw h pc loc (.int x :: .ref q :: st) := by
  refine aw_put hn hk hf hw hj (by rcases hx with rfl | rfl <;> rfl) (by rcases hx with rfl | rfl <;> rfl) ?_ d k
  refine wW_set E hn ?_ (fun i hi => wE_upc E tw h _ hi)
  rw [wE_obj hk, set_map' (g := fun i => cv E (fv tw (up h q j x) q c i)) (fun i hi => by rw [fv_up hi]) ?_]
  rw [fv_int hr, up_same]
theorem rft_tw {c : Nat} (hc : c ≠ 6) (tw2 : TW) (k j : Nat) : rft tw2 k c j = rft tw k c j := by
  unfold rft
  split <;> simp_all
theorem wE_tw {j : Nat} (hj : (kd j).1 ≠ 9) (tw2 : TW) : wE E tw2 h j = wE E tw h j := by
  unfold wE
  split <;> try rfl
  next c L hk =>
    have hc : c ≠ 6 := fun q => hj (by rw [hk, q])
    refine congrArg (fun z => Sum.inr (c, z)) (List.map_congr_left fun i _ => ?_)
    unfold fv
    rw [rft_tw (tw := tw) hc tw2]
theorem kd9 : ∀ j, j ≠ 0 → (kd j).1 ≠ 9 := by
  intro j hj
  by_cases h : j < 56
  · revert hj
    revert j
    decide +kernel
  · unfold kd
    rw [List.getD_eq_getElem?_getD, List.getElem?_eq_none (by simpa [kdL] using Nat.le_of_not_lt h)]
    decide
theorem aw_putT {i j x : Nat} {ty : FieldType} (hn : 0 < eN E) (hf : fk M i 6 j) (hw : fw 6 j ty) (hj : j = 1 ∧ tw' = (x, tw.2) ∨ j = 2 ∧ tw' = (tw.1, x)) (hnr : ∀ a, narrow ty (.ref a) = .ref a) (hft : ∀ a, fits ty (.ref a) = true) (d : decode (mC M) pc = .ok (.putfield i, 3)) (k : AW E M K tw' h (pc + 3) loc st) : AW E M K tw h pc loc (.ref x :: .ref 0 :: st) := by
  refine aw_put (tw' := tw') (h' := h) (q := 0) (c := 6) (N := 12) hn rfl hf hw (by omega) (hnr _) (hft _) ?_ d k
  refine wW_set E hn ?_ (fun i hi => wE_tw (kd9 i hi) _)
  have ho : ∀ z, z ≠ j → cv E (fv tw h 0 6 z) = cv E (fv tw' h 0 6 z) := by
    intro z hz
    have : rft tw 0 6 z = rft tw' 0 6 z := by
      rcases hj with ⟨rfl, rfl⟩ | ⟨rfl, rfl⟩ <;> unfold rft <;> split <;> simp_all
    unfold fv
    rw [this]
  have hv : cv E (.ref x) = cv E (fv tw' h 0 6 j) := by rcases hj with ⟨rfl, rfl⟩ | ⟨rfl, rfl⟩ <;> rfl
  rw [wE_obj (c := 6) (N := 12) rfl, set_map' (g := fun i => cv E (fv tw' h 0 6 i)) ho hv]
/-- a place in a row of so many -/
def inb (x : Int32) (L : Nat) : Bool := decide (¬ (x < 0 ∨ L ≤ x.toNatClampNeg))
theorem inb_in {x : Int32} {L : Nat} (q : inb x L = true) : vp_in x L := of_decide_eq_true (p := ¬ (x < 0 ∨ L ≤ x.toNatClampNeg)) q
theorem aw_iald {q N : Nat} {x : Int32} (hn : q < eN E) (hk : kd q = (0, N)) (hin : inb x N = true) (d : decode (mC M) pc = .ok (.iaload, 1)) (k : AW E M K tw h (pc + 1) loc (.int (h q x.toNatClampNeg) :: st)) : AW E M K tw h pc loc (.int x :: .ref q :: st) :=
  fun p e s m args below meth c H ls locs C hP hS hl => va_iald (D := eD E) C.1 C.2.1 C.2.2.2.2.2.2.1 hP q 0 (wW_int hn hk) rfl (inb_in hin) d (k p e s m args below meth c H ls locs C hP hS hl)
theorem aw_zald {q N : Nat} {x : Int32} (hn : q < eN E) (hk : kd q = (1, N)) (hin : inb x N = true) (d : decode (mC M) pc = .ok (.baload, 1)) (k : AW E M K tw h (pc + 1) loc (.int (h q x.toNatClampNeg) :: st)) : AW E M K tw h pc loc (.int x :: .ref q :: st) :=
  fun p e s m args below meth c H ls locs C hP hS hl => va_zald (D := eD E) C.1 C.2.1 C.2.2.2.2.2.2.1 hP q 1 (wW_bool hn hk) rfl (inb_in hin) d (k p e s m args below meth c H ls locs C hP hS hl)
theorem aw_aald {q N : Nat} {x : Int32} (hn : q < eN E) (hk : kd q = (2, N)) (hin : inb x N = true) (d : decode (mC M) pc = .ok (.aaload, 1)) (k : AW E M K tw h (pc + 1) loc (.ref (q + 1 + x.toNatClampNeg) :: st)) : AW E M K tw h pc loc (.int x :: .ref q :: st) := by
  intro p e s m args below meth c H ls locs C hP hS hl
  have hin' := inb_in hin
  have hlt : x.toNatClampNeg < N := Nat.not_le.mp fun z => hin' (Or.inr z)
  refine W.aald (v := .ref (eA E (q + 1 + x.toNatClampNeg))) (ty := .array .int) C.1 C.2.1 (hP q _ (wW_row hn hk)) ((C.2.2.2.2.2.2.1.2 2 _ rfl).1 N _) rfl (fun z => by cases z) (by show ¬ (x < 0 ∨ (arrV _ _ _).slots.size ≤ _); rw [arrV_size]; exact hin') (by show (arrV _ _ _).slots[_]? = _; rw [arrV_read _ _ hlt]; show some (va_rf (if _ then _ else _)) = _; rw [if_pos hlt]; rfl) rfl rfl d (k p e s m args below meth c H ls locs C hP hS hl)
theorem aw_alen {q N : Nat} (v : Int32) (hn : q < eN E) (hk : kd q = (0, N)) (hv : Int32.ofNat N = v) (d : decode (mC M) pc = .ok (.arraylength, 1)) (k : AW E M K tw h (pc + 1) loc (.int v :: st)) : AW E M K tw h pc loc (.ref q :: st) :=
  fun p e s m args below meth c H ls locs C hP hS hl => va_alen (D := eD E) C.1 C.2.1 C.2.2.2.2.2.2.1 hP q 0 (wW_int hn hk) rfl hv d (k p e s m args below meth c H ls locs C hP hS hl)
theorem aw_iast {q N : Nat} {x y : Int32} (hn : q < eN E) (hk : kd q = (0, N)) (hin : inb x N = true) (d : decode (mC M) pc = .ok (.iastore, 1)) (k : AW E M K tw (up h q x.toNatClampNeg y) (pc + 1) loc st) : AW E M K tw h pc loc (.int y :: .int x :: .ref q :: st) := by
  intro p e s m args below meth c H ls locs C hP hS hl
  refine va_iast (D := eD E) C.1 C.2.1 C.2.2.2.2.2.2.1 hP (wD C.2.2.2.2.2.2.2.2.1 tw h s.heap.size) hS q 0 (wW_int hn hk) rfl (inb_in hin) d (fun H1 locs1 hP1 hD1 hS1 => ?_)
  rw [wW_set E (tw' := tw) (h' := up h q x.toNatClampNeg y) hn (by rw [wE_int hk, up, upc_same]) (fun i hi => wE_upc E tw h _ hi)] at hP1
  exact k p e s m args below meth c H1 ls locs1 C hP1 hS1 hl
theorem aw_zast {q N : Nat} {x y : Int32} (hn : q < eN E) (hk : kd q = (1, N)) (hin : inb x N = true) (hy : y = 0 ∨ y = 1) (d : decode (mC M) pc = .ok (.bastore, 1)) (k : AW E M K tw (up h q x.toNatClampNeg y) (pc + 1) loc st) : AW E M K tw h pc loc (.int y :: .int x :: .ref q :: st) := by
  intro p e s m args below meth c H ls locs C hP hS hl
  refine va_zast (D := eD E) C.1 C.2.1 C.2.2.2.2.2.2.1 hP (wD C.2.2.2.2.2.2.2.2.1 tw h s.heap.size) hS q 1 (wW_bool hn hk) rfl (inb_in hin) d (fun H1 locs1 hP1 hD1 hS1 => ?_)
  rw [show vp_nar .boolean y = y by rcases hy with rfl | rfl <;> rfl] at hP1
  rw [wW_set E (tw' := tw) (h' := up h q x.toNatClampNeg y) hn (by rw [wE_bool hk, up, upc_same]) (fun i hi => wE_upc E tw h _ hi)] at hP1
  exact k p e s m args below meth c H1 ls locs1 C hP1 hS1 hl
/-- System.arraycopy -/
def cpb (x y n : Int32) (L0 L1 : Nat) : Bool := decide (¬ x < 0 ∧ ¬ y < 0 ∧ ¬ n < 0 ∧ x.toNatClampNeg + n.toNatClampNeg ≤ L0 ∧ y.toNatClampNeg + n.toNatClampNeg ≤ L1)
def cpy (h : HP) (a : Nat) (x : Int32) (b : Nat) (y n : Int32) : HP := upc h b (va_cpy (h a) (h b) x.toNatClampNeg y.toNatClampNeg n.toNatClampNeg)
theorem aw_copy {i a b L0 L1 : Nat} {x y n : Int32} (ha : a < eN E) (hb : b < eN E) (ka : kd a = (0, L0)) (kb : kd b = (0, L1)) (hc : cpb x y n L0 L1 = true) (gl : Cond.methodLink (mY M).cls i arraycopyName ∈ gt) (gn : Cond.native arraycopyName ∈ gt) (gs : Cond.static arraycopyName ∈ gt) (gi : Cond.initialized "java/lang/System" ∈ gt)
    (hR : 1 ≤ K.1.frames ∧ (st.map Value.category).sum + (nativeFrameWords "java/lang/System" "arraycopy" 5 + 11) ≤ K.1.locals) (d : decode (mC M) pc = .ok (.invokestatic i, 3)) (k : AW E M K tw (cpy h a x b y n) (pc + 3) loc st) : AW E M K tw h pc loc (.int n :: .int y :: .ref b :: .int x :: .ref a :: st) := by
  intro p e s m args below meth c H ls locs C hP hS hl
  obtain ⟨h1, h2, h3, h4, h5⟩ := of_decide_eq_true hc
  have hg := C.2.2.2.2.2.1
  refine va_copyi (D := eD E) C.1 C.2.1 (by rw [C.2.2.2.1, hl.1]) C.2.2.2.2.1 (hg _ gl) (hg _ gn) (hg _ gs) (hg _ gi) C.2.2.2.2.2.2.1 hP (wD C.2.2.2.2.2.2.2.2.1 tw h s.heap.size) hS a b 0 0 (wW_int ha ka) (wW_int hb kb) rfl rfl rfl h1 h2 h3 h4 h5 (fun _ _ => rfl) hR.1 ?_ d (fun H1 locs1 hP1 hD1 hS1 => ?_)
  · rw [List.map_map, show ((fun v : Value => v.category) ∘ cv E) = Value.category from funext fun v => cv_cat E v]
    exact hR.2
  · rw [wW_set E (tw' := tw) (h' := cpy h a x b y n) hb (by rw [wE_int kb, cpy, upc_same]) (fun i hi => wE_upc E tw h _ hi)] at hP1
    exact k p e s m args below meth c H1 ls locs1 C hP1 hS1 hl
end AWR
section AWC
variable {E : EV} {M N : MI} {K : KX} {tw tw' : TW} {h h' : HP} {pc : Nat} {loc : LC} {st : List Value}
theorem QC.blind {av : List Value} {sz : Nat} : FrameBlind (va_Pc (av.map (cv E)) (fun U => U.heap.size = sz ∧ va_P (eD E) vwCl (wW E tw h) U.heap ∧ va_K (eD E) vwCl (tyE E) U)) := by
  intro a U g mk q
  obtain ⟨q0, q1, qP, qK⟩ := q
  exact ⟨q0, q1, qP, va_K.moved (u := U) (U := U.calling g mk a) (Vm.Alike.refl U.vm) qK⟩
/-- behind a call -/
theorem aw_back {p : Program} {e : Env} {s : State} {m : MethodId} {args : Array Value} {below : List Frame} {meth : Method} {c : Code} {H : Heap} {ls : Array Slot} {locs : List Loc} {rv : Option Value} {a : Array Value} {st0 : List Value}
    (C : CX E M K p s m args meth c) (hS : va_S (fA E s.heap.size) s.heap H locs) (hl : LR E M ls loc) (hr : va_Run p (eL E) e K.1 s m args below meth c H locs K.2.1 K.2.2.1 0 0 (F0 m pc ls st0) (st.map (cv E)) (QC E H.size rv tw' h' a) (fA E H.size))
    (k : AW E M K tw' h' (pc + 3) loc (rv.toList ++ st)) : W p (eL E) e K.1 s m args below meth c H locs K.2.1 K.2.2.1 (K.2.2.2.1 below args s) (F0 m pc ls st0) := by
  intro T hT X
  obtain ⟨v, st₀, t, T', L, h0, X', hL, e1, e2, ⟨⟨hv, hp, hb⟩, hz, hk⟩, stp⟩ := hr T hT X
  have hv2 : v = rv.map (cv E) := by cases hv; rfl
  subst hv2
  rw [h0] at hz hk
  have hsub : ∀ q, fA E H.size q → fA E s.heap.size q := fun q hq => by
    rcases hq with hq | hq
    · exact Or.inl hq
    · exact Or.inr (Nat.le_trans hS.1 hq)
  have hS' : va_S (fA E s.heap.size) s.heap T'.heap (locs ++ L) := by
    refine ⟨Nat.le_trans hS.1 (by rw [e1]; exact hz), fun q h1 h2 => ?_, fun q hq => ?_⟩
    · rw [e1, hk q (Nat.lt_of_lt_of_le h1 hS.1) (fun z => h2 (hsub q z))]
      exact hS.2.1 q h1 h2
    · rcases List.mem_append.mp hq with z | z
      · exact hS.2.2 q z
      · exact hsub _ (hL q z)
  obtain ⟨t2, a1, b1⟩ := k p e s m args below meth c T'.heap ls (locs ++ L) C (by rw [e1]; exact hp) hS' hl T' rfl X'
  refine ⟨t2, stp t2 ?_, b1⟩
  have : (rv.map (cv E)).toList ++ st.map (cv E) = (rv.toList ++ st).map (cv E) := by cases rv <;> rfl
  rw [this]
  exact a1
/-- a method that can be called on an object of its class: the words -/
def okV (N : MI) (n : Nat) : Prop := Cond.instanceMethod (mY N) ∈ gt ∧ Cond.selects (mY N).cls (mY N) (mY N) ∈ gt ∧ Cond.initialized (mY N).cls ∈ gt ∧ Cond.code (mY N) (mC N) (mL N) (mR N) ∈ gt ∧ (mY N).cls ≠ "java/lang/invoke/MethodHandle" ∧ (mY N).cls ≠ "java/lang/invoke/VarHandle" ∧ (parseMethodDescriptor (mY N).desc).map (fun d => d.parameters.length) = some n
def okS (N : MI) (n : Nat) : Prop := Cond.static (mY N) ∈ gt ∧ Cond.initialized (mY N).cls ∈ gt ∧ Cond.code (mY N) (mC N) (mL N) (mR N) ∈ gt ∧ (mY N).cls ≠ "java/lang/invoke/MethodHandle" ∧ (mY N).cls ≠ "java/lang/invoke/VarHandle" ∧ (parseMethodDescriptor (mY N).desc).map (fun d => d.parameters.length) = some n
def roomy (N : MI) (R : Room) : Prop := mD N + 1 ≤ R.frames ∧ 8 + (mL N + 11) + 64 * mD N ≤ R.locals
theorem aw_callV {i q c NF n : Nat} {As st0 : List Value} {rv : Option Value} (hn : q < eN E) (hk : kd q = (c + 3, NF)) (hcl : (vwCl[c]?).map (fun z => z.1) = some (mY N).cls) (ok : okV N n) (hlk : Cond.methodLink (mY M).cls i (mY N) ∈ gt) (hlen : As.length = n) (hs : st0 = As.reverse ++ .ref q :: st) (hst : (st.map Value.category).sum ≤ 8) (hR : roomy N K.1) (d : decode (mC M) pc = .ok (.invokevirtual i, 3))
    (hR2 : K.2.1 ≤ K.1.cells ∧ K.2.2.1 ≤ K.1.slots) (hc : CT E N tw h (.ref q :: As) rv tw' h') (k : AW E M K tw' h' (pc + 3) loc (rv.toList ++ st)) : AW E M K tw h pc loc st0 := by
  intro p e s m args below meth c' H ls locs C hP hS hl
  subst hs
  obtain ⟨o1, o2, o3, o4, o5, o6, o7⟩ := ok
  obtain ⟨q3, hq3, hq4⟩ : ∃ z, vwCl[c]? = some z ∧ z.1 = (mY N).cls := by
    cases hz : vwCl[c]? with
    | none => rw [hz] at hcl; cases hcl
    | some z => rw [hz] at hcl; exact ⟨z, rfl, by simpa using hcl⟩
  have hG : GoodIn gt (wsV (mY M).cls i (mY N).cls (mY N) (wds N)) := by
    intro w hw
    have : w ∈ gt := by
      simp only [wsV, wds, List.cons_append, List.nil_append, List.mem_cons] at hw
      rcases hw with rfl | rfl | rfl | rfl | rfl | hw <;> assumption
    exact ⟨this, gt_good this⟩
  refine aw_back C hS hl (va_runV (As := As.map (cv E)) (rest := st.map (cv E)) (mc := 0) (ms := 0) (n := n) ⟨C.1, C.2.1, C.2.2.2.1, C.2.2.2.2.1, C.2.2.2.2.2.1⟩ (hc H.size) (cwV n C.2.2.2.2.2.1 hG rfl rfl rfl ⟨rfl, o5, o6, o7⟩ hR) ⟨QC.blind, ?_, fun U hU hW => ⟨rfl, by rw [hU], by rw [hU]; exact hP, va_K.moved hW.alike C.2.2.2.2.2.2.1⟩⟩ rfl (by simpa using hlen) hl.1 ?_ ?_ d hR2) k
  · have := va_recv C.2.2.2.2.2.2.1 hP hq3 (wW_obj hn hk)
    rw [hq4] at this
    exact this
  · show List.map (cv E) _ = _
    simp [cv]
  · refine lv_room ?_
    rw [List.map_map, show ((fun v : Value => v.category) ∘ cv E) = Value.category from funext fun v => cv_cat E v]
    exact hst
theorem aw_callS {i n : Nat} {As st0 : List Value} {rv : Option Value} (ok : okS N n) (hlk : Cond.methodLink (mY M).cls i (mY N) ∈ gt) (hlen : As.length = n) (hs : st0 = As.reverse ++ st) (hst : (st.map Value.category).sum ≤ 8) (hR : roomy N K.1) (d : decode (mC M) pc = .ok (.invokestatic i, 3))
    (hR2 : K.2.1 ≤ K.1.cells ∧ K.2.2.1 ≤ K.1.slots) (hc : CT E N tw h As rv tw' h') (k : AW E M K tw' h' (pc + 3) loc (rv.toList ++ st)) : AW E M K tw h pc loc st0 := by
  intro p e s m args below meth c' H ls locs C hP hS hl
  subst hs
  obtain ⟨o1, o3, o4, o5, o6, o7⟩ := ok
  have hG : GoodIn gt (va_wsS (mY M).cls i (mY N) (wds N)) := by
    intro w hw
    have : w ∈ gt := by
      simp only [va_wsS, wds, List.cons_append, List.nil_append, List.mem_cons] at hw
      rcases hw with rfl | rfl | rfl | rfl | hw <;> assumption
    exact ⟨this, gt_good this⟩
  refine aw_back C hS hl (va_runS (As := As.map (cv E)) (rest := st.map (cv E)) (mc := 0) (ms := 0) (n := n) ⟨C.1, C.2.1, C.2.2.2.1, C.2.2.2.2.1, C.2.2.2.2.2.1⟩ (hc H.size) (va_cwS n C.2.2.2.2.2.1 hG rfl rfl rfl ⟨o5, o6, o7⟩ hR) ⟨QC.blind, fun U hU hW => ⟨rfl, by rw [hU], by rw [hU]; exact hP, va_K.moved hW.alike C.2.2.2.2.2.2.1⟩⟩ rfl (by simpa using hlen) hl.1 ?_ ?_ d hR2) k
  · show List.map (cv E) _ = _
    simp
  · refine lv_room ?_
    rw [List.map_map, show ((fun v : Value => v.category) ∘ cv E) = Value.category from funext fun v => cv_cat E v]
    exact hst
theorem aw_iret {x : Int32} (hr : mR M = some .int) (d : decode (mC M) pc = .ok (.ireturn, 1)) : AW E M (KM E M (some (.int x)) tw h) tw h pc loc [.int x] :=
  fun p e s m args below meth c H ls locs C hP hS hl => W.iret (v := x) C.1 C.2.1 (C.2.2.1.trans hr) (fun t ht hW => ⟨⟨rfl, by rw [ht]; exact hP, va_K.moved hW.alike C.2.2.2.2.2.2.1⟩, hS.F ht⟩) hS.2.2 d C.2.2.2.2.2.2.2.1
theorem aw_zret {x : Int32} (hr : mR M = some .boolean) (hx : x = 0 ∨ x = 1) (d : decode (mC M) pc = .ok (.ireturn, 1)) : AW E M (KM E M (some (.int x)) tw h) tw h pc loc [.int x] :=
  fun p e s m args below meth c H ls locs C hP hS hl => W.zret (v := x) C.1 C.2.1 (C.2.2.1.trans hr) (by rcases hx with rfl | rfl <;> rfl) (fun t ht hW => ⟨⟨rfl, by rw [ht]; exact hP, va_K.moved hW.alike C.2.2.2.2.2.2.1⟩, hS.F ht⟩) hS.2.2 d C.2.2.2.2.2.2.2.1
theorem aw_vret (hr : mR M = none) (d : decode (mC M) pc = .ok (.return_, 1)) : AW E M (KM E M none tw h) tw h pc loc [] :=
  fun p e s m args below meth c H ls locs C hP hS hl => W.vret C.1 C.2.1 (C.2.2.1.trans hr) (fun t ht hW => ⟨⟨rfl, by rw [ht]; exact hP, va_K.moved hW.alike C.2.2.2.2.2.2.1⟩, hS.F ht⟩) hS.2.2 d C.2.2.2.2.2.2.2.1
end AWC
end
