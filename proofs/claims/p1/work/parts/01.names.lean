-- ===== PART A: goes FIRST, ahead of the names: the tables' words, and 'selects' of the private methods out of them =====
/-- a private method of a class that the tables say can be made, by its rows of tables_1 -/
def lw_okq (q : MethodName × Nat) : Prop := (q.1.cls ≠ "java/lang/invoke/MethodHandle" ∧ q.1.cls ≠ "java/lang/invoke/VarHandle") ∧ Cond.instantiable q.1.cls q.2 ∈ tables_1 ∧ Cond.privateMethod q.1 ∈ tables_1 ∧ Cond.instanceMethod q.1 ∈ tables_1
theorem lw_p0 : lw_okq (⟨"FromTheMiddle", "error", "(I)I"⟩, 9) := ⟨⟨by decide +kernel, by decide +kernel⟩, List.mem_of_getElem? (i := 18) (by decide +kernel), List.mem_of_getElem? (i := 253) (by decide +kernel), List.mem_of_getElem? (i := 254) (by decide +kernel)⟩
theorem lw_p1 : lw_okq (⟨"FromTheMiddle", "is", "(I)I"⟩, 9) := ⟨⟨by decide +kernel, by decide +kernel⟩, List.mem_of_getElem? (i := 18) (by decide +kernel), List.mem_of_getElem? (i := 266) (by decide +kernel), List.mem_of_getElem? (i := 267) (by decide +kernel)⟩
theorem lw_p2 : lw_okq (⟨"FromTheMiddle", "isThing", "(I)Z"⟩, 9) := ⟨⟨by decide +kernel, by decide +kernel⟩, List.mem_of_getElem? (i := 18) (by decide +kernel), List.mem_of_getElem? (i := 301) (by decide +kernel), List.mem_of_getElem? (i := 302) (by decide +kernel)⟩
theorem lw_p3 : lw_okq (⟨"FromTheMiddle$Reader", "beginOperand", "(ILjava/lang/String;)Z"⟩, 5) := ⟨⟨by decide +kernel, by decide +kernel⟩, List.mem_of_getElem? (i := 151) (by decide +kernel), List.mem_of_getElem? (i := 350) (by decide +kernel), List.mem_of_getElem? (i := 351) (by decide +kernel)⟩
theorem lw_p4 : lw_okq (⟨"FromTheMiddle$Reader", "goOn", "(I)Z"⟩, 5) := ⟨⟨by decide +kernel, by decide +kernel⟩, List.mem_of_getElem? (i := 151) (by decide +kernel), List.mem_of_getElem? (i := 440) (by decide +kernel), List.mem_of_getElem? (i := 441) (by decide +kernel)⟩
theorem lw_p5 : lw_okq (⟨"FromTheMiddle$Reader", "addDigit", "(I)Z"⟩, 5) := ⟨⟨by decide +kernel, by decide +kernel⟩, List.mem_of_getElem? (i := 151) (by decide +kernel), List.mem_of_getElem? (i := 444) (by decide +kernel), List.mem_of_getElem? (i := 445) (by decide +kernel)⟩
theorem lw_p6 : lw_okq (⟨"FromTheMiddle$Reader", "close", "()Z"⟩, 5) := ⟨⟨by decide +kernel, by decide +kernel⟩, List.mem_of_getElem? (i := 151) (by decide +kernel), List.mem_of_getElem? (i := 452) (by decide +kernel), List.mem_of_getElem? (i := 453) (by decide +kernel)⟩
theorem lw_p7 : lw_okq (⟨"FromTheMiddle$Reader", "settle", "(I)V"⟩, 5) := ⟨⟨by decide +kernel, by decide +kernel⟩, List.mem_of_getElem? (i := 151) (by decide +kernel), List.mem_of_getElem? (i := 456) (by decide +kernel), List.mem_of_getElem? (i := 457) (by decide +kernel)⟩
theorem lw_p8 : lw_okq (⟨"FromTheMiddle", "ruled", "(IIII)I"⟩, 9) := ⟨⟨by decide +kernel, by decide +kernel⟩, List.mem_of_getElem? (i := 18) (by decide +kernel), List.mem_of_getElem? (i := 493) (by decide +kernel), List.mem_of_getElem? (i := 494) (by decide +kernel)⟩
theorem lw_p9 : lw_okq (⟨"FromTheMiddle$Reckoner", "joined", "(I)I"⟩, 1) := ⟨⟨by decide +kernel, by decide +kernel⟩, List.mem_of_getElem? (i := 176) (by decide +kernel), List.mem_of_getElem? (i := 509) (by decide +kernel), List.mem_of_getElem? (i := 510) (by decide +kernel)⟩
theorem lw_p10 : lw_okq (⟨"FromTheMiddle", "isRow", "(I)Z"⟩, 9) := ⟨⟨by decide +kernel, by decide +kernel⟩, List.mem_of_getElem? (i := 18) (by decide +kernel), List.mem_of_getElem? (i := 528) (by decide +kernel), List.mem_of_getElem? (i := 529) (by decide +kernel)⟩
theorem lw_p11 : lw_okq (⟨"FromTheMiddle", "lay", "(II)V"⟩, 9) := ⟨⟨by decide +kernel, by decide +kernel⟩, List.mem_of_getElem? (i := 18) (by decide +kernel), List.mem_of_getElem? (i := 532) (by decide +kernel), List.mem_of_getElem? (i := 533) (by decide +kernel)⟩
theorem lw_p12 : lw_okq (⟨"FromTheMiddle", "firstPiece", "(II)I"⟩, 9) := ⟨⟨by decide +kernel, by decide +kernel⟩, List.mem_of_getElem? (i := 18) (by decide +kernel), List.mem_of_getElem? (i := 536) (by decide +kernel), List.mem_of_getElem? (i := 537) (by decide +kernel)⟩
theorem lw_p13 : lw_okq (⟨"FromTheMiddle", "rowLength", "(I)I"⟩, 9) := ⟨⟨by decide +kernel, by decide +kernel⟩, List.mem_of_getElem? (i := 18) (by decide +kernel), List.mem_of_getElem? (i := 540) (by decide +kernel), List.mem_of_getElem? (i := 541) (by decide +kernel)⟩
theorem lw_p14 : lw_okq (⟨"FromTheMiddle$Row", "behindFirstAheadOf", "(I)I"⟩, 9) := ⟨⟨by decide +kernel, by decide +kernel⟩, List.mem_of_getElem? (i := 112) (by decide +kernel), List.mem_of_getElem? (i := 548) (by decide +kernel), List.mem_of_getElem? (i := 549) (by decide +kernel)⟩
theorem lw_p15 : lw_okq (⟨"FromTheMiddle$Row", "isCut", "(I)Z"⟩, 9) := ⟨⟨by decide +kernel, by decide +kernel⟩, List.mem_of_getElem? (i := 112) (by decide +kernel), List.mem_of_getElem? (i := 575) (by decide +kernel), List.mem_of_getElem? (i := 576) (by decide +kernel)⟩
def lw_privs_1 : List (MethodName × Nat) := [(⟨"FromTheMiddle", "error", "(I)I"⟩, 9), (⟨"FromTheMiddle", "is", "(I)I"⟩, 9), (⟨"FromTheMiddle", "isThing", "(I)Z"⟩, 9), (⟨"FromTheMiddle$Reader", "beginOperand", "(ILjava/lang/String;)Z"⟩, 5), (⟨"FromTheMiddle$Reader", "goOn", "(I)Z"⟩, 5), (⟨"FromTheMiddle$Reader", "addDigit", "(I)Z"⟩, 5), (⟨"FromTheMiddle$Reader", "close", "()Z"⟩, 5), (⟨"FromTheMiddle$Reader", "settle", "(I)V"⟩, 5), (⟨"FromTheMiddle", "ruled", "(IIII)I"⟩, 9), (⟨"FromTheMiddle$Reckoner", "joined", "(I)I"⟩, 1), (⟨"FromTheMiddle", "isRow", "(I)Z"⟩, 9), (⟨"FromTheMiddle", "lay", "(II)V"⟩, 9), (⟨"FromTheMiddle", "firstPiece", "(II)I"⟩, 9), (⟨"FromTheMiddle", "rowLength", "(I)I"⟩, 9), (⟨"FromTheMiddle$Row", "behindFirstAheadOf", "(I)I"⟩, 9), (⟨"FromTheMiddle$Row", "isCut", "(I)Z"⟩, 9)]
theorem lw_r1 : ∀ q ∈ lw_privs_1, lw_okq q := List.forall_mem_cons.mpr ⟨lw_p0, List.forall_mem_cons.mpr ⟨lw_p1, List.forall_mem_cons.mpr ⟨lw_p2, List.forall_mem_cons.mpr ⟨lw_p3, List.forall_mem_cons.mpr ⟨lw_p4, List.forall_mem_cons.mpr ⟨lw_p5, List.forall_mem_cons.mpr ⟨lw_p6, List.forall_mem_cons.mpr ⟨lw_p7, List.forall_mem_cons.mpr ⟨lw_p8, List.forall_mem_cons.mpr ⟨lw_p9, List.forall_mem_cons.mpr ⟨lw_p10, List.forall_mem_cons.mpr ⟨lw_p11, List.forall_mem_cons.mpr ⟨lw_p12, List.forall_mem_cons.mpr ⟨lw_p13, List.forall_mem_cons.mpr ⟨lw_p14, List.forall_mem_cons.mpr ⟨lw_p15, fun _ h => absurd h List.not_mem_nil⟩⟩⟩⟩⟩⟩⟩⟩⟩⟩⟩⟩⟩⟩⟩⟩
theorem lw_p16 : lw_okq (⟨"FromTheMiddle$Row", "ofEdges", "(ZZ)I"⟩, 9) := ⟨⟨by decide +kernel, by decide +kernel⟩, List.mem_of_getElem? (i := 112) (by decide +kernel), List.mem_of_getElem? (i := 579) (by decide +kernel), List.mem_of_getElem? (i := 580) (by decide +kernel)⟩
theorem lw_p17 : lw_okq (⟨"FromTheMiddle", "harmOf", "(I)I"⟩, 9) := ⟨⟨by decide +kernel, by decide +kernel⟩, List.mem_of_getElem? (i := 18) (by decide +kernel), List.mem_of_getElem? (i := 591) (by decide +kernel), List.mem_of_getElem? (i := 592) (by decide +kernel)⟩
theorem lw_p18 : lw_okq (⟨"FromTheMiddle$Row", "endingNotBehind", "(I)I"⟩, 9) := ⟨⟨by decide +kernel, by decide +kernel⟩, List.mem_of_getElem? (i := 112) (by decide +kernel), List.mem_of_getElem? (i := 599) (by decide +kernel), List.mem_of_getElem? (i := 600) (by decide +kernel)⟩
theorem lw_p19 : lw_okq (⟨"FromTheMiddle$Row", "isHidden", "(III)Z"⟩, 9) := ⟨⟨by decide +kernel, by decide +kernel⟩, List.mem_of_getElem? (i := 112) (by decide +kernel), List.mem_of_getElem? (i := 603) (by decide +kernel), List.mem_of_getElem? (i := 604) (by decide +kernel)⟩
theorem lw_p20 : lw_okq (⟨"FromTheMiddle$Row", "gapOfBeginnings", "(II)I"⟩, 9) := ⟨⟨by decide +kernel, by decide +kernel⟩, List.mem_of_getElem? (i := 112) (by decide +kernel), List.mem_of_getElem? (i := 607) (by decide +kernel), List.mem_of_getElem? (i := 608) (by decide +kernel)⟩
theorem lw_p21 : lw_okq (⟨"FromTheMiddle$Row", "gapOfEndings", "(II)I"⟩, 9) := ⟨⟨by decide +kernel, by decide +kernel⟩, List.mem_of_getElem? (i := 112) (by decide +kernel), List.mem_of_getElem? (i := 611) (by decide +kernel), List.mem_of_getElem? (i := 612) (by decide +kernel)⟩
theorem lw_p22 : lw_okq (⟨"FromTheMiddle", "tilesToBuy", "()I"⟩, 9) := ⟨⟨by decide +kernel, by decide +kernel⟩, List.mem_of_getElem? (i := 18) (by decide +kernel), List.mem_of_getElem? (i := 623) (by decide +kernel), List.mem_of_getElem? (i := 624) (by decide +kernel)⟩
theorem lw_p23 : lw_okq (⟨"FromTheMiddle", "halves", "()I"⟩, 9) := ⟨⟨by decide +kernel, by decide +kernel⟩, List.mem_of_getElem? (i := 18) (by decide +kernel), List.mem_of_getElem? (i := 627) (by decide +kernel), List.mem_of_getElem? (i := 628) (by decide +kernel)⟩
theorem lw_p24 : lw_okq (⟨"FromTheMiddle$Row", "isHalf", "(I)Z"⟩, 9) := ⟨⟨by decide +kernel, by decide +kernel⟩, List.mem_of_getElem? (i := 112) (by decide +kernel), List.mem_of_getElem? (i := 635) (by decide +kernel), List.mem_of_getElem? (i := 636) (by decide +kernel)⟩
theorem lw_p25 : lw_okq (⟨"FromTheMiddle", "pieces", "()I"⟩, 9) := ⟨⟨by decide +kernel, by decide +kernel⟩, List.mem_of_getElem? (i := 18) (by decide +kernel), List.mem_of_getElem? (i := 639) (by decide +kernel), List.mem_of_getElem? (i := 640) (by decide +kernel)⟩
theorem lw_p26 : lw_okq (⟨"FromTheMiddle", "cutsBy", "(I)I"⟩, 9) := ⟨⟨by decide +kernel, by decide +kernel⟩, List.mem_of_getElem? (i := 18) (by decide +kernel), List.mem_of_getElem? (i := 643) (by decide +kernel), List.mem_of_getElem? (i := 644) (by decide +kernel)⟩
theorem lw_p27 : lw_okq (⟨"FromTheMiddle", "narrowestBy", "(I)I"⟩, 9) := ⟨⟨by decide +kernel, by decide +kernel⟩, List.mem_of_getElem? (i := 18) (by decide +kernel), List.mem_of_getElem? (i := 648) (by decide +kernel), List.mem_of_getElem? (i := 649) (by decide +kernel)⟩
theorem lw_p28 : lw_okq (⟨"FromTheMiddle", "harmBy", "(I)I"⟩, 9) := ⟨⟨by decide +kernel, by decide +kernel⟩, List.mem_of_getElem? (i := 18) (by decide +kernel), List.mem_of_getElem? (i := 652) (by decide +kernel), List.mem_of_getElem? (i := 653) (by decide +kernel)⟩
theorem lw_p29 : lw_okq (⟨"FromTheMiddle", "changeByDraws", "()V"⟩, 9) := ⟨⟨by decide +kernel, by decide +kernel⟩, List.mem_of_getElem? (i := 18) (by decide +kernel), List.mem_of_getElem? (i := 660) (by decide +kernel), List.mem_of_getElem? (i := 661) (by decide +kernel)⟩
theorem lw_p30 : lw_okq (⟨"FromTheMiddle", "draw", "()I"⟩, 9) := ⟨⟨by decide +kernel, by decide +kernel⟩, List.mem_of_getElem? (i := 18) (by decide +kernel), List.mem_of_getElem? (i := 664) (by decide +kernel), List.mem_of_getElem? (i := 665) (by decide +kernel)⟩
theorem lw_p31 : lw_okq (⟨"FromTheMiddle", "bestStart", "()I"⟩, 9) := ⟨⟨by decide +kernel, by decide +kernel⟩, List.mem_of_getElem? (i := 18) (by decide +kernel), List.mem_of_getElem? (i := 678) (by decide +kernel), List.mem_of_getElem? (i := 679) (by decide +kernel)⟩
def lw_privs_2 : List (MethodName × Nat) := [(⟨"FromTheMiddle$Row", "ofEdges", "(ZZ)I"⟩, 9), (⟨"FromTheMiddle", "harmOf", "(I)I"⟩, 9), (⟨"FromTheMiddle$Row", "endingNotBehind", "(I)I"⟩, 9), (⟨"FromTheMiddle$Row", "isHidden", "(III)Z"⟩, 9), (⟨"FromTheMiddle$Row", "gapOfBeginnings", "(II)I"⟩, 9), (⟨"FromTheMiddle$Row", "gapOfEndings", "(II)I"⟩, 9), (⟨"FromTheMiddle", "tilesToBuy", "()I"⟩, 9), (⟨"FromTheMiddle", "halves", "()I"⟩, 9), (⟨"FromTheMiddle$Row", "isHalf", "(I)Z"⟩, 9), (⟨"FromTheMiddle", "pieces", "()I"⟩, 9), (⟨"FromTheMiddle", "cutsBy", "(I)I"⟩, 9), (⟨"FromTheMiddle", "narrowestBy", "(I)I"⟩, 9), (⟨"FromTheMiddle", "harmBy", "(I)I"⟩, 9), (⟨"FromTheMiddle", "changeByDraws", "()V"⟩, 9), (⟨"FromTheMiddle", "draw", "()I"⟩, 9), (⟨"FromTheMiddle", "bestStart", "()I"⟩, 9)]
theorem lw_r2 : ∀ q ∈ lw_privs_2, lw_okq q := List.forall_mem_cons.mpr ⟨lw_p16, List.forall_mem_cons.mpr ⟨lw_p17, List.forall_mem_cons.mpr ⟨lw_p18, List.forall_mem_cons.mpr ⟨lw_p19, List.forall_mem_cons.mpr ⟨lw_p20, List.forall_mem_cons.mpr ⟨lw_p21, List.forall_mem_cons.mpr ⟨lw_p22, List.forall_mem_cons.mpr ⟨lw_p23, List.forall_mem_cons.mpr ⟨lw_p24, List.forall_mem_cons.mpr ⟨lw_p25, List.forall_mem_cons.mpr ⟨lw_p26, List.forall_mem_cons.mpr ⟨lw_p27, List.forall_mem_cons.mpr ⟨lw_p28, List.forall_mem_cons.mpr ⟨lw_p29, List.forall_mem_cons.mpr ⟨lw_p30, List.forall_mem_cons.mpr ⟨lw_p31, fun _ h => absurd h List.not_mem_nil⟩⟩⟩⟩⟩⟩⟩⟩⟩⟩⟩⟩⟩⟩⟩⟩
theorem lw_p32 : lw_okq (⟨"FromTheMiddle", "sheetAt", "(I)LFromTheMiddle$Sheet;"⟩, 9) := ⟨⟨by decide +kernel, by decide +kernel⟩, List.mem_of_getElem? (i := 18) (by decide +kernel), List.mem_of_getElem? (i := 705) (by decide +kernel), List.mem_of_getElem? (i := 706) (by decide +kernel)⟩
theorem lw_p33 : lw_okq (⟨"FromTheMiddle", "rightFromFirst", "(LFromTheMiddle$Numbers;)I"⟩, 9) := ⟨⟨by decide +kernel, by decide +kernel⟩, List.mem_of_getElem? (i := 18) (by decide +kernel), List.mem_of_getElem? (i := 713) (by decide +kernel), List.mem_of_getElem? (i := 714) (by decide +kernel)⟩
theorem lw_p34 : lw_okq (⟨"FromTheMiddle$Voices", "bodyOf", "(I)I"⟩, 4) := ⟨⟨by decide +kernel, by decide +kernel⟩, List.mem_of_getElem? (i := 188) (by decide +kernel), List.mem_of_getElem? (i := 726) (by decide +kernel), List.mem_of_getElem? (i := 727) (by decide +kernel)⟩
theorem lw_p35 : lw_okq (⟨"FromTheMiddle$Voices", "chained", "(II)I"⟩, 4) := ⟨⟨by decide +kernel, by decide +kernel⟩, List.mem_of_getElem? (i := 188) (by decide +kernel), List.mem_of_getElem? (i := 731) (by decide +kernel), List.mem_of_getElem? (i := 732) (by decide +kernel)⟩
theorem lw_p36 : lw_okq (⟨"FromTheMiddle$Voices", "handedDown", "(II)I"⟩, 4) := ⟨⟨by decide +kernel, by decide +kernel⟩, List.mem_of_getElem? (i := 188) (by decide +kernel), List.mem_of_getElem? (i := 737) (by decide +kernel), List.mem_of_getElem? (i := 738) (by decide +kernel)⟩
theorem lw_p37 : lw_okq (⟨"FromTheMiddle$Voices", "calledBy", "(I)I"⟩, 4) := ⟨⟨by decide +kernel, by decide +kernel⟩, List.mem_of_getElem? (i := 188) (by decide +kernel), List.mem_of_getElem? (i := 742) (by decide +kernel), List.mem_of_getElem? (i := 743) (by decide +kernel)⟩
theorem lw_p38 : lw_okq (⟨"FromTheMiddle$Voices", "handedUp", "(II)I"⟩, 4) := ⟨⟨by decide +kernel, by decide +kernel⟩, List.mem_of_getElem? (i := 188) (by decide +kernel), List.mem_of_getElem? (i := 747) (by decide +kernel), List.mem_of_getElem? (i := 748) (by decide +kernel)⟩
theorem lw_p39 : lw_okq (⟨"FromTheMiddleModel", "error", "(I)I"⟩, 24) := ⟨⟨by decide +kernel, by decide +kernel⟩, List.mem_of_getElem? (i := 810) (by decide +kernel), List.mem_of_getElem? (i := 896) (by decide +kernel), List.mem_of_getElem? (i := 897) (by decide +kernel)⟩
theorem lw_p40 : lw_okq (⟨"FromTheMiddleModel", "whole", "()Z"⟩, 24) := ⟨⟨by decide +kernel, by decide +kernel⟩, List.mem_of_getElem? (i := 810) (by decide +kernel), List.mem_of_getElem? (i := 906) (by decide +kernel), List.mem_of_getElem? (i := 907) (by decide +kernel)⟩
theorem lw_p41 : lw_okq (⟨"FromTheMiddleModel", "both", "()Z"⟩, 24) := ⟨⟨by decide +kernel, by decide +kernel⟩, List.mem_of_getElem? (i := 810) (by decide +kernel), List.mem_of_getElem? (i := 910) (by decide +kernel), List.mem_of_getElem? (i := 911) (by decide +kernel)⟩
theorem lw_p42 : lw_okq (⟨"FromTheMiddleModel", "compared", "()Z"⟩, 24) := ⟨⟨by decide +kernel, by decide +kernel⟩, List.mem_of_getElem? (i := 810) (by decide +kernel), List.mem_of_getElem? (i := 914) (by decide +kernel), List.mem_of_getElem? (i := 915) (by decide +kernel)⟩
theorem lw_p43 : lw_okq (⟨"FromTheMiddleModel", "sum", "()Z"⟩, 24) := ⟨⟨by decide +kernel, by decide +kernel⟩, List.mem_of_getElem? (i := 810) (by decide +kernel), List.mem_of_getElem? (i := 918) (by decide +kernel), List.mem_of_getElem? (i := 919) (by decide +kernel)⟩
theorem lw_p44 : lw_okq (⟨"FromTheMiddleModel", "product", "()Z"⟩, 24) := ⟨⟨by decide +kernel, by decide +kernel⟩, List.mem_of_getElem? (i := 810) (by decide +kernel), List.mem_of_getElem? (i := 922) (by decide +kernel), List.mem_of_getElem? (i := 923) (by decide +kernel)⟩
theorem lw_p45 : lw_okq (⟨"FromTheMiddleModel", "one", "()Z"⟩, 24) := ⟨⟨by decide +kernel, by decide +kernel⟩, List.mem_of_getElem? (i := 810) (by decide +kernel), List.mem_of_getElem? (i := 926) (by decide +kernel), List.mem_of_getElem? (i := 927) (by decide +kernel)⟩
theorem lw_p46 : lw_okq (⟨"FromTheMiddleModel", "look", "()I"⟩, 24) := ⟨⟨by decide +kernel, by decide +kernel⟩, List.mem_of_getElem? (i := 810) (by decide +kernel), List.mem_of_getElem? (i := 930) (by decide +kernel), List.mem_of_getElem? (i := 931) (by decide +kernel)⟩
theorem lw_p47 : lw_okq (⟨"FromTheMiddleModel", "isName", "(I)Z"⟩, 24) := ⟨⟨by decide +kernel, by decide +kernel⟩, List.mem_of_getElem? (i := 810) (by decide +kernel), List.mem_of_getElem? (i := 934) (by decide +kernel), List.mem_of_getElem? (i := 935) (by decide +kernel)⟩
def lw_privs_3 : List (MethodName × Nat) := [(⟨"FromTheMiddle", "sheetAt", "(I)LFromTheMiddle$Sheet;"⟩, 9), (⟨"FromTheMiddle", "rightFromFirst", "(LFromTheMiddle$Numbers;)I"⟩, 9), (⟨"FromTheMiddle$Voices", "bodyOf", "(I)I"⟩, 4), (⟨"FromTheMiddle$Voices", "chained", "(II)I"⟩, 4), (⟨"FromTheMiddle$Voices", "handedDown", "(II)I"⟩, 4), (⟨"FromTheMiddle$Voices", "calledBy", "(I)I"⟩, 4), (⟨"FromTheMiddle$Voices", "handedUp", "(II)I"⟩, 4), (⟨"FromTheMiddleModel", "error", "(I)I"⟩, 24), (⟨"FromTheMiddleModel", "whole", "()Z"⟩, 24), (⟨"FromTheMiddleModel", "both", "()Z"⟩, 24), (⟨"FromTheMiddleModel", "compared", "()Z"⟩, 24), (⟨"FromTheMiddleModel", "sum", "()Z"⟩, 24), (⟨"FromTheMiddleModel", "product", "()Z"⟩, 24), (⟨"FromTheMiddleModel", "one", "()Z"⟩, 24), (⟨"FromTheMiddleModel", "look", "()I"⟩, 24), (⟨"FromTheMiddleModel", "isName", "(I)Z"⟩, 24)]
theorem lw_r3 : ∀ q ∈ lw_privs_3, lw_okq q := List.forall_mem_cons.mpr ⟨lw_p32, List.forall_mem_cons.mpr ⟨lw_p33, List.forall_mem_cons.mpr ⟨lw_p34, List.forall_mem_cons.mpr ⟨lw_p35, List.forall_mem_cons.mpr ⟨lw_p36, List.forall_mem_cons.mpr ⟨lw_p37, List.forall_mem_cons.mpr ⟨lw_p38, List.forall_mem_cons.mpr ⟨lw_p39, List.forall_mem_cons.mpr ⟨lw_p40, List.forall_mem_cons.mpr ⟨lw_p41, List.forall_mem_cons.mpr ⟨lw_p42, List.forall_mem_cons.mpr ⟨lw_p43, List.forall_mem_cons.mpr ⟨lw_p44, List.forall_mem_cons.mpr ⟨lw_p45, List.forall_mem_cons.mpr ⟨lw_p46, List.forall_mem_cons.mpr ⟨lw_p47, fun _ h => absurd h List.not_mem_nil⟩⟩⟩⟩⟩⟩⟩⟩⟩⟩⟩⟩⟩⟩⟩⟩
theorem lw_p48 : lw_okq (⟨"FromTheMiddleModel", "step1", "(II)V"⟩, 24) := ⟨⟨by decide +kernel, by decide +kernel⟩, List.mem_of_getElem? (i := 810) (by decide +kernel), List.mem_of_getElem? (i := 938) (by decide +kernel), List.mem_of_getElem? (i := 939) (by decide +kernel)⟩
theorem lw_p49 : lw_okq (⟨"FromTheMiddleModel", "opens", "()Z"⟩, 24) := ⟨⟨by decide +kernel, by decide +kernel⟩, List.mem_of_getElem? (i := 810) (by decide +kernel), List.mem_of_getElem? (i := 942) (by decide +kernel), List.mem_of_getElem? (i := 943) (by decide +kernel)⟩
theorem lw_p50 : lw_okq (⟨"FromTheMiddleModel", "hasText", "(I)Z"⟩, 24) := ⟨⟨by decide +kernel, by decide +kernel⟩, List.mem_of_getElem? (i := 810) (by decide +kernel), List.mem_of_getElem? (i := 950) (by decide +kernel), List.mem_of_getElem? (i := 951) (by decide +kernel)⟩
theorem lw_p51 : lw_okq (⟨"FromTheMiddleModel", "change1", "(II)I"⟩, 24) := ⟨⟨by decide +kernel, by decide +kernel⟩, List.mem_of_getElem? (i := 810) (by decide +kernel), List.mem_of_getElem? (i := 958) (by decide +kernel), List.mem_of_getElem? (i := 959) (by decide +kernel)⟩
theorem lw_p52 : lw_okq (⟨"FromTheMiddleModel", "lays1", "(III)V"⟩, 24) := ⟨⟨by decide +kernel, by decide +kernel⟩, List.mem_of_getElem? (i := 810) (by decide +kernel), List.mem_of_getElem? (i := 977) (by decide +kernel), List.mem_of_getElem? (i := 978) (by decide +kernel)⟩
theorem lw_p53 : lw_okq (⟨"FromTheMiddleModel", "isThing", "(I)Z"⟩, 24) := ⟨⟨by decide +kernel, by decide +kernel⟩, List.mem_of_getElem? (i := 810) (by decide +kernel), List.mem_of_getElem? (i := 985) (by decide +kernel), List.mem_of_getElem? (i := 986) (by decide +kernel)⟩
theorem lw_p54 : lw_okq (⟨"FromTheMiddleModel", "its", "(II)I"⟩, 24) := ⟨⟨by decide +kernel, by decide +kernel⟩, List.mem_of_getElem? (i := 810) (by decide +kernel), List.mem_of_getElem? (i := 989) (by decide +kernel), List.mem_of_getElem? (i := 990) (by decide +kernel)⟩
theorem lw_p55 : lw_okq (⟨"FromTheMiddleModel", "brokenTold", "(III)I"⟩, 24) := ⟨⟨by decide +kernel, by decide +kernel⟩, List.mem_of_getElem? (i := 810) (by decide +kernel), List.mem_of_getElem? (i := 1012) (by decide +kernel), List.mem_of_getElem? (i := 1013) (by decide +kernel)⟩
theorem lw_p56 : lw_okq (⟨"FromTheMiddleModel", "worked", "(I)I"⟩, 24) := ⟨⟨by decide +kernel, by decide +kernel⟩, List.mem_of_getElem? (i := 810) (by decide +kernel), List.mem_of_getElem? (i := 1016) (by decide +kernel), List.mem_of_getElem? (i := 1017) (by decide +kernel)⟩
theorem lw_p57 : lw_okq (⟨"FromTheMiddleModel", "harmTold", "(III)I"⟩, 24) := ⟨⟨by decide +kernel, by decide +kernel⟩, List.mem_of_getElem? (i := 810) (by decide +kernel), List.mem_of_getElem? (i := 1026) (by decide +kernel), List.mem_of_getElem? (i := 1027) (by decide +kernel)⟩
theorem lw_p58 : lw_okq (⟨"FromTheMiddleModel", "isRow", "(I)Z"⟩, 24) := ⟨⟨by decide +kernel, by decide +kernel⟩, List.mem_of_getElem? (i := 810) (by decide +kernel), List.mem_of_getElem? (i := 1034) (by decide +kernel), List.mem_of_getElem? (i := 1035) (by decide +kernel)⟩
theorem lw_p59 : lw_okq (⟨"FromTheMiddleModel", "layRow", "(I)V"⟩, 24) := ⟨⟨by decide +kernel, by decide +kernel⟩, List.mem_of_getElem? (i := 810) (by decide +kernel), List.mem_of_getElem? (i := 1038) (by decide +kernel), List.mem_of_getElem? (i := 1039) (by decide +kernel)⟩
theorem lw_p60 : lw_okq (⟨"FromTheMiddleModel", "longOf", "(I)I"⟩, 24) := ⟨⟨by decide +kernel, by decide +kernel⟩, List.mem_of_getElem? (i := 810) (by decide +kernel), List.mem_of_getElem? (i := 1042) (by decide +kernel), List.mem_of_getElem? (i := 1043) (by decide +kernel)⟩
theorem lw_p61 : lw_okq (⟨"FromTheMiddleModel", "firstOf", "(I)I"⟩, 24) := ⟨⟨by decide +kernel, by decide +kernel⟩, List.mem_of_getElem? (i := 810) (by decide +kernel), List.mem_of_getElem? (i := 1046) (by decide +kernel), List.mem_of_getElem? (i := 1047) (by decide +kernel)⟩
theorem lw_p62 : lw_okq (⟨"FromTheMiddleModel", "cutsLaid", "()I"⟩, 24) := ⟨⟨by decide +kernel, by decide +kernel⟩, List.mem_of_getElem? (i := 810) (by decide +kernel), List.mem_of_getElem? (i := 1054) (by decide +kernel), List.mem_of_getElem? (i := 1055) (by decide +kernel)⟩
theorem lw_p63 : lw_okq (⟨"FromTheMiddleModel", "narrowestLaid", "()I"⟩, 24) := ⟨⟨by decide +kernel, by decide +kernel⟩, List.mem_of_getElem? (i := 810) (by decide +kernel), List.mem_of_getElem? (i := 1058) (by decide +kernel), List.mem_of_getElem? (i := 1059) (by decide +kernel)⟩
def lw_privs_4 : List (MethodName × Nat) := [(⟨"FromTheMiddleModel", "step1", "(II)V"⟩, 24), (⟨"FromTheMiddleModel", "opens", "()Z"⟩, 24), (⟨"FromTheMiddleModel", "hasText", "(I)Z"⟩, 24), (⟨"FromTheMiddleModel", "change1", "(II)I"⟩, 24), (⟨"FromTheMiddleModel", "lays1", "(III)V"⟩, 24), (⟨"FromTheMiddleModel", "isThing", "(I)Z"⟩, 24), (⟨"FromTheMiddleModel", "its", "(II)I"⟩, 24), (⟨"FromTheMiddleModel", "brokenTold", "(III)I"⟩, 24), (⟨"FromTheMiddleModel", "worked", "(I)I"⟩, 24), (⟨"FromTheMiddleModel", "harmTold", "(III)I"⟩, 24), (⟨"FromTheMiddleModel", "isRow", "(I)Z"⟩, 24), (⟨"FromTheMiddleModel", "layRow", "(I)V"⟩, 24), (⟨"FromTheMiddleModel", "longOf", "(I)I"⟩, 24), (⟨"FromTheMiddleModel", "firstOf", "(I)I"⟩, 24), (⟨"FromTheMiddleModel", "cutsLaid", "()I"⟩, 24), (⟨"FromTheMiddleModel", "narrowestLaid", "()I"⟩, 24)]
theorem lw_r4 : ∀ q ∈ lw_privs_4, lw_okq q := List.forall_mem_cons.mpr ⟨lw_p48, List.forall_mem_cons.mpr ⟨lw_p49, List.forall_mem_cons.mpr ⟨lw_p50, List.forall_mem_cons.mpr ⟨lw_p51, List.forall_mem_cons.mpr ⟨lw_p52, List.forall_mem_cons.mpr ⟨lw_p53, List.forall_mem_cons.mpr ⟨lw_p54, List.forall_mem_cons.mpr ⟨lw_p55, List.forall_mem_cons.mpr ⟨lw_p56, List.forall_mem_cons.mpr ⟨lw_p57, List.forall_mem_cons.mpr ⟨lw_p58, List.forall_mem_cons.mpr ⟨lw_p59, List.forall_mem_cons.mpr ⟨lw_p60, List.forall_mem_cons.mpr ⟨lw_p61, List.forall_mem_cons.mpr ⟨lw_p62, List.forall_mem_cons.mpr ⟨lw_p63, fun _ h => absurd h List.not_mem_nil⟩⟩⟩⟩⟩⟩⟩⟩⟩⟩⟩⟩⟩⟩⟩⟩
theorem lw_p64 : lw_okq (⟨"FromTheMiddleModel", "jointsOn", "(II)I"⟩, 24) := ⟨⟨by decide +kernel, by decide +kernel⟩, List.mem_of_getElem? (i := 810) (by decide +kernel), List.mem_of_getElem? (i := 1066) (by decide +kernel), List.mem_of_getElem? (i := 1067) (by decide +kernel)⟩
theorem lw_p65 : lw_okq (⟨"FromTheMiddleModel", "gapOn", "(II)I"⟩, 24) := ⟨⟨by decide +kernel, by decide +kernel⟩, List.mem_of_getElem? (i := 810) (by decide +kernel), List.mem_of_getElem? (i := 1070) (by decide +kernel), List.mem_of_getElem? (i := 1071) (by decide +kernel)⟩
theorem lw_p66 : lw_okq (⟨"FromTheMiddleModel", "touchesOn", "(II)I"⟩, 24) := ⟨⟨by decide +kernel, by decide +kernel⟩, List.mem_of_getElem? (i := 810) (by decide +kernel), List.mem_of_getElem? (i := 1077) (by decide +kernel), List.mem_of_getElem? (i := 1078) (by decide +kernel)⟩
theorem lw_p67 : lw_okq (⟨"FromTheMiddleModel", "hidesOn", "(II)I"⟩, 24) := ⟨⟨by decide +kernel, by decide +kernel⟩, List.mem_of_getElem? (i := 810) (by decide +kernel), List.mem_of_getElem? (i := 1081) (by decide +kernel), List.mem_of_getElem? (i := 1082) (by decide +kernel)⟩
theorem lw_p68 : lw_okq (⟨"FromTheMiddleModel", "harmOn", "(I)I"⟩, 24) := ⟨⟨by decide +kernel, by decide +kernel⟩, List.mem_of_getElem? (i := 810) (by decide +kernel), List.mem_of_getElem? (i := 1085) (by decide +kernel), List.mem_of_getElem? (i := 1086) (by decide +kernel)⟩
theorem lw_p69 : lw_okq (⟨"FromTheMiddleModel", "harmsOn", "(I)I"⟩, 24) := ⟨⟨by decide +kernel, by decide +kernel⟩, List.mem_of_getElem? (i := 810) (by decide +kernel), List.mem_of_getElem? (i := 1089) (by decide +kernel), List.mem_of_getElem? (i := 1090) (by decide +kernel)⟩
theorem lw_p70 : lw_okq (⟨"FromTheMiddleModel", "tiles", "()I"⟩, 24) := ⟨⟨by decide +kernel, by decide +kernel⟩, List.mem_of_getElem? (i := 810) (by decide +kernel), List.mem_of_getElem? (i := 1097) (by decide +kernel), List.mem_of_getElem? (i := 1098) (by decide +kernel)⟩
theorem lw_p71 : lw_okq (⟨"FromTheMiddleModel", "ofAll", "(I)I"⟩, 24) := ⟨⟨by decide +kernel, by decide +kernel⟩, List.mem_of_getElem? (i := 810) (by decide +kernel), List.mem_of_getElem? (i := 1101) (by decide +kernel), List.mem_of_getElem? (i := 1102) (by decide +kernel)⟩
theorem lw_p72 : lw_okq (⟨"FromTheMiddleModel", "halvesLaid", "()I"⟩, 24) := ⟨⟨by decide +kernel, by decide +kernel⟩, List.mem_of_getElem? (i := 810) (by decide +kernel), List.mem_of_getElem? (i := 1105) (by decide +kernel), List.mem_of_getElem? (i := 1106) (by decide +kernel)⟩
theorem lw_p73 : lw_okq (⟨"FromTheMiddleModel", "harmAll", "()I"⟩, 24) := ⟨⟨by decide +kernel, by decide +kernel⟩, List.mem_of_getElem? (i := 810) (by decide +kernel), List.mem_of_getElem? (i := 1109) (by decide +kernel), List.mem_of_getElem? (i := 1110) (by decide +kernel)⟩
theorem lw_p74 : lw_okq (⟨"FromTheMiddleModel", "draw", "()I"⟩, 24) := ⟨⟨by decide +kernel, by decide +kernel⟩, List.mem_of_getElem? (i := 810) (by decide +kernel), List.mem_of_getElem? (i := 1117) (by decide +kernel), List.mem_of_getElem? (i := 1118) (by decide +kernel)⟩
theorem lw_p75 : lw_okq (⟨"FromTheMiddleModel", "lacks", "(I)I"⟩, 24) := ⟨⟨by decide +kernel, by decide +kernel⟩, List.mem_of_getElem? (i := 810) (by decide +kernel), List.mem_of_getElem? (i := 1153) (by decide +kernel), List.mem_of_getElem? (i := 1154) (by decide +kernel)⟩
theorem lw_p76 : lw_okq (⟨"FromTheMiddleModel", "rightOf", "(I)I"⟩, 24) := ⟨⟨by decide +kernel, by decide +kernel⟩, List.mem_of_getElem? (i := 810) (by decide +kernel), List.mem_of_getElem? (i := 1160) (by decide +kernel), List.mem_of_getElem? (i := 1161) (by decide +kernel)⟩
theorem lw_p77 : lw_okq (⟨"FromTheMiddleModel", "kindNow", "()I"⟩, 24) := ⟨⟨by decide +kernel, by decide +kernel⟩, List.mem_of_getElem? (i := 810) (by decide +kernel), List.mem_of_getElem? (i := 1168) (by decide +kernel), List.mem_of_getElem? (i := 1169) (by decide +kernel)⟩
theorem lw_p78 : lw_okq (⟨"FromTheMiddleModel", "dripsAs", "(II)I"⟩, 24) := ⟨⟨by decide +kernel, by decide +kernel⟩, List.mem_of_getElem? (i := 810) (by decide +kernel), List.mem_of_getElem? (i := 1172) (by decide +kernel), List.mem_of_getElem? (i := 1173) (by decide +kernel)⟩
theorem lw_p79 : lw_okq (⟨"FromTheMiddleModel", "starts", "(I)V"⟩, 24) := ⟨⟨by decide +kernel, by decide +kernel⟩, List.mem_of_getElem? (i := 810) (by decide +kernel), List.mem_of_getElem? (i := 1176) (by decide +kernel), List.mem_of_getElem? (i := 1177) (by decide +kernel)⟩
def lw_privs_5 : List (MethodName × Nat) := [(⟨"FromTheMiddleModel", "jointsOn", "(II)I"⟩, 24), (⟨"FromTheMiddleModel", "gapOn", "(II)I"⟩, 24), (⟨"FromTheMiddleModel", "touchesOn", "(II)I"⟩, 24), (⟨"FromTheMiddleModel", "hidesOn", "(II)I"⟩, 24), (⟨"FromTheMiddleModel", "harmOn", "(I)I"⟩, 24), (⟨"FromTheMiddleModel", "harmsOn", "(I)I"⟩, 24), (⟨"FromTheMiddleModel", "tiles", "()I"⟩, 24), (⟨"FromTheMiddleModel", "ofAll", "(I)I"⟩, 24), (⟨"FromTheMiddleModel", "halvesLaid", "()I"⟩, 24), (⟨"FromTheMiddleModel", "harmAll", "()I"⟩, 24), (⟨"FromTheMiddleModel", "draw", "()I"⟩, 24), (⟨"FromTheMiddleModel", "lacks", "(I)I"⟩, 24), (⟨"FromTheMiddleModel", "rightOf", "(I)I"⟩, 24), (⟨"FromTheMiddleModel", "kindNow", "()I"⟩, 24), (⟨"FromTheMiddleModel", "dripsAs", "(II)I"⟩, 24), (⟨"FromTheMiddleModel", "starts", "(I)V"⟩, 24)]
theorem lw_r5 : ∀ q ∈ lw_privs_5, lw_okq q := List.forall_mem_cons.mpr ⟨lw_p64, List.forall_mem_cons.mpr ⟨lw_p65, List.forall_mem_cons.mpr ⟨lw_p66, List.forall_mem_cons.mpr ⟨lw_p67, List.forall_mem_cons.mpr ⟨lw_p68, List.forall_mem_cons.mpr ⟨lw_p69, List.forall_mem_cons.mpr ⟨lw_p70, List.forall_mem_cons.mpr ⟨lw_p71, List.forall_mem_cons.mpr ⟨lw_p72, List.forall_mem_cons.mpr ⟨lw_p73, List.forall_mem_cons.mpr ⟨lw_p74, List.forall_mem_cons.mpr ⟨lw_p75, List.forall_mem_cons.mpr ⟨lw_p76, List.forall_mem_cons.mpr ⟨lw_p77, List.forall_mem_cons.mpr ⟨lw_p78, List.forall_mem_cons.mpr ⟨lw_p79, fun _ h => absurd h List.not_mem_nil⟩⟩⟩⟩⟩⟩⟩⟩⟩⟩⟩⟩⟩⟩⟩⟩
theorem lw_p80 : lw_okq (⟨"FromTheMiddleModel", "scoresAs", "(II)I"⟩, 24) := ⟨⟨by decide +kernel, by decide +kernel⟩, List.mem_of_getElem? (i := 810) (by decide +kernel), List.mem_of_getElem? (i := 1180) (by decide +kernel), List.mem_of_getElem? (i := 1181) (by decide +kernel)⟩
theorem lw_p81 : lw_okq (⟨"FromTheMiddleModel", "mNow", "()I"⟩, 24) := ⟨⟨by decide +kernel, by decide +kernel⟩, List.mem_of_getElem? (i := 810) (by decide +kernel), List.mem_of_getElem? (i := 1184) (by decide +kernel), List.mem_of_getElem? (i := 1185) (by decide +kernel)⟩
theorem lw_p82 : lw_okq (⟨"FromTheMiddleModel", "snapsAs", "(II)I"⟩, 24) := ⟨⟨by decide +kernel, by decide +kernel⟩, List.mem_of_getElem? (i := 810) (by decide +kernel), List.mem_of_getElem? (i := 1188) (by decide +kernel), List.mem_of_getElem? (i := 1189) (by decide +kernel)⟩
theorem lw_p83 : lw_okq (⟨"FromTheMiddleModel", "partsAs", "(II)I"⟩, 24) := ⟨⟨by decide +kernel, by decide +kernel⟩, List.mem_of_getElem? (i := 810) (by decide +kernel), List.mem_of_getElem? (i := 1192) (by decide +kernel), List.mem_of_getElem? (i := 1193) (by decide +kernel)⟩
def lw_privs_6 : List (MethodName × Nat) := [(⟨"FromTheMiddleModel", "scoresAs", "(II)I"⟩, 24), (⟨"FromTheMiddleModel", "mNow", "()I"⟩, 24), (⟨"FromTheMiddleModel", "snapsAs", "(II)I"⟩, 24), (⟨"FromTheMiddleModel", "partsAs", "(II)I"⟩, 24)]
theorem lw_r6 : ∀ q ∈ lw_privs_6, lw_okq q := List.forall_mem_cons.mpr ⟨lw_p80, List.forall_mem_cons.mpr ⟨lw_p81, List.forall_mem_cons.mpr ⟨lw_p82, List.forall_mem_cons.mpr ⟨lw_p83, fun _ h => absurd h List.not_mem_nil⟩⟩⟩⟩
def lw_privs : List (MethodName × Nat) := lw_privs_1 ++ (lw_privs_2 ++ (lw_privs_3 ++ (lw_privs_4 ++ (lw_privs_5 ++ (lw_privs_6)))))
def lw_tbl : List Cond := k2_sels lw_privs ++ tables_1
theorem lw_privs_ok : ∀ q ∈ lw_privs, lw_okq q := by
  show ∀ q ∈ lw_privs_1 ++ (lw_privs_2 ++ (lw_privs_3 ++ (lw_privs_4 ++ (lw_privs_5 ++ (lw_privs_6))))), lw_okq q
  exact List.forall_mem_append.mpr ⟨lw_r1, List.forall_mem_append.mpr ⟨lw_r2, List.forall_mem_append.mpr ⟨lw_r3, List.forall_mem_append.mpr ⟨lw_r4, List.forall_mem_append.mpr ⟨lw_r5, lw_r6⟩⟩⟩⟩⟩
/-! ===== BEGIN words of one list among another's, by their places ===== -/
theorem goodIn_r {big : List Cond} (ws : List Cond) (ps : List Nat) (hp : ws = ps.filterMap (fun i => big[i]?)) (h : ws.all goodWord = true) : GoodIn big ws := by
  intro w hw
  have h1 := List.all_eq_true.mp h w hw
  rw [hp] at hw
  obtain ⟨i, -, hi⟩ := List.mem_filterMap.mp hw
  have hm : w ∈ big := by first | exact List.mem_of_getElem? hi | exact List.getElem?_mem hi
  exact ⟨hm, good_of_word h1⟩
theorem goodIn_app {big a b : List Cond} (ha : GoodIn big a) (hb : GoodIn big b) : GoodIn big (a ++ b) := fun w h => (List.mem_append.mp h).elim (ha w) (hb w)
theorem goodIn_ca {big a b : List Cond} {c : Cond} (ha : GoodIn big (c :: a)) (hb : GoodIn big b) : GoodIn big (c :: (a ++ b)) := fun w h => (List.mem_cons.mp h).elim (fun e => ha w (List.mem_cons.mpr (Or.inl e))) (fun h => (List.mem_append.mp h).elim (fun h => ha w (List.mem_cons.mpr (Or.inr h))) (hb w))
theorem goodIn_sub {big ws : List Cond} (hm : ∀ w ∈ ws, w ∈ big) (h : ws.all goodWord = true) : GoodIn big ws := fun w hw => ⟨hm w hw, good_of_word (List.all_eq_true.mp h w hw)⟩
/-! ===== END ===== -/

/-! ===== BEGIN printed: names, fields, word lists, decode rows ===== -/
def RX0 : String := "FromTheMiddle$Kept"
def TX0 : u_T := fun k => match k with
  | 0 => ("FromTheMiddle$Kept", "wall", "LFromTheMiddle$Numbers;", true)
  | 1 => ("FromTheMiddle$Kept", "kinds", "LFromTheMiddle$Numbers;", true)
  | 2 => ("FromTheMiddle$Kept", "marks", "LFromTheMiddle$Numbers;", true)
  | 3 => ("FromTheMiddle$Kept", "froms", "LFromTheMiddle$Numbers;", true)
  | 4 => ("FromTheMiddle$Kept", "widths", "LFromTheMiddle$Numbers;", true)
  | 5 => ("FromTheMiddle$Kept", "tape", "LFromTheMiddle$Numbers;", true)
  | 6 => ("FromTheMiddle$Kept", "broken", "LFromTheMiddle$Numbers;", true)
  | 7 => ("FromTheMiddle$Kept", "harm", "LFromTheMiddle$Numbers;", true)
  | 8 => ("FromTheMiddle$Kept", "waits", "LFromTheMiddle$Numbers;", true)
  | _ => ("FromTheMiddle$Kept", "z", "I", false)
def tyX0 : Nat → FieldType := fun k => match k with
  | 0 => .object "FromTheMiddle$Numbers"
  | 1 => .object "FromTheMiddle$Numbers"
  | 2 => .object "FromTheMiddle$Numbers"
  | 3 => .object "FromTheMiddle$Numbers"
  | 4 => .object "FromTheMiddle$Numbers"
  | 5 => .object "FromTheMiddle$Numbers"
  | 6 => .object "FromTheMiddle$Numbers"
  | 7 => .object "FromTheMiddle$Numbers"
  | 8 => .object "FromTheMiddle$Numbers"
  | _ => .int
abbrev wsX00 : List Cond := u_ws RX0 TX0 10
theorem nmX0 : ∀ a, a < 10 → ∀ b, b < 10 → a ≠ b → (TX0 a).2.1 ≠ (TX0 b).2.1 := by decide +kernel
theorem tyX0_ok : ∀ k, k < 10 → parseFieldDescriptor (TX0 k).2.2.1 = some (tyX0 k) := by decide +kernel
abbrev cX0_init : ByteArray := prog_2_method_1_code
def yX0_init : MethodName := ⟨RX0, "<init>", "()V"⟩
abbrev cX0_textOf : ByteArray := prog_2_method_2_code
def yX0_textOf : MethodName := ⟨RX0, "textOf", "(I)LFromTheMiddle$Numbers;"⟩
abbrev cX0_copy : ByteArray := prog_2_method_3_code
def yX0_copy : MethodName := ⟨RX0, "copy", "(LFromTheMiddle$Kept;)V"⟩
def RX1 : String := "FromTheMiddle$Numbers"
def TX1 : u_T := fun k => match k with
  | 0 => ("FromTheMiddle$Numbers", "held", "[I", true)
  | _ => ("FromTheMiddle$Numbers", "size", "I", false)
def tyX1 : Nat → FieldType := fun k => match k with
  | 0 => .array .int
  | _ => .int
abbrev wsX10 : List Cond := u_ws RX1 TX1 2
theorem nmX1 : ∀ a, a < 2 → ∀ b, b < 2 → a ≠ b → (TX1 a).2.1 ≠ (TX1 b).2.1 := by decide +kernel
theorem tyX1_ok : ∀ k, k < 2 → parseFieldDescriptor (TX1 k).2.2.1 = some (tyX1 k) := by decide +kernel
abbrev cX1_init : ByteArray := prog_3_method_1_code
def yX1_init : MethodName := ⟨RX1, "<init>", "(I)V"⟩
abbrev cX1_size : ByteArray := prog_3_method_2_code
def yX1_size : MethodName := ⟨RX1, "size", "()I"⟩
abbrev cX1_room : ByteArray := prog_3_method_3_code
def yX1_room : MethodName := ⟨RX1, "room", "()I"⟩
abbrev cX1_stands : ByteArray := prog_3_method_4_code
def yX1_stands : MethodName := ⟨RX1, "stands", "(I)Z"⟩
abbrev cX1_stretches : ByteArray := prog_3_method_5_code
def yX1_stretches : MethodName := ⟨RX1, "stretches", "(II)Z"⟩
abbrev cX1_get : ByteArray := prog_3_method_6_code
def yX1_get : MethodName := ⟨RX1, "get", "(I)I"⟩
abbrev cX1_set : ByteArray := prog_3_method_7_code
def yX1_set : MethodName := ⟨RX1, "set", "(II)V"⟩
abbrev cX1_add : ByteArray := prog_3_method_8_code
def yX1_add : MethodName := ⟨RX1, "add", "(I)V"⟩
abbrev cX1_pop : ByteArray := prog_3_method_9_code
def yX1_pop : MethodName := ⟨RX1, "pop", "()I"⟩
abbrev cX1_clear : ByteArray := prog_3_method_10_code
def yX1_clear : MethodName := ⟨RX1, "clear", "()V"⟩
abbrev cX1_fillWithZeros : ByteArray := prog_3_method_11_code
def yX1_fillWithZeros : MethodName := ⟨RX1, "fillWithZeros", "(I)V"⟩
abbrev cX1_take : ByteArray := prog_3_method_12_code
def yX1_take : MethodName := ⟨RX1, "take", "(LFromTheMiddle$Numbers;III)V"⟩
abbrev cX1_copy : ByteArray := prog_3_method_13_code
def yX1_copy : MethodName := ⟨RX1, "copy", "(LFromTheMiddle$Numbers;)V"⟩
def RX2 : String := "FromTheMiddle$Reader"
def TX2 : u_T := fun k => match k with
  | 0 => ("FromTheMiddle$Reader", "codes", "LFromTheMiddle$Numbers;", true)
  | 1 => ("FromTheMiddle$Reader", "pending", "LFromTheMiddle$Numbers;", true)
  | 2 => ("FromTheMiddle$Reader", "open", "I", false)
  | 3 => ("FromTheMiddle$Reader", "digits", "I", false)
  | _ => ("FromTheMiddle$Reader", "wantsOperand", "Z", false)
def tyX2 : Nat → FieldType := fun k => match k with
  | 0 => .object "FromTheMiddle$Numbers"
  | 1 => .object "FromTheMiddle$Numbers"
  | 2 => .int
  | 3 => .int
  | _ => .boolean
abbrev wsX20 : List Cond := u_ws RX2 TX2 5
theorem nmX2 : ∀ a, a < 5 → ∀ b, b < 5 → a ≠ b → (TX2 a).2.1 ≠ (TX2 b).2.1 := by decide +kernel
theorem tyX2_ok : ∀ k, k < 5 → parseFieldDescriptor (TX2 k).2.2.1 = some (tyX2 k) := by decide +kernel
abbrev cX2_init : ByteArray := prog_4_method_1_code
def yX2_init : MethodName := ⟨RX2, "<init>", "()V"⟩
abbrev cX2_read : ByteArray := prog_4_method_2_code
def yX2_read : MethodName := ⟨RX2, "read", "(LFromTheMiddle$Numbers;Ljava/lang/String;)I"⟩
abbrev cX2_beginOperand : ByteArray := prog_4_method_3_code
def yX2_beginOperand : MethodName := ⟨RX2, "beginOperand", "(ILjava/lang/String;)Z"⟩
abbrev cX2_goOn : ByteArray := prog_4_method_4_code
def yX2_goOn : MethodName := ⟨RX2, "goOn", "(I)Z"⟩
abbrev cX2_addDigit : ByteArray := prog_4_method_5_code
def yX2_addDigit : MethodName := ⟨RX2, "addDigit", "(I)Z"⟩
abbrev cX2_close : ByteArray := prog_4_method_6_code
def yX2_close : MethodName := ⟨RX2, "close", "()Z"⟩
abbrev cX2_settle : ByteArray := prog_4_method_7_code
def yX2_settle : MethodName := ⟨RX2, "settle", "(I)V"⟩
abbrev cX2_isDigit : ByteArray := prog_4_method_8_code
def yX2_isDigit : MethodName := ⟨RX2, "isDigit", "(I)Z"⟩
abbrev cX2_rankOf : ByteArray := prog_4_method_9_code
def yX2_rankOf : MethodName := ⟨RX2, "rankOf", "(I)I"⟩
def RX3 : String := "FromTheMiddle$Reckoner"
def TX3 : u_T := fun k => match k with
  | _ => ("FromTheMiddle$Reckoner", "stack", "LFromTheMiddle$Numbers;", true)
def tyX3 : Nat → FieldType := fun k => match k with
  | _ => .object "FromTheMiddle$Numbers"
abbrev wsX30 : List Cond := u_ws RX3 TX3 1
theorem nmX3 : ∀ a, a < 1 → ∀ b, b < 1 → a ≠ b → (TX3 a).2.1 ≠ (TX3 b).2.1 := by decide +kernel
theorem tyX3_ok : ∀ k, k < 1 → parseFieldDescriptor (TX3 k).2.2.1 = some (tyX3 k) := by decide +kernel
abbrev cX3_init : ByteArray := prog_5_method_1_code
def yX3_init : MethodName := ⟨RX3, "<init>", "()V"⟩
abbrev cX3_value : ByteArray := prog_5_method_2_code
def yX3_value : MethodName := ⟨RX3, "value", "(LFromTheMiddle$Numbers;III)I"⟩
abbrev cX3_joined : ByteArray := prog_5_method_3_code
def yX3_joined : MethodName := ⟨RX3, "joined", "(I)I"⟩
abbrev cX3_truth : ByteArray := prog_5_method_4_code
def yX3_truth : MethodName := ⟨RX3, "truth", "(Z)I"⟩
def RX4 : String := "FromTheMiddle$Row"
def TX4 : u_T := fun k => match k with
  | 0 => ("FromTheMiddle$Row", "first", "I", false)
  | 1 => ("FromTheMiddle$Row", "end", "I", false)
  | 2 => ("FromTheMiddle$Row", "tile", "I", false)
  | 3 => ("FromTheMiddle$Row", "joint", "I", false)
  | 4 => ("FromTheMiddle$Row", "pieces", "I", false)
  | 5 => ("FromTheMiddle$Row", "joints", "I", false)
  | 6 => ("FromTheMiddle$Row", "gap", "I", false)
  | 7 => ("FromTheMiddle$Row", "touches", "I", false)
  | _ => ("FromTheMiddle$Row", "hides", "I", false)
def tyX4 : Nat → FieldType := fun k => match k with
  | 0 => .int
  | 1 => .int
  | 2 => .int
  | 3 => .int
  | 4 => .int
  | 5 => .int
  | 6 => .int
  | 7 => .int
  | _ => .int
abbrev wsX40 : List Cond := u_ws RX4 TX4 9
theorem nmX4 : ∀ a, a < 9 → ∀ b, b < 9 → a ≠ b → (TX4 a).2.1 ≠ (TX4 b).2.1 := by decide +kernel
theorem tyX4_ok : ∀ k, k < 9 → parseFieldDescriptor (TX4 k).2.2.1 = some (tyX4 k) := by decide +kernel
abbrev cX4_init : ByteArray := prog_6_method_1_code
def yX4_init : MethodName := ⟨RX4, "<init>", "()V"⟩
abbrev cX4_lay : ByteArray := prog_6_method_2_code
def yX4_lay : MethodName := ⟨RX4, "lay", "(IIII)V"⟩
abbrev cX4_beginning : ByteArray := prog_6_method_3_code
def yX4_beginning : MethodName := ⟨RX4, "beginning", "(I)I"⟩
abbrev cX4_ending : ByteArray := prog_6_method_4_code
def yX4_ending : MethodName := ⟨RX4, "ending", "(I)I"⟩
abbrev cX4_width : ByteArray := prog_6_method_5_code
def yX4_width : MethodName := ⟨RX4, "width", "(I)I"⟩
abbrev cX4_narrowest : ByteArray := prog_6_method_6_code
def yX4_narrowest : MethodName := ⟨RX4, "narrowest", "()I"⟩
abbrev cX4_cuts : ByteArray := prog_6_method_7_code
def yX4_cuts : MethodName := ⟨RX4, "cuts", "()I"⟩
abbrev cX4_halves : ByteArray := prog_6_method_8_code
def yX4_halves : MethodName := ⟨RX4, "halves", "()I"⟩
abbrev cX4_look : ByteArray := prog_6_method_9_code
def yX4_look : MethodName := ⟨RX4, "look", "(II)V"⟩
abbrev cX4_ofEdges : ByteArray := prog_6_method_10_code
def yX4_ofEdges : MethodName := ⟨RX4, "ofEdges", "(ZZ)I"⟩
abbrev cX4_isCut : ByteArray := prog_6_method_11_code
def yX4_isCut : MethodName := ⟨RX4, "isCut", "(I)Z"⟩
abbrev cX4_isHalf : ByteArray := prog_6_method_12_code
def yX4_isHalf : MethodName := ⟨RX4, "isHalf", "(I)Z"⟩
abbrev cX4_isHidden : ByteArray := prog_6_method_13_code
def yX4_isHidden : MethodName := ⟨RX4, "isHidden", "(III)Z"⟩
abbrev cX4_behindFirstAheadOf : ByteArray := prog_6_method_14_code
def yX4_behindFirstAheadOf : MethodName := ⟨RX4, "behindFirstAheadOf", "(I)I"⟩
abbrev cX4_endingNotBehind : ByteArray := prog_6_method_15_code
def yX4_endingNotBehind : MethodName := ⟨RX4, "endingNotBehind", "(I)I"⟩
abbrev cX4_gapOfBeginnings : ByteArray := prog_6_method_16_code
def yX4_gapOfBeginnings : MethodName := ⟨RX4, "gapOfBeginnings", "(II)I"⟩
abbrev cX4_gapOfEndings : ByteArray := prog_6_method_17_code
def yX4_gapOfEndings : MethodName := ⟨RX4, "gapOfEndings", "(II)I"⟩
def RX5 : String := "FromTheMiddle$Sheet"
def TX5 : u_T := fun k => match k with
  | 0 => ("FromTheMiddle$Sheet", "numbers", "LFromTheMiddle$Numbers;", true)
  | _ => ("FromTheMiddle$Sheet", "bits", "I", false)
def tyX5 : Nat → FieldType := fun k => match k with
  | 0 => .object "FromTheMiddle$Numbers"
  | _ => .int
abbrev wsX50 : List Cond := u_ws RX5 TX5 2
theorem nmX5 : ∀ a, a < 2 → ∀ b, b < 2 → a ≠ b → (TX5 a).2.1 ≠ (TX5 b).2.1 := by decide +kernel
theorem tyX5_ok : ∀ k, k < 2 → parseFieldDescriptor (TX5 k).2.2.1 = some (tyX5 k) := by decide +kernel
abbrev cX5_init : ByteArray := prog_7_method_1_code
def yX5_init : MethodName := ⟨RX5, "<init>", "()V"⟩
abbrev cX5_isMissing : ByteArray := prog_7_method_2_code
def yX5_isMissing : MethodName := ⟨RX5, "isMissing", "()Z"⟩
abbrev cX5_lowestBits : ByteArray := prog_7_method_3_code
def yX5_lowestBits : MethodName := ⟨RX5, "lowestBits", "(I)I"⟩
def RX6 : String := "FromTheMiddle$Voices"
def TX6 : u_T := fun k => match k with
  | 0 => ("FromTheMiddle$Voices", "trace", "LFromTheMiddle$Numbers;", true)
  | 1 => ("FromTheMiddle$Voices", "kind", "I", false)
  | 2 => ("FromTheMiddle$Voices", "number", "I", false)
  | _ => ("FromTheMiddle$Voices", "mark", "I", false)
def tyX6 : Nat → FieldType := fun k => match k with
  | 0 => .object "FromTheMiddle$Numbers"
  | 1 => .int
  | 2 => .int
  | _ => .int
abbrev wsX60 : List Cond := u_ws RX6 TX6 4
theorem nmX6 : ∀ a, a < 4 → ∀ b, b < 4 → a ≠ b → (TX6 a).2.1 ≠ (TX6 b).2.1 := by decide +kernel
theorem tyX6_ok : ∀ k, k < 4 → parseFieldDescriptor (TX6 k).2.2.1 = some (tyX6 k) := by decide +kernel
abbrev cX6_init : ByteArray := prog_8_method_1_code
def yX6_init : MethodName := ⟨RX6, "<init>", "()V"⟩
abbrev cX6_speak : ByteArray := prog_8_method_2_code
def yX6_speak : MethodName := ⟨RX6, "speak", "(IIIII)I"⟩
abbrev cX6_chained : ByteArray := prog_8_method_3_code
def yX6_chained : MethodName := ⟨RX6, "chained", "(II)I"⟩
abbrev cX6_bodyOf : ByteArray := prog_8_method_4_code
def yX6_bodyOf : MethodName := ⟨RX6, "bodyOf", "(I)I"⟩
abbrev cX6_calledBy : ByteArray := prog_8_method_5_code
def yX6_calledBy : MethodName := ⟨RX6, "calledBy", "(I)I"⟩
abbrev cX6_handedDown : ByteArray := prog_8_method_6_code
def yX6_handedDown : MethodName := ⟨RX6, "handedDown", "(II)I"⟩
abbrev cX6_handedUp : ByteArray := prog_8_method_7_code
def yX6_handedUp : MethodName := ⟨RX6, "handedUp", "(II)I"⟩
def RX7 : String := "FromTheMiddle"
def TX7 : u_T := fun k => match k with
  | 0 => ("FromTheMiddle", "now", "LFromTheMiddle$Kept;", true)
  | 1 => ("FromTheMiddle", "kept", "LFromTheMiddle$Kept;", true)
  | 2 => ("FromTheMiddle", "images", "I", false)
  | 3 => ("FromTheMiddle", "errors", "LFromTheMiddle$Numbers;", true)
  | 4 => ("FromTheMiddle", "sheets", "[LFromTheMiddle$Sheet;", true)
  | 5 => ("FromTheMiddle", "laid", "LFromTheMiddle$Row;", true)
  | 6 => ("FromTheMiddle", "reader", "LFromTheMiddle$Reader;", true)
  | 7 => ("FromTheMiddle", "reckoner", "LFromTheMiddle$Reckoner;", true)
  | _ => ("FromTheMiddle", "voices", "LFromTheMiddle$Voices;", true)
def tyX7 : Nat → FieldType := fun k => match k with
  | 0 => .object "FromTheMiddle$Kept"
  | 1 => .object "FromTheMiddle$Kept"
  | 2 => .int
  | 3 => .object "FromTheMiddle$Numbers"
  | 4 => .array (.object "FromTheMiddle$Sheet")
  | 5 => .object "FromTheMiddle$Row"
  | 6 => .object "FromTheMiddle$Reader"
  | 7 => .object "FromTheMiddle$Reckoner"
  | _ => .object "FromTheMiddle$Voices"
abbrev wsX70 : List Cond := u_ws RX7 TX7 9
theorem nmX7 : ∀ a, a < 9 → ∀ b, b < 9 → a ≠ b → (TX7 a).2.1 ≠ (TX7 b).2.1 := by decide +kernel
theorem tyX7_ok : ∀ k, k < 9 → parseFieldDescriptor (TX7 k).2.2.1 = some (tyX7 k) := by decide +kernel
abbrev cX7_init : ByteArray := prog_1_method_1_code
def yX7_init : MethodName := ⟨RX7, "<init>", "()V"⟩
abbrev cX7_wall : ByteArray := prog_1_method_2_code
def yX7_wall : MethodName := ⟨RX7, "wall", "(II)I"⟩
abbrev cX7_wallIs : ByteArray := prog_1_method_3_code
def yX7_wallIs : MethodName := ⟨RX7, "wallIs", "(I)I"⟩
abbrev cX7_begin : ByteArray := prog_1_method_4_code
def yX7_begin : MethodName := ⟨RX7, "begin", "(I)I"⟩
abbrev cX7_thing : ByteArray := prog_1_method_5_code
def yX7_thing : MethodName := ⟨RX7, "thing", "(III)I"⟩
abbrev cX7_thingIs : ByteArray := prog_1_method_6_code
def yX7_thingIs : MethodName := ⟨RX7, "thingIs", "(II)I"⟩
abbrev cX7_become : ByteArray := prog_1_method_7_code
def yX7_become : MethodName := ⟨RX7, "become", "(II)I"⟩
abbrev cX7_as : ByteArray := prog_1_method_8_code
def yX7_as : MethodName := ⟨RX7, "as", "(II)I"⟩
abbrev cX7_hang : ByteArray := prog_1_method_9_code
def yX7_hang : MethodName := ⟨RX7, "hang", "(II)I"⟩
abbrev cX7_feed : ByteArray := prog_1_method_10_code
def yX7_feed : MethodName := ⟨RX7, "feed", "(JI)I"⟩
abbrev cX7_text : ByteArray := prog_1_method_11_code
def yX7_text : MethodName := ⟨RX7, "text", "(I)I"⟩
abbrev cX7_untell : ByteArray := prog_1_method_12_code
def yX7_untell : MethodName := ⟨RX7, "untell", "(I)I"⟩
abbrev cX7_law : ByteArray := prog_1_method_13_code
def yX7_law : MethodName := ⟨RX7, "law", "(IIII)I"⟩
abbrev cX7_piece : ByteArray := prog_1_method_14_code
def yX7_piece : MethodName := ⟨RX7, "piece", "(II)I"⟩
abbrev cX7_rowIs : ByteArray := prog_1_method_15_code
def yX7_rowIs : MethodName := ⟨RX7, "rowIs", "(II)I"⟩
abbrev cX7_seen : ByteArray := prog_1_method_16_code
def yX7_seen : MethodName := ⟨RX7, "seen", "(III)I"⟩
abbrev cX7_buy : ByteArray := prog_1_method_17_code
def yX7_buy : MethodName := ⟨RX7, "buy", "(I)I"⟩
abbrev cX7_loose : ByteArray := prog_1_method_18_code
def yX7_loose : MethodName := ⟨RX7, "loose", "(I)I"⟩
abbrev cX7_seed : ByteArray := prog_1_method_19_code
def yX7_seed : MethodName := ⟨RX7, "seed", "(I)I"⟩
abbrev cX7_best : ByteArray := prog_1_method_20_code
def yX7_best : MethodName := ⟨RX7, "best", "(I)I"⟩
abbrev cX7_calm : ByteArray := prog_1_method_21_code
def yX7_calm : MethodName := ⟨RX7, "calm", "(I)I"⟩
abbrev cX7_cheat : ByteArray := prog_1_method_22_code
def yX7_cheat : MethodName := ⟨RX7, "cheat", "(I)I"⟩
abbrev cX7_middle : ByteArray := prog_1_method_23_code
def yX7_middle : MethodName := ⟨RX7, "middle", "(I)I"⟩
abbrev cX7_odds : ByteArray := prog_1_method_24_code
def yX7_odds : MethodName := ⟨RX7, "odds", "(II)I"⟩
abbrev cX7_fits : ByteArray := prog_1_method_25_code
def yX7_fits : MethodName := ⟨RX7, "fits", "(II)I"⟩
abbrev cX7_voice : ByteArray := prog_1_method_26_code
def yX7_voice : MethodName := ⟨RX7, "voice", "(III)I"⟩
abbrev cX7_body : ByteArray := prog_1_method_27_code
def yX7_body : MethodName := ⟨RX7, "body", "(I)I"⟩
abbrev cX7_sheet : ByteArray := prog_1_method_28_code
def yX7_sheet : MethodName := ⟨RX7, "sheet", "(III)I"⟩
abbrev cX7_put : ByteArray := prog_1_method_29_code
def yX7_put : MethodName := ⟨RX7, "put", "(III)I"⟩
abbrev cX7_move : ByteArray := prog_1_method_30_code
def yX7_move : MethodName := ⟨RX7, "move", "(IIIII)I"⟩
abbrev cX7_places : ByteArray := prog_1_method_31_code
def yX7_places : MethodName := ⟨RX7, "places", "(I)I"⟩
abbrev cX7_judge : ByteArray := prog_1_method_32_code
def yX7_judge : MethodName := ⟨RX7, "judge", "(I)I"⟩
abbrev cX7_image : ByteArray := prog_1_method_33_code
def yX7_image : MethodName := ⟨RX7, "image", "()I"⟩
abbrev cX7_restore : ByteArray := prog_1_method_34_code
def yX7_restore : MethodName := ⟨RX7, "restore", "()I"⟩
abbrev cX7_tell : ByteArray := prog_1_method_35_code
def yX7_tell : MethodName := ⟨RX7, "tell", "(I)I"⟩
abbrev cX7_check : ByteArray := prog_1_method_36_code
def yX7_check : MethodName := ⟨RX7, "check", "()I"⟩
abbrev cX7_count : ByteArray := prog_1_method_37_code
def yX7_count : MethodName := ⟨RX7, "count", "(I)I"⟩
abbrev cX7_told : ByteArray := prog_1_method_38_code
def yX7_told : MethodName := ⟨RX7, "told", "(I)I"⟩
abbrev cX7_error : ByteArray := prog_1_method_39_code
def yX7_error : MethodName := ⟨RX7, "error", "(I)I"⟩
abbrev cX7_is : ByteArray := prog_1_method_40_code
def yX7_is : MethodName := ⟨RX7, "is", "(I)I"⟩
abbrev cX7_isThing : ByteArray := prog_1_method_41_code
def yX7_isThing : MethodName := ⟨RX7, "isThing", "(I)Z"⟩
abbrev cX7_isRow : ByteArray := prog_1_method_42_code
def yX7_isRow : MethodName := ⟨RX7, "isRow", "(I)Z"⟩
abbrev cX7_sheetAt : ByteArray := prog_1_method_43_code
def yX7_sheetAt : MethodName := ⟨RX7, "sheetAt", "(I)LFromTheMiddle$Sheet;"⟩
abbrev cX7_isKindAndMark : ByteArray := prog_1_method_44_code
def yX7_isKindAndMark : MethodName := ⟨RX7, "isKindAndMark", "(I)Z"⟩
abbrev cX7_isFrom : ByteArray := prog_1_method_45_code
def yX7_isFrom : MethodName := ⟨RX7, "isFrom", "(I)Z"⟩
abbrev cX7_isUse : ByteArray := prog_1_method_46_code
def yX7_isUse : MethodName := ⟨RX7, "isUse", "(I)Z"⟩
abbrev cX7_isOfKind : ByteArray := prog_1_method_47_code
def yX7_isOfKind : MethodName := ⟨RX7, "isOfKind", "(II)Z"⟩
abbrev cX7_kindAbove : ByteArray := prog_1_method_48_code
def yX7_kindAbove : MethodName := ⟨RX7, "kindAbove", "(I)I"⟩
abbrev cX7_quotient : ByteArray := prog_1_method_49_code
def yX7_quotient : MethodName := ⟨RX7, "quotient", "(II)I"⟩
abbrev cX7_rest : ByteArray := prog_1_method_50_code
def yX7_rest : MethodName := ⟨RX7, "rest", "(II)I"⟩
abbrev cX7_within : ByteArray := prog_1_method_51_code
def yX7_within : MethodName := ⟨RX7, "within", "(III)I"⟩
abbrev cX7_commonDivisor : ByteArray := prog_1_method_52_code
def yX7_commonDivisor : MethodName := ⟨RX7, "commonDivisor", "(II)I"⟩
abbrev cX7_rowLength : ByteArray := prog_1_method_53_code
def yX7_rowLength : MethodName := ⟨RX7, "rowLength", "(I)I"⟩
abbrev cX7_firstPiece : ByteArray := prog_1_method_54_code
def yX7_firstPiece : MethodName := ⟨RX7, "firstPiece", "(II)I"⟩
abbrev cX7_lay : ByteArray := prog_1_method_55_code
def yX7_lay : MethodName := ⟨RX7, "lay", "(II)V"⟩
abbrev cX7_narrowestBy : ByteArray := prog_1_method_56_code
def yX7_narrowestBy : MethodName := ⟨RX7, "narrowestBy", "(I)I"⟩
abbrev cX7_cutsBy : ByteArray := prog_1_method_57_code
def yX7_cutsBy : MethodName := ⟨RX7, "cutsBy", "(I)I"⟩
abbrev cX7_bestStart : ByteArray := prog_1_method_58_code
def yX7_bestStart : MethodName := ⟨RX7, "bestStart", "()I"⟩
abbrev cX7_rightFromFirst : ByteArray := prog_1_method_59_code
def yX7_rightFromFirst : MethodName := ⟨RX7, "rightFromFirst", "(LFromTheMiddle$Numbers;)I"⟩
abbrev cX7_pieces : ByteArray := prog_1_method_60_code
def yX7_pieces : MethodName := ⟨RX7, "pieces", "()I"⟩
abbrev cX7_halves : ByteArray := prog_1_method_61_code
def yX7_halves : MethodName := ⟨RX7, "halves", "()I"⟩
abbrev cX7_tilesToBuy : ByteArray := prog_1_method_62_code
def yX7_tilesToBuy : MethodName := ⟨RX7, "tilesToBuy", "()I"⟩
abbrev cX7_harmBy : ByteArray := prog_1_method_63_code
def yX7_harmBy : MethodName := ⟨RX7, "harmBy", "(I)I"⟩
abbrev cX7_harmOf : ByteArray := prog_1_method_64_code
def yX7_harmOf : MethodName := ⟨RX7, "harmOf", "(I)I"⟩
abbrev cX7_harms : ByteArray := prog_1_method_65_code
def yX7_harms : MethodName := ⟨RX7, "harms", "(IILFromTheMiddle$Row;)I"⟩
abbrev cX7_ruled : ByteArray := prog_1_method_66_code
def yX7_ruled : MethodName := ⟨RX7, "ruled", "(IIII)I"⟩
abbrev cX7_draw : ByteArray := prog_1_method_67_code
def yX7_draw : MethodName := ⟨RX7, "draw", "()I"⟩
abbrev cX7_changeByDraws : ByteArray := prog_1_method_68_code
def yX7_changeByDraws : MethodName := ⟨RX7, "changeByDraws", "()V"⟩
def RX8 : String := "FromTheMiddleModel"
def TX8 : u_T := fun k => match k with
  | 0 => ("FromTheMiddleModel", "s", "[I", true)
  | 1 => ("FromTheMiddleModel", "kept", "[I", true)
  | 2 => ("FromTheMiddleModel", "images", "I", false)
  | 3 => ("FromTheMiddleModel", "errors", "[I", true)
  | 4 => ("FromTheMiddleModel", "lows", "[I", true)
  | 5 => ("FromTheMiddleModel", "highs", "[I", true)
  | 6 => ("FromTheMiddleModel", "at", "I", false)
  | 7 => ("FromTheMiddleModel", "open", "I", false)
  | 8 => ("FromTheMiddleModel", "steps", "I", false)
  | 9 => ("FromTheMiddleModel", "use", "I", false)
  | 10 => ("FromTheMiddleModel", "step", "[I", true)
  | 11 => ("FromTheMiddleModel", "named", "[I", true)
  | 12 => ("FromTheMiddleModel", "pile", "[I", true)
  | 13 => ("FromTheMiddleModel", "left", "[I", true)
  | 14 => ("FromTheMiddleModel", "wide", "[I", true)
  | 15 => ("FromTheMiddleModel", "pieces", "I", false)
  | 16 => ("FromTheMiddleModel", "traced", "I", false)
  | 17 => ("FromTheMiddleModel", "trace", "[I", true)
  | 18 => ("FromTheMiddleModel", "speaks", "I", false)
  | 19 => ("FromTheMiddleModel", "isParted", "Z", false)
  | 20 => ("FromTheMiddleModel", "bits", "[I", true)
  | 21 => ("FromTheMiddleModel", "sizes", "[I", true)
  | 22 => ("FromTheMiddleModel", "number", "[I", true)
  | _ => ("FromTheMiddleModel", "aside", "[I", true)
def tyX8 : Nat → FieldType := fun k => match k with
  | 0 => .array .int
  | 1 => .array .int
  | 2 => .int
  | 3 => .array .int
  | 4 => .array .int
  | 5 => .array .int
  | 6 => .int
  | 7 => .int
  | 8 => .int
  | 9 => .int
  | 10 => .array .int
  | 11 => .array .int
  | 12 => .array .int
  | 13 => .array .int
  | 14 => .array .int
  | 15 => .int
  | 16 => .int
  | 17 => .array .int
  | 18 => .int
  | 19 => .boolean
  | 20 => .array .int
  | 21 => .array .int
  | 22 => .array .int
  | _ => .array .int
abbrev wsX80 : List Cond := u_ws RX8 TX8 24
theorem nmX8 : ∀ a, a < 24 → ∀ b, b < 24 → a ≠ b → (TX8 a).2.1 ≠ (TX8 b).2.1 := by decide +kernel
theorem tyX8_ok : ∀ k, k < 24 → parseFieldDescriptor (TX8 k).2.2.1 = some (tyX8 k) := by decide +kernel
abbrev cX8_init : ByteArray := prog_10_method_1_code
def yX8_init : MethodName := ⟨RX8, "<init>", "()V"⟩
abbrev cX8_error : ByteArray := prog_10_method_2_code
def yX8_error : MethodName := ⟨RX8, "error", "(I)I"⟩
abbrev cX8_in : ByteArray := prog_10_method_3_code
def yX8_in : MethodName := ⟨RX8, "in", "(III)Z"⟩
abbrev cX8_held : ByteArray := prog_10_method_4_code
def yX8_held : MethodName := ⟨RX8, "held", "(III)I"⟩
abbrev cX8_copyAll : ByteArray := prog_10_method_5_code
def yX8_copyAll : MethodName := ⟨RX8, "copyAll", "([I[I)V"⟩
abbrev cX8_isThing : ByteArray := prog_10_method_6_code
def yX8_isThing : MethodName := ⟨RX8, "isThing", "(I)Z"⟩
abbrev cX8_isRow : ByteArray := prog_10_method_7_code
def yX8_isRow : MethodName := ⟨RX8, "isRow", "(I)Z"⟩
abbrev cX8_its : ByteArray := prog_10_method_8_code
def yX8_its : MethodName := ⟨RX8, "its", "(II)I"⟩
abbrev cX8_lays1 : ByteArray := prog_10_method_9_code
def yX8_lays1 : MethodName := ⟨RX8, "lays1", "(III)V"⟩
abbrev cX8_change1 : ByteArray := prog_10_method_10_code
def yX8_change1 : MethodName := ⟨RX8, "change1", "(II)I"⟩
abbrev cX8_feed : ByteArray := prog_10_method_11_code
def yX8_feed : MethodName := ⟨RX8, "feed", "(JI)I"⟩
abbrev cX8_look : ByteArray := prog_10_method_12_code
def yX8_look : MethodName := ⟨RX8, "look", "()I"⟩
abbrev cX8_isName : ByteArray := prog_10_method_13_code
def yX8_isName : MethodName := ⟨RX8, "isName", "(I)Z"⟩
abbrev cX8_step1 : ByteArray := prog_10_method_14_code
def yX8_step1 : MethodName := ⟨RX8, "step1", "(II)V"⟩
abbrev cX8_whole : ByteArray := prog_10_method_15_code
def yX8_whole : MethodName := ⟨RX8, "whole", "()Z"⟩
abbrev cX8_both : ByteArray := prog_10_method_16_code
def yX8_both : MethodName := ⟨RX8, "both", "()Z"⟩
abbrev cX8_compared : ByteArray := prog_10_method_17_code
def yX8_compared : MethodName := ⟨RX8, "compared", "()Z"⟩
abbrev cX8_sum : ByteArray := prog_10_method_18_code
def yX8_sum : MethodName := ⟨RX8, "sum", "()Z"⟩
abbrev cX8_product : ByteArray := prog_10_method_19_code
def yX8_product : MethodName := ⟨RX8, "product", "()Z"⟩
abbrev cX8_opens : ByteArray := prog_10_method_20_code
def yX8_opens : MethodName := ⟨RX8, "opens", "()Z"⟩
abbrev cX8_one : ByteArray := prog_10_method_21_code
def yX8_one : MethodName := ⟨RX8, "one", "()Z"⟩
abbrev cX8_hasText : ByteArray := prog_10_method_22_code
def yX8_hasText : MethodName := ⟨RX8, "hasText", "(I)Z"⟩
abbrev cX8_text : ByteArray := prog_10_method_23_code
def yX8_text : MethodName := ⟨RX8, "text", "(I)I"⟩
abbrev cX8_untell : ByteArray := prog_10_method_24_code
def yX8_untell : MethodName := ⟨RX8, "untell", "(I)I"⟩
abbrev cX8_joined : ByteArray := prog_10_method_25_code
def yX8_joined : MethodName := ⟨RX8, "joined", "(III)I"⟩
abbrev cX8_worked : ByteArray := prog_10_method_26_code
def yX8_worked : MethodName := ⟨RX8, "worked", "(I)I"⟩
abbrev cX8_longOf : ByteArray := prog_10_method_27_code
def yX8_longOf : MethodName := ⟨RX8, "longOf", "(I)I"⟩
abbrev cX8_firstOf : ByteArray := prog_10_method_28_code
def yX8_firstOf : MethodName := ⟨RX8, "firstOf", "(I)I"⟩
abbrev cX8_layRow : ByteArray := prog_10_method_29_code
def yX8_layRow : MethodName := ⟨RX8, "layRow", "(I)V"⟩
abbrev cX8_cutsLaid : ByteArray := prog_10_method_30_code
def yX8_cutsLaid : MethodName := ⟨RX8, "cutsLaid", "()I"⟩
abbrev cX8_halvesLaid : ByteArray := prog_10_method_31_code
def yX8_halvesLaid : MethodName := ⟨RX8, "halvesLaid", "()I"⟩
abbrev cX8_narrowestLaid : ByteArray := prog_10_method_32_code
def yX8_narrowestLaid : MethodName := ⟨RX8, "narrowestLaid", "()I"⟩
abbrev cX8_ofAll : ByteArray := prog_10_method_33_code
def yX8_ofAll : MethodName := ⟨RX8, "ofAll", "(I)I"⟩
abbrev cX8_jointsOn : ByteArray := prog_10_method_34_code
def yX8_jointsOn : MethodName := ⟨RX8, "jointsOn", "(II)I"⟩
abbrev cX8_apart : ByteArray := prog_10_method_35_code
def yX8_apart : MethodName := ⟨RX8, "apart", "(II)I"⟩
abbrev cX8_gapOn : ByteArray := prog_10_method_36_code
def yX8_gapOn : MethodName := ⟨RX8, "gapOn", "(II)I"⟩
abbrev cX8_touchesOn : ByteArray := prog_10_method_37_code
def yX8_touchesOn : MethodName := ⟨RX8, "touchesOn", "(II)I"⟩
abbrev cX8_hidesOn : ByteArray := prog_10_method_38_code
def yX8_hidesOn : MethodName := ⟨RX8, "hidesOn", "(II)I"⟩
abbrev cX8_harmsOn : ByteArray := prog_10_method_39_code
def yX8_harmsOn : MethodName := ⟨RX8, "harmsOn", "(I)I"⟩
abbrev cX8_brokenTold : ByteArray := prog_10_method_40_code
def yX8_brokenTold : MethodName := ⟨RX8, "brokenTold", "(III)I"⟩
abbrev cX8_harmTold : ByteArray := prog_10_method_41_code
def yX8_harmTold : MethodName := ⟨RX8, "harmTold", "(III)I"⟩
abbrev cX8_harmOn : ByteArray := prog_10_method_42_code
def yX8_harmOn : MethodName := ⟨RX8, "harmOn", "(I)I"⟩
abbrev cX8_harmAll : ByteArray := prog_10_method_43_code
def yX8_harmAll : MethodName := ⟨RX8, "harmAll", "()I"⟩
abbrev cX8_wall : ByteArray := prog_10_method_44_code
def yX8_wall : MethodName := ⟨RX8, "wall", "(II)I"⟩
abbrev cX8_wallIs : ByteArray := prog_10_method_45_code
def yX8_wallIs : MethodName := ⟨RX8, "wallIs", "(I)I"⟩
abbrev cX8_begin : ByteArray := prog_10_method_46_code
def yX8_begin : MethodName := ⟨RX8, "begin", "(I)I"⟩
abbrev cX8_isKind : ByteArray := prog_10_method_47_code
def yX8_isKind : MethodName := ⟨RX8, "isKind", "(I)Z"⟩
abbrev cX8_thing : ByteArray := prog_10_method_48_code
def yX8_thing : MethodName := ⟨RX8, "thing", "(III)I"⟩
abbrev cX8_thingIs : ByteArray := prog_10_method_49_code
def yX8_thingIs : MethodName := ⟨RX8, "thingIs", "(II)I"⟩
abbrev cX8_become : ByteArray := prog_10_method_50_code
def yX8_become : MethodName := ⟨RX8, "become", "(II)I"⟩
abbrev cX8_as : ByteArray := prog_10_method_51_code
def yX8_as : MethodName := ⟨RX8, "as", "(II)I"⟩
abbrev cX8_hang : ByteArray := prog_10_method_52_code
def yX8_hang : MethodName := ⟨RX8, "hang", "(II)I"⟩
abbrev cX8_law : ByteArray := prog_10_method_53_code
def yX8_law : MethodName := ⟨RX8, "law", "(IIII)I"⟩
abbrev cX8_piece : ByteArray := prog_10_method_54_code
def yX8_piece : MethodName := ⟨RX8, "piece", "(II)I"⟩
abbrev cX8_rowIs : ByteArray := prog_10_method_55_code
def yX8_rowIs : MethodName := ⟨RX8, "rowIs", "(II)I"⟩
abbrev cX8_seen : ByteArray := prog_10_method_56_code
def yX8_seen : MethodName := ⟨RX8, "seen", "(III)I"⟩
abbrev cX8_tiles : ByteArray := prog_10_method_57_code
def yX8_tiles : MethodName := ⟨RX8, "tiles", "()I"⟩
abbrev cX8_buy : ByteArray := prog_10_method_58_code
def yX8_buy : MethodName := ⟨RX8, "buy", "(I)I"⟩
abbrev cX8_draw : ByteArray := prog_10_method_59_code
def yX8_draw : MethodName := ⟨RX8, "draw", "()I"⟩
abbrev cX8_loose : ByteArray := prog_10_method_60_code
def yX8_loose : MethodName := ⟨RX8, "loose", "(I)I"⟩
abbrev cX8_seed : ByteArray := prog_10_method_61_code
def yX8_seed : MethodName := ⟨RX8, "seed", "(I)I"⟩
abbrev cX8_best : ByteArray := prog_10_method_62_code
def yX8_best : MethodName := ⟨RX8, "best", "(I)I"⟩
abbrev cX8_calm : ByteArray := prog_10_method_63_code
def yX8_calm : MethodName := ⟨RX8, "calm", "(I)I"⟩
abbrev cX8_cheat : ByteArray := prog_10_method_64_code
def yX8_cheat : MethodName := ⟨RX8, "cheat", "(I)I"⟩
abbrev cX8_middle : ByteArray := prog_10_method_65_code
def yX8_middle : MethodName := ⟨RX8, "middle", "(I)I"⟩
abbrev cX8_divisor : ByteArray := prog_10_method_66_code
def yX8_divisor : MethodName := ⟨RX8, "divisor", "(II)I"⟩
abbrev cX8_odds : ByteArray := prog_10_method_67_code
def yX8_odds : MethodName := ⟨RX8, "odds", "(II)I"⟩
abbrev cX8_rightOf : ByteArray := prog_10_method_68_code
def yX8_rightOf : MethodName := ⟨RX8, "rightOf", "(I)I"⟩
abbrev cX8_fits : ByteArray := prog_10_method_69_code
def yX8_fits : MethodName := ⟨RX8, "fits", "(II)I"⟩
abbrev cX8_starts : ByteArray := prog_10_method_70_code
def yX8_starts : MethodName := ⟨RX8, "starts", "(I)V"⟩
abbrev cX8_above : ByteArray := prog_10_method_71_code
def yX8_above : MethodName := ⟨RX8, "above", "(I)I"⟩
abbrev cX8_kindNow : ByteArray := prog_10_method_72_code
def yX8_kindNow : MethodName := ⟨RX8, "kindNow", "()I"⟩
abbrev cX8_mNow : ByteArray := prog_10_method_73_code
def yX8_mNow : MethodName := ⟨RX8, "mNow", "()I"⟩
abbrev cX8_dripsAs : ByteArray := prog_10_method_74_code
def yX8_dripsAs : MethodName := ⟨RX8, "dripsAs", "(II)I"⟩
abbrev cX8_scoresAs : ByteArray := prog_10_method_75_code
def yX8_scoresAs : MethodName := ⟨RX8, "scoresAs", "(II)I"⟩
abbrev cX8_snapsAs : ByteArray := prog_10_method_76_code
def yX8_snapsAs : MethodName := ⟨RX8, "snapsAs", "(II)I"⟩
abbrev cX8_partsAs : ByteArray := prog_10_method_77_code
def yX8_partsAs : MethodName := ⟨RX8, "partsAs", "(II)I"⟩
abbrev cX8_voice : ByteArray := prog_10_method_78_code
def yX8_voice : MethodName := ⟨RX8, "voice", "(III)I"⟩
abbrev cX8_body : ByteArray := prog_10_method_79_code
def yX8_body : MethodName := ⟨RX8, "body", "(I)I"⟩
abbrev cX8_isSheet : ByteArray := prog_10_method_80_code
def yX8_isSheet : MethodName := ⟨RX8, "isSheet", "(I)Z"⟩
abbrev cX8_sheet : ByteArray := prog_10_method_81_code
def yX8_sheet : MethodName := ⟨RX8, "sheet", "(III)I"⟩
abbrev cX8_put : ByteArray := prog_10_method_82_code
def yX8_put : MethodName := ⟨RX8, "put", "(III)I"⟩
abbrev cX8_move : ByteArray := prog_10_method_83_code
def yX8_move : MethodName := ⟨RX8, "move", "(IIIII)I"⟩
abbrev cX8_lacks : ByteArray := prog_10_method_84_code
def yX8_lacks : MethodName := ⟨RX8, "lacks", "(I)I"⟩
abbrev cX8_places : ByteArray := prog_10_method_85_code
def yX8_places : MethodName := ⟨RX8, "places", "(I)I"⟩
abbrev cX8_judge : ByteArray := prog_10_method_86_code
def yX8_judge : MethodName := ⟨RX8, "judge", "(I)I"⟩
abbrev cX8_image : ByteArray := prog_10_method_87_code
def yX8_image : MethodName := ⟨RX8, "image", "()I"⟩
abbrev cX8_restore : ByteArray := prog_10_method_88_code
def yX8_restore : MethodName := ⟨RX8, "restore", "()I"⟩
abbrev cX8_tell : ByteArray := prog_10_method_89_code
def yX8_tell : MethodName := ⟨RX8, "tell", "(I)I"⟩
abbrev cX8_check : ByteArray := prog_10_method_90_code
def yX8_check : MethodName := ⟨RX8, "check", "()I"⟩
abbrev cX8_count : ByteArray := prog_10_method_91_code
def yX8_count : MethodName := ⟨RX8, "count", "(I)I"⟩
abbrev cX8_told : ByteArray := prog_10_method_92_code
def yX8_told : MethodName := ⟨RX8, "told", "(I)I"⟩
def RJ11 : String := "java/lang/Character"
def TJ11 : u_T := fun k => match k with
  | _ => ("", "", "", false)
def tyJ11 : Nat → FieldType := fun k => match k with
  | _ => .int
abbrev wsJ110 : List Cond := u_ws RJ11 TJ11 0
theorem nmJ11 : ∀ a, a < 0 → ∀ b, b < 0 → a ≠ b → (TJ11 a).2.1 ≠ (TJ11 b).2.1 := by decide +kernel
theorem tyJ11_ok : ∀ k, k < 0 → parseFieldDescriptor (TJ11 k).2.2.1 = some (tyJ11 k) := by decide +kernel
abbrev cJ11_isValidCodePoint_9a6ad : ByteArray := prog_11_method_11_code
def yJ11_isValidCodePoint_9a6ad : MethodName := ⟨RJ11, "isValidCodePoint", "(I)Z"⟩
abbrev cJ11_highSurrogate_5068e : ByteArray := prog_11_method_28_code
def yJ11_highSurrogate_5068e : MethodName := ⟨RJ11, "highSurrogate", "(I)C"⟩
abbrev cJ11_lowSurrogate_5068e : ByteArray := prog_11_method_29_code
def yJ11_lowSurrogate_5068e : MethodName := ⟨RJ11, "lowSurrogate", "(I)C"⟩
def RJ9 : String := "java/lang/Math"
def TJ9 : u_T := fun k => match k with
  | _ => ("", "", "", false)
def tyJ9 : Nat → FieldType := fun k => match k with
  | _ => .int
abbrev wsJ90 : List Cond := u_ws RJ9 TJ9 0
theorem nmJ9 : ∀ a, a < 0 → ∀ b, b < 0 → a ≠ b → (TJ9 a).2.1 ≠ (TJ9 b).2.1 := by decide +kernel
theorem tyJ9_ok : ∀ k, k < 0 → parseFieldDescriptor (TJ9 k).2.2.1 = some (tyJ9 k) := by decide +kernel
abbrev cJ9_max_7cf53 : ByteArray := prog_12_method_65_code
def yJ9_max_7cf53 : MethodName := ⟨RJ9, "max", "(II)I"⟩
abbrev cJ9_min_7cf53 : ByteArray := prog_12_method_69_code
def yJ9_min_7cf53 : MethodName := ⟨RJ9, "min", "(II)I"⟩
def RJ0 : String := "java/lang/String"
def TJ0 : u_T := fun k => match k with
  | _ => ("", "", "", false)
def tyJ0 : Nat → FieldType := fun k => match k with
  | _ => .int
abbrev wsJ00 : List Cond := u_ws RJ0 TJ0 0
theorem nmJ0 : ∀ a, a < 0 → ∀ b, b < 0 → a ≠ b → (TJ0 a).2.1 ≠ (TJ0 b).2.1 := by decide +kernel
theorem tyJ0_ok : ∀ k, k < 0 → parseFieldDescriptor (TJ0 k).2.2.1 = some (tyJ0 k) := by decide +kernel
abbrev cJ0_length_8abf5 : ByteArray := prog_13_method_54_code
def yJ0_length_8abf5 : MethodName := ⟨RJ0, "length", "()I"⟩
abbrev cJ0_indexOf_0f7a4 : ByteArray := prog_13_method_79_code
def yJ0_indexOf_0f7a4 : MethodName := ⟨RJ0, "indexOf", "(I)I"⟩
abbrev cJ0_indexOf_7cf53 : ByteArray := prog_13_method_80_code
def yJ0_indexOf_7cf53 : MethodName := ⟨RJ0, "indexOf", "(II)I"⟩
abbrev cJ0_coder_7d493 : ByteArray := prog_13_method_152_code
def yJ0_coder_7d493 : MethodName := ⟨RJ0, "coder", "()B"⟩
abbrev cJ0_isLatin1_aae02 : ByteArray := prog_13_method_154_code
def yJ0_isLatin1_aae02 : MethodName := ⟨RJ0, "isLatin1", "()Z"⟩
abbrev cJ0_checkBoundsBeginEnd_23922 : ByteArray := prog_13_method_158_code
def yJ0_checkBoundsBeginEnd_23922 : MethodName := ⟨RJ0, "checkBoundsBeginEnd", "(III)V"⟩
def RJ1 : String := "java/lang/StringLatin1"
def TJ1 : u_T := fun k => match k with
  | _ => ("", "", "", false)
def tyJ1 : Nat → FieldType := fun k => match k with
  | _ => .int
abbrev wsJ10 : List Cond := u_ws RJ1 TJ1 0
theorem nmJ1 : ∀ a, a < 0 → ∀ b, b < 0 → a ≠ b → (TJ1 a).2.1 ≠ (TJ1 b).2.1 := by decide +kernel
theorem tyJ1_ok : ∀ k, k < 0 → parseFieldDescriptor (TJ1 k).2.2.1 = some (tyJ1 k) := by decide +kernel
abbrev cJ1_canEncode_9a6ad : ByteArray := prog_14_method_4_code
def yJ1_canEncode_9a6ad : MethodName := ⟨RJ1, "canEncode", "(I)Z"⟩
abbrev cJ1_indexOf_4cfef : ByteArray := prog_14_method_22_code
def yJ1_indexOf_4cfef : MethodName := ⟨RJ1, "indexOf", "([BIII)I"⟩
abbrev cJ1_indexOfChar_4cfef : ByteArray := prog_14_method_23_code
def yJ1_indexOfChar_4cfef : MethodName := ⟨RJ1, "indexOfChar", "([BIII)I"⟩
def RJ2 : String := "java/lang/StringUTF16"
def TJ2 : u_T := fun k => match k with
  | _ => ("", "", "", false)
def tyJ2 : Nat → FieldType := fun k => match k with
  | _ => .int
abbrev wsJ20 : List Cond := u_ws RJ2 TJ2 0
theorem nmJ2 : ∀ a, a < 0 → ∀ b, b < 0 → a ≠ b → (TJ2 a).2.1 ≠ (TJ2 b).2.1 := by decide +kernel
theorem tyJ2_ok : ∀ k, k < 0 → parseFieldDescriptor (TJ2 k).2.2.1 = some (tyJ2 k) := by decide +kernel
abbrev cJ2_getChar_3b067 : ByteArray := prog_15_method_5_code
def yJ2_getChar_3b067 : MethodName := ⟨RJ2, "getChar", "([BI)C"⟩
abbrev cJ2_length_9d52b : ByteArray := prog_15_method_6_code
def yJ2_length_9d52b : MethodName := ⟨RJ2, "length", "([B)I"⟩
abbrev cJ2_indexOf_4cfef : ByteArray := prog_15_method_40_code
def yJ2_indexOf_4cfef : MethodName := ⟨RJ2, "indexOf", "([BIII)I"⟩
abbrev cJ2_indexOfChar_4cfef : ByteArray := prog_15_method_47_code
def yJ2_indexOfChar_4cfef : MethodName := ⟨RJ2, "indexOfChar", "([BIII)I"⟩
abbrev cJ2_indexOfCharUnsafe_4cfef : ByteArray := prog_15_method_48_code
def yJ2_indexOfCharUnsafe_4cfef : MethodName := ⟨RJ2, "indexOfCharUnsafe", "([BIII)I"⟩
abbrev cJ2_indexOfSupplementary_4cfef : ByteArray := prog_15_method_49_code
def yJ2_indexOfSupplementary_4cfef : MethodName := ⟨RJ2, "indexOfSupplementary", "([BIII)I"⟩
abbrev cJ2_checkBoundsBeginEnd_d044e : ByteArray := prog_15_method_93_code
def yJ2_checkBoundsBeginEnd_d044e : MethodName := ⟨RJ2, "checkBoundsBeginEnd", "(II[B)V"⟩
def RJ10 : String := "java/lang/System"
def TJ10 : u_T := fun k => match k with
  | _ => ("", "", "", false)
def tyJ10 : Nat → FieldType := fun k => match k with
  | _ => .int
abbrev wsJ100 : List Cond := u_ws RJ10 TJ10 0
theorem nmJ10 : ∀ a, a < 0 → ∀ b, b < 0 → a ≠ b → (TJ10 a).2.1 ≠ (TJ10 b).2.1 := by decide +kernel
theorem tyJ10_ok : ∀ k, k < 0 → parseFieldDescriptor (TJ10 k).2.2.1 = some (tyJ10 k) := by decide +kernel
def RJ3 : String := "jdk/internal/util/Preconditions"
def TJ3 : u_T := fun k => match k with
  | _ => ("", "", "", false)
def tyJ3 : Nat → FieldType := fun k => match k with
  | _ => .int
abbrev wsJ30 : List Cond := u_ws RJ3 TJ3 0
theorem nmJ3 : ∀ a, a < 0 → ∀ b, b < 0 → a ≠ b → (TJ3 a).2.1 ≠ (TJ3 b).2.1 := by decide +kernel
theorem tyJ3_ok : ∀ k, k < 0 → parseFieldDescriptor (TJ3 k).2.2.1 = some (tyJ3 k) := by decide +kernel
abbrev cJ3_checkFromToIndex_8c36e : ByteArray := prog_17_method_12_code
def yJ3_checkFromToIndex_8c36e : MethodName := ⟨RJ3, "checkFromToIndex", "(IIILjava/util/function/BiFunction;)I"⟩
def RL : String := "FromTheMiddleLaw"
abbrev cL_law : ByteArray := code
def yL_law : MethodName := ⟨RL, "law", "([I)Z"⟩
def wsL_law_r1 : List Cond := [Cond.classLink RL 7 RX7, Cond.instantiable RX7 9, Cond.initialized RX7, Cond.classLink RL 10 RX8, Cond.instantiable RX8 24, Cond.initialized RX8, Cond.constantLong RL 48 (4294967295), Cond.methodLink RL 9 yX7_init, Cond.instanceMethod yX7_init, Cond.code yX7_init cX7_init 1 none, Cond.methodLink RX7 1 objectInit, Cond.instanceMethod objectInit, Cond.code objectInit ⟨#[0xb1]⟩ 1 none, Cond.classLink RX7 7 RX0, Cond.instantiable RX0 10, Cond.initialized RX0, Cond.fieldLink RX7 10 "FromTheMiddle" "now" "LFromTheMiddle$Kept;", Cond.fieldLink RX7 16 "FromTheMiddle" "kept" "LFromTheMiddle$Kept;", Cond.classLink RX7 19 RX1, Cond.instantiable RX1 2, Cond.initialized RX1, Cond.fieldLink RX7 24 "FromTheMiddle" "errors" "LFromTheMiddle$Numbers;", Cond.classLink RX7 28 RX5, Cond.instantiable RX5 2]
def wsL_law_r2 : List Cond := [Cond.initialized RX5, Cond.fieldLink RX7 31 "FromTheMiddle" "sheets" "[LFromTheMiddle$Sheet;", Cond.classLink RX7 35 RX4, Cond.instantiable RX4 9, Cond.initialized RX4, Cond.fieldLink RX7 38 "FromTheMiddle" "laid" "LFromTheMiddle$Row;", Cond.classLink RX7 42 RX2, Cond.instantiable RX2 5, Cond.initialized RX2, Cond.fieldLink RX7 45 "FromTheMiddle" "reader" "LFromTheMiddle$Reader;", Cond.classLink RX7 49 RX3, Cond.instantiable RX3 1, Cond.initialized RX3, Cond.fieldLink RX7 52 "FromTheMiddle" "reckoner" "LFromTheMiddle$Reckoner;", Cond.classLink RX7 56 RX6, Cond.instantiable RX6 4, Cond.initialized RX6, Cond.fieldLink RX7 59 "FromTheMiddle" "voices" "LFromTheMiddle$Voices;", Cond.methodLink RX7 9 yX0_init, Cond.instanceMethod yX0_init, Cond.code yX0_init cX0_init 1 none, Cond.methodLink RX0 3 objectInit, Cond.classLink RX0 9 RX1, Cond.fieldLink RX0 14 "FromTheMiddle$Kept" "wall" "LFromTheMiddle$Numbers;"]
def wsL_law_r3 : List Cond := [Cond.fieldLink RX0 20 "FromTheMiddle$Kept" "kinds" "LFromTheMiddle$Numbers;", Cond.fieldLink RX0 23 "FromTheMiddle$Kept" "marks" "LFromTheMiddle$Numbers;", Cond.fieldLink RX0 26 "FromTheMiddle$Kept" "froms" "LFromTheMiddle$Numbers;", Cond.fieldLink RX0 29 "FromTheMiddle$Kept" "widths" "LFromTheMiddle$Numbers;", Cond.fieldLink RX0 32 "FromTheMiddle$Kept" "tape" "LFromTheMiddle$Numbers;", Cond.fieldLink RX0 35 "FromTheMiddle$Kept" "broken" "LFromTheMiddle$Numbers;", Cond.fieldLink RX0 38 "FromTheMiddle$Kept" "harm" "LFromTheMiddle$Numbers;", Cond.fieldLink RX0 41 "FromTheMiddle$Kept" "waits" "LFromTheMiddle$Numbers;", Cond.fieldLink RX0 44 "FromTheMiddle$Kept" "z" "I", Cond.methodLink RX0 11 yX1_init, Cond.instanceMethod yX1_init, Cond.code yX1_init cX1_init 2 none, Cond.methodLink RX1 1 objectInit, Cond.methodLink RX1 7 Lib.Math.max.name, Cond.static Lib.Math.max.name, Cond.initialized "java/lang/Math", Cond.code Lib.Math.max.name Lib.Math.max.code 2 (some .int), Cond.arrayClass .int, Cond.fieldLink RX1 13 "FromTheMiddle$Numbers" "held" "[I", Cond.methodLink RX0 48 yX1_add, Cond.instanceMethod yX1_add, Cond.selects RX1 yX1_add yX1_add, Cond.code yX1_add cX1_add 2 none, Cond.fieldLink RX1 19 "FromTheMiddle$Numbers" "size" "I"]
def wsL_law_r4 : List Cond := [Cond.methodLink RX7 21 yX1_init, Cond.instanceMethod yX5_init, Cond.code yX5_init cX5_init 1 none, Cond.methodLink RX5 3 objectInit, Cond.classLink RX5 9 RX1, Cond.fieldLink RX5 14 "FromTheMiddle$Sheet" "numbers" "LFromTheMiddle$Numbers;", Cond.methodLink RX5 11 yX1_init, Cond.instanceMethod yX4_init, Cond.code yX4_init cX4_init 1 none, Cond.methodLink RX4 3 objectInit, Cond.instanceMethod yX2_init, Cond.code yX2_init cX2_init 1 none, Cond.methodLink RX2 3 objectInit, Cond.classLink RX2 9 RX1, Cond.fieldLink RX2 14 "FromTheMiddle$Reader" "codes" "LFromTheMiddle$Numbers;", Cond.fieldLink RX2 20 "FromTheMiddle$Reader" "pending" "LFromTheMiddle$Numbers;", Cond.methodLink RX2 11 yX1_init, Cond.instanceMethod yX3_init, Cond.code yX3_init cX3_init 1 none, Cond.methodLink RX3 3 objectInit, Cond.classLink RX3 9 RX1, Cond.fieldLink RX3 14 "FromTheMiddle$Reckoner" "stack" "LFromTheMiddle$Numbers;", Cond.methodLink RX3 11 yX1_init, Cond.instanceMethod yX6_init]
def wsL_law_r5 : List Cond := [Cond.code yX6_init cX6_init 1 none, Cond.methodLink RX6 3 objectInit, Cond.classLink RX6 9 RX1, Cond.fieldLink RX6 14 "FromTheMiddle$Voices" "trace" "LFromTheMiddle$Numbers;", Cond.methodLink RX6 11 yX1_init, Cond.methodLink RX7 63 yX1_fillWithZeros, Cond.instanceMethod yX1_fillWithZeros, Cond.selects RX1 yX1_fillWithZeros yX1_fillWithZeros, Cond.code yX1_fillWithZeros cX1_fillWithZeros 3 none, Cond.methodLink RX1 23 Lib.Math.min.name, Cond.static Lib.Math.min.name, Cond.code Lib.Math.min.name Lib.Math.min.code 2 (some .int), Cond.methodLink RL 12 yX8_init, Cond.instanceMethod yX8_init, Cond.code yX8_init cX8_init 1 none, Cond.methodLink RX8 1 objectInit, Cond.fieldLink RX8 7 "FromTheMiddleModel" "s" "[I", Cond.fieldLink RX8 13 "FromTheMiddleModel" "kept" "[I", Cond.fieldLink RX8 16 "FromTheMiddleModel" "errors" "[I", Cond.fieldLink RX8 19 "FromTheMiddleModel" "lows" "[I", Cond.fieldLink RX8 22 "FromTheMiddleModel" "highs" "[I", Cond.fieldLink RX8 25 "FromTheMiddleModel" "step" "[I", Cond.fieldLink RX8 28 "FromTheMiddleModel" "named" "[I", Cond.fieldLink RX8 31 "FromTheMiddleModel" "pile" "[I"]
def wsL_law_r6 : List Cond := [Cond.fieldLink RX8 34 "FromTheMiddleModel" "left" "[I", Cond.fieldLink RX8 37 "FromTheMiddleModel" "wide" "[I", Cond.fieldLink RX8 40 "FromTheMiddleModel" "trace" "[I", Cond.fieldLink RX8 43 "FromTheMiddleModel" "bits" "[I", Cond.fieldLink RX8 46 "FromTheMiddleModel" "sizes" "[I", Cond.fieldLink RX8 49 "FromTheMiddleModel" "number" "[I", Cond.fieldLink RX8 52 "FromTheMiddleModel" "aside" "[I", Cond.methodLink RL 13 yX7_wall, Cond.instanceMethod yX7_wall, Cond.selects RX7 yX7_wall yX7_wall, Cond.code yX7_wall cX7_wall 4 (some .int), Cond.fieldLink RX7 66 "FromTheMiddle" "LEAST" "[I", Cond.fieldLink RX7 70 "FromTheMiddle" "MOST" "[I", Cond.fieldLink RX7 80 "FromTheMiddle$Kept" "wall" "LFromTheMiddle$Numbers;", Cond.methodLink RX7 73 yX7_error, Cond.instanceMethod yX7_error, Cond.selects RX7 yX7_error yX7_error, Cond.code yX7_error cX7_error 2 (some .int), Cond.constant RX7 284 (-1000000000), Cond.methodLink RX7 119 yX1_get, Cond.instanceMethod yX1_get, Cond.selects RX1 yX1_get yX1_get, Cond.code yX1_get cX1_get 2 (some .int), Cond.methodLink RX7 83 yX1_set]
def wsL_law_r7 : List Cond := [Cond.instanceMethod yX1_set, Cond.selects RX1 yX1_set yX1_set, Cond.code yX1_set cX1_set 3 none, Cond.methodLink RX7 77 yX7_is, Cond.instanceMethod yX7_is, Cond.selects RX7 yX7_is yX7_is, Cond.code yX7_is cX7_is 2 (some .int), Cond.methodLink RL 17 yX8_wall, Cond.instanceMethod yX8_wall, Cond.selects RX8 yX8_wall yX8_wall, Cond.code yX8_wall cX8_wall 3 (some .int), Cond.methodLink RX8 56 yX8_in, Cond.static yX8_in, Cond.code yX8_in cX8_in 3 (some .boolean), Cond.methodLink RX8 60 yX8_error, Cond.instanceMethod yX8_error, Cond.selects RX8 yX8_error yX8_error, Cond.code yX8_error cX8_error 2 (some .int), Cond.constant RX8 55 (-1000000000), Cond.methodLink RX8 176 yX8_change1, Cond.instanceMethod yX8_change1, Cond.selects RX8 yX8_change1 yX8_change1, Cond.code yX8_change1 cX8_change1 4 (some .int), Cond.methodLink RL 18 yX7_wallIs]
def wsL_law_r8 : List Cond := [Cond.instanceMethod yX7_wallIs, Cond.selects RX7 yX7_wallIs yX7_wallIs, Cond.code yX7_wallIs cX7_wallIs 2 (some .int), Cond.methodLink RL 22 yX8_wallIs, Cond.instanceMethod yX8_wallIs, Cond.selects RX8 yX8_wallIs yX8_wallIs, Cond.code yX8_wallIs cX8_wallIs 2 (some .int), Cond.methodLink RL 23 yX7_begin, Cond.instanceMethod yX7_begin, Cond.selects RX7 yX7_begin yX7_begin, Cond.code yX7_begin cX7_begin 3 (some .int), Cond.methodLink RL 26 yX8_begin, Cond.instanceMethod yX8_begin, Cond.selects RX8 yX8_begin yX8_begin, Cond.code yX8_begin cX8_begin 2 (some .int), Cond.methodLink RL 27 yX7_thing, Cond.instanceMethod yX7_thing, Cond.selects RX7 yX7_thing yX7_thing, Cond.code yX7_thing cX7_thing 4 (some .int), Cond.fieldLink RX7 94 "FromTheMiddle$Kept" "kinds" "LFromTheMiddle$Numbers;", Cond.fieldLink RX7 104 "FromTheMiddle$Kept" "marks" "LFromTheMiddle$Numbers;", Cond.fieldLink RX7 107 "FromTheMiddle$Kept" "froms" "LFromTheMiddle$Numbers;", Cond.fieldLink RX7 110 "FromTheMiddle$Kept" "widths" "LFromTheMiddle$Numbers;", Cond.methodLink RX7 87 yX7_isKindAndMark]
def wsL_law_r9 : List Cond := [Cond.static yX7_isKindAndMark, Cond.code yX7_isKindAndMark cX7_isKindAndMark 1 (some .boolean), Cond.methodLink RX7 91 yX7_isFrom, Cond.static yX7_isFrom, Cond.code yX7_isFrom cX7_isFrom 1 (some .boolean), Cond.methodLink RX7 97 yX1_room, Cond.instanceMethod yX1_room, Cond.selects RX1 yX1_room yX1_room, Cond.code yX1_room cX1_room 1 (some .int), Cond.methodLink RX7 101 yX1_add, Cond.methodLink RX7 113 yX1_size, Cond.instanceMethod yX1_size, Cond.selects RX1 yX1_size yX1_size, Cond.code yX1_size cX1_size 1 (some .int), Cond.methodLink RL 31 yX8_thing, Cond.instanceMethod yX8_thing, Cond.selects RX8 yX8_thing yX8_thing, Cond.code yX8_thing cX8_thing 5 (some .int), Cond.methodLink RX8 179 yX8_isKind, Cond.static yX8_isKind, Cond.code yX8_isKind cX8_isKind 1 (some .boolean), Cond.methodLink RX8 182 yX8_lays1, Cond.instanceMethod yX8_lays1, Cond.selects RX8 yX8_lays1 yX8_lays1]
def wsL_law_r10 : List Cond := [Cond.code yX8_lays1 cX8_lays1 4 none, Cond.methodLink RL 32 yX7_thingIs, Cond.instanceMethod yX7_thingIs, Cond.selects RX7 yX7_thingIs yX7_thingIs, Cond.code yX7_thingIs cX7_thingIs 3 (some .int), Cond.methodLink RX7 116 yX7_isThing, Cond.instanceMethod yX7_isThing, Cond.selects RX7 yX7_isThing yX7_isThing, Cond.code yX7_isThing cX7_isThing 2 (some .boolean), Cond.methodLink RX7 254 yX1_stands, Cond.instanceMethod yX1_stands, Cond.selects RX1 yX1_stands yX1_stands, Cond.code yX1_stands cX1_stands 2 (some .boolean), Cond.methodLink RL 35 yX8_thingIs, Cond.instanceMethod yX8_thingIs, Cond.selects RX8 yX8_thingIs yX8_thingIs, Cond.code yX8_thingIs cX8_thingIs 3 (some .int), Cond.methodLink RX8 186 yX8_isThing, Cond.instanceMethod yX8_isThing, Cond.selects RX8 yX8_isThing yX8_isThing, Cond.code yX8_isThing cX8_isThing 2 (some .boolean), Cond.methodLink RX8 146 yX8_its, Cond.instanceMethod yX8_its, Cond.selects RX8 yX8_its yX8_its]
def wsL_law_r11 : List Cond := [Cond.code yX8_its cX8_its 3 (some .int), Cond.methodLink RL 36 yX7_become, Cond.instanceMethod yX7_become, Cond.selects RX7 yX7_become yX7_become, Cond.code yX7_become cX7_become 4 (some .int), Cond.methodLink RL 39 yX8_become, Cond.instanceMethod yX8_become, Cond.selects RX8 yX8_become yX8_become, Cond.code yX8_become cX8_become 3 (some .int), Cond.methodLink RL 40 yX7_as, Cond.instanceMethod yX7_as, Cond.selects RX7 yX7_as yX7_as, Cond.code yX7_as cX7_as 3 (some .int), Cond.methodLink RX7 122 yX7_isOfKind, Cond.static yX7_isOfKind, Cond.code yX7_isOfKind cX7_isOfKind 2 (some .boolean), Cond.methodLink RX7 285 yX7_kindAbove, Cond.static yX7_kindAbove, Cond.code yX7_kindAbove cX7_kindAbove 1 (some .int), Cond.methodLink RL 43 yX8_as, Cond.instanceMethod yX8_as, Cond.selects RX8 yX8_as yX8_as, Cond.code yX8_as cX8_as 4 (some .int), Cond.methodLink RX8 189 yX8_above]
def wsL_law_r12 : List Cond := [Cond.static yX8_above, Cond.code yX8_above cX8_above 1 (some .int), Cond.methodLink RL 44 yX7_hang, Cond.instanceMethod yX7_hang, Cond.selects RX7 yX7_hang yX7_hang, Cond.code yX7_hang cX7_hang 4 (some .int), Cond.methodLink RL 47 yX8_hang, Cond.instanceMethod yX8_hang, Cond.selects RX8 yX8_hang yX8_hang, Cond.code yX8_hang cX8_hang 3 (some .int), Cond.methodLink RL 50 yX7_feed, Cond.instanceMethod yX7_feed, Cond.selects RX7 yX7_feed yX7_feed, Cond.code yX7_feed cX7_feed 5 (some .int), Cond.fieldLink RX7 126 "FromTheMiddle$Kept" "tape" "LFromTheMiddle$Numbers;", Cond.methodLink RL 54 yX8_feed, Cond.instanceMethod yX8_feed, Cond.selects RX8 yX8_feed yX8_feed, Cond.code yX8_feed cX8_feed 5 (some .int), Cond.constantLong RX8 64 (255), Cond.methodLink RL 55 yX7_text, Cond.instanceMethod yX7_text, Cond.selects RX7 yX7_text yX7_text, Cond.code yX7_text cX7_text 3 (some .int)]
def wsL_law_r13 : List Cond := [Cond.fieldLink RX7 147 "FromTheMiddle$Reader" "codes" "LFromTheMiddle$Numbers;", Cond.methodLink RX7 129 yX7_isUse, Cond.static yX7_isUse, Cond.code yX7_isUse cX7_isUse 1 (some .boolean), Cond.methodLink RX7 136 yX2_read, Cond.instanceMethod yX2_read, Cond.selects RX2 yX2_read yX2_read, Cond.code yX2_read cX2_read 6 (some .int), Cond.fieldLink RX2 26 "FromTheMiddle$Reader" "open" "I", Cond.fieldLink RX2 30 "FromTheMiddle$Reader" "digits" "I", Cond.fieldLink RX2 33 "FromTheMiddle$Reader" "wantsOperand" "Z", Cond.methodLink RX2 23 yX1_clear, Cond.instanceMethod yX1_clear, Cond.selects RX1 yX1_clear yX1_clear, Cond.code yX1_clear cX1_clear 1 none, Cond.methodLink RX2 37 yX1_size, Cond.methodLink RX2 41 yX1_get, Cond.methodLink RX2 45 yX2_beginOperand, Cond.instanceMethod yX2_beginOperand, Cond.selects RX2 yX2_beginOperand yX2_beginOperand, Cond.code yX2_beginOperand cX2_beginOperand 4 (some .boolean), Cond.methodLink RX2 56 yX1_add, Cond.methodLink RX2 59 yX2_isDigit, Cond.static yX2_isDigit]
def wsL_law_r14 : List Cond := [Cond.code yX2_isDigit cX2_isDigit 1 (some .boolean), Cond.methodLink RX2 62 yJ0_indexOf_0f7a4, Cond.instanceMethod yJ0_indexOf_0f7a4, Cond.selects RJ0 yJ0_indexOf_0f7a4 yJ0_indexOf_0f7a4, Cond.initialized RJ0, Cond.code yJ0_indexOf_0f7a4 cJ0_indexOf_0f7a4 2 (some .int), Cond.methodLink RJ0 633 yJ0_indexOf_7cf53, Cond.instanceMethod yJ0_indexOf_7cf53, Cond.selects RJ0 yJ0_indexOf_7cf53 yJ0_indexOf_7cf53, Cond.code yJ0_indexOf_7cf53 cJ0_indexOf_7cf53 3 (some .int), Cond.fieldLink RJ0 9 "java/lang/String" "value" "[B", Cond.methodLink RJ0 492 yJ0_isLatin1_aae02, Cond.instanceMethod yJ0_isLatin1_aae02, Cond.selects RJ0 yJ0_isLatin1_aae02 yJ0_isLatin1_aae02, Cond.code yJ0_isLatin1_aae02 cJ0_isLatin1_aae02 1 (some .boolean), Cond.fieldLink RJ0 38 "java/lang/String" "COMPACT_STRINGS" "Z", Cond.fieldLink RJ0 15 "java/lang/String" "coder" "B", Cond.methodLink RJ0 505 yJ0_length_8abf5, Cond.instanceMethod yJ0_length_8abf5, Cond.selects RJ0 yJ0_length_8abf5 yJ0_length_8abf5, Cond.code yJ0_length_8abf5 cJ0_length_8abf5 1 (some .int), Cond.methodLink RJ0 335 yJ0_coder_7d493, Cond.instanceMethod yJ0_coder_7d493, Cond.selects RJ0 yJ0_coder_7d493 yJ0_coder_7d493]
def wsL_law_r15 : List Cond := [Cond.code yJ0_coder_7d493 cJ0_coder_7d493 1 (some .byte), Cond.methodLink RJ0 637 yJ1_indexOf_4cfef, Cond.static yJ1_indexOf_4cfef, Cond.initialized RJ1, Cond.code yJ1_indexOf_4cfef cJ1_indexOf_4cfef 4 (some .int), Cond.methodLink RJ1 92 Lib.Math.max.name, Cond.methodLink RJ1 38 Lib.Math.min.name, Cond.methodLink RJ1 88 yJ1_canEncode_9a6ad, Cond.static yJ1_canEncode_9a6ad, Cond.code yJ1_canEncode_9a6ad cJ1_canEncode_9a6ad 1 (some .boolean), Cond.methodLink RJ1 95 yJ1_indexOfChar_4cfef, Cond.static yJ1_indexOfChar_4cfef, Cond.code yJ1_indexOfChar_4cfef cJ1_indexOfChar_4cfef 6 (some .int), Cond.methodLink RJ0 640 yJ2_indexOf_4cfef, Cond.static yJ2_indexOf_4cfef, Cond.initialized RJ2, Cond.code yJ2_indexOf_4cfef cJ2_indexOf_4cfef 4 (some .int), Cond.methodLink RJ2 224 Lib.Math.max.name, Cond.methodLink RJ2 183 Lib.Math.min.name, Cond.constant RJ2 227 (65536), Cond.methodLink RJ2 228 yJ2_indexOfChar_4cfef, Cond.static yJ2_indexOfChar_4cfef, Cond.code yJ2_indexOfChar_4cfef cJ2_indexOfChar_4cfef 4 (some .int), Cond.methodLink RJ2 96 yJ2_checkBoundsBeginEnd_d044e]
def wsL_law_r16 : List Cond := [Cond.static yJ2_checkBoundsBeginEnd_d044e, Cond.code yJ2_checkBoundsBeginEnd_d044e cJ2_checkBoundsBeginEnd_d044e 3 none, Cond.methodLink RJ2 48 yJ2_length_9d52b, Cond.static yJ2_length_9d52b, Cond.code yJ2_length_9d52b cJ2_length_9d52b 1 (some .int), Cond.methodLink RJ2 241 yJ0_checkBoundsBeginEnd_23922, Cond.static yJ0_checkBoundsBeginEnd_23922, Cond.code yJ0_checkBoundsBeginEnd_23922 cJ0_checkBoundsBeginEnd_23922 3 none, Cond.fieldLink RJ0 1053 "jdk/internal/util/Preconditions" "SIOOBE_FORMATTER" "Ljava/util/function/BiFunction;", Cond.methodLink RJ0 1062 yJ3_checkFromToIndex_8c36e, Cond.static yJ3_checkFromToIndex_8c36e, Cond.initialized RJ3, Cond.code yJ3_checkFromToIndex_8c36e cJ3_checkFromToIndex_8c36e 4 (some .int), Cond.methodLink RJ2 244 yJ2_indexOfCharUnsafe_4cfef, Cond.static yJ2_indexOfCharUnsafe_4cfef, Cond.code yJ2_indexOfCharUnsafe_4cfef cJ2_indexOfCharUnsafe_4cfef 5 (some .int), Cond.methodLink RJ2 71 yJ2_getChar_3b067, Cond.static yJ2_getChar_3b067, Cond.code yJ2_getChar_3b067 cJ2_getChar_3b067 2 (some .char), Cond.fieldLink RJ2 44 "java/lang/StringUTF16" "$assertionsDisabled" "Z", Cond.fieldLink RJ2 59 "java/lang/StringUTF16" "HI_BYTE_SHIFT" "I", Cond.fieldLink RJ2 63 "java/lang/StringUTF16" "LO_BYTE_SHIFT" "I", Cond.methodLink RJ2 232 yJ2_indexOfSupplementary_4cfef, Cond.static yJ2_indexOfSupplementary_4cfef]
def wsL_law_r17 : List Cond := [Cond.code yJ2_indexOfSupplementary_4cfef cJ2_indexOfSupplementary_4cfef 7 (some .int), Cond.methodLink RJ2 164 yJ11_isValidCodePoint_9a6ad, Cond.static yJ11_isValidCodePoint_9a6ad, Cond.initialized RJ11, Cond.code yJ11_isValidCodePoint_9a6ad cJ11_isValidCodePoint_9a6ad 2 (some .boolean), Cond.methodLink RJ2 157 yJ11_highSurrogate_5068e, Cond.static yJ11_highSurrogate_5068e, Cond.code yJ11_highSurrogate_5068e cJ11_highSurrogate_5068e 1 (some .char), Cond.constant RJ11 110 (55232), Cond.methodLink RJ2 161 yJ11_lowSurrogate_5068e, Cond.static yJ11_lowSurrogate_5068e, Cond.code yJ11_lowSurrogate_5068e cJ11_lowSurrogate_5068e 1 (some .char), Cond.constant RJ11 76 (56320), Cond.methodLink RX2 49 yX2_goOn, Cond.instanceMethod yX2_goOn, Cond.selects RX2 yX2_goOn yX2_goOn, Cond.code yX2_goOn cX2_goOn 3 (some .boolean), Cond.methodLink RX2 67 yX2_addDigit, Cond.instanceMethod yX2_addDigit, Cond.selects RX2 yX2_addDigit yX2_addDigit, Cond.code yX2_addDigit cX2_addDigit 2 (some .boolean), Cond.methodLink RX2 77 yX1_pop, Cond.instanceMethod yX1_pop, Cond.selects RX1 yX1_pop yX1_pop]
def wsL_law_r18 : List Cond := [Cond.code yX1_pop cX1_pop 1 (some .int), Cond.methodLink RX2 70 yX2_close, Cond.instanceMethod yX2_close, Cond.selects RX2 yX2_close yX2_close, Cond.code yX2_close cX2_close 1 (some .boolean), Cond.methodLink RX2 53 yX2_settle, Cond.instanceMethod yX2_settle, Cond.selects RX2 yX2_settle yX2_settle, Cond.code yX2_settle cX2_settle 4 none, Cond.methodLink RX2 74 yX2_rankOf, Cond.static yX2_rankOf, Cond.code yX2_rankOf cX2_rankOf 1 (some .int), Cond.methodLink RX7 140 yX1_clear, Cond.methodLink RX7 143 yX0_textOf, Cond.instanceMethod yX0_textOf, Cond.selects RX0 yX0_textOf yX0_textOf, Cond.code yX0_textOf cX0_textOf 2 (some (.object "FromTheMiddle$Numbers")), Cond.methodLink RX7 150 yX1_copy, Cond.instanceMethod yX1_copy, Cond.selects RX1 yX1_copy yX1_copy, Cond.code yX1_copy cX1_copy 2 none, Cond.methodLink RX1 36 yX1_fillWithZeros, Cond.methodLink RX1 40 yX1_take, Cond.instanceMethod yX1_take]
def wsL_law_r19 : List Cond := [Cond.selects RX1 yX1_take yX1_take, Cond.code yX1_take cX1_take 5 none, Cond.methodLink RX1 30 arraycopyName, Cond.native arraycopyName, Cond.static arraycopyName, Cond.initialized "java/lang/System", Cond.methodLink RX1 26 yX1_stretches, Cond.instanceMethod yX1_stretches, Cond.selects RX1 yX1_stretches yX1_stretches, Cond.code yX1_stretches cX1_stretches 3 (some .boolean), Cond.methodLink RL 58 yX8_text, Cond.instanceMethod yX8_text, Cond.selects RX8 yX8_text yX8_text, Cond.code yX8_text cX8_text 5 (some .int), Cond.fieldLink RX8 70 "FromTheMiddleModel" "use" "I", Cond.fieldLink RX8 66 "FromTheMiddleModel" "at" "I", Cond.fieldLink RX8 100 "FromTheMiddleModel" "open" "I", Cond.fieldLink RX8 73 "FromTheMiddleModel" "steps" "I", Cond.methodLink RX8 110 yX8_whole, Cond.instanceMethod yX8_whole, Cond.selects RX8 yX8_whole yX8_whole, Cond.code yX8_whole cX8_whole 1 (some .boolean), Cond.methodLink RX8 76 yX8_both, Cond.instanceMethod yX8_both]
def wsL_law_r20 : List Cond := [Cond.selects RX8 yX8_both yX8_both, Cond.methodLink RX8 80 yX8_look, Cond.instanceMethod yX8_look, Cond.selects RX8 yX8_look yX8_look, Cond.code yX8_look cX8_look 1 (some .int), Cond.methodLink RX8 84 yX8_step1, Cond.instanceMethod yX8_step1, Cond.selects RX8 yX8_step1 yX8_step1, Cond.code yX8_step1 cX8_step1 3 none, Cond.code yX8_both cX8_both 1 (some .boolean), Cond.methodLink RX8 88 yX8_compared, Cond.instanceMethod yX8_compared, Cond.selects RX8 yX8_compared yX8_compared, Cond.code yX8_compared cX8_compared 2 (some .boolean), Cond.methodLink RX8 91 yX8_sum, Cond.instanceMethod yX8_sum, Cond.selects RX8 yX8_sum yX8_sum, Cond.code yX8_one cX8_one 4 (some .boolean), Cond.methodLink RX8 103 yX8_isName, Cond.instanceMethod yX8_isName, Cond.selects RX8 yX8_isName yX8_isName, Cond.code yX8_isName cX8_isName 2 (some .boolean), Cond.methodLink RX8 107 yX8_opens, Cond.instanceMethod yX8_opens]
def wsL_law_r21 : List Cond := [Cond.selects RX8 yX8_opens yX8_opens, Cond.code yX8_opens cX8_opens 1 (some .boolean), Cond.methodLink RX8 97 yX8_one, Cond.instanceMethod yX8_one, Cond.selects RX8 yX8_one yX8_one, Cond.code yX8_product cX8_product 2 (some .boolean), Cond.code yX8_sum cX8_sum 2 (some .boolean), Cond.methodLink RX8 94 yX8_product, Cond.instanceMethod yX8_product, Cond.selects RX8 yX8_product yX8_product, Cond.methodLink RL 59 yX7_untell, Cond.instanceMethod yX7_untell, Cond.selects RX7 yX7_untell yX7_untell, Cond.code yX7_untell cX7_untell 3 (some .int), Cond.methodLink RL 62 yX8_untell, Cond.instanceMethod yX8_untell, Cond.selects RX8 yX8_untell yX8_untell, Cond.code yX8_untell cX8_untell 3 (some .int), Cond.methodLink RX8 113 yX8_hasText, Cond.instanceMethod yX8_hasText, Cond.selects RX8 yX8_hasText yX8_hasText, Cond.code yX8_hasText cX8_hasText 2 (some .boolean), Cond.methodLink RL 63 yX7_law, Cond.instanceMethod yX7_law]
def wsL_law_r22 : List Cond := [Cond.selects RX7 yX7_law yX7_law, Cond.code yX7_law cX7_law 5 (some .int), Cond.methodLink RX7 154 yX7_ruled, Cond.instanceMethod yX7_ruled, Cond.selects RX7 yX7_ruled yX7_ruled, Cond.code yX7_ruled cX7_ruled 8 (some .int), Cond.methodLink RX7 304 yX3_value, Cond.instanceMethod yX3_value, Cond.selects RX3 yX3_value yX3_value, Cond.code yX3_value cX3_value 7 (some .int), Cond.methodLink RX3 20 yX1_clear, Cond.methodLink RX3 23 yX1_size, Cond.methodLink RX3 27 yX1_get, Cond.methodLink RX3 31 yX1_add, Cond.methodLink RX3 34 yX1_pop, Cond.methodLink RX3 37 yX3_truth, Cond.static yX3_truth, Cond.code yX3_truth cX3_truth 1 (some .int), Cond.methodLink RX3 41 yX3_joined, Cond.instanceMethod yX3_joined, Cond.selects RX3 yX3_joined yX3_joined, Cond.code yX3_joined cX3_joined 4 (some .int), Cond.static yX7_quotient, Cond.code yX7_quotient cX7_quotient 2 (some .int)]
def wsL_law_r23 : List Cond := [Cond.static yX7_rest, Cond.code yX7_rest cX7_rest 2 (some .int), Cond.methodLink RX7 308 yX7_within, Cond.static yX7_within, Cond.code yX7_within cX7_within 3 (some .int), Cond.methodLink RX7 270 Lib.Math.min.name, Cond.methodLink RX7 288 Lib.Math.max.name, Cond.methodLink RL 67 yX8_law, Cond.instanceMethod yX8_law, Cond.selects RX8 yX8_law yX8_law, Cond.code yX8_law cX8_law 5 (some .int), Cond.methodLink RX8 192 yX8_brokenTold, Cond.instanceMethod yX8_brokenTold, Cond.selects RX8 yX8_brokenTold yX8_brokenTold, Cond.code yX8_brokenTold cX8_brokenTold 4 (some .int), Cond.methodLink RX8 161 yX8_worked, Cond.instanceMethod yX8_worked, Cond.selects RX8 yX8_worked yX8_worked, Cond.code yX8_worked cX8_worked 7 (some .int), Cond.methodLink RX8 116 yX8_joined, Cond.static yX8_joined, Cond.code yX8_joined cX8_joined 3 (some .int), Cond.methodLink RX8 164 yX8_held, Cond.static yX8_held]
def wsL_law_r24 : List Cond := [Cond.code yX8_held cX8_held 3 (some .int), Cond.methodLink RX8 170 yX8_harmTold, Cond.instanceMethod yX8_harmTold, Cond.selects RX8 yX8_harmTold yX8_harmTold, Cond.code yX8_harmTold cX8_harmTold 4 (some .int), Cond.methodLink RL 68 yX7_piece, Cond.instanceMethod yX7_piece, Cond.selects RX7 yX7_piece yX7_piece, Cond.code yX7_piece cX7_piece 3 (some .int), Cond.fieldLink RX7 164 "FromTheMiddle$Row" "pieces" "I", Cond.methodLink RX7 158 yX7_isRow, Cond.instanceMethod yX7_isRow, Cond.selects RX7 yX7_isRow yX7_isRow, Cond.code yX7_isRow cX7_isRow 2 (some .boolean), Cond.methodLink RX7 161 yX7_lay, Cond.instanceMethod yX7_lay, Cond.selects RX7 yX7_lay yX7_lay, Cond.code yX7_lay cX7_lay 3 none, Cond.methodLink RX7 180 yX7_firstPiece, Cond.instanceMethod yX7_firstPiece, Cond.selects RX7 yX7_firstPiece yX7_firstPiece, Cond.code yX7_firstPiece cX7_firstPiece 4 (some .int), Cond.methodLink RX7 171 yX7_rowLength, Cond.instanceMethod yX7_rowLength]
def wsL_law_r25 : List Cond := [Cond.selects RX7 yX7_rowLength yX7_rowLength, Cond.code yX7_rowLength cX7_rowLength 2 (some .int), Cond.methodLink RX7 291 yX4_lay, Cond.instanceMethod yX4_lay, Cond.selects RX4 yX4_lay yX4_lay, Cond.code yX4_lay cX4_lay 5 none, Cond.fieldLink RX4 9 "FromTheMiddle$Row" "first" "I", Cond.fieldLink RX4 15 "FromTheMiddle$Row" "end" "I", Cond.fieldLink RX4 18 "FromTheMiddle$Row" "tile" "I", Cond.fieldLink RX4 21 "FromTheMiddle$Row" "joint" "I", Cond.fieldLink RX4 28 "FromTheMiddle$Row" "pieces" "I", Cond.methodLink RX4 24 yX4_behindFirstAheadOf, Cond.instanceMethod yX4_behindFirstAheadOf, Cond.selects RX4 yX4_behindFirstAheadOf yX4_behindFirstAheadOf, Cond.code yX4_behindFirstAheadOf cX4_behindFirstAheadOf 3 (some .int), Cond.methodLink RX7 168 yX4_width, Cond.instanceMethod yX4_width, Cond.selects RX4 yX4_width yX4_width, Cond.code yX4_width cX4_width 2 (some .int), Cond.methodLink RX4 37 yX4_ending, Cond.instanceMethod yX4_ending, Cond.selects RX4 yX4_ending yX4_ending, Cond.code yX4_ending cX4_ending 2 (some .int), Cond.methodLink RX4 31 Lib.Math.min.name]
def wsL_law_r26 : List Cond := [Cond.methodLink RX4 40 yX4_beginning, Cond.instanceMethod yX4_beginning, Cond.selects RX4 yX4_beginning yX4_beginning, Cond.code yX4_beginning cX4_beginning 2 (some .int), Cond.methodLink RL 71 yX8_piece, Cond.instanceMethod yX8_piece, Cond.selects RX8 yX8_piece yX8_piece, Cond.code yX8_piece cX8_piece 3 (some .int), Cond.fieldLink RX8 126 "FromTheMiddleModel" "pieces" "I", Cond.methodLink RX8 195 yX8_isRow, Cond.instanceMethod yX8_isRow, Cond.selects RX8 yX8_isRow yX8_isRow, Cond.code yX8_isRow cX8_isRow 2 (some .boolean), Cond.methodLink RX8 129 yX8_layRow, Cond.instanceMethod yX8_layRow, Cond.selects RX8 yX8_layRow yX8_layRow, Cond.code yX8_layRow cX8_layRow 5 none, Cond.methodLink RX8 120 yX8_longOf, Cond.instanceMethod yX8_longOf, Cond.selects RX8 yX8_longOf yX8_longOf, Cond.code yX8_longOf cX8_longOf 3 (some .int), Cond.methodLink RX8 123 yX8_firstOf, Cond.instanceMethod yX8_firstOf, Cond.selects RX8 yX8_firstOf yX8_firstOf]
def wsL_law_r27 : List Cond := [Cond.code yX8_firstOf cX8_firstOf 3 (some .int), Cond.methodLink RL 72 yX7_rowIs, Cond.instanceMethod yX7_rowIs, Cond.selects RX7 yX7_rowIs yX7_rowIs, Cond.code yX7_rowIs cX7_rowIs 3 (some .int), Cond.methodLink RX7 174 yX4_cuts, Cond.instanceMethod yX4_cuts, Cond.selects RX4 yX4_cuts yX4_cuts, Cond.code yX4_cuts cX4_cuts 1 (some .int), Cond.methodLink RX4 43 yX4_width, Cond.methodLink RX4 46 yX4_isCut, Cond.instanceMethod yX4_isCut, Cond.selects RX4 yX4_isCut yX4_isCut, Cond.code yX4_isCut cX4_isCut 2 (some .boolean), Cond.methodLink RX4 50 yX4_ofEdges, Cond.instanceMethod yX4_ofEdges, Cond.selects RX4 yX4_ofEdges yX4_ofEdges, Cond.code yX4_ofEdges cX4_ofEdges 3 (some .int), Cond.methodLink RX7 177 yX4_narrowest, Cond.instanceMethod yX4_narrowest, Cond.selects RX4 yX4_narrowest yX4_narrowest, Cond.code yX4_narrowest cX4_narrowest 1 (some .int), Cond.methodLink RL 75 yX8_rowIs, Cond.instanceMethod yX8_rowIs]
def wsL_law_r28 : List Cond := [Cond.selects RX8 yX8_rowIs yX8_rowIs, Cond.code yX8_rowIs cX8_rowIs 3 (some .int), Cond.methodLink RX8 133 yX8_cutsLaid, Cond.instanceMethod yX8_cutsLaid, Cond.selects RX8 yX8_cutsLaid yX8_cutsLaid, Cond.code yX8_cutsLaid cX8_cutsLaid 3 (some .int), Cond.methodLink RX8 136 yX8_narrowestLaid, Cond.instanceMethod yX8_narrowestLaid, Cond.selects RX8 yX8_narrowestLaid yX8_narrowestLaid, Cond.code yX8_narrowestLaid cX8_narrowestLaid 3 (some .int), Cond.methodLink RL 76 yX7_seen, Cond.instanceMethod yX7_seen, Cond.selects RX7 yX7_seen yX7_seen, Cond.code yX7_seen cX7_seen 5 (some .int), Cond.fieldLink RX7 187 "FromTheMiddle$Row" "joints" "I", Cond.fieldLink RX7 190 "FromTheMiddle$Row" "gap" "I", Cond.fieldLink RX7 193 "FromTheMiddle$Row" "touches" "I", Cond.fieldLink RX7 196 "FromTheMiddle$Row" "hides" "I", Cond.methodLink RX7 184 yX7_harmOf, Cond.instanceMethod yX7_harmOf, Cond.selects RX7 yX7_harmOf yX7_harmOf, Cond.code yX7_harmOf cX7_harmOf 4 (some .int), Cond.methodLink RX7 297 yX4_look, Cond.instanceMethod yX4_look]
def wsL_law_r29 : List Cond := [Cond.selects RX4 yX4_look yX4_look, Cond.code yX4_look cX4_look 5 none, Cond.fieldLink RX4 57 "FromTheMiddle$Row" "joints" "I", Cond.fieldLink RX4 63 "FromTheMiddle$Row" "touches" "I", Cond.fieldLink RX4 70 "FromTheMiddle$Row" "hides" "I", Cond.fieldLink RX4 79 "FromTheMiddle$Row" "gap" "I", Cond.methodLink RX4 60 yX4_endingNotBehind, Cond.instanceMethod yX4_endingNotBehind, Cond.selects RX4 yX4_endingNotBehind yX4_endingNotBehind, Cond.code yX4_endingNotBehind cX4_endingNotBehind 2 (some .int), Cond.methodLink RX4 66 yX4_isHidden, Cond.instanceMethod yX4_isHidden, Cond.selects RX4 yX4_isHidden yX4_isHidden, Cond.code yX4_isHidden cX4_isHidden 4 (some .boolean), Cond.methodLink RX4 73 yX4_gapOfBeginnings, Cond.instanceMethod yX4_gapOfBeginnings, Cond.selects RX4 yX4_gapOfBeginnings yX4_gapOfBeginnings, Cond.code yX4_gapOfBeginnings cX4_gapOfBeginnings 4 (some .int), Cond.methodLink RX4 76 yX4_gapOfEndings, Cond.instanceMethod yX4_gapOfEndings, Cond.selects RX4 yX4_gapOfEndings yX4_gapOfEndings, Cond.code yX4_gapOfEndings cX4_gapOfEndings 4 (some .int), Cond.constant RX4 85 (1000000), Cond.methodLink RX7 300 yX7_harms]
def wsL_law_r30 : List Cond := [Cond.static yX7_harms, Cond.code yX7_harms cX7_harms 6 (some .int), Cond.methodLink RL 79 yX8_seen, Cond.instanceMethod yX8_seen, Cond.selects RX8 yX8_seen yX8_seen, Cond.code yX8_seen cX8_seen 6 (some .int), Cond.methodLink RX8 149 yX8_jointsOn, Cond.instanceMethod yX8_jointsOn, Cond.selects RX8 yX8_jointsOn yX8_jointsOn, Cond.code yX8_jointsOn cX8_jointsOn 5 (some .int), Cond.methodLink RX8 152 yX8_gapOn, Cond.instanceMethod yX8_gapOn, Cond.selects RX8 yX8_gapOn yX8_gapOn, Cond.code yX8_gapOn cX8_gapOn 7 (some .int), Cond.methodLink RX8 142 yX8_apart, Cond.static yX8_apart, Cond.code yX8_apart cX8_apart 2 (some .int), Cond.methodLink RX8 155 yX8_touchesOn, Cond.instanceMethod yX8_touchesOn, Cond.selects RX8 yX8_touchesOn yX8_touchesOn, Cond.code yX8_touchesOn cX8_touchesOn 5 (some .int), Cond.methodLink RX8 158 yX8_hidesOn, Cond.instanceMethod yX8_hidesOn, Cond.selects RX8 yX8_hidesOn yX8_hidesOn]
def wsL_law_r31 : List Cond := [Cond.code yX8_hidesOn cX8_hidesOn 5 (some .int), Cond.methodLink RX8 173 yX8_harmOn, Cond.instanceMethod yX8_harmOn, Cond.selects RX8 yX8_harmOn yX8_harmOn, Cond.code yX8_harmOn cX8_harmOn 2 (some .int), Cond.methodLink RX8 167 yX8_harmsOn, Cond.instanceMethod yX8_harmsOn, Cond.selects RX8 yX8_harmsOn yX8_harmsOn, Cond.code yX8_harmsOn cX8_harmsOn 7 (some .int), Cond.methodLink RL 80 yX7_buy, Cond.instanceMethod yX7_buy, Cond.selects RX7 yX7_buy yX7_buy, Cond.code yX7_buy cX7_buy 2 (some .int), Cond.methodLink RX7 199 yX7_tilesToBuy, Cond.instanceMethod yX7_tilesToBuy, Cond.selects RX7 yX7_tilesToBuy yX7_tilesToBuy, Cond.code yX7_tilesToBuy cX7_tilesToBuy 3 (some .int), Cond.methodLink RX7 211 yX7_halves, Cond.instanceMethod yX7_halves, Cond.selects RX7 yX7_halves yX7_halves, Cond.code yX7_halves cX7_halves 3 (some .int), Cond.methodLink RX7 294 yX4_halves, Cond.instanceMethod yX4_halves, Cond.selects RX4 yX4_halves yX4_halves]
def wsL_law_r32 : List Cond := [Cond.code yX4_halves cX4_halves 1 (some .int), Cond.methodLink RX4 54 yX4_isHalf, Cond.instanceMethod yX4_isHalf, Cond.selects RX4 yX4_isHalf yX4_isHalf, Cond.code yX4_isHalf cX4_isHalf 2 (some .boolean), Cond.methodLink RX7 295 yX7_pieces, Cond.instanceMethod yX7_pieces, Cond.selects RX7 yX7_pieces yX7_pieces, Cond.code yX7_pieces cX7_pieces 3 (some .int), Cond.methodLink RX7 205 yX7_cutsBy, Cond.instanceMethod yX7_cutsBy, Cond.selects RX7 yX7_cutsBy yX7_cutsBy, Cond.code yX7_cutsBy cX7_cutsBy 4 (some .int), Cond.methodLink RX7 202 yX7_quotient, Cond.methodLink RX7 208 yX7_narrowestBy, Cond.instanceMethod yX7_narrowestBy, Cond.selects RX7 yX7_narrowestBy yX7_narrowestBy, Cond.code yX7_narrowestBy cX7_narrowestBy 4 (some .int), Cond.methodLink RX7 214 yX7_harmBy, Cond.instanceMethod yX7_harmBy, Cond.selects RX7 yX7_harmBy yX7_harmBy, Cond.code yX7_harmBy cX7_harmBy 5 (some .int), Cond.methodLink RL 83 yX8_buy, Cond.instanceMethod yX8_buy]
def wsL_law_r33 : List Cond := [Cond.selects RX8 yX8_buy yX8_buy, Cond.code yX8_buy cX8_buy 2 (some .int), Cond.methodLink RX8 201 yX8_tiles, Cond.instanceMethod yX8_tiles, Cond.selects RX8 yX8_tiles yX8_tiles, Cond.code yX8_tiles cX8_tiles 4 (some .int), Cond.methodLink RX8 198 yX8_ofAll, Cond.instanceMethod yX8_ofAll, Cond.selects RX8 yX8_ofAll yX8_ofAll, Cond.code yX8_ofAll cX8_ofAll 5 (some .int), Cond.methodLink RX8 139 yX8_halvesLaid, Cond.instanceMethod yX8_halvesLaid, Cond.selects RX8 yX8_halvesLaid yX8_halvesLaid, Cond.code yX8_halvesLaid cX8_halvesLaid 3 (some .int), Cond.methodLink RX8 204 yX8_harmAll, Cond.instanceMethod yX8_harmAll, Cond.selects RX8 yX8_harmAll yX8_harmAll, Cond.code yX8_harmAll cX8_harmAll 4 (some .int), Cond.methodLink RL 84 yX7_loose, Cond.instanceMethod yX7_loose, Cond.selects RX7 yX7_loose yX7_loose, Cond.code yX7_loose cX7_loose 3 (some .int), Cond.methodLink RX7 217 yX7_changeByDraws, Cond.instanceMethod yX7_changeByDraws]
def wsL_law_r34 : List Cond := [Cond.selects RX7 yX7_changeByDraws yX7_changeByDraws, Cond.code yX7_changeByDraws cX7_changeByDraws 2 none, Cond.methodLink RX7 313 yX7_draw, Cond.instanceMethod yX7_draw, Cond.selects RX7 yX7_draw yX7_draw, Cond.code yX7_draw cX7_draw 1 (some .int), Cond.fieldLink RX7 220 "FromTheMiddle$Kept" "z" "I", Cond.constant RX7 312 (1103515245), Cond.methodLink RX7 226 yX7_rest, Cond.methodLink RL 87 yX8_loose, Cond.instanceMethod yX8_loose, Cond.selects RX8 yX8_loose yX8_loose, Cond.code yX8_loose cX8_loose 4 (some .int), Cond.methodLink RX8 208 yX8_draw, Cond.instanceMethod yX8_draw, Cond.selects RX8 yX8_draw yX8_draw, Cond.code yX8_draw cX8_draw 1 (some .int), Cond.constant RX8 207 (1103515245), Cond.methodLink RL 88 yX7_seed, Cond.instanceMethod yX7_seed, Cond.selects RX7 yX7_seed yX7_seed, Cond.code yX7_seed cX7_seed 3 (some .int), Cond.methodLink RL 91 yX8_seed, Cond.instanceMethod yX8_seed]
def wsL_law_r35 : List Cond := [Cond.selects RX8 yX8_seed yX8_seed, Cond.code yX8_seed cX8_seed 2 (some .int), Cond.methodLink RL 92 yX7_best, Cond.instanceMethod yX7_best, Cond.selects RX7 yX7_best yX7_best, Cond.code yX7_best cX7_best 3 (some .int), Cond.methodLink RX7 223 yX7_bestStart, Cond.instanceMethod yX7_bestStart, Cond.selects RX7 yX7_bestStart yX7_bestStart, Cond.code yX7_bestStart cX7_bestStart 7 (some .int), Cond.methodLink RL 95 yX8_best, Cond.instanceMethod yX8_best, Cond.selects RX8 yX8_best yX8_best, Cond.code yX8_best cX8_best 9 (some .int), Cond.methodLink RL 96 yX7_calm, Cond.instanceMethod yX7_calm, Cond.selects RX7 yX7_calm yX7_calm, Cond.code yX7_calm cX7_calm 6 (some .int), Cond.methodLink RL 99 yX8_calm, Cond.instanceMethod yX8_calm, Cond.selects RX8 yX8_calm yX8_calm, Cond.code yX8_calm cX8_calm 7 (some .int), Cond.methodLink RL 100 yX7_cheat, Cond.instanceMethod yX7_cheat]
def wsL_law_r36 : List Cond := [Cond.selects RX7 yX7_cheat yX7_cheat, Cond.code yX7_cheat cX7_cheat 5 (some .int), Cond.methodLink RL 103 yX8_cheat, Cond.instanceMethod yX8_cheat, Cond.selects RX8 yX8_cheat yX8_cheat, Cond.code yX8_cheat cX8_cheat 4 (some .int), Cond.methodLink RL 104 yX7_middle, Cond.instanceMethod yX7_middle, Cond.selects RX7 yX7_middle yX7_middle, Cond.code yX7_middle cX7_middle 4 (some .int), Cond.methodLink RL 107 yX8_middle, Cond.instanceMethod yX8_middle, Cond.selects RX8 yX8_middle yX8_middle, Cond.code yX8_middle cX8_middle 4 (some .int), Cond.methodLink RL 108 yX7_odds, Cond.instanceMethod yX7_odds, Cond.selects RX7 yX7_odds yX7_odds, Cond.code yX7_odds cX7_odds 5 (some .int), Cond.methodLink RX7 229 yX7_commonDivisor, Cond.static yX7_commonDivisor, Cond.code yX7_commonDivisor cX7_commonDivisor 3 (some .int), Cond.methodLink RL 111 yX8_odds, Cond.instanceMethod yX8_odds, Cond.selects RX8 yX8_odds yX8_odds]
def wsL_law_r37 : List Cond := [Cond.code yX8_odds cX8_odds 6 (some .int), Cond.methodLink RX8 211 yX8_divisor, Cond.static yX8_divisor, Cond.code yX8_divisor cX8_divisor 5 (some .int), Cond.methodLink RL 112 yX7_fits, Cond.instanceMethod yX7_fits, Cond.selects RX7 yX7_fits yX7_fits, Cond.code yX7_fits cX7_fits 7 (some .int), Cond.fieldLink RX7 240 "FromTheMiddle$Sheet" "numbers" "LFromTheMiddle$Numbers;", Cond.methodLink RX7 232 yX7_sheetAt, Cond.instanceMethod yX7_sheetAt, Cond.selects RX7 yX7_sheetAt yX7_sheetAt, Cond.code yX7_sheetAt cX7_sheetAt 2 (some (.object "FromTheMiddle$Sheet")), Cond.methodLink RX7 236 yX5_isMissing, Cond.instanceMethod yX5_isMissing, Cond.selects RX5 yX5_isMissing yX5_isMissing, Cond.code yX5_isMissing cX5_isMissing 1 (some .boolean), Cond.fieldLink RX5 20 "FromTheMiddle$Sheet" "bits" "I", Cond.methodLink RX7 243 yX7_rightFromFirst, Cond.instanceMethod yX7_rightFromFirst, Cond.selects RX7 yX7_rightFromFirst yX7_rightFromFirst, Cond.code yX7_rightFromFirst cX7_rightFromFirst 4 (some .int), Cond.methodLink RL 115 yX8_fits, Cond.instanceMethod yX8_fits]
def wsL_law_r38 : List Cond := [Cond.selects RX8 yX8_fits yX8_fits, Cond.code yX8_fits cX8_fits 9 (some .int), Cond.methodLink RX8 214 yX8_lacks, Cond.instanceMethod yX8_lacks, Cond.selects RX8 yX8_lacks yX8_lacks, Cond.code yX8_lacks cX8_lacks 2 (some .int), Cond.methodLink RX8 251 yX8_isSheet, Cond.static yX8_isSheet, Cond.code yX8_isSheet cX8_isSheet 1 (some .boolean), Cond.methodLink RX8 217 yX8_rightOf, Cond.instanceMethod yX8_rightOf, Cond.selects RX8 yX8_rightOf yX8_rightOf, Cond.code yX8_rightOf cX8_rightOf 3 (some .int), Cond.methodLink RL 116 yX7_voice, Cond.instanceMethod yX7_voice, Cond.selects RX7 yX7_voice yX7_voice, Cond.code yX7_voice cX7_voice 5 (some .int), Cond.methodLink RX7 247 yX6_speak, Cond.instanceMethod yX6_speak, Cond.selects RX6 yX6_speak yX6_speak, Cond.code yX6_speak cX6_speak 8 (some .int), Cond.fieldLink RX6 20 "FromTheMiddle$Voices" "kind" "I", Cond.fieldLink RX6 24 "FromTheMiddle$Voices" "number" "I", Cond.fieldLink RX6 27 "FromTheMiddle$Voices" "mark" "I"]
def wsL_law_r39 : List Cond := [Cond.methodLink RX6 30 yX1_clear, Cond.methodLink RX6 33 yX6_bodyOf, Cond.instanceMethod yX6_bodyOf, Cond.selects RX6 yX6_bodyOf yX6_bodyOf, Cond.code yX6_bodyOf cX6_bodyOf 2 (some .int), Cond.methodLink RX6 37 yX6_chained, Cond.instanceMethod yX6_chained, Cond.selects RX6 yX6_chained yX6_chained, Cond.code yX6_chained cX6_chained 7 (some .int), Cond.methodLink RX6 41 yX1_size, Cond.methodLink RX6 45 yX1_add, Cond.methodLink RX6 48 yX6_handedDown, Cond.instanceMethod yX6_handedDown, Cond.selects RX6 yX6_handedDown yX6_handedDown, Cond.code yX6_handedDown cX6_handedDown 3 (some .int), Cond.methodLink RX6 51 yX6_calledBy, Cond.instanceMethod yX6_calledBy, Cond.selects RX6 yX6_calledBy yX6_calledBy, Cond.code yX6_calledBy cX6_calledBy 2 (some .int), Cond.methodLink RX6 54 yX1_get, Cond.methodLink RX6 57 yX6_handedUp, Cond.instanceMethod yX6_handedUp, Cond.selects RX6 yX6_handedUp yX6_handedUp, Cond.code yX6_handedUp cX6_handedUp 3 (some .int)]
def wsL_law_r40 : List Cond := [Cond.methodLink RL 119 yX8_voice, Cond.instanceMethod yX8_voice, Cond.selects RX8 yX8_voice yX8_voice, Cond.code yX8_voice cX8_voice 6 (some .int), Cond.fieldLink RX8 220 "FromTheMiddleModel" "traced" "I", Cond.fieldLink RX8 223 "FromTheMiddleModel" "speaks" "I", Cond.fieldLink RX8 244 "FromTheMiddleModel" "isParted" "Z", Cond.methodLink RX8 232 yX8_kindNow, Cond.instanceMethod yX8_kindNow, Cond.selects RX8 yX8_kindNow yX8_kindNow, Cond.code yX8_kindNow cX8_kindNow 1 (some .int), Cond.methodLink RX8 229 yX8_dripsAs, Cond.instanceMethod yX8_dripsAs, Cond.selects RX8 yX8_dripsAs yX8_dripsAs, Cond.code yX8_dripsAs cX8_dripsAs 3 (some .int), Cond.methodLink RX8 226 yX8_starts, Cond.instanceMethod yX8_starts, Cond.selects RX8 yX8_starts yX8_starts, Cond.code yX8_starts cX8_starts 2 none, Cond.methodLink RX8 235 yX8_scoresAs, Cond.instanceMethod yX8_scoresAs, Cond.selects RX8 yX8_scoresAs yX8_scoresAs, Cond.code yX8_scoresAs cX8_scoresAs 3 (some .int), Cond.methodLink RX8 238 yX8_mNow]
def wsL_law_r41 : List Cond := [Cond.instanceMethod yX8_mNow, Cond.selects RX8 yX8_mNow yX8_mNow, Cond.code yX8_mNow cX8_mNow 1 (some .int), Cond.methodLink RX8 241 yX8_snapsAs, Cond.instanceMethod yX8_snapsAs, Cond.selects RX8 yX8_snapsAs yX8_snapsAs, Cond.code yX8_snapsAs cX8_snapsAs 3 (some .int), Cond.methodLink RX8 248 yX8_partsAs, Cond.instanceMethod yX8_partsAs, Cond.selects RX8 yX8_partsAs yX8_partsAs, Cond.code yX8_partsAs cX8_partsAs 5 (some .int), Cond.methodLink RL 120 yX7_body, Cond.instanceMethod yX7_body, Cond.selects RX7 yX7_body yX7_body, Cond.code yX7_body cX7_body 2 (some .int), Cond.fieldLink RX7 251 "FromTheMiddle$Voices" "trace" "LFromTheMiddle$Numbers;", Cond.methodLink RL 123 yX8_body, Cond.instanceMethod yX8_body, Cond.selects RX8 yX8_body yX8_body, Cond.code yX8_body cX8_body 2 (some .int), Cond.methodLink RL 124 yX7_sheet, Cond.instanceMethod yX7_sheet, Cond.selects RX7 yX7_sheet yX7_sheet, Cond.code yX7_sheet cX7_sheet 5 (some .int)]
def wsL_law_r42 : List Cond := [Cond.fieldLink RX7 257 "FromTheMiddle$Sheet" "bits" "I", Cond.methodLink RL 127 yX8_sheet, Cond.instanceMethod yX8_sheet, Cond.selects RX8 yX8_sheet yX8_sheet, Cond.code yX8_sheet cX8_sheet 5 (some .int), Cond.methodLink RL 128 yX7_put, Cond.instanceMethod yX7_put, Cond.selects RX7 yX7_put yX7_put, Cond.code yX7_put cX7_put 5 (some .int), Cond.methodLink RX7 260 yX5_lowestBits, Cond.instanceMethod yX5_lowestBits, Cond.selects RX5 yX5_lowestBits yX5_lowestBits, Cond.code yX5_lowestBits cX5_lowestBits 2 (some .int), Cond.methodLink RL 131 yX8_put, Cond.instanceMethod yX8_put, Cond.selects RX8 yX8_put yX8_put, Cond.code yX8_put cX8_put 5 (some .int), Cond.methodLink RL 132 yX7_move, Cond.instanceMethod yX7_move, Cond.selects RX7 yX7_move yX7_move, Cond.code yX7_move cX7_move 8 (some .int), Cond.methodLink RX7 263 yX1_stretches, Cond.methodLink RX7 266 yX1_take, Cond.methodLink RL 136 yX8_move]
def wsL_law_r43 : List Cond := [Cond.instanceMethod yX8_move, Cond.selects RX8 yX8_move yX8_move, Cond.code yX8_move cX8_move 7 (some .int), Cond.methodLink RL 137 yX7_places, Cond.instanceMethod yX7_places, Cond.selects RX7 yX7_places yX7_places, Cond.code yX7_places cX7_places 5 (some .int), Cond.methodLink RL 140 yX8_places, Cond.instanceMethod yX8_places, Cond.selects RX8 yX8_places yX8_places, Cond.code yX8_places cX8_places 4 (some .int), Cond.methodLink RL 141 yX7_judge, Cond.instanceMethod yX7_judge, Cond.selects RX7 yX7_judge yX7_judge, Cond.code yX7_judge cX7_judge 3 (some .int), Cond.methodLink RL 144 yX8_judge, Cond.instanceMethod yX8_judge, Cond.selects RX8 yX8_judge yX8_judge, Cond.code yX8_judge cX8_judge 3 (some .int), Cond.methodLink RL 145 yX7_image, Cond.instanceMethod yX7_image, Cond.selects RX7 yX7_image yX7_image, Cond.code yX7_image cX7_image 1 (some .int), Cond.fieldLink RX7 278 "FromTheMiddle" "images" "I"]
def wsL_law_r44 : List Cond := [Cond.methodLink RX7 275 yX0_copy, Cond.instanceMethod yX0_copy, Cond.selects RX0 yX0_copy yX0_copy, Cond.code yX0_copy cX0_copy 2 none, Cond.methodLink RX0 51 yX1_copy, Cond.methodLink RL 149 yX8_image, Cond.instanceMethod yX8_image, Cond.selects RX8 yX8_image yX8_image, Cond.code yX8_image cX8_image 1 (some .int), Cond.fieldLink RX8 258 "FromTheMiddleModel" "images" "I", Cond.methodLink RX8 254 yX8_copyAll, Cond.static yX8_copyAll, Cond.code yX8_copyAll cX8_copyAll 3 none, Cond.methodLink RL 150 yX7_restore, Cond.instanceMethod yX7_restore, Cond.selects RX7 yX7_restore yX7_restore, Cond.code yX7_restore cX7_restore 1 (some .int), Cond.methodLink RL 153 yX8_restore, Cond.instanceMethod yX8_restore, Cond.selects RX8 yX8_restore yX8_restore, Cond.code yX8_restore cX8_restore 1 (some .int), Cond.methodLink RL 154 yX7_tell, Cond.instanceMethod yX7_tell, Cond.selects RX7 yX7_tell yX7_tell]
def wsL_law_r45 : List Cond := [Cond.code yX7_tell cX7_tell 2 (some .int), Cond.fieldLink RX7 281 "FromTheMiddle$Kept" "waits" "LFromTheMiddle$Numbers;", Cond.methodLink RL 157 yX8_tell, Cond.instanceMethod yX8_tell, Cond.selects RX8 yX8_tell yX8_tell, Cond.code yX8_tell cX8_tell 2 (some .int), Cond.methodLink RL 158 yX7_check, Cond.instanceMethod yX7_check, Cond.selects RX7 yX7_check yX7_check, Cond.code yX7_check cX7_check 4 (some .int), Cond.methodLink RL 161 yX8_check, Cond.instanceMethod yX8_check, Cond.selects RX8 yX8_check yX8_check, Cond.code yX8_check cX8_check 3 (some .int), Cond.methodLink RL 162 yX7_count, Cond.instanceMethod yX7_count, Cond.selects RX7 yX7_count yX7_count, Cond.code yX7_count cX7_count 2 (some .int), Cond.methodLink RL 165 yX8_count, Cond.instanceMethod yX8_count, Cond.selects RX8 yX8_count yX8_count, Cond.code yX8_count cX8_count 2 (some .int), Cond.methodLink RL 166 yX7_told, Cond.instanceMethod yX7_told]
def wsL_law_r46 : List Cond := [Cond.selects RX7 yX7_told yX7_told, Cond.code yX7_told cX7_told 2 (some .int), Cond.methodLink RL 169 yX8_told, Cond.instanceMethod yX8_told, Cond.selects RX8 yX8_told yX8_told, Cond.code yX8_told cX8_told 2 (some .int)]
def wsL_law : List Cond := (wsL_law_r1 ++ (wsL_law_r2 ++ (wsL_law_r3 ++ (wsL_law_r4 ++ (wsL_law_r5 ++ (wsL_law_r6 ++ (wsL_law_r7 ++ (wsL_law_r8 ++ (wsL_law_r9 ++ (wsL_law_r10 ++ (wsL_law_r11 ++ (wsL_law_r12 ++ (wsL_law_r13 ++ (wsL_law_r14 ++ (wsL_law_r15 ++ (wsL_law_r16 ++ (wsL_law_r17 ++ (wsL_law_r18 ++ (wsL_law_r19 ++ (wsL_law_r20 ++ (wsL_law_r21 ++ (wsL_law_r22 ++ (wsL_law_r23 ++ (wsL_law_r24 ++ (wsL_law_r25 ++ (wsL_law_r26 ++ (wsL_law_r27 ++ (wsL_law_r28 ++ (wsL_law_r29 ++ (wsL_law_r30 ++ (wsL_law_r31 ++ (wsL_law_r32 ++ (wsL_law_r33 ++ (wsL_law_r34 ++ (wsL_law_r35 ++ (wsL_law_r36 ++ (wsL_law_r37 ++ (wsL_law_r38 ++ (wsL_law_r39 ++ (wsL_law_r40 ++ (wsL_law_r41 ++ (wsL_law_r42 ++ (wsL_law_r43 ++ (wsL_law_r44 ++ (wsL_law_r45 ++ wsL_law_r46))))))))))))))))))))))))))))))))))))))))))))) ++ wsX70 ++ wsX80 ++ wsX00 ++ wsX10 ++ wsX50 ++ wsX40 ++ wsX20 ++ wsX30 ++ wsX60 ++ ([] : List Cond)
set_option maxRecDepth 20000 in
theorem wsL_law_in : ∀ w ∈ wsL_law, w ∈ lw_tbl := fun w h => (goodIn_p wsL_law [105, 108, 113, 119, 123, 135, 182, 199, 238, 263, 275, 296, 299, 897, 331, 339, 343, 347, 352, 1040, 978, 982, 1044, 356, 1048, 360, 1052, 364, 367, 370, 374, 379, 1056, 1059, 1063, 383, 387, 391, 1067, 1071, 1075, 395, 1079, 399, 402, 405, 1083, 1086, 409, 1090, 413, 975, 417, 420, 426, 430, 436, 440, 444, 448, 452, 458, 462, 465, 468, 473, 476, 482, 485, 488, 491, 496, 499, 502, 511, 514, 517, 521, 526, 530, 534, 538, 542, 545, 550, 554, 559, 563, 988, 992, 1016, 1024, 996, 1000, 1012, 1020, 1028, 1008, 1004, 571, 1032, 1036, 575, 579, 583, 591, 595, 598, 601, 604, 1094, 1098, 1102, 1105, 1108, 1112, 610, 614, 618, 622, 626, 630, 634, 639, 643, 648, 1116, 1120, 1124, 1128, 1132, 652, 656, 661, 665, 669, 1136, 1140, 1144, 673, 677, 681, 685, 689, 693, 697, 701, 1148, 1152, 1156, 1159, 1163, 1167, 1171, 1175, 705, 709, 713, 717, 721, 725, 729, 734, 738, 1179, 1183, 1187, 1191, 1195, 742, 746, 750, 1199, 1203, 756, 1208, 760, 764, 1212, 768, 1216, 772, 1220, 776, 1224, 780, 783, 1228, 1231, 787, 791, 795, 799, 1235, 1239, 1242, 1246, 803, 807, 812, 817, 823, 828, 833, 1250, 1254, 1258, 1262, 1266, 1270, 1274, 1278, 837, 1282, 841, 1286, 845, 849, 1290, 853, 1294, 859, 1298, 863, 1302, 867, 871, 1306, 1309, 876, 1313, 880, 1317, 884, 1321, 888, 1325, 892, 1329] (by decide +kernel) (by decide +kernel) w h).1
theorem inlX0 : ∀ w ∈ wsX00, w ∈ wsL_law := fun _ h => List.mem_append_left _ (List.mem_append_left _ (List.mem_append_left _ (List.mem_append_left _ (List.mem_append_left _ (List.mem_append_left _ (List.mem_append_left _ (List.mem_append_right _ h)))))))
theorem inX0 : ∀ w ∈ wsX00, w ∈ lw_tbl := fun w h => wsL_law_in w (inlX0 w h)
theorem inlX1 : ∀ w ∈ wsX10, w ∈ wsL_law := fun _ h => List.mem_append_left _ (List.mem_append_left _ (List.mem_append_left _ (List.mem_append_left _ (List.mem_append_left _ (List.mem_append_left _ (List.mem_append_right _ h))))))
theorem inX1 : ∀ w ∈ wsX10, w ∈ lw_tbl := fun w h => wsL_law_in w (inlX1 w h)
theorem inlX2 : ∀ w ∈ wsX20, w ∈ wsL_law := fun _ h => List.mem_append_left _ (List.mem_append_left _ (List.mem_append_left _ (List.mem_append_right _ h)))
theorem inX2 : ∀ w ∈ wsX20, w ∈ lw_tbl := fun w h => wsL_law_in w (inlX2 w h)
theorem inlX3 : ∀ w ∈ wsX30, w ∈ wsL_law := fun _ h => List.mem_append_left _ (List.mem_append_left _ (List.mem_append_right _ h))
theorem inX3 : ∀ w ∈ wsX30, w ∈ lw_tbl := fun w h => wsL_law_in w (inlX3 w h)
theorem inlX4 : ∀ w ∈ wsX40, w ∈ wsL_law := fun _ h => List.mem_append_left _ (List.mem_append_left _ (List.mem_append_left _ (List.mem_append_left _ (List.mem_append_right _ h))))
theorem inX4 : ∀ w ∈ wsX40, w ∈ lw_tbl := fun w h => wsL_law_in w (inlX4 w h)
theorem inlX5 : ∀ w ∈ wsX50, w ∈ wsL_law := fun _ h => List.mem_append_left _ (List.mem_append_left _ (List.mem_append_left _ (List.mem_append_left _ (List.mem_append_left _ (List.mem_append_right _ h)))))
theorem inX5 : ∀ w ∈ wsX50, w ∈ lw_tbl := fun w h => wsL_law_in w (inlX5 w h)
theorem inlX6 : ∀ w ∈ wsX60, w ∈ wsL_law := fun _ h => List.mem_append_left _ (List.mem_append_right _ h)
theorem inX6 : ∀ w ∈ wsX60, w ∈ lw_tbl := fun w h => wsL_law_in w (inlX6 w h)
theorem inlX7 : ∀ w ∈ wsX70, w ∈ wsL_law := fun _ h => List.mem_append_left _ (List.mem_append_left _ (List.mem_append_left _ (List.mem_append_left _ (List.mem_append_left _ (List.mem_append_left _ (List.mem_append_left _ (List.mem_append_left _ (List.mem_append_left _ (List.mem_append_right _ h)))))))))
theorem inX7 : ∀ w ∈ wsX70, w ∈ lw_tbl := fun w h => wsL_law_in w (inlX7 w h)
theorem inlX8 : ∀ w ∈ wsX80, w ∈ wsL_law := fun _ h => List.mem_append_left _ (List.mem_append_left _ (List.mem_append_left _ (List.mem_append_left _ (List.mem_append_left _ (List.mem_append_left _ (List.mem_append_left _ (List.mem_append_left _ (List.mem_append_right _ h))))))))
theorem inX8 : ∀ w ∈ wsX80, w ∈ lw_tbl := fun w h => wsL_law_in w (inlX8 w h)
abbrev vwCl : List vw_C := [(RX0, TX0, 10), (RX1, TX1, 2), (RX2, TX2, 5), (RX3, TX3, 1), (RX4, TX4, 9), (RX5, TX5, 2), (RX6, TX6, 4), (RX7, TX7, 9), (RX8, TX8, 24)]
