section
-- ===== PART A: goes FIRST, ahead of the names: the tables' words, and 'selects' of the private methods out of them =====
/-- a private method of a class that the tables say can be made, by its rows of tables_1 -/
def lw_okq (q : MethodName × Nat) : Prop := (q.1.cls ≠ "java/lang/invoke/MethodHandle" ∧ q.1.cls ≠ "java/lang/invoke/VarHandle") ∧ Cond.instantiable q.1.cls q.2 ∈ tables_1 ∧ Cond.privateMethod q.1 ∈ tables_1 ∧ Cond.instanceMethod q.1 ∈ tables_1
theorem lw_p0 : lw_okq (⟨"FromTheMiddle", "error", "(I)I"⟩, 9) := ⟨⟨by decide +kernel, by decide +kernel⟩, List.mem_of_getElem? (i := 18) (by decide +kernel), List.mem_of_getElem? (i := 253) (by decide +kernel), List.mem_of_getElem? (i := 254) (by decide +kernel)⟩
theorem lw_p1 : lw_okq (⟨"FromTheMiddle", "is", "(I)I"⟩, 9) := ⟨⟨by decide +kernel, by decide +kernel⟩, List.mem_of_getElem? (i := 18) (by decide +kernel), List.mem_of_getElem? (i := 266) (by decide +kernel), List.mem_of_getElem? (i := 267) (by decide +kernel)⟩
theorem lw_p2 : lw_okq (⟨"FromTheMiddle", "isThing", "(I)Z"⟩, 9) := ⟨⟨by decide +kernel, by decide +kernel⟩, List.mem_of_getElem? (i := 18) (by decide +kernel), List.mem_of_getElem? (i := 301) (by decide +kernel), List.mem_of_getElem? (i := 302) (by decide +kernel)⟩
theorem lw_p3 : lw_okq (⟨"FromTheMiddle$Reader", "beginOperand", "(ILjava/lang/String;)Z"⟩, 5) := ⟨⟨by decide +kernel, by decide +kernel⟩, List.mem_of_getElem? (i := 151) (by decide +kernel), List.mem_of_getElem? (i := 350) (by decide +kernel), List.mem_of_getElem? (i := 351) (by decide +kernel)⟩
theorem lw_p4 : lw_okq (⟨"FromTheMiddle$Reader", "goOn", "(I)Z"⟩, 5) := ⟨⟨by decide +kernel, by decide +kernel⟩, List.mem_of_getElem? (i := 151) (by decide +kernel), List.mem_of_getElem? (i := 440) (by decide +kernel), List.mem_of_getElem? (i := 441) (by decide +kernel)⟩
theorem lw_p5 : lw_okq (⟨"FromTheMiddle$Reader", "addDigit", "(I)Z"⟩, 5) := ⟨⟨by decide +kernel, by decide +kernel⟩, List.mem_of_getElem? (i := 151) (by decide +kernel), List.mem_of_getElem? (i := 444) (by decide +kernel), List.mem_of_getElem? (i := 445) (by decide +kernel)⟩
theorem lw_p6 : lw_okq (⟨"FromTheMiddle$Reader", "close", "()Z"⟩, 5) := ⟨⟨by decide +kernel, by decide +kernel⟩, List.mem_of_getElem? (i := 151) (by decide +kernel), List.mem_of_getElem? (i := 452) (by decide +kernel), List.mem_of_getElem? (i := 453) (by decide +kernel)⟩
theorem lw_p7 : lw_okq (⟨"FromTheMiddle$Reader", "settle", "(I)V"⟩, 5) := ⟨⟨by decide +kernel, by decide +kernel⟩, List.mem_of_getElem? (i := 151) (by decide +kernel), List.mem_of_getElem? (i := 456) (by decide +kernel), List.mem_of_getElem? (i := 457) (by decide +kernel)⟩
theorem lw_p8 : lw_okq (⟨"FromTheMiddle", "ruled", "(IIII)I"⟩, 9) := ⟨⟨by decide +kernel, by decide +kernel⟩, List.mem_of_getElem? (i := 18) (by decide +kernel), List.mem_of_getElem? (i := 493) (by decide +kernel), List.mem_of_getElem? (i := 494) (by decide +kernel)⟩
theorem lw_p9 : lw_okq (⟨"FromTheMiddle$Reckoner", "joined", "(I)I"⟩, 1) := ⟨⟨by decide +kernel, by decide +kernel⟩, List.mem_of_getElem? (i := 176) (by decide +kernel), List.mem_of_getElem? (i := 509) (by decide +kernel), List.mem_of_getElem? (i := 510) (by decide +kernel)⟩
theorem lw_p10 : lw_okq (⟨"FromTheMiddle", "isRow", "(I)Z"⟩, 9) := ⟨⟨by decide +kernel, by decide +kernel⟩, List.mem_of_getElem? (i := 18) (by decide +kernel), List.mem_of_getElem? (i := 528) (by decide +kernel), List.mem_of_getElem? (i := 529) (by decide +kernel)⟩
theorem lw_p11 : lw_okq (⟨"FromTheMiddle", "lay", "(II)V"⟩, 9) := ⟨⟨by decide +kernel, by decide +kernel⟩, List.mem_of_getElem? (i := 18) (by decide +kernel), List.mem_of_getElem? (i := 532) (by decide +kernel), List.mem_of_getElem? (i := 533) (by decide +kernel)⟩
theorem lw_p12 : lw_okq (⟨"FromTheMiddle", "firstPiece", "(II)I"⟩, 9) := ⟨⟨by decide +kernel, by decide +kernel⟩, List.mem_of_getElem? (i := 18) (by decide +kernel), List.mem_of_getElem? (i := 536) (by decide +kernel), List.mem_of_getElem? (i := 537) (by decide +kernel)⟩
theorem lw_p13 : lw_okq (⟨"FromTheMiddle", "rowLength", "(I)I"⟩, 9) := ⟨⟨by decide +kernel, by decide +kernel⟩, List.mem_of_getElem? (i := 18) (by decide +kernel), List.mem_of_getElem? (i := 540) (by decide +kernel), List.mem_of_getElem? (i := 541) (by decide +kernel)⟩
theorem lw_p14 : lw_okq (⟨"FromTheMiddle$Row", "behindFirstAheadOf", "(I)I"⟩, 9) := ⟨⟨by decide +kernel, by decide +kernel⟩, List.mem_of_getElem? (i := 112) (by decide +kernel), List.mem_of_getElem? (i := 548) (by decide +kernel), List.mem_of_getElem? (i := 549) (by decide +kernel)⟩
theorem lw_p15 : lw_okq (⟨"FromTheMiddle$Row", "isCut", "(I)Z"⟩, 9) := ⟨⟨by decide +kernel, by decide +kernel⟩, List.mem_of_getElem? (i := 112) (by decide +kernel), List.mem_of_getElem? (i := 575) (by decide +kernel), List.mem_of_getElem? (i := 576) (by decide +kernel)⟩
def lw_privs_1 : List (MethodName × Nat) := [(⟨"FromTheMiddle", "error", "(I)I"⟩, 9), (⟨"FromTheMiddle", "is", "(I)I"⟩, 9), (⟨"FromTheMiddle", "isThing", "(I)Z"⟩, 9), (⟨"FromTheMiddle$Reader", "beginOperand", "(ILjava/lang/String;)Z"⟩, 5), (⟨"FromTheMiddle$Reader", "goOn", "(I)Z"⟩, 5), (⟨"FromTheMiddle$Reader", "addDigit", "(I)Z"⟩, 5), (⟨"FromTheMiddle$Reader", "close", "()Z"⟩, 5), (⟨"FromTheMiddle$Reader", "settle", "(I)V"⟩, 5), (⟨"FromTheMiddle", "ruled", "(IIII)I"⟩, 9), (⟨"FromTheMiddle$Reckoner", "joined", "(I)I"⟩, 1), (⟨"FromTheMiddle", "isRow", "(I)Z"⟩, 9), (⟨"FromTheMiddle", "lay", "(II)V"⟩, 9), (⟨"FromTheMiddle", "firstPiece", "(II)I"⟩, 9), (⟨"FromTheMiddle", "rowLength", "(I)I"⟩, 9), (⟨"FromTheMiddle$Row", "behindFirstAheadOf", "(I)I"⟩, 9), (⟨"FromTheMiddle$Row", "isCut", "(I)Z"⟩, 9)]
theorem lw_r1 : ∀ q ∈ lw_privs_1, lw_okq q := List.forall_mem_cons.mpr ⟨lw_p0, List.forall_mem_cons.mpr ⟨lw_p1, List.forall_mem_cons.mpr ⟨lw_p2, List.forall_mem_cons.mpr ⟨lw_p3, List.forall_mem_cons.mpr ⟨lw_p4, List.forall_mem_cons.mpr ⟨lw_p5, List.forall_mem_cons.mpr ⟨lw_p6, List.forall_mem_cons.mpr ⟨lw_p7, List.forall_mem_cons.mpr ⟨lw_p8, List.forall_mem_cons.mpr ⟨lw_p9, List.forall_mem_cons.mpr ⟨lw_p10, List.forall_mem_cons.mpr ⟨lw_p11, List.forall_mem_cons.mpr ⟨lw_p12, List.forall_mem_cons.mpr ⟨lw_p13, List.forall_mem_cons.mpr ⟨lw_p14, List.forall_mem_cons.mpr ⟨lw_p15, fun _ h => absurd h List.not_mem_nil⟩⟩⟩⟩⟩⟩⟩⟩⟩⟩⟩⟩⟩⟩⟩⟩
theorem lw_p16 : lw_okq (⟨"FromTheMiddle$Row", "ofEdges", "(ZZ)I"⟩, 9) := ⟨⟨by decide +kernel, by decide +kernel⟩, List.mem_of_getElem? (i := 112) (by decide +kernel), List.mem_of_getElem? (i := 579) (by decide +kernel), List.mem_of_getElem? (i := 580) (by decide +kernel)⟩
theorem lw_p17 : lw_okq (⟨"FromTheMiddle", "harmOf", "(I)I"⟩, 9) := ⟨⟨by decide +kernel, by decide +kernel⟩, List.mem_of_getElem? (i := 18) (by decide +kernel), List.mem_of_getElem? (i := 591) (by decide +kernel), List.mem_of_getElem? (i := 592) (by decide +kernel)⟩
theorem lw_p18 : lw_okq (⟨"FromTheMiddle$Row", "endingNotBehind", "(I)I"⟩, 9) := ⟨⟨by decide +kernel, by decide +kernel⟩, List.mem_of_getElem? (i := 112) (by decide +kernel), List.mem_of_getElem? (i := 599) (by decide +kernel), List.mem_of_getElem? (i := 600) (by decide +kernel)⟩
theorem lw_p19 : lw_okq (⟨"FromTheMiddle$Row", "isHidden", "(III)Z"⟩, 9) := ⟨⟨by decide +kernel, by decide +kernel⟩, List.mem_of_getElem? (i := 112) (by decide +kernel), List.mem_of_getElem? (i := 603) (by decide +kernel), List.mem_of_getElem? (i := 604) (by decide +kernel)⟩
theorem lw_p20 : lw_okq (⟨"FromTheMiddle$Row", "gapOfBeginnings", "(II)I"⟩, 9) := ⟨⟨by decide +kernel, by decide +kernel⟩, List.mem_of_getElem? (i := 112) (by decide +kernel), List.mem_of_getElem? (i := 607) (by decide +kernel), List.mem_of_getElem? (i := 608) (by decide +kernel)⟩
theorem lw_p21 : lw_okq (⟨"FromTheMiddle$Row", "gapOfEndings", "(II)I"⟩, 9) := ⟨⟨by decide +kernel, by decide +kernel⟩, List.mem_of_getElem? (i := 112) (by decide +kernel), List.mem_of_getElem? (i := 611) (by decide +kernel), List.mem_of_getElem? (i := 612) (by decide +kernel)⟩
theorem lw_p22 : lw_okq (⟨"FromTheMiddle", "tilesToBuy", "()I"⟩, 9) := ⟨⟨by decide +kernel, by decide +kernel⟩, List.mem_of_getElem? (i := 18) (by decide +kernel), List.mem_of_getElem? (i := 623) (by decide +kernel), List.mem_of_getElem? (i := 624) (by decide +kernel)⟩
theorem lw_p23 : lw_okq (⟨"FromTheMiddle", "halves", "()I"⟩, 9) := ⟨⟨by decide +kernel, by decide +kernel⟩, List.mem_of_getElem? (i := 18) (by decide +kernel), List.mem_of_getElem? (i := 627) (by decide +kernel), List.mem_of_getElem? (i := 628) (by decide +kernel)⟩
theorem lw_p24 : lw_okq (⟨"FromTheMiddle$Row", "isHalf", "(I)Z"⟩, 9) := ⟨⟨by decide +kernel, by decide +kernel⟩, List.mem_of_getElem? (i := 112) (by decide +kernel), List.mem_of_getElem? (i := 635) (by decide +kernel), List.mem_of_getElem? (i := 636) (by decide +kernel)⟩
theorem lw_p25 : lw_okq (⟨"FromTheMiddle", "pieces", "()I"⟩, 9) := ⟨⟨by decide +kernel, by decide +kernel⟩, List.mem_of_getElem? (i := 18) (by decide +kernel), List.mem_of_getElem? (i := 639) (by decide +kernel), List.mem_of_getElem? (i := 640) (by decide +kernel)⟩
theorem lw_p26 : lw_okq (⟨"FromTheMiddle", "cutsBy", "(I)I"⟩, 9) := ⟨⟨by decide +kernel, by decide +kernel⟩, List.mem_of_getElem? (i := 18) (by decide +kernel), List.mem_of_getElem? (i := 643) (by decide +kernel), List.mem_of_getElem? (i := 644) (by decide +kernel)⟩
theorem lw_p27 : lw_okq (⟨"FromTheMiddle", "narrowestBy", "(I)I"⟩, 9) := ⟨⟨by decide +kernel, by decide +kernel⟩, List.mem_of_getElem? (i := 18) (by decide +kernel), List.mem_of_getElem? (i := 648) (by decide +kernel), List.mem_of_getElem? (i := 649) (by decide +kernel)⟩
theorem lw_p28 : lw_okq (⟨"FromTheMiddle", "harmBy", "(I)I"⟩, 9) := ⟨⟨by decide +kernel, by decide +kernel⟩, List.mem_of_getElem? (i := 18) (by decide +kernel), List.mem_of_getElem? (i := 652) (by decide +kernel), List.mem_of_getElem? (i := 653) (by decide +kernel)⟩
theorem lw_p29 : lw_okq (⟨"FromTheMiddle", "changeByDraws", "()V"⟩, 9) := ⟨⟨by decide +kernel, by decide +kernel⟩, List.mem_of_getElem? (i := 18) (by decide +kernel), List.mem_of_getElem? (i := 660) (by decide +kernel), List.mem_of_getElem? (i := 661) (by decide +kernel)⟩
theorem lw_p30 : lw_okq (⟨"FromTheMiddle", "draw", "()I"⟩, 9) := ⟨⟨by decide +kernel, by decide +kernel⟩, List.mem_of_getElem? (i := 18) (by decide +kernel), List.mem_of_getElem? (i := 664) (by decide +kernel), List.mem_of_getElem? (i := 665) (by decide +kernel)⟩
theorem lw_p31 : lw_okq (⟨"FromTheMiddle", "bestStart", "()I"⟩, 9) := ⟨⟨by decide +kernel, by decide +kernel⟩, List.mem_of_getElem? (i := 18) (by decide +kernel), List.mem_of_getElem? (i := 678) (by decide +kernel), List.mem_of_getElem? (i := 679) (by decide +kernel)⟩
def lw_privs_2 : List (MethodName × Nat) := [(⟨"FromTheMiddle$Row", "ofEdges", "(ZZ)I"⟩, 9), (⟨"FromTheMiddle", "harmOf", "(I)I"⟩, 9), (⟨"FromTheMiddle$Row", "endingNotBehind", "(I)I"⟩, 9), (⟨"FromTheMiddle$Row", "isHidden", "(III)Z"⟩, 9), (⟨"FromTheMiddle$Row", "gapOfBeginnings", "(II)I"⟩, 9), (⟨"FromTheMiddle$Row", "gapOfEndings", "(II)I"⟩, 9), (⟨"FromTheMiddle", "tilesToBuy", "()I"⟩, 9), (⟨"FromTheMiddle", "halves", "()I"⟩, 9), (⟨"FromTheMiddle$Row", "isHalf", "(I)Z"⟩, 9), (⟨"FromTheMiddle", "pieces", "()I"⟩, 9), (⟨"FromTheMiddle", "cutsBy", "(I)I"⟩, 9), (⟨"FromTheMiddle", "narrowestBy", "(I)I"⟩, 9), (⟨"FromTheMiddle", "harmBy", "(I)I"⟩, 9), (⟨"FromTheMiddle", "changeByDraws", "()V"⟩, 9), (⟨"FromTheMiddle", "draw", "()I"⟩, 9), (⟨"FromTheMiddle", "bestStart", "()I"⟩, 9)]
theorem lw_r2 : ∀ q ∈ lw_privs_2, lw_okq q := List.forall_mem_cons.mpr ⟨lw_p16, List.forall_mem_cons.mpr ⟨lw_p17, List.forall_mem_cons.mpr ⟨lw_p18, List.forall_mem_cons.mpr ⟨lw_p19, List.forall_mem_cons.mpr ⟨lw_p20, List.forall_mem_cons.mpr ⟨lw_p21, List.forall_mem_cons.mpr ⟨lw_p22, List.forall_mem_cons.mpr ⟨lw_p23, List.forall_mem_cons.mpr ⟨lw_p24, List.forall_mem_cons.mpr ⟨lw_p25, List.forall_mem_cons.mpr ⟨lw_p26, List.forall_mem_cons.mpr ⟨lw_p27, List.forall_mem_cons.mpr ⟨lw_p28, List.forall_mem_cons.mpr ⟨lw_p29, List.forall_mem_cons.mpr ⟨lw_p30, List.forall_mem_cons.mpr ⟨lw_p31, fun _ h => absurd h List.not_mem_nil⟩⟩⟩⟩⟩⟩⟩⟩⟩⟩⟩⟩⟩⟩⟩⟩
theorem lw_p32 : lw_okq (⟨"FromTheMiddle", "sheetAt", "(I)LFromTheMiddle$Sheet;"⟩, 9) := ⟨⟨by decide +kernel, by decide +kernel⟩, List.mem_of_getElem? (i := 18) (by decide +kernel), List.mem_of_getElem? (i := 705) (by decide +kernel), List.mem_of_getElem? (i := 706) (by decide +kernel)⟩
theorem lw_p33 : lw_okq (⟨"FromTheMiddle", "rightFromFirst", "(LFromTheMiddle$Numbers;)I"⟩, 9) := ⟨⟨by decide +kernel, by decide +kernel⟩, List.mem_of_getElem? (i := 18) (by decide +kernel), List.mem_of_getElem? (i := 713) (by decide +kernel), List.mem_of_getElem? (i := 714) (by decide +kernel)⟩
theorem lw_p34 : lw_okq (⟨"FromTheMiddle$Voices", "bodyOf", "(I)I"⟩, 4) := ⟨⟨by decide +kernel, by decide +kernel⟩, List.mem_of_getElem? (i := 188) (by decide +kernel), List.mem_of_getElem? (i := 726) (by decide +kernel), List.mem_of_getElem? (i := 727) (by decide +kernel)⟩
theorem lw_p35 : lw_okq (⟨"FromTheMiddle$Voices", "chained", "(II)I"⟩, 4) := ⟨⟨by decide +kernel, by decide +kernel⟩, List.mem_of_getElem? (i := 188) (by decide +kernel), List.mem_of_getElem? (i := 731) (by decide +kernel), List.mem_of_getElem? (i := 732) (by decide +kernel)⟩
theorem lw_p36 : lw_okq (⟨"FromTheMiddle$Voices", "handedDown", "(II)I"⟩, 4) := ⟨⟨by decide +kernel, by decide +kernel⟩, List.mem_of_getElem? (i := 188) (by decide +kernel), List.mem_of_getElem? (i := 737) (by decide +kernel), List.mem_of_getElem? (i := 738) (by decide +kernel)⟩
theorem lw_p37 : lw_okq (⟨"FromTheMiddle$Voices", "calledBy", "(I)I"⟩, 4) := ⟨⟨by decide +kernel, by decide +kernel⟩, List.mem_of_getElem? (i := 188) (by decide +kernel), List.mem_of_getElem? (i := 742) (by decide +kernel), List.mem_of_getElem? (i := 743) (by decide +kernel)⟩
theorem lw_p38 : lw_okq (⟨"FromTheMiddle$Voices", "handedUp", "(II)I"⟩, 4) := ⟨⟨by decide +kernel, by decide +kernel⟩, List.mem_of_getElem? (i := 188) (by decide +kernel), List.mem_of_getElem? (i := 747) (by decide +kernel), List.mem_of_getElem? (i := 748) (by decide +kernel)⟩
theorem lw_p39 : lw_okq (⟨"FromTheMiddleModel", "error", "(I)I"⟩, 24) := ⟨⟨by decide +kernel, by decide +kernel⟩, List.mem_of_getElem? (i := 810) (by decide +kernel), List.mem_of_getElem? (i := 896) (by decide +kernel), List.mem_of_getElem? (i := 897) (by decide +kernel)⟩
theorem lw_p40 : lw_okq (⟨"FromTheMiddleModel", "whole", "()Z"⟩, 24) := ⟨⟨by decide +kernel, by decide +kernel⟩, List.mem_of_getElem? (i := 810) (by decide +kernel), List.mem_of_getElem? (i := 906) (by decide +kernel), List.mem_of_getElem? (i := 907) (by decide +kernel)⟩
theorem lw_p41 : lw_okq (⟨"FromTheMiddleModel", "both", "()Z"⟩, 24) := ⟨⟨by decide +kernel, by decide +kernel⟩, List.mem_of_getElem? (i := 810) (by decide +kernel), List.mem_of_getElem? (i := 910) (by decide +kernel), List.mem_of_getElem? (i := 911) (by decide +kernel)⟩
theorem lw_p42 : lw_okq (⟨"FromTheMiddleModel", "compared", "()Z"⟩, 24) := ⟨⟨by decide +kernel, by decide +kernel⟩, List.mem_of_getElem? (i := 810) (by decide +kernel), List.mem_of_getElem? (i := 914) (by decide +kernel), List.mem_of_getElem? (i := 915) (by decide +kernel)⟩
theorem lw_p43 : lw_okq (⟨"FromTheMiddleModel", "sum", "()Z"⟩, 24) := ⟨⟨by decide +kernel, by decide +kernel⟩, List.mem_of_getElem? (i := 810) (by decide +kernel), List.mem_of_getElem? (i := 918) (by decide +kernel), List.mem_of_getElem? (i := 919) (by decide +kernel)⟩
theorem lw_p44 : lw_okq (⟨"FromTheMiddleModel", "product", "()Z"⟩, 24) := ⟨⟨by decide +kernel, by decide +kernel⟩, List.mem_of_getElem? (i := 810) (by decide +kernel), List.mem_of_getElem? (i := 922) (by decide +kernel), List.mem_of_getElem? (i := 923) (by decide +kernel)⟩
theorem lw_p45 : lw_okq (⟨"FromTheMiddleModel", "one", "()Z"⟩, 24) := ⟨⟨by decide +kernel, by decide +kernel⟩, List.mem_of_getElem? (i := 810) (by decide +kernel), List.mem_of_getElem? (i := 926) (by decide +kernel), List.mem_of_getElem? (i := 927) (by decide +kernel)⟩
theorem lw_p46 : lw_okq (⟨"FromTheMiddleModel", "look", "()I"⟩, 24) := ⟨⟨by decide +kernel, by decide +kernel⟩, List.mem_of_getElem? (i := 810) (by decide +kernel), List.mem_of_getElem? (i := 930) (by decide +kernel), List.mem_of_getElem? (i := 931) (by decide +kernel)⟩
theorem lw_p47 : lw_okq (⟨"FromTheMiddleModel", "isName", "(I)Z"⟩, 24) := ⟨⟨by decide +kernel, by decide +kernel⟩, List.mem_of_getElem? (i := 810) (by decide +kernel), List.mem_of_getElem? (i := 934) (by decide +kernel), List.mem_of_getElem? (i := 935) (by decide +kernel)⟩
def lw_privs_3 : List (MethodName × Nat) := [(⟨"FromTheMiddle", "sheetAt", "(I)LFromTheMiddle$Sheet;"⟩, 9), (⟨"FromTheMiddle", "rightFromFirst", "(LFromTheMiddle$Numbers;)I"⟩, 9), (⟨"FromTheMiddle$Voices", "bodyOf", "(I)I"⟩, 4), (⟨"FromTheMiddle$Voices", "chained", "(II)I"⟩, 4), (⟨"FromTheMiddle$Voices", "handedDown", "(II)I"⟩, 4), (⟨"FromTheMiddle$Voices", "calledBy", "(I)I"⟩, 4), (⟨"FromTheMiddle$Voices", "handedUp", "(II)I"⟩, 4), (⟨"FromTheMiddleModel", "error", "(I)I"⟩, 24), (⟨"FromTheMiddleModel", "whole", "()Z"⟩, 24), (⟨"FromTheMiddleModel", "both", "()Z"⟩, 24), (⟨"FromTheMiddleModel", "compared", "()Z"⟩, 24), (⟨"FromTheMiddleModel", "sum", "()Z"⟩, 24), (⟨"FromTheMiddleModel", "product", "()Z"⟩, 24), (⟨"FromTheMiddleModel", "one", "()Z"⟩, 24), (⟨"FromTheMiddleModel", "look", "()I"⟩, 24), (⟨"FromTheMiddleModel", "isName", "(I)Z"⟩, 24)]
theorem lw_r3 : ∀ q ∈ lw_privs_3, lw_okq q := List.forall_mem_cons.mpr ⟨lw_p32, List.forall_mem_cons.mpr ⟨lw_p33, List.forall_mem_cons.mpr ⟨lw_p34, List.forall_mem_cons.mpr ⟨lw_p35, List.forall_mem_cons.mpr ⟨lw_p36, List.forall_mem_cons.mpr ⟨lw_p37, List.forall_mem_cons.mpr ⟨lw_p38, List.forall_mem_cons.mpr ⟨lw_p39, List.forall_mem_cons.mpr ⟨lw_p40, List.forall_mem_cons.mpr ⟨lw_p41, List.forall_mem_cons.mpr ⟨lw_p42, List.forall_mem_cons.mpr ⟨lw_p43, List.forall_mem_cons.mpr ⟨lw_p44, List.forall_mem_cons.mpr ⟨lw_p45, List.forall_mem_cons.mpr ⟨lw_p46, List.forall_mem_cons.mpr ⟨lw_p47, fun _ h => absurd h List.not_mem_nil⟩⟩⟩⟩⟩⟩⟩⟩⟩⟩⟩⟩⟩⟩⟩⟩
theorem lw_p48 : lw_okq (⟨"FromTheMiddleModel", "step1", "(II)V"⟩, 24) := ⟨⟨by decide +kernel, by decide +kernel⟩, List.mem_of_getElem? (i := 810) (by decide +kernel), List.mem_of_getElem? (i := 938) (by decide +kernel), List.mem_of_getElem? (i := 939) (by decide +kernel)⟩
theorem lw_p49 : lw_okq (⟨"FromTheMiddleModel", "opens", "()Z"⟩, 24) := ⟨⟨by decide +kernel, by decide +kernel⟩, List.mem_of_getElem? (i := 810) (by decide +kernel), List.mem_of_getElem? (i := 942) (by decide +kernel), List.mem_of_getElem? (i := 943) (by decide +kernel)⟩
theorem lw_p50 : lw_okq (⟨"FromTheMiddleModel", "hasText", "(I)Z"⟩, 24) := ⟨⟨by decide +kernel, by decide +kernel⟩, List.mem_of_getElem? (i := 810) (by decide +kernel), List.mem_of_getElem? (i := 950) (by decide +kernel), List.mem_of_getElem? (i := 951) (by decide +kernel)⟩
theorem lw_p51 : lw_okq (⟨"FromTheMiddleModel", "change1", "(II)I"⟩, 24) := ⟨⟨by decide +kernel, by decide +kernel⟩, List.mem_of_getElem? (i := 810) (by decide +kernel), List.mem_of_getElem? (i := 958) (by decide +kernel), List.mem_of_getElem? (i := 959) (by decide +kernel)⟩
theorem lw_p52 : lw_okq (⟨"FromTheMiddleModel", "lays1", "(III)V"⟩, 24) := ⟨⟨by decide +kernel, by decide +kernel⟩, List.mem_of_getElem? (i := 810) (by decide +kernel), List.mem_of_getElem? (i := 977) (by decide +kernel), List.mem_of_getElem? (i := 978) (by decide +kernel)⟩
theorem lw_p53 : lw_okq (⟨"FromTheMiddleModel", "isThing", "(I)Z"⟩, 24) := ⟨⟨by decide +kernel, by decide +kernel⟩, List.mem_of_getElem? (i := 810) (by decide +kernel), List.mem_of_getElem? (i := 985) (by decide +kernel), List.mem_of_getElem? (i := 986) (by decide +kernel)⟩
theorem lw_p54 : lw_okq (⟨"FromTheMiddleModel", "its", "(II)I"⟩, 24) := ⟨⟨by decide +kernel, by decide +kernel⟩, List.mem_of_getElem? (i := 810) (by decide +kernel), List.mem_of_getElem? (i := 989) (by decide +kernel), List.mem_of_getElem? (i := 990) (by decide +kernel)⟩
theorem lw_p55 : lw_okq (⟨"FromTheMiddleModel", "brokenTold", "(III)I"⟩, 24) := ⟨⟨by decide +kernel, by decide +kernel⟩, List.mem_of_getElem? (i := 810) (by decide +kernel), List.mem_of_getElem? (i := 1012) (by decide +kernel), List.mem_of_getElem? (i := 1013) (by decide +kernel)⟩
theorem lw_p56 : lw_okq (⟨"FromTheMiddleModel", "worked", "(I)I"⟩, 24) := ⟨⟨by decide +kernel, by decide +kernel⟩, List.mem_of_getElem? (i := 810) (by decide +kernel), List.mem_of_getElem? (i := 1016) (by decide +kernel), List.mem_of_getElem? (i := 1017) (by decide +kernel)⟩
theorem lw_p57 : lw_okq (⟨"FromTheMiddleModel", "harmTold", "(III)I"⟩, 24) := ⟨⟨by decide +kernel, by decide +kernel⟩, List.mem_of_getElem? (i := 810) (by decide +kernel), List.mem_of_getElem? (i := 1026) (by decide +kernel), List.mem_of_getElem? (i := 1027) (by decide +kernel)⟩
theorem lw_p58 : lw_okq (⟨"FromTheMiddleModel", "isRow", "(I)Z"⟩, 24) := ⟨⟨by decide +kernel, by decide +kernel⟩, List.mem_of_getElem? (i := 810) (by decide +kernel), List.mem_of_getElem? (i := 1034) (by decide +kernel), List.mem_of_getElem? (i := 1035) (by decide +kernel)⟩
theorem lw_p59 : lw_okq (⟨"FromTheMiddleModel", "layRow", "(I)V"⟩, 24) := ⟨⟨by decide +kernel, by decide +kernel⟩, List.mem_of_getElem? (i := 810) (by decide +kernel), List.mem_of_getElem? (i := 1038) (by decide +kernel), List.mem_of_getElem? (i := 1039) (by decide +kernel)⟩
theorem lw_p60 : lw_okq (⟨"FromTheMiddleModel", "longOf", "(I)I"⟩, 24) := ⟨⟨by decide +kernel, by decide +kernel⟩, List.mem_of_getElem? (i := 810) (by decide +kernel), List.mem_of_getElem? (i := 1042) (by decide +kernel), List.mem_of_getElem? (i := 1043) (by decide +kernel)⟩
theorem lw_p61 : lw_okq (⟨"FromTheMiddleModel", "firstOf", "(I)I"⟩, 24) := ⟨⟨by decide +kernel, by decide +kernel⟩, List.mem_of_getElem? (i := 810) (by decide +kernel), List.mem_of_getElem? (i := 1046) (by decide +kernel), List.mem_of_getElem? (i := 1047) (by decide +kernel)⟩
theorem lw_p62 : lw_okq (⟨"FromTheMiddleModel", "cutsLaid", "()I"⟩, 24) := ⟨⟨by decide +kernel, by decide +kernel⟩, List.mem_of_getElem? (i := 810) (by decide +kernel), List.mem_of_getElem? (i := 1054) (by decide +kernel), List.mem_of_getElem? (i := 1055) (by decide +kernel)⟩
theorem lw_p63 : lw_okq (⟨"FromTheMiddleModel", "narrowestLaid", "()I"⟩, 24) := ⟨⟨by decide +kernel, by decide +kernel⟩, List.mem_of_getElem? (i := 810) (by decide +kernel), List.mem_of_getElem? (i := 1058) (by decide +kernel), List.mem_of_getElem? (i := 1059) (by decide +kernel)⟩
def lw_privs_4 : List (MethodName × Nat) := [(⟨"FromTheMiddleModel", "step1", "(II)V"⟩, 24), (⟨"FromTheMiddleModel", "opens", "()Z"⟩, 24), (⟨"FromTheMiddleModel", "hasText", "(I)Z"⟩, 24), (⟨"FromTheMiddleModel", "change1", "(II)I"⟩, 24), (⟨"FromTheMiddleModel", "lays1", "(III)V"⟩, 24), (⟨"FromTheMiddleModel", "isThing", "(I)Z"⟩, 24), (⟨"FromTheMiddleModel", "its", "(II)I"⟩, 24), (⟨"FromTheMiddleModel", "brokenTold", "(III)I"⟩, 24), (⟨"FromTheMiddleModel", "worked", "(I)I"⟩, 24), (⟨"FromTheMiddleModel", "harmTold", "(III)I"⟩, 24), (⟨"FromTheMiddleModel", "isRow", "(I)Z"⟩, 24), (⟨"FromTheMiddleModel", "layRow", "(I)V"⟩, 24), (⟨"FromTheMiddleModel", "longOf", "(I)I"⟩, 24), (⟨"FromTheMiddleModel", "firstOf", "(I)I"⟩, 24), (⟨"FromTheMiddleModel", "cutsLaid", "()I"⟩, 24), (⟨"FromTheMiddleModel", "narrowestLaid", "()I"⟩, 24)]
theorem lw_r4 : ∀ q ∈ lw_privs_4, lw_okq q := List.forall_mem_cons.mpr ⟨lw_p48, List.forall_mem_cons.mpr ⟨lw_p49, List.forall_mem_cons.mpr ⟨lw_p50, List.forall_mem_cons.mpr ⟨lw_p51, List.forall_mem_cons.mpr ⟨lw_p52, List.forall_mem_cons.mpr ⟨lw_p53, List.forall_mem_cons.mpr ⟨lw_p54, List.forall_mem_cons.mpr ⟨lw_p55, List.forall_mem_cons.mpr ⟨lw_p56, List.forall_mem_cons.mpr ⟨lw_p57, List.forall_mem_cons.mpr ⟨lw_p58, List.forall_mem_cons.mpr ⟨lw_p59, List.forall_mem_cons.mpr ⟨lw_p60, List.forall_mem_cons.mpr ⟨lw_p61, List.forall_mem_cons.mpr ⟨lw_p62, List.forall_mem_cons.mpr ⟨lw_p63, fun _ h => absurd h List.not_mem_nil⟩⟩⟩⟩⟩⟩⟩⟩⟩⟩⟩⟩⟩⟩⟩⟩
theorem lw_p64 : lw_okq (⟨"FromTheMiddleModel", "jointsOn", "(II)I"⟩, 24) := ⟨⟨by decide +kernel, by decide +kernel⟩, List.mem_of_getElem? (i := 810) (by decide +kernel), List.mem_of_getElem? (i := 1066) (by decide +kernel), List.mem_of_getElem? (i := 1067) (by decide +kernel)⟩
theorem lw_p65 : lw_okq (⟨"FromTheMiddleModel", "gapOn", "(II)I"⟩, 24) := ⟨⟨by decide +kernel, by decide +kernel⟩, List.mem_of_getElem? (i := 810) (by decide +kernel), List.mem_of_getElem? (i := 1070) (by decide +kernel), List.mem_of_getElem? (i := 1071) (by decide +kernel)⟩
theorem lw_p66 : lw_okq (⟨"FromTheMiddleModel", "touchesOn", "(II)I"⟩, 24) := ⟨⟨by decide +kernel, by decide +kernel⟩, List.mem_of_getElem? (i := 810) (by decide +kernel), List.mem_of_getElem? (i := 1077) (by decide +kernel), List.mem_of_getElem? (i := 1078) (by decide +kernel)⟩
theorem lw_p67 : lw_okq (⟨"FromTheMiddleModel", "hidesOn", "(II)I"⟩, 24) := ⟨⟨by decide +kernel, by decide +kernel⟩, List.mem_of_getElem? (i := 810) (by decide +kernel), List.mem_of_getElem? (i := 1081) (by decide +kernel), List.mem_of_getElem? (i := 1082) (by decide +kernel)⟩
theorem lw_p68 : lw_okq (⟨"FromTheMiddleModel", "harmOn", "(I)I"⟩, 24) := ⟨⟨by decide +kernel, by decide +kernel⟩, List.mem_of_getElem? (i := 810) (by decide +kernel), List.mem_of_getElem? (i := 1085) (by decide +kernel), List.mem_of_getElem? (i := 1086) (by decide +kernel)⟩
theorem lw_p69 : lw_okq (⟨"FromTheMiddleModel", "harmsOn", "(I)I"⟩, 24) := ⟨⟨by decide +kernel, by decide +kernel⟩, List.mem_of_getElem? (i := 810) (by decide +kernel), List.mem_of_getElem? (i := 1089) (by decide +kernel), List.mem_of_getElem? (i := 1090) (by decide +kernel)⟩
theorem lw_p70 : lw_okq (⟨"FromTheMiddleModel", "tiles", "()I"⟩, 24) := ⟨⟨by decide +kernel, by decide +kernel⟩, List.mem_of_getElem? (i := 810) (by decide +kernel), List.mem_of_getElem? (i := 1097) (by decide +kernel), List.mem_of_getElem? (i := 1098) (by decide +kernel)⟩
theorem lw_p71 : lw_okq (⟨"FromTheMiddleModel", "ofAll", "(I)I"⟩, 24) := ⟨⟨by decide +kernel, by decide +kernel⟩, List.mem_of_getElem? (i := 810) (by decide +kernel), List.mem_of_getElem? (i := 1101) (by decide +kernel), List.mem_of_getElem? (i := 1102) (by decide +kernel)⟩
theorem lw_p72 : lw_okq (⟨"FromTheMiddleModel", "halvesLaid", "()I"⟩, 24) := ⟨⟨by decide +kernel, by decide +kernel⟩, List.mem_of_getElem? (i := 810) (by decide +kernel), List.mem_of_getElem? (i := 1105) (by decide +kernel), List.mem_of_getElem? (i := 1106) (by decide +kernel)⟩
theorem lw_p73 : lw_okq (⟨"FromTheMiddleModel", "harmAll", "()I"⟩, 24) := ⟨⟨by decide +kernel, by decide +kernel⟩, List.mem_of_getElem? (i := 810) (by decide +kernel), List.mem_of_getElem? (i := 1109) (by decide +kernel), List.mem_of_getElem? (i := 1110) (by decide +kernel)⟩
theorem lw_p74 : lw_okq (⟨"FromTheMiddleModel", "draw", "()I"⟩, 24) := ⟨⟨by decide +kernel, by decide +kernel⟩, List.mem_of_getElem? (i := 810) (by decide +kernel), List.mem_of_getElem? (i := 1117) (by decide +kernel), List.mem_of_getElem? (i := 1118) (by decide +kernel)⟩
theorem lw_p75 : lw_okq (⟨"FromTheMiddleModel", "lacks", "(I)I"⟩, 24) := ⟨⟨by decide +kernel, by decide +kernel⟩, List.mem_of_getElem? (i := 810) (by decide +kernel), List.mem_of_getElem? (i := 1153) (by decide +kernel), List.mem_of_getElem? (i := 1154) (by decide +kernel)⟩
theorem lw_p76 : lw_okq (⟨"FromTheMiddleModel", "rightOf", "(I)I"⟩, 24) := ⟨⟨by decide +kernel, by decide +kernel⟩, List.mem_of_getElem? (i := 810) (by decide +kernel), List.mem_of_getElem? (i := 1160) (by decide +kernel), List.mem_of_getElem? (i := 1161) (by decide +kernel)⟩
theorem lw_p77 : lw_okq (⟨"FromTheMiddleModel", "kindNow", "()I"⟩, 24) := ⟨⟨by decide +kernel, by decide +kernel⟩, List.mem_of_getElem? (i := 810) (by decide +kernel), List.mem_of_getElem? (i := 1168) (by decide +kernel), List.mem_of_getElem? (i := 1169) (by decide +kernel)⟩
theorem lw_p78 : lw_okq (⟨"FromTheMiddleModel", "dripsAs", "(II)I"⟩, 24) := ⟨⟨by decide +kernel, by decide +kernel⟩, List.mem_of_getElem? (i := 810) (by decide +kernel), List.mem_of_getElem? (i := 1172) (by decide +kernel), List.mem_of_getElem? (i := 1173) (by decide +kernel)⟩
theorem lw_p79 : lw_okq (⟨"FromTheMiddleModel", "starts", "(I)V"⟩, 24) := ⟨⟨by decide +kernel, by decide +kernel⟩, List.mem_of_getElem? (i := 810) (by decide +kernel), List.mem_of_getElem? (i := 1176) (by decide +kernel), List.mem_of_getElem? (i := 1177) (by decide +kernel)⟩
def lw_privs_5 : List (MethodName × Nat) := [(⟨"FromTheMiddleModel", "jointsOn", "(II)I"⟩, 24), (⟨"FromTheMiddleModel", "gapOn", "(II)I"⟩, 24), (⟨"FromTheMiddleModel", "touchesOn", "(II)I"⟩, 24), (⟨"FromTheMiddleModel", "hidesOn", "(II)I"⟩, 24), (⟨"FromTheMiddleModel", "harmOn", "(I)I"⟩, 24), (⟨"FromTheMiddleModel", "harmsOn", "(I)I"⟩, 24), (⟨"FromTheMiddleModel", "tiles", "()I"⟩, 24), (⟨"FromTheMiddleModel", "ofAll", "(I)I"⟩, 24), (⟨"FromTheMiddleModel", "halvesLaid", "()I"⟩, 24), (⟨"FromTheMiddleModel", "harmAll", "()I"⟩, 24), (⟨"FromTheMiddleModel", "draw", "()I"⟩, 24), (⟨"FromTheMiddleModel", "lacks", "(I)I"⟩, 24), (⟨"FromTheMiddleModel", "rightOf", "(I)I"⟩, 24), (⟨"FromTheMiddleModel", "kindNow", "()I"⟩, 24), (⟨"FromTheMiddleModel", "dripsAs", "(II)I"⟩, 24), (⟨"FromTheMiddleModel", "starts", "(I)V"⟩, 24)]
theorem lw_r5 : ∀ q ∈ lw_privs_5, lw_okq q := List.forall_mem_cons.mpr ⟨lw_p64, List.forall_mem_cons.mpr ⟨lw_p65, List.forall_mem_cons.mpr ⟨lw_p66, List.forall_mem_cons.mpr ⟨lw_p67, List.forall_mem_cons.mpr ⟨lw_p68, List.forall_mem_cons.mpr ⟨lw_p69, List.forall_mem_cons.mpr ⟨lw_p70, List.forall_mem_cons.mpr ⟨lw_p71, List.forall_mem_cons.mpr ⟨lw_p72, List.forall_mem_cons.mpr ⟨lw_p73, List.forall_mem_cons.mpr ⟨lw_p74, List.forall_mem_cons.mpr ⟨lw_p75, List.forall_mem_cons.mpr ⟨lw_p76, List.forall_mem_cons.mpr ⟨lw_p77, List.forall_mem_cons.mpr ⟨lw_p78, List.forall_mem_cons.mpr ⟨lw_p79, fun _ h => absurd h List.not_mem_nil⟩⟩⟩⟩⟩⟩⟩⟩⟩⟩⟩⟩⟩⟩⟩⟩
theorem lw_p80 : lw_okq (⟨"FromTheMiddleModel", "scoresAs", "(II)I"⟩, 24) := ⟨⟨by decide +kernel, by decide +kernel⟩, List.mem_of_getElem? (i := 810) (by decide +kernel), List.mem_of_getElem? (i := 1180) (by decide +kernel), List.mem_of_getElem? (i := 1181) (by decide +kernel)⟩
theorem lw_p81 : lw_okq (⟨"FromTheMiddleModel", "mNow", "()I"⟩, 24) := ⟨⟨by decide +kernel, by decide +kernel⟩, List.mem_of_getElem? (i := 810) (by decide +kernel), List.mem_of_getElem? (i := 1184) (by decide +kernel), List.mem_of_getElem? (i := 1185) (by decide +kernel)⟩
theorem lw_p82 : lw_okq (⟨"FromTheMiddleModel", "snapsAs", "(II)I"⟩, 24) := ⟨⟨by decide +kernel, by decide +kernel⟩, List.mem_of_getElem? (i := 810) (by decide +kernel), List.mem_of_getElem? (i := 1188) (by decide +kernel), List.mem_of_getElem? (i := 1189) (by decide +kernel)⟩
theorem lw_p83 : lw_okq (⟨"FromTheMiddleModel", "partsAs", "(II)I"⟩, 24) := ⟨⟨by decide +kernel, by decide +kernel⟩, List.mem_of_getElem? (i := 810) (by decide +kernel), List.mem_of_getElem? (i := 1192) (by decide +kernel), List.mem_of_getElem? (i := 1193) (by decide +kernel)⟩
def lw_privs_6 : List (MethodName × Nat) := [(⟨"FromTheMiddleModel", "scoresAs", "(II)I"⟩, 24), (⟨"FromTheMiddleModel", "mNow", "()I"⟩, 24), (⟨"FromTheMiddleModel", "snapsAs", "(II)I"⟩, 24), (⟨"FromTheMiddleModel", "partsAs", "(II)I"⟩, 24)]
theorem lw_r6 : ∀ q ∈ lw_privs_6, lw_okq q := List.forall_mem_cons.mpr ⟨lw_p80, List.forall_mem_cons.mpr ⟨lw_p81, List.forall_mem_cons.mpr ⟨lw_p82, List.forall_mem_cons.mpr ⟨lw_p83, fun _ h => absurd h List.not_mem_nil⟩⟩⟩⟩
def lw_privs : List (MethodName × Nat) := lw_privs_1 ++ (lw_privs_2 ++ (lw_privs_3 ++ (lw_privs_4 ++ (lw_privs_5 ++ (lw_privs_6)))))
def lw_tbl : List Cond := k2_sels lw_privs ++ tables_1
theorem lw_privs_ok : ∀ q ∈ lw_privs, lw_okq q := by
  show ∀ q ∈ lw_privs_1 ++ (lw_privs_2 ++ (lw_privs_3 ++ (lw_privs_4 ++ (lw_privs_5 ++ (lw_privs_6))))), lw_okq q
  exact List.forall_mem_append.mpr ⟨lw_r1, List.forall_mem_append.mpr ⟨lw_r2, List.forall_mem_append.mpr ⟨lw_r3, List.forall_mem_append.mpr ⟨lw_r4, List.forall_mem_append.mpr ⟨lw_r5, lw_r6⟩⟩⟩⟩⟩
/-! ===== BEGIN words of one list among another's, by their places ===== -/
theorem goodIn_r {big : List Cond} (ws : List Cond) (ps : List Nat) (hp : ws = ps.filterMap (fun i => big[i]?)) (h : ws.all goodWord = true) : GoodIn big ws := by
  intro w hw
  have h1 := List.all_eq_true.mp h w hw
  rw [hp] at hw
  obtain ⟨i, -, hi⟩ := List.mem_filterMap.mp hw
  have hm : w ∈ big := by first | exact List.mem_of_getElem? hi | exact List.getElem?_mem hi
  exact ⟨hm, good_of_word h1⟩
theorem goodIn_app {big a b : List Cond} (ha : GoodIn big a) (hb : GoodIn big b) : GoodIn big (a ++ b) := fun w h => (List.mem_append.mp h).elim (ha w) (hb w)
theorem goodIn_ca {big a b : List Cond} {c : Cond} (ha : GoodIn big (c :: a)) (hb : GoodIn big b) : GoodIn big (c :: (a ++ b)) := fun w h => (List.mem_cons.mp h).elim (fun e => ha w (List.mem_cons.mpr (Or.inl e))) (fun h => (List.mem_append.mp h).elim (fun h => ha w (List.mem_cons.mpr (Or.inr h))) (hb w))
theorem goodIn_sub {big ws : List Cond} (hm : ∀ w ∈ ws, w ∈ big) (h : ws.all goodWord = true) : GoodIn big ws := fun w hw => ⟨hm w hw, good_of_word (List.all_eq_true.mp h w hw)⟩
def RX0 : String := "FromTheMiddle$Kept"
def TX0 : u_T := fun k => match k with
  | 0 => ("FromTheMiddle$Kept", "wall", "LFromTheMiddle$Numbers;", true)
  | 1 => ("FromTheMiddle$Kept", "kinds", "LFromTheMiddle$Numbers;", true)
  | 2 => ("FromTheMiddle$Kept", "marks", "LFromTheMiddle$Numbers;", true)
  | 3 => ("FromTheMiddle$Kept", "froms", "LFromTheMiddle$Numbers;", true)
  | 4 => ("FromTheMiddle$Kept", "widths", "LFromTheMiddle$Numbers;", true)
  | 5 => ("FromTheMiddle$Kept", "tape", "LFromTheMiddle$Numbers;", true)
  | 6 => ("FromTheMiddle$Kept", "broken", "LFromTheMiddle$Numbers;", true)
  | 7 => ("FromTheMiddle$Kept", "harm", "LFromTheMiddle$Numbers;", true)
  | 8 => ("FromTheMiddle$Kept", "waits", "LFromTheMiddle$Numbers;", true)
  | _ => ("FromTheMiddle$Kept", "z", "I", false)
def tyX0 : Nat → FieldType := fun k => match k with
  | 0 => .object "FromTheMiddle$Numbers"
  | 1 => .object "FromTheMiddle$Numbers"
  | 2 => .object "FromTheMiddle$Numbers"
  | 3 => .object "FromTheMiddle$Numbers"
  | 4 => .object "FromTheMiddle$Numbers"
  | 5 => .object "FromTheMiddle$Numbers"
  | 6 => .object "FromTheMiddle$Numbers"
  | 7 => .object "FromTheMiddle$Numbers"
  | 8 => .object "FromTheMiddle$Numbers"
  | _ => .int
abbrev wsX00 : List Cond := u_ws RX0 TX0 10
theorem nmX0 : ∀ a, a < 10 → ∀ b, b < 10 → a ≠ b → (TX0 a).2.1 ≠ (TX0 b).2.1 := by decide +kernel
theorem tyX0_ok : ∀ k, k < 10 → parseFieldDescriptor (TX0 k).2.2.1 = some (tyX0 k) := by decide +kernel
def RX1 : String := "FromTheMiddle$Numbers"
def TX1 : u_T := fun k => match k with
  | 0 => ("FromTheMiddle$Numbers", "held", "[I", true)
  | _ => ("FromTheMiddle$Numbers", "size", "I", false)
def tyX1 : Nat → FieldType := fun k => match k with
  | 0 => .array .int
  | _ => .int
abbrev wsX10 : List Cond := u_ws RX1 TX1 2
theorem nmX1 : ∀ a, a < 2 → ∀ b, b < 2 → a ≠ b → (TX1 a).2.1 ≠ (TX1 b).2.1 := by decide +kernel
theorem tyX1_ok : ∀ k, k < 2 → parseFieldDescriptor (TX1 k).2.2.1 = some (tyX1 k) := by decide +kernel
def RX2 : String := "FromTheMiddle$Reader"
def TX2 : u_T := fun k => match k with
  | 0 => ("FromTheMiddle$Reader", "codes", "LFromTheMiddle$Numbers;", true)
  | 1 => ("FromTheMiddle$Reader", "pending", "LFromTheMiddle$Numbers;", true)
  | 2 => ("FromTheMiddle$Reader", "open", "I", false)
  | 3 => ("FromTheMiddle$Reader", "digits", "I", false)
  | _ => ("FromTheMiddle$Reader", "wantsOperand", "Z", false)
def tyX2 : Nat → FieldType := fun k => match k with
  | 0 => .object "FromTheMiddle$Numbers"
  | 1 => .object "FromTheMiddle$Numbers"
  | 2 => .int
  | 3 => .int
  | _ => .boolean
abbrev wsX20 : List Cond := u_ws RX2 TX2 5
theorem nmX2 : ∀ a, a < 5 → ∀ b, b < 5 → a ≠ b → (TX2 a).2.1 ≠ (TX2 b).2.1 := by decide +kernel
theorem tyX2_ok : ∀ k, k < 5 → parseFieldDescriptor (TX2 k).2.2.1 = some (tyX2 k) := by decide +kernel
def RX3 : String := "FromTheMiddle$Reckoner"
def TX3 : u_T := fun k => match k with
  | _ => ("FromTheMiddle$Reckoner", "stack", "LFromTheMiddle$Numbers;", true)
def tyX3 : Nat → FieldType := fun k => match k with
  | _ => .object "FromTheMiddle$Numbers"
abbrev wsX30 : List Cond := u_ws RX3 TX3 1
theorem nmX3 : ∀ a, a < 1 → ∀ b, b < 1 → a ≠ b → (TX3 a).2.1 ≠ (TX3 b).2.1 := by decide +kernel
theorem tyX3_ok : ∀ k, k < 1 → parseFieldDescriptor (TX3 k).2.2.1 = some (tyX3 k) := by decide +kernel
def RX4 : String := "FromTheMiddle$Row"
def TX4 : u_T := fun k => match k with
  | 0 => ("FromTheMiddle$Row", "first", "I", false)
  | 1 => ("FromTheMiddle$Row", "end", "I", false)
  | 2 => ("FromTheMiddle$Row", "tile", "I", false)
  | 3 => ("FromTheMiddle$Row", "joint", "I", false)
  | 4 => ("FromTheMiddle$Row", "pieces", "I", false)
  | 5 => ("FromTheMiddle$Row", "joints", "I", false)
  | 6 => ("FromTheMiddle$Row", "gap", "I", false)
  | 7 => ("FromTheMiddle$Row", "touches", "I", false)
  | _ => ("FromTheMiddle$Row", "hides", "I", false)
def tyX4 : Nat → FieldType := fun k => match k with
  | 0 => .int
  | 1 => .int
  | 2 => .int
  | 3 => .int
  | 4 => .int
  | 5 => .int
  | 6 => .int
  | 7 => .int
  | _ => .int
abbrev wsX40 : List Cond := u_ws RX4 TX4 9
theorem nmX4 : ∀ a, a < 9 → ∀ b, b < 9 → a ≠ b → (TX4 a).2.1 ≠ (TX4 b).2.1 := by decide +kernel
theorem tyX4_ok : ∀ k, k < 9 → parseFieldDescriptor (TX4 k).2.2.1 = some (tyX4 k) := by decide +kernel
def RX5 : String := "FromTheMiddle$Sheet"
def TX5 : u_T := fun k => match k with
  | 0 => ("FromTheMiddle$Sheet", "numbers", "LFromTheMiddle$Numbers;", true)
  | _ => ("FromTheMiddle$Sheet", "bits", "I", false)
def tyX5 : Nat → FieldType := fun k => match k with
  | 0 => .object "FromTheMiddle$Numbers"
  | _ => .int
abbrev wsX50 : List Cond := u_ws RX5 TX5 2
theorem nmX5 : ∀ a, a < 2 → ∀ b, b < 2 → a ≠ b → (TX5 a).2.1 ≠ (TX5 b).2.1 := by decide +kernel
theorem tyX5_ok : ∀ k, k < 2 → parseFieldDescriptor (TX5 k).2.2.1 = some (tyX5 k) := by decide +kernel
def RX6 : String := "FromTheMiddle$Voices"
def TX6 : u_T := fun k => match k with
  | 0 => ("FromTheMiddle$Voices", "trace", "LFromTheMiddle$Numbers;", true)
  | 1 => ("FromTheMiddle$Voices", "kind", "I", false)
  | 2 => ("FromTheMiddle$Voices", "number", "I", false)
  | _ => ("FromTheMiddle$Voices", "mark", "I", false)
def tyX6 : Nat → FieldType := fun k => match k with
  | 0 => .object "FromTheMiddle$Numbers"
  | 1 => .int
  | 2 => .int
  | _ => .int
abbrev wsX60 : List Cond := u_ws RX6 TX6 4
theorem nmX6 : ∀ a, a < 4 → ∀ b, b < 4 → a ≠ b → (TX6 a).2.1 ≠ (TX6 b).2.1 := by decide +kernel
theorem tyX6_ok : ∀ k, k < 4 → parseFieldDescriptor (TX6 k).2.2.1 = some (tyX6 k) := by decide +kernel
def RX7 : String := "FromTheMiddle"
def TX7 : u_T := fun k => match k with
  | 0 => ("FromTheMiddle", "now", "LFromTheMiddle$Kept;", true)
  | 1 => ("FromTheMiddle", "kept", "LFromTheMiddle$Kept;", true)
  | 2 => ("FromTheMiddle", "images", "I", false)
  | 3 => ("FromTheMiddle", "errors", "LFromTheMiddle$Numbers;", true)
  | 4 => ("FromTheMiddle", "sheets", "[LFromTheMiddle$Sheet;", true)
  | 5 => ("FromTheMiddle", "laid", "LFromTheMiddle$Row;", true)
  | 6 => ("FromTheMiddle", "reader", "LFromTheMiddle$Reader;", true)
  | 7 => ("FromTheMiddle", "reckoner", "LFromTheMiddle$Reckoner;", true)
  | _ => ("FromTheMiddle", "voices", "LFromTheMiddle$Voices;", true)
def tyX7 : Nat → FieldType := fun k => match k with
  | 0 => .object "FromTheMiddle$Kept"
  | 1 => .object "FromTheMiddle$Kept"
  | 2 => .int
  | 3 => .object "FromTheMiddle$Numbers"
  | 4 => .array (.object "FromTheMiddle$Sheet")
  | 5 => .object "FromTheMiddle$Row"
  | 6 => .object "FromTheMiddle$Reader"
  | 7 => .object "FromTheMiddle$Reckoner"
  | _ => .object "FromTheMiddle$Voices"
abbrev wsX70 : List Cond := u_ws RX7 TX7 9
theorem nmX7 : ∀ a, a < 9 → ∀ b, b < 9 → a ≠ b → (TX7 a).2.1 ≠ (TX7 b).2.1 := by decide +kernel
theorem tyX7_ok : ∀ k, k < 9 → parseFieldDescriptor (TX7 k).2.2.1 = some (tyX7 k) := by decide +kernel
def RX8 : String := "FromTheMiddleModel"
def TX8 : u_T := fun k => match k with
  | 0 => ("FromTheMiddleModel", "s", "[I", true)
  | 1 => ("FromTheMiddleModel", "kept", "[I", true)
  | 2 => ("FromTheMiddleModel", "images", "I", false)
  | 3 => ("FromTheMiddleModel", "errors", "[I", true)
  | 4 => ("FromTheMiddleModel", "lows", "[I", true)
  | 5 => ("FromTheMiddleModel", "highs", "[I", true)
  | 6 => ("FromTheMiddleModel", "at", "I", false)
  | 7 => ("FromTheMiddleModel", "open", "I", false)
  | 8 => ("FromTheMiddleModel", "steps", "I", false)
  | 9 => ("FromTheMiddleModel", "use", "I", false)
  | 10 => ("FromTheMiddleModel", "step", "[I", true)
  | 11 => ("FromTheMiddleModel", "named", "[I", true)
  | 12 => ("FromTheMiddleModel", "pile", "[I", true)
  | 13 => ("FromTheMiddleModel", "left", "[I", true)
  | 14 => ("FromTheMiddleModel", "wide", "[I", true)
  | 15 => ("FromTheMiddleModel", "pieces", "I", false)
  | 16 => ("FromTheMiddleModel", "traced", "I", false)
  | 17 => ("FromTheMiddleModel", "trace", "[I", true)
  | 18 => ("FromTheMiddleModel", "speaks", "I", false)
  | 19 => ("FromTheMiddleModel", "isParted", "Z", false)
  | 20 => ("FromTheMiddleModel", "bits", "[I", true)
  | 21 => ("FromTheMiddleModel", "sizes", "[I", true)
  | 22 => ("FromTheMiddleModel", "number", "[I", true)
  | _ => ("FromTheMiddleModel", "aside", "[I", true)
def tyX8 : Nat → FieldType := fun k => match k with
  | 0 => .array .int
  | 1 => .array .int
  | 2 => .int
  | 3 => .array .int
  | 4 => .array .int
  | 5 => .array .int
  | 6 => .int
  | 7 => .int
  | 8 => .int
  | 9 => .int
  | 10 => .array .int
  | 11 => .array .int
  | 12 => .array .int
  | 13 => .array .int
  | 14 => .array .int
  | 15 => .int
  | 16 => .int
  | 17 => .array .int
  | 18 => .int
  | 19 => .boolean
  | 20 => .array .int
  | 21 => .array .int
  | 22 => .array .int
  | _ => .array .int
abbrev wsX80 : List Cond := u_ws RX8 TX8 24
theorem nmX8 : ∀ a, a < 24 → ∀ b, b < 24 → a ≠ b → (TX8 a).2.1 ≠ (TX8 b).2.1 := by decide +kernel
theorem tyX8_ok : ∀ k, k < 24 → parseFieldDescriptor (TX8 k).2.2.1 = some (tyX8 k) := by decide +kernel
abbrev vwCl : List vw_C := [(RX0, TX0, 10), (RX1, TX1, 2), (RX2, TX2, 5), (RX3, TX3, 1), (RX4, TX4, 9), (RX5, TX5, 2), (RX6, TX6, 4), (RX7, TX7, 9), (RX8, TX8, 24)]
def pw_0 : List Cond := [.selects "FromTheMiddle" ⟨"FromTheMiddle", "error", "(I)I"⟩ ⟨"FromTheMiddle", "error", "(I)I"⟩, .selects "FromTheMiddle" ⟨"FromTheMiddle", "is", "(I)I"⟩ ⟨"FromTheMiddle", "is", "(I)I"⟩, .selects "FromTheMiddle" ⟨"FromTheMiddle", "isThing", "(I)Z"⟩ ⟨"FromTheMiddle", "isThing", "(I)Z"⟩, .selects "FromTheMiddle$Reader" ⟨"FromTheMiddle$Reader", "beginOperand", "(ILjava/lang/String;)Z"⟩ ⟨"FromTheMiddle$Reader", "beginOperand", "(ILjava/lang/String;)Z"⟩, .selects "FromTheMiddle$Reader" ⟨"FromTheMiddle$Reader", "goOn", "(I)Z"⟩ ⟨"FromTheMiddle$Reader", "goOn", "(I)Z"⟩, .selects "FromTheMiddle$Reader" ⟨"FromTheMiddle$Reader", "addDigit", "(I)Z"⟩ ⟨"FromTheMiddle$Reader", "addDigit", "(I)Z"⟩, .selects "FromTheMiddle$Reader" ⟨"FromTheMiddle$Reader", "close", "()Z"⟩ ⟨"FromTheMiddle$Reader", "close", "()Z"⟩, .selects "FromTheMiddle$Reader" ⟨"FromTheMiddle$Reader", "settle", "(I)V"⟩ ⟨"FromTheMiddle$Reader", "settle", "(I)V"⟩, .selects "FromTheMiddle" ⟨"FromTheMiddle", "ruled", "(IIII)I"⟩ ⟨"FromTheMiddle", "ruled", "(IIII)I"⟩, .selects "FromTheMiddle$Reckoner" ⟨"FromTheMiddle$Reckoner", "joined", "(I)I"⟩ ⟨"FromTheMiddle$Reckoner", "joined", "(I)I"⟩, .selects "FromTheMiddle" ⟨"FromTheMiddle", "isRow", "(I)Z"⟩ ⟨"FromTheMiddle", "isRow", "(I)Z"⟩, .selects "FromTheMiddle" ⟨"FromTheMiddle", "lay", "(II)V"⟩ ⟨"FromTheMiddle", "lay", "(II)V"⟩, .selects "FromTheMiddle" ⟨"FromTheMiddle", "firstPiece", "(II)I"⟩ ⟨"FromTheMiddle", "firstPiece", "(II)I"⟩, .selects "FromTheMiddle" ⟨"FromTheMiddle", "rowLength", "(I)I"⟩ ⟨"FromTheMiddle", "rowLength", "(I)I"⟩, .selects "FromTheMiddle$Row" ⟨"FromTheMiddle$Row", "behindFirstAheadOf", "(I)I"⟩ ⟨"FromTheMiddle$Row", "behindFirstAheadOf", "(I)I"⟩, .selects "FromTheMiddle$Row" ⟨"FromTheMiddle$Row", "isCut", "(I)Z"⟩ ⟨"FromTheMiddle$Row", "isCut", "(I)Z"⟩, .selects "FromTheMiddle$Row" ⟨"FromTheMiddle$Row", "ofEdges", "(ZZ)I"⟩ ⟨"FromTheMiddle$Row", "ofEdges", "(ZZ)I"⟩, .selects "FromTheMiddle" ⟨"FromTheMiddle", "harmOf", "(I)I"⟩ ⟨"FromTheMiddle", "harmOf", "(I)I"⟩, .selects "FromTheMiddle$Row" ⟨"FromTheMiddle$Row", "endingNotBehind", "(I)I"⟩ ⟨"FromTheMiddle$Row", "endingNotBehind", "(I)I"⟩, .selects "FromTheMiddle$Row" ⟨"FromTheMiddle$Row", "isHidden", "(III)Z"⟩ ⟨"FromTheMiddle$Row", "isHidden", "(III)Z"⟩, .selects "FromTheMiddle$Row" ⟨"FromTheMiddle$Row", "gapOfBeginnings", "(II)I"⟩ ⟨"FromTheMiddle$Row", "gapOfBeginnings", "(II)I"⟩, .selects "FromTheMiddle$Row" ⟨"FromTheMiddle$Row", "gapOfEndings", "(II)I"⟩ ⟨"FromTheMiddle$Row", "gapOfEndings", "(II)I"⟩, .selects "FromTheMiddle" ⟨"FromTheMiddle", "tilesToBuy", "()I"⟩ ⟨"FromTheMiddle", "tilesToBuy", "()I"⟩, .selects "FromTheMiddle" ⟨"FromTheMiddle", "halves", "()I"⟩ ⟨"FromTheMiddle", "halves", "()I"⟩, .selects "FromTheMiddle$Row" ⟨"FromTheMiddle$Row", "isHalf", "(I)Z"⟩ ⟨"FromTheMiddle$Row", "isHalf", "(I)Z"⟩, .selects "FromTheMiddle" ⟨"FromTheMiddle", "pieces", "()I"⟩ ⟨"FromTheMiddle", "pieces", "()I"⟩, .selects "FromTheMiddle" ⟨"FromTheMiddle", "cutsBy", "(I)I"⟩ ⟨"FromTheMiddle", "cutsBy", "(I)I"⟩, .selects "FromTheMiddle" ⟨"FromTheMiddle", "narrowestBy", "(I)I"⟩ ⟨"FromTheMiddle", "narrowestBy", "(I)I"⟩, .selects "FromTheMiddle" ⟨"FromTheMiddle", "harmBy", "(I)I"⟩ ⟨"FromTheMiddle", "harmBy", "(I)I"⟩, .selects "FromTheMiddle" ⟨"FromTheMiddle", "changeByDraws", "()V"⟩ ⟨"FromTheMiddle", "changeByDraws", "()V"⟩, .selects "FromTheMiddle" ⟨"FromTheMiddle", "draw", "()I"⟩ ⟨"FromTheMiddle", "draw", "()I"⟩, .selects "FromTheMiddle" ⟨"FromTheMiddle", "bestStart", "()I"⟩ ⟨"FromTheMiddle", "bestStart", "()I"⟩]
set_option maxRecDepth 20000 in
theorem pw_0_in : GoodIn lw_tbl pw_0 := goodIn_r _ [0, 1, 2, 3, 4, 5, 6, 7, 8, 9, 10, 11, 12, 13, 14, 15, 16, 17, 18, 19, 20, 21, 22, 23, 24, 25, 26, 27, 28, 29, 30, 31] (by decide +kernel) (by decide +kernel)
def pw_1 : List Cond := [.selects "FromTheMiddle" ⟨"FromTheMiddle", "sheetAt", "(I)LFromTheMiddle$Sheet;"⟩ ⟨"FromTheMiddle", "sheetAt", "(I)LFromTheMiddle$Sheet;"⟩, .selects "FromTheMiddle" ⟨"FromTheMiddle", "rightFromFirst", "(LFromTheMiddle$Numbers;)I"⟩ ⟨"FromTheMiddle", "rightFromFirst", "(LFromTheMiddle$Numbers;)I"⟩, .selects "FromTheMiddle$Voices" ⟨"FromTheMiddle$Voices", "bodyOf", "(I)I"⟩ ⟨"FromTheMiddle$Voices", "bodyOf", "(I)I"⟩, .selects "FromTheMiddle$Voices" ⟨"FromTheMiddle$Voices", "chained", "(II)I"⟩ ⟨"FromTheMiddle$Voices", "chained", "(II)I"⟩, .selects "FromTheMiddle$Voices" ⟨"FromTheMiddle$Voices", "handedDown", "(II)I"⟩ ⟨"FromTheMiddle$Voices", "handedDown", "(II)I"⟩, .selects "FromTheMiddle$Voices" ⟨"FromTheMiddle$Voices", "calledBy", "(I)I"⟩ ⟨"FromTheMiddle$Voices", "calledBy", "(I)I"⟩, .selects "FromTheMiddle$Voices" ⟨"FromTheMiddle$Voices", "handedUp", "(II)I"⟩ ⟨"FromTheMiddle$Voices", "handedUp", "(II)I"⟩, .selects "FromTheMiddleModel" ⟨"FromTheMiddleModel", "error", "(I)I"⟩ ⟨"FromTheMiddleModel", "error", "(I)I"⟩, .selects "FromTheMiddleModel" ⟨"FromTheMiddleModel", "whole", "()Z"⟩ ⟨"FromTheMiddleModel", "whole", "()Z"⟩, .selects "FromTheMiddleModel" ⟨"FromTheMiddleModel", "both", "()Z"⟩ ⟨"FromTheMiddleModel", "both", "()Z"⟩, .selects "FromTheMiddleModel" ⟨"FromTheMiddleModel", "compared", "()Z"⟩ ⟨"FromTheMiddleModel", "compared", "()Z"⟩, .selects "FromTheMiddleModel" ⟨"FromTheMiddleModel", "sum", "()Z"⟩ ⟨"FromTheMiddleModel", "sum", "()Z"⟩, .selects "FromTheMiddleModel" ⟨"FromTheMiddleModel", "product", "()Z"⟩ ⟨"FromTheMiddleModel", "product", "()Z"⟩, .selects "FromTheMiddleModel" ⟨"FromTheMiddleModel", "one", "()Z"⟩ ⟨"FromTheMiddleModel", "one", "()Z"⟩, .selects "FromTheMiddleModel" ⟨"FromTheMiddleModel", "look", "()I"⟩ ⟨"FromTheMiddleModel", "look", "()I"⟩, .selects "FromTheMiddleModel" ⟨"FromTheMiddleModel", "isName", "(I)Z"⟩ ⟨"FromTheMiddleModel", "isName", "(I)Z"⟩, .selects "FromTheMiddleModel" ⟨"FromTheMiddleModel", "step1", "(II)V"⟩ ⟨"FromTheMiddleModel", "step1", "(II)V"⟩, .selects "FromTheMiddleModel" ⟨"FromTheMiddleModel", "opens", "()Z"⟩ ⟨"FromTheMiddleModel", "opens", "()Z"⟩, .selects "FromTheMiddleModel" ⟨"FromTheMiddleModel", "hasText", "(I)Z"⟩ ⟨"FromTheMiddleModel", "hasText", "(I)Z"⟩, .selects "FromTheMiddleModel" ⟨"FromTheMiddleModel", "change1", "(II)I"⟩ ⟨"FromTheMiddleModel", "change1", "(II)I"⟩, .selects "FromTheMiddleModel" ⟨"FromTheMiddleModel", "lays1", "(III)V"⟩ ⟨"FromTheMiddleModel", "lays1", "(III)V"⟩, .selects "FromTheMiddleModel" ⟨"FromTheMiddleModel", "isThing", "(I)Z"⟩ ⟨"FromTheMiddleModel", "isThing", "(I)Z"⟩, .selects "FromTheMiddleModel" ⟨"FromTheMiddleModel", "its", "(II)I"⟩ ⟨"FromTheMiddleModel", "its", "(II)I"⟩, .selects "FromTheMiddleModel" ⟨"FromTheMiddleModel", "brokenTold", "(III)I"⟩ ⟨"FromTheMiddleModel", "brokenTold", "(III)I"⟩, .selects "FromTheMiddleModel" ⟨"FromTheMiddleModel", "worked", "(I)I"⟩ ⟨"FromTheMiddleModel", "worked", "(I)I"⟩, .selects "FromTheMiddleModel" ⟨"FromTheMiddleModel", "harmTold", "(III)I"⟩ ⟨"FromTheMiddleModel", "harmTold", "(III)I"⟩, .selects "FromTheMiddleModel" ⟨"FromTheMiddleModel", "isRow", "(I)Z"⟩ ⟨"FromTheMiddleModel", "isRow", "(I)Z"⟩, .selects "FromTheMiddleModel" ⟨"FromTheMiddleModel", "layRow", "(I)V"⟩ ⟨"FromTheMiddleModel", "layRow", "(I)V"⟩, .selects "FromTheMiddleModel" ⟨"FromTheMiddleModel", "longOf", "(I)I"⟩ ⟨"FromTheMiddleModel", "longOf", "(I)I"⟩, .selects "FromTheMiddleModel" ⟨"FromTheMiddleModel", "firstOf", "(I)I"⟩ ⟨"FromTheMiddleModel", "firstOf", "(I)I"⟩, .selects "FromTheMiddleModel" ⟨"FromTheMiddleModel", "cutsLaid", "()I"⟩ ⟨"FromTheMiddleModel", "cutsLaid", "()I"⟩, .selects "FromTheMiddleModel" ⟨"FromTheMiddleModel", "narrowestLaid", "()I"⟩ ⟨"FromTheMiddleModel", "narrowestLaid", "()I"⟩]
set_option maxRecDepth 20000 in
theorem pw_1_in : GoodIn lw_tbl pw_1 := goodIn_r _ [32, 33, 34, 35, 36, 37, 38, 39, 40, 41, 42, 43, 44, 45, 46, 47, 48, 49, 50, 51, 52, 53, 54, 55, 56, 57, 58, 59, 60, 61, 62, 63] (by decide +kernel) (by decide +kernel)
def pw_2 : List Cond := [.selects "FromTheMiddleModel" ⟨"FromTheMiddleModel", "jointsOn", "(II)I"⟩ ⟨"FromTheMiddleModel", "jointsOn", "(II)I"⟩, .selects "FromTheMiddleModel" ⟨"FromTheMiddleModel", "gapOn", "(II)I"⟩ ⟨"FromTheMiddleModel", "gapOn", "(II)I"⟩, .selects "FromTheMiddleModel" ⟨"FromTheMiddleModel", "touchesOn", "(II)I"⟩ ⟨"FromTheMiddleModel", "touchesOn", "(II)I"⟩, .selects "FromTheMiddleModel" ⟨"FromTheMiddleModel", "hidesOn", "(II)I"⟩ ⟨"FromTheMiddleModel", "hidesOn", "(II)I"⟩, .selects "FromTheMiddleModel" ⟨"FromTheMiddleModel", "harmOn", "(I)I"⟩ ⟨"FromTheMiddleModel", "harmOn", "(I)I"⟩, .selects "FromTheMiddleModel" ⟨"FromTheMiddleModel", "harmsOn", "(I)I"⟩ ⟨"FromTheMiddleModel", "harmsOn", "(I)I"⟩, .selects "FromTheMiddleModel" ⟨"FromTheMiddleModel", "tiles", "()I"⟩ ⟨"FromTheMiddleModel", "tiles", "()I"⟩, .selects "FromTheMiddleModel" ⟨"FromTheMiddleModel", "ofAll", "(I)I"⟩ ⟨"FromTheMiddleModel", "ofAll", "(I)I"⟩, .selects "FromTheMiddleModel" ⟨"FromTheMiddleModel", "halvesLaid", "()I"⟩ ⟨"FromTheMiddleModel", "halvesLaid", "()I"⟩, .selects "FromTheMiddleModel" ⟨"FromTheMiddleModel", "harmAll", "()I"⟩ ⟨"FromTheMiddleModel", "harmAll", "()I"⟩, .selects "FromTheMiddleModel" ⟨"FromTheMiddleModel", "draw", "()I"⟩ ⟨"FromTheMiddleModel", "draw", "()I"⟩, .selects "FromTheMiddleModel" ⟨"FromTheMiddleModel", "lacks", "(I)I"⟩ ⟨"FromTheMiddleModel", "lacks", "(I)I"⟩, .selects "FromTheMiddleModel" ⟨"FromTheMiddleModel", "rightOf", "(I)I"⟩ ⟨"FromTheMiddleModel", "rightOf", "(I)I"⟩, .selects "FromTheMiddleModel" ⟨"FromTheMiddleModel", "kindNow", "()I"⟩ ⟨"FromTheMiddleModel", "kindNow", "()I"⟩, .selects "FromTheMiddleModel" ⟨"FromTheMiddleModel", "dripsAs", "(II)I"⟩ ⟨"FromTheMiddleModel", "dripsAs", "(II)I"⟩, .selects "FromTheMiddleModel" ⟨"FromTheMiddleModel", "starts", "(I)V"⟩ ⟨"FromTheMiddleModel", "starts", "(I)V"⟩, .selects "FromTheMiddleModel" ⟨"FromTheMiddleModel", "scoresAs", "(II)I"⟩ ⟨"FromTheMiddleModel", "scoresAs", "(II)I"⟩, .selects "FromTheMiddleModel" ⟨"FromTheMiddleModel", "mNow", "()I"⟩ ⟨"FromTheMiddleModel", "mNow", "()I"⟩, .selects "FromTheMiddleModel" ⟨"FromTheMiddleModel", "snapsAs", "(II)I"⟩ ⟨"FromTheMiddleModel", "snapsAs", "(II)I"⟩, .selects "FromTheMiddleModel" ⟨"FromTheMiddleModel", "partsAs", "(II)I"⟩ ⟨"FromTheMiddleModel", "partsAs", "(II)I"⟩, .initialized "FromTheMiddleLaw", .initialized "FromTheMiddle", .initialized "FromTheMiddle$Kept", .initialized "FromTheMiddle$Numbers", .initialized "java/lang/Math", .initialized "FromTheMiddle$Sheet", .initialized "FromTheMiddle$Row", .initialized "FromTheMiddle$Reader", .initialized "FromTheMiddle$Reckoner", .initialized "FromTheMiddle$Voices", .initialized "FromTheMiddleModel", .initialized "java/lang/String"]
set_option maxRecDepth 20000 in
theorem pw_2_in : GoodIn lw_tbl pw_2 := goodIn_r _ [64, 65, 66, 67, 68, 69, 70, 71, 72, 73, 74, 75, 76, 77, 78, 79, 80, 81, 82, 83, 84, 85, 86, 87, 88, 89, 90, 91, 92, 93, 94, 95] (by decide +kernel) (by decide +kernel)
def pw_3 : List Cond := [.initialized "java/lang/StringLatin1", .initialized "java/lang/StringUTF16", .initialized "jdk/internal/util/Preconditions", .initialized "java/lang/Character", .initialized "java/lang/System", .classLink "FromTheMiddleLaw" 7 "FromTheMiddle", .instantiable "FromTheMiddle" 9, .methodLink "FromTheMiddleLaw" 9 ⟨"FromTheMiddle", "<init>", "()V"⟩, .instanceMethod ⟨"FromTheMiddle", "<init>", "()V"⟩, .code ⟨"FromTheMiddle", "<init>", "()V"⟩ prog_1_method_1_code 1 none, .methodLink "FromTheMiddle" 1 ⟨"java/lang/Object", "<init>", "()V"⟩, .instanceMethod ⟨"java/lang/Object", "<init>", "()V"⟩, .code ⟨"java/lang/Object", "<init>", "()V"⟩ object_method_1_code 1 none, .classLink "FromTheMiddle" 7 "FromTheMiddle$Kept", .instantiable "FromTheMiddle$Kept" 10, .methodLink "FromTheMiddle" 9 ⟨"FromTheMiddle$Kept", "<init>", "()V"⟩, .instanceMethod ⟨"FromTheMiddle$Kept", "<init>", "()V"⟩, .code ⟨"FromTheMiddle$Kept", "<init>", "()V"⟩ prog_2_method_1_code 1 none, .methodLink "FromTheMiddle$Kept" 3 ⟨"java/lang/Object", "<init>", "()V"⟩, .classLink "FromTheMiddle$Kept" 9 "FromTheMiddle$Numbers", .instantiable "FromTheMiddle$Numbers" 2, .methodLink "FromTheMiddle$Kept" 11 ⟨"FromTheMiddle$Numbers", "<init>", "(I)V"⟩, .instanceMethod ⟨"FromTheMiddle$Numbers", "<init>", "(I)V"⟩, .code ⟨"FromTheMiddle$Numbers", "<init>", "(I)V"⟩ prog_3_method_1_code 2 none, .methodLink "FromTheMiddle$Numbers" 1 ⟨"java/lang/Object", "<init>", "()V"⟩, .methodLink "FromTheMiddle$Numbers" 7 ⟨"java/lang/Math", "max", "(II)I"⟩, .static ⟨"java/lang/Math", "max", "(II)I"⟩, .code ⟨"java/lang/Math", "max", "(II)I"⟩ prog_12_method_65_code 2 (some .int), .fieldLink "FromTheMiddle$Numbers" 13 "FromTheMiddle$Numbers" "held" "[I", .fieldLink "FromTheMiddle$Numbers" 19 "FromTheMiddle$Numbers" "size" "I", .laysFinal "FromTheMiddle$Numbers" "FromTheMiddle$Numbers" "held" "[I", .lays "FromTheMiddle$Numbers" "FromTheMiddle$Numbers" "size" "I"]
set_option maxRecDepth 20000 in
theorem pw_3_in : GoodIn lw_tbl pw_3 := goodIn_r _ [96, 97, 98, 99, 100, 101, 102, 103, 104, 105, 106, 107, 108, 109, 110, 111, 112, 113, 114, 115, 116, 117, 118, 119, 120, 121, 122, 123, 124, 125, 126, 128] (by decide +kernel) (by decide +kernel)
def pw_4 : List Cond := [.arrayClass .int, .methodLink "FromTheMiddle$Kept" 48 ⟨"FromTheMiddle$Numbers", "add", "(I)V"⟩, .instanceMethod ⟨"FromTheMiddle$Numbers", "add", "(I)V"⟩, .selects "FromTheMiddle$Numbers" ⟨"FromTheMiddle$Numbers", "add", "(I)V"⟩ ⟨"FromTheMiddle$Numbers", "add", "(I)V"⟩, .code ⟨"FromTheMiddle$Numbers", "add", "(I)V"⟩ prog_3_method_8_code 2 none, .fieldLink "FromTheMiddle$Kept" 14 "FromTheMiddle$Kept" "wall" "LFromTheMiddle$Numbers;", .fieldLink "FromTheMiddle" 80 "FromTheMiddle$Kept" "wall" "LFromTheMiddle$Numbers;", .fieldLink "FromTheMiddle$Kept" 20 "FromTheMiddle$Kept" "kinds" "LFromTheMiddle$Numbers;", .fieldLink "FromTheMiddle" 94 "FromTheMiddle$Kept" "kinds" "LFromTheMiddle$Numbers;", .fieldLink "FromTheMiddle$Kept" 23 "FromTheMiddle$Kept" "marks" "LFromTheMiddle$Numbers;", .fieldLink "FromTheMiddle" 104 "FromTheMiddle$Kept" "marks" "LFromTheMiddle$Numbers;", .fieldLink "FromTheMiddle$Kept" 26 "FromTheMiddle$Kept" "froms" "LFromTheMiddle$Numbers;", .fieldLink "FromTheMiddle" 107 "FromTheMiddle$Kept" "froms" "LFromTheMiddle$Numbers;", .fieldLink "FromTheMiddle$Kept" 29 "FromTheMiddle$Kept" "widths" "LFromTheMiddle$Numbers;", .fieldLink "FromTheMiddle" 110 "FromTheMiddle$Kept" "widths" "LFromTheMiddle$Numbers;", .fieldLink "FromTheMiddle$Kept" 32 "FromTheMiddle$Kept" "tape" "LFromTheMiddle$Numbers;", .fieldLink "FromTheMiddle" 126 "FromTheMiddle$Kept" "tape" "LFromTheMiddle$Numbers;", .fieldLink "FromTheMiddle$Kept" 35 "FromTheMiddle$Kept" "broken" "LFromTheMiddle$Numbers;", .fieldLink "FromTheMiddle$Kept" 38 "FromTheMiddle$Kept" "harm" "LFromTheMiddle$Numbers;", .fieldLink "FromTheMiddle$Kept" 41 "FromTheMiddle$Kept" "waits" "LFromTheMiddle$Numbers;", .fieldLink "FromTheMiddle" 281 "FromTheMiddle$Kept" "waits" "LFromTheMiddle$Numbers;", .fieldLink "FromTheMiddle$Kept" 44 "FromTheMiddle$Kept" "z" "I", .fieldLink "FromTheMiddle" 220 "FromTheMiddle$Kept" "z" "I", .laysFinal "FromTheMiddle$Kept" "FromTheMiddle$Kept" "wall" "LFromTheMiddle$Numbers;", .laysFinal "FromTheMiddle$Kept" "FromTheMiddle$Kept" "kinds" "LFromTheMiddle$Numbers;", .laysFinal "FromTheMiddle$Kept" "FromTheMiddle$Kept" "marks" "LFromTheMiddle$Numbers;", .laysFinal "FromTheMiddle$Kept" "FromTheMiddle$Kept" "froms" "LFromTheMiddle$Numbers;", .laysFinal "FromTheMiddle$Kept" "FromTheMiddle$Kept" "widths" "LFromTheMiddle$Numbers;", .laysFinal "FromTheMiddle$Kept" "FromTheMiddle$Kept" "tape" "LFromTheMiddle$Numbers;", .laysFinal "FromTheMiddle$Kept" "FromTheMiddle$Kept" "broken" "LFromTheMiddle$Numbers;", .laysFinal "FromTheMiddle$Kept" "FromTheMiddle$Kept" "harm" "LFromTheMiddle$Numbers;", .laysFinal "FromTheMiddle$Kept" "FromTheMiddle$Kept" "waits" "LFromTheMiddle$Numbers;"]
set_option maxRecDepth 20000 in
theorem pw_4_in : GoodIn lw_tbl pw_4 := goodIn_r _ [131, 132, 133, 134, 135, 136, 137, 138, 139, 140, 141, 142, 143, 144, 145, 146, 147, 148, 149, 150, 151, 152, 153, 154, 156, 158, 160, 162, 164, 166, 168, 170] (by decide +kernel) (by decide +kernel)
def pw_5 : List Cond := [.lays "FromTheMiddle$Kept" "FromTheMiddle$Kept" "z" "I", .classLink "FromTheMiddle" 19 "FromTheMiddle$Numbers", .methodLink "FromTheMiddle" 21 ⟨"FromTheMiddle$Numbers", "<init>", "(I)V"⟩, .classLink "FromTheMiddle" 28 "FromTheMiddle$Sheet", .instantiable "FromTheMiddle$Sheet" 2, .instanceMethod ⟨"FromTheMiddle$Sheet", "<init>", "()V"⟩, .code ⟨"FromTheMiddle$Sheet", "<init>", "()V"⟩ prog_7_method_1_code 1 none, .methodLink "FromTheMiddle$Sheet" 3 ⟨"java/lang/Object", "<init>", "()V"⟩, .classLink "FromTheMiddle$Sheet" 9 "FromTheMiddle$Numbers", .methodLink "FromTheMiddle$Sheet" 11 ⟨"FromTheMiddle$Numbers", "<init>", "(I)V"⟩, .fieldLink "FromTheMiddle$Sheet" 14 "FromTheMiddle$Sheet" "numbers" "LFromTheMiddle$Numbers;", .fieldLink "FromTheMiddle" 240 "FromTheMiddle$Sheet" "numbers" "LFromTheMiddle$Numbers;", .fieldLink "FromTheMiddle$Sheet" 20 "FromTheMiddle$Sheet" "bits" "I", .fieldLink "FromTheMiddle" 257 "FromTheMiddle$Sheet" "bits" "I", .laysFinal "FromTheMiddle$Sheet" "FromTheMiddle$Sheet" "numbers" "LFromTheMiddle$Numbers;", .lays "FromTheMiddle$Sheet" "FromTheMiddle$Sheet" "bits" "I", .classLink "FromTheMiddle" 35 "FromTheMiddle$Row", .instantiable "FromTheMiddle$Row" 9, .instanceMethod ⟨"FromTheMiddle$Row", "<init>", "()V"⟩, .code ⟨"FromTheMiddle$Row", "<init>", "()V"⟩ prog_6_method_1_code 1 none, .methodLink "FromTheMiddle$Row" 3 ⟨"java/lang/Object", "<init>", "()V"⟩, .fieldLink "FromTheMiddle$Row" 9 "FromTheMiddle$Row" "first" "I", .fieldLink "FromTheMiddle$Row" 15 "FromTheMiddle$Row" "end" "I", .fieldLink "FromTheMiddle$Row" 18 "FromTheMiddle$Row" "tile" "I", .fieldLink "FromTheMiddle$Row" 21 "FromTheMiddle$Row" "joint" "I", .fieldLink "FromTheMiddle$Row" 28 "FromTheMiddle$Row" "pieces" "I", .fieldLink "FromTheMiddle" 164 "FromTheMiddle$Row" "pieces" "I", .fieldLink "FromTheMiddle$Row" 57 "FromTheMiddle$Row" "joints" "I", .fieldLink "FromTheMiddle" 187 "FromTheMiddle$Row" "joints" "I", .fieldLink "FromTheMiddle$Row" 79 "FromTheMiddle$Row" "gap" "I", .fieldLink "FromTheMiddle" 190 "FromTheMiddle$Row" "gap" "I", .fieldLink "FromTheMiddle$Row" 63 "FromTheMiddle$Row" "touches" "I"]
set_option maxRecDepth 20000 in
theorem pw_5_in : GoodIn lw_tbl pw_5 := goodIn_r _ [172, 175, 176, 177, 179, 181, 182, 183, 184, 185, 186, 187, 188, 189, 190, 192, 195, 196, 198, 199, 200, 201, 202, 203, 204, 205, 206, 207, 208, 209, 210, 211] (by decide +kernel) (by decide +kernel)
def pw_6 : List Cond := [.fieldLink "FromTheMiddle" 193 "FromTheMiddle$Row" "touches" "I", .fieldLink "FromTheMiddle$Row" 70 "FromTheMiddle$Row" "hides" "I", .fieldLink "FromTheMiddle" 196 "FromTheMiddle$Row" "hides" "I", .lays "FromTheMiddle$Row" "FromTheMiddle$Row" "first" "I", .lays "FromTheMiddle$Row" "FromTheMiddle$Row" "end" "I", .lays "FromTheMiddle$Row" "FromTheMiddle$Row" "tile" "I", .lays "FromTheMiddle$Row" "FromTheMiddle$Row" "joint" "I", .lays "FromTheMiddle$Row" "FromTheMiddle$Row" "pieces" "I", .lays "FromTheMiddle$Row" "FromTheMiddle$Row" "joints" "I", .lays "FromTheMiddle$Row" "FromTheMiddle$Row" "gap" "I", .lays "FromTheMiddle$Row" "FromTheMiddle$Row" "touches" "I", .lays "FromTheMiddle$Row" "FromTheMiddle$Row" "hides" "I", .classLink "FromTheMiddle" 42 "FromTheMiddle$Reader", .instantiable "FromTheMiddle$Reader" 5, .instanceMethod ⟨"FromTheMiddle$Reader", "<init>", "()V"⟩, .code ⟨"FromTheMiddle$Reader", "<init>", "()V"⟩ prog_4_method_1_code 1 none, .methodLink "FromTheMiddle$Reader" 3 ⟨"java/lang/Object", "<init>", "()V"⟩, .classLink "FromTheMiddle$Reader" 9 "FromTheMiddle$Numbers", .methodLink "FromTheMiddle$Reader" 11 ⟨"FromTheMiddle$Numbers", "<init>", "(I)V"⟩, .fieldLink "FromTheMiddle$Reader" 14 "FromTheMiddle$Reader" "codes" "LFromTheMiddle$Numbers;", .fieldLink "FromTheMiddle" 147 "FromTheMiddle$Reader" "codes" "LFromTheMiddle$Numbers;", .fieldLink "FromTheMiddle$Reader" 20 "FromTheMiddle$Reader" "pending" "LFromTheMiddle$Numbers;", .fieldLink "FromTheMiddle$Reader" 26 "FromTheMiddle$Reader" "open" "I", .fieldLink "FromTheMiddle$Reader" 30 "FromTheMiddle$Reader" "digits" "I", .fieldLink "FromTheMiddle$Reader" 33 "FromTheMiddle$Reader" "wantsOperand" "Z", .laysFinal "FromTheMiddle$Reader" "FromTheMiddle$Reader" "codes" "LFromTheMiddle$Numbers;", .laysFinal "FromTheMiddle$Reader" "FromTheMiddle$Reader" "pending" "LFromTheMiddle$Numbers;", .lays "FromTheMiddle$Reader" "FromTheMiddle$Reader" "open" "I", .lays "FromTheMiddle$Reader" "FromTheMiddle$Reader" "digits" "I", .lays "FromTheMiddle$Reader" "FromTheMiddle$Reader" "wantsOperand" "Z", .classLink "FromTheMiddle" 49 "FromTheMiddle$Reckoner", .instantiable "FromTheMiddle$Reckoner" 1]
set_option maxRecDepth 20000 in
theorem pw_6_in : GoodIn lw_tbl pw_6 := goodIn_r _ [212, 213, 214, 215, 217, 219, 221, 223, 225, 227, 229, 231, 234, 235, 237, 238, 239, 240, 241, 242, 243, 244, 245, 246, 247, 248, 250, 252, 254, 256, 259, 260] (by decide +kernel) (by decide +kernel)
def pw_7 : List Cond := [.instanceMethod ⟨"FromTheMiddle$Reckoner", "<init>", "()V"⟩, .code ⟨"FromTheMiddle$Reckoner", "<init>", "()V"⟩ prog_5_method_1_code 1 none, .methodLink "FromTheMiddle$Reckoner" 3 ⟨"java/lang/Object", "<init>", "()V"⟩, .classLink "FromTheMiddle$Reckoner" 9 "FromTheMiddle$Numbers", .methodLink "FromTheMiddle$Reckoner" 11 ⟨"FromTheMiddle$Numbers", "<init>", "(I)V"⟩, .fieldLink "FromTheMiddle$Reckoner" 14 "FromTheMiddle$Reckoner" "stack" "LFromTheMiddle$Numbers;", .laysFinal "FromTheMiddle$Reckoner" "FromTheMiddle$Reckoner" "stack" "LFromTheMiddle$Numbers;", .classLink "FromTheMiddle" 56 "FromTheMiddle$Voices", .instantiable "FromTheMiddle$Voices" 4, .instanceMethod ⟨"FromTheMiddle$Voices", "<init>", "()V"⟩, .code ⟨"FromTheMiddle$Voices", "<init>", "()V"⟩ prog_8_method_1_code 1 none, .methodLink "FromTheMiddle$Voices" 3 ⟨"java/lang/Object", "<init>", "()V"⟩, .classLink "FromTheMiddle$Voices" 9 "FromTheMiddle$Numbers", .methodLink "FromTheMiddle$Voices" 11 ⟨"FromTheMiddle$Numbers", "<init>", "(I)V"⟩, .fieldLink "FromTheMiddle$Voices" 14 "FromTheMiddle$Voices" "trace" "LFromTheMiddle$Numbers;", .fieldLink "FromTheMiddle" 251 "FromTheMiddle$Voices" "trace" "LFromTheMiddle$Numbers;", .fieldLink "FromTheMiddle$Voices" 20 "FromTheMiddle$Voices" "kind" "I", .fieldLink "FromTheMiddle$Voices" 24 "FromTheMiddle$Voices" "number" "I", .fieldLink "FromTheMiddle$Voices" 27 "FromTheMiddle$Voices" "mark" "I", .laysFinal "FromTheMiddle$Voices" "FromTheMiddle$Voices" "trace" "LFromTheMiddle$Numbers;", .lays "FromTheMiddle$Voices" "FromTheMiddle$Voices" "kind" "I", .lays "FromTheMiddle$Voices" "FromTheMiddle$Voices" "number" "I", .lays "FromTheMiddle$Voices" "FromTheMiddle$Voices" "mark" "I", .methodLink "FromTheMiddle" 63 ⟨"FromTheMiddle$Numbers", "fillWithZeros", "(I)V"⟩, .instanceMethod ⟨"FromTheMiddle$Numbers", "fillWithZeros", "(I)V"⟩, .selects "FromTheMiddle$Numbers" ⟨"FromTheMiddle$Numbers", "fillWithZeros", "(I)V"⟩ ⟨"FromTheMiddle$Numbers", "fillWithZeros", "(I)V"⟩, .code ⟨"FromTheMiddle$Numbers", "fillWithZeros", "(I)V"⟩ prog_3_method_11_code 3 none, .methodLink "FromTheMiddle$Numbers" 23 ⟨"java/lang/Math", "min", "(II)I"⟩, .static ⟨"java/lang/Math", "min", "(II)I"⟩, .code ⟨"java/lang/Math", "min", "(II)I"⟩ prog_12_method_69_code 2 (some .int), .fieldLink "FromTheMiddle" 10 "FromTheMiddle" "now" "LFromTheMiddle$Kept;", .fieldLink "FromTheMiddle" 16 "FromTheMiddle" "kept" "LFromTheMiddle$Kept;"]
set_option maxRecDepth 20000 in
theorem pw_7_in : GoodIn lw_tbl pw_7 := goodIn_r _ [262, 263, 264, 265, 266, 267, 268, 271, 272, 274, 275, 276, 277, 278, 279, 280, 281, 282, 283, 284, 286, 288, 290, 293, 294, 295, 296, 297, 298, 299, 300, 301] (by decide +kernel) (by decide +kernel)
def pw_8 : List Cond := [.fieldLink "FromTheMiddle" 278 "FromTheMiddle" "images" "I", .fieldLink "FromTheMiddle" 24 "FromTheMiddle" "errors" "LFromTheMiddle$Numbers;", .fieldLink "FromTheMiddle" 31 "FromTheMiddle" "sheets" "[LFromTheMiddle$Sheet;", .fieldLink "FromTheMiddle" 38 "FromTheMiddle" "laid" "LFromTheMiddle$Row;", .fieldLink "FromTheMiddle" 45 "FromTheMiddle" "reader" "LFromTheMiddle$Reader;", .fieldLink "FromTheMiddle" 52 "FromTheMiddle" "reckoner" "LFromTheMiddle$Reckoner;", .fieldLink "FromTheMiddle" 59 "FromTheMiddle" "voices" "LFromTheMiddle$Voices;", .laysFinal "FromTheMiddle" "FromTheMiddle" "now" "LFromTheMiddle$Kept;", .laysFinal "FromTheMiddle" "FromTheMiddle" "kept" "LFromTheMiddle$Kept;", .lays "FromTheMiddle" "FromTheMiddle" "images" "I", .laysFinal "FromTheMiddle" "FromTheMiddle" "errors" "LFromTheMiddle$Numbers;", .laysFinal "FromTheMiddle" "FromTheMiddle" "sheets" "[LFromTheMiddle$Sheet;", .laysFinal "FromTheMiddle" "FromTheMiddle" "laid" "LFromTheMiddle$Row;", .laysFinal "FromTheMiddle" "FromTheMiddle" "reader" "LFromTheMiddle$Reader;", .laysFinal "FromTheMiddle" "FromTheMiddle" "reckoner" "LFromTheMiddle$Reckoner;", .laysFinal "FromTheMiddle" "FromTheMiddle" "voices" "LFromTheMiddle$Voices;", .methodLink "FromTheMiddleLaw" 13 ⟨"FromTheMiddle", "wall", "(II)I"⟩, .instanceMethod ⟨"FromTheMiddle", "wall", "(II)I"⟩, .selects "FromTheMiddle" ⟨"FromTheMiddle", "wall", "(II)I"⟩ ⟨"FromTheMiddle", "wall", "(II)I"⟩, .code ⟨"FromTheMiddle", "wall", "(II)I"⟩ prog_1_method_2_code 4 (some .int), .fieldLink "FromTheMiddle" 66 "FromTheMiddle" "LEAST" "[I", .fieldLink "FromTheMiddle" 70 "FromTheMiddle" "MOST" "[I", .methodLink "FromTheMiddle" 73 ⟨"FromTheMiddle", "error", "(I)I"⟩, .instanceMethod ⟨"FromTheMiddle", "error", "(I)I"⟩, .code ⟨"FromTheMiddle", "error", "(I)I"⟩ prog_1_method_39_code 2 (some .int), .methodLink "FromTheMiddle" 119 ⟨"FromTheMiddle$Numbers", "get", "(I)I"⟩, .instanceMethod ⟨"FromTheMiddle$Numbers", "get", "(I)I"⟩, .selects "FromTheMiddle$Numbers" ⟨"FromTheMiddle$Numbers", "get", "(I)I"⟩ ⟨"FromTheMiddle$Numbers", "get", "(I)I"⟩, .code ⟨"FromTheMiddle$Numbers", "get", "(I)I"⟩ prog_3_method_6_code 2 (some .int), .methodLink "FromTheMiddle" 83 ⟨"FromTheMiddle$Numbers", "set", "(II)V"⟩, .instanceMethod ⟨"FromTheMiddle$Numbers", "set", "(II)V"⟩, .selects "FromTheMiddle$Numbers" ⟨"FromTheMiddle$Numbers", "set", "(II)V"⟩ ⟨"FromTheMiddle$Numbers", "set", "(II)V"⟩]
set_option maxRecDepth 20000 in
theorem pw_8_in : GoodIn lw_tbl pw_8 := goodIn_r _ [302, 303, 304, 305, 306, 307, 308, 309, 311, 313, 315, 317, 319, 321, 323, 325, 328, 329, 330, 331, 332, 334, 336, 338, 339, 340, 341, 342, 343, 344, 345, 346] (by decide +kernel) (by decide +kernel)
def pw_9 : List Cond := [.code ⟨"FromTheMiddle$Numbers", "set", "(II)V"⟩ prog_3_method_7_code 3 none, .constant "FromTheMiddle" 284 (-1000000000), .methodLink "FromTheMiddle" 77 ⟨"FromTheMiddle", "is", "(I)I"⟩, .instanceMethod ⟨"FromTheMiddle", "is", "(I)I"⟩, .code ⟨"FromTheMiddle", "is", "(I)I"⟩ prog_1_method_40_code 2 (some .int), .methodLink "FromTheMiddleLaw" 18 ⟨"FromTheMiddle", "wallIs", "(I)I"⟩, .instanceMethod ⟨"FromTheMiddle", "wallIs", "(I)I"⟩, .selects "FromTheMiddle" ⟨"FromTheMiddle", "wallIs", "(I)I"⟩ ⟨"FromTheMiddle", "wallIs", "(I)I"⟩, .code ⟨"FromTheMiddle", "wallIs", "(I)I"⟩ prog_1_method_3_code 2 (some .int), .methodLink "FromTheMiddleLaw" 23 ⟨"FromTheMiddle", "begin", "(I)I"⟩, .instanceMethod ⟨"FromTheMiddle", "begin", "(I)I"⟩, .selects "FromTheMiddle" ⟨"FromTheMiddle", "begin", "(I)I"⟩ ⟨"FromTheMiddle", "begin", "(I)I"⟩, .code ⟨"FromTheMiddle", "begin", "(I)I"⟩ prog_1_method_4_code 3 (some .int), .methodLink "FromTheMiddleLaw" 27 ⟨"FromTheMiddle", "thing", "(III)I"⟩, .instanceMethod ⟨"FromTheMiddle", "thing", "(III)I"⟩, .selects "FromTheMiddle" ⟨"FromTheMiddle", "thing", "(III)I"⟩ ⟨"FromTheMiddle", "thing", "(III)I"⟩, .code ⟨"FromTheMiddle", "thing", "(III)I"⟩ prog_1_method_5_code 4 (some .int), .methodLink "FromTheMiddle" 87 ⟨"FromTheMiddle", "isKindAndMark", "(I)Z"⟩, .static ⟨"FromTheMiddle", "isKindAndMark", "(I)Z"⟩, .code ⟨"FromTheMiddle", "isKindAndMark", "(I)Z"⟩ prog_1_method_44_code 1 (some .boolean), .methodLink "FromTheMiddle" 91 ⟨"FromTheMiddle", "isFrom", "(I)Z"⟩, .static ⟨"FromTheMiddle", "isFrom", "(I)Z"⟩, .code ⟨"FromTheMiddle", "isFrom", "(I)Z"⟩ prog_1_method_45_code 1 (some .boolean), .methodLink "FromTheMiddle" 97 ⟨"FromTheMiddle$Numbers", "room", "()I"⟩, .instanceMethod ⟨"FromTheMiddle$Numbers", "room", "()I"⟩, .selects "FromTheMiddle$Numbers" ⟨"FromTheMiddle$Numbers", "room", "()I"⟩ ⟨"FromTheMiddle$Numbers", "room", "()I"⟩, .code ⟨"FromTheMiddle$Numbers", "room", "()I"⟩ prog_3_method_3_code 1 (some .int), .methodLink "FromTheMiddle" 101 ⟨"FromTheMiddle$Numbers", "add", "(I)V"⟩, .methodLink "FromTheMiddle" 113 ⟨"FromTheMiddle$Numbers", "size", "()I"⟩, .instanceMethod ⟨"FromTheMiddle$Numbers", "size", "()I"⟩, .selects "FromTheMiddle$Numbers" ⟨"FromTheMiddle$Numbers", "size", "()I"⟩ ⟨"FromTheMiddle$Numbers", "size", "()I"⟩, .code ⟨"FromTheMiddle$Numbers", "size", "()I"⟩ prog_3_method_2_code 1 (some .int)]
set_option maxRecDepth 20000 in
theorem pw_9_in : GoodIn lw_tbl pw_9 := goodIn_r _ [347, 348, 349, 351, 352, 353, 354, 355, 356, 357, 358, 359, 360, 361, 362, 363, 364, 365, 366, 367, 368, 369, 370, 371, 372, 373, 374, 375, 376, 377, 378, 379] (by decide +kernel) (by decide +kernel)
def pw_10 : List Cond := [.methodLink "FromTheMiddleLaw" 32 ⟨"FromTheMiddle", "thingIs", "(II)I"⟩, .instanceMethod ⟨"FromTheMiddle", "thingIs", "(II)I"⟩, .selects "FromTheMiddle" ⟨"FromTheMiddle", "thingIs", "(II)I"⟩ ⟨"FromTheMiddle", "thingIs", "(II)I"⟩, .code ⟨"FromTheMiddle", "thingIs", "(II)I"⟩ prog_1_method_6_code 3 (some .int), .methodLink "FromTheMiddle" 116 ⟨"FromTheMiddle", "isThing", "(I)Z"⟩, .instanceMethod ⟨"FromTheMiddle", "isThing", "(I)Z"⟩, .code ⟨"FromTheMiddle", "isThing", "(I)Z"⟩ prog_1_method_41_code 2 (some .boolean), .methodLink "FromTheMiddle" 254 ⟨"FromTheMiddle$Numbers", "stands", "(I)Z"⟩, .instanceMethod ⟨"FromTheMiddle$Numbers", "stands", "(I)Z"⟩, .selects "FromTheMiddle$Numbers" ⟨"FromTheMiddle$Numbers", "stands", "(I)Z"⟩ ⟨"FromTheMiddle$Numbers", "stands", "(I)Z"⟩, .code ⟨"FromTheMiddle$Numbers", "stands", "(I)Z"⟩ prog_3_method_4_code 2 (some .boolean), .methodLink "FromTheMiddleLaw" 36 ⟨"FromTheMiddle", "become", "(II)I"⟩, .instanceMethod ⟨"FromTheMiddle", "become", "(II)I"⟩, .selects "FromTheMiddle" ⟨"FromTheMiddle", "become", "(II)I"⟩ ⟨"FromTheMiddle", "become", "(II)I"⟩, .code ⟨"FromTheMiddle", "become", "(II)I"⟩ prog_1_method_7_code 4 (some .int), .methodLink "FromTheMiddleLaw" 40 ⟨"FromTheMiddle", "as", "(II)I"⟩, .instanceMethod ⟨"FromTheMiddle", "as", "(II)I"⟩, .selects "FromTheMiddle" ⟨"FromTheMiddle", "as", "(II)I"⟩ ⟨"FromTheMiddle", "as", "(II)I"⟩, .code ⟨"FromTheMiddle", "as", "(II)I"⟩ prog_1_method_8_code 3 (some .int), .methodLink "FromTheMiddle" 122 ⟨"FromTheMiddle", "isOfKind", "(II)Z"⟩, .static ⟨"FromTheMiddle", "isOfKind", "(II)Z"⟩, .code ⟨"FromTheMiddle", "isOfKind", "(II)Z"⟩ prog_1_method_47_code 2 (some .boolean), .methodLink "FromTheMiddle" 285 ⟨"FromTheMiddle", "kindAbove", "(I)I"⟩, .static ⟨"FromTheMiddle", "kindAbove", "(I)I"⟩, .code ⟨"FromTheMiddle", "kindAbove", "(I)I"⟩ prog_1_method_48_code 1 (some .int), .methodLink "FromTheMiddleLaw" 44 ⟨"FromTheMiddle", "hang", "(II)I"⟩, .instanceMethod ⟨"FromTheMiddle", "hang", "(II)I"⟩, .selects "FromTheMiddle" ⟨"FromTheMiddle", "hang", "(II)I"⟩ ⟨"FromTheMiddle", "hang", "(II)I"⟩, .code ⟨"FromTheMiddle", "hang", "(II)I"⟩ prog_1_method_9_code 4 (some .int), .methodLink "FromTheMiddleLaw" 50 ⟨"FromTheMiddle", "feed", "(JI)I"⟩, .instanceMethod ⟨"FromTheMiddle", "feed", "(JI)I"⟩, .selects "FromTheMiddle" ⟨"FromTheMiddle", "feed", "(JI)I"⟩ ⟨"FromTheMiddle", "feed", "(JI)I"⟩]
set_option maxRecDepth 20000 in
theorem pw_10_in : GoodIn lw_tbl pw_10 := goodIn_r _ [380, 381, 382, 383, 384, 386, 387, 388, 389, 390, 391, 392, 393, 394, 395, 396, 397, 398, 399, 400, 401, 402, 403, 404, 405, 406, 407, 408, 409, 410, 411, 412] (by decide +kernel) (by decide +kernel)
def pw_11 : List Cond := [.code ⟨"FromTheMiddle", "feed", "(JI)I"⟩ prog_1_method_10_code 5 (some .int), .methodLink "FromTheMiddleLaw" 55 ⟨"FromTheMiddle", "text", "(I)I"⟩, .instanceMethod ⟨"FromTheMiddle", "text", "(I)I"⟩, .selects "FromTheMiddle" ⟨"FromTheMiddle", "text", "(I)I"⟩ ⟨"FromTheMiddle", "text", "(I)I"⟩, .code ⟨"FromTheMiddle", "text", "(I)I"⟩ prog_1_method_11_code 3 (some .int), .methodLink "FromTheMiddle" 129 ⟨"FromTheMiddle", "isUse", "(I)Z"⟩, .static ⟨"FromTheMiddle", "isUse", "(I)Z"⟩, .code ⟨"FromTheMiddle", "isUse", "(I)Z"⟩ prog_1_method_46_code 1 (some .boolean), .methodLink "FromTheMiddle" 136 ⟨"FromTheMiddle$Reader", "read", "(LFromTheMiddle$Numbers;Ljava/lang/String;)I"⟩, .instanceMethod ⟨"FromTheMiddle$Reader", "read", "(LFromTheMiddle$Numbers;Ljava/lang/String;)I"⟩, .selects "FromTheMiddle$Reader" ⟨"FromTheMiddle$Reader", "read", "(LFromTheMiddle$Numbers;Ljava/lang/String;)I"⟩ ⟨"FromTheMiddle$Reader", "read", "(LFromTheMiddle$Numbers;Ljava/lang/String;)I"⟩, .code ⟨"FromTheMiddle$Reader", "read", "(LFromTheMiddle$Numbers;Ljava/lang/String;)I"⟩ prog_4_method_2_code 6 (some .int), .methodLink "FromTheMiddle$Reader" 23 ⟨"FromTheMiddle$Numbers", "clear", "()V"⟩, .instanceMethod ⟨"FromTheMiddle$Numbers", "clear", "()V"⟩, .selects "FromTheMiddle$Numbers" ⟨"FromTheMiddle$Numbers", "clear", "()V"⟩ ⟨"FromTheMiddle$Numbers", "clear", "()V"⟩, .code ⟨"FromTheMiddle$Numbers", "clear", "()V"⟩ prog_3_method_10_code 1 none, .methodLink "FromTheMiddle$Reader" 37 ⟨"FromTheMiddle$Numbers", "size", "()I"⟩, .methodLink "FromTheMiddle$Reader" 41 ⟨"FromTheMiddle$Numbers", "get", "(I)I"⟩, .methodLink "FromTheMiddle$Reader" 45 ⟨"FromTheMiddle$Reader", "beginOperand", "(ILjava/lang/String;)Z"⟩, .instanceMethod ⟨"FromTheMiddle$Reader", "beginOperand", "(ILjava/lang/String;)Z"⟩, .code ⟨"FromTheMiddle$Reader", "beginOperand", "(ILjava/lang/String;)Z"⟩ prog_4_method_3_code 4 (some .boolean), .methodLink "FromTheMiddle$Reader" 56 ⟨"FromTheMiddle$Numbers", "add", "(I)V"⟩, .methodLink "FromTheMiddle$Reader" 59 ⟨"FromTheMiddle$Reader", "isDigit", "(I)Z"⟩, .static ⟨"FromTheMiddle$Reader", "isDigit", "(I)Z"⟩, .code ⟨"FromTheMiddle$Reader", "isDigit", "(I)Z"⟩ prog_4_method_8_code 1 (some .boolean), .methodLink "FromTheMiddle$Reader" 62 ⟨"java/lang/String", "indexOf", "(I)I"⟩, .instanceMethod ⟨"java/lang/String", "indexOf", "(I)I"⟩, .selects "java/lang/String" ⟨"java/lang/String", "indexOf", "(I)I"⟩ ⟨"java/lang/String", "indexOf", "(I)I"⟩, .code ⟨"java/lang/String", "indexOf", "(I)I"⟩ prog_13_method_79_code 2 (some .int), .methodLink "java/lang/String" 633 ⟨"java/lang/String", "indexOf", "(II)I"⟩, .instanceMethod ⟨"java/lang/String", "indexOf", "(II)I"⟩, .selects "java/lang/String" ⟨"java/lang/String", "indexOf", "(II)I"⟩ ⟨"java/lang/String", "indexOf", "(II)I"⟩]
set_option maxRecDepth 20000 in
theorem pw_11_in : GoodIn lw_tbl pw_11 := goodIn_r _ [413, 414, 415, 416, 417, 418, 419, 420, 423, 424, 425, 426, 427, 428, 429, 430, 431, 432, 433, 435, 436, 437, 438, 439, 440, 441, 442, 443, 444, 445, 446, 447] (by decide +kernel) (by decide +kernel)
def pw_12 : List Cond := [.code ⟨"java/lang/String", "indexOf", "(II)I"⟩ prog_13_method_80_code 3 (some .int), .methodLink "java/lang/String" 492 ⟨"java/lang/String", "isLatin1", "()Z"⟩, .instanceMethod ⟨"java/lang/String", "isLatin1", "()Z"⟩, .selects "java/lang/String" ⟨"java/lang/String", "isLatin1", "()Z"⟩ ⟨"java/lang/String", "isLatin1", "()Z"⟩, .code ⟨"java/lang/String", "isLatin1", "()Z"⟩ prog_13_method_154_code 1 (some .boolean), .fieldLink "java/lang/String" 38 "java/lang/String" "COMPACT_STRINGS" "Z", .methodLink "java/lang/String" 505 ⟨"java/lang/String", "length", "()I"⟩, .instanceMethod ⟨"java/lang/String", "length", "()I"⟩, .selects "java/lang/String" ⟨"java/lang/String", "length", "()I"⟩ ⟨"java/lang/String", "length", "()I"⟩, .code ⟨"java/lang/String", "length", "()I"⟩ prog_13_method_54_code 1 (some .int), .methodLink "java/lang/String" 335 ⟨"java/lang/String", "coder", "()B"⟩, .instanceMethod ⟨"java/lang/String", "coder", "()B"⟩, .selects "java/lang/String" ⟨"java/lang/String", "coder", "()B"⟩ ⟨"java/lang/String", "coder", "()B"⟩, .code ⟨"java/lang/String", "coder", "()B"⟩ prog_13_method_152_code 1 (some .byte), .methodLink "java/lang/String" 637 ⟨"java/lang/StringLatin1", "indexOf", "([BIII)I"⟩, .static ⟨"java/lang/StringLatin1", "indexOf", "([BIII)I"⟩, .code ⟨"java/lang/StringLatin1", "indexOf", "([BIII)I"⟩ prog_14_method_22_code 4 (some .int), .methodLink "java/lang/StringLatin1" 88 ⟨"java/lang/StringLatin1", "canEncode", "(I)Z"⟩, .static ⟨"java/lang/StringLatin1", "canEncode", "(I)Z"⟩, .code ⟨"java/lang/StringLatin1", "canEncode", "(I)Z"⟩ prog_14_method_4_code 1 (some .boolean), .methodLink "java/lang/StringLatin1" 92 ⟨"java/lang/Math", "max", "(II)I"⟩, .methodLink "java/lang/StringLatin1" 38 ⟨"java/lang/Math", "min", "(II)I"⟩, .methodLink "java/lang/StringLatin1" 95 ⟨"java/lang/StringLatin1", "indexOfChar", "([BIII)I"⟩, .static ⟨"java/lang/StringLatin1", "indexOfChar", "([BIII)I"⟩, .code ⟨"java/lang/StringLatin1", "indexOfChar", "([BIII)I"⟩ prog_14_method_23_code 6 (some .int), .methodLink "java/lang/String" 640 ⟨"java/lang/StringUTF16", "indexOf", "([BIII)I"⟩, .static ⟨"java/lang/StringUTF16", "indexOf", "([BIII)I"⟩, .code ⟨"java/lang/StringUTF16", "indexOf", "([BIII)I"⟩ prog_15_method_40_code 4 (some .int), .methodLink "java/lang/StringUTF16" 224 ⟨"java/lang/Math", "max", "(II)I"⟩, .methodLink "java/lang/StringUTF16" 183 ⟨"java/lang/Math", "min", "(II)I"⟩, .constant "java/lang/StringUTF16" 227 65536, .methodLink "java/lang/StringUTF16" 228 ⟨"java/lang/StringUTF16", "indexOfChar", "([BIII)I"⟩]
set_option maxRecDepth 20000 in
theorem pw_12_in : GoodIn lw_tbl pw_12 := goodIn_r _ [448, 449, 450, 451, 452, 453, 455, 456, 457, 458, 459, 460, 461, 462, 463, 464, 465, 466, 467, 468, 469, 470, 471, 472, 473, 474, 475, 476, 477, 478, 479, 480] (by decide +kernel) (by decide +kernel)
def pw_13 : List Cond := [.static ⟨"java/lang/StringUTF16", "indexOfChar", "([BIII)I"⟩, .code ⟨"java/lang/StringUTF16", "indexOfChar", "([BIII)I"⟩ prog_15_method_47_code 4 (some .int), .methodLink "java/lang/StringUTF16" 96 ⟨"java/lang/StringUTF16", "checkBoundsBeginEnd", "(II[B)V"⟩, .static ⟨"java/lang/StringUTF16", "checkBoundsBeginEnd", "(II[B)V"⟩, .code ⟨"java/lang/StringUTF16", "checkBoundsBeginEnd", "(II[B)V"⟩ prog_15_method_93_code 3 none, .methodLink "java/lang/StringUTF16" 48 ⟨"java/lang/StringUTF16", "length", "([B)I"⟩, .static ⟨"java/lang/StringUTF16", "length", "([B)I"⟩, .code ⟨"java/lang/StringUTF16", "length", "([B)I"⟩ prog_15_method_6_code 1 (some .int), .methodLink "java/lang/StringUTF16" 241 ⟨"java/lang/String", "checkBoundsBeginEnd", "(III)V"⟩, .static ⟨"java/lang/String", "checkBoundsBeginEnd", "(III)V"⟩, .code ⟨"java/lang/String", "checkBoundsBeginEnd", "(III)V"⟩ prog_13_method_158_code 3 none, .fieldLink "java/lang/String" 1053 "jdk/internal/util/Preconditions" "SIOOBE_FORMATTER" "Ljava/util/function/BiFunction;", .methodLink "java/lang/String" 1062 ⟨"jdk/internal/util/Preconditions", "checkFromToIndex", "(IIILjava/util/function/BiFunction;)I"⟩, .static ⟨"jdk/internal/util/Preconditions", "checkFromToIndex", "(IIILjava/util/function/BiFunction;)I"⟩, .code ⟨"jdk/internal/util/Preconditions", "checkFromToIndex", "(IIILjava/util/function/BiFunction;)I"⟩ prog_17_method_12_code 4 (some .int), .methodLink "java/lang/StringUTF16" 244 ⟨"java/lang/StringUTF16", "indexOfCharUnsafe", "([BIII)I"⟩, .static ⟨"java/lang/StringUTF16", "indexOfCharUnsafe", "([BIII)I"⟩, .code ⟨"java/lang/StringUTF16", "indexOfCharUnsafe", "([BIII)I"⟩ prog_15_method_48_code 5 (some .int), .methodLink "java/lang/StringUTF16" 71 ⟨"java/lang/StringUTF16", "getChar", "([BI)C"⟩, .static ⟨"java/lang/StringUTF16", "getChar", "([BI)C"⟩, .code ⟨"java/lang/StringUTF16", "getChar", "([BI)C"⟩ prog_15_method_5_code 2 (some .char), .fieldLink "java/lang/StringUTF16" 44 "java/lang/StringUTF16" "$assertionsDisabled" "Z", .fieldLink "java/lang/StringUTF16" 59 "java/lang/StringUTF16" "HI_BYTE_SHIFT" "I", .fieldLink "java/lang/StringUTF16" 63 "java/lang/StringUTF16" "LO_BYTE_SHIFT" "I", .methodLink "java/lang/StringUTF16" 232 ⟨"java/lang/StringUTF16", "indexOfSupplementary", "([BIII)I"⟩, .static ⟨"java/lang/StringUTF16", "indexOfSupplementary", "([BIII)I"⟩, .code ⟨"java/lang/StringUTF16", "indexOfSupplementary", "([BIII)I"⟩ prog_15_method_49_code 7 (some .int), .methodLink "java/lang/StringUTF16" 164 ⟨"java/lang/Character", "isValidCodePoint", "(I)Z"⟩, .static ⟨"java/lang/Character", "isValidCodePoint", "(I)Z"⟩, .code ⟨"java/lang/Character", "isValidCodePoint", "(I)Z"⟩ prog_11_method_11_code 2 (some .boolean), .methodLink "java/lang/StringUTF16" 157 ⟨"java/lang/Character", "highSurrogate", "(I)C"⟩, .static ⟨"java/lang/Character", "highSurrogate", "(I)C"⟩]
set_option maxRecDepth 20000 in
theorem pw_13_in : GoodIn lw_tbl pw_13 := goodIn_r _ [481, 482, 483, 484, 485, 486, 487, 488, 489, 490, 491, 492, 494, 495, 496, 497, 498, 499, 500, 501, 502, 503, 505, 507, 509, 510, 511, 512, 513, 514, 515, 516] (by decide +kernel) (by decide +kernel)
def pw_14 : List Cond := [.code ⟨"java/lang/Character", "highSurrogate", "(I)C"⟩ prog_11_method_28_code 1 (some .char), .constant "java/lang/Character" 110 55232, .methodLink "java/lang/StringUTF16" 161 ⟨"java/lang/Character", "lowSurrogate", "(I)C"⟩, .static ⟨"java/lang/Character", "lowSurrogate", "(I)C"⟩, .code ⟨"java/lang/Character", "lowSurrogate", "(I)C"⟩ prog_11_method_29_code 1 (some .char), .constant "java/lang/Character" 76 56320, .methodLink "FromTheMiddle$Reader" 49 ⟨"FromTheMiddle$Reader", "goOn", "(I)Z"⟩, .instanceMethod ⟨"FromTheMiddle$Reader", "goOn", "(I)Z"⟩, .code ⟨"FromTheMiddle$Reader", "goOn", "(I)Z"⟩ prog_4_method_4_code 3 (some .boolean), .methodLink "FromTheMiddle$Reader" 67 ⟨"FromTheMiddle$Reader", "addDigit", "(I)Z"⟩, .instanceMethod ⟨"FromTheMiddle$Reader", "addDigit", "(I)Z"⟩, .code ⟨"FromTheMiddle$Reader", "addDigit", "(I)Z"⟩ prog_4_method_5_code 2 (some .boolean), .methodLink "FromTheMiddle$Reader" 77 ⟨"FromTheMiddle$Numbers", "pop", "()I"⟩, .instanceMethod ⟨"FromTheMiddle$Numbers", "pop", "()I"⟩, .selects "FromTheMiddle$Numbers" ⟨"FromTheMiddle$Numbers", "pop", "()I"⟩ ⟨"FromTheMiddle$Numbers", "pop", "()I"⟩, .code ⟨"FromTheMiddle$Numbers", "pop", "()I"⟩ prog_3_method_9_code 1 (some .int), .methodLink "FromTheMiddle$Reader" 70 ⟨"FromTheMiddle$Reader", "close", "()Z"⟩, .instanceMethod ⟨"FromTheMiddle$Reader", "close", "()Z"⟩, .code ⟨"FromTheMiddle$Reader", "close", "()Z"⟩ prog_4_method_6_code 1 (some .boolean), .methodLink "FromTheMiddle$Reader" 53 ⟨"FromTheMiddle$Reader", "settle", "(I)V"⟩, .instanceMethod ⟨"FromTheMiddle$Reader", "settle", "(I)V"⟩, .code ⟨"FromTheMiddle$Reader", "settle", "(I)V"⟩ prog_4_method_7_code 4 none, .methodLink "FromTheMiddle$Reader" 74 ⟨"FromTheMiddle$Reader", "rankOf", "(I)I"⟩, .static ⟨"FromTheMiddle$Reader", "rankOf", "(I)I"⟩, .code ⟨"FromTheMiddle$Reader", "rankOf", "(I)I"⟩ prog_4_method_9_code 1 (some .int), .methodLink "FromTheMiddle" 140 ⟨"FromTheMiddle$Numbers", "clear", "()V"⟩, .methodLink "FromTheMiddle" 143 ⟨"FromTheMiddle$Kept", "textOf", "(I)LFromTheMiddle$Numbers;"⟩, .instanceMethod ⟨"FromTheMiddle$Kept", "textOf", "(I)LFromTheMiddle$Numbers;"⟩, .selects "FromTheMiddle$Kept" ⟨"FromTheMiddle$Kept", "textOf", "(I)LFromTheMiddle$Numbers;"⟩ ⟨"FromTheMiddle$Kept", "textOf", "(I)LFromTheMiddle$Numbers;"⟩, .code ⟨"FromTheMiddle$Kept", "textOf", "(I)LFromTheMiddle$Numbers;"⟩ prog_2_method_2_code 2 (some (.object "FromTheMiddle$Numbers")), .methodLink "FromTheMiddle" 150 ⟨"FromTheMiddle$Numbers", "copy", "(LFromTheMiddle$Numbers;)V"⟩, .instanceMethod ⟨"FromTheMiddle$Numbers", "copy", "(LFromTheMiddle$Numbers;)V"⟩]
set_option maxRecDepth 20000 in
theorem pw_14_in : GoodIn lw_tbl pw_14 := goodIn_r _ [517, 518, 519, 520, 521, 522, 523, 525, 526, 527, 529, 530, 531, 532, 533, 534, 535, 537, 538, 539, 541, 542, 543, 544, 545, 546, 547, 548, 549, 550, 551, 552] (by decide +kernel) (by decide +kernel)
def pw_15 : List Cond := [.selects "FromTheMiddle$Numbers" ⟨"FromTheMiddle$Numbers", "copy", "(LFromTheMiddle$Numbers;)V"⟩ ⟨"FromTheMiddle$Numbers", "copy", "(LFromTheMiddle$Numbers;)V"⟩, .code ⟨"FromTheMiddle$Numbers", "copy", "(LFromTheMiddle$Numbers;)V"⟩ prog_3_method_13_code 2 none, .methodLink "FromTheMiddle$Numbers" 36 ⟨"FromTheMiddle$Numbers", "fillWithZeros", "(I)V"⟩, .methodLink "FromTheMiddle$Numbers" 40 ⟨"FromTheMiddle$Numbers", "take", "(LFromTheMiddle$Numbers;III)V"⟩, .instanceMethod ⟨"FromTheMiddle$Numbers", "take", "(LFromTheMiddle$Numbers;III)V"⟩, .selects "FromTheMiddle$Numbers" ⟨"FromTheMiddle$Numbers", "take", "(LFromTheMiddle$Numbers;III)V"⟩ ⟨"FromTheMiddle$Numbers", "take", "(LFromTheMiddle$Numbers;III)V"⟩, .code ⟨"FromTheMiddle$Numbers", "take", "(LFromTheMiddle$Numbers;III)V"⟩ prog_3_method_12_code 5 none, .methodLink "FromTheMiddle$Numbers" 26 ⟨"FromTheMiddle$Numbers", "stretches", "(II)Z"⟩, .instanceMethod ⟨"FromTheMiddle$Numbers", "stretches", "(II)Z"⟩, .selects "FromTheMiddle$Numbers" ⟨"FromTheMiddle$Numbers", "stretches", "(II)Z"⟩ ⟨"FromTheMiddle$Numbers", "stretches", "(II)Z"⟩, .code ⟨"FromTheMiddle$Numbers", "stretches", "(II)Z"⟩ prog_3_method_5_code 3 (some .boolean), .methodLink "FromTheMiddle$Numbers" 30 ⟨"java/lang/System", "arraycopy", "(Ljava/lang/Object;ILjava/lang/Object;II)V"⟩, .static ⟨"java/lang/System", "arraycopy", "(Ljava/lang/Object;ILjava/lang/Object;II)V"⟩, .native ⟨"java/lang/System", "arraycopy", "(Ljava/lang/Object;ILjava/lang/Object;II)V"⟩, .arrayClass .byte, .methodLink "FromTheMiddleLaw" 59 ⟨"FromTheMiddle", "untell", "(I)I"⟩, .instanceMethod ⟨"FromTheMiddle", "untell", "(I)I"⟩, .selects "FromTheMiddle" ⟨"FromTheMiddle", "untell", "(I)I"⟩ ⟨"FromTheMiddle", "untell", "(I)I"⟩, .code ⟨"FromTheMiddle", "untell", "(I)I"⟩ prog_1_method_12_code 3 (some .int), .methodLink "FromTheMiddleLaw" 63 ⟨"FromTheMiddle", "law", "(IIII)I"⟩, .instanceMethod ⟨"FromTheMiddle", "law", "(IIII)I"⟩, .selects "FromTheMiddle" ⟨"FromTheMiddle", "law", "(IIII)I"⟩ ⟨"FromTheMiddle", "law", "(IIII)I"⟩, .code ⟨"FromTheMiddle", "law", "(IIII)I"⟩ prog_1_method_13_code 5 (some .int), .methodLink "FromTheMiddle" 154 ⟨"FromTheMiddle", "ruled", "(IIII)I"⟩, .instanceMethod ⟨"FromTheMiddle", "ruled", "(IIII)I"⟩, .code ⟨"FromTheMiddle", "ruled", "(IIII)I"⟩ prog_1_method_66_code 8 (some .int), .methodLink "FromTheMiddle" 304 ⟨"FromTheMiddle$Reckoner", "value", "(LFromTheMiddle$Numbers;III)I"⟩, .instanceMethod ⟨"FromTheMiddle$Reckoner", "value", "(LFromTheMiddle$Numbers;III)I"⟩, .selects "FromTheMiddle$Reckoner" ⟨"FromTheMiddle$Reckoner", "value", "(LFromTheMiddle$Numbers;III)I"⟩ ⟨"FromTheMiddle$Reckoner", "value", "(LFromTheMiddle$Numbers;III)I"⟩, .code ⟨"FromTheMiddle$Reckoner", "value", "(LFromTheMiddle$Numbers;III)I"⟩ prog_5_method_2_code 7 (some .int), .methodLink "FromTheMiddle$Reckoner" 20 ⟨"FromTheMiddle$Numbers", "clear", "()V"⟩, .methodLink "FromTheMiddle$Reckoner" 23 ⟨"FromTheMiddle$Numbers", "size", "()I"⟩]
set_option maxRecDepth 20000 in
theorem pw_15_in : GoodIn lw_tbl pw_15 := goodIn_r _ [553, 554, 555, 556, 557, 558, 559, 560, 561, 562, 563, 564, 565, 566, 567, 568, 569, 570, 571, 572, 573, 574, 575, 576, 578, 579, 580, 581, 582, 583, 584, 585] (by decide +kernel) (by decide +kernel)
def pw_16 : List Cond := [.methodLink "FromTheMiddle$Reckoner" 27 ⟨"FromTheMiddle$Numbers", "get", "(I)I"⟩, .methodLink "FromTheMiddle$Reckoner" 31 ⟨"FromTheMiddle$Numbers", "add", "(I)V"⟩, .methodLink "FromTheMiddle$Reckoner" 34 ⟨"FromTheMiddle$Numbers", "pop", "()I"⟩, .methodLink "FromTheMiddle$Reckoner" 37 ⟨"FromTheMiddle$Reckoner", "truth", "(Z)I"⟩, .static ⟨"FromTheMiddle$Reckoner", "truth", "(Z)I"⟩, .code ⟨"FromTheMiddle$Reckoner", "truth", "(Z)I"⟩ prog_5_method_4_code 1 (some .int), .methodLink "FromTheMiddle$Reckoner" 41 ⟨"FromTheMiddle$Reckoner", "joined", "(I)I"⟩, .instanceMethod ⟨"FromTheMiddle$Reckoner", "joined", "(I)I"⟩, .code ⟨"FromTheMiddle$Reckoner", "joined", "(I)I"⟩ prog_5_method_3_code 4 (some .int), .static ⟨"FromTheMiddle", "quotient", "(II)I"⟩, .code ⟨"FromTheMiddle", "quotient", "(II)I"⟩ prog_1_method_49_code 2 (some .int), .static ⟨"FromTheMiddle", "rest", "(II)I"⟩, .code ⟨"FromTheMiddle", "rest", "(II)I"⟩ prog_1_method_50_code 2 (some .int), .methodLink "FromTheMiddle" 308 ⟨"FromTheMiddle", "within", "(III)I"⟩, .static ⟨"FromTheMiddle", "within", "(III)I"⟩, .code ⟨"FromTheMiddle", "within", "(III)I"⟩ prog_1_method_51_code 3 (some .int), .methodLink "FromTheMiddle" 270 ⟨"java/lang/Math", "min", "(II)I"⟩, .methodLink "FromTheMiddle" 288 ⟨"java/lang/Math", "max", "(II)I"⟩, .methodLink "FromTheMiddleLaw" 68 ⟨"FromTheMiddle", "piece", "(II)I"⟩, .instanceMethod ⟨"FromTheMiddle", "piece", "(II)I"⟩, .selects "FromTheMiddle" ⟨"FromTheMiddle", "piece", "(II)I"⟩ ⟨"FromTheMiddle", "piece", "(II)I"⟩, .code ⟨"FromTheMiddle", "piece", "(II)I"⟩ prog_1_method_14_code 3 (some .int), .methodLink "FromTheMiddle" 158 ⟨"FromTheMiddle", "isRow", "(I)Z"⟩, .instanceMethod ⟨"FromTheMiddle", "isRow", "(I)Z"⟩, .code ⟨"FromTheMiddle", "isRow", "(I)Z"⟩ prog_1_method_42_code 2 (some .boolean), .methodLink "FromTheMiddle" 161 ⟨"FromTheMiddle", "lay", "(II)V"⟩, .instanceMethod ⟨"FromTheMiddle", "lay", "(II)V"⟩, .code ⟨"FromTheMiddle", "lay", "(II)V"⟩ prog_1_method_55_code 3 none, .methodLink "FromTheMiddle" 180 ⟨"FromTheMiddle", "firstPiece", "(II)I"⟩, .instanceMethod ⟨"FromTheMiddle", "firstPiece", "(II)I"⟩, .code ⟨"FromTheMiddle", "firstPiece", "(II)I"⟩ prog_1_method_54_code 4 (some .int), .methodLink "FromTheMiddle" 171 ⟨"FromTheMiddle", "rowLength", "(I)I"⟩]
set_option maxRecDepth 20000 in
theorem pw_16_in : GoodIn lw_tbl pw_16 := goodIn_r _ [586, 587, 588, 589, 590, 591, 592, 594, 595, 597, 598, 600, 601, 602, 603, 604, 605, 606, 607, 608, 609, 610, 611, 613, 614, 615, 617, 618, 619, 621, 622, 623] (by decide +kernel) (by decide +kernel)
def pw_17 : List Cond := [.instanceMethod ⟨"FromTheMiddle", "rowLength", "(I)I"⟩, .code ⟨"FromTheMiddle", "rowLength", "(I)I"⟩ prog_1_method_53_code 2 (some .int), .methodLink "FromTheMiddle" 291 ⟨"FromTheMiddle$Row", "lay", "(IIII)V"⟩, .instanceMethod ⟨"FromTheMiddle$Row", "lay", "(IIII)V"⟩, .selects "FromTheMiddle$Row" ⟨"FromTheMiddle$Row", "lay", "(IIII)V"⟩ ⟨"FromTheMiddle$Row", "lay", "(IIII)V"⟩, .code ⟨"FromTheMiddle$Row", "lay", "(IIII)V"⟩ prog_6_method_2_code 5 none, .methodLink "FromTheMiddle$Row" 24 ⟨"FromTheMiddle$Row", "behindFirstAheadOf", "(I)I"⟩, .instanceMethod ⟨"FromTheMiddle$Row", "behindFirstAheadOf", "(I)I"⟩, .code ⟨"FromTheMiddle$Row", "behindFirstAheadOf", "(I)I"⟩ prog_6_method_14_code 3 (some .int), .methodLink "FromTheMiddle" 168 ⟨"FromTheMiddle$Row", "width", "(I)I"⟩, .instanceMethod ⟨"FromTheMiddle$Row", "width", "(I)I"⟩, .selects "FromTheMiddle$Row" ⟨"FromTheMiddle$Row", "width", "(I)I"⟩ ⟨"FromTheMiddle$Row", "width", "(I)I"⟩, .code ⟨"FromTheMiddle$Row", "width", "(I)I"⟩ prog_6_method_5_code 2 (some .int), .methodLink "FromTheMiddle$Row" 37 ⟨"FromTheMiddle$Row", "ending", "(I)I"⟩, .instanceMethod ⟨"FromTheMiddle$Row", "ending", "(I)I"⟩, .selects "FromTheMiddle$Row" ⟨"FromTheMiddle$Row", "ending", "(I)I"⟩ ⟨"FromTheMiddle$Row", "ending", "(I)I"⟩, .code ⟨"FromTheMiddle$Row", "ending", "(I)I"⟩ prog_6_method_4_code 2 (some .int), .methodLink "FromTheMiddle$Row" 31 ⟨"java/lang/Math", "min", "(II)I"⟩, .methodLink "FromTheMiddle$Row" 40 ⟨"FromTheMiddle$Row", "beginning", "(I)I"⟩, .instanceMethod ⟨"FromTheMiddle$Row", "beginning", "(I)I"⟩, .selects "FromTheMiddle$Row" ⟨"FromTheMiddle$Row", "beginning", "(I)I"⟩ ⟨"FromTheMiddle$Row", "beginning", "(I)I"⟩, .code ⟨"FromTheMiddle$Row", "beginning", "(I)I"⟩ prog_6_method_3_code 2 (some .int), .methodLink "FromTheMiddleLaw" 72 ⟨"FromTheMiddle", "rowIs", "(II)I"⟩, .instanceMethod ⟨"FromTheMiddle", "rowIs", "(II)I"⟩, .selects "FromTheMiddle" ⟨"FromTheMiddle", "rowIs", "(II)I"⟩ ⟨"FromTheMiddle", "rowIs", "(II)I"⟩, .code ⟨"FromTheMiddle", "rowIs", "(II)I"⟩ prog_1_method_15_code 3 (some .int), .methodLink "FromTheMiddle" 174 ⟨"FromTheMiddle$Row", "cuts", "()I"⟩, .instanceMethod ⟨"FromTheMiddle$Row", "cuts", "()I"⟩, .selects "FromTheMiddle$Row" ⟨"FromTheMiddle$Row", "cuts", "()I"⟩ ⟨"FromTheMiddle$Row", "cuts", "()I"⟩, .code ⟨"FromTheMiddle$Row", "cuts", "()I"⟩ prog_6_method_7_code 1 (some .int), .methodLink "FromTheMiddle$Row" 43 ⟨"FromTheMiddle$Row", "width", "(I)I"⟩, .methodLink "FromTheMiddle$Row" 46 ⟨"FromTheMiddle$Row", "isCut", "(I)Z"⟩]
set_option maxRecDepth 20000 in
theorem pw_17_in : GoodIn lw_tbl pw_17 := goodIn_r _ [625, 626, 627, 628, 629, 630, 631, 633, 634, 636, 637, 638, 639, 640, 641, 642, 643, 644, 645, 646, 647, 648, 649, 650, 651, 652, 653, 654, 655, 656, 657, 658] (by decide +kernel) (by decide +kernel)
def pw_18 : List Cond := [.instanceMethod ⟨"FromTheMiddle$Row", "isCut", "(I)Z"⟩, .code ⟨"FromTheMiddle$Row", "isCut", "(I)Z"⟩ prog_6_method_11_code 2 (some .boolean), .methodLink "FromTheMiddle$Row" 50 ⟨"FromTheMiddle$Row", "ofEdges", "(ZZ)I"⟩, .instanceMethod ⟨"FromTheMiddle$Row", "ofEdges", "(ZZ)I"⟩, .code ⟨"FromTheMiddle$Row", "ofEdges", "(ZZ)I"⟩ prog_6_method_10_code 3 (some .int), .methodLink "FromTheMiddle" 177 ⟨"FromTheMiddle$Row", "narrowest", "()I"⟩, .instanceMethod ⟨"FromTheMiddle$Row", "narrowest", "()I"⟩, .selects "FromTheMiddle$Row" ⟨"FromTheMiddle$Row", "narrowest", "()I"⟩ ⟨"FromTheMiddle$Row", "narrowest", "()I"⟩, .code ⟨"FromTheMiddle$Row", "narrowest", "()I"⟩ prog_6_method_6_code 1 (some .int), .methodLink "FromTheMiddleLaw" 76 ⟨"FromTheMiddle", "seen", "(III)I"⟩, .instanceMethod ⟨"FromTheMiddle", "seen", "(III)I"⟩, .selects "FromTheMiddle" ⟨"FromTheMiddle", "seen", "(III)I"⟩ ⟨"FromTheMiddle", "seen", "(III)I"⟩, .code ⟨"FromTheMiddle", "seen", "(III)I"⟩ prog_1_method_16_code 5 (some .int), .methodLink "FromTheMiddle" 184 ⟨"FromTheMiddle", "harmOf", "(I)I"⟩, .instanceMethod ⟨"FromTheMiddle", "harmOf", "(I)I"⟩, .code ⟨"FromTheMiddle", "harmOf", "(I)I"⟩ prog_1_method_64_code 4 (some .int), .methodLink "FromTheMiddle" 297 ⟨"FromTheMiddle$Row", "look", "(II)V"⟩, .instanceMethod ⟨"FromTheMiddle$Row", "look", "(II)V"⟩, .selects "FromTheMiddle$Row" ⟨"FromTheMiddle$Row", "look", "(II)V"⟩ ⟨"FromTheMiddle$Row", "look", "(II)V"⟩, .code ⟨"FromTheMiddle$Row", "look", "(II)V"⟩ prog_6_method_9_code 5 none, .methodLink "FromTheMiddle$Row" 60 ⟨"FromTheMiddle$Row", "endingNotBehind", "(I)I"⟩, .instanceMethod ⟨"FromTheMiddle$Row", "endingNotBehind", "(I)I"⟩, .code ⟨"FromTheMiddle$Row", "endingNotBehind", "(I)I"⟩ prog_6_method_15_code 2 (some .int), .methodLink "FromTheMiddle$Row" 66 ⟨"FromTheMiddle$Row", "isHidden", "(III)Z"⟩, .instanceMethod ⟨"FromTheMiddle$Row", "isHidden", "(III)Z"⟩, .code ⟨"FromTheMiddle$Row", "isHidden", "(III)Z"⟩ prog_6_method_13_code 4 (some .boolean), .methodLink "FromTheMiddle$Row" 73 ⟨"FromTheMiddle$Row", "gapOfBeginnings", "(II)I"⟩, .instanceMethod ⟨"FromTheMiddle$Row", "gapOfBeginnings", "(II)I"⟩, .code ⟨"FromTheMiddle$Row", "gapOfBeginnings", "(II)I"⟩ prog_6_method_16_code 4 (some .int), .methodLink "FromTheMiddle$Row" 76 ⟨"FromTheMiddle$Row", "gapOfEndings", "(II)I"⟩, .instanceMethod ⟨"FromTheMiddle$Row", "gapOfEndings", "(II)I"⟩, .code ⟨"FromTheMiddle$Row", "gapOfEndings", "(II)I"⟩ prog_6_method_17_code 4 (some .int)]
set_option maxRecDepth 20000 in
theorem pw_18_in : GoodIn lw_tbl pw_18 := goodIn_r _ [660, 661, 662, 664, 665, 666, 667, 668, 669, 670, 671, 672, 673, 674, 676, 677, 678, 679, 680, 681, 682, 684, 685, 686, 688, 689, 690, 692, 693, 694, 696, 697] (by decide +kernel) (by decide +kernel)
def pw_19 : List Cond := [.constant "FromTheMiddle$Row" 85 1000000, .methodLink "FromTheMiddle" 300 ⟨"FromTheMiddle", "harms", "(IILFromTheMiddle$Row;)I"⟩, .static ⟨"FromTheMiddle", "harms", "(IILFromTheMiddle$Row;)I"⟩, .code ⟨"FromTheMiddle", "harms", "(IILFromTheMiddle$Row;)I"⟩ prog_1_method_65_code 6 (some .int), .methodLink "FromTheMiddleLaw" 80 ⟨"FromTheMiddle", "buy", "(I)I"⟩, .instanceMethod ⟨"FromTheMiddle", "buy", "(I)I"⟩, .selects "FromTheMiddle" ⟨"FromTheMiddle", "buy", "(I)I"⟩ ⟨"FromTheMiddle", "buy", "(I)I"⟩, .code ⟨"FromTheMiddle", "buy", "(I)I"⟩ prog_1_method_17_code 2 (some .int), .methodLink "FromTheMiddle" 199 ⟨"FromTheMiddle", "tilesToBuy", "()I"⟩, .instanceMethod ⟨"FromTheMiddle", "tilesToBuy", "()I"⟩, .code ⟨"FromTheMiddle", "tilesToBuy", "()I"⟩ prog_1_method_62_code 3 (some .int), .methodLink "FromTheMiddle" 211 ⟨"FromTheMiddle", "halves", "()I"⟩, .instanceMethod ⟨"FromTheMiddle", "halves", "()I"⟩, .code ⟨"FromTheMiddle", "halves", "()I"⟩ prog_1_method_61_code 3 (some .int), .methodLink "FromTheMiddle" 294 ⟨"FromTheMiddle$Row", "halves", "()I"⟩, .instanceMethod ⟨"FromTheMiddle$Row", "halves", "()I"⟩, .selects "FromTheMiddle$Row" ⟨"FromTheMiddle$Row", "halves", "()I"⟩ ⟨"FromTheMiddle$Row", "halves", "()I"⟩, .code ⟨"FromTheMiddle$Row", "halves", "()I"⟩ prog_6_method_8_code 1 (some .int), .methodLink "FromTheMiddle$Row" 54 ⟨"FromTheMiddle$Row", "isHalf", "(I)Z"⟩, .instanceMethod ⟨"FromTheMiddle$Row", "isHalf", "(I)Z"⟩, .code ⟨"FromTheMiddle$Row", "isHalf", "(I)Z"⟩ prog_6_method_12_code 2 (some .boolean), .methodLink "FromTheMiddle" 295 ⟨"FromTheMiddle", "pieces", "()I"⟩, .instanceMethod ⟨"FromTheMiddle", "pieces", "()I"⟩, .code ⟨"FromTheMiddle", "pieces", "()I"⟩ prog_1_method_60_code 3 (some .int), .methodLink "FromTheMiddle" 205 ⟨"FromTheMiddle", "cutsBy", "(I)I"⟩, .instanceMethod ⟨"FromTheMiddle", "cutsBy", "(I)I"⟩, .code ⟨"FromTheMiddle", "cutsBy", "(I)I"⟩ prog_1_method_57_code 4 (some .int), .methodLink "FromTheMiddle" 202 ⟨"FromTheMiddle", "quotient", "(II)I"⟩, .methodLink "FromTheMiddle" 208 ⟨"FromTheMiddle", "narrowestBy", "(I)I"⟩, .instanceMethod ⟨"FromTheMiddle", "narrowestBy", "(I)I"⟩, .code ⟨"FromTheMiddle", "narrowestBy", "(I)I"⟩ prog_1_method_56_code 4 (some .int), .methodLink "FromTheMiddle" 214 ⟨"FromTheMiddle", "harmBy", "(I)I"⟩]
set_option maxRecDepth 20000 in
theorem pw_19_in : GoodIn lw_tbl pw_19 := goodIn_r _ [698, 699, 700, 701, 702, 703, 704, 705, 706, 708, 709, 710, 712, 713, 714, 715, 716, 717, 718, 720, 721, 722, 724, 725, 726, 728, 729, 730, 731, 733, 734, 735] (by decide +kernel) (by decide +kernel)
def pw_20 : List Cond := [.instanceMethod ⟨"FromTheMiddle", "harmBy", "(I)I"⟩, .code ⟨"FromTheMiddle", "harmBy", "(I)I"⟩ prog_1_method_63_code 5 (some .int), .methodLink "FromTheMiddleLaw" 84 ⟨"FromTheMiddle", "loose", "(I)I"⟩, .instanceMethod ⟨"FromTheMiddle", "loose", "(I)I"⟩, .selects "FromTheMiddle" ⟨"FromTheMiddle", "loose", "(I)I"⟩ ⟨"FromTheMiddle", "loose", "(I)I"⟩, .code ⟨"FromTheMiddle", "loose", "(I)I"⟩ prog_1_method_18_code 3 (some .int), .methodLink "FromTheMiddle" 217 ⟨"FromTheMiddle", "changeByDraws", "()V"⟩, .instanceMethod ⟨"FromTheMiddle", "changeByDraws", "()V"⟩, .code ⟨"FromTheMiddle", "changeByDraws", "()V"⟩ prog_1_method_68_code 2 none, .methodLink "FromTheMiddle" 313 ⟨"FromTheMiddle", "draw", "()I"⟩, .instanceMethod ⟨"FromTheMiddle", "draw", "()I"⟩, .code ⟨"FromTheMiddle", "draw", "()I"⟩ prog_1_method_67_code 1 (some .int), .constant "FromTheMiddle" 312 1103515245, .methodLink "FromTheMiddle" 226 ⟨"FromTheMiddle", "rest", "(II)I"⟩, .methodLink "FromTheMiddleLaw" 88 ⟨"FromTheMiddle", "seed", "(I)I"⟩, .instanceMethod ⟨"FromTheMiddle", "seed", "(I)I"⟩, .selects "FromTheMiddle" ⟨"FromTheMiddle", "seed", "(I)I"⟩ ⟨"FromTheMiddle", "seed", "(I)I"⟩, .code ⟨"FromTheMiddle", "seed", "(I)I"⟩ prog_1_method_19_code 3 (some .int), .methodLink "FromTheMiddleLaw" 92 ⟨"FromTheMiddle", "best", "(I)I"⟩, .instanceMethod ⟨"FromTheMiddle", "best", "(I)I"⟩, .selects "FromTheMiddle" ⟨"FromTheMiddle", "best", "(I)I"⟩ ⟨"FromTheMiddle", "best", "(I)I"⟩, .code ⟨"FromTheMiddle", "best", "(I)I"⟩ prog_1_method_20_code 3 (some .int), .methodLink "FromTheMiddle" 223 ⟨"FromTheMiddle", "bestStart", "()I"⟩, .instanceMethod ⟨"FromTheMiddle", "bestStart", "()I"⟩, .code ⟨"FromTheMiddle", "bestStart", "()I"⟩ prog_1_method_58_code 7 (some .int), .methodLink "FromTheMiddleLaw" 96 ⟨"FromTheMiddle", "calm", "(I)I"⟩, .instanceMethod ⟨"FromTheMiddle", "calm", "(I)I"⟩, .selects "FromTheMiddle" ⟨"FromTheMiddle", "calm", "(I)I"⟩ ⟨"FromTheMiddle", "calm", "(I)I"⟩, .code ⟨"FromTheMiddle", "calm", "(I)I"⟩ prog_1_method_21_code 6 (some .int), .methodLink "FromTheMiddleLaw" 100 ⟨"FromTheMiddle", "cheat", "(I)I"⟩, .instanceMethod ⟨"FromTheMiddle", "cheat", "(I)I"⟩, .selects "FromTheMiddle" ⟨"FromTheMiddle", "cheat", "(I)I"⟩ ⟨"FromTheMiddle", "cheat", "(I)I"⟩]
set_option maxRecDepth 20000 in
theorem pw_20_in : GoodIn lw_tbl pw_20 := goodIn_r _ [737, 738, 739, 740, 741, 742, 743, 745, 746, 747, 749, 750, 751, 752, 753, 754, 755, 756, 757, 758, 759, 760, 761, 763, 764, 765, 766, 767, 768, 769, 770, 771] (by decide +kernel) (by decide +kernel)
def pw_21 : List Cond := [.code ⟨"FromTheMiddle", "cheat", "(I)I"⟩ prog_1_method_22_code 5 (some .int), .methodLink "FromTheMiddleLaw" 104 ⟨"FromTheMiddle", "middle", "(I)I"⟩, .instanceMethod ⟨"FromTheMiddle", "middle", "(I)I"⟩, .selects "FromTheMiddle" ⟨"FromTheMiddle", "middle", "(I)I"⟩ ⟨"FromTheMiddle", "middle", "(I)I"⟩, .code ⟨"FromTheMiddle", "middle", "(I)I"⟩ prog_1_method_23_code 4 (some .int), .methodLink "FromTheMiddleLaw" 108 ⟨"FromTheMiddle", "odds", "(II)I"⟩, .instanceMethod ⟨"FromTheMiddle", "odds", "(II)I"⟩, .selects "FromTheMiddle" ⟨"FromTheMiddle", "odds", "(II)I"⟩ ⟨"FromTheMiddle", "odds", "(II)I"⟩, .code ⟨"FromTheMiddle", "odds", "(II)I"⟩ prog_1_method_24_code 5 (some .int), .methodLink "FromTheMiddle" 229 ⟨"FromTheMiddle", "commonDivisor", "(II)I"⟩, .static ⟨"FromTheMiddle", "commonDivisor", "(II)I"⟩, .code ⟨"FromTheMiddle", "commonDivisor", "(II)I"⟩ prog_1_method_52_code 3 (some .int), .methodLink "FromTheMiddleLaw" 112 ⟨"FromTheMiddle", "fits", "(II)I"⟩, .instanceMethod ⟨"FromTheMiddle", "fits", "(II)I"⟩, .selects "FromTheMiddle" ⟨"FromTheMiddle", "fits", "(II)I"⟩ ⟨"FromTheMiddle", "fits", "(II)I"⟩, .code ⟨"FromTheMiddle", "fits", "(II)I"⟩ prog_1_method_25_code 7 (some .int), .methodLink "FromTheMiddle" 232 ⟨"FromTheMiddle", "sheetAt", "(I)LFromTheMiddle$Sheet;"⟩, .instanceMethod ⟨"FromTheMiddle", "sheetAt", "(I)LFromTheMiddle$Sheet;"⟩, .code ⟨"FromTheMiddle", "sheetAt", "(I)LFromTheMiddle$Sheet;"⟩ prog_1_method_43_code 2 (some (.object "FromTheMiddle$Sheet")), .methodLink "FromTheMiddle" 236 ⟨"FromTheMiddle$Sheet", "isMissing", "()Z"⟩, .instanceMethod ⟨"FromTheMiddle$Sheet", "isMissing", "()Z"⟩, .selects "FromTheMiddle$Sheet" ⟨"FromTheMiddle$Sheet", "isMissing", "()Z"⟩ ⟨"FromTheMiddle$Sheet", "isMissing", "()Z"⟩, .code ⟨"FromTheMiddle$Sheet", "isMissing", "()Z"⟩ prog_7_method_2_code 1 (some .boolean), .methodLink "FromTheMiddle" 243 ⟨"FromTheMiddle", "rightFromFirst", "(LFromTheMiddle$Numbers;)I"⟩, .instanceMethod ⟨"FromTheMiddle", "rightFromFirst", "(LFromTheMiddle$Numbers;)I"⟩, .code ⟨"FromTheMiddle", "rightFromFirst", "(LFromTheMiddle$Numbers;)I"⟩ prog_1_method_59_code 4 (some .int), .methodLink "FromTheMiddleLaw" 116 ⟨"FromTheMiddle", "voice", "(III)I"⟩, .instanceMethod ⟨"FromTheMiddle", "voice", "(III)I"⟩, .selects "FromTheMiddle" ⟨"FromTheMiddle", "voice", "(III)I"⟩ ⟨"FromTheMiddle", "voice", "(III)I"⟩, .code ⟨"FromTheMiddle", "voice", "(III)I"⟩ prog_1_method_26_code 5 (some .int), .methodLink "FromTheMiddle" 247 ⟨"FromTheMiddle$Voices", "speak", "(IIIII)I"⟩, .instanceMethod ⟨"FromTheMiddle$Voices", "speak", "(IIIII)I"⟩]
set_option maxRecDepth 20000 in
theorem pw_21_in : GoodIn lw_tbl pw_21 := goodIn_r _ [772, 773, 774, 775, 776, 777, 778, 779, 780, 781, 782, 783, 784, 785, 786, 787, 788, 790, 791, 792, 793, 794, 795, 796, 798, 799, 800, 801, 802, 803, 804, 805] (by decide +kernel) (by decide +kernel)
def pw_22 : List Cond := [.selects "FromTheMiddle$Voices" ⟨"FromTheMiddle$Voices", "speak", "(IIIII)I"⟩ ⟨"FromTheMiddle$Voices", "speak", "(IIIII)I"⟩, .code ⟨"FromTheMiddle$Voices", "speak", "(IIIII)I"⟩ prog_8_method_2_code 8 (some .int), .methodLink "FromTheMiddle$Voices" 30 ⟨"FromTheMiddle$Numbers", "clear", "()V"⟩, .methodLink "FromTheMiddle$Voices" 33 ⟨"FromTheMiddle$Voices", "bodyOf", "(I)I"⟩, .instanceMethod ⟨"FromTheMiddle$Voices", "bodyOf", "(I)I"⟩, .code ⟨"FromTheMiddle$Voices", "bodyOf", "(I)I"⟩ prog_8_method_4_code 2 (some .int), .methodLink "FromTheMiddle$Voices" 37 ⟨"FromTheMiddle$Voices", "chained", "(II)I"⟩, .instanceMethod ⟨"FromTheMiddle$Voices", "chained", "(II)I"⟩, .code ⟨"FromTheMiddle$Voices", "chained", "(II)I"⟩ prog_8_method_3_code 7 (some .int), .methodLink "FromTheMiddle$Voices" 41 ⟨"FromTheMiddle$Numbers", "size", "()I"⟩, .methodLink "FromTheMiddle$Voices" 45 ⟨"FromTheMiddle$Numbers", "add", "(I)V"⟩, .methodLink "FromTheMiddle$Voices" 48 ⟨"FromTheMiddle$Voices", "handedDown", "(II)I"⟩, .instanceMethod ⟨"FromTheMiddle$Voices", "handedDown", "(II)I"⟩, .code ⟨"FromTheMiddle$Voices", "handedDown", "(II)I"⟩ prog_8_method_6_code 3 (some .int), .methodLink "FromTheMiddle$Voices" 51 ⟨"FromTheMiddle$Voices", "calledBy", "(I)I"⟩, .instanceMethod ⟨"FromTheMiddle$Voices", "calledBy", "(I)I"⟩, .code ⟨"FromTheMiddle$Voices", "calledBy", "(I)I"⟩ prog_8_method_5_code 2 (some .int), .methodLink "FromTheMiddle$Voices" 54 ⟨"FromTheMiddle$Numbers", "get", "(I)I"⟩, .methodLink "FromTheMiddle$Voices" 57 ⟨"FromTheMiddle$Voices", "handedUp", "(II)I"⟩, .instanceMethod ⟨"FromTheMiddle$Voices", "handedUp", "(II)I"⟩, .code ⟨"FromTheMiddle$Voices", "handedUp", "(II)I"⟩ prog_8_method_7_code 3 (some .int), .methodLink "FromTheMiddleLaw" 120 ⟨"FromTheMiddle", "body", "(I)I"⟩, .instanceMethod ⟨"FromTheMiddle", "body", "(I)I"⟩, .selects "FromTheMiddle" ⟨"FromTheMiddle", "body", "(I)I"⟩ ⟨"FromTheMiddle", "body", "(I)I"⟩, .code ⟨"FromTheMiddle", "body", "(I)I"⟩ prog_1_method_27_code 2 (some .int), .methodLink "FromTheMiddleLaw" 124 ⟨"FromTheMiddle", "sheet", "(III)I"⟩, .instanceMethod ⟨"FromTheMiddle", "sheet", "(III)I"⟩, .selects "FromTheMiddle" ⟨"FromTheMiddle", "sheet", "(III)I"⟩ ⟨"FromTheMiddle", "sheet", "(III)I"⟩, .code ⟨"FromTheMiddle", "sheet", "(III)I"⟩ prog_1_method_28_code 5 (some .int), .methodLink "FromTheMiddleLaw" 128 ⟨"FromTheMiddle", "put", "(III)I"⟩, .instanceMethod ⟨"FromTheMiddle", "put", "(III)I"⟩, .selects "FromTheMiddle" ⟨"FromTheMiddle", "put", "(III)I"⟩ ⟨"FromTheMiddle", "put", "(III)I"⟩]
set_option maxRecDepth 20000 in
theorem pw_22_in : GoodIn lw_tbl pw_22 := goodIn_r _ [806, 807, 808, 809, 811, 812, 814, 816, 817, 818, 819, 820, 822, 823, 825, 827, 828, 829, 830, 832, 833, 834, 835, 836, 837, 838, 839, 840, 841, 842, 843, 844] (by decide +kernel) (by decide +kernel)
def pw_23 : List Cond := [.code ⟨"FromTheMiddle", "put", "(III)I"⟩ prog_1_method_29_code 5 (some .int), .methodLink "FromTheMiddle" 260 ⟨"FromTheMiddle$Sheet", "lowestBits", "(I)I"⟩, .instanceMethod ⟨"FromTheMiddle$Sheet", "lowestBits", "(I)I"⟩, .selects "FromTheMiddle$Sheet" ⟨"FromTheMiddle$Sheet", "lowestBits", "(I)I"⟩ ⟨"FromTheMiddle$Sheet", "lowestBits", "(I)I"⟩, .code ⟨"FromTheMiddle$Sheet", "lowestBits", "(I)I"⟩ prog_7_method_3_code 2 (some .int), .methodLink "FromTheMiddleLaw" 132 ⟨"FromTheMiddle", "move", "(IIIII)I"⟩, .instanceMethod ⟨"FromTheMiddle", "move", "(IIIII)I"⟩, .selects "FromTheMiddle" ⟨"FromTheMiddle", "move", "(IIIII)I"⟩ ⟨"FromTheMiddle", "move", "(IIIII)I"⟩, .code ⟨"FromTheMiddle", "move", "(IIIII)I"⟩ prog_1_method_30_code 8 (some .int), .methodLink "FromTheMiddle" 263 ⟨"FromTheMiddle$Numbers", "stretches", "(II)Z"⟩, .methodLink "FromTheMiddle" 266 ⟨"FromTheMiddle$Numbers", "take", "(LFromTheMiddle$Numbers;III)V"⟩, .methodLink "FromTheMiddleLaw" 137 ⟨"FromTheMiddle", "places", "(I)I"⟩, .instanceMethod ⟨"FromTheMiddle", "places", "(I)I"⟩, .selects "FromTheMiddle" ⟨"FromTheMiddle", "places", "(I)I"⟩ ⟨"FromTheMiddle", "places", "(I)I"⟩, .code ⟨"FromTheMiddle", "places", "(I)I"⟩ prog_1_method_31_code 5 (some .int), .methodLink "FromTheMiddleLaw" 141 ⟨"FromTheMiddle", "judge", "(I)I"⟩, .instanceMethod ⟨"FromTheMiddle", "judge", "(I)I"⟩, .selects "FromTheMiddle" ⟨"FromTheMiddle", "judge", "(I)I"⟩ ⟨"FromTheMiddle", "judge", "(I)I"⟩, .code ⟨"FromTheMiddle", "judge", "(I)I"⟩ prog_1_method_32_code 3 (some .int), .methodLink "FromTheMiddleLaw" 145 ⟨"FromTheMiddle", "image", "()I"⟩, .instanceMethod ⟨"FromTheMiddle", "image", "()I"⟩, .selects "FromTheMiddle" ⟨"FromTheMiddle", "image", "()I"⟩ ⟨"FromTheMiddle", "image", "()I"⟩, .code ⟨"FromTheMiddle", "image", "()I"⟩ prog_1_method_33_code 1 (some .int), .methodLink "FromTheMiddle" 275 ⟨"FromTheMiddle$Kept", "copy", "(LFromTheMiddle$Kept;)V"⟩, .instanceMethod ⟨"FromTheMiddle$Kept", "copy", "(LFromTheMiddle$Kept;)V"⟩, .selects "FromTheMiddle$Kept" ⟨"FromTheMiddle$Kept", "copy", "(LFromTheMiddle$Kept;)V"⟩ ⟨"FromTheMiddle$Kept", "copy", "(LFromTheMiddle$Kept;)V"⟩, .code ⟨"FromTheMiddle$Kept", "copy", "(LFromTheMiddle$Kept;)V"⟩ prog_2_method_3_code 2 none, .methodLink "FromTheMiddle$Kept" 51 ⟨"FromTheMiddle$Numbers", "copy", "(LFromTheMiddle$Numbers;)V"⟩, .methodLink "FromTheMiddleLaw" 150 ⟨"FromTheMiddle", "restore", "()I"⟩, .instanceMethod ⟨"FromTheMiddle", "restore", "()I"⟩, .selects "FromTheMiddle" ⟨"FromTheMiddle", "restore", "()I"⟩ ⟨"FromTheMiddle", "restore", "()I"⟩, .code ⟨"FromTheMiddle", "restore", "()I"⟩ prog_1_method_34_code 1 (some .int)]
set_option maxRecDepth 20000 in
theorem pw_23_in : GoodIn lw_tbl pw_23 := goodIn_r _ [845, 846, 847, 848, 849, 850, 851, 852, 853, 854, 855, 856, 857, 858, 859, 860, 861, 862, 863, 864, 865, 866, 867, 868, 869, 870, 871, 872, 873, 874, 875, 876] (by decide +kernel) (by decide +kernel)
def pw_24 : List Cond := [.methodLink "FromTheMiddleLaw" 154 ⟨"FromTheMiddle", "tell", "(I)I"⟩, .instanceMethod ⟨"FromTheMiddle", "tell", "(I)I"⟩, .selects "FromTheMiddle" ⟨"FromTheMiddle", "tell", "(I)I"⟩ ⟨"FromTheMiddle", "tell", "(I)I"⟩, .code ⟨"FromTheMiddle", "tell", "(I)I"⟩ prog_1_method_35_code 2 (some .int), .methodLink "FromTheMiddleLaw" 158 ⟨"FromTheMiddle", "check", "()I"⟩, .instanceMethod ⟨"FromTheMiddle", "check", "()I"⟩, .selects "FromTheMiddle" ⟨"FromTheMiddle", "check", "()I"⟩ ⟨"FromTheMiddle", "check", "()I"⟩, .code ⟨"FromTheMiddle", "check", "()I"⟩ prog_1_method_36_code 4 (some .int), .methodLink "FromTheMiddleLaw" 162 ⟨"FromTheMiddle", "count", "(I)I"⟩, .instanceMethod ⟨"FromTheMiddle", "count", "(I)I"⟩, .selects "FromTheMiddle" ⟨"FromTheMiddle", "count", "(I)I"⟩ ⟨"FromTheMiddle", "count", "(I)I"⟩, .code ⟨"FromTheMiddle", "count", "(I)I"⟩ prog_1_method_37_code 2 (some .int), .methodLink "FromTheMiddleLaw" 166 ⟨"FromTheMiddle", "told", "(I)I"⟩, .instanceMethod ⟨"FromTheMiddle", "told", "(I)I"⟩, .selects "FromTheMiddle" ⟨"FromTheMiddle", "told", "(I)I"⟩ ⟨"FromTheMiddle", "told", "(I)I"⟩, .code ⟨"FromTheMiddle", "told", "(I)I"⟩ prog_1_method_38_code 2 (some .int), .classLink "FromTheMiddleLaw" 10 "FromTheMiddleModel", .instantiable "FromTheMiddleModel" 24, .methodLink "FromTheMiddleLaw" 12 ⟨"FromTheMiddleModel", "<init>", "()V"⟩, .instanceMethod ⟨"FromTheMiddleModel", "<init>", "()V"⟩, .code ⟨"FromTheMiddleModel", "<init>", "()V"⟩ prog_10_method_1_code 1 none, .methodLink "FromTheMiddleModel" 1 ⟨"java/lang/Object", "<init>", "()V"⟩, .fieldLink "FromTheMiddleModel" 7 "FromTheMiddleModel" "s" "[I", .fieldLink "FromTheMiddleModel" 13 "FromTheMiddleModel" "kept" "[I", .fieldLink "FromTheMiddleModel" 258 "FromTheMiddleModel" "images" "I", .fieldLink "FromTheMiddleModel" 16 "FromTheMiddleModel" "errors" "[I", .fieldLink "FromTheMiddleModel" 19 "FromTheMiddleModel" "lows" "[I", .fieldLink "FromTheMiddleModel" 22 "FromTheMiddleModel" "highs" "[I", .fieldLink "FromTheMiddleModel" 66 "FromTheMiddleModel" "at" "I", .fieldLink "FromTheMiddleModel" 100 "FromTheMiddleModel" "open" "I", .fieldLink "FromTheMiddleModel" 73 "FromTheMiddleModel" "steps" "I", .fieldLink "FromTheMiddleModel" 70 "FromTheMiddleModel" "use" "I"]
set_option maxRecDepth 20000 in
theorem pw_24_in : GoodIn lw_tbl pw_24 := goodIn_r _ [877, 878, 879, 880, 881, 882, 883, 884, 885, 886, 887, 888, 889, 890, 891, 892, 893, 894, 895, 896, 897, 898, 899, 900, 901, 902, 903, 904, 905, 906, 907, 908] (by decide +kernel) (by decide +kernel)
def pw_25 : List Cond := [.fieldLink "FromTheMiddleModel" 25 "FromTheMiddleModel" "step" "[I", .fieldLink "FromTheMiddleModel" 28 "FromTheMiddleModel" "named" "[I", .fieldLink "FromTheMiddleModel" 31 "FromTheMiddleModel" "pile" "[I", .fieldLink "FromTheMiddleModel" 34 "FromTheMiddleModel" "left" "[I", .fieldLink "FromTheMiddleModel" 37 "FromTheMiddleModel" "wide" "[I", .fieldLink "FromTheMiddleModel" 126 "FromTheMiddleModel" "pieces" "I", .fieldLink "FromTheMiddleModel" 220 "FromTheMiddleModel" "traced" "I", .fieldLink "FromTheMiddleModel" 40 "FromTheMiddleModel" "trace" "[I", .fieldLink "FromTheMiddleModel" 223 "FromTheMiddleModel" "speaks" "I", .fieldLink "FromTheMiddleModel" 244 "FromTheMiddleModel" "isParted" "Z", .fieldLink "FromTheMiddleModel" 43 "FromTheMiddleModel" "bits" "[I", .fieldLink "FromTheMiddleModel" 46 "FromTheMiddleModel" "sizes" "[I", .fieldLink "FromTheMiddleModel" 49 "FromTheMiddleModel" "number" "[I", .fieldLink "FromTheMiddleModel" 52 "FromTheMiddleModel" "aside" "[I", .laysFinal "FromTheMiddleModel" "FromTheMiddleModel" "s" "[I", .laysFinal "FromTheMiddleModel" "FromTheMiddleModel" "kept" "[I", .lays "FromTheMiddleModel" "FromTheMiddleModel" "images" "I", .laysFinal "FromTheMiddleModel" "FromTheMiddleModel" "errors" "[I", .laysFinal "FromTheMiddleModel" "FromTheMiddleModel" "lows" "[I", .laysFinal "FromTheMiddleModel" "FromTheMiddleModel" "highs" "[I", .lays "FromTheMiddleModel" "FromTheMiddleModel" "at" "I", .lays "FromTheMiddleModel" "FromTheMiddleModel" "open" "I", .lays "FromTheMiddleModel" "FromTheMiddleModel" "steps" "I", .lays "FromTheMiddleModel" "FromTheMiddleModel" "use" "I", .laysFinal "FromTheMiddleModel" "FromTheMiddleModel" "step" "[I", .laysFinal "FromTheMiddleModel" "FromTheMiddleModel" "named" "[I", .laysFinal "FromTheMiddleModel" "FromTheMiddleModel" "pile" "[I", .laysFinal "FromTheMiddleModel" "FromTheMiddleModel" "left" "[I", .laysFinal "FromTheMiddleModel" "FromTheMiddleModel" "wide" "[I", .lays "FromTheMiddleModel" "FromTheMiddleModel" "pieces" "I", .lays "FromTheMiddleModel" "FromTheMiddleModel" "traced" "I", .laysFinal "FromTheMiddleModel" "FromTheMiddleModel" "trace" "[I"]
set_option maxRecDepth 20000 in
theorem pw_25_in : GoodIn lw_tbl pw_25 := goodIn_r _ [909, 910, 911, 912, 913, 914, 915, 916, 917, 918, 919, 920, 921, 922, 923, 925, 927, 929, 931, 933, 935, 937, 939, 941, 943, 945, 947, 949, 951, 953, 955, 957] (by decide +kernel) (by decide +kernel)
def pw_26 : List Cond := [.lays "FromTheMiddleModel" "FromTheMiddleModel" "speaks" "I", .lays "FromTheMiddleModel" "FromTheMiddleModel" "isParted" "Z", .laysFinal "FromTheMiddleModel" "FromTheMiddleModel" "bits" "[I", .laysFinal "FromTheMiddleModel" "FromTheMiddleModel" "sizes" "[I", .laysFinal "FromTheMiddleModel" "FromTheMiddleModel" "number" "[I", .laysFinal "FromTheMiddleModel" "FromTheMiddleModel" "aside" "[I", .methodLink "FromTheMiddleLaw" 54 ⟨"FromTheMiddleModel", "feed", "(JI)I"⟩, .instanceMethod ⟨"FromTheMiddleModel", "feed", "(JI)I"⟩, .selects "FromTheMiddleModel" ⟨"FromTheMiddleModel", "feed", "(JI)I"⟩ ⟨"FromTheMiddleModel", "feed", "(JI)I"⟩, .code ⟨"FromTheMiddleModel", "feed", "(JI)I"⟩ prog_10_method_11_code 5 (some .int), .methodLink "FromTheMiddleModel" 56 ⟨"FromTheMiddleModel", "in", "(III)Z"⟩, .static ⟨"FromTheMiddleModel", "in", "(III)Z"⟩, .code ⟨"FromTheMiddleModel", "in", "(III)Z"⟩ prog_10_method_3_code 3 (some .boolean), .methodLink "FromTheMiddleModel" 60 ⟨"FromTheMiddleModel", "error", "(I)I"⟩, .instanceMethod ⟨"FromTheMiddleModel", "error", "(I)I"⟩, .code ⟨"FromTheMiddleModel", "error", "(I)I"⟩ prog_10_method_2_code 2 (some .int), .constant "FromTheMiddleModel" 55 (-1000000000), .constantLong "FromTheMiddleModel" 64 255, .methodLink "FromTheMiddleLaw" 58 ⟨"FromTheMiddleModel", "text", "(I)I"⟩, .instanceMethod ⟨"FromTheMiddleModel", "text", "(I)I"⟩, .selects "FromTheMiddleModel" ⟨"FromTheMiddleModel", "text", "(I)I"⟩ ⟨"FromTheMiddleModel", "text", "(I)I"⟩, .code ⟨"FromTheMiddleModel", "text", "(I)I"⟩ prog_10_method_23_code 5 (some .int), .methodLink "FromTheMiddleModel" 110 ⟨"FromTheMiddleModel", "whole", "()Z"⟩, .instanceMethod ⟨"FromTheMiddleModel", "whole", "()Z"⟩, .code ⟨"FromTheMiddleModel", "whole", "()Z"⟩ prog_10_method_15_code 1 (some .boolean), .methodLink "FromTheMiddleModel" 76 ⟨"FromTheMiddleModel", "both", "()Z"⟩, .instanceMethod ⟨"FromTheMiddleModel", "both", "()Z"⟩, .code ⟨"FromTheMiddleModel", "both", "()Z"⟩ prog_10_method_16_code 1 (some .boolean), .methodLink "FromTheMiddleModel" 88 ⟨"FromTheMiddleModel", "compared", "()Z"⟩, .instanceMethod ⟨"FromTheMiddleModel", "compared", "()Z"⟩, .code ⟨"FromTheMiddleModel", "compared", "()Z"⟩ prog_10_method_17_code 2 (some .boolean), .methodLink "FromTheMiddleModel" 91 ⟨"FromTheMiddleModel", "sum", "()Z"⟩]
set_option maxRecDepth 20000 in
theorem pw_26_in : GoodIn lw_tbl pw_26 := goodIn_r _ [959, 961, 963, 965, 967, 969, 972, 973, 974, 975, 976, 977, 978, 979, 981, 982, 983, 984, 985, 986, 987, 988, 989, 991, 992, 993, 995, 996, 997, 999, 1000, 1001] (by decide +kernel) (by decide +kernel)
def pw_27 : List Cond := [.instanceMethod ⟨"FromTheMiddleModel", "sum", "()Z"⟩, .code ⟨"FromTheMiddleModel", "sum", "()Z"⟩ prog_10_method_18_code 2 (some .boolean), .methodLink "FromTheMiddleModel" 94 ⟨"FromTheMiddleModel", "product", "()Z"⟩, .instanceMethod ⟨"FromTheMiddleModel", "product", "()Z"⟩, .code ⟨"FromTheMiddleModel", "product", "()Z"⟩ prog_10_method_19_code 2 (some .boolean), .methodLink "FromTheMiddleModel" 97 ⟨"FromTheMiddleModel", "one", "()Z"⟩, .instanceMethod ⟨"FromTheMiddleModel", "one", "()Z"⟩, .code ⟨"FromTheMiddleModel", "one", "()Z"⟩ prog_10_method_21_code 4 (some .boolean), .methodLink "FromTheMiddleModel" 80 ⟨"FromTheMiddleModel", "look", "()I"⟩, .instanceMethod ⟨"FromTheMiddleModel", "look", "()I"⟩, .code ⟨"FromTheMiddleModel", "look", "()I"⟩ prog_10_method_12_code 1 (some .int), .methodLink "FromTheMiddleModel" 103 ⟨"FromTheMiddleModel", "isName", "(I)Z"⟩, .instanceMethod ⟨"FromTheMiddleModel", "isName", "(I)Z"⟩, .code ⟨"FromTheMiddleModel", "isName", "(I)Z"⟩ prog_10_method_13_code 2 (some .boolean), .methodLink "FromTheMiddleModel" 84 ⟨"FromTheMiddleModel", "step1", "(II)V"⟩, .instanceMethod ⟨"FromTheMiddleModel", "step1", "(II)V"⟩, .code ⟨"FromTheMiddleModel", "step1", "(II)V"⟩ prog_10_method_14_code 3 none, .methodLink "FromTheMiddleModel" 107 ⟨"FromTheMiddleModel", "opens", "()Z"⟩, .instanceMethod ⟨"FromTheMiddleModel", "opens", "()Z"⟩, .code ⟨"FromTheMiddleModel", "opens", "()Z"⟩ prog_10_method_20_code 1 (some .boolean), .methodLink "FromTheMiddleLaw" 62 ⟨"FromTheMiddleModel", "untell", "(I)I"⟩, .instanceMethod ⟨"FromTheMiddleModel", "untell", "(I)I"⟩, .selects "FromTheMiddleModel" ⟨"FromTheMiddleModel", "untell", "(I)I"⟩ ⟨"FromTheMiddleModel", "untell", "(I)I"⟩, .code ⟨"FromTheMiddleModel", "untell", "(I)I"⟩ prog_10_method_24_code 3 (some .int), .methodLink "FromTheMiddleModel" 113 ⟨"FromTheMiddleModel", "hasText", "(I)Z"⟩, .instanceMethod ⟨"FromTheMiddleModel", "hasText", "(I)Z"⟩, .code ⟨"FromTheMiddleModel", "hasText", "(I)Z"⟩ prog_10_method_22_code 2 (some .boolean), .methodLink "FromTheMiddleLaw" 17 ⟨"FromTheMiddleModel", "wall", "(II)I"⟩, .instanceMethod ⟨"FromTheMiddleModel", "wall", "(II)I"⟩, .selects "FromTheMiddleModel" ⟨"FromTheMiddleModel", "wall", "(II)I"⟩ ⟨"FromTheMiddleModel", "wall", "(II)I"⟩, .code ⟨"FromTheMiddleModel", "wall", "(II)I"⟩ prog_10_method_44_code 3 (some .int), .methodLink "FromTheMiddleModel" 176 ⟨"FromTheMiddleModel", "change1", "(II)I"⟩]
set_option maxRecDepth 20000 in
theorem pw_27_in : GoodIn lw_tbl pw_27 := goodIn_r _ [1003, 1004, 1005, 1007, 1008, 1009, 1011, 1012, 1013, 1015, 1016, 1017, 1019, 1020, 1021, 1023, 1024, 1025, 1027, 1028, 1029, 1030, 1031, 1032, 1033, 1035, 1036, 1037, 1038, 1039, 1040, 1041] (by decide +kernel) (by decide +kernel)
def pw_28 : List Cond := [.instanceMethod ⟨"FromTheMiddleModel", "change1", "(II)I"⟩, .code ⟨"FromTheMiddleModel", "change1", "(II)I"⟩ prog_10_method_10_code 4 (some .int), .methodLink "FromTheMiddleLaw" 22 ⟨"FromTheMiddleModel", "wallIs", "(I)I"⟩, .instanceMethod ⟨"FromTheMiddleModel", "wallIs", "(I)I"⟩, .selects "FromTheMiddleModel" ⟨"FromTheMiddleModel", "wallIs", "(I)I"⟩ ⟨"FromTheMiddleModel", "wallIs", "(I)I"⟩, .code ⟨"FromTheMiddleModel", "wallIs", "(I)I"⟩ prog_10_method_45_code 2 (some .int), .methodLink "FromTheMiddleLaw" 26 ⟨"FromTheMiddleModel", "begin", "(I)I"⟩, .instanceMethod ⟨"FromTheMiddleModel", "begin", "(I)I"⟩, .selects "FromTheMiddleModel" ⟨"FromTheMiddleModel", "begin", "(I)I"⟩ ⟨"FromTheMiddleModel", "begin", "(I)I"⟩, .code ⟨"FromTheMiddleModel", "begin", "(I)I"⟩ prog_10_method_46_code 2 (some .int), .methodLink "FromTheMiddleLaw" 31 ⟨"FromTheMiddleModel", "thing", "(III)I"⟩, .instanceMethod ⟨"FromTheMiddleModel", "thing", "(III)I"⟩, .selects "FromTheMiddleModel" ⟨"FromTheMiddleModel", "thing", "(III)I"⟩ ⟨"FromTheMiddleModel", "thing", "(III)I"⟩, .code ⟨"FromTheMiddleModel", "thing", "(III)I"⟩ prog_10_method_48_code 5 (some .int), .methodLink "FromTheMiddleModel" 179 ⟨"FromTheMiddleModel", "isKind", "(I)Z"⟩, .static ⟨"FromTheMiddleModel", "isKind", "(I)Z"⟩, .code ⟨"FromTheMiddleModel", "isKind", "(I)Z"⟩ prog_10_method_47_code 1 (some .boolean), .methodLink "FromTheMiddleModel" 182 ⟨"FromTheMiddleModel", "lays1", "(III)V"⟩, .instanceMethod ⟨"FromTheMiddleModel", "lays1", "(III)V"⟩, .code ⟨"FromTheMiddleModel", "lays1", "(III)V"⟩ prog_10_method_9_code 4 none, .methodLink "FromTheMiddleLaw" 35 ⟨"FromTheMiddleModel", "thingIs", "(II)I"⟩, .instanceMethod ⟨"FromTheMiddleModel", "thingIs", "(II)I"⟩, .selects "FromTheMiddleModel" ⟨"FromTheMiddleModel", "thingIs", "(II)I"⟩ ⟨"FromTheMiddleModel", "thingIs", "(II)I"⟩, .code ⟨"FromTheMiddleModel", "thingIs", "(II)I"⟩ prog_10_method_49_code 3 (some .int), .methodLink "FromTheMiddleModel" 186 ⟨"FromTheMiddleModel", "isThing", "(I)Z"⟩, .instanceMethod ⟨"FromTheMiddleModel", "isThing", "(I)Z"⟩, .code ⟨"FromTheMiddleModel", "isThing", "(I)Z"⟩ prog_10_method_6_code 2 (some .boolean), .methodLink "FromTheMiddleModel" 146 ⟨"FromTheMiddleModel", "its", "(II)I"⟩, .instanceMethod ⟨"FromTheMiddleModel", "its", "(II)I"⟩, .code ⟨"FromTheMiddleModel", "its", "(II)I"⟩ prog_10_method_8_code 3 (some .int), .methodLink "FromTheMiddleLaw" 39 ⟨"FromTheMiddleModel", "become", "(II)I"⟩, .instanceMethod ⟨"FromTheMiddleModel", "become", "(II)I"⟩]
set_option maxRecDepth 20000 in
theorem pw_28_in : GoodIn lw_tbl pw_28 := goodIn_r _ [1043, 1044, 1045, 1046, 1047, 1048, 1049, 1050, 1051, 1052, 1053, 1054, 1055, 1056, 1057, 1058, 1059, 1060, 1062, 1063, 1064, 1065, 1066, 1067, 1068, 1070, 1071, 1072, 1074, 1075, 1076, 1077] (by decide +kernel) (by decide +kernel)
def pw_29 : List Cond := [.selects "FromTheMiddleModel" ⟨"FromTheMiddleModel", "become", "(II)I"⟩ ⟨"FromTheMiddleModel", "become", "(II)I"⟩, .code ⟨"FromTheMiddleModel", "become", "(II)I"⟩ prog_10_method_50_code 3 (some .int), .methodLink "FromTheMiddleLaw" 43 ⟨"FromTheMiddleModel", "as", "(II)I"⟩, .instanceMethod ⟨"FromTheMiddleModel", "as", "(II)I"⟩, .selects "FromTheMiddleModel" ⟨"FromTheMiddleModel", "as", "(II)I"⟩ ⟨"FromTheMiddleModel", "as", "(II)I"⟩, .code ⟨"FromTheMiddleModel", "as", "(II)I"⟩ prog_10_method_51_code 4 (some .int), .methodLink "FromTheMiddleModel" 189 ⟨"FromTheMiddleModel", "above", "(I)I"⟩, .static ⟨"FromTheMiddleModel", "above", "(I)I"⟩, .code ⟨"FromTheMiddleModel", "above", "(I)I"⟩ prog_10_method_71_code 1 (some .int), .methodLink "FromTheMiddleLaw" 47 ⟨"FromTheMiddleModel", "hang", "(II)I"⟩, .instanceMethod ⟨"FromTheMiddleModel", "hang", "(II)I"⟩, .selects "FromTheMiddleModel" ⟨"FromTheMiddleModel", "hang", "(II)I"⟩ ⟨"FromTheMiddleModel", "hang", "(II)I"⟩, .code ⟨"FromTheMiddleModel", "hang", "(II)I"⟩ prog_10_method_52_code 3 (some .int), .methodLink "FromTheMiddleLaw" 67 ⟨"FromTheMiddleModel", "law", "(IIII)I"⟩, .instanceMethod ⟨"FromTheMiddleModel", "law", "(IIII)I"⟩, .selects "FromTheMiddleModel" ⟨"FromTheMiddleModel", "law", "(IIII)I"⟩ ⟨"FromTheMiddleModel", "law", "(IIII)I"⟩, .code ⟨"FromTheMiddleModel", "law", "(IIII)I"⟩ prog_10_method_53_code 5 (some .int), .methodLink "FromTheMiddleModel" 192 ⟨"FromTheMiddleModel", "brokenTold", "(III)I"⟩, .instanceMethod ⟨"FromTheMiddleModel", "brokenTold", "(III)I"⟩, .code ⟨"FromTheMiddleModel", "brokenTold", "(III)I"⟩ prog_10_method_40_code 4 (some .int), .methodLink "FromTheMiddleModel" 161 ⟨"FromTheMiddleModel", "worked", "(I)I"⟩, .instanceMethod ⟨"FromTheMiddleModel", "worked", "(I)I"⟩, .code ⟨"FromTheMiddleModel", "worked", "(I)I"⟩ prog_10_method_26_code 7 (some .int), .methodLink "FromTheMiddleModel" 116 ⟨"FromTheMiddleModel", "joined", "(III)I"⟩, .static ⟨"FromTheMiddleModel", "joined", "(III)I"⟩, .code ⟨"FromTheMiddleModel", "joined", "(III)I"⟩ prog_10_method_25_code 3 (some .int), .methodLink "FromTheMiddleModel" 164 ⟨"FromTheMiddleModel", "held", "(III)I"⟩, .static ⟨"FromTheMiddleModel", "held", "(III)I"⟩, .code ⟨"FromTheMiddleModel", "held", "(III)I"⟩ prog_10_method_4_code 3 (some .int), .methodLink "FromTheMiddleModel" 170 ⟨"FromTheMiddleModel", "harmTold", "(III)I"⟩, .instanceMethod ⟨"FromTheMiddleModel", "harmTold", "(III)I"⟩, .code ⟨"FromTheMiddleModel", "harmTold", "(III)I"⟩ prog_10_method_41_code 4 (some .int)]
set_option maxRecDepth 20000 in
theorem pw_29_in : GoodIn lw_tbl pw_29 := goodIn_r _ [1078, 1079, 1080, 1081, 1082, 1083, 1084, 1085, 1086, 1087, 1088, 1089, 1090, 1091, 1092, 1093, 1094, 1095, 1097, 1098, 1099, 1101, 1102, 1103, 1104, 1105, 1106, 1107, 1108, 1109, 1111, 1112] (by decide +kernel) (by decide +kernel)
def pw_30 : List Cond := [.methodLink "FromTheMiddleLaw" 71 ⟨"FromTheMiddleModel", "piece", "(II)I"⟩, .instanceMethod ⟨"FromTheMiddleModel", "piece", "(II)I"⟩, .selects "FromTheMiddleModel" ⟨"FromTheMiddleModel", "piece", "(II)I"⟩ ⟨"FromTheMiddleModel", "piece", "(II)I"⟩, .code ⟨"FromTheMiddleModel", "piece", "(II)I"⟩ prog_10_method_54_code 3 (some .int), .methodLink "FromTheMiddleModel" 195 ⟨"FromTheMiddleModel", "isRow", "(I)Z"⟩, .instanceMethod ⟨"FromTheMiddleModel", "isRow", "(I)Z"⟩, .code ⟨"FromTheMiddleModel", "isRow", "(I)Z"⟩ prog_10_method_7_code 2 (some .boolean), .methodLink "FromTheMiddleModel" 129 ⟨"FromTheMiddleModel", "layRow", "(I)V"⟩, .instanceMethod ⟨"FromTheMiddleModel", "layRow", "(I)V"⟩, .code ⟨"FromTheMiddleModel", "layRow", "(I)V"⟩ prog_10_method_29_code 5 none, .methodLink "FromTheMiddleModel" 120 ⟨"FromTheMiddleModel", "longOf", "(I)I"⟩, .instanceMethod ⟨"FromTheMiddleModel", "longOf", "(I)I"⟩, .code ⟨"FromTheMiddleModel", "longOf", "(I)I"⟩ prog_10_method_27_code 3 (some .int), .methodLink "FromTheMiddleModel" 123 ⟨"FromTheMiddleModel", "firstOf", "(I)I"⟩, .instanceMethod ⟨"FromTheMiddleModel", "firstOf", "(I)I"⟩, .code ⟨"FromTheMiddleModel", "firstOf", "(I)I"⟩ prog_10_method_28_code 3 (some .int), .methodLink "FromTheMiddleLaw" 75 ⟨"FromTheMiddleModel", "rowIs", "(II)I"⟩, .instanceMethod ⟨"FromTheMiddleModel", "rowIs", "(II)I"⟩, .selects "FromTheMiddleModel" ⟨"FromTheMiddleModel", "rowIs", "(II)I"⟩ ⟨"FromTheMiddleModel", "rowIs", "(II)I"⟩, .code ⟨"FromTheMiddleModel", "rowIs", "(II)I"⟩ prog_10_method_55_code 3 (some .int), .methodLink "FromTheMiddleModel" 133 ⟨"FromTheMiddleModel", "cutsLaid", "()I"⟩, .instanceMethod ⟨"FromTheMiddleModel", "cutsLaid", "()I"⟩, .code ⟨"FromTheMiddleModel", "cutsLaid", "()I"⟩ prog_10_method_30_code 3 (some .int), .methodLink "FromTheMiddleModel" 136 ⟨"FromTheMiddleModel", "narrowestLaid", "()I"⟩, .instanceMethod ⟨"FromTheMiddleModel", "narrowestLaid", "()I"⟩, .code ⟨"FromTheMiddleModel", "narrowestLaid", "()I"⟩ prog_10_method_32_code 3 (some .int), .methodLink "FromTheMiddleLaw" 79 ⟨"FromTheMiddleModel", "seen", "(III)I"⟩, .instanceMethod ⟨"FromTheMiddleModel", "seen", "(III)I"⟩, .selects "FromTheMiddleModel" ⟨"FromTheMiddleModel", "seen", "(III)I"⟩ ⟨"FromTheMiddleModel", "seen", "(III)I"⟩, .code ⟨"FromTheMiddleModel", "seen", "(III)I"⟩ prog_10_method_56_code 6 (some .int), .methodLink "FromTheMiddleModel" 149 ⟨"FromTheMiddleModel", "jointsOn", "(II)I"⟩, .instanceMethod ⟨"FromTheMiddleModel", "jointsOn", "(II)I"⟩]
set_option maxRecDepth 20000 in
theorem pw_30_in : GoodIn lw_tbl pw_30 := goodIn_r _ [1113, 1114, 1115, 1116, 1117, 1119, 1120, 1121, 1123, 1124, 1125, 1127, 1128, 1129, 1131, 1132, 1133, 1134, 1135, 1136, 1137, 1139, 1140, 1141, 1143, 1144, 1145, 1146, 1147, 1148, 1149, 1151] (by decide +kernel) (by decide +kernel)
def pw_31 : List Cond := [.code ⟨"FromTheMiddleModel", "jointsOn", "(II)I"⟩ prog_10_method_34_code 5 (some .int), .methodLink "FromTheMiddleModel" 152 ⟨"FromTheMiddleModel", "gapOn", "(II)I"⟩, .instanceMethod ⟨"FromTheMiddleModel", "gapOn", "(II)I"⟩, .code ⟨"FromTheMiddleModel", "gapOn", "(II)I"⟩ prog_10_method_36_code 7 (some .int), .methodLink "FromTheMiddleModel" 142 ⟨"FromTheMiddleModel", "apart", "(II)I"⟩, .static ⟨"FromTheMiddleModel", "apart", "(II)I"⟩, .code ⟨"FromTheMiddleModel", "apart", "(II)I"⟩ prog_10_method_35_code 2 (some .int), .methodLink "FromTheMiddleModel" 155 ⟨"FromTheMiddleModel", "touchesOn", "(II)I"⟩, .instanceMethod ⟨"FromTheMiddleModel", "touchesOn", "(II)I"⟩, .code ⟨"FromTheMiddleModel", "touchesOn", "(II)I"⟩ prog_10_method_37_code 5 (some .int), .methodLink "FromTheMiddleModel" 158 ⟨"FromTheMiddleModel", "hidesOn", "(II)I"⟩, .instanceMethod ⟨"FromTheMiddleModel", "hidesOn", "(II)I"⟩, .code ⟨"FromTheMiddleModel", "hidesOn", "(II)I"⟩ prog_10_method_38_code 5 (some .int), .methodLink "FromTheMiddleModel" 173 ⟨"FromTheMiddleModel", "harmOn", "(I)I"⟩, .instanceMethod ⟨"FromTheMiddleModel", "harmOn", "(I)I"⟩, .code ⟨"FromTheMiddleModel", "harmOn", "(I)I"⟩ prog_10_method_42_code 2 (some .int), .methodLink "FromTheMiddleModel" 167 ⟨"FromTheMiddleModel", "harmsOn", "(I)I"⟩, .instanceMethod ⟨"FromTheMiddleModel", "harmsOn", "(I)I"⟩, .code ⟨"FromTheMiddleModel", "harmsOn", "(I)I"⟩ prog_10_method_39_code 7 (some .int), .methodLink "FromTheMiddleLaw" 83 ⟨"FromTheMiddleModel", "buy", "(I)I"⟩, .instanceMethod ⟨"FromTheMiddleModel", "buy", "(I)I"⟩, .selects "FromTheMiddleModel" ⟨"FromTheMiddleModel", "buy", "(I)I"⟩ ⟨"FromTheMiddleModel", "buy", "(I)I"⟩, .code ⟨"FromTheMiddleModel", "buy", "(I)I"⟩ prog_10_method_58_code 2 (some .int), .methodLink "FromTheMiddleModel" 201 ⟨"FromTheMiddleModel", "tiles", "()I"⟩, .instanceMethod ⟨"FromTheMiddleModel", "tiles", "()I"⟩, .code ⟨"FromTheMiddleModel", "tiles", "()I"⟩ prog_10_method_57_code 4 (some .int), .methodLink "FromTheMiddleModel" 198 ⟨"FromTheMiddleModel", "ofAll", "(I)I"⟩, .instanceMethod ⟨"FromTheMiddleModel", "ofAll", "(I)I"⟩, .code ⟨"FromTheMiddleModel", "ofAll", "(I)I"⟩ prog_10_method_33_code 5 (some .int), .methodLink "FromTheMiddleModel" 139 ⟨"FromTheMiddleModel", "halvesLaid", "()I"⟩, .instanceMethod ⟨"FromTheMiddleModel", "halvesLaid", "()I"⟩, .code ⟨"FromTheMiddleModel", "halvesLaid", "()I"⟩ prog_10_method_31_code 3 (some .int)]
set_option maxRecDepth 20000 in
theorem pw_31_in : GoodIn lw_tbl pw_31 := goodIn_r _ [1152, 1153, 1155, 1156, 1157, 1158, 1159, 1160, 1162, 1163, 1164, 1166, 1167, 1168, 1170, 1171, 1172, 1174, 1175, 1176, 1177, 1178, 1179, 1180, 1182, 1183, 1184, 1186, 1187, 1188, 1190, 1191] (by decide +kernel) (by decide +kernel)
def pw_32 : List Cond := [.methodLink "FromTheMiddleModel" 204 ⟨"FromTheMiddleModel", "harmAll", "()I"⟩, .instanceMethod ⟨"FromTheMiddleModel", "harmAll", "()I"⟩, .code ⟨"FromTheMiddleModel", "harmAll", "()I"⟩ prog_10_method_43_code 4 (some .int), .methodLink "FromTheMiddleLaw" 87 ⟨"FromTheMiddleModel", "loose", "(I)I"⟩, .instanceMethod ⟨"FromTheMiddleModel", "loose", "(I)I"⟩, .selects "FromTheMiddleModel" ⟨"FromTheMiddleModel", "loose", "(I)I"⟩ ⟨"FromTheMiddleModel", "loose", "(I)I"⟩, .code ⟨"FromTheMiddleModel", "loose", "(I)I"⟩ prog_10_method_60_code 4 (some .int), .methodLink "FromTheMiddleModel" 208 ⟨"FromTheMiddleModel", "draw", "()I"⟩, .instanceMethod ⟨"FromTheMiddleModel", "draw", "()I"⟩, .code ⟨"FromTheMiddleModel", "draw", "()I"⟩ prog_10_method_59_code 1 (some .int), .constant "FromTheMiddleModel" 207 1103515245, .methodLink "FromTheMiddleLaw" 91 ⟨"FromTheMiddleModel", "seed", "(I)I"⟩, .instanceMethod ⟨"FromTheMiddleModel", "seed", "(I)I"⟩, .selects "FromTheMiddleModel" ⟨"FromTheMiddleModel", "seed", "(I)I"⟩ ⟨"FromTheMiddleModel", "seed", "(I)I"⟩, .code ⟨"FromTheMiddleModel", "seed", "(I)I"⟩ prog_10_method_61_code 2 (some .int), .methodLink "FromTheMiddleLaw" 95 ⟨"FromTheMiddleModel", "best", "(I)I"⟩, .instanceMethod ⟨"FromTheMiddleModel", "best", "(I)I"⟩, .selects "FromTheMiddleModel" ⟨"FromTheMiddleModel", "best", "(I)I"⟩ ⟨"FromTheMiddleModel", "best", "(I)I"⟩, .code ⟨"FromTheMiddleModel", "best", "(I)I"⟩ prog_10_method_62_code 9 (some .int), .methodLink "FromTheMiddleLaw" 99 ⟨"FromTheMiddleModel", "calm", "(I)I"⟩, .instanceMethod ⟨"FromTheMiddleModel", "calm", "(I)I"⟩, .selects "FromTheMiddleModel" ⟨"FromTheMiddleModel", "calm", "(I)I"⟩ ⟨"FromTheMiddleModel", "calm", "(I)I"⟩, .code ⟨"FromTheMiddleModel", "calm", "(I)I"⟩ prog_10_method_63_code 7 (some .int), .methodLink "FromTheMiddleLaw" 103 ⟨"FromTheMiddleModel", "cheat", "(I)I"⟩, .instanceMethod ⟨"FromTheMiddleModel", "cheat", "(I)I"⟩, .selects "FromTheMiddleModel" ⟨"FromTheMiddleModel", "cheat", "(I)I"⟩ ⟨"FromTheMiddleModel", "cheat", "(I)I"⟩, .code ⟨"FromTheMiddleModel", "cheat", "(I)I"⟩ prog_10_method_64_code 4 (some .int), .methodLink "FromTheMiddleLaw" 107 ⟨"FromTheMiddleModel", "middle", "(I)I"⟩, .instanceMethod ⟨"FromTheMiddleModel", "middle", "(I)I"⟩, .selects "FromTheMiddleModel" ⟨"FromTheMiddleModel", "middle", "(I)I"⟩ ⟨"FromTheMiddleModel", "middle", "(I)I"⟩, .code ⟨"FromTheMiddleModel", "middle", "(I)I"⟩ prog_10_method_65_code 4 (some .int), .methodLink "FromTheMiddleLaw" 111 ⟨"FromTheMiddleModel", "odds", "(II)I"⟩]
set_option maxRecDepth 20000 in
theorem pw_32_in : GoodIn lw_tbl pw_32 := goodIn_r _ [1192, 1194, 1195, 1196, 1197, 1198, 1199, 1200, 1202, 1203, 1204, 1205, 1206, 1207, 1208, 1209, 1210, 1211, 1212, 1213, 1214, 1215, 1216, 1217, 1218, 1219, 1220, 1221, 1222, 1223, 1224, 1225] (by decide +kernel) (by decide +kernel)
def pw_33 : List Cond := [.instanceMethod ⟨"FromTheMiddleModel", "odds", "(II)I"⟩, .selects "FromTheMiddleModel" ⟨"FromTheMiddleModel", "odds", "(II)I"⟩ ⟨"FromTheMiddleModel", "odds", "(II)I"⟩, .code ⟨"FromTheMiddleModel", "odds", "(II)I"⟩ prog_10_method_67_code 6 (some .int), .methodLink "FromTheMiddleModel" 211 ⟨"FromTheMiddleModel", "divisor", "(II)I"⟩, .static ⟨"FromTheMiddleModel", "divisor", "(II)I"⟩, .code ⟨"FromTheMiddleModel", "divisor", "(II)I"⟩ prog_10_method_66_code 5 (some .int), .methodLink "FromTheMiddleLaw" 115 ⟨"FromTheMiddleModel", "fits", "(II)I"⟩, .instanceMethod ⟨"FromTheMiddleModel", "fits", "(II)I"⟩, .selects "FromTheMiddleModel" ⟨"FromTheMiddleModel", "fits", "(II)I"⟩ ⟨"FromTheMiddleModel", "fits", "(II)I"⟩, .code ⟨"FromTheMiddleModel", "fits", "(II)I"⟩ prog_10_method_69_code 9 (some .int), .methodLink "FromTheMiddleModel" 214 ⟨"FromTheMiddleModel", "lacks", "(I)I"⟩, .instanceMethod ⟨"FromTheMiddleModel", "lacks", "(I)I"⟩, .code ⟨"FromTheMiddleModel", "lacks", "(I)I"⟩ prog_10_method_84_code 2 (some .int), .methodLink "FromTheMiddleModel" 251 ⟨"FromTheMiddleModel", "isSheet", "(I)Z"⟩, .static ⟨"FromTheMiddleModel", "isSheet", "(I)Z"⟩, .code ⟨"FromTheMiddleModel", "isSheet", "(I)Z"⟩ prog_10_method_80_code 1 (some .boolean), .methodLink "FromTheMiddleModel" 217 ⟨"FromTheMiddleModel", "rightOf", "(I)I"⟩, .instanceMethod ⟨"FromTheMiddleModel", "rightOf", "(I)I"⟩, .code ⟨"FromTheMiddleModel", "rightOf", "(I)I"⟩ prog_10_method_68_code 3 (some .int), .methodLink "FromTheMiddleLaw" 119 ⟨"FromTheMiddleModel", "voice", "(III)I"⟩, .instanceMethod ⟨"FromTheMiddleModel", "voice", "(III)I"⟩, .selects "FromTheMiddleModel" ⟨"FromTheMiddleModel", "voice", "(III)I"⟩ ⟨"FromTheMiddleModel", "voice", "(III)I"⟩, .code ⟨"FromTheMiddleModel", "voice", "(III)I"⟩ prog_10_method_78_code 6 (some .int), .methodLink "FromTheMiddleModel" 232 ⟨"FromTheMiddleModel", "kindNow", "()I"⟩, .instanceMethod ⟨"FromTheMiddleModel", "kindNow", "()I"⟩, .code ⟨"FromTheMiddleModel", "kindNow", "()I"⟩ prog_10_method_72_code 1 (some .int), .methodLink "FromTheMiddleModel" 229 ⟨"FromTheMiddleModel", "dripsAs", "(II)I"⟩, .instanceMethod ⟨"FromTheMiddleModel", "dripsAs", "(II)I"⟩, .code ⟨"FromTheMiddleModel", "dripsAs", "(II)I"⟩ prog_10_method_74_code 3 (some .int), .methodLink "FromTheMiddleModel" 226 ⟨"FromTheMiddleModel", "starts", "(I)V"⟩, .instanceMethod ⟨"FromTheMiddleModel", "starts", "(I)V"⟩, .code ⟨"FromTheMiddleModel", "starts", "(I)V"⟩ prog_10_method_70_code 2 none]
set_option maxRecDepth 20000 in
theorem pw_33_in : GoodIn lw_tbl pw_33 := goodIn_r _ [1226, 1227, 1228, 1229, 1230, 1231, 1232, 1233, 1234, 1235, 1236, 1238, 1239, 1240, 1241, 1242, 1243, 1245, 1246, 1247, 1248, 1249, 1250, 1251, 1253, 1254, 1255, 1257, 1258, 1259, 1261, 1262] (by decide +kernel) (by decide +kernel)
def pw_34 : List Cond := [.methodLink "FromTheMiddleModel" 235 ⟨"FromTheMiddleModel", "scoresAs", "(II)I"⟩, .instanceMethod ⟨"FromTheMiddleModel", "scoresAs", "(II)I"⟩, .code ⟨"FromTheMiddleModel", "scoresAs", "(II)I"⟩ prog_10_method_75_code 3 (some .int), .methodLink "FromTheMiddleModel" 238 ⟨"FromTheMiddleModel", "mNow", "()I"⟩, .instanceMethod ⟨"FromTheMiddleModel", "mNow", "()I"⟩, .code ⟨"FromTheMiddleModel", "mNow", "()I"⟩ prog_10_method_73_code 1 (some .int), .methodLink "FromTheMiddleModel" 241 ⟨"FromTheMiddleModel", "snapsAs", "(II)I"⟩, .instanceMethod ⟨"FromTheMiddleModel", "snapsAs", "(II)I"⟩, .code ⟨"FromTheMiddleModel", "snapsAs", "(II)I"⟩ prog_10_method_76_code 3 (some .int), .methodLink "FromTheMiddleModel" 248 ⟨"FromTheMiddleModel", "partsAs", "(II)I"⟩, .instanceMethod ⟨"FromTheMiddleModel", "partsAs", "(II)I"⟩, .code ⟨"FromTheMiddleModel", "partsAs", "(II)I"⟩ prog_10_method_77_code 5 (some .int), .methodLink "FromTheMiddleLaw" 123 ⟨"FromTheMiddleModel", "body", "(I)I"⟩, .instanceMethod ⟨"FromTheMiddleModel", "body", "(I)I"⟩, .selects "FromTheMiddleModel" ⟨"FromTheMiddleModel", "body", "(I)I"⟩ ⟨"FromTheMiddleModel", "body", "(I)I"⟩, .code ⟨"FromTheMiddleModel", "body", "(I)I"⟩ prog_10_method_79_code 2 (some .int), .methodLink "FromTheMiddleLaw" 127 ⟨"FromTheMiddleModel", "sheet", "(III)I"⟩, .instanceMethod ⟨"FromTheMiddleModel", "sheet", "(III)I"⟩, .selects "FromTheMiddleModel" ⟨"FromTheMiddleModel", "sheet", "(III)I"⟩ ⟨"FromTheMiddleModel", "sheet", "(III)I"⟩, .code ⟨"FromTheMiddleModel", "sheet", "(III)I"⟩ prog_10_method_81_code 5 (some .int), .methodLink "FromTheMiddleLaw" 131 ⟨"FromTheMiddleModel", "put", "(III)I"⟩, .instanceMethod ⟨"FromTheMiddleModel", "put", "(III)I"⟩, .selects "FromTheMiddleModel" ⟨"FromTheMiddleModel", "put", "(III)I"⟩ ⟨"FromTheMiddleModel", "put", "(III)I"⟩, .code ⟨"FromTheMiddleModel", "put", "(III)I"⟩ prog_10_method_82_code 5 (some .int), .methodLink "FromTheMiddleLaw" 136 ⟨"FromTheMiddleModel", "move", "(IIIII)I"⟩, .instanceMethod ⟨"FromTheMiddleModel", "move", "(IIIII)I"⟩, .selects "FromTheMiddleModel" ⟨"FromTheMiddleModel", "move", "(IIIII)I"⟩ ⟨"FromTheMiddleModel", "move", "(IIIII)I"⟩, .code ⟨"FromTheMiddleModel", "move", "(IIIII)I"⟩ prog_10_method_83_code 7 (some .int), .methodLink "FromTheMiddleLaw" 140 ⟨"FromTheMiddleModel", "places", "(I)I"⟩, .instanceMethod ⟨"FromTheMiddleModel", "places", "(I)I"⟩, .selects "FromTheMiddleModel" ⟨"FromTheMiddleModel", "places", "(I)I"⟩ ⟨"FromTheMiddleModel", "places", "(I)I"⟩, .code ⟨"FromTheMiddleModel", "places", "(I)I"⟩ prog_10_method_85_code 4 (some .int)]
set_option maxRecDepth 20000 in
theorem pw_34_in : GoodIn lw_tbl pw_34 := goodIn_r _ [1263, 1265, 1266, 1267, 1269, 1270, 1271, 1273, 1274, 1275, 1277, 1278, 1279, 1280, 1281, 1282, 1283, 1284, 1285, 1286, 1287, 1288, 1289, 1290, 1291, 1292, 1293, 1294, 1295, 1296, 1297, 1298] (by decide +kernel) (by decide +kernel)
def pw_35 : List Cond := [.methodLink "FromTheMiddleLaw" 144 ⟨"FromTheMiddleModel", "judge", "(I)I"⟩, .instanceMethod ⟨"FromTheMiddleModel", "judge", "(I)I"⟩, .selects "FromTheMiddleModel" ⟨"FromTheMiddleModel", "judge", "(I)I"⟩ ⟨"FromTheMiddleModel", "judge", "(I)I"⟩, .code ⟨"FromTheMiddleModel", "judge", "(I)I"⟩ prog_10_method_86_code 3 (some .int), .methodLink "FromTheMiddleLaw" 149 ⟨"FromTheMiddleModel", "image", "()I"⟩, .instanceMethod ⟨"FromTheMiddleModel", "image", "()I"⟩, .selects "FromTheMiddleModel" ⟨"FromTheMiddleModel", "image", "()I"⟩ ⟨"FromTheMiddleModel", "image", "()I"⟩, .code ⟨"FromTheMiddleModel", "image", "()I"⟩ prog_10_method_87_code 1 (some .int), .methodLink "FromTheMiddleModel" 254 ⟨"FromTheMiddleModel", "copyAll", "([I[I)V"⟩, .static ⟨"FromTheMiddleModel", "copyAll", "([I[I)V"⟩, .code ⟨"FromTheMiddleModel", "copyAll", "([I[I)V"⟩ prog_10_method_5_code 3 none, .methodLink "FromTheMiddleLaw" 153 ⟨"FromTheMiddleModel", "restore", "()I"⟩, .instanceMethod ⟨"FromTheMiddleModel", "restore", "()I"⟩, .selects "FromTheMiddleModel" ⟨"FromTheMiddleModel", "restore", "()I"⟩ ⟨"FromTheMiddleModel", "restore", "()I"⟩, .code ⟨"FromTheMiddleModel", "restore", "()I"⟩ prog_10_method_88_code 1 (some .int), .methodLink "FromTheMiddleLaw" 157 ⟨"FromTheMiddleModel", "tell", "(I)I"⟩, .instanceMethod ⟨"FromTheMiddleModel", "tell", "(I)I"⟩, .selects "FromTheMiddleModel" ⟨"FromTheMiddleModel", "tell", "(I)I"⟩ ⟨"FromTheMiddleModel", "tell", "(I)I"⟩, .code ⟨"FromTheMiddleModel", "tell", "(I)I"⟩ prog_10_method_89_code 2 (some .int), .methodLink "FromTheMiddleLaw" 161 ⟨"FromTheMiddleModel", "check", "()I"⟩, .instanceMethod ⟨"FromTheMiddleModel", "check", "()I"⟩, .selects "FromTheMiddleModel" ⟨"FromTheMiddleModel", "check", "()I"⟩ ⟨"FromTheMiddleModel", "check", "()I"⟩, .code ⟨"FromTheMiddleModel", "check", "()I"⟩ prog_10_method_90_code 3 (some .int), .methodLink "FromTheMiddleLaw" 165 ⟨"FromTheMiddleModel", "count", "(I)I"⟩, .instanceMethod ⟨"FromTheMiddleModel", "count", "(I)I"⟩, .selects "FromTheMiddleModel" ⟨"FromTheMiddleModel", "count", "(I)I"⟩ ⟨"FromTheMiddleModel", "count", "(I)I"⟩, .code ⟨"FromTheMiddleModel", "count", "(I)I"⟩ prog_10_method_91_code 2 (some .int), .methodLink "FromTheMiddleLaw" 169 ⟨"FromTheMiddleModel", "told", "(I)I"⟩, .instanceMethod ⟨"FromTheMiddleModel", "told", "(I)I"⟩, .selects "FromTheMiddleModel" ⟨"FromTheMiddleModel", "told", "(I)I"⟩ ⟨"FromTheMiddleModel", "told", "(I)I"⟩, .code ⟨"FromTheMiddleModel", "told", "(I)I"⟩ prog_10_method_92_code 2 (some .int), .constantLong "FromTheMiddleLaw" 48 4294967295]
set_option maxRecDepth 20000 in
theorem pw_35_in : GoodIn lw_tbl pw_35 := goodIn_r _ [1299, 1300, 1301, 1302, 1303, 1304, 1305, 1306, 1307, 1308, 1309, 1310, 1311, 1312, 1313, 1314, 1315, 1316, 1317, 1318, 1319, 1320, 1321, 1322, 1323, 1324, 1325, 1326, 1327, 1328, 1329, 1330] (by decide +kernel) (by decide +kernel)
def pw_36 : List Cond := [.fieldLink "java/lang/String" 15 "java/lang/String" "coder" "B", .fieldLink "java/lang/String" 9 "java/lang/String" "value" "[B"]
set_option maxRecDepth 20000 in
theorem pw_36_in : GoodIn lw_tbl pw_36 := goodIn_r _ [1331, 1332] (by decide +kernel) (by decide +kernel)
def px_words : List Cond := pw_0 ++ (pw_1 ++ (pw_2 ++ (pw_3 ++ (pw_4 ++ (pw_5 ++ (pw_6 ++ (pw_7 ++ (pw_8 ++ (pw_9 ++ (pw_10 ++ (pw_11 ++ (pw_12 ++ (pw_13 ++ (pw_14 ++ (pw_15 ++ (pw_16 ++ (pw_17 ++ (pw_18 ++ (pw_19 ++ (pw_20 ++ (pw_21 ++ (pw_22 ++ (pw_23 ++ (pw_24 ++ (pw_25 ++ (pw_26 ++ (pw_27 ++ (pw_28 ++ (pw_29 ++ (pw_30 ++ (pw_31 ++ (pw_32 ++ (pw_33 ++ (pw_34 ++ (pw_35 ++ (pw_36))))))))))))))))))))))))))))))))))))
theorem pw_0_sub : ∀ w ∈ pw_0, w ∈ px_words := fun _ h => (List.mem_append_left _ h)
theorem pw_1_sub : ∀ w ∈ pw_1, w ∈ px_words := fun _ h => (List.mem_append_right _ (List.mem_append_left _ h))
theorem pw_2_sub : ∀ w ∈ pw_2, w ∈ px_words := fun _ h => (List.mem_append_right _ (List.mem_append_right _ (List.mem_append_left _ h)))
theorem pw_3_sub : ∀ w ∈ pw_3, w ∈ px_words := fun _ h => (List.mem_append_right _ (List.mem_append_right _ (List.mem_append_right _ (List.mem_append_left _ h))))
theorem pw_4_sub : ∀ w ∈ pw_4, w ∈ px_words := fun _ h => (List.mem_append_right _ (List.mem_append_right _ (List.mem_append_right _ (List.mem_append_right _ (List.mem_append_left _ h)))))
theorem pw_5_sub : ∀ w ∈ pw_5, w ∈ px_words := fun _ h => (List.mem_append_right _ (List.mem_append_right _ (List.mem_append_right _ (List.mem_append_right _ (List.mem_append_right _ (List.mem_append_left _ h))))))
theorem pw_6_sub : ∀ w ∈ pw_6, w ∈ px_words := fun _ h => (List.mem_append_right _ (List.mem_append_right _ (List.mem_append_right _ (List.mem_append_right _ (List.mem_append_right _ (List.mem_append_right _ (List.mem_append_left _ h)))))))
theorem pw_7_sub : ∀ w ∈ pw_7, w ∈ px_words := fun _ h => (List.mem_append_right _ (List.mem_append_right _ (List.mem_append_right _ (List.mem_append_right _ (List.mem_append_right _ (List.mem_append_right _ (List.mem_append_right _ (List.mem_append_left _ h))))))))
theorem pw_8_sub : ∀ w ∈ pw_8, w ∈ px_words := fun _ h => (List.mem_append_right _ (List.mem_append_right _ (List.mem_append_right _ (List.mem_append_right _ (List.mem_append_right _ (List.mem_append_right _ (List.mem_append_right _ (List.mem_append_right _ (List.mem_append_left _ h)))))))))
theorem pw_9_sub : ∀ w ∈ pw_9, w ∈ px_words := fun _ h => (List.mem_append_right _ (List.mem_append_right _ (List.mem_append_right _ (List.mem_append_right _ (List.mem_append_right _ (List.mem_append_right _ (List.mem_append_right _ (List.mem_append_right _ (List.mem_append_right _ (List.mem_append_left _ h))))))))))
theorem pw_10_sub : ∀ w ∈ pw_10, w ∈ px_words := fun _ h => (List.mem_append_right _ (List.mem_append_right _ (List.mem_append_right _ (List.mem_append_right _ (List.mem_append_right _ (List.mem_append_right _ (List.mem_append_right _ (List.mem_append_right _ (List.mem_append_right _ (List.mem_append_right _ (List.mem_append_left _ h)))))))))))
theorem pw_11_sub : ∀ w ∈ pw_11, w ∈ px_words := fun _ h => (List.mem_append_right _ (List.mem_append_right _ (List.mem_append_right _ (List.mem_append_right _ (List.mem_append_right _ (List.mem_append_right _ (List.mem_append_right _ (List.mem_append_right _ (List.mem_append_right _ (List.mem_append_right _ (List.mem_append_right _ (List.mem_append_left _ h))))))))))))
theorem pw_12_sub : ∀ w ∈ pw_12, w ∈ px_words := fun _ h => (List.mem_append_right _ (List.mem_append_right _ (List.mem_append_right _ (List.mem_append_right _ (List.mem_append_right _ (List.mem_append_right _ (List.mem_append_right _ (List.mem_append_right _ (List.mem_append_right _ (List.mem_append_right _ (List.mem_append_right _ (List.mem_append_right _ (List.mem_append_left _ h)))))))))))))
theorem pw_13_sub : ∀ w ∈ pw_13, w ∈ px_words := fun _ h => (List.mem_append_right _ (List.mem_append_right _ (List.mem_append_right _ (List.mem_append_right _ (List.mem_append_right _ (List.mem_append_right _ (List.mem_append_right _ (List.mem_append_right _ (List.mem_append_right _ (List.mem_append_right _ (List.mem_append_right _ (List.mem_append_right _ (List.mem_append_right _ (List.mem_append_left _ h))))))))))))))
theorem pw_14_sub : ∀ w ∈ pw_14, w ∈ px_words := fun _ h => (List.mem_append_right _ (List.mem_append_right _ (List.mem_append_right _ (List.mem_append_right _ (List.mem_append_right _ (List.mem_append_right _ (List.mem_append_right _ (List.mem_append_right _ (List.mem_append_right _ (List.mem_append_right _ (List.mem_append_right _ (List.mem_append_right _ (List.mem_append_right _ (List.mem_append_right _ (List.mem_append_left _ h)))))))))))))))
theorem pw_15_sub : ∀ w ∈ pw_15, w ∈ px_words := fun _ h => (List.mem_append_right _ (List.mem_append_right _ (List.mem_append_right _ (List.mem_append_right _ (List.mem_append_right _ (List.mem_append_right _ (List.mem_append_right _ (List.mem_append_right _ (List.mem_append_right _ (List.mem_append_right _ (List.mem_append_right _ (List.mem_append_right _ (List.mem_append_right _ (List.mem_append_right _ (List.mem_append_right _ (List.mem_append_left _ h))))))))))))))))
theorem pw_16_sub : ∀ w ∈ pw_16, w ∈ px_words := fun _ h => (List.mem_append_right _ (List.mem_append_right _ (List.mem_append_right _ (List.mem_append_right _ (List.mem_append_right _ (List.mem_append_right _ (List.mem_append_right _ (List.mem_append_right _ (List.mem_append_right _ (List.mem_append_right _ (List.mem_append_right _ (List.mem_append_right _ (List.mem_append_right _ (List.mem_append_right _ (List.mem_append_right _ (List.mem_append_right _ (List.mem_append_left _ h)))))))))))))))))
theorem pw_17_sub : ∀ w ∈ pw_17, w ∈ px_words := fun _ h => (List.mem_append_right _ (List.mem_append_right _ (List.mem_append_right _ (List.mem_append_right _ (List.mem_append_right _ (List.mem_append_right _ (List.mem_append_right _ (List.mem_append_right _ (List.mem_append_right _ (List.mem_append_right _ (List.mem_append_right _ (List.mem_append_right _ (List.mem_append_right _ (List.mem_append_right _ (List.mem_append_right _ (List.mem_append_right _ (List.mem_append_right _ (List.mem_append_left _ h))))))))))))))))))
theorem pw_18_sub : ∀ w ∈ pw_18, w ∈ px_words := fun _ h => (List.mem_append_right _ (List.mem_append_right _ (List.mem_append_right _ (List.mem_append_right _ (List.mem_append_right _ (List.mem_append_right _ (List.mem_append_right _ (List.mem_append_right _ (List.mem_append_right _ (List.mem_append_right _ (List.mem_append_right _ (List.mem_append_right _ (List.mem_append_right _ (List.mem_append_right _ (List.mem_append_right _ (List.mem_append_right _ (List.mem_append_right _ (List.mem_append_right _ (List.mem_append_left _ h)))))))))))))))))))
theorem pw_19_sub : ∀ w ∈ pw_19, w ∈ px_words := fun _ h => (List.mem_append_right _ (List.mem_append_right _ (List.mem_append_right _ (List.mem_append_right _ (List.mem_append_right _ (List.mem_append_right _ (List.mem_append_right _ (List.mem_append_right _ (List.mem_append_right _ (List.mem_append_right _ (List.mem_append_right _ (List.mem_append_right _ (List.mem_append_right _ (List.mem_append_right _ (List.mem_append_right _ (List.mem_append_right _ (List.mem_append_right _ (List.mem_append_right _ (List.mem_append_right _ (List.mem_append_left _ h))))))))))))))))))))
theorem pw_20_sub : ∀ w ∈ pw_20, w ∈ px_words := fun _ h => (List.mem_append_right _ (List.mem_append_right _ (List.mem_append_right _ (List.mem_append_right _ (List.mem_append_right _ (List.mem_append_right _ (List.mem_append_right _ (List.mem_append_right _ (List.mem_append_right _ (List.mem_append_right _ (List.mem_append_right _ (List.mem_append_right _ (List.mem_append_right _ (List.mem_append_right _ (List.mem_append_right _ (List.mem_append_right _ (List.mem_append_right _ (List.mem_append_right _ (List.mem_append_right _ (List.mem_append_right _ (List.mem_append_left _ h)))))))))))))))))))))
theorem pw_21_sub : ∀ w ∈ pw_21, w ∈ px_words := fun _ h => (List.mem_append_right _ (List.mem_append_right _ (List.mem_append_right _ (List.mem_append_right _ (List.mem_append_right _ (List.mem_append_right _ (List.mem_append_right _ (List.mem_append_right _ (List.mem_append_right _ (List.mem_append_right _ (List.mem_append_right _ (List.mem_append_right _ (List.mem_append_right _ (List.mem_append_right _ (List.mem_append_right _ (List.mem_append_right _ (List.mem_append_right _ (List.mem_append_right _ (List.mem_append_right _ (List.mem_append_right _ (List.mem_append_right _ (List.mem_append_left _ h))))))))))))))))))))))
theorem pw_22_sub : ∀ w ∈ pw_22, w ∈ px_words := fun _ h => (List.mem_append_right _ (List.mem_append_right _ (List.mem_append_right _ (List.mem_append_right _ (List.mem_append_right _ (List.mem_append_right _ (List.mem_append_right _ (List.mem_append_right _ (List.mem_append_right _ (List.mem_append_right _ (List.mem_append_right _ (List.mem_append_right _ (List.mem_append_right _ (List.mem_append_right _ (List.mem_append_right _ (List.mem_append_right _ (List.mem_append_right _ (List.mem_append_right _ (List.mem_append_right _ (List.mem_append_right _ (List.mem_append_right _ (List.mem_append_right _ (List.mem_append_left _ h)))))))))))))))))))))))
theorem pw_23_sub : ∀ w ∈ pw_23, w ∈ px_words := fun _ h => (List.mem_append_right _ (List.mem_append_right _ (List.mem_append_right _ (List.mem_append_right _ (List.mem_append_right _ (List.mem_append_right _ (List.mem_append_right _ (List.mem_append_right _ (List.mem_append_right _ (List.mem_append_right _ (List.mem_append_right _ (List.mem_append_right _ (List.mem_append_right _ (List.mem_append_right _ (List.mem_append_right _ (List.mem_append_right _ (List.mem_append_right _ (List.mem_append_right _ (List.mem_append_right _ (List.mem_append_right _ (List.mem_append_right _ (List.mem_append_right _ (List.mem_append_right _ (List.mem_append_left _ h))))))))))))))))))))))))
theorem pw_24_sub : ∀ w ∈ pw_24, w ∈ px_words := fun _ h => (List.mem_append_right _ (List.mem_append_right _ (List.mem_append_right _ (List.mem_append_right _ (List.mem_append_right _ (List.mem_append_right _ (List.mem_append_right _ (List.mem_append_right _ (List.mem_append_right _ (List.mem_append_right _ (List.mem_append_right _ (List.mem_append_right _ (List.mem_append_right _ (List.mem_append_right _ (List.mem_append_right _ (List.mem_append_right _ (List.mem_append_right _ (List.mem_append_right _ (List.mem_append_right _ (List.mem_append_right _ (List.mem_append_right _ (List.mem_append_right _ (List.mem_append_right _ (List.mem_append_right _ (List.mem_append_left _ h)))))))))))))))))))))))))
theorem pw_25_sub : ∀ w ∈ pw_25, w ∈ px_words := fun _ h => (List.mem_append_right _ (List.mem_append_right _ (List.mem_append_right _ (List.mem_append_right _ (List.mem_append_right _ (List.mem_append_right _ (List.mem_append_right _ (List.mem_append_right _ (List.mem_append_right _ (List.mem_append_right _ (List.mem_append_right _ (List.mem_append_right _ (List.mem_append_right _ (List.mem_append_right _ (List.mem_append_right _ (List.mem_append_right _ (List.mem_append_right _ (List.mem_append_right _ (List.mem_append_right _ (List.mem_append_right _ (List.mem_append_right _ (List.mem_append_right _ (List.mem_append_right _ (List.mem_append_right _ (List.mem_append_right _ (List.mem_append_left _ h))))))))))))))))))))))))))
theorem pw_26_sub : ∀ w ∈ pw_26, w ∈ px_words := fun _ h => (List.mem_append_right _ (List.mem_append_right _ (List.mem_append_right _ (List.mem_append_right _ (List.mem_append_right _ (List.mem_append_right _ (List.mem_append_right _ (List.mem_append_right _ (List.mem_append_right _ (List.mem_append_right _ (List.mem_append_right _ (List.mem_append_right _ (List.mem_append_right _ (List.mem_append_right _ (List.mem_append_right _ (List.mem_append_right _ (List.mem_append_right _ (List.mem_append_right _ (List.mem_append_right _ (List.mem_append_right _ (List.mem_append_right _ (List.mem_append_right _ (List.mem_append_right _ (List.mem_append_right _ (List.mem_append_right _ (List.mem_append_right _ (List.mem_append_left _ h)))))))))))))))))))))))))))
theorem pw_27_sub : ∀ w ∈ pw_27, w ∈ px_words := fun _ h => (List.mem_append_right _ (List.mem_append_right _ (List.mem_append_right _ (List.mem_append_right _ (List.mem_append_right _ (List.mem_append_right _ (List.mem_append_right _ (List.mem_append_right _ (List.mem_append_right _ (List.mem_append_right _ (List.mem_append_right _ (List.mem_append_right _ (List.mem_append_right _ (List.mem_append_right _ (List.mem_append_right _ (List.mem_append_right _ (List.mem_append_right _ (List.mem_append_right _ (List.mem_append_right _ (List.mem_append_right _ (List.mem_append_right _ (List.mem_append_right _ (List.mem_append_right _ (List.mem_append_right _ (List.mem_append_right _ (List.mem_append_right _ (List.mem_append_right _ (List.mem_append_left _ h))))))))))))))))))))))))))))
theorem pw_28_sub : ∀ w ∈ pw_28, w ∈ px_words := fun _ h => (List.mem_append_right _ (List.mem_append_right _ (List.mem_append_right _ (List.mem_append_right _ (List.mem_append_right _ (List.mem_append_right _ (List.mem_append_right _ (List.mem_append_right _ (List.mem_append_right _ (List.mem_append_right _ (List.mem_append_right _ (List.mem_append_right _ (List.mem_append_right _ (List.mem_append_right _ (List.mem_append_right _ (List.mem_append_right _ (List.mem_append_right _ (List.mem_append_right _ (List.mem_append_right _ (List.mem_append_right _ (List.mem_append_right _ (List.mem_append_right _ (List.mem_append_right _ (List.mem_append_right _ (List.mem_append_right _ (List.mem_append_right _ (List.mem_append_right _ (List.mem_append_right _ (List.mem_append_left _ h)))))))))))))))))))))))))))))
theorem pw_29_sub : ∀ w ∈ pw_29, w ∈ px_words := fun _ h => (List.mem_append_right _ (List.mem_append_right _ (List.mem_append_right _ (List.mem_append_right _ (List.mem_append_right _ (List.mem_append_right _ (List.mem_append_right _ (List.mem_append_right _ (List.mem_append_right _ (List.mem_append_right _ (List.mem_append_right _ (List.mem_append_right _ (List.mem_append_right _ (List.mem_append_right _ (List.mem_append_right _ (List.mem_append_right _ (List.mem_append_right _ (List.mem_append_right _ (List.mem_append_right _ (List.mem_append_right _ (List.mem_append_right _ (List.mem_append_right _ (List.mem_append_right _ (List.mem_append_right _ (List.mem_append_right _ (List.mem_append_right _ (List.mem_append_right _ (List.mem_append_right _ (List.mem_append_right _ (List.mem_append_left _ h))))))))))))))))))))))))))))))
theorem pw_30_sub : ∀ w ∈ pw_30, w ∈ px_words := fun _ h => (List.mem_append_right _ (List.mem_append_right _ (List.mem_append_right _ (List.mem_append_right _ (List.mem_append_right _ (List.mem_append_right _ (List.mem_append_right _ (List.mem_append_right _ (List.mem_append_right _ (List.mem_append_right _ (List.mem_append_right _ (List.mem_append_right _ (List.mem_append_right _ (List.mem_append_right _ (List.mem_append_right _ (List.mem_append_right _ (List.mem_append_right _ (List.mem_append_right _ (List.mem_append_right _ (List.mem_append_right _ (List.mem_append_right _ (List.mem_append_right _ (List.mem_append_right _ (List.mem_append_right _ (List.mem_append_right _ (List.mem_append_right _ (List.mem_append_right _ (List.mem_append_right _ (List.mem_append_right _ (List.mem_append_right _ (List.mem_append_left _ h)))))))))))))))))))))))))))))))
theorem pw_31_sub : ∀ w ∈ pw_31, w ∈ px_words := fun _ h => (List.mem_append_right _ (List.mem_append_right _ (List.mem_append_right _ (List.mem_append_right _ (List.mem_append_right _ (List.mem_append_right _ (List.mem_append_right _ (List.mem_append_right _ (List.mem_append_right _ (List.mem_append_right _ (List.mem_append_right _ (List.mem_append_right _ (List.mem_append_right _ (List.mem_append_right _ (List.mem_append_right _ (List.mem_append_right _ (List.mem_append_right _ (List.mem_append_right _ (List.mem_append_right _ (List.mem_append_right _ (List.mem_append_right _ (List.mem_append_right _ (List.mem_append_right _ (List.mem_append_right _ (List.mem_append_right _ (List.mem_append_right _ (List.mem_append_right _ (List.mem_append_right _ (List.mem_append_right _ (List.mem_append_right _ (List.mem_append_right _ (List.mem_append_left _ h))))))))))))))))))))))))))))))))
theorem pw_32_sub : ∀ w ∈ pw_32, w ∈ px_words := fun _ h => (List.mem_append_right _ (List.mem_append_right _ (List.mem_append_right _ (List.mem_append_right _ (List.mem_append_right _ (List.mem_append_right _ (List.mem_append_right _ (List.mem_append_right _ (List.mem_append_right _ (List.mem_append_right _ (List.mem_append_right _ (List.mem_append_right _ (List.mem_append_right _ (List.mem_append_right _ (List.mem_append_right _ (List.mem_append_right _ (List.mem_append_right _ (List.mem_append_right _ (List.mem_append_right _ (List.mem_append_right _ (List.mem_append_right _ (List.mem_append_right _ (List.mem_append_right _ (List.mem_append_right _ (List.mem_append_right _ (List.mem_append_right _ (List.mem_append_right _ (List.mem_append_right _ (List.mem_append_right _ (List.mem_append_right _ (List.mem_append_right _ (List.mem_append_right _ (List.mem_append_left _ h)))))))))))))))))))))))))))))))))
theorem pw_33_sub : ∀ w ∈ pw_33, w ∈ px_words := fun _ h => (List.mem_append_right _ (List.mem_append_right _ (List.mem_append_right _ (List.mem_append_right _ (List.mem_append_right _ (List.mem_append_right _ (List.mem_append_right _ (List.mem_append_right _ (List.mem_append_right _ (List.mem_append_right _ (List.mem_append_right _ (List.mem_append_right _ (List.mem_append_right _ (List.mem_append_right _ (List.mem_append_right _ (List.mem_append_right _ (List.mem_append_right _ (List.mem_append_right _ (List.mem_append_right _ (List.mem_append_right _ (List.mem_append_right _ (List.mem_append_right _ (List.mem_append_right _ (List.mem_append_right _ (List.mem_append_right _ (List.mem_append_right _ (List.mem_append_right _ (List.mem_append_right _ (List.mem_append_right _ (List.mem_append_right _ (List.mem_append_right _ (List.mem_append_right _ (List.mem_append_right _ (List.mem_append_left _ h))))))))))))))))))))))))))))))))))
theorem pw_34_sub : ∀ w ∈ pw_34, w ∈ px_words := fun _ h => (List.mem_append_right _ (List.mem_append_right _ (List.mem_append_right _ (List.mem_append_right _ (List.mem_append_right _ (List.mem_append_right _ (List.mem_append_right _ (List.mem_append_right _ (List.mem_append_right _ (List.mem_append_right _ (List.mem_append_right _ (List.mem_append_right _ (List.mem_append_right _ (List.mem_append_right _ (List.mem_append_right _ (List.mem_append_right _ (List.mem_append_right _ (List.mem_append_right _ (List.mem_append_right _ (List.mem_append_right _ (List.mem_append_right _ (List.mem_append_right _ (List.mem_append_right _ (List.mem_append_right _ (List.mem_append_right _ (List.mem_append_right _ (List.mem_append_right _ (List.mem_append_right _ (List.mem_append_right _ (List.mem_append_right _ (List.mem_append_right _ (List.mem_append_right _ (List.mem_append_right _ (List.mem_append_right _ (List.mem_append_left _ h)))))))))))))))))))))))))))))))))))
theorem pw_35_sub : ∀ w ∈ pw_35, w ∈ px_words := fun _ h => (List.mem_append_right _ (List.mem_append_right _ (List.mem_append_right _ (List.mem_append_right _ (List.mem_append_right _ (List.mem_append_right _ (List.mem_append_right _ (List.mem_append_right _ (List.mem_append_right _ (List.mem_append_right _ (List.mem_append_right _ (List.mem_append_right _ (List.mem_append_right _ (List.mem_append_right _ (List.mem_append_right _ (List.mem_append_right _ (List.mem_append_right _ (List.mem_append_right _ (List.mem_append_right _ (List.mem_append_right _ (List.mem_append_right _ (List.mem_append_right _ (List.mem_append_right _ (List.mem_append_right _ (List.mem_append_right _ (List.mem_append_right _ (List.mem_append_right _ (List.mem_append_right _ (List.mem_append_right _ (List.mem_append_right _ (List.mem_append_right _ (List.mem_append_right _ (List.mem_append_right _ (List.mem_append_right _ (List.mem_append_right _ (List.mem_append_left _ h))))))))))))))))))))))))))))))))))))
theorem pw_36_sub : ∀ w ∈ pw_36, w ∈ px_words := fun _ h => (List.mem_append_right _ (List.mem_append_right _ (List.mem_append_right _ (List.mem_append_right _ (List.mem_append_right _ (List.mem_append_right _ (List.mem_append_right _ (List.mem_append_right _ (List.mem_append_right _ (List.mem_append_right _ (List.mem_append_right _ (List.mem_append_right _ (List.mem_append_right _ (List.mem_append_right _ (List.mem_append_right _ (List.mem_append_right _ (List.mem_append_right _ (List.mem_append_right _ (List.mem_append_right _ (List.mem_append_right _ (List.mem_append_right _ (List.mem_append_right _ (List.mem_append_right _ (List.mem_append_right _ (List.mem_append_right _ (List.mem_append_right _ (List.mem_append_right _ (List.mem_append_right _ (List.mem_append_right _ (List.mem_append_right _ (List.mem_append_right _ (List.mem_append_right _ (List.mem_append_right _ (List.mem_append_right _ (List.mem_append_right _ (List.mem_append_right _ h))))))))))))))))))))))))))))))))))))
theorem px_words_good : GoodIn lw_tbl px_words := goodIn_app pw_0_in (goodIn_app pw_1_in (goodIn_app pw_2_in (goodIn_app pw_3_in (goodIn_app pw_4_in (goodIn_app pw_5_in (goodIn_app pw_6_in (goodIn_app pw_7_in (goodIn_app pw_8_in (goodIn_app pw_9_in (goodIn_app pw_10_in (goodIn_app pw_11_in (goodIn_app pw_12_in (goodIn_app pw_13_in (goodIn_app pw_14_in (goodIn_app pw_15_in (goodIn_app pw_16_in (goodIn_app pw_17_in (goodIn_app pw_18_in (goodIn_app pw_19_in (goodIn_app pw_20_in (goodIn_app pw_21_in (goodIn_app pw_22_in (goodIn_app pw_23_in (goodIn_app pw_24_in (goodIn_app pw_25_in (goodIn_app pw_26_in (goodIn_app pw_27_in (goodIn_app pw_28_in (goodIn_app pw_29_in (goodIn_app pw_30_in (goodIn_app pw_31_in (goodIn_app pw_32_in (goodIn_app pw_33_in (goodIn_app pw_34_in (goodIn_app pw_35_in (pw_36_in))))))))))))))))))))))))))))))))))))
theorem wq_0 : (Cond.selects "FromTheMiddle" ⟨"FromTheMiddle", "error", "(I)I"⟩ ⟨"FromTheMiddle", "error", "(I)I"⟩ : Cond) ∈ px_words := pw_0_sub _ (List.mem_of_getElem? (i := 0) rfl)
theorem wq_1 : (Cond.selects "FromTheMiddle" ⟨"FromTheMiddle", "is", "(I)I"⟩ ⟨"FromTheMiddle", "is", "(I)I"⟩ : Cond) ∈ px_words := pw_0_sub _ (List.mem_of_getElem? (i := 1) rfl)
theorem wq_2 : (Cond.selects "FromTheMiddle" ⟨"FromTheMiddle", "isThing", "(I)Z"⟩ ⟨"FromTheMiddle", "isThing", "(I)Z"⟩ : Cond) ∈ px_words := pw_0_sub _ (List.mem_of_getElem? (i := 2) rfl)
theorem wq_3 : (Cond.selects "FromTheMiddle$Reader" ⟨"FromTheMiddle$Reader", "beginOperand", "(ILjava/lang/String;)Z"⟩ ⟨"FromTheMiddle$Reader", "beginOperand", "(ILjava/lang/String;)Z"⟩ : Cond) ∈ px_words := pw_0_sub _ (List.mem_of_getElem? (i := 3) rfl)
theorem wq_4 : (Cond.selects "FromTheMiddle$Reader" ⟨"FromTheMiddle$Reader", "goOn", "(I)Z"⟩ ⟨"FromTheMiddle$Reader", "goOn", "(I)Z"⟩ : Cond) ∈ px_words := pw_0_sub _ (List.mem_of_getElem? (i := 4) rfl)
theorem wq_5 : (Cond.selects "FromTheMiddle$Reader" ⟨"FromTheMiddle$Reader", "addDigit", "(I)Z"⟩ ⟨"FromTheMiddle$Reader", "addDigit", "(I)Z"⟩ : Cond) ∈ px_words := pw_0_sub _ (List.mem_of_getElem? (i := 5) rfl)
theorem wq_6 : (Cond.selects "FromTheMiddle$Reader" ⟨"FromTheMiddle$Reader", "close", "()Z"⟩ ⟨"FromTheMiddle$Reader", "close", "()Z"⟩ : Cond) ∈ px_words := pw_0_sub _ (List.mem_of_getElem? (i := 6) rfl)
theorem wq_7 : (Cond.selects "FromTheMiddle$Reader" ⟨"FromTheMiddle$Reader", "settle", "(I)V"⟩ ⟨"FromTheMiddle$Reader", "settle", "(I)V"⟩ : Cond) ∈ px_words := pw_0_sub _ (List.mem_of_getElem? (i := 7) rfl)
theorem wq_8 : (Cond.selects "FromTheMiddle" ⟨"FromTheMiddle", "ruled", "(IIII)I"⟩ ⟨"FromTheMiddle", "ruled", "(IIII)I"⟩ : Cond) ∈ px_words := pw_0_sub _ (List.mem_of_getElem? (i := 8) rfl)
theorem wq_9 : (Cond.selects "FromTheMiddle$Reckoner" ⟨"FromTheMiddle$Reckoner", "joined", "(I)I"⟩ ⟨"FromTheMiddle$Reckoner", "joined", "(I)I"⟩ : Cond) ∈ px_words := pw_0_sub _ (List.mem_of_getElem? (i := 9) rfl)
theorem wq_10 : (Cond.selects "FromTheMiddle" ⟨"FromTheMiddle", "isRow", "(I)Z"⟩ ⟨"FromTheMiddle", "isRow", "(I)Z"⟩ : Cond) ∈ px_words := pw_0_sub _ (List.mem_of_getElem? (i := 10) rfl)
theorem wq_11 : (Cond.selects "FromTheMiddle" ⟨"FromTheMiddle", "lay", "(II)V"⟩ ⟨"FromTheMiddle", "lay", "(II)V"⟩ : Cond) ∈ px_words := pw_0_sub _ (List.mem_of_getElem? (i := 11) rfl)
theorem wq_12 : (Cond.selects "FromTheMiddle" ⟨"FromTheMiddle", "firstPiece", "(II)I"⟩ ⟨"FromTheMiddle", "firstPiece", "(II)I"⟩ : Cond) ∈ px_words := pw_0_sub _ (List.mem_of_getElem? (i := 12) rfl)
theorem wq_13 : (Cond.selects "FromTheMiddle" ⟨"FromTheMiddle", "rowLength", "(I)I"⟩ ⟨"FromTheMiddle", "rowLength", "(I)I"⟩ : Cond) ∈ px_words := pw_0_sub _ (List.mem_of_getElem? (i := 13) rfl)
theorem wq_14 : (Cond.selects "FromTheMiddle$Row" ⟨"FromTheMiddle$Row", "behindFirstAheadOf", "(I)I"⟩ ⟨"FromTheMiddle$Row", "behindFirstAheadOf", "(I)I"⟩ : Cond) ∈ px_words := pw_0_sub _ (List.mem_of_getElem? (i := 14) rfl)
theorem wq_15 : (Cond.selects "FromTheMiddle$Row" ⟨"FromTheMiddle$Row", "isCut", "(I)Z"⟩ ⟨"FromTheMiddle$Row", "isCut", "(I)Z"⟩ : Cond) ∈ px_words := pw_0_sub _ (List.mem_of_getElem? (i := 15) rfl)
theorem wq_16 : (Cond.selects "FromTheMiddle$Row" ⟨"FromTheMiddle$Row", "ofEdges", "(ZZ)I"⟩ ⟨"FromTheMiddle$Row", "ofEdges", "(ZZ)I"⟩ : Cond) ∈ px_words := pw_0_sub _ (List.mem_of_getElem? (i := 16) rfl)
theorem wq_17 : (Cond.selects "FromTheMiddle" ⟨"FromTheMiddle", "harmOf", "(I)I"⟩ ⟨"FromTheMiddle", "harmOf", "(I)I"⟩ : Cond) ∈ px_words := pw_0_sub _ (List.mem_of_getElem? (i := 17) rfl)
theorem wq_18 : (Cond.selects "FromTheMiddle$Row" ⟨"FromTheMiddle$Row", "endingNotBehind", "(I)I"⟩ ⟨"FromTheMiddle$Row", "endingNotBehind", "(I)I"⟩ : Cond) ∈ px_words := pw_0_sub _ (List.mem_of_getElem? (i := 18) rfl)
theorem wq_19 : (Cond.selects "FromTheMiddle$Row" ⟨"FromTheMiddle$Row", "isHidden", "(III)Z"⟩ ⟨"FromTheMiddle$Row", "isHidden", "(III)Z"⟩ : Cond) ∈ px_words := pw_0_sub _ (List.mem_of_getElem? (i := 19) rfl)
theorem wq_20 : (Cond.selects "FromTheMiddle$Row" ⟨"FromTheMiddle$Row", "gapOfBeginnings", "(II)I"⟩ ⟨"FromTheMiddle$Row", "gapOfBeginnings", "(II)I"⟩ : Cond) ∈ px_words := pw_0_sub _ (List.mem_of_getElem? (i := 20) rfl)
theorem wq_21 : (Cond.selects "FromTheMiddle$Row" ⟨"FromTheMiddle$Row", "gapOfEndings", "(II)I"⟩ ⟨"FromTheMiddle$Row", "gapOfEndings", "(II)I"⟩ : Cond) ∈ px_words := pw_0_sub _ (List.mem_of_getElem? (i := 21) rfl)
theorem wq_22 : (Cond.selects "FromTheMiddle" ⟨"FromTheMiddle", "tilesToBuy", "()I"⟩ ⟨"FromTheMiddle", "tilesToBuy", "()I"⟩ : Cond) ∈ px_words := pw_0_sub _ (List.mem_of_getElem? (i := 22) rfl)
theorem wq_23 : (Cond.selects "FromTheMiddle" ⟨"FromTheMiddle", "halves", "()I"⟩ ⟨"FromTheMiddle", "halves", "()I"⟩ : Cond) ∈ px_words := pw_0_sub _ (List.mem_of_getElem? (i := 23) rfl)
theorem wq_24 : (Cond.selects "FromTheMiddle$Row" ⟨"FromTheMiddle$Row", "isHalf", "(I)Z"⟩ ⟨"FromTheMiddle$Row", "isHalf", "(I)Z"⟩ : Cond) ∈ px_words := pw_0_sub _ (List.mem_of_getElem? (i := 24) rfl)
theorem wq_25 : (Cond.selects "FromTheMiddle" ⟨"FromTheMiddle", "pieces", "()I"⟩ ⟨"FromTheMiddle", "pieces", "()I"⟩ : Cond) ∈ px_words := pw_0_sub _ (List.mem_of_getElem? (i := 25) rfl)
theorem wq_26 : (Cond.selects "FromTheMiddle" ⟨"FromTheMiddle", "cutsBy", "(I)I"⟩ ⟨"FromTheMiddle", "cutsBy", "(I)I"⟩ : Cond) ∈ px_words := pw_0_sub _ (List.mem_of_getElem? (i := 26) rfl)
theorem wq_27 : (Cond.selects "FromTheMiddle" ⟨"FromTheMiddle", "narrowestBy", "(I)I"⟩ ⟨"FromTheMiddle", "narrowestBy", "(I)I"⟩ : Cond) ∈ px_words := pw_0_sub _ (List.mem_of_getElem? (i := 27) rfl)
theorem wq_28 : (Cond.selects "FromTheMiddle" ⟨"FromTheMiddle", "harmBy", "(I)I"⟩ ⟨"FromTheMiddle", "harmBy", "(I)I"⟩ : Cond) ∈ px_words := pw_0_sub _ (List.mem_of_getElem? (i := 28) rfl)
theorem wq_29 : (Cond.selects "FromTheMiddle" ⟨"FromTheMiddle", "changeByDraws", "()V"⟩ ⟨"FromTheMiddle", "changeByDraws", "()V"⟩ : Cond) ∈ px_words := pw_0_sub _ (List.mem_of_getElem? (i := 29) rfl)
theorem wq_30 : (Cond.selects "FromTheMiddle" ⟨"FromTheMiddle", "draw", "()I"⟩ ⟨"FromTheMiddle", "draw", "()I"⟩ : Cond) ∈ px_words := pw_0_sub _ (List.mem_of_getElem? (i := 30) rfl)
theorem wq_31 : (Cond.selects "FromTheMiddle" ⟨"FromTheMiddle", "bestStart", "()I"⟩ ⟨"FromTheMiddle", "bestStart", "()I"⟩ : Cond) ∈ px_words := pw_0_sub _ (List.mem_of_getElem? (i := 31) rfl)
theorem wq_32 : (Cond.selects "FromTheMiddle" ⟨"FromTheMiddle", "sheetAt", "(I)LFromTheMiddle$Sheet;"⟩ ⟨"FromTheMiddle", "sheetAt", "(I)LFromTheMiddle$Sheet;"⟩ : Cond) ∈ px_words := pw_1_sub _ (List.mem_of_getElem? (i := 0) rfl)
theorem wq_33 : (Cond.selects "FromTheMiddle" ⟨"FromTheMiddle", "rightFromFirst", "(LFromTheMiddle$Numbers;)I"⟩ ⟨"FromTheMiddle", "rightFromFirst", "(LFromTheMiddle$Numbers;)I"⟩ : Cond) ∈ px_words := pw_1_sub _ (List.mem_of_getElem? (i := 1) rfl)
theorem wq_34 : (Cond.selects "FromTheMiddle$Voices" ⟨"FromTheMiddle$Voices", "bodyOf", "(I)I"⟩ ⟨"FromTheMiddle$Voices", "bodyOf", "(I)I"⟩ : Cond) ∈ px_words := pw_1_sub _ (List.mem_of_getElem? (i := 2) rfl)
theorem wq_35 : (Cond.selects "FromTheMiddle$Voices" ⟨"FromTheMiddle$Voices", "chained", "(II)I"⟩ ⟨"FromTheMiddle$Voices", "chained", "(II)I"⟩ : Cond) ∈ px_words := pw_1_sub _ (List.mem_of_getElem? (i := 3) rfl)
theorem wq_36 : (Cond.selects "FromTheMiddle$Voices" ⟨"FromTheMiddle$Voices", "handedDown", "(II)I"⟩ ⟨"FromTheMiddle$Voices", "handedDown", "(II)I"⟩ : Cond) ∈ px_words := pw_1_sub _ (List.mem_of_getElem? (i := 4) rfl)
theorem wq_37 : (Cond.selects "FromTheMiddle$Voices" ⟨"FromTheMiddle$Voices", "calledBy", "(I)I"⟩ ⟨"FromTheMiddle$Voices", "calledBy", "(I)I"⟩ : Cond) ∈ px_words := pw_1_sub _ (List.mem_of_getElem? (i := 5) rfl)
theorem wq_38 : (Cond.selects "FromTheMiddle$Voices" ⟨"FromTheMiddle$Voices", "handedUp", "(II)I"⟩ ⟨"FromTheMiddle$Voices", "handedUp", "(II)I"⟩ : Cond) ∈ px_words := pw_1_sub _ (List.mem_of_getElem? (i := 6) rfl)
theorem wq_39 : (Cond.selects "FromTheMiddleModel" ⟨"FromTheMiddleModel", "error", "(I)I"⟩ ⟨"FromTheMiddleModel", "error", "(I)I"⟩ : Cond) ∈ px_words := pw_1_sub _ (List.mem_of_getElem? (i := 7) rfl)
theorem wq_40 : (Cond.selects "FromTheMiddleModel" ⟨"FromTheMiddleModel", "whole", "()Z"⟩ ⟨"FromTheMiddleModel", "whole", "()Z"⟩ : Cond) ∈ px_words := pw_1_sub _ (List.mem_of_getElem? (i := 8) rfl)
theorem wq_41 : (Cond.selects "FromTheMiddleModel" ⟨"FromTheMiddleModel", "both", "()Z"⟩ ⟨"FromTheMiddleModel", "both", "()Z"⟩ : Cond) ∈ px_words := pw_1_sub _ (List.mem_of_getElem? (i := 9) rfl)
theorem wq_42 : (Cond.selects "FromTheMiddleModel" ⟨"FromTheMiddleModel", "compared", "()Z"⟩ ⟨"FromTheMiddleModel", "compared", "()Z"⟩ : Cond) ∈ px_words := pw_1_sub _ (List.mem_of_getElem? (i := 10) rfl)
theorem wq_43 : (Cond.selects "FromTheMiddleModel" ⟨"FromTheMiddleModel", "sum", "()Z"⟩ ⟨"FromTheMiddleModel", "sum", "()Z"⟩ : Cond) ∈ px_words := pw_1_sub _ (List.mem_of_getElem? (i := 11) rfl)
theorem wq_44 : (Cond.selects "FromTheMiddleModel" ⟨"FromTheMiddleModel", "product", "()Z"⟩ ⟨"FromTheMiddleModel", "product", "()Z"⟩ : Cond) ∈ px_words := pw_1_sub _ (List.mem_of_getElem? (i := 12) rfl)
theorem wq_45 : (Cond.selects "FromTheMiddleModel" ⟨"FromTheMiddleModel", "one", "()Z"⟩ ⟨"FromTheMiddleModel", "one", "()Z"⟩ : Cond) ∈ px_words := pw_1_sub _ (List.mem_of_getElem? (i := 13) rfl)
theorem wq_46 : (Cond.selects "FromTheMiddleModel" ⟨"FromTheMiddleModel", "look", "()I"⟩ ⟨"FromTheMiddleModel", "look", "()I"⟩ : Cond) ∈ px_words := pw_1_sub _ (List.mem_of_getElem? (i := 14) rfl)
theorem wq_47 : (Cond.selects "FromTheMiddleModel" ⟨"FromTheMiddleModel", "isName", "(I)Z"⟩ ⟨"FromTheMiddleModel", "isName", "(I)Z"⟩ : Cond) ∈ px_words := pw_1_sub _ (List.mem_of_getElem? (i := 15) rfl)
theorem wq_48 : (Cond.selects "FromTheMiddleModel" ⟨"FromTheMiddleModel", "step1", "(II)V"⟩ ⟨"FromTheMiddleModel", "step1", "(II)V"⟩ : Cond) ∈ px_words := pw_1_sub _ (List.mem_of_getElem? (i := 16) rfl)
theorem wq_49 : (Cond.selects "FromTheMiddleModel" ⟨"FromTheMiddleModel", "opens", "()Z"⟩ ⟨"FromTheMiddleModel", "opens", "()Z"⟩ : Cond) ∈ px_words := pw_1_sub _ (List.mem_of_getElem? (i := 17) rfl)
theorem wq_50 : (Cond.selects "FromTheMiddleModel" ⟨"FromTheMiddleModel", "hasText", "(I)Z"⟩ ⟨"FromTheMiddleModel", "hasText", "(I)Z"⟩ : Cond) ∈ px_words := pw_1_sub _ (List.mem_of_getElem? (i := 18) rfl)
theorem wq_51 : (Cond.selects "FromTheMiddleModel" ⟨"FromTheMiddleModel", "change1", "(II)I"⟩ ⟨"FromTheMiddleModel", "change1", "(II)I"⟩ : Cond) ∈ px_words := pw_1_sub _ (List.mem_of_getElem? (i := 19) rfl)
theorem wq_52 : (Cond.selects "FromTheMiddleModel" ⟨"FromTheMiddleModel", "lays1", "(III)V"⟩ ⟨"FromTheMiddleModel", "lays1", "(III)V"⟩ : Cond) ∈ px_words := pw_1_sub _ (List.mem_of_getElem? (i := 20) rfl)
theorem wq_53 : (Cond.selects "FromTheMiddleModel" ⟨"FromTheMiddleModel", "isThing", "(I)Z"⟩ ⟨"FromTheMiddleModel", "isThing", "(I)Z"⟩ : Cond) ∈ px_words := pw_1_sub _ (List.mem_of_getElem? (i := 21) rfl)
theorem wq_54 : (Cond.selects "FromTheMiddleModel" ⟨"FromTheMiddleModel", "its", "(II)I"⟩ ⟨"FromTheMiddleModel", "its", "(II)I"⟩ : Cond) ∈ px_words := pw_1_sub _ (List.mem_of_getElem? (i := 22) rfl)
theorem wq_55 : (Cond.selects "FromTheMiddleModel" ⟨"FromTheMiddleModel", "brokenTold", "(III)I"⟩ ⟨"FromTheMiddleModel", "brokenTold", "(III)I"⟩ : Cond) ∈ px_words := pw_1_sub _ (List.mem_of_getElem? (i := 23) rfl)
theorem wq_56 : (Cond.selects "FromTheMiddleModel" ⟨"FromTheMiddleModel", "worked", "(I)I"⟩ ⟨"FromTheMiddleModel", "worked", "(I)I"⟩ : Cond) ∈ px_words := pw_1_sub _ (List.mem_of_getElem? (i := 24) rfl)
theorem wq_57 : (Cond.selects "FromTheMiddleModel" ⟨"FromTheMiddleModel", "harmTold", "(III)I"⟩ ⟨"FromTheMiddleModel", "harmTold", "(III)I"⟩ : Cond) ∈ px_words := pw_1_sub _ (List.mem_of_getElem? (i := 25) rfl)
theorem wq_58 : (Cond.selects "FromTheMiddleModel" ⟨"FromTheMiddleModel", "isRow", "(I)Z"⟩ ⟨"FromTheMiddleModel", "isRow", "(I)Z"⟩ : Cond) ∈ px_words := pw_1_sub _ (List.mem_of_getElem? (i := 26) rfl)
theorem wq_59 : (Cond.selects "FromTheMiddleModel" ⟨"FromTheMiddleModel", "layRow", "(I)V"⟩ ⟨"FromTheMiddleModel", "layRow", "(I)V"⟩ : Cond) ∈ px_words := pw_1_sub _ (List.mem_of_getElem? (i := 27) rfl)
theorem wq_60 : (Cond.selects "FromTheMiddleModel" ⟨"FromTheMiddleModel", "longOf", "(I)I"⟩ ⟨"FromTheMiddleModel", "longOf", "(I)I"⟩ : Cond) ∈ px_words := pw_1_sub _ (List.mem_of_getElem? (i := 28) rfl)
theorem wq_61 : (Cond.selects "FromTheMiddleModel" ⟨"FromTheMiddleModel", "firstOf", "(I)I"⟩ ⟨"FromTheMiddleModel", "firstOf", "(I)I"⟩ : Cond) ∈ px_words := pw_1_sub _ (List.mem_of_getElem? (i := 29) rfl)
theorem wq_62 : (Cond.selects "FromTheMiddleModel" ⟨"FromTheMiddleModel", "cutsLaid", "()I"⟩ ⟨"FromTheMiddleModel", "cutsLaid", "()I"⟩ : Cond) ∈ px_words := pw_1_sub _ (List.mem_of_getElem? (i := 30) rfl)
theorem wq_63 : (Cond.selects "FromTheMiddleModel" ⟨"FromTheMiddleModel", "narrowestLaid", "()I"⟩ ⟨"FromTheMiddleModel", "narrowestLaid", "()I"⟩ : Cond) ∈ px_words := pw_1_sub _ (List.mem_of_getElem? (i := 31) rfl)
theorem wq_64 : (Cond.selects "FromTheMiddleModel" ⟨"FromTheMiddleModel", "jointsOn", "(II)I"⟩ ⟨"FromTheMiddleModel", "jointsOn", "(II)I"⟩ : Cond) ∈ px_words := pw_2_sub _ (List.mem_of_getElem? (i := 0) rfl)
theorem wq_65 : (Cond.selects "FromTheMiddleModel" ⟨"FromTheMiddleModel", "gapOn", "(II)I"⟩ ⟨"FromTheMiddleModel", "gapOn", "(II)I"⟩ : Cond) ∈ px_words := pw_2_sub _ (List.mem_of_getElem? (i := 1) rfl)
theorem wq_66 : (Cond.selects "FromTheMiddleModel" ⟨"FromTheMiddleModel", "touchesOn", "(II)I"⟩ ⟨"FromTheMiddleModel", "touchesOn", "(II)I"⟩ : Cond) ∈ px_words := pw_2_sub _ (List.mem_of_getElem? (i := 2) rfl)
theorem wq_67 : (Cond.selects "FromTheMiddleModel" ⟨"FromTheMiddleModel", "hidesOn", "(II)I"⟩ ⟨"FromTheMiddleModel", "hidesOn", "(II)I"⟩ : Cond) ∈ px_words := pw_2_sub _ (List.mem_of_getElem? (i := 3) rfl)
theorem wq_68 : (Cond.selects "FromTheMiddleModel" ⟨"FromTheMiddleModel", "harmOn", "(I)I"⟩ ⟨"FromTheMiddleModel", "harmOn", "(I)I"⟩ : Cond) ∈ px_words := pw_2_sub _ (List.mem_of_getElem? (i := 4) rfl)
theorem wq_69 : (Cond.selects "FromTheMiddleModel" ⟨"FromTheMiddleModel", "harmsOn", "(I)I"⟩ ⟨"FromTheMiddleModel", "harmsOn", "(I)I"⟩ : Cond) ∈ px_words := pw_2_sub _ (List.mem_of_getElem? (i := 5) rfl)
theorem wq_70 : (Cond.selects "FromTheMiddleModel" ⟨"FromTheMiddleModel", "tiles", "()I"⟩ ⟨"FromTheMiddleModel", "tiles", "()I"⟩ : Cond) ∈ px_words := pw_2_sub _ (List.mem_of_getElem? (i := 6) rfl)
theorem wq_71 : (Cond.selects "FromTheMiddleModel" ⟨"FromTheMiddleModel", "ofAll", "(I)I"⟩ ⟨"FromTheMiddleModel", "ofAll", "(I)I"⟩ : Cond) ∈ px_words := pw_2_sub _ (List.mem_of_getElem? (i := 7) rfl)
theorem wq_72 : (Cond.selects "FromTheMiddleModel" ⟨"FromTheMiddleModel", "halvesLaid", "()I"⟩ ⟨"FromTheMiddleModel", "halvesLaid", "()I"⟩ : Cond) ∈ px_words := pw_2_sub _ (List.mem_of_getElem? (i := 8) rfl)
theorem wq_73 : (Cond.selects "FromTheMiddleModel" ⟨"FromTheMiddleModel", "harmAll", "()I"⟩ ⟨"FromTheMiddleModel", "harmAll", "()I"⟩ : Cond) ∈ px_words := pw_2_sub _ (List.mem_of_getElem? (i := 9) rfl)
theorem wq_74 : (Cond.selects "FromTheMiddleModel" ⟨"FromTheMiddleModel", "draw", "()I"⟩ ⟨"FromTheMiddleModel", "draw", "()I"⟩ : Cond) ∈ px_words := pw_2_sub _ (List.mem_of_getElem? (i := 10) rfl)
theorem wq_75 : (Cond.selects "FromTheMiddleModel" ⟨"FromTheMiddleModel", "lacks", "(I)I"⟩ ⟨"FromTheMiddleModel", "lacks", "(I)I"⟩ : Cond) ∈ px_words := pw_2_sub _ (List.mem_of_getElem? (i := 11) rfl)
theorem wq_76 : (Cond.selects "FromTheMiddleModel" ⟨"FromTheMiddleModel", "rightOf", "(I)I"⟩ ⟨"FromTheMiddleModel", "rightOf", "(I)I"⟩ : Cond) ∈ px_words := pw_2_sub _ (List.mem_of_getElem? (i := 12) rfl)
theorem wq_77 : (Cond.selects "FromTheMiddleModel" ⟨"FromTheMiddleModel", "kindNow", "()I"⟩ ⟨"FromTheMiddleModel", "kindNow", "()I"⟩ : Cond) ∈ px_words := pw_2_sub _ (List.mem_of_getElem? (i := 13) rfl)
theorem wq_78 : (Cond.selects "FromTheMiddleModel" ⟨"FromTheMiddleModel", "dripsAs", "(II)I"⟩ ⟨"FromTheMiddleModel", "dripsAs", "(II)I"⟩ : Cond) ∈ px_words := pw_2_sub _ (List.mem_of_getElem? (i := 14) rfl)
theorem wq_79 : (Cond.selects "FromTheMiddleModel" ⟨"FromTheMiddleModel", "starts", "(I)V"⟩ ⟨"FromTheMiddleModel", "starts", "(I)V"⟩ : Cond) ∈ px_words := pw_2_sub _ (List.mem_of_getElem? (i := 15) rfl)
theorem wq_80 : (Cond.selects "FromTheMiddleModel" ⟨"FromTheMiddleModel", "scoresAs", "(II)I"⟩ ⟨"FromTheMiddleModel", "scoresAs", "(II)I"⟩ : Cond) ∈ px_words := pw_2_sub _ (List.mem_of_getElem? (i := 16) rfl)
theorem wq_81 : (Cond.selects "FromTheMiddleModel" ⟨"FromTheMiddleModel", "mNow", "()I"⟩ ⟨"FromTheMiddleModel", "mNow", "()I"⟩ : Cond) ∈ px_words := pw_2_sub _ (List.mem_of_getElem? (i := 17) rfl)
theorem wq_82 : (Cond.selects "FromTheMiddleModel" ⟨"FromTheMiddleModel", "snapsAs", "(II)I"⟩ ⟨"FromTheMiddleModel", "snapsAs", "(II)I"⟩ : Cond) ∈ px_words := pw_2_sub _ (List.mem_of_getElem? (i := 18) rfl)
theorem wq_83 : (Cond.selects "FromTheMiddleModel" ⟨"FromTheMiddleModel", "partsAs", "(II)I"⟩ ⟨"FromTheMiddleModel", "partsAs", "(II)I"⟩ : Cond) ∈ px_words := pw_2_sub _ (List.mem_of_getElem? (i := 19) rfl)
theorem wq_84 : (Cond.initialized "FromTheMiddleLaw" : Cond) ∈ px_words := pw_2_sub _ (List.mem_of_getElem? (i := 20) rfl)
theorem wq_85 : (Cond.initialized "FromTheMiddle" : Cond) ∈ px_words := pw_2_sub _ (List.mem_of_getElem? (i := 21) rfl)
theorem wq_86 : (Cond.initialized "FromTheMiddle$Kept" : Cond) ∈ px_words := pw_2_sub _ (List.mem_of_getElem? (i := 22) rfl)
theorem wq_87 : (Cond.initialized "FromTheMiddle$Numbers" : Cond) ∈ px_words := pw_2_sub _ (List.mem_of_getElem? (i := 23) rfl)
theorem wq_88 : (Cond.initialized "java/lang/Math" : Cond) ∈ px_words := pw_2_sub _ (List.mem_of_getElem? (i := 24) rfl)
theorem wq_89 : (Cond.initialized "FromTheMiddle$Sheet" : Cond) ∈ px_words := pw_2_sub _ (List.mem_of_getElem? (i := 25) rfl)
theorem wq_90 : (Cond.initialized "FromTheMiddle$Row" : Cond) ∈ px_words := pw_2_sub _ (List.mem_of_getElem? (i := 26) rfl)
theorem wq_91 : (Cond.initialized "FromTheMiddle$Reader" : Cond) ∈ px_words := pw_2_sub _ (List.mem_of_getElem? (i := 27) rfl)
theorem wq_92 : (Cond.initialized "FromTheMiddle$Reckoner" : Cond) ∈ px_words := pw_2_sub _ (List.mem_of_getElem? (i := 28) rfl)
theorem wq_93 : (Cond.initialized "FromTheMiddle$Voices" : Cond) ∈ px_words := pw_2_sub _ (List.mem_of_getElem? (i := 29) rfl)
theorem wq_94 : (Cond.initialized "FromTheMiddleModel" : Cond) ∈ px_words := pw_2_sub _ (List.mem_of_getElem? (i := 30) rfl)
theorem wq_95 : (Cond.initialized "java/lang/String" : Cond) ∈ px_words := pw_2_sub _ (List.mem_of_getElem? (i := 31) rfl)
theorem wq_96 : (Cond.initialized "java/lang/StringLatin1" : Cond) ∈ px_words := pw_3_sub _ (List.mem_of_getElem? (i := 0) rfl)
theorem wq_97 : (Cond.initialized "java/lang/StringUTF16" : Cond) ∈ px_words := pw_3_sub _ (List.mem_of_getElem? (i := 1) rfl)
theorem wq_98 : (Cond.initialized "jdk/internal/util/Preconditions" : Cond) ∈ px_words := pw_3_sub _ (List.mem_of_getElem? (i := 2) rfl)
theorem wq_99 : (Cond.initialized "java/lang/Character" : Cond) ∈ px_words := pw_3_sub _ (List.mem_of_getElem? (i := 3) rfl)
theorem wq_100 : (Cond.initialized "java/lang/System" : Cond) ∈ px_words := pw_3_sub _ (List.mem_of_getElem? (i := 4) rfl)
theorem wq_101 : (Cond.classLink "FromTheMiddleLaw" 7 "FromTheMiddle" : Cond) ∈ px_words := pw_3_sub _ (List.mem_of_getElem? (i := 5) rfl)
theorem wq_102 : (Cond.instantiable "FromTheMiddle" 9 : Cond) ∈ px_words := pw_3_sub _ (List.mem_of_getElem? (i := 6) rfl)
theorem wq_103 : (Cond.methodLink "FromTheMiddleLaw" 9 ⟨"FromTheMiddle", "<init>", "()V"⟩ : Cond) ∈ px_words := pw_3_sub _ (List.mem_of_getElem? (i := 7) rfl)
theorem wq_104 : (Cond.instanceMethod ⟨"FromTheMiddle", "<init>", "()V"⟩ : Cond) ∈ px_words := pw_3_sub _ (List.mem_of_getElem? (i := 8) rfl)
theorem wq_105 : (Cond.code ⟨"FromTheMiddle", "<init>", "()V"⟩ prog_1_method_1_code 1 none : Cond) ∈ px_words := pw_3_sub _ (List.mem_of_getElem? (i := 9) rfl)
theorem wq_106 : (Cond.methodLink "FromTheMiddle" 1 ⟨"java/lang/Object", "<init>", "()V"⟩ : Cond) ∈ px_words := pw_3_sub _ (List.mem_of_getElem? (i := 10) rfl)
theorem wq_107 : (Cond.instanceMethod ⟨"java/lang/Object", "<init>", "()V"⟩ : Cond) ∈ px_words := pw_3_sub _ (List.mem_of_getElem? (i := 11) rfl)
theorem wq_108 : (Cond.code ⟨"java/lang/Object", "<init>", "()V"⟩ object_method_1_code 1 none : Cond) ∈ px_words := pw_3_sub _ (List.mem_of_getElem? (i := 12) rfl)
theorem wq_109 : (Cond.classLink "FromTheMiddle" 7 "FromTheMiddle$Kept" : Cond) ∈ px_words := pw_3_sub _ (List.mem_of_getElem? (i := 13) rfl)
theorem wq_110 : (Cond.instantiable "FromTheMiddle$Kept" 10 : Cond) ∈ px_words := pw_3_sub _ (List.mem_of_getElem? (i := 14) rfl)
theorem wq_111 : (Cond.methodLink "FromTheMiddle" 9 ⟨"FromTheMiddle$Kept", "<init>", "()V"⟩ : Cond) ∈ px_words := pw_3_sub _ (List.mem_of_getElem? (i := 15) rfl)
theorem wq_112 : (Cond.instanceMethod ⟨"FromTheMiddle$Kept", "<init>", "()V"⟩ : Cond) ∈ px_words := pw_3_sub _ (List.mem_of_getElem? (i := 16) rfl)
theorem wq_113 : (Cond.code ⟨"FromTheMiddle$Kept", "<init>", "()V"⟩ prog_2_method_1_code 1 none : Cond) ∈ px_words := pw_3_sub _ (List.mem_of_getElem? (i := 17) rfl)
theorem wq_114 : (Cond.methodLink "FromTheMiddle$Kept" 3 ⟨"java/lang/Object", "<init>", "()V"⟩ : Cond) ∈ px_words := pw_3_sub _ (List.mem_of_getElem? (i := 18) rfl)
theorem wq_115 : (Cond.classLink "FromTheMiddle$Kept" 9 "FromTheMiddle$Numbers" : Cond) ∈ px_words := pw_3_sub _ (List.mem_of_getElem? (i := 19) rfl)
theorem wq_116 : (Cond.instantiable "FromTheMiddle$Numbers" 2 : Cond) ∈ px_words := pw_3_sub _ (List.mem_of_getElem? (i := 20) rfl)
theorem wq_117 : (Cond.methodLink "FromTheMiddle$Kept" 11 ⟨"FromTheMiddle$Numbers", "<init>", "(I)V"⟩ : Cond) ∈ px_words := pw_3_sub _ (List.mem_of_getElem? (i := 21) rfl)
theorem wq_118 : (Cond.instanceMethod ⟨"FromTheMiddle$Numbers", "<init>", "(I)V"⟩ : Cond) ∈ px_words := pw_3_sub _ (List.mem_of_getElem? (i := 22) rfl)
theorem wq_119 : (Cond.code ⟨"FromTheMiddle$Numbers", "<init>", "(I)V"⟩ prog_3_method_1_code 2 none : Cond) ∈ px_words := pw_3_sub _ (List.mem_of_getElem? (i := 23) rfl)
theorem wq_120 : (Cond.methodLink "FromTheMiddle$Numbers" 1 ⟨"java/lang/Object", "<init>", "()V"⟩ : Cond) ∈ px_words := pw_3_sub _ (List.mem_of_getElem? (i := 24) rfl)
theorem wq_121 : (Cond.methodLink "FromTheMiddle$Numbers" 7 ⟨"java/lang/Math", "max", "(II)I"⟩ : Cond) ∈ px_words := pw_3_sub _ (List.mem_of_getElem? (i := 25) rfl)
theorem wq_122 : (Cond.static ⟨"java/lang/Math", "max", "(II)I"⟩ : Cond) ∈ px_words := pw_3_sub _ (List.mem_of_getElem? (i := 26) rfl)
theorem wq_123 : (Cond.code ⟨"java/lang/Math", "max", "(II)I"⟩ prog_12_method_65_code 2 (some .int) : Cond) ∈ px_words := pw_3_sub _ (List.mem_of_getElem? (i := 27) rfl)
theorem wq_124 : (Cond.fieldLink "FromTheMiddle$Numbers" 13 "FromTheMiddle$Numbers" "held" "[I" : Cond) ∈ px_words := pw_3_sub _ (List.mem_of_getElem? (i := 28) rfl)
theorem wq_125 : (Cond.fieldLink "FromTheMiddle$Numbers" 19 "FromTheMiddle$Numbers" "size" "I" : Cond) ∈ px_words := pw_3_sub _ (List.mem_of_getElem? (i := 29) rfl)
theorem wq_126 : (Cond.laysFinal "FromTheMiddle$Numbers" "FromTheMiddle$Numbers" "held" "[I" : Cond) ∈ px_words := pw_3_sub _ (List.mem_of_getElem? (i := 30) rfl)
theorem wq_128 : (Cond.lays "FromTheMiddle$Numbers" "FromTheMiddle$Numbers" "size" "I" : Cond) ∈ px_words := pw_3_sub _ (List.mem_of_getElem? (i := 31) rfl)
theorem wq_131 : (Cond.arrayClass .int : Cond) ∈ px_words := pw_4_sub _ (List.mem_of_getElem? (i := 0) rfl)
theorem wq_132 : (Cond.methodLink "FromTheMiddle$Kept" 48 ⟨"FromTheMiddle$Numbers", "add", "(I)V"⟩ : Cond) ∈ px_words := pw_4_sub _ (List.mem_of_getElem? (i := 1) rfl)
theorem wq_133 : (Cond.instanceMethod ⟨"FromTheMiddle$Numbers", "add", "(I)V"⟩ : Cond) ∈ px_words := pw_4_sub _ (List.mem_of_getElem? (i := 2) rfl)
theorem wq_134 : (Cond.selects "FromTheMiddle$Numbers" ⟨"FromTheMiddle$Numbers", "add", "(I)V"⟩ ⟨"FromTheMiddle$Numbers", "add", "(I)V"⟩ : Cond) ∈ px_words := pw_4_sub _ (List.mem_of_getElem? (i := 3) rfl)
theorem wq_135 : (Cond.code ⟨"FromTheMiddle$Numbers", "add", "(I)V"⟩ prog_3_method_8_code 2 none : Cond) ∈ px_words := pw_4_sub _ (List.mem_of_getElem? (i := 4) rfl)
theorem wq_136 : (Cond.fieldLink "FromTheMiddle$Kept" 14 "FromTheMiddle$Kept" "wall" "LFromTheMiddle$Numbers;" : Cond) ∈ px_words := pw_4_sub _ (List.mem_of_getElem? (i := 5) rfl)
theorem wq_137 : (Cond.fieldLink "FromTheMiddle" 80 "FromTheMiddle$Kept" "wall" "LFromTheMiddle$Numbers;" : Cond) ∈ px_words := pw_4_sub _ (List.mem_of_getElem? (i := 6) rfl)
theorem wq_138 : (Cond.fieldLink "FromTheMiddle$Kept" 20 "FromTheMiddle$Kept" "kinds" "LFromTheMiddle$Numbers;" : Cond) ∈ px_words := pw_4_sub _ (List.mem_of_getElem? (i := 7) rfl)
theorem wq_139 : (Cond.fieldLink "FromTheMiddle" 94 "FromTheMiddle$Kept" "kinds" "LFromTheMiddle$Numbers;" : Cond) ∈ px_words := pw_4_sub _ (List.mem_of_getElem? (i := 8) rfl)
theorem wq_140 : (Cond.fieldLink "FromTheMiddle$Kept" 23 "FromTheMiddle$Kept" "marks" "LFromTheMiddle$Numbers;" : Cond) ∈ px_words := pw_4_sub _ (List.mem_of_getElem? (i := 9) rfl)
theorem wq_141 : (Cond.fieldLink "FromTheMiddle" 104 "FromTheMiddle$Kept" "marks" "LFromTheMiddle$Numbers;" : Cond) ∈ px_words := pw_4_sub _ (List.mem_of_getElem? (i := 10) rfl)
theorem wq_142 : (Cond.fieldLink "FromTheMiddle$Kept" 26 "FromTheMiddle$Kept" "froms" "LFromTheMiddle$Numbers;" : Cond) ∈ px_words := pw_4_sub _ (List.mem_of_getElem? (i := 11) rfl)
theorem wq_143 : (Cond.fieldLink "FromTheMiddle" 107 "FromTheMiddle$Kept" "froms" "LFromTheMiddle$Numbers;" : Cond) ∈ px_words := pw_4_sub _ (List.mem_of_getElem? (i := 12) rfl)
theorem wq_144 : (Cond.fieldLink "FromTheMiddle$Kept" 29 "FromTheMiddle$Kept" "widths" "LFromTheMiddle$Numbers;" : Cond) ∈ px_words := pw_4_sub _ (List.mem_of_getElem? (i := 13) rfl)
theorem wq_145 : (Cond.fieldLink "FromTheMiddle" 110 "FromTheMiddle$Kept" "widths" "LFromTheMiddle$Numbers;" : Cond) ∈ px_words := pw_4_sub _ (List.mem_of_getElem? (i := 14) rfl)
theorem wq_146 : (Cond.fieldLink "FromTheMiddle$Kept" 32 "FromTheMiddle$Kept" "tape" "LFromTheMiddle$Numbers;" : Cond) ∈ px_words := pw_4_sub _ (List.mem_of_getElem? (i := 15) rfl)
theorem wq_147 : (Cond.fieldLink "FromTheMiddle" 126 "FromTheMiddle$Kept" "tape" "LFromTheMiddle$Numbers;" : Cond) ∈ px_words := pw_4_sub _ (List.mem_of_getElem? (i := 16) rfl)
theorem wq_148 : (Cond.fieldLink "FromTheMiddle$Kept" 35 "FromTheMiddle$Kept" "broken" "LFromTheMiddle$Numbers;" : Cond) ∈ px_words := pw_4_sub _ (List.mem_of_getElem? (i := 17) rfl)
theorem wq_149 : (Cond.fieldLink "FromTheMiddle$Kept" 38 "FromTheMiddle$Kept" "harm" "LFromTheMiddle$Numbers;" : Cond) ∈ px_words := pw_4_sub _ (List.mem_of_getElem? (i := 18) rfl)
theorem wq_150 : (Cond.fieldLink "FromTheMiddle$Kept" 41 "FromTheMiddle$Kept" "waits" "LFromTheMiddle$Numbers;" : Cond) ∈ px_words := pw_4_sub _ (List.mem_of_getElem? (i := 19) rfl)
theorem wq_151 : (Cond.fieldLink "FromTheMiddle" 281 "FromTheMiddle$Kept" "waits" "LFromTheMiddle$Numbers;" : Cond) ∈ px_words := pw_4_sub _ (List.mem_of_getElem? (i := 20) rfl)
theorem wq_152 : (Cond.fieldLink "FromTheMiddle$Kept" 44 "FromTheMiddle$Kept" "z" "I" : Cond) ∈ px_words := pw_4_sub _ (List.mem_of_getElem? (i := 21) rfl)
theorem wq_153 : (Cond.fieldLink "FromTheMiddle" 220 "FromTheMiddle$Kept" "z" "I" : Cond) ∈ px_words := pw_4_sub _ (List.mem_of_getElem? (i := 22) rfl)
theorem wq_154 : (Cond.laysFinal "FromTheMiddle$Kept" "FromTheMiddle$Kept" "wall" "LFromTheMiddle$Numbers;" : Cond) ∈ px_words := pw_4_sub _ (List.mem_of_getElem? (i := 23) rfl)
theorem wq_156 : (Cond.laysFinal "FromTheMiddle$Kept" "FromTheMiddle$Kept" "kinds" "LFromTheMiddle$Numbers;" : Cond) ∈ px_words := pw_4_sub _ (List.mem_of_getElem? (i := 24) rfl)
theorem wq_158 : (Cond.laysFinal "FromTheMiddle$Kept" "FromTheMiddle$Kept" "marks" "LFromTheMiddle$Numbers;" : Cond) ∈ px_words := pw_4_sub _ (List.mem_of_getElem? (i := 25) rfl)
theorem wq_160 : (Cond.laysFinal "FromTheMiddle$Kept" "FromTheMiddle$Kept" "froms" "LFromTheMiddle$Numbers;" : Cond) ∈ px_words := pw_4_sub _ (List.mem_of_getElem? (i := 26) rfl)
theorem wq_162 : (Cond.laysFinal "FromTheMiddle$Kept" "FromTheMiddle$Kept" "widths" "LFromTheMiddle$Numbers;" : Cond) ∈ px_words := pw_4_sub _ (List.mem_of_getElem? (i := 27) rfl)
theorem wq_164 : (Cond.laysFinal "FromTheMiddle$Kept" "FromTheMiddle$Kept" "tape" "LFromTheMiddle$Numbers;" : Cond) ∈ px_words := pw_4_sub _ (List.mem_of_getElem? (i := 28) rfl)
theorem wq_166 : (Cond.laysFinal "FromTheMiddle$Kept" "FromTheMiddle$Kept" "broken" "LFromTheMiddle$Numbers;" : Cond) ∈ px_words := pw_4_sub _ (List.mem_of_getElem? (i := 29) rfl)
theorem wq_168 : (Cond.laysFinal "FromTheMiddle$Kept" "FromTheMiddle$Kept" "harm" "LFromTheMiddle$Numbers;" : Cond) ∈ px_words := pw_4_sub _ (List.mem_of_getElem? (i := 30) rfl)
theorem wq_170 : (Cond.laysFinal "FromTheMiddle$Kept" "FromTheMiddle$Kept" "waits" "LFromTheMiddle$Numbers;" : Cond) ∈ px_words := pw_4_sub _ (List.mem_of_getElem? (i := 31) rfl)
theorem wq_172 : (Cond.lays "FromTheMiddle$Kept" "FromTheMiddle$Kept" "z" "I" : Cond) ∈ px_words := pw_5_sub _ (List.mem_of_getElem? (i := 0) rfl)
theorem wq_175 : (Cond.classLink "FromTheMiddle" 19 "FromTheMiddle$Numbers" : Cond) ∈ px_words := pw_5_sub _ (List.mem_of_getElem? (i := 1) rfl)
theorem wq_176 : (Cond.methodLink "FromTheMiddle" 21 ⟨"FromTheMiddle$Numbers", "<init>", "(I)V"⟩ : Cond) ∈ px_words := pw_5_sub _ (List.mem_of_getElem? (i := 2) rfl)
theorem wq_177 : (Cond.classLink "FromTheMiddle" 28 "FromTheMiddle$Sheet" : Cond) ∈ px_words := pw_5_sub _ (List.mem_of_getElem? (i := 3) rfl)
theorem wq_179 : (Cond.instantiable "FromTheMiddle$Sheet" 2 : Cond) ∈ px_words := pw_5_sub _ (List.mem_of_getElem? (i := 4) rfl)
theorem wq_181 : (Cond.instanceMethod ⟨"FromTheMiddle$Sheet", "<init>", "()V"⟩ : Cond) ∈ px_words := pw_5_sub _ (List.mem_of_getElem? (i := 5) rfl)
theorem wq_182 : (Cond.code ⟨"FromTheMiddle$Sheet", "<init>", "()V"⟩ prog_7_method_1_code 1 none : Cond) ∈ px_words := pw_5_sub _ (List.mem_of_getElem? (i := 6) rfl)
theorem wq_183 : (Cond.methodLink "FromTheMiddle$Sheet" 3 ⟨"java/lang/Object", "<init>", "()V"⟩ : Cond) ∈ px_words := pw_5_sub _ (List.mem_of_getElem? (i := 7) rfl)
theorem wq_184 : (Cond.classLink "FromTheMiddle$Sheet" 9 "FromTheMiddle$Numbers" : Cond) ∈ px_words := pw_5_sub _ (List.mem_of_getElem? (i := 8) rfl)
theorem wq_185 : (Cond.methodLink "FromTheMiddle$Sheet" 11 ⟨"FromTheMiddle$Numbers", "<init>", "(I)V"⟩ : Cond) ∈ px_words := pw_5_sub _ (List.mem_of_getElem? (i := 9) rfl)
theorem wq_186 : (Cond.fieldLink "FromTheMiddle$Sheet" 14 "FromTheMiddle$Sheet" "numbers" "LFromTheMiddle$Numbers;" : Cond) ∈ px_words := pw_5_sub _ (List.mem_of_getElem? (i := 10) rfl)
theorem wq_187 : (Cond.fieldLink "FromTheMiddle" 240 "FromTheMiddle$Sheet" "numbers" "LFromTheMiddle$Numbers;" : Cond) ∈ px_words := pw_5_sub _ (List.mem_of_getElem? (i := 11) rfl)
theorem wq_188 : (Cond.fieldLink "FromTheMiddle$Sheet" 20 "FromTheMiddle$Sheet" "bits" "I" : Cond) ∈ px_words := pw_5_sub _ (List.mem_of_getElem? (i := 12) rfl)
theorem wq_189 : (Cond.fieldLink "FromTheMiddle" 257 "FromTheMiddle$Sheet" "bits" "I" : Cond) ∈ px_words := pw_5_sub _ (List.mem_of_getElem? (i := 13) rfl)
theorem wq_190 : (Cond.laysFinal "FromTheMiddle$Sheet" "FromTheMiddle$Sheet" "numbers" "LFromTheMiddle$Numbers;" : Cond) ∈ px_words := pw_5_sub _ (List.mem_of_getElem? (i := 14) rfl)
theorem wq_192 : (Cond.lays "FromTheMiddle$Sheet" "FromTheMiddle$Sheet" "bits" "I" : Cond) ∈ px_words := pw_5_sub _ (List.mem_of_getElem? (i := 15) rfl)
theorem wq_195 : (Cond.classLink "FromTheMiddle" 35 "FromTheMiddle$Row" : Cond) ∈ px_words := pw_5_sub _ (List.mem_of_getElem? (i := 16) rfl)
theorem wq_196 : (Cond.instantiable "FromTheMiddle$Row" 9 : Cond) ∈ px_words := pw_5_sub _ (List.mem_of_getElem? (i := 17) rfl)
theorem wq_198 : (Cond.instanceMethod ⟨"FromTheMiddle$Row", "<init>", "()V"⟩ : Cond) ∈ px_words := pw_5_sub _ (List.mem_of_getElem? (i := 18) rfl)
theorem wq_199 : (Cond.code ⟨"FromTheMiddle$Row", "<init>", "()V"⟩ prog_6_method_1_code 1 none : Cond) ∈ px_words := pw_5_sub _ (List.mem_of_getElem? (i := 19) rfl)
theorem wq_200 : (Cond.methodLink "FromTheMiddle$Row" 3 ⟨"java/lang/Object", "<init>", "()V"⟩ : Cond) ∈ px_words := pw_5_sub _ (List.mem_of_getElem? (i := 20) rfl)
theorem wq_201 : (Cond.fieldLink "FromTheMiddle$Row" 9 "FromTheMiddle$Row" "first" "I" : Cond) ∈ px_words := pw_5_sub _ (List.mem_of_getElem? (i := 21) rfl)
theorem wq_202 : (Cond.fieldLink "FromTheMiddle$Row" 15 "FromTheMiddle$Row" "end" "I" : Cond) ∈ px_words := pw_5_sub _ (List.mem_of_getElem? (i := 22) rfl)
theorem wq_203 : (Cond.fieldLink "FromTheMiddle$Row" 18 "FromTheMiddle$Row" "tile" "I" : Cond) ∈ px_words := pw_5_sub _ (List.mem_of_getElem? (i := 23) rfl)
theorem wq_204 : (Cond.fieldLink "FromTheMiddle$Row" 21 "FromTheMiddle$Row" "joint" "I" : Cond) ∈ px_words := pw_5_sub _ (List.mem_of_getElem? (i := 24) rfl)
theorem wq_205 : (Cond.fieldLink "FromTheMiddle$Row" 28 "FromTheMiddle$Row" "pieces" "I" : Cond) ∈ px_words := pw_5_sub _ (List.mem_of_getElem? (i := 25) rfl)
theorem wq_206 : (Cond.fieldLink "FromTheMiddle" 164 "FromTheMiddle$Row" "pieces" "I" : Cond) ∈ px_words := pw_5_sub _ (List.mem_of_getElem? (i := 26) rfl)
theorem wq_207 : (Cond.fieldLink "FromTheMiddle$Row" 57 "FromTheMiddle$Row" "joints" "I" : Cond) ∈ px_words := pw_5_sub _ (List.mem_of_getElem? (i := 27) rfl)
theorem wq_208 : (Cond.fieldLink "FromTheMiddle" 187 "FromTheMiddle$Row" "joints" "I" : Cond) ∈ px_words := pw_5_sub _ (List.mem_of_getElem? (i := 28) rfl)
theorem wq_209 : (Cond.fieldLink "FromTheMiddle$Row" 79 "FromTheMiddle$Row" "gap" "I" : Cond) ∈ px_words := pw_5_sub _ (List.mem_of_getElem? (i := 29) rfl)
theorem wq_210 : (Cond.fieldLink "FromTheMiddle" 190 "FromTheMiddle$Row" "gap" "I" : Cond) ∈ px_words := pw_5_sub _ (List.mem_of_getElem? (i := 30) rfl)
theorem wq_211 : (Cond.fieldLink "FromTheMiddle$Row" 63 "FromTheMiddle$Row" "touches" "I" : Cond) ∈ px_words := pw_5_sub _ (List.mem_of_getElem? (i := 31) rfl)
theorem wq_212 : (Cond.fieldLink "FromTheMiddle" 193 "FromTheMiddle$Row" "touches" "I" : Cond) ∈ px_words := pw_6_sub _ (List.mem_of_getElem? (i := 0) rfl)
theorem wq_213 : (Cond.fieldLink "FromTheMiddle$Row" 70 "FromTheMiddle$Row" "hides" "I" : Cond) ∈ px_words := pw_6_sub _ (List.mem_of_getElem? (i := 1) rfl)
theorem wq_214 : (Cond.fieldLink "FromTheMiddle" 196 "FromTheMiddle$Row" "hides" "I" : Cond) ∈ px_words := pw_6_sub _ (List.mem_of_getElem? (i := 2) rfl)
theorem wq_215 : (Cond.lays "FromTheMiddle$Row" "FromTheMiddle$Row" "first" "I" : Cond) ∈ px_words := pw_6_sub _ (List.mem_of_getElem? (i := 3) rfl)
theorem wq_217 : (Cond.lays "FromTheMiddle$Row" "FromTheMiddle$Row" "end" "I" : Cond) ∈ px_words := pw_6_sub _ (List.mem_of_getElem? (i := 4) rfl)
theorem wq_219 : (Cond.lays "FromTheMiddle$Row" "FromTheMiddle$Row" "tile" "I" : Cond) ∈ px_words := pw_6_sub _ (List.mem_of_getElem? (i := 5) rfl)
theorem wq_221 : (Cond.lays "FromTheMiddle$Row" "FromTheMiddle$Row" "joint" "I" : Cond) ∈ px_words := pw_6_sub _ (List.mem_of_getElem? (i := 6) rfl)
theorem wq_223 : (Cond.lays "FromTheMiddle$Row" "FromTheMiddle$Row" "pieces" "I" : Cond) ∈ px_words := pw_6_sub _ (List.mem_of_getElem? (i := 7) rfl)
theorem wq_225 : (Cond.lays "FromTheMiddle$Row" "FromTheMiddle$Row" "joints" "I" : Cond) ∈ px_words := pw_6_sub _ (List.mem_of_getElem? (i := 8) rfl)
theorem wq_227 : (Cond.lays "FromTheMiddle$Row" "FromTheMiddle$Row" "gap" "I" : Cond) ∈ px_words := pw_6_sub _ (List.mem_of_getElem? (i := 9) rfl)
theorem wq_229 : (Cond.lays "FromTheMiddle$Row" "FromTheMiddle$Row" "touches" "I" : Cond) ∈ px_words := pw_6_sub _ (List.mem_of_getElem? (i := 10) rfl)
theorem wq_231 : (Cond.lays "FromTheMiddle$Row" "FromTheMiddle$Row" "hides" "I" : Cond) ∈ px_words := pw_6_sub _ (List.mem_of_getElem? (i := 11) rfl)
theorem wq_234 : (Cond.classLink "FromTheMiddle" 42 "FromTheMiddle$Reader" : Cond) ∈ px_words := pw_6_sub _ (List.mem_of_getElem? (i := 12) rfl)
theorem wq_235 : (Cond.instantiable "FromTheMiddle$Reader" 5 : Cond) ∈ px_words := pw_6_sub _ (List.mem_of_getElem? (i := 13) rfl)
theorem wq_237 : (Cond.instanceMethod ⟨"FromTheMiddle$Reader", "<init>", "()V"⟩ : Cond) ∈ px_words := pw_6_sub _ (List.mem_of_getElem? (i := 14) rfl)
theorem wq_238 : (Cond.code ⟨"FromTheMiddle$Reader", "<init>", "()V"⟩ prog_4_method_1_code 1 none : Cond) ∈ px_words := pw_6_sub _ (List.mem_of_getElem? (i := 15) rfl)
theorem wq_239 : (Cond.methodLink "FromTheMiddle$Reader" 3 ⟨"java/lang/Object", "<init>", "()V"⟩ : Cond) ∈ px_words := pw_6_sub _ (List.mem_of_getElem? (i := 16) rfl)
theorem wq_240 : (Cond.classLink "FromTheMiddle$Reader" 9 "FromTheMiddle$Numbers" : Cond) ∈ px_words := pw_6_sub _ (List.mem_of_getElem? (i := 17) rfl)
theorem wq_241 : (Cond.methodLink "FromTheMiddle$Reader" 11 ⟨"FromTheMiddle$Numbers", "<init>", "(I)V"⟩ : Cond) ∈ px_words := pw_6_sub _ (List.mem_of_getElem? (i := 18) rfl)
theorem wq_242 : (Cond.fieldLink "FromTheMiddle$Reader" 14 "FromTheMiddle$Reader" "codes" "LFromTheMiddle$Numbers;" : Cond) ∈ px_words := pw_6_sub _ (List.mem_of_getElem? (i := 19) rfl)
theorem wq_243 : (Cond.fieldLink "FromTheMiddle" 147 "FromTheMiddle$Reader" "codes" "LFromTheMiddle$Numbers;" : Cond) ∈ px_words := pw_6_sub _ (List.mem_of_getElem? (i := 20) rfl)
theorem wq_244 : (Cond.fieldLink "FromTheMiddle$Reader" 20 "FromTheMiddle$Reader" "pending" "LFromTheMiddle$Numbers;" : Cond) ∈ px_words := pw_6_sub _ (List.mem_of_getElem? (i := 21) rfl)
theorem wq_245 : (Cond.fieldLink "FromTheMiddle$Reader" 26 "FromTheMiddle$Reader" "open" "I" : Cond) ∈ px_words := pw_6_sub _ (List.mem_of_getElem? (i := 22) rfl)
theorem wq_246 : (Cond.fieldLink "FromTheMiddle$Reader" 30 "FromTheMiddle$Reader" "digits" "I" : Cond) ∈ px_words := pw_6_sub _ (List.mem_of_getElem? (i := 23) rfl)
theorem wq_247 : (Cond.fieldLink "FromTheMiddle$Reader" 33 "FromTheMiddle$Reader" "wantsOperand" "Z" : Cond) ∈ px_words := pw_6_sub _ (List.mem_of_getElem? (i := 24) rfl)
theorem wq_248 : (Cond.laysFinal "FromTheMiddle$Reader" "FromTheMiddle$Reader" "codes" "LFromTheMiddle$Numbers;" : Cond) ∈ px_words := pw_6_sub _ (List.mem_of_getElem? (i := 25) rfl)
theorem wq_250 : (Cond.laysFinal "FromTheMiddle$Reader" "FromTheMiddle$Reader" "pending" "LFromTheMiddle$Numbers;" : Cond) ∈ px_words := pw_6_sub _ (List.mem_of_getElem? (i := 26) rfl)
theorem wq_252 : (Cond.lays "FromTheMiddle$Reader" "FromTheMiddle$Reader" "open" "I" : Cond) ∈ px_words := pw_6_sub _ (List.mem_of_getElem? (i := 27) rfl)
theorem wq_254 : (Cond.lays "FromTheMiddle$Reader" "FromTheMiddle$Reader" "digits" "I" : Cond) ∈ px_words := pw_6_sub _ (List.mem_of_getElem? (i := 28) rfl)
theorem wq_256 : (Cond.lays "FromTheMiddle$Reader" "FromTheMiddle$Reader" "wantsOperand" "Z" : Cond) ∈ px_words := pw_6_sub _ (List.mem_of_getElem? (i := 29) rfl)
theorem wq_259 : (Cond.classLink "FromTheMiddle" 49 "FromTheMiddle$Reckoner" : Cond) ∈ px_words := pw_6_sub _ (List.mem_of_getElem? (i := 30) rfl)
theorem wq_260 : (Cond.instantiable "FromTheMiddle$Reckoner" 1 : Cond) ∈ px_words := pw_6_sub _ (List.mem_of_getElem? (i := 31) rfl)
theorem wq_262 : (Cond.instanceMethod ⟨"FromTheMiddle$Reckoner", "<init>", "()V"⟩ : Cond) ∈ px_words := pw_7_sub _ (List.mem_of_getElem? (i := 0) rfl)
theorem wq_263 : (Cond.code ⟨"FromTheMiddle$Reckoner", "<init>", "()V"⟩ prog_5_method_1_code 1 none : Cond) ∈ px_words := pw_7_sub _ (List.mem_of_getElem? (i := 1) rfl)
theorem wq_264 : (Cond.methodLink "FromTheMiddle$Reckoner" 3 ⟨"java/lang/Object", "<init>", "()V"⟩ : Cond) ∈ px_words := pw_7_sub _ (List.mem_of_getElem? (i := 2) rfl)
theorem wq_265 : (Cond.classLink "FromTheMiddle$Reckoner" 9 "FromTheMiddle$Numbers" : Cond) ∈ px_words := pw_7_sub _ (List.mem_of_getElem? (i := 3) rfl)
theorem wq_266 : (Cond.methodLink "FromTheMiddle$Reckoner" 11 ⟨"FromTheMiddle$Numbers", "<init>", "(I)V"⟩ : Cond) ∈ px_words := pw_7_sub _ (List.mem_of_getElem? (i := 4) rfl)
theorem wq_267 : (Cond.fieldLink "FromTheMiddle$Reckoner" 14 "FromTheMiddle$Reckoner" "stack" "LFromTheMiddle$Numbers;" : Cond) ∈ px_words := pw_7_sub _ (List.mem_of_getElem? (i := 5) rfl)
theorem wq_268 : (Cond.laysFinal "FromTheMiddle$Reckoner" "FromTheMiddle$Reckoner" "stack" "LFromTheMiddle$Numbers;" : Cond) ∈ px_words := pw_7_sub _ (List.mem_of_getElem? (i := 6) rfl)
theorem wq_271 : (Cond.classLink "FromTheMiddle" 56 "FromTheMiddle$Voices" : Cond) ∈ px_words := pw_7_sub _ (List.mem_of_getElem? (i := 7) rfl)
theorem wq_272 : (Cond.instantiable "FromTheMiddle$Voices" 4 : Cond) ∈ px_words := pw_7_sub _ (List.mem_of_getElem? (i := 8) rfl)
theorem wq_274 : (Cond.instanceMethod ⟨"FromTheMiddle$Voices", "<init>", "()V"⟩ : Cond) ∈ px_words := pw_7_sub _ (List.mem_of_getElem? (i := 9) rfl)
theorem wq_275 : (Cond.code ⟨"FromTheMiddle$Voices", "<init>", "()V"⟩ prog_8_method_1_code 1 none : Cond) ∈ px_words := pw_7_sub _ (List.mem_of_getElem? (i := 10) rfl)
theorem wq_276 : (Cond.methodLink "FromTheMiddle$Voices" 3 ⟨"java/lang/Object", "<init>", "()V"⟩ : Cond) ∈ px_words := pw_7_sub _ (List.mem_of_getElem? (i := 11) rfl)
theorem wq_277 : (Cond.classLink "FromTheMiddle$Voices" 9 "FromTheMiddle$Numbers" : Cond) ∈ px_words := pw_7_sub _ (List.mem_of_getElem? (i := 12) rfl)
theorem wq_278 : (Cond.methodLink "FromTheMiddle$Voices" 11 ⟨"FromTheMiddle$Numbers", "<init>", "(I)V"⟩ : Cond) ∈ px_words := pw_7_sub _ (List.mem_of_getElem? (i := 13) rfl)
theorem wq_279 : (Cond.fieldLink "FromTheMiddle$Voices" 14 "FromTheMiddle$Voices" "trace" "LFromTheMiddle$Numbers;" : Cond) ∈ px_words := pw_7_sub _ (List.mem_of_getElem? (i := 14) rfl)
theorem wq_280 : (Cond.fieldLink "FromTheMiddle" 251 "FromTheMiddle$Voices" "trace" "LFromTheMiddle$Numbers;" : Cond) ∈ px_words := pw_7_sub _ (List.mem_of_getElem? (i := 15) rfl)
theorem wq_281 : (Cond.fieldLink "FromTheMiddle$Voices" 20 "FromTheMiddle$Voices" "kind" "I" : Cond) ∈ px_words := pw_7_sub _ (List.mem_of_getElem? (i := 16) rfl)
theorem wq_282 : (Cond.fieldLink "FromTheMiddle$Voices" 24 "FromTheMiddle$Voices" "number" "I" : Cond) ∈ px_words := pw_7_sub _ (List.mem_of_getElem? (i := 17) rfl)
theorem wq_283 : (Cond.fieldLink "FromTheMiddle$Voices" 27 "FromTheMiddle$Voices" "mark" "I" : Cond) ∈ px_words := pw_7_sub _ (List.mem_of_getElem? (i := 18) rfl)
theorem wq_284 : (Cond.laysFinal "FromTheMiddle$Voices" "FromTheMiddle$Voices" "trace" "LFromTheMiddle$Numbers;" : Cond) ∈ px_words := pw_7_sub _ (List.mem_of_getElem? (i := 19) rfl)
theorem wq_286 : (Cond.lays "FromTheMiddle$Voices" "FromTheMiddle$Voices" "kind" "I" : Cond) ∈ px_words := pw_7_sub _ (List.mem_of_getElem? (i := 20) rfl)
theorem wq_288 : (Cond.lays "FromTheMiddle$Voices" "FromTheMiddle$Voices" "number" "I" : Cond) ∈ px_words := pw_7_sub _ (List.mem_of_getElem? (i := 21) rfl)
theorem wq_290 : (Cond.lays "FromTheMiddle$Voices" "FromTheMiddle$Voices" "mark" "I" : Cond) ∈ px_words := pw_7_sub _ (List.mem_of_getElem? (i := 22) rfl)
theorem wq_293 : (Cond.methodLink "FromTheMiddle" 63 ⟨"FromTheMiddle$Numbers", "fillWithZeros", "(I)V"⟩ : Cond) ∈ px_words := pw_7_sub _ (List.mem_of_getElem? (i := 23) rfl)
theorem wq_294 : (Cond.instanceMethod ⟨"FromTheMiddle$Numbers", "fillWithZeros", "(I)V"⟩ : Cond) ∈ px_words := pw_7_sub _ (List.mem_of_getElem? (i := 24) rfl)
theorem wq_295 : (Cond.selects "FromTheMiddle$Numbers" ⟨"FromTheMiddle$Numbers", "fillWithZeros", "(I)V"⟩ ⟨"FromTheMiddle$Numbers", "fillWithZeros", "(I)V"⟩ : Cond) ∈ px_words := pw_7_sub _ (List.mem_of_getElem? (i := 25) rfl)
theorem wq_296 : (Cond.code ⟨"FromTheMiddle$Numbers", "fillWithZeros", "(I)V"⟩ prog_3_method_11_code 3 none : Cond) ∈ px_words := pw_7_sub _ (List.mem_of_getElem? (i := 26) rfl)
theorem wq_297 : (Cond.methodLink "FromTheMiddle$Numbers" 23 ⟨"java/lang/Math", "min", "(II)I"⟩ : Cond) ∈ px_words := pw_7_sub _ (List.mem_of_getElem? (i := 27) rfl)
theorem wq_298 : (Cond.static ⟨"java/lang/Math", "min", "(II)I"⟩ : Cond) ∈ px_words := pw_7_sub _ (List.mem_of_getElem? (i := 28) rfl)
theorem wq_299 : (Cond.code ⟨"java/lang/Math", "min", "(II)I"⟩ prog_12_method_69_code 2 (some .int) : Cond) ∈ px_words := pw_7_sub _ (List.mem_of_getElem? (i := 29) rfl)
theorem wq_300 : (Cond.fieldLink "FromTheMiddle" 10 "FromTheMiddle" "now" "LFromTheMiddle$Kept;" : Cond) ∈ px_words := pw_7_sub _ (List.mem_of_getElem? (i := 30) rfl)
theorem wq_301 : (Cond.fieldLink "FromTheMiddle" 16 "FromTheMiddle" "kept" "LFromTheMiddle$Kept;" : Cond) ∈ px_words := pw_7_sub _ (List.mem_of_getElem? (i := 31) rfl)
theorem wq_302 : (Cond.fieldLink "FromTheMiddle" 278 "FromTheMiddle" "images" "I" : Cond) ∈ px_words := pw_8_sub _ (List.mem_of_getElem? (i := 0) rfl)
theorem wq_303 : (Cond.fieldLink "FromTheMiddle" 24 "FromTheMiddle" "errors" "LFromTheMiddle$Numbers;" : Cond) ∈ px_words := pw_8_sub _ (List.mem_of_getElem? (i := 1) rfl)
theorem wq_304 : (Cond.fieldLink "FromTheMiddle" 31 "FromTheMiddle" "sheets" "[LFromTheMiddle$Sheet;" : Cond) ∈ px_words := pw_8_sub _ (List.mem_of_getElem? (i := 2) rfl)
theorem wq_305 : (Cond.fieldLink "FromTheMiddle" 38 "FromTheMiddle" "laid" "LFromTheMiddle$Row;" : Cond) ∈ px_words := pw_8_sub _ (List.mem_of_getElem? (i := 3) rfl)
theorem wq_306 : (Cond.fieldLink "FromTheMiddle" 45 "FromTheMiddle" "reader" "LFromTheMiddle$Reader;" : Cond) ∈ px_words := pw_8_sub _ (List.mem_of_getElem? (i := 4) rfl)
theorem wq_307 : (Cond.fieldLink "FromTheMiddle" 52 "FromTheMiddle" "reckoner" "LFromTheMiddle$Reckoner;" : Cond) ∈ px_words := pw_8_sub _ (List.mem_of_getElem? (i := 5) rfl)
theorem wq_308 : (Cond.fieldLink "FromTheMiddle" 59 "FromTheMiddle" "voices" "LFromTheMiddle$Voices;" : Cond) ∈ px_words := pw_8_sub _ (List.mem_of_getElem? (i := 6) rfl)
theorem wq_309 : (Cond.laysFinal "FromTheMiddle" "FromTheMiddle" "now" "LFromTheMiddle$Kept;" : Cond) ∈ px_words := pw_8_sub _ (List.mem_of_getElem? (i := 7) rfl)
theorem wq_311 : (Cond.laysFinal "FromTheMiddle" "FromTheMiddle" "kept" "LFromTheMiddle$Kept;" : Cond) ∈ px_words := pw_8_sub _ (List.mem_of_getElem? (i := 8) rfl)
theorem wq_313 : (Cond.lays "FromTheMiddle" "FromTheMiddle" "images" "I" : Cond) ∈ px_words := pw_8_sub _ (List.mem_of_getElem? (i := 9) rfl)
theorem wq_315 : (Cond.laysFinal "FromTheMiddle" "FromTheMiddle" "errors" "LFromTheMiddle$Numbers;" : Cond) ∈ px_words := pw_8_sub _ (List.mem_of_getElem? (i := 10) rfl)
theorem wq_317 : (Cond.laysFinal "FromTheMiddle" "FromTheMiddle" "sheets" "[LFromTheMiddle$Sheet;" : Cond) ∈ px_words := pw_8_sub _ (List.mem_of_getElem? (i := 11) rfl)
theorem wq_319 : (Cond.laysFinal "FromTheMiddle" "FromTheMiddle" "laid" "LFromTheMiddle$Row;" : Cond) ∈ px_words := pw_8_sub _ (List.mem_of_getElem? (i := 12) rfl)
theorem wq_321 : (Cond.laysFinal "FromTheMiddle" "FromTheMiddle" "reader" "LFromTheMiddle$Reader;" : Cond) ∈ px_words := pw_8_sub _ (List.mem_of_getElem? (i := 13) rfl)
theorem wq_323 : (Cond.laysFinal "FromTheMiddle" "FromTheMiddle" "reckoner" "LFromTheMiddle$Reckoner;" : Cond) ∈ px_words := pw_8_sub _ (List.mem_of_getElem? (i := 14) rfl)
theorem wq_325 : (Cond.laysFinal "FromTheMiddle" "FromTheMiddle" "voices" "LFromTheMiddle$Voices;" : Cond) ∈ px_words := pw_8_sub _ (List.mem_of_getElem? (i := 15) rfl)
theorem wq_328 : (Cond.methodLink "FromTheMiddleLaw" 13 ⟨"FromTheMiddle", "wall", "(II)I"⟩ : Cond) ∈ px_words := pw_8_sub _ (List.mem_of_getElem? (i := 16) rfl)
theorem wq_329 : (Cond.instanceMethod ⟨"FromTheMiddle", "wall", "(II)I"⟩ : Cond) ∈ px_words := pw_8_sub _ (List.mem_of_getElem? (i := 17) rfl)
theorem wq_330 : (Cond.selects "FromTheMiddle" ⟨"FromTheMiddle", "wall", "(II)I"⟩ ⟨"FromTheMiddle", "wall", "(II)I"⟩ : Cond) ∈ px_words := pw_8_sub _ (List.mem_of_getElem? (i := 18) rfl)
theorem wq_331 : (Cond.code ⟨"FromTheMiddle", "wall", "(II)I"⟩ prog_1_method_2_code 4 (some .int) : Cond) ∈ px_words := pw_8_sub _ (List.mem_of_getElem? (i := 19) rfl)
theorem wq_332 : (Cond.fieldLink "FromTheMiddle" 66 "FromTheMiddle" "LEAST" "[I" : Cond) ∈ px_words := pw_8_sub _ (List.mem_of_getElem? (i := 20) rfl)
theorem wq_334 : (Cond.fieldLink "FromTheMiddle" 70 "FromTheMiddle" "MOST" "[I" : Cond) ∈ px_words := pw_8_sub _ (List.mem_of_getElem? (i := 21) rfl)
theorem wq_336 : (Cond.methodLink "FromTheMiddle" 73 ⟨"FromTheMiddle", "error", "(I)I"⟩ : Cond) ∈ px_words := pw_8_sub _ (List.mem_of_getElem? (i := 22) rfl)
theorem wq_338 : (Cond.instanceMethod ⟨"FromTheMiddle", "error", "(I)I"⟩ : Cond) ∈ px_words := pw_8_sub _ (List.mem_of_getElem? (i := 23) rfl)
theorem wq_339 : (Cond.code ⟨"FromTheMiddle", "error", "(I)I"⟩ prog_1_method_39_code 2 (some .int) : Cond) ∈ px_words := pw_8_sub _ (List.mem_of_getElem? (i := 24) rfl)
theorem wq_340 : (Cond.methodLink "FromTheMiddle" 119 ⟨"FromTheMiddle$Numbers", "get", "(I)I"⟩ : Cond) ∈ px_words := pw_8_sub _ (List.mem_of_getElem? (i := 25) rfl)
theorem wq_341 : (Cond.instanceMethod ⟨"FromTheMiddle$Numbers", "get", "(I)I"⟩ : Cond) ∈ px_words := pw_8_sub _ (List.mem_of_getElem? (i := 26) rfl)
theorem wq_342 : (Cond.selects "FromTheMiddle$Numbers" ⟨"FromTheMiddle$Numbers", "get", "(I)I"⟩ ⟨"FromTheMiddle$Numbers", "get", "(I)I"⟩ : Cond) ∈ px_words := pw_8_sub _ (List.mem_of_getElem? (i := 27) rfl)
theorem wq_343 : (Cond.code ⟨"FromTheMiddle$Numbers", "get", "(I)I"⟩ prog_3_method_6_code 2 (some .int) : Cond) ∈ px_words := pw_8_sub _ (List.mem_of_getElem? (i := 28) rfl)
theorem wq_344 : (Cond.methodLink "FromTheMiddle" 83 ⟨"FromTheMiddle$Numbers", "set", "(II)V"⟩ : Cond) ∈ px_words := pw_8_sub _ (List.mem_of_getElem? (i := 29) rfl)
theorem wq_345 : (Cond.instanceMethod ⟨"FromTheMiddle$Numbers", "set", "(II)V"⟩ : Cond) ∈ px_words := pw_8_sub _ (List.mem_of_getElem? (i := 30) rfl)
theorem wq_346 : (Cond.selects "FromTheMiddle$Numbers" ⟨"FromTheMiddle$Numbers", "set", "(II)V"⟩ ⟨"FromTheMiddle$Numbers", "set", "(II)V"⟩ : Cond) ∈ px_words := pw_8_sub _ (List.mem_of_getElem? (i := 31) rfl)
theorem wq_347 : (Cond.code ⟨"FromTheMiddle$Numbers", "set", "(II)V"⟩ prog_3_method_7_code 3 none : Cond) ∈ px_words := pw_9_sub _ (List.mem_of_getElem? (i := 0) rfl)
theorem wq_348 : (Cond.constant "FromTheMiddle" 284 (-1000000000) : Cond) ∈ px_words := pw_9_sub _ (List.mem_of_getElem? (i := 1) rfl)
theorem wq_349 : (Cond.methodLink "FromTheMiddle" 77 ⟨"FromTheMiddle", "is", "(I)I"⟩ : Cond) ∈ px_words := pw_9_sub _ (List.mem_of_getElem? (i := 2) rfl)
theorem wq_351 : (Cond.instanceMethod ⟨"FromTheMiddle", "is", "(I)I"⟩ : Cond) ∈ px_words := pw_9_sub _ (List.mem_of_getElem? (i := 3) rfl)
theorem wq_352 : (Cond.code ⟨"FromTheMiddle", "is", "(I)I"⟩ prog_1_method_40_code 2 (some .int) : Cond) ∈ px_words := pw_9_sub _ (List.mem_of_getElem? (i := 4) rfl)
theorem wq_353 : (Cond.methodLink "FromTheMiddleLaw" 18 ⟨"FromTheMiddle", "wallIs", "(I)I"⟩ : Cond) ∈ px_words := pw_9_sub _ (List.mem_of_getElem? (i := 5) rfl)
theorem wq_354 : (Cond.instanceMethod ⟨"FromTheMiddle", "wallIs", "(I)I"⟩ : Cond) ∈ px_words := pw_9_sub _ (List.mem_of_getElem? (i := 6) rfl)
theorem wq_355 : (Cond.selects "FromTheMiddle" ⟨"FromTheMiddle", "wallIs", "(I)I"⟩ ⟨"FromTheMiddle", "wallIs", "(I)I"⟩ : Cond) ∈ px_words := pw_9_sub _ (List.mem_of_getElem? (i := 7) rfl)
theorem wq_356 : (Cond.code ⟨"FromTheMiddle", "wallIs", "(I)I"⟩ prog_1_method_3_code 2 (some .int) : Cond) ∈ px_words := pw_9_sub _ (List.mem_of_getElem? (i := 8) rfl)
theorem wq_357 : (Cond.methodLink "FromTheMiddleLaw" 23 ⟨"FromTheMiddle", "begin", "(I)I"⟩ : Cond) ∈ px_words := pw_9_sub _ (List.mem_of_getElem? (i := 9) rfl)
theorem wq_358 : (Cond.instanceMethod ⟨"FromTheMiddle", "begin", "(I)I"⟩ : Cond) ∈ px_words := pw_9_sub _ (List.mem_of_getElem? (i := 10) rfl)
theorem wq_359 : (Cond.selects "FromTheMiddle" ⟨"FromTheMiddle", "begin", "(I)I"⟩ ⟨"FromTheMiddle", "begin", "(I)I"⟩ : Cond) ∈ px_words := pw_9_sub _ (List.mem_of_getElem? (i := 11) rfl)
theorem wq_360 : (Cond.code ⟨"FromTheMiddle", "begin", "(I)I"⟩ prog_1_method_4_code 3 (some .int) : Cond) ∈ px_words := pw_9_sub _ (List.mem_of_getElem? (i := 12) rfl)
theorem wq_361 : (Cond.methodLink "FromTheMiddleLaw" 27 ⟨"FromTheMiddle", "thing", "(III)I"⟩ : Cond) ∈ px_words := pw_9_sub _ (List.mem_of_getElem? (i := 13) rfl)
theorem wq_362 : (Cond.instanceMethod ⟨"FromTheMiddle", "thing", "(III)I"⟩ : Cond) ∈ px_words := pw_9_sub _ (List.mem_of_getElem? (i := 14) rfl)
theorem wq_363 : (Cond.selects "FromTheMiddle" ⟨"FromTheMiddle", "thing", "(III)I"⟩ ⟨"FromTheMiddle", "thing", "(III)I"⟩ : Cond) ∈ px_words := pw_9_sub _ (List.mem_of_getElem? (i := 15) rfl)
theorem wq_364 : (Cond.code ⟨"FromTheMiddle", "thing", "(III)I"⟩ prog_1_method_5_code 4 (some .int) : Cond) ∈ px_words := pw_9_sub _ (List.mem_of_getElem? (i := 16) rfl)
theorem wq_365 : (Cond.methodLink "FromTheMiddle" 87 ⟨"FromTheMiddle", "isKindAndMark", "(I)Z"⟩ : Cond) ∈ px_words := pw_9_sub _ (List.mem_of_getElem? (i := 17) rfl)
theorem wq_366 : (Cond.static ⟨"FromTheMiddle", "isKindAndMark", "(I)Z"⟩ : Cond) ∈ px_words := pw_9_sub _ (List.mem_of_getElem? (i := 18) rfl)
theorem wq_367 : (Cond.code ⟨"FromTheMiddle", "isKindAndMark", "(I)Z"⟩ prog_1_method_44_code 1 (some .boolean) : Cond) ∈ px_words := pw_9_sub _ (List.mem_of_getElem? (i := 19) rfl)
theorem wq_368 : (Cond.methodLink "FromTheMiddle" 91 ⟨"FromTheMiddle", "isFrom", "(I)Z"⟩ : Cond) ∈ px_words := pw_9_sub _ (List.mem_of_getElem? (i := 20) rfl)
theorem wq_369 : (Cond.static ⟨"FromTheMiddle", "isFrom", "(I)Z"⟩ : Cond) ∈ px_words := pw_9_sub _ (List.mem_of_getElem? (i := 21) rfl)
theorem wq_370 : (Cond.code ⟨"FromTheMiddle", "isFrom", "(I)Z"⟩ prog_1_method_45_code 1 (some .boolean) : Cond) ∈ px_words := pw_9_sub _ (List.mem_of_getElem? (i := 22) rfl)
theorem wq_371 : (Cond.methodLink "FromTheMiddle" 97 ⟨"FromTheMiddle$Numbers", "room", "()I"⟩ : Cond) ∈ px_words := pw_9_sub _ (List.mem_of_getElem? (i := 23) rfl)
theorem wq_372 : (Cond.instanceMethod ⟨"FromTheMiddle$Numbers", "room", "()I"⟩ : Cond) ∈ px_words := pw_9_sub _ (List.mem_of_getElem? (i := 24) rfl)
theorem wq_373 : (Cond.selects "FromTheMiddle$Numbers" ⟨"FromTheMiddle$Numbers", "room", "()I"⟩ ⟨"FromTheMiddle$Numbers", "room", "()I"⟩ : Cond) ∈ px_words := pw_9_sub _ (List.mem_of_getElem? (i := 25) rfl)
theorem wq_374 : (Cond.code ⟨"FromTheMiddle$Numbers", "room", "()I"⟩ prog_3_method_3_code 1 (some .int) : Cond) ∈ px_words := pw_9_sub _ (List.mem_of_getElem? (i := 26) rfl)
theorem wq_375 : (Cond.methodLink "FromTheMiddle" 101 ⟨"FromTheMiddle$Numbers", "add", "(I)V"⟩ : Cond) ∈ px_words := pw_9_sub _ (List.mem_of_getElem? (i := 27) rfl)
theorem wq_376 : (Cond.methodLink "FromTheMiddle" 113 ⟨"FromTheMiddle$Numbers", "size", "()I"⟩ : Cond) ∈ px_words := pw_9_sub _ (List.mem_of_getElem? (i := 28) rfl)
theorem wq_377 : (Cond.instanceMethod ⟨"FromTheMiddle$Numbers", "size", "()I"⟩ : Cond) ∈ px_words := pw_9_sub _ (List.mem_of_getElem? (i := 29) rfl)
theorem wq_378 : (Cond.selects "FromTheMiddle$Numbers" ⟨"FromTheMiddle$Numbers", "size", "()I"⟩ ⟨"FromTheMiddle$Numbers", "size", "()I"⟩ : Cond) ∈ px_words := pw_9_sub _ (List.mem_of_getElem? (i := 30) rfl)
theorem wq_379 : (Cond.code ⟨"FromTheMiddle$Numbers", "size", "()I"⟩ prog_3_method_2_code 1 (some .int) : Cond) ∈ px_words := pw_9_sub _ (List.mem_of_getElem? (i := 31) rfl)
theorem wq_380 : (Cond.methodLink "FromTheMiddleLaw" 32 ⟨"FromTheMiddle", "thingIs", "(II)I"⟩ : Cond) ∈ px_words := pw_10_sub _ (List.mem_of_getElem? (i := 0) rfl)
theorem wq_381 : (Cond.instanceMethod ⟨"FromTheMiddle", "thingIs", "(II)I"⟩ : Cond) ∈ px_words := pw_10_sub _ (List.mem_of_getElem? (i := 1) rfl)
theorem wq_382 : (Cond.selects "FromTheMiddle" ⟨"FromTheMiddle", "thingIs", "(II)I"⟩ ⟨"FromTheMiddle", "thingIs", "(II)I"⟩ : Cond) ∈ px_words := pw_10_sub _ (List.mem_of_getElem? (i := 2) rfl)
theorem wq_383 : (Cond.code ⟨"FromTheMiddle", "thingIs", "(II)I"⟩ prog_1_method_6_code 3 (some .int) : Cond) ∈ px_words := pw_10_sub _ (List.mem_of_getElem? (i := 3) rfl)
theorem wq_384 : (Cond.methodLink "FromTheMiddle" 116 ⟨"FromTheMiddle", "isThing", "(I)Z"⟩ : Cond) ∈ px_words := pw_10_sub _ (List.mem_of_getElem? (i := 4) rfl)
theorem wq_386 : (Cond.instanceMethod ⟨"FromTheMiddle", "isThing", "(I)Z"⟩ : Cond) ∈ px_words := pw_10_sub _ (List.mem_of_getElem? (i := 5) rfl)
theorem wq_387 : (Cond.code ⟨"FromTheMiddle", "isThing", "(I)Z"⟩ prog_1_method_41_code 2 (some .boolean) : Cond) ∈ px_words := pw_10_sub _ (List.mem_of_getElem? (i := 6) rfl)
theorem wq_388 : (Cond.methodLink "FromTheMiddle" 254 ⟨"FromTheMiddle$Numbers", "stands", "(I)Z"⟩ : Cond) ∈ px_words := pw_10_sub _ (List.mem_of_getElem? (i := 7) rfl)
theorem wq_389 : (Cond.instanceMethod ⟨"FromTheMiddle$Numbers", "stands", "(I)Z"⟩ : Cond) ∈ px_words := pw_10_sub _ (List.mem_of_getElem? (i := 8) rfl)
theorem wq_390 : (Cond.selects "FromTheMiddle$Numbers" ⟨"FromTheMiddle$Numbers", "stands", "(I)Z"⟩ ⟨"FromTheMiddle$Numbers", "stands", "(I)Z"⟩ : Cond) ∈ px_words := pw_10_sub _ (List.mem_of_getElem? (i := 9) rfl)
theorem wq_391 : (Cond.code ⟨"FromTheMiddle$Numbers", "stands", "(I)Z"⟩ prog_3_method_4_code 2 (some .boolean) : Cond) ∈ px_words := pw_10_sub _ (List.mem_of_getElem? (i := 10) rfl)
theorem wq_392 : (Cond.methodLink "FromTheMiddleLaw" 36 ⟨"FromTheMiddle", "become", "(II)I"⟩ : Cond) ∈ px_words := pw_10_sub _ (List.mem_of_getElem? (i := 11) rfl)
theorem wq_393 : (Cond.instanceMethod ⟨"FromTheMiddle", "become", "(II)I"⟩ : Cond) ∈ px_words := pw_10_sub _ (List.mem_of_getElem? (i := 12) rfl)
theorem wq_394 : (Cond.selects "FromTheMiddle" ⟨"FromTheMiddle", "become", "(II)I"⟩ ⟨"FromTheMiddle", "become", "(II)I"⟩ : Cond) ∈ px_words := pw_10_sub _ (List.mem_of_getElem? (i := 13) rfl)
theorem wq_395 : (Cond.code ⟨"FromTheMiddle", "become", "(II)I"⟩ prog_1_method_7_code 4 (some .int) : Cond) ∈ px_words := pw_10_sub _ (List.mem_of_getElem? (i := 14) rfl)
theorem wq_396 : (Cond.methodLink "FromTheMiddleLaw" 40 ⟨"FromTheMiddle", "as", "(II)I"⟩ : Cond) ∈ px_words := pw_10_sub _ (List.mem_of_getElem? (i := 15) rfl)
theorem wq_397 : (Cond.instanceMethod ⟨"FromTheMiddle", "as", "(II)I"⟩ : Cond) ∈ px_words := pw_10_sub _ (List.mem_of_getElem? (i := 16) rfl)
theorem wq_398 : (Cond.selects "FromTheMiddle" ⟨"FromTheMiddle", "as", "(II)I"⟩ ⟨"FromTheMiddle", "as", "(II)I"⟩ : Cond) ∈ px_words := pw_10_sub _ (List.mem_of_getElem? (i := 17) rfl)
theorem wq_399 : (Cond.code ⟨"FromTheMiddle", "as", "(II)I"⟩ prog_1_method_8_code 3 (some .int) : Cond) ∈ px_words := pw_10_sub _ (List.mem_of_getElem? (i := 18) rfl)
theorem wq_400 : (Cond.methodLink "FromTheMiddle" 122 ⟨"FromTheMiddle", "isOfKind", "(II)Z"⟩ : Cond) ∈ px_words := pw_10_sub _ (List.mem_of_getElem? (i := 19) rfl)
theorem wq_401 : (Cond.static ⟨"FromTheMiddle", "isOfKind", "(II)Z"⟩ : Cond) ∈ px_words := pw_10_sub _ (List.mem_of_getElem? (i := 20) rfl)
theorem wq_402 : (Cond.code ⟨"FromTheMiddle", "isOfKind", "(II)Z"⟩ prog_1_method_47_code 2 (some .boolean) : Cond) ∈ px_words := pw_10_sub _ (List.mem_of_getElem? (i := 21) rfl)
theorem wq_403 : (Cond.methodLink "FromTheMiddle" 285 ⟨"FromTheMiddle", "kindAbove", "(I)I"⟩ : Cond) ∈ px_words := pw_10_sub _ (List.mem_of_getElem? (i := 22) rfl)
theorem wq_404 : (Cond.static ⟨"FromTheMiddle", "kindAbove", "(I)I"⟩ : Cond) ∈ px_words := pw_10_sub _ (List.mem_of_getElem? (i := 23) rfl)
theorem wq_405 : (Cond.code ⟨"FromTheMiddle", "kindAbove", "(I)I"⟩ prog_1_method_48_code 1 (some .int) : Cond) ∈ px_words := pw_10_sub _ (List.mem_of_getElem? (i := 24) rfl)
theorem wq_406 : (Cond.methodLink "FromTheMiddleLaw" 44 ⟨"FromTheMiddle", "hang", "(II)I"⟩ : Cond) ∈ px_words := pw_10_sub _ (List.mem_of_getElem? (i := 25) rfl)
theorem wq_407 : (Cond.instanceMethod ⟨"FromTheMiddle", "hang", "(II)I"⟩ : Cond) ∈ px_words := pw_10_sub _ (List.mem_of_getElem? (i := 26) rfl)
theorem wq_408 : (Cond.selects "FromTheMiddle" ⟨"FromTheMiddle", "hang", "(II)I"⟩ ⟨"FromTheMiddle", "hang", "(II)I"⟩ : Cond) ∈ px_words := pw_10_sub _ (List.mem_of_getElem? (i := 27) rfl)
theorem wq_409 : (Cond.code ⟨"FromTheMiddle", "hang", "(II)I"⟩ prog_1_method_9_code 4 (some .int) : Cond) ∈ px_words := pw_10_sub _ (List.mem_of_getElem? (i := 28) rfl)
theorem wq_410 : (Cond.methodLink "FromTheMiddleLaw" 50 ⟨"FromTheMiddle", "feed", "(JI)I"⟩ : Cond) ∈ px_words := pw_10_sub _ (List.mem_of_getElem? (i := 29) rfl)
theorem wq_411 : (Cond.instanceMethod ⟨"FromTheMiddle", "feed", "(JI)I"⟩ : Cond) ∈ px_words := pw_10_sub _ (List.mem_of_getElem? (i := 30) rfl)
theorem wq_412 : (Cond.selects "FromTheMiddle" ⟨"FromTheMiddle", "feed", "(JI)I"⟩ ⟨"FromTheMiddle", "feed", "(JI)I"⟩ : Cond) ∈ px_words := pw_10_sub _ (List.mem_of_getElem? (i := 31) rfl)
theorem wq_413 : (Cond.code ⟨"FromTheMiddle", "feed", "(JI)I"⟩ prog_1_method_10_code 5 (some .int) : Cond) ∈ px_words := pw_11_sub _ (List.mem_of_getElem? (i := 0) rfl)
theorem wq_414 : (Cond.methodLink "FromTheMiddleLaw" 55 ⟨"FromTheMiddle", "text", "(I)I"⟩ : Cond) ∈ px_words := pw_11_sub _ (List.mem_of_getElem? (i := 1) rfl)
theorem wq_415 : (Cond.instanceMethod ⟨"FromTheMiddle", "text", "(I)I"⟩ : Cond) ∈ px_words := pw_11_sub _ (List.mem_of_getElem? (i := 2) rfl)
theorem wq_416 : (Cond.selects "FromTheMiddle" ⟨"FromTheMiddle", "text", "(I)I"⟩ ⟨"FromTheMiddle", "text", "(I)I"⟩ : Cond) ∈ px_words := pw_11_sub _ (List.mem_of_getElem? (i := 3) rfl)
theorem wq_417 : (Cond.code ⟨"FromTheMiddle", "text", "(I)I"⟩ prog_1_method_11_code 3 (some .int) : Cond) ∈ px_words := pw_11_sub _ (List.mem_of_getElem? (i := 4) rfl)
theorem wq_418 : (Cond.methodLink "FromTheMiddle" 129 ⟨"FromTheMiddle", "isUse", "(I)Z"⟩ : Cond) ∈ px_words := pw_11_sub _ (List.mem_of_getElem? (i := 5) rfl)
theorem wq_419 : (Cond.static ⟨"FromTheMiddle", "isUse", "(I)Z"⟩ : Cond) ∈ px_words := pw_11_sub _ (List.mem_of_getElem? (i := 6) rfl)
theorem wq_420 : (Cond.code ⟨"FromTheMiddle", "isUse", "(I)Z"⟩ prog_1_method_46_code 1 (some .boolean) : Cond) ∈ px_words := pw_11_sub _ (List.mem_of_getElem? (i := 7) rfl)
theorem wq_423 : (Cond.methodLink "FromTheMiddle" 136 ⟨"FromTheMiddle$Reader", "read", "(LFromTheMiddle$Numbers;Ljava/lang/String;)I"⟩ : Cond) ∈ px_words := pw_11_sub _ (List.mem_of_getElem? (i := 8) rfl)
theorem wq_424 : (Cond.instanceMethod ⟨"FromTheMiddle$Reader", "read", "(LFromTheMiddle$Numbers;Ljava/lang/String;)I"⟩ : Cond) ∈ px_words := pw_11_sub _ (List.mem_of_getElem? (i := 9) rfl)
theorem wq_425 : (Cond.selects "FromTheMiddle$Reader" ⟨"FromTheMiddle$Reader", "read", "(LFromTheMiddle$Numbers;Ljava/lang/String;)I"⟩ ⟨"FromTheMiddle$Reader", "read", "(LFromTheMiddle$Numbers;Ljava/lang/String;)I"⟩ : Cond) ∈ px_words := pw_11_sub _ (List.mem_of_getElem? (i := 10) rfl)
theorem wq_426 : (Cond.code ⟨"FromTheMiddle$Reader", "read", "(LFromTheMiddle$Numbers;Ljava/lang/String;)I"⟩ prog_4_method_2_code 6 (some .int) : Cond) ∈ px_words := pw_11_sub _ (List.mem_of_getElem? (i := 11) rfl)
theorem wq_427 : (Cond.methodLink "FromTheMiddle$Reader" 23 ⟨"FromTheMiddle$Numbers", "clear", "()V"⟩ : Cond) ∈ px_words := pw_11_sub _ (List.mem_of_getElem? (i := 12) rfl)
theorem wq_428 : (Cond.instanceMethod ⟨"FromTheMiddle$Numbers", "clear", "()V"⟩ : Cond) ∈ px_words := pw_11_sub _ (List.mem_of_getElem? (i := 13) rfl)
theorem wq_429 : (Cond.selects "FromTheMiddle$Numbers" ⟨"FromTheMiddle$Numbers", "clear", "()V"⟩ ⟨"FromTheMiddle$Numbers", "clear", "()V"⟩ : Cond) ∈ px_words := pw_11_sub _ (List.mem_of_getElem? (i := 14) rfl)
theorem wq_430 : (Cond.code ⟨"FromTheMiddle$Numbers", "clear", "()V"⟩ prog_3_method_10_code 1 none : Cond) ∈ px_words := pw_11_sub _ (List.mem_of_getElem? (i := 15) rfl)
theorem wq_431 : (Cond.methodLink "FromTheMiddle$Reader" 37 ⟨"FromTheMiddle$Numbers", "size", "()I"⟩ : Cond) ∈ px_words := pw_11_sub _ (List.mem_of_getElem? (i := 16) rfl)
theorem wq_432 : (Cond.methodLink "FromTheMiddle$Reader" 41 ⟨"FromTheMiddle$Numbers", "get", "(I)I"⟩ : Cond) ∈ px_words := pw_11_sub _ (List.mem_of_getElem? (i := 17) rfl)
theorem wq_433 : (Cond.methodLink "FromTheMiddle$Reader" 45 ⟨"FromTheMiddle$Reader", "beginOperand", "(ILjava/lang/String;)Z"⟩ : Cond) ∈ px_words := pw_11_sub _ (List.mem_of_getElem? (i := 18) rfl)
theorem wq_435 : (Cond.instanceMethod ⟨"FromTheMiddle$Reader", "beginOperand", "(ILjava/lang/String;)Z"⟩ : Cond) ∈ px_words := pw_11_sub _ (List.mem_of_getElem? (i := 19) rfl)
theorem wq_436 : (Cond.code ⟨"FromTheMiddle$Reader", "beginOperand", "(ILjava/lang/String;)Z"⟩ prog_4_method_3_code 4 (some .boolean) : Cond) ∈ px_words := pw_11_sub _ (List.mem_of_getElem? (i := 20) rfl)
theorem wq_437 : (Cond.methodLink "FromTheMiddle$Reader" 56 ⟨"FromTheMiddle$Numbers", "add", "(I)V"⟩ : Cond) ∈ px_words := pw_11_sub _ (List.mem_of_getElem? (i := 21) rfl)
theorem wq_438 : (Cond.methodLink "FromTheMiddle$Reader" 59 ⟨"FromTheMiddle$Reader", "isDigit", "(I)Z"⟩ : Cond) ∈ px_words := pw_11_sub _ (List.mem_of_getElem? (i := 22) rfl)
theorem wq_439 : (Cond.static ⟨"FromTheMiddle$Reader", "isDigit", "(I)Z"⟩ : Cond) ∈ px_words := pw_11_sub _ (List.mem_of_getElem? (i := 23) rfl)
theorem wq_440 : (Cond.code ⟨"FromTheMiddle$Reader", "isDigit", "(I)Z"⟩ prog_4_method_8_code 1 (some .boolean) : Cond) ∈ px_words := pw_11_sub _ (List.mem_of_getElem? (i := 24) rfl)
theorem wq_441 : (Cond.methodLink "FromTheMiddle$Reader" 62 ⟨"java/lang/String", "indexOf", "(I)I"⟩ : Cond) ∈ px_words := pw_11_sub _ (List.mem_of_getElem? (i := 25) rfl)
theorem wq_442 : (Cond.instanceMethod ⟨"java/lang/String", "indexOf", "(I)I"⟩ : Cond) ∈ px_words := pw_11_sub _ (List.mem_of_getElem? (i := 26) rfl)
theorem wq_443 : (Cond.selects "java/lang/String" ⟨"java/lang/String", "indexOf", "(I)I"⟩ ⟨"java/lang/String", "indexOf", "(I)I"⟩ : Cond) ∈ px_words := pw_11_sub _ (List.mem_of_getElem? (i := 27) rfl)
theorem wq_444 : (Cond.code ⟨"java/lang/String", "indexOf", "(I)I"⟩ prog_13_method_79_code 2 (some .int) : Cond) ∈ px_words := pw_11_sub _ (List.mem_of_getElem? (i := 28) rfl)
theorem wq_445 : (Cond.methodLink "java/lang/String" 633 ⟨"java/lang/String", "indexOf", "(II)I"⟩ : Cond) ∈ px_words := pw_11_sub _ (List.mem_of_getElem? (i := 29) rfl)
theorem wq_446 : (Cond.instanceMethod ⟨"java/lang/String", "indexOf", "(II)I"⟩ : Cond) ∈ px_words := pw_11_sub _ (List.mem_of_getElem? (i := 30) rfl)
theorem wq_447 : (Cond.selects "java/lang/String" ⟨"java/lang/String", "indexOf", "(II)I"⟩ ⟨"java/lang/String", "indexOf", "(II)I"⟩ : Cond) ∈ px_words := pw_11_sub _ (List.mem_of_getElem? (i := 31) rfl)
theorem wq_448 : (Cond.code ⟨"java/lang/String", "indexOf", "(II)I"⟩ prog_13_method_80_code 3 (some .int) : Cond) ∈ px_words := pw_12_sub _ (List.mem_of_getElem? (i := 0) rfl)
theorem wq_449 : (Cond.methodLink "java/lang/String" 492 ⟨"java/lang/String", "isLatin1", "()Z"⟩ : Cond) ∈ px_words := pw_12_sub _ (List.mem_of_getElem? (i := 1) rfl)
theorem wq_450 : (Cond.instanceMethod ⟨"java/lang/String", "isLatin1", "()Z"⟩ : Cond) ∈ px_words := pw_12_sub _ (List.mem_of_getElem? (i := 2) rfl)
theorem wq_451 : (Cond.selects "java/lang/String" ⟨"java/lang/String", "isLatin1", "()Z"⟩ ⟨"java/lang/String", "isLatin1", "()Z"⟩ : Cond) ∈ px_words := pw_12_sub _ (List.mem_of_getElem? (i := 3) rfl)
theorem wq_452 : (Cond.code ⟨"java/lang/String", "isLatin1", "()Z"⟩ prog_13_method_154_code 1 (some .boolean) : Cond) ∈ px_words := pw_12_sub _ (List.mem_of_getElem? (i := 4) rfl)
theorem wq_453 : (Cond.fieldLink "java/lang/String" 38 "java/lang/String" "COMPACT_STRINGS" "Z" : Cond) ∈ px_words := pw_12_sub _ (List.mem_of_getElem? (i := 5) rfl)
theorem wq_455 : (Cond.methodLink "java/lang/String" 505 ⟨"java/lang/String", "length", "()I"⟩ : Cond) ∈ px_words := pw_12_sub _ (List.mem_of_getElem? (i := 6) rfl)
theorem wq_456 : (Cond.instanceMethod ⟨"java/lang/String", "length", "()I"⟩ : Cond) ∈ px_words := pw_12_sub _ (List.mem_of_getElem? (i := 7) rfl)
theorem wq_457 : (Cond.selects "java/lang/String" ⟨"java/lang/String", "length", "()I"⟩ ⟨"java/lang/String", "length", "()I"⟩ : Cond) ∈ px_words := pw_12_sub _ (List.mem_of_getElem? (i := 8) rfl)
theorem wq_458 : (Cond.code ⟨"java/lang/String", "length", "()I"⟩ prog_13_method_54_code 1 (some .int) : Cond) ∈ px_words := pw_12_sub _ (List.mem_of_getElem? (i := 9) rfl)
theorem wq_459 : (Cond.methodLink "java/lang/String" 335 ⟨"java/lang/String", "coder", "()B"⟩ : Cond) ∈ px_words := pw_12_sub _ (List.mem_of_getElem? (i := 10) rfl)
theorem wq_460 : (Cond.instanceMethod ⟨"java/lang/String", "coder", "()B"⟩ : Cond) ∈ px_words := pw_12_sub _ (List.mem_of_getElem? (i := 11) rfl)
theorem wq_461 : (Cond.selects "java/lang/String" ⟨"java/lang/String", "coder", "()B"⟩ ⟨"java/lang/String", "coder", "()B"⟩ : Cond) ∈ px_words := pw_12_sub _ (List.mem_of_getElem? (i := 12) rfl)
theorem wq_462 : (Cond.code ⟨"java/lang/String", "coder", "()B"⟩ prog_13_method_152_code 1 (some .byte) : Cond) ∈ px_words := pw_12_sub _ (List.mem_of_getElem? (i := 13) rfl)
theorem wq_463 : (Cond.methodLink "java/lang/String" 637 ⟨"java/lang/StringLatin1", "indexOf", "([BIII)I"⟩ : Cond) ∈ px_words := pw_12_sub _ (List.mem_of_getElem? (i := 14) rfl)
theorem wq_464 : (Cond.static ⟨"java/lang/StringLatin1", "indexOf", "([BIII)I"⟩ : Cond) ∈ px_words := pw_12_sub _ (List.mem_of_getElem? (i := 15) rfl)
theorem wq_465 : (Cond.code ⟨"java/lang/StringLatin1", "indexOf", "([BIII)I"⟩ prog_14_method_22_code 4 (some .int) : Cond) ∈ px_words := pw_12_sub _ (List.mem_of_getElem? (i := 16) rfl)
theorem wq_466 : (Cond.methodLink "java/lang/StringLatin1" 88 ⟨"java/lang/StringLatin1", "canEncode", "(I)Z"⟩ : Cond) ∈ px_words := pw_12_sub _ (List.mem_of_getElem? (i := 17) rfl)
theorem wq_467 : (Cond.static ⟨"java/lang/StringLatin1", "canEncode", "(I)Z"⟩ : Cond) ∈ px_words := pw_12_sub _ (List.mem_of_getElem? (i := 18) rfl)
theorem wq_468 : (Cond.code ⟨"java/lang/StringLatin1", "canEncode", "(I)Z"⟩ prog_14_method_4_code 1 (some .boolean) : Cond) ∈ px_words := pw_12_sub _ (List.mem_of_getElem? (i := 19) rfl)
theorem wq_469 : (Cond.methodLink "java/lang/StringLatin1" 92 ⟨"java/lang/Math", "max", "(II)I"⟩ : Cond) ∈ px_words := pw_12_sub _ (List.mem_of_getElem? (i := 20) rfl)
theorem wq_470 : (Cond.methodLink "java/lang/StringLatin1" 38 ⟨"java/lang/Math", "min", "(II)I"⟩ : Cond) ∈ px_words := pw_12_sub _ (List.mem_of_getElem? (i := 21) rfl)
theorem wq_471 : (Cond.methodLink "java/lang/StringLatin1" 95 ⟨"java/lang/StringLatin1", "indexOfChar", "([BIII)I"⟩ : Cond) ∈ px_words := pw_12_sub _ (List.mem_of_getElem? (i := 22) rfl)
theorem wq_472 : (Cond.static ⟨"java/lang/StringLatin1", "indexOfChar", "([BIII)I"⟩ : Cond) ∈ px_words := pw_12_sub _ (List.mem_of_getElem? (i := 23) rfl)
theorem wq_473 : (Cond.code ⟨"java/lang/StringLatin1", "indexOfChar", "([BIII)I"⟩ prog_14_method_23_code 6 (some .int) : Cond) ∈ px_words := pw_12_sub _ (List.mem_of_getElem? (i := 24) rfl)
theorem wq_474 : (Cond.methodLink "java/lang/String" 640 ⟨"java/lang/StringUTF16", "indexOf", "([BIII)I"⟩ : Cond) ∈ px_words := pw_12_sub _ (List.mem_of_getElem? (i := 25) rfl)
theorem wq_475 : (Cond.static ⟨"java/lang/StringUTF16", "indexOf", "([BIII)I"⟩ : Cond) ∈ px_words := pw_12_sub _ (List.mem_of_getElem? (i := 26) rfl)
theorem wq_476 : (Cond.code ⟨"java/lang/StringUTF16", "indexOf", "([BIII)I"⟩ prog_15_method_40_code 4 (some .int) : Cond) ∈ px_words := pw_12_sub _ (List.mem_of_getElem? (i := 27) rfl)
theorem wq_477 : (Cond.methodLink "java/lang/StringUTF16" 224 ⟨"java/lang/Math", "max", "(II)I"⟩ : Cond) ∈ px_words := pw_12_sub _ (List.mem_of_getElem? (i := 28) rfl)
theorem wq_478 : (Cond.methodLink "java/lang/StringUTF16" 183 ⟨"java/lang/Math", "min", "(II)I"⟩ : Cond) ∈ px_words := pw_12_sub _ (List.mem_of_getElem? (i := 29) rfl)
theorem wq_479 : (Cond.constant "java/lang/StringUTF16" 227 65536 : Cond) ∈ px_words := pw_12_sub _ (List.mem_of_getElem? (i := 30) rfl)
theorem wq_480 : (Cond.methodLink "java/lang/StringUTF16" 228 ⟨"java/lang/StringUTF16", "indexOfChar", "([BIII)I"⟩ : Cond) ∈ px_words := pw_12_sub _ (List.mem_of_getElem? (i := 31) rfl)
theorem wq_481 : (Cond.static ⟨"java/lang/StringUTF16", "indexOfChar", "([BIII)I"⟩ : Cond) ∈ px_words := pw_13_sub _ (List.mem_of_getElem? (i := 0) rfl)
theorem wq_482 : (Cond.code ⟨"java/lang/StringUTF16", "indexOfChar", "([BIII)I"⟩ prog_15_method_47_code 4 (some .int) : Cond) ∈ px_words := pw_13_sub _ (List.mem_of_getElem? (i := 1) rfl)
theorem wq_483 : (Cond.methodLink "java/lang/StringUTF16" 96 ⟨"java/lang/StringUTF16", "checkBoundsBeginEnd", "(II[B)V"⟩ : Cond) ∈ px_words := pw_13_sub _ (List.mem_of_getElem? (i := 2) rfl)
theorem wq_484 : (Cond.static ⟨"java/lang/StringUTF16", "checkBoundsBeginEnd", "(II[B)V"⟩ : Cond) ∈ px_words := pw_13_sub _ (List.mem_of_getElem? (i := 3) rfl)
theorem wq_485 : (Cond.code ⟨"java/lang/StringUTF16", "checkBoundsBeginEnd", "(II[B)V"⟩ prog_15_method_93_code 3 none : Cond) ∈ px_words := pw_13_sub _ (List.mem_of_getElem? (i := 4) rfl)
theorem wq_486 : (Cond.methodLink "java/lang/StringUTF16" 48 ⟨"java/lang/StringUTF16", "length", "([B)I"⟩ : Cond) ∈ px_words := pw_13_sub _ (List.mem_of_getElem? (i := 5) rfl)
theorem wq_487 : (Cond.static ⟨"java/lang/StringUTF16", "length", "([B)I"⟩ : Cond) ∈ px_words := pw_13_sub _ (List.mem_of_getElem? (i := 6) rfl)
theorem wq_488 : (Cond.code ⟨"java/lang/StringUTF16", "length", "([B)I"⟩ prog_15_method_6_code 1 (some .int) : Cond) ∈ px_words := pw_13_sub _ (List.mem_of_getElem? (i := 7) rfl)
theorem wq_489 : (Cond.methodLink "java/lang/StringUTF16" 241 ⟨"java/lang/String", "checkBoundsBeginEnd", "(III)V"⟩ : Cond) ∈ px_words := pw_13_sub _ (List.mem_of_getElem? (i := 8) rfl)
theorem wq_490 : (Cond.static ⟨"java/lang/String", "checkBoundsBeginEnd", "(III)V"⟩ : Cond) ∈ px_words := pw_13_sub _ (List.mem_of_getElem? (i := 9) rfl)
theorem wq_491 : (Cond.code ⟨"java/lang/String", "checkBoundsBeginEnd", "(III)V"⟩ prog_13_method_158_code 3 none : Cond) ∈ px_words := pw_13_sub _ (List.mem_of_getElem? (i := 10) rfl)
theorem wq_492 : (Cond.fieldLink "java/lang/String" 1053 "jdk/internal/util/Preconditions" "SIOOBE_FORMATTER" "Ljava/util/function/BiFunction;" : Cond) ∈ px_words := pw_13_sub _ (List.mem_of_getElem? (i := 11) rfl)
theorem wq_494 : (Cond.methodLink "java/lang/String" 1062 ⟨"jdk/internal/util/Preconditions", "checkFromToIndex", "(IIILjava/util/function/BiFunction;)I"⟩ : Cond) ∈ px_words := pw_13_sub _ (List.mem_of_getElem? (i := 12) rfl)
theorem wq_495 : (Cond.static ⟨"jdk/internal/util/Preconditions", "checkFromToIndex", "(IIILjava/util/function/BiFunction;)I"⟩ : Cond) ∈ px_words := pw_13_sub _ (List.mem_of_getElem? (i := 13) rfl)
theorem wq_496 : (Cond.code ⟨"jdk/internal/util/Preconditions", "checkFromToIndex", "(IIILjava/util/function/BiFunction;)I"⟩ prog_17_method_12_code 4 (some .int) : Cond) ∈ px_words := pw_13_sub _ (List.mem_of_getElem? (i := 14) rfl)
theorem wq_497 : (Cond.methodLink "java/lang/StringUTF16" 244 ⟨"java/lang/StringUTF16", "indexOfCharUnsafe", "([BIII)I"⟩ : Cond) ∈ px_words := pw_13_sub _ (List.mem_of_getElem? (i := 15) rfl)
theorem wq_498 : (Cond.static ⟨"java/lang/StringUTF16", "indexOfCharUnsafe", "([BIII)I"⟩ : Cond) ∈ px_words := pw_13_sub _ (List.mem_of_getElem? (i := 16) rfl)
theorem wq_499 : (Cond.code ⟨"java/lang/StringUTF16", "indexOfCharUnsafe", "([BIII)I"⟩ prog_15_method_48_code 5 (some .int) : Cond) ∈ px_words := pw_13_sub _ (List.mem_of_getElem? (i := 17) rfl)
theorem wq_500 : (Cond.methodLink "java/lang/StringUTF16" 71 ⟨"java/lang/StringUTF16", "getChar", "([BI)C"⟩ : Cond) ∈ px_words := pw_13_sub _ (List.mem_of_getElem? (i := 18) rfl)
theorem wq_501 : (Cond.static ⟨"java/lang/StringUTF16", "getChar", "([BI)C"⟩ : Cond) ∈ px_words := pw_13_sub _ (List.mem_of_getElem? (i := 19) rfl)
theorem wq_502 : (Cond.code ⟨"java/lang/StringUTF16", "getChar", "([BI)C"⟩ prog_15_method_5_code 2 (some .char) : Cond) ∈ px_words := pw_13_sub _ (List.mem_of_getElem? (i := 20) rfl)
theorem wq_503 : (Cond.fieldLink "java/lang/StringUTF16" 44 "java/lang/StringUTF16" "$assertionsDisabled" "Z" : Cond) ∈ px_words := pw_13_sub _ (List.mem_of_getElem? (i := 21) rfl)
theorem wq_505 : (Cond.fieldLink "java/lang/StringUTF16" 59 "java/lang/StringUTF16" "HI_BYTE_SHIFT" "I" : Cond) ∈ px_words := pw_13_sub _ (List.mem_of_getElem? (i := 22) rfl)
theorem wq_507 : (Cond.fieldLink "java/lang/StringUTF16" 63 "java/lang/StringUTF16" "LO_BYTE_SHIFT" "I" : Cond) ∈ px_words := pw_13_sub _ (List.mem_of_getElem? (i := 23) rfl)
theorem wq_509 : (Cond.methodLink "java/lang/StringUTF16" 232 ⟨"java/lang/StringUTF16", "indexOfSupplementary", "([BIII)I"⟩ : Cond) ∈ px_words := pw_13_sub _ (List.mem_of_getElem? (i := 24) rfl)
theorem wq_510 : (Cond.static ⟨"java/lang/StringUTF16", "indexOfSupplementary", "([BIII)I"⟩ : Cond) ∈ px_words := pw_13_sub _ (List.mem_of_getElem? (i := 25) rfl)
theorem wq_511 : (Cond.code ⟨"java/lang/StringUTF16", "indexOfSupplementary", "([BIII)I"⟩ prog_15_method_49_code 7 (some .int) : Cond) ∈ px_words := pw_13_sub _ (List.mem_of_getElem? (i := 26) rfl)
theorem wq_512 : (Cond.methodLink "java/lang/StringUTF16" 164 ⟨"java/lang/Character", "isValidCodePoint", "(I)Z"⟩ : Cond) ∈ px_words := pw_13_sub _ (List.mem_of_getElem? (i := 27) rfl)
theorem wq_513 : (Cond.static ⟨"java/lang/Character", "isValidCodePoint", "(I)Z"⟩ : Cond) ∈ px_words := pw_13_sub _ (List.mem_of_getElem? (i := 28) rfl)
theorem wq_514 : (Cond.code ⟨"java/lang/Character", "isValidCodePoint", "(I)Z"⟩ prog_11_method_11_code 2 (some .boolean) : Cond) ∈ px_words := pw_13_sub _ (List.mem_of_getElem? (i := 29) rfl)
theorem wq_515 : (Cond.methodLink "java/lang/StringUTF16" 157 ⟨"java/lang/Character", "highSurrogate", "(I)C"⟩ : Cond) ∈ px_words := pw_13_sub _ (List.mem_of_getElem? (i := 30) rfl)
theorem wq_516 : (Cond.static ⟨"java/lang/Character", "highSurrogate", "(I)C"⟩ : Cond) ∈ px_words := pw_13_sub _ (List.mem_of_getElem? (i := 31) rfl)
theorem wq_517 : (Cond.code ⟨"java/lang/Character", "highSurrogate", "(I)C"⟩ prog_11_method_28_code 1 (some .char) : Cond) ∈ px_words := pw_14_sub _ (List.mem_of_getElem? (i := 0) rfl)
theorem wq_518 : (Cond.constant "java/lang/Character" 110 55232 : Cond) ∈ px_words := pw_14_sub _ (List.mem_of_getElem? (i := 1) rfl)
theorem wq_519 : (Cond.methodLink "java/lang/StringUTF16" 161 ⟨"java/lang/Character", "lowSurrogate", "(I)C"⟩ : Cond) ∈ px_words := pw_14_sub _ (List.mem_of_getElem? (i := 2) rfl)
theorem wq_520 : (Cond.static ⟨"java/lang/Character", "lowSurrogate", "(I)C"⟩ : Cond) ∈ px_words := pw_14_sub _ (List.mem_of_getElem? (i := 3) rfl)
theorem wq_521 : (Cond.code ⟨"java/lang/Character", "lowSurrogate", "(I)C"⟩ prog_11_method_29_code 1 (some .char) : Cond) ∈ px_words := pw_14_sub _ (List.mem_of_getElem? (i := 4) rfl)
theorem wq_522 : (Cond.constant "java/lang/Character" 76 56320 : Cond) ∈ px_words := pw_14_sub _ (List.mem_of_getElem? (i := 5) rfl)
theorem wq_523 : (Cond.methodLink "FromTheMiddle$Reader" 49 ⟨"FromTheMiddle$Reader", "goOn", "(I)Z"⟩ : Cond) ∈ px_words := pw_14_sub _ (List.mem_of_getElem? (i := 6) rfl)
theorem wq_525 : (Cond.instanceMethod ⟨"FromTheMiddle$Reader", "goOn", "(I)Z"⟩ : Cond) ∈ px_words := pw_14_sub _ (List.mem_of_getElem? (i := 7) rfl)
theorem wq_526 : (Cond.code ⟨"FromTheMiddle$Reader", "goOn", "(I)Z"⟩ prog_4_method_4_code 3 (some .boolean) : Cond) ∈ px_words := pw_14_sub _ (List.mem_of_getElem? (i := 8) rfl)
theorem wq_527 : (Cond.methodLink "FromTheMiddle$Reader" 67 ⟨"FromTheMiddle$Reader", "addDigit", "(I)Z"⟩ : Cond) ∈ px_words := pw_14_sub _ (List.mem_of_getElem? (i := 9) rfl)
theorem wq_529 : (Cond.instanceMethod ⟨"FromTheMiddle$Reader", "addDigit", "(I)Z"⟩ : Cond) ∈ px_words := pw_14_sub _ (List.mem_of_getElem? (i := 10) rfl)
theorem wq_530 : (Cond.code ⟨"FromTheMiddle$Reader", "addDigit", "(I)Z"⟩ prog_4_method_5_code 2 (some .boolean) : Cond) ∈ px_words := pw_14_sub _ (List.mem_of_getElem? (i := 11) rfl)
theorem wq_531 : (Cond.methodLink "FromTheMiddle$Reader" 77 ⟨"FromTheMiddle$Numbers", "pop", "()I"⟩ : Cond) ∈ px_words := pw_14_sub _ (List.mem_of_getElem? (i := 12) rfl)
theorem wq_532 : (Cond.instanceMethod ⟨"FromTheMiddle$Numbers", "pop", "()I"⟩ : Cond) ∈ px_words := pw_14_sub _ (List.mem_of_getElem? (i := 13) rfl)
theorem wq_533 : (Cond.selects "FromTheMiddle$Numbers" ⟨"FromTheMiddle$Numbers", "pop", "()I"⟩ ⟨"FromTheMiddle$Numbers", "pop", "()I"⟩ : Cond) ∈ px_words := pw_14_sub _ (List.mem_of_getElem? (i := 14) rfl)
theorem wq_534 : (Cond.code ⟨"FromTheMiddle$Numbers", "pop", "()I"⟩ prog_3_method_9_code 1 (some .int) : Cond) ∈ px_words := pw_14_sub _ (List.mem_of_getElem? (i := 15) rfl)
theorem wq_535 : (Cond.methodLink "FromTheMiddle$Reader" 70 ⟨"FromTheMiddle$Reader", "close", "()Z"⟩ : Cond) ∈ px_words := pw_14_sub _ (List.mem_of_getElem? (i := 16) rfl)
theorem wq_537 : (Cond.instanceMethod ⟨"FromTheMiddle$Reader", "close", "()Z"⟩ : Cond) ∈ px_words := pw_14_sub _ (List.mem_of_getElem? (i := 17) rfl)
theorem wq_538 : (Cond.code ⟨"FromTheMiddle$Reader", "close", "()Z"⟩ prog_4_method_6_code 1 (some .boolean) : Cond) ∈ px_words := pw_14_sub _ (List.mem_of_getElem? (i := 18) rfl)
theorem wq_539 : (Cond.methodLink "FromTheMiddle$Reader" 53 ⟨"FromTheMiddle$Reader", "settle", "(I)V"⟩ : Cond) ∈ px_words := pw_14_sub _ (List.mem_of_getElem? (i := 19) rfl)
theorem wq_541 : (Cond.instanceMethod ⟨"FromTheMiddle$Reader", "settle", "(I)V"⟩ : Cond) ∈ px_words := pw_14_sub _ (List.mem_of_getElem? (i := 20) rfl)
theorem wq_542 : (Cond.code ⟨"FromTheMiddle$Reader", "settle", "(I)V"⟩ prog_4_method_7_code 4 none : Cond) ∈ px_words := pw_14_sub _ (List.mem_of_getElem? (i := 21) rfl)
theorem wq_543 : (Cond.methodLink "FromTheMiddle$Reader" 74 ⟨"FromTheMiddle$Reader", "rankOf", "(I)I"⟩ : Cond) ∈ px_words := pw_14_sub _ (List.mem_of_getElem? (i := 22) rfl)
theorem wq_544 : (Cond.static ⟨"FromTheMiddle$Reader", "rankOf", "(I)I"⟩ : Cond) ∈ px_words := pw_14_sub _ (List.mem_of_getElem? (i := 23) rfl)
theorem wq_545 : (Cond.code ⟨"FromTheMiddle$Reader", "rankOf", "(I)I"⟩ prog_4_method_9_code 1 (some .int) : Cond) ∈ px_words := pw_14_sub _ (List.mem_of_getElem? (i := 24) rfl)
theorem wq_546 : (Cond.methodLink "FromTheMiddle" 140 ⟨"FromTheMiddle$Numbers", "clear", "()V"⟩ : Cond) ∈ px_words := pw_14_sub _ (List.mem_of_getElem? (i := 25) rfl)
theorem wq_547 : (Cond.methodLink "FromTheMiddle" 143 ⟨"FromTheMiddle$Kept", "textOf", "(I)LFromTheMiddle$Numbers;"⟩ : Cond) ∈ px_words := pw_14_sub _ (List.mem_of_getElem? (i := 26) rfl)
theorem wq_548 : (Cond.instanceMethod ⟨"FromTheMiddle$Kept", "textOf", "(I)LFromTheMiddle$Numbers;"⟩ : Cond) ∈ px_words := pw_14_sub _ (List.mem_of_getElem? (i := 27) rfl)
theorem wq_549 : (Cond.selects "FromTheMiddle$Kept" ⟨"FromTheMiddle$Kept", "textOf", "(I)LFromTheMiddle$Numbers;"⟩ ⟨"FromTheMiddle$Kept", "textOf", "(I)LFromTheMiddle$Numbers;"⟩ : Cond) ∈ px_words := pw_14_sub _ (List.mem_of_getElem? (i := 28) rfl)
theorem wq_550 : (Cond.code ⟨"FromTheMiddle$Kept", "textOf", "(I)LFromTheMiddle$Numbers;"⟩ prog_2_method_2_code 2 (some (.object "FromTheMiddle$Numbers")) : Cond) ∈ px_words := pw_14_sub _ (List.mem_of_getElem? (i := 29) rfl)
theorem wq_551 : (Cond.methodLink "FromTheMiddle" 150 ⟨"FromTheMiddle$Numbers", "copy", "(LFromTheMiddle$Numbers;)V"⟩ : Cond) ∈ px_words := pw_14_sub _ (List.mem_of_getElem? (i := 30) rfl)
theorem wq_552 : (Cond.instanceMethod ⟨"FromTheMiddle$Numbers", "copy", "(LFromTheMiddle$Numbers;)V"⟩ : Cond) ∈ px_words := pw_14_sub _ (List.mem_of_getElem? (i := 31) rfl)
theorem wq_553 : (Cond.selects "FromTheMiddle$Numbers" ⟨"FromTheMiddle$Numbers", "copy", "(LFromTheMiddle$Numbers;)V"⟩ ⟨"FromTheMiddle$Numbers", "copy", "(LFromTheMiddle$Numbers;)V"⟩ : Cond) ∈ px_words := pw_15_sub _ (List.mem_of_getElem? (i := 0) rfl)
theorem wq_554 : (Cond.code ⟨"FromTheMiddle$Numbers", "copy", "(LFromTheMiddle$Numbers;)V"⟩ prog_3_method_13_code 2 none : Cond) ∈ px_words := pw_15_sub _ (List.mem_of_getElem? (i := 1) rfl)
theorem wq_555 : (Cond.methodLink "FromTheMiddle$Numbers" 36 ⟨"FromTheMiddle$Numbers", "fillWithZeros", "(I)V"⟩ : Cond) ∈ px_words := pw_15_sub _ (List.mem_of_getElem? (i := 2) rfl)
theorem wq_556 : (Cond.methodLink "FromTheMiddle$Numbers" 40 ⟨"FromTheMiddle$Numbers", "take", "(LFromTheMiddle$Numbers;III)V"⟩ : Cond) ∈ px_words := pw_15_sub _ (List.mem_of_getElem? (i := 3) rfl)
theorem wq_557 : (Cond.instanceMethod ⟨"FromTheMiddle$Numbers", "take", "(LFromTheMiddle$Numbers;III)V"⟩ : Cond) ∈ px_words := pw_15_sub _ (List.mem_of_getElem? (i := 4) rfl)
theorem wq_558 : (Cond.selects "FromTheMiddle$Numbers" ⟨"FromTheMiddle$Numbers", "take", "(LFromTheMiddle$Numbers;III)V"⟩ ⟨"FromTheMiddle$Numbers", "take", "(LFromTheMiddle$Numbers;III)V"⟩ : Cond) ∈ px_words := pw_15_sub _ (List.mem_of_getElem? (i := 5) rfl)
theorem wq_559 : (Cond.code ⟨"FromTheMiddle$Numbers", "take", "(LFromTheMiddle$Numbers;III)V"⟩ prog_3_method_12_code 5 none : Cond) ∈ px_words := pw_15_sub _ (List.mem_of_getElem? (i := 6) rfl)
theorem wq_560 : (Cond.methodLink "FromTheMiddle$Numbers" 26 ⟨"FromTheMiddle$Numbers", "stretches", "(II)Z"⟩ : Cond) ∈ px_words := pw_15_sub _ (List.mem_of_getElem? (i := 7) rfl)
theorem wq_561 : (Cond.instanceMethod ⟨"FromTheMiddle$Numbers", "stretches", "(II)Z"⟩ : Cond) ∈ px_words := pw_15_sub _ (List.mem_of_getElem? (i := 8) rfl)
theorem wq_562 : (Cond.selects "FromTheMiddle$Numbers" ⟨"FromTheMiddle$Numbers", "stretches", "(II)Z"⟩ ⟨"FromTheMiddle$Numbers", "stretches", "(II)Z"⟩ : Cond) ∈ px_words := pw_15_sub _ (List.mem_of_getElem? (i := 9) rfl)
theorem wq_563 : (Cond.code ⟨"FromTheMiddle$Numbers", "stretches", "(II)Z"⟩ prog_3_method_5_code 3 (some .boolean) : Cond) ∈ px_words := pw_15_sub _ (List.mem_of_getElem? (i := 10) rfl)
theorem wq_564 : (Cond.methodLink "FromTheMiddle$Numbers" 30 ⟨"java/lang/System", "arraycopy", "(Ljava/lang/Object;ILjava/lang/Object;II)V"⟩ : Cond) ∈ px_words := pw_15_sub _ (List.mem_of_getElem? (i := 11) rfl)
theorem wq_565 : (Cond.static ⟨"java/lang/System", "arraycopy", "(Ljava/lang/Object;ILjava/lang/Object;II)V"⟩ : Cond) ∈ px_words := pw_15_sub _ (List.mem_of_getElem? (i := 12) rfl)
theorem wq_566 : (Cond.native ⟨"java/lang/System", "arraycopy", "(Ljava/lang/Object;ILjava/lang/Object;II)V"⟩ : Cond) ∈ px_words := pw_15_sub _ (List.mem_of_getElem? (i := 13) rfl)
theorem wq_567 : (Cond.arrayClass .byte : Cond) ∈ px_words := pw_15_sub _ (List.mem_of_getElem? (i := 14) rfl)
theorem wq_568 : (Cond.methodLink "FromTheMiddleLaw" 59 ⟨"FromTheMiddle", "untell", "(I)I"⟩ : Cond) ∈ px_words := pw_15_sub _ (List.mem_of_getElem? (i := 15) rfl)
theorem wq_569 : (Cond.instanceMethod ⟨"FromTheMiddle", "untell", "(I)I"⟩ : Cond) ∈ px_words := pw_15_sub _ (List.mem_of_getElem? (i := 16) rfl)
theorem wq_570 : (Cond.selects "FromTheMiddle" ⟨"FromTheMiddle", "untell", "(I)I"⟩ ⟨"FromTheMiddle", "untell", "(I)I"⟩ : Cond) ∈ px_words := pw_15_sub _ (List.mem_of_getElem? (i := 17) rfl)
theorem wq_571 : (Cond.code ⟨"FromTheMiddle", "untell", "(I)I"⟩ prog_1_method_12_code 3 (some .int) : Cond) ∈ px_words := pw_15_sub _ (List.mem_of_getElem? (i := 18) rfl)
theorem wq_572 : (Cond.methodLink "FromTheMiddleLaw" 63 ⟨"FromTheMiddle", "law", "(IIII)I"⟩ : Cond) ∈ px_words := pw_15_sub _ (List.mem_of_getElem? (i := 19) rfl)
theorem wq_573 : (Cond.instanceMethod ⟨"FromTheMiddle", "law", "(IIII)I"⟩ : Cond) ∈ px_words := pw_15_sub _ (List.mem_of_getElem? (i := 20) rfl)
theorem wq_574 : (Cond.selects "FromTheMiddle" ⟨"FromTheMiddle", "law", "(IIII)I"⟩ ⟨"FromTheMiddle", "law", "(IIII)I"⟩ : Cond) ∈ px_words := pw_15_sub _ (List.mem_of_getElem? (i := 21) rfl)
theorem wq_575 : (Cond.code ⟨"FromTheMiddle", "law", "(IIII)I"⟩ prog_1_method_13_code 5 (some .int) : Cond) ∈ px_words := pw_15_sub _ (List.mem_of_getElem? (i := 22) rfl)
theorem wq_576 : (Cond.methodLink "FromTheMiddle" 154 ⟨"FromTheMiddle", "ruled", "(IIII)I"⟩ : Cond) ∈ px_words := pw_15_sub _ (List.mem_of_getElem? (i := 23) rfl)
theorem wq_578 : (Cond.instanceMethod ⟨"FromTheMiddle", "ruled", "(IIII)I"⟩ : Cond) ∈ px_words := pw_15_sub _ (List.mem_of_getElem? (i := 24) rfl)
theorem wq_579 : (Cond.code ⟨"FromTheMiddle", "ruled", "(IIII)I"⟩ prog_1_method_66_code 8 (some .int) : Cond) ∈ px_words := pw_15_sub _ (List.mem_of_getElem? (i := 25) rfl)
theorem wq_580 : (Cond.methodLink "FromTheMiddle" 304 ⟨"FromTheMiddle$Reckoner", "value", "(LFromTheMiddle$Numbers;III)I"⟩ : Cond) ∈ px_words := pw_15_sub _ (List.mem_of_getElem? (i := 26) rfl)
theorem wq_581 : (Cond.instanceMethod ⟨"FromTheMiddle$Reckoner", "value", "(LFromTheMiddle$Numbers;III)I"⟩ : Cond) ∈ px_words := pw_15_sub _ (List.mem_of_getElem? (i := 27) rfl)
theorem wq_582 : (Cond.selects "FromTheMiddle$Reckoner" ⟨"FromTheMiddle$Reckoner", "value", "(LFromTheMiddle$Numbers;III)I"⟩ ⟨"FromTheMiddle$Reckoner", "value", "(LFromTheMiddle$Numbers;III)I"⟩ : Cond) ∈ px_words := pw_15_sub _ (List.mem_of_getElem? (i := 28) rfl)
theorem wq_583 : (Cond.code ⟨"FromTheMiddle$Reckoner", "value", "(LFromTheMiddle$Numbers;III)I"⟩ prog_5_method_2_code 7 (some .int) : Cond) ∈ px_words := pw_15_sub _ (List.mem_of_getElem? (i := 29) rfl)
theorem wq_584 : (Cond.methodLink "FromTheMiddle$Reckoner" 20 ⟨"FromTheMiddle$Numbers", "clear", "()V"⟩ : Cond) ∈ px_words := pw_15_sub _ (List.mem_of_getElem? (i := 30) rfl)
theorem wq_585 : (Cond.methodLink "FromTheMiddle$Reckoner" 23 ⟨"FromTheMiddle$Numbers", "size", "()I"⟩ : Cond) ∈ px_words := pw_15_sub _ (List.mem_of_getElem? (i := 31) rfl)
theorem wq_586 : (Cond.methodLink "FromTheMiddle$Reckoner" 27 ⟨"FromTheMiddle$Numbers", "get", "(I)I"⟩ : Cond) ∈ px_words := pw_16_sub _ (List.mem_of_getElem? (i := 0) rfl)
theorem wq_587 : (Cond.methodLink "FromTheMiddle$Reckoner" 31 ⟨"FromTheMiddle$Numbers", "add", "(I)V"⟩ : Cond) ∈ px_words := pw_16_sub _ (List.mem_of_getElem? (i := 1) rfl)
theorem wq_588 : (Cond.methodLink "FromTheMiddle$Reckoner" 34 ⟨"FromTheMiddle$Numbers", "pop", "()I"⟩ : Cond) ∈ px_words := pw_16_sub _ (List.mem_of_getElem? (i := 2) rfl)
theorem wq_589 : (Cond.methodLink "FromTheMiddle$Reckoner" 37 ⟨"FromTheMiddle$Reckoner", "truth", "(Z)I"⟩ : Cond) ∈ px_words := pw_16_sub _ (List.mem_of_getElem? (i := 3) rfl)
theorem wq_590 : (Cond.static ⟨"FromTheMiddle$Reckoner", "truth", "(Z)I"⟩ : Cond) ∈ px_words := pw_16_sub _ (List.mem_of_getElem? (i := 4) rfl)
theorem wq_591 : (Cond.code ⟨"FromTheMiddle$Reckoner", "truth", "(Z)I"⟩ prog_5_method_4_code 1 (some .int) : Cond) ∈ px_words := pw_16_sub _ (List.mem_of_getElem? (i := 5) rfl)
theorem wq_592 : (Cond.methodLink "FromTheMiddle$Reckoner" 41 ⟨"FromTheMiddle$Reckoner", "joined", "(I)I"⟩ : Cond) ∈ px_words := pw_16_sub _ (List.mem_of_getElem? (i := 6) rfl)
theorem wq_594 : (Cond.instanceMethod ⟨"FromTheMiddle$Reckoner", "joined", "(I)I"⟩ : Cond) ∈ px_words := pw_16_sub _ (List.mem_of_getElem? (i := 7) rfl)
theorem wq_595 : (Cond.code ⟨"FromTheMiddle$Reckoner", "joined", "(I)I"⟩ prog_5_method_3_code 4 (some .int) : Cond) ∈ px_words := pw_16_sub _ (List.mem_of_getElem? (i := 8) rfl)
theorem wq_597 : (Cond.static ⟨"FromTheMiddle", "quotient", "(II)I"⟩ : Cond) ∈ px_words := pw_16_sub _ (List.mem_of_getElem? (i := 9) rfl)
theorem wq_598 : (Cond.code ⟨"FromTheMiddle", "quotient", "(II)I"⟩ prog_1_method_49_code 2 (some .int) : Cond) ∈ px_words := pw_16_sub _ (List.mem_of_getElem? (i := 10) rfl)
theorem wq_600 : (Cond.static ⟨"FromTheMiddle", "rest", "(II)I"⟩ : Cond) ∈ px_words := pw_16_sub _ (List.mem_of_getElem? (i := 11) rfl)
theorem wq_601 : (Cond.code ⟨"FromTheMiddle", "rest", "(II)I"⟩ prog_1_method_50_code 2 (some .int) : Cond) ∈ px_words := pw_16_sub _ (List.mem_of_getElem? (i := 12) rfl)
theorem wq_602 : (Cond.methodLink "FromTheMiddle" 308 ⟨"FromTheMiddle", "within", "(III)I"⟩ : Cond) ∈ px_words := pw_16_sub _ (List.mem_of_getElem? (i := 13) rfl)
theorem wq_603 : (Cond.static ⟨"FromTheMiddle", "within", "(III)I"⟩ : Cond) ∈ px_words := pw_16_sub _ (List.mem_of_getElem? (i := 14) rfl)
theorem wq_604 : (Cond.code ⟨"FromTheMiddle", "within", "(III)I"⟩ prog_1_method_51_code 3 (some .int) : Cond) ∈ px_words := pw_16_sub _ (List.mem_of_getElem? (i := 15) rfl)
theorem wq_605 : (Cond.methodLink "FromTheMiddle" 270 ⟨"java/lang/Math", "min", "(II)I"⟩ : Cond) ∈ px_words := pw_16_sub _ (List.mem_of_getElem? (i := 16) rfl)
theorem wq_606 : (Cond.methodLink "FromTheMiddle" 288 ⟨"java/lang/Math", "max", "(II)I"⟩ : Cond) ∈ px_words := pw_16_sub _ (List.mem_of_getElem? (i := 17) rfl)
theorem wq_607 : (Cond.methodLink "FromTheMiddleLaw" 68 ⟨"FromTheMiddle", "piece", "(II)I"⟩ : Cond) ∈ px_words := pw_16_sub _ (List.mem_of_getElem? (i := 18) rfl)
theorem wq_608 : (Cond.instanceMethod ⟨"FromTheMiddle", "piece", "(II)I"⟩ : Cond) ∈ px_words := pw_16_sub _ (List.mem_of_getElem? (i := 19) rfl)
theorem wq_609 : (Cond.selects "FromTheMiddle" ⟨"FromTheMiddle", "piece", "(II)I"⟩ ⟨"FromTheMiddle", "piece", "(II)I"⟩ : Cond) ∈ px_words := pw_16_sub _ (List.mem_of_getElem? (i := 20) rfl)
theorem wq_610 : (Cond.code ⟨"FromTheMiddle", "piece", "(II)I"⟩ prog_1_method_14_code 3 (some .int) : Cond) ∈ px_words := pw_16_sub _ (List.mem_of_getElem? (i := 21) rfl)
theorem wq_611 : (Cond.methodLink "FromTheMiddle" 158 ⟨"FromTheMiddle", "isRow", "(I)Z"⟩ : Cond) ∈ px_words := pw_16_sub _ (List.mem_of_getElem? (i := 22) rfl)
theorem wq_613 : (Cond.instanceMethod ⟨"FromTheMiddle", "isRow", "(I)Z"⟩ : Cond) ∈ px_words := pw_16_sub _ (List.mem_of_getElem? (i := 23) rfl)
theorem wq_614 : (Cond.code ⟨"FromTheMiddle", "isRow", "(I)Z"⟩ prog_1_method_42_code 2 (some .boolean) : Cond) ∈ px_words := pw_16_sub _ (List.mem_of_getElem? (i := 24) rfl)
theorem wq_615 : (Cond.methodLink "FromTheMiddle" 161 ⟨"FromTheMiddle", "lay", "(II)V"⟩ : Cond) ∈ px_words := pw_16_sub _ (List.mem_of_getElem? (i := 25) rfl)
theorem wq_617 : (Cond.instanceMethod ⟨"FromTheMiddle", "lay", "(II)V"⟩ : Cond) ∈ px_words := pw_16_sub _ (List.mem_of_getElem? (i := 26) rfl)
theorem wq_618 : (Cond.code ⟨"FromTheMiddle", "lay", "(II)V"⟩ prog_1_method_55_code 3 none : Cond) ∈ px_words := pw_16_sub _ (List.mem_of_getElem? (i := 27) rfl)
theorem wq_619 : (Cond.methodLink "FromTheMiddle" 180 ⟨"FromTheMiddle", "firstPiece", "(II)I"⟩ : Cond) ∈ px_words := pw_16_sub _ (List.mem_of_getElem? (i := 28) rfl)
theorem wq_621 : (Cond.instanceMethod ⟨"FromTheMiddle", "firstPiece", "(II)I"⟩ : Cond) ∈ px_words := pw_16_sub _ (List.mem_of_getElem? (i := 29) rfl)
theorem wq_622 : (Cond.code ⟨"FromTheMiddle", "firstPiece", "(II)I"⟩ prog_1_method_54_code 4 (some .int) : Cond) ∈ px_words := pw_16_sub _ (List.mem_of_getElem? (i := 30) rfl)
theorem wq_623 : (Cond.methodLink "FromTheMiddle" 171 ⟨"FromTheMiddle", "rowLength", "(I)I"⟩ : Cond) ∈ px_words := pw_16_sub _ (List.mem_of_getElem? (i := 31) rfl)
theorem wq_625 : (Cond.instanceMethod ⟨"FromTheMiddle", "rowLength", "(I)I"⟩ : Cond) ∈ px_words := pw_17_sub _ (List.mem_of_getElem? (i := 0) rfl)
theorem wq_626 : (Cond.code ⟨"FromTheMiddle", "rowLength", "(I)I"⟩ prog_1_method_53_code 2 (some .int) : Cond) ∈ px_words := pw_17_sub _ (List.mem_of_getElem? (i := 1) rfl)
theorem wq_627 : (Cond.methodLink "FromTheMiddle" 291 ⟨"FromTheMiddle$Row", "lay", "(IIII)V"⟩ : Cond) ∈ px_words := pw_17_sub _ (List.mem_of_getElem? (i := 2) rfl)
theorem wq_628 : (Cond.instanceMethod ⟨"FromTheMiddle$Row", "lay", "(IIII)V"⟩ : Cond) ∈ px_words := pw_17_sub _ (List.mem_of_getElem? (i := 3) rfl)
theorem wq_629 : (Cond.selects "FromTheMiddle$Row" ⟨"FromTheMiddle$Row", "lay", "(IIII)V"⟩ ⟨"FromTheMiddle$Row", "lay", "(IIII)V"⟩ : Cond) ∈ px_words := pw_17_sub _ (List.mem_of_getElem? (i := 4) rfl)
theorem wq_630 : (Cond.code ⟨"FromTheMiddle$Row", "lay", "(IIII)V"⟩ prog_6_method_2_code 5 none : Cond) ∈ px_words := pw_17_sub _ (List.mem_of_getElem? (i := 5) rfl)
theorem wq_631 : (Cond.methodLink "FromTheMiddle$Row" 24 ⟨"FromTheMiddle$Row", "behindFirstAheadOf", "(I)I"⟩ : Cond) ∈ px_words := pw_17_sub _ (List.mem_of_getElem? (i := 6) rfl)
theorem wq_633 : (Cond.instanceMethod ⟨"FromTheMiddle$Row", "behindFirstAheadOf", "(I)I"⟩ : Cond) ∈ px_words := pw_17_sub _ (List.mem_of_getElem? (i := 7) rfl)
theorem wq_634 : (Cond.code ⟨"FromTheMiddle$Row", "behindFirstAheadOf", "(I)I"⟩ prog_6_method_14_code 3 (some .int) : Cond) ∈ px_words := pw_17_sub _ (List.mem_of_getElem? (i := 8) rfl)
theorem wq_636 : (Cond.methodLink "FromTheMiddle" 168 ⟨"FromTheMiddle$Row", "width", "(I)I"⟩ : Cond) ∈ px_words := pw_17_sub _ (List.mem_of_getElem? (i := 9) rfl)
theorem wq_637 : (Cond.instanceMethod ⟨"FromTheMiddle$Row", "width", "(I)I"⟩ : Cond) ∈ px_words := pw_17_sub _ (List.mem_of_getElem? (i := 10) rfl)
theorem wq_638 : (Cond.selects "FromTheMiddle$Row" ⟨"FromTheMiddle$Row", "width", "(I)I"⟩ ⟨"FromTheMiddle$Row", "width", "(I)I"⟩ : Cond) ∈ px_words := pw_17_sub _ (List.mem_of_getElem? (i := 11) rfl)
theorem wq_639 : (Cond.code ⟨"FromTheMiddle$Row", "width", "(I)I"⟩ prog_6_method_5_code 2 (some .int) : Cond) ∈ px_words := pw_17_sub _ (List.mem_of_getElem? (i := 12) rfl)
theorem wq_640 : (Cond.methodLink "FromTheMiddle$Row" 37 ⟨"FromTheMiddle$Row", "ending", "(I)I"⟩ : Cond) ∈ px_words := pw_17_sub _ (List.mem_of_getElem? (i := 13) rfl)
theorem wq_641 : (Cond.instanceMethod ⟨"FromTheMiddle$Row", "ending", "(I)I"⟩ : Cond) ∈ px_words := pw_17_sub _ (List.mem_of_getElem? (i := 14) rfl)
theorem wq_642 : (Cond.selects "FromTheMiddle$Row" ⟨"FromTheMiddle$Row", "ending", "(I)I"⟩ ⟨"FromTheMiddle$Row", "ending", "(I)I"⟩ : Cond) ∈ px_words := pw_17_sub _ (List.mem_of_getElem? (i := 15) rfl)
theorem wq_643 : (Cond.code ⟨"FromTheMiddle$Row", "ending", "(I)I"⟩ prog_6_method_4_code 2 (some .int) : Cond) ∈ px_words := pw_17_sub _ (List.mem_of_getElem? (i := 16) rfl)
theorem wq_644 : (Cond.methodLink "FromTheMiddle$Row" 31 ⟨"java/lang/Math", "min", "(II)I"⟩ : Cond) ∈ px_words := pw_17_sub _ (List.mem_of_getElem? (i := 17) rfl)
theorem wq_645 : (Cond.methodLink "FromTheMiddle$Row" 40 ⟨"FromTheMiddle$Row", "beginning", "(I)I"⟩ : Cond) ∈ px_words := pw_17_sub _ (List.mem_of_getElem? (i := 18) rfl)
theorem wq_646 : (Cond.instanceMethod ⟨"FromTheMiddle$Row", "beginning", "(I)I"⟩ : Cond) ∈ px_words := pw_17_sub _ (List.mem_of_getElem? (i := 19) rfl)
theorem wq_647 : (Cond.selects "FromTheMiddle$Row" ⟨"FromTheMiddle$Row", "beginning", "(I)I"⟩ ⟨"FromTheMiddle$Row", "beginning", "(I)I"⟩ : Cond) ∈ px_words := pw_17_sub _ (List.mem_of_getElem? (i := 20) rfl)
theorem wq_648 : (Cond.code ⟨"FromTheMiddle$Row", "beginning", "(I)I"⟩ prog_6_method_3_code 2 (some .int) : Cond) ∈ px_words := pw_17_sub _ (List.mem_of_getElem? (i := 21) rfl)
theorem wq_649 : (Cond.methodLink "FromTheMiddleLaw" 72 ⟨"FromTheMiddle", "rowIs", "(II)I"⟩ : Cond) ∈ px_words := pw_17_sub _ (List.mem_of_getElem? (i := 22) rfl)
theorem wq_650 : (Cond.instanceMethod ⟨"FromTheMiddle", "rowIs", "(II)I"⟩ : Cond) ∈ px_words := pw_17_sub _ (List.mem_of_getElem? (i := 23) rfl)
theorem wq_651 : (Cond.selects "FromTheMiddle" ⟨"FromTheMiddle", "rowIs", "(II)I"⟩ ⟨"FromTheMiddle", "rowIs", "(II)I"⟩ : Cond) ∈ px_words := pw_17_sub _ (List.mem_of_getElem? (i := 24) rfl)
theorem wq_652 : (Cond.code ⟨"FromTheMiddle", "rowIs", "(II)I"⟩ prog_1_method_15_code 3 (some .int) : Cond) ∈ px_words := pw_17_sub _ (List.mem_of_getElem? (i := 25) rfl)
theorem wq_653 : (Cond.methodLink "FromTheMiddle" 174 ⟨"FromTheMiddle$Row", "cuts", "()I"⟩ : Cond) ∈ px_words := pw_17_sub _ (List.mem_of_getElem? (i := 26) rfl)
theorem wq_654 : (Cond.instanceMethod ⟨"FromTheMiddle$Row", "cuts", "()I"⟩ : Cond) ∈ px_words := pw_17_sub _ (List.mem_of_getElem? (i := 27) rfl)
theorem wq_655 : (Cond.selects "FromTheMiddle$Row" ⟨"FromTheMiddle$Row", "cuts", "()I"⟩ ⟨"FromTheMiddle$Row", "cuts", "()I"⟩ : Cond) ∈ px_words := pw_17_sub _ (List.mem_of_getElem? (i := 28) rfl)
theorem wq_656 : (Cond.code ⟨"FromTheMiddle$Row", "cuts", "()I"⟩ prog_6_method_7_code 1 (some .int) : Cond) ∈ px_words := pw_17_sub _ (List.mem_of_getElem? (i := 29) rfl)
theorem wq_657 : (Cond.methodLink "FromTheMiddle$Row" 43 ⟨"FromTheMiddle$Row", "width", "(I)I"⟩ : Cond) ∈ px_words := pw_17_sub _ (List.mem_of_getElem? (i := 30) rfl)
theorem wq_658 : (Cond.methodLink "FromTheMiddle$Row" 46 ⟨"FromTheMiddle$Row", "isCut", "(I)Z"⟩ : Cond) ∈ px_words := pw_17_sub _ (List.mem_of_getElem? (i := 31) rfl)
theorem wq_660 : (Cond.instanceMethod ⟨"FromTheMiddle$Row", "isCut", "(I)Z"⟩ : Cond) ∈ px_words := pw_18_sub _ (List.mem_of_getElem? (i := 0) rfl)
theorem wq_661 : (Cond.code ⟨"FromTheMiddle$Row", "isCut", "(I)Z"⟩ prog_6_method_11_code 2 (some .boolean) : Cond) ∈ px_words := pw_18_sub _ (List.mem_of_getElem? (i := 1) rfl)
theorem wq_662 : (Cond.methodLink "FromTheMiddle$Row" 50 ⟨"FromTheMiddle$Row", "ofEdges", "(ZZ)I"⟩ : Cond) ∈ px_words := pw_18_sub _ (List.mem_of_getElem? (i := 2) rfl)
theorem wq_664 : (Cond.instanceMethod ⟨"FromTheMiddle$Row", "ofEdges", "(ZZ)I"⟩ : Cond) ∈ px_words := pw_18_sub _ (List.mem_of_getElem? (i := 3) rfl)
theorem wq_665 : (Cond.code ⟨"FromTheMiddle$Row", "ofEdges", "(ZZ)I"⟩ prog_6_method_10_code 3 (some .int) : Cond) ∈ px_words := pw_18_sub _ (List.mem_of_getElem? (i := 4) rfl)
theorem wq_666 : (Cond.methodLink "FromTheMiddle" 177 ⟨"FromTheMiddle$Row", "narrowest", "()I"⟩ : Cond) ∈ px_words := pw_18_sub _ (List.mem_of_getElem? (i := 5) rfl)
theorem wq_667 : (Cond.instanceMethod ⟨"FromTheMiddle$Row", "narrowest", "()I"⟩ : Cond) ∈ px_words := pw_18_sub _ (List.mem_of_getElem? (i := 6) rfl)
theorem wq_668 : (Cond.selects "FromTheMiddle$Row" ⟨"FromTheMiddle$Row", "narrowest", "()I"⟩ ⟨"FromTheMiddle$Row", "narrowest", "()I"⟩ : Cond) ∈ px_words := pw_18_sub _ (List.mem_of_getElem? (i := 7) rfl)
theorem wq_669 : (Cond.code ⟨"FromTheMiddle$Row", "narrowest", "()I"⟩ prog_6_method_6_code 1 (some .int) : Cond) ∈ px_words := pw_18_sub _ (List.mem_of_getElem? (i := 8) rfl)
theorem wq_670 : (Cond.methodLink "FromTheMiddleLaw" 76 ⟨"FromTheMiddle", "seen", "(III)I"⟩ : Cond) ∈ px_words := pw_18_sub _ (List.mem_of_getElem? (i := 9) rfl)
theorem wq_671 : (Cond.instanceMethod ⟨"FromTheMiddle", "seen", "(III)I"⟩ : Cond) ∈ px_words := pw_18_sub _ (List.mem_of_getElem? (i := 10) rfl)
theorem wq_672 : (Cond.selects "FromTheMiddle" ⟨"FromTheMiddle", "seen", "(III)I"⟩ ⟨"FromTheMiddle", "seen", "(III)I"⟩ : Cond) ∈ px_words := pw_18_sub _ (List.mem_of_getElem? (i := 11) rfl)
theorem wq_673 : (Cond.code ⟨"FromTheMiddle", "seen", "(III)I"⟩ prog_1_method_16_code 5 (some .int) : Cond) ∈ px_words := pw_18_sub _ (List.mem_of_getElem? (i := 12) rfl)
theorem wq_674 : (Cond.methodLink "FromTheMiddle" 184 ⟨"FromTheMiddle", "harmOf", "(I)I"⟩ : Cond) ∈ px_words := pw_18_sub _ (List.mem_of_getElem? (i := 13) rfl)
theorem wq_676 : (Cond.instanceMethod ⟨"FromTheMiddle", "harmOf", "(I)I"⟩ : Cond) ∈ px_words := pw_18_sub _ (List.mem_of_getElem? (i := 14) rfl)
theorem wq_677 : (Cond.code ⟨"FromTheMiddle", "harmOf", "(I)I"⟩ prog_1_method_64_code 4 (some .int) : Cond) ∈ px_words := pw_18_sub _ (List.mem_of_getElem? (i := 15) rfl)
theorem wq_678 : (Cond.methodLink "FromTheMiddle" 297 ⟨"FromTheMiddle$Row", "look", "(II)V"⟩ : Cond) ∈ px_words := pw_18_sub _ (List.mem_of_getElem? (i := 16) rfl)
theorem wq_679 : (Cond.instanceMethod ⟨"FromTheMiddle$Row", "look", "(II)V"⟩ : Cond) ∈ px_words := pw_18_sub _ (List.mem_of_getElem? (i := 17) rfl)
theorem wq_680 : (Cond.selects "FromTheMiddle$Row" ⟨"FromTheMiddle$Row", "look", "(II)V"⟩ ⟨"FromTheMiddle$Row", "look", "(II)V"⟩ : Cond) ∈ px_words := pw_18_sub _ (List.mem_of_getElem? (i := 18) rfl)
theorem wq_681 : (Cond.code ⟨"FromTheMiddle$Row", "look", "(II)V"⟩ prog_6_method_9_code 5 none : Cond) ∈ px_words := pw_18_sub _ (List.mem_of_getElem? (i := 19) rfl)
theorem wq_682 : (Cond.methodLink "FromTheMiddle$Row" 60 ⟨"FromTheMiddle$Row", "endingNotBehind", "(I)I"⟩ : Cond) ∈ px_words := pw_18_sub _ (List.mem_of_getElem? (i := 20) rfl)
theorem wq_684 : (Cond.instanceMethod ⟨"FromTheMiddle$Row", "endingNotBehind", "(I)I"⟩ : Cond) ∈ px_words := pw_18_sub _ (List.mem_of_getElem? (i := 21) rfl)
theorem wq_685 : (Cond.code ⟨"FromTheMiddle$Row", "endingNotBehind", "(I)I"⟩ prog_6_method_15_code 2 (some .int) : Cond) ∈ px_words := pw_18_sub _ (List.mem_of_getElem? (i := 22) rfl)
theorem wq_686 : (Cond.methodLink "FromTheMiddle$Row" 66 ⟨"FromTheMiddle$Row", "isHidden", "(III)Z"⟩ : Cond) ∈ px_words := pw_18_sub _ (List.mem_of_getElem? (i := 23) rfl)
theorem wq_688 : (Cond.instanceMethod ⟨"FromTheMiddle$Row", "isHidden", "(III)Z"⟩ : Cond) ∈ px_words := pw_18_sub _ (List.mem_of_getElem? (i := 24) rfl)
theorem wq_689 : (Cond.code ⟨"FromTheMiddle$Row", "isHidden", "(III)Z"⟩ prog_6_method_13_code 4 (some .boolean) : Cond) ∈ px_words := pw_18_sub _ (List.mem_of_getElem? (i := 25) rfl)
theorem wq_690 : (Cond.methodLink "FromTheMiddle$Row" 73 ⟨"FromTheMiddle$Row", "gapOfBeginnings", "(II)I"⟩ : Cond) ∈ px_words := pw_18_sub _ (List.mem_of_getElem? (i := 26) rfl)
theorem wq_692 : (Cond.instanceMethod ⟨"FromTheMiddle$Row", "gapOfBeginnings", "(II)I"⟩ : Cond) ∈ px_words := pw_18_sub _ (List.mem_of_getElem? (i := 27) rfl)
theorem wq_693 : (Cond.code ⟨"FromTheMiddle$Row", "gapOfBeginnings", "(II)I"⟩ prog_6_method_16_code 4 (some .int) : Cond) ∈ px_words := pw_18_sub _ (List.mem_of_getElem? (i := 28) rfl)
theorem wq_694 : (Cond.methodLink "FromTheMiddle$Row" 76 ⟨"FromTheMiddle$Row", "gapOfEndings", "(II)I"⟩ : Cond) ∈ px_words := pw_18_sub _ (List.mem_of_getElem? (i := 29) rfl)
theorem wq_696 : (Cond.instanceMethod ⟨"FromTheMiddle$Row", "gapOfEndings", "(II)I"⟩ : Cond) ∈ px_words := pw_18_sub _ (List.mem_of_getElem? (i := 30) rfl)
theorem wq_697 : (Cond.code ⟨"FromTheMiddle$Row", "gapOfEndings", "(II)I"⟩ prog_6_method_17_code 4 (some .int) : Cond) ∈ px_words := pw_18_sub _ (List.mem_of_getElem? (i := 31) rfl)
theorem wq_698 : (Cond.constant "FromTheMiddle$Row" 85 1000000 : Cond) ∈ px_words := pw_19_sub _ (List.mem_of_getElem? (i := 0) rfl)
theorem wq_699 : (Cond.methodLink "FromTheMiddle" 300 ⟨"FromTheMiddle", "harms", "(IILFromTheMiddle$Row;)I"⟩ : Cond) ∈ px_words := pw_19_sub _ (List.mem_of_getElem? (i := 1) rfl)
theorem wq_700 : (Cond.static ⟨"FromTheMiddle", "harms", "(IILFromTheMiddle$Row;)I"⟩ : Cond) ∈ px_words := pw_19_sub _ (List.mem_of_getElem? (i := 2) rfl)
theorem wq_701 : (Cond.code ⟨"FromTheMiddle", "harms", "(IILFromTheMiddle$Row;)I"⟩ prog_1_method_65_code 6 (some .int) : Cond) ∈ px_words := pw_19_sub _ (List.mem_of_getElem? (i := 3) rfl)
theorem wq_702 : (Cond.methodLink "FromTheMiddleLaw" 80 ⟨"FromTheMiddle", "buy", "(I)I"⟩ : Cond) ∈ px_words := pw_19_sub _ (List.mem_of_getElem? (i := 4) rfl)
theorem wq_703 : (Cond.instanceMethod ⟨"FromTheMiddle", "buy", "(I)I"⟩ : Cond) ∈ px_words := pw_19_sub _ (List.mem_of_getElem? (i := 5) rfl)
theorem wq_704 : (Cond.selects "FromTheMiddle" ⟨"FromTheMiddle", "buy", "(I)I"⟩ ⟨"FromTheMiddle", "buy", "(I)I"⟩ : Cond) ∈ px_words := pw_19_sub _ (List.mem_of_getElem? (i := 6) rfl)
theorem wq_705 : (Cond.code ⟨"FromTheMiddle", "buy", "(I)I"⟩ prog_1_method_17_code 2 (some .int) : Cond) ∈ px_words := pw_19_sub _ (List.mem_of_getElem? (i := 7) rfl)
theorem wq_706 : (Cond.methodLink "FromTheMiddle" 199 ⟨"FromTheMiddle", "tilesToBuy", "()I"⟩ : Cond) ∈ px_words := pw_19_sub _ (List.mem_of_getElem? (i := 8) rfl)
theorem wq_708 : (Cond.instanceMethod ⟨"FromTheMiddle", "tilesToBuy", "()I"⟩ : Cond) ∈ px_words := pw_19_sub _ (List.mem_of_getElem? (i := 9) rfl)
theorem wq_709 : (Cond.code ⟨"FromTheMiddle", "tilesToBuy", "()I"⟩ prog_1_method_62_code 3 (some .int) : Cond) ∈ px_words := pw_19_sub _ (List.mem_of_getElem? (i := 10) rfl)
theorem wq_710 : (Cond.methodLink "FromTheMiddle" 211 ⟨"FromTheMiddle", "halves", "()I"⟩ : Cond) ∈ px_words := pw_19_sub _ (List.mem_of_getElem? (i := 11) rfl)
theorem wq_712 : (Cond.instanceMethod ⟨"FromTheMiddle", "halves", "()I"⟩ : Cond) ∈ px_words := pw_19_sub _ (List.mem_of_getElem? (i := 12) rfl)
theorem wq_713 : (Cond.code ⟨"FromTheMiddle", "halves", "()I"⟩ prog_1_method_61_code 3 (some .int) : Cond) ∈ px_words := pw_19_sub _ (List.mem_of_getElem? (i := 13) rfl)
theorem wq_714 : (Cond.methodLink "FromTheMiddle" 294 ⟨"FromTheMiddle$Row", "halves", "()I"⟩ : Cond) ∈ px_words := pw_19_sub _ (List.mem_of_getElem? (i := 14) rfl)
theorem wq_715 : (Cond.instanceMethod ⟨"FromTheMiddle$Row", "halves", "()I"⟩ : Cond) ∈ px_words := pw_19_sub _ (List.mem_of_getElem? (i := 15) rfl)
theorem wq_716 : (Cond.selects "FromTheMiddle$Row" ⟨"FromTheMiddle$Row", "halves", "()I"⟩ ⟨"FromTheMiddle$Row", "halves", "()I"⟩ : Cond) ∈ px_words := pw_19_sub _ (List.mem_of_getElem? (i := 16) rfl)
theorem wq_717 : (Cond.code ⟨"FromTheMiddle$Row", "halves", "()I"⟩ prog_6_method_8_code 1 (some .int) : Cond) ∈ px_words := pw_19_sub _ (List.mem_of_getElem? (i := 17) rfl)
theorem wq_718 : (Cond.methodLink "FromTheMiddle$Row" 54 ⟨"FromTheMiddle$Row", "isHalf", "(I)Z"⟩ : Cond) ∈ px_words := pw_19_sub _ (List.mem_of_getElem? (i := 18) rfl)
theorem wq_720 : (Cond.instanceMethod ⟨"FromTheMiddle$Row", "isHalf", "(I)Z"⟩ : Cond) ∈ px_words := pw_19_sub _ (List.mem_of_getElem? (i := 19) rfl)
theorem wq_721 : (Cond.code ⟨"FromTheMiddle$Row", "isHalf", "(I)Z"⟩ prog_6_method_12_code 2 (some .boolean) : Cond) ∈ px_words := pw_19_sub _ (List.mem_of_getElem? (i := 20) rfl)
theorem wq_722 : (Cond.methodLink "FromTheMiddle" 295 ⟨"FromTheMiddle", "pieces", "()I"⟩ : Cond) ∈ px_words := pw_19_sub _ (List.mem_of_getElem? (i := 21) rfl)
theorem wq_724 : (Cond.instanceMethod ⟨"FromTheMiddle", "pieces", "()I"⟩ : Cond) ∈ px_words := pw_19_sub _ (List.mem_of_getElem? (i := 22) rfl)
theorem wq_725 : (Cond.code ⟨"FromTheMiddle", "pieces", "()I"⟩ prog_1_method_60_code 3 (some .int) : Cond) ∈ px_words := pw_19_sub _ (List.mem_of_getElem? (i := 23) rfl)
theorem wq_726 : (Cond.methodLink "FromTheMiddle" 205 ⟨"FromTheMiddle", "cutsBy", "(I)I"⟩ : Cond) ∈ px_words := pw_19_sub _ (List.mem_of_getElem? (i := 24) rfl)
theorem wq_728 : (Cond.instanceMethod ⟨"FromTheMiddle", "cutsBy", "(I)I"⟩ : Cond) ∈ px_words := pw_19_sub _ (List.mem_of_getElem? (i := 25) rfl)
theorem wq_729 : (Cond.code ⟨"FromTheMiddle", "cutsBy", "(I)I"⟩ prog_1_method_57_code 4 (some .int) : Cond) ∈ px_words := pw_19_sub _ (List.mem_of_getElem? (i := 26) rfl)
theorem wq_730 : (Cond.methodLink "FromTheMiddle" 202 ⟨"FromTheMiddle", "quotient", "(II)I"⟩ : Cond) ∈ px_words := pw_19_sub _ (List.mem_of_getElem? (i := 27) rfl)
theorem wq_731 : (Cond.methodLink "FromTheMiddle" 208 ⟨"FromTheMiddle", "narrowestBy", "(I)I"⟩ : Cond) ∈ px_words := pw_19_sub _ (List.mem_of_getElem? (i := 28) rfl)
theorem wq_733 : (Cond.instanceMethod ⟨"FromTheMiddle", "narrowestBy", "(I)I"⟩ : Cond) ∈ px_words := pw_19_sub _ (List.mem_of_getElem? (i := 29) rfl)
theorem wq_734 : (Cond.code ⟨"FromTheMiddle", "narrowestBy", "(I)I"⟩ prog_1_method_56_code 4 (some .int) : Cond) ∈ px_words := pw_19_sub _ (List.mem_of_getElem? (i := 30) rfl)
theorem wq_735 : (Cond.methodLink "FromTheMiddle" 214 ⟨"FromTheMiddle", "harmBy", "(I)I"⟩ : Cond) ∈ px_words := pw_19_sub _ (List.mem_of_getElem? (i := 31) rfl)
theorem wq_737 : (Cond.instanceMethod ⟨"FromTheMiddle", "harmBy", "(I)I"⟩ : Cond) ∈ px_words := pw_20_sub _ (List.mem_of_getElem? (i := 0) rfl)
theorem wq_738 : (Cond.code ⟨"FromTheMiddle", "harmBy", "(I)I"⟩ prog_1_method_63_code 5 (some .int) : Cond) ∈ px_words := pw_20_sub _ (List.mem_of_getElem? (i := 1) rfl)
theorem wq_739 : (Cond.methodLink "FromTheMiddleLaw" 84 ⟨"FromTheMiddle", "loose", "(I)I"⟩ : Cond) ∈ px_words := pw_20_sub _ (List.mem_of_getElem? (i := 2) rfl)
theorem wq_740 : (Cond.instanceMethod ⟨"FromTheMiddle", "loose", "(I)I"⟩ : Cond) ∈ px_words := pw_20_sub _ (List.mem_of_getElem? (i := 3) rfl)
theorem wq_741 : (Cond.selects "FromTheMiddle" ⟨"FromTheMiddle", "loose", "(I)I"⟩ ⟨"FromTheMiddle", "loose", "(I)I"⟩ : Cond) ∈ px_words := pw_20_sub _ (List.mem_of_getElem? (i := 4) rfl)
theorem wq_742 : (Cond.code ⟨"FromTheMiddle", "loose", "(I)I"⟩ prog_1_method_18_code 3 (some .int) : Cond) ∈ px_words := pw_20_sub _ (List.mem_of_getElem? (i := 5) rfl)
theorem wq_743 : (Cond.methodLink "FromTheMiddle" 217 ⟨"FromTheMiddle", "changeByDraws", "()V"⟩ : Cond) ∈ px_words := pw_20_sub _ (List.mem_of_getElem? (i := 6) rfl)
theorem wq_745 : (Cond.instanceMethod ⟨"FromTheMiddle", "changeByDraws", "()V"⟩ : Cond) ∈ px_words := pw_20_sub _ (List.mem_of_getElem? (i := 7) rfl)
theorem wq_746 : (Cond.code ⟨"FromTheMiddle", "changeByDraws", "()V"⟩ prog_1_method_68_code 2 none : Cond) ∈ px_words := pw_20_sub _ (List.mem_of_getElem? (i := 8) rfl)
theorem wq_747 : (Cond.methodLink "FromTheMiddle" 313 ⟨"FromTheMiddle", "draw", "()I"⟩ : Cond) ∈ px_words := pw_20_sub _ (List.mem_of_getElem? (i := 9) rfl)
theorem wq_749 : (Cond.instanceMethod ⟨"FromTheMiddle", "draw", "()I"⟩ : Cond) ∈ px_words := pw_20_sub _ (List.mem_of_getElem? (i := 10) rfl)
theorem wq_750 : (Cond.code ⟨"FromTheMiddle", "draw", "()I"⟩ prog_1_method_67_code 1 (some .int) : Cond) ∈ px_words := pw_20_sub _ (List.mem_of_getElem? (i := 11) rfl)
theorem wq_751 : (Cond.constant "FromTheMiddle" 312 1103515245 : Cond) ∈ px_words := pw_20_sub _ (List.mem_of_getElem? (i := 12) rfl)
theorem wq_752 : (Cond.methodLink "FromTheMiddle" 226 ⟨"FromTheMiddle", "rest", "(II)I"⟩ : Cond) ∈ px_words := pw_20_sub _ (List.mem_of_getElem? (i := 13) rfl)
theorem wq_753 : (Cond.methodLink "FromTheMiddleLaw" 88 ⟨"FromTheMiddle", "seed", "(I)I"⟩ : Cond) ∈ px_words := pw_20_sub _ (List.mem_of_getElem? (i := 14) rfl)
theorem wq_754 : (Cond.instanceMethod ⟨"FromTheMiddle", "seed", "(I)I"⟩ : Cond) ∈ px_words := pw_20_sub _ (List.mem_of_getElem? (i := 15) rfl)
theorem wq_755 : (Cond.selects "FromTheMiddle" ⟨"FromTheMiddle", "seed", "(I)I"⟩ ⟨"FromTheMiddle", "seed", "(I)I"⟩ : Cond) ∈ px_words := pw_20_sub _ (List.mem_of_getElem? (i := 16) rfl)
theorem wq_756 : (Cond.code ⟨"FromTheMiddle", "seed", "(I)I"⟩ prog_1_method_19_code 3 (some .int) : Cond) ∈ px_words := pw_20_sub _ (List.mem_of_getElem? (i := 17) rfl)
theorem wq_757 : (Cond.methodLink "FromTheMiddleLaw" 92 ⟨"FromTheMiddle", "best", "(I)I"⟩ : Cond) ∈ px_words := pw_20_sub _ (List.mem_of_getElem? (i := 18) rfl)
theorem wq_758 : (Cond.instanceMethod ⟨"FromTheMiddle", "best", "(I)I"⟩ : Cond) ∈ px_words := pw_20_sub _ (List.mem_of_getElem? (i := 19) rfl)
theorem wq_759 : (Cond.selects "FromTheMiddle" ⟨"FromTheMiddle", "best", "(I)I"⟩ ⟨"FromTheMiddle", "best", "(I)I"⟩ : Cond) ∈ px_words := pw_20_sub _ (List.mem_of_getElem? (i := 20) rfl)
theorem wq_760 : (Cond.code ⟨"FromTheMiddle", "best", "(I)I"⟩ prog_1_method_20_code 3 (some .int) : Cond) ∈ px_words := pw_20_sub _ (List.mem_of_getElem? (i := 21) rfl)
theorem wq_761 : (Cond.methodLink "FromTheMiddle" 223 ⟨"FromTheMiddle", "bestStart", "()I"⟩ : Cond) ∈ px_words := pw_20_sub _ (List.mem_of_getElem? (i := 22) rfl)
theorem wq_763 : (Cond.instanceMethod ⟨"FromTheMiddle", "bestStart", "()I"⟩ : Cond) ∈ px_words := pw_20_sub _ (List.mem_of_getElem? (i := 23) rfl)
theorem wq_764 : (Cond.code ⟨"FromTheMiddle", "bestStart", "()I"⟩ prog_1_method_58_code 7 (some .int) : Cond) ∈ px_words := pw_20_sub _ (List.mem_of_getElem? (i := 24) rfl)
theorem wq_765 : (Cond.methodLink "FromTheMiddleLaw" 96 ⟨"FromTheMiddle", "calm", "(I)I"⟩ : Cond) ∈ px_words := pw_20_sub _ (List.mem_of_getElem? (i := 25) rfl)
theorem wq_766 : (Cond.instanceMethod ⟨"FromTheMiddle", "calm", "(I)I"⟩ : Cond) ∈ px_words := pw_20_sub _ (List.mem_of_getElem? (i := 26) rfl)
theorem wq_767 : (Cond.selects "FromTheMiddle" ⟨"FromTheMiddle", "calm", "(I)I"⟩ ⟨"FromTheMiddle", "calm", "(I)I"⟩ : Cond) ∈ px_words := pw_20_sub _ (List.mem_of_getElem? (i := 27) rfl)
theorem wq_768 : (Cond.code ⟨"FromTheMiddle", "calm", "(I)I"⟩ prog_1_method_21_code 6 (some .int) : Cond) ∈ px_words := pw_20_sub _ (List.mem_of_getElem? (i := 28) rfl)
theorem wq_769 : (Cond.methodLink "FromTheMiddleLaw" 100 ⟨"FromTheMiddle", "cheat", "(I)I"⟩ : Cond) ∈ px_words := pw_20_sub _ (List.mem_of_getElem? (i := 29) rfl)
theorem wq_770 : (Cond.instanceMethod ⟨"FromTheMiddle", "cheat", "(I)I"⟩ : Cond) ∈ px_words := pw_20_sub _ (List.mem_of_getElem? (i := 30) rfl)
theorem wq_771 : (Cond.selects "FromTheMiddle" ⟨"FromTheMiddle", "cheat", "(I)I"⟩ ⟨"FromTheMiddle", "cheat", "(I)I"⟩ : Cond) ∈ px_words := pw_20_sub _ (List.mem_of_getElem? (i := 31) rfl)
theorem wq_772 : (Cond.code ⟨"FromTheMiddle", "cheat", "(I)I"⟩ prog_1_method_22_code 5 (some .int) : Cond) ∈ px_words := pw_21_sub _ (List.mem_of_getElem? (i := 0) rfl)
theorem wq_773 : (Cond.methodLink "FromTheMiddleLaw" 104 ⟨"FromTheMiddle", "middle", "(I)I"⟩ : Cond) ∈ px_words := pw_21_sub _ (List.mem_of_getElem? (i := 1) rfl)
theorem wq_774 : (Cond.instanceMethod ⟨"FromTheMiddle", "middle", "(I)I"⟩ : Cond) ∈ px_words := pw_21_sub _ (List.mem_of_getElem? (i := 2) rfl)
theorem wq_775 : (Cond.selects "FromTheMiddle" ⟨"FromTheMiddle", "middle", "(I)I"⟩ ⟨"FromTheMiddle", "middle", "(I)I"⟩ : Cond) ∈ px_words := pw_21_sub _ (List.mem_of_getElem? (i := 3) rfl)
theorem wq_776 : (Cond.code ⟨"FromTheMiddle", "middle", "(I)I"⟩ prog_1_method_23_code 4 (some .int) : Cond) ∈ px_words := pw_21_sub _ (List.mem_of_getElem? (i := 4) rfl)
theorem wq_777 : (Cond.methodLink "FromTheMiddleLaw" 108 ⟨"FromTheMiddle", "odds", "(II)I"⟩ : Cond) ∈ px_words := pw_21_sub _ (List.mem_of_getElem? (i := 5) rfl)
theorem wq_778 : (Cond.instanceMethod ⟨"FromTheMiddle", "odds", "(II)I"⟩ : Cond) ∈ px_words := pw_21_sub _ (List.mem_of_getElem? (i := 6) rfl)
theorem wq_779 : (Cond.selects "FromTheMiddle" ⟨"FromTheMiddle", "odds", "(II)I"⟩ ⟨"FromTheMiddle", "odds", "(II)I"⟩ : Cond) ∈ px_words := pw_21_sub _ (List.mem_of_getElem? (i := 7) rfl)
theorem wq_780 : (Cond.code ⟨"FromTheMiddle", "odds", "(II)I"⟩ prog_1_method_24_code 5 (some .int) : Cond) ∈ px_words := pw_21_sub _ (List.mem_of_getElem? (i := 8) rfl)
theorem wq_781 : (Cond.methodLink "FromTheMiddle" 229 ⟨"FromTheMiddle", "commonDivisor", "(II)I"⟩ : Cond) ∈ px_words := pw_21_sub _ (List.mem_of_getElem? (i := 9) rfl)
theorem wq_782 : (Cond.static ⟨"FromTheMiddle", "commonDivisor", "(II)I"⟩ : Cond) ∈ px_words := pw_21_sub _ (List.mem_of_getElem? (i := 10) rfl)
theorem wq_783 : (Cond.code ⟨"FromTheMiddle", "commonDivisor", "(II)I"⟩ prog_1_method_52_code 3 (some .int) : Cond) ∈ px_words := pw_21_sub _ (List.mem_of_getElem? (i := 11) rfl)
theorem wq_784 : (Cond.methodLink "FromTheMiddleLaw" 112 ⟨"FromTheMiddle", "fits", "(II)I"⟩ : Cond) ∈ px_words := pw_21_sub _ (List.mem_of_getElem? (i := 12) rfl)
theorem wq_785 : (Cond.instanceMethod ⟨"FromTheMiddle", "fits", "(II)I"⟩ : Cond) ∈ px_words := pw_21_sub _ (List.mem_of_getElem? (i := 13) rfl)
theorem wq_786 : (Cond.selects "FromTheMiddle" ⟨"FromTheMiddle", "fits", "(II)I"⟩ ⟨"FromTheMiddle", "fits", "(II)I"⟩ : Cond) ∈ px_words := pw_21_sub _ (List.mem_of_getElem? (i := 14) rfl)
theorem wq_787 : (Cond.code ⟨"FromTheMiddle", "fits", "(II)I"⟩ prog_1_method_25_code 7 (some .int) : Cond) ∈ px_words := pw_21_sub _ (List.mem_of_getElem? (i := 15) rfl)
theorem wq_788 : (Cond.methodLink "FromTheMiddle" 232 ⟨"FromTheMiddle", "sheetAt", "(I)LFromTheMiddle$Sheet;"⟩ : Cond) ∈ px_words := pw_21_sub _ (List.mem_of_getElem? (i := 16) rfl)
theorem wq_790 : (Cond.instanceMethod ⟨"FromTheMiddle", "sheetAt", "(I)LFromTheMiddle$Sheet;"⟩ : Cond) ∈ px_words := pw_21_sub _ (List.mem_of_getElem? (i := 17) rfl)
theorem wq_791 : (Cond.code ⟨"FromTheMiddle", "sheetAt", "(I)LFromTheMiddle$Sheet;"⟩ prog_1_method_43_code 2 (some (.object "FromTheMiddle$Sheet")) : Cond) ∈ px_words := pw_21_sub _ (List.mem_of_getElem? (i := 18) rfl)
theorem wq_792 : (Cond.methodLink "FromTheMiddle" 236 ⟨"FromTheMiddle$Sheet", "isMissing", "()Z"⟩ : Cond) ∈ px_words := pw_21_sub _ (List.mem_of_getElem? (i := 19) rfl)
theorem wq_793 : (Cond.instanceMethod ⟨"FromTheMiddle$Sheet", "isMissing", "()Z"⟩ : Cond) ∈ px_words := pw_21_sub _ (List.mem_of_getElem? (i := 20) rfl)
theorem wq_794 : (Cond.selects "FromTheMiddle$Sheet" ⟨"FromTheMiddle$Sheet", "isMissing", "()Z"⟩ ⟨"FromTheMiddle$Sheet", "isMissing", "()Z"⟩ : Cond) ∈ px_words := pw_21_sub _ (List.mem_of_getElem? (i := 21) rfl)
theorem wq_795 : (Cond.code ⟨"FromTheMiddle$Sheet", "isMissing", "()Z"⟩ prog_7_method_2_code 1 (some .boolean) : Cond) ∈ px_words := pw_21_sub _ (List.mem_of_getElem? (i := 22) rfl)
theorem wq_796 : (Cond.methodLink "FromTheMiddle" 243 ⟨"FromTheMiddle", "rightFromFirst", "(LFromTheMiddle$Numbers;)I"⟩ : Cond) ∈ px_words := pw_21_sub _ (List.mem_of_getElem? (i := 23) rfl)
theorem wq_798 : (Cond.instanceMethod ⟨"FromTheMiddle", "rightFromFirst", "(LFromTheMiddle$Numbers;)I"⟩ : Cond) ∈ px_words := pw_21_sub _ (List.mem_of_getElem? (i := 24) rfl)
theorem wq_799 : (Cond.code ⟨"FromTheMiddle", "rightFromFirst", "(LFromTheMiddle$Numbers;)I"⟩ prog_1_method_59_code 4 (some .int) : Cond) ∈ px_words := pw_21_sub _ (List.mem_of_getElem? (i := 25) rfl)
theorem wq_800 : (Cond.methodLink "FromTheMiddleLaw" 116 ⟨"FromTheMiddle", "voice", "(III)I"⟩ : Cond) ∈ px_words := pw_21_sub _ (List.mem_of_getElem? (i := 26) rfl)
theorem wq_801 : (Cond.instanceMethod ⟨"FromTheMiddle", "voice", "(III)I"⟩ : Cond) ∈ px_words := pw_21_sub _ (List.mem_of_getElem? (i := 27) rfl)
theorem wq_802 : (Cond.selects "FromTheMiddle" ⟨"FromTheMiddle", "voice", "(III)I"⟩ ⟨"FromTheMiddle", "voice", "(III)I"⟩ : Cond) ∈ px_words := pw_21_sub _ (List.mem_of_getElem? (i := 28) rfl)
theorem wq_803 : (Cond.code ⟨"FromTheMiddle", "voice", "(III)I"⟩ prog_1_method_26_code 5 (some .int) : Cond) ∈ px_words := pw_21_sub _ (List.mem_of_getElem? (i := 29) rfl)
theorem wq_804 : (Cond.methodLink "FromTheMiddle" 247 ⟨"FromTheMiddle$Voices", "speak", "(IIIII)I"⟩ : Cond) ∈ px_words := pw_21_sub _ (List.mem_of_getElem? (i := 30) rfl)
theorem wq_805 : (Cond.instanceMethod ⟨"FromTheMiddle$Voices", "speak", "(IIIII)I"⟩ : Cond) ∈ px_words := pw_21_sub _ (List.mem_of_getElem? (i := 31) rfl)
theorem wq_806 : (Cond.selects "FromTheMiddle$Voices" ⟨"FromTheMiddle$Voices", "speak", "(IIIII)I"⟩ ⟨"FromTheMiddle$Voices", "speak", "(IIIII)I"⟩ : Cond) ∈ px_words := pw_22_sub _ (List.mem_of_getElem? (i := 0) rfl)
theorem wq_807 : (Cond.code ⟨"FromTheMiddle$Voices", "speak", "(IIIII)I"⟩ prog_8_method_2_code 8 (some .int) : Cond) ∈ px_words := pw_22_sub _ (List.mem_of_getElem? (i := 1) rfl)
theorem wq_808 : (Cond.methodLink "FromTheMiddle$Voices" 30 ⟨"FromTheMiddle$Numbers", "clear", "()V"⟩ : Cond) ∈ px_words := pw_22_sub _ (List.mem_of_getElem? (i := 2) rfl)
theorem wq_809 : (Cond.methodLink "FromTheMiddle$Voices" 33 ⟨"FromTheMiddle$Voices", "bodyOf", "(I)I"⟩ : Cond) ∈ px_words := pw_22_sub _ (List.mem_of_getElem? (i := 3) rfl)
theorem wq_811 : (Cond.instanceMethod ⟨"FromTheMiddle$Voices", "bodyOf", "(I)I"⟩ : Cond) ∈ px_words := pw_22_sub _ (List.mem_of_getElem? (i := 4) rfl)
theorem wq_812 : (Cond.code ⟨"FromTheMiddle$Voices", "bodyOf", "(I)I"⟩ prog_8_method_4_code 2 (some .int) : Cond) ∈ px_words := pw_22_sub _ (List.mem_of_getElem? (i := 5) rfl)
theorem wq_814 : (Cond.methodLink "FromTheMiddle$Voices" 37 ⟨"FromTheMiddle$Voices", "chained", "(II)I"⟩ : Cond) ∈ px_words := pw_22_sub _ (List.mem_of_getElem? (i := 6) rfl)
theorem wq_816 : (Cond.instanceMethod ⟨"FromTheMiddle$Voices", "chained", "(II)I"⟩ : Cond) ∈ px_words := pw_22_sub _ (List.mem_of_getElem? (i := 7) rfl)
theorem wq_817 : (Cond.code ⟨"FromTheMiddle$Voices", "chained", "(II)I"⟩ prog_8_method_3_code 7 (some .int) : Cond) ∈ px_words := pw_22_sub _ (List.mem_of_getElem? (i := 8) rfl)
theorem wq_818 : (Cond.methodLink "FromTheMiddle$Voices" 41 ⟨"FromTheMiddle$Numbers", "size", "()I"⟩ : Cond) ∈ px_words := pw_22_sub _ (List.mem_of_getElem? (i := 9) rfl)
theorem wq_819 : (Cond.methodLink "FromTheMiddle$Voices" 45 ⟨"FromTheMiddle$Numbers", "add", "(I)V"⟩ : Cond) ∈ px_words := pw_22_sub _ (List.mem_of_getElem? (i := 10) rfl)
theorem wq_820 : (Cond.methodLink "FromTheMiddle$Voices" 48 ⟨"FromTheMiddle$Voices", "handedDown", "(II)I"⟩ : Cond) ∈ px_words := pw_22_sub _ (List.mem_of_getElem? (i := 11) rfl)
theorem wq_822 : (Cond.instanceMethod ⟨"FromTheMiddle$Voices", "handedDown", "(II)I"⟩ : Cond) ∈ px_words := pw_22_sub _ (List.mem_of_getElem? (i := 12) rfl)
theorem wq_823 : (Cond.code ⟨"FromTheMiddle$Voices", "handedDown", "(II)I"⟩ prog_8_method_6_code 3 (some .int) : Cond) ∈ px_words := pw_22_sub _ (List.mem_of_getElem? (i := 13) rfl)
theorem wq_825 : (Cond.methodLink "FromTheMiddle$Voices" 51 ⟨"FromTheMiddle$Voices", "calledBy", "(I)I"⟩ : Cond) ∈ px_words := pw_22_sub _ (List.mem_of_getElem? (i := 14) rfl)
theorem wq_827 : (Cond.instanceMethod ⟨"FromTheMiddle$Voices", "calledBy", "(I)I"⟩ : Cond) ∈ px_words := pw_22_sub _ (List.mem_of_getElem? (i := 15) rfl)
theorem wq_828 : (Cond.code ⟨"FromTheMiddle$Voices", "calledBy", "(I)I"⟩ prog_8_method_5_code 2 (some .int) : Cond) ∈ px_words := pw_22_sub _ (List.mem_of_getElem? (i := 16) rfl)
theorem wq_829 : (Cond.methodLink "FromTheMiddle$Voices" 54 ⟨"FromTheMiddle$Numbers", "get", "(I)I"⟩ : Cond) ∈ px_words := pw_22_sub _ (List.mem_of_getElem? (i := 17) rfl)
theorem wq_830 : (Cond.methodLink "FromTheMiddle$Voices" 57 ⟨"FromTheMiddle$Voices", "handedUp", "(II)I"⟩ : Cond) ∈ px_words := pw_22_sub _ (List.mem_of_getElem? (i := 18) rfl)
theorem wq_832 : (Cond.instanceMethod ⟨"FromTheMiddle$Voices", "handedUp", "(II)I"⟩ : Cond) ∈ px_words := pw_22_sub _ (List.mem_of_getElem? (i := 19) rfl)
theorem wq_833 : (Cond.code ⟨"FromTheMiddle$Voices", "handedUp", "(II)I"⟩ prog_8_method_7_code 3 (some .int) : Cond) ∈ px_words := pw_22_sub _ (List.mem_of_getElem? (i := 20) rfl)
theorem wq_834 : (Cond.methodLink "FromTheMiddleLaw" 120 ⟨"FromTheMiddle", "body", "(I)I"⟩ : Cond) ∈ px_words := pw_22_sub _ (List.mem_of_getElem? (i := 21) rfl)
theorem wq_835 : (Cond.instanceMethod ⟨"FromTheMiddle", "body", "(I)I"⟩ : Cond) ∈ px_words := pw_22_sub _ (List.mem_of_getElem? (i := 22) rfl)
theorem wq_836 : (Cond.selects "FromTheMiddle" ⟨"FromTheMiddle", "body", "(I)I"⟩ ⟨"FromTheMiddle", "body", "(I)I"⟩ : Cond) ∈ px_words := pw_22_sub _ (List.mem_of_getElem? (i := 23) rfl)
theorem wq_837 : (Cond.code ⟨"FromTheMiddle", "body", "(I)I"⟩ prog_1_method_27_code 2 (some .int) : Cond) ∈ px_words := pw_22_sub _ (List.mem_of_getElem? (i := 24) rfl)
theorem wq_838 : (Cond.methodLink "FromTheMiddleLaw" 124 ⟨"FromTheMiddle", "sheet", "(III)I"⟩ : Cond) ∈ px_words := pw_22_sub _ (List.mem_of_getElem? (i := 25) rfl)
theorem wq_839 : (Cond.instanceMethod ⟨"FromTheMiddle", "sheet", "(III)I"⟩ : Cond) ∈ px_words := pw_22_sub _ (List.mem_of_getElem? (i := 26) rfl)
theorem wq_840 : (Cond.selects "FromTheMiddle" ⟨"FromTheMiddle", "sheet", "(III)I"⟩ ⟨"FromTheMiddle", "sheet", "(III)I"⟩ : Cond) ∈ px_words := pw_22_sub _ (List.mem_of_getElem? (i := 27) rfl)
theorem wq_841 : (Cond.code ⟨"FromTheMiddle", "sheet", "(III)I"⟩ prog_1_method_28_code 5 (some .int) : Cond) ∈ px_words := pw_22_sub _ (List.mem_of_getElem? (i := 28) rfl)
theorem wq_842 : (Cond.methodLink "FromTheMiddleLaw" 128 ⟨"FromTheMiddle", "put", "(III)I"⟩ : Cond) ∈ px_words := pw_22_sub _ (List.mem_of_getElem? (i := 29) rfl)
theorem wq_843 : (Cond.instanceMethod ⟨"FromTheMiddle", "put", "(III)I"⟩ : Cond) ∈ px_words := pw_22_sub _ (List.mem_of_getElem? (i := 30) rfl)
theorem wq_844 : (Cond.selects "FromTheMiddle" ⟨"FromTheMiddle", "put", "(III)I"⟩ ⟨"FromTheMiddle", "put", "(III)I"⟩ : Cond) ∈ px_words := pw_22_sub _ (List.mem_of_getElem? (i := 31) rfl)
theorem wq_845 : (Cond.code ⟨"FromTheMiddle", "put", "(III)I"⟩ prog_1_method_29_code 5 (some .int) : Cond) ∈ px_words := pw_23_sub _ (List.mem_of_getElem? (i := 0) rfl)
theorem wq_846 : (Cond.methodLink "FromTheMiddle" 260 ⟨"FromTheMiddle$Sheet", "lowestBits", "(I)I"⟩ : Cond) ∈ px_words := pw_23_sub _ (List.mem_of_getElem? (i := 1) rfl)
theorem wq_847 : (Cond.instanceMethod ⟨"FromTheMiddle$Sheet", "lowestBits", "(I)I"⟩ : Cond) ∈ px_words := pw_23_sub _ (List.mem_of_getElem? (i := 2) rfl)
theorem wq_848 : (Cond.selects "FromTheMiddle$Sheet" ⟨"FromTheMiddle$Sheet", "lowestBits", "(I)I"⟩ ⟨"FromTheMiddle$Sheet", "lowestBits", "(I)I"⟩ : Cond) ∈ px_words := pw_23_sub _ (List.mem_of_getElem? (i := 3) rfl)
theorem wq_849 : (Cond.code ⟨"FromTheMiddle$Sheet", "lowestBits", "(I)I"⟩ prog_7_method_3_code 2 (some .int) : Cond) ∈ px_words := pw_23_sub _ (List.mem_of_getElem? (i := 4) rfl)
theorem wq_850 : (Cond.methodLink "FromTheMiddleLaw" 132 ⟨"FromTheMiddle", "move", "(IIIII)I"⟩ : Cond) ∈ px_words := pw_23_sub _ (List.mem_of_getElem? (i := 5) rfl)
theorem wq_851 : (Cond.instanceMethod ⟨"FromTheMiddle", "move", "(IIIII)I"⟩ : Cond) ∈ px_words := pw_23_sub _ (List.mem_of_getElem? (i := 6) rfl)
theorem wq_852 : (Cond.selects "FromTheMiddle" ⟨"FromTheMiddle", "move", "(IIIII)I"⟩ ⟨"FromTheMiddle", "move", "(IIIII)I"⟩ : Cond) ∈ px_words := pw_23_sub _ (List.mem_of_getElem? (i := 7) rfl)
theorem wq_853 : (Cond.code ⟨"FromTheMiddle", "move", "(IIIII)I"⟩ prog_1_method_30_code 8 (some .int) : Cond) ∈ px_words := pw_23_sub _ (List.mem_of_getElem? (i := 8) rfl)
theorem wq_854 : (Cond.methodLink "FromTheMiddle" 263 ⟨"FromTheMiddle$Numbers", "stretches", "(II)Z"⟩ : Cond) ∈ px_words := pw_23_sub _ (List.mem_of_getElem? (i := 9) rfl)
theorem wq_855 : (Cond.methodLink "FromTheMiddle" 266 ⟨"FromTheMiddle$Numbers", "take", "(LFromTheMiddle$Numbers;III)V"⟩ : Cond) ∈ px_words := pw_23_sub _ (List.mem_of_getElem? (i := 10) rfl)
theorem wq_856 : (Cond.methodLink "FromTheMiddleLaw" 137 ⟨"FromTheMiddle", "places", "(I)I"⟩ : Cond) ∈ px_words := pw_23_sub _ (List.mem_of_getElem? (i := 11) rfl)
theorem wq_857 : (Cond.instanceMethod ⟨"FromTheMiddle", "places", "(I)I"⟩ : Cond) ∈ px_words := pw_23_sub _ (List.mem_of_getElem? (i := 12) rfl)
theorem wq_858 : (Cond.selects "FromTheMiddle" ⟨"FromTheMiddle", "places", "(I)I"⟩ ⟨"FromTheMiddle", "places", "(I)I"⟩ : Cond) ∈ px_words := pw_23_sub _ (List.mem_of_getElem? (i := 13) rfl)
theorem wq_859 : (Cond.code ⟨"FromTheMiddle", "places", "(I)I"⟩ prog_1_method_31_code 5 (some .int) : Cond) ∈ px_words := pw_23_sub _ (List.mem_of_getElem? (i := 14) rfl)
theorem wq_860 : (Cond.methodLink "FromTheMiddleLaw" 141 ⟨"FromTheMiddle", "judge", "(I)I"⟩ : Cond) ∈ px_words := pw_23_sub _ (List.mem_of_getElem? (i := 15) rfl)
theorem wq_861 : (Cond.instanceMethod ⟨"FromTheMiddle", "judge", "(I)I"⟩ : Cond) ∈ px_words := pw_23_sub _ (List.mem_of_getElem? (i := 16) rfl)
theorem wq_862 : (Cond.selects "FromTheMiddle" ⟨"FromTheMiddle", "judge", "(I)I"⟩ ⟨"FromTheMiddle", "judge", "(I)I"⟩ : Cond) ∈ px_words := pw_23_sub _ (List.mem_of_getElem? (i := 17) rfl)
theorem wq_863 : (Cond.code ⟨"FromTheMiddle", "judge", "(I)I"⟩ prog_1_method_32_code 3 (some .int) : Cond) ∈ px_words := pw_23_sub _ (List.mem_of_getElem? (i := 18) rfl)
theorem wq_864 : (Cond.methodLink "FromTheMiddleLaw" 145 ⟨"FromTheMiddle", "image", "()I"⟩ : Cond) ∈ px_words := pw_23_sub _ (List.mem_of_getElem? (i := 19) rfl)
theorem wq_865 : (Cond.instanceMethod ⟨"FromTheMiddle", "image", "()I"⟩ : Cond) ∈ px_words := pw_23_sub _ (List.mem_of_getElem? (i := 20) rfl)
theorem wq_866 : (Cond.selects "FromTheMiddle" ⟨"FromTheMiddle", "image", "()I"⟩ ⟨"FromTheMiddle", "image", "()I"⟩ : Cond) ∈ px_words := pw_23_sub _ (List.mem_of_getElem? (i := 21) rfl)
theorem wq_867 : (Cond.code ⟨"FromTheMiddle", "image", "()I"⟩ prog_1_method_33_code 1 (some .int) : Cond) ∈ px_words := pw_23_sub _ (List.mem_of_getElem? (i := 22) rfl)
theorem wq_868 : (Cond.methodLink "FromTheMiddle" 275 ⟨"FromTheMiddle$Kept", "copy", "(LFromTheMiddle$Kept;)V"⟩ : Cond) ∈ px_words := pw_23_sub _ (List.mem_of_getElem? (i := 23) rfl)
theorem wq_869 : (Cond.instanceMethod ⟨"FromTheMiddle$Kept", "copy", "(LFromTheMiddle$Kept;)V"⟩ : Cond) ∈ px_words := pw_23_sub _ (List.mem_of_getElem? (i := 24) rfl)
theorem wq_870 : (Cond.selects "FromTheMiddle$Kept" ⟨"FromTheMiddle$Kept", "copy", "(LFromTheMiddle$Kept;)V"⟩ ⟨"FromTheMiddle$Kept", "copy", "(LFromTheMiddle$Kept;)V"⟩ : Cond) ∈ px_words := pw_23_sub _ (List.mem_of_getElem? (i := 25) rfl)
theorem wq_871 : (Cond.code ⟨"FromTheMiddle$Kept", "copy", "(LFromTheMiddle$Kept;)V"⟩ prog_2_method_3_code 2 none : Cond) ∈ px_words := pw_23_sub _ (List.mem_of_getElem? (i := 26) rfl)
theorem wq_872 : (Cond.methodLink "FromTheMiddle$Kept" 51 ⟨"FromTheMiddle$Numbers", "copy", "(LFromTheMiddle$Numbers;)V"⟩ : Cond) ∈ px_words := pw_23_sub _ (List.mem_of_getElem? (i := 27) rfl)
theorem wq_873 : (Cond.methodLink "FromTheMiddleLaw" 150 ⟨"FromTheMiddle", "restore", "()I"⟩ : Cond) ∈ px_words := pw_23_sub _ (List.mem_of_getElem? (i := 28) rfl)
theorem wq_874 : (Cond.instanceMethod ⟨"FromTheMiddle", "restore", "()I"⟩ : Cond) ∈ px_words := pw_23_sub _ (List.mem_of_getElem? (i := 29) rfl)
theorem wq_875 : (Cond.selects "FromTheMiddle" ⟨"FromTheMiddle", "restore", "()I"⟩ ⟨"FromTheMiddle", "restore", "()I"⟩ : Cond) ∈ px_words := pw_23_sub _ (List.mem_of_getElem? (i := 30) rfl)
theorem wq_876 : (Cond.code ⟨"FromTheMiddle", "restore", "()I"⟩ prog_1_method_34_code 1 (some .int) : Cond) ∈ px_words := pw_23_sub _ (List.mem_of_getElem? (i := 31) rfl)
theorem wq_877 : (Cond.methodLink "FromTheMiddleLaw" 154 ⟨"FromTheMiddle", "tell", "(I)I"⟩ : Cond) ∈ px_words := pw_24_sub _ (List.mem_of_getElem? (i := 0) rfl)
theorem wq_878 : (Cond.instanceMethod ⟨"FromTheMiddle", "tell", "(I)I"⟩ : Cond) ∈ px_words := pw_24_sub _ (List.mem_of_getElem? (i := 1) rfl)
theorem wq_879 : (Cond.selects "FromTheMiddle" ⟨"FromTheMiddle", "tell", "(I)I"⟩ ⟨"FromTheMiddle", "tell", "(I)I"⟩ : Cond) ∈ px_words := pw_24_sub _ (List.mem_of_getElem? (i := 2) rfl)
theorem wq_880 : (Cond.code ⟨"FromTheMiddle", "tell", "(I)I"⟩ prog_1_method_35_code 2 (some .int) : Cond) ∈ px_words := pw_24_sub _ (List.mem_of_getElem? (i := 3) rfl)
theorem wq_881 : (Cond.methodLink "FromTheMiddleLaw" 158 ⟨"FromTheMiddle", "check", "()I"⟩ : Cond) ∈ px_words := pw_24_sub _ (List.mem_of_getElem? (i := 4) rfl)
theorem wq_882 : (Cond.instanceMethod ⟨"FromTheMiddle", "check", "()I"⟩ : Cond) ∈ px_words := pw_24_sub _ (List.mem_of_getElem? (i := 5) rfl)
theorem wq_883 : (Cond.selects "FromTheMiddle" ⟨"FromTheMiddle", "check", "()I"⟩ ⟨"FromTheMiddle", "check", "()I"⟩ : Cond) ∈ px_words := pw_24_sub _ (List.mem_of_getElem? (i := 6) rfl)
theorem wq_884 : (Cond.code ⟨"FromTheMiddle", "check", "()I"⟩ prog_1_method_36_code 4 (some .int) : Cond) ∈ px_words := pw_24_sub _ (List.mem_of_getElem? (i := 7) rfl)
theorem wq_885 : (Cond.methodLink "FromTheMiddleLaw" 162 ⟨"FromTheMiddle", "count", "(I)I"⟩ : Cond) ∈ px_words := pw_24_sub _ (List.mem_of_getElem? (i := 8) rfl)
theorem wq_886 : (Cond.instanceMethod ⟨"FromTheMiddle", "count", "(I)I"⟩ : Cond) ∈ px_words := pw_24_sub _ (List.mem_of_getElem? (i := 9) rfl)
theorem wq_887 : (Cond.selects "FromTheMiddle" ⟨"FromTheMiddle", "count", "(I)I"⟩ ⟨"FromTheMiddle", "count", "(I)I"⟩ : Cond) ∈ px_words := pw_24_sub _ (List.mem_of_getElem? (i := 10) rfl)
theorem wq_888 : (Cond.code ⟨"FromTheMiddle", "count", "(I)I"⟩ prog_1_method_37_code 2 (some .int) : Cond) ∈ px_words := pw_24_sub _ (List.mem_of_getElem? (i := 11) rfl)
theorem wq_889 : (Cond.methodLink "FromTheMiddleLaw" 166 ⟨"FromTheMiddle", "told", "(I)I"⟩ : Cond) ∈ px_words := pw_24_sub _ (List.mem_of_getElem? (i := 12) rfl)
theorem wq_890 : (Cond.instanceMethod ⟨"FromTheMiddle", "told", "(I)I"⟩ : Cond) ∈ px_words := pw_24_sub _ (List.mem_of_getElem? (i := 13) rfl)
theorem wq_891 : (Cond.selects "FromTheMiddle" ⟨"FromTheMiddle", "told", "(I)I"⟩ ⟨"FromTheMiddle", "told", "(I)I"⟩ : Cond) ∈ px_words := pw_24_sub _ (List.mem_of_getElem? (i := 14) rfl)
theorem wq_892 : (Cond.code ⟨"FromTheMiddle", "told", "(I)I"⟩ prog_1_method_38_code 2 (some .int) : Cond) ∈ px_words := pw_24_sub _ (List.mem_of_getElem? (i := 15) rfl)
theorem wq_893 : (Cond.classLink "FromTheMiddleLaw" 10 "FromTheMiddleModel" : Cond) ∈ px_words := pw_24_sub _ (List.mem_of_getElem? (i := 16) rfl)
theorem wq_894 : (Cond.instantiable "FromTheMiddleModel" 24 : Cond) ∈ px_words := pw_24_sub _ (List.mem_of_getElem? (i := 17) rfl)
theorem wq_895 : (Cond.methodLink "FromTheMiddleLaw" 12 ⟨"FromTheMiddleModel", "<init>", "()V"⟩ : Cond) ∈ px_words := pw_24_sub _ (List.mem_of_getElem? (i := 18) rfl)
theorem wq_896 : (Cond.instanceMethod ⟨"FromTheMiddleModel", "<init>", "()V"⟩ : Cond) ∈ px_words := pw_24_sub _ (List.mem_of_getElem? (i := 19) rfl)
theorem wq_897 : (Cond.code ⟨"FromTheMiddleModel", "<init>", "()V"⟩ prog_10_method_1_code 1 none : Cond) ∈ px_words := pw_24_sub _ (List.mem_of_getElem? (i := 20) rfl)
theorem wq_898 : (Cond.methodLink "FromTheMiddleModel" 1 ⟨"java/lang/Object", "<init>", "()V"⟩ : Cond) ∈ px_words := pw_24_sub _ (List.mem_of_getElem? (i := 21) rfl)
theorem wq_899 : (Cond.fieldLink "FromTheMiddleModel" 7 "FromTheMiddleModel" "s" "[I" : Cond) ∈ px_words := pw_24_sub _ (List.mem_of_getElem? (i := 22) rfl)
theorem wq_900 : (Cond.fieldLink "FromTheMiddleModel" 13 "FromTheMiddleModel" "kept" "[I" : Cond) ∈ px_words := pw_24_sub _ (List.mem_of_getElem? (i := 23) rfl)
theorem wq_901 : (Cond.fieldLink "FromTheMiddleModel" 258 "FromTheMiddleModel" "images" "I" : Cond) ∈ px_words := pw_24_sub _ (List.mem_of_getElem? (i := 24) rfl)
theorem wq_902 : (Cond.fieldLink "FromTheMiddleModel" 16 "FromTheMiddleModel" "errors" "[I" : Cond) ∈ px_words := pw_24_sub _ (List.mem_of_getElem? (i := 25) rfl)
theorem wq_903 : (Cond.fieldLink "FromTheMiddleModel" 19 "FromTheMiddleModel" "lows" "[I" : Cond) ∈ px_words := pw_24_sub _ (List.mem_of_getElem? (i := 26) rfl)
theorem wq_904 : (Cond.fieldLink "FromTheMiddleModel" 22 "FromTheMiddleModel" "highs" "[I" : Cond) ∈ px_words := pw_24_sub _ (List.mem_of_getElem? (i := 27) rfl)
theorem wq_905 : (Cond.fieldLink "FromTheMiddleModel" 66 "FromTheMiddleModel" "at" "I" : Cond) ∈ px_words := pw_24_sub _ (List.mem_of_getElem? (i := 28) rfl)
theorem wq_906 : (Cond.fieldLink "FromTheMiddleModel" 100 "FromTheMiddleModel" "open" "I" : Cond) ∈ px_words := pw_24_sub _ (List.mem_of_getElem? (i := 29) rfl)
theorem wq_907 : (Cond.fieldLink "FromTheMiddleModel" 73 "FromTheMiddleModel" "steps" "I" : Cond) ∈ px_words := pw_24_sub _ (List.mem_of_getElem? (i := 30) rfl)
theorem wq_908 : (Cond.fieldLink "FromTheMiddleModel" 70 "FromTheMiddleModel" "use" "I" : Cond) ∈ px_words := pw_24_sub _ (List.mem_of_getElem? (i := 31) rfl)
theorem wq_909 : (Cond.fieldLink "FromTheMiddleModel" 25 "FromTheMiddleModel" "step" "[I" : Cond) ∈ px_words := pw_25_sub _ (List.mem_of_getElem? (i := 0) rfl)
theorem wq_910 : (Cond.fieldLink "FromTheMiddleModel" 28 "FromTheMiddleModel" "named" "[I" : Cond) ∈ px_words := pw_25_sub _ (List.mem_of_getElem? (i := 1) rfl)
theorem wq_911 : (Cond.fieldLink "FromTheMiddleModel" 31 "FromTheMiddleModel" "pile" "[I" : Cond) ∈ px_words := pw_25_sub _ (List.mem_of_getElem? (i := 2) rfl)
theorem wq_912 : (Cond.fieldLink "FromTheMiddleModel" 34 "FromTheMiddleModel" "left" "[I" : Cond) ∈ px_words := pw_25_sub _ (List.mem_of_getElem? (i := 3) rfl)
theorem wq_913 : (Cond.fieldLink "FromTheMiddleModel" 37 "FromTheMiddleModel" "wide" "[I" : Cond) ∈ px_words := pw_25_sub _ (List.mem_of_getElem? (i := 4) rfl)
theorem wq_914 : (Cond.fieldLink "FromTheMiddleModel" 126 "FromTheMiddleModel" "pieces" "I" : Cond) ∈ px_words := pw_25_sub _ (List.mem_of_getElem? (i := 5) rfl)
theorem wq_915 : (Cond.fieldLink "FromTheMiddleModel" 220 "FromTheMiddleModel" "traced" "I" : Cond) ∈ px_words := pw_25_sub _ (List.mem_of_getElem? (i := 6) rfl)
theorem wq_916 : (Cond.fieldLink "FromTheMiddleModel" 40 "FromTheMiddleModel" "trace" "[I" : Cond) ∈ px_words := pw_25_sub _ (List.mem_of_getElem? (i := 7) rfl)
theorem wq_917 : (Cond.fieldLink "FromTheMiddleModel" 223 "FromTheMiddleModel" "speaks" "I" : Cond) ∈ px_words := pw_25_sub _ (List.mem_of_getElem? (i := 8) rfl)
theorem wq_918 : (Cond.fieldLink "FromTheMiddleModel" 244 "FromTheMiddleModel" "isParted" "Z" : Cond) ∈ px_words := pw_25_sub _ (List.mem_of_getElem? (i := 9) rfl)
theorem wq_919 : (Cond.fieldLink "FromTheMiddleModel" 43 "FromTheMiddleModel" "bits" "[I" : Cond) ∈ px_words := pw_25_sub _ (List.mem_of_getElem? (i := 10) rfl)
theorem wq_920 : (Cond.fieldLink "FromTheMiddleModel" 46 "FromTheMiddleModel" "sizes" "[I" : Cond) ∈ px_words := pw_25_sub _ (List.mem_of_getElem? (i := 11) rfl)
theorem wq_921 : (Cond.fieldLink "FromTheMiddleModel" 49 "FromTheMiddleModel" "number" "[I" : Cond) ∈ px_words := pw_25_sub _ (List.mem_of_getElem? (i := 12) rfl)
theorem wq_922 : (Cond.fieldLink "FromTheMiddleModel" 52 "FromTheMiddleModel" "aside" "[I" : Cond) ∈ px_words := pw_25_sub _ (List.mem_of_getElem? (i := 13) rfl)
theorem wq_923 : (Cond.laysFinal "FromTheMiddleModel" "FromTheMiddleModel" "s" "[I" : Cond) ∈ px_words := pw_25_sub _ (List.mem_of_getElem? (i := 14) rfl)
theorem wq_925 : (Cond.laysFinal "FromTheMiddleModel" "FromTheMiddleModel" "kept" "[I" : Cond) ∈ px_words := pw_25_sub _ (List.mem_of_getElem? (i := 15) rfl)
theorem wq_927 : (Cond.lays "FromTheMiddleModel" "FromTheMiddleModel" "images" "I" : Cond) ∈ px_words := pw_25_sub _ (List.mem_of_getElem? (i := 16) rfl)
theorem wq_929 : (Cond.laysFinal "FromTheMiddleModel" "FromTheMiddleModel" "errors" "[I" : Cond) ∈ px_words := pw_25_sub _ (List.mem_of_getElem? (i := 17) rfl)
theorem wq_931 : (Cond.laysFinal "FromTheMiddleModel" "FromTheMiddleModel" "lows" "[I" : Cond) ∈ px_words := pw_25_sub _ (List.mem_of_getElem? (i := 18) rfl)
theorem wq_933 : (Cond.laysFinal "FromTheMiddleModel" "FromTheMiddleModel" "highs" "[I" : Cond) ∈ px_words := pw_25_sub _ (List.mem_of_getElem? (i := 19) rfl)
theorem wq_935 : (Cond.lays "FromTheMiddleModel" "FromTheMiddleModel" "at" "I" : Cond) ∈ px_words := pw_25_sub _ (List.mem_of_getElem? (i := 20) rfl)
theorem wq_937 : (Cond.lays "FromTheMiddleModel" "FromTheMiddleModel" "open" "I" : Cond) ∈ px_words := pw_25_sub _ (List.mem_of_getElem? (i := 21) rfl)
theorem wq_939 : (Cond.lays "FromTheMiddleModel" "FromTheMiddleModel" "steps" "I" : Cond) ∈ px_words := pw_25_sub _ (List.mem_of_getElem? (i := 22) rfl)
theorem wq_941 : (Cond.lays "FromTheMiddleModel" "FromTheMiddleModel" "use" "I" : Cond) ∈ px_words := pw_25_sub _ (List.mem_of_getElem? (i := 23) rfl)
theorem wq_943 : (Cond.laysFinal "FromTheMiddleModel" "FromTheMiddleModel" "step" "[I" : Cond) ∈ px_words := pw_25_sub _ (List.mem_of_getElem? (i := 24) rfl)
theorem wq_945 : (Cond.laysFinal "FromTheMiddleModel" "FromTheMiddleModel" "named" "[I" : Cond) ∈ px_words := pw_25_sub _ (List.mem_of_getElem? (i := 25) rfl)
theorem wq_947 : (Cond.laysFinal "FromTheMiddleModel" "FromTheMiddleModel" "pile" "[I" : Cond) ∈ px_words := pw_25_sub _ (List.mem_of_getElem? (i := 26) rfl)
theorem wq_949 : (Cond.laysFinal "FromTheMiddleModel" "FromTheMiddleModel" "left" "[I" : Cond) ∈ px_words := pw_25_sub _ (List.mem_of_getElem? (i := 27) rfl)
theorem wq_951 : (Cond.laysFinal "FromTheMiddleModel" "FromTheMiddleModel" "wide" "[I" : Cond) ∈ px_words := pw_25_sub _ (List.mem_of_getElem? (i := 28) rfl)
theorem wq_953 : (Cond.lays "FromTheMiddleModel" "FromTheMiddleModel" "pieces" "I" : Cond) ∈ px_words := pw_25_sub _ (List.mem_of_getElem? (i := 29) rfl)
theorem wq_955 : (Cond.lays "FromTheMiddleModel" "FromTheMiddleModel" "traced" "I" : Cond) ∈ px_words := pw_25_sub _ (List.mem_of_getElem? (i := 30) rfl)
theorem wq_957 : (Cond.laysFinal "FromTheMiddleModel" "FromTheMiddleModel" "trace" "[I" : Cond) ∈ px_words := pw_25_sub _ (List.mem_of_getElem? (i := 31) rfl)
theorem wq_959 : (Cond.lays "FromTheMiddleModel" "FromTheMiddleModel" "speaks" "I" : Cond) ∈ px_words := pw_26_sub _ (List.mem_of_getElem? (i := 0) rfl)
theorem wq_961 : (Cond.lays "FromTheMiddleModel" "FromTheMiddleModel" "isParted" "Z" : Cond) ∈ px_words := pw_26_sub _ (List.mem_of_getElem? (i := 1) rfl)
theorem wq_963 : (Cond.laysFinal "FromTheMiddleModel" "FromTheMiddleModel" "bits" "[I" : Cond) ∈ px_words := pw_26_sub _ (List.mem_of_getElem? (i := 2) rfl)
theorem wq_965 : (Cond.laysFinal "FromTheMiddleModel" "FromTheMiddleModel" "sizes" "[I" : Cond) ∈ px_words := pw_26_sub _ (List.mem_of_getElem? (i := 3) rfl)
theorem wq_967 : (Cond.laysFinal "FromTheMiddleModel" "FromTheMiddleModel" "number" "[I" : Cond) ∈ px_words := pw_26_sub _ (List.mem_of_getElem? (i := 4) rfl)
theorem wq_969 : (Cond.laysFinal "FromTheMiddleModel" "FromTheMiddleModel" "aside" "[I" : Cond) ∈ px_words := pw_26_sub _ (List.mem_of_getElem? (i := 5) rfl)
theorem wq_972 : (Cond.methodLink "FromTheMiddleLaw" 54 ⟨"FromTheMiddleModel", "feed", "(JI)I"⟩ : Cond) ∈ px_words := pw_26_sub _ (List.mem_of_getElem? (i := 6) rfl)
theorem wq_973 : (Cond.instanceMethod ⟨"FromTheMiddleModel", "feed", "(JI)I"⟩ : Cond) ∈ px_words := pw_26_sub _ (List.mem_of_getElem? (i := 7) rfl)
theorem wq_974 : (Cond.selects "FromTheMiddleModel" ⟨"FromTheMiddleModel", "feed", "(JI)I"⟩ ⟨"FromTheMiddleModel", "feed", "(JI)I"⟩ : Cond) ∈ px_words := pw_26_sub _ (List.mem_of_getElem? (i := 8) rfl)
theorem wq_975 : (Cond.code ⟨"FromTheMiddleModel", "feed", "(JI)I"⟩ prog_10_method_11_code 5 (some .int) : Cond) ∈ px_words := pw_26_sub _ (List.mem_of_getElem? (i := 9) rfl)
theorem wq_976 : (Cond.methodLink "FromTheMiddleModel" 56 ⟨"FromTheMiddleModel", "in", "(III)Z"⟩ : Cond) ∈ px_words := pw_26_sub _ (List.mem_of_getElem? (i := 10) rfl)
theorem wq_977 : (Cond.static ⟨"FromTheMiddleModel", "in", "(III)Z"⟩ : Cond) ∈ px_words := pw_26_sub _ (List.mem_of_getElem? (i := 11) rfl)
theorem wq_978 : (Cond.code ⟨"FromTheMiddleModel", "in", "(III)Z"⟩ prog_10_method_3_code 3 (some .boolean) : Cond) ∈ px_words := pw_26_sub _ (List.mem_of_getElem? (i := 12) rfl)
theorem wq_979 : (Cond.methodLink "FromTheMiddleModel" 60 ⟨"FromTheMiddleModel", "error", "(I)I"⟩ : Cond) ∈ px_words := pw_26_sub _ (List.mem_of_getElem? (i := 13) rfl)
theorem wq_981 : (Cond.instanceMethod ⟨"FromTheMiddleModel", "error", "(I)I"⟩ : Cond) ∈ px_words := pw_26_sub _ (List.mem_of_getElem? (i := 14) rfl)
theorem wq_982 : (Cond.code ⟨"FromTheMiddleModel", "error", "(I)I"⟩ prog_10_method_2_code 2 (some .int) : Cond) ∈ px_words := pw_26_sub _ (List.mem_of_getElem? (i := 15) rfl)
theorem wq_983 : (Cond.constant "FromTheMiddleModel" 55 (-1000000000) : Cond) ∈ px_words := pw_26_sub _ (List.mem_of_getElem? (i := 16) rfl)
theorem wq_984 : (Cond.constantLong "FromTheMiddleModel" 64 255 : Cond) ∈ px_words := pw_26_sub _ (List.mem_of_getElem? (i := 17) rfl)
theorem wq_985 : (Cond.methodLink "FromTheMiddleLaw" 58 ⟨"FromTheMiddleModel", "text", "(I)I"⟩ : Cond) ∈ px_words := pw_26_sub _ (List.mem_of_getElem? (i := 18) rfl)
theorem wq_986 : (Cond.instanceMethod ⟨"FromTheMiddleModel", "text", "(I)I"⟩ : Cond) ∈ px_words := pw_26_sub _ (List.mem_of_getElem? (i := 19) rfl)
theorem wq_987 : (Cond.selects "FromTheMiddleModel" ⟨"FromTheMiddleModel", "text", "(I)I"⟩ ⟨"FromTheMiddleModel", "text", "(I)I"⟩ : Cond) ∈ px_words := pw_26_sub _ (List.mem_of_getElem? (i := 20) rfl)
theorem wq_988 : (Cond.code ⟨"FromTheMiddleModel", "text", "(I)I"⟩ prog_10_method_23_code 5 (some .int) : Cond) ∈ px_words := pw_26_sub _ (List.mem_of_getElem? (i := 21) rfl)
theorem wq_989 : (Cond.methodLink "FromTheMiddleModel" 110 ⟨"FromTheMiddleModel", "whole", "()Z"⟩ : Cond) ∈ px_words := pw_26_sub _ (List.mem_of_getElem? (i := 22) rfl)
theorem wq_991 : (Cond.instanceMethod ⟨"FromTheMiddleModel", "whole", "()Z"⟩ : Cond) ∈ px_words := pw_26_sub _ (List.mem_of_getElem? (i := 23) rfl)
theorem wq_992 : (Cond.code ⟨"FromTheMiddleModel", "whole", "()Z"⟩ prog_10_method_15_code 1 (some .boolean) : Cond) ∈ px_words := pw_26_sub _ (List.mem_of_getElem? (i := 24) rfl)
theorem wq_993 : (Cond.methodLink "FromTheMiddleModel" 76 ⟨"FromTheMiddleModel", "both", "()Z"⟩ : Cond) ∈ px_words := pw_26_sub _ (List.mem_of_getElem? (i := 25) rfl)
theorem wq_995 : (Cond.instanceMethod ⟨"FromTheMiddleModel", "both", "()Z"⟩ : Cond) ∈ px_words := pw_26_sub _ (List.mem_of_getElem? (i := 26) rfl)
theorem wq_996 : (Cond.code ⟨"FromTheMiddleModel", "both", "()Z"⟩ prog_10_method_16_code 1 (some .boolean) : Cond) ∈ px_words := pw_26_sub _ (List.mem_of_getElem? (i := 27) rfl)
theorem wq_997 : (Cond.methodLink "FromTheMiddleModel" 88 ⟨"FromTheMiddleModel", "compared", "()Z"⟩ : Cond) ∈ px_words := pw_26_sub _ (List.mem_of_getElem? (i := 28) rfl)
theorem wq_999 : (Cond.instanceMethod ⟨"FromTheMiddleModel", "compared", "()Z"⟩ : Cond) ∈ px_words := pw_26_sub _ (List.mem_of_getElem? (i := 29) rfl)
theorem wq_1000 : (Cond.code ⟨"FromTheMiddleModel", "compared", "()Z"⟩ prog_10_method_17_code 2 (some .boolean) : Cond) ∈ px_words := pw_26_sub _ (List.mem_of_getElem? (i := 30) rfl)
theorem wq_1001 : (Cond.methodLink "FromTheMiddleModel" 91 ⟨"FromTheMiddleModel", "sum", "()Z"⟩ : Cond) ∈ px_words := pw_26_sub _ (List.mem_of_getElem? (i := 31) rfl)
theorem wq_1003 : (Cond.instanceMethod ⟨"FromTheMiddleModel", "sum", "()Z"⟩ : Cond) ∈ px_words := pw_27_sub _ (List.mem_of_getElem? (i := 0) rfl)
theorem wq_1004 : (Cond.code ⟨"FromTheMiddleModel", "sum", "()Z"⟩ prog_10_method_18_code 2 (some .boolean) : Cond) ∈ px_words := pw_27_sub _ (List.mem_of_getElem? (i := 1) rfl)
theorem wq_1005 : (Cond.methodLink "FromTheMiddleModel" 94 ⟨"FromTheMiddleModel", "product", "()Z"⟩ : Cond) ∈ px_words := pw_27_sub _ (List.mem_of_getElem? (i := 2) rfl)
theorem wq_1007 : (Cond.instanceMethod ⟨"FromTheMiddleModel", "product", "()Z"⟩ : Cond) ∈ px_words := pw_27_sub _ (List.mem_of_getElem? (i := 3) rfl)
theorem wq_1008 : (Cond.code ⟨"FromTheMiddleModel", "product", "()Z"⟩ prog_10_method_19_code 2 (some .boolean) : Cond) ∈ px_words := pw_27_sub _ (List.mem_of_getElem? (i := 4) rfl)
theorem wq_1009 : (Cond.methodLink "FromTheMiddleModel" 97 ⟨"FromTheMiddleModel", "one", "()Z"⟩ : Cond) ∈ px_words := pw_27_sub _ (List.mem_of_getElem? (i := 5) rfl)
theorem wq_1011 : (Cond.instanceMethod ⟨"FromTheMiddleModel", "one", "()Z"⟩ : Cond) ∈ px_words := pw_27_sub _ (List.mem_of_getElem? (i := 6) rfl)
theorem wq_1012 : (Cond.code ⟨"FromTheMiddleModel", "one", "()Z"⟩ prog_10_method_21_code 4 (some .boolean) : Cond) ∈ px_words := pw_27_sub _ (List.mem_of_getElem? (i := 7) rfl)
theorem wq_1013 : (Cond.methodLink "FromTheMiddleModel" 80 ⟨"FromTheMiddleModel", "look", "()I"⟩ : Cond) ∈ px_words := pw_27_sub _ (List.mem_of_getElem? (i := 8) rfl)
theorem wq_1015 : (Cond.instanceMethod ⟨"FromTheMiddleModel", "look", "()I"⟩ : Cond) ∈ px_words := pw_27_sub _ (List.mem_of_getElem? (i := 9) rfl)
theorem wq_1016 : (Cond.code ⟨"FromTheMiddleModel", "look", "()I"⟩ prog_10_method_12_code 1 (some .int) : Cond) ∈ px_words := pw_27_sub _ (List.mem_of_getElem? (i := 10) rfl)
theorem wq_1017 : (Cond.methodLink "FromTheMiddleModel" 103 ⟨"FromTheMiddleModel", "isName", "(I)Z"⟩ : Cond) ∈ px_words := pw_27_sub _ (List.mem_of_getElem? (i := 11) rfl)
theorem wq_1019 : (Cond.instanceMethod ⟨"FromTheMiddleModel", "isName", "(I)Z"⟩ : Cond) ∈ px_words := pw_27_sub _ (List.mem_of_getElem? (i := 12) rfl)
theorem wq_1020 : (Cond.code ⟨"FromTheMiddleModel", "isName", "(I)Z"⟩ prog_10_method_13_code 2 (some .boolean) : Cond) ∈ px_words := pw_27_sub _ (List.mem_of_getElem? (i := 13) rfl)
theorem wq_1021 : (Cond.methodLink "FromTheMiddleModel" 84 ⟨"FromTheMiddleModel", "step1", "(II)V"⟩ : Cond) ∈ px_words := pw_27_sub _ (List.mem_of_getElem? (i := 14) rfl)
theorem wq_1023 : (Cond.instanceMethod ⟨"FromTheMiddleModel", "step1", "(II)V"⟩ : Cond) ∈ px_words := pw_27_sub _ (List.mem_of_getElem? (i := 15) rfl)
theorem wq_1024 : (Cond.code ⟨"FromTheMiddleModel", "step1", "(II)V"⟩ prog_10_method_14_code 3 none : Cond) ∈ px_words := pw_27_sub _ (List.mem_of_getElem? (i := 16) rfl)
theorem wq_1025 : (Cond.methodLink "FromTheMiddleModel" 107 ⟨"FromTheMiddleModel", "opens", "()Z"⟩ : Cond) ∈ px_words := pw_27_sub _ (List.mem_of_getElem? (i := 17) rfl)
theorem wq_1027 : (Cond.instanceMethod ⟨"FromTheMiddleModel", "opens", "()Z"⟩ : Cond) ∈ px_words := pw_27_sub _ (List.mem_of_getElem? (i := 18) rfl)
theorem wq_1028 : (Cond.code ⟨"FromTheMiddleModel", "opens", "()Z"⟩ prog_10_method_20_code 1 (some .boolean) : Cond) ∈ px_words := pw_27_sub _ (List.mem_of_getElem? (i := 19) rfl)
theorem wq_1029 : (Cond.methodLink "FromTheMiddleLaw" 62 ⟨"FromTheMiddleModel", "untell", "(I)I"⟩ : Cond) ∈ px_words := pw_27_sub _ (List.mem_of_getElem? (i := 20) rfl)
theorem wq_1030 : (Cond.instanceMethod ⟨"FromTheMiddleModel", "untell", "(I)I"⟩ : Cond) ∈ px_words := pw_27_sub _ (List.mem_of_getElem? (i := 21) rfl)
theorem wq_1031 : (Cond.selects "FromTheMiddleModel" ⟨"FromTheMiddleModel", "untell", "(I)I"⟩ ⟨"FromTheMiddleModel", "untell", "(I)I"⟩ : Cond) ∈ px_words := pw_27_sub _ (List.mem_of_getElem? (i := 22) rfl)
theorem wq_1032 : (Cond.code ⟨"FromTheMiddleModel", "untell", "(I)I"⟩ prog_10_method_24_code 3 (some .int) : Cond) ∈ px_words := pw_27_sub _ (List.mem_of_getElem? (i := 23) rfl)
theorem wq_1033 : (Cond.methodLink "FromTheMiddleModel" 113 ⟨"FromTheMiddleModel", "hasText", "(I)Z"⟩ : Cond) ∈ px_words := pw_27_sub _ (List.mem_of_getElem? (i := 24) rfl)
theorem wq_1035 : (Cond.instanceMethod ⟨"FromTheMiddleModel", "hasText", "(I)Z"⟩ : Cond) ∈ px_words := pw_27_sub _ (List.mem_of_getElem? (i := 25) rfl)
theorem wq_1036 : (Cond.code ⟨"FromTheMiddleModel", "hasText", "(I)Z"⟩ prog_10_method_22_code 2 (some .boolean) : Cond) ∈ px_words := pw_27_sub _ (List.mem_of_getElem? (i := 26) rfl)
theorem wq_1037 : (Cond.methodLink "FromTheMiddleLaw" 17 ⟨"FromTheMiddleModel", "wall", "(II)I"⟩ : Cond) ∈ px_words := pw_27_sub _ (List.mem_of_getElem? (i := 27) rfl)
theorem wq_1038 : (Cond.instanceMethod ⟨"FromTheMiddleModel", "wall", "(II)I"⟩ : Cond) ∈ px_words := pw_27_sub _ (List.mem_of_getElem? (i := 28) rfl)
theorem wq_1039 : (Cond.selects "FromTheMiddleModel" ⟨"FromTheMiddleModel", "wall", "(II)I"⟩ ⟨"FromTheMiddleModel", "wall", "(II)I"⟩ : Cond) ∈ px_words := pw_27_sub _ (List.mem_of_getElem? (i := 29) rfl)
theorem wq_1040 : (Cond.code ⟨"FromTheMiddleModel", "wall", "(II)I"⟩ prog_10_method_44_code 3 (some .int) : Cond) ∈ px_words := pw_27_sub _ (List.mem_of_getElem? (i := 30) rfl)
theorem wq_1041 : (Cond.methodLink "FromTheMiddleModel" 176 ⟨"FromTheMiddleModel", "change1", "(II)I"⟩ : Cond) ∈ px_words := pw_27_sub _ (List.mem_of_getElem? (i := 31) rfl)
theorem wq_1043 : (Cond.instanceMethod ⟨"FromTheMiddleModel", "change1", "(II)I"⟩ : Cond) ∈ px_words := pw_28_sub _ (List.mem_of_getElem? (i := 0) rfl)
theorem wq_1044 : (Cond.code ⟨"FromTheMiddleModel", "change1", "(II)I"⟩ prog_10_method_10_code 4 (some .int) : Cond) ∈ px_words := pw_28_sub _ (List.mem_of_getElem? (i := 1) rfl)
theorem wq_1045 : (Cond.methodLink "FromTheMiddleLaw" 22 ⟨"FromTheMiddleModel", "wallIs", "(I)I"⟩ : Cond) ∈ px_words := pw_28_sub _ (List.mem_of_getElem? (i := 2) rfl)
theorem wq_1046 : (Cond.instanceMethod ⟨"FromTheMiddleModel", "wallIs", "(I)I"⟩ : Cond) ∈ px_words := pw_28_sub _ (List.mem_of_getElem? (i := 3) rfl)
theorem wq_1047 : (Cond.selects "FromTheMiddleModel" ⟨"FromTheMiddleModel", "wallIs", "(I)I"⟩ ⟨"FromTheMiddleModel", "wallIs", "(I)I"⟩ : Cond) ∈ px_words := pw_28_sub _ (List.mem_of_getElem? (i := 4) rfl)
theorem wq_1048 : (Cond.code ⟨"FromTheMiddleModel", "wallIs", "(I)I"⟩ prog_10_method_45_code 2 (some .int) : Cond) ∈ px_words := pw_28_sub _ (List.mem_of_getElem? (i := 5) rfl)
theorem wq_1049 : (Cond.methodLink "FromTheMiddleLaw" 26 ⟨"FromTheMiddleModel", "begin", "(I)I"⟩ : Cond) ∈ px_words := pw_28_sub _ (List.mem_of_getElem? (i := 6) rfl)
theorem wq_1050 : (Cond.instanceMethod ⟨"FromTheMiddleModel", "begin", "(I)I"⟩ : Cond) ∈ px_words := pw_28_sub _ (List.mem_of_getElem? (i := 7) rfl)
theorem wq_1051 : (Cond.selects "FromTheMiddleModel" ⟨"FromTheMiddleModel", "begin", "(I)I"⟩ ⟨"FromTheMiddleModel", "begin", "(I)I"⟩ : Cond) ∈ px_words := pw_28_sub _ (List.mem_of_getElem? (i := 8) rfl)
theorem wq_1052 : (Cond.code ⟨"FromTheMiddleModel", "begin", "(I)I"⟩ prog_10_method_46_code 2 (some .int) : Cond) ∈ px_words := pw_28_sub _ (List.mem_of_getElem? (i := 9) rfl)
theorem wq_1053 : (Cond.methodLink "FromTheMiddleLaw" 31 ⟨"FromTheMiddleModel", "thing", "(III)I"⟩ : Cond) ∈ px_words := pw_28_sub _ (List.mem_of_getElem? (i := 10) rfl)
theorem wq_1054 : (Cond.instanceMethod ⟨"FromTheMiddleModel", "thing", "(III)I"⟩ : Cond) ∈ px_words := pw_28_sub _ (List.mem_of_getElem? (i := 11) rfl)
theorem wq_1055 : (Cond.selects "FromTheMiddleModel" ⟨"FromTheMiddleModel", "thing", "(III)I"⟩ ⟨"FromTheMiddleModel", "thing", "(III)I"⟩ : Cond) ∈ px_words := pw_28_sub _ (List.mem_of_getElem? (i := 12) rfl)
theorem wq_1056 : (Cond.code ⟨"FromTheMiddleModel", "thing", "(III)I"⟩ prog_10_method_48_code 5 (some .int) : Cond) ∈ px_words := pw_28_sub _ (List.mem_of_getElem? (i := 13) rfl)
theorem wq_1057 : (Cond.methodLink "FromTheMiddleModel" 179 ⟨"FromTheMiddleModel", "isKind", "(I)Z"⟩ : Cond) ∈ px_words := pw_28_sub _ (List.mem_of_getElem? (i := 14) rfl)
theorem wq_1058 : (Cond.static ⟨"FromTheMiddleModel", "isKind", "(I)Z"⟩ : Cond) ∈ px_words := pw_28_sub _ (List.mem_of_getElem? (i := 15) rfl)
theorem wq_1059 : (Cond.code ⟨"FromTheMiddleModel", "isKind", "(I)Z"⟩ prog_10_method_47_code 1 (some .boolean) : Cond) ∈ px_words := pw_28_sub _ (List.mem_of_getElem? (i := 16) rfl)
theorem wq_1060 : (Cond.methodLink "FromTheMiddleModel" 182 ⟨"FromTheMiddleModel", "lays1", "(III)V"⟩ : Cond) ∈ px_words := pw_28_sub _ (List.mem_of_getElem? (i := 17) rfl)
theorem wq_1062 : (Cond.instanceMethod ⟨"FromTheMiddleModel", "lays1", "(III)V"⟩ : Cond) ∈ px_words := pw_28_sub _ (List.mem_of_getElem? (i := 18) rfl)
theorem wq_1063 : (Cond.code ⟨"FromTheMiddleModel", "lays1", "(III)V"⟩ prog_10_method_9_code 4 none : Cond) ∈ px_words := pw_28_sub _ (List.mem_of_getElem? (i := 19) rfl)
theorem wq_1064 : (Cond.methodLink "FromTheMiddleLaw" 35 ⟨"FromTheMiddleModel", "thingIs", "(II)I"⟩ : Cond) ∈ px_words := pw_28_sub _ (List.mem_of_getElem? (i := 20) rfl)
theorem wq_1065 : (Cond.instanceMethod ⟨"FromTheMiddleModel", "thingIs", "(II)I"⟩ : Cond) ∈ px_words := pw_28_sub _ (List.mem_of_getElem? (i := 21) rfl)
theorem wq_1066 : (Cond.selects "FromTheMiddleModel" ⟨"FromTheMiddleModel", "thingIs", "(II)I"⟩ ⟨"FromTheMiddleModel", "thingIs", "(II)I"⟩ : Cond) ∈ px_words := pw_28_sub _ (List.mem_of_getElem? (i := 22) rfl)
theorem wq_1067 : (Cond.code ⟨"FromTheMiddleModel", "thingIs", "(II)I"⟩ prog_10_method_49_code 3 (some .int) : Cond) ∈ px_words := pw_28_sub _ (List.mem_of_getElem? (i := 23) rfl)
theorem wq_1068 : (Cond.methodLink "FromTheMiddleModel" 186 ⟨"FromTheMiddleModel", "isThing", "(I)Z"⟩ : Cond) ∈ px_words := pw_28_sub _ (List.mem_of_getElem? (i := 24) rfl)
theorem wq_1070 : (Cond.instanceMethod ⟨"FromTheMiddleModel", "isThing", "(I)Z"⟩ : Cond) ∈ px_words := pw_28_sub _ (List.mem_of_getElem? (i := 25) rfl)
theorem wq_1071 : (Cond.code ⟨"FromTheMiddleModel", "isThing", "(I)Z"⟩ prog_10_method_6_code 2 (some .boolean) : Cond) ∈ px_words := pw_28_sub _ (List.mem_of_getElem? (i := 26) rfl)
theorem wq_1072 : (Cond.methodLink "FromTheMiddleModel" 146 ⟨"FromTheMiddleModel", "its", "(II)I"⟩ : Cond) ∈ px_words := pw_28_sub _ (List.mem_of_getElem? (i := 27) rfl)
theorem wq_1074 : (Cond.instanceMethod ⟨"FromTheMiddleModel", "its", "(II)I"⟩ : Cond) ∈ px_words := pw_28_sub _ (List.mem_of_getElem? (i := 28) rfl)
theorem wq_1075 : (Cond.code ⟨"FromTheMiddleModel", "its", "(II)I"⟩ prog_10_method_8_code 3 (some .int) : Cond) ∈ px_words := pw_28_sub _ (List.mem_of_getElem? (i := 29) rfl)
theorem wq_1076 : (Cond.methodLink "FromTheMiddleLaw" 39 ⟨"FromTheMiddleModel", "become", "(II)I"⟩ : Cond) ∈ px_words := pw_28_sub _ (List.mem_of_getElem? (i := 30) rfl)
theorem wq_1077 : (Cond.instanceMethod ⟨"FromTheMiddleModel", "become", "(II)I"⟩ : Cond) ∈ px_words := pw_28_sub _ (List.mem_of_getElem? (i := 31) rfl)
theorem wq_1078 : (Cond.selects "FromTheMiddleModel" ⟨"FromTheMiddleModel", "become", "(II)I"⟩ ⟨"FromTheMiddleModel", "become", "(II)I"⟩ : Cond) ∈ px_words := pw_29_sub _ (List.mem_of_getElem? (i := 0) rfl)
theorem wq_1079 : (Cond.code ⟨"FromTheMiddleModel", "become", "(II)I"⟩ prog_10_method_50_code 3 (some .int) : Cond) ∈ px_words := pw_29_sub _ (List.mem_of_getElem? (i := 1) rfl)
theorem wq_1080 : (Cond.methodLink "FromTheMiddleLaw" 43 ⟨"FromTheMiddleModel", "as", "(II)I"⟩ : Cond) ∈ px_words := pw_29_sub _ (List.mem_of_getElem? (i := 2) rfl)
theorem wq_1081 : (Cond.instanceMethod ⟨"FromTheMiddleModel", "as", "(II)I"⟩ : Cond) ∈ px_words := pw_29_sub _ (List.mem_of_getElem? (i := 3) rfl)
theorem wq_1082 : (Cond.selects "FromTheMiddleModel" ⟨"FromTheMiddleModel", "as", "(II)I"⟩ ⟨"FromTheMiddleModel", "as", "(II)I"⟩ : Cond) ∈ px_words := pw_29_sub _ (List.mem_of_getElem? (i := 4) rfl)
theorem wq_1083 : (Cond.code ⟨"FromTheMiddleModel", "as", "(II)I"⟩ prog_10_method_51_code 4 (some .int) : Cond) ∈ px_words := pw_29_sub _ (List.mem_of_getElem? (i := 5) rfl)
theorem wq_1084 : (Cond.methodLink "FromTheMiddleModel" 189 ⟨"FromTheMiddleModel", "above", "(I)I"⟩ : Cond) ∈ px_words := pw_29_sub _ (List.mem_of_getElem? (i := 6) rfl)
theorem wq_1085 : (Cond.static ⟨"FromTheMiddleModel", "above", "(I)I"⟩ : Cond) ∈ px_words := pw_29_sub _ (List.mem_of_getElem? (i := 7) rfl)
theorem wq_1086 : (Cond.code ⟨"FromTheMiddleModel", "above", "(I)I"⟩ prog_10_method_71_code 1 (some .int) : Cond) ∈ px_words := pw_29_sub _ (List.mem_of_getElem? (i := 8) rfl)
theorem wq_1087 : (Cond.methodLink "FromTheMiddleLaw" 47 ⟨"FromTheMiddleModel", "hang", "(II)I"⟩ : Cond) ∈ px_words := pw_29_sub _ (List.mem_of_getElem? (i := 9) rfl)
theorem wq_1088 : (Cond.instanceMethod ⟨"FromTheMiddleModel", "hang", "(II)I"⟩ : Cond) ∈ px_words := pw_29_sub _ (List.mem_of_getElem? (i := 10) rfl)
theorem wq_1089 : (Cond.selects "FromTheMiddleModel" ⟨"FromTheMiddleModel", "hang", "(II)I"⟩ ⟨"FromTheMiddleModel", "hang", "(II)I"⟩ : Cond) ∈ px_words := pw_29_sub _ (List.mem_of_getElem? (i := 11) rfl)
theorem wq_1090 : (Cond.code ⟨"FromTheMiddleModel", "hang", "(II)I"⟩ prog_10_method_52_code 3 (some .int) : Cond) ∈ px_words := pw_29_sub _ (List.mem_of_getElem? (i := 12) rfl)
theorem wq_1091 : (Cond.methodLink "FromTheMiddleLaw" 67 ⟨"FromTheMiddleModel", "law", "(IIII)I"⟩ : Cond) ∈ px_words := pw_29_sub _ (List.mem_of_getElem? (i := 13) rfl)
theorem wq_1092 : (Cond.instanceMethod ⟨"FromTheMiddleModel", "law", "(IIII)I"⟩ : Cond) ∈ px_words := pw_29_sub _ (List.mem_of_getElem? (i := 14) rfl)
theorem wq_1093 : (Cond.selects "FromTheMiddleModel" ⟨"FromTheMiddleModel", "law", "(IIII)I"⟩ ⟨"FromTheMiddleModel", "law", "(IIII)I"⟩ : Cond) ∈ px_words := pw_29_sub _ (List.mem_of_getElem? (i := 15) rfl)
theorem wq_1094 : (Cond.code ⟨"FromTheMiddleModel", "law", "(IIII)I"⟩ prog_10_method_53_code 5 (some .int) : Cond) ∈ px_words := pw_29_sub _ (List.mem_of_getElem? (i := 16) rfl)
theorem wq_1095 : (Cond.methodLink "FromTheMiddleModel" 192 ⟨"FromTheMiddleModel", "brokenTold", "(III)I"⟩ : Cond) ∈ px_words := pw_29_sub _ (List.mem_of_getElem? (i := 17) rfl)
theorem wq_1097 : (Cond.instanceMethod ⟨"FromTheMiddleModel", "brokenTold", "(III)I"⟩ : Cond) ∈ px_words := pw_29_sub _ (List.mem_of_getElem? (i := 18) rfl)
theorem wq_1098 : (Cond.code ⟨"FromTheMiddleModel", "brokenTold", "(III)I"⟩ prog_10_method_40_code 4 (some .int) : Cond) ∈ px_words := pw_29_sub _ (List.mem_of_getElem? (i := 19) rfl)
theorem wq_1099 : (Cond.methodLink "FromTheMiddleModel" 161 ⟨"FromTheMiddleModel", "worked", "(I)I"⟩ : Cond) ∈ px_words := pw_29_sub _ (List.mem_of_getElem? (i := 20) rfl)
theorem wq_1101 : (Cond.instanceMethod ⟨"FromTheMiddleModel", "worked", "(I)I"⟩ : Cond) ∈ px_words := pw_29_sub _ (List.mem_of_getElem? (i := 21) rfl)
theorem wq_1102 : (Cond.code ⟨"FromTheMiddleModel", "worked", "(I)I"⟩ prog_10_method_26_code 7 (some .int) : Cond) ∈ px_words := pw_29_sub _ (List.mem_of_getElem? (i := 22) rfl)
theorem wq_1103 : (Cond.methodLink "FromTheMiddleModel" 116 ⟨"FromTheMiddleModel", "joined", "(III)I"⟩ : Cond) ∈ px_words := pw_29_sub _ (List.mem_of_getElem? (i := 23) rfl)
theorem wq_1104 : (Cond.static ⟨"FromTheMiddleModel", "joined", "(III)I"⟩ : Cond) ∈ px_words := pw_29_sub _ (List.mem_of_getElem? (i := 24) rfl)
theorem wq_1105 : (Cond.code ⟨"FromTheMiddleModel", "joined", "(III)I"⟩ prog_10_method_25_code 3 (some .int) : Cond) ∈ px_words := pw_29_sub _ (List.mem_of_getElem? (i := 25) rfl)
theorem wq_1106 : (Cond.methodLink "FromTheMiddleModel" 164 ⟨"FromTheMiddleModel", "held", "(III)I"⟩ : Cond) ∈ px_words := pw_29_sub _ (List.mem_of_getElem? (i := 26) rfl)
theorem wq_1107 : (Cond.static ⟨"FromTheMiddleModel", "held", "(III)I"⟩ : Cond) ∈ px_words := pw_29_sub _ (List.mem_of_getElem? (i := 27) rfl)
theorem wq_1108 : (Cond.code ⟨"FromTheMiddleModel", "held", "(III)I"⟩ prog_10_method_4_code 3 (some .int) : Cond) ∈ px_words := pw_29_sub _ (List.mem_of_getElem? (i := 28) rfl)
theorem wq_1109 : (Cond.methodLink "FromTheMiddleModel" 170 ⟨"FromTheMiddleModel", "harmTold", "(III)I"⟩ : Cond) ∈ px_words := pw_29_sub _ (List.mem_of_getElem? (i := 29) rfl)
theorem wq_1111 : (Cond.instanceMethod ⟨"FromTheMiddleModel", "harmTold", "(III)I"⟩ : Cond) ∈ px_words := pw_29_sub _ (List.mem_of_getElem? (i := 30) rfl)
theorem wq_1112 : (Cond.code ⟨"FromTheMiddleModel", "harmTold", "(III)I"⟩ prog_10_method_41_code 4 (some .int) : Cond) ∈ px_words := pw_29_sub _ (List.mem_of_getElem? (i := 31) rfl)
theorem wq_1113 : (Cond.methodLink "FromTheMiddleLaw" 71 ⟨"FromTheMiddleModel", "piece", "(II)I"⟩ : Cond) ∈ px_words := pw_30_sub _ (List.mem_of_getElem? (i := 0) rfl)
theorem wq_1114 : (Cond.instanceMethod ⟨"FromTheMiddleModel", "piece", "(II)I"⟩ : Cond) ∈ px_words := pw_30_sub _ (List.mem_of_getElem? (i := 1) rfl)
theorem wq_1115 : (Cond.selects "FromTheMiddleModel" ⟨"FromTheMiddleModel", "piece", "(II)I"⟩ ⟨"FromTheMiddleModel", "piece", "(II)I"⟩ : Cond) ∈ px_words := pw_30_sub _ (List.mem_of_getElem? (i := 2) rfl)
theorem wq_1116 : (Cond.code ⟨"FromTheMiddleModel", "piece", "(II)I"⟩ prog_10_method_54_code 3 (some .int) : Cond) ∈ px_words := pw_30_sub _ (List.mem_of_getElem? (i := 3) rfl)
theorem wq_1117 : (Cond.methodLink "FromTheMiddleModel" 195 ⟨"FromTheMiddleModel", "isRow", "(I)Z"⟩ : Cond) ∈ px_words := pw_30_sub _ (List.mem_of_getElem? (i := 4) rfl)
theorem wq_1119 : (Cond.instanceMethod ⟨"FromTheMiddleModel", "isRow", "(I)Z"⟩ : Cond) ∈ px_words := pw_30_sub _ (List.mem_of_getElem? (i := 5) rfl)
theorem wq_1120 : (Cond.code ⟨"FromTheMiddleModel", "isRow", "(I)Z"⟩ prog_10_method_7_code 2 (some .boolean) : Cond) ∈ px_words := pw_30_sub _ (List.mem_of_getElem? (i := 6) rfl)
theorem wq_1121 : (Cond.methodLink "FromTheMiddleModel" 129 ⟨"FromTheMiddleModel", "layRow", "(I)V"⟩ : Cond) ∈ px_words := pw_30_sub _ (List.mem_of_getElem? (i := 7) rfl)
theorem wq_1123 : (Cond.instanceMethod ⟨"FromTheMiddleModel", "layRow", "(I)V"⟩ : Cond) ∈ px_words := pw_30_sub _ (List.mem_of_getElem? (i := 8) rfl)
theorem wq_1124 : (Cond.code ⟨"FromTheMiddleModel", "layRow", "(I)V"⟩ prog_10_method_29_code 5 none : Cond) ∈ px_words := pw_30_sub _ (List.mem_of_getElem? (i := 9) rfl)
theorem wq_1125 : (Cond.methodLink "FromTheMiddleModel" 120 ⟨"FromTheMiddleModel", "longOf", "(I)I"⟩ : Cond) ∈ px_words := pw_30_sub _ (List.mem_of_getElem? (i := 10) rfl)
theorem wq_1127 : (Cond.instanceMethod ⟨"FromTheMiddleModel", "longOf", "(I)I"⟩ : Cond) ∈ px_words := pw_30_sub _ (List.mem_of_getElem? (i := 11) rfl)
theorem wq_1128 : (Cond.code ⟨"FromTheMiddleModel", "longOf", "(I)I"⟩ prog_10_method_27_code 3 (some .int) : Cond) ∈ px_words := pw_30_sub _ (List.mem_of_getElem? (i := 12) rfl)
theorem wq_1129 : (Cond.methodLink "FromTheMiddleModel" 123 ⟨"FromTheMiddleModel", "firstOf", "(I)I"⟩ : Cond) ∈ px_words := pw_30_sub _ (List.mem_of_getElem? (i := 13) rfl)
theorem wq_1131 : (Cond.instanceMethod ⟨"FromTheMiddleModel", "firstOf", "(I)I"⟩ : Cond) ∈ px_words := pw_30_sub _ (List.mem_of_getElem? (i := 14) rfl)
theorem wq_1132 : (Cond.code ⟨"FromTheMiddleModel", "firstOf", "(I)I"⟩ prog_10_method_28_code 3 (some .int) : Cond) ∈ px_words := pw_30_sub _ (List.mem_of_getElem? (i := 15) rfl)
theorem wq_1133 : (Cond.methodLink "FromTheMiddleLaw" 75 ⟨"FromTheMiddleModel", "rowIs", "(II)I"⟩ : Cond) ∈ px_words := pw_30_sub _ (List.mem_of_getElem? (i := 16) rfl)
theorem wq_1134 : (Cond.instanceMethod ⟨"FromTheMiddleModel", "rowIs", "(II)I"⟩ : Cond) ∈ px_words := pw_30_sub _ (List.mem_of_getElem? (i := 17) rfl)
theorem wq_1135 : (Cond.selects "FromTheMiddleModel" ⟨"FromTheMiddleModel", "rowIs", "(II)I"⟩ ⟨"FromTheMiddleModel", "rowIs", "(II)I"⟩ : Cond) ∈ px_words := pw_30_sub _ (List.mem_of_getElem? (i := 18) rfl)
theorem wq_1136 : (Cond.code ⟨"FromTheMiddleModel", "rowIs", "(II)I"⟩ prog_10_method_55_code 3 (some .int) : Cond) ∈ px_words := pw_30_sub _ (List.mem_of_getElem? (i := 19) rfl)
theorem wq_1137 : (Cond.methodLink "FromTheMiddleModel" 133 ⟨"FromTheMiddleModel", "cutsLaid", "()I"⟩ : Cond) ∈ px_words := pw_30_sub _ (List.mem_of_getElem? (i := 20) rfl)
theorem wq_1139 : (Cond.instanceMethod ⟨"FromTheMiddleModel", "cutsLaid", "()I"⟩ : Cond) ∈ px_words := pw_30_sub _ (List.mem_of_getElem? (i := 21) rfl)
theorem wq_1140 : (Cond.code ⟨"FromTheMiddleModel", "cutsLaid", "()I"⟩ prog_10_method_30_code 3 (some .int) : Cond) ∈ px_words := pw_30_sub _ (List.mem_of_getElem? (i := 22) rfl)
theorem wq_1141 : (Cond.methodLink "FromTheMiddleModel" 136 ⟨"FromTheMiddleModel", "narrowestLaid", "()I"⟩ : Cond) ∈ px_words := pw_30_sub _ (List.mem_of_getElem? (i := 23) rfl)
theorem wq_1143 : (Cond.instanceMethod ⟨"FromTheMiddleModel", "narrowestLaid", "()I"⟩ : Cond) ∈ px_words := pw_30_sub _ (List.mem_of_getElem? (i := 24) rfl)
theorem wq_1144 : (Cond.code ⟨"FromTheMiddleModel", "narrowestLaid", "()I"⟩ prog_10_method_32_code 3 (some .int) : Cond) ∈ px_words := pw_30_sub _ (List.mem_of_getElem? (i := 25) rfl)
theorem wq_1145 : (Cond.methodLink "FromTheMiddleLaw" 79 ⟨"FromTheMiddleModel", "seen", "(III)I"⟩ : Cond) ∈ px_words := pw_30_sub _ (List.mem_of_getElem? (i := 26) rfl)
theorem wq_1146 : (Cond.instanceMethod ⟨"FromTheMiddleModel", "seen", "(III)I"⟩ : Cond) ∈ px_words := pw_30_sub _ (List.mem_of_getElem? (i := 27) rfl)
theorem wq_1147 : (Cond.selects "FromTheMiddleModel" ⟨"FromTheMiddleModel", "seen", "(III)I"⟩ ⟨"FromTheMiddleModel", "seen", "(III)I"⟩ : Cond) ∈ px_words := pw_30_sub _ (List.mem_of_getElem? (i := 28) rfl)
theorem wq_1148 : (Cond.code ⟨"FromTheMiddleModel", "seen", "(III)I"⟩ prog_10_method_56_code 6 (some .int) : Cond) ∈ px_words := pw_30_sub _ (List.mem_of_getElem? (i := 29) rfl)
theorem wq_1149 : (Cond.methodLink "FromTheMiddleModel" 149 ⟨"FromTheMiddleModel", "jointsOn", "(II)I"⟩ : Cond) ∈ px_words := pw_30_sub _ (List.mem_of_getElem? (i := 30) rfl)
theorem wq_1151 : (Cond.instanceMethod ⟨"FromTheMiddleModel", "jointsOn", "(II)I"⟩ : Cond) ∈ px_words := pw_30_sub _ (List.mem_of_getElem? (i := 31) rfl)
theorem wq_1152 : (Cond.code ⟨"FromTheMiddleModel", "jointsOn", "(II)I"⟩ prog_10_method_34_code 5 (some .int) : Cond) ∈ px_words := pw_31_sub _ (List.mem_of_getElem? (i := 0) rfl)
theorem wq_1153 : (Cond.methodLink "FromTheMiddleModel" 152 ⟨"FromTheMiddleModel", "gapOn", "(II)I"⟩ : Cond) ∈ px_words := pw_31_sub _ (List.mem_of_getElem? (i := 1) rfl)
theorem wq_1155 : (Cond.instanceMethod ⟨"FromTheMiddleModel", "gapOn", "(II)I"⟩ : Cond) ∈ px_words := pw_31_sub _ (List.mem_of_getElem? (i := 2) rfl)
theorem wq_1156 : (Cond.code ⟨"FromTheMiddleModel", "gapOn", "(II)I"⟩ prog_10_method_36_code 7 (some .int) : Cond) ∈ px_words := pw_31_sub _ (List.mem_of_getElem? (i := 3) rfl)
theorem wq_1157 : (Cond.methodLink "FromTheMiddleModel" 142 ⟨"FromTheMiddleModel", "apart", "(II)I"⟩ : Cond) ∈ px_words := pw_31_sub _ (List.mem_of_getElem? (i := 4) rfl)
theorem wq_1158 : (Cond.static ⟨"FromTheMiddleModel", "apart", "(II)I"⟩ : Cond) ∈ px_words := pw_31_sub _ (List.mem_of_getElem? (i := 5) rfl)
theorem wq_1159 : (Cond.code ⟨"FromTheMiddleModel", "apart", "(II)I"⟩ prog_10_method_35_code 2 (some .int) : Cond) ∈ px_words := pw_31_sub _ (List.mem_of_getElem? (i := 6) rfl)
theorem wq_1160 : (Cond.methodLink "FromTheMiddleModel" 155 ⟨"FromTheMiddleModel", "touchesOn", "(II)I"⟩ : Cond) ∈ px_words := pw_31_sub _ (List.mem_of_getElem? (i := 7) rfl)
theorem wq_1162 : (Cond.instanceMethod ⟨"FromTheMiddleModel", "touchesOn", "(II)I"⟩ : Cond) ∈ px_words := pw_31_sub _ (List.mem_of_getElem? (i := 8) rfl)
theorem wq_1163 : (Cond.code ⟨"FromTheMiddleModel", "touchesOn", "(II)I"⟩ prog_10_method_37_code 5 (some .int) : Cond) ∈ px_words := pw_31_sub _ (List.mem_of_getElem? (i := 9) rfl)
theorem wq_1164 : (Cond.methodLink "FromTheMiddleModel" 158 ⟨"FromTheMiddleModel", "hidesOn", "(II)I"⟩ : Cond) ∈ px_words := pw_31_sub _ (List.mem_of_getElem? (i := 10) rfl)
theorem wq_1166 : (Cond.instanceMethod ⟨"FromTheMiddleModel", "hidesOn", "(II)I"⟩ : Cond) ∈ px_words := pw_31_sub _ (List.mem_of_getElem? (i := 11) rfl)
theorem wq_1167 : (Cond.code ⟨"FromTheMiddleModel", "hidesOn", "(II)I"⟩ prog_10_method_38_code 5 (some .int) : Cond) ∈ px_words := pw_31_sub _ (List.mem_of_getElem? (i := 12) rfl)
theorem wq_1168 : (Cond.methodLink "FromTheMiddleModel" 173 ⟨"FromTheMiddleModel", "harmOn", "(I)I"⟩ : Cond) ∈ px_words := pw_31_sub _ (List.mem_of_getElem? (i := 13) rfl)
theorem wq_1170 : (Cond.instanceMethod ⟨"FromTheMiddleModel", "harmOn", "(I)I"⟩ : Cond) ∈ px_words := pw_31_sub _ (List.mem_of_getElem? (i := 14) rfl)
theorem wq_1171 : (Cond.code ⟨"FromTheMiddleModel", "harmOn", "(I)I"⟩ prog_10_method_42_code 2 (some .int) : Cond) ∈ px_words := pw_31_sub _ (List.mem_of_getElem? (i := 15) rfl)
theorem wq_1172 : (Cond.methodLink "FromTheMiddleModel" 167 ⟨"FromTheMiddleModel", "harmsOn", "(I)I"⟩ : Cond) ∈ px_words := pw_31_sub _ (List.mem_of_getElem? (i := 16) rfl)
theorem wq_1174 : (Cond.instanceMethod ⟨"FromTheMiddleModel", "harmsOn", "(I)I"⟩ : Cond) ∈ px_words := pw_31_sub _ (List.mem_of_getElem? (i := 17) rfl)
theorem wq_1175 : (Cond.code ⟨"FromTheMiddleModel", "harmsOn", "(I)I"⟩ prog_10_method_39_code 7 (some .int) : Cond) ∈ px_words := pw_31_sub _ (List.mem_of_getElem? (i := 18) rfl)
theorem wq_1176 : (Cond.methodLink "FromTheMiddleLaw" 83 ⟨"FromTheMiddleModel", "buy", "(I)I"⟩ : Cond) ∈ px_words := pw_31_sub _ (List.mem_of_getElem? (i := 19) rfl)
theorem wq_1177 : (Cond.instanceMethod ⟨"FromTheMiddleModel", "buy", "(I)I"⟩ : Cond) ∈ px_words := pw_31_sub _ (List.mem_of_getElem? (i := 20) rfl)
theorem wq_1178 : (Cond.selects "FromTheMiddleModel" ⟨"FromTheMiddleModel", "buy", "(I)I"⟩ ⟨"FromTheMiddleModel", "buy", "(I)I"⟩ : Cond) ∈ px_words := pw_31_sub _ (List.mem_of_getElem? (i := 21) rfl)
theorem wq_1179 : (Cond.code ⟨"FromTheMiddleModel", "buy", "(I)I"⟩ prog_10_method_58_code 2 (some .int) : Cond) ∈ px_words := pw_31_sub _ (List.mem_of_getElem? (i := 22) rfl)
theorem wq_1180 : (Cond.methodLink "FromTheMiddleModel" 201 ⟨"FromTheMiddleModel", "tiles", "()I"⟩ : Cond) ∈ px_words := pw_31_sub _ (List.mem_of_getElem? (i := 23) rfl)
theorem wq_1182 : (Cond.instanceMethod ⟨"FromTheMiddleModel", "tiles", "()I"⟩ : Cond) ∈ px_words := pw_31_sub _ (List.mem_of_getElem? (i := 24) rfl)
theorem wq_1183 : (Cond.code ⟨"FromTheMiddleModel", "tiles", "()I"⟩ prog_10_method_57_code 4 (some .int) : Cond) ∈ px_words := pw_31_sub _ (List.mem_of_getElem? (i := 25) rfl)
theorem wq_1184 : (Cond.methodLink "FromTheMiddleModel" 198 ⟨"FromTheMiddleModel", "ofAll", "(I)I"⟩ : Cond) ∈ px_words := pw_31_sub _ (List.mem_of_getElem? (i := 26) rfl)
theorem wq_1186 : (Cond.instanceMethod ⟨"FromTheMiddleModel", "ofAll", "(I)I"⟩ : Cond) ∈ px_words := pw_31_sub _ (List.mem_of_getElem? (i := 27) rfl)
theorem wq_1187 : (Cond.code ⟨"FromTheMiddleModel", "ofAll", "(I)I"⟩ prog_10_method_33_code 5 (some .int) : Cond) ∈ px_words := pw_31_sub _ (List.mem_of_getElem? (i := 28) rfl)
theorem wq_1188 : (Cond.methodLink "FromTheMiddleModel" 139 ⟨"FromTheMiddleModel", "halvesLaid", "()I"⟩ : Cond) ∈ px_words := pw_31_sub _ (List.mem_of_getElem? (i := 29) rfl)
theorem wq_1190 : (Cond.instanceMethod ⟨"FromTheMiddleModel", "halvesLaid", "()I"⟩ : Cond) ∈ px_words := pw_31_sub _ (List.mem_of_getElem? (i := 30) rfl)
theorem wq_1191 : (Cond.code ⟨"FromTheMiddleModel", "halvesLaid", "()I"⟩ prog_10_method_31_code 3 (some .int) : Cond) ∈ px_words := pw_31_sub _ (List.mem_of_getElem? (i := 31) rfl)
theorem wq_1192 : (Cond.methodLink "FromTheMiddleModel" 204 ⟨"FromTheMiddleModel", "harmAll", "()I"⟩ : Cond) ∈ px_words := pw_32_sub _ (List.mem_of_getElem? (i := 0) rfl)
theorem wq_1194 : (Cond.instanceMethod ⟨"FromTheMiddleModel", "harmAll", "()I"⟩ : Cond) ∈ px_words := pw_32_sub _ (List.mem_of_getElem? (i := 1) rfl)
theorem wq_1195 : (Cond.code ⟨"FromTheMiddleModel", "harmAll", "()I"⟩ prog_10_method_43_code 4 (some .int) : Cond) ∈ px_words := pw_32_sub _ (List.mem_of_getElem? (i := 2) rfl)
theorem wq_1196 : (Cond.methodLink "FromTheMiddleLaw" 87 ⟨"FromTheMiddleModel", "loose", "(I)I"⟩ : Cond) ∈ px_words := pw_32_sub _ (List.mem_of_getElem? (i := 3) rfl)
theorem wq_1197 : (Cond.instanceMethod ⟨"FromTheMiddleModel", "loose", "(I)I"⟩ : Cond) ∈ px_words := pw_32_sub _ (List.mem_of_getElem? (i := 4) rfl)
theorem wq_1198 : (Cond.selects "FromTheMiddleModel" ⟨"FromTheMiddleModel", "loose", "(I)I"⟩ ⟨"FromTheMiddleModel", "loose", "(I)I"⟩ : Cond) ∈ px_words := pw_32_sub _ (List.mem_of_getElem? (i := 5) rfl)
theorem wq_1199 : (Cond.code ⟨"FromTheMiddleModel", "loose", "(I)I"⟩ prog_10_method_60_code 4 (some .int) : Cond) ∈ px_words := pw_32_sub _ (List.mem_of_getElem? (i := 6) rfl)
theorem wq_1200 : (Cond.methodLink "FromTheMiddleModel" 208 ⟨"FromTheMiddleModel", "draw", "()I"⟩ : Cond) ∈ px_words := pw_32_sub _ (List.mem_of_getElem? (i := 7) rfl)
theorem wq_1202 : (Cond.instanceMethod ⟨"FromTheMiddleModel", "draw", "()I"⟩ : Cond) ∈ px_words := pw_32_sub _ (List.mem_of_getElem? (i := 8) rfl)
theorem wq_1203 : (Cond.code ⟨"FromTheMiddleModel", "draw", "()I"⟩ prog_10_method_59_code 1 (some .int) : Cond) ∈ px_words := pw_32_sub _ (List.mem_of_getElem? (i := 9) rfl)
theorem wq_1204 : (Cond.constant "FromTheMiddleModel" 207 1103515245 : Cond) ∈ px_words := pw_32_sub _ (List.mem_of_getElem? (i := 10) rfl)
theorem wq_1205 : (Cond.methodLink "FromTheMiddleLaw" 91 ⟨"FromTheMiddleModel", "seed", "(I)I"⟩ : Cond) ∈ px_words := pw_32_sub _ (List.mem_of_getElem? (i := 11) rfl)
theorem wq_1206 : (Cond.instanceMethod ⟨"FromTheMiddleModel", "seed", "(I)I"⟩ : Cond) ∈ px_words := pw_32_sub _ (List.mem_of_getElem? (i := 12) rfl)
theorem wq_1207 : (Cond.selects "FromTheMiddleModel" ⟨"FromTheMiddleModel", "seed", "(I)I"⟩ ⟨"FromTheMiddleModel", "seed", "(I)I"⟩ : Cond) ∈ px_words := pw_32_sub _ (List.mem_of_getElem? (i := 13) rfl)
theorem wq_1208 : (Cond.code ⟨"FromTheMiddleModel", "seed", "(I)I"⟩ prog_10_method_61_code 2 (some .int) : Cond) ∈ px_words := pw_32_sub _ (List.mem_of_getElem? (i := 14) rfl)
theorem wq_1209 : (Cond.methodLink "FromTheMiddleLaw" 95 ⟨"FromTheMiddleModel", "best", "(I)I"⟩ : Cond) ∈ px_words := pw_32_sub _ (List.mem_of_getElem? (i := 15) rfl)
theorem wq_1210 : (Cond.instanceMethod ⟨"FromTheMiddleModel", "best", "(I)I"⟩ : Cond) ∈ px_words := pw_32_sub _ (List.mem_of_getElem? (i := 16) rfl)
theorem wq_1211 : (Cond.selects "FromTheMiddleModel" ⟨"FromTheMiddleModel", "best", "(I)I"⟩ ⟨"FromTheMiddleModel", "best", "(I)I"⟩ : Cond) ∈ px_words := pw_32_sub _ (List.mem_of_getElem? (i := 17) rfl)
theorem wq_1212 : (Cond.code ⟨"FromTheMiddleModel", "best", "(I)I"⟩ prog_10_method_62_code 9 (some .int) : Cond) ∈ px_words := pw_32_sub _ (List.mem_of_getElem? (i := 18) rfl)
theorem wq_1213 : (Cond.methodLink "FromTheMiddleLaw" 99 ⟨"FromTheMiddleModel", "calm", "(I)I"⟩ : Cond) ∈ px_words := pw_32_sub _ (List.mem_of_getElem? (i := 19) rfl)
theorem wq_1214 : (Cond.instanceMethod ⟨"FromTheMiddleModel", "calm", "(I)I"⟩ : Cond) ∈ px_words := pw_32_sub _ (List.mem_of_getElem? (i := 20) rfl)
theorem wq_1215 : (Cond.selects "FromTheMiddleModel" ⟨"FromTheMiddleModel", "calm", "(I)I"⟩ ⟨"FromTheMiddleModel", "calm", "(I)I"⟩ : Cond) ∈ px_words := pw_32_sub _ (List.mem_of_getElem? (i := 21) rfl)
theorem wq_1216 : (Cond.code ⟨"FromTheMiddleModel", "calm", "(I)I"⟩ prog_10_method_63_code 7 (some .int) : Cond) ∈ px_words := pw_32_sub _ (List.mem_of_getElem? (i := 22) rfl)
theorem wq_1217 : (Cond.methodLink "FromTheMiddleLaw" 103 ⟨"FromTheMiddleModel", "cheat", "(I)I"⟩ : Cond) ∈ px_words := pw_32_sub _ (List.mem_of_getElem? (i := 23) rfl)
theorem wq_1218 : (Cond.instanceMethod ⟨"FromTheMiddleModel", "cheat", "(I)I"⟩ : Cond) ∈ px_words := pw_32_sub _ (List.mem_of_getElem? (i := 24) rfl)
theorem wq_1219 : (Cond.selects "FromTheMiddleModel" ⟨"FromTheMiddleModel", "cheat", "(I)I"⟩ ⟨"FromTheMiddleModel", "cheat", "(I)I"⟩ : Cond) ∈ px_words := pw_32_sub _ (List.mem_of_getElem? (i := 25) rfl)
theorem wq_1220 : (Cond.code ⟨"FromTheMiddleModel", "cheat", "(I)I"⟩ prog_10_method_64_code 4 (some .int) : Cond) ∈ px_words := pw_32_sub _ (List.mem_of_getElem? (i := 26) rfl)
theorem wq_1221 : (Cond.methodLink "FromTheMiddleLaw" 107 ⟨"FromTheMiddleModel", "middle", "(I)I"⟩ : Cond) ∈ px_words := pw_32_sub _ (List.mem_of_getElem? (i := 27) rfl)
theorem wq_1222 : (Cond.instanceMethod ⟨"FromTheMiddleModel", "middle", "(I)I"⟩ : Cond) ∈ px_words := pw_32_sub _ (List.mem_of_getElem? (i := 28) rfl)
theorem wq_1223 : (Cond.selects "FromTheMiddleModel" ⟨"FromTheMiddleModel", "middle", "(I)I"⟩ ⟨"FromTheMiddleModel", "middle", "(I)I"⟩ : Cond) ∈ px_words := pw_32_sub _ (List.mem_of_getElem? (i := 29) rfl)
theorem wq_1224 : (Cond.code ⟨"FromTheMiddleModel", "middle", "(I)I"⟩ prog_10_method_65_code 4 (some .int) : Cond) ∈ px_words := pw_32_sub _ (List.mem_of_getElem? (i := 30) rfl)
theorem wq_1225 : (Cond.methodLink "FromTheMiddleLaw" 111 ⟨"FromTheMiddleModel", "odds", "(II)I"⟩ : Cond) ∈ px_words := pw_32_sub _ (List.mem_of_getElem? (i := 31) rfl)
theorem wq_1226 : (Cond.instanceMethod ⟨"FromTheMiddleModel", "odds", "(II)I"⟩ : Cond) ∈ px_words := pw_33_sub _ (List.mem_of_getElem? (i := 0) rfl)
theorem wq_1227 : (Cond.selects "FromTheMiddleModel" ⟨"FromTheMiddleModel", "odds", "(II)I"⟩ ⟨"FromTheMiddleModel", "odds", "(II)I"⟩ : Cond) ∈ px_words := pw_33_sub _ (List.mem_of_getElem? (i := 1) rfl)
theorem wq_1228 : (Cond.code ⟨"FromTheMiddleModel", "odds", "(II)I"⟩ prog_10_method_67_code 6 (some .int) : Cond) ∈ px_words := pw_33_sub _ (List.mem_of_getElem? (i := 2) rfl)
theorem wq_1229 : (Cond.methodLink "FromTheMiddleModel" 211 ⟨"FromTheMiddleModel", "divisor", "(II)I"⟩ : Cond) ∈ px_words := pw_33_sub _ (List.mem_of_getElem? (i := 3) rfl)
theorem wq_1230 : (Cond.static ⟨"FromTheMiddleModel", "divisor", "(II)I"⟩ : Cond) ∈ px_words := pw_33_sub _ (List.mem_of_getElem? (i := 4) rfl)
theorem wq_1231 : (Cond.code ⟨"FromTheMiddleModel", "divisor", "(II)I"⟩ prog_10_method_66_code 5 (some .int) : Cond) ∈ px_words := pw_33_sub _ (List.mem_of_getElem? (i := 5) rfl)
theorem wq_1232 : (Cond.methodLink "FromTheMiddleLaw" 115 ⟨"FromTheMiddleModel", "fits", "(II)I"⟩ : Cond) ∈ px_words := pw_33_sub _ (List.mem_of_getElem? (i := 6) rfl)
theorem wq_1233 : (Cond.instanceMethod ⟨"FromTheMiddleModel", "fits", "(II)I"⟩ : Cond) ∈ px_words := pw_33_sub _ (List.mem_of_getElem? (i := 7) rfl)
theorem wq_1234 : (Cond.selects "FromTheMiddleModel" ⟨"FromTheMiddleModel", "fits", "(II)I"⟩ ⟨"FromTheMiddleModel", "fits", "(II)I"⟩ : Cond) ∈ px_words := pw_33_sub _ (List.mem_of_getElem? (i := 8) rfl)
theorem wq_1235 : (Cond.code ⟨"FromTheMiddleModel", "fits", "(II)I"⟩ prog_10_method_69_code 9 (some .int) : Cond) ∈ px_words := pw_33_sub _ (List.mem_of_getElem? (i := 9) rfl)
theorem wq_1236 : (Cond.methodLink "FromTheMiddleModel" 214 ⟨"FromTheMiddleModel", "lacks", "(I)I"⟩ : Cond) ∈ px_words := pw_33_sub _ (List.mem_of_getElem? (i := 10) rfl)
theorem wq_1238 : (Cond.instanceMethod ⟨"FromTheMiddleModel", "lacks", "(I)I"⟩ : Cond) ∈ px_words := pw_33_sub _ (List.mem_of_getElem? (i := 11) rfl)
theorem wq_1239 : (Cond.code ⟨"FromTheMiddleModel", "lacks", "(I)I"⟩ prog_10_method_84_code 2 (some .int) : Cond) ∈ px_words := pw_33_sub _ (List.mem_of_getElem? (i := 12) rfl)
theorem wq_1240 : (Cond.methodLink "FromTheMiddleModel" 251 ⟨"FromTheMiddleModel", "isSheet", "(I)Z"⟩ : Cond) ∈ px_words := pw_33_sub _ (List.mem_of_getElem? (i := 13) rfl)
theorem wq_1241 : (Cond.static ⟨"FromTheMiddleModel", "isSheet", "(I)Z"⟩ : Cond) ∈ px_words := pw_33_sub _ (List.mem_of_getElem? (i := 14) rfl)
theorem wq_1242 : (Cond.code ⟨"FromTheMiddleModel", "isSheet", "(I)Z"⟩ prog_10_method_80_code 1 (some .boolean) : Cond) ∈ px_words := pw_33_sub _ (List.mem_of_getElem? (i := 15) rfl)
theorem wq_1243 : (Cond.methodLink "FromTheMiddleModel" 217 ⟨"FromTheMiddleModel", "rightOf", "(I)I"⟩ : Cond) ∈ px_words := pw_33_sub _ (List.mem_of_getElem? (i := 16) rfl)
theorem wq_1245 : (Cond.instanceMethod ⟨"FromTheMiddleModel", "rightOf", "(I)I"⟩ : Cond) ∈ px_words := pw_33_sub _ (List.mem_of_getElem? (i := 17) rfl)
theorem wq_1246 : (Cond.code ⟨"FromTheMiddleModel", "rightOf", "(I)I"⟩ prog_10_method_68_code 3 (some .int) : Cond) ∈ px_words := pw_33_sub _ (List.mem_of_getElem? (i := 18) rfl)
theorem wq_1247 : (Cond.methodLink "FromTheMiddleLaw" 119 ⟨"FromTheMiddleModel", "voice", "(III)I"⟩ : Cond) ∈ px_words := pw_33_sub _ (List.mem_of_getElem? (i := 19) rfl)
theorem wq_1248 : (Cond.instanceMethod ⟨"FromTheMiddleModel", "voice", "(III)I"⟩ : Cond) ∈ px_words := pw_33_sub _ (List.mem_of_getElem? (i := 20) rfl)
theorem wq_1249 : (Cond.selects "FromTheMiddleModel" ⟨"FromTheMiddleModel", "voice", "(III)I"⟩ ⟨"FromTheMiddleModel", "voice", "(III)I"⟩ : Cond) ∈ px_words := pw_33_sub _ (List.mem_of_getElem? (i := 21) rfl)
theorem wq_1250 : (Cond.code ⟨"FromTheMiddleModel", "voice", "(III)I"⟩ prog_10_method_78_code 6 (some .int) : Cond) ∈ px_words := pw_33_sub _ (List.mem_of_getElem? (i := 22) rfl)
theorem wq_1251 : (Cond.methodLink "FromTheMiddleModel" 232 ⟨"FromTheMiddleModel", "kindNow", "()I"⟩ : Cond) ∈ px_words := pw_33_sub _ (List.mem_of_getElem? (i := 23) rfl)
theorem wq_1253 : (Cond.instanceMethod ⟨"FromTheMiddleModel", "kindNow", "()I"⟩ : Cond) ∈ px_words := pw_33_sub _ (List.mem_of_getElem? (i := 24) rfl)
theorem wq_1254 : (Cond.code ⟨"FromTheMiddleModel", "kindNow", "()I"⟩ prog_10_method_72_code 1 (some .int) : Cond) ∈ px_words := pw_33_sub _ (List.mem_of_getElem? (i := 25) rfl)
theorem wq_1255 : (Cond.methodLink "FromTheMiddleModel" 229 ⟨"FromTheMiddleModel", "dripsAs", "(II)I"⟩ : Cond) ∈ px_words := pw_33_sub _ (List.mem_of_getElem? (i := 26) rfl)
theorem wq_1257 : (Cond.instanceMethod ⟨"FromTheMiddleModel", "dripsAs", "(II)I"⟩ : Cond) ∈ px_words := pw_33_sub _ (List.mem_of_getElem? (i := 27) rfl)
theorem wq_1258 : (Cond.code ⟨"FromTheMiddleModel", "dripsAs", "(II)I"⟩ prog_10_method_74_code 3 (some .int) : Cond) ∈ px_words := pw_33_sub _ (List.mem_of_getElem? (i := 28) rfl)
theorem wq_1259 : (Cond.methodLink "FromTheMiddleModel" 226 ⟨"FromTheMiddleModel", "starts", "(I)V"⟩ : Cond) ∈ px_words := pw_33_sub _ (List.mem_of_getElem? (i := 29) rfl)
theorem wq_1261 : (Cond.instanceMethod ⟨"FromTheMiddleModel", "starts", "(I)V"⟩ : Cond) ∈ px_words := pw_33_sub _ (List.mem_of_getElem? (i := 30) rfl)
theorem wq_1262 : (Cond.code ⟨"FromTheMiddleModel", "starts", "(I)V"⟩ prog_10_method_70_code 2 none : Cond) ∈ px_words := pw_33_sub _ (List.mem_of_getElem? (i := 31) rfl)
theorem wq_1263 : (Cond.methodLink "FromTheMiddleModel" 235 ⟨"FromTheMiddleModel", "scoresAs", "(II)I"⟩ : Cond) ∈ px_words := pw_34_sub _ (List.mem_of_getElem? (i := 0) rfl)
theorem wq_1265 : (Cond.instanceMethod ⟨"FromTheMiddleModel", "scoresAs", "(II)I"⟩ : Cond) ∈ px_words := pw_34_sub _ (List.mem_of_getElem? (i := 1) rfl)
theorem wq_1266 : (Cond.code ⟨"FromTheMiddleModel", "scoresAs", "(II)I"⟩ prog_10_method_75_code 3 (some .int) : Cond) ∈ px_words := pw_34_sub _ (List.mem_of_getElem? (i := 2) rfl)
theorem wq_1267 : (Cond.methodLink "FromTheMiddleModel" 238 ⟨"FromTheMiddleModel", "mNow", "()I"⟩ : Cond) ∈ px_words := pw_34_sub _ (List.mem_of_getElem? (i := 3) rfl)
theorem wq_1269 : (Cond.instanceMethod ⟨"FromTheMiddleModel", "mNow", "()I"⟩ : Cond) ∈ px_words := pw_34_sub _ (List.mem_of_getElem? (i := 4) rfl)
theorem wq_1270 : (Cond.code ⟨"FromTheMiddleModel", "mNow", "()I"⟩ prog_10_method_73_code 1 (some .int) : Cond) ∈ px_words := pw_34_sub _ (List.mem_of_getElem? (i := 5) rfl)
theorem wq_1271 : (Cond.methodLink "FromTheMiddleModel" 241 ⟨"FromTheMiddleModel", "snapsAs", "(II)I"⟩ : Cond) ∈ px_words := pw_34_sub _ (List.mem_of_getElem? (i := 6) rfl)
theorem wq_1273 : (Cond.instanceMethod ⟨"FromTheMiddleModel", "snapsAs", "(II)I"⟩ : Cond) ∈ px_words := pw_34_sub _ (List.mem_of_getElem? (i := 7) rfl)
theorem wq_1274 : (Cond.code ⟨"FromTheMiddleModel", "snapsAs", "(II)I"⟩ prog_10_method_76_code 3 (some .int) : Cond) ∈ px_words := pw_34_sub _ (List.mem_of_getElem? (i := 8) rfl)
theorem wq_1275 : (Cond.methodLink "FromTheMiddleModel" 248 ⟨"FromTheMiddleModel", "partsAs", "(II)I"⟩ : Cond) ∈ px_words := pw_34_sub _ (List.mem_of_getElem? (i := 9) rfl)
theorem wq_1277 : (Cond.instanceMethod ⟨"FromTheMiddleModel", "partsAs", "(II)I"⟩ : Cond) ∈ px_words := pw_34_sub _ (List.mem_of_getElem? (i := 10) rfl)
theorem wq_1278 : (Cond.code ⟨"FromTheMiddleModel", "partsAs", "(II)I"⟩ prog_10_method_77_code 5 (some .int) : Cond) ∈ px_words := pw_34_sub _ (List.mem_of_getElem? (i := 11) rfl)
theorem wq_1279 : (Cond.methodLink "FromTheMiddleLaw" 123 ⟨"FromTheMiddleModel", "body", "(I)I"⟩ : Cond) ∈ px_words := pw_34_sub _ (List.mem_of_getElem? (i := 12) rfl)
theorem wq_1280 : (Cond.instanceMethod ⟨"FromTheMiddleModel", "body", "(I)I"⟩ : Cond) ∈ px_words := pw_34_sub _ (List.mem_of_getElem? (i := 13) rfl)
theorem wq_1281 : (Cond.selects "FromTheMiddleModel" ⟨"FromTheMiddleModel", "body", "(I)I"⟩ ⟨"FromTheMiddleModel", "body", "(I)I"⟩ : Cond) ∈ px_words := pw_34_sub _ (List.mem_of_getElem? (i := 14) rfl)
theorem wq_1282 : (Cond.code ⟨"FromTheMiddleModel", "body", "(I)I"⟩ prog_10_method_79_code 2 (some .int) : Cond) ∈ px_words := pw_34_sub _ (List.mem_of_getElem? (i := 15) rfl)
theorem wq_1283 : (Cond.methodLink "FromTheMiddleLaw" 127 ⟨"FromTheMiddleModel", "sheet", "(III)I"⟩ : Cond) ∈ px_words := pw_34_sub _ (List.mem_of_getElem? (i := 16) rfl)
theorem wq_1284 : (Cond.instanceMethod ⟨"FromTheMiddleModel", "sheet", "(III)I"⟩ : Cond) ∈ px_words := pw_34_sub _ (List.mem_of_getElem? (i := 17) rfl)
theorem wq_1285 : (Cond.selects "FromTheMiddleModel" ⟨"FromTheMiddleModel", "sheet", "(III)I"⟩ ⟨"FromTheMiddleModel", "sheet", "(III)I"⟩ : Cond) ∈ px_words := pw_34_sub _ (List.mem_of_getElem? (i := 18) rfl)
theorem wq_1286 : (Cond.code ⟨"FromTheMiddleModel", "sheet", "(III)I"⟩ prog_10_method_81_code 5 (some .int) : Cond) ∈ px_words := pw_34_sub _ (List.mem_of_getElem? (i := 19) rfl)
theorem wq_1287 : (Cond.methodLink "FromTheMiddleLaw" 131 ⟨"FromTheMiddleModel", "put", "(III)I"⟩ : Cond) ∈ px_words := pw_34_sub _ (List.mem_of_getElem? (i := 20) rfl)
theorem wq_1288 : (Cond.instanceMethod ⟨"FromTheMiddleModel", "put", "(III)I"⟩ : Cond) ∈ px_words := pw_34_sub _ (List.mem_of_getElem? (i := 21) rfl)
theorem wq_1289 : (Cond.selects "FromTheMiddleModel" ⟨"FromTheMiddleModel", "put", "(III)I"⟩ ⟨"FromTheMiddleModel", "put", "(III)I"⟩ : Cond) ∈ px_words := pw_34_sub _ (List.mem_of_getElem? (i := 22) rfl)
theorem wq_1290 : (Cond.code ⟨"FromTheMiddleModel", "put", "(III)I"⟩ prog_10_method_82_code 5 (some .int) : Cond) ∈ px_words := pw_34_sub _ (List.mem_of_getElem? (i := 23) rfl)
theorem wq_1291 : (Cond.methodLink "FromTheMiddleLaw" 136 ⟨"FromTheMiddleModel", "move", "(IIIII)I"⟩ : Cond) ∈ px_words := pw_34_sub _ (List.mem_of_getElem? (i := 24) rfl)
theorem wq_1292 : (Cond.instanceMethod ⟨"FromTheMiddleModel", "move", "(IIIII)I"⟩ : Cond) ∈ px_words := pw_34_sub _ (List.mem_of_getElem? (i := 25) rfl)
theorem wq_1293 : (Cond.selects "FromTheMiddleModel" ⟨"FromTheMiddleModel", "move", "(IIIII)I"⟩ ⟨"FromTheMiddleModel", "move", "(IIIII)I"⟩ : Cond) ∈ px_words := pw_34_sub _ (List.mem_of_getElem? (i := 26) rfl)
theorem wq_1294 : (Cond.code ⟨"FromTheMiddleModel", "move", "(IIIII)I"⟩ prog_10_method_83_code 7 (some .int) : Cond) ∈ px_words := pw_34_sub _ (List.mem_of_getElem? (i := 27) rfl)
theorem wq_1295 : (Cond.methodLink "FromTheMiddleLaw" 140 ⟨"FromTheMiddleModel", "places", "(I)I"⟩ : Cond) ∈ px_words := pw_34_sub _ (List.mem_of_getElem? (i := 28) rfl)
theorem wq_1296 : (Cond.instanceMethod ⟨"FromTheMiddleModel", "places", "(I)I"⟩ : Cond) ∈ px_words := pw_34_sub _ (List.mem_of_getElem? (i := 29) rfl)
theorem wq_1297 : (Cond.selects "FromTheMiddleModel" ⟨"FromTheMiddleModel", "places", "(I)I"⟩ ⟨"FromTheMiddleModel", "places", "(I)I"⟩ : Cond) ∈ px_words := pw_34_sub _ (List.mem_of_getElem? (i := 30) rfl)
theorem wq_1298 : (Cond.code ⟨"FromTheMiddleModel", "places", "(I)I"⟩ prog_10_method_85_code 4 (some .int) : Cond) ∈ px_words := pw_34_sub _ (List.mem_of_getElem? (i := 31) rfl)
theorem wq_1299 : (Cond.methodLink "FromTheMiddleLaw" 144 ⟨"FromTheMiddleModel", "judge", "(I)I"⟩ : Cond) ∈ px_words := pw_35_sub _ (List.mem_of_getElem? (i := 0) rfl)
theorem wq_1300 : (Cond.instanceMethod ⟨"FromTheMiddleModel", "judge", "(I)I"⟩ : Cond) ∈ px_words := pw_35_sub _ (List.mem_of_getElem? (i := 1) rfl)
theorem wq_1301 : (Cond.selects "FromTheMiddleModel" ⟨"FromTheMiddleModel", "judge", "(I)I"⟩ ⟨"FromTheMiddleModel", "judge", "(I)I"⟩ : Cond) ∈ px_words := pw_35_sub _ (List.mem_of_getElem? (i := 2) rfl)
theorem wq_1302 : (Cond.code ⟨"FromTheMiddleModel", "judge", "(I)I"⟩ prog_10_method_86_code 3 (some .int) : Cond) ∈ px_words := pw_35_sub _ (List.mem_of_getElem? (i := 3) rfl)
theorem wq_1303 : (Cond.methodLink "FromTheMiddleLaw" 149 ⟨"FromTheMiddleModel", "image", "()I"⟩ : Cond) ∈ px_words := pw_35_sub _ (List.mem_of_getElem? (i := 4) rfl)
theorem wq_1304 : (Cond.instanceMethod ⟨"FromTheMiddleModel", "image", "()I"⟩ : Cond) ∈ px_words := pw_35_sub _ (List.mem_of_getElem? (i := 5) rfl)
theorem wq_1305 : (Cond.selects "FromTheMiddleModel" ⟨"FromTheMiddleModel", "image", "()I"⟩ ⟨"FromTheMiddleModel", "image", "()I"⟩ : Cond) ∈ px_words := pw_35_sub _ (List.mem_of_getElem? (i := 6) rfl)
theorem wq_1306 : (Cond.code ⟨"FromTheMiddleModel", "image", "()I"⟩ prog_10_method_87_code 1 (some .int) : Cond) ∈ px_words := pw_35_sub _ (List.mem_of_getElem? (i := 7) rfl)
theorem wq_1307 : (Cond.methodLink "FromTheMiddleModel" 254 ⟨"FromTheMiddleModel", "copyAll", "([I[I)V"⟩ : Cond) ∈ px_words := pw_35_sub _ (List.mem_of_getElem? (i := 8) rfl)
theorem wq_1308 : (Cond.static ⟨"FromTheMiddleModel", "copyAll", "([I[I)V"⟩ : Cond) ∈ px_words := pw_35_sub _ (List.mem_of_getElem? (i := 9) rfl)
theorem wq_1309 : (Cond.code ⟨"FromTheMiddleModel", "copyAll", "([I[I)V"⟩ prog_10_method_5_code 3 none : Cond) ∈ px_words := pw_35_sub _ (List.mem_of_getElem? (i := 10) rfl)
theorem wq_1310 : (Cond.methodLink "FromTheMiddleLaw" 153 ⟨"FromTheMiddleModel", "restore", "()I"⟩ : Cond) ∈ px_words := pw_35_sub _ (List.mem_of_getElem? (i := 11) rfl)
theorem wq_1311 : (Cond.instanceMethod ⟨"FromTheMiddleModel", "restore", "()I"⟩ : Cond) ∈ px_words := pw_35_sub _ (List.mem_of_getElem? (i := 12) rfl)
theorem wq_1312 : (Cond.selects "FromTheMiddleModel" ⟨"FromTheMiddleModel", "restore", "()I"⟩ ⟨"FromTheMiddleModel", "restore", "()I"⟩ : Cond) ∈ px_words := pw_35_sub _ (List.mem_of_getElem? (i := 13) rfl)
theorem wq_1313 : (Cond.code ⟨"FromTheMiddleModel", "restore", "()I"⟩ prog_10_method_88_code 1 (some .int) : Cond) ∈ px_words := pw_35_sub _ (List.mem_of_getElem? (i := 14) rfl)
theorem wq_1314 : (Cond.methodLink "FromTheMiddleLaw" 157 ⟨"FromTheMiddleModel", "tell", "(I)I"⟩ : Cond) ∈ px_words := pw_35_sub _ (List.mem_of_getElem? (i := 15) rfl)
theorem wq_1315 : (Cond.instanceMethod ⟨"FromTheMiddleModel", "tell", "(I)I"⟩ : Cond) ∈ px_words := pw_35_sub _ (List.mem_of_getElem? (i := 16) rfl)
theorem wq_1316 : (Cond.selects "FromTheMiddleModel" ⟨"FromTheMiddleModel", "tell", "(I)I"⟩ ⟨"FromTheMiddleModel", "tell", "(I)I"⟩ : Cond) ∈ px_words := pw_35_sub _ (List.mem_of_getElem? (i := 17) rfl)
theorem wq_1317 : (Cond.code ⟨"FromTheMiddleModel", "tell", "(I)I"⟩ prog_10_method_89_code 2 (some .int) : Cond) ∈ px_words := pw_35_sub _ (List.mem_of_getElem? (i := 18) rfl)
theorem wq_1318 : (Cond.methodLink "FromTheMiddleLaw" 161 ⟨"FromTheMiddleModel", "check", "()I"⟩ : Cond) ∈ px_words := pw_35_sub _ (List.mem_of_getElem? (i := 19) rfl)
theorem wq_1319 : (Cond.instanceMethod ⟨"FromTheMiddleModel", "check", "()I"⟩ : Cond) ∈ px_words := pw_35_sub _ (List.mem_of_getElem? (i := 20) rfl)
theorem wq_1320 : (Cond.selects "FromTheMiddleModel" ⟨"FromTheMiddleModel", "check", "()I"⟩ ⟨"FromTheMiddleModel", "check", "()I"⟩ : Cond) ∈ px_words := pw_35_sub _ (List.mem_of_getElem? (i := 21) rfl)
theorem wq_1321 : (Cond.code ⟨"FromTheMiddleModel", "check", "()I"⟩ prog_10_method_90_code 3 (some .int) : Cond) ∈ px_words := pw_35_sub _ (List.mem_of_getElem? (i := 22) rfl)
theorem wq_1322 : (Cond.methodLink "FromTheMiddleLaw" 165 ⟨"FromTheMiddleModel", "count", "(I)I"⟩ : Cond) ∈ px_words := pw_35_sub _ (List.mem_of_getElem? (i := 23) rfl)
theorem wq_1323 : (Cond.instanceMethod ⟨"FromTheMiddleModel", "count", "(I)I"⟩ : Cond) ∈ px_words := pw_35_sub _ (List.mem_of_getElem? (i := 24) rfl)
theorem wq_1324 : (Cond.selects "FromTheMiddleModel" ⟨"FromTheMiddleModel", "count", "(I)I"⟩ ⟨"FromTheMiddleModel", "count", "(I)I"⟩ : Cond) ∈ px_words := pw_35_sub _ (List.mem_of_getElem? (i := 25) rfl)
theorem wq_1325 : (Cond.code ⟨"FromTheMiddleModel", "count", "(I)I"⟩ prog_10_method_91_code 2 (some .int) : Cond) ∈ px_words := pw_35_sub _ (List.mem_of_getElem? (i := 26) rfl)
theorem wq_1326 : (Cond.methodLink "FromTheMiddleLaw" 169 ⟨"FromTheMiddleModel", "told", "(I)I"⟩ : Cond) ∈ px_words := pw_35_sub _ (List.mem_of_getElem? (i := 27) rfl)
theorem wq_1327 : (Cond.instanceMethod ⟨"FromTheMiddleModel", "told", "(I)I"⟩ : Cond) ∈ px_words := pw_35_sub _ (List.mem_of_getElem? (i := 28) rfl)
theorem wq_1328 : (Cond.selects "FromTheMiddleModel" ⟨"FromTheMiddleModel", "told", "(I)I"⟩ ⟨"FromTheMiddleModel", "told", "(I)I"⟩ : Cond) ∈ px_words := pw_35_sub _ (List.mem_of_getElem? (i := 29) rfl)
theorem wq_1329 : (Cond.code ⟨"FromTheMiddleModel", "told", "(I)I"⟩ prog_10_method_92_code 2 (some .int) : Cond) ∈ px_words := pw_35_sub _ (List.mem_of_getElem? (i := 30) rfl)
theorem wq_1330 : (Cond.constantLong "FromTheMiddleLaw" 48 4294967295 : Cond) ∈ px_words := pw_35_sub _ (List.mem_of_getElem? (i := 31) rfl)
theorem wq_1331 : (Cond.fieldLink "java/lang/String" 15 "java/lang/String" "coder" "B" : Cond) ∈ px_words := pw_36_sub _ (List.mem_of_getElem? (i := 0) rfl)
theorem wq_1332 : (Cond.fieldLink "java/lang/String" 9 "java/lang/String" "value" "[B" : Cond) ∈ px_words := pw_36_sub _ (List.mem_of_getElem? (i := 1) rfl)
end
section
/-! THE PURE MACHINE: steps of a method over a picture of the heap whose references are places; what it says holds of the machine (px_sound) -/
abbrev px_L : Type := List (Option Value)
abbrev px_H : Type := List va_E × List va_E
abbrev px_N : Type := (Nat × px_L × List Value × px_H) ⊕ (Option Value × px_H)
abbrev px_C : Type := Nat → List Value → px_H → Option (Option Value × px_H)
abbrev px_A : Type := px_C → Nat → px_L → List Value → px_H → Option px_N
def px_nth {α : Type} : List α → Nat → Option α
  | [], _ => none
  | a :: _, 0 => some a
  | _ :: r, n + 1 => px_nth r n
def px_stn {α : Type} : List α → Nat → α → List α
  | [], _, _ => []
  | _ :: r, 0, b => b :: r
  | a :: r, n + 1, b => a :: px_stn r n b
def px_get : px_L → Nat → Option Value
  | [], _ => none
  | o :: _, 0 => o
  | _ :: r, n + 1 => px_get r n
def px_c2 : Value → Bool
  | .long _ => true
  | .double _ => true
  | _ => false
/-- what is left of a place when the next one is stored to -/
def px_kl : Option Value → Option Value
  | some (.long _) => none
  | some (.double _) => none
  | o => o
def px_set : px_L → Nat → Value → px_L
  | [], _, _ => []
  | _ :: r, 0, v => some v :: r
  | o :: r, n + 1, v => cond (Nat.beq n 0) (px_kl o) o :: px_set r n v
def px_nones : Nat → px_L
  | 0 => []
  | n + 1 => none :: px_nones n
/-- a method's locals at its start -/
def px_args : Nat → List Value → px_L
  | n, [] => px_nones n
  | n, v :: r => cond (px_c2 v) (some v :: none :: px_args (n - 2) r) (some v :: px_args (n - 1) r)
def px_cell (h : px_H) (k : Nat) : Option va_E := cond (Nat.blt k 1000) (px_nth h.1 k) (px_nth h.2 (k - 1000))
def px_put (h : px_H) (k : Nat) (e : va_E) : px_H := cond (Nat.blt k 1000) (px_stn h.1 k e, h.2) (h.1, px_stn h.2 (k - 1000) e)
def px_inb (i : Int32) (n : Nat) : Bool := decide (0 ≤ i) && Nat.blt i.toNatClampNeg n
def px_cat : List Value → Nat
  | [] => 0
  | v :: r => v.category + px_cat r
def px_pop : Nat → List Value → List Value → Option (List Value × List Value)
  | 0, st, acc => some (acc, st)
  | _ + 1, [], _ => none
  | n + 1, v :: st, acc => px_pop n st (v :: acc)
def px_tl (v : Option Value) (rest : List Value) : List Value := match v with
  | some x => x :: rest
  | none => rest
-- the steps
def px_pushi (v : Int32) (n : Nat) : px_A := fun _ pc lv st h => some (.inl (pc + n, lv, .int v :: st, h))
def px_pushl (v : Int64) (n : Nat) : px_A := fun _ pc lv st h => some (.inl (pc + n, lv, .long v :: st, h))
def px_pushr (k n : Nat) : px_A := fun _ pc lv st h => some (.inl (pc + n, lv, .ref k :: st, h))
def px_pushn : px_A := fun _ pc lv st h => some (.inl (pc + 1, lv, .null :: st, h))
def px_ild (i n : Nat) : px_A := fun _ pc lv st h => match px_get lv i with
  | some (.int x) => some (.inl (pc + n, lv, .int x :: st, h))
  | _ => none
def px_lld (i n : Nat) : px_A := fun _ pc lv st h => match px_get lv i with
  | some (.long x) => some (.inl (pc + n, lv, .long x :: st, h))
  | _ => none
def px_ald (i n : Nat) : px_A := fun _ pc lv st h => match px_get lv i with
  | some (.ref x) => some (.inl (pc + n, lv, .ref x :: st, h))
  | some .null => some (.inl (pc + n, lv, .null :: st, h))
  | _ => none
def px_ist (i n : Nat) : px_A := fun _ pc lv st h => match st with
  | .int x :: r => some (.inl (pc + n, px_set lv i (.int x), r, h))
  | _ => none
def px_ast (i n : Nat) : px_A := fun _ pc lv st h => match st with
  | .ref x :: r => some (.inl (pc + n, px_set lv i (.ref x), r, h))
  | .null :: r => some (.inl (pc + n, px_set lv i .null, r, h))
  | _ => none
def px_iinc (i : Nat) (c : Int32) : px_A := fun _ pc lv st h => match px_get lv i with
  | some (.int x) => some (.inl (pc + 3, px_set lv i (.int (x + c)), st, h))
  | _ => none
def px_dup : px_A := fun _ pc lv st h => match st with
  | .int x :: r => some (.inl (pc + 1, lv, .int x :: .int x :: r, h))
  | .ref x :: r => some (.inl (pc + 1, lv, .ref x :: .ref x :: r, h))
  | _ => none
def px_dup2 : px_A := fun _ pc lv st h => match st with
  | .int x :: .ref y :: r => some (.inl (pc + 1, lv, .int x :: .ref y :: .int x :: .ref y :: r, h))
  | _ => none
def px_popi : px_A := fun _ pc lv st h => match st with
  | .int _ :: r => some (.inl (pc + 1, lv, r, h))
  | _ => none
def px_bin (f : Int32 → Int32 → Int32) : px_A := fun _ pc lv st h => match st with
  | .int y :: .int x :: r => some (.inl (pc + 1, lv, .int (f x y) :: r, h))
  | _ => none
def px_bin0 (f : Int32 → Int32 → Int32) : px_A := fun _ pc lv st h => match st with
  | .int y :: .int x :: r => cond (decide (y = 0)) none (some (.inl (pc + 1, lv, .int (f x y) :: r, h)))
  | _ => none
def px_un (f : Int32 → Int32) : px_A := fun _ pc lv st h => match st with
  | .int x :: r => some (.inl (pc + 1, lv, .int (f x) :: r, h))
  | _ => none
def px_i2l : px_A := fun _ pc lv st h => match st with
  | .int x :: r => some (.inl (pc + 1, lv, .long x.toInt64 :: r, h))
  | _ => none
def px_l2i : px_A := fun _ pc lv st h => match st with
  | .long x :: r => some (.inl (pc + 1, lv, .int x.toInt32 :: r, h))
  | _ => none
def px_lbin (f : Int64 → Int64 → Int64) : px_A := fun _ pc lv st h => match st with
  | .long y :: .long x :: r => some (.inl (pc + 1, lv, .long (f x y) :: r, h))
  | _ => none
def px_lsh (f : Int64 → Int32 → Int64) : px_A := fun _ pc lv st h => match st with
  | .int y :: .long x :: r => some (.inl (pc + 1, lv, .long (f x y) :: r, h))
  | _ => none
def px_goto (t : Nat) : px_A := fun _ _ lv st h => some (.inl (t, lv, st, h))
def px_if (f : Int32 → Bool) (t : Nat) : px_A := fun _ pc lv st h => match st with
  | .int x :: r => some (.inl (cond (f x) t (pc + 3), lv, r, h))
  | _ => none
def px_icmp (f : Int32 → Int32 → Bool) (t : Nat) : px_A := fun _ pc lv st h => match st with
  | .int y :: .int x :: r => some (.inl (cond (f x y) t (pc + 3), lv, r, h))
  | _ => none
def px_ifnull (t : Nat) : px_A := fun _ pc lv st h => match st with
  | .null :: r => some (.inl (t, lv, r, h))
  | .ref _ :: r => some (.inl (pc + 3, lv, r, h))
  | _ => none
def px_ifnn (t : Nat) : px_A := fun _ pc lv st h => match st with
  | .null :: r => some (.inl (pc + 3, lv, r, h))
  | .ref _ :: r => some (.inl (t, lv, r, h))
  | _ => none
def px_sw (lo : Int) (ts : List Nat) (d : Nat) (x : Int) : Nat := cond (decide (x < lo)) d (match px_nth ts (x - lo).toNat with
  | some t => t
  | none => d)
def px_tsw (lo : Int) (ts : List Nat) (d : Nat) : px_A := fun _ _ lv st h => match st with
  | .int x :: r => some (.inl (px_sw lo ts d x.toInt, lv, r, h))
  | _ => none
def px_lk : List (Int × Nat) → Nat → Int → Nat
  | [], d, _ => d
  | (a, t) :: r, d, k => cond (decide (a = k)) t (px_lk r d k)
def px_lsw (ps : List (Int × Nat)) (d : Nat) : px_A := fun _ _ lv st h => match st with
  | .int x :: r => some (.inl (px_lk ps d x.toInt, lv, r, h))
  | _ => none
def px_getf (ci k : Nat) : px_A := fun _ pc lv st h => match st with
  | .ref a :: r => match px_cell h a with
    | some (.inr (cj, fs)) => cond (Nat.beq cj ci) (match px_nth fs k with
      | some v => some (.inl (pc + 3, lv, v :: r, h))
      | none => none) none
    | _ => none
  | _ => none
def px_putf (z : Bool) (ci k : Nat) : px_A := fun _ pc lv st h => match st with
  | .int x :: .ref a :: r => match px_cell h a with
    | some (.inr (cj, fs)) => cond (Nat.beq cj ci && Nat.blt k fs.length && (z || x == 0 || x == 1)) (some (.inl (pc + 3, lv, r, px_put h a (.inr (cj, px_stn fs k (.int x)))))) none
    | _ => none
  | _ => none
def px_K0l : List Int32 := [100, 50, 0, -9, 1, 0]
def px_K1l : List Int32 := [4000, 200, 9, 9, 8, 1]
def px_K0 : Nat → Int32 := fun j => px_K0l.getD j 0
def px_K1 : Nat → Int32 := fun j => px_K1l.getD j 0
def px_arr (h : px_H) (a : Nat) : Option (Nat × (Nat → Int32)) := match px_cell h a with
  | some (.inl (t, n, .inl f)) => cond (Nat.beq t 0) (some (n, f)) none
  | _ => none
def px_iald : px_A := fun _ pc lv st h => match st with
  | .int i :: .ref a :: r => match px_arr h a with
    | some (n, f) => cond (px_inb i n) (some (.inl (pc + 1, lv, .int (f i.toNatClampNeg) :: r, h))) none
    | none => none
  | _ => none
def px_kald : px_A := fun _ pc lv st h => match st with
  | .int i :: .ref a :: r => cond (px_inb i 6) (cond (Nat.beq a 3000) (some (.inl (pc + 1, lv, .int (px_K0 i.toNatClampNeg) :: r, h))) (cond (Nat.beq a 3001) (some (.inl (pc + 1, lv, .int (px_K1 i.toNatClampNeg) :: r, h))) none)) none
  | _ => none
def px_iast : px_A := fun _ pc lv st h => match st with
  | .int x :: .int i :: .ref a :: r => match px_arr h a with
    | some (n, f) => cond (px_inb i n) (some (.inl (pc + 1, lv, r, px_put h a (.inl (0, n, .inl (upd f i.toNatClampNeg x)))))) none
    | none => none
  | _ => none
def px_aald : px_A := fun _ pc lv st h => match st with
  | .int i :: .ref a :: r => match px_cell h a with
    | some (.inl (t, n, .inr (.inr (.inr (.inr f))))) => cond (Nat.beq t 1 && px_inb i n) (match f i.toNatClampNeg with
      | some k => some (.inl (pc + 1, lv, .ref k :: r, h))
      | none => some (.inl (pc + 1, lv, .null :: r, h))) none
    | _ => none
  | _ => none
def px_alen : px_A := fun _ pc lv st h => match st with
  | .ref a :: r => match px_cell h a with
    | some (.inl (t, n, .inl _)) => cond (Nat.beq t 0) (some (.inl (pc + 1, lv, .int (Int32.ofNat n) :: r, h))) none
    | some (.inl (t, n, .inr (.inr (.inr (.inr _))))) => cond (Nat.beq t 1) (some (.inl (pc + 1, lv, .int (Int32.ofNat n) :: r, h))) none
    | _ => none
  | _ => none
def px_isO (h : px_H) (b ci : Nat) : Bool := match px_cell h b with
  | some (.inr (cj, _)) => Nat.beq cj ci
  | _ => false
def px_callV (j n ci : Nat) : px_A := fun cb pc lv st h => match px_pop (n + 1) st [] with
  | some (.ref b :: as, rest) => cond (px_isO h b ci && Nat.ble (px_cat rest) 8) (match cb j (.ref b :: as) h with
    | some (v, h') => some (.inl (pc + 3, lv, px_tl v rest, h'))
    | none => none) none
  | _ => none
def px_callS (j n : Nat) : px_A := fun cb pc lv st h => match px_pop n st [] with
  | some (as, rest) => cond (Nat.ble (px_cat rest) 8) (match cb j as h with
    | some (v, h') => some (.inl (pc + 3, lv, px_tl v rest, h'))
    | none => none) none
  | _ => none
def px_mx (f : Int32 → Int32 → Int32) : px_A := fun _ pc lv st h => match st with
  | .int y :: .int x :: r => cond (Nat.ble (px_cat r) 8) (some (.inl (pc + 3, lv, .int (f x y) :: r, h))) none
  | _ => none
def px_acopy : px_A := fun _ pc lv st h => match st with
  | .int n :: .int dp :: .ref b :: .int sp :: .ref a :: r => match px_arr h a, px_arr h b with
    | some (n0, f), some (n1, g) => cond (decide (0 ≤ sp) && decide (0 ≤ dp) && decide (0 ≤ n) && Nat.ble (sp.toNatClampNeg + n.toNatClampNeg) n0 && Nat.ble (dp.toNatClampNeg + n.toNatClampNeg) n1 && Nat.ble (px_cat r) 8)
      (some (.inl (pc + 3, lv, r, px_put h b (.inl (0, n1, .inl (va_cpy f g sp.toNatClampNeg dp.toNatClampNeg n.toNatClampNeg)))))) none
    | _, _ => none
  | _ => none
def px_iret : px_A := fun _ _ _ st h => match st with
  | [.int x] => some (.inr (some (.int x), h))
  | _ => none
def px_zret : px_A := fun _ _ _ st h => match st with
  | [.int x] => cond (x == 0 || x == 1) (some (.inr (some (.int x), h))) none
  | _ => none
def px_aret : px_A := fun _ _ _ st h => match st with
  | [.ref x] => some (.inr (some (.ref x), h))
  | [.null] => some (.inr (some .null, h))
  | _ => none
def px_vret : px_A := fun _ _ _ st h => match st with
  | [] => some (.inr (none, h))
  | _ => none
-- a method's code as a tree over its places
def px_node {α : Type} (k : Nat) (l r : Nat → Option α) : Nat → Option α := fun pc => cond (Nat.blt pc k) (l pc) (r pc)
def px_leaf {α : Type} (k : Nat) (a : α) : Nat → Option α := fun pc => cond (Nat.beq pc k) (some a) none
def px_loop (cb : px_C) (code : Nat → Option px_A) : Nat → Nat → px_L → List Value → px_H → Option (Option Value × px_H)
  | 0, _, _, _, _ => none
  | n + 1, pc, lv, st, h => match code pc with
    | none => none
    | some act => match act cb pc lv st h with
      | none => none
      | some (.inl (pc', lv', st', h')) => px_loop cb code n pc' lv' st' h'
      | some (.inr r) => some r
end
section
/-! WHAT A PURE STEP SAYS OF THE MACHINE -/
def px_mv (ad : Nat → Nat) : Value → Value
  | .ref k => .ref (ad k)
  | v => v
def px_mlf (ad : Nat → Nat) : Nat → px_L → List (Nat × Value)
  | _, [] => []
  | n, none :: r => px_mlf ad (n + 1) r
  | n, some v :: r => (n, px_mv ad v) :: px_mlf ad (n + 1) r
def px_ml (ad : Nat → Nat) (lv : px_L) : List (Nat × Value) := px_mlf ad 0 lv
abbrev px_ms (ad : Nat → Nat) (st : List Value) : List Value := st.map (px_mv ad)
def px_mx4 (ad : Nat → Nat) : vp_A → vp_A
  | (n, .inr (.inr (.inr (.inr f)))) => (n, .inr (.inr (.inr (.inr (fun j => (f j).map ad)))))
  | x => x
def px_me (tc : Nat → ClassId) (ad : Nat → Nat) : va_E → va_E
  | .inr (ci, fs) => .inr (ci, fs.map (px_mv ad))
  | .inl (t, x) => .inl (tc t, px_mx4 ad x)
def px_mi (tc : Nat → ClassId) (ad : Nat → Nat) : Nat → List va_E → va_W
  | _, [] => []
  | n, e :: r => (ad n, px_me tc ad e) :: px_mi tc ad (n + 1) r
def px_ws (tc : Nat → ClassId) (ad : Nat → Nat) (h : px_H) : va_W := px_mi tc ad 0 h.1 ++ px_mi tc ad 1000 h.2
def px_pl (h : px_H) (k : Nat) : Nat := cond (Nat.blt k 1000) k (h.1.length + (k - 1000))
theorem px_blt {a b : Nat} : Nat.blt a b = true ↔ a < b := by unfold Nat.blt; exact ⟨fun h => Nat.le_of_ble_eq_true h, fun h => Nat.ble_eq_true_of_le h⟩
theorem px_blt_f {a b : Nat} : Nat.blt a b = false ↔ b ≤ a := by
  constructor
  · intro h
    rcases Nat.lt_or_ge a b with q | q
    · rw [px_blt.mpr q] at h; cases h
    · exact q
  · intro h
    cases hb : Nat.blt a b with
    | false => rfl
    | true => exact absurd (px_blt.mp hb) (by omega)
theorem px_mi_len (tc : Nat → ClassId) (ad : Nat → Nat) : ∀ (l : List va_E) (n : Nat), (px_mi tc ad n l).length = l.length
  | [], _ => rfl
  | _ :: r, n => by simp [px_mi, px_mi_len tc ad r (n + 1)]
theorem px_mi_get (tc : Nat → ClassId) (ad : Nat → Nat) : ∀ (l : List va_E) (n k : Nat) (e : va_E), px_nth l k = some e → (px_mi tc ad n l)[k]? = some (ad (n + k), px_me tc ad e)
  | [], _, _, _, h => by cases h
  | a :: r, n, 0, e, h => by cases h; rfl
  | a :: r, n, k + 1, e, h => by
    show (px_mi tc ad (n + 1) r)[k]? = _
    rw [px_mi_get tc ad r (n + 1) k e h, show n + 1 + k = n + (k + 1) by omega]
theorem px_mi_set (tc : Nat → ClassId) (ad : Nat → Nat) : ∀ (l : List va_E) (n k : Nat) (e : va_E), (px_mi tc ad n l).set k (ad (n + k), px_me tc ad e) = px_mi tc ad n (px_stn l k e)
  | [], _, _, _ => rfl
  | a :: r, n, 0, e => rfl
  | a :: r, n, k + 1, e => by
    show (ad n, px_me tc ad a) :: (px_mi tc ad (n + 1) r).set k _ = _
    rw [show n + (k + 1) = n + 1 + k by omega, px_mi_set tc ad r (n + 1) k e]
    rfl
theorem px_stn_len {α : Type} : ∀ (l : List α) (k : Nat) (e : α), (px_stn l k e).length = l.length
  | [], _, _ => rfl
  | _ :: _, 0, _ => rfl
  | _ :: r, k + 1, e => by simp [px_stn, px_stn_len r k e]
theorem px_stn_set {α : Type} : ∀ (l : List α) (k : Nat) (e : α), px_stn l k e = l.set k e
  | [], _, _ => rfl
  | _ :: _, 0, _ => rfl
  | _ :: r, k + 1, e => by simp [px_stn, px_stn_set r k e]
theorem px_nth_lt {α : Type} : ∀ (l : List α) (k : Nat) (e : α), px_nth l k = some e → k < l.length
  | [], _, _, h => by cases h
  | _ :: _, 0, _, _ => Nat.succ_pos _
  | _ :: r, k + 1, e, h => Nat.succ_lt_succ (px_nth_lt r k e h)
theorem px_nth_get {α : Type} : ∀ (l : List α) (k : Nat), px_nth l k = l[k]?
  | [], _ => rfl
  | _ :: _, 0 => rfl
  | _ :: r, k + 1 => by simp [px_nth, px_nth_get r k]
theorem px_ws_get (tc : Nat → ClassId) (ad : Nat → Nat) {h : px_H} {k : Nat} {e : va_E} (hc : px_cell h k = some e) : (px_ws tc ad h)[px_pl h k]? = some (ad k, px_me tc ad e) := by
  unfold px_cell at hc
  unfold px_ws px_pl
  cases hb : Nat.blt k 1000 with
  | true =>
    rw [hb] at hc
    have hl := px_nth_lt _ _ _ hc
    rw [List.getElem?_append_left (by rw [px_mi_len]; exact hl)]
    have := px_mi_get tc ad h.1 0 k e hc
    rwa [Nat.zero_add] at this
  | false =>
    rw [hb] at hc
    have h1 := px_blt_f.mp hb
    show (px_mi tc ad 0 h.1 ++ px_mi tc ad 1000 h.2)[h.1.length + (k - 1000)]? = _
    rw [List.getElem?_append_right (by rw [px_mi_len]; omega), px_mi_len, Nat.add_sub_cancel_left, px_mi_get tc ad h.2 1000 (k - 1000) e hc, show 1000 + (k - 1000) = k by omega]
theorem px_ws_set (tc : Nat → ClassId) (ad : Nat → Nat) {h : px_H} {k : Nat} {e0 : va_E} (e : va_E) (hc : px_cell h k = some e0) : (px_ws tc ad h).set (px_pl h k) (ad k, px_me tc ad e) = px_ws tc ad (px_put h k e) := by
  unfold px_cell at hc
  unfold px_ws px_pl px_put
  cases hb : Nat.blt k 1000 with
  | true =>
    rw [hb] at hc
    have hl := px_nth_lt _ _ _ hc
    show (px_mi tc ad 0 h.1 ++ px_mi tc ad 1000 h.2).set k _ = px_mi tc ad 0 (px_stn h.1 k e) ++ px_mi tc ad 1000 h.2
    rw [List.set_append_left _ _ (by rw [px_mi_len]; exact hl)]
    have := px_mi_set tc ad h.1 0 k e
    rw [Nat.zero_add] at this
    rw [this]
  | false =>
    have h1 := px_blt_f.mp hb
    show (px_mi tc ad 0 h.1 ++ px_mi tc ad 1000 h.2).set (h.1.length + (k - 1000)) _ = px_mi tc ad 0 h.1 ++ px_mi tc ad 1000 (px_stn h.2 (k - 1000) e)
    rw [List.set_append_right _ _ (by rw [px_mi_len]; omega), px_mi_len, Nat.add_sub_cancel_left]
    have := px_mi_set tc ad h.2 1000 (k - 1000) e
    rw [show 1000 + (k - 1000) = k by omega] at this
    rw [this]
theorem px_mlf_mem (ad : Nat → Nat) : ∀ (lv : px_L) (n : Nat) (q : Nat × Value), q ∈ px_mlf ad n lv ↔ ∃ (k : Nat) (v : Value), px_get lv k = some v ∧ q = (n + k, px_mv ad v)
  | [], n, q => ⟨fun h => absurd h List.not_mem_nil, fun ⟨_, _, h, _⟩ => by cases h⟩
  | none :: r, n, q => by
    show q ∈ px_mlf ad (n + 1) r ↔ _
    rw [px_mlf_mem ad r (n + 1) q]
    constructor
    · rintro ⟨k, v, h1, h2⟩
      exact ⟨k + 1, v, h1, by rw [h2, show n + 1 + k = n + (k + 1) by omega]⟩
    · rintro ⟨k, v, h1, h2⟩
      cases k with
      | zero => cases h1
      | succ k => exact ⟨k, v, h1, by rw [h2, show n + 1 + k = n + (k + 1) by omega]⟩
  | some w :: r, n, q => by
    show q ∈ (n, px_mv ad w) :: px_mlf ad (n + 1) r ↔ _
    rw [List.mem_cons, px_mlf_mem ad r (n + 1) q]
    constructor
    · rintro (h | ⟨k, v, h1, h2⟩)
      · exact ⟨0, w, rfl, h⟩
      · exact ⟨k + 1, v, h1, by rw [h2, show n + 1 + k = n + (k + 1) by omega]⟩
    · rintro ⟨k, v, h1, h2⟩
      cases k with
      | zero => cases h1; exact Or.inl h2
      | succ k => exact Or.inr ⟨k, v, h1, by rw [h2, show n + 1 + k = n + (k + 1) by omega]⟩
theorem px_get_mem (ad : Nat → Nat) (lv : px_L) (i : Nat) (v : Value) (h : px_get lv i = some v) : ∃ k : Nat, (px_ml ad lv)[k]? = some (i, px_mv ad v) :=
  List.getElem?_of_mem ((px_mlf_mem ad lv 0 _).mpr ⟨i, v, h, by rw [Nat.zero_add]⟩)
theorem px_c2_mv (ad : Nat → Nat) (v : Value) : ((px_mv ad v).category == 2) = px_c2 v := by cases v <;> rfl
theorem px_set_get : ∀ (lv : px_L) (i : Nat) (v : Value) (k : Nat) (w : Value), px_get (px_set lv i v) k = some w → (k = i ∧ w = v) ∨ (k ≠ i ∧ px_get lv k = some w ∧ ¬ (k + 1 = i ∧ px_c2 w = true))
  | [], _, _, _, _, h => by cases h
  | o :: r, 0, v, 0, w, h => by cases h; exact Or.inl ⟨rfl, rfl⟩
  | o :: r, 0, v, k + 1, w, h => Or.inr ⟨by omega, h, by omega⟩
  | o :: r, n + 1, v, 0, w, h => by
    refine Or.inr ⟨by omega, ?_⟩
    have h : cond (Nat.beq n 0) (px_kl o) o = some w := h
    cases hb : Nat.beq n 0 with
    | false =>
      rw [hb] at h
      refine ⟨h, fun q => ?_⟩
      have e : n = 0 := by omega
      rw [e] at hb
      cases hb
    | true =>
      rw [hb] at h
      have h : px_kl o = some w := h
      cases o with
      | none => cases h
      | some z => cases z <;> first | (cases h; exact ⟨rfl, fun q => by cases q.2⟩) | cases h
  | o :: r, n + 1, v, k + 1, w, h => by
    rcases px_set_get r n v k w h with ⟨e1, e2⟩ | ⟨e1, e2, e3⟩
    · exact Or.inl ⟨by omega, e2⟩
    · exact Or.inr ⟨by omega, e2, fun q => e3 ⟨by omega, q.2⟩⟩
theorem px_beq (a b : Nat) : (a == b) = Nat.beq a b := by
  rw [Bool.eq_iff_iff, beq_iff_eq]
  exact ⟨fun h => by rw [h]; exact Nat.beq_refl b, Nat.eq_of_beq_eq_true⟩
theorem px_has_le {ls : Array Slot} {n : Nat} {l l' : List (Nat × Value)} (h : lv_has ls n l) (hs : ∀ q ∈ l', q ∈ l) : lv_has ls n l' := ⟨h.1, h.2.1, fun q hq => h.2.2 q (hs q hq)⟩
theorem px_has_set {ad : Nat → Nat} {ls : Array Slot} {n i : Nat} {lv : px_L} {v : Value} (h : lv_has ls n ((i, px_mv ad v) :: (px_ml ad lv).filter (fun q => !(q.1 == i) && !(q.1 + 1 == i && q.2.category == 2)))) : lv_has ls n (px_ml ad (px_set lv i v)) := by
  refine px_has_le h (fun q hq => ?_)
  obtain ⟨k, w, h1, rfl⟩ := (px_mlf_mem ad _ 0 q).mp hq
  rw [Nat.zero_add]
  rcases px_set_get lv i v k w h1 with ⟨e1, e2⟩ | ⟨e1, e2, e3⟩
  · subst e1; subst e2
    exact List.mem_cons_self
  · refine List.mem_cons_of_mem _ (List.mem_filter.mpr ⟨(px_mlf_mem ad lv 0 _).mpr ⟨k, w, e2, by rw [Nat.zero_add]⟩, ?_⟩)
    show (!(k == i) && !(k + 1 == i && (px_mv ad w).category == 2)) = true
    rw [px_c2_mv, px_beq, px_beq]
    cases hb : Nat.beq k i with
    | true => exact absurd (Nat.eq_of_beq_eq_true hb) e1
    | false =>
      cases hc : Nat.beq (k + 1) i with
      | false => rfl
      | true =>
        cases hd : px_c2 w with
        | false => rfl
        | true => exact absurd ⟨Nat.eq_of_beq_eq_true hc, hd⟩ e3
theorem px_cat_ms (ad : Nat → Nat) : ∀ st : List Value, ((px_ms ad st).map fun v => v.category).sum = px_cat st
  | [] => rfl
  | v :: r => by
    have h : (px_mv ad v).category = v.category := by cases v <;> rfl
    show (px_mv ad v).category + ((px_ms ad r).map fun v => v.category).sum = v.category + px_cat r
    rw [h, px_cat_ms ad r]
theorem px_pop_eq : ∀ (n : Nat) (st acc l rest : List Value), px_pop n st acc = some (l, rest) → ∃ t : List Value, t.length = n ∧ st = t ++ rest ∧ l = t.reverse ++ acc
  | 0, st, acc, l, rest, h => by cases h; exact ⟨[], rfl, rfl, rfl⟩
  | n + 1, [], acc, l, rest, h => by cases h
  | n + 1, v :: st, acc, l, rest, h => by
    obtain ⟨t, h1, h2, h3⟩ := px_pop_eq n st (v :: acc) l rest h
    exact ⟨v :: t, by simp [h1], by simp [h2], by simp [h3]⟩
theorem px_nones_mem (ad : Nat → Nat) : ∀ (n i : Nat), px_mlf ad i (px_nones n) = []
  | 0, _ => rfl
  | n + 1, i => px_nones_mem ad n (i + 1)
theorem px_args_mem (ad : Nat → Nat) : ∀ (as : List Value) (n i : Nat) (q : Nat × Value), q ∈ px_mlf ad i (px_args n as) → q ∈ lv_args i (px_ms ad as)
  | [], n, i, q, h => by
    rw [show px_args n [] = px_nones n from by cases n <;> rfl, px_nones_mem] at h
    exact absurd h List.not_mem_nil
  | v :: r, n, i, q, h => by
    have hc : (px_mv ad v).category = v.category := by cases v <;> rfl
    show q ∈ (i, px_mv ad v) :: lv_args (if (px_mv ad v).category = 2 then i + 2 else i + 1) (px_ms ad r)
    rw [hc]
    cases v <;> (rcases List.mem_cons.mp h with h | h <;> first | (rw [h]; exact List.mem_cons_self) | exact List.mem_cons_of_mem _ (px_args_mem ad r _ _ q h))
theorem px_has_args {ad : Nat → Nat} {ls : Array Slot} {n m : Nat} {as : List Value} (h : lv_has ls n (lv_args 0 (px_ms ad as))) : lv_has ls n (px_ml ad (px_args m as)) := px_has_le h (fun q hq => px_args_mem ad as m 0 q hq)
theorem px_sl_len (ad : Nat → Nat) : ∀ as : List Value, (lg_sl (px_ms ad as)).length = px_cat as
  | [] => rfl
  | v :: r => by
    have ih := px_sl_len ad r
    have e : lg_sl (px_ms ad (v :: r)) = (if (px_mv ad v).category = 2 then [Slot.val (px_mv ad v), .second] else [.val (px_mv ad v)]) ++ lg_sl (px_ms ad r) := rfl
    rw [e, List.length_append, ih]
    cases v <;> rfl
end
section
def px_ty (tc : Nat → ClassId) : List (ClassId × FieldType) := [(tc 0, .int), (tc 1, .object "FromTheMiddle$Sheet")]
def px_nest : List (String × Nat × MethodName × String) := [(RX3, 44, ⟨RX7, "quotient", "(II)I"⟩, RX7), (RX3, 48, ⟨RX7, "rest", "(II)I"⟩, RX7), (RX4, 82, ⟨RX7, "quotient", "(II)I"⟩, RX7), (RX6, 60, ⟨RX7, "isOfKind", "(II)Z"⟩, RX7), (RX6, 64, ⟨RX7, "quotient", "(II)I"⟩, RX7), (RX7, 30, ⟨RX5, "<init>", "()V"⟩, RX7), (RX7, 37, ⟨RX4, "<init>", "()V"⟩, RX7), (RX7, 44, ⟨RX2, "<init>", "()V"⟩, RX7), (RX7, 51, ⟨RX3, "<init>", "()V"⟩, RX7), (RX7, 58, ⟨RX6, "<init>", "()V"⟩, RX7)]
/-- what is constant: two static rows, two texts, the links among nest mates -/
def px_KC (ad : Nat → Nat) (A : Nat → Prop) (U : State) (H : Heap) : Prop :=
  (va_Z RX7 "LEAST" "[I" (.ref (ad 3000)) A U H ∧ va_T .int (ad 3000) 6 (fun j => .int (px_K0 j)) A U H) ∧ (va_Z RX7 "MOST" "[I" (.ref (ad 3001)) A U H ∧ va_T .int (ad 3001) 6 (fun j => .int (px_K1 j)) A U H) ∧
  (vk_R RX7 132 "ctw" (ad 3002) U ∧ vk_R RX7 134 "hnk" (ad 3003) U) ∧ (∀ q ∈ px_nest, va_Nw (.methodLinkNest q.1 q.2.1 q.2.2.1 q.2.2.2) U) ∧ va_AO RX5 U ∧
  (va_Z "java/lang/String" "COMPACT_STRINGS" "Z" (.int 1) A U H ∧ ∃ adV : Nat → Nat, vk_S 2 [3, 3] [[99, 116, 119], [104, 110, 107]] (fun i => cond (Nat.beq i 0) (ad 3002) (ad 3003)) adV A U H)
theorem px_KC.kept {ad : Nat → Nat} {A : Nat → Prop} {U : State} {H H1 : Heap} (h : px_KC ad A U H) (hq : ∀ a : Nat, a < H.size → ¬ A a → H1[a]? = H[a]?) : px_KC ad A U H1 := by
  obtain ⟨⟨a1, a2⟩, ⟨b1, b2⟩, hc, hd, he, hf, v, hg⟩ := h
  exact ⟨⟨a1.kept hq, a2.kept hq⟩, ⟨b1.kept hq, b2.kept hq⟩, hc, hd, he, hf.kept hq, v, hg.kept hq⟩
theorem px_KC.narrow {ad : Nat → Nat} {A B : Nat → Prop} {U : State} {H : Heap} (h : px_KC ad A U H) (hAB : ∀ q, B q → A q) : px_KC ad B U H := by
  obtain ⟨⟨a1, a2⟩, ⟨b1, b2⟩, hc, hd, he, hf, v, hg⟩ := h
  exact ⟨⟨a1.narrow hAB, a2.narrow hAB⟩, ⟨b1.narrow hAB, b2.narrow hAB⟩, hc, hd, he, hf.narrow hAB, v, hg.narrow hAB⟩
theorem px_KC.warm {ad : Nat → Nat} {A : Nat → Prop} {s U : State} {H : Heap} (hW : s.WarmedH U.vm) (h : px_KC ad A s H) : px_KC ad A U H := by
  obtain ⟨⟨a1, a2⟩, ⟨b1, b2⟩, hc, hd, he, hf, v, hg⟩ := h
  exact ⟨⟨a1.moved hW.alike, a2.moved hW.alike⟩, ⟨b1.moved hW.alike, b2.moved hW.alike⟩, ⟨hc.1.warm hW, hc.2.warm hW⟩, fun q hq => va_Nw.warmM hW (hd q hq), he.moved hW.alike, hf.moved hW.alike, v, hg.moved hW.alike⟩
theorem px_KC.same {ad : Nat → Nat} {A : Nat → Prop} {s U : State} {H : Heap} (hv : U.vm = s.vm) (h : px_KC ad A s H) : px_KC ad A U H := by
  obtain ⟨⟨a1, a2⟩, ⟨b1, b2⟩, hc, hd, he, hf, v, hg⟩ := h
  have hal : s.vm.Alike U.vm := by rw [hv]; exact Vm.Alike.refl _
  exact ⟨⟨a1.moved hal, a2.moved hal⟩, ⟨b1.moved hal, b2.moved hal⟩, ⟨hc.1.same hv, hc.2.same hv⟩, fun q hq => va_Nw.same rfl hv.symm (hd q hq), he.moved hal, hf.moved hal, v, hg.moved hal⟩
/-- a frame of a method, as the steps want it -/
def px_X (own : String) (cc : ByteArray) (nL : Nat) (p : Program) (R : Room) (s : State) (m : MethodId) (args : Array Value) (c : Code) (cells slots : Nat) (A : Nat → Prop) (ad : Nat → Nat) (D : va_G) (tc : Nat → ClassId) : Prop :=
  p.tables.exec = Jvm.exec ∧ c.code = cc ∧ c.maxLocals = nL ∧ s.vm.findClass own = some m.cls ∧ (∀ w ∈ px_words, w.before args s = true) ∧ va_K D vwCl (px_ty tc) s ∧ 1 ≤ R.frames ∧ 80 ≤ R.locals ∧ cells ≤ R.cells ∧ slots ≤ R.slots ∧ px_KC ad A s s.heap ∧ ∀ q, s.heap.size ≤ q → A q
def px_Wd (D : va_G) (tc : Nat → ClassId) (ad : Nat → Nat) (A : Nat → Prop) (H0 : Heap) (h : px_H) (H : Heap) (locs : List Loc) : Prop :=
  va_P D vwCl (px_ws tc ad h) H ∧ va_D A (px_ws tc ad h) ∧ va_S A H0 H locs
abbrev px_M : Type := MethodName × ByteArray × Nat × Option FieldType
def px_wj (M : px_M) : List Cond := .code M.1 M.2.1 M.2.2.1 M.2.2.2 :: px_words
def px_Pre (D : va_G) (tc : Nat → ClassId) (ad : Nat → Nat) (as : List Value) (h : px_H) (sz : Nat) : Array Value → State → Prop :=
  va_Pc (px_ms ad as) (fun U => U.heap.size = sz ∧ va_P D vwCl (px_ws tc ad h) U.heap ∧ va_K D vwCl (px_ty tc) U ∧ va_D (fun _ => True) (px_ws tc ad h) ∧ px_KC ad (va_A (px_ws tc ad h) sz) U U.heap)
def px_Q (D : va_G) (tc : Nat → ClassId) (ad : Nat → Nat) (v : Option Value) (h' : px_H) (A : Nat → Prop) : Array Value → State → Outcome → State → Prop := fun _ st oc t =>
  oc = .returned (v.map (px_mv ad)) ∧ va_P D vwCl (px_ws tc ad h') t.heap ∧ va_D A (px_ws tc ad h') ∧ va_F A st t
def px_Met (l : Launch) (D : va_G) (tc : Nat → ClassId) (ad : Nat → Nat) (rm : Room) (M : px_M) (as : List Value) (h : px_H) (v : Option Value) (h' : px_H) : Prop :=
  ∀ sz : Nat, Met l M.1 (px_wj M) rm (px_Pre D tc ad as h sz) (px_Q D tc ad v h' (va_A (px_ws tc ad h) sz)) 0 0 (va_A (px_ws tc ad h) sz)
/-- what a call of the pure machine says of the machine; mm: the methods by their numbers -/
def px_cbok (mm : Nat → Option px_M) (l : Launch) (R : Room) (D : va_G) (tc : Nat → ClassId) (ad : Nat → Nat) (cb : px_C) : Prop :=
  ∃ rm : Room, rm.frames + 1 ≤ R.frames ∧ 80 + rm.locals ≤ R.locals ∧ rm.cells = 0 ∧ rm.slots = 0 ∧ ∀ (j : Nat) (as : List Value) (h : px_H) (v : Option Value) (h' : px_H), cb j as h = some (v, h') → ∀ M, mm j = some M → px_Met l D tc ad rm M as h v h'
def px_end (cc : ByteArray) (ret : Option FieldType) (pc : Nat) (v : Option Value) (st : List Value) : Prop :=
  (∃ (x : Int32) (ty : FieldType), v = some (.int x) ∧ st = [.int x] ∧ ret = some ty ∧ narrow ty (.int x) = .int x ∧ decode cc pc = .ok (.ireturn, 1)) ∨
  (∃ (x : Value) (n : String), v = some x ∧ st = [x] ∧ (x = .null ∨ ∃ k, x = .ref k) ∧ ret = some (.object n) ∧ decode cc pc = .ok (.areturn, 1)) ∨
  (v = none ∧ st = [] ∧ ret = none ∧ decode cc pc = .ok (.return_, 1))
section PXOK
variable {p : Program} {l : Launch} {e : Env} {R : Room} {s : State} {m : MethodId} {args : Array Value} {below : List Frame} {meth : Method} {c : Code} {cells slots : Nat} {Q : State → Prop} {A : Nat → Prop} {ad : Nat → Nat} {D : va_G} {tc : Nat → ClassId}
def px_tr (p : Program) (l : Launch) (e : Env) (R : Room) (s : State) (m : MethodId) (args : Array Value) (below : List Frame) (meth : Method) (c : Code) (cells slots : Nat) (Q : State → Prop) (A : Nat → Prop) (ad : Nat → Nat) (D : va_G) (tc : Nat → ClassId) (cc : ByteArray) (nL : Nat) (ret : Option FieldType) (pc : Nat) (lv : px_L) (st : List Value) (h : px_H) : px_N → Prop
  | .inl (pc', lv', st', h') => ∀ (H : Heap) (locs : List Loc) (ls : Array Slot), px_Wd D tc ad A s.heap h H locs → lv_has ls nL (px_ml ad lv) →
    (∀ (H' : Heap) (locs' : List Loc) (ls' : Array Slot), px_Wd D tc ad A s.heap h' H' locs' → lv_has ls' nL (px_ml ad lv') → W p l e R s m args below meth c H' locs' cells slots Q (F0 m pc' ls' (px_ms ad st'))) →
    W p l e R s m args below meth c H locs cells slots Q (F0 m pc ls (px_ms ad st))
  | .inr (v, h') => h' = h ∧ px_end cc ret pc v st
end PXOK
/-- a step of a method, at a place, is the machine's -/
def px_ok (mm : Nat → Option px_M) (own : String) (cc : ByteArray) (nL : Nat) (ret : Option FieldType) (pc : Nat) (act : px_A) : Prop :=
  ∀ (p : Program) (l : Launch) (e : Env) (R : Room) (s : State) (m : MethodId) (args : Array Value) (below : List Frame) (meth : Method) (c : Code) (cells slots : Nat) (Q : State → Prop) (A : Nat → Prop) (ad : Nat → Nat) (D : va_G) (tc : Nat → ClassId) (cb : px_C),
    px_X own cc nL p R s m args c cells slots A ad D tc → px_cbok mm l R D tc ad cb → ∀ (lv : px_L) (st : List Value) (h : px_H) (r : px_N), act cb pc lv st h = some r → px_tr p l e R s m args below meth c cells slots Q A ad D tc cc nL ret pc lv st h r
section PXROWS
variable {mm : Nat → Option px_M} {own : String} {cc : ByteArray} {nL : Nat} {ret : Option FieldType} {pc : Nat}
theorem ok_iconst {i : Int} {v : Int32} (hdg : decode cc pc = .ok (.iconst i, 1)) (hv : Int32.ofInt i = v) : px_ok mm own cc nL ret pc (px_pushi v 1) := by
  intro p l e R s m args below meth c cells slots Q A ad D tc cb X _ lv st h r hr
  cases hr
  exact fun H locs ls hW hl k => lv_iconst X.1 X.2.1 hdg hv (k _ _ _ hW hl)
theorem ok_bipush {i : Int} {v : Int32} (hdg : decode cc pc = .ok (.bipush i, 2)) (hv : (Int8.ofInt i).toInt32 = v) : px_ok mm own cc nL ret pc (px_pushi v 2) := by
  intro p l e R s m args below meth c cells slots Q A ad D tc cb X _ lv st h r hr
  cases hr
  exact fun H locs ls hW hl k => lv_bipush X.1 X.2.1 hdg hv (k _ _ _ hW hl)
theorem ok_sipush {i : Int} {v : Int32} (hdg : decode cc pc = .ok (.sipush i, 3)) (hv : (Int16.ofInt i).toInt32 = v) : px_ok mm own cc nL ret pc (px_pushi v 3) := by
  intro p l e R s m args below meth c cells slots Q A ad D tc cb X _ lv st h r hr
  cases hr
  exact fun H locs ls hW hl k => lv_sipush X.1 X.2.1 hdg hv (k _ _ _ hW hl)
theorem ok_ldc {i : Nat} {v : Int32} (hw : Cond.constant own i v ∈ px_words) (hdg : decode cc pc = .ok (.ldc i, 2)) : px_ok mm own cc nL ret pc (px_pushi v 2) := by
  intro p l e R s m args below meth c cells slots Q A ad D tc cb X _ lv st h r hr
  cases hr
  exact fun H locs ls hW hl k => lv_ldc X.1 X.2.1 X.2.2.2.1 (X.2.2.2.2.1 _ hw) hdg (k _ _ _ hW hl)
theorem ok_ldcw {i : Nat} {v : Int32} (hw : Cond.constant own i v ∈ px_words) (hdg : decode cc pc = .ok (.ldc_w i, 3)) : px_ok mm own cc nL ret pc (px_pushi v 3) := by
  intro p l e R s m args below meth c cells slots Q A ad D tc cb X _ lv st h r hr
  cases hr
  exact fun H locs ls hW hl k => lv_ldcw X.1 X.2.1 X.2.2.2.1 (X.2.2.2.2.1 _ hw) hdg (k _ _ _ hW hl)
theorem ok_ldc2 {i : Nat} {v : Int64} (hw : Cond.constantLong own i v ∈ px_words) (hdg : decode cc pc = .ok (.ldc2_w i, 3)) : px_ok mm own cc nL ret pc (px_pushl v 3) := by
  intro p l e R s m args below meth c cells slots Q A ad D tc cb X _ lv st h r hr
  cases hr
  exact fun H locs ls hW hl k => lv_ldc2 X.1 X.2.1 X.2.2.2.1 (X.2.2.2.2.1 _ hw) hdg (k _ _ _ hW hl)
theorem ok_null (hdg : decode cc pc = .ok (.aconst_null, 1)) : px_ok mm own cc nL ret pc px_pushn := by
  intro p l e R s m args below meth c cells slots Q A ad D tc cb X _ lv st h r hr
  cases hr
  exact fun H locs ls hW hl k => lv_null X.1 X.2.1 hdg (k _ _ _ hW hl)
theorem px_ild_r {i n : Nat} {cb : px_C} {lv : px_L} {st : List Value} {h : px_H} {r : px_N} (hr : px_ild i n cb pc lv st h = some r) : ∃ x, px_get lv i = some (.int x) ∧ r = .inl (pc + n, lv, .int x :: st, h) := by
  unfold px_ild at hr
  split at hr
  · next x hx => cases hr; exact ⟨x, hx, rfl⟩
  · cases hr
theorem ok_iload_n {k : Fin 4} {i : Nat} (hi : (k : Nat) = i) (hdg : decode cc pc = .ok (.iload_n k, 1)) : px_ok mm own cc nL ret pc (px_ild i 1) := by
  intro p l e R s m args below meth c cells slots Q A ad D tc cb X _ lv st h r hr
  obtain ⟨x, hx, rfl⟩ := px_ild_r hr
  obtain ⟨q, hq⟩ := px_get_mem ad _ _ _ hx
  exact fun H locs ls hW hl k => lv_iload_n X.1 X.2.1 hdg hi (lv_at hl q hq) (k _ _ _ hW hl)
theorem ok_iload {i : Nat} (hdg : decode cc pc = .ok (.iload i, 2)) : px_ok mm own cc nL ret pc (px_ild i 2) := by
  intro p l e R s m args below meth c cells slots Q A ad D tc cb X _ lv st h r hr
  obtain ⟨x, hx, rfl⟩ := px_ild_r hr
  obtain ⟨q, hq⟩ := px_get_mem ad _ _ _ hx
  exact fun H locs ls hW hl k => lv_iload X.1 X.2.1 hdg (lv_at hl q hq) (k _ _ _ hW hl)
theorem ok_lload_n {k : Fin 4} {i : Nat} (hi : (k : Nat) = i) (hdg : decode cc pc = .ok (.lload_n k, 1)) : px_ok mm own cc nL ret pc (px_lld i 1) := by
  intro p l e R s m args below meth c cells slots Q A ad D tc cb X _ lv st h r hr
  unfold px_lld at hr
  split at hr
  · next x hx =>
    cases hr
    obtain ⟨q, hq⟩ := px_get_mem ad _ _ _ hx
    exact fun H locs ls hW hl k => lv_lload_n X.1 X.2.1 hdg hi (lv_at hl q hq) (k _ _ _ hW hl)
  · cases hr
theorem ok_aload_n {k : Fin 4} {i : Nat} (hi : (k : Nat) = i) (hdg : decode cc pc = .ok (.aload_n k, 1)) : px_ok mm own cc nL ret pc (px_ald i 1) := by
  intro p l e R s m args below meth c cells slots Q A ad D tc cb X _ lv st h r hr
  unfold px_ald at hr
  split at hr
  · next x hx =>
    cases hr
    obtain ⟨q, hq⟩ := px_get_mem ad _ _ _ hx
    exact fun H locs ls hW hl k => lv_aload_n X.1 X.2.1 hdg hi (lv_at hl q hq) (k _ _ _ hW hl)
  · next hx =>
    cases hr
    obtain ⟨q, hq⟩ := px_get_mem ad _ _ _ hx
    exact fun H locs ls hW hl k => lv_aload_nN X.1 X.2.1 hdg hi (lv_at hl q hq) (k _ _ _ hW hl)
  · cases hr
theorem ok_aload {i : Nat} (hdg : decode cc pc = .ok (.aload i, 2)) : px_ok mm own cc nL ret pc (px_ald i 2) := by
  intro p l e R s m args below meth c cells slots Q A ad D tc cb X _ lv st h r hr
  unfold px_ald at hr
  split at hr
  · next x hx =>
    cases hr
    obtain ⟨q, hq⟩ := px_get_mem ad _ _ _ hx
    exact fun H locs ls hW hl k => lv_aload X.1 X.2.1 hdg (lv_at hl q hq) (k _ _ _ hW hl)
  · next hx =>
    cases hr
    obtain ⟨q, hq⟩ := px_get_mem ad _ _ _ hx
    exact fun H locs ls hW hl k => lv_aloadN X.1 X.2.1 hdg (lv_at hl q hq) (k _ _ _ hW hl)
  · cases hr
theorem ok_istore_n {k : Fin 4} {i : Nat} (hi : (k : Nat) = i) (hn : i < nL) (hdg : decode cc pc = .ok (.istore_n k, 1)) : px_ok mm own cc nL ret pc (px_ist i 1) := by
  intro p l e R s m args below meth c cells slots Q A ad D tc cb X _ lv st h r hr
  unfold px_ist at hr
  split at hr
  · cases hr
    exact fun H locs ls hW hl k => lv_istore_n X.1 X.2.1 hdg hi hl hn rfl (fun ls' hl' => k _ _ _ hW (px_has_set (v := .int _) hl'))
  · cases hr
theorem ok_istore {i : Nat} (hn : i < nL) (hdg : decode cc pc = .ok (.istore i, 2)) : px_ok mm own cc nL ret pc (px_ist i 2) := by
  intro p l e R s m args below meth c cells slots Q A ad D tc cb X _ lv st h r hr
  unfold px_ist at hr
  split at hr
  · cases hr
    exact fun H locs ls hW hl k => lv_istore X.1 X.2.1 hdg hl hn rfl (fun ls' hl' => k _ _ _ hW (px_has_set (v := .int _) hl'))
  · cases hr
theorem ok_astore_n {k : Fin 4} {i : Nat} (hi : (k : Nat) = i) (hn : i < nL) (hdg : decode cc pc = .ok (.astore_n k, 1)) : px_ok mm own cc nL ret pc (px_ast i 1) := by
  intro p l e R s m args below meth c cells slots Q A ad D tc cb X _ lv st h r hr
  unfold px_ast at hr
  split at hr
  · cases hr
    exact fun H locs ls hW hl k => lv_astore_n X.1 X.2.1 hdg hi hl hn rfl (fun ls' hl' => k _ _ _ hW (px_has_set (v := .ref _) hl'))
  · cases hr
    exact fun H locs ls hW hl k => lv_astore_nN X.1 X.2.1 hdg hi hl hn rfl (fun ls' hl' => k _ _ _ hW (px_has_set (v := .null) hl'))
  · cases hr
theorem ok_astore {i : Nat} (hn : i < nL) (hdg : decode cc pc = .ok (.astore i, 2)) : px_ok mm own cc nL ret pc (px_ast i 2) := by
  intro p l e R s m args below meth c cells slots Q A ad D tc cb X _ lv st h r hr
  unfold px_ast at hr
  split at hr
  · cases hr
    exact fun H locs ls hW hl k => lv_astore X.1 X.2.1 hdg hl hn rfl (fun ls' hl' => k _ _ _ hW (px_has_set (v := .ref _) hl'))
  · cases hr
    exact fun H locs ls hW hl k => lv_astoreN X.1 X.2.1 hdg hl hn rfl (fun ls' hl' => k _ _ _ hW (px_has_set (v := .null) hl'))
  · cases hr
theorem ok_iinc {i : Nat} {n : Int} {v : Int32} (hn : i < nL) (hv : Int32.ofInt n = v) (hdg : decode cc pc = .ok (.iinc i n, 3)) : px_ok mm own cc nL ret pc (px_iinc i v) := by
  intro p l e R s m args below meth c cells slots Q A ad D tc cb X _ lv st h r hr
  unfold px_iinc at hr
  split at hr
  · next x hx =>
    cases hr
    obtain ⟨q, hq⟩ := px_get_mem ad _ _ _ hx
    exact fun H locs ls hW hl k => lv_iinc X.1 X.2.1 hdg hl hq (by rw [hv]) hn rfl (fun ls' hl' => k _ _ _ hW (px_has_set (v := .int _) hl'))
  · cases hr
theorem ok_dup (hdg : decode cc pc = .ok (.dup, 1)) : px_ok mm own cc nL ret pc px_dup := by
  intro p l e R s m args below meth c cells slots Q A ad D tc cb X _ lv st h r hr
  unfold px_dup at hr
  split at hr
  · cases hr
    exact fun H locs ls hW hl k => lv_dup X.1 X.2.1 hdg rfl (k _ _ _ hW hl)
  · cases hr
    exact fun H locs ls hW hl k => lv_dup X.1 X.2.1 hdg rfl (k _ _ _ hW hl)
  · cases hr
theorem ok_dup2 (hdg : decode cc pc = .ok (.dup2, 1)) : px_ok mm own cc nL ret pc px_dup2 := by
  intro p l e R s m args below meth c cells slots Q A ad D tc cb X _ lv st h r hr
  unfold px_dup2 at hr
  split at hr
  · cases hr
    exact fun H locs ls hW hl k => lv_dup2_11 X.1 X.2.1 hdg rfl rfl (k _ _ _ hW hl)
  · cases hr
theorem ok_pop (hdg : decode cc pc = .ok (.pop, 1)) : px_ok mm own cc nL ret pc px_popi := by
  intro p l e R s m args below meth c cells slots Q A ad D tc cb X _ lv st h r hr
  unfold px_popi at hr
  split at hr
  · cases hr
    exact fun H locs ls hW hl k => lv_pop X.1 X.2.1 hdg rfl (k _ _ _ hW hl)
  · cases hr
theorem px_bin_r {f : Int32 → Int32 → Int32} {cb : px_C} {lv : px_L} {st : List Value} {h : px_H} {r : px_N} (hr : px_bin f cb pc lv st h = some r) : ∃ x y rest, st = .int y :: .int x :: rest ∧ r = .inl (pc + 1, lv, .int (f x y) :: rest, h) := by
  unfold px_bin at hr
  split at hr
  · cases hr; exact ⟨_, _, _, rfl, rfl⟩
  · cases hr
theorem ok_iadd (hdg : decode cc pc = .ok (.iadd, 1)) : px_ok mm own cc nL ret pc (px_bin (fun x y => x + y)) := by
  intro p l e R s m args below meth c cells slots Q A ad D tc cb X _ lv st h r hr
  obtain ⟨x, y, rest, rfl, rfl⟩ := px_bin_r hr
  exact fun H locs ls hW hl k => lv_iadd X.1 X.2.1 hdg (k _ _ _ hW hl)
theorem ok_isub (hdg : decode cc pc = .ok (.isub, 1)) : px_ok mm own cc nL ret pc (px_bin (fun x y => x - y)) := by
  intro p l e R s m args below meth c cells slots Q A ad D tc cb X _ lv st h r hr
  obtain ⟨x, y, rest, rfl, rfl⟩ := px_bin_r hr
  exact fun H locs ls hW hl k => lv_isub X.1 X.2.1 hdg (k _ _ _ hW hl)
theorem ok_imul (hdg : decode cc pc = .ok (.imul, 1)) : px_ok mm own cc nL ret pc (px_bin (fun x y => x * y)) := by
  intro p l e R s m args below meth c cells slots Q A ad D tc cb X _ lv st h r hr
  obtain ⟨x, y, rest, rfl, rfl⟩ := px_bin_r hr
  exact fun H locs ls hW hl k => lv_imul X.1 X.2.1 hdg (k _ _ _ hW hl)
theorem ok_iand (hdg : decode cc pc = .ok (.iand, 1)) : px_ok mm own cc nL ret pc (px_bin (fun x y => x &&& y)) := by
  intro p l e R s m args below meth c cells slots Q A ad D tc cb X _ lv st h r hr
  obtain ⟨x, y, rest, rfl, rfl⟩ := px_bin_r hr
  exact fun H locs ls hW hl k => lv_iand X.1 X.2.1 hdg (k _ _ _ hW hl)
theorem ok_ixor (hdg : decode cc pc = .ok (.ixor, 1)) : px_ok mm own cc nL ret pc (px_bin (fun x y => x ^^^ y)) := by
  intro p l e R s m args below meth c cells slots Q A ad D tc cb X _ lv st h r hr
  obtain ⟨x, y, rest, rfl, rfl⟩ := px_bin_r hr
  exact fun H locs ls hW hl k => lv_ixor X.1 X.2.1 hdg (k _ _ _ hW hl)
theorem ok_ishl (hdg : decode cc pc = .ok (.ishl, 1)) : px_ok mm own cc nL ret pc (px_bin (fun x y => x <<< (y &&& 31))) := by
  intro p l e R s m args below meth c cells slots Q A ad D tc cb X _ lv st h r hr
  obtain ⟨x, y, rest, rfl, rfl⟩ := px_bin_r hr
  exact fun H locs ls hW hl k => lv_ishl X.1 X.2.1 hdg (k _ _ _ hW hl)
theorem ok_ishr (hdg : decode cc pc = .ok (.ishr, 1)) : px_ok mm own cc nL ret pc (px_bin (fun x y => x >>> (y &&& 31))) := by
  intro p l e R s m args below meth c cells slots Q A ad D tc cb X _ lv st h r hr
  obtain ⟨x, y, rest, rfl, rfl⟩ := px_bin_r hr
  exact fun H locs ls hW hl k => lv_ishr X.1 X.2.1 hdg (k _ _ _ hW hl)
theorem ok_iushr (hdg : decode cc pc = .ok (.iushr, 1)) : px_ok mm own cc nL ret pc (px_bin (fun x y => (x.toUInt32 >>> (y.toUInt32 &&& Int32.toUInt32 31)).toInt32)) := by
  intro p l e R s m args below meth c cells slots Q A ad D tc cb X _ lv st h r hr
  obtain ⟨x, y, rest, rfl, rfl⟩ := px_bin_r hr
  exact fun H locs ls hW hl k => lv_iushr X.1 X.2.1 hdg rfl (k _ _ _ hW hl)
theorem ok_idiv (hdg : decode cc pc = .ok (.idiv, 1)) : px_ok mm own cc nL ret pc (px_bin0 (fun x y => x / y)) := by
  intro p l e R s m args below meth c cells slots Q A ad D tc cb X _ lv st h r hr
  unfold px_bin0 at hr
  split at hr
  · next y x rest =>
    by_cases hy : y = 0
    · rw [decide_eq_true hy] at hr; cases hr
    · rw [decide_eq_false hy] at hr
      cases hr
      exact fun H locs ls hW hl k => lv_idiv X.1 X.2.1 hdg hy (k _ _ _ hW hl)
  · cases hr
theorem ok_irem (hdg : decode cc pc = .ok (.irem, 1)) : px_ok mm own cc nL ret pc (px_bin0 (fun x y => x - x / y * y)) := by
  intro p l e R s m args below meth c cells slots Q A ad D tc cb X _ lv st h r hr
  unfold px_bin0 at hr
  split at hr
  · next y x rest =>
    by_cases hy : y = 0
    · rw [decide_eq_true hy] at hr; cases hr
    · rw [decide_eq_false hy] at hr
      cases hr
      exact fun H locs ls hW hl k => lv_irem X.1 X.2.1 hdg hy (k _ _ _ hW hl)
  · cases hr
theorem ok_ineg (hdg : decode cc pc = .ok (.ineg, 1)) : px_ok mm own cc nL ret pc (px_un (fun x => -x)) := by
  intro p l e R s m args below meth c cells slots Q A ad D tc cb X _ lv st h r hr
  unfold px_un at hr
  split at hr
  · cases hr
    exact fun H locs ls hW hl k => lv_ineg X.1 X.2.1 hdg (k _ _ _ hW hl)
  · cases hr
theorem ok_i2b (hdg : decode cc pc = .ok (.i2b, 1)) : px_ok mm own cc nL ret pc (px_un (fun x => x.toInt8.toInt32)) := by
  intro p l e R s m args below meth c cells slots Q A ad D tc cb X _ lv st h r hr
  unfold px_un at hr
  split at hr
  · cases hr
    exact fun H locs ls hW hl k => lv_i2b X.1 X.2.1 hdg rfl (k _ _ _ hW hl)
  · cases hr
theorem ok_i2s (hdg : decode cc pc = .ok (.i2s, 1)) : px_ok mm own cc nL ret pc (px_un (fun x => x.toInt16.toInt32)) := by
  intro p l e R s m args below meth c cells slots Q A ad D tc cb X _ lv st h r hr
  unfold px_un at hr
  split at hr
  · cases hr
    exact fun H locs ls hW hl k => lv_i2s X.1 X.2.1 hdg rfl (k _ _ _ hW hl)
  · cases hr
theorem ok_i2c (hdg : decode cc pc = .ok (.i2c, 1)) : px_ok mm own cc nL ret pc (px_un (fun x => (x.toUInt32 % 65536).toInt32)) := by
  intro p l e R s m args below meth c cells slots Q A ad D tc cb X _ lv st h r hr
  unfold px_un at hr
  split at hr
  · cases hr
    exact fun H locs ls hW hl k => lv_i2c X.1 X.2.1 hdg rfl (k _ _ _ hW hl)
  · cases hr
theorem ok_i2l (hdg : decode cc pc = .ok (.i2l, 1)) : px_ok mm own cc nL ret pc px_i2l := by
  intro p l e R s m args below meth c cells slots Q A ad D tc cb X _ lv st h r hr
  unfold px_i2l at hr
  split at hr
  · cases hr
    exact fun H locs ls hW hl k => lv_i2l X.1 X.2.1 hdg rfl (k _ _ _ hW hl)
  · cases hr
theorem ok_l2i (hdg : decode cc pc = .ok (.l2i, 1)) : px_ok mm own cc nL ret pc px_l2i := by
  intro p l e R s m args below meth c cells slots Q A ad D tc cb X _ lv st h r hr
  unfold px_l2i at hr
  split at hr
  · cases hr
    exact fun H locs ls hW hl k => lv_l2i X.1 X.2.1 hdg rfl (k _ _ _ hW hl)
  · cases hr
theorem ok_land (hdg : decode cc pc = .ok (.land, 1)) : px_ok mm own cc nL ret pc (px_lbin (fun x y => x &&& y)) := by
  intro p l e R s m args below meth c cells slots Q A ad D tc cb X _ lv st h r hr
  unfold px_lbin at hr
  split at hr
  · cases hr
    exact fun H locs ls hW hl k => lv_land X.1 X.2.1 hdg (k _ _ _ hW hl)
  · cases hr
theorem ok_lor (hdg : decode cc pc = .ok (.lor, 1)) : px_ok mm own cc nL ret pc (px_lbin (fun x y => x ||| y)) := by
  intro p l e R s m args below meth c cells slots Q A ad D tc cb X _ lv st h r hr
  unfold px_lbin at hr
  split at hr
  · cases hr
    exact fun H locs ls hW hl k => lv_lor X.1 X.2.1 hdg (k _ _ _ hW hl)
  · cases hr
theorem ok_lshl (hdg : decode cc pc = .ok (.lshl, 1)) : px_ok mm own cc nL ret pc (px_lsh (fun x y => x <<< (y.toInt64 &&& 63))) := by
  intro p l e R s m args below meth c cells slots Q A ad D tc cb X _ lv st h r hr
  unfold px_lsh at hr
  split at hr
  · cases hr
    exact fun H locs ls hW hl k => lv_lshl X.1 X.2.1 hdg rfl (k _ _ _ hW hl)
  · cases hr
theorem ok_lshr (hdg : decode cc pc = .ok (.lshr, 1)) : px_ok mm own cc nL ret pc (px_lsh (fun x y => x >>> (y.toInt64 &&& 63))) := by
  intro p l e R s m args below meth c cells slots Q A ad D tc cb X _ lv st h r hr
  unfold px_lsh at hr
  split at hr
  · cases hr
    exact fun H locs ls hW hl k => lv_lshr X.1 X.2.1 hdg rfl (k _ _ _ hW hl)
  · cases hr
theorem ok_lushr (hdg : decode cc pc = .ok (.lushr, 1)) : px_ok mm own cc nL ret pc (px_lsh (fun x y => (x.toUInt64 >>> (y.toInt64.toUInt64 &&& Int64.toUInt64 63)).toInt64)) := by
  intro p l e R s m args below meth c cells slots Q A ad D tc cb X _ lv st h r hr
  unfold px_lsh at hr
  split at hr
  · cases hr
    exact fun H locs ls hW hl k => lv_lushr X.1 X.2.1 hdg rfl (k _ _ _ hW hl)
  · cases hr
theorem ok_goto {off : Int} {t : Nat} (ht : (pc : Int) + off = (t : Int)) (hdg : decode cc pc = .ok (.goto off, 3)) : px_ok mm own cc nL ret pc (px_goto t) := by
  intro p l e R s m args below meth c cells slots Q A ad D tc cb X _ lv st h r hr
  cases hr
  exact fun H locs ls hW hl k => lv_goto X.1 X.2.1 hdg ht (k _ _ _ hW hl)
theorem ok_if_eq {off : Int} {t : Nat} (ht : (pc : Int) + off = (t : Int)) (hdg : decode cc pc = .ok (.ifCond .eq off, 3)) : px_ok mm own cc nL ret pc (px_if (fun x => decide (x = 0)) t) := by
  intro p l e R s m args below meth c cells slots Q A ad D tc cb X _ lv st h r hr
  unfold px_if at hr
  split at hr
  · cases hr
    exact fun H locs ls hW hl k => lv_if_eq X.1 X.2.1 hdg ht (fun hP => by have q := k _ _ _ hW hl; dsimp only at q; rw [decide_eq_true hP] at q; exact q) (fun hP => by have q := k _ _ _ hW hl; dsimp only at q; rw [decide_eq_false hP] at q; exact q)
  · cases hr
theorem ok_icmp_eq {off : Int} {t : Nat} (ht : (pc : Int) + off = (t : Int)) (hdg : decode cc pc = .ok (.if_icmp .eq off, 3)) : px_ok mm own cc nL ret pc (px_icmp (fun x y => decide (x = y)) t) := by
  intro p l e R s m args below meth c cells slots Q A ad D tc cb X _ lv st h r hr
  unfold px_icmp at hr
  split at hr
  · cases hr
    exact fun H locs ls hW hl k => lv_icmp_eq X.1 X.2.1 hdg ht (fun hP => by have q := k _ _ _ hW hl; dsimp only at q; rw [decide_eq_true hP] at q; exact q) (fun hP => by have q := k _ _ _ hW hl; dsimp only at q; rw [decide_eq_false hP] at q; exact q)
  · cases hr
theorem ok_if_ne {off : Int} {t : Nat} (ht : (pc : Int) + off = (t : Int)) (hdg : decode cc pc = .ok (.ifCond .ne off, 3)) : px_ok mm own cc nL ret pc (px_if (fun x => !decide (x = 0)) t) := by
  intro p l e R s m args below meth c cells slots Q A ad D tc cb X _ lv st h r hr
  unfold px_if at hr
  split at hr
  · cases hr
    exact fun H locs ls hW hl k => lv_if_ne X.1 X.2.1 hdg ht (fun hP => by have q := k _ _ _ hW hl; dsimp only at q; rw [decide_eq_false hP] at q; exact q) (fun hP => by have q := k _ _ _ hW hl; dsimp only at q; rw [decide_eq_true hP] at q; exact q)
  · cases hr
theorem ok_icmp_ne {off : Int} {t : Nat} (ht : (pc : Int) + off = (t : Int)) (hdg : decode cc pc = .ok (.if_icmp .ne off, 3)) : px_ok mm own cc nL ret pc (px_icmp (fun x y => !decide (x = y)) t) := by
  intro p l e R s m args below meth c cells slots Q A ad D tc cb X _ lv st h r hr
  unfold px_icmp at hr
  split at hr
  · cases hr
    exact fun H locs ls hW hl k => lv_icmp_ne X.1 X.2.1 hdg ht (fun hP => by have q := k _ _ _ hW hl; dsimp only at q; rw [decide_eq_false hP] at q; exact q) (fun hP => by have q := k _ _ _ hW hl; dsimp only at q; rw [decide_eq_true hP] at q; exact q)
  · cases hr
theorem ok_if_lt {off : Int} {t : Nat} (ht : (pc : Int) + off = (t : Int)) (hdg : decode cc pc = .ok (.ifCond .lt off, 3)) : px_ok mm own cc nL ret pc (px_if (fun x => decide (x < 0)) t) := by
  intro p l e R s m args below meth c cells slots Q A ad D tc cb X _ lv st h r hr
  unfold px_if at hr
  split at hr
  · cases hr
    exact fun H locs ls hW hl k => lv_if_lt X.1 X.2.1 hdg ht (fun hP => by have q := k _ _ _ hW hl; dsimp only at q; rw [decide_eq_true hP] at q; exact q) (fun hP => by have q := k _ _ _ hW hl; dsimp only at q; rw [decide_eq_false hP] at q; exact q)
  · cases hr
theorem ok_icmp_lt {off : Int} {t : Nat} (ht : (pc : Int) + off = (t : Int)) (hdg : decode cc pc = .ok (.if_icmp .lt off, 3)) : px_ok mm own cc nL ret pc (px_icmp (fun x y => decide (x < y)) t) := by
  intro p l e R s m args below meth c cells slots Q A ad D tc cb X _ lv st h r hr
  unfold px_icmp at hr
  split at hr
  · cases hr
    exact fun H locs ls hW hl k => lv_icmp_lt X.1 X.2.1 hdg ht (fun hP => by have q := k _ _ _ hW hl; dsimp only at q; rw [decide_eq_true hP] at q; exact q) (fun hP => by have q := k _ _ _ hW hl; dsimp only at q; rw [decide_eq_false hP] at q; exact q)
  · cases hr
theorem ok_if_ge {off : Int} {t : Nat} (ht : (pc : Int) + off = (t : Int)) (hdg : decode cc pc = .ok (.ifCond .ge off, 3)) : px_ok mm own cc nL ret pc (px_if (fun x => decide (0 ≤ x)) t) := by
  intro p l e R s m args below meth c cells slots Q A ad D tc cb X _ lv st h r hr
  unfold px_if at hr
  split at hr
  · cases hr
    exact fun H locs ls hW hl k => lv_if_ge X.1 X.2.1 hdg ht (fun hP => by have q := k _ _ _ hW hl; dsimp only at q; rw [decide_eq_true hP] at q; exact q) (fun hP => by have q := k _ _ _ hW hl; dsimp only at q; rw [decide_eq_false hP] at q; exact q)
  · cases hr
theorem ok_icmp_ge {off : Int} {t : Nat} (ht : (pc : Int) + off = (t : Int)) (hdg : decode cc pc = .ok (.if_icmp .ge off, 3)) : px_ok mm own cc nL ret pc (px_icmp (fun x y => decide (y ≤ x)) t) := by
  intro p l e R s m args below meth c cells slots Q A ad D tc cb X _ lv st h r hr
  unfold px_icmp at hr
  split at hr
  · cases hr
    exact fun H locs ls hW hl k => lv_icmp_ge X.1 X.2.1 hdg ht (fun hP => by have q := k _ _ _ hW hl; dsimp only at q; rw [decide_eq_true hP] at q; exact q) (fun hP => by have q := k _ _ _ hW hl; dsimp only at q; rw [decide_eq_false hP] at q; exact q)
  · cases hr
theorem ok_if_gt {off : Int} {t : Nat} (ht : (pc : Int) + off = (t : Int)) (hdg : decode cc pc = .ok (.ifCond .gt off, 3)) : px_ok mm own cc nL ret pc (px_if (fun x => decide (0 < x)) t) := by
  intro p l e R s m args below meth c cells slots Q A ad D tc cb X _ lv st h r hr
  unfold px_if at hr
  split at hr
  · cases hr
    exact fun H locs ls hW hl k => lv_if_gt X.1 X.2.1 hdg ht (fun hP => by have q := k _ _ _ hW hl; dsimp only at q; rw [decide_eq_true hP] at q; exact q) (fun hP => by have q := k _ _ _ hW hl; dsimp only at q; rw [decide_eq_false hP] at q; exact q)
  · cases hr
theorem ok_icmp_gt {off : Int} {t : Nat} (ht : (pc : Int) + off = (t : Int)) (hdg : decode cc pc = .ok (.if_icmp .gt off, 3)) : px_ok mm own cc nL ret pc (px_icmp (fun x y => decide (y < x)) t) := by
  intro p l e R s m args below meth c cells slots Q A ad D tc cb X _ lv st h r hr
  unfold px_icmp at hr
  split at hr
  · cases hr
    exact fun H locs ls hW hl k => lv_icmp_gt X.1 X.2.1 hdg ht (fun hP => by have q := k _ _ _ hW hl; dsimp only at q; rw [decide_eq_true hP] at q; exact q) (fun hP => by have q := k _ _ _ hW hl; dsimp only at q; rw [decide_eq_false hP] at q; exact q)
  · cases hr
theorem ok_if_le {off : Int} {t : Nat} (ht : (pc : Int) + off = (t : Int)) (hdg : decode cc pc = .ok (.ifCond .le off, 3)) : px_ok mm own cc nL ret pc (px_if (fun x => decide (x ≤ 0)) t) := by
  intro p l e R s m args below meth c cells slots Q A ad D tc cb X _ lv st h r hr
  unfold px_if at hr
  split at hr
  · cases hr
    exact fun H locs ls hW hl k => lv_if_le X.1 X.2.1 hdg ht (fun hP => by have q := k _ _ _ hW hl; dsimp only at q; rw [decide_eq_true hP] at q; exact q) (fun hP => by have q := k _ _ _ hW hl; dsimp only at q; rw [decide_eq_false hP] at q; exact q)
  · cases hr
theorem ok_icmp_le {off : Int} {t : Nat} (ht : (pc : Int) + off = (t : Int)) (hdg : decode cc pc = .ok (.if_icmp .le off, 3)) : px_ok mm own cc nL ret pc (px_icmp (fun x y => decide (x ≤ y)) t) := by
  intro p l e R s m args below meth c cells slots Q A ad D tc cb X _ lv st h r hr
  unfold px_icmp at hr
  split at hr
  · cases hr
    exact fun H locs ls hW hl k => lv_icmp_le X.1 X.2.1 hdg ht (fun hP => by have q := k _ _ _ hW hl; dsimp only at q; rw [decide_eq_true hP] at q; exact q) (fun hP => by have q := k _ _ _ hW hl; dsimp only at q; rw [decide_eq_false hP] at q; exact q)
  · cases hr
theorem ok_ifnull {off : Int} {t : Nat} (ht : (pc : Int) + off = (t : Int)) (hdg : decode cc pc = .ok (.ifnull off, 3)) : px_ok mm own cc nL ret pc (px_ifnull t) := by
  intro p l e R s m args below meth c cells slots Q A ad D tc cb X _ lv st h r hr
  unfold px_ifnull at hr
  split at hr
  · cases hr
    exact fun H locs ls hW hl k => lv_ifnullN X.1 X.2.1 hdg ht (k _ _ _ hW hl)
  · cases hr
    exact fun H locs ls hW hl k => lv_ifnull X.1 X.2.1 hdg (k _ _ _ hW hl)
  · cases hr
theorem ok_ifnonnull {off : Int} {t : Nat} (ht : (pc : Int) + off = (t : Int)) (hdg : decode cc pc = .ok (.ifnonnull off, 3)) : px_ok mm own cc nL ret pc (px_ifnn t) := by
  intro p l e R s m args below meth c cells slots Q A ad D tc cb X _ lv st h r hr
  unfold px_ifnn at hr
  split at hr
  · cases hr
    exact fun H locs ls hW hl k => lv_ifnonnullN X.1 X.2.1 hdg (k _ _ _ hW hl)
  · cases hr
    exact fun H locs ls hW hl k => lv_ifnonnull X.1 X.2.1 hdg ht (k _ _ _ hW hl)
  · cases hr
/-- a table's offsets and its targets -/
def px_offs (pc : Nat) : List Int → List Nat → Bool
  | [], [] => true
  | o :: os, t :: ts => decide ((pc : Int) + o = (t : Int)) && px_offs pc os ts
  | _, _ => false
theorem px_offs_at {pc : Nat} : ∀ (os : List Int) (ts : List Nat), px_offs pc os ts = true → os.length = ts.length ∧ ∀ (j : Nat) (t : Nat), px_nth ts j = some t → ∃ o, os[j]? = some o ∧ (pc : Int) + o = (t : Int)
  | [], [], _ => ⟨rfl, fun j t h => by cases h⟩
  | [], _ :: _, h => by cases h
  | _ :: _, [], h => by cases h
  | o :: os, t :: ts, h => by
    unfold px_offs at h
    rw [Bool.and_eq_true, decide_eq_true_eq] at h
    obtain ⟨h1, h2⟩ := px_offs_at os ts h.2
    refine ⟨by simp [h1], fun j q hq => ?_⟩
    cases j with
    | zero => cases hq; exact ⟨o, rfl, h.1⟩
    | succ j => exact h2 j q hq
theorem ok_tableswitch {dflt lo hi : Int} {offs : Array Int} {len d : Nat} {ts : List Nat} (hd : (pc : Int) + dflt = (d : Int)) (ho : px_offs pc offs.toList ts = true) (hh : hi + 1 = lo + (ts.length : Int)) (hdg : decode cc pc = .ok (.tableswitch dflt lo hi offs, len)) : px_ok mm own cc nL ret pc (px_tsw lo ts d) := by
  intro p l e R s m args below meth c cells slots Q A ad D tc cb X _ lv st h r hr
  unfold px_tsw at hr
  split at hr
  · next x rest =>
    cases hr
    obtain ⟨hlen, hat⟩ := px_offs_at _ _ ho
    intro H locs ls hW hl k
    have q := k _ _ _ hW hl
    by_cases h1 : x.toInt < lo
    · refine lv_tableOut X.1 X.2.1 hdg (Or.inl h1) hd ?_
      unfold px_sw at q
      rw [decide_eq_true h1] at q
      exact q
    · unfold px_sw at q
      rw [decide_eq_false h1] at q
      cases hn : px_nth ts (x.toInt - lo).toNat with
      | none =>
        rw [hn] at q
        refine lv_tableOut X.1 X.2.1 hdg (Or.inr ?_) hd q
        rw [px_nth_get] at hn
        have := List.getElem?_eq_none_iff.mp hn
        omega
      | some t =>
        rw [hn] at q
        obtain ⟨o, e1, e2⟩ := hat _ _ hn
        have hlt := px_nth_lt _ _ _ hn
        exact lv_tableIn X.1 X.2.1 hdg h1 (by omega) (by rw [← Array.getElem?_toList]; exact e1) e2 q
  · cases hr
/-- a lookup's pairs and its targets -/
def px_prs (pc : Nat) : List (Int × Int) → List (Int × Nat) → Bool
  | [], [] => true
  | o :: os, t :: ts => decide (o.1 = t.1 ∧ (pc : Int) + o.2 = (t.2 : Int)) && px_prs pc os ts
  | _, _ => false
theorem px_prs_at {pc d : Nat} {dflt : Int} (hd : (pc : Int) + dflt = (d : Int)) (k : Int) : ∀ (os : List (Int × Int)) (ts : List (Int × Nat)), px_prs pc os ts = true → (pc : Int) + Op.lookupswitch.offset os dflt k = (px_lk ts d k : Int)
  | [], [], _ => hd
  | [], _ :: _, h => by cases h
  | _ :: _, [], h => by cases h
  | (a, o) :: os, (b, t) :: ts, h => by
    unfold px_prs at h
    rw [Bool.and_eq_true, decide_eq_true_eq] at h
    obtain ⟨⟨h1, h2⟩, h3⟩ := h
    have ih := px_prs_at hd k os ts h3
    dsimp only at h1 h2
    show (pc : Int) + (if a = k then o else Op.lookupswitch.offset os dflt k) = ((cond (decide (b = k)) t (px_lk ts d k) : Nat) : Int)
    rw [← h1]
    by_cases hk : a = k
    · rw [if_pos hk, decide_eq_true hk]; exact h2
    · rw [if_neg hk, decide_eq_false hk]; exact ih
theorem ok_lookupswitch {dflt : Int} {ps : Array (Int × Int)} {len d : Nat} {ts : List (Int × Nat)} (hd : (pc : Int) + dflt = (d : Int)) (ho : px_prs pc ps.toList ts = true) (hp : (ps.toList.zip (ps.toList.drop 1)).all (fun (a, next) => a.1 < next.1) = true) (hdg : decode cc pc = .ok (.lookupswitch dflt ps, len)) : px_ok mm own cc nL ret pc (px_lsw ts d) := by
  intro p l e R s m args below meth c cells slots Q A ad D tc cb X _ lv st h r hr
  unfold px_lsw at hr
  split at hr
  · next x rest =>
    cases hr
    intro H locs ls hW hl k
    exact lv_lookup X.1 X.2.1 hdg hp rfl (px_prs_at hd _ _ _ ho) (k _ _ _ hW hl)
  · cases hr
theorem px_Wd.get {D : va_G} {tc : Nat → ClassId} {ad : Nat → Nat} {A : Nat → Prop} {H0 : Heap} {h : px_H} {H : Heap} {locs : List Loc} (hW : px_Wd D tc ad A H0 h H locs) : va_P D vwCl (px_ws tc ad h) H := hW.1
theorem px_mv_nth (ad : Nat → Nat) {fs : List Value} {k : Nat} {v : Value} (h : px_nth fs k = some v) : (fs.map (px_mv ad))[k]? = some (px_mv ad v) := by
  rw [px_nth_get] at h
  rw [List.getElem?_map, h]
  rfl
theorem ok_getfield {ci k i N : Nat} {C : String} {T : u_T} (hc : vwCl[ci]? = some (C, T, N)) (hin : ∀ w ∈ u_ws C T N, w ∈ px_words) (hk : k < N) (hw : Cond.fieldLink own i (T k).1 (T k).2.1 (T k).2.2.1 ∈ px_words) (hdg : decode cc pc = .ok (.getfield i, 3)) : px_ok mm own cc nL ret pc (px_getf ci k) := by
  intro p l e R s m args below meth c cells slots Q A ad D tc cb X _ lv st h r hr
  unfold px_getf at hr
  split at hr
  · next a rest =>
    split at hr
    · next cj fs hcell =>
      cases hb : Nat.beq cj ci with
      | false => rw [hb] at hr; cases hr
      | true =>
        rw [hb] at hr
        have hcj := Nat.eq_of_beq_eq_true hb
        subst hcj
        dsimp only [cond] at hr
        split at hr
        · next v hv =>
          cases hr
          intro H locs ls hW hl kk
          have hg := px_ws_get tc ad hcell
          exact va_get (D := D) X.1 X.2.1 X.2.2.2.2.1 hin X.2.2.2.1 X.2.2.2.2.2.1 hW.1 _ hg hc k hk (X.2.2.2.2.1 _ hw) (fun _ h9 => h9) (px_mv_nth ad hv) hdg (kk _ _ _ hW hl)
        · cases hr
    · cases hr
  · cases hr
theorem px_mv_stn (ad : Nat → Nat) (v : Value) : ∀ (fs : List Value) (k : Nat), (fs.map (px_mv ad)).set k (px_mv ad v) = (px_stn fs k v).map (px_mv ad)
  | [], _ => rfl
  | _ :: _, 0 => rfl
  | f :: r, k + 1 => by
    show px_mv ad f :: (r.map (px_mv ad)).set k (px_mv ad v) = px_mv ad f :: (px_stn r k v).map (px_mv ad)
    rw [px_mv_stn ad v r k]
theorem px_bool {x : Int32} (h : (x == 0 || x == 1) = true) : narrow .boolean (.int x) = .int x ∧ fits .boolean (.int x) = true := by
  refine ⟨?_, h⟩
  rcases Bool.or_eq_true_iff.mp h with q | q
  · rw [eq_of_beq q]; rfl
  · rw [eq_of_beq q]; rfl
theorem ok_putfield {z : Bool} {ci k i N : Nat} {C : String} {T : u_T} {ty0 : Nat → FieldType} {ty : FieldType} (hc : vwCl[ci]? = some (C, T, N)) (hin : ∀ w ∈ u_ws C T N, w ∈ px_words) (hty : ∀ k, k < N → parseFieldDescriptor (T k).2.2.1 = some (ty0 k)) (hnm : ∀ a, a < N → ∀ b, b < N → a ≠ b → (T a).2.1 ≠ (T b).2.1) (hk : k < N)
    (hfin : (T k).2.2.2 = false) (hd : parseFieldDescriptor (T k).2.2.1 = some ty) (hz : (z = true ∧ ty = .int) ∨ (z = false ∧ ty = .boolean)) (hw : Cond.fieldLink own i (T k).1 (T k).2.1 (T k).2.2.1 ∈ px_words) (hdg : decode cc pc = .ok (.putfield i, 3)) : px_ok mm own cc nL ret pc (px_putf z ci k) := by
  intro p l e R s m args below meth c cells slots Q A ad D tc cb X _ lv st h r hr
  unfold px_putf at hr
  split at hr
  · next x a rest =>
    split at hr
    · next cj fs hcell =>
      cases hb : (Nat.beq cj ci && Nat.blt k fs.length && (z || x == 0 || x == 1)) with
      | false => rw [hb] at hr; cases hr
      | true =>
        rw [hb] at hr
        rw [Bool.and_eq_true, Bool.and_eq_true] at hb
        have hcj := Nat.eq_of_beq_eq_true hb.1.1
        subst hcj
        cases hr
        have hlt := px_blt.mp hb.1.2
        have hty2 : narrow ty (.int x) = .int x ∧ fits ty (.int x) = true := by
          rcases hz with ⟨h1, h2⟩ | ⟨h1, h2⟩
          · subst h2; exact ⟨rfl, rfl⟩
          · subst h2
            have h3 := hb.2
            rw [h1, Bool.false_or] at h3
            exact px_bool h3
        intro H locs ls hW hl kk
        have hg := px_ws_get tc ad hcell
        refine va_put (D := D) X.1 X.2.1 X.2.2.2.2.1 hin ty0 hty hnm X.2.2.2.1 X.2.2.2.2.2.1 hW.1 hW.2.1 hW.2.2 _ hg hc k hk (X.2.2.2.2.1 _ hw) (fun _ h9 => h9) hfin hd hty2.1 hty2.2 (by rw [List.length_map]; exact hlt) hdg (fun H1 locs1 a1 a2 a3 => ?_)
        have e1 : (ad a, (.inr (cj, (fs.map (px_mv ad)).set k (px_mv ad (.int x))) : va_E)) = (ad a, px_me tc ad (.inr (cj, px_stn fs k (.int x)))) := by
          show _ = (ad a, (.inr (cj, (px_stn fs k (.int x)).map (px_mv ad)) : va_E))
          rw [← px_mv_stn]
        rw [e1, px_ws_set tc ad _ hcell] at a1 a2
        exact kk _ _ _ ⟨a1, a2, a3⟩ hl
    · cases hr
  · cases hr
theorem px_inb_ok {i : Int32} {n : Nat} (h : px_inb i n = true) : vp_in i n := by
  unfold px_inb at h
  rw [Bool.and_eq_true, decide_eq_true_eq] at h
  have h2 := px_blt.mp h.2
  intro q
  rcases q with q | q
  · exact absurd h.1 (by rw [Int32.not_le]; exact q)
  · omega
theorem px_arr_r {h : px_H} {a n : Nat} {f : Nat → Int32} (hr : px_arr h a = some (n, f)) : px_cell h a = some (.inl (0, n, .inl f)) := by
  unfold px_arr at hr
  split at hr
  · next t n' f' hc =>
    cases hb : Nat.beq t 0 with
    | false => rw [hb] at hr; cases hr
    | true =>
      rw [hb] at hr
      cases hr
      rw [hc, Nat.eq_of_beq_eq_true hb]
  · cases hr
theorem ok_iaload (hdg : decode cc pc = .ok (.iaload, 1)) : px_ok mm own cc nL ret pc px_iald := by
  intro p l e R s m args below meth c cells slots Q A ad D tc cb X _ lv st h r hr
  unfold px_iald at hr
  split at hr
  · next i a rest =>
    split at hr
    · next n f ha =>
      cases hb : px_inb i n with
      | false => rw [hb] at hr; cases hr
      | true =>
        rw [hb] at hr
        cases hr
        intro H locs ls hW hl kk
        exact va_iald (D := D) X.1 X.2.1 X.2.2.2.2.2.1 hW.1 _ 0 (px_ws_get tc ad (px_arr_r ha)) rfl (px_inb_ok hb) hdg (kk _ _ _ hW hl)
    · cases hr
  · cases hr
theorem ok_kaload (hdg : decode cc pc = .ok (.iaload, 1)) : px_ok mm own cc nL ret pc px_kald := by
  intro p l e R s m args below meth c cells slots Q A ad D tc cb X _ lv st h r hr
  obtain ⟨hx, hb0, hml, hown, hts, hK, hf1, hf2, hf3, hf4, hKC, hA⟩ := X
  unfold px_kald at hr
  split at hr
  · next i a rest =>
    cases hb : px_inb i 6 with
    | false => rw [hb] at hr; cases hr
    | true =>
      rw [hb] at hr
      cases h0 : Nat.beq a 3000 with
      | true =>
        rw [h0] at hr
        cases hr
        have := Nat.eq_of_beq_eq_true h0
        subst this
        intro H locs ls hW hl kk
        exact va_ti hx hb0 hKC.1.2 hW.2.2 (px_inb_ok hb) rfl hdg (kk _ _ _ hW hl)
      | false =>
        rw [h0] at hr
        cases h1 : Nat.beq a 3001 with
        | false => rw [h1] at hr; cases hr
        | true =>
          rw [h1] at hr
          cases hr
          have := Nat.eq_of_beq_eq_true h1
          subst this
          intro H locs ls hW hl kk
          exact va_ti hx hb0 hKC.2.1.2 hW.2.2 (px_inb_ok hb) rfl hdg (kk _ _ _ hW hl)
  · cases hr
theorem ok_iastore (hdg : decode cc pc = .ok (.iastore, 1)) : px_ok mm own cc nL ret pc px_iast := by
  intro p l e R s m args below meth c cells slots Q A ad D tc cb X _ lv st h r hr
  unfold px_iast at hr
  split at hr
  · next x i a rest =>
    split at hr
    · next n f ha =>
      cases hb : px_inb i n with
      | false => rw [hb] at hr; cases hr
      | true =>
        rw [hb] at hr
        cases hr
        intro H locs ls hW hl kk
        refine va_iast (D := D) X.1 X.2.1 X.2.2.2.2.2.1 hW.1 hW.2.1 hW.2.2 _ 0 (px_ws_get tc ad (px_arr_r ha)) rfl (px_inb_ok hb) hdg (fun H1 locs1 a1 a2 a3 => ?_)
        have e1 : (ad a, (.inl (tc 0, n, .inl (upd f i.toNatClampNeg x)) : va_E)) = (ad a, px_me tc ad (.inl (0, n, .inl (upd f i.toNatClampNeg x)))) := rfl
        have b1 := a1
        have b2 := a2
        erw [e1, px_ws_set tc ad _ (px_arr_r ha)] at b1
        erw [e1, px_ws_set tc ad _ (px_arr_r ha)] at b2
        exact kk _ _ _ ⟨b1, b2, a3⟩ hl
    · cases hr
  · cases hr
theorem ok_aaload (hdg : decode cc pc = .ok (.aaload, 1)) : px_ok mm own cc nL ret pc px_aald := by
  intro p l e R s m args below meth c cells slots Q A ad D tc cb X _ lv st h r hr
  unfold px_aald at hr
  split at hr
  · next i a rest =>
    split at hr
    · next t n f ha =>
      cases hb : (Nat.beq t 1 && px_inb i n) with
      | false => rw [hb] at hr; cases hr
      | true =>
        rw [hb] at hr
        rw [Bool.and_eq_true] at hb
        have := Nat.eq_of_beq_eq_true hb.1
        subst this
        dsimp only [cond] at hr
        have hg := px_ws_get tc ad ha
        split at hr
        · next k hk =>
          cases hr
          intro H locs ls hW hl kk
          refine va_aldq (D := D) X.1 X.2.1 X.2.2.2.2.2.1 hW.1 _ 1 hg rfl (px_inb_ok hb.2) hdg ?_
          have q := kk _ _ _ hW hl
          rw [hk]
          exact q
        · next hk =>
          cases hr
          intro H locs ls hW hl kk
          refine va_aldq (D := D) X.1 X.2.1 X.2.2.2.2.2.1 hW.1 _ 1 hg rfl (px_inb_ok hb.2) hdg ?_
          have q := kk _ _ _ hW hl
          rw [hk]
          exact q
    · cases hr
  · cases hr
theorem ok_arraylength (hdg : decode cc pc = .ok (.arraylength, 1)) : px_ok mm own cc nL ret pc px_alen := by
  intro p l e R s m args below meth c cells slots Q A ad D tc cb X _ lv st h r hr
  unfold px_alen at hr
  split at hr
  · next a rest =>
    split at hr
    · next t n f ha =>
      cases hb : Nat.beq t 0 with
      | false => rw [hb] at hr; cases hr
      | true =>
        rw [hb] at hr
        cases hr
        have := Nat.eq_of_beq_eq_true hb
        subst this
        intro H locs ls hW hl kk
        exact va_alen (D := D) X.1 X.2.1 X.2.2.2.2.2.1 hW.1 _ 0 (px_ws_get tc ad ha) rfl rfl hdg (kk _ _ _ hW hl)
    · next t n f ha =>
      cases hb : Nat.beq t 1 with
      | false => rw [hb] at hr; cases hr
      | true =>
        rw [hb] at hr
        cases hr
        have := Nat.eq_of_beq_eq_true hb
        subst this
        intro H locs ls hW hl kk
        exact va_alen (D := D) X.1 X.2.1 X.2.2.2.2.2.1 hW.1 _ 1 (px_ws_get tc ad ha) rfl rfl hdg (kk _ _ _ hW hl)
    · cases hr
  · cases hr
end PXROWS
end
section
section PXCALLS
variable {mm : Nat → Option px_M} {own : String} {cc : ByteArray} {nL : Nat} {ret : Option FieldType} {pc : Nat}
theorem px_mm_ok (pred : Int32 → Int32 → Int32) {st : List Value} {h : px_H} {cb : px_C} {lv : px_L} {r : px_N} (hr : px_mx pred cb pc lv st h = some r) : ∃ x y rest, st = .int y :: .int x :: rest ∧ px_cat rest ≤ 8 ∧ r = .inl (pc + 3, lv, .int (pred x y) :: rest, h) := by
  unfold px_mx at hr
  split at hr
  · next y x rest =>
    cases hb : Nat.ble (px_cat rest) 8 with
    | false => rw [hb] at hr; cases hr
    | true =>
      rw [hb] at hr
      cases hr
      exact ⟨_, _, _, rfl, Nat.le_of_ble_eq_true hb, rfl⟩
  · cases hr
theorem ok_max {i : Nat} (hw1 : Cond.methodLink own i Lib.Math.max.name ∈ px_words) (hw2 : Cond.static Lib.Math.max.name ∈ px_words) (hw3 : Cond.initialized "java/lang/Math" ∈ px_words) (hw4 : Cond.code Lib.Math.max.name Lib.Math.max.code 2 (some .int) ∈ px_words) (hdg : decode cc pc = .ok (.invokestatic i, 3)) : px_ok mm own cc nL ret pc (px_mx (fun x y => if x < y then y else x)) := by
  intro p l e R s m args below meth c cells slots Q A ad D tc cb X _ lv st h r hr
  obtain ⟨hx, hb0, hml, hown, hts, hK, hf1, hf2, hf3, hf4, hKC, hA⟩ := X
  obtain ⟨x, y, rest, rfl, h8, rfl⟩ := px_mm_ok _ hr
  exact fun H locs ls hW hl k => va_mmax hx hb0 (by rw [hml, hl.1]) hown (hts _ hw1) (hts _ hw2) (hts _ hw3) (hts _ hw4) hf1 (by rw [px_cat_ms]; omega) hf3 hf4 hdg (k _ _ _ hW hl)
theorem ok_min {i : Nat} (hw1 : Cond.methodLink own i Lib.Math.min.name ∈ px_words) (hw2 : Cond.static Lib.Math.min.name ∈ px_words) (hw3 : Cond.initialized "java/lang/Math" ∈ px_words) (hw4 : Cond.code Lib.Math.min.name Lib.Math.min.code 2 (some .int) ∈ px_words) (hdg : decode cc pc = .ok (.invokestatic i, 3)) : px_ok mm own cc nL ret pc (px_mx (fun x y => if y < x then y else x)) := by
  intro p l e R s m args below meth c cells slots Q A ad D tc cb X _ lv st h r hr
  obtain ⟨hx, hb0, hml, hown, hts, hK, hf1, hf2, hf3, hf4, hKC, hA⟩ := X
  obtain ⟨x, y, rest, rfl, h8, rfl⟩ := px_mm_ok _ hr
  exact fun H locs ls hW hl k => va_mmin hx hb0 (by rw [hml, hl.1]) hown (hts _ hw1) (hts _ hw2) (hts _ hw3) (hts _ hw4) hf1 (by rw [px_cat_ms]; omega) hf3 hf4 hdg (k _ _ _ hW hl)
theorem ok_arraycopy {i : Nat} (hw1 : Cond.methodLink own i arraycopyName ∈ px_words) (hw2 : Cond.native arraycopyName ∈ px_words) (hw3 : Cond.static arraycopyName ∈ px_words) (hw4 : Cond.initialized "java/lang/System" ∈ px_words) (hdg : decode cc pc = .ok (.invokestatic i, 3)) : px_ok mm own cc nL ret pc px_acopy := by
  intro p l e R s m args below meth c cells slots Q A ad D tc cb X _ lv st h r hr
  obtain ⟨hx, hb0, hml, hown, hts, hK, hf1, hf2, hf3, hf4, hKC, hA⟩ := X
  unfold px_acopy at hr
  split at hr
  · next n dp b sp a rest =>
    split at hr
    · next n0 f n1 g ha hb =>
      cases hc : (decide (0 ≤ sp) && decide (0 ≤ dp) && decide (0 ≤ n) && Nat.ble (sp.toNatClampNeg + n.toNatClampNeg) n0 && Nat.ble (dp.toNatClampNeg + n.toNatClampNeg) n1 && Nat.ble (px_cat rest) 8) with
      | false => rw [hc] at hr; cases hr
      | true =>
        rw [hc] at hr
        cases hr
        simp only [Bool.and_eq_true, decide_eq_true_eq] at hc
        obtain ⟨⟨⟨⟨⟨c1, c2⟩, c3⟩, c4⟩, c5⟩, c6⟩ := hc
        have c6 := Nat.le_of_ble_eq_true c6
        have ng : ∀ z : Int32, 0 ≤ z → ¬ z < 0 := fun z q => by rw [Int32.not_lt]; exact q
        intro H locs ls hW hl kk
        refine va_copyi (D := D) hx hb0 (by rw [hml, hl.1]) hown (hts _ hw1) (hts _ hw2) (hts _ hw3) (hts _ hw4) hK hW.1 hW.2.1 hW.2.2 _ _ 0 0 (px_ws_get tc ad (px_arr_r ha)) (px_ws_get tc ad (px_arr_r hb)) rfl rfl rfl (ng _ c1) (ng _ c2) (ng _ c3) (Nat.le_of_ble_eq_true c4) (Nat.le_of_ble_eq_true c5) (fun _ _ => rfl) hf1 ?_ hdg (fun H1 locs1 a1 a2 a3 => ?_)
        · have : nativeFrameWords "java/lang/System" "arraycopy" 5 ≤ 60 := by decide +kernel
          rw [px_cat_ms]; omega
        · have e1 : (ad b, (.inl (tc 0, n1, .inl (va_cpy f g sp.toNatClampNeg dp.toNatClampNeg n.toNatClampNeg)) : va_E)) = (ad b, px_me tc ad (.inl (0, n1, .inl (va_cpy f g sp.toNatClampNeg dp.toNatClampNeg n.toNatClampNeg)))) := rfl
          have b1 := a1
          have b2 := a2
          erw [e1, px_ws_set tc ad _ (px_arr_r hb)] at b1
          erw [e1, px_ws_set tc ad _ (px_arr_r hb)] at b2
          exact kk _ _ _ ⟨b1, b2, a3⟩ hl
    · cases hr
  · cases hr
theorem px_tl_eq (ad : Nat → Nat) (v : Option Value) (rest : List Value) : (v.map (px_mv ad)).toList ++ px_ms ad rest = px_ms ad (px_tl v rest) := by cases v <;> rfl
theorem px_isO_r {h : px_H} {b ci : Nat} (hb : px_isO h b ci = true) : ∃ fs, px_cell h b = some (.inr (ci, fs)) := by
  unfold px_isO at hb
  split at hb
  · next cj fs hc => rw [Nat.eq_of_beq_eq_true hb] at hc; exact ⟨fs, hc⟩
  · cases hb
/-- behind a call that makes nothing: the world as the callee leaves it -/
theorem px_after {p : Program} {l : Launch} {e : Env} {R : Room} {s : State} {m : MethodId} {args : Array Value} {below : List Frame} {meth : Method} {c : Code} {cells slots : Nat} {Q : State → Prop} {A : Nat → Prop} {ad : Nat → Nat} {D : va_G} {tc : Nat → ClassId} {h h' : px_H} {H : Heap} {locs : List Loc} {ls : Array Slot} {st0 rest : List Value} {av : Array Value} {v : Option Value}
    (hr : va_Run p l e R s m args below meth c H locs cells slots 0 0 (F0 m pc ls st0) (px_ms ad rest) (px_Q D tc ad v h' (va_A (px_ws tc ad h) H.size) av) (va_A (px_ws tc ad h) H.size)) (hW : px_Wd D tc ad A s.heap h H locs) (hA : ∀ q, s.heap.size ≤ q → A q)
    (kk : ∀ (H' : Heap) (locs' : List Loc), px_Wd D tc ad A s.heap h' H' locs' → W p l e R s m args below meth c H' locs' cells slots Q (F0 m (pc + 3) ls (px_ms ad (px_tl v rest)))) : W p l e R s m args below meth c H locs cells slots Q (F0 m pc ls st0) := by
  have hF : ∀ q, va_A (px_ws tc ad h) H.size q → A q := by
    intro q hq
    rcases hq with ⟨k, e, hq⟩ | hq
    · exact hW.2.1.2 k _ hq
    · exact hA q (Nat.le_trans hW.2.2.1 hq)
  intro T hT X
  obtain ⟨v1, st₀, t, T', L, h0, X', hL, e1, e2, ⟨hv, hP1, hD1, hz, hk⟩, st⟩ := hr T hT X
  rw [h0] at hz hk
  have hv := (Outcome.returned.inj hv)
  subst hv
  have hS1 : va_S A s.heap T'.heap (locs ++ L) := ⟨Nat.le_trans hW.2.2.1 (by rw [e1]; exact hz), fun q h1 h2 => by rw [e1, hk q (Nat.lt_of_lt_of_le h1 hW.2.2.1) (fun z => h2 (hF q z))]; exact hW.2.2.2.1 q h1 h2, fun q hq => by
      rcases List.mem_append.mp hq with h | h
      · exact hW.2.2.2.2 q h
      · exact hF _ (hL q h)⟩
  rw [← e1] at hP1
  obtain ⟨t2, a1, b1⟩ := kk T'.heap (locs ++ L) ⟨hP1, hD1.weaken (fun k q _ h => hF q.1 h), hS1⟩ T' rfl X'
  have st' := st t2
  dsimp only at st'
  rw [px_tl_eq] at st'
  exact ⟨t2, st' a1, b1⟩
theorem px_blind (D : va_G) (tc : Nat → ClassId) (ad : Nat → Nat) (as : List Value) (h : px_H) (sz : Nat) : FrameBlind (px_Pre D tc ad as h sz) := fun a U g mk q => by
  obtain ⟨q0, q1, qP, qK, qD, qC⟩ := q
  exact ⟨q0, q1, qP, va_K.moved (u := U) (U := U.calling g mk a) (Vm.Alike.refl U.vm) qK, qD, px_KC.same rfl qC⟩
theorem px_pre {p : Program} {R : Room} {s : State} {m : MethodId} {args : Array Value} {c : Code} {cells slots : Nat} {A : Nat → Prop} {ad : Nat → Nat} {D : va_G} {tc : Nat → ClassId} {h : px_H} {H : Heap} {locs : List Loc} (X : px_X own cc nL p R s m args c cells slots A ad D tc) (hW : px_Wd D tc ad A s.heap h H locs) (as : List Value) : ∀ U : State, U.heap = H → s.WarmedH U.vm → px_Pre D tc ad as h H.size (px_ms ad as).toArray U := by
  obtain ⟨hx, hb0, hml, hown, hts, hK, hf1, hf2, hf3, hf4, hKC, hA⟩ := X
  intro U hU hWm
  have hF : ∀ q, va_A (px_ws tc ad h) H.size q → A q := by
    intro q hq
    rcases hq with ⟨k, e, hq⟩ | hq
    · exact hW.2.1.2 k _ hq
    · exact hA q (Nat.le_trans hW.2.2.1 hq)
  refine ⟨rfl, by rw [hU], by rw [hU]; exact hW.1, va_K.moved hWm.alike hK, hW.2.1.weaken (fun _ _ _ _ => trivial), ?_⟩
  rw [hU]
  exact ((hKC.kept hW.2.2.2.1).narrow hF).warm hWm
theorem px_goodall : ∀ w ∈ px_words, (w.onTables && w.keeps) = true ∨ ∃ ty, w = .arrayClass ty := fun w hw => (px_words_good w hw).2
theorem px_goodM {M : px_M} (hc : Cond.code M.1 M.2.1 M.2.2.1 M.2.2.2 ∈ px_words) : GoodIn px_words (px_wj M) := by
  intro w hw
  have hm : w ∈ px_words := by
    rcases List.mem_cons.mp hw with q | q
    · rw [q]; exact hc
    · exact q
  exact ⟨hm, px_goodall w hm⟩
/-- what the tables say of a method, as a call wants it -/
def px_lk1 (M : px_M) (n : Nat) : Prop := Cond.code M.1 M.2.1 M.2.2.1 M.2.2.2 ∈ px_words ∧ (M.1.cls ≠ "java/lang/invoke/MethodHandle" ∧ M.1.cls ≠ "java/lang/invoke/VarHandle" ∧ (parseMethodDescriptor M.1.desc).map (fun d => d.parameters.length) = some n) ∧ M.2.2.1 ≤ 61
theorem ok_callV {M : px_M} {j n ci i N : Nat} {T : u_T} (hj : mm j = some M) (hM : px_lk1 M n) (hc : vwCl[ci]? = some (M.1.cls, T, N)) (hw1 : Cond.methodLink own i M.1 ∈ px_words) (hw2 : Cond.instanceMethod M.1 ∈ px_words) (hw3 : Cond.selects M.1.cls M.1 M.1 ∈ px_words) (hw4 : Cond.initialized M.1.cls ∈ px_words) (hdg : decode cc pc = .ok (.invokevirtual i, 3)) : px_ok mm own cc nL ret pc (px_callV j n ci) := by
  intro p l e R s m args below meth c cells slots Q A ad D tc cb X CB lv st h r hr
  have X0 := X
  obtain ⟨hx, hb0, hml, hown, hts, hK, hf1, hf2, hf3, hf4, hKC, hA⟩ := X
  obtain ⟨rm, r1, r2, r3, r4, hcb⟩ := CB
  unfold px_callV at hr
  split at hr
  · next b as rest hpop =>
    cases hcond : (px_isO h b ci && Nat.ble (px_cat rest) 8) with
    | false => rw [hcond] at hr; cases hr
    | true =>
      rw [hcond] at hr
      dsimp only [cond] at hr
      rw [Bool.and_eq_true] at hcond
      split at hr
      · next v h' hcall =>
        cases hr
        obtain ⟨fs, hcell⟩ := px_isO_r hcond.1
        have h8 := Nat.le_of_ble_eq_true hcond.2
        obtain ⟨t, t1, t2, t3⟩ := px_pop_eq _ _ _ _ _ hpop
        have ht : t = as.reverse ++ [.ref b] := by
          have := congrArg List.reverse t3
          simp at this
          exact this.symm
        have hlen : as.length = n := by
          have := congrArg List.length ht
          simp at this
          omega
        intro H locs ls hW hl kk
        have hmet := hcb j (.ref b :: as) h v h' hcall M hj H.size
        have hst : px_ms ad st = (px_ms ad as).reverse ++ .ref (ad b) :: px_ms ad rest := by
          rw [t2, ht]
          simp [px_ms, px_mv]
        rw [hst]
        refine px_after (rest := rest) (va_runV (As := px_ms ad as) (b := ad b) (rest := px_ms ad rest) (C := M.1.cls) (n := n) (Ts := px_words) (nL := nL) (own := own) (index := i) (bytes := M.2.1) (maxL := M.2.2.1) (ret := M.2.2.2) (cc := cc) ⟨hx, hb0, hml, hown, hts⟩ hmet ?_ ⟨px_blind _ _ _ _ _ _, ?_, ?_⟩ rfl ?_ hl.1 rfl ?_ hdg ⟨by omega, by omega⟩) hW hA (fun H' locs' hW' => kk _ _ _ hW' hl)
        · refine ⟨callB_of n hts (px_goodM hM.1) rfl r3 r4 (hts _ hw4) (hts _ hw1) hM.2.1 ⟨r1, ?_⟩, hts _ hw2, hts _ hw3⟩
          have := hM.2.2
          omega
        · exact va_recv hK hW.1 hc (px_ws_get tc ad hcell)
        · exact px_pre X0 hW (.ref b :: as)
        · simp [px_ms, hlen]
        · exact lv_room (by rw [px_cat_ms]; exact h8)
      · cases hr
  · cases hr
theorem px_popS {n : Nat} {st as rest : List Value} (h : px_pop n st [] = some (as, rest)) : as.length = n ∧ st = as.reverse ++ rest := by
  obtain ⟨t, t1, t2, t3⟩ := px_pop_eq _ _ _ _ _ h
  rw [List.append_nil] at t3
  subst t3
  exact ⟨by rw [List.length_reverse]; exact t1, by rw [List.reverse_reverse]; exact t2⟩
theorem ok_callS {M : px_M} {j n i : Nat} (hj : mm j = some M) (hM : px_lk1 M n) (hw1 : Cond.methodLink own i M.1 ∈ px_words) (hw2 : Cond.static M.1 ∈ px_words) (hw4 : Cond.initialized M.1.cls ∈ px_words) (hdg : decode cc pc = .ok (.invokestatic i, 3)) : px_ok mm own cc nL ret pc (px_callS j n) := by
  intro p l e R s m args below meth c cells slots Q A ad D tc cb X CB lv st h r hr
  have X0 := X
  obtain ⟨hx, hb0, hml, hown, hts, hK, hf1, hf2, hf3, hf4, hKC, hA⟩ := X
  obtain ⟨rm, r1, r2, r3, r4, hcb⟩ := CB
  unfold px_callS at hr
  split at hr
  · next as rest hpop =>
    cases hcond : Nat.ble (px_cat rest) 8 with
    | false => rw [hcond] at hr; cases hr
    | true =>
      rw [hcond] at hr
      dsimp only [cond] at hr
      split at hr
      · next v h' hcall =>
        cases hr
        have h8 := Nat.le_of_ble_eq_true hcond
        obtain ⟨hlen, hst0⟩ := px_popS hpop
        intro H locs ls hW hl kk
        have hmet := hcb j as h v h' hcall M hj H.size
        have hst : px_ms ad st = (px_ms ad as).reverse ++ px_ms ad rest := by
          rw [hst0]
          simp [px_ms]
        rw [hst]
        refine px_after (rest := rest) (va_runS (As := px_ms ad as) (rest := px_ms ad rest) (n := n) (Ts := px_words) (nL := nL) (own := own) (index := i) (bytes := M.2.1) (maxL := M.2.2.1) (ret := M.2.2.2) (cc := cc) ⟨hx, hb0, hml, hown, hts⟩ hmet ?_ ⟨px_blind _ _ _ _ _ _, ?_⟩ rfl ?_ hl.1 rfl ?_ hdg ⟨by omega, by omega⟩) hW hA (fun H' locs' hW' => kk _ _ _ hW' hl)
        · refine ⟨callB_of n hts (px_goodM hM.1) rfl r3 r4 (hts _ hw4) (hts _ hw1) hM.2.1 ⟨r1, ?_⟩, hts _ hw2⟩
          have := hM.2.2
          omega
        · exact px_pre X0 hW as
        · simp [px_ms, hlen]
        · exact lv_room (by rw [px_cat_ms]; exact h8)
      · cases hr
  · cases hr
theorem ok_callSN {M : px_M} {j n i : Nat} {host : String} (hj : mm j = some M) (hM : px_lk1 M n) (hw1 : (own, i, M.1, host) ∈ px_nest) (hw2 : Cond.static M.1 ∈ px_words) (hw4 : Cond.initialized M.1.cls ∈ px_words) (hdg : decode cc pc = .ok (.invokestatic i, 3)) : px_ok mm own cc nL ret pc (px_callS j n) := by
  intro p l e R s m args below meth c cells slots Q A ad D tc cb X CB lv st h r hr
  have X0 := X
  obtain ⟨hx, hb0, hml, hown, hts, hK, hf1, hf2, hf3, hf4, hKC, hA⟩ := X
  obtain ⟨rm, r1, r2, r3, r4, hcb⟩ := CB
  unfold px_callS at hr
  split at hr
  · next as rest hpop =>
    cases hcond : Nat.ble (px_cat rest) 8 with
    | false => rw [hcond] at hr; cases hr
    | true =>
      rw [hcond] at hr
      dsimp only [cond] at hr
      split at hr
      · next v h' hcall =>
        cases hr
        have h8 := Nat.le_of_ble_eq_true hcond
        obtain ⟨hlen, hst0⟩ := px_popS hpop
        intro H locs ls hW hl kk
        have hmet := hcb j as h v h' hcall M hj H.size
        have hst : px_ms ad st = (px_ms ad as).reverse ++ px_ms ad rest := by
          rw [hst0]
          simp [px_ms]
        rw [hst]
        refine px_after (rest := rest) (va_runSN (As := px_ms ad as) (rest := px_ms ad rest) (n := n) (Ts := px_words) (nL := nL) (own := own) (host := host) (index := i) (bytes := M.2.1) (maxL := M.2.2.1) (ret := M.2.2.2) (cc := cc) ⟨hx, hb0, hml, hown, hts⟩ hmet ⟨va_cnB n hts (px_goodM hM.1) rfl r3 r4 (hKC.2.2.2.1 _ hw1) (hts _ hw4) hM.2.1 ⟨r1, ?_⟩, hts _ hw2, trivial⟩ ⟨px_blind _ _ _ _ _ _, ?_⟩ rfl ?_ hl.1 rfl ?_ hdg ⟨by omega, by omega⟩) hW hA (fun H' locs' hW' => kk _ _ _ hW' hl)
        · have := hM.2.2
          omega
        · exact px_pre X0 hW as
        · simp [px_ms, hlen]
        · exact lv_room (by rw [px_cat_ms]; exact h8)
      · cases hr
  · cases hr
theorem ok_least {i : Nat} (hw : Cond.fieldLink own i RX7 "LEAST" "[I" ∈ px_words) (hdg : decode cc pc = .ok (.getstatic i, 3)) : px_ok mm own cc nL ret pc (px_pushr 3000 3) := by
  intro p l e R s m args below meth c cells slots Q A ad D tc cb X _ lv st h r hr
  obtain ⟨hx, hb0, hml, hown, hts, hK, hf1, hf2, hf3, hf4, hKC, hA⟩ := X
  cases hr
  exact fun H locs ls hW hl k => va_gets hx hb0 hKC.1.1 hW.2.2 hown (hts _ hw) (fun _ q => q) hdg (k _ _ _ hW hl)
theorem ok_most {i : Nat} (hw : Cond.fieldLink own i RX7 "MOST" "[I" ∈ px_words) (hdg : decode cc pc = .ok (.getstatic i, 3)) : px_ok mm own cc nL ret pc (px_pushr 3001 3) := by
  intro p l e R s m args below meth c cells slots Q A ad D tc cb X _ lv st h r hr
  obtain ⟨hx, hb0, hml, hown, hts, hK, hf1, hf2, hf3, hf4, hKC, hA⟩ := X
  cases hr
  exact fun H locs ls hW hl k => va_gets hx hb0 hKC.2.1.1 hW.2.2 hown (hts _ hw) (fun _ q => q) hdg (k _ _ _ hW hl)
theorem ok_ctw (ho : own = RX7) (hdg : decode cc pc = .ok (.ldc 132, 2)) : px_ok mm own cc nL ret pc (px_pushr 3002 2) := by
  intro p l e R s m args below meth c cells slots Q A ad D tc cb X _ lv st h r hr
  obtain ⟨hx, hb0, hml, hown, hts, hK, hf1, hf2, hf3, hf4, hKC, hA⟩ := X
  cases hr
  exact fun H locs ls hW hl k => va_ldcS hx hb0 hown (ho ▸ hKC.2.2.1.1) hdg (k _ _ _ hW hl)
theorem ok_hnk (ho : own = RX7) (hdg : decode cc pc = .ok (.ldc 134, 2)) : px_ok mm own cc nL ret pc (px_pushr 3003 2) := by
  intro p l e R s m args below meth c cells slots Q A ad D tc cb X _ lv st h r hr
  obtain ⟨hx, hb0, hml, hown, hts, hK, hf1, hf2, hf3, hf4, hKC, hA⟩ := X
  cases hr
  exact fun H locs ls hW hl k => va_ldcS hx hb0 hown (ho ▸ hKC.2.2.1.2) hdg (k _ _ _ hW hl)
theorem ok_ireturn (hret : ret = some .int) (hdg : decode cc pc = .ok (.ireturn, 1)) : px_ok mm own cc nL ret pc px_iret := by
  intro p l e R s m args below meth c cells slots Q A ad D tc cb X _ lv st h r hr
  unfold px_iret at hr
  split at hr
  · cases hr
    exact ⟨rfl, Or.inl ⟨_, _, rfl, rfl, hret, rfl, hdg⟩⟩
  · cases hr
theorem ok_zreturn (hret : ret = some .boolean) (hdg : decode cc pc = .ok (.ireturn, 1)) : px_ok mm own cc nL ret pc px_zret := by
  intro p l e R s m args below meth c cells slots Q A ad D tc cb X _ lv st h r hr
  unfold px_zret at hr
  split at hr
  · next x =>
    cases hb : (x == 0 || x == 1) with
    | false => rw [hb] at hr; cases hr
    | true =>
      rw [hb] at hr
      cases hr
      exact ⟨rfl, Or.inl ⟨_, _, rfl, rfl, hret, (px_bool hb).1, hdg⟩⟩
  · cases hr
theorem ok_areturn {n : String} (hret : ret = some (.object n)) (hdg : decode cc pc = .ok (.areturn, 1)) : px_ok mm own cc nL ret pc px_aret := by
  intro p l e R s m args below meth c cells slots Q A ad D tc cb X _ lv st h r hr
  unfold px_aret at hr
  split at hr
  · cases hr
    exact ⟨rfl, Or.inr (Or.inl ⟨_, _, rfl, rfl, Or.inr ⟨_, rfl⟩, hret, hdg⟩)⟩
  · cases hr
    exact ⟨rfl, Or.inr (Or.inl ⟨_, _, rfl, rfl, Or.inl rfl, hret, hdg⟩)⟩
  · cases hr
theorem ok_return (hret : ret = none) (hdg : decode cc pc = .ok (.return_, 1)) : px_ok mm own cc nL ret pc px_vret := by
  intro p l e R s m args below meth c cells slots Q A ad D tc cb X _ lv st h r hr
  unfold px_vret at hr
  split at hr
  · cases hr
    exact ⟨rfl, Or.inr (Or.inr ⟨rfl, rfl, hret, hdg⟩)⟩
  · cases hr
/-- a method's whole code -/
def px_okT (mm : Nat → Option px_M) (own : String) (cc : ByteArray) (nL : Nat) (ret : Option FieldType) (code : Nat → Option px_A) : Prop := ∀ (pc : Nat) (act : px_A), code pc = some act → px_ok mm own cc nL ret pc act
theorem okT_node {k : Nat} {a b : Nat → Option px_A} (ha : px_okT mm own cc nL ret a) (hb : px_okT mm own cc nL ret b) : px_okT mm own cc nL ret (px_node k a b) := by
  intro pc act h
  unfold px_node at h
  cases hc : Nat.blt pc k with
  | true => rw [hc] at h; exact ha pc act h
  | false => rw [hc] at h; exact hb pc act h
theorem okT_leaf {k : Nat} {a : px_A} (ha : px_ok mm own cc nL ret k a) : px_okT mm own cc nL ret (px_leaf k a) := by
  intro pc act h
  unfold px_leaf at h
  cases hc : Nat.beq pc k with
  | true =>
    rw [hc] at h
    cases h
    rw [Nat.eq_of_beq_eq_true hc]
    exact ha
  | false => rw [hc] at h; cases h
theorem px_loopW {p : Program} {l : Launch} {e : Env} {R : Room} {s : State} {m : MethodId} {args : Array Value} {below : List Frame} {meth : Method} {c : Code} {cells slots : Nat} {Q : State → Prop} {A : Nat → Prop} {ad : Nat → Nat} {D : va_G} {tc : Nat → ClassId} {cb : px_C} {code : Nat → Option px_A} (hT : px_okT mm own cc nL ret code)
    (X : px_X own cc nL p R s m args c cells slots A ad D tc) (CB : px_cbok mm l R D tc ad cb) {v : Option Value} {h' : px_H} : ∀ (n pc : Nat) (lv : px_L) (st : List Value) (h : px_H), px_loop cb code n pc lv st h = some (v, h') → ∀ (H : Heap) (locs : List Loc) (ls : Array Slot), px_Wd D tc ad A s.heap h H locs → lv_has ls nL (px_ml ad lv) →
      (∀ (pcr : Nat) (H' : Heap) (locs' : List Loc) (ls' : Array Slot) (st' : List Value), px_Wd D tc ad A s.heap h' H' locs' → px_end cc ret pcr v st' → W p l e R s m args below meth c H' locs' cells slots Q (F0 m pcr ls' (px_ms ad st'))) →
      W p l e R s m args below meth c H locs cells slots Q (F0 m pc ls (px_ms ad st))
  | 0, _, _, _, _, hr => by cases hr
  | n + 1, pc, lv, st, h, hr => by
    intro H locs ls hW hl kk
    unfold px_loop at hr
    split at hr
    · cases hr
    · next act hact =>
      split at hr
      · cases hr
      · next pc' lv' st' h1 hstep =>
        exact hT pc act hact p l e R s m args below meth c cells slots Q A ad D tc cb X CB lv st h _ hstep H locs ls hW hl (fun H' locs' ls' hW' hl' => px_loopW hT X CB n pc' lv' st' h1 hr H' locs' ls' hW' hl' kk)
      · next r hstep =>
        cases hr
        obtain ⟨e1, e2⟩ := hT pc act hact p l e R s m args below meth c cells slots Q A ad D tc cb X CB lv st h _ hstep
        subst e1
        exact kk pc H locs ls st hW e2
end PXCALLS
/-- a run of a method: d calls may stand one in another, n steps in each -/
def px_run (codes : Nat → Option (Nat × (Nat → Option px_A))) : Nat → Nat → px_C
  | 0, _, _, _, _ => none
  | d + 1, n, j, as, h => match codes j with
    | none => none
    | some q => cond (Nat.ble (px_cat as) q.1) (px_loop (px_run codes d n) q.2 n 0 (px_args q.1 as) [] h) none
def px_rm (d : Nat) : Room := { frames := d, cells := 0, slots := 0, locals := 80 * d }
/-- the table of codes against the table of methods -/
def px_okC (mm : Nat → Option px_M) (codes : Nat → Option (Nat × (Nat → Option px_A))) : Prop := ∀ (j nL : Nat) (code : Nat → Option px_A), codes j = some (nL, code) → ∀ M : px_M, mm j = some M → plainName M.1.cls = true ∧ M.2.2.1 = nL ∧ px_okT mm M.1.cls M.2.1 nL M.2.2.2 code
theorem px_sound {mm : Nat → Option px_M} {codes : Nat → Option (Nat × (Nat → Option px_A))} (hC : px_okC mm codes) (l : Launch) (D : va_G) (tc : Nat → ClassId) (ad : Nat → Nat) : ∀ (d n j : Nat) (as : List Value) (h : px_H) (v : Option Value) (h' : px_H), px_run codes d n j as h = some (v, h') → ∀ M, mm j = some M → px_Met l D tc ad (px_rm d) M as h v h'
  | 0, _, _, _, _, _, _, hr => by cases hr
  | d + 1, n, j, as, h, v, h', hr => by
    have ih := px_sound hC l D tc ad d n
    intro M hM sz
    unfold px_run at hr
    split at hr
    · cases hr
    · next q hq =>
      obtain ⟨nL, code⟩ := q
      cases hb : Nat.ble (px_cat as) nL with
      | false => rw [hb] at hr; cases hr
      | true =>
        rw [hb] at hr
        dsimp only [cond] at hr
        have hle := Nat.le_of_ble_eq_true hb
        obtain ⟨hy, hnL, hT⟩ := hC j nL code hq M hM
        subst hnL
        refine Met.ofW (cc := M.2.1) (maxL := M.2.2.1) (ret := M.2.2.2) hy rfl ?_
        intro p e s m args below meth c s₁ B hml hv
        obtain ⟨rfl, hsz, hP, hK, hD0, hKC⟩ := hv
        subst hsz
        have hts : ∀ w ∈ px_wj M, w.before (px_ms ad as).toArray s = true := atoms_spec (ws := px_wj M) B.pre
        have hown : s.vm.findClass M.1.cls = some m.cls := findClass_of_methodNamed B.named
        have hlocks := B.notSynchronized
        have hD := hD0.self (sz := s.heap.size)
        have hl := lv_entry (px_ms ad as) (n := M.2.2.1) (by rw [px_sl_len]; exact hle)
        rw [lg_entry_eq]
        generalize (lg_sl (px_ms ad as) ++ List.replicate (M.2.2.1 - (lg_sl (px_ms ad as)).length) Slot.unset).toArray = ls at hl ⊢
        have hl := px_has_args (ad := ad) (m := M.2.2.1) hl
        have X : px_X M.1.cls M.2.1 M.2.2.1 p (headSpec (px_wj M) (px_rm (d + 1))).room s m (px_ms ad as).toArray c 0 0 (va_A (px_ws tc ad h) s.heap.size) ad D tc :=
          ⟨B.exec, B.bytes, hml, hown, fun w hw => hts w (List.mem_cons_of_mem _ hw), hK, Nat.succ_le_succ (Nat.zero_le d), by show 80 ≤ 80 * (d + 1); omega, Nat.zero_le _, Nat.zero_le _, hKC, fun q hq => Or.inr hq⟩
        have CB : px_cbok mm l (headSpec (px_wj M) (px_rm (d + 1))).room D tc ad (px_run codes d n) :=
          ⟨px_rm d, Nat.le_refl _, by show 80 + 80 * d ≤ 80 * (d + 1); omega, rfl, rfl, ih⟩
        refine px_loopW hT X CB n 0 _ [] h hr s.heap [] ls ⟨hP, hD, va_S.rf⟩ hl (fun pcr H' locs' ls' st' hW' hend => ?_)
        rcases hend with ⟨x, ty, rfl, rfl, e3, e4, e5⟩ | ⟨x, n', rfl, rfl, e3, e4, e5⟩ | ⟨rfl, rfl, e3, e5⟩
        · exact W.zret B.exec B.bytes (by rw [← e3]; exact B.returns) e4 (fun t ht hWm => ⟨rfl, by rw [ht]; exact hW'.1, hW'.2.1, hW'.2.2.F ht⟩) hW'.2.2.2.2 e5
        · refine W.aret (v := px_mv ad x) B.exec B.bytes (by rw [← e4]; exact B.returns) (Or.inl ⟨_, rfl⟩) ?_ (fun t ht hWm => ⟨rfl, by rw [ht]; exact hW'.1, hW'.2.1, hW'.2.2.F ht⟩) hW'.2.2.2.2 e5
          rcases e3 with rfl | ⟨k, rfl⟩
          · exact Or.inl rfl
          · exact Or.inr ⟨_, rfl⟩
        · exact W.vret B.exec B.bytes (by rw [← e3]; exact B.returns) (fun t ht hWm => ⟨rfl, by rw [ht]; exact hW'.1, hW'.2.1, hW'.2.2.F ht⟩) hW'.2.2.2.2 e5
end
section
/-! A RUN THAT HOLDS OVER HALF A HEAP holds whatever the other half is -/
def px_inv (b : Option Bool) (h : px_H) : Prop := match b with
  | none => True
  | some true => h.2 = []
  | some false => h.1 = []
def px_lf (b : Option Bool) (X : List va_E) (h : px_H) : px_H := match b with
  | none => h
  | some true => (h.1, X)
  | some false => (X, h.2)
def px_lfN (b : Option Bool) (X : List va_E) : px_N → px_N
  | .inl (pc, lv, st, h) => .inl (pc, lv, st, px_lf b X h)
  | .inr (v, h) => .inr (v, px_lf b X h)
def px_invN (b : Option Bool) : px_N → Prop
  | .inl (_, _, _, h) => px_inv b h
  | .inr (_, h) => px_inv b h
def px_frC (b : Option Bool) (X : List va_E) (cb cb' : px_C) : Prop := ∀ (j : Nat) (as : List Value) (h : px_H) (v : Option Value) (h' : px_H), px_inv b h → cb j as h = some (v, h') → cb' j as (px_lf b X h) = some (v, px_lf b X h') ∧ px_inv b h'
/-- a step over half a heap (or the whole one), by calls that know less, is the step over the whole heap by calls that know more -/
def px_fr (act : px_A) : Prop := ∀ (b : Option Bool) (X : List va_E) (cb cb' : px_C), px_frC b X cb cb' → ∀ (pc : Nat) (lv : px_L) (st : List Value) (h : px_H) (r : px_N), px_inv b h → act cb pc lv st h = some r → act cb' pc lv st (px_lf b X h) = some (px_lfN b X r) ∧ px_invN b r
theorem px_lf_cell {b : Option Bool} {X : List va_E} {h : px_H} {k : Nat} {e : va_E} (hi : px_inv b h) (hc : px_cell h k = some e) : px_cell (px_lf b X h) k = some e := by
  obtain ⟨h1, h2⟩ := h
  match b with
  | none => exact hc
  | some true =>
    unfold px_cell at hc ⊢
    have hi : h2 = [] := hi
    subst hi
    cases hb : Nat.blt k 1000 with
    | true => rw [hb] at hc; exact hc
    | false => rw [hb] at hc; cases hc
  | some false =>
    unfold px_cell at hc ⊢
    have hi : h1 = [] := hi
    subst hi
    cases hb : Nat.blt k 1000 with
    | true => rw [hb] at hc; cases hc
    | false => rw [hb] at hc; exact hc
theorem px_lf_put {b : Option Bool} {X : List va_E} {h : px_H} {k : Nat} {e0 : va_E} (e : va_E) (hi : px_inv b h) (hc : px_cell h k = some e0) : px_put (px_lf b X h) k e = px_lf b X (px_put h k e) ∧ px_inv b (px_put h k e) := by
  obtain ⟨h1, h2⟩ := h
  match b with
  | none => exact ⟨rfl, trivial⟩
  | some true =>
    unfold px_cell at hc
    unfold px_put
    have hi : h2 = [] := hi
    subst hi
    cases hb : Nat.blt k 1000 with
    | true => exact ⟨rfl, rfl⟩
    | false => rw [hb] at hc; cases hc
  | some false =>
    unfold px_cell at hc
    unfold px_put
    have hi : h1 = [] := hi
    subst hi
    cases hb : Nat.blt k 1000 with
    | true => rw [hb] at hc; cases hc
    | false => exact ⟨rfl, rfl⟩
theorem px_lf_arr {b : Option Bool} {X : List va_E} {h : px_H} {k n : Nat} {f : Nat → Int32} (hi : px_inv b h) (hc : px_arr h k = some (n, f)) : px_arr (px_lf b X h) k = some (n, f) := by
  have h1 := px_lf_cell (X := X) hi (px_arr_r hc)
  unfold px_arr
  rw [h1]
  rfl
theorem fr_pushi {v : Int32} {n : Nat} : px_fr (px_pushi v n) := by
  intro b X cb cb' _ pc lv st h r hi hr
  cases hr
  exact ⟨rfl, hi⟩
theorem fr_pushl {v : Int64} {n : Nat} : px_fr (px_pushl v n) := by
  intro b X cb cb' _ pc lv st h r hi hr
  cases hr
  exact ⟨rfl, hi⟩
theorem fr_pushr {k n : Nat} : px_fr (px_pushr k n) := by
  intro b X cb cb' _ pc lv st h r hi hr
  cases hr
  exact ⟨rfl, hi⟩
theorem fr_pushn : px_fr px_pushn := by
  intro b X cb cb' _ pc lv st h r hi hr
  cases hr
  exact ⟨rfl, hi⟩
theorem fr_goto {t : Nat} : px_fr (px_goto t) := by
  intro b X cb cb' _ pc lv st h r hi hr
  cases hr
  exact ⟨rfl, hi⟩
theorem fr_ild {i n : Nat} : px_fr (px_ild i n) := by
  intro b X cb cb' _ pc lv st h r hi hr
  unfold px_ild at hr ⊢
  split at hr
  · cases hr; exact ⟨rfl, hi⟩
  · cases hr
theorem fr_lld {i n : Nat} : px_fr (px_lld i n) := by
  intro b X cb cb' _ pc lv st h r hi hr
  unfold px_lld at hr ⊢
  split at hr
  · cases hr; exact ⟨rfl, hi⟩
  · cases hr
theorem fr_ald {i n : Nat} : px_fr (px_ald i n) := by
  intro b X cb cb' _ pc lv st h r hi hr
  unfold px_ald at hr ⊢
  split at hr
  · cases hr; exact ⟨rfl, hi⟩
  · cases hr; exact ⟨rfl, hi⟩
  · cases hr
theorem fr_iinc {i : Nat} {c : Int32} : px_fr (px_iinc i c) := by
  intro b X cb cb' _ pc lv st h r hi hr
  unfold px_iinc at hr ⊢
  split at hr
  · cases hr; exact ⟨rfl, hi⟩
  · cases hr
theorem fr_ist {i n : Nat} : px_fr (px_ist i n) := by
  intro b X cb cb' _ pc lv st h r hi hr
  unfold px_ist at hr ⊢
  split at hr
  · cases hr; exact ⟨rfl, hi⟩
  · cases hr
theorem fr_ast {i n : Nat} : px_fr (px_ast i n) := by
  intro b X cb cb' _ pc lv st h r hi hr
  unfold px_ast at hr ⊢
  split at hr
  · cases hr; exact ⟨rfl, hi⟩
  · cases hr; exact ⟨rfl, hi⟩
  · cases hr
theorem fr_dup  : px_fr (px_dup ) := by
  intro b X cb cb' _ pc lv st h r hi hr
  unfold px_dup at hr ⊢
  split at hr
  · cases hr; exact ⟨rfl, hi⟩
  · cases hr; exact ⟨rfl, hi⟩
  · cases hr
theorem fr_dup2  : px_fr (px_dup2 ) := by
  intro b X cb cb' _ pc lv st h r hi hr
  unfold px_dup2 at hr ⊢
  split at hr
  · cases hr; exact ⟨rfl, hi⟩
  · cases hr
theorem fr_popi  : px_fr (px_popi ) := by
  intro b X cb cb' _ pc lv st h r hi hr
  unfold px_popi at hr ⊢
  split at hr
  · cases hr; exact ⟨rfl, hi⟩
  · cases hr
theorem fr_bin {f : Int32 → Int32 → Int32} : px_fr (px_bin f) := by
  intro b X cb cb' _ pc lv st h r hi hr
  unfold px_bin at hr ⊢
  split at hr
  · cases hr; exact ⟨rfl, hi⟩
  · cases hr
theorem fr_un {f : Int32 → Int32} : px_fr (px_un f) := by
  intro b X cb cb' _ pc lv st h r hi hr
  unfold px_un at hr ⊢
  split at hr
  · cases hr; exact ⟨rfl, hi⟩
  · cases hr
theorem fr_i2l  : px_fr (px_i2l ) := by
  intro b X cb cb' _ pc lv st h r hi hr
  unfold px_i2l at hr ⊢
  split at hr
  · cases hr; exact ⟨rfl, hi⟩
  · cases hr
theorem fr_l2i  : px_fr (px_l2i ) := by
  intro b X cb cb' _ pc lv st h r hi hr
  unfold px_l2i at hr ⊢
  split at hr
  · cases hr; exact ⟨rfl, hi⟩
  · cases hr
theorem fr_lbin {f : Int64 → Int64 → Int64} : px_fr (px_lbin f) := by
  intro b X cb cb' _ pc lv st h r hi hr
  unfold px_lbin at hr ⊢
  split at hr
  · cases hr; exact ⟨rfl, hi⟩
  · cases hr
theorem fr_lsh {f : Int64 → Int32 → Int64} : px_fr (px_lsh f) := by
  intro b X cb cb' _ pc lv st h r hi hr
  unfold px_lsh at hr ⊢
  split at hr
  · cases hr; exact ⟨rfl, hi⟩
  · cases hr
theorem fr_if {f : Int32 → Bool} {t : Nat} : px_fr (px_if f t) := by
  intro b X cb cb' _ pc lv st h r hi hr
  unfold px_if at hr ⊢
  split at hr
  · cases hr; exact ⟨rfl, hi⟩
  · cases hr
theorem fr_icmp {f : Int32 → Int32 → Bool} {t : Nat} : px_fr (px_icmp f t) := by
  intro b X cb cb' _ pc lv st h r hi hr
  unfold px_icmp at hr ⊢
  split at hr
  · cases hr; exact ⟨rfl, hi⟩
  · cases hr
theorem fr_ifnull {t : Nat} : px_fr (px_ifnull t) := by
  intro b X cb cb' _ pc lv st h r hi hr
  unfold px_ifnull at hr ⊢
  split at hr
  · cases hr; exact ⟨rfl, hi⟩
  · cases hr; exact ⟨rfl, hi⟩
  · cases hr
theorem fr_ifnn {t : Nat} : px_fr (px_ifnn t) := by
  intro b X cb cb' _ pc lv st h r hi hr
  unfold px_ifnn at hr ⊢
  split at hr
  · cases hr; exact ⟨rfl, hi⟩
  · cases hr; exact ⟨rfl, hi⟩
  · cases hr
theorem fr_tsw {lo : Int} {ts : List Nat} {d : Nat} : px_fr (px_tsw lo ts d) := by
  intro b X cb cb' _ pc lv st h r hi hr
  unfold px_tsw at hr ⊢
  split at hr
  · cases hr; exact ⟨rfl, hi⟩
  · cases hr
theorem fr_lsw {ps : List (Int × Nat)} {d : Nat} : px_fr (px_lsw ps d) := by
  intro b X cb cb' _ pc lv st h r hi hr
  unfold px_lsw at hr ⊢
  split at hr
  · cases hr; exact ⟨rfl, hi⟩
  · cases hr
theorem fr_iret  : px_fr (px_iret ) := by
  intro b X cb cb' _ pc lv st h r hi hr
  unfold px_iret at hr ⊢
  split at hr
  · cases hr; exact ⟨rfl, hi⟩
  · cases hr
theorem fr_aret  : px_fr (px_aret ) := by
  intro b X cb cb' _ pc lv st h r hi hr
  unfold px_aret at hr ⊢
  split at hr
  · cases hr; exact ⟨rfl, hi⟩
  · cases hr; exact ⟨rfl, hi⟩
  · cases hr
theorem fr_vret  : px_fr (px_vret ) := by
  intro b X cb cb' _ pc lv st h r hi hr
  unfold px_vret at hr ⊢
  split at hr
  · cases hr; exact ⟨rfl, hi⟩
  · cases hr
theorem fr_bin0 {f : Int32 → Int32 → Int32} : px_fr (px_bin0 f) := by
  intro b X cb cb' _ pc lv st h r hi hr
  unfold px_bin0 at hr ⊢
  split at hr
  · next y x r0 =>
    cases hc : (decide (y = 0)) with
    | true => rw [hc] at hr; cases hr
    | false =>
      rw [hc] at hr
      cases hr
      try dsimp only
      try rw [hc]
      exact ⟨rfl, hi⟩
  · cases hr
theorem fr_mx {f : Int32 → Int32 → Int32} : px_fr (px_mx f) := by
  intro b X cb cb' _ pc lv st h r hi hr
  unfold px_mx at hr ⊢
  split at hr
  · next y x r0 =>
    cases hc : (Nat.ble (px_cat r0) 8) with
    | false => rw [hc] at hr; cases hr
    | true =>
      rw [hc] at hr
      cases hr
      try dsimp only
      try rw [hc]
      exact ⟨rfl, hi⟩
  · cases hr
theorem fr_zret  : px_fr (px_zret ) := by
  intro b X cb cb' _ pc lv st h r hi hr
  unfold px_zret at hr ⊢
  split at hr
  · next x =>
    cases hc : (x == 0 || x == 1) with
    | false => rw [hc] at hr; cases hr
    | true =>
      rw [hc] at hr
      cases hr
      try dsimp only
      try rw [hc]
      exact ⟨rfl, hi⟩
  · cases hr
theorem fr_kald : px_fr px_kald := by
  intro b X cb cb' _ pc lv st h r hi hr
  unfold px_kald at hr ⊢
  split at hr
  · next i a r0 =>
    try dsimp only
    cases hc : px_inb i 6 with
    | false => rw [hc] at hr; cases hr
    | true =>
      rw [hc] at hr
      cases h0 : Nat.beq a 3000 with
      | true =>
        rw [h0] at hr
        cases hr
        exact ⟨rfl, hi⟩
      | false =>
        rw [h0] at hr
        cases h1 : Nat.beq a 3001 with
        | false => rw [h1] at hr; cases hr
        | true =>
          rw [h1] at hr
          cases hr
          exact ⟨rfl, hi⟩
  · cases hr
theorem fr_getf {ci k : Nat} : px_fr (px_getf ci k) := by
  intro b X cb cb' _ pc lv st h r hi hr
  unfold px_getf at hr ⊢
  split at hr
  · next a r0 =>
    split at hr
    · next cj fs hcell =>
      try dsimp only
      rw [px_lf_cell hi hcell]
      cases hb : Nat.beq cj ci with
      | false => rw [hb] at hr; cases hr
      | true =>
        rw [hb] at hr
        dsimp only [cond] at hr
        split at hr
        · next v hv =>
          cases hr
          try dsimp only
          rw [hb, hv]
          exact ⟨rfl, hi⟩
        · cases hr
    · cases hr
  · cases hr
theorem fr_putf {z : Bool} {ci k : Nat} : px_fr (px_putf z ci k) := by
  intro b X cb cb' _ pc lv st h r hi hr
  unfold px_putf at hr ⊢
  split at hr
  · next x a r0 =>
    split at hr
    · next cj fs hcell =>
      try dsimp only
      rw [px_lf_cell hi hcell]
      cases hb : (Nat.beq cj ci && Nat.blt k fs.length && (z || x == 0 || x == 1)) with
      | false => rw [hb] at hr; cases hr
      | true =>
        rw [hb] at hr
        cases hr
        obtain ⟨e1, e2⟩ := px_lf_put (X := X) (.inr (cj, px_stn fs k (.int x))) hi hcell
        try dsimp only
        rw [hb, e1]
        exact ⟨rfl, e2⟩
    · cases hr
  · cases hr
theorem fr_iald : px_fr px_iald := by
  intro b X cb cb' _ pc lv st h r hi hr
  unfold px_iald at hr ⊢
  split at hr
  · next i a r0 =>
    split at hr
    · next n f ha =>
      try dsimp only
      rw [px_lf_arr hi ha]
      cases hb : px_inb i n with
      | false => rw [hb] at hr; cases hr
      | true =>
        rw [hb] at hr
        cases hr
        try dsimp only
        rw [hb]
        exact ⟨rfl, hi⟩
    · cases hr
  · cases hr
theorem fr_iast : px_fr px_iast := by
  intro b X cb cb' _ pc lv st h r hi hr
  unfold px_iast at hr ⊢
  split at hr
  · next x i a r0 =>
    split at hr
    · next n f ha =>
      try dsimp only
      rw [px_lf_arr hi ha]
      cases hb : px_inb i n with
      | false => rw [hb] at hr; cases hr
      | true =>
        rw [hb] at hr
        cases hr
        obtain ⟨e1, e2⟩ := px_lf_put (X := X) (.inl (0, n, .inl (upd f i.toNatClampNeg x))) hi (px_arr_r ha)
        try dsimp only
        rw [hb, e1]
        exact ⟨rfl, e2⟩
    · cases hr
  · cases hr
theorem fr_aald : px_fr px_aald := by
  intro b X cb cb' _ pc lv st h r hi hr
  unfold px_aald at hr ⊢
  split at hr
  · next i a r0 =>
    split at hr
    · next t n f ha =>
      try dsimp only
      rw [px_lf_cell hi ha]
      cases hb : (Nat.beq t 1 && px_inb i n) with
      | false => rw [hb] at hr; cases hr
      | true =>
        rw [hb] at hr
        dsimp only [cond] at hr
        split at hr
        · next k hk =>
          cases hr
          try dsimp only
          rw [hb, hk]
          exact ⟨rfl, hi⟩
        · next hk =>
          cases hr
          try dsimp only
          rw [hb, hk]
          exact ⟨rfl, hi⟩
    · cases hr
  · cases hr
theorem fr_alen : px_fr px_alen := by
  intro b X cb cb' _ pc lv st h r hi hr
  unfold px_alen at hr ⊢
  split at hr
  · next a r0 =>
    split at hr
    · next t n f ha =>
      try dsimp only
      rw [px_lf_cell hi ha]
      cases hb : Nat.beq t 0 with
      | false => rw [hb] at hr; cases hr
      | true =>
        rw [hb] at hr
        cases hr
        try dsimp only
        rw [hb]
        exact ⟨rfl, hi⟩
    · next t n f ha =>
      try dsimp only
      rw [px_lf_cell hi ha]
      cases hb : Nat.beq t 1 with
      | false => rw [hb] at hr; cases hr
      | true =>
        rw [hb] at hr
        cases hr
        try dsimp only
        rw [hb]
        exact ⟨rfl, hi⟩
    · cases hr
  · cases hr
theorem px_lf_isO {b : Option Bool} {X : List va_E} {h : px_H} {q ci : Nat} (hi : px_inv b h) (hq : px_isO h q ci = true) : px_isO (px_lf b X h) q ci = true := by
  obtain ⟨fs, hc⟩ := px_isO_r hq
  have h1 := px_lf_cell (X := X) hi hc
  unfold px_isO
  rw [h1]
  exact Nat.beq_refl ci
theorem fr_callV {j n ci : Nat} : px_fr (px_callV j n ci) := by
  intro b X cb cb' hcb pc lv st h r hi hr
  unfold px_callV at hr ⊢
  split at hr
  · next q as rest hpop =>
    cases hc : (px_isO h q ci && Nat.ble (px_cat rest) 8) with
    | false => rw [hc] at hr; cases hr
    | true =>
      rw [hc] at hr
      dsimp only [cond] at hr
      rw [Bool.and_eq_true] at hc
      split at hr
      · next v h' hcall =>
        cases hr
        obtain ⟨e1, e2⟩ := hcb j (.ref q :: as) h v h' hi hcall
        try rw [hpop]
        try dsimp only
        rw [px_lf_isO hi hc.1, hc.2, e1]
        exact ⟨rfl, e2⟩
      · cases hr
  · cases hr
theorem fr_callS {j n : Nat} : px_fr (px_callS j n) := by
  intro b X cb cb' hcb pc lv st h r hi hr
  unfold px_callS at hr ⊢
  split at hr
  · next as rest hpop =>
    cases hc : Nat.ble (px_cat rest) 8 with
    | false => rw [hc] at hr; cases hr
    | true =>
      rw [hc] at hr
      dsimp only [cond] at hr
      split at hr
      · next v h' hcall =>
        cases hr
        obtain ⟨e1, e2⟩ := hcb j as h v h' hi hcall
        try rw [hpop]
        try dsimp only
        first | rw [hc, e1] | rw [e1]
        exact ⟨rfl, e2⟩
      · cases hr
  · cases hr
theorem fr_acopy : px_fr px_acopy := by
  intro b X cb cb' _ pc lv st h r hi hr
  unfold px_acopy at hr ⊢
  split at hr
  · next n dp q sp a r0 =>
    split at hr
    · next n0 f n1 g ha hb =>
      try dsimp only
      rw [px_lf_arr hi ha, px_lf_arr hi hb]
      try dsimp only
      cases hc : (decide (0 ≤ sp) && decide (0 ≤ dp) && decide (0 ≤ n) && Nat.ble (sp.toNatClampNeg + n.toNatClampNeg) n0 && Nat.ble (dp.toNatClampNeg + n.toNatClampNeg) n1 && Nat.ble (px_cat r0) 8) with
      | false => rw [hc] at hr; cases hr
      | true =>
        rw [hc] at hr
        cases hr
        obtain ⟨e1, e2⟩ := px_lf_put (X := X) (.inl (0, n1, .inl (va_cpy f g sp.toNatClampNeg dp.toNatClampNeg n.toNatClampNeg))) hi (px_arr_r hb)
        rw [e1]
        exact ⟨rfl, e2⟩
    · cases hr
  · cases hr
def px_frT (code : Nat → Option px_A) : Prop := ∀ (pc : Nat) (act : px_A), code pc = some act → px_fr act
/-- a method's table: machine and frame -/
def px_okF (mm : Nat → Option px_M) (own : String) (cc : ByteArray) (nL : Nat) (ret : Option FieldType) (code : Nat → Option px_A) : Prop := px_okT mm own cc nL ret code ∧ px_frT code
section PXF
variable {mm : Nat → Option px_M} {own : String} {cc : ByteArray} {nL : Nat} {ret : Option FieldType}
theorem okF_node {k : Nat} {a b : Nat → Option px_A} (ha : px_okF mm own cc nL ret a) (hb : px_okF mm own cc nL ret b) : px_okF mm own cc nL ret (px_node k a b) := by
  refine ⟨okT_node ha.1 hb.1, fun pc act h => ?_⟩
  unfold px_node at h
  cases hc : Nat.blt pc k with
  | true => rw [hc] at h; exact ha.2 pc act h
  | false => rw [hc] at h; exact hb.2 pc act h
theorem okF_leaf {k : Nat} {a : px_A} (ha : px_ok mm own cc nL ret k a) (hf : px_fr a) : px_okF mm own cc nL ret (px_leaf k a) := by
  refine ⟨okT_leaf ha, fun pc act h => ?_⟩
  unfold px_leaf at h
  cases hc : Nat.beq pc k with
  | true => rw [hc] at h; cases h; exact hf
  | false => rw [hc] at h; cases h
end PXF
theorem px_fr_loop {b : Option Bool} {X : List va_E} {cb cb' : px_C} {code : Nat → Option px_A} (hT : px_frT code) (hcb : px_frC b X cb cb') : ∀ (n n' pc : Nat) (lv : px_L) (st : List Value) (h : px_H) (v : Option Value) (h' : px_H), n ≤ n' → px_inv b h → px_loop cb code n pc lv st h = some (v, h') → px_loop cb' code n' pc lv st (px_lf b X h) = some (v, px_lf b X h') ∧ px_inv b h'
  | 0, _, _, _, _, _, _, _, _, _, hr => by cases hr
  | n + 1, 0, _, _, _, _, _, _, hn, _, _ => absurd hn (by omega)
  | n + 1, n' + 1, pc, lv, st, h, v, h', hn, hi, hr => by
    unfold px_loop at hr ⊢
    split at hr
    · cases hr
    · next act hact =>
      try rw [hact]
      try dsimp only
      split at hr
      · cases hr
      · next pc' lv' st' h1 hs =>
        obtain ⟨e1, e2⟩ := hT pc act hact b X cb cb' hcb pc lv st h _ hi hs
        rw [e1]
        exact px_fr_loop hT hcb n n' pc' lv' st' h1 v h' (Nat.le_of_succ_le_succ hn) e2 hr
      · next r hs =>
        cases hr
        obtain ⟨e1, e2⟩ := hT pc act hact b X cb cb' hcb pc lv st h _ hi hs
        rw [e1]
        exact ⟨rfl, e2⟩
theorem px_fr_run {b : Option Bool} {X : List va_E} {codes : Nat → Option (Nat × (Nat → Option px_A))} (hC : ∀ j q, codes j = some q → px_frT q.2) : ∀ d d' n n', d ≤ d' → n ≤ n' → px_frC b X (px_run codes d n) (px_run codes d' n')
  | 0, _, _, _, _, _ => fun _ _ _ _ _ _ hr => by cases hr
  | d + 1, 0, _, _, hd, _ => absurd hd (by omega)
  | d + 1, d' + 1, n, n', hd, hn => fun j as h v h' hi hr => by
    have ih := px_fr_run (b := b) (X := X) hC d d' n n' (Nat.le_of_succ_le_succ hd) hn
    unfold px_run at hr ⊢
    split at hr
    · cases hr
    · next q hq =>
      try rw [hq]
      try dsimp only
      cases hb : Nat.ble (px_cat as) q.1 with
      | false => rw [hb] at hr; cases hr
      | true =>
        rw [hb] at hr
        exact px_fr_loop (hC j q hq) ih n n' 0 _ [] h v h' hn hi hr
end
