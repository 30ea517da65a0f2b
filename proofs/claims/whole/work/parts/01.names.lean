-- ===== PART A: goes FIRST, ahead of the names: the tables' words, and 'selects' of the private methods out of them =====
/-- a private method of a class that the tables say can be made, by its rows of tables_1 -/
def lw_okq (q : MethodName × Nat) : Prop := (q.1.cls ≠ "java/lang/invoke/MethodHandle" ∧ q.1.cls ≠ "java/lang/invoke/VarHandle") ∧ Cond.instantiable q.1.cls q.2 ∈ tables_1 ∧ Cond.privateMethod q.1 ∈ tables_1 ∧ Cond.instanceMethod q.1 ∈ tables_1
theorem lw_p0 : lw_okq (⟨"BlindSide$Field", "build", "(LBlindSide$Script;LBlindSide$Reckoner;)V"⟩, 12) := ⟨⟨by decide +kernel, by decide +kernel⟩, List.mem_of_getElem? (i := 184) (by decide +kernel), List.mem_of_getElem? (i := 421) (by decide +kernel), List.mem_of_getElem? (i := 422) (by decide +kernel)⟩
theorem lw_p1 : lw_okq (⟨"BlindSide$Reckoner", "putNothing", "()V"⟩, 2) := ⟨⟨by decide +kernel, by decide +kernel⟩, List.mem_of_getElem? (i := 169) (by decide +kernel), List.mem_of_getElem? (i := 431) (by decide +kernel), List.mem_of_getElem? (i := 432) (by decide +kernel)⟩
theorem lw_p2 : lw_okq (⟨"BlindSide$Reckoner", "putSquare", "(I)V"⟩, 2) := ⟨⟨by decide +kernel, by decide +kernel⟩, List.mem_of_getElem? (i := 169) (by decide +kernel), List.mem_of_getElem? (i := 435) (by decide +kernel), List.mem_of_getElem? (i := 436) (by decide +kernel)⟩
theorem lw_p3 : lw_okq (⟨"BlindSide$Script", "firstSum", "(ILBlindSide$Reckoner;I)I"⟩, 7) := ⟨⟨by decide +kernel, by decide +kernel⟩, List.mem_of_getElem? (i := 327) (by decide +kernel), List.mem_of_getElem? (i := 439) (by decide +kernel), List.mem_of_getElem? (i := 440) (by decide +kernel)⟩
theorem lw_p4 : lw_okq (⟨"BlindSide$Reckoner", "reckon", "([III)I"⟩, 2) := ⟨⟨by decide +kernel, by decide +kernel⟩, List.mem_of_getElem? (i := 169) (by decide +kernel), List.mem_of_getElem? (i := 443) (by decide +kernel), List.mem_of_getElem? (i := 444) (by decide +kernel)⟩
theorem lw_p5 : lw_okq (⟨"BlindSide$Field", "partPieces", "()V"⟩, 12) := ⟨⟨by decide +kernel, by decide +kernel⟩, List.mem_of_getElem? (i := 184) (by decide +kernel), List.mem_of_getElem? (i := 473) (by decide +kernel), List.mem_of_getElem? (i := 474) (by decide +kernel)⟩
theorem lw_p6 : lw_okq (⟨"BlindSide$Field", "gather", "(I)V"⟩, 12) := ⟨⟨by decide +kernel, by decide +kernel⟩, List.mem_of_getElem? (i := 184) (by decide +kernel), List.mem_of_getElem? (i := 477) (by decide +kernel), List.mem_of_getElem? (i := 478) (by decide +kernel)⟩
theorem lw_p7 : lw_okq (⟨"BlindSide$Field", "await", "(I)V"⟩, 12) := ⟨⟨by decide +kernel, by decide +kernel⟩, List.mem_of_getElem? (i := 184) (by decide +kernel), List.mem_of_getElem? (i := 481) (by decide +kernel), List.mem_of_getElem? (i := 482) (by decide +kernel)⟩
theorem lw_p8 : lw_okq (⟨"BlindSide$Tape", "addNumber", "(I)V"⟩, 2) := ⟨⟨by decide +kernel, by decide +kernel⟩, List.mem_of_getElem? (i := 29) (by decide +kernel), List.mem_of_getElem? (i := 544) (by decide +kernel), List.mem_of_getElem? (i := 545) (by decide +kernel)⟩
theorem lw_p9 : lw_okq (⟨"BlindSide$Reader", "takes", "(ILBlindSide$Script;LBlindSide$Script;)Z"⟩, 11) := ⟨⟨by decide +kernel, by decide +kernel⟩, List.mem_of_getElem? (i := 45) (by decide +kernel), List.mem_of_getElem? (i := 556) (by decide +kernel), List.mem_of_getElem? (i := 557) (by decide +kernel)⟩
theorem lw_p10 : lw_okq (⟨"BlindSide$Script", "empty", "()V"⟩, 7) := ⟨⟨by decide +kernel, by decide +kernel⟩, List.mem_of_getElem? (i := 327) (by decide +kernel), List.mem_of_getElem? (i := 560) (by decide +kernel), List.mem_of_getElem? (i := 561) (by decide +kernel)⟩
theorem lw_p11 : lw_okq (⟨"BlindSide$Lexer", "partTape", "()V"⟩, 6) := ⟨⟨by decide +kernel, by decide +kernel⟩, List.mem_of_getElem? (i := 51) (by decide +kernel), List.mem_of_getElem? (i := 564) (by decide +kernel), List.mem_of_getElem? (i := 565) (by decide +kernel)⟩
theorem lw_p12 : lw_okq (⟨"BlindSide$Tape", "at", "(I)I"⟩, 2) := ⟨⟨by decide +kernel, by decide +kernel⟩, List.mem_of_getElem? (i := 29) (by decide +kernel), List.mem_of_getElem? (i := 568) (by decide +kernel), List.mem_of_getElem? (i := 569) (by decide +kernel)⟩
theorem lw_p13 : lw_okq (⟨"BlindSide$Lexer", "addWord", "(I)I"⟩, 6) := ⟨⟨by decide +kernel, by decide +kernel⟩, List.mem_of_getElem? (i := 51) (by decide +kernel), List.mem_of_getElem? (i := 575) (by decide +kernel), List.mem_of_getElem? (i := 576) (by decide +kernel)⟩
theorem lw_p14 : lw_okq (⟨"BlindSide$Lexer", "isGlued", "(I)Z"⟩, 6) := ⟨⟨by decide +kernel, by decide +kernel⟩, List.mem_of_getElem? (i := 51) (by decide +kernel), List.mem_of_getElem? (i := 579) (by decide +kernel), List.mem_of_getElem? (i := 580) (by decide +kernel)⟩
theorem lw_p15 : lw_okq (⟨"BlindSide$Lexer", "add", "(III)V"⟩, 6) := ⟨⟨by decide +kernel, by decide +kernel⟩, List.mem_of_getElem? (i := 51) (by decide +kernel), List.mem_of_getElem? (i := 586) (by decide +kernel), List.mem_of_getElem? (i := 587) (by decide +kernel)⟩
def lw_privs_1 : List (MethodName × Nat) := [(⟨"BlindSide$Field", "build", "(LBlindSide$Script;LBlindSide$Reckoner;)V"⟩, 12), (⟨"BlindSide$Reckoner", "putNothing", "()V"⟩, 2), (⟨"BlindSide$Reckoner", "putSquare", "(I)V"⟩, 2), (⟨"BlindSide$Script", "firstSum", "(ILBlindSide$Reckoner;I)I"⟩, 7), (⟨"BlindSide$Reckoner", "reckon", "([III)I"⟩, 2), (⟨"BlindSide$Field", "partPieces", "()V"⟩, 12), (⟨"BlindSide$Field", "gather", "(I)V"⟩, 12), (⟨"BlindSide$Field", "await", "(I)V"⟩, 12), (⟨"BlindSide$Tape", "addNumber", "(I)V"⟩, 2), (⟨"BlindSide$Reader", "takes", "(ILBlindSide$Script;LBlindSide$Script;)Z"⟩, 11), (⟨"BlindSide$Script", "empty", "()V"⟩, 7), (⟨"BlindSide$Lexer", "partTape", "()V"⟩, 6), (⟨"BlindSide$Tape", "at", "(I)I"⟩, 2), (⟨"BlindSide$Lexer", "addWord", "(I)I"⟩, 6), (⟨"BlindSide$Lexer", "isGlued", "(I)Z"⟩, 6), (⟨"BlindSide$Lexer", "add", "(III)V"⟩, 6)]
theorem lw_r1 : ∀ q ∈ lw_privs_1, lw_okq q := List.forall_mem_cons.mpr ⟨lw_p0, List.forall_mem_cons.mpr ⟨lw_p1, List.forall_mem_cons.mpr ⟨lw_p2, List.forall_mem_cons.mpr ⟨lw_p3, List.forall_mem_cons.mpr ⟨lw_p4, List.forall_mem_cons.mpr ⟨lw_p5, List.forall_mem_cons.mpr ⟨lw_p6, List.forall_mem_cons.mpr ⟨lw_p7, List.forall_mem_cons.mpr ⟨lw_p8, List.forall_mem_cons.mpr ⟨lw_p9, List.forall_mem_cons.mpr ⟨lw_p10, List.forall_mem_cons.mpr ⟨lw_p11, List.forall_mem_cons.mpr ⟨lw_p12, List.forall_mem_cons.mpr ⟨lw_p13, List.forall_mem_cons.mpr ⟨lw_p14, List.forall_mem_cons.mpr ⟨lw_p15, fun _ h => absurd h List.not_mem_nil⟩⟩⟩⟩⟩⟩⟩⟩⟩⟩⟩⟩⟩⟩⟩⟩
theorem lw_p16 : lw_okq (⟨"BlindSide$Lexer", "ownWordOf", "(I)I"⟩, 6) := ⟨⟨by decide +kernel, by decide +kernel⟩, List.mem_of_getElem? (i := 51) (by decide +kernel), List.mem_of_getElem? (i := 590) (by decide +kernel), List.mem_of_getElem? (i := 591) (by decide +kernel)⟩
theorem lw_p17 : lw_okq (⟨"BlindSide$Lexer", "addNumber", "(I)I"⟩, 6) := ⟨⟨by decide +kernel, by decide +kernel⟩, List.mem_of_getElem? (i := 51) (by decide +kernel), List.mem_of_getElem? (i := 594) (by decide +kernel), List.mem_of_getElem? (i := 595) (by decide +kernel)⟩
theorem lw_p18 : lw_okq (⟨"BlindSide$Reader", "step", "()V"⟩, 11) := ⟨⟨by decide +kernel, by decide +kernel⟩, List.mem_of_getElem? (i := 45) (by decide +kernel), List.mem_of_getElem? (i := 602) (by decide +kernel), List.mem_of_getElem? (i := 603) (by decide +kernel)⟩
theorem lw_p19 : lw_okq (⟨"BlindSide$Reader", "readStatements", "(I)Z"⟩, 11) := ⟨⟨by decide +kernel, by decide +kernel⟩, List.mem_of_getElem? (i := 45) (by decide +kernel), List.mem_of_getElem? (i := 606) (by decide +kernel), List.mem_of_getElem? (i := 607) (by decide +kernel)⟩
theorem lw_p20 : lw_okq (⟨"BlindSide$Reader", "isSign", "(C)Z"⟩, 11) := ⟨⟨by decide +kernel, by decide +kernel⟩, List.mem_of_getElem? (i := 45) (by decide +kernel), List.mem_of_getElem? (i := 610) (by decide +kernel), List.mem_of_getElem? (i := 611) (by decide +kernel)⟩
theorem lw_p21 : lw_okq (⟨"BlindSide$Reader", "refused", "(II)Z"⟩, 11) := ⟨⟨by decide +kernel, by decide +kernel⟩, List.mem_of_getElem? (i := 45) (by decide +kernel), List.mem_of_getElem? (i := 614) (by decide +kernel), List.mem_of_getElem? (i := 615) (by decide +kernel)⟩
theorem lw_p22 : lw_okq (⟨"BlindSide$Reader", "isStatementWord", "()Z"⟩, 11) := ⟨⟨by decide +kernel, by decide +kernel⟩, List.mem_of_getElem? (i := 45) (by decide +kernel), List.mem_of_getElem? (i := 618) (by decide +kernel), List.mem_of_getElem? (i := 619) (by decide +kernel)⟩
theorem lw_p23 : lw_okq (⟨"BlindSide$Reader", "readStatement", "(I)Z"⟩, 11) := ⟨⟨by decide +kernel, by decide +kernel⟩, List.mem_of_getElem? (i := 45) (by decide +kernel), List.mem_of_getElem? (i := 622) (by decide +kernel), List.mem_of_getElem? (i := 623) (by decide +kernel)⟩
theorem lw_p24 : lw_okq (⟨"BlindSide$Script", "begun", "(I)LBlindSide$Statement;"⟩, 7) := ⟨⟨by decide +kernel, by decide +kernel⟩, List.mem_of_getElem? (i := 327) (by decide +kernel), List.mem_of_getElem? (i := 626) (by decide +kernel), List.mem_of_getElem? (i := 627) (by decide +kernel)⟩
theorem lw_p25 : lw_okq (⟨"BlindSide$Reader", "readSquare", "(LBlindSide$Statement;)Z"⟩, 11) := ⟨⟨by decide +kernel, by decide +kernel⟩, List.mem_of_getElem? (i := 45) (by decide +kernel), List.mem_of_getElem? (i := 631) (by decide +kernel), List.mem_of_getElem? (i := 632) (by decide +kernel)⟩
theorem lw_p26 : lw_okq (⟨"BlindSide$Reader", "takenNumber", "(II)I"⟩, 11) := ⟨⟨by decide +kernel, by decide +kernel⟩, List.mem_of_getElem? (i := 45) (by decide +kernel), List.mem_of_getElem? (i := 635) (by decide +kernel), List.mem_of_getElem? (i := 636) (by decide +kernel)⟩
theorem lw_p27 : lw_okq (⟨"BlindSide$Reader", "readNewName", "()Z"⟩, 11) := ⟨⟨by decide +kernel, by decide +kernel⟩, List.mem_of_getElem? (i := 45) (by decide +kernel), List.mem_of_getElem? (i := 639) (by decide +kernel), List.mem_of_getElem? (i := 640) (by decide +kernel)⟩
theorem lw_p28 : lw_okq (⟨"BlindSide$Reader", "readName", "()Z"⟩, 11) := ⟨⟨by decide +kernel, by decide +kernel⟩, List.mem_of_getElem? (i := 45) (by decide +kernel), List.mem_of_getElem? (i := 643) (by decide +kernel), List.mem_of_getElem? (i := 644) (by decide +kernel)⟩
theorem lw_p29 : lw_okq (⟨"BlindSide$Script", "whichIs", "(I)I"⟩, 7) := ⟨⟨by decide +kernel, by decide +kernel⟩, List.mem_of_getElem? (i := 327) (by decide +kernel), List.mem_of_getElem? (i := 647) (by decide +kernel), List.mem_of_getElem? (i := 648) (by decide +kernel)⟩
theorem lw_p30 : lw_okq (⟨"BlindSide$Script", "putName", "(I)V"⟩, 7) := ⟨⟨by decide +kernel, by decide +kernel⟩, List.mem_of_getElem? (i := 327) (by decide +kernel), List.mem_of_getElem? (i := 651) (by decide +kernel), List.mem_of_getElem? (i := 652) (by decide +kernel)⟩
theorem lw_p31 : lw_okq (⟨"BlindSide$Reader", "readNumber", "(LBlindSide$Statement;II)Z"⟩, 11) := ⟨⟨by decide +kernel, by decide +kernel⟩, List.mem_of_getElem? (i := 45) (by decide +kernel), List.mem_of_getElem? (i := 655) (by decide +kernel), List.mem_of_getElem? (i := 656) (by decide +kernel)⟩
def lw_privs_2 : List (MethodName × Nat) := [(⟨"BlindSide$Lexer", "ownWordOf", "(I)I"⟩, 6), (⟨"BlindSide$Lexer", "addNumber", "(I)I"⟩, 6), (⟨"BlindSide$Reader", "step", "()V"⟩, 11), (⟨"BlindSide$Reader", "readStatements", "(I)Z"⟩, 11), (⟨"BlindSide$Reader", "isSign", "(C)Z"⟩, 11), (⟨"BlindSide$Reader", "refused", "(II)Z"⟩, 11), (⟨"BlindSide$Reader", "isStatementWord", "()Z"⟩, 11), (⟨"BlindSide$Reader", "readStatement", "(I)Z"⟩, 11), (⟨"BlindSide$Script", "begun", "(I)LBlindSide$Statement;"⟩, 7), (⟨"BlindSide$Reader", "readSquare", "(LBlindSide$Statement;)Z"⟩, 11), (⟨"BlindSide$Reader", "takenNumber", "(II)I"⟩, 11), (⟨"BlindSide$Reader", "readNewName", "()Z"⟩, 11), (⟨"BlindSide$Reader", "readName", "()Z"⟩, 11), (⟨"BlindSide$Script", "whichIs", "(I)I"⟩, 7), (⟨"BlindSide$Script", "putName", "(I)V"⟩, 7), (⟨"BlindSide$Reader", "readNumber", "(LBlindSide$Statement;II)Z"⟩, 11)]
theorem lw_r2 : ∀ q ∈ lw_privs_2, lw_okq q := List.forall_mem_cons.mpr ⟨lw_p16, List.forall_mem_cons.mpr ⟨lw_p17, List.forall_mem_cons.mpr ⟨lw_p18, List.forall_mem_cons.mpr ⟨lw_p19, List.forall_mem_cons.mpr ⟨lw_p20, List.forall_mem_cons.mpr ⟨lw_p21, List.forall_mem_cons.mpr ⟨lw_p22, List.forall_mem_cons.mpr ⟨lw_p23, List.forall_mem_cons.mpr ⟨lw_p24, List.forall_mem_cons.mpr ⟨lw_p25, List.forall_mem_cons.mpr ⟨lw_p26, List.forall_mem_cons.mpr ⟨lw_p27, List.forall_mem_cons.mpr ⟨lw_p28, List.forall_mem_cons.mpr ⟨lw_p29, List.forall_mem_cons.mpr ⟨lw_p30, List.forall_mem_cons.mpr ⟨lw_p31, fun _ h => absurd h List.not_mem_nil⟩⟩⟩⟩⟩⟩⟩⟩⟩⟩⟩⟩⟩⟩⟩⟩
theorem lw_p32 : lw_okq (⟨"BlindSide$Reader", "readKnows", "(LBlindSide$Statement;)Z"⟩, 11) := ⟨⟨by decide +kernel, by decide +kernel⟩, List.mem_of_getElem? (i := 45) (by decide +kernel), List.mem_of_getElem? (i := 659) (by decide +kernel), List.mem_of_getElem? (i := 660) (by decide +kernel)⟩
theorem lw_p33 : lw_okq (⟨"BlindSide$Reader", "readRule", "(LBlindSide$Statement;)Z"⟩, 11) := ⟨⟨by decide +kernel, by decide +kernel⟩, List.mem_of_getElem? (i := 45) (by decide +kernel), List.mem_of_getElem? (i := 663) (by decide +kernel), List.mem_of_getElem? (i := 664) (by decide +kernel)⟩
theorem lw_p34 : lw_okq (⟨"BlindSide$Reader", "readSum", "(I)Z"⟩, 11) := ⟨⟨by decide +kernel, by decide +kernel⟩, List.mem_of_getElem? (i := 45) (by decide +kernel), List.mem_of_getElem? (i := 667) (by decide +kernel), List.mem_of_getElem? (i := 668) (by decide +kernel)⟩
theorem lw_p35 : lw_okq (⟨"BlindSide$Reader", "readProduct", "(I)Z"⟩, 11) := ⟨⟨by decide +kernel, by decide +kernel⟩, List.mem_of_getElem? (i := 45) (by decide +kernel), List.mem_of_getElem? (i := 671) (by decide +kernel), List.mem_of_getElem? (i := 672) (by decide +kernel)⟩
theorem lw_p36 : lw_okq (⟨"BlindSide$Reader", "readPart", "(I)Z"⟩, 11) := ⟨⟨by decide +kernel, by decide +kernel⟩, List.mem_of_getElem? (i := 45) (by decide +kernel), List.mem_of_getElem? (i := 675) (by decide +kernel), List.mem_of_getElem? (i := 676) (by decide +kernel)⟩
theorem lw_p37 : lw_okq (⟨"BlindSide$Reader", "readBracket", "(II)Z"⟩, 11) := ⟨⟨by decide +kernel, by decide +kernel⟩, List.mem_of_getElem? (i := 45) (by decide +kernel), List.mem_of_getElem? (i := 679) (by decide +kernel), List.mem_of_getElem? (i := 680) (by decide +kernel)⟩
theorem lw_p38 : lw_okq (⟨"BlindSide$Reader", "readSign", "(C)Z"⟩, 11) := ⟨⟨by decide +kernel, by decide +kernel⟩, List.mem_of_getElem? (i := 45) (by decide +kernel), List.mem_of_getElem? (i := 683) (by decide +kernel), List.mem_of_getElem? (i := 684) (by decide +kernel)⟩
theorem lw_p39 : lw_okq (⟨"BlindSide$Script", "emit", "(I)V"⟩, 7) := ⟨⟨by decide +kernel, by decide +kernel⟩, List.mem_of_getElem? (i := 327) (by decide +kernel), List.mem_of_getElem? (i := 687) (by decide +kernel), List.mem_of_getElem? (i := 688) (by decide +kernel)⟩
theorem lw_p40 : lw_okq (⟨"BlindSide$Reader", "readTest", "(I)Z"⟩, 11) := ⟨⟨by decide +kernel, by decide +kernel⟩, List.mem_of_getElem? (i := 45) (by decide +kernel), List.mem_of_getElem? (i := 692) (by decide +kernel), List.mem_of_getElem? (i := 693) (by decide +kernel)⟩
theorem lw_p41 : lw_okq (⟨"BlindSide$Reader", "readBoth", "(I)Z"⟩, 11) := ⟨⟨by decide +kernel, by decide +kernel⟩, List.mem_of_getElem? (i := 45) (by decide +kernel), List.mem_of_getElem? (i := 696) (by decide +kernel), List.mem_of_getElem? (i := 697) (by decide +kernel)⟩
theorem lw_p42 : lw_okq (⟨"BlindSide$Reader", "readFact", "(I)Z"⟩, 11) := ⟨⟨by decide +kernel, by decide +kernel⟩, List.mem_of_getElem? (i := 45) (by decide +kernel), List.mem_of_getElem? (i := 700) (by decide +kernel), List.mem_of_getElem? (i := 701) (by decide +kernel)⟩
theorem lw_p43 : lw_okq (⟨"BlindSide$Reader", "readShow", "(LBlindSide$Statement;I)Z"⟩, 11) := ⟨⟨by decide +kernel, by decide +kernel⟩, List.mem_of_getElem? (i := 45) (by decide +kernel), List.mem_of_getElem? (i := 704) (by decide +kernel), List.mem_of_getElem? (i := 705) (by decide +kernel)⟩
theorem lw_p44 : lw_okq (⟨"BlindSide$Reader", "readTimes", "(LBlindSide$Statement;I)Z"⟩, 11) := ⟨⟨by decide +kernel, by decide +kernel⟩, List.mem_of_getElem? (i := 45) (by decide +kernel), List.mem_of_getElem? (i := 708) (by decide +kernel), List.mem_of_getElem? (i := 709) (by decide +kernel)⟩
theorem lw_p45 : lw_okq (⟨"BlindSide", "listShows", "(III)V"⟩, 18) := ⟨⟨by decide +kernel, by decide +kernel⟩, List.mem_of_getElem? (i := 21) (by decide +kernel), List.mem_of_getElem? (i := 720) (by decide +kernel), List.mem_of_getElem? (i := 721) (by decide +kernel)⟩
theorem lw_p46 : lw_okq (⟨"BlindSide$Script", "showsWithin", "(I)Z"⟩, 7) := ⟨⟨by decide +kernel, by decide +kernel⟩, List.mem_of_getElem? (i := 327) (by decide +kernel), List.mem_of_getElem? (i := 724) (by decide +kernel), List.mem_of_getElem? (i := 725) (by decide +kernel)⟩
theorem lw_p47 : lw_okq (⟨"BlindSide", "listAgain", "(II)V"⟩, 18) := ⟨⟨by decide +kernel, by decide +kernel⟩, List.mem_of_getElem? (i := 21) (by decide +kernel), List.mem_of_getElem? (i := 728) (by decide +kernel), List.mem_of_getElem? (i := 729) (by decide +kernel)⟩
def lw_privs_3 : List (MethodName × Nat) := [(⟨"BlindSide$Reader", "readKnows", "(LBlindSide$Statement;)Z"⟩, 11), (⟨"BlindSide$Reader", "readRule", "(LBlindSide$Statement;)Z"⟩, 11), (⟨"BlindSide$Reader", "readSum", "(I)Z"⟩, 11), (⟨"BlindSide$Reader", "readProduct", "(I)Z"⟩, 11), (⟨"BlindSide$Reader", "readPart", "(I)Z"⟩, 11), (⟨"BlindSide$Reader", "readBracket", "(II)Z"⟩, 11), (⟨"BlindSide$Reader", "readSign", "(C)Z"⟩, 11), (⟨"BlindSide$Script", "emit", "(I)V"⟩, 7), (⟨"BlindSide$Reader", "readTest", "(I)Z"⟩, 11), (⟨"BlindSide$Reader", "readBoth", "(I)Z"⟩, 11), (⟨"BlindSide$Reader", "readFact", "(I)Z"⟩, 11), (⟨"BlindSide$Reader", "readShow", "(LBlindSide$Statement;I)Z"⟩, 11), (⟨"BlindSide$Reader", "readTimes", "(LBlindSide$Statement;I)Z"⟩, 11), (⟨"BlindSide", "listShows", "(III)V"⟩, 18), (⟨"BlindSide$Script", "showsWithin", "(I)Z"⟩, 7), (⟨"BlindSide", "listAgain", "(II)V"⟩, 18)]
theorem lw_r3 : ∀ q ∈ lw_privs_3, lw_okq q := List.forall_mem_cons.mpr ⟨lw_p32, List.forall_mem_cons.mpr ⟨lw_p33, List.forall_mem_cons.mpr ⟨lw_p34, List.forall_mem_cons.mpr ⟨lw_p35, List.forall_mem_cons.mpr ⟨lw_p36, List.forall_mem_cons.mpr ⟨lw_p37, List.forall_mem_cons.mpr ⟨lw_p38, List.forall_mem_cons.mpr ⟨lw_p39, List.forall_mem_cons.mpr ⟨lw_p40, List.forall_mem_cons.mpr ⟨lw_p41, List.forall_mem_cons.mpr ⟨lw_p42, List.forall_mem_cons.mpr ⟨lw_p43, List.forall_mem_cons.mpr ⟨lw_p44, List.forall_mem_cons.mpr ⟨lw_p45, List.forall_mem_cons.mpr ⟨lw_p46, List.forall_mem_cons.mpr ⟨lw_p47, fun _ h => absurd h List.not_mem_nil⟩⟩⟩⟩⟩⟩⟩⟩⟩⟩⟩⟩⟩⟩⟩⟩
theorem lw_p48 : lw_okq (⟨"BlindSide$Script", "showsInAll", "()I"⟩, 7) := ⟨⟨by decide +kernel, by decide +kernel⟩, List.mem_of_getElem? (i := 327) (by decide +kernel), List.mem_of_getElem? (i := 733) (by decide +kernel), List.mem_of_getElem? (i := 734) (by decide +kernel)⟩
theorem lw_p49 : lw_okq (⟨"BlindSide$Script", "timesOf", "(I)I"⟩, 7) := ⟨⟨by decide +kernel, by decide +kernel⟩, List.mem_of_getElem? (i := 327) (by decide +kernel), List.mem_of_getElem? (i := 737) (by decide +kernel), List.mem_of_getElem? (i := 738) (by decide +kernel)⟩
theorem lw_p50 : lw_okq (⟨"BlindSide", "lawsThatStand", "()I"⟩, 18) := ⟨⟨by decide +kernel, by decide +kernel⟩, List.mem_of_getElem? (i := 21) (by decide +kernel), List.mem_of_getElem? (i := 750) (by decide +kernel), List.mem_of_getElem? (i := 751) (by decide +kernel)⟩
theorem lw_p51 : lw_okq (⟨"BlindSide", "waysOf", "(I)I"⟩, 18) := ⟨⟨by decide +kernel, by decide +kernel⟩, List.mem_of_getElem? (i := 21) (by decide +kernel), List.mem_of_getElem? (i := 754) (by decide +kernel), List.mem_of_getElem? (i := 755) (by decide +kernel)⟩
theorem lw_p52 : lw_okq (⟨"BlindSide", "lawAt", "(I)LBlindSide$Script;"⟩, 18) := ⟨⟨by decide +kernel, by decide +kernel⟩, List.mem_of_getElem? (i := 21) (by decide +kernel), List.mem_of_getElem? (i := 758) (by decide +kernel), List.mem_of_getElem? (i := 759) (by decide +kernel)⟩
theorem lw_p53 : lw_okq (⟨"BlindSide$Script", "namedAt", "(I)LBlindSide$Statement;"⟩, 7) := ⟨⟨by decide +kernel, by decide +kernel⟩, List.mem_of_getElem? (i := 327) (by decide +kernel), List.mem_of_getElem? (i := 766) (by decide +kernel), List.mem_of_getElem? (i := 767) (by decide +kernel)⟩
theorem lw_p54 : lw_okq (⟨"BlindSide$Field", "isIsland", "(I)Z"⟩, 12) := ⟨⟨by decide +kernel, by decide +kernel⟩, List.mem_of_getElem? (i := 184) (by decide +kernel), List.mem_of_getElem? (i := 789) (by decide +kernel), List.mem_of_getElem? (i := 790) (by decide +kernel)⟩
theorem lw_p55 : lw_okq (⟨"BlindSide$Field", "lightAt", "(II)I"⟩, 12) := ⟨⟨by decide +kernel, by decide +kernel⟩, List.mem_of_getElem? (i := 184) (by decide +kernel), List.mem_of_getElem? (i := 800) (by decide +kernel), List.mem_of_getElem? (i := 801) (by decide +kernel)⟩
theorem lw_p56 : lw_okq (⟨"BlindSide$Field", "lookForLight", "(I)V"⟩, 12) := ⟨⟨by decide +kernel, by decide +kernel⟩, List.mem_of_getElem? (i := 184) (by decide +kernel), List.mem_of_getElem? (i := 804) (by decide +kernel), List.mem_of_getElem? (i := 805) (by decide +kernel)⟩
theorem lw_p57 : lw_okq (⟨"BlindSide", "showsTold", "(IIII)Z"⟩, 18) := ⟨⟨by decide +kernel, by decide +kernel⟩, List.mem_of_getElem? (i := 21) (by decide +kernel), List.mem_of_getElem? (i := 813) (by decide +kernel), List.mem_of_getElem? (i := 814) (by decide +kernel)⟩
theorem lw_p58 : lw_okq (⟨"BlindSide", "canShow", "(IIII)Z"⟩, 18) := ⟨⟨by decide +kernel, by decide +kernel⟩, List.mem_of_getElem? (i := 21) (by decide +kernel), List.mem_of_getElem? (i := 817) (by decide +kernel), List.mem_of_getElem? (i := 818) (by decide +kernel)⟩
theorem lw_p59 : lw_okq (⟨"BlindSide", "putShowing", "(III)V"⟩, 18) := ⟨⟨by decide +kernel, by decide +kernel⟩, List.mem_of_getElem? (i := 21) (by decide +kernel), List.mem_of_getElem? (i := 821) (by decide +kernel), List.mem_of_getElem? (i := 822) (by decide +kernel)⟩
theorem lw_p60 : lw_okq (⟨"BlindSide$Script", "carriedMost", "(LBlindSide$Reckoner;Z)I"⟩, 7) := ⟨⟨by decide +kernel, by decide +kernel⟩, List.mem_of_getElem? (i := 327) (by decide +kernel), List.mem_of_getElem? (i := 826) (by decide +kernel), List.mem_of_getElem? (i := 827) (by decide +kernel)⟩
theorem lw_p61 : lw_okq (⟨"BlindSide$Script", "carriedBy", "(LBlindSide$Statement;LBlindSide$Reckoner;)I"⟩, 7) := ⟨⟨by decide +kernel, by decide +kernel⟩, List.mem_of_getElem? (i := 327) (by decide +kernel), List.mem_of_getElem? (i := 830) (by decide +kernel), List.mem_of_getElem? (i := 831) (by decide +kernel)⟩
theorem lw_p62 : lw_okq (⟨"BlindSide$Script", "lineBy", "(LBlindSide$Reckoner;)I"⟩, 7) := ⟨⟨by decide +kernel, by decide +kernel⟩, List.mem_of_getElem? (i := 327) (by decide +kernel), List.mem_of_getElem? (i := 836) (by decide +kernel), List.mem_of_getElem? (i := 837) (by decide +kernel)⟩
theorem lw_p63 : lw_okq (⟨"BlindSide$Script", "saysBy", "(LBlindSide$Reckoner;)Z"⟩, 7) := ⟨⟨by decide +kernel, by decide +kernel⟩, List.mem_of_getElem? (i := 327) (by decide +kernel), List.mem_of_getElem? (i := 846) (by decide +kernel), List.mem_of_getElem? (i := 847) (by decide +kernel)⟩
def lw_privs_4 : List (MethodName × Nat) := [(⟨"BlindSide$Script", "showsInAll", "()I"⟩, 7), (⟨"BlindSide$Script", "timesOf", "(I)I"⟩, 7), (⟨"BlindSide", "lawsThatStand", "()I"⟩, 18), (⟨"BlindSide", "waysOf", "(I)I"⟩, 18), (⟨"BlindSide", "lawAt", "(I)LBlindSide$Script;"⟩, 18), (⟨"BlindSide$Script", "namedAt", "(I)LBlindSide$Statement;"⟩, 7), (⟨"BlindSide$Field", "isIsland", "(I)Z"⟩, 12), (⟨"BlindSide$Field", "lightAt", "(II)I"⟩, 12), (⟨"BlindSide$Field", "lookForLight", "(I)V"⟩, 12), (⟨"BlindSide", "showsTold", "(IIII)Z"⟩, 18), (⟨"BlindSide", "canShow", "(IIII)Z"⟩, 18), (⟨"BlindSide", "putShowing", "(III)V"⟩, 18), (⟨"BlindSide$Script", "carriedMost", "(LBlindSide$Reckoner;Z)I"⟩, 7), (⟨"BlindSide$Script", "carriedBy", "(LBlindSide$Statement;LBlindSide$Reckoner;)I"⟩, 7), (⟨"BlindSide$Script", "lineBy", "(LBlindSide$Reckoner;)I"⟩, 7), (⟨"BlindSide$Script", "saysBy", "(LBlindSide$Reckoner;)Z"⟩, 7)]
theorem lw_r4 : ∀ q ∈ lw_privs_4, lw_okq q := List.forall_mem_cons.mpr ⟨lw_p48, List.forall_mem_cons.mpr ⟨lw_p49, List.forall_mem_cons.mpr ⟨lw_p50, List.forall_mem_cons.mpr ⟨lw_p51, List.forall_mem_cons.mpr ⟨lw_p52, List.forall_mem_cons.mpr ⟨lw_p53, List.forall_mem_cons.mpr ⟨lw_p54, List.forall_mem_cons.mpr ⟨lw_p55, List.forall_mem_cons.mpr ⟨lw_p56, List.forall_mem_cons.mpr ⟨lw_p57, List.forall_mem_cons.mpr ⟨lw_p58, List.forall_mem_cons.mpr ⟨lw_p59, List.forall_mem_cons.mpr ⟨lw_p60, List.forall_mem_cons.mpr ⟨lw_p61, List.forall_mem_cons.mpr ⟨lw_p62, List.forall_mem_cons.mpr ⟨lw_p63, fun _ h => absurd h List.not_mem_nil⟩⟩⟩⟩⟩⟩⟩⟩⟩⟩⟩⟩⟩⟩⟩⟩
theorem lw_p64 : lw_okq (⟨"BlindSide", "nearestBright", "(LBlindSide$Script;III)I"⟩, 18) := ⟨⟨by decide +kernel, by decide +kernel⟩, List.mem_of_getElem? (i := 21) (by decide +kernel), List.mem_of_getElem? (i := 856) (by decide +kernel), List.mem_of_getElem? (i := 857) (by decide +kernel)⟩
theorem lw_p65 : lw_okq (⟨"BlindSide", "sortsOf", "(I)I"⟩, 18) := ⟨⟨by decide +kernel, by decide +kernel⟩, List.mem_of_getElem? (i := 21) (by decide +kernel), List.mem_of_getElem? (i := 868) (by decide +kernel), List.mem_of_getElem? (i := 869) (by decide +kernel)⟩
theorem lw_p66 : lw_okq (⟨"BlindSide", "isSort", "(II)Z"⟩, 18) := ⟨⟨by decide +kernel, by decide +kernel⟩, List.mem_of_getElem? (i := 21) (by decide +kernel), List.mem_of_getElem? (i := 882) (by decide +kernel), List.mem_of_getElem? (i := 883) (by decide +kernel)⟩
theorem lw_p67 : lw_okq (⟨"BlindSide$Dice", "guess", "(III)I"⟩, 1) := ⟨⟨by decide +kernel, by decide +kernel⟩, List.mem_of_getElem? (i := 315) (by decide +kernel), List.mem_of_getElem? (i := 886) (by decide +kernel), List.mem_of_getElem? (i := 887) (by decide +kernel)⟩
theorem lw_p68 : lw_okq (⟨"BlindSide$Dice", "roll", "(I)I"⟩, 1) := ⟨⟨by decide +kernel, by decide +kernel⟩, List.mem_of_getElem? (i := 315) (by decide +kernel), List.mem_of_getElem? (i := 890) (by decide +kernel), List.mem_of_getElem? (i := 891) (by decide +kernel)⟩
theorem lw_p69 : lw_okq (⟨"BlindSide$Book", "nextFree", "()LBlindSide$Trial;"⟩, 2) := ⟨⟨by decide +kernel, by decide +kernel⟩, List.mem_of_getElem? (i := 234) (by decide +kernel), List.mem_of_getElem? (i := 903) (by decide +kernel), List.mem_of_getElem? (i := 904) (by decide +kernel)⟩
theorem lw_p70 : lw_okq (⟨"BlindSide$Trial", "putShowing", "(IIII)V"⟩, 9) := ⟨⟨by decide +kernel, by decide +kernel⟩, List.mem_of_getElem? (i := 241) (by decide +kernel), List.mem_of_getElem? (i := 907) (by decide +kernel), List.mem_of_getElem? (i := 908) (by decide +kernel)⟩
theorem lw_p71 : lw_okq (⟨"BlindSide$Trial", "putAnswer", "(IZI)V"⟩, 9) := ⟨⟨by decide +kernel, by decide +kernel⟩, List.mem_of_getElem? (i := 241) (by decide +kernel), List.mem_of_getElem? (i := 911) (by decide +kernel), List.mem_of_getElem? (i := 912) (by decide +kernel)⟩
theorem lw_p72 : lw_okq (⟨"BlindSide", "runShow", "(LBlindSide$Script;LBlindSide$Statement;I)V"⟩, 18) := ⟨⟨by decide +kernel, by decide +kernel⟩, List.mem_of_getElem? (i := 21) (by decide +kernel), List.mem_of_getElem? (i := 919) (by decide +kernel), List.mem_of_getElem? (i := 920) (by decide +kernel)⟩
theorem lw_p73 : lw_okq (⟨"BlindSide", "brightOf", "(LBlindSide$Statement;II)I"⟩, 18) := ⟨⟨by decide +kernel, by decide +kernel⟩, List.mem_of_getElem? (i := 21) (by decide +kernel), List.mem_of_getElem? (i := 924) (by decide +kernel), List.mem_of_getElem? (i := 925) (by decide +kernel)⟩
theorem lw_p74 : lw_okq (⟨"BlindSide$Book", "trialAt", "(I)LBlindSide$Trial;"⟩, 2) := ⟨⟨by decide +kernel, by decide +kernel⟩, List.mem_of_getElem? (i := 234) (by decide +kernel), List.mem_of_getElem? (i := 934) (by decide +kernel), List.mem_of_getElem? (i := 935) (by decide +kernel)⟩
theorem lw_p75 : lw_okq (⟨"BlindSide$Trial", "isRight", "()Z"⟩, 9) := ⟨⟨by decide +kernel, by decide +kernel⟩, List.mem_of_getElem? (i := 241) (by decide +kernel), List.mem_of_getElem? (i := 955) (by decide +kernel), List.mem_of_getElem? (i := 956) (by decide +kernel)⟩
theorem lw_p76 : lw_okq (⟨"BlindSide", "isThingOrAll", "(I)Z"⟩, 18) := ⟨⟨by decide +kernel, by decide +kernel⟩, List.mem_of_getElem? (i := 21) (by decide +kernel), List.mem_of_getElem? (i := 963) (by decide +kernel), List.mem_of_getElem? (i := 964) (by decide +kernel)⟩
theorem lw_p77 : lw_okq (⟨"BlindSide$Trial", "isOf", "(I)Z"⟩, 9) := ⟨⟨by decide +kernel, by decide +kernel⟩, List.mem_of_getElem? (i := 241) (by decide +kernel), List.mem_of_getElem? (i := 967) (by decide +kernel), List.mem_of_getElem? (i := 968) (by decide +kernel)⟩
theorem lw_p78 : lw_okq (⟨"BlindSide", "isWhere", "(LBlindSide$Trial;I)Z"⟩, 18) := ⟨⟨by decide +kernel, by decide +kernel⟩, List.mem_of_getElem? (i := 21) (by decide +kernel), List.mem_of_getElem? (i := 971) (by decide +kernel), List.mem_of_getElem? (i := 972) (by decide +kernel)⟩
theorem lw_p79 : lw_okq (⟨"BlindSide$Field", "isGone", "(I)Z"⟩, 12) := ⟨⟨by decide +kernel, by decide +kernel⟩, List.mem_of_getElem? (i := 184) (by decide +kernel), List.mem_of_getElem? (i := 975) (by decide +kernel), List.mem_of_getElem? (i := 976) (by decide +kernel)⟩
def lw_privs_5 : List (MethodName × Nat) := [(⟨"BlindSide", "nearestBright", "(LBlindSide$Script;III)I"⟩, 18), (⟨"BlindSide", "sortsOf", "(I)I"⟩, 18), (⟨"BlindSide", "isSort", "(II)Z"⟩, 18), (⟨"BlindSide$Dice", "guess", "(III)I"⟩, 1), (⟨"BlindSide$Dice", "roll", "(I)I"⟩, 1), (⟨"BlindSide$Book", "nextFree", "()LBlindSide$Trial;"⟩, 2), (⟨"BlindSide$Trial", "putShowing", "(IIII)V"⟩, 9), (⟨"BlindSide$Trial", "putAnswer", "(IZI)V"⟩, 9), (⟨"BlindSide", "runShow", "(LBlindSide$Script;LBlindSide$Statement;I)V"⟩, 18), (⟨"BlindSide", "brightOf", "(LBlindSide$Statement;II)I"⟩, 18), (⟨"BlindSide$Book", "trialAt", "(I)LBlindSide$Trial;"⟩, 2), (⟨"BlindSide$Trial", "isRight", "()Z"⟩, 9), (⟨"BlindSide", "isThingOrAll", "(I)Z"⟩, 18), (⟨"BlindSide$Trial", "isOf", "(I)Z"⟩, 9), (⟨"BlindSide", "isWhere", "(LBlindSide$Trial;I)Z"⟩, 18), (⟨"BlindSide$Field", "isGone", "(I)Z"⟩, 12)]
theorem lw_r5 : ∀ q ∈ lw_privs_5, lw_okq q := List.forall_mem_cons.mpr ⟨lw_p64, List.forall_mem_cons.mpr ⟨lw_p65, List.forall_mem_cons.mpr ⟨lw_p66, List.forall_mem_cons.mpr ⟨lw_p67, List.forall_mem_cons.mpr ⟨lw_p68, List.forall_mem_cons.mpr ⟨lw_p69, List.forall_mem_cons.mpr ⟨lw_p70, List.forall_mem_cons.mpr ⟨lw_p71, List.forall_mem_cons.mpr ⟨lw_p72, List.forall_mem_cons.mpr ⟨lw_p73, List.forall_mem_cons.mpr ⟨lw_p74, List.forall_mem_cons.mpr ⟨lw_p75, List.forall_mem_cons.mpr ⟨lw_p76, List.forall_mem_cons.mpr ⟨lw_p77, List.forall_mem_cons.mpr ⟨lw_p78, List.forall_mem_cons.mpr ⟨lw_p79, fun _ h => absurd h List.not_mem_nil⟩⟩⟩⟩⟩⟩⟩⟩⟩⟩⟩⟩⟩⟩⟩⟩
theorem lw_p80 : lw_okq (⟨"BlindSide$Trial", "isLed", "()Z"⟩, 9) := ⟨⟨by decide +kernel, by decide +kernel⟩, List.mem_of_getElem? (i := 241) (by decide +kernel), List.mem_of_getElem? (i := 979) (by decide +kernel), List.mem_of_getElem? (i := 980) (by decide +kernel)⟩
theorem lw_p81 : lw_okq (⟨"BlindSide", "chanceOf", "(IZ)J"⟩, 18) := ⟨⟨by decide +kernel, by decide +kernel⟩, List.mem_of_getElem? (i := 21) (by decide +kernel), List.mem_of_getElem? (i := 987) (by decide +kernel), List.mem_of_getElem? (i := 988) (by decide +kernel)⟩
theorem lw_p82 : lw_okq (⟨"BlindSide", "spreadChances", "(II)V"⟩, 18) := ⟨⟨by decide +kernel, by decide +kernel⟩, List.mem_of_getElem? (i := 21) (by decide +kernel), List.mem_of_getElem? (i := 992) (by decide +kernel), List.mem_of_getElem? (i := 993) (by decide +kernel)⟩
theorem lw_p83 : lw_okq (⟨"BlindSide", "kindOf", "(LBlindSide$Script;LBlindSide$Trial;)I"⟩, 18) := ⟨⟨by decide +kernel, by decide +kernel⟩, List.mem_of_getElem? (i := 21) (by decide +kernel), List.mem_of_getElem? (i := 1010) (by decide +kernel), List.mem_of_getElem? (i := 1011) (by decide +kernel)⟩
theorem lw_p84 : lw_okq (⟨"BlindSide", "isScattered", "(LBlindSide$Trial;)Z"⟩, 18) := ⟨⟨by decide +kernel, by decide +kernel⟩, List.mem_of_getElem? (i := 21) (by decide +kernel), List.mem_of_getElem? (i := 1014) (by decide +kernel), List.mem_of_getElem? (i := 1015) (by decide +kernel)⟩
theorem lw_p85 : lw_okq (⟨"BlindSide", "putTrial", "(LBlindSide$Trial;)V"⟩, 18) := ⟨⟨by decide +kernel, by decide +kernel⟩, List.mem_of_getElem? (i := 21) (by decide +kernel), List.mem_of_getElem? (i := 1018) (by decide +kernel), List.mem_of_getElem? (i := 1019) (by decide +kernel)⟩
theorem lw_p86 : lw_okq (⟨"BlindSide", "weightOf", "(LBlindSide$Script;)J"⟩, 18) := ⟨⟨by decide +kernel, by decide +kernel⟩, List.mem_of_getElem? (i := 21) (by decide +kernel), List.mem_of_getElem? (i := 1030) (by decide +kernel), List.mem_of_getElem? (i := 1031) (by decide +kernel)⟩
theorem lw_p87 : lw_okq (⟨"BlindSide", "oddsOfGuess", "(LBlindSide$Script;LBlindSide$Trial;)I"⟩, 18) := ⟨⟨by decide +kernel, by decide +kernel⟩, List.mem_of_getElem? (i := 21) (by decide +kernel), List.mem_of_getElem? (i := 1034) (by decide +kernel), List.mem_of_getElem? (i := 1035) (by decide +kernel)⟩
theorem lw_p88 : lw_okq (⟨"BlindSide", "listHelpers", "(LBlindSide$Script;)I"⟩, 18) := ⟨⟨by decide +kernel, by decide +kernel⟩, List.mem_of_getElem? (i := 21) (by decide +kernel), List.mem_of_getElem? (i := 1068) (by decide +kernel), List.mem_of_getElem? (i := 1069) (by decide +kernel)⟩
theorem lw_p89 : lw_okq (⟨"BlindSide$Script", "carriersBy", "(LBlindSide$Reckoner;)I"⟩, 7) := ⟨⟨by decide +kernel, by decide +kernel⟩, List.mem_of_getElem? (i := 327) (by decide +kernel), List.mem_of_getElem? (i := 1072) (by decide +kernel), List.mem_of_getElem? (i := 1073) (by decide +kernel)⟩
theorem lw_p90 : lw_okq (⟨"BlindSide", "explains", "(II)Z"⟩, 18) := ⟨⟨by decide +kernel, by decide +kernel⟩, List.mem_of_getElem? (i := 21) (by decide +kernel), List.mem_of_getElem? (i := 1082) (by decide +kernel), List.mem_of_getElem? (i := 1083) (by decide +kernel)⟩
theorem lw_p91 : lw_okq (⟨"BlindSide", "partedBy", "(LBlindSide$Script;LBlindSide$Script;I)I"⟩, 18) := ⟨⟨by decide +kernel, by decide +kernel⟩, List.mem_of_getElem? (i := 21) (by decide +kernel), List.mem_of_getElem? (i := 1090) (by decide +kernel), List.mem_of_getElem? (i := 1091) (by decide +kernel)⟩
theorem lw_p92 : lw_okq (⟨"BlindSide$Corridor", "putChair", "(IZ)Z"⟩, 4) := ⟨⟨by decide +kernel, by decide +kernel⟩, List.mem_of_getElem? (i := 293) (by decide +kernel), List.mem_of_getElem? (i := 1102) (by decide +kernel), List.mem_of_getElem? (i := 1103) (by decide +kernel)⟩
theorem lw_p93 : lw_okq (⟨"BlindSide$Corridor", "passed", "(IZ)J"⟩, 4) := ⟨⟨by decide +kernel, by decide +kernel⟩, List.mem_of_getElem? (i := 293) (by decide +kernel), List.mem_of_getElem? (i := 1110) (by decide +kernel), List.mem_of_getElem? (i := 1111) (by decide +kernel)⟩
theorem lw_p94 : lw_okq (⟨"BlindSide$Corridor", "stepTo", "(IZ)V"⟩, 4) := ⟨⟨by decide +kernel, by decide +kernel⟩, List.mem_of_getElem? (i := 293) (by decide +kernel), List.mem_of_getElem? (i := 1115) (by decide +kernel), List.mem_of_getElem? (i := 1116) (by decide +kernel)⟩
theorem lw_p95 : lw_okq (⟨"BlindSide$Corridor", "cameFrom", "(IZ)J"⟩, 4) := ⟨⟨by decide +kernel, by decide +kernel⟩, List.mem_of_getElem? (i := 293) (by decide +kernel), List.mem_of_getElem? (i := 1119) (by decide +kernel), List.mem_of_getElem? (i := 1120) (by decide +kernel)⟩
def lw_privs_6 : List (MethodName × Nat) := [(⟨"BlindSide$Trial", "isLed", "()Z"⟩, 9), (⟨"BlindSide", "chanceOf", "(IZ)J"⟩, 18), (⟨"BlindSide", "spreadChances", "(II)V"⟩, 18), (⟨"BlindSide", "kindOf", "(LBlindSide$Script;LBlindSide$Trial;)I"⟩, 18), (⟨"BlindSide", "isScattered", "(LBlindSide$Trial;)Z"⟩, 18), (⟨"BlindSide", "putTrial", "(LBlindSide$Trial;)V"⟩, 18), (⟨"BlindSide", "weightOf", "(LBlindSide$Script;)J"⟩, 18), (⟨"BlindSide", "oddsOfGuess", "(LBlindSide$Script;LBlindSide$Trial;)I"⟩, 18), (⟨"BlindSide", "listHelpers", "(LBlindSide$Script;)I"⟩, 18), (⟨"BlindSide$Script", "carriersBy", "(LBlindSide$Reckoner;)I"⟩, 7), (⟨"BlindSide", "explains", "(II)Z"⟩, 18), (⟨"BlindSide", "partedBy", "(LBlindSide$Script;LBlindSide$Script;I)I"⟩, 18), (⟨"BlindSide$Corridor", "putChair", "(IZ)Z"⟩, 4), (⟨"BlindSide$Corridor", "passed", "(IZ)J"⟩, 4), (⟨"BlindSide$Corridor", "stepTo", "(IZ)V"⟩, 4), (⟨"BlindSide$Corridor", "cameFrom", "(IZ)J"⟩, 4)]
theorem lw_r6 : ∀ q ∈ lw_privs_6, lw_okq q := List.forall_mem_cons.mpr ⟨lw_p80, List.forall_mem_cons.mpr ⟨lw_p81, List.forall_mem_cons.mpr ⟨lw_p82, List.forall_mem_cons.mpr ⟨lw_p83, List.forall_mem_cons.mpr ⟨lw_p84, List.forall_mem_cons.mpr ⟨lw_p85, List.forall_mem_cons.mpr ⟨lw_p86, List.forall_mem_cons.mpr ⟨lw_p87, List.forall_mem_cons.mpr ⟨lw_p88, List.forall_mem_cons.mpr ⟨lw_p89, List.forall_mem_cons.mpr ⟨lw_p90, List.forall_mem_cons.mpr ⟨lw_p91, List.forall_mem_cons.mpr ⟨lw_p92, List.forall_mem_cons.mpr ⟨lw_p93, List.forall_mem_cons.mpr ⟨lw_p94, List.forall_mem_cons.mpr ⟨lw_p95, fun _ h => absurd h List.not_mem_nil⟩⟩⟩⟩⟩⟩⟩⟩⟩⟩⟩⟩⟩⟩⟩⟩
theorem lw_p96 : lw_okq (⟨"BlindSide", "putOctet", "(I)V"⟩, 18) := ⟨⟨by decide +kernel, by decide +kernel⟩, List.mem_of_getElem? (i := 21) (by decide +kernel), List.mem_of_getElem? (i := 1135) (by decide +kernel), List.mem_of_getElem? (i := 1136) (by decide +kernel)⟩
theorem lw_p97 : lw_okq (⟨"BlindSide$Trial", "byteAt", "(I)I"⟩, 9) := ⟨⟨by decide +kernel, by decide +kernel⟩, List.mem_of_getElem? (i := 241) (by decide +kernel), List.mem_of_getElem? (i := 1139) (by decide +kernel), List.mem_of_getElem? (i := 1140) (by decide +kernel)⟩
theorem lw_p98 : lw_okq (⟨"BlindSide", "isImage", "()Z"⟩, 18) := ⟨⟨by decide +kernel, by decide +kernel⟩, List.mem_of_getElem? (i := 21) (by decide +kernel), List.mem_of_getElem? (i := 1154) (by decide +kernel), List.mem_of_getElem? (i := 1155) (by decide +kernel)⟩
theorem lw_p99 : lw_okq (⟨"BlindSide", "isTrial", "(I)Z"⟩, 18) := ⟨⟨by decide +kernel, by decide +kernel⟩, List.mem_of_getElem? (i := 21) (by decide +kernel), List.mem_of_getElem? (i := 1162) (by decide +kernel), List.mem_of_getElem? (i := 1163) (by decide +kernel)⟩
theorem lw_p100 : lw_okq (⟨"BlindSide$Trial", "take", "(LBlindSide$Tape;I)V"⟩, 9) := ⟨⟨by decide +kernel, by decide +kernel⟩, List.mem_of_getElem? (i := 241) (by decide +kernel), List.mem_of_getElem? (i := 1166) (by decide +kernel), List.mem_of_getElem? (i := 1167) (by decide +kernel)⟩
theorem lw_p101 : lw_okq (⟨"BlindSideModel", "begins", "()V"⟩, 96) := ⟨⟨by decide +kernel, by decide +kernel⟩, List.mem_of_getElem? (i := 1173) (by decide +kernel), List.mem_of_getElem? (i := 1481) (by decide +kernel), List.mem_of_getElem? (i := 1482) (by decide +kernel)⟩
theorem lw_p102 : lw_okq (⟨"BlindSideModel", "look", "()I"⟩, 96) := ⟨⟨by decide +kernel, by decide +kernel⟩, List.mem_of_getElem? (i := 1173) (by decide +kernel), List.mem_of_getElem? (i := 1485) (by decide +kernel), List.mem_of_getElem? (i := 1486) (by decide +kernel)⟩
theorem lw_p103 : lw_okq (⟨"BlindSideModel", "planned", "()V"⟩, 96) := ⟨⟨by decide +kernel, by decide +kernel⟩, List.mem_of_getElem? (i := 1173) (by decide +kernel), List.mem_of_getElem? (i := 1489) (by decide +kernel), List.mem_of_getElem? (i := 1490) (by decide +kernel)⟩
theorem lw_p104 : lw_okq (⟨"BlindSideModel", "step", "(I)V"⟩, 96) := ⟨⟨by decide +kernel, by decide +kernel⟩, List.mem_of_getElem? (i := 1173) (by decide +kernel), List.mem_of_getElem? (i := 1493) (by decide +kernel), List.mem_of_getElem? (i := 1494) (by decide +kernel)⟩
theorem lw_p105 : lw_okq (⟨"BlindSideModel", "asksSign", "(I)V"⟩, 96) := ⟨⟨by decide +kernel, by decide +kernel⟩, List.mem_of_getElem? (i := 1173) (by decide +kernel), List.mem_of_getElem? (i := 1497) (by decide +kernel), List.mem_of_getElem? (i := 1498) (by decide +kernel)⟩
theorem lw_p106 : lw_okq (⟨"BlindSideModel", "takesSign", "(I)Z"⟩, 96) := ⟨⟨by decide +kernel, by decide +kernel⟩, List.mem_of_getElem? (i := 1173) (by decide +kernel), List.mem_of_getElem? (i := 1501) (by decide +kernel), List.mem_of_getElem? (i := 1502) (by decide +kernel)⟩
theorem lw_p107 : lw_okq (⟨"BlindSideModel", "fail", "(II)V"⟩, 96) := ⟨⟨by decide +kernel, by decide +kernel⟩, List.mem_of_getElem? (i := 1173) (by decide +kernel), List.mem_of_getElem? (i := 1505) (by decide +kernel), List.mem_of_getElem? (i := 1506) (by decide +kernel)⟩
theorem lw_p108 : lw_okq (⟨"BlindSideModel", "takes", "([C)Z"⟩, 96) := ⟨⟨by decide +kernel, by decide +kernel⟩, List.mem_of_getElem? (i := 1173) (by decide +kernel), List.mem_of_getElem? (i := 1509) (by decide +kernel), List.mem_of_getElem? (i := 1510) (by decide +kernel)⟩
theorem lw_p109 : lw_okq (⟨"BlindSideModel", "isHere", "([C)Z"⟩, 96) := ⟨⟨by decide +kernel, by decide +kernel⟩, List.mem_of_getElem? (i := 1173) (by decide +kernel), List.mem_of_getElem? (i := 1513) (by decide +kernel), List.mem_of_getElem? (i := 1514) (by decide +kernel)⟩
theorem lw_p110 : lw_okq (⟨"BlindSideModel", "showTold", "()V"⟩, 96) := ⟨⟨by decide +kernel, by decide +kernel⟩, List.mem_of_getElem? (i := 1173) (by decide +kernel), List.mem_of_getElem? (i := 1520) (by decide +kernel), List.mem_of_getElem? (i := 1521) (by decide +kernel)⟩
theorem lw_p111 : lw_okq (⟨"BlindSideModel", "name", "()J"⟩, 96) := ⟨⟨by decide +kernel, by decide +kernel⟩, List.mem_of_getElem? (i := 1173) (by decide +kernel), List.mem_of_getElem? (i := 1524) (by decide +kernel), List.mem_of_getElem? (i := 1525) (by decide +kernel)⟩
def lw_privs_7 : List (MethodName × Nat) := [(⟨"BlindSide", "putOctet", "(I)V"⟩, 18), (⟨"BlindSide$Trial", "byteAt", "(I)I"⟩, 9), (⟨"BlindSide", "isImage", "()Z"⟩, 18), (⟨"BlindSide", "isTrial", "(I)Z"⟩, 18), (⟨"BlindSide$Trial", "take", "(LBlindSide$Tape;I)V"⟩, 9), (⟨"BlindSideModel", "begins", "()V"⟩, 96), (⟨"BlindSideModel", "look", "()I"⟩, 96), (⟨"BlindSideModel", "planned", "()V"⟩, 96), (⟨"BlindSideModel", "step", "(I)V"⟩, 96), (⟨"BlindSideModel", "asksSign", "(I)V"⟩, 96), (⟨"BlindSideModel", "takesSign", "(I)Z"⟩, 96), (⟨"BlindSideModel", "fail", "(II)V"⟩, 96), (⟨"BlindSideModel", "takes", "([C)Z"⟩, 96), (⟨"BlindSideModel", "isHere", "([C)Z"⟩, 96), (⟨"BlindSideModel", "showTold", "()V"⟩, 96), (⟨"BlindSideModel", "name", "()J"⟩, 96)]
theorem lw_r7 : ∀ q ∈ lw_privs_7, lw_okq q := List.forall_mem_cons.mpr ⟨lw_p96, List.forall_mem_cons.mpr ⟨lw_p97, List.forall_mem_cons.mpr ⟨lw_p98, List.forall_mem_cons.mpr ⟨lw_p99, List.forall_mem_cons.mpr ⟨lw_p100, List.forall_mem_cons.mpr ⟨lw_p101, List.forall_mem_cons.mpr ⟨lw_p102, List.forall_mem_cons.mpr ⟨lw_p103, List.forall_mem_cons.mpr ⟨lw_p104, List.forall_mem_cons.mpr ⟨lw_p105, List.forall_mem_cons.mpr ⟨lw_p106, List.forall_mem_cons.mpr ⟨lw_p107, List.forall_mem_cons.mpr ⟨lw_p108, List.forall_mem_cons.mpr ⟨lw_p109, List.forall_mem_cons.mpr ⟨lw_p110, List.forall_mem_cons.mpr ⟨lw_p111, fun _ h => absurd h List.not_mem_nil⟩⟩⟩⟩⟩⟩⟩⟩⟩⟩⟩⟩⟩⟩⟩⟩
theorem lw_p112 : lw_okq (⟨"BlindSideModel", "isOwnHere", "()Z"⟩, 96) := ⟨⟨by decide +kernel, by decide +kernel⟩, List.mem_of_getElem? (i := 1173) (by decide +kernel), List.mem_of_getElem? (i := 1528) (by decide +kernel), List.mem_of_getElem? (i := 1529) (by decide +kernel)⟩
theorem lw_p113 : lw_okq (⟨"BlindSideModel", "number", "(II)I"⟩, 96) := ⟨⟨by decide +kernel, by decide +kernel⟩, List.mem_of_getElem? (i := 1173) (by decide +kernel), List.mem_of_getElem? (i := 1534) (by decide +kernel), List.mem_of_getElem? (i := 1535) (by decide +kernel)⟩
theorem lw_p114 : lw_okq (⟨"BlindSideModel", "readsSum", "()V"⟩, 96) := ⟨⟨by decide +kernel, by decide +kernel⟩, List.mem_of_getElem? (i := 1173) (by decide +kernel), List.mem_of_getElem? (i := 1544) (by decide +kernel), List.mem_of_getElem? (i := 1545) (by decide +kernel)⟩
theorem lw_p115 : lw_okq (⟨"BlindSideModel", "sums", "()V"⟩, 96) := ⟨⟨by decide +kernel, by decide +kernel⟩, List.mem_of_getElem? (i := 1173) (by decide +kernel), List.mem_of_getElem? (i := 1548) (by decide +kernel), List.mem_of_getElem? (i := 1549) (by decide +kernel)⟩
theorem lw_p116 : lw_okq (⟨"BlindSideModel", "onePart", "()V"⟩, 96) := ⟨⟨by decide +kernel, by decide +kernel⟩, List.mem_of_getElem? (i := 1173) (by decide +kernel), List.mem_of_getElem? (i := 1552) (by decide +kernel), List.mem_of_getElem? (i := 1553) (by decide +kernel)⟩
theorem lw_p117 : lw_okq (⟨"BlindSideModel", "opens", "(II)V"⟩, 96) := ⟨⟨by decide +kernel, by decide +kernel⟩, List.mem_of_getElem? (i := 1173) (by decide +kernel), List.mem_of_getElem? (i := 1556) (by decide +kernel), List.mem_of_getElem? (i := 1557) (by decide +kernel)⟩
theorem lw_p118 : lw_okq (⟨"BlindSideModel", "asks", "([C)V"⟩, 96) := ⟨⟨by decide +kernel, by decide +kernel⟩, List.mem_of_getElem? (i := 1173) (by decide +kernel), List.mem_of_getElem? (i := 1560) (by decide +kernel), List.mem_of_getElem? (i := 1561) (by decide +kernel)⟩
theorem lw_p119 : lw_okq (⟨"BlindSideModel", "code", "(I)V"⟩, 96) := ⟨⟨by decide +kernel, by decide +kernel⟩, List.mem_of_getElem? (i := 1173) (by decide +kernel), List.mem_of_getElem? (i := 1564) (by decide +kernel), List.mem_of_getElem? (i := 1565) (by decide +kernel)⟩
theorem lw_p120 : lw_okq (⟨"BlindSideModel", "goesOn", "()Z"⟩, 96) := ⟨⟨by decide +kernel, by decide +kernel⟩, List.mem_of_getElem? (i := 1173) (by decide +kernel), List.mem_of_getElem? (i := 1568) (by decide +kernel), List.mem_of_getElem? (i := 1569) (by decide +kernel)⟩
theorem lw_p121 : lw_okq (⟨"BlindSideModel", "mark", "()I"⟩, 96) := ⟨⟨by decide +kernel, by decide +kernel⟩, List.mem_of_getElem? (i := 1173) (by decide +kernel), List.mem_of_getElem? (i := 1572) (by decide +kernel), List.mem_of_getElem? (i := 1573) (by decide +kernel)⟩
theorem lw_p122 : lw_okq (⟨"BlindSideModel", "isMark", "(I)Z"⟩, 96) := ⟨⟨by decide +kernel, by decide +kernel⟩, List.mem_of_getElem? (i := 1173) (by decide +kernel), List.mem_of_getElem? (i := 1576) (by decide +kernel), List.mem_of_getElem? (i := 1577) (by decide +kernel)⟩
theorem lw_p123 : lw_okq (⟨"BlindSideModel", "dropsToMark", "()V"⟩, 96) := ⟨⟨by decide +kernel, by decide +kernel⟩, List.mem_of_getElem? (i := 1173) (by decide +kernel), List.mem_of_getElem? (i := 1580) (by decide +kernel), List.mem_of_getElem? (i := 1581) (by decide +kernel)⟩
theorem lw_p124 : lw_okq (⟨"BlindSideModel", "drops", "()V"⟩, 96) := ⟨⟨by decide +kernel, by decide +kernel⟩, List.mem_of_getElem? (i := 1173) (by decide +kernel), List.mem_of_getElem? (i := 1584) (by decide +kernel), List.mem_of_getElem? (i := 1585) (by decide +kernel)⟩
theorem lw_p125 : lw_okq (⟨"BlindSideModel", "isOn", "(I)Z"⟩, 96) := ⟨⟨by decide +kernel, by decide +kernel⟩, List.mem_of_getElem? (i := 1173) (by decide +kernel), List.mem_of_getElem? (i := 1588) (by decide +kernel), List.mem_of_getElem? (i := 1589) (by decide +kernel)⟩
theorem lw_p126 : lw_okq (⟨"BlindSideModel", "timesTold", "()V"⟩, 96) := ⟨⟨by decide +kernel, by decide +kernel⟩, List.mem_of_getElem? (i := 1173) (by decide +kernel), List.mem_of_getElem? (i := 1592) (by decide +kernel), List.mem_of_getElem? (i := 1593) (by decide +kernel)⟩
theorem lw_p127 : lw_okq (⟨"BlindSideModel", "isLaw", "(I)Z"⟩, 96) := ⟨⟨by decide +kernel, by decide +kernel⟩, List.mem_of_getElem? (i := 1173) (by decide +kernel), List.mem_of_getElem? (i := 1600) (by decide +kernel), List.mem_of_getElem? (i := 1601) (by decide +kernel)⟩
def lw_privs_8 : List (MethodName × Nat) := [(⟨"BlindSideModel", "isOwnHere", "()Z"⟩, 96), (⟨"BlindSideModel", "number", "(II)I"⟩, 96), (⟨"BlindSideModel", "readsSum", "()V"⟩, 96), (⟨"BlindSideModel", "sums", "()V"⟩, 96), (⟨"BlindSideModel", "onePart", "()V"⟩, 96), (⟨"BlindSideModel", "opens", "(II)V"⟩, 96), (⟨"BlindSideModel", "asks", "([C)V"⟩, 96), (⟨"BlindSideModel", "code", "(I)V"⟩, 96), (⟨"BlindSideModel", "goesOn", "()Z"⟩, 96), (⟨"BlindSideModel", "mark", "()I"⟩, 96), (⟨"BlindSideModel", "isMark", "(I)Z"⟩, 96), (⟨"BlindSideModel", "dropsToMark", "()V"⟩, 96), (⟨"BlindSideModel", "drops", "()V"⟩, 96), (⟨"BlindSideModel", "isOn", "(I)Z"⟩, 96), (⟨"BlindSideModel", "timesTold", "()V"⟩, 96), (⟨"BlindSideModel", "isLaw", "(I)Z"⟩, 96)]
theorem lw_r8 : ∀ q ∈ lw_privs_8, lw_okq q := List.forall_mem_cons.mpr ⟨lw_p112, List.forall_mem_cons.mpr ⟨lw_p113, List.forall_mem_cons.mpr ⟨lw_p114, List.forall_mem_cons.mpr ⟨lw_p115, List.forall_mem_cons.mpr ⟨lw_p116, List.forall_mem_cons.mpr ⟨lw_p117, List.forall_mem_cons.mpr ⟨lw_p118, List.forall_mem_cons.mpr ⟨lw_p119, List.forall_mem_cons.mpr ⟨lw_p120, List.forall_mem_cons.mpr ⟨lw_p121, List.forall_mem_cons.mpr ⟨lw_p122, List.forall_mem_cons.mpr ⟨lw_p123, List.forall_mem_cons.mpr ⟨lw_p124, List.forall_mem_cons.mpr ⟨lw_p125, List.forall_mem_cons.mpr ⟨lw_p126, List.forall_mem_cons.mpr ⟨lw_p127, fun _ h => absurd h List.not_mem_nil⟩⟩⟩⟩⟩⟩⟩⟩⟩⟩⟩⟩⟩⟩⟩⟩
theorem lw_p128 : lw_okq (⟨"BlindSideModel", "showings", "()I"⟩, 96) := ⟨⟨by decide +kernel, by decide +kernel⟩, List.mem_of_getElem? (i := 1173) (by decide +kernel), List.mem_of_getElem? (i := 1605) (by decide +kernel), List.mem_of_getElem? (i := 1606) (by decide +kernel)⟩
theorem lw_p129 : lw_okq (⟨"BlindSideModel", "runShowing", "(III)V"⟩, 96) := ⟨⟨by decide +kernel, by decide +kernel⟩, List.mem_of_getElem? (i := 1173) (by decide +kernel), List.mem_of_getElem? (i := 1613) (by decide +kernel), List.mem_of_getElem? (i := 1614) (by decide +kernel)⟩
theorem lw_p130 : lw_okq (⟨"BlindSideModel", "tells", "(II)J"⟩, 96) := ⟨⟨by decide +kernel, by decide +kernel⟩, List.mem_of_getElem? (i := 1173) (by decide +kernel), List.mem_of_getElem? (i := 1617) (by decide +kernel), List.mem_of_getElem? (i := 1618) (by decide +kernel)⟩
theorem lw_p131 : lw_okq (⟨"BlindSideModel", "puts", "(J)V"⟩, 96) := ⟨⟨by decide +kernel, by decide +kernel⟩, List.mem_of_getElem? (i := 1173) (by decide +kernel), List.mem_of_getElem? (i := 1621) (by decide +kernel), List.mem_of_getElem? (i := 1622) (by decide +kernel)⟩
theorem lw_p132 : lw_okq (⟨"BlindSideModel", "joins", "(I)V"⟩, 96) := ⟨⟨by decide +kernel, by decide +kernel⟩, List.mem_of_getElem? (i := 1173) (by decide +kernel), List.mem_of_getElem? (i := 1625) (by decide +kernel), List.mem_of_getElem? (i := 1626) (by decide +kernel)⟩
theorem lw_p133 : lw_okq (⟨"BlindSideModel", "shows", "(III)V"⟩, 96) := ⟨⟨by decide +kernel, by decide +kernel⟩, List.mem_of_getElem? (i := 1173) (by decide +kernel), List.mem_of_getElem? (i := 1637) (by decide +kernel), List.mem_of_getElem? (i := 1638) (by decide +kernel)⟩
theorem lw_p134 : lw_okq (⟨"BlindSideModel", "lightAt", "(II)I"⟩, 96) := ⟨⟨by decide +kernel, by decide +kernel⟩, List.mem_of_getElem? (i := 1173) (by decide +kernel), List.mem_of_getElem? (i := 1641) (by decide +kernel), List.mem_of_getElem? (i := 1642) (by decide +kernel)⟩
theorem lw_p135 : lw_okq (⟨"BlindSideModel", "carried", "(IZ)I"⟩, 96) := ⟨⟨by decide +kernel, by decide +kernel⟩, List.mem_of_getElem? (i := 1173) (by decide +kernel), List.mem_of_getElem? (i := 1645) (by decide +kernel), List.mem_of_getElem? (i := 1646) (by decide +kernel)⟩
theorem lw_p136 : lw_okq (⟨"BlindSideModel", "carriedBy", "(II)I"⟩, 96) := ⟨⟨by decide +kernel, by decide +kernel⟩, List.mem_of_getElem? (i := 1173) (by decide +kernel), List.mem_of_getElem? (i := 1649) (by decide +kernel), List.mem_of_getElem? (i := 1650) (by decide +kernel)⟩
theorem lw_p137 : lw_okq (⟨"BlindSideModel", "isSaid", "(I)Z"⟩, 96) := ⟨⟨by decide +kernel, by decide +kernel⟩, List.mem_of_getElem? (i := 1173) (by decide +kernel), List.mem_of_getElem? (i := 1654) (by decide +kernel), List.mem_of_getElem? (i := 1655) (by decide +kernel)⟩
theorem lw_p138 : lw_okq (⟨"BlindSideModel", "lineOf", "(I)I"⟩, 96) := ⟨⟨by decide +kernel, by decide +kernel⟩, List.mem_of_getElem? (i := 1173) (by decide +kernel), List.mem_of_getElem? (i := 1658) (by decide +kernel), List.mem_of_getElem? (i := 1659) (by decide +kernel)⟩
theorem lw_p139 : lw_okq (⟨"BlindSideModel", "ruled", "(III)I"⟩, 96) := ⟨⟨by decide +kernel, by decide +kernel⟩, List.mem_of_getElem? (i := 1173) (by decide +kernel), List.mem_of_getElem? (i := 1662) (by decide +kernel), List.mem_of_getElem? (i := 1663) (by decide +kernel)⟩
theorem lw_p140 : lw_okq (⟨"BlindSideModel", "lays", "(IIIIIIZI)V"⟩, 96) := ⟨⟨by decide +kernel, by decide +kernel⟩, List.mem_of_getElem? (i := 1173) (by decide +kernel), List.mem_of_getElem? (i := 1673) (by decide +kernel), List.mem_of_getElem? (i := 1674) (by decide +kernel)⟩
theorem lw_p141 : lw_okq (⟨"BlindSideModel", "reads", "(I)Z"⟩, 96) := ⟨⟨by decide +kernel, by decide +kernel⟩, List.mem_of_getElem? (i := 1173) (by decide +kernel), List.mem_of_getElem? (i := 1681) (by decide +kernel), List.mem_of_getElem? (i := 1682) (by decide +kernel)⟩
theorem lw_p142 : lw_okq (⟨"BlindSideModel", "statement", "(Z)V"⟩, 96) := ⟨⟨by decide +kernel, by decide +kernel⟩, List.mem_of_getElem? (i := 1173) (by decide +kernel), List.mem_of_getElem? (i := 1685) (by decide +kernel), List.mem_of_getElem? (i := 1686) (by decide +kernel)⟩
theorem lw_p143 : lw_okq (⟨"BlindSideModel", "ruleTold", "()V"⟩, 96) := ⟨⟨by decide +kernel, by decide +kernel⟩, List.mem_of_getElem? (i := 1173) (by decide +kernel), List.mem_of_getElem? (i := 1689) (by decide +kernel), List.mem_of_getElem? (i := 1690) (by decide +kernel)⟩
def lw_privs_9 : List (MethodName × Nat) := [(⟨"BlindSideModel", "showings", "()I"⟩, 96), (⟨"BlindSideModel", "runShowing", "(III)V"⟩, 96), (⟨"BlindSideModel", "tells", "(II)J"⟩, 96), (⟨"BlindSideModel", "puts", "(J)V"⟩, 96), (⟨"BlindSideModel", "joins", "(I)V"⟩, 96), (⟨"BlindSideModel", "shows", "(III)V"⟩, 96), (⟨"BlindSideModel", "lightAt", "(II)I"⟩, 96), (⟨"BlindSideModel", "carried", "(IZ)I"⟩, 96), (⟨"BlindSideModel", "carriedBy", "(II)I"⟩, 96), (⟨"BlindSideModel", "isSaid", "(I)Z"⟩, 96), (⟨"BlindSideModel", "lineOf", "(I)I"⟩, 96), (⟨"BlindSideModel", "ruled", "(III)I"⟩, 96), (⟨"BlindSideModel", "lays", "(IIIIIIZI)V"⟩, 96), (⟨"BlindSideModel", "reads", "(I)Z"⟩, 96), (⟨"BlindSideModel", "statement", "(Z)V"⟩, 96), (⟨"BlindSideModel", "ruleTold", "()V"⟩, 96)]
theorem lw_r9 : ∀ q ∈ lw_privs_9, lw_okq q := List.forall_mem_cons.mpr ⟨lw_p128, List.forall_mem_cons.mpr ⟨lw_p129, List.forall_mem_cons.mpr ⟨lw_p130, List.forall_mem_cons.mpr ⟨lw_p131, List.forall_mem_cons.mpr ⟨lw_p132, List.forall_mem_cons.mpr ⟨lw_p133, List.forall_mem_cons.mpr ⟨lw_p134, List.forall_mem_cons.mpr ⟨lw_p135, List.forall_mem_cons.mpr ⟨lw_p136, List.forall_mem_cons.mpr ⟨lw_p137, List.forall_mem_cons.mpr ⟨lw_p138, List.forall_mem_cons.mpr ⟨lw_p139, List.forall_mem_cons.mpr ⟨lw_p140, List.forall_mem_cons.mpr ⟨lw_p141, List.forall_mem_cons.mpr ⟨lw_p142, List.forall_mem_cons.mpr ⟨lw_p143, fun _ h => absurd h List.not_mem_nil⟩⟩⟩⟩⟩⟩⟩⟩⟩⟩⟩⟩⟩⟩⟩⟩
theorem lw_p144 : lw_okq (⟨"BlindSideModel", "readsTest", "()V"⟩, 96) := ⟨⟨by decide +kernel, by decide +kernel⟩, List.mem_of_getElem? (i := 1173) (by decide +kernel), List.mem_of_getElem? (i := 1693) (by decide +kernel), List.mem_of_getElem? (i := 1694) (by decide +kernel)⟩
theorem lw_p145 : lw_okq (⟨"BlindSideModel", "test", "()V"⟩, 96) := ⟨⟨by decide +kernel, by decide +kernel⟩, List.mem_of_getElem? (i := 1173) (by decide +kernel), List.mem_of_getElem? (i := 1697) (by decide +kernel), List.mem_of_getElem? (i := 1698) (by decide +kernel)⟩
theorem lw_p146 : lw_okq (⟨"BlindSideModel", "fact", "()V"⟩, 96) := ⟨⟨by decide +kernel, by decide +kernel⟩, List.mem_of_getElem? (i := 1173) (by decide +kernel), List.mem_of_getElem? (i := 1701) (by decide +kernel), List.mem_of_getElem? (i := 1702) (by decide +kernel)⟩
theorem lw_p147 : lw_okq (⟨"BlindSideModel", "dropsNots", "()V"⟩, 96) := ⟨⟨by decide +kernel, by decide +kernel⟩, List.mem_of_getElem? (i := 1173) (by decide +kernel), List.mem_of_getElem? (i := 1705) (by decide +kernel), List.mem_of_getElem? (i := 1706) (by decide +kernel)⟩
theorem lw_p148 : lw_okq (⟨"BlindSideModel", "goesOnTest", "()Z"⟩, 96) := ⟨⟨by decide +kernel, by decide +kernel⟩, List.mem_of_getElem? (i := 1173) (by decide +kernel), List.mem_of_getElem? (i := 1709) (by decide +kernel), List.mem_of_getElem? (i := 1710) (by decide +kernel)⟩
theorem lw_p149 : lw_okq (⟨"BlindSideModel", "hasSquare", "()Z"⟩, 96) := ⟨⟨by decide +kernel, by decide +kernel⟩, List.mem_of_getElem? (i := 1173) (by decide +kernel), List.mem_of_getElem? (i := 1713) (by decide +kernel), List.mem_of_getElem? (i := 1714) (by decide +kernel)⟩
theorem lw_p150 : lw_okq (⟨"BlindSideModel", "wayTold", "(I)V"⟩, 96) := ⟨⟨by decide +kernel, by decide +kernel⟩, List.mem_of_getElem? (i := 1173) (by decide +kernel), List.mem_of_getElem? (i := 1717) (by decide +kernel), List.mem_of_getElem? (i := 1718) (by decide +kernel)⟩
theorem lw_p151 : lw_okq (⟨"BlindSideModel", "discTold", "()V"⟩, 96) := ⟨⟨by decide +kernel, by decide +kernel⟩, List.mem_of_getElem? (i := 1173) (by decide +kernel), List.mem_of_getElem? (i := 1721) (by decide +kernel), List.mem_of_getElem? (i := 1722) (by decide +kernel)⟩
theorem lw_p152 : lw_okq (⟨"BlindSideModel", "thingTold", "(I)V"⟩, 96) := ⟨⟨by decide +kernel, by decide +kernel⟩, List.mem_of_getElem? (i := 1173) (by decide +kernel), List.mem_of_getElem? (i := 1725) (by decide +kernel), List.mem_of_getElem? (i := 1726) (by decide +kernel)⟩
theorem lw_p153 : lw_okq (⟨"BlindSideModel", "stands", "(I)V"⟩, 96) := ⟨⟨by decide +kernel, by decide +kernel⟩, List.mem_of_getElem? (i := 1173) (by decide +kernel), List.mem_of_getElem? (i := 1729) (by decide +kernel), List.mem_of_getElem? (i := 1730) (by decide +kernel)⟩
theorem lw_p154 : lw_okq (⟨"BlindSideModel", "tellsSight", "()V"⟩, 96) := ⟨⟨by decide +kernel, by decide +kernel⟩, List.mem_of_getElem? (i := 1173) (by decide +kernel), List.mem_of_getElem? (i := 1733) (by decide +kernel), List.mem_of_getElem? (i := 1734) (by decide +kernel)⟩
theorem lw_p155 : lw_okq (⟨"BlindSideModel", "tellsPieces", "()V"⟩, 96) := ⟨⟨by decide +kernel, by decide +kernel⟩, List.mem_of_getElem? (i := 1173) (by decide +kernel), List.mem_of_getElem? (i := 1737) (by decide +kernel), List.mem_of_getElem? (i := 1738) (by decide +kernel)⟩
theorem lw_p156 : lw_okq (⟨"BlindSideModel", "spreads", "()Z"⟩, 96) := ⟨⟨by decide +kernel, by decide +kernel⟩, List.mem_of_getElem? (i := 1173) (by decide +kernel), List.mem_of_getElem? (i := 1741) (by decide +kernel), List.mem_of_getElem? (i := 1742) (by decide +kernel)⟩
theorem lw_p157 : lw_okq (⟨"BlindSideModel", "isThing", "(I)Z"⟩, 96) := ⟨⟨by decide +kernel, by decide +kernel⟩, List.mem_of_getElem? (i := 1173) (by decide +kernel), List.mem_of_getElem? (i := 1762) (by decide +kernel), List.mem_of_getElem? (i := 1763) (by decide +kernel)⟩
theorem lw_p158 : lw_okq (⟨"BlindSideModel", "seenSide", "()I"⟩, 96) := ⟨⟨by decide +kernel, by decide +kernel⟩, List.mem_of_getElem? (i := 1173) (by decide +kernel), List.mem_of_getElem? (i := 1783) (by decide +kernel), List.mem_of_getElem? (i := 1784) (by decide +kernel)⟩
theorem lw_p159 : lw_okq (⟨"BlindSideModel", "isShowing", "(IIII)Z"⟩, 96) := ⟨⟨by decide +kernel, by decide +kernel⟩, List.mem_of_getElem? (i := 1173) (by decide +kernel), List.mem_of_getElem? (i := 1795) (by decide +kernel), List.mem_of_getElem? (i := 1796) (by decide +kernel)⟩
def lw_privs_10 : List (MethodName × Nat) := [(⟨"BlindSideModel", "readsTest", "()V"⟩, 96), (⟨"BlindSideModel", "test", "()V"⟩, 96), (⟨"BlindSideModel", "fact", "()V"⟩, 96), (⟨"BlindSideModel", "dropsNots", "()V"⟩, 96), (⟨"BlindSideModel", "goesOnTest", "()Z"⟩, 96), (⟨"BlindSideModel", "hasSquare", "()Z"⟩, 96), (⟨"BlindSideModel", "wayTold", "(I)V"⟩, 96), (⟨"BlindSideModel", "discTold", "()V"⟩, 96), (⟨"BlindSideModel", "thingTold", "(I)V"⟩, 96), (⟨"BlindSideModel", "stands", "(I)V"⟩, 96), (⟨"BlindSideModel", "tellsSight", "()V"⟩, 96), (⟨"BlindSideModel", "tellsPieces", "()V"⟩, 96), (⟨"BlindSideModel", "spreads", "()Z"⟩, 96), (⟨"BlindSideModel", "isThing", "(I)Z"⟩, 96), (⟨"BlindSideModel", "seenSide", "()I"⟩, 96), (⟨"BlindSideModel", "isShowing", "(IIII)Z"⟩, 96)]
theorem lw_r10 : ∀ q ∈ lw_privs_10, lw_okq q := List.forall_mem_cons.mpr ⟨lw_p144, List.forall_mem_cons.mpr ⟨lw_p145, List.forall_mem_cons.mpr ⟨lw_p146, List.forall_mem_cons.mpr ⟨lw_p147, List.forall_mem_cons.mpr ⟨lw_p148, List.forall_mem_cons.mpr ⟨lw_p149, List.forall_mem_cons.mpr ⟨lw_p150, List.forall_mem_cons.mpr ⟨lw_p151, List.forall_mem_cons.mpr ⟨lw_p152, List.forall_mem_cons.mpr ⟨lw_p153, List.forall_mem_cons.mpr ⟨lw_p154, List.forall_mem_cons.mpr ⟨lw_p155, List.forall_mem_cons.mpr ⟨lw_p156, List.forall_mem_cons.mpr ⟨lw_p157, List.forall_mem_cons.mpr ⟨lw_p158, List.forall_mem_cons.mpr ⟨lw_p159, fun _ h => absurd h List.not_mem_nil⟩⟩⟩⟩⟩⟩⟩⟩⟩⟩⟩⟩⟩⟩⟩⟩
theorem lw_p160 : lw_okq (⟨"BlindSideModel", "kindOf", "(II)I"⟩, 96) := ⟨⟨by decide +kernel, by decide +kernel⟩, List.mem_of_getElem? (i := 1173) (by decide +kernel), List.mem_of_getElem? (i := 1834) (by decide +kernel), List.mem_of_getElem? (i := 1835) (by decide +kernel)⟩
theorem lw_p161 : lw_okq (⟨"BlindSideModel", "isRight", "(I)Z"⟩, 96) := ⟨⟨by decide +kernel, by decide +kernel⟩, List.mem_of_getElem? (i := 1173) (by decide +kernel), List.mem_of_getElem? (i := 1838) (by decide +kernel), List.mem_of_getElem? (i := 1839) (by decide +kernel)⟩
theorem lw_p162 : lw_okq (⟨"BlindSideModel", "isLed", "(I)Z"⟩, 96) := ⟨⟨by decide +kernel, by decide +kernel⟩, List.mem_of_getElem? (i := 1173) (by decide +kernel), List.mem_of_getElem? (i := 1842) (by decide +kernel), List.mem_of_getElem? (i := 1843) (by decide +kernel)⟩
theorem lw_p163 : lw_okq (⟨"BlindSideModel", "showsTrial", "(I)V"⟩, 96) := ⟨⟨by decide +kernel, by decide +kernel⟩, List.mem_of_getElem? (i := 1173) (by decide +kernel), List.mem_of_getElem? (i := 1846) (by decide +kernel), List.mem_of_getElem? (i := 1847) (by decide +kernel)⟩
theorem lw_p164 : lw_okq (⟨"BlindSideModel", "isIsland", "(I)Z"⟩, 96) := ⟨⟨by decide +kernel, by decide +kernel⟩, List.mem_of_getElem? (i := 1173) (by decide +kernel), List.mem_of_getElem? (i := 1850) (by decide +kernel), List.mem_of_getElem? (i := 1851) (by decide +kernel)⟩
theorem lw_p165 : lw_okq (⟨"BlindSideModel", "isTrial", "(IIII)Z"⟩, 96) := ⟨⟨by decide +kernel, by decide +kernel⟩, List.mem_of_getElem? (i := 1173) (by decide +kernel), List.mem_of_getElem? (i := 1862) (by decide +kernel), List.mem_of_getElem? (i := 1863) (by decide +kernel)⟩
theorem lw_p166 : lw_okq (⟨"BlindSideModel", "isOf", "(II)Z"⟩, 96) := ⟨⟨by decide +kernel, by decide +kernel⟩, List.mem_of_getElem? (i := 1173) (by decide +kernel), List.mem_of_getElem? (i := 1879) (by decide +kernel), List.mem_of_getElem? (i := 1880) (by decide +kernel)⟩
theorem lw_p167 : lw_okq (⟨"BlindSideModel", "isWhere", "(II)Z"⟩, 96) := ⟨⟨by decide +kernel, by decide +kernel⟩, List.mem_of_getElem? (i := 1173) (by decide +kernel), List.mem_of_getElem? (i := 1883) (by decide +kernel), List.mem_of_getElem? (i := 1884) (by decide +kernel)⟩
theorem lw_p168 : lw_okq (⟨"BlindSideModel", "isGone", "(I)Z"⟩, 96) := ⟨⟨by decide +kernel, by decide +kernel⟩, List.mem_of_getElem? (i := 1173) (by decide +kernel), List.mem_of_getElem? (i := 1887) (by decide +kernel), List.mem_of_getElem? (i := 1888) (by decide +kernel)⟩
theorem lw_p169 : lw_okq (⟨"BlindSideModel", "chanceOf", "(IZ)J"⟩, 96) := ⟨⟨by decide +kernel, by decide +kernel⟩, List.mem_of_getElem? (i := 1173) (by decide +kernel), List.mem_of_getElem? (i := 1896) (by decide +kernel), List.mem_of_getElem? (i := 1897) (by decide +kernel)⟩
theorem lw_p170 : lw_okq (⟨"BlindSideModel", "weightOf", "(I)J"⟩, 96) := ⟨⟨by decide +kernel, by decide +kernel⟩, List.mem_of_getElem? (i := 1173) (by decide +kernel), List.mem_of_getElem? (i := 1913) (by decide +kernel), List.mem_of_getElem? (i := 1914) (by decide +kernel)⟩
theorem lw_p171 : lw_okq (⟨"BlindSideModel", "guessedAbove", "(II)I"⟩, 96) := ⟨⟨by decide +kernel, by decide +kernel⟩, List.mem_of_getElem? (i := 1173) (by decide +kernel), List.mem_of_getElem? (i := 1917) (by decide +kernel), List.mem_of_getElem? (i := 1918) (by decide +kernel)⟩
theorem lw_p172 : lw_okq (⟨"BlindSideModel", "isEnough", "(II)Z"⟩, 96) := ⟨⟨by decide +kernel, by decide +kernel⟩, List.mem_of_getElem? (i := 1173) (by decide +kernel), List.mem_of_getElem? (i := 1950) (by decide +kernel), List.mem_of_getElem? (i := 1951) (by decide +kernel)⟩
theorem lw_p173 : lw_okq (⟨"BlindSideModel", "partedAt", "(IIIII)I"⟩, 96) := ⟨⟨by decide +kernel, by decide +kernel⟩, List.mem_of_getElem? (i := 1173) (by decide +kernel), List.mem_of_getElem? (i := 1965) (by decide +kernel), List.mem_of_getElem? (i := 1966) (by decide +kernel)⟩
theorem lw_p174 : lw_okq (⟨"BlindSideModel", "walked", "(IZ)J"⟩, 96) := ⟨⟨by decide +kernel, by decide +kernel⟩, List.mem_of_getElem? (i := 1173) (by decide +kernel), List.mem_of_getElem? (i := 1983) (by decide +kernel), List.mem_of_getElem? (i := 1984) (by decide +kernel)⟩
theorem lw_p175 : lw_okq (⟨"BlindSideModel", "writes", "(I)V"⟩, 96) := ⟨⟨by decide +kernel, by decide +kernel⟩, List.mem_of_getElem? (i := 1173) (by decide +kernel), List.mem_of_getElem? (i := 1996) (by decide +kernel), List.mem_of_getElem? (i := 1997) (by decide +kernel)⟩
def lw_privs_11 : List (MethodName × Nat) := [(⟨"BlindSideModel", "kindOf", "(II)I"⟩, 96), (⟨"BlindSideModel", "isRight", "(I)Z"⟩, 96), (⟨"BlindSideModel", "isLed", "(I)Z"⟩, 96), (⟨"BlindSideModel", "showsTrial", "(I)V"⟩, 96), (⟨"BlindSideModel", "isIsland", "(I)Z"⟩, 96), (⟨"BlindSideModel", "isTrial", "(IIII)Z"⟩, 96), (⟨"BlindSideModel", "isOf", "(II)Z"⟩, 96), (⟨"BlindSideModel", "isWhere", "(II)Z"⟩, 96), (⟨"BlindSideModel", "isGone", "(I)Z"⟩, 96), (⟨"BlindSideModel", "chanceOf", "(IZ)J"⟩, 96), (⟨"BlindSideModel", "weightOf", "(I)J"⟩, 96), (⟨"BlindSideModel", "guessedAbove", "(II)I"⟩, 96), (⟨"BlindSideModel", "isEnough", "(II)Z"⟩, 96), (⟨"BlindSideModel", "partedAt", "(IIIII)I"⟩, 96), (⟨"BlindSideModel", "walked", "(IZ)J"⟩, 96), (⟨"BlindSideModel", "writes", "(I)V"⟩, 96)]
theorem lw_r11 : ∀ q ∈ lw_privs_11, lw_okq q := List.forall_mem_cons.mpr ⟨lw_p160, List.forall_mem_cons.mpr ⟨lw_p161, List.forall_mem_cons.mpr ⟨lw_p162, List.forall_mem_cons.mpr ⟨lw_p163, List.forall_mem_cons.mpr ⟨lw_p164, List.forall_mem_cons.mpr ⟨lw_p165, List.forall_mem_cons.mpr ⟨lw_p166, List.forall_mem_cons.mpr ⟨lw_p167, List.forall_mem_cons.mpr ⟨lw_p168, List.forall_mem_cons.mpr ⟨lw_p169, List.forall_mem_cons.mpr ⟨lw_p170, List.forall_mem_cons.mpr ⟨lw_p171, List.forall_mem_cons.mpr ⟨lw_p172, List.forall_mem_cons.mpr ⟨lw_p173, List.forall_mem_cons.mpr ⟨lw_p174, List.forall_mem_cons.mpr ⟨lw_p175, fun _ h => absurd h List.not_mem_nil⟩⟩⟩⟩⟩⟩⟩⟩⟩⟩⟩⟩⟩⟩⟩⟩
theorem lw_p176 : lw_okq (⟨"BlindSideModel", "isTold", "(I)Z"⟩, 96) := ⟨⟨by decide +kernel, by decide +kernel⟩, List.mem_of_getElem? (i := 1173) (by decide +kernel), List.mem_of_getElem? (i := 2011) (by decide +kernel), List.mem_of_getElem? (i := 2012) (by decide +kernel)⟩
def lw_privs_12 : List (MethodName × Nat) := [(⟨"BlindSideModel", "isTold", "(I)Z"⟩, 96)]
theorem lw_r12 : ∀ q ∈ lw_privs_12, lw_okq q := List.forall_mem_cons.mpr ⟨lw_p176, fun _ h => absurd h List.not_mem_nil⟩
def lw_privs : List (MethodName × Nat) := lw_privs_1 ++ (lw_privs_2 ++ (lw_privs_3 ++ (lw_privs_4 ++ (lw_privs_5 ++ (lw_privs_6 ++ (lw_privs_7 ++ (lw_privs_8 ++ (lw_privs_9 ++ (lw_privs_10 ++ (lw_privs_11 ++ (lw_privs_12)))))))))))
def lw_tbl : List Cond := k2_sels lw_privs ++ tables_1
theorem lw_privs_ok : ∀ q ∈ lw_privs, lw_okq q := by
  show ∀ q ∈ lw_privs_1 ++ (lw_privs_2 ++ (lw_privs_3 ++ (lw_privs_4 ++ (lw_privs_5 ++ (lw_privs_6 ++ (lw_privs_7 ++ (lw_privs_8 ++ (lw_privs_9 ++ (lw_privs_10 ++ (lw_privs_11 ++ (lw_privs_12))))))))))), lw_okq q
  exact List.forall_mem_append.mpr ⟨lw_r1, List.forall_mem_append.mpr ⟨lw_r2, List.forall_mem_append.mpr ⟨lw_r3, List.forall_mem_append.mpr ⟨lw_r4, List.forall_mem_append.mpr ⟨lw_r5, List.forall_mem_append.mpr ⟨lw_r6, List.forall_mem_append.mpr ⟨lw_r7, List.forall_mem_append.mpr ⟨lw_r8, List.forall_mem_append.mpr ⟨lw_r9, List.forall_mem_append.mpr ⟨lw_r10, List.forall_mem_append.mpr ⟨lw_r11, lw_r12⟩⟩⟩⟩⟩⟩⟩⟩⟩⟩⟩
def RX0 : String := "BlindSide$Book"
def TX0 : u_T := fun k => match k with
  | 0 => ("BlindSide$Book", "trials", "[LBlindSide$Trial;", true)
  | _ => ("BlindSide$Book", "size", "I", false)
def tyX0 : Nat → FieldType := fun k => match k with
  | 0 => .array (.object "BlindSide$Trial")
  | _ => .int
abbrev wsX00 : List Cond := u_ws RX0 TX0 2
theorem nmX0 : ∀ a, a < 2 → ∀ b, b < 2 → a ≠ b → (TX0 a).2.1 ≠ (TX0 b).2.1 := by decide +kernel
theorem tyX0_ok : ∀ k, k < 2 → parseFieldDescriptor (TX0 k).2.2.1 = some (tyX0 k) := by decide +kernel
abbrev cX0_init : ByteArray := prog_2_method_1_code
def yX0_init : MethodName := ⟨RX0, "<init>", "()V"⟩
abbrev cX0_trialAt : ByteArray := prog_2_method_2_code
def yX0_trialAt : MethodName := ⟨RX0, "trialAt", "(I)LBlindSide$Trial;"⟩
abbrev cX0_nextFree : ByteArray := prog_2_method_3_code
def yX0_nextFree : MethodName := ⟨RX0, "nextFree", "()LBlindSide$Trial;"⟩
def RX1 : String := "BlindSide$Corridor"
def TX1 : u_T := fun k => match k with
  | 0 => ("BlindSide$Corridor", "chairs", "[Z", true)
  | 1 => ("BlindSide$Corridor", "here", "[J", true)
  | 2 => ("BlindSide$Corridor", "there", "[J", true)
  | _ => ("BlindSide$Corridor", "chairCount", "I", false)
def tyX1 : Nat → FieldType := fun k => match k with
  | 0 => .array .boolean
  | 1 => .array .long
  | 2 => .array .long
  | _ => .int
abbrev wsX10 : List Cond := u_ws RX1 TX1 4
theorem nmX1 : ∀ a, a < 4 → ∀ b, b < 4 → a ≠ b → (TX1 a).2.1 ≠ (TX1 b).2.1 := by decide +kernel
theorem tyX1_ok : ∀ k, k < 4 → parseFieldDescriptor (TX1 k).2.2.1 = some (tyX1 k) := by decide +kernel
abbrev cX1_init : ByteArray := prog_3_method_1_code
def yX1_init : MethodName := ⟨RX1, "<init>", "()V"⟩
abbrev cX1_putChair : ByteArray := prog_3_method_2_code
def yX1_putChair : MethodName := ⟨RX1, "putChair", "(IZ)Z"⟩
abbrev cX1_passed : ByteArray := prog_3_method_3_code
def yX1_passed : MethodName := ⟨RX1, "passed", "(IZ)J"⟩
abbrev cX1_stepTo : ByteArray := prog_3_method_4_code
def yX1_stepTo : MethodName := ⟨RX1, "stepTo", "(IZ)V"⟩
abbrev cX1_cameFrom : ByteArray := prog_3_method_5_code
def yX1_cameFrom : MethodName := ⟨RX1, "cameFrom", "(IZ)J"⟩
def RX2 : String := "BlindSide$Dice"
def TX2 : u_T := fun k => match k with
  | _ => ("BlindSide$Dice", "seed", "J", false)
def tyX2 : Nat → FieldType := fun k => match k with
  | _ => .long
abbrev wsX20 : List Cond := u_ws RX2 TX2 1
theorem nmX2 : ∀ a, a < 1 → ∀ b, b < 1 → a ≠ b → (TX2 a).2.1 ≠ (TX2 b).2.1 := by decide +kernel
theorem tyX2_ok : ∀ k, k < 1 → parseFieldDescriptor (TX2 k).2.2.1 = some (tyX2 k) := by decide +kernel
abbrev cX2_init : ByteArray := prog_4_method_1_code
def yX2_init : MethodName := ⟨RX2, "<init>", "()V"⟩
abbrev cX2_roll : ByteArray := prog_4_method_2_code
def yX2_roll : MethodName := ⟨RX2, "roll", "(I)I"⟩
abbrev cX2_guess : ByteArray := prog_4_method_3_code
def yX2_guess : MethodName := ⟨RX2, "guess", "(III)I"⟩
def RX3 : String := "BlindSide$Field"
def TX3 : u_T := fun k => match k with
  | 0 => ("BlindSide$Field", "sights", "[I", true)
  | 1 => ("BlindSide$Field", "pieces", "[I", true)
  | 2 => ("BlindSide$Field", "sizes", "[I", true)
  | 3 => ("BlindSide$Field", "firsts", "[I", true)
  | 4 => ("BlindSide$Field", "waiting", "[I", true)
  | 5 => ("BlindSide$Field", "lightSight", "[I", true)
  | 6 => ("BlindSide$Field", "lightSpan", "[I", true)
  | 7 => ("BlindSide$Field", "waitingCount", "I", false)
  | 8 => ("BlindSide$Field", "pieceCount", "I", false)
  | 9 => ("BlindSide$Field", "seenSide", "I", false)
  | 10 => ("BlindSide$Field", "seeing", "I", false)
  | _ => ("BlindSide$Field", "disc", "I", false)
def tyX3 : Nat → FieldType := fun k => match k with
  | 0 => .array .int
  | 1 => .array .int
  | 2 => .array .int
  | 3 => .array .int
  | 4 => .array .int
  | 5 => .array .int
  | 6 => .array .int
  | 7 => .int
  | 8 => .int
  | 9 => .int
  | 10 => .int
  | _ => .int
abbrev wsX30 : List Cond := u_ws RX3 TX3 12
theorem nmX3 : ∀ a, a < 12 → ∀ b, b < 12 → a ≠ b → (TX3 a).2.1 ≠ (TX3 b).2.1 := by decide +kernel
theorem tyX3_ok : ∀ k, k < 12 → parseFieldDescriptor (TX3 k).2.2.1 = some (tyX3 k) := by decide +kernel
abbrev cX3_init : ByteArray := prog_5_method_1_code
def yX3_init : MethodName := ⟨RX3, "<init>", "()V"⟩
abbrev cX3_build : ByteArray := prog_5_method_2_code
def yX3_build : MethodName := ⟨RX3, "build", "(LBlindSide$Script;LBlindSide$Reckoner;)V"⟩
abbrev cX3_discOf : ByteArray := prog_5_method_3_code
def yX3_discOf : MethodName := ⟨RX3, "discOf", "(LBlindSide$Script;)I"⟩
abbrev cX3_partPieces : ByteArray := prog_5_method_4_code
def yX3_partPieces : MethodName := ⟨RX3, "partPieces", "()V"⟩
abbrev cX3_gather : ByteArray := prog_5_method_5_code
def yX3_gather : MethodName := ⟨RX3, "gather", "(I)V"⟩
abbrev cX3_await : ByteArray := prog_5_method_6_code
def yX3_await : MethodName := ⟨RX3, "await", "(I)V"⟩
abbrev cX3_isIsland : ByteArray := prog_5_method_7_code
def yX3_isIsland : MethodName := ⟨RX3, "isIsland", "(I)Z"⟩
abbrev cX3_isGone : ByteArray := prog_5_method_8_code
def yX3_isGone : MethodName := ⟨RX3, "isGone", "(I)Z"⟩
abbrev cX3_lightAt : ByteArray := prog_5_method_9_code
def yX3_lightAt : MethodName := ⟨RX3, "lightAt", "(II)I"⟩
abbrev cX3_lookForLight : ByteArray := prog_5_method_10_code
def yX3_lookForLight : MethodName := ⟨RX3, "lookForLight", "(I)V"⟩
def RX4 : String := "BlindSide$Lexer"
def TX4 : u_T := fun k => match k with
  | 0 => ("BlindSide$Lexer", "tape", "LBlindSide$Tape;", true)
  | 1 => ("BlindSide$Lexer", "ownNames", "[I", true)
  | 2 => ("BlindSide$Lexer", "kinds", "[I", true)
  | 3 => ("BlindSide$Lexer", "values", "[I", true)
  | 4 => ("BlindSide$Lexer", "places", "[I", true)
  | _ => ("BlindSide$Lexer", "size", "I", false)
def tyX4 : Nat → FieldType := fun k => match k with
  | 0 => .object "BlindSide$Tape"
  | 1 => .array .int
  | 2 => .array .int
  | 3 => .array .int
  | 4 => .array .int
  | _ => .int
abbrev wsX40 : List Cond := u_ws RX4 TX4 6
theorem nmX4 : ∀ a, a < 6 → ∀ b, b < 6 → a ≠ b → (TX4 a).2.1 ≠ (TX4 b).2.1 := by decide +kernel
theorem tyX4_ok : ∀ k, k < 6 → parseFieldDescriptor (TX4 k).2.2.1 = some (tyX4 k) := by decide +kernel
abbrev cX4_init : ByteArray := prog_6_method_1_code
def yX4_init : MethodName := ⟨RX4, "<init>", "(LBlindSide$Tape;)V"⟩
abbrev cX4_partTape : ByteArray := prog_6_method_2_code
def yX4_partTape : MethodName := ⟨RX4, "partTape", "()V"⟩
abbrev cX4_add : ByteArray := prog_6_method_3_code
def yX4_add : MethodName := ⟨RX4, "add", "(III)V"⟩
abbrev cX4_addWord : ByteArray := prog_6_method_4_code
def yX4_addWord : MethodName := ⟨RX4, "addWord", "(I)I"⟩
abbrev cX4_ownWordOf : ByteArray := prog_6_method_5_code
def yX4_ownWordOf : MethodName := ⟨RX4, "ownWordOf", "(I)I"⟩
abbrev cX4_addNumber : ByteArray := prog_6_method_6_code
def yX4_addNumber : MethodName := ⟨RX4, "addNumber", "(I)I"⟩
abbrev cX4_isGlued : ByteArray := prog_6_method_7_code
def yX4_isGlued : MethodName := ⟨RX4, "isGlued", "(I)Z"⟩
def RX5 : String := "BlindSide$Reader"
def TX5 : u_T := fun k => match k with
  | 0 => ("BlindSide$Reader", "lexer", "LBlindSide$Lexer;", true)
  | 1 => ("BlindSide$Reader", "script", "LBlindSide$Script;", false)
  | 2 => ("BlindSide$Reader", "known", "LBlindSide$Script;", false)
  | 3 => ("BlindSide$Reader", "sort", "I", false)
  | 4 => ("BlindSide$Reader", "fault", "I", false)
  | 5 => ("BlindSide$Reader", "place", "I", false)
  | 6 => ("BlindSide$Reader", "here", "I", false)
  | 7 => ("BlindSide$Reader", "kind", "I", false)
  | 8 => ("BlindSide$Reader", "value", "I", false)
  | 9 => ("BlindSide$Reader", "at", "I", false)
  | _ => ("BlindSide$Reader", "ownWord", "I", false)
def tyX5 : Nat → FieldType := fun k => match k with
  | 0 => .object "BlindSide$Lexer"
  | 1 => .object "BlindSide$Script"
  | 2 => .object "BlindSide$Script"
  | 3 => .int
  | 4 => .int
  | 5 => .int
  | 6 => .int
  | 7 => .int
  | 8 => .int
  | 9 => .int
  | _ => .int
abbrev wsX50 : List Cond := u_ws RX5 TX5 11
theorem nmX5 : ∀ a, a < 11 → ∀ b, b < 11 → a ≠ b → (TX5 a).2.1 ≠ (TX5 b).2.1 := by decide +kernel
theorem tyX5_ok : ∀ k, k < 11 → parseFieldDescriptor (TX5 k).2.2.1 = some (tyX5 k) := by decide +kernel
abbrev cX5_init : ByteArray := prog_7_method_1_code
def yX5_init : MethodName := ⟨RX5, "<init>", "(LBlindSide$Tape;)V"⟩
abbrev cX5_takes : ByteArray := prog_7_method_2_code
def yX5_takes : MethodName := ⟨RX5, "takes", "(ILBlindSide$Script;LBlindSide$Script;)Z"⟩
abbrev cX5_step : ByteArray := prog_7_method_3_code
def yX5_step : MethodName := ⟨RX5, "step", "()V"⟩
abbrev cX5_isSign : ByteArray := prog_7_method_4_code
def yX5_isSign : MethodName := ⟨RX5, "isSign", "(C)Z"⟩
abbrev cX5_refused : ByteArray := prog_7_method_5_code
def yX5_refused : MethodName := ⟨RX5, "refused", "(II)Z"⟩
abbrev cX5_readStatements : ByteArray := prog_7_method_6_code
def yX5_readStatements : MethodName := ⟨RX5, "readStatements", "(I)Z"⟩
abbrev cX5_isStatementWord : ByteArray := prog_7_method_7_code
def yX5_isStatementWord : MethodName := ⟨RX5, "isStatementWord", "()Z"⟩
abbrev cX5_readStatement : ByteArray := prog_7_method_8_code
def yX5_readStatement : MethodName := ⟨RX5, "readStatement", "(I)Z"⟩
abbrev cX5_readKnows : ByteArray := prog_7_method_9_code
def yX5_readKnows : MethodName := ⟨RX5, "readKnows", "(LBlindSide$Statement;)Z"⟩
abbrev cX5_readShow : ByteArray := prog_7_method_10_code
def yX5_readShow : MethodName := ⟨RX5, "readShow", "(LBlindSide$Statement;I)Z"⟩
abbrev cX5_readTimes : ByteArray := prog_7_method_11_code
def yX5_readTimes : MethodName := ⟨RX5, "readTimes", "(LBlindSide$Statement;I)Z"⟩
abbrev cX5_readNewName : ByteArray := prog_7_method_12_code
def yX5_readNewName : MethodName := ⟨RX5, "readNewName", "()Z"⟩
abbrev cX5_readName : ByteArray := prog_7_method_13_code
def yX5_readName : MethodName := ⟨RX5, "readName", "()Z"⟩
abbrev cX5_readNumber : ByteArray := prog_7_method_14_code
def yX5_readNumber : MethodName := ⟨RX5, "readNumber", "(LBlindSide$Statement;II)Z"⟩
abbrev cX5_readSquare : ByteArray := prog_7_method_15_code
def yX5_readSquare : MethodName := ⟨RX5, "readSquare", "(LBlindSide$Statement;)Z"⟩
abbrev cX5_takenNumber : ByteArray := prog_7_method_16_code
def yX5_takenNumber : MethodName := ⟨RX5, "takenNumber", "(II)I"⟩
abbrev cX5_readSign : ByteArray := prog_7_method_17_code
def yX5_readSign : MethodName := ⟨RX5, "readSign", "(C)Z"⟩
abbrev cX5_readRule : ByteArray := prog_7_method_18_code
def yX5_readRule : MethodName := ⟨RX5, "readRule", "(LBlindSide$Statement;)Z"⟩
abbrev cX5_readTest : ByteArray := prog_7_method_19_code
def yX5_readTest : MethodName := ⟨RX5, "readTest", "(I)Z"⟩
abbrev cX5_readBoth : ByteArray := prog_7_method_20_code
def yX5_readBoth : MethodName := ⟨RX5, "readBoth", "(I)Z"⟩
abbrev cX5_readFact : ByteArray := prog_7_method_21_code
def yX5_readFact : MethodName := ⟨RX5, "readFact", "(I)Z"⟩
abbrev cX5_readSum : ByteArray := prog_7_method_22_code
def yX5_readSum : MethodName := ⟨RX5, "readSum", "(I)Z"⟩
abbrev cX5_readProduct : ByteArray := prog_7_method_23_code
def yX5_readProduct : MethodName := ⟨RX5, "readProduct", "(I)Z"⟩
abbrev cX5_readPart : ByteArray := prog_7_method_24_code
def yX5_readPart : MethodName := ⟨RX5, "readPart", "(I)Z"⟩
abbrev cX5_readBracket : ByteArray := prog_7_method_25_code
def yX5_readBracket : MethodName := ⟨RX5, "readBracket", "(II)Z"⟩
def RX6 : String := "BlindSide$Reckoner"
def TX6 : u_T := fun k => match k with
  | 0 => ("BlindSide$Reckoner", "seen", "[I", true)
  | _ => ("BlindSide$Reckoner", "stack", "[I", true)
def tyX6 : Nat → FieldType := fun k => match k with
  | 0 => .array .int
  | _ => .array .int
abbrev wsX60 : List Cond := u_ws RX6 TX6 2
theorem nmX6 : ∀ a, a < 2 → ∀ b, b < 2 → a ≠ b → (TX6 a).2.1 ≠ (TX6 b).2.1 := by decide +kernel
theorem tyX6_ok : ∀ k, k < 2 → parseFieldDescriptor (TX6 k).2.2.1 = some (tyX6 k) := by decide +kernel
abbrev cX6_init : ByteArray := prog_8_method_1_code
def yX6_init : MethodName := ⟨RX6, "<init>", "()V"⟩
abbrev cX6_isPart : ByteArray := prog_8_method_2_code
def yX6_isPart : MethodName := ⟨RX6, "isPart", "(I)Z"⟩
abbrev cX6_putSquare : ByteArray := prog_8_method_3_code
def yX6_putSquare : MethodName := ⟨RX6, "putSquare", "(I)V"⟩
abbrev cX6_putNothing : ByteArray := prog_8_method_4_code
def yX6_putNothing : MethodName := ⟨RX6, "putNothing", "()V"⟩
abbrev cX6_reckon : ByteArray := prog_8_method_5_code
def yX6_reckon : MethodName := ⟨RX6, "reckon", "([III)I"⟩
abbrev cX6_product : ByteArray := prog_8_method_6_code
def yX6_product : MethodName := ⟨RX6, "product", "(II)I"⟩
abbrev cX6_joined : ByteArray := prog_8_method_7_code
def yX6_joined : MethodName := ⟨RX6, "joined", "(III)I"⟩
def RX7 : String := "BlindSide$Script"
def TX7 : u_T := fun k => match k with
  | 0 => ("BlindSide$Script", "statements", "[LBlindSide$Statement;", true)
  | 1 => ("BlindSide$Script", "size", "I", false)
  | 2 => ("BlindSide$Script", "namedOnes", "[I", true)
  | 3 => ("BlindSide$Script", "named", "I", false)
  | 4 => ("BlindSide$Script", "code", "[I", true)
  | 5 => ("BlindSide$Script", "codeLength", "I", false)
  | _ => ("BlindSide$Script", "stands", "Z", false)
def tyX7 : Nat → FieldType := fun k => match k with
  | 0 => .array (.object "BlindSide$Statement")
  | 1 => .int
  | 2 => .array .int
  | 3 => .int
  | 4 => .array .int
  | 5 => .int
  | _ => .boolean
abbrev wsX70 : List Cond := u_ws RX7 TX7 7
theorem nmX7 : ∀ a, a < 7 → ∀ b, b < 7 → a ≠ b → (TX7 a).2.1 ≠ (TX7 b).2.1 := by decide +kernel
theorem tyX7_ok : ∀ k, k < 7 → parseFieldDescriptor (TX7 k).2.2.1 = some (tyX7 k) := by decide +kernel
abbrev cX7_init : ByteArray := prog_9_method_1_code
def yX7_init : MethodName := ⟨RX7, "<init>", "()V"⟩
abbrev cX7_empty : ByteArray := prog_9_method_2_code
def yX7_empty : MethodName := ⟨RX7, "empty", "()V"⟩
abbrev cX7_begun : ByteArray := prog_9_method_3_code
def yX7_begun : MethodName := ⟨RX7, "begun", "(I)LBlindSide$Statement;"⟩
abbrev cX7_putName : ByteArray := prog_9_method_4_code
def yX7_putName : MethodName := ⟨RX7, "putName", "(I)V"⟩
abbrev cX7_namedAt : ByteArray := prog_9_method_5_code
def yX7_namedAt : MethodName := ⟨RX7, "namedAt", "(I)LBlindSide$Statement;"⟩
abbrev cX7_whichIs : ByteArray := prog_9_method_6_code
def yX7_whichIs : MethodName := ⟨RX7, "whichIs", "(I)I"⟩
abbrev cX7_emit : ByteArray := prog_9_method_7_code
def yX7_emit : MethodName := ⟨RX7, "emit", "(I)V"⟩
abbrev cX7_firstSum : ByteArray := prog_9_method_8_code
def yX7_firstSum : MethodName := ⟨RX7, "firstSum", "(ILBlindSide$Reckoner;I)I"⟩
abbrev cX7_carriedBy : ByteArray := prog_9_method_9_code
def yX7_carriedBy : MethodName := ⟨RX7, "carriedBy", "(LBlindSide$Statement;LBlindSide$Reckoner;)I"⟩
abbrev cX7_carriedMost : ByteArray := prog_9_method_10_code
def yX7_carriedMost : MethodName := ⟨RX7, "carriedMost", "(LBlindSide$Reckoner;Z)I"⟩
abbrev cX7_carriersBy : ByteArray := prog_9_method_11_code
def yX7_carriersBy : MethodName := ⟨RX7, "carriersBy", "(LBlindSide$Reckoner;)I"⟩
abbrev cX7_lineBy : ByteArray := prog_9_method_12_code
def yX7_lineBy : MethodName := ⟨RX7, "lineBy", "(LBlindSide$Reckoner;)I"⟩
abbrev cX7_saysBy : ByteArray := prog_9_method_13_code
def yX7_saysBy : MethodName := ⟨RX7, "saysBy", "(LBlindSide$Reckoner;)Z"⟩
abbrev cX7_showsWithin : ByteArray := prog_9_method_14_code
def yX7_showsWithin : MethodName := ⟨RX7, "showsWithin", "(I)Z"⟩
abbrev cX7_showsInAll : ByteArray := prog_9_method_15_code
def yX7_showsInAll : MethodName := ⟨RX7, "showsInAll", "()I"⟩
abbrev cX7_timesOf : ByteArray := prog_9_method_16_code
def yX7_timesOf : MethodName := ⟨RX7, "timesOf", "(I)I"⟩
def RX8 : String := "BlindSide$Statement"
def TX8 : u_T := fun k => match k with
  | 0 => ("BlindSide$Statement", "word", "I", false)
  | 1 => ("BlindSide$Statement", "name", "I", false)
  | 2 => ("BlindSide$Statement", "number", "I", false)
  | 3 => ("BlindSide$Statement", "column", "I", false)
  | 4 => ("BlindSide$Statement", "row", "I", false)
  | 5 => ("BlindSide$Statement", "knows", "Z", false)
  | 6 => ("BlindSide$Statement", "sumFrom", "I", false)
  | 7 => ("BlindSide$Statement", "sumBehind", "I", false)
  | 8 => ("BlindSide$Statement", "testBehind", "I", false)
  | _ => ("BlindSide$Statement", "behind", "I", false)
def tyX8 : Nat → FieldType := fun k => match k with
  | 0 => .int
  | 1 => .int
  | 2 => .int
  | 3 => .int
  | 4 => .int
  | 5 => .boolean
  | 6 => .int
  | 7 => .int
  | 8 => .int
  | _ => .int
abbrev wsX80 : List Cond := u_ws RX8 TX8 10
theorem nmX8 : ∀ a, a < 10 → ∀ b, b < 10 → a ≠ b → (TX8 a).2.1 ≠ (TX8 b).2.1 := by decide +kernel
theorem tyX8_ok : ∀ k, k < 10 → parseFieldDescriptor (TX8 k).2.2.1 = some (tyX8 k) := by decide +kernel
abbrev cX8_init : ByteArray := prog_10_method_1_code
def yX8_init : MethodName := ⟨RX8, "<init>", "()V"⟩
def RX9 : String := "BlindSide$Tape"
def TX9 : u_T := fun k => match k with
  | 0 => ("BlindSide$Tape", "octets", "[I", true)
  | _ => ("BlindSide$Tape", "length", "I", false)
def tyX9 : Nat → FieldType := fun k => match k with
  | 0 => .array .int
  | _ => .int
abbrev wsX90 : List Cond := u_ws RX9 TX9 2
theorem nmX9 : ∀ a, a < 2 → ∀ b, b < 2 → a ≠ b → (TX9 a).2.1 ≠ (TX9 b).2.1 := by decide +kernel
theorem tyX9_ok : ∀ k, k < 2 → parseFieldDescriptor (TX9 k).2.2.1 = some (tyX9 k) := by decide +kernel
abbrev cX9_init : ByteArray := prog_11_method_1_code
def yX9_init : MethodName := ⟨RX9, "<init>", "()V"⟩
abbrev cX9_addNumber : ByteArray := prog_11_method_2_code
def yX9_addNumber : MethodName := ⟨RX9, "addNumber", "(I)V"⟩
abbrev cX9_at : ByteArray := prog_11_method_3_code
def yX9_at : MethodName := ⟨RX9, "at", "(I)I"⟩
def RX10 : String := "BlindSide$Trial"
def TX10 : u_T := fun k => match k with
  | 0 => ("BlindSide$Trial", "thing", "I", false)
  | 1 => ("BlindSide$Trial", "square", "I", false)
  | 2 => ("BlindSide$Trial", "bright", "I", false)
  | 3 => ("BlindSide$Trial", "sort", "I", false)
  | 4 => ("BlindSide$Trial", "guess", "I", false)
  | 5 => ("BlindSide$Trial", "said", "Z", false)
  | 6 => ("BlindSide$Trial", "sure", "I", false)
  | 7 => ("BlindSide$Trial", "moved", "Z", false)
  | _ => ("BlindSide$Trial", "told", "I", false)
def tyX10 : Nat → FieldType := fun k => match k with
  | 0 => .int
  | 1 => .int
  | 2 => .int
  | 3 => .int
  | 4 => .int
  | 5 => .boolean
  | 6 => .int
  | 7 => .boolean
  | _ => .int
abbrev wsX100 : List Cond := u_ws RX10 TX10 9
theorem nmX10 : ∀ a, a < 9 → ∀ b, b < 9 → a ≠ b → (TX10 a).2.1 ≠ (TX10 b).2.1 := by decide +kernel
theorem tyX10_ok : ∀ k, k < 9 → parseFieldDescriptor (TX10 k).2.2.1 = some (tyX10 k) := by decide +kernel
abbrev cX10_init : ByteArray := prog_12_method_1_code
def yX10_init : MethodName := ⟨RX10, "<init>", "()V"⟩
abbrev cX10_putShowing : ByteArray := prog_12_method_2_code
def yX10_putShowing : MethodName := ⟨RX10, "putShowing", "(IIII)V"⟩
abbrev cX10_putAnswer : ByteArray := prog_12_method_3_code
def yX10_putAnswer : MethodName := ⟨RX10, "putAnswer", "(IZI)V"⟩
abbrev cX10_isRight : ByteArray := prog_12_method_4_code
def yX10_isRight : MethodName := ⟨RX10, "isRight", "()Z"⟩
abbrev cX10_isLed : ByteArray := prog_12_method_5_code
def yX10_isLed : MethodName := ⟨RX10, "isLed", "()Z"⟩
abbrev cX10_isOf : ByteArray := prog_12_method_6_code
def yX10_isOf : MethodName := ⟨RX10, "isOf", "(I)Z"⟩
abbrev cX10_byteAt : ByteArray := prog_12_method_7_code
def yX10_byteAt : MethodName := ⟨RX10, "byteAt", "(I)I"⟩
abbrev cX10_take : ByteArray := prog_12_method_8_code
def yX10_take : MethodName := ⟨RX10, "take", "(LBlindSide$Tape;I)V"⟩
def RX11 : String := "BlindSide"
def TX11 : u_T := fun k => match k with
  | 0 => ("BlindSide", "tape", "LBlindSide$Tape;", true)
  | 1 => ("BlindSide", "reader", "LBlindSide$Reader;", true)
  | 2 => ("BlindSide", "reckoner", "LBlindSide$Reckoner;", true)
  | 3 => ("BlindSide", "ground", "LBlindSide$Field;", true)
  | 4 => ("BlindSide", "book", "LBlindSide$Book;", true)
  | 5 => ("BlindSide", "corridor", "LBlindSide$Corridor;", true)
  | 6 => ("BlindSide", "dice", "LBlindSide$Dice;", true)
  | 7 => ("BlindSide", "laws", "[LBlindSide$Script;", true)
  | 8 => ("BlindSide", "things", "LBlindSide$Script;", false)
  | 9 => ("BlindSide", "showing", "LBlindSide$Script;", false)
  | 10 => ("BlindSide", "spare", "LBlindSide$Script;", false)
  | 11 => ("BlindSide", "showOrder", "[I", true)
  | 12 => ("BlindSide", "showsListed", "I", false)
  | 13 => ("BlindSide", "showsInAll", "I", false)
  | 14 => ("BlindSide", "octets", "[I", true)
  | 15 => ("BlindSide", "octetCount", "I", false)
  | 16 => ("BlindSide", "chances", "[J", true)
  | _ => ("BlindSide", "helpers", "[I", true)
def tyX11 : Nat → FieldType := fun k => match k with
  | 0 => .object "BlindSide$Tape"
  | 1 => .object "BlindSide$Reader"
  | 2 => .object "BlindSide$Reckoner"
  | 3 => .object "BlindSide$Field"
  | 4 => .object "BlindSide$Book"
  | 5 => .object "BlindSide$Corridor"
  | 6 => .object "BlindSide$Dice"
  | 7 => .array (.object "BlindSide$Script")
  | 8 => .object "BlindSide$Script"
  | 9 => .object "BlindSide$Script"
  | 10 => .object "BlindSide$Script"
  | 11 => .array .int
  | 12 => .int
  | 13 => .int
  | 14 => .array .int
  | 15 => .int
  | 16 => .array .long
  | _ => .array .int
abbrev wsX110 : List Cond := u_ws RX11 TX11 18
theorem nmX11 : ∀ a, a < 18 → ∀ b, b < 18 → a ≠ b → (TX11 a).2.1 ≠ (TX11 b).2.1 := by decide +kernel
theorem tyX11_ok : ∀ k, k < 18 → parseFieldDescriptor (TX11 k).2.2.1 = some (tyX11 k) := by decide +kernel
abbrev cX11_init : ByteArray := prog_1_method_1_code
def yX11_init : MethodName := ⟨RX11, "<init>", "()V"⟩
abbrev cX11_feed : ByteArray := prog_1_method_2_code
def yX11_feed : MethodName := ⟨RX11, "feed", "(IIIII)I"⟩
abbrev cX11_end : ByteArray := prog_1_method_3_code
def yX11_end : MethodName := ⟨RX11, "end", "(I)Z"⟩
abbrev cX11_field : ByteArray := prog_1_method_4_code
def yX11_field : MethodName := ⟨RX11, "field", "()I"⟩
abbrev cX11_law : ByteArray := prog_1_method_5_code
def yX11_law : MethodName := ⟨RX11, "law", "(I)I"⟩
abbrev cX11_plan : ByteArray := prog_1_method_6_code
def yX11_plan : MethodName := ⟨RX11, "plan", "()I"⟩
abbrev cX11_fault : ByteArray := prog_1_method_7_code
def yX11_fault : MethodName := ⟨RX11, "fault", "(I)I"⟩
abbrev cX11_has : ByteArray := prog_1_method_8_code
def yX11_has : MethodName := ⟨RX11, "has", "(I)I"⟩
abbrev cX11_letter : ByteArray := prog_1_method_9_code
def yX11_letter : MethodName := ⟨RX11, "letter", "(III)I"⟩
abbrev cX11_listShows : ByteArray := prog_1_method_10_code
def yX11_listShows : MethodName := ⟨RX11, "listShows", "(III)V"⟩
abbrev cX11_listAgain : ByteArray := prog_1_method_11_code
def yX11_listAgain : MethodName := ⟨RX11, "listAgain", "(II)V"⟩
abbrev cX11_lawsThatStand : ByteArray := prog_1_method_12_code
def yX11_lawsThatStand : MethodName := ⟨RX11, "lawsThatStand", "()I"⟩
abbrev cX11_waysOf : ByteArray := prog_1_method_13_code
def yX11_waysOf : MethodName := ⟨RX11, "waysOf", "(I)I"⟩
abbrev cX11_lawAt : ByteArray := prog_1_method_14_code
def yX11_lawAt : MethodName := ⟨RX11, "lawAt", "(I)LBlindSide$Script;"⟩
abbrev cX11_sight : ByteArray := prog_1_method_15_code
def yX11_sight : MethodName := ⟨RX11, "sight", "(II)I"⟩
abbrev cX11_piece : ByteArray := prog_1_method_16_code
def yX11_piece : MethodName := ⟨RX11, "piece", "(II)I"⟩
abbrev cX11_pieceHas : ByteArray := prog_1_method_17_code
def yX11_pieceHas : MethodName := ⟨RX11, "pieceHas", "(II)I"⟩
abbrev cX11_light : ByteArray := prog_1_method_18_code
def yX11_light : MethodName := ⟨RX11, "light", "(III)I"⟩
abbrev cX11_isSquare : ByteArray := prog_1_method_19_code
def yX11_isSquare : MethodName := ⟨RX11, "isSquare", "(II)Z"⟩
abbrev cX11_squareAt : ByteArray := prog_1_method_20_code
def yX11_squareAt : MethodName := ⟨RX11, "squareAt", "(II)I"⟩
abbrev cX11_isBright : ByteArray := prog_1_method_21_code
def yX11_isBright : MethodName := ⟨RX11, "isBright", "(I)Z"⟩
abbrev cX11_carries : ByteArray := prog_1_method_22_code
def yX11_carries : MethodName := ⟨RX11, "carries", "(IIIIII)I"⟩
abbrev cX11_says : ByteArray := prog_1_method_23_code
def yX11_says : MethodName := ⟨RX11, "says", "(IIIII)I"⟩
abbrev cX11_whole : ByteArray := prog_1_method_24_code
def yX11_whole : MethodName := ⟨RX11, "whole", "(IIIIIIII)I"⟩
abbrev cX11_odds : ByteArray := prog_1_method_25_code
def yX11_odds : MethodName := ⟨RX11, "odds", "(IIIIIZZ)I"⟩
abbrev cX11_draw : ByteArray := prog_1_method_26_code
def yX11_draw : MethodName := ⟨RX11, "draw", "(IIIIIII)I"⟩
abbrev cX11_showsTold : ByteArray := prog_1_method_27_code
def yX11_showsTold : MethodName := ⟨RX11, "showsTold", "(IIII)Z"⟩
abbrev cX11_canShow : ByteArray := prog_1_method_28_code
def yX11_canShow : MethodName := ⟨RX11, "canShow", "(IIII)Z"⟩
abbrev cX11_putShowing : ByteArray := prog_1_method_29_code
def yX11_putShowing : MethodName := ⟨RX11, "putShowing", "(III)V"⟩
abbrev cX11_nearestBright : ByteArray := prog_1_method_30_code
def yX11_nearestBright : MethodName := ⟨RX11, "nearestBright", "(LBlindSide$Script;III)I"⟩
abbrev cX11_sortsOf : ByteArray := prog_1_method_31_code
def yX11_sortsOf : MethodName := ⟨RX11, "sortsOf", "(I)I"⟩
abbrev cX11_isSort : ByteArray := prog_1_method_32_code
def yX11_isSort : MethodName := ⟨RX11, "isSort", "(II)Z"⟩
abbrev cX11_oddsOver : ByteArray := prog_1_method_33_code
def yX11_oddsOver : MethodName := ⟨RX11, "oddsOver", "(IIZ)I"⟩
abbrev cX11_divisorOf : ByteArray := prog_1_method_34_code
def yX11_divisorOf : MethodName := ⟨RX11, "divisorOf", "(JJ)J"⟩
abbrev cX11_trial : ByteArray := prog_1_method_35_code
def yX11_trial : MethodName := ⟨RX11, "trial", "(IIIIIIZI)I"⟩
abbrev cX11_run : ByteArray := prog_1_method_36_code
def yX11_run : MethodName := ⟨RX11, "run", "(II)I"⟩
abbrev cX11_moved : ByteArray := prog_1_method_37_code
def yX11_moved : MethodName := ⟨RX11, "moved", "(III)Z"⟩
abbrev cX11_voice : ByteArray := prog_1_method_38_code
def yX11_voice : MethodName := ⟨RX11, "voice", "(II)Z"⟩
abbrev cX11_undo : ByteArray := prog_1_method_39_code
def yX11_undo : MethodName := ⟨RX11, "undo", "()I"⟩
abbrev cX11_tried : ByteArray := prog_1_method_40_code
def yX11_tried : MethodName := ⟨RX11, "tried", "(II)I"⟩
abbrev cX11_count : ByteArray := prog_1_method_41_code
def yX11_count : MethodName := ⟨RX11, "count", "(IIZ)I"⟩
abbrev cX11_chance : ByteArray := prog_1_method_42_code
def yX11_chance : MethodName := ⟨RX11, "chance", "(I)J"⟩
abbrev cX11_honest : ByteArray := prog_1_method_43_code
def yX11_honest : MethodName := ⟨RX11, "honest", "(I)J"⟩
abbrev cX11_needed : ByteArray := prog_1_method_44_code
def yX11_needed : MethodName := ⟨RX11, "needed", "(IJ)I"⟩
abbrev cX11_kind : ByteArray := prog_1_method_45_code
def yX11_kind : MethodName := ⟨RX11, "kind", "(II)I"⟩
abbrev cX11_kinds : ByteArray := prog_1_method_46_code
def yX11_kinds : MethodName := ⟨RX11, "kinds", "(II)I"⟩
abbrev cX11_weight : ByteArray := prog_1_method_47_code
def yX11_weight : MethodName := ⟨RX11, "weight", "(I)J"⟩
abbrev cX11_thrown : ByteArray := prog_1_method_48_code
def yX11_thrown : MethodName := ⟨RX11, "thrown", "(I)I"⟩
abbrev cX11_likely : ByteArray := prog_1_method_49_code
def yX11_likely : MethodName := ⟨RX11, "likely", "()I"⟩
abbrev cX11_lies : ByteArray := prog_1_method_50_code
def yX11_lies : MethodName := ⟨RX11, "lies", "(I)I"⟩
abbrev cX11_span : ByteArray := prog_1_method_51_code
def yX11_span : MethodName := ⟨RX11, "span", "(IZ)I"⟩
abbrev cX11_bound : ByteArray := prog_1_method_52_code
def yX11_bound : MethodName := ⟨RX11, "bound", "()I"⟩
abbrev cX11_left : ByteArray := prog_1_method_53_code
def yX11_left : MethodName := ⟨RX11, "left", "()I"⟩
abbrev cX11_fewest : ByteArray := prog_1_method_54_code
def yX11_fewest : MethodName := ⟨RX11, "fewest", "(IZ)I"⟩
abbrev cX11_runShow : ByteArray := prog_1_method_55_code
def yX11_runShow : MethodName := ⟨RX11, "runShow", "(LBlindSide$Script;LBlindSide$Statement;I)V"⟩
abbrev cX11_brightOf : ByteArray := prog_1_method_56_code
def yX11_brightOf : MethodName := ⟨RX11, "brightOf", "(LBlindSide$Statement;II)I"⟩
abbrev cX11_putTrial : ByteArray := prog_1_method_57_code
def yX11_putTrial : MethodName := ⟨RX11, "putTrial", "(LBlindSide$Trial;)V"⟩
abbrev cX11_isThingOrAll : ByteArray := prog_1_method_58_code
def yX11_isThingOrAll : MethodName := ⟨RX11, "isThingOrAll", "(I)Z"⟩
abbrev cX11_isWhere : ByteArray := prog_1_method_59_code
def yX11_isWhere : MethodName := ⟨RX11, "isWhere", "(LBlindSide$Trial;I)Z"⟩
abbrev cX11_chanceOf : ByteArray := prog_1_method_60_code
def yX11_chanceOf : MethodName := ⟨RX11, "chanceOf", "(IZ)J"⟩
abbrev cX11_spreadChances : ByteArray := prog_1_method_61_code
def yX11_spreadChances : MethodName := ⟨RX11, "spreadChances", "(II)V"⟩
abbrev cX11_kindOf : ByteArray := prog_1_method_62_code
def yX11_kindOf : MethodName := ⟨RX11, "kindOf", "(LBlindSide$Script;LBlindSide$Trial;)I"⟩
abbrev cX11_isScattered : ByteArray := prog_1_method_63_code
def yX11_isScattered : MethodName := ⟨RX11, "isScattered", "(LBlindSide$Trial;)Z"⟩
abbrev cX11_oddsOfGuess : ByteArray := prog_1_method_64_code
def yX11_oddsOfGuess : MethodName := ⟨RX11, "oddsOfGuess", "(LBlindSide$Script;LBlindSide$Trial;)I"⟩
abbrev cX11_weightOf : ByteArray := prog_1_method_65_code
def yX11_weightOf : MethodName := ⟨RX11, "weightOf", "(LBlindSide$Script;)J"⟩
abbrev cX11_listHelpers : ByteArray := prog_1_method_66_code
def yX11_listHelpers : MethodName := ⟨RX11, "listHelpers", "(LBlindSide$Script;)I"⟩
abbrev cX11_explains : ByteArray := prog_1_method_67_code
def yX11_explains : MethodName := ⟨RX11, "explains", "(II)Z"⟩
abbrev cX11_parted : ByteArray := prog_1_method_68_code
def yX11_parted : MethodName := ⟨RX11, "parted", "(IIIIII)I"⟩
abbrev cX11_next : ByteArray := prog_1_method_69_code
def yX11_next : MethodName := ⟨RX11, "next", "(IIII)I"⟩
abbrev cX11_partedBy : ByteArray := prog_1_method_70_code
def yX11_partedBy : MethodName := ⟨RX11, "partedBy", "(LBlindSide$Script;LBlindSide$Script;I)I"⟩
abbrev cX11_chair : ByteArray := prog_1_method_71_code
def yX11_chair : MethodName := ⟨RX11, "chair", "(IIZ)I"⟩
abbrev cX11_walks : ByteArray := prog_1_method_72_code
def yX11_walks : MethodName := ⟨RX11, "walks", "(I)I"⟩
abbrev cX11_walk : ByteArray := prog_1_method_73_code
def yX11_walk : MethodName := ⟨RX11, "walk", "(IZ)J"⟩
abbrev cX11_image : ByteArray := prog_1_method_74_code
def yX11_image : MethodName := ⟨RX11, "image", "()I"⟩
abbrev cX11_octet : ByteArray := prog_1_method_75_code
def yX11_octet : MethodName := ⟨RX11, "octet", "(I)I"⟩
abbrev cX11_on : ByteArray := prog_1_method_76_code
def yX11_on : MethodName := ⟨RX11, "on", "()Z"⟩
abbrev cX11_putOctet : ByteArray := prog_1_method_77_code
def yX11_putOctet : MethodName := ⟨RX11, "putOctet", "(I)V"⟩
abbrev cX11_checkedOn : ByteArray := prog_1_method_78_code
def yX11_checkedOn : MethodName := ⟨RX11, "checkedOn", "(II)I"⟩
abbrev cX11_imagePlace : ByteArray := prog_1_method_79_code
def yX11_imagePlace : MethodName := ⟨RX11, "imagePlace", "(I)I"⟩
abbrev cX11_isImage : ByteArray := prog_1_method_80_code
def yX11_isImage : MethodName := ⟨RX11, "isImage", "()Z"⟩
abbrev cX11_isTrial : ByteArray := prog_1_method_81_code
def yX11_isTrial : MethodName := ⟨RX11, "isTrial", "(I)Z"⟩
abbrev cX11_clamped : ByteArray := prog_1_method_82_code
def yX11_clamped : MethodName := ⟨RX11, "clamped", "(III)I"⟩
abbrev cX11_withLetter : ByteArray := prog_1_method_83_code
def yX11_withLetter : MethodName := ⟨RX11, "withLetter", "(III)I"⟩
abbrev cX11_letterOf : ByteArray := prog_1_method_84_code
def yX11_letterOf : MethodName := ⟨RX11, "letterOf", "(II)I"⟩
abbrev cX11_isLetter : ByteArray := prog_1_method_85_code
def yX11_isLetter : MethodName := ⟨RX11, "isLetter", "(I)Z"⟩
abbrev cX11_isDigit : ByteArray := prog_1_method_86_code
def yX11_isDigit : MethodName := ⟨RX11, "isDigit", "(I)Z"⟩
abbrev cX11_isBlank : ByteArray := prog_1_method_87_code
def yX11_isBlank : MethodName := ⟨RX11, "isBlank", "(I)Z"⟩
def RX12 : String := "BlindSideModel"
def TX12 : u_T := fun k => match k with
  | 0 => ("BlindSideModel", "tape", "[I", true)
  | 1 => ("BlindSideModel", "taped", "I", false)
  | 2 => ("BlindSideModel", "at", "I", false)
  | 3 => ("BlindSideModel", "end", "I", false)
  | 4 => ("BlindSideModel", "ended", "I", false)
  | 5 => ("BlindSideModel", "bad", "I", false)
  | 6 => ("BlindSideModel", "badPlace", "I", false)
  | 7 => ("BlindSideModel", "fault", "I", false)
  | 8 => ("BlindSideModel", "faultPlace", "I", false)
  | 9 => ("BlindSideModel", "sightWord", "[C", true)
  | 10 => ("BlindSideModel", "discWord", "[C", true)
  | 11 => ("BlindSideModel", "thingWord", "[C", true)
  | 12 => ("BlindSideModel", "wayWord", "[C", true)
  | 13 => ("BlindSideModel", "knowsWord", "[C", true)
  | 14 => ("BlindSideModel", "blindWord", "[C", true)
  | 15 => ("BlindSideModel", "lineWord", "[C", true)
  | 16 => ("BlindSideModel", "showWord", "[C", true)
  | 17 => ("BlindSideModel", "timesWord", "[C", true)
  | 18 => ("BlindSideModel", "whenWord", "[C", true)
  | 19 => ("BlindSideModel", "orWord", "[C", true)
  | 20 => ("BlindSideModel", "andWord", "[C", true)
  | 21 => ("BlindSideModel", "notWord", "[C", true)
  | 22 => ("BlindSideModel", "allWord", "[C", true)
  | 23 => ("BlindSideModel", "columnWord", "[C", true)
  | 24 => ("BlindSideModel", "rowWord", "[C", true)
  | 25 => ("BlindSideModel", "brightWord", "[C", true)
  | 26 => ("BlindSideModel", "lightWord", "[C", true)
  | 27 => ("BlindSideModel", "kindWord", "[C", true)
  | 28 => ("BlindSideModel", "minWord", "[C", true)
  | 29 => ("BlindSideModel", "maxWord", "[C", true)
  | 30 => ("BlindSideModel", "namePlace", "I", false)
  | 31 => ("BlindSideModel", "codes", "[I", true)
  | 32 => ("BlindSideModel", "coded", "I", false)
  | 33 => ("BlindSideModel", "wait", "[I", true)
  | 34 => ("BlindSideModel", "waits", "I", false)
  | 35 => ("BlindSideModel", "open", "I", false)
  | 36 => ("BlindSideModel", "statements", "I", false)
  | 37 => ("BlindSideModel", "rules", "[I", true)
  | 38 => ("BlindSideModel", "ruleFrom", "[I", true)
  | 39 => ("BlindSideModel", "ruleMid", "[I", true)
  | 40 => ("BlindSideModel", "ruleEnd", "[I", true)
  | 41 => ("BlindSideModel", "ways", "[I", true)
  | 42 => ("BlindSideModel", "wayName", "[J", true)
  | 43 => ("BlindSideModel", "wayKnows", "[Z", true)
  | 44 => ("BlindSideModel", "wayFrom", "[I", true)
  | 45 => ("BlindSideModel", "wayMid", "[I", true)
  | 46 => ("BlindSideModel", "wayEnd", "[I", true)
  | 47 => ("BlindSideModel", "things", "[I", true)
  | 48 => ("BlindSideModel", "thingName", "[J", true)
  | 49 => ("BlindSideModel", "thingSorts", "[I", true)
  | 50 => ("BlindSideModel", "disc", "[I", true)
  | 51 => ("BlindSideModel", "base", "I", false)
  | 52 => ("BlindSideModel", "nested", "I", false)
  | 53 => ("BlindSideModel", "steps", "[I", true)
  | 54 => ("BlindSideModel", "stepSort", "[I", true)
  | 55 => ("BlindSideModel", "stepThing", "[I", true)
  | 56 => ("BlindSideModel", "stepSquare", "[I", true)
  | 57 => ("BlindSideModel", "stepFrom", "[I", true)
  | 58 => ("BlindSideModel", "stepEnd", "[I", true)
  | 59 => ("BlindSideModel", "stepTimes", "[I", true)
  | 60 => ("BlindSideModel", "hasPlan", "Z", false)
  | 61 => ("BlindSideModel", "roundFrom", "[I", true)
  | 62 => ("BlindSideModel", "roundLeft", "[I", true)
  | 63 => ("BlindSideModel", "roundShows", "[J", true)
  | 64 => ("BlindSideModel", "runsOn", "J", false)
  | 65 => ("BlindSideModel", "isThere", "[Z", true)
  | 66 => ("BlindSideModel", "pile", "[J", true)
  | 67 => ("BlindSideModel", "piled", "I", false)
  | 68 => ("BlindSideModel", "toldColumn", "I", false)
  | 69 => ("BlindSideModel", "toldRow", "I", false)
  | 70 => ("BlindSideModel", "toldBright", "I", false)
  | 71 => ("BlindSideModel", "toldSight", "I", false)
  | 72 => ("BlindSideModel", "toldLight", "I", false)
  | 73 => ("BlindSideModel", "toldKind", "I", false)
  | 74 => ("BlindSideModel", "sights", "[I", true)
  | 75 => ("BlindSideModel", "pieceOf", "[I", true)
  | 76 => ("BlindSideModel", "pieceSize", "[I", true)
  | 77 => ("BlindSideModel", "pieceFirst", "[I", true)
  | 78 => ("BlindSideModel", "pieces", "I", false)
  | 79 => ("BlindSideModel", "trials", "I", false)
  | 80 => ("BlindSideModel", "trialThing", "[I", true)
  | 81 => ("BlindSideModel", "trialSquare", "[I", true)
  | 82 => ("BlindSideModel", "trialBright", "[I", true)
  | 83 => ("BlindSideModel", "trialSort", "[I", true)
  | 84 => ("BlindSideModel", "trialGuess", "[I", true)
  | 85 => ("BlindSideModel", "trialSaid", "[Z", true)
  | 86 => ("BlindSideModel", "trialMoved", "[Z", true)
  | 87 => ("BlindSideModel", "trialVoice", "[I", true)
  | 88 => ("BlindSideModel", "trialSure", "[I", true)
  | 89 => ("BlindSideModel", "chances", "[J", true)
  | 90 => ("BlindSideModel", "masks", "[I", true)
  | 91 => ("BlindSideModel", "chairs", "[Z", true)
  | 92 => ("BlindSideModel", "here", "[J", true)
  | 93 => ("BlindSideModel", "then", "[J", true)
  | 94 => ("BlindSideModel", "octet", "[I", true)
  | _ => ("BlindSideModel", "octets", "I", false)
def tyX12 : Nat → FieldType := fun k => match k with
  | 0 => .array .int
  | 1 => .int
  | 2 => .int
  | 3 => .int
  | 4 => .int
  | 5 => .int
  | 6 => .int
  | 7 => .int
  | 8 => .int
  | 9 => .array .char
  | 10 => .array .char
  | 11 => .array .char
  | 12 => .array .char
  | 13 => .array .char
  | 14 => .array .char
  | 15 => .array .char
  | 16 => .array .char
  | 17 => .array .char
  | 18 => .array .char
  | 19 => .array .char
  | 20 => .array .char
  | 21 => .array .char
  | 22 => .array .char
  | 23 => .array .char
  | 24 => .array .char
  | 25 => .array .char
  | 26 => .array .char
  | 27 => .array .char
  | 28 => .array .char
  | 29 => .array .char
  | 30 => .int
  | 31 => .array .int
  | 32 => .int
  | 33 => .array .int
  | 34 => .int
  | 35 => .int
  | 36 => .int
  | 37 => .array .int
  | 38 => .array .int
  | 39 => .array .int
  | 40 => .array .int
  | 41 => .array .int
  | 42 => .array .long
  | 43 => .array .boolean
  | 44 => .array .int
  | 45 => .array .int
  | 46 => .array .int
  | 47 => .array .int
  | 48 => .array .long
  | 49 => .array .int
  | 50 => .array .int
  | 51 => .int
  | 52 => .int
  | 53 => .array .int
  | 54 => .array .int
  | 55 => .array .int
  | 56 => .array .int
  | 57 => .array .int
  | 58 => .array .int
  | 59 => .array .int
  | 60 => .boolean
  | 61 => .array .int
  | 62 => .array .int
  | 63 => .array .long
  | 64 => .long
  | 65 => .array .boolean
  | 66 => .array .long
  | 67 => .int
  | 68 => .int
  | 69 => .int
  | 70 => .int
  | 71 => .int
  | 72 => .int
  | 73 => .int
  | 74 => .array .int
  | 75 => .array .int
  | 76 => .array .int
  | 77 => .array .int
  | 78 => .int
  | 79 => .int
  | 80 => .array .int
  | 81 => .array .int
  | 82 => .array .int
  | 83 => .array .int
  | 84 => .array .int
  | 85 => .array .boolean
  | 86 => .array .boolean
  | 87 => .array .int
  | 88 => .array .int
  | 89 => .array .long
  | 90 => .array .int
  | 91 => .array .boolean
  | 92 => .array .long
  | 93 => .array .long
  | 94 => .array .int
  | _ => .int
abbrev wsX120 : List Cond := u_ws RX12 TX12 96
theorem nmX12 : ∀ a, a < 96 → ∀ b, b < 96 → a ≠ b → (TX12 a).2.1 ≠ (TX12 b).2.1 := by decide +kernel
theorem tyX12_ok : ∀ k, k < 96 → parseFieldDescriptor (TX12 k).2.2.1 = some (tyX12 k) := by decide +kernel
abbrev cX12_init : ByteArray := prog_14_method_1_code
def yX12_init : MethodName := ⟨RX12, "<init>", "()V"⟩
abbrev cX12_isIn : ByteArray := prog_14_method_2_code
def yX12_isIn : MethodName := ⟨RX12, "isIn", "(JJJ)Z"⟩
abbrev cX12_feed : ByteArray := prog_14_method_3_code
def yX12_feed : MethodName := ⟨RX12, "feed", "(IIIII)I"⟩
abbrev cX12_end : ByteArray := prog_14_method_4_code
def yX12_end : MethodName := ⟨RX12, "end", "(I)Z"⟩
abbrev cX12_fail : ByteArray := prog_14_method_5_code
def yX12_fail : MethodName := ⟨RX12, "fail", "(II)V"⟩
abbrev cX12_isLetter : ByteArray := prog_14_method_6_code
def yX12_isLetter : MethodName := ⟨RX12, "isLetter", "(I)Z"⟩
abbrev cX12_isDigit : ByteArray := prog_14_method_7_code
def yX12_isDigit : MethodName := ⟨RX12, "isDigit", "(I)Z"⟩
abbrev cX12_look : ByteArray := prog_14_method_8_code
def yX12_look : MethodName := ⟨RX12, "look", "()I"⟩
abbrev cX12_isHere : ByteArray := prog_14_method_9_code
def yX12_isHere : MethodName := ⟨RX12, "isHere", "([C)Z"⟩
abbrev cX12_takes : ByteArray := prog_14_method_10_code
def yX12_takes : MethodName := ⟨RX12, "takes", "([C)Z"⟩
abbrev cX12_asks : ByteArray := prog_14_method_11_code
def yX12_asks : MethodName := ⟨RX12, "asks", "([C)V"⟩
abbrev cX12_takesSign : ByteArray := prog_14_method_12_code
def yX12_takesSign : MethodName := ⟨RX12, "takesSign", "(I)Z"⟩
abbrev cX12_asksSign : ByteArray := prog_14_method_13_code
def yX12_asksSign : MethodName := ⟨RX12, "asksSign", "(I)V"⟩
abbrev cX12_number : ByteArray := prog_14_method_14_code
def yX12_number : MethodName := ⟨RX12, "number", "(II)I"⟩
abbrev cX12_isOwnHere : ByteArray := prog_14_method_15_code
def yX12_isOwnHere : MethodName := ⟨RX12, "isOwnHere", "()Z"⟩
abbrev cX12_name : ByteArray := prog_14_method_16_code
def yX12_name : MethodName := ⟨RX12, "name", "()J"⟩
abbrev cX12_code : ByteArray := prog_14_method_17_code
def yX12_code : MethodName := ⟨RX12, "code", "(I)V"⟩
abbrev cX12_opens : ByteArray := prog_14_method_18_code
def yX12_opens : MethodName := ⟨RX12, "opens", "(II)V"⟩
abbrev cX12_isOn : ByteArray := prog_14_method_19_code
def yX12_isOn : MethodName := ⟨RX12, "isOn", "(I)Z"⟩
abbrev cX12_drops : ByteArray := prog_14_method_20_code
def yX12_drops : MethodName := ⟨RX12, "drops", "()V"⟩
abbrev cX12_isMark : ByteArray := prog_14_method_21_code
def yX12_isMark : MethodName := ⟨RX12, "isMark", "(I)Z"⟩
abbrev cX12_mark : ByteArray := prog_14_method_22_code
def yX12_mark : MethodName := ⟨RX12, "mark", "()I"⟩
abbrev cX12_dropsToMark : ByteArray := prog_14_method_23_code
def yX12_dropsToMark : MethodName := ⟨RX12, "dropsToMark", "()V"⟩
abbrev cX12_onePart : ByteArray := prog_14_method_24_code
def yX12_onePart : MethodName := ⟨RX12, "onePart", "()V"⟩
abbrev cX12_goesOn : ByteArray := prog_14_method_25_code
def yX12_goesOn : MethodName := ⟨RX12, "goesOn", "()Z"⟩
abbrev cX12_sums : ByteArray := prog_14_method_26_code
def yX12_sums : MethodName := ⟨RX12, "sums", "()V"⟩
abbrev cX12_fact : ByteArray := prog_14_method_27_code
def yX12_fact : MethodName := ⟨RX12, "fact", "()V"⟩
abbrev cX12_hasSquare : ByteArray := prog_14_method_28_code
def yX12_hasSquare : MethodName := ⟨RX12, "hasSquare", "()Z"⟩
abbrev cX12_dropsNots : ByteArray := prog_14_method_29_code
def yX12_dropsNots : MethodName := ⟨RX12, "dropsNots", "()V"⟩
abbrev cX12_test : ByteArray := prog_14_method_30_code
def yX12_test : MethodName := ⟨RX12, "test", "()V"⟩
abbrev cX12_goesOnTest : ByteArray := prog_14_method_31_code
def yX12_goesOnTest : MethodName := ⟨RX12, "goesOnTest", "()Z"⟩
abbrev cX12_readsSum : ByteArray := prog_14_method_32_code
def yX12_readsSum : MethodName := ⟨RX12, "readsSum", "()V"⟩
abbrev cX12_readsTest : ByteArray := prog_14_method_33_code
def yX12_readsTest : MethodName := ⟨RX12, "readsTest", "()V"⟩
abbrev cX12_ruleTold : ByteArray := prog_14_method_34_code
def yX12_ruleTold : MethodName := ⟨RX12, "ruleTold", "()V"⟩
abbrev cX12_thingTold : ByteArray := prog_14_method_35_code
def yX12_thingTold : MethodName := ⟨RX12, "thingTold", "(I)V"⟩
abbrev cX12_discTold : ByteArray := prog_14_method_36_code
def yX12_discTold : MethodName := ⟨RX12, "discTold", "()V"⟩
abbrev cX12_wayTold : ByteArray := prog_14_method_37_code
def yX12_wayTold : MethodName := ⟨RX12, "wayTold", "(I)V"⟩
abbrev cX12_statement : ByteArray := prog_14_method_38_code
def yX12_statement : MethodName := ⟨RX12, "statement", "(Z)V"⟩
abbrev cX12_step : ByteArray := prog_14_method_39_code
def yX12_step : MethodName := ⟨RX12, "step", "(I)V"⟩
abbrev cX12_showTold : ByteArray := prog_14_method_40_code
def yX12_showTold : MethodName := ⟨RX12, "showTold", "()V"⟩
abbrev cX12_timesTold : ByteArray := prog_14_method_41_code
def yX12_timesTold : MethodName := ⟨RX12, "timesTold", "()V"⟩
abbrev cX12_planned : ByteArray := prog_14_method_42_code
def yX12_planned : MethodName := ⟨RX12, "planned", "()V"⟩
abbrev cX12_plan : ByteArray := prog_14_method_43_code
def yX12_plan : MethodName := ⟨RX12, "plan", "()I"⟩
abbrev cX12_cut : ByteArray := prog_14_method_44_code
def yX12_cut : MethodName := ⟨RX12, "cut", "(J)J"⟩
abbrev cX12_showings : ByteArray := prog_14_method_45_code
def yX12_showings : MethodName := ⟨RX12, "showings", "()I"⟩
abbrev cX12_runShowing : ByteArray := prog_14_method_46_code
def yX12_runShowing : MethodName := ⟨RX12, "runShowing", "(III)V"⟩
abbrev cX12_run : ByteArray := prog_14_method_47_code
def yX12_run : MethodName := ⟨RX12, "run", "(II)I"⟩
abbrev cX12_begins : ByteArray := prog_14_method_48_code
def yX12_begins : MethodName := ⟨RX12, "begins", "()V"⟩
abbrev cX12_reads : ByteArray := prog_14_method_49_code
def yX12_reads : MethodName := ⟨RX12, "reads", "(I)Z"⟩
abbrev cX12_stands : ByteArray := prog_14_method_50_code
def yX12_stands : MethodName := ⟨RX12, "stands", "(I)V"⟩
abbrev cX12_field : ByteArray := prog_14_method_51_code
def yX12_field : MethodName := ⟨RX12, "field", "()I"⟩
abbrev cX12_law : ByteArray := prog_14_method_52_code
def yX12_law : MethodName := ⟨RX12, "law", "(I)I"⟩
abbrev cX12_fault : ByteArray := prog_14_method_53_code
def yX12_fault : MethodName := ⟨RX12, "fault", "(I)I"⟩
abbrev cX12_isThing : ByteArray := prog_14_method_54_code
def yX12_isThing : MethodName := ⟨RX12, "isThing", "(I)Z"⟩
abbrev cX12_isLaw : ByteArray := prog_14_method_55_code
def yX12_isLaw : MethodName := ⟨RX12, "isLaw", "(I)Z"⟩
abbrev cX12_isSquare : ByteArray := prog_14_method_56_code
def yX12_isSquare : MethodName := ⟨RX12, "isSquare", "(II)Z"⟩
abbrev cX12_has : ByteArray := prog_14_method_57_code
def yX12_has : MethodName := ⟨RX12, "has", "(I)I"⟩
abbrev cX12_letter : ByteArray := prog_14_method_58_code
def yX12_letter : MethodName := ⟨RX12, "letter", "(III)I"⟩
abbrev cX12_clip : ByteArray := prog_14_method_59_code
def yX12_clip : MethodName := ⟨RX12, "clip", "(J)J"⟩
abbrev cX12_floor : ByteArray := prog_14_method_60_code
def yX12_floor : MethodName := ⟨RX12, "floor", "(JJ)J"⟩
abbrev cX12_puts : ByteArray := prog_14_method_61_code
def yX12_puts : MethodName := ⟨RX12, "puts", "(J)V"⟩
abbrev cX12_joins : ByteArray := prog_14_method_62_code
def yX12_joins : MethodName := ⟨RX12, "joins", "(I)V"⟩
abbrev cX12_tells : ByteArray := prog_14_method_63_code
def yX12_tells : MethodName := ⟨RX12, "tells", "(II)J"⟩
abbrev cX12_ruled : ByteArray := prog_14_method_64_code
def yX12_ruled : MethodName := ⟨RX12, "ruled", "(III)I"⟩
abbrev cX12_tellsSight : ByteArray := prog_14_method_65_code
def yX12_tellsSight : MethodName := ⟨RX12, "tellsSight", "()V"⟩
abbrev cX12_sight : ByteArray := prog_14_method_66_code
def yX12_sight : MethodName := ⟨RX12, "sight", "(II)I"⟩
abbrev cX12_tellsPieces : ByteArray := prog_14_method_67_code
def yX12_tellsPieces : MethodName := ⟨RX12, "tellsPieces", "()V"⟩
abbrev cX12_spreads : ByteArray := prog_14_method_68_code
def yX12_spreads : MethodName := ⟨RX12, "spreads", "()Z"⟩
abbrev cX12_seenSide : ByteArray := prog_14_method_69_code
def yX12_seenSide : MethodName := ⟨RX12, "seenSide", "()I"⟩
abbrev cX12_isIsland : ByteArray := prog_14_method_70_code
def yX12_isIsland : MethodName := ⟨RX12, "isIsland", "(I)Z"⟩
abbrev cX12_piece : ByteArray := prog_14_method_71_code
def yX12_piece : MethodName := ⟨RX12, "piece", "(II)I"⟩
abbrev cX12_pieceHas : ByteArray := prog_14_method_72_code
def yX12_pieceHas : MethodName := ⟨RX12, "pieceHas", "(II)I"⟩
abbrev cX12_lightAt : ByteArray := prog_14_method_73_code
def yX12_lightAt : MethodName := ⟨RX12, "lightAt", "(II)I"⟩
abbrev cX12_light : ByteArray := prog_14_method_74_code
def yX12_light : MethodName := ⟨RX12, "light", "(III)I"⟩
abbrev cX12_shows : ByteArray := prog_14_method_75_code
def yX12_shows : MethodName := ⟨RX12, "shows", "(III)V"⟩
abbrev cX12_carriedBy : ByteArray := prog_14_method_76_code
def yX12_carriedBy : MethodName := ⟨RX12, "carriedBy", "(II)I"⟩
abbrev cX12_carried : ByteArray := prog_14_method_77_code
def yX12_carried : MethodName := ⟨RX12, "carried", "(IZ)I"⟩
abbrev cX12_lineOf : ByteArray := prog_14_method_78_code
def yX12_lineOf : MethodName := ⟨RX12, "lineOf", "(I)I"⟩
abbrev cX12_isSaid : ByteArray := prog_14_method_79_code
def yX12_isSaid : MethodName := ⟨RX12, "isSaid", "(I)Z"⟩
abbrev cX12_isShowing : ByteArray := prog_14_method_80_code
def yX12_isShowing : MethodName := ⟨RX12, "isShowing", "(IIII)Z"⟩
abbrev cX12_carries : ByteArray := prog_14_method_81_code
def yX12_carries : MethodName := ⟨RX12, "carries", "(IIIIII)I"⟩
abbrev cX12_says : ByteArray := prog_14_method_82_code
def yX12_says : MethodName := ⟨RX12, "says", "(IIIII)I"⟩
abbrev cX12_above : ByteArray := prog_14_method_83_code
def yX12_above : MethodName := ⟨RX12, "above", "(IIZ)I"⟩
abbrev cX12_common : ByteArray := prog_14_method_84_code
def yX12_common : MethodName := ⟨RX12, "common", "(JJ)J"⟩
abbrev cX12_odds : ByteArray := prog_14_method_85_code
def yX12_odds : MethodName := ⟨RX12, "odds", "(IIIIIZZ)I"⟩
abbrev cX12_goesOn_ : ByteArray := prog_14_method_86_code
def yX12_goesOn_ : MethodName := ⟨RX12, "goesOn", "(J)J"⟩
abbrev cX12_draw : ByteArray := prog_14_method_87_code
def yX12_draw : MethodName := ⟨RX12, "draw", "(IIIIIII)I"⟩
abbrev cX12_isTrial : ByteArray := prog_14_method_88_code
def yX12_isTrial : MethodName := ⟨RX12, "isTrial", "(IIII)Z"⟩
abbrev cX12_lays : ByteArray := prog_14_method_89_code
def yX12_lays : MethodName := ⟨RX12, "lays", "(IIIIIIZI)V"⟩
abbrev cX12_moved : ByteArray := prog_14_method_90_code
def yX12_moved : MethodName := ⟨RX12, "moved", "(III)Z"⟩
abbrev cX12_voice : ByteArray := prog_14_method_91_code
def yX12_voice : MethodName := ⟨RX12, "voice", "(II)Z"⟩
abbrev cX12_isLed : ByteArray := prog_14_method_92_code
def yX12_isLed : MethodName := ⟨RX12, "isLed", "(I)Z"⟩
abbrev cX12_kindOf : ByteArray := prog_14_method_93_code
def yX12_kindOf : MethodName := ⟨RX12, "kindOf", "(II)I"⟩
abbrev cX12_kind : ByteArray := prog_14_method_94_code
def yX12_kind : MethodName := ⟨RX12, "kind", "(II)I"⟩
abbrev cX12_kinds : ByteArray := prog_14_method_95_code
def yX12_kinds : MethodName := ⟨RX12, "kinds", "(II)I"⟩
abbrev cX12_trial : ByteArray := prog_14_method_96_code
def yX12_trial : MethodName := ⟨RX12, "trial", "(IIIIIIZI)I"⟩
abbrev cX12_undo : ByteArray := prog_14_method_97_code
def yX12_undo : MethodName := ⟨RX12, "undo", "()I"⟩
abbrev cX12_isRight : ByteArray := prog_14_method_98_code
def yX12_isRight : MethodName := ⟨RX12, "isRight", "(I)Z"⟩
abbrev cX12_showsTrial : ByteArray := prog_14_method_99_code
def yX12_showsTrial : MethodName := ⟨RX12, "showsTrial", "(I)V"⟩
abbrev cX12_tried : ByteArray := prog_14_method_100_code
def yX12_tried : MethodName := ⟨RX12, "tried", "(II)I"⟩
abbrev cX12_isGone : ByteArray := prog_14_method_101_code
def yX12_isGone : MethodName := ⟨RX12, "isGone", "(I)Z"⟩
abbrev cX12_isWhere : ByteArray := prog_14_method_102_code
def yX12_isWhere : MethodName := ⟨RX12, "isWhere", "(II)Z"⟩
abbrev cX12_isOf : ByteArray := prog_14_method_103_code
def yX12_isOf : MethodName := ⟨RX12, "isOf", "(II)Z"⟩
abbrev cX12_count : ByteArray := prog_14_method_104_code
def yX12_count : MethodName := ⟨RX12, "count", "(IIZ)I"⟩
abbrev cX12_chance : ByteArray := prog_14_method_105_code
def yX12_chance : MethodName := ⟨RX12, "chance", "(I)J"⟩
abbrev cX12_honest : ByteArray := prog_14_method_106_code
def yX12_honest : MethodName := ⟨RX12, "honest", "(I)J"⟩
abbrev cX12_needed : ByteArray := prog_14_method_107_code
def yX12_needed : MethodName := ⟨RX12, "needed", "(IJ)I"⟩
abbrev cX12_chanceOf : ByteArray := prog_14_method_108_code
def yX12_chanceOf : MethodName := ⟨RX12, "chanceOf", "(IZ)J"⟩
abbrev cX12_guessedAbove : ByteArray := prog_14_method_109_code
def yX12_guessedAbove : MethodName := ⟨RX12, "guessedAbove", "(II)I"⟩
abbrev cX12_weightOf : ByteArray := prog_14_method_110_code
def yX12_weightOf : MethodName := ⟨RX12, "weightOf", "(I)J"⟩
abbrev cX12_weight : ByteArray := prog_14_method_111_code
def yX12_weight : MethodName := ⟨RX12, "weight", "(I)J"⟩
abbrev cX12_thrown : ByteArray := prog_14_method_112_code
def yX12_thrown : MethodName := ⟨RX12, "thrown", "(I)I"⟩
abbrev cX12_likely : ByteArray := prog_14_method_113_code
def yX12_likely : MethodName := ⟨RX12, "likely", "()I"⟩
abbrev cX12_lies : ByteArray := prog_14_method_114_code
def yX12_lies : MethodName := ⟨RX12, "lies", "(I)I"⟩
abbrev cX12_span : ByteArray := prog_14_method_115_code
def yX12_span : MethodName := ⟨RX12, "span", "(IZ)I"⟩
abbrev cX12_bound : ByteArray := prog_14_method_116_code
def yX12_bound : MethodName := ⟨RX12, "bound", "()I"⟩
abbrev cX12_left : ByteArray := prog_14_method_117_code
def yX12_left : MethodName := ⟨RX12, "left", "()I"⟩
abbrev cX12_fewest : ByteArray := prog_14_method_118_code
def yX12_fewest : MethodName := ⟨RX12, "fewest", "(IZ)I"⟩
abbrev cX12_isEnough : ByteArray := prog_14_method_119_code
def yX12_isEnough : MethodName := ⟨RX12, "isEnough", "(II)Z"⟩
abbrev cX12_many : ByteArray := prog_14_method_120_code
def yX12_many : MethodName := ⟨RX12, "many", "(I)I"⟩
abbrev cX12_partedAt : ByteArray := prog_14_method_121_code
def yX12_partedAt : MethodName := ⟨RX12, "partedAt", "(IIIII)I"⟩
abbrev cX12_whole : ByteArray := prog_14_method_122_code
def yX12_whole : MethodName := ⟨RX12, "whole", "(IIIIIIII)I"⟩
abbrev cX12_parted : ByteArray := prog_14_method_123_code
def yX12_parted : MethodName := ⟨RX12, "parted", "(IIIIII)I"⟩
abbrev cX12_next : ByteArray := prog_14_method_124_code
def yX12_next : MethodName := ⟨RX12, "next", "(IIII)I"⟩
abbrev cX12_chair : ByteArray := prog_14_method_125_code
def yX12_chair : MethodName := ⟨RX12, "chair", "(IIZ)I"⟩
abbrev cX12_walked : ByteArray := prog_14_method_126_code
def yX12_walked : MethodName := ⟨RX12, "walked", "(IZ)J"⟩
abbrev cX12_walks : ByteArray := prog_14_method_127_code
def yX12_walks : MethodName := ⟨RX12, "walks", "(I)I"⟩
abbrev cX12_walk : ByteArray := prog_14_method_128_code
def yX12_walk : MethodName := ⟨RX12, "walk", "(IZ)J"⟩
abbrev cX12_writes : ByteArray := prog_14_method_129_code
def yX12_writes : MethodName := ⟨RX12, "writes", "(I)V"⟩
abbrev cX12_checked : ByteArray := prog_14_method_130_code
def yX12_checked : MethodName := ⟨RX12, "checked", "([II)I"⟩
abbrev cX12_image : ByteArray := prog_14_method_131_code
def yX12_image : MethodName := ⟨RX12, "image", "()I"⟩
abbrev cX12_octet : ByteArray := prog_14_method_132_code
def yX12_octet : MethodName := ⟨RX12, "octet", "(I)I"⟩
abbrev cX12_on : ByteArray := prog_14_method_133_code
def yX12_on : MethodName := ⟨RX12, "on", "()Z"⟩
abbrev cX12_isTold : ByteArray := prog_14_method_134_code
def yX12_isTold : MethodName := ⟨RX12, "isTold", "(I)Z"⟩
def RJ6 : String := "java/lang/Integer"
def TJ6 : u_T := fun k => match k with
  | _ => ("", "", "", false)
def tyJ6 : Nat → FieldType := fun k => match k with
  | _ => .int
abbrev cJ6_bitCount_0f7a4 : ByteArray := prog_15_method_49_code
def yJ6_bitCount_0f7a4 : MethodName := ⟨RJ6, "bitCount", "(I)I"⟩
def RJ9 : String := "java/lang/Math"
def TJ9 : u_T := fun k => match k with
  | _ => ("", "", "", false)
def tyJ9 : Nat → FieldType := fun k => match k with
  | _ => .int
abbrev cJ9_floorDiv_7cf53 : ByteArray := prog_16_method_47_code
def yJ9_floorDiv_7cf53 : MethodName := ⟨RJ9, "floorDiv", "(II)I"⟩
abbrev cJ9_abs_0f7a4 : ByteArray := prog_16_method_59_code
def yJ9_abs_0f7a4 : MethodName := ⟨RJ9, "abs", "(I)I"⟩
abbrev cJ9_abs_067f4 : ByteArray := prog_16_method_61_code
def yJ9_abs_067f4 : MethodName := ⟨RJ9, "abs", "(J)J"⟩
abbrev cJ9_max_7cf53 : ByteArray := prog_16_method_65_code
def yJ9_max_7cf53 : MethodName := ⟨RJ9, "max", "(II)I"⟩
abbrev cJ9_max_f86c9 : ByteArray := prog_16_method_66_code
def yJ9_max_f86c9 : MethodName := ⟨RJ9, "max", "(JJ)J"⟩
abbrev cJ9_min_7cf53 : ByteArray := prog_16_method_69_code
def yJ9_min_7cf53 : MethodName := ⟨RJ9, "min", "(II)I"⟩
def RJ0 : String := "java/lang/String"
def TJ0 : u_T := fun k => match k with
  | _ => ("", "", "", false)
def tyJ0 : Nat → FieldType := fun k => match k with
  | _ => .int
abbrev cJ0_length_8abf5 : ByteArray := prog_17_method_54_code
def yJ0_length_8abf5 : MethodName := ⟨RJ0, "length", "()I"⟩
abbrev cJ0_charAt_5068e : ByteArray := prog_17_method_56_code
def yJ0_charAt_5068e : MethodName := ⟨RJ0, "charAt", "(I)C"⟩
abbrev cJ0_coder_7d493 : ByteArray := prog_17_method_152_code
def yJ0_coder_7d493 : MethodName := ⟨RJ0, "coder", "()B"⟩
abbrev cJ0_isLatin1_aae02 : ByteArray := prog_17_method_154_code
def yJ0_isLatin1_aae02 : MethodName := ⟨RJ0, "isLatin1", "()Z"⟩
abbrev cJ0_checkIndex_df160 : ByteArray := prog_17_method_155_code
def yJ0_checkIndex_df160 : MethodName := ⟨RJ0, "checkIndex", "(II)V"⟩
def RJ1 : String := "java/lang/StringLatin1"
def TJ1 : u_T := fun k => match k with
  | _ => ("", "", "", false)
def tyJ1 : Nat → FieldType := fun k => match k with
  | _ => .int
abbrev cJ1_charAt_3b067 : ByteArray := prog_18_method_2_code
def yJ1_charAt_3b067 : MethodName := ⟨RJ1, "charAt", "([BI)C"⟩
def RJ2 : String := "java/lang/StringUTF16"
def TJ2 : u_T := fun k => match k with
  | _ => ("", "", "", false)
def tyJ2 : Nat → FieldType := fun k => match k with
  | _ => .int
abbrev cJ2_getChar_3b067 : ByteArray := prog_19_method_5_code
def yJ2_getChar_3b067 : MethodName := ⟨RJ2, "getChar", "([BI)C"⟩
abbrev cJ2_length_9d52b : ByteArray := prog_19_method_6_code
def yJ2_length_9d52b : MethodName := ⟨RJ2, "length", "([B)I"⟩
abbrev cJ2_charAt_3b067 : ByteArray := prog_19_method_83_code
def yJ2_charAt_3b067 : MethodName := ⟨RJ2, "charAt", "([BI)C"⟩
abbrev cJ2_checkIndex_2214a : ByteArray := prog_19_method_91_code
def yJ2_checkIndex_2214a : MethodName := ⟨RJ2, "checkIndex", "(I[B)V"⟩
def RJ3 : String := "jdk/internal/util/Preconditions"
def TJ3 : u_T := fun k => match k with
  | _ => ("", "", "", false)
def tyJ3 : Nat → FieldType := fun k => match k with
  | _ => .int
abbrev cJ3_checkIndex_8e157 : ByteArray := prog_20_method_11_code
def yJ3_checkIndex_8e157 : MethodName := ⟨RJ3, "checkIndex", "(IILjava/util/function/BiFunction;)I"⟩
def RL : String := "BlindSideLaw"
abbrev cL_law : ByteArray := code
def yL_law : MethodName := ⟨RL, "law", "([I)Z"⟩
abbrev vwCl : List vw_C := [(RX0, TX0, 2), (RX1, TX1, 4), (RX2, TX2, 1), (RX3, TX3, 12), (RX4, TX4, 6), (RX5, TX5, 11), (RX6, TX6, 2), (RX7, TX7, 7), (RX8, TX8, 10), (RX9, TX9, 2), (RX10, TX10, 9), (RX11, TX11, 18), (RX12, TX12, 96)]
theorem inX0 : ∀ w ∈ wsX00, w ∈ lw_tbl := by decide +kernel
theorem inX1 : ∀ w ∈ wsX10, w ∈ lw_tbl := by decide +kernel
theorem inX2 : ∀ w ∈ wsX20, w ∈ lw_tbl := by decide +kernel
theorem inX3 : ∀ w ∈ wsX30, w ∈ lw_tbl := by decide +kernel
theorem inX4 : ∀ w ∈ wsX40, w ∈ lw_tbl := by decide +kernel
theorem inX5 : ∀ w ∈ wsX50, w ∈ lw_tbl := by decide +kernel
theorem inX6 : ∀ w ∈ wsX60, w ∈ lw_tbl := by decide +kernel
theorem inX7 : ∀ w ∈ wsX70, w ∈ lw_tbl := by decide +kernel
theorem inX8 : ∀ w ∈ wsX80, w ∈ lw_tbl := by decide +kernel
theorem inX9 : ∀ w ∈ wsX90, w ∈ lw_tbl := by decide +kernel
theorem inX10 : ∀ w ∈ wsX100, w ∈ lw_tbl := by decide +kernel
theorem inX11 : ∀ w ∈ wsX110, w ∈ lw_tbl := by decide +kernel
theorem inX12 : ∀ w ∈ wsX120, w ∈ lw_tbl := by decide +kernel
