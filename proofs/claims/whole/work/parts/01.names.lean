-- ===== PART A: goes FIRST, ahead of the names: the tables' words, and 'selects' of the private methods out of them =====
/-- a private method of a class that the tables say can be made, by its rows of tables_1 -/
def lw_okq (q : MethodName × Nat) : Prop := (q.1.cls ≠ "java/lang/invoke/MethodHandle" ∧ q.1.cls ≠ "java/lang/invoke/VarHandle") ∧ Cond.instantiable q.1.cls q.2 ∈ tables_1 ∧ Cond.privateMethod q.1 ∈ tables_1 ∧ Cond.instanceMethod q.1 ∈ tables_1
theorem lw_p0 : lw_okq (⟨"TokenNet$Tape", "readClause", "()Z"⟩, 6) := ⟨⟨by decide +kernel, by decide +kernel⟩, List.mem_of_getElem? (i := 42) (by decide +kernel), List.mem_of_getElem? (i := 349) (by decide +kernel), List.mem_of_getElem? (i := 350) (by decide +kernel)⟩
theorem lw_p1 : lw_okq (⟨"TokenNet$Tape", "wordEnd", "(I)I"⟩, 6) := ⟨⟨by decide +kernel, by decide +kernel⟩, List.mem_of_getElem? (i := 42) (by decide +kernel), List.mem_of_getElem? (i := 353) (by decide +kernel), List.mem_of_getElem? (i := 354) (by decide +kernel)⟩
theorem lw_p2 : lw_okq (⟨"TokenNet$Tape", "byteAt", "(I)I"⟩, 6) := ⟨⟨by decide +kernel, by decide +kernel⟩, List.mem_of_getElem? (i := 42) (by decide +kernel), List.mem_of_getElem? (i := 357) (by decide +kernel), List.mem_of_getElem? (i := 358) (by decide +kernel)⟩
theorem lw_p3 : lw_okq (⟨"TokenNet$Tape", "kindOf", "(II)I"⟩, 6) := ⟨⟨by decide +kernel, by decide +kernel⟩, List.mem_of_getElem? (i := 42) (by decide +kernel), List.mem_of_getElem? (i := 361) (by decide +kernel), List.mem_of_getElem? (i := 362) (by decide +kernel)⟩
theorem lw_p4 : lw_okq (⟨"TokenNet$Tape", "isWord", "(Ljava/lang/String;II)Z"⟩, 6) := ⟨⟨by decide +kernel, by decide +kernel⟩, List.mem_of_getElem? (i := 42) (by decide +kernel), List.mem_of_getElem? (i := 372) (by decide +kernel), List.mem_of_getElem? (i := 373) (by decide +kernel)⟩
theorem lw_p5 : lw_okq (⟨"TokenNet$Tape", "isOneTooMany", "(I)Z"⟩, 6) := ⟨⟨by decide +kernel, by decide +kernel⟩, List.mem_of_getElem? (i := 42) (by decide +kernel), List.mem_of_getElem? (i := 424) (by decide +kernel), List.mem_of_getElem? (i := 425) (by decide +kernel)⟩
theorem lw_p6 : lw_okq (⟨"TokenNet$Tape", "fail", "(I)Z"⟩, 6) := ⟨⟨by decide +kernel, by decide +kernel⟩, List.mem_of_getElem? (i := 42) (by decide +kernel), List.mem_of_getElem? (i := 428) (by decide +kernel), List.mem_of_getElem? (i := 429) (by decide +kernel)⟩
theorem lw_p7 : lw_okq (⟨"TokenNet$Tape", "expect", "(I)Z"⟩, 6) := ⟨⟨by decide +kernel, by decide +kernel⟩, List.mem_of_getElem? (i := 42) (by decide +kernel), List.mem_of_getElem? (i := 432) (by decide +kernel), List.mem_of_getElem? (i := 433) (by decide +kernel)⟩
theorem lw_p8 : lw_okq (⟨"TokenNet$Tape", "peek", "()I"⟩, 6) := ⟨⟨by decide +kernel, by decide +kernel⟩, List.mem_of_getElem? (i := 42) (by decide +kernel), List.mem_of_getElem? (i := 436) (by decide +kernel), List.mem_of_getElem? (i := 437) (by decide +kernel)⟩
theorem lw_p9 : lw_okq (⟨"TokenNet$Tape", "readIf", "()Z"⟩, 6) := ⟨⟨by decide +kernel, by decide +kernel⟩, List.mem_of_getElem? (i := 42) (by decide +kernel), List.mem_of_getElem? (i := 440) (by decide +kernel), List.mem_of_getElem? (i := 441) (by decide +kernel)⟩
theorem lw_p10 : lw_okq (⟨"TokenNet$Tape", "readComparison", "()Z"⟩, 6) := ⟨⟨by decide +kernel, by decide +kernel⟩, List.mem_of_getElem? (i := 42) (by decide +kernel), List.mem_of_getElem? (i := 444) (by decide +kernel), List.mem_of_getElem? (i := 445) (by decide +kernel)⟩
theorem lw_p11 : lw_okq (⟨"TokenNet$Tape", "readSum", "(I)Z"⟩, 6) := ⟨⟨by decide +kernel, by decide +kernel⟩, List.mem_of_getElem? (i := 42) (by decide +kernel), List.mem_of_getElem? (i := 448) (by decide +kernel), List.mem_of_getElem? (i := 449) (by decide +kernel)⟩
theorem lw_p12 : lw_okq (⟨"TokenNet$Tape", "readFactor", "(I)Z"⟩, 6) := ⟨⟨by decide +kernel, by decide +kernel⟩, List.mem_of_getElem? (i := 42) (by decide +kernel), List.mem_of_getElem? (i := 452) (by decide +kernel), List.mem_of_getElem? (i := 453) (by decide +kernel)⟩
theorem lw_p13 : lw_okq (⟨"TokenNet$Rule", "addClause", "(IIII)Z"⟩, 14) := ⟨⟨by decide +kernel, by decide +kernel⟩, List.mem_of_getElem? (i := 48) (by decide +kernel), List.mem_of_getElem? (i := 470) (by decide +kernel), List.mem_of_getElem? (i := 471) (by decide +kernel)⟩
theorem lw_p14 : lw_okq (⟨"TokenNet$Tape", "readIn", "(I)Z"⟩, 6) := ⟨⟨by decide +kernel, by decide +kernel⟩, List.mem_of_getElem? (i := 42) (by decide +kernel), List.mem_of_getElem? (i := 479) (by decide +kernel), List.mem_of_getElem? (i := 480) (by decide +kernel)⟩
theorem lw_p15 : lw_okq (⟨"TokenNet$Tape", "readOut", "(I)Z"⟩, 6) := ⟨⟨by decide +kernel, by decide +kernel⟩, List.mem_of_getElem? (i := 42) (by decide +kernel), List.mem_of_getElem? (i := 487) (by decide +kernel), List.mem_of_getElem? (i := 488) (by decide +kernel)⟩
def lw_privs_1 : List (MethodName × Nat) := [(⟨"TokenNet$Tape", "readClause", "()Z"⟩, 6), (⟨"TokenNet$Tape", "wordEnd", "(I)I"⟩, 6), (⟨"TokenNet$Tape", "byteAt", "(I)I"⟩, 6), (⟨"TokenNet$Tape", "kindOf", "(II)I"⟩, 6), (⟨"TokenNet$Tape", "isWord", "(Ljava/lang/String;II)Z"⟩, 6), (⟨"TokenNet$Tape", "isOneTooMany", "(I)Z"⟩, 6), (⟨"TokenNet$Tape", "fail", "(I)Z"⟩, 6), (⟨"TokenNet$Tape", "expect", "(I)Z"⟩, 6), (⟨"TokenNet$Tape", "peek", "()I"⟩, 6), (⟨"TokenNet$Tape", "readIf", "()Z"⟩, 6), (⟨"TokenNet$Tape", "readComparison", "()Z"⟩, 6), (⟨"TokenNet$Tape", "readSum", "(I)Z"⟩, 6), (⟨"TokenNet$Tape", "readFactor", "(I)Z"⟩, 6), (⟨"TokenNet$Rule", "addClause", "(IIII)Z"⟩, 14), (⟨"TokenNet$Tape", "readIn", "(I)Z"⟩, 6), (⟨"TokenNet$Tape", "readOut", "(I)Z"⟩, 6)]
theorem lw_r1 : ∀ q ∈ lw_privs_1, lw_okq q := List.forall_mem_cons.mpr ⟨lw_p0, List.forall_mem_cons.mpr ⟨lw_p1, List.forall_mem_cons.mpr ⟨lw_p2, List.forall_mem_cons.mpr ⟨lw_p3, List.forall_mem_cons.mpr ⟨lw_p4, List.forall_mem_cons.mpr ⟨lw_p5, List.forall_mem_cons.mpr ⟨lw_p6, List.forall_mem_cons.mpr ⟨lw_p7, List.forall_mem_cons.mpr ⟨lw_p8, List.forall_mem_cons.mpr ⟨lw_p9, List.forall_mem_cons.mpr ⟨lw_p10, List.forall_mem_cons.mpr ⟨lw_p11, List.forall_mem_cons.mpr ⟨lw_p12, List.forall_mem_cons.mpr ⟨lw_p13, List.forall_mem_cons.mpr ⟨lw_p14, List.forall_mem_cons.mpr ⟨lw_p15, fun _ h => absurd h List.not_mem_nil⟩⟩⟩⟩⟩⟩⟩⟩⟩⟩⟩⟩⟩⟩⟩⟩
theorem lw_p16 : lw_okq (⟨"TokenNet$Paper", "write", "(I)V"⟩, 4) := ⟨⟨by decide +kernel, by decide +kernel⟩, List.mem_of_getElem? (i := 131) (by decide +kernel), List.mem_of_getElem? (i := 518) (by decide +kernel), List.mem_of_getElem? (i := 519) (by decide +kernel)⟩
theorem lw_p17 : lw_okq (⟨"TokenNet$Paper", "writeClause", "(LTokenNet$Rule;I)V"⟩, 4) := ⟨⟨by decide +kernel, by decide +kernel⟩, List.mem_of_getElem? (i := 131) (by decide +kernel), List.mem_of_getElem? (i := 522) (by decide +kernel), List.mem_of_getElem? (i := 523) (by decide +kernel)⟩
theorem lw_p18 : lw_okq (⟨"TokenNet$Paper", "writeText", "(Ljava/lang/String;)V"⟩, 4) := ⟨⟨by decide +kernel, by decide +kernel⟩, List.mem_of_getElem? (i := 131) (by decide +kernel), List.mem_of_getElem? (i := 531) (by decide +kernel), List.mem_of_getElem? (i := 532) (by decide +kernel)⟩
theorem lw_p19 : lw_okq (⟨"TokenNet$Paper", "writeNumber", "(I)V"⟩, 4) := ⟨⟨by decide +kernel, by decide +kernel⟩, List.mem_of_getElem? (i := 131) (by decide +kernel), List.mem_of_getElem? (i := 541) (by decide +kernel), List.mem_of_getElem? (i := 542) (by decide +kernel)⟩
theorem lw_p20 : lw_okq (⟨"TokenNet$Paper", "writeCode", "(LTokenNet$Rule;II)V"⟩, 4) := ⟨⟨by decide +kernel, by decide +kernel⟩, List.mem_of_getElem? (i := 131) (by decide +kernel), List.mem_of_getElem? (i := 557) (by decide +kernel), List.mem_of_getElem? (i := 558) (by decide +kernel)⟩
theorem lw_p21 : lw_okq (⟨"TokenNet$Paper", "joinPieces", "(III)V"⟩, 4) := ⟨⟨by decide +kernel, by decide +kernel⟩, List.mem_of_getElem? (i := 131) (by decide +kernel), List.mem_of_getElem? (i := 565) (by decide +kernel), List.mem_of_getElem? (i := 566) (by decide +kernel)⟩
theorem lw_p22 : lw_okq (⟨"TokenNet$Paper", "insert", "(II)V"⟩, 4) := ⟨⟨by decide +kernel, by decide +kernel⟩, List.mem_of_getElem? (i := 131) (by decide +kernel), List.mem_of_getElem? (i := 572) (by decide +kernel), List.mem_of_getElem? (i := 573) (by decide +kernel)⟩
theorem lw_p23 : lw_okq (⟨"TokenNet$Paper", "writeItem", "(I)V"⟩, 4) := ⟨⟨by decide +kernel, by decide +kernel⟩, List.mem_of_getElem? (i := 131) (by decide +kernel), List.mem_of_getElem? (i := 576) (by decide +kernel), List.mem_of_getElem? (i := 577) (by decide +kernel)⟩
theorem lw_p24 : lw_okq (⟨"TokenNet$Firing", "bindFrom", "(LTokenNet$Rule;LTokenNet$Marking;IZ)I"⟩, 3) := ⟨⟨by decide +kernel, by decide +kernel⟩, List.mem_of_getElem? (i := 151) (by decide +kernel), List.mem_of_getElem? (i := 606) (by decide +kernel), List.mem_of_getElem? (i := 607) (by decide +kernel)⟩
theorem lw_p25 : lw_okq (⟨"TokenNet$Firing", "conditionsHold", "(LTokenNet$Rule;)Z"⟩, 3) := ⟨⟨by decide +kernel, by decide +kernel⟩, List.mem_of_getElem? (i := 151) (by decide +kernel), List.mem_of_getElem? (i := 610) (by decide +kernel), List.mem_of_getElem? (i := 611) (by decide +kernel)⟩
theorem lw_p26 : lw_okq (⟨"TokenNet$Firing", "value", "(LTokenNet$Rule;I)I"⟩, 3) := ⟨⟨by decide +kernel, by decide +kernel⟩, List.mem_of_getElem? (i := 151) (by decide +kernel), List.mem_of_getElem? (i := 615) (by decide +kernel), List.mem_of_getElem? (i := 616) (by decide +kernel)⟩
theorem lw_p27 : lw_okq (⟨"TokenNet$Firing", "isFree", "(LTokenNet$Rule;LTokenNet$Marking;II)Z"⟩, 3) := ⟨⟨by decide +kernel, by decide +kernel⟩, List.mem_of_getElem? (i := 151) (by decide +kernel), List.mem_of_getElem? (i := 632) (by decide +kernel), List.mem_of_getElem? (i := 633) (by decide +kernel)⟩
theorem lw_p28 : lw_okq (⟨"TokenNet$Firing", "copyLeft", "(LTokenNet$Rule;LTokenNet$Marking;LTokenNet$Marking;)V"⟩, 3) := ⟨⟨by decide +kernel, by decide +kernel⟩, List.mem_of_getElem? (i := 151) (by decide +kernel), List.mem_of_getElem? (i := 637) (by decide +kernel), List.mem_of_getElem? (i := 638) (by decide +kernel)⟩
theorem lw_p29 : lw_okq (⟨"TokenNet$Firing", "isTaken", "(LTokenNet$Rule;II)Z"⟩, 3) := ⟨⟨by decide +kernel, by decide +kernel⟩, List.mem_of_getElem? (i := 151) (by decide +kernel), List.mem_of_getElem? (i := 645) (by decide +kernel), List.mem_of_getElem? (i := 646) (by decide +kernel)⟩
theorem lw_p30 : lw_okq (⟨"TokenNet", "tryOut", "(II)I"⟩, 12) := ⟨⟨by decide +kernel, by decide +kernel⟩, List.mem_of_getElem? (i := 18) (by decide +kernel), List.mem_of_getElem? (i := 699) (by decide +kernel), List.mem_of_getElem? (i := 700) (by decide +kernel)⟩
theorem lw_p31 : lw_okq (⟨"TokenNet", "tryOne", "(I)Z"⟩, 12) := ⟨⟨by decide +kernel, by decide +kernel⟩, List.mem_of_getElem? (i := 18) (by decide +kernel), List.mem_of_getElem? (i := 703) (by decide +kernel), List.mem_of_getElem? (i := 704) (by decide +kernel)⟩
def lw_privs_2 : List (MethodName × Nat) := [(⟨"TokenNet$Paper", "write", "(I)V"⟩, 4), (⟨"TokenNet$Paper", "writeClause", "(LTokenNet$Rule;I)V"⟩, 4), (⟨"TokenNet$Paper", "writeText", "(Ljava/lang/String;)V"⟩, 4), (⟨"TokenNet$Paper", "writeNumber", "(I)V"⟩, 4), (⟨"TokenNet$Paper", "writeCode", "(LTokenNet$Rule;II)V"⟩, 4), (⟨"TokenNet$Paper", "joinPieces", "(III)V"⟩, 4), (⟨"TokenNet$Paper", "insert", "(II)V"⟩, 4), (⟨"TokenNet$Paper", "writeItem", "(I)V"⟩, 4), (⟨"TokenNet$Firing", "bindFrom", "(LTokenNet$Rule;LTokenNet$Marking;IZ)I"⟩, 3), (⟨"TokenNet$Firing", "conditionsHold", "(LTokenNet$Rule;)Z"⟩, 3), (⟨"TokenNet$Firing", "value", "(LTokenNet$Rule;I)I"⟩, 3), (⟨"TokenNet$Firing", "isFree", "(LTokenNet$Rule;LTokenNet$Marking;II)Z"⟩, 3), (⟨"TokenNet$Firing", "copyLeft", "(LTokenNet$Rule;LTokenNet$Marking;LTokenNet$Marking;)V"⟩, 3), (⟨"TokenNet$Firing", "isTaken", "(LTokenNet$Rule;II)Z"⟩, 3), (⟨"TokenNet", "tryOut", "(II)I"⟩, 12), (⟨"TokenNet", "tryOne", "(I)Z"⟩, 12)]
theorem lw_r2 : ∀ q ∈ lw_privs_2, lw_okq q := List.forall_mem_cons.mpr ⟨lw_p16, List.forall_mem_cons.mpr ⟨lw_p17, List.forall_mem_cons.mpr ⟨lw_p18, List.forall_mem_cons.mpr ⟨lw_p19, List.forall_mem_cons.mpr ⟨lw_p20, List.forall_mem_cons.mpr ⟨lw_p21, List.forall_mem_cons.mpr ⟨lw_p22, List.forall_mem_cons.mpr ⟨lw_p23, List.forall_mem_cons.mpr ⟨lw_p24, List.forall_mem_cons.mpr ⟨lw_p25, List.forall_mem_cons.mpr ⟨lw_p26, List.forall_mem_cons.mpr ⟨lw_p27, List.forall_mem_cons.mpr ⟨lw_p28, List.forall_mem_cons.mpr ⟨lw_p29, List.forall_mem_cons.mpr ⟨lw_p30, List.forall_mem_cons.mpr ⟨lw_p31, fun _ h => absurd h List.not_mem_nil⟩⟩⟩⟩⟩⟩⟩⟩⟩⟩⟩⟩⟩⟩⟩⟩
theorem lw_p32 : lw_okq (⟨"TokenNet", "walksNow", "()LTokenNet$Walks;"⟩, 12) := ⟨⟨by decide +kernel, by decide +kernel⟩, List.mem_of_getElem? (i := 18) (by decide +kernel), List.mem_of_getElem? (i := 718) (by decide +kernel), List.mem_of_getElem? (i := 719) (by decide +kernel)⟩
theorem lw_p33 : lw_okq (⟨"TokenNet$Walks", "numberOfNext", "(II)I"⟩, 8) := ⟨⟨by decide +kernel, by decide +kernel⟩, List.mem_of_getElem? (i := 167) (by decide +kernel), List.mem_of_getElem? (i := 728) (by decide +kernel), List.mem_of_getElem? (i := 729) (by decide +kernel)⟩
theorem lw_p34 : lw_okq (⟨"TokenNet", "rulesTold", "()I"⟩, 12) := ⟨⟨by decide +kernel, by decide +kernel⟩, List.mem_of_getElem? (i := 18) (by decide +kernel), List.mem_of_getElem? (i := 764) (by decide +kernel), List.mem_of_getElem? (i := 765) (by decide +kernel)⟩
theorem lw_p35 : lw_okq (⟨"TokenNet$Walks", "spreadEnding", "(I)Z"⟩, 8) := ⟨⟨by decide +kernel, by decide +kernel⟩, List.mem_of_getElem? (i := 167) (by decide +kernel), List.mem_of_getElem? (i := 788) (by decide +kernel), List.mem_of_getElem? (i := 789) (by decide +kernel)⟩
theorem lw_p36 : lw_okq (⟨"TokenNet$Walks", "leadsToEnding", "(II)Z"⟩, 8) := ⟨⟨by decide +kernel, by decide +kernel⟩, List.mem_of_getElem? (i := 167) (by decide +kernel), List.mem_of_getElem? (i := 792) (by decide +kernel), List.mem_of_getElem? (i := 793) (by decide +kernel)⟩
theorem lw_p37 : lw_okq (⟨"TokenNet$Balance", "rowWith", "(II)I"⟩, 4) := ⟨⟨by decide +kernel, by decide +kernel⟩, List.mem_of_getElem? (i := 202) (by decide +kernel), List.mem_of_getElem? (i := 832) (by decide +kernel), List.mem_of_getElem? (i := 833) (by decide +kernel)⟩
theorem lw_p38 : lw_okq (⟨"TokenNet$Balance", "swapRows", "(II)V"⟩, 4) := ⟨⟨by decide +kernel, by decide +kernel⟩, List.mem_of_getElem? (i := 202) (by decide +kernel), List.mem_of_getElem? (i := 836) (by decide +kernel), List.mem_of_getElem? (i := 837) (by decide +kernel)⟩
theorem lw_p39 : lw_okq (⟨"TokenNet$Balance", "clearOthers", "(II)V"⟩, 4) := ⟨⟨by decide +kernel, by decide +kernel⟩, List.mem_of_getElem? (i := 202) (by decide +kernel), List.mem_of_getElem? (i := 840) (by decide +kernel), List.mem_of_getElem? (i := 841) (by decide +kernel)⟩
theorem lw_p40 : lw_okq (⟨"TokenNet$Balance", "clearRow", "(III)V"⟩, 4) := ⟨⟨by decide +kernel, by decide +kernel⟩, List.mem_of_getElem? (i := 202) (by decide +kernel), List.mem_of_getElem? (i := 844) (by decide +kernel), List.mem_of_getElem? (i := 845) (by decide +kernel)⟩
theorem lw_p41 : lw_okq (⟨"TokenNet$Balance", "shortenRow", "(I)V"⟩, 4) := ⟨⟨by decide +kernel, by decide +kernel⟩, List.mem_of_getElem? (i := 202) (by decide +kernel), List.mem_of_getElem? (i := 848) (by decide +kernel), List.mem_of_getElem? (i := 849) (by decide +kernel)⟩
theorem lw_p42 : lw_okq (⟨"TokenNet$Balance", "setFraction", "(JJ)V"⟩, 4) := ⟨⟨by decide +kernel, by decide +kernel⟩, List.mem_of_getElem? (i := 202) (by decide +kernel), List.mem_of_getElem? (i := 879) (by decide +kernel), List.mem_of_getElem? (i := 880) (by decide +kernel)⟩
theorem lw_p43 : lw_okq (⟨"TokenNetModel", "reads", "()I"⟩, 47) := ⟨⟨by decide +kernel, by decide +kernel⟩, List.mem_of_getElem? (i := 919) (by decide +kernel), List.mem_of_getElem? (i := 1112) (by decide +kernel), List.mem_of_getElem? (i := 1113) (by decide +kernel)⟩
theorem lw_p44 : lw_okq (⟨"TokenNetModel", "clause", "()V"⟩, 47) := ⟨⟨by decide +kernel, by decide +kernel⟩, List.mem_of_getElem? (i := 919) (by decide +kernel), List.mem_of_getElem? (i := 1116) (by decide +kernel), List.mem_of_getElem? (i := 1117) (by decide +kernel)⟩
theorem lw_p45 : lw_okq (⟨"TokenNetModel", "word", "()I"⟩, 47) := ⟨⟨by decide +kernel, by decide +kernel⟩, List.mem_of_getElem? (i := 919) (by decide +kernel), List.mem_of_getElem? (i := 1120) (by decide +kernel), List.mem_of_getElem? (i := 1121) (by decide +kernel)⟩
theorem lw_p46 : lw_okq (⟨"TokenNetModel", "peek", "()I"⟩, 47) := ⟨⟨by decide +kernel, by decide +kernel⟩, List.mem_of_getElem? (i := 919) (by decide +kernel), List.mem_of_getElem? (i := 1124) (by decide +kernel), List.mem_of_getElem? (i := 1125) (by decide +kernel)⟩
theorem lw_p47 : lw_okq (⟨"TokenNetModel", "wrong", "(I)V"⟩, 47) := ⟨⟨by decide +kernel, by decide +kernel⟩, List.mem_of_getElem? (i := 919) (by decide +kernel), List.mem_of_getElem? (i := 1129) (by decide +kernel), List.mem_of_getElem? (i := 1130) (by decide +kernel)⟩
def lw_privs_3 : List (MethodName × Nat) := [(⟨"TokenNet", "walksNow", "()LTokenNet$Walks;"⟩, 12), (⟨"TokenNet$Walks", "numberOfNext", "(II)I"⟩, 8), (⟨"TokenNet", "rulesTold", "()I"⟩, 12), (⟨"TokenNet$Walks", "spreadEnding", "(I)Z"⟩, 8), (⟨"TokenNet$Walks", "leadsToEnding", "(II)Z"⟩, 8), (⟨"TokenNet$Balance", "rowWith", "(II)I"⟩, 4), (⟨"TokenNet$Balance", "swapRows", "(II)V"⟩, 4), (⟨"TokenNet$Balance", "clearOthers", "(II)V"⟩, 4), (⟨"TokenNet$Balance", "clearRow", "(III)V"⟩, 4), (⟨"TokenNet$Balance", "shortenRow", "(I)V"⟩, 4), (⟨"TokenNet$Balance", "setFraction", "(JJ)V"⟩, 4), (⟨"TokenNetModel", "reads", "()I"⟩, 47), (⟨"TokenNetModel", "clause", "()V"⟩, 47), (⟨"TokenNetModel", "word", "()I"⟩, 47), (⟨"TokenNetModel", "peek", "()I"⟩, 47), (⟨"TokenNetModel", "wrong", "(I)V"⟩, 47)]
theorem lw_r3 : ∀ q ∈ lw_privs_3, lw_okq q := List.forall_mem_cons.mpr ⟨lw_p32, List.forall_mem_cons.mpr ⟨lw_p33, List.forall_mem_cons.mpr ⟨lw_p34, List.forall_mem_cons.mpr ⟨lw_p35, List.forall_mem_cons.mpr ⟨lw_p36, List.forall_mem_cons.mpr ⟨lw_p37, List.forall_mem_cons.mpr ⟨lw_p38, List.forall_mem_cons.mpr ⟨lw_p39, List.forall_mem_cons.mpr ⟨lw_p40, List.forall_mem_cons.mpr ⟨lw_p41, List.forall_mem_cons.mpr ⟨lw_p42, List.forall_mem_cons.mpr ⟨lw_p43, List.forall_mem_cons.mpr ⟨lw_p44, List.forall_mem_cons.mpr ⟨lw_p45, List.forall_mem_cons.mpr ⟨lw_p46, List.forall_mem_cons.mpr ⟨lw_p47, fun _ h => absurd h List.not_mem_nil⟩⟩⟩⟩⟩⟩⟩⟩⟩⟩⟩⟩⟩⟩⟩⟩
theorem lw_p48 : lw_okq (⟨"TokenNetModel", "takes", "(I)V"⟩, 47) := ⟨⟨by decide +kernel, by decide +kernel⟩, List.mem_of_getElem? (i := 919) (by decide +kernel), List.mem_of_getElem? (i := 1133) (by decide +kernel), List.mem_of_getElem? (i := 1134) (by decide +kernel)⟩
theorem lw_p49 : lw_okq (⟨"TokenNetModel", "takeClause", "()V"⟩, 47) := ⟨⟨by decide +kernel, by decide +kernel⟩, List.mem_of_getElem? (i := 919) (by decide +kernel), List.mem_of_getElem? (i := 1137) (by decide +kernel), List.mem_of_getElem? (i := 1138) (by decide +kernel)⟩
theorem lw_p50 : lw_okq (⟨"TokenNetModel", "figure", "()I"⟩, 47) := ⟨⟨by decide +kernel, by decide +kernel⟩, List.mem_of_getElem? (i := 919) (by decide +kernel), List.mem_of_getElem? (i := 1141) (by decide +kernel), List.mem_of_getElem? (i := 1142) (by decide +kernel)⟩
theorem lw_p51 : lw_okq (⟨"TokenNetModel", "giveClause", "()V"⟩, 47) := ⟨⟨by decide +kernel, by decide +kernel⟩, List.mem_of_getElem? (i := 919) (by decide +kernel), List.mem_of_getElem? (i := 1148) (by decide +kernel), List.mem_of_getElem? (i := 1149) (by decide +kernel)⟩
theorem lw_p52 : lw_okq (⟨"TokenNetModel", "expression", "()I"⟩, 47) := ⟨⟨by decide +kernel, by decide +kernel⟩, List.mem_of_getElem? (i := 919) (by decide +kernel), List.mem_of_getElem? (i := 1152) (by decide +kernel), List.mem_of_getElem? (i := 1153) (by decide +kernel)⟩
theorem lw_p53 : lw_okq (⟨"TokenNetModel", "term", "()I"⟩, 47) := ⟨⟨by decide +kernel, by decide +kernel⟩, List.mem_of_getElem? (i := 919) (by decide +kernel), List.mem_of_getElem? (i := 1156) (by decide +kernel), List.mem_of_getElem? (i := 1157) (by decide +kernel)⟩
theorem lw_p54 : lw_okq (⟨"TokenNetModel", "factor", "()I"⟩, 47) := ⟨⟨by decide +kernel, by decide +kernel⟩, List.mem_of_getElem? (i := 919) (by decide +kernel), List.mem_of_getElem? (i := 1160) (by decide +kernel), List.mem_of_getElem? (i := 1161) (by decide +kernel)⟩
theorem lw_p55 : lw_okq (⟨"TokenNetModel", "conditionClause", "()V"⟩, 47) := ⟨⟨by decide +kernel, by decide +kernel⟩, List.mem_of_getElem? (i := 919) (by decide +kernel), List.mem_of_getElem? (i := 1164) (by decide +kernel), List.mem_of_getElem? (i := 1165) (by decide +kernel)⟩
theorem lw_p56 : lw_okq (⟨"TokenNetModel", "compares", "()Z"⟩, 47) := ⟨⟨by decide +kernel, by decide +kernel⟩, List.mem_of_getElem? (i := 919) (by decide +kernel), List.mem_of_getElem? (i := 1168) (by decide +kernel), List.mem_of_getElem? (i := 1169) (by decide +kernel)⟩
theorem lw_p57 : lw_okq (⟨"TokenNetModel", "readsRule", "(I)Z"⟩, 47) := ⟨⟨by decide +kernel, by decide +kernel⟩, List.mem_of_getElem? (i := 919) (by decide +kernel), List.mem_of_getElem? (i := 1181) (by decide +kernel), List.mem_of_getElem? (i := 1182) (by decide +kernel)⟩
theorem lw_p58 : lw_okq (⟨"TokenNetModel", "writes", "(I)V"⟩, 47) := ⟨⟨by decide +kernel, by decide +kernel⟩, List.mem_of_getElem? (i := 919) (by decide +kernel), List.mem_of_getElem? (i := 1189) (by decide +kernel), List.mem_of_getElem? (i := 1190) (by decide +kernel)⟩
theorem lw_p59 : lw_okq (⟨"TokenNetModel", "end", "(I)I"⟩, 47) := ⟨⟨by decide +kernel, by decide +kernel⟩, List.mem_of_getElem? (i := 919) (by decide +kernel), List.mem_of_getElem? (i := 1193) (by decide +kernel), List.mem_of_getElem? (i := 1194) (by decide +kernel)⟩
theorem lw_p60 : lw_okq (⟨"TokenNetModel", "spells", "(III)V"⟩, 47) := ⟨⟨by decide +kernel, by decide +kernel⟩, List.mem_of_getElem? (i := 919) (by decide +kernel), List.mem_of_getElem? (i := 1197) (by decide +kernel), List.mem_of_getElem? (i := 1198) (by decide +kernel)⟩
theorem lw_p61 : lw_okq (⟨"TokenNetModel", "bare", "(II)I"⟩, 47) := ⟨⟨by decide +kernel, by decide +kernel⟩, List.mem_of_getElem? (i := 919) (by decide +kernel), List.mem_of_getElem? (i := 1201) (by decide +kernel), List.mem_of_getElem? (i := 1202) (by decide +kernel)⟩
theorem lw_p62 : lw_okq (⟨"TokenNetModel", "sign", "(II)I"⟩, 47) := ⟨⟨by decide +kernel, by decide +kernel⟩, List.mem_of_getElem? (i := 919) (by decide +kernel), List.mem_of_getElem? (i := 1205) (by decide +kernel), List.mem_of_getElem? (i := 1206) (by decide +kernel)⟩
theorem lw_p63 : lw_okq (⟨"TokenNetModel", "looseness", "(II)I"⟩, 47) := ⟨⟨by decide +kernel, by decide +kernel⟩, List.mem_of_getElem? (i := 919) (by decide +kernel), List.mem_of_getElem? (i := 1209) (by decide +kernel), List.mem_of_getElem? (i := 1210) (by decide +kernel)⟩
def lw_privs_4 : List (MethodName × Nat) := [(⟨"TokenNetModel", "takes", "(I)V"⟩, 47), (⟨"TokenNetModel", "takeClause", "()V"⟩, 47), (⟨"TokenNetModel", "figure", "()I"⟩, 47), (⟨"TokenNetModel", "giveClause", "()V"⟩, 47), (⟨"TokenNetModel", "expression", "()I"⟩, 47), (⟨"TokenNetModel", "term", "()I"⟩, 47), (⟨"TokenNetModel", "factor", "()I"⟩, 47), (⟨"TokenNetModel", "conditionClause", "()V"⟩, 47), (⟨"TokenNetModel", "compares", "()Z"⟩, 47), (⟨"TokenNetModel", "readsRule", "(I)Z"⟩, 47), (⟨"TokenNetModel", "writes", "(I)V"⟩, 47), (⟨"TokenNetModel", "end", "(I)I"⟩, 47), (⟨"TokenNetModel", "spells", "(III)V"⟩, 47), (⟨"TokenNetModel", "bare", "(II)I"⟩, 47), (⟨"TokenNetModel", "sign", "(II)I"⟩, 47), (⟨"TokenNetModel", "looseness", "(II)I"⟩, 47)]
theorem lw_r4 : ∀ q ∈ lw_privs_4, lw_okq q := List.forall_mem_cons.mpr ⟨lw_p48, List.forall_mem_cons.mpr ⟨lw_p49, List.forall_mem_cons.mpr ⟨lw_p50, List.forall_mem_cons.mpr ⟨lw_p51, List.forall_mem_cons.mpr ⟨lw_p52, List.forall_mem_cons.mpr ⟨lw_p53, List.forall_mem_cons.mpr ⟨lw_p54, List.forall_mem_cons.mpr ⟨lw_p55, List.forall_mem_cons.mpr ⟨lw_p56, List.forall_mem_cons.mpr ⟨lw_p57, List.forall_mem_cons.mpr ⟨lw_p58, List.forall_mem_cons.mpr ⟨lw_p59, List.forall_mem_cons.mpr ⟨lw_p60, List.forall_mem_cons.mpr ⟨lw_p61, List.forall_mem_cons.mpr ⟨lw_p62, List.forall_mem_cons.mpr ⟨lw_p63, fun _ h => absurd h List.not_mem_nil⟩⟩⟩⟩⟩⟩⟩⟩⟩⟩⟩⟩⟩⟩⟩⟩
theorem lw_p64 : lw_okq (⟨"TokenNetModel", "writesNumber", "(I)V"⟩, 47) := ⟨⟨by decide +kernel, by decide +kernel⟩, List.mem_of_getElem? (i := 919) (by decide +kernel), List.mem_of_getElem? (i := 1217) (by decide +kernel), List.mem_of_getElem? (i := 1218) (by decide +kernel)⟩
theorem lw_p65 : lw_okq (⟨"TokenNetModel", "goes", "(I[I)Z"⟩, 47) := ⟨⟨by decide +kernel, by decide +kernel⟩, List.mem_of_getElem? (i := 919) (by decide +kernel), List.mem_of_getElem? (i := 1229) (by decide +kernel), List.mem_of_getElem? (i := 1230) (by decide +kernel)⟩
theorem lw_p66 : lw_okq (⟨"TokenNetModel", "binds", "([IZ)I"⟩, 47) := ⟨⟨by decide +kernel, by decide +kernel⟩, List.mem_of_getElem? (i := 919) (by decide +kernel), List.mem_of_getElem? (i := 1233) (by decide +kernel), List.mem_of_getElem? (i := 1234) (by decide +kernel)⟩
theorem lw_p67 : lw_okq (⟨"TokenNetModel", "isBinding", "([I)Z"⟩, 47) := ⟨⟨by decide +kernel, by decide +kernel⟩, List.mem_of_getElem? (i := 919) (by decide +kernel), List.mem_of_getElem? (i := 1237) (by decide +kernel), List.mem_of_getElem? (i := 1238) (by decide +kernel)⟩
theorem lw_p68 : lw_okq (⟨"TokenNetModel", "repeats", "(II)I"⟩, 47) := ⟨⟨by decide +kernel, by decide +kernel⟩, List.mem_of_getElem? (i := 919) (by decide +kernel), List.mem_of_getElem? (i := 1266) (by decide +kernel), List.mem_of_getElem? (i := 1267) (by decide +kernel)⟩
theorem lw_p69 : lw_okq (⟨"TokenNetModel", "finds", "(I)Z"⟩, 47) := ⟨⟨by decide +kernel, by decide +kernel⟩, List.mem_of_getElem? (i := 919) (by decide +kernel), List.mem_of_getElem? (i := 1278) (by decide +kernel), List.mem_of_getElem? (i := 1279) (by decide +kernel)⟩
theorem lw_p70 : lw_okq (⟨"TokenNetModel", "placeOf", "([I)I"⟩, 47) := ⟨⟨by decide +kernel, by decide +kernel⟩, List.mem_of_getElem? (i := 919) (by decide +kernel), List.mem_of_getElem? (i := 1283) (by decide +kernel), List.mem_of_getElem? (i := 1284) (by decide +kernel)⟩
theorem lw_p71 : lw_okq (⟨"TokenNetModel", "isEnd", "(I)Z"⟩, 47) := ⟨⟨by decide +kernel, by decide +kernel⟩, List.mem_of_getElem? (i := 919) (by decide +kernel), List.mem_of_getElem? (i := 1300) (by decide +kernel), List.mem_of_getElem? (i := 1301) (by decide +kernel)⟩
theorem lw_p72 : lw_okq (⟨"TokenNetModel", "changeOf", "(I)I"⟩, 47) := ⟨⟨by decide +kernel, by decide +kernel⟩, List.mem_of_getElem? (i := 919) (by decide +kernel), List.mem_of_getElem? (i := 1320) (by decide +kernel), List.mem_of_getElem? (i := 1321) (by decide +kernel)⟩
theorem lw_p73 : lw_okq (⟨"TokenNetModel", "reduces", "()V"⟩, 47) := ⟨⟨by decide +kernel, by decide +kernel⟩, List.mem_of_getElem? (i := 919) (by decide +kernel), List.mem_of_getElem? (i := 1328) (by decide +kernel), List.mem_of_getElem? (i := 1329) (by decide +kernel)⟩
theorem lw_p74 : lw_okq (⟨"TokenNetModel", "swaps", "(II)V"⟩, 47) := ⟨⟨by decide +kernel, by decide +kernel⟩, List.mem_of_getElem? (i := 919) (by decide +kernel), List.mem_of_getElem? (i := 1332) (by decide +kernel), List.mem_of_getElem? (i := 1333) (by decide +kernel)⟩
theorem lw_p75 : lw_okq (⟨"TokenNetModel", "sets", "(IJJ)V"⟩, 47) := ⟨⟨by decide +kernel, by decide +kernel⟩, List.mem_of_getElem? (i := 919) (by decide +kernel), List.mem_of_getElem? (i := 1336) (by decide +kernel), List.mem_of_getElem? (i := 1337) (by decide +kernel)⟩
theorem lw_p76 : lw_okq (⟨"TokenNetModel", "less", "(IIJJ)V"⟩, 47) := ⟨⟨by decide +kernel, by decide +kernel⟩, List.mem_of_getElem? (i := 919) (by decide +kernel), List.mem_of_getElem? (i := 1344) (by decide +kernel), List.mem_of_getElem? (i := 1345) (by decide +kernel)⟩
theorem lw_p77 : lw_okq (⟨"TokenNetModel", "weighs", "(II)V"⟩, 47) := ⟨⟨by decide +kernel, by decide +kernel⟩, List.mem_of_getElem? (i := 919) (by decide +kernel), List.mem_of_getElem? (i := 1353) (by decide +kernel), List.mem_of_getElem? (i := 1354) (by decide +kernel)⟩
theorem lw_p78 : lw_okq (⟨"TokenNetModel", "tokens", "()I"⟩, 47) := ⟨⟨by decide +kernel, by decide +kernel⟩, List.mem_of_getElem? (i := 919) (by decide +kernel), List.mem_of_getElem? (i := 1365) (by decide +kernel), List.mem_of_getElem? (i := 1366) (by decide +kernel)⟩
def lw_privs_5 : List (MethodName × Nat) := [(⟨"TokenNetModel", "writesNumber", "(I)V"⟩, 47), (⟨"TokenNetModel", "goes", "(I[I)Z"⟩, 47), (⟨"TokenNetModel", "binds", "([IZ)I"⟩, 47), (⟨"TokenNetModel", "isBinding", "([I)Z"⟩, 47), (⟨"TokenNetModel", "repeats", "(II)I"⟩, 47), (⟨"TokenNetModel", "finds", "(I)Z"⟩, 47), (⟨"TokenNetModel", "placeOf", "([I)I"⟩, 47), (⟨"TokenNetModel", "isEnd", "(I)Z"⟩, 47), (⟨"TokenNetModel", "changeOf", "(I)I"⟩, 47), (⟨"TokenNetModel", "reduces", "()V"⟩, 47), (⟨"TokenNetModel", "swaps", "(II)V"⟩, 47), (⟨"TokenNetModel", "sets", "(IJJ)V"⟩, 47), (⟨"TokenNetModel", "less", "(IIJJ)V"⟩, 47), (⟨"TokenNetModel", "weighs", "(II)V"⟩, 47), (⟨"TokenNetModel", "tokens", "()I"⟩, 47)]
theorem lw_r5 : ∀ q ∈ lw_privs_5, lw_okq q := List.forall_mem_cons.mpr ⟨lw_p64, List.forall_mem_cons.mpr ⟨lw_p65, List.forall_mem_cons.mpr ⟨lw_p66, List.forall_mem_cons.mpr ⟨lw_p67, List.forall_mem_cons.mpr ⟨lw_p68, List.forall_mem_cons.mpr ⟨lw_p69, List.forall_mem_cons.mpr ⟨lw_p70, List.forall_mem_cons.mpr ⟨lw_p71, List.forall_mem_cons.mpr ⟨lw_p72, List.forall_mem_cons.mpr ⟨lw_p73, List.forall_mem_cons.mpr ⟨lw_p74, List.forall_mem_cons.mpr ⟨lw_p75, List.forall_mem_cons.mpr ⟨lw_p76, List.forall_mem_cons.mpr ⟨lw_p77, List.forall_mem_cons.mpr ⟨lw_p78, fun _ h => absurd h List.not_mem_nil⟩⟩⟩⟩⟩⟩⟩⟩⟩⟩⟩⟩⟩⟩⟩
def lw_privs : List (MethodName × Nat) := lw_privs_1 ++ (lw_privs_2 ++ (lw_privs_3 ++ (lw_privs_4 ++ (lw_privs_5))))
def lw_tbl : List Cond := k2_sels lw_privs ++ tables_1
theorem lw_privs_ok : ∀ q ∈ lw_privs, lw_okq q := by
  show ∀ q ∈ lw_privs_1 ++ (lw_privs_2 ++ (lw_privs_3 ++ (lw_privs_4 ++ (lw_privs_5)))), lw_okq q
  exact List.forall_mem_append.mpr ⟨lw_r1, List.forall_mem_append.mpr ⟨lw_r2, List.forall_mem_append.mpr ⟨lw_r3, List.forall_mem_append.mpr ⟨lw_r4, lw_r5⟩⟩⟩⟩
-- ===== end of PART A
/-! ===== BEGIN words of one list among another's, by their places ===== -/
theorem goodIn_r {big : List Cond} (ws : List Cond) (ps : List Nat) (hp : ws = ps.filterMap (fun i => big[i]?)) (h : ws.all goodWord = true) : GoodIn big ws := by
  intro w hw
  have h1 := List.all_eq_true.mp h w hw
  rw [hp] at hw
  obtain ⟨i, -, hi⟩ := List.mem_filterMap.mp hw
  have hm : w ∈ big := by first | exact List.mem_of_getElem? hi | exact List.getElem?_mem hi
  exact ⟨hm, good_of_word h1⟩
theorem goodIn_app {big a b : List Cond} (ha : GoodIn big a) (hb : GoodIn big b) : GoodIn big (a ++ b) := fun w h => (List.mem_append.mp h).elim (ha w) (hb w)
theorem goodIn_ca {big a b : List Cond} {c : Cond} (ha : GoodIn big (c :: a)) (hb : GoodIn big b) : GoodIn big (c :: (a ++ b)) := fun w h => (List.mem_cons.mp h).elim (fun e => ha w (List.mem_cons.mpr (Or.inl e))) (fun h => (List.mem_append.mp h).elim (fun h => ha w (List.mem_cons.mpr (Or.inr h))) (hb w))
theorem goodIn_sub {big ws : List Cond} (hm : ∀ w ∈ ws, w ∈ big) (h : ws.all goodWord = true) : GoodIn big ws := fun w hw => ⟨hm w hw, good_of_word (List.all_eq_true.mp h w hw)⟩
/-! ===== END ===== -/
/-! ===== BEGIN printed: names, fields, word lists, decode rows ===== -/
def RX0 : String := "TokenNet$Balance"
def TX0 : u_T := fun k => match k with
  | 0 => ("TokenNet$Balance", "rows", "[J", true)
  | 1 => ("TokenNet$Balance", "leaders", "[I", true)
  | 2 => ("TokenNet$Balance", "above", "J", false)
  | _ => ("TokenNet$Balance", "below", "J", false)
def tyX0 : Nat → FieldType := fun k => match k with
  | 0 => .array .long
  | 1 => .array .int
  | 2 => .long
  | _ => .long
abbrev wsX00 : List Cond := u_ws RX0 TX0 4
theorem nmX0 : ∀ a, a < 4 → ∀ b, b < 4 → a ≠ b → (TX0 a).2.1 ≠ (TX0 b).2.1 := by decide +kernel
theorem tyX0_ok : ∀ k, k < 4 → parseFieldDescriptor (TX0 k).2.2.1 = some (tyX0 k) := by decide +kernel
abbrev cX0_init : ByteArray := prog_2_method_1_code
def yX0_init : MethodName := ⟨RX0, "<init>", "()V"⟩
abbrev cX0_solve : ByteArray := prog_2_method_2_code
def yX0_solve : MethodName := ⟨RX0, "solve", "([LTokenNet$Rule;)V"⟩
abbrev cX0_rowWith : ByteArray := prog_2_method_3_code
def yX0_rowWith : MethodName := ⟨RX0, "rowWith", "(II)I"⟩
abbrev cX0_swapRows : ByteArray := prog_2_method_4_code
def yX0_swapRows : MethodName := ⟨RX0, "swapRows", "(II)V"⟩
abbrev cX0_clearOthers : ByteArray := prog_2_method_5_code
def yX0_clearOthers : MethodName := ⟨RX0, "clearOthers", "(II)V"⟩
abbrev cX0_clearRow : ByteArray := prog_2_method_6_code
def yX0_clearRow : MethodName := ⟨RX0, "clearRow", "(III)V"⟩
abbrev cX0_shortenRow : ByteArray := prog_2_method_7_code
def yX0_shortenRow : MethodName := ⟨RX0, "shortenRow", "(I)V"⟩
abbrev cX0_commonDivisor : ByteArray := prog_2_method_8_code
def yX0_commonDivisor : MethodName := ⟨RX0, "commonDivisor", "(JJ)J"⟩
abbrev cX0_count : ByteArray := prog_2_method_9_code
def yX0_count : MethodName := ⟨RX0, "count", "()I"⟩
abbrev cX0_placeOf : ByteArray := prog_2_method_10_code
def yX0_placeOf : MethodName := ⟨RX0, "placeOf", "(I)I"⟩
abbrev cX0_weigh : ByteArray := prog_2_method_11_code
def yX0_weigh : MethodName := ⟨RX0, "weigh", "(II)V"⟩
abbrev cX0_addUp : ByteArray := prog_2_method_12_code
def yX0_addUp : MethodName := ⟨RX0, "addUp", "(ILTokenNet$Marking;)V"⟩
abbrev cX0_setFraction : ByteArray := prog_2_method_13_code
def yX0_setFraction : MethodName := ⟨RX0, "setFraction", "(JJ)V"⟩
def RX1 : String := "TokenNet$Firing"
def TX1 : u_T := fun k => match k with
  | 0 => ("TokenNet$Firing", "chosen", "[I", true)
  | 1 => ("TokenNet$Firing", "tokens", "[I", true)
  | _ => ("TokenNet$Firing", "stack", "[I", true)
def tyX1 : Nat → FieldType := fun k => match k with
  | 0 => .array .int
  | 1 => .array .int
  | _ => .array .int
abbrev wsX10 : List Cond := u_ws RX1 TX1 3
theorem nmX1 : ∀ a, a < 3 → ∀ b, b < 3 → a ≠ b → (TX1 a).2.1 ≠ (TX1 b).2.1 := by decide +kernel
theorem tyX1_ok : ∀ k, k < 3 → parseFieldDescriptor (TX1 k).2.2.1 = some (tyX1 k) := by decide +kernel
abbrev cX1_init : ByteArray := prog_3_method_1_code
def yX1_init : MethodName := ⟨RX1, "<init>", "()V"⟩
abbrev cX1_chosenFor : ByteArray := prog_3_method_2_code
def yX1_chosenFor : MethodName := ⟨RX1, "chosenFor", "(I)I"⟩
abbrev cX1_countBindings : ByteArray := prog_3_method_3_code
def yX1_countBindings : MethodName := ⟨RX1, "countBindings", "(LTokenNet$Rule;LTokenNet$Marking;)I"⟩
abbrev cX1_bindFirst : ByteArray := prog_3_method_4_code
def yX1_bindFirst : MethodName := ⟨RX1, "bindFirst", "(LTokenNet$Rule;LTokenNet$Marking;)Z"⟩
abbrev cX1_goes : ByteArray := prog_3_method_5_code
def yX1_goes : MethodName := ⟨RX1, "goes", "(LTokenNet$Rule;LTokenNet$Marking;LTokenNet$Marking;)Z"⟩
abbrev cX1_bindFrom : ByteArray := prog_3_method_6_code
def yX1_bindFrom : MethodName := ⟨RX1, "bindFrom", "(LTokenNet$Rule;LTokenNet$Marking;IZ)I"⟩
abbrev cX1_isFree : ByteArray := prog_3_method_7_code
def yX1_isFree : MethodName := ⟨RX1, "isFree", "(LTokenNet$Rule;LTokenNet$Marking;II)Z"⟩
abbrev cX1_conditionsHold : ByteArray := prog_3_method_8_code
def yX1_conditionsHold : MethodName := ⟨RX1, "conditionsHold", "(LTokenNet$Rule;)Z"⟩
abbrev cX1_copyLeft : ByteArray := prog_3_method_9_code
def yX1_copyLeft : MethodName := ⟨RX1, "copyLeft", "(LTokenNet$Rule;LTokenNet$Marking;LTokenNet$Marking;)V"⟩
abbrev cX1_isTaken : ByteArray := prog_3_method_10_code
def yX1_isTaken : MethodName := ⟨RX1, "isTaken", "(LTokenNet$Rule;II)Z"⟩
abbrev cX1_value : ByteArray := prog_3_method_11_code
def yX1_value : MethodName := ⟨RX1, "value", "(LTokenNet$Rule;I)I"⟩
abbrev cX1_result : ByteArray := prog_3_method_12_code
def yX1_result : MethodName := ⟨RX1, "result", "(III)I"⟩
def RX2 : String := "TokenNet$Image"
def TX2 : u_T := fun k => match k with
  | 0 => ("TokenNet$Image", "marking", "LTokenNet$Marking;", true)
  | 1 => ("TokenNet$Image", "rules", "[LTokenNet$Rule;", true)
  | 2 => ("TokenNet$Image", "went", "I", false)
  | _ => ("TokenNet$Image", "taken", "Z", false)
def tyX2 : Nat → FieldType := fun k => match k with
  | 0 => .object "TokenNet$Marking"
  | 1 => .array (.object "TokenNet$Rule")
  | 2 => .int
  | _ => .boolean
abbrev wsX20 : List Cond := u_ws RX2 TX2 4
theorem nmX2 : ∀ a, a < 4 → ∀ b, b < 4 → a ≠ b → (TX2 a).2.1 ≠ (TX2 b).2.1 := by decide +kernel
theorem tyX2_ok : ∀ k, k < 4 → parseFieldDescriptor (TX2 k).2.2.1 = some (tyX2 k) := by decide +kernel
abbrev cX2_init : ByteArray := prog_4_method_1_code
def yX2_init : MethodName := ⟨RX2, "<init>", "()V"⟩
abbrev cX2_keep : ByteArray := prog_4_method_2_code
def yX2_keep : MethodName := ⟨RX2, "keep", "(LTokenNet$Marking;[LTokenNet$Rule;I)V"⟩
abbrev cX2_giveBack : ByteArray := prog_4_method_3_code
def yX2_giveBack : MethodName := ⟨RX2, "giveBack", "(LTokenNet$Marking;[LTokenNet$Rule;)V"⟩
def RX3 : String := "TokenNet$Marking"
def TX3 : u_T := fun k => match k with
  | 0 => ("TokenNet$Marking", "counts", "[I", true)
  | _ => ("TokenNet$Marking", "tokens", "[I", true)
def tyX3 : Nat → FieldType := fun k => match k with
  | 0 => .array .int
  | _ => .array .int
abbrev wsX30 : List Cond := u_ws RX3 TX3 2
theorem nmX3 : ∀ a, a < 2 → ∀ b, b < 2 → a ≠ b → (TX3 a).2.1 ≠ (TX3 b).2.1 := by decide +kernel
theorem tyX3_ok : ∀ k, k < 2 → parseFieldDescriptor (TX3 k).2.2.1 = some (tyX3 k) := by decide +kernel
abbrev cX3_init : ByteArray := prog_5_method_1_code
def yX3_init : MethodName := ⟨RX3, "<init>", "()V"⟩
abbrev cX3_count : ByteArray := prog_5_method_2_code
def yX3_count : MethodName := ⟨RX3, "count", "(I)I"⟩
abbrev cX3_holds : ByteArray := prog_5_method_3_code
def yX3_holds : MethodName := ⟨RX3, "holds", "(II)Z"⟩
abbrev cX3_at : ByteArray := prog_5_method_4_code
def yX3_at : MethodName := ⟨RX3, "at", "(II)I"⟩
abbrev cX3_append : ByteArray := prog_5_method_5_code
def yX3_append : MethodName := ⟨RX3, "append", "(II)Z"⟩
abbrev cX3_remove : ByteArray := prog_5_method_6_code
def yX3_remove : MethodName := ⟨RX3, "remove", "(II)I"⟩
abbrev cX3_wipe : ByteArray := prog_5_method_7_code
def yX3_wipe : MethodName := ⟨RX3, "wipe", "()V"⟩
abbrev cX3_copy : ByteArray := prog_5_method_8_code
def yX3_copy : MethodName := ⟨RX3, "copy", "(LTokenNet$Marking;)V"⟩
abbrev cX3_isLike : ByteArray := prog_5_method_9_code
def yX3_isLike : MethodName := ⟨RX3, "isLike", "(LTokenNet$Marking;)Z"⟩
abbrev cX3_total : ByteArray := prog_5_method_10_code
def yX3_total : MethodName := ⟨RX3, "total", "()I"⟩
def RX4 : String := "TokenNet$Paper"
def TX4 : u_T := fun k => match k with
  | 0 => ("TokenNet$Paper", "bytes", "[I", true)
  | 1 => ("TokenNet$Paper", "starts", "[I", true)
  | 2 => ("TokenNet$Paper", "holds", "[I", true)
  | _ => ("TokenNet$Paper", "length", "I", false)
def tyX4 : Nat → FieldType := fun k => match k with
  | 0 => .array .int
  | 1 => .array .int
  | 2 => .array .int
  | _ => .int
abbrev wsX40 : List Cond := u_ws RX4 TX4 4
theorem nmX4 : ∀ a, a < 4 → ∀ b, b < 4 → a ≠ b → (TX4 a).2.1 ≠ (TX4 b).2.1 := by decide +kernel
theorem tyX4_ok : ∀ k, k < 4 → parseFieldDescriptor (TX4 k).2.2.1 = some (tyX4 k) := by decide +kernel
abbrev cX4_init : ByteArray := prog_6_method_1_code
def yX4_init : MethodName := ⟨RX4, "<init>", "()V"⟩
abbrev cX4_at : ByteArray := prog_6_method_2_code
def yX4_at : MethodName := ⟨RX4, "at", "(I)I"⟩
abbrev cX4_writeMarking : ByteArray := prog_6_method_3_code
def yX4_writeMarking : MethodName := ⟨RX4, "writeMarking", "(LTokenNet$Marking;)V"⟩
abbrev cX4_writeRule : ByteArray := prog_6_method_4_code
def yX4_writeRule : MethodName := ⟨RX4, "writeRule", "(LTokenNet$Rule;)V"⟩
abbrev cX4_writeClause : ByteArray := prog_6_method_5_code
def yX4_writeClause : MethodName := ⟨RX4, "writeClause", "(LTokenNet$Rule;I)V"⟩
abbrev cX4_writeCode : ByteArray := prog_6_method_6_code
def yX4_writeCode : MethodName := ⟨RX4, "writeCode", "(LTokenNet$Rule;II)V"⟩
abbrev cX4_writeItem : ByteArray := prog_6_method_7_code
def yX4_writeItem : MethodName := ⟨RX4, "writeItem", "(I)V"⟩
abbrev cX4_joinPieces : ByteArray := prog_6_method_8_code
def yX4_joinPieces : MethodName := ⟨RX4, "joinPieces", "(III)V"⟩
abbrev cX4_holdOf : ByteArray := prog_6_method_9_code
def yX4_holdOf : MethodName := ⟨RX4, "holdOf", "(I)I"⟩
abbrev cX4_write : ByteArray := prog_6_method_10_code
def yX4_write : MethodName := ⟨RX4, "write", "(I)V"⟩
abbrev cX4_insert : ByteArray := prog_6_method_11_code
def yX4_insert : MethodName := ⟨RX4, "insert", "(II)V"⟩
abbrev cX4_writeText : ByteArray := prog_6_method_12_code
def yX4_writeText : MethodName := ⟨RX4, "writeText", "(Ljava/lang/String;)V"⟩
abbrev cX4_writeNumber : ByteArray := prog_6_method_13_code
def yX4_writeNumber : MethodName := ⟨RX4, "writeNumber", "(I)V"⟩
def RX5 : String := "TokenNet$Rule"
def TX5 : u_T := fun k => match k with
  | 0 => ("TokenNet$Rule", "clauses", "I", false)
  | 1 => ("TokenNet$Rule", "takes", "I", false)
  | 2 => ("TokenNet$Rule", "gives", "I", false)
  | 3 => ("TokenNet$Rule", "conditions", "I", false)
  | 4 => ("TokenNet$Rule", "emptied", "I", false)
  | 5 => ("TokenNet$Rule", "length", "I", false)
  | 6 => ("TokenNet$Rule", "kinds", "[I", true)
  | 7 => ("TokenNet$Rule", "places", "[I", true)
  | 8 => ("TokenNet$Rule", "names", "[I", true)
  | 9 => ("TokenNet$Rule", "begins", "[I", true)
  | 10 => ("TokenNet$Rule", "ends", "[I", true)
  | 11 => ("TokenNet$Rule", "takeClauses", "[I", true)
  | 12 => ("TokenNet$Rule", "giveClauses", "[I", true)
  | _ => ("TokenNet$Rule", "code", "[I", true)
def tyX5 : Nat → FieldType := fun k => match k with
  | 0 => .int
  | 1 => .int
  | 2 => .int
  | 3 => .int
  | 4 => .int
  | 5 => .int
  | 6 => .array .int
  | 7 => .array .int
  | 8 => .array .int
  | 9 => .array .int
  | 10 => .array .int
  | 11 => .array .int
  | 12 => .array .int
  | _ => .array .int
abbrev wsX50 : List Cond := u_ws RX5 TX5 14
theorem nmX5 : ∀ a, a < 14 → ∀ b, b < 14 → a ≠ b → (TX5 a).2.1 ≠ (TX5 b).2.1 := by decide +kernel
theorem tyX5_ok : ∀ k, k < 14 → parseFieldDescriptor (TX5 k).2.2.1 = some (tyX5 k) := by decide +kernel
abbrev cX5_init : ByteArray := prog_7_method_1_code
def yX5_init : MethodName := ⟨RX5, "<init>", "()V"⟩
abbrev cX5_kind : ByteArray := prog_7_method_2_code
def yX5_kind : MethodName := ⟨RX5, "kind", "(I)I"⟩
abbrev cX5_place : ByteArray := prog_7_method_3_code
def yX5_place : MethodName := ⟨RX5, "place", "(I)I"⟩
abbrev cX5_name : ByteArray := prog_7_method_4_code
def yX5_name : MethodName := ⟨RX5, "name", "(I)I"⟩
abbrev cX5_begin : ByteArray := prog_7_method_5_code
def yX5_begin : MethodName := ⟨RX5, "begin", "(I)I"⟩
abbrev cX5_end : ByteArray := prog_7_method_6_code
def yX5_end : MethodName := ⟨RX5, "end", "(I)I"⟩
abbrev cX5_takeClause : ByteArray := prog_7_method_7_code
def yX5_takeClause : MethodName := ⟨RX5, "takeClause", "(I)I"⟩
abbrev cX5_giveClause : ByteArray := prog_7_method_8_code
def yX5_giveClause : MethodName := ⟨RX5, "giveClause", "(I)I"⟩
abbrev cX5_item : ByteArray := prog_7_method_9_code
def yX5_item : MethodName := ⟨RX5, "item", "(I)I"⟩
abbrev cX5_addItem : ByteArray := prog_7_method_10_code
def yX5_addItem : MethodName := ⟨RX5, "addItem", "(I)V"⟩
abbrev cX5_addTake : ByteArray := prog_7_method_11_code
def yX5_addTake : MethodName := ⟨RX5, "addTake", "(II)V"⟩
abbrev cX5_addCondition : ByteArray := prog_7_method_12_code
def yX5_addCondition : MethodName := ⟨RX5, "addCondition", "(II)V"⟩
abbrev cX5_addGive : ByteArray := prog_7_method_13_code
def yX5_addGive : MethodName := ⟨RX5, "addGive", "(II)V"⟩
abbrev cX5_addEmpty : ByteArray := prog_7_method_14_code
def yX5_addEmpty : MethodName := ⟨RX5, "addEmpty", "(I)V"⟩
abbrev cX5_addClause : ByteArray := prog_7_method_15_code
def yX5_addClause : MethodName := ⟨RX5, "addClause", "(IIII)Z"⟩
abbrev cX5_changeOf : ByteArray := prog_7_method_16_code
def yX5_changeOf : MethodName := ⟨RX5, "changeOf", "(I)I"⟩
def RX6 : String := "TokenNet$Tape"
def TX6 : u_T := fun k => match k with
  | 0 => ("TokenNet$Tape", "bytes", "[I", true)
  | 1 => ("TokenNet$Tape", "length", "I", false)
  | 2 => ("TokenNet$Tape", "at", "I", false)
  | 3 => ("TokenNet$Tape", "fault", "I", false)
  | 4 => ("TokenNet$Tape", "named", "I", false)
  | _ => ("TokenNet$Tape", "draft", "LTokenNet$Rule;", false)
def tyX6 : Nat → FieldType := fun k => match k with
  | 0 => .array .int
  | 1 => .int
  | 2 => .int
  | 3 => .int
  | 4 => .int
  | _ => .object "TokenNet$Rule"
abbrev wsX60 : List Cond := u_ws RX6 TX6 6
theorem nmX6 : ∀ a, a < 6 → ∀ b, b < 6 → a ≠ b → (TX6 a).2.1 ≠ (TX6 b).2.1 := by decide +kernel
theorem tyX6_ok : ∀ k, k < 6 → parseFieldDescriptor (TX6 k).2.2.1 = some (tyX6 k) := by decide +kernel
abbrev cX6_init : ByteArray := prog_8_method_1_code
def yX6_init : MethodName := ⟨RX6, "<init>", "()V"⟩
abbrev cX6_append : ByteArray := prog_8_method_2_code
def yX6_append : MethodName := ⟨RX6, "append", "(I)Z"⟩
abbrev cX6_wipe : ByteArray := prog_8_method_3_code
def yX6_wipe : MethodName := ⟨RX6, "wipe", "()V"⟩
abbrev cX6_read : ByteArray := prog_8_method_4_code
def yX6_read : MethodName := ⟨RX6, "read", "()LTokenNet$Rule;"⟩
abbrev cX6_fail : ByteArray := prog_8_method_5_code
def yX6_fail : MethodName := ⟨RX6, "fail", "(I)Z"⟩
abbrev cX6_peek : ByteArray := prog_8_method_6_code
def yX6_peek : MethodName := ⟨RX6, "peek", "()I"⟩
abbrev cX6_byteAt : ByteArray := prog_8_method_7_code
def yX6_byteAt : MethodName := ⟨RX6, "byteAt", "(I)I"⟩
abbrev cX6_expect : ByteArray := prog_8_method_8_code
def yX6_expect : MethodName := ⟨RX6, "expect", "(I)Z"⟩
abbrev cX6_readClause : ByteArray := prog_8_method_9_code
def yX6_readClause : MethodName := ⟨RX6, "readClause", "()Z"⟩
abbrev cX6_wordEnd : ByteArray := prog_8_method_10_code
def yX6_wordEnd : MethodName := ⟨RX6, "wordEnd", "(I)I"⟩
abbrev cX6_kindOf : ByteArray := prog_8_method_11_code
def yX6_kindOf : MethodName := ⟨RX6, "kindOf", "(II)I"⟩
abbrev cX6_isWord : ByteArray := prog_8_method_12_code
def yX6_isWord : MethodName := ⟨RX6, "isWord", "(Ljava/lang/String;II)Z"⟩
abbrev cX6_isOneTooMany : ByteArray := prog_8_method_13_code
def yX6_isOneTooMany : MethodName := ⟨RX6, "isOneTooMany", "(I)Z"⟩
abbrev cX6_readIn : ByteArray := prog_8_method_14_code
def yX6_readIn : MethodName := ⟨RX6, "readIn", "(I)Z"⟩
abbrev cX6_readOut : ByteArray := prog_8_method_15_code
def yX6_readOut : MethodName := ⟨RX6, "readOut", "(I)Z"⟩
abbrev cX6_readIf : ByteArray := prog_8_method_16_code
def yX6_readIf : MethodName := ⟨RX6, "readIf", "()Z"⟩
abbrev cX6_readComparison : ByteArray := prog_8_method_17_code
def yX6_readComparison : MethodName := ⟨RX6, "readComparison", "()Z"⟩
abbrev cX6_readSum : ByteArray := prog_8_method_18_code
def yX6_readSum : MethodName := ⟨RX6, "readSum", "(I)Z"⟩
abbrev cX6_readFactor : ByteArray := prog_8_method_19_code
def yX6_readFactor : MethodName := ⟨RX6, "readFactor", "(I)Z"⟩
def RX7 : String := "TokenNet$Walks"
def TX7 : u_T := fun k => match k with
  | 0 => ("TokenNet$Walks", "found", "[LTokenNet$Marking;", true)
  | 1 => ("TokenNet$Walks", "next", "LTokenNet$Marking;", true)
  | 2 => ("TokenNet$Walks", "parents", "[I", true)
  | 3 => ("TokenNet$Walks", "parts", "[I", true)
  | 4 => ("TokenNet$Walks", "able", "[I", true)
  | 5 => ("TokenNet$Walks", "leads", "[I", true)
  | 6 => ("TokenNet$Walks", "ending", "[Z", true)
  | _ => ("TokenNet$Walks", "count", "I", false)
def tyX7 : Nat → FieldType := fun k => match k with
  | 0 => .array (.object "TokenNet$Marking")
  | 1 => .object "TokenNet$Marking"
  | 2 => .array .int
  | 3 => .array .int
  | 4 => .array .int
  | 5 => .array .int
  | 6 => .array .boolean
  | _ => .int
abbrev wsX70 : List Cond := u_ws RX7 TX7 8
theorem nmX7 : ∀ a, a < 8 → ∀ b, b < 8 → a ≠ b → (TX7 a).2.1 ≠ (TX7 b).2.1 := by decide +kernel
theorem tyX7_ok : ∀ k, k < 8 → parseFieldDescriptor (TX7 k).2.2.1 = some (tyX7 k) := by decide +kernel
abbrev cX7_init : ByteArray := prog_9_method_1_code
def yX7_init : MethodName := ⟨RX7, "<init>", "()V"⟩
abbrev cX7_search : ByteArray := prog_9_method_2_code
def yX7_search : MethodName := ⟨RX7, "search", "(LTokenNet$Marking;[LTokenNet$Rule;LTokenNet$Firing;)V"⟩
abbrev cX7_numberOfNext : ByteArray := prog_9_method_3_code
def yX7_numberOfNext : MethodName := ⟨RX7, "numberOfNext", "(II)I"⟩
abbrev cX7_among : ByteArray := prog_9_method_4_code
def yX7_among : MethodName := ⟨RX7, "among", "(I)I"⟩
abbrev cX7_countIn : ByteArray := prog_9_method_5_code
def yX7_countIn : MethodName := ⟨RX7, "countIn", "(II)I"⟩
abbrev cX7_fullest : ByteArray := prog_9_method_6_code
def yX7_fullest : MethodName := ⟨RX7, "fullest", "(II)I"⟩
abbrev cX7_ableSomewhere : ByteArray := prog_9_method_7_code
def yX7_ableSomewhere : MethodName := ⟨RX7, "ableSomewhere", "(I)I"⟩
abbrev cX7_countEnds : ByteArray := prog_9_method_8_code
def yX7_countEnds : MethodName := ⟨RX7, "countEnds", "(I)I"⟩
abbrev cX7_firstStuck : ByteArray := prog_9_method_9_code
def yX7_firstStuck : MethodName := ⟨RX7, "firstStuck", "(I)I"⟩
abbrev cX7_spreadEnding : ByteArray := prog_9_method_10_code
def yX7_spreadEnding : MethodName := ⟨RX7, "spreadEnding", "(I)Z"⟩
abbrev cX7_leadsToEnding : ByteArray := prog_9_method_11_code
def yX7_leadsToEnding : MethodName := ⟨RX7, "leadsToEnding", "(II)Z"⟩
abbrev cX7_steps : ByteArray := prog_9_method_12_code
def yX7_steps : MethodName := ⟨RX7, "steps", "(I)I"⟩
abbrev cX7_step : ByteArray := prog_9_method_13_code
def yX7_step : MethodName := ⟨RX7, "step", "(II)I"⟩
def RX8 : String := "TokenNet"
def TX8 : u_T := fun k => match k with
  | 0 => ("TokenNet", "now", "LTokenNet$Marking;", true)
  | 1 => ("TokenNet", "next", "LTokenNet$Marking;", true)
  | 2 => ("TokenNet", "trial", "LTokenNet$Marking;", true)
  | 3 => ("TokenNet", "rules", "[LTokenNet$Rule;", true)
  | 4 => ("TokenNet", "tape", "LTokenNet$Tape;", true)
  | 5 => ("TokenNet", "page", "LTokenNet$Paper;", true)
  | 6 => ("TokenNet", "firing", "LTokenNet$Firing;", true)
  | 7 => ("TokenNet", "walks", "LTokenNet$Walks;", true)
  | 8 => ("TokenNet", "balance", "LTokenNet$Balance;", true)
  | 9 => ("TokenNet", "kept", "LTokenNet$Image;", true)
  | 10 => ("TokenNet", "went", "I", false)
  | _ => ("TokenNet", "walked", "Z", false)
def tyX8 : Nat → FieldType := fun k => match k with
  | 0 => .object "TokenNet$Marking"
  | 1 => .object "TokenNet$Marking"
  | 2 => .object "TokenNet$Marking"
  | 3 => .array (.object "TokenNet$Rule")
  | 4 => .object "TokenNet$Tape"
  | 5 => .object "TokenNet$Paper"
  | 6 => .object "TokenNet$Firing"
  | 7 => .object "TokenNet$Walks"
  | 8 => .object "TokenNet$Balance"
  | 9 => .object "TokenNet$Image"
  | 10 => .int
  | _ => .boolean
abbrev wsX80 : List Cond := u_ws RX8 TX8 12
theorem nmX8 : ∀ a, a < 12 → ∀ b, b < 12 → a ≠ b → (TX8 a).2.1 ≠ (TX8 b).2.1 := by decide +kernel
theorem tyX8_ok : ∀ k, k < 12 → parseFieldDescriptor (TX8 k).2.2.1 = some (tyX8 k) := by decide +kernel
abbrev cX8_init : ByteArray := prog_1_method_1_code
def yX8_init : MethodName := ⟨RX8, "<init>", "()V"⟩
abbrev cX8_put : ByteArray := prog_1_method_2_code
def yX8_put : MethodName := ⟨RX8, "put", "(II)I"⟩
abbrev cX8_take : ByteArray := prog_1_method_3_code
def yX8_take : MethodName := ⟨RX8, "take", "(II)I"⟩
abbrev cX8_token : ByteArray := prog_1_method_4_code
def yX8_token : MethodName := ⟨RX8, "token", "(II)I"⟩
abbrev cX8_feed : ByteArray := prog_1_method_5_code
def yX8_feed : MethodName := ⟨RX8, "feed", "(I)I"⟩
abbrev cX8_clear : ByteArray := prog_1_method_6_code
def yX8_clear : MethodName := ⟨RX8, "clear", "()I"⟩
abbrev cX8_rule : ByteArray := prog_1_method_7_code
def yX8_rule : MethodName := ⟨RX8, "rule", "(I)I"⟩
abbrev cX8_drop : ByteArray := prog_1_method_8_code
def yX8_drop : MethodName := ⟨RX8, "drop", "(I)I"⟩
abbrev cX8_has : ByteArray := prog_1_method_9_code
def yX8_has : MethodName := ⟨RX8, "has", "(II)I"⟩
abbrev cX8_spell : ByteArray := prog_1_method_10_code
def yX8_spell : MethodName := ⟨RX8, "spell", "(I)I"⟩
abbrev cX8_line : ByteArray := prog_1_method_11_code
def yX8_line : MethodName := ⟨RX8, "line", "()I"⟩
abbrev cX8_paper : ByteArray := prog_1_method_12_code
def yX8_paper : MethodName := ⟨RX8, "paper", "(I)I"⟩
abbrev cX8_can : ByteArray := prog_1_method_13_code
def yX8_can : MethodName := ⟨RX8, "can", "(I)I"⟩
abbrev cX8_bound : ByteArray := prog_1_method_14_code
def yX8_bound : MethodName := ⟨RX8, "bound", "(II)I"⟩
abbrev cX8_bindings : ByteArray := prog_1_method_15_code
def yX8_bindings : MethodName := ⟨RX8, "bindings", "(I)I"⟩
abbrev cX8_go : ByteArray := prog_1_method_16_code
def yX8_go : MethodName := ⟨RX8, "go", "(I)I"⟩
abbrev cX8_all : ByteArray := prog_1_method_17_code
def yX8_all : MethodName := ⟨RX8, "all", "()I"⟩
abbrev cX8_again : ByteArray := prog_1_method_18_code
def yX8_again : MethodName := ⟨RX8, "again", "(II)I"⟩
abbrev cX8_last : ByteArray := prog_1_method_19_code
def yX8_last : MethodName := ⟨RX8, "last", "(III)I"⟩
abbrev cX8_reach : ByteArray := prog_1_method_20_code
def yX8_reach : MethodName := ⟨RX8, "reach", "(I)I"⟩
abbrev cX8_most : ByteArray := prog_1_method_21_code
def yX8_most : MethodName := ⟨RX8, "most", "(II)I"⟩
abbrev cX8_dead : ByteArray := prog_1_method_22_code
def yX8_dead : MethodName := ⟨RX8, "dead", "(I)I"⟩
abbrev cX8_ends : ByteArray := prog_1_method_23_code
def yX8_ends : MethodName := ⟨RX8, "ends", "(I)I"⟩
abbrev cX8_stuck : ByteArray := prog_1_method_24_code
def yX8_stuck : MethodName := ⟨RX8, "stuck", "(I)I"⟩
abbrev cX8_walk : ByteArray := prog_1_method_25_code
def yX8_walk : MethodName := ⟨RX8, "walk", "(III)I"⟩
abbrev cX8_held : ByteArray := prog_1_method_26_code
def yX8_held : MethodName := ⟨RX8, "held", "(III)I"⟩
abbrev cX8_change : ByteArray := prog_1_method_27_code
def yX8_change : MethodName := ⟨RX8, "change", "(II)I"⟩
abbrev cX8_invariants : ByteArray := prog_1_method_28_code
def yX8_invariants : MethodName := ⟨RX8, "invariants", "()I"⟩
abbrev cX8_weight : ByteArray := prog_1_method_29_code
def yX8_weight : MethodName := ⟨RX8, "weight", "(III)J"⟩
abbrev cX8_sum : ByteArray := prog_1_method_30_code
def yX8_sum : MethodName := ⟨RX8, "sum", "(II)I"⟩
abbrev cX8_told : ByteArray := prog_1_method_31_code
def yX8_told : MethodName := ⟨RX8, "told", "(I)I"⟩
abbrev cX8_image : ByteArray := prog_1_method_32_code
def yX8_image : MethodName := ⟨RX8, "image", "()I"⟩
abbrev cX8_undo : ByteArray := prog_1_method_33_code
def yX8_undo : MethodName := ⟨RX8, "undo", "()I"⟩
abbrev cX8_isPlace : ByteArray := prog_1_method_34_code
def yX8_isPlace : MethodName := ⟨RX8, "isPlace", "(I)Z"⟩
abbrev cX8_isPart : ByteArray := prog_1_method_35_code
def yX8_isPart : MethodName := ⟨RX8, "isPart", "(I)Z"⟩
abbrev cX8_isSet : ByteArray := prog_1_method_36_code
def yX8_isSet : MethodName := ⟨RX8, "isSet", "(I)Z"⟩
abbrev cX8_isTimes : ByteArray := prog_1_method_37_code
def yX8_isTimes : MethodName := ⟨RX8, "isTimes", "(I)Z"⟩
abbrev cX8_isReach : ByteArray := prog_1_method_38_code
def yX8_isReach : MethodName := ⟨RX8, "isReach", "(I)Z"⟩
abbrev cX8_isSide : ByteArray := prog_1_method_39_code
def yX8_isSide : MethodName := ⟨RX8, "isSide", "(I)Z"⟩
abbrev cX8_isFigure : ByteArray := prog_1_method_40_code
def yX8_isFigure : MethodName := ⟨RX8, "isFigure", "(I)Z"⟩
abbrev cX8_isName : ByteArray := prog_1_method_41_code
def yX8_isName : MethodName := ⟨RX8, "isName", "(I)Z"⟩
abbrev cX8_wordOf : ByteArray := prog_1_method_42_code
def yX8_wordOf : MethodName := ⟨RX8, "wordOf", "(I)Ljava/lang/String;"⟩
abbrev cX8_rulesTold : ByteArray := prog_1_method_43_code
def yX8_rulesTold : MethodName := ⟨RX8, "rulesTold", "()I"⟩
abbrev cX8_tryOut : ByteArray := prog_1_method_44_code
def yX8_tryOut : MethodName := ⟨RX8, "tryOut", "(II)I"⟩
abbrev cX8_tryOne : ByteArray := prog_1_method_45_code
def yX8_tryOne : MethodName := ⟨RX8, "tryOne", "(I)Z"⟩
abbrev cX8_walksNow : ByteArray := prog_1_method_46_code
def yX8_walksNow : MethodName := ⟨RX8, "walksNow", "()LTokenNet$Walks;"⟩
def RX9 : String := "TokenNetModel"
def TX9 : u_T := fun k => match k with
  | 0 => ("TokenNetModel", "now", "[I", true)
  | 1 => ("TokenNetModel", "thenTokens", "[I", true)
  | 2 => ("TokenNetModel", "rules", "[I", true)
  | 3 => ("TokenNetModel", "thenRules", "[I", true)
  | 4 => ("TokenNetModel", "went", "I", false)
  | 5 => ("TokenNetModel", "thenWent", "I", false)
  | 6 => ("TokenNetModel", "kept", "Z", false)
  | 7 => ("TokenNetModel", "tape", "[I", true)
  | 8 => ("TokenNetModel", "length", "I", false)
  | 9 => ("TokenNetModel", "text", "[I", true)
  | 10 => ("TokenNetModel", "size", "I", false)
  | 11 => ("TokenNetModel", "place", "I", false)
  | 12 => ("TokenNetModel", "fault", "I", false)
  | 13 => ("TokenNetModel", "takesMany", "I", false)
  | 14 => ("TokenNetModel", "takePlace", "[I", true)
  | 15 => ("TokenNetModel", "takeName", "[I", true)
  | 16 => ("TokenNetModel", "givesMany", "I", false)
  | 17 => ("TokenNetModel", "givePlace", "[I", true)
  | 18 => ("TokenNetModel", "giveAt", "[I", true)
  | 19 => ("TokenNetModel", "conditions", "I", false)
  | 20 => ("TokenNetModel", "conditionAt", "[I", true)
  | 21 => ("TokenNetModel", "empties", "I", false)
  | 22 => ("TokenNetModel", "clauses", "I", false)
  | 23 => ("TokenNetModel", "names", "[I", true)
  | 24 => ("TokenNetModel", "known", "I", false)
  | 25 => ("TokenNetModel", "inside", "I", false)
  | 26 => ("TokenNetModel", "paper", "[I", true)
  | 27 => ("TokenNetModel", "written", "I", false)
  | 28 => ("TokenNetModel", "chosen", "[I", true)
  | 29 => ("TokenNetModel", "first", "[I", true)
  | 30 => ("TokenNetModel", "next", "[I", true)
  | 31 => ("TokenNetModel", "later", "[I", true)
  | 32 => ("TokenNetModel", "found", "I", false)
  | 33 => ("TokenNetModel", "markings", "[I", true)
  | 34 => ("TokenNetModel", "by", "[I", true)
  | 35 => ("TokenNetModel", "from", "[I", true)
  | 36 => ("TokenNetModel", "leads", "[I", true)
  | 37 => ("TokenNetModel", "looked", "[I", true)
  | 38 => ("TokenNetModel", "reached", "[Z", true)
  | 39 => ("TokenNetModel", "above", "[J", true)
  | 40 => ("TokenNetModel", "below", "[J", true)
  | 41 => ("TokenNetModel", "free", "[I", true)
  | 42 => ("TokenNetModel", "frees", "I", false)
  | 43 => ("TokenNetModel", "leading", "[I", true)
  | 44 => ("TokenNetModel", "rank", "I", false)
  | 45 => ("TokenNetModel", "weightAbove", "J", false)
  | _ => ("TokenNetModel", "weightBelow", "J", false)
def tyX9 : Nat → FieldType := fun k => match k with
  | 0 => .array .int
  | 1 => .array .int
  | 2 => .array .int
  | 3 => .array .int
  | 4 => .int
  | 5 => .int
  | 6 => .boolean
  | 7 => .array .int
  | 8 => .int
  | 9 => .array .int
  | 10 => .int
  | 11 => .int
  | 12 => .int
  | 13 => .int
  | 14 => .array .int
  | 15 => .array .int
  | 16 => .int
  | 17 => .array .int
  | 18 => .array .int
  | 19 => .int
  | 20 => .array .int
  | 21 => .int
  | 22 => .int
  | 23 => .array .int
  | 24 => .int
  | 25 => .int
  | 26 => .array .int
  | 27 => .int
  | 28 => .array .int
  | 29 => .array .int
  | 30 => .array .int
  | 31 => .array .int
  | 32 => .int
  | 33 => .array .int
  | 34 => .array .int
  | 35 => .array .int
  | 36 => .array .int
  | 37 => .array .int
  | 38 => .array .boolean
  | 39 => .array .long
  | 40 => .array .long
  | 41 => .array .int
  | 42 => .int
  | 43 => .array .int
  | 44 => .int
  | 45 => .long
  | _ => .long
abbrev wsX90 : List Cond := u_ws RX9 TX9 47
theorem nmX9 : ∀ a, a < 47 → ∀ b, b < 47 → a ≠ b → (TX9 a).2.1 ≠ (TX9 b).2.1 := by decide +kernel
theorem tyX9_ok : ∀ k, k < 47 → parseFieldDescriptor (TX9 k).2.2.1 = some (tyX9 k) := by decide +kernel
abbrev cX9_init : ByteArray := prog_11_method_1_code
def yX9_init : MethodName := ⟨RX9, "<init>", "()V"⟩
abbrev cX9_isIn : ByteArray := prog_11_method_2_code
def yX9_isIn : MethodName := ⟨RX9, "isIn", "(JJJ)Z"⟩
abbrev cX9_isPlace : ByteArray := prog_11_method_3_code
def yX9_isPlace : MethodName := ⟨RX9, "isPlace", "(I)Z"⟩
abbrev cX9_pours : ByteArray := prog_11_method_4_code
def yX9_pours : MethodName := ⟨RX9, "pours", "([II[III)V"⟩
abbrev cX9_at : ByteArray := prog_11_method_5_code
def yX9_at : MethodName := ⟨RX9, "at", "(II)I"⟩
abbrev cX9_removes : ByteArray := prog_11_method_6_code
def yX9_removes : MethodName := ⟨RX9, "removes", "([III)V"⟩
abbrev cX9_adds : ByteArray := prog_11_method_7_code
def yX9_adds : MethodName := ⟨RX9, "adds", "([III)Z"⟩
abbrev cX9_put : ByteArray := prog_11_method_8_code
def yX9_put : MethodName := ⟨RX9, "put", "(II)I"⟩
abbrev cX9_take : ByteArray := prog_11_method_9_code
def yX9_take : MethodName := ⟨RX9, "take", "(II)I"⟩
abbrev cX9_token : ByteArray := prog_11_method_10_code
def yX9_token : MethodName := ⟨RX9, "token", "(II)I"⟩
abbrev cX9_feed : ByteArray := prog_11_method_11_code
def yX9_feed : MethodName := ⟨RX9, "feed", "(I)I"⟩
abbrev cX9_clear : ByteArray := prog_11_method_12_code
def yX9_clear : MethodName := ⟨RX9, "clear", "()I"⟩
abbrev cX9_peek : ByteArray := prog_11_method_13_code
def yX9_peek : MethodName := ⟨RX9, "peek", "()I"⟩
abbrev cX9_wrong : ByteArray := prog_11_method_14_code
def yX9_wrong : MethodName := ⟨RX9, "wrong", "(I)V"⟩
abbrev cX9_takes : ByteArray := prog_11_method_15_code
def yX9_takes : MethodName := ⟨RX9, "takes", "(I)V"⟩
abbrev cX9_isFigure : ByteArray := prog_11_method_16_code
def yX9_isFigure : MethodName := ⟨RX9, "isFigure", "(I)Z"⟩
abbrev cX9_figure : ByteArray := prog_11_method_17_code
def yX9_figure : MethodName := ⟨RX9, "figure", "()I"⟩
abbrev cX9_expression : ByteArray := prog_11_method_18_code
def yX9_expression : MethodName := ⟨RX9, "expression", "()I"⟩
abbrev cX9_term : ByteArray := prog_11_method_19_code
def yX9_term : MethodName := ⟨RX9, "term", "()I"⟩
abbrev cX9_factor : ByteArray := prog_11_method_20_code
def yX9_factor : MethodName := ⟨RX9, "factor", "()I"⟩
abbrev cX9_compares : ByteArray := prog_11_method_21_code
def yX9_compares : MethodName := ⟨RX9, "compares", "()Z"⟩
abbrev cX9_word : ByteArray := prog_11_method_22_code
def yX9_word : MethodName := ⟨RX9, "word", "()I"⟩
abbrev cX9_takeClause : ByteArray := prog_11_method_23_code
def yX9_takeClause : MethodName := ⟨RX9, "takeClause", "()V"⟩
abbrev cX9_giveClause : ByteArray := prog_11_method_24_code
def yX9_giveClause : MethodName := ⟨RX9, "giveClause", "()V"⟩
abbrev cX9_conditionClause : ByteArray := prog_11_method_25_code
def yX9_conditionClause : MethodName := ⟨RX9, "conditionClause", "()V"⟩
abbrev cX9_clause : ByteArray := prog_11_method_26_code
def yX9_clause : MethodName := ⟨RX9, "clause", "()V"⟩
abbrev cX9_reads : ByteArray := prog_11_method_27_code
def yX9_reads : MethodName := ⟨RX9, "reads", "()I"⟩
abbrev cX9_readsRule : ByteArray := prog_11_method_28_code
def yX9_readsRule : MethodName := ⟨RX9, "readsRule", "(I)Z"⟩
abbrev cX9_rule : ByteArray := prog_11_method_29_code
def yX9_rule : MethodName := ⟨RX9, "rule", "(I)I"⟩
abbrev cX9_drop : ByteArray := prog_11_method_30_code
def yX9_drop : MethodName := ⟨RX9, "drop", "(I)I"⟩
abbrev cX9_has : ByteArray := prog_11_method_31_code
def yX9_has : MethodName := ⟨RX9, "has", "(II)I"⟩
abbrev cX9_writes : ByteArray := prog_11_method_32_code
def yX9_writes : MethodName := ⟨RX9, "writes", "(I)V"⟩
abbrev cX9_sign : ByteArray := prog_11_method_33_code
def yX9_sign : MethodName := ⟨RX9, "sign", "(II)I"⟩
abbrev cX9_bare : ByteArray := prog_11_method_34_code
def yX9_bare : MethodName := ⟨RX9, "bare", "(II)I"⟩
abbrev cX9_looseness : ByteArray := prog_11_method_35_code
def yX9_looseness : MethodName := ⟨RX9, "looseness", "(II)I"⟩
abbrev cX9_spells : ByteArray := prog_11_method_36_code
def yX9_spells : MethodName := ⟨RX9, "spells", "(III)V"⟩
abbrev cX9_end : ByteArray := prog_11_method_37_code
def yX9_end : MethodName := ⟨RX9, "end", "(I)I"⟩
abbrev cX9_spell : ByteArray := prog_11_method_38_code
def yX9_spell : MethodName := ⟨RX9, "spell", "(I)I"⟩
abbrev cX9_writesNumber : ByteArray := prog_11_method_39_code
def yX9_writesNumber : MethodName := ⟨RX9, "writesNumber", "(I)V"⟩
abbrev cX9_line : ByteArray := prog_11_method_40_code
def yX9_line : MethodName := ⟨RX9, "line", "()I"⟩
abbrev cX9_paper : ByteArray := prog_11_method_41_code
def yX9_paper : MethodName := ⟨RX9, "paper", "(I)I"⟩
abbrev cX9_isBinding : ByteArray := prog_11_method_42_code
def yX9_isBinding : MethodName := ⟨RX9, "isBinding", "([I)Z"⟩
abbrev cX9_binds : ByteArray := prog_11_method_43_code
def yX9_binds : MethodName := ⟨RX9, "binds", "([IZ)I"⟩
abbrev cX9_goes : ByteArray := prog_11_method_44_code
def yX9_goes : MethodName := ⟨RX9, "goes", "(I[I)Z"⟩
abbrev cX9_can : ByteArray := prog_11_method_45_code
def yX9_can : MethodName := ⟨RX9, "can", "(I)I"⟩
abbrev cX9_bound : ByteArray := prog_11_method_46_code
def yX9_bound : MethodName := ⟨RX9, "bound", "(II)I"⟩
abbrev cX9_bindings : ByteArray := prog_11_method_47_code
def yX9_bindings : MethodName := ⟨RX9, "bindings", "(I)I"⟩
abbrev cX9_go : ByteArray := prog_11_method_48_code
def yX9_go : MethodName := ⟨RX9, "go", "(I)I"⟩
abbrev cX9_all : ByteArray := prog_11_method_49_code
def yX9_all : MethodName := ⟨RX9, "all", "()I"⟩
abbrev cX9_repeats : ByteArray := prog_11_method_50_code
def yX9_repeats : MethodName := ⟨RX9, "repeats", "(II)I"⟩
abbrev cX9_isRepeat : ByteArray := prog_11_method_51_code
def yX9_isRepeat : MethodName := ⟨RX9, "isRepeat", "(II)Z"⟩
abbrev cX9_again : ByteArray := prog_11_method_52_code
def yX9_again : MethodName := ⟨RX9, "again", "(II)I"⟩
abbrev cX9_last : ByteArray := prog_11_method_53_code
def yX9_last : MethodName := ⟨RX9, "last", "(III)I"⟩
abbrev cX9_placeOf : ByteArray := prog_11_method_54_code
def yX9_placeOf : MethodName := ⟨RX9, "placeOf", "([I)I"⟩
abbrev cX9_finds : ByteArray := prog_11_method_55_code
def yX9_finds : MethodName := ⟨RX9, "finds", "(I)Z"⟩
abbrev cX9_reach : ByteArray := prog_11_method_56_code
def yX9_reach : MethodName := ⟨RX9, "reach", "(I)I"⟩
abbrev cX9_most : ByteArray := prog_11_method_57_code
def yX9_most : MethodName := ⟨RX9, "most", "(II)I"⟩
abbrev cX9_dead : ByteArray := prog_11_method_58_code
def yX9_dead : MethodName := ⟨RX9, "dead", "(I)I"⟩
abbrev cX9_isEnd : ByteArray := prog_11_method_59_code
def yX9_isEnd : MethodName := ⟨RX9, "isEnd", "(I)Z"⟩
abbrev cX9_ends : ByteArray := prog_11_method_60_code
def yX9_ends : MethodName := ⟨RX9, "ends", "(I)I"⟩
abbrev cX9_stuck : ByteArray := prog_11_method_61_code
def yX9_stuck : MethodName := ⟨RX9, "stuck", "(I)I"⟩
abbrev cX9_walk : ByteArray := prog_11_method_62_code
def yX9_walk : MethodName := ⟨RX9, "walk", "(III)I"⟩
abbrev cX9_held : ByteArray := prog_11_method_63_code
def yX9_held : MethodName := ⟨RX9, "held", "(III)I"⟩
abbrev cX9_changeOf : ByteArray := prog_11_method_64_code
def yX9_changeOf : MethodName := ⟨RX9, "changeOf", "(I)I"⟩
abbrev cX9_change : ByteArray := prog_11_method_65_code
def yX9_change : MethodName := ⟨RX9, "change", "(II)I"⟩
abbrev cX9_gcd : ByteArray := prog_11_method_66_code
def yX9_gcd : MethodName := ⟨RX9, "gcd", "(JJ)J"⟩
abbrev cX9_sets : ByteArray := prog_11_method_67_code
def yX9_sets : MethodName := ⟨RX9, "sets", "(IJJ)V"⟩
abbrev cX9_less : ByteArray := prog_11_method_68_code
def yX9_less : MethodName := ⟨RX9, "less", "(IIJJ)V"⟩
abbrev cX9_swaps : ByteArray := prog_11_method_69_code
def yX9_swaps : MethodName := ⟨RX9, "swaps", "(II)V"⟩
abbrev cX9_reduces : ByteArray := prog_11_method_70_code
def yX9_reduces : MethodName := ⟨RX9, "reduces", "()V"⟩
abbrev cX9_invariants : ByteArray := prog_11_method_71_code
def yX9_invariants : MethodName := ⟨RX9, "invariants", "()I"⟩
abbrev cX9_weighs : ByteArray := prog_11_method_72_code
def yX9_weighs : MethodName := ⟨RX9, "weighs", "(II)V"⟩
abbrev cX9_weight : ByteArray := prog_11_method_73_code
def yX9_weight : MethodName := ⟨RX9, "weight", "(III)J"⟩
abbrev cX9_sum : ByteArray := prog_11_method_74_code
def yX9_sum : MethodName := ⟨RX9, "sum", "(II)I"⟩
abbrev cX9_tokens : ByteArray := prog_11_method_75_code
def yX9_tokens : MethodName := ⟨RX9, "tokens", "()I"⟩
abbrev cX9_told : ByteArray := prog_11_method_76_code
def yX9_told : MethodName := ⟨RX9, "told", "(I)I"⟩
abbrev cX9_image : ByteArray := prog_11_method_77_code
def yX9_image : MethodName := ⟨RX9, "image", "()I"⟩
abbrev cX9_undo : ByteArray := prog_11_method_78_code
def yX9_undo : MethodName := ⟨RX9, "undo", "()I"⟩
def RJ6 : String := "java/lang/Integer"
def TJ6 : u_T := fun k => match k with
  | _ => ("", "", "", false)
def tyJ6 : Nat → FieldType := fun k => match k with
  | _ => .int
abbrev wsJ60 : List Cond := u_ws RJ6 TJ6 0
theorem nmJ6 : ∀ a, a < 0 → ∀ b, b < 0 → a ≠ b → (TJ6 a).2.1 ≠ (TJ6 b).2.1 := by decide +kernel
theorem tyJ6_ok : ∀ k, k < 0 → parseFieldDescriptor (TJ6 k).2.2.1 = some (tyJ6 k) := by decide +kernel
abbrev cJ6_bitCount_0f7a4 : ByteArray := prog_12_method_49_code
def yJ6_bitCount_0f7a4 : MethodName := ⟨RJ6, "bitCount", "(I)I"⟩
def RJ9 : String := "java/lang/Math"
def TJ9 : u_T := fun k => match k with
  | _ => ("", "", "", false)
def tyJ9 : Nat → FieldType := fun k => match k with
  | _ => .int
abbrev wsJ90 : List Cond := u_ws RJ9 TJ9 0
theorem nmJ9 : ∀ a, a < 0 → ∀ b, b < 0 → a ≠ b → (TJ9 a).2.1 ≠ (TJ9 b).2.1 := by decide +kernel
theorem tyJ9_ok : ∀ k, k < 0 → parseFieldDescriptor (TJ9 k).2.2.1 = some (tyJ9 k) := by decide +kernel
abbrev cJ9_floorMod_7cf53 : ByteArray := prog_13_method_50_code
def yJ9_floorMod_7cf53 : MethodName := ⟨RJ9, "floorMod", "(II)I"⟩
abbrev cJ9_abs_067f4 : ByteArray := prog_13_method_61_code
def yJ9_abs_067f4 : MethodName := ⟨RJ9, "abs", "(J)J"⟩
abbrev cJ9_max_7cf53 : ByteArray := prog_13_method_65_code
def yJ9_max_7cf53 : MethodName := ⟨RJ9, "max", "(II)I"⟩
abbrev cJ9_min_7cf53 : ByteArray := prog_13_method_69_code
def yJ9_min_7cf53 : MethodName := ⟨RJ9, "min", "(II)I"⟩
def RJ0 : String := "java/lang/String"
def TJ0 : u_T := fun k => match k with
  | _ => ("", "", "", false)
def tyJ0 : Nat → FieldType := fun k => match k with
  | _ => .int
abbrev wsJ00 : List Cond := u_ws RJ0 TJ0 0
theorem nmJ0 : ∀ a, a < 0 → ∀ b, b < 0 → a ≠ b → (TJ0 a).2.1 ≠ (TJ0 b).2.1 := by decide +kernel
theorem tyJ0_ok : ∀ k, k < 0 → parseFieldDescriptor (TJ0 k).2.2.1 = some (tyJ0 k) := by decide +kernel
abbrev cJ0_length_8abf5 : ByteArray := prog_14_method_54_code
def yJ0_length_8abf5 : MethodName := ⟨RJ0, "length", "()I"⟩
abbrev cJ0_charAt_5068e : ByteArray := prog_14_method_56_code
def yJ0_charAt_5068e : MethodName := ⟨RJ0, "charAt", "(I)C"⟩
abbrev cJ0_coder_7d493 : ByteArray := prog_14_method_152_code
def yJ0_coder_7d493 : MethodName := ⟨RJ0, "coder", "()B"⟩
abbrev cJ0_isLatin1_aae02 : ByteArray := prog_14_method_154_code
def yJ0_isLatin1_aae02 : MethodName := ⟨RJ0, "isLatin1", "()Z"⟩
abbrev cJ0_checkIndex_df160 : ByteArray := prog_14_method_155_code
def yJ0_checkIndex_df160 : MethodName := ⟨RJ0, "checkIndex", "(II)V"⟩
def RJ1 : String := "java/lang/StringLatin1"
def TJ1 : u_T := fun k => match k with
  | _ => ("", "", "", false)
def tyJ1 : Nat → FieldType := fun k => match k with
  | _ => .int
abbrev wsJ10 : List Cond := u_ws RJ1 TJ1 0
theorem nmJ1 : ∀ a, a < 0 → ∀ b, b < 0 → a ≠ b → (TJ1 a).2.1 ≠ (TJ1 b).2.1 := by decide +kernel
theorem tyJ1_ok : ∀ k, k < 0 → parseFieldDescriptor (TJ1 k).2.2.1 = some (tyJ1 k) := by decide +kernel
abbrev cJ1_charAt_3b067 : ByteArray := prog_15_method_2_code
def yJ1_charAt_3b067 : MethodName := ⟨RJ1, "charAt", "([BI)C"⟩
def RJ2 : String := "java/lang/StringUTF16"
def TJ2 : u_T := fun k => match k with
  | _ => ("", "", "", false)
def tyJ2 : Nat → FieldType := fun k => match k with
  | _ => .int
abbrev wsJ20 : List Cond := u_ws RJ2 TJ2 0
theorem nmJ2 : ∀ a, a < 0 → ∀ b, b < 0 → a ≠ b → (TJ2 a).2.1 ≠ (TJ2 b).2.1 := by decide +kernel
theorem tyJ2_ok : ∀ k, k < 0 → parseFieldDescriptor (TJ2 k).2.2.1 = some (tyJ2 k) := by decide +kernel
abbrev cJ2_getChar_3b067 : ByteArray := prog_16_method_5_code
def yJ2_getChar_3b067 : MethodName := ⟨RJ2, "getChar", "([BI)C"⟩
abbrev cJ2_length_9d52b : ByteArray := prog_16_method_6_code
def yJ2_length_9d52b : MethodName := ⟨RJ2, "length", "([B)I"⟩
abbrev cJ2_charAt_3b067 : ByteArray := prog_16_method_83_code
def yJ2_charAt_3b067 : MethodName := ⟨RJ2, "charAt", "([BI)C"⟩
abbrev cJ2_checkIndex_2214a : ByteArray := prog_16_method_91_code
def yJ2_checkIndex_2214a : MethodName := ⟨RJ2, "checkIndex", "(I[B)V"⟩
def RJ3 : String := "jdk/internal/util/Preconditions"
def TJ3 : u_T := fun k => match k with
  | _ => ("", "", "", false)
def tyJ3 : Nat → FieldType := fun k => match k with
  | _ => .int
abbrev wsJ30 : List Cond := u_ws RJ3 TJ3 0
theorem nmJ3 : ∀ a, a < 0 → ∀ b, b < 0 → a ≠ b → (TJ3 a).2.1 ≠ (TJ3 b).2.1 := by decide +kernel
theorem tyJ3_ok : ∀ k, k < 0 → parseFieldDescriptor (TJ3 k).2.2.1 = some (tyJ3 k) := by decide +kernel
abbrev cJ3_checkIndex_8e157 : ByteArray := prog_17_method_11_code
def yJ3_checkIndex_8e157 : MethodName := ⟨RJ3, "checkIndex", "(IILjava/util/function/BiFunction;)I"⟩
def RL : String := "TokenNetLaw"
abbrev cL_law : ByteArray := code
def yL_law : MethodName := ⟨RL, "law", "([I)Z"⟩
abbrev vwCl : List vw_C := [(RX0, TX0, 4), (RX1, TX1, 3), (RX2, TX2, 4), (RX3, TX3, 2), (RX4, TX4, 4), (RX5, TX5, 14), (RX6, TX6, 6), (RX7, TX7, 8), (RX8, TX8, 12), (RX9, TX9, 47)]
