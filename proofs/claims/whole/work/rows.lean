section
-- ===== PART A: goes FIRST, ahead of the names: the tables' words, and 'selects' of the private methods out of them =====
/-- a private method of a class that the tables say can be made, by its rows of tables_1 -/
def lw_okq (q : MethodName × Nat) : Prop := (q.1.cls ≠ "java/lang/invoke/MethodHandle" ∧ q.1.cls ≠ "java/lang/invoke/VarHandle") ∧ Cond.instantiable q.1.cls q.2 ∈ tables_1 ∧ Cond.privateMethod q.1 ∈ tables_1 ∧ Cond.instanceMethod q.1 ∈ tables_1
theorem lw_p0 : lw_okq (⟨"TokenNet$Tape", "readClause", "()Z"⟩, 6) := ⟨⟨by decide +kernel, by decide +kernel⟩, List.mem_of_getElem? (i := 42) (by decide +kernel), List.mem_of_getElem? (i := 349) (by decide +kernel), List.mem_of_getElem? (i := 350) (by decide +kernel)⟩
theorem lw_p1 : lw_okq (⟨"TokenNet$Tape", "wordEnd", "(I)I"⟩, 6) := ⟨⟨by decide +kernel, by decide +kernel⟩, List.mem_of_getElem? (i := 42) (by decide +kernel), List.mem_of_getElem? (i := 353) (by decide +kernel), List.mem_of_getElem? (i := 354) (by decide +kernel)⟩
theorem lw_p2 : lw_okq (⟨"TokenNet$Tape", "byteAt", "(I)I"⟩, 6) := ⟨⟨by decide +kernel, by decide +kernel⟩, List.mem_of_getElem? (i := 42) (by decide +kernel), List.mem_of_getElem? (i := 357) (by decide +kernel), List.mem_of_getElem? (i := 358) (by decide +kernel)⟩
theorem lw_p3 : lw_okq (⟨"TokenNet$Tape", "kindOf", "(II)I"⟩, 6) := ⟨⟨by decide +kernel, by decide +kernel⟩, List.mem_of_getElem? (i := 42) (by decide +kernel), List.mem_of_getElem? (i := 361) (by decide +kernel), List.mem_of_getElem? (i := 362) (by decide +kernel)⟩
theorem lw_p4 : lw_okq (⟨"TokenNet$Tape", "isWord", "(Ljava/lang/String;II)Z"⟩, 6) := ⟨⟨by decide +kernel, by decide +kernel⟩, List.mem_of_getElem? (i := 42) (by decide +kernel), List.mem_of_getElem? (i := 372) (by decide +kernel), List.mem_of_getElem? (i := 373) (by decide +kernel)⟩
theorem lw_p5 : lw_okq (⟨"TokenNet$Tape", "isOneTooMany", "(I)Z"⟩, 6) := ⟨⟨by decide +kernel, by decide +kernel⟩, List.mem_of_getElem? (i := 42) (by decide +kernel), List.mem_of_getElem? (i := 424) (by decide +kernel), List.mem_of_getElem? (i := 425) (by decide +kernel)⟩
theorem lw_p6 : lw_okq (⟨"TokenNet$Tape", "fail", "(I)Z"⟩, 6) := ⟨⟨by decide +kernel, by decide +kernel⟩, List.mem_of_getElem? (i := 42) (by decide +kernel), List.mem_of_getElem? (i := 428) (by decide +kernel), List.mem_of_getElem? (i := 429) (by decide +kernel)⟩
theorem lw_p7 : lw_okq (⟨"TokenNet$Tape", "expect", "(I)Z"⟩, 6) := ⟨⟨by decide +kernel, by decide +kernel⟩, List.mem_of_getElem? (i := 42) (by decide +kernel), List.mem_of_getElem? (i := 432) (by decide +kernel), List.mem_of_getElem? (i := 433) (by decide +kernel)⟩
theorem lw_p8 : lw_okq (⟨"TokenNet$Tape", "peek", "()I"⟩, 6) := ⟨⟨by decide +kernel, by decide +kernel⟩, List.mem_of_getElem? (i := 42) (by decide +kernel), List.mem_of_getElem? (i := 436) (by decide +kernel), List.mem_of_getElem? (i := 437) (by decide +kernel)⟩
theorem lw_p9 : lw_okq (⟨"TokenNet$Tape", "readIf", "()Z"⟩, 6) := ⟨⟨by decide +kernel, by decide +kernel⟩, List.mem_of_getElem? (i := 42) (by decide +kernel), List.mem_of_getElem? (i := 440) (by decide +kernel), List.mem_of_getElem? (i := 441) (by decide +kernel)⟩
theorem lw_p10 : lw_okq (⟨"TokenNet$Tape", "readComparison", "()Z"⟩, 6) := ⟨⟨by decide +kernel, by decide +kernel⟩, List.mem_of_getElem? (i := 42) (by decide +kernel), List.mem_of_getElem? (i := 444) (by decide +kernel), List.mem_of_getElem? (i := 445) (by decide +kernel)⟩
theorem lw_p11 : lw_okq (⟨"TokenNet$Tape", "readSum", "(I)Z"⟩, 6) := ⟨⟨by decide +kernel, by decide +kernel⟩, List.mem_of_getElem? (i := 42) (by decide +kernel), List.mem_of_getElem? (i := 448) (by decide +kernel), List.mem_of_getElem? (i := 449) (by decide +kernel)⟩
theorem lw_p12 : lw_okq (⟨"TokenNet$Tape", "readFactor", "(I)Z"⟩, 6) := ⟨⟨by decide +kernel, by decide +kernel⟩, List.mem_of_getElem? (i := 42) (by decide +kernel), List.mem_of_getElem? (i := 452) (by decide +kernel), List.mem_of_getElem? (i := 453) (by decide +kernel)⟩
theorem lw_p13 : lw_okq (⟨"TokenNet$Rule", "addClause", "(IIII)Z"⟩, 14) := ⟨⟨by decide +kernel, by decide +kernel⟩, List.mem_of_getElem? (i := 287) (by decide +kernel), List.mem_of_getElem? (i := 470) (by decide +kernel), List.mem_of_getElem? (i := 471) (by decide +kernel)⟩
theorem lw_p14 : lw_okq (⟨"TokenNet$Tape", "readIn", "(I)Z"⟩, 6) := ⟨⟨by decide +kernel, by decide +kernel⟩, List.mem_of_getElem? (i := 42) (by decide +kernel), List.mem_of_getElem? (i := 479) (by decide +kernel), List.mem_of_getElem? (i := 480) (by decide +kernel)⟩
theorem lw_p15 : lw_okq (⟨"TokenNet$Tape", "readOut", "(I)Z"⟩, 6) := ⟨⟨by decide +kernel, by decide +kernel⟩, List.mem_of_getElem? (i := 42) (by decide +kernel), List.mem_of_getElem? (i := 487) (by decide +kernel), List.mem_of_getElem? (i := 488) (by decide +kernel)⟩
def lw_privs_1 : List (MethodName × Nat) := [(⟨"TokenNet$Tape", "readClause", "()Z"⟩, 6), (⟨"TokenNet$Tape", "wordEnd", "(I)I"⟩, 6), (⟨"TokenNet$Tape", "byteAt", "(I)I"⟩, 6), (⟨"TokenNet$Tape", "kindOf", "(II)I"⟩, 6), (⟨"TokenNet$Tape", "isWord", "(Ljava/lang/String;II)Z"⟩, 6), (⟨"TokenNet$Tape", "isOneTooMany", "(I)Z"⟩, 6), (⟨"TokenNet$Tape", "fail", "(I)Z"⟩, 6), (⟨"TokenNet$Tape", "expect", "(I)Z"⟩, 6), (⟨"TokenNet$Tape", "peek", "()I"⟩, 6), (⟨"TokenNet$Tape", "readIf", "()Z"⟩, 6), (⟨"TokenNet$Tape", "readComparison", "()Z"⟩, 6), (⟨"TokenNet$Tape", "readSum", "(I)Z"⟩, 6), (⟨"TokenNet$Tape", "readFactor", "(I)Z"⟩, 6), (⟨"TokenNet$Rule", "addClause", "(IIII)Z"⟩, 14), (⟨"TokenNet$Tape", "readIn", "(I)Z"⟩, 6), (⟨"TokenNet$Tape", "readOut", "(I)Z"⟩, 6)]
theorem lw_r1 : ∀ q ∈ lw_privs_1, lw_okq q := List.forall_mem_cons.mpr ⟨lw_p0, List.forall_mem_cons.mpr ⟨lw_p1, List.forall_mem_cons.mpr ⟨lw_p2, List.forall_mem_cons.mpr ⟨lw_p3, List.forall_mem_cons.mpr ⟨lw_p4, List.forall_mem_cons.mpr ⟨lw_p5, List.forall_mem_cons.mpr ⟨lw_p6, List.forall_mem_cons.mpr ⟨lw_p7, List.forall_mem_cons.mpr ⟨lw_p8, List.forall_mem_cons.mpr ⟨lw_p9, List.forall_mem_cons.mpr ⟨lw_p10, List.forall_mem_cons.mpr ⟨lw_p11, List.forall_mem_cons.mpr ⟨lw_p12, List.forall_mem_cons.mpr ⟨lw_p13, List.forall_mem_cons.mpr ⟨lw_p14, List.forall_mem_cons.mpr ⟨lw_p15, fun _ h => absurd h List.not_mem_nil⟩⟩⟩⟩⟩⟩⟩⟩⟩⟩⟩⟩⟩⟩⟩⟩
theorem lw_p16 : lw_okq (⟨"TokenNet$Paper", "write", "(I)V"⟩, 4) := ⟨⟨by decide +kernel, by decide +kernel⟩, List.mem_of_getElem? (i := 69) (by decide +kernel), List.mem_of_getElem? (i := 518) (by decide +kernel), List.mem_of_getElem? (i := 519) (by decide +kernel)⟩
theorem lw_p17 : lw_okq (⟨"TokenNet$Paper", "writeClause", "(LTokenNet$Rule;I)V"⟩, 4) := ⟨⟨by decide +kernel, by decide +kernel⟩, List.mem_of_getElem? (i := 69) (by decide +kernel), List.mem_of_getElem? (i := 522) (by decide +kernel), List.mem_of_getElem? (i := 523) (by decide +kernel)⟩
theorem lw_p18 : lw_okq (⟨"TokenNet$Paper", "writeText", "(Ljava/lang/String;)V"⟩, 4) := ⟨⟨by decide +kernel, by decide +kernel⟩, List.mem_of_getElem? (i := 69) (by decide +kernel), List.mem_of_getElem? (i := 531) (by decide +kernel), List.mem_of_getElem? (i := 532) (by decide +kernel)⟩
theorem lw_p19 : lw_okq (⟨"TokenNet$Paper", "writeNumber", "(I)V"⟩, 4) := ⟨⟨by decide +kernel, by decide +kernel⟩, List.mem_of_getElem? (i := 69) (by decide +kernel), List.mem_of_getElem? (i := 541) (by decide +kernel), List.mem_of_getElem? (i := 542) (by decide +kernel)⟩
theorem lw_p20 : lw_okq (⟨"TokenNet$Paper", "writeCode", "(LTokenNet$Rule;II)V"⟩, 4) := ⟨⟨by decide +kernel, by decide +kernel⟩, List.mem_of_getElem? (i := 69) (by decide +kernel), List.mem_of_getElem? (i := 557) (by decide +kernel), List.mem_of_getElem? (i := 558) (by decide +kernel)⟩
theorem lw_p21 : lw_okq (⟨"TokenNet$Paper", "joinPieces", "(III)V"⟩, 4) := ⟨⟨by decide +kernel, by decide +kernel⟩, List.mem_of_getElem? (i := 69) (by decide +kernel), List.mem_of_getElem? (i := 565) (by decide +kernel), List.mem_of_getElem? (i := 566) (by decide +kernel)⟩
theorem lw_p22 : lw_okq (⟨"TokenNet$Paper", "insert", "(II)V"⟩, 4) := ⟨⟨by decide +kernel, by decide +kernel⟩, List.mem_of_getElem? (i := 69) (by decide +kernel), List.mem_of_getElem? (i := 572) (by decide +kernel), List.mem_of_getElem? (i := 573) (by decide +kernel)⟩
theorem lw_p23 : lw_okq (⟨"TokenNet$Paper", "writeItem", "(I)V"⟩, 4) := ⟨⟨by decide +kernel, by decide +kernel⟩, List.mem_of_getElem? (i := 69) (by decide +kernel), List.mem_of_getElem? (i := 576) (by decide +kernel), List.mem_of_getElem? (i := 577) (by decide +kernel)⟩
theorem lw_p24 : lw_okq (⟨"TokenNet$Firing", "bindFrom", "(LTokenNet$Rule;LTokenNet$Marking;IZ)I"⟩, 3) := ⟨⟨by decide +kernel, by decide +kernel⟩, List.mem_of_getElem? (i := 89) (by decide +kernel), List.mem_of_getElem? (i := 606) (by decide +kernel), List.mem_of_getElem? (i := 607) (by decide +kernel)⟩
theorem lw_p25 : lw_okq (⟨"TokenNet$Firing", "conditionsHold", "(LTokenNet$Rule;)Z"⟩, 3) := ⟨⟨by decide +kernel, by decide +kernel⟩, List.mem_of_getElem? (i := 89) (by decide +kernel), List.mem_of_getElem? (i := 610) (by decide +kernel), List.mem_of_getElem? (i := 611) (by decide +kernel)⟩
theorem lw_p26 : lw_okq (⟨"TokenNet$Firing", "value", "(LTokenNet$Rule;I)I"⟩, 3) := ⟨⟨by decide +kernel, by decide +kernel⟩, List.mem_of_getElem? (i := 89) (by decide +kernel), List.mem_of_getElem? (i := 615) (by decide +kernel), List.mem_of_getElem? (i := 616) (by decide +kernel)⟩
theorem lw_p27 : lw_okq (⟨"TokenNet$Firing", "isFree", "(LTokenNet$Rule;LTokenNet$Marking;II)Z"⟩, 3) := ⟨⟨by decide +kernel, by decide +kernel⟩, List.mem_of_getElem? (i := 89) (by decide +kernel), List.mem_of_getElem? (i := 632) (by decide +kernel), List.mem_of_getElem? (i := 633) (by decide +kernel)⟩
theorem lw_p28 : lw_okq (⟨"TokenNet$Firing", "copyLeft", "(LTokenNet$Rule;LTokenNet$Marking;LTokenNet$Marking;)V"⟩, 3) := ⟨⟨by decide +kernel, by decide +kernel⟩, List.mem_of_getElem? (i := 89) (by decide +kernel), List.mem_of_getElem? (i := 637) (by decide +kernel), List.mem_of_getElem? (i := 638) (by decide +kernel)⟩
theorem lw_p29 : lw_okq (⟨"TokenNet$Firing", "isTaken", "(LTokenNet$Rule;II)Z"⟩, 3) := ⟨⟨by decide +kernel, by decide +kernel⟩, List.mem_of_getElem? (i := 89) (by decide +kernel), List.mem_of_getElem? (i := 645) (by decide +kernel), List.mem_of_getElem? (i := 646) (by decide +kernel)⟩
theorem lw_p30 : lw_okq (⟨"TokenNet", "tryOut", "(II)I"⟩, 12) := ⟨⟨by decide +kernel, by decide +kernel⟩, List.mem_of_getElem? (i := 18) (by decide +kernel), List.mem_of_getElem? (i := 699) (by decide +kernel), List.mem_of_getElem? (i := 700) (by decide +kernel)⟩
theorem lw_p31 : lw_okq (⟨"TokenNet", "tryOne", "(I)Z"⟩, 12) := ⟨⟨by decide +kernel, by decide +kernel⟩, List.mem_of_getElem? (i := 18) (by decide +kernel), List.mem_of_getElem? (i := 703) (by decide +kernel), List.mem_of_getElem? (i := 704) (by decide +kernel)⟩
def lw_privs_2 : List (MethodName × Nat) := [(⟨"TokenNet$Paper", "write", "(I)V"⟩, 4), (⟨"TokenNet$Paper", "writeClause", "(LTokenNet$Rule;I)V"⟩, 4), (⟨"TokenNet$Paper", "writeText", "(Ljava/lang/String;)V"⟩, 4), (⟨"TokenNet$Paper", "writeNumber", "(I)V"⟩, 4), (⟨"TokenNet$Paper", "writeCode", "(LTokenNet$Rule;II)V"⟩, 4), (⟨"TokenNet$Paper", "joinPieces", "(III)V"⟩, 4), (⟨"TokenNet$Paper", "insert", "(II)V"⟩, 4), (⟨"TokenNet$Paper", "writeItem", "(I)V"⟩, 4), (⟨"TokenNet$Firing", "bindFrom", "(LTokenNet$Rule;LTokenNet$Marking;IZ)I"⟩, 3), (⟨"TokenNet$Firing", "conditionsHold", "(LTokenNet$Rule;)Z"⟩, 3), (⟨"TokenNet$Firing", "value", "(LTokenNet$Rule;I)I"⟩, 3), (⟨"TokenNet$Firing", "isFree", "(LTokenNet$Rule;LTokenNet$Marking;II)Z"⟩, 3), (⟨"TokenNet$Firing", "copyLeft", "(LTokenNet$Rule;LTokenNet$Marking;LTokenNet$Marking;)V"⟩, 3), (⟨"TokenNet$Firing", "isTaken", "(LTokenNet$Rule;II)Z"⟩, 3), (⟨"TokenNet", "tryOut", "(II)I"⟩, 12), (⟨"TokenNet", "tryOne", "(I)Z"⟩, 12)]
theorem lw_r2 : ∀ q ∈ lw_privs_2, lw_okq q := List.forall_mem_cons.mpr ⟨lw_p16, List.forall_mem_cons.mpr ⟨lw_p17, List.forall_mem_cons.mpr ⟨lw_p18, List.forall_mem_cons.mpr ⟨lw_p19, List.forall_mem_cons.mpr ⟨lw_p20, List.forall_mem_cons.mpr ⟨lw_p21, List.forall_mem_cons.mpr ⟨lw_p22, List.forall_mem_cons.mpr ⟨lw_p23, List.forall_mem_cons.mpr ⟨lw_p24, List.forall_mem_cons.mpr ⟨lw_p25, List.forall_mem_cons.mpr ⟨lw_p26, List.forall_mem_cons.mpr ⟨lw_p27, List.forall_mem_cons.mpr ⟨lw_p28, List.forall_mem_cons.mpr ⟨lw_p29, List.forall_mem_cons.mpr ⟨lw_p30, List.forall_mem_cons.mpr ⟨lw_p31, fun _ h => absurd h List.not_mem_nil⟩⟩⟩⟩⟩⟩⟩⟩⟩⟩⟩⟩⟩⟩⟩⟩
theorem lw_p32 : lw_okq (⟨"TokenNet", "walksNow", "()LTokenNet$Walks;"⟩, 12) := ⟨⟨by decide +kernel, by decide +kernel⟩, List.mem_of_getElem? (i := 18) (by decide +kernel), List.mem_of_getElem? (i := 718) (by decide +kernel), List.mem_of_getElem? (i := 719) (by decide +kernel)⟩
theorem lw_p33 : lw_okq (⟨"TokenNet$Walks", "numberOfNext", "(II)I"⟩, 8) := ⟨⟨by decide +kernel, by decide +kernel⟩, List.mem_of_getElem? (i := 105) (by decide +kernel), List.mem_of_getElem? (i := 728) (by decide +kernel), List.mem_of_getElem? (i := 729) (by decide +kernel)⟩
theorem lw_p34 : lw_okq (⟨"TokenNet", "rulesTold", "()I"⟩, 12) := ⟨⟨by decide +kernel, by decide +kernel⟩, List.mem_of_getElem? (i := 18) (by decide +kernel), List.mem_of_getElem? (i := 764) (by decide +kernel), List.mem_of_getElem? (i := 765) (by decide +kernel)⟩
theorem lw_p35 : lw_okq (⟨"TokenNet$Walks", "spreadEnding", "(I)Z"⟩, 8) := ⟨⟨by decide +kernel, by decide +kernel⟩, List.mem_of_getElem? (i := 105) (by decide +kernel), List.mem_of_getElem? (i := 788) (by decide +kernel), List.mem_of_getElem? (i := 789) (by decide +kernel)⟩
theorem lw_p36 : lw_okq (⟨"TokenNet$Walks", "leadsToEnding", "(II)Z"⟩, 8) := ⟨⟨by decide +kernel, by decide +kernel⟩, List.mem_of_getElem? (i := 105) (by decide +kernel), List.mem_of_getElem? (i := 792) (by decide +kernel), List.mem_of_getElem? (i := 793) (by decide +kernel)⟩
theorem lw_p37 : lw_okq (⟨"TokenNet$Balance", "rowWith", "(II)I"⟩, 4) := ⟨⟨by decide +kernel, by decide +kernel⟩, List.mem_of_getElem? (i := 140) (by decide +kernel), List.mem_of_getElem? (i := 832) (by decide +kernel), List.mem_of_getElem? (i := 833) (by decide +kernel)⟩
theorem lw_p38 : lw_okq (⟨"TokenNet$Balance", "swapRows", "(II)V"⟩, 4) := ⟨⟨by decide +kernel, by decide +kernel⟩, List.mem_of_getElem? (i := 140) (by decide +kernel), List.mem_of_getElem? (i := 836) (by decide +kernel), List.mem_of_getElem? (i := 837) (by decide +kernel)⟩
theorem lw_p39 : lw_okq (⟨"TokenNet$Balance", "clearOthers", "(II)V"⟩, 4) := ⟨⟨by decide +kernel, by decide +kernel⟩, List.mem_of_getElem? (i := 140) (by decide +kernel), List.mem_of_getElem? (i := 840) (by decide +kernel), List.mem_of_getElem? (i := 841) (by decide +kernel)⟩
theorem lw_p40 : lw_okq (⟨"TokenNet$Balance", "clearRow", "(III)V"⟩, 4) := ⟨⟨by decide +kernel, by decide +kernel⟩, List.mem_of_getElem? (i := 140) (by decide +kernel), List.mem_of_getElem? (i := 844) (by decide +kernel), List.mem_of_getElem? (i := 845) (by decide +kernel)⟩
theorem lw_p41 : lw_okq (⟨"TokenNet$Balance", "shortenRow", "(I)V"⟩, 4) := ⟨⟨by decide +kernel, by decide +kernel⟩, List.mem_of_getElem? (i := 140) (by decide +kernel), List.mem_of_getElem? (i := 848) (by decide +kernel), List.mem_of_getElem? (i := 849) (by decide +kernel)⟩
theorem lw_p42 : lw_okq (⟨"TokenNet$Balance", "setFraction", "(JJ)V"⟩, 4) := ⟨⟨by decide +kernel, by decide +kernel⟩, List.mem_of_getElem? (i := 140) (by decide +kernel), List.mem_of_getElem? (i := 879) (by decide +kernel), List.mem_of_getElem? (i := 880) (by decide +kernel)⟩
theorem lw_p43 : lw_okq (⟨"TokenNetModel", "reads", "()I"⟩, 47) := ⟨⟨by decide +kernel, by decide +kernel⟩, List.mem_of_getElem? (i := 919) (by decide +kernel), List.mem_of_getElem? (i := 1112) (by decide +kernel), List.mem_of_getElem? (i := 1113) (by decide +kernel)⟩
theorem lw_p44 : lw_okq (⟨"TokenNetModel", "clause", "()V"⟩, 47) := ⟨⟨by decide +kernel, by decide +kernel⟩, List.mem_of_getElem? (i := 919) (by decide +kernel), List.mem_of_getElem? (i := 1116) (by decide +kernel), List.mem_of_getElem? (i := 1117) (by decide +kernel)⟩
theorem lw_p45 : lw_okq (⟨"TokenNetModel", "word", "()I"⟩, 47) := ⟨⟨by decide +kernel, by decide +kernel⟩, List.mem_of_getElem? (i := 919) (by decide +kernel), List.mem_of_getElem? (i := 1120) (by decide +kernel), List.mem_of_getElem? (i := 1121) (by decide +kernel)⟩
theorem lw_p46 : lw_okq (⟨"TokenNetModel", "peek", "()I"⟩, 47) := ⟨⟨by decide +kernel, by decide +kernel⟩, List.mem_of_getElem? (i := 919) (by decide +kernel), List.mem_of_getElem? (i := 1124) (by decide +kernel), List.mem_of_getElem? (i := 1125) (by decide +kernel)⟩
theorem lw_p47 : lw_okq (⟨"TokenNetModel", "wrong", "(I)V"⟩, 47) := ⟨⟨by decide +kernel, by decide +kernel⟩, List.mem_of_getElem? (i := 919) (by decide +kernel), List.mem_of_getElem? (i := 1129) (by decide +kernel), List.mem_of_getElem? (i := 1130) (by decide +kernel)⟩
def lw_privs_3 : List (MethodName × Nat) := [(⟨"TokenNet", "walksNow", "()LTokenNet$Walks;"⟩, 12), (⟨"TokenNet$Walks", "numberOfNext", "(II)I"⟩, 8), (⟨"TokenNet", "rulesTold", "()I"⟩, 12), (⟨"TokenNet$Walks", "spreadEnding", "(I)Z"⟩, 8), (⟨"TokenNet$Walks", "leadsToEnding", "(II)Z"⟩, 8), (⟨"TokenNet$Balance", "rowWith", "(II)I"⟩, 4), (⟨"TokenNet$Balance", "swapRows", "(II)V"⟩, 4), (⟨"TokenNet$Balance", "clearOthers", "(II)V"⟩, 4), (⟨"TokenNet$Balance", "clearRow", "(III)V"⟩, 4), (⟨"TokenNet$Balance", "shortenRow", "(I)V"⟩, 4), (⟨"TokenNet$Balance", "setFraction", "(JJ)V"⟩, 4), (⟨"TokenNetModel", "reads", "()I"⟩, 47), (⟨"TokenNetModel", "clause", "()V"⟩, 47), (⟨"TokenNetModel", "word", "()I"⟩, 47), (⟨"TokenNetModel", "peek", "()I"⟩, 47), (⟨"TokenNetModel", "wrong", "(I)V"⟩, 47)]
theorem lw_r3 : ∀ q ∈ lw_privs_3, lw_okq q := List.forall_mem_cons.mpr ⟨lw_p32, List.forall_mem_cons.mpr ⟨lw_p33, List.forall_mem_cons.mpr ⟨lw_p34, List.forall_mem_cons.mpr ⟨lw_p35, List.forall_mem_cons.mpr ⟨lw_p36, List.forall_mem_cons.mpr ⟨lw_p37, List.forall_mem_cons.mpr ⟨lw_p38, List.forall_mem_cons.mpr ⟨lw_p39, List.forall_mem_cons.mpr ⟨lw_p40, List.forall_mem_cons.mpr ⟨lw_p41, List.forall_mem_cons.mpr ⟨lw_p42, List.forall_mem_cons.mpr ⟨lw_p43, List.forall_mem_cons.mpr ⟨lw_p44, List.forall_mem_cons.mpr ⟨lw_p45, List.forall_mem_cons.mpr ⟨lw_p46, List.forall_mem_cons.mpr ⟨lw_p47, fun _ h => absurd h List.not_mem_nil⟩⟩⟩⟩⟩⟩⟩⟩⟩⟩⟩⟩⟩⟩⟩⟩
theorem lw_p48 : lw_okq (⟨"TokenNetModel", "takes", "(I)V"⟩, 47) := ⟨⟨by decide +kernel, by decide +kernel⟩, List.mem_of_getElem? (i := 919) (by decide +kernel), List.mem_of_getElem? (i := 1133) (by decide +kernel), List.mem_of_getElem? (i := 1134) (by decide +kernel)⟩
theorem lw_p49 : lw_okq (⟨"TokenNetModel", "takeClause", "()V"⟩, 47) := ⟨⟨by decide +kernel, by decide +kernel⟩, List.mem_of_getElem? (i := 919) (by decide +kernel), List.mem_of_getElem? (i := 1137) (by decide +kernel), List.mem_of_getElem? (i := 1138) (by decide +kernel)⟩
theorem lw_p50 : lw_okq (⟨"TokenNetModel", "figure", "()I"⟩, 47) := ⟨⟨by decide +kernel, by decide +kernel⟩, List.mem_of_getElem? (i := 919) (by decide +kernel), List.mem_of_getElem? (i := 1141) (by decide +kernel), List.mem_of_getElem? (i := 1142) (by decide +kernel)⟩
theorem lw_p51 : lw_okq (⟨"TokenNetModel", "giveClause", "()V"⟩, 47) := ⟨⟨by decide +kernel, by decide +kernel⟩, List.mem_of_getElem? (i := 919) (by decide +kernel), List.mem_of_getElem? (i := 1148) (by decide +kernel), List.mem_of_getElem? (i := 1149) (by decide +kernel)⟩
theorem lw_p52 : lw_okq (⟨"TokenNetModel", "expression", "()I"⟩, 47) := ⟨⟨by decide +kernel, by decide +kernel⟩, List.mem_of_getElem? (i := 919) (by decide +kernel), List.mem_of_getElem? (i := 1152) (by decide +kernel), List.mem_of_getElem? (i := 1153) (by decide +kernel)⟩
theorem lw_p53 : lw_okq (⟨"TokenNetModel", "term", "()I"⟩, 47) := ⟨⟨by decide +kernel, by decide +kernel⟩, List.mem_of_getElem? (i := 919) (by decide +kernel), List.mem_of_getElem? (i := 1156) (by decide +kernel), List.mem_of_getElem? (i := 1157) (by decide +kernel)⟩
theorem lw_p54 : lw_okq (⟨"TokenNetModel", "factor", "()I"⟩, 47) := ⟨⟨by decide +kernel, by decide +kernel⟩, List.mem_of_getElem? (i := 919) (by decide +kernel), List.mem_of_getElem? (i := 1160) (by decide +kernel), List.mem_of_getElem? (i := 1161) (by decide +kernel)⟩
theorem lw_p55 : lw_okq (⟨"TokenNetModel", "conditionClause", "()V"⟩, 47) := ⟨⟨by decide +kernel, by decide +kernel⟩, List.mem_of_getElem? (i := 919) (by decide +kernel), List.mem_of_getElem? (i := 1164) (by decide +kernel), List.mem_of_getElem? (i := 1165) (by decide +kernel)⟩
theorem lw_p56 : lw_okq (⟨"TokenNetModel", "compares", "()Z"⟩, 47) := ⟨⟨by decide +kernel, by decide +kernel⟩, List.mem_of_getElem? (i := 919) (by decide +kernel), List.mem_of_getElem? (i := 1168) (by decide +kernel), List.mem_of_getElem? (i := 1169) (by decide +kernel)⟩
theorem lw_p57 : lw_okq (⟨"TokenNetModel", "readsRule", "(I)Z"⟩, 47) := ⟨⟨by decide +kernel, by decide +kernel⟩, List.mem_of_getElem? (i := 919) (by decide +kernel), List.mem_of_getElem? (i := 1181) (by decide +kernel), List.mem_of_getElem? (i := 1182) (by decide +kernel)⟩
theorem lw_p58 : lw_okq (⟨"TokenNetModel", "writes", "(I)V"⟩, 47) := ⟨⟨by decide +kernel, by decide +kernel⟩, List.mem_of_getElem? (i := 919) (by decide +kernel), List.mem_of_getElem? (i := 1189) (by decide +kernel), List.mem_of_getElem? (i := 1190) (by decide +kernel)⟩
theorem lw_p59 : lw_okq (⟨"TokenNetModel", "end", "(I)I"⟩, 47) := ⟨⟨by decide +kernel, by decide +kernel⟩, List.mem_of_getElem? (i := 919) (by decide +kernel), List.mem_of_getElem? (i := 1193) (by decide +kernel), List.mem_of_getElem? (i := 1194) (by decide +kernel)⟩
theorem lw_p60 : lw_okq (⟨"TokenNetModel", "spells", "(III)V"⟩, 47) := ⟨⟨by decide +kernel, by decide +kernel⟩, List.mem_of_getElem? (i := 919) (by decide +kernel), List.mem_of_getElem? (i := 1197) (by decide +kernel), List.mem_of_getElem? (i := 1198) (by decide +kernel)⟩
theorem lw_p61 : lw_okq (⟨"TokenNetModel", "bare", "(II)I"⟩, 47) := ⟨⟨by decide +kernel, by decide +kernel⟩, List.mem_of_getElem? (i := 919) (by decide +kernel), List.mem_of_getElem? (i := 1201) (by decide +kernel), List.mem_of_getElem? (i := 1202) (by decide +kernel)⟩
theorem lw_p62 : lw_okq (⟨"TokenNetModel", "sign", "(II)I"⟩, 47) := ⟨⟨by decide +kernel, by decide +kernel⟩, List.mem_of_getElem? (i := 919) (by decide +kernel), List.mem_of_getElem? (i := 1205) (by decide +kernel), List.mem_of_getElem? (i := 1206) (by decide +kernel)⟩
theorem lw_p63 : lw_okq (⟨"TokenNetModel", "looseness", "(II)I"⟩, 47) := ⟨⟨by decide +kernel, by decide +kernel⟩, List.mem_of_getElem? (i := 919) (by decide +kernel), List.mem_of_getElem? (i := 1209) (by decide +kernel), List.mem_of_getElem? (i := 1210) (by decide +kernel)⟩
def lw_privs_4 : List (MethodName × Nat) := [(⟨"TokenNetModel", "takes", "(I)V"⟩, 47), (⟨"TokenNetModel", "takeClause", "()V"⟩, 47), (⟨"TokenNetModel", "figure", "()I"⟩, 47), (⟨"TokenNetModel", "giveClause", "()V"⟩, 47), (⟨"TokenNetModel", "expression", "()I"⟩, 47), (⟨"TokenNetModel", "term", "()I"⟩, 47), (⟨"TokenNetModel", "factor", "()I"⟩, 47), (⟨"TokenNetModel", "conditionClause", "()V"⟩, 47), (⟨"TokenNetModel", "compares", "()Z"⟩, 47), (⟨"TokenNetModel", "readsRule", "(I)Z"⟩, 47), (⟨"TokenNetModel", "writes", "(I)V"⟩, 47), (⟨"TokenNetModel", "end", "(I)I"⟩, 47), (⟨"TokenNetModel", "spells", "(III)V"⟩, 47), (⟨"TokenNetModel", "bare", "(II)I"⟩, 47), (⟨"TokenNetModel", "sign", "(II)I"⟩, 47), (⟨"TokenNetModel", "looseness", "(II)I"⟩, 47)]
theorem lw_r4 : ∀ q ∈ lw_privs_4, lw_okq q := List.forall_mem_cons.mpr ⟨lw_p48, List.forall_mem_cons.mpr ⟨lw_p49, List.forall_mem_cons.mpr ⟨lw_p50, List.forall_mem_cons.mpr ⟨lw_p51, List.forall_mem_cons.mpr ⟨lw_p52, List.forall_mem_cons.mpr ⟨lw_p53, List.forall_mem_cons.mpr ⟨lw_p54, List.forall_mem_cons.mpr ⟨lw_p55, List.forall_mem_cons.mpr ⟨lw_p56, List.forall_mem_cons.mpr ⟨lw_p57, List.forall_mem_cons.mpr ⟨lw_p58, List.forall_mem_cons.mpr ⟨lw_p59, List.forall_mem_cons.mpr ⟨lw_p60, List.forall_mem_cons.mpr ⟨lw_p61, List.forall_mem_cons.mpr ⟨lw_p62, List.forall_mem_cons.mpr ⟨lw_p63, fun _ h => absurd h List.not_mem_nil⟩⟩⟩⟩⟩⟩⟩⟩⟩⟩⟩⟩⟩⟩⟩⟩
theorem lw_p64 : lw_okq (⟨"TokenNetModel", "writesNumber", "(I)V"⟩, 47) := ⟨⟨by decide +kernel, by decide +kernel⟩, List.mem_of_getElem? (i := 919) (by decide +kernel), List.mem_of_getElem? (i := 1217) (by decide +kernel), List.mem_of_getElem? (i := 1218) (by decide +kernel)⟩
theorem lw_p65 : lw_okq (⟨"TokenNetModel", "goes", "(I[I)Z"⟩, 47) := ⟨⟨by decide +kernel, by decide +kernel⟩, List.mem_of_getElem? (i := 919) (by decide +kernel), List.mem_of_getElem? (i := 1229) (by decide +kernel), List.mem_of_getElem? (i := 1230) (by decide +kernel)⟩
theorem lw_p66 : lw_okq (⟨"TokenNetModel", "binds", "([IZ)I"⟩, 47) := ⟨⟨by decide +kernel, by decide +kernel⟩, List.mem_of_getElem? (i := 919) (by decide +kernel), List.mem_of_getElem? (i := 1233) (by decide +kernel), List.mem_of_getElem? (i := 1234) (by decide +kernel)⟩
theorem lw_p67 : lw_okq (⟨"TokenNetModel", "isBinding", "([I)Z"⟩, 47) := ⟨⟨by decide +kernel, by decide +kernel⟩, List.mem_of_getElem? (i := 919) (by decide +kernel), List.mem_of_getElem? (i := 1237) (by decide +kernel), List.mem_of_getElem? (i := 1238) (by decide +kernel)⟩
theorem lw_p68 : lw_okq (⟨"TokenNetModel", "repeats", "(II)I"⟩, 47) := ⟨⟨by decide +kernel, by decide +kernel⟩, List.mem_of_getElem? (i := 919) (by decide +kernel), List.mem_of_getElem? (i := 1266) (by decide +kernel), List.mem_of_getElem? (i := 1267) (by decide +kernel)⟩
theorem lw_p69 : lw_okq (⟨"TokenNetModel", "finds", "(I)Z"⟩, 47) := ⟨⟨by decide +kernel, by decide +kernel⟩, List.mem_of_getElem? (i := 919) (by decide +kernel), List.mem_of_getElem? (i := 1278) (by decide +kernel), List.mem_of_getElem? (i := 1279) (by decide +kernel)⟩
theorem lw_p70 : lw_okq (⟨"TokenNetModel", "placeOf", "([I)I"⟩, 47) := ⟨⟨by decide +kernel, by decide +kernel⟩, List.mem_of_getElem? (i := 919) (by decide +kernel), List.mem_of_getElem? (i := 1283) (by decide +kernel), List.mem_of_getElem? (i := 1284) (by decide +kernel)⟩
theorem lw_p71 : lw_okq (⟨"TokenNetModel", "isEnd", "(I)Z"⟩, 47) := ⟨⟨by decide +kernel, by decide +kernel⟩, List.mem_of_getElem? (i := 919) (by decide +kernel), List.mem_of_getElem? (i := 1300) (by decide +kernel), List.mem_of_getElem? (i := 1301) (by decide +kernel)⟩
theorem lw_p72 : lw_okq (⟨"TokenNetModel", "changeOf", "(I)I"⟩, 47) := ⟨⟨by decide +kernel, by decide +kernel⟩, List.mem_of_getElem? (i := 919) (by decide +kernel), List.mem_of_getElem? (i := 1320) (by decide +kernel), List.mem_of_getElem? (i := 1321) (by decide +kernel)⟩
theorem lw_p73 : lw_okq (⟨"TokenNetModel", "reduces", "()V"⟩, 47) := ⟨⟨by decide +kernel, by decide +kernel⟩, List.mem_of_getElem? (i := 919) (by decide +kernel), List.mem_of_getElem? (i := 1328) (by decide +kernel), List.mem_of_getElem? (i := 1329) (by decide +kernel)⟩
theorem lw_p74 : lw_okq (⟨"TokenNetModel", "swaps", "(II)V"⟩, 47) := ⟨⟨by decide +kernel, by decide +kernel⟩, List.mem_of_getElem? (i := 919) (by decide +kernel), List.mem_of_getElem? (i := 1332) (by decide +kernel), List.mem_of_getElem? (i := 1333) (by decide +kernel)⟩
theorem lw_p75 : lw_okq (⟨"TokenNetModel", "sets", "(IJJ)V"⟩, 47) := ⟨⟨by decide +kernel, by decide +kernel⟩, List.mem_of_getElem? (i := 919) (by decide +kernel), List.mem_of_getElem? (i := 1336) (by decide +kernel), List.mem_of_getElem? (i := 1337) (by decide +kernel)⟩
theorem lw_p76 : lw_okq (⟨"TokenNetModel", "less", "(IIJJ)V"⟩, 47) := ⟨⟨by decide +kernel, by decide +kernel⟩, List.mem_of_getElem? (i := 919) (by decide +kernel), List.mem_of_getElem? (i := 1344) (by decide +kernel), List.mem_of_getElem? (i := 1345) (by decide +kernel)⟩
theorem lw_p77 : lw_okq (⟨"TokenNetModel", "weighs", "(II)V"⟩, 47) := ⟨⟨by decide +kernel, by decide +kernel⟩, List.mem_of_getElem? (i := 919) (by decide +kernel), List.mem_of_getElem? (i := 1353) (by decide +kernel), List.mem_of_getElem? (i := 1354) (by decide +kernel)⟩
theorem lw_p78 : lw_okq (⟨"TokenNetModel", "tokens", "()I"⟩, 47) := ⟨⟨by decide +kernel, by decide +kernel⟩, List.mem_of_getElem? (i := 919) (by decide +kernel), List.mem_of_getElem? (i := 1365) (by decide +kernel), List.mem_of_getElem? (i := 1366) (by decide +kernel)⟩
def lw_privs_5 : List (MethodName × Nat) := [(⟨"TokenNetModel", "writesNumber", "(I)V"⟩, 47), (⟨"TokenNetModel", "goes", "(I[I)Z"⟩, 47), (⟨"TokenNetModel", "binds", "([IZ)I"⟩, 47), (⟨"TokenNetModel", "isBinding", "([I)Z"⟩, 47), (⟨"TokenNetModel", "repeats", "(II)I"⟩, 47), (⟨"TokenNetModel", "finds", "(I)Z"⟩, 47), (⟨"TokenNetModel", "placeOf", "([I)I"⟩, 47), (⟨"TokenNetModel", "isEnd", "(I)Z"⟩, 47), (⟨"TokenNetModel", "changeOf", "(I)I"⟩, 47), (⟨"TokenNetModel", "reduces", "()V"⟩, 47), (⟨"TokenNetModel", "swaps", "(II)V"⟩, 47), (⟨"TokenNetModel", "sets", "(IJJ)V"⟩, 47), (⟨"TokenNetModel", "less", "(IIJJ)V"⟩, 47), (⟨"TokenNetModel", "weighs", "(II)V"⟩, 47), (⟨"TokenNetModel", "tokens", "()I"⟩, 47)]
theorem lw_r5 : ∀ q ∈ lw_privs_5, lw_okq q := List.forall_mem_cons.mpr ⟨lw_p64, List.forall_mem_cons.mpr ⟨lw_p65, List.forall_mem_cons.mpr ⟨lw_p66, List.forall_mem_cons.mpr ⟨lw_p67, List.forall_mem_cons.mpr ⟨lw_p68, List.forall_mem_cons.mpr ⟨lw_p69, List.forall_mem_cons.mpr ⟨lw_p70, List.forall_mem_cons.mpr ⟨lw_p71, List.forall_mem_cons.mpr ⟨lw_p72, List.forall_mem_cons.mpr ⟨lw_p73, List.forall_mem_cons.mpr ⟨lw_p74, List.forall_mem_cons.mpr ⟨lw_p75, List.forall_mem_cons.mpr ⟨lw_p76, List.forall_mem_cons.mpr ⟨lw_p77, List.forall_mem_cons.mpr ⟨lw_p78, fun _ h => absurd h List.not_mem_nil⟩⟩⟩⟩⟩⟩⟩⟩⟩⟩⟩⟩⟩⟩⟩
def lw_privs : List (MethodName × Nat) := lw_privs_1 ++ (lw_privs_2 ++ (lw_privs_3 ++ (lw_privs_4 ++ (lw_privs_5))))
def lw_tbl : List Cond := k2_sels lw_privs ++ tables_1
theorem lw_privs_ok : ∀ q ∈ lw_privs, lw_okq q := by
  show ∀ q ∈ lw_privs_1 ++ (lw_privs_2 ++ (lw_privs_3 ++ (lw_privs_4 ++ (lw_privs_5)))), lw_okq q
  exact List.forall_mem_append.mpr ⟨lw_r1, List.forall_mem_append.mpr ⟨lw_r2, List.forall_mem_append.mpr ⟨lw_r3, List.forall_mem_append.mpr ⟨lw_r4, lw_r5⟩⟩⟩⟩
-- ===== end of PART A
/-! ===== BEGIN words of one list among another's, by their places ===== -/
theorem goodIn_r {big : List Cond} (ws : List Cond) (ps : List Nat) (hp : ws = ps.filterMap (fun i => big[i]?)) (h : ws.all goodWord = true) : GoodIn big ws := by
  intro w hw
  have h1 := List.all_eq_true.mp h w hw
  rw [hp] at hw
  obtain ⟨i, -, hi⟩ := List.mem_filterMap.mp hw
  have hm : w ∈ big := by first | exact List.mem_of_getElem? hi | exact List.getElem?_mem hi
  exact ⟨hm, good_of_word h1⟩
theorem goodIn_app {big a b : List Cond} (ha : GoodIn big a) (hb : GoodIn big b) : GoodIn big (a ++ b) := fun w h => (List.mem_append.mp h).elim (ha w) (hb w)
theorem goodIn_ca {big a b : List Cond} {c : Cond} (ha : GoodIn big (c :: a)) (hb : GoodIn big b) : GoodIn big (c :: (a ++ b)) := fun w h => (List.mem_cons.mp h).elim (fun e => ha w (List.mem_cons.mpr (Or.inl e))) (fun h => (List.mem_append.mp h).elim (fun h => ha w (List.mem_cons.mpr (Or.inr h))) (hb w))
theorem goodIn_sub {big ws : List Cond} (hm : ∀ w ∈ ws, w ∈ big) (h : ws.all goodWord = true) : GoodIn big ws := fun w hw => ⟨hm w hw, good_of_word (List.all_eq_true.mp h w hw)⟩
/-! ===== END ===== -/
/-! ===== BEGIN printed: names, fields, word lists, decode rows ===== -/
def RX0 : String := "TokenNet$Balance"
def TX0 : u_T := fun k => match k with
  | 0 => ("TokenNet$Balance", "rows", "[J", true)
  | 1 => ("TokenNet$Balance", "leaders", "[I", true)
  | 2 => ("TokenNet$Balance", "above", "J", false)
  | _ => ("TokenNet$Balance", "below", "J", false)
def tyX0 : Nat → FieldType := fun k => match k with
  | 0 => .array .long
  | 1 => .array .int
  | 2 => .long
  | _ => .long
abbrev wsX00 : List Cond := u_ws RX0 TX0 4
theorem nmX0 : ∀ a, a < 4 → ∀ b, b < 4 → a ≠ b → (TX0 a).2.1 ≠ (TX0 b).2.1 := by decide +kernel
theorem tyX0_ok : ∀ k, k < 4 → parseFieldDescriptor (TX0 k).2.2.1 = some (tyX0 k) := by decide +kernel
abbrev cX0_init : ByteArray := prog_2_method_1_code
def yX0_init : MethodName := ⟨RX0, "<init>", "()V"⟩
abbrev cX0_solve : ByteArray := prog_2_method_2_code
def yX0_solve : MethodName := ⟨RX0, "solve", "([LTokenNet$Rule;)V"⟩
abbrev cX0_rowWith : ByteArray := prog_2_method_3_code
def yX0_rowWith : MethodName := ⟨RX0, "rowWith", "(II)I"⟩
abbrev cX0_swapRows : ByteArray := prog_2_method_4_code
def yX0_swapRows : MethodName := ⟨RX0, "swapRows", "(II)V"⟩
abbrev cX0_clearOthers : ByteArray := prog_2_method_5_code
def yX0_clearOthers : MethodName := ⟨RX0, "clearOthers", "(II)V"⟩
abbrev cX0_clearRow : ByteArray := prog_2_method_6_code
def yX0_clearRow : MethodName := ⟨RX0, "clearRow", "(III)V"⟩
abbrev cX0_shortenRow : ByteArray := prog_2_method_7_code
def yX0_shortenRow : MethodName := ⟨RX0, "shortenRow", "(I)V"⟩
abbrev cX0_commonDivisor : ByteArray := prog_2_method_8_code
def yX0_commonDivisor : MethodName := ⟨RX0, "commonDivisor", "(JJ)J"⟩
abbrev cX0_count : ByteArray := prog_2_method_9_code
def yX0_count : MethodName := ⟨RX0, "count", "()I"⟩
abbrev cX0_placeOf : ByteArray := prog_2_method_10_code
def yX0_placeOf : MethodName := ⟨RX0, "placeOf", "(I)I"⟩
abbrev cX0_weigh : ByteArray := prog_2_method_11_code
def yX0_weigh : MethodName := ⟨RX0, "weigh", "(II)V"⟩
abbrev cX0_addUp : ByteArray := prog_2_method_12_code
def yX0_addUp : MethodName := ⟨RX0, "addUp", "(ILTokenNet$Marking;)V"⟩
abbrev cX0_setFraction : ByteArray := prog_2_method_13_code
def yX0_setFraction : MethodName := ⟨RX0, "setFraction", "(JJ)V"⟩
def RX1 : String := "TokenNet$Firing"
def TX1 : u_T := fun k => match k with
  | 0 => ("TokenNet$Firing", "chosen", "[I", true)
  | 1 => ("TokenNet$Firing", "tokens", "[I", true)
  | _ => ("TokenNet$Firing", "stack", "[I", true)
def tyX1 : Nat → FieldType := fun k => match k with
  | 0 => .array .int
  | 1 => .array .int
  | _ => .array .int
abbrev wsX10 : List Cond := u_ws RX1 TX1 3
theorem nmX1 : ∀ a, a < 3 → ∀ b, b < 3 → a ≠ b → (TX1 a).2.1 ≠ (TX1 b).2.1 := by decide +kernel
theorem tyX1_ok : ∀ k, k < 3 → parseFieldDescriptor (TX1 k).2.2.1 = some (tyX1 k) := by decide +kernel
abbrev cX1_init : ByteArray := prog_3_method_1_code
def yX1_init : MethodName := ⟨RX1, "<init>", "()V"⟩
abbrev cX1_chosenFor : ByteArray := prog_3_method_2_code
def yX1_chosenFor : MethodName := ⟨RX1, "chosenFor", "(I)I"⟩
abbrev cX1_countBindings : ByteArray := prog_3_method_3_code
def yX1_countBindings : MethodName := ⟨RX1, "countBindings", "(LTokenNet$Rule;LTokenNet$Marking;)I"⟩
abbrev cX1_bindFirst : ByteArray := prog_3_method_4_code
def yX1_bindFirst : MethodName := ⟨RX1, "bindFirst", "(LTokenNet$Rule;LTokenNet$Marking;)Z"⟩
abbrev cX1_goes : ByteArray := prog_3_method_5_code
def yX1_goes : MethodName := ⟨RX1, "goes", "(LTokenNet$Rule;LTokenNet$Marking;LTokenNet$Marking;)Z"⟩
abbrev cX1_bindFrom : ByteArray := prog_3_method_6_code
def yX1_bindFrom : MethodName := ⟨RX1, "bindFrom", "(LTokenNet$Rule;LTokenNet$Marking;IZ)I"⟩
abbrev cX1_isFree : ByteArray := prog_3_method_7_code
def yX1_isFree : MethodName := ⟨RX1, "isFree", "(LTokenNet$Rule;LTokenNet$Marking;II)Z"⟩
abbrev cX1_conditionsHold : ByteArray := prog_3_method_8_code
def yX1_conditionsHold : MethodName := ⟨RX1, "conditionsHold", "(LTokenNet$Rule;)Z"⟩
abbrev cX1_copyLeft : ByteArray := prog_3_method_9_code
def yX1_copyLeft : MethodName := ⟨RX1, "copyLeft", "(LTokenNet$Rule;LTokenNet$Marking;LTokenNet$Marking;)V"⟩
abbrev cX1_isTaken : ByteArray := prog_3_method_10_code
def yX1_isTaken : MethodName := ⟨RX1, "isTaken", "(LTokenNet$Rule;II)Z"⟩
abbrev cX1_value : ByteArray := prog_3_method_11_code
def yX1_value : MethodName := ⟨RX1, "value", "(LTokenNet$Rule;I)I"⟩
abbrev cX1_result : ByteArray := prog_3_method_12_code
def yX1_result : MethodName := ⟨RX1, "result", "(III)I"⟩
def RX2 : String := "TokenNet$Image"
def TX2 : u_T := fun k => match k with
  | 0 => ("TokenNet$Image", "marking", "LTokenNet$Marking;", true)
  | 1 => ("TokenNet$Image", "rules", "[LTokenNet$Rule;", true)
  | 2 => ("TokenNet$Image", "went", "I", false)
  | _ => ("TokenNet$Image", "taken", "Z", false)
def tyX2 : Nat → FieldType := fun k => match k with
  | 0 => .object "TokenNet$Marking"
  | 1 => .array (.object "TokenNet$Rule")
  | 2 => .int
  | _ => .boolean
abbrev wsX20 : List Cond := u_ws RX2 TX2 4
theorem nmX2 : ∀ a, a < 4 → ∀ b, b < 4 → a ≠ b → (TX2 a).2.1 ≠ (TX2 b).2.1 := by decide +kernel
theorem tyX2_ok : ∀ k, k < 4 → parseFieldDescriptor (TX2 k).2.2.1 = some (tyX2 k) := by decide +kernel
abbrev cX2_init : ByteArray := prog_4_method_1_code
def yX2_init : MethodName := ⟨RX2, "<init>", "()V"⟩
abbrev cX2_keep : ByteArray := prog_4_method_2_code
def yX2_keep : MethodName := ⟨RX2, "keep", "(LTokenNet$Marking;[LTokenNet$Rule;I)V"⟩
abbrev cX2_giveBack : ByteArray := prog_4_method_3_code
def yX2_giveBack : MethodName := ⟨RX2, "giveBack", "(LTokenNet$Marking;[LTokenNet$Rule;)V"⟩
def RX3 : String := "TokenNet$Marking"
def TX3 : u_T := fun k => match k with
  | 0 => ("TokenNet$Marking", "counts", "[I", true)
  | _ => ("TokenNet$Marking", "tokens", "[I", true)
def tyX3 : Nat → FieldType := fun k => match k with
  | 0 => .array .int
  | _ => .array .int
abbrev wsX30 : List Cond := u_ws RX3 TX3 2
theorem nmX3 : ∀ a, a < 2 → ∀ b, b < 2 → a ≠ b → (TX3 a).2.1 ≠ (TX3 b).2.1 := by decide +kernel
theorem tyX3_ok : ∀ k, k < 2 → parseFieldDescriptor (TX3 k).2.2.1 = some (tyX3 k) := by decide +kernel
abbrev cX3_init : ByteArray := prog_5_method_1_code
def yX3_init : MethodName := ⟨RX3, "<init>", "()V"⟩
abbrev cX3_count : ByteArray := prog_5_method_2_code
def yX3_count : MethodName := ⟨RX3, "count", "(I)I"⟩
abbrev cX3_holds : ByteArray := prog_5_method_3_code
def yX3_holds : MethodName := ⟨RX3, "holds", "(II)Z"⟩
abbrev cX3_at : ByteArray := prog_5_method_4_code
def yX3_at : MethodName := ⟨RX3, "at", "(II)I"⟩
abbrev cX3_append : ByteArray := prog_5_method_5_code
def yX3_append : MethodName := ⟨RX3, "append", "(II)Z"⟩
abbrev cX3_remove : ByteArray := prog_5_method_6_code
def yX3_remove : MethodName := ⟨RX3, "remove", "(II)I"⟩
abbrev cX3_wipe : ByteArray := prog_5_method_7_code
def yX3_wipe : MethodName := ⟨RX3, "wipe", "()V"⟩
abbrev cX3_copy : ByteArray := prog_5_method_8_code
def yX3_copy : MethodName := ⟨RX3, "copy", "(LTokenNet$Marking;)V"⟩
abbrev cX3_isLike : ByteArray := prog_5_method_9_code
def yX3_isLike : MethodName := ⟨RX3, "isLike", "(LTokenNet$Marking;)Z"⟩
abbrev cX3_total : ByteArray := prog_5_method_10_code
def yX3_total : MethodName := ⟨RX3, "total", "()I"⟩
def RX4 : String := "TokenNet$Paper"
def TX4 : u_T := fun k => match k with
  | 0 => ("TokenNet$Paper", "bytes", "[I", true)
  | 1 => ("TokenNet$Paper", "starts", "[I", true)
  | 2 => ("TokenNet$Paper", "holds", "[I", true)
  | _ => ("TokenNet$Paper", "length", "I", false)
def tyX4 : Nat → FieldType := fun k => match k with
  | 0 => .array .int
  | 1 => .array .int
  | 2 => .array .int
  | _ => .int
abbrev wsX40 : List Cond := u_ws RX4 TX4 4
theorem nmX4 : ∀ a, a < 4 → ∀ b, b < 4 → a ≠ b → (TX4 a).2.1 ≠ (TX4 b).2.1 := by decide +kernel
theorem tyX4_ok : ∀ k, k < 4 → parseFieldDescriptor (TX4 k).2.2.1 = some (tyX4 k) := by decide +kernel
abbrev cX4_init : ByteArray := prog_6_method_1_code
def yX4_init : MethodName := ⟨RX4, "<init>", "()V"⟩
abbrev cX4_at : ByteArray := prog_6_method_2_code
def yX4_at : MethodName := ⟨RX4, "at", "(I)I"⟩
abbrev cX4_writeMarking : ByteArray := prog_6_method_3_code
def yX4_writeMarking : MethodName := ⟨RX4, "writeMarking", "(LTokenNet$Marking;)V"⟩
abbrev cX4_writeRule : ByteArray := prog_6_method_4_code
def yX4_writeRule : MethodName := ⟨RX4, "writeRule", "(LTokenNet$Rule;)V"⟩
abbrev cX4_writeClause : ByteArray := prog_6_method_5_code
def yX4_writeClause : MethodName := ⟨RX4, "writeClause", "(LTokenNet$Rule;I)V"⟩
abbrev cX4_writeCode : ByteArray := prog_6_method_6_code
def yX4_writeCode : MethodName := ⟨RX4, "writeCode", "(LTokenNet$Rule;II)V"⟩
abbrev cX4_writeItem : ByteArray := prog_6_method_7_code
def yX4_writeItem : MethodName := ⟨RX4, "writeItem", "(I)V"⟩
abbrev cX4_joinPieces : ByteArray := prog_6_method_8_code
def yX4_joinPieces : MethodName := ⟨RX4, "joinPieces", "(III)V"⟩
abbrev cX4_holdOf : ByteArray := prog_6_method_9_code
def yX4_holdOf : MethodName := ⟨RX4, "holdOf", "(I)I"⟩
abbrev cX4_write : ByteArray := prog_6_method_10_code
def yX4_write : MethodName := ⟨RX4, "write", "(I)V"⟩
abbrev cX4_insert : ByteArray := prog_6_method_11_code
def yX4_insert : MethodName := ⟨RX4, "insert", "(II)V"⟩
abbrev cX4_writeText : ByteArray := prog_6_method_12_code
def yX4_writeText : MethodName := ⟨RX4, "writeText", "(Ljava/lang/String;)V"⟩
abbrev cX4_writeNumber : ByteArray := prog_6_method_13_code
def yX4_writeNumber : MethodName := ⟨RX4, "writeNumber", "(I)V"⟩
def RX5 : String := "TokenNet$Rule"
def TX5 : u_T := fun k => match k with
  | 0 => ("TokenNet$Rule", "clauses", "I", false)
  | 1 => ("TokenNet$Rule", "takes", "I", false)
  | 2 => ("TokenNet$Rule", "gives", "I", false)
  | 3 => ("TokenNet$Rule", "conditions", "I", false)
  | 4 => ("TokenNet$Rule", "emptied", "I", false)
  | 5 => ("TokenNet$Rule", "length", "I", false)
  | 6 => ("TokenNet$Rule", "kinds", "[I", true)
  | 7 => ("TokenNet$Rule", "places", "[I", true)
  | 8 => ("TokenNet$Rule", "names", "[I", true)
  | 9 => ("TokenNet$Rule", "begins", "[I", true)
  | 10 => ("TokenNet$Rule", "ends", "[I", true)
  | 11 => ("TokenNet$Rule", "takeClauses", "[I", true)
  | 12 => ("TokenNet$Rule", "giveClauses", "[I", true)
  | _ => ("TokenNet$Rule", "code", "[I", true)
def tyX5 : Nat → FieldType := fun k => match k with
  | 0 => .int
  | 1 => .int
  | 2 => .int
  | 3 => .int
  | 4 => .int
  | 5 => .int
  | 6 => .array .int
  | 7 => .array .int
  | 8 => .array .int
  | 9 => .array .int
  | 10 => .array .int
  | 11 => .array .int
  | 12 => .array .int
  | _ => .array .int
abbrev wsX50 : List Cond := u_ws RX5 TX5 14
theorem nmX5 : ∀ a, a < 14 → ∀ b, b < 14 → a ≠ b → (TX5 a).2.1 ≠ (TX5 b).2.1 := by decide +kernel
theorem tyX5_ok : ∀ k, k < 14 → parseFieldDescriptor (TX5 k).2.2.1 = some (tyX5 k) := by decide +kernel
abbrev cX5_init : ByteArray := prog_7_method_1_code
def yX5_init : MethodName := ⟨RX5, "<init>", "()V"⟩
abbrev cX5_kind : ByteArray := prog_7_method_2_code
def yX5_kind : MethodName := ⟨RX5, "kind", "(I)I"⟩
abbrev cX5_place : ByteArray := prog_7_method_3_code
def yX5_place : MethodName := ⟨RX5, "place", "(I)I"⟩
abbrev cX5_name : ByteArray := prog_7_method_4_code
def yX5_name : MethodName := ⟨RX5, "name", "(I)I"⟩
abbrev cX5_begin : ByteArray := prog_7_method_5_code
def yX5_begin : MethodName := ⟨RX5, "begin", "(I)I"⟩
abbrev cX5_end : ByteArray := prog_7_method_6_code
def yX5_end : MethodName := ⟨RX5, "end", "(I)I"⟩
abbrev cX5_takeClause : ByteArray := prog_7_method_7_code
def yX5_takeClause : MethodName := ⟨RX5, "takeClause", "(I)I"⟩
abbrev cX5_giveClause : ByteArray := prog_7_method_8_code
def yX5_giveClause : MethodName := ⟨RX5, "giveClause", "(I)I"⟩
abbrev cX5_item : ByteArray := prog_7_method_9_code
def yX5_item : MethodName := ⟨RX5, "item", "(I)I"⟩
abbrev cX5_addItem : ByteArray := prog_7_method_10_code
def yX5_addItem : MethodName := ⟨RX5, "addItem", "(I)V"⟩
abbrev cX5_addTake : ByteArray := prog_7_method_11_code
def yX5_addTake : MethodName := ⟨RX5, "addTake", "(II)V"⟩
abbrev cX5_addCondition : ByteArray := prog_7_method_12_code
def yX5_addCondition : MethodName := ⟨RX5, "addCondition", "(II)V"⟩
abbrev cX5_addGive : ByteArray := prog_7_method_13_code
def yX5_addGive : MethodName := ⟨RX5, "addGive", "(II)V"⟩
abbrev cX5_addEmpty : ByteArray := prog_7_method_14_code
def yX5_addEmpty : MethodName := ⟨RX5, "addEmpty", "(I)V"⟩
abbrev cX5_addClause : ByteArray := prog_7_method_15_code
def yX5_addClause : MethodName := ⟨RX5, "addClause", "(IIII)Z"⟩
abbrev cX5_changeOf : ByteArray := prog_7_method_16_code
def yX5_changeOf : MethodName := ⟨RX5, "changeOf", "(I)I"⟩
def RX6 : String := "TokenNet$Tape"
def TX6 : u_T := fun k => match k with
  | 0 => ("TokenNet$Tape", "bytes", "[I", true)
  | 1 => ("TokenNet$Tape", "length", "I", false)
  | 2 => ("TokenNet$Tape", "at", "I", false)
  | 3 => ("TokenNet$Tape", "fault", "I", false)
  | 4 => ("TokenNet$Tape", "named", "I", false)
  | _ => ("TokenNet$Tape", "draft", "LTokenNet$Rule;", false)
def tyX6 : Nat → FieldType := fun k => match k with
  | 0 => .array .int
  | 1 => .int
  | 2 => .int
  | 3 => .int
  | 4 => .int
  | _ => .object "TokenNet$Rule"
abbrev wsX60 : List Cond := u_ws RX6 TX6 6
theorem nmX6 : ∀ a, a < 6 → ∀ b, b < 6 → a ≠ b → (TX6 a).2.1 ≠ (TX6 b).2.1 := by decide +kernel
theorem tyX6_ok : ∀ k, k < 6 → parseFieldDescriptor (TX6 k).2.2.1 = some (tyX6 k) := by decide +kernel
abbrev cX6_init : ByteArray := prog_8_method_1_code
def yX6_init : MethodName := ⟨RX6, "<init>", "()V"⟩
abbrev cX6_append : ByteArray := prog_8_method_2_code
def yX6_append : MethodName := ⟨RX6, "append", "(I)Z"⟩
abbrev cX6_wipe : ByteArray := prog_8_method_3_code
def yX6_wipe : MethodName := ⟨RX6, "wipe", "()V"⟩
abbrev cX6_read : ByteArray := prog_8_method_4_code
def yX6_read : MethodName := ⟨RX6, "read", "()LTokenNet$Rule;"⟩
abbrev cX6_fail : ByteArray := prog_8_method_5_code
def yX6_fail : MethodName := ⟨RX6, "fail", "(I)Z"⟩
abbrev cX6_peek : ByteArray := prog_8_method_6_code
def yX6_peek : MethodName := ⟨RX6, "peek", "()I"⟩
abbrev cX6_byteAt : ByteArray := prog_8_method_7_code
def yX6_byteAt : MethodName := ⟨RX6, "byteAt", "(I)I"⟩
abbrev cX6_expect : ByteArray := prog_8_method_8_code
def yX6_expect : MethodName := ⟨RX6, "expect", "(I)Z"⟩
abbrev cX6_readClause : ByteArray := prog_8_method_9_code
def yX6_readClause : MethodName := ⟨RX6, "readClause", "()Z"⟩
abbrev cX6_wordEnd : ByteArray := prog_8_method_10_code
def yX6_wordEnd : MethodName := ⟨RX6, "wordEnd", "(I)I"⟩
abbrev cX6_kindOf : ByteArray := prog_8_method_11_code
def yX6_kindOf : MethodName := ⟨RX6, "kindOf", "(II)I"⟩
abbrev cX6_isWord : ByteArray := prog_8_method_12_code
def yX6_isWord : MethodName := ⟨RX6, "isWord", "(Ljava/lang/String;II)Z"⟩
abbrev cX6_isOneTooMany : ByteArray := prog_8_method_13_code
def yX6_isOneTooMany : MethodName := ⟨RX6, "isOneTooMany", "(I)Z"⟩
abbrev cX6_readIn : ByteArray := prog_8_method_14_code
def yX6_readIn : MethodName := ⟨RX6, "readIn", "(I)Z"⟩
abbrev cX6_readOut : ByteArray := prog_8_method_15_code
def yX6_readOut : MethodName := ⟨RX6, "readOut", "(I)Z"⟩
abbrev cX6_readIf : ByteArray := prog_8_method_16_code
def yX6_readIf : MethodName := ⟨RX6, "readIf", "()Z"⟩
abbrev cX6_readComparison : ByteArray := prog_8_method_17_code
def yX6_readComparison : MethodName := ⟨RX6, "readComparison", "()Z"⟩
abbrev cX6_readSum : ByteArray := prog_8_method_18_code
def yX6_readSum : MethodName := ⟨RX6, "readSum", "(I)Z"⟩
abbrev cX6_readFactor : ByteArray := prog_8_method_19_code
def yX6_readFactor : MethodName := ⟨RX6, "readFactor", "(I)Z"⟩
def RX7 : String := "TokenNet$Walks"
def TX7 : u_T := fun k => match k with
  | 0 => ("TokenNet$Walks", "found", "[LTokenNet$Marking;", true)
  | 1 => ("TokenNet$Walks", "next", "LTokenNet$Marking;", true)
  | 2 => ("TokenNet$Walks", "parents", "[I", true)
  | 3 => ("TokenNet$Walks", "parts", "[I", true)
  | 4 => ("TokenNet$Walks", "able", "[I", true)
  | 5 => ("TokenNet$Walks", "leads", "[I", true)
  | 6 => ("TokenNet$Walks", "ending", "[Z", true)
  | _ => ("TokenNet$Walks", "count", "I", false)
def tyX7 : Nat → FieldType := fun k => match k with
  | 0 => .array (.object "TokenNet$Marking")
  | 1 => .object "TokenNet$Marking"
  | 2 => .array .int
  | 3 => .array .int
  | 4 => .array .int
  | 5 => .array .int
  | 6 => .array .boolean
  | _ => .int
abbrev wsX70 : List Cond := u_ws RX7 TX7 8
theorem nmX7 : ∀ a, a < 8 → ∀ b, b < 8 → a ≠ b → (TX7 a).2.1 ≠ (TX7 b).2.1 := by decide +kernel
theorem tyX7_ok : ∀ k, k < 8 → parseFieldDescriptor (TX7 k).2.2.1 = some (tyX7 k) := by decide +kernel
abbrev cX7_init : ByteArray := prog_9_method_1_code
def yX7_init : MethodName := ⟨RX7, "<init>", "()V"⟩
abbrev cX7_search : ByteArray := prog_9_method_2_code
def yX7_search : MethodName := ⟨RX7, "search", "(LTokenNet$Marking;[LTokenNet$Rule;LTokenNet$Firing;)V"⟩
abbrev cX7_numberOfNext : ByteArray := prog_9_method_3_code
def yX7_numberOfNext : MethodName := ⟨RX7, "numberOfNext", "(II)I"⟩
abbrev cX7_among : ByteArray := prog_9_method_4_code
def yX7_among : MethodName := ⟨RX7, "among", "(I)I"⟩
abbrev cX7_countIn : ByteArray := prog_9_method_5_code
def yX7_countIn : MethodName := ⟨RX7, "countIn", "(II)I"⟩
abbrev cX7_fullest : ByteArray := prog_9_method_6_code
def yX7_fullest : MethodName := ⟨RX7, "fullest", "(II)I"⟩
abbrev cX7_ableSomewhere : ByteArray := prog_9_method_7_code
def yX7_ableSomewhere : MethodName := ⟨RX7, "ableSomewhere", "(I)I"⟩
abbrev cX7_countEnds : ByteArray := prog_9_method_8_code
def yX7_countEnds : MethodName := ⟨RX7, "countEnds", "(I)I"⟩
abbrev cX7_firstStuck : ByteArray := prog_9_method_9_code
def yX7_firstStuck : MethodName := ⟨RX7, "firstStuck", "(I)I"⟩
abbrev cX7_spreadEnding : ByteArray := prog_9_method_10_code
def yX7_spreadEnding : MethodName := ⟨RX7, "spreadEnding", "(I)Z"⟩
abbrev cX7_leadsToEnding : ByteArray := prog_9_method_11_code
def yX7_leadsToEnding : MethodName := ⟨RX7, "leadsToEnding", "(II)Z"⟩
abbrev cX7_steps : ByteArray := prog_9_method_12_code
def yX7_steps : MethodName := ⟨RX7, "steps", "(I)I"⟩
abbrev cX7_step : ByteArray := prog_9_method_13_code
def yX7_step : MethodName := ⟨RX7, "step", "(II)I"⟩
def RX8 : String := "TokenNet"
def TX8 : u_T := fun k => match k with
  | 0 => ("TokenNet", "now", "LTokenNet$Marking;", true)
  | 1 => ("TokenNet", "next", "LTokenNet$Marking;", true)
  | 2 => ("TokenNet", "trial", "LTokenNet$Marking;", true)
  | 3 => ("TokenNet", "rules", "[LTokenNet$Rule;", true)
  | 4 => ("TokenNet", "tape", "LTokenNet$Tape;", true)
  | 5 => ("TokenNet", "page", "LTokenNet$Paper;", true)
  | 6 => ("TokenNet", "firing", "LTokenNet$Firing;", true)
  | 7 => ("TokenNet", "walks", "LTokenNet$Walks;", true)
  | 8 => ("TokenNet", "balance", "LTokenNet$Balance;", true)
  | 9 => ("TokenNet", "kept", "LTokenNet$Image;", true)
  | 10 => ("TokenNet", "went", "I", false)
  | _ => ("TokenNet", "walked", "Z", false)
def tyX8 : Nat → FieldType := fun k => match k with
  | 0 => .object "TokenNet$Marking"
  | 1 => .object "TokenNet$Marking"
  | 2 => .object "TokenNet$Marking"
  | 3 => .array (.object "TokenNet$Rule")
  | 4 => .object "TokenNet$Tape"
  | 5 => .object "TokenNet$Paper"
  | 6 => .object "TokenNet$Firing"
  | 7 => .object "TokenNet$Walks"
  | 8 => .object "TokenNet$Balance"
  | 9 => .object "TokenNet$Image"
  | 10 => .int
  | _ => .boolean
abbrev wsX80 : List Cond := u_ws RX8 TX8 12
theorem nmX8 : ∀ a, a < 12 → ∀ b, b < 12 → a ≠ b → (TX8 a).2.1 ≠ (TX8 b).2.1 := by decide +kernel
theorem tyX8_ok : ∀ k, k < 12 → parseFieldDescriptor (TX8 k).2.2.1 = some (tyX8 k) := by decide +kernel
abbrev cX8_init : ByteArray := prog_1_method_1_code
def yX8_init : MethodName := ⟨RX8, "<init>", "()V"⟩
abbrev cX8_put : ByteArray := prog_1_method_2_code
def yX8_put : MethodName := ⟨RX8, "put", "(II)I"⟩
abbrev cX8_take : ByteArray := prog_1_method_3_code
def yX8_take : MethodName := ⟨RX8, "take", "(II)I"⟩
abbrev cX8_token : ByteArray := prog_1_method_4_code
def yX8_token : MethodName := ⟨RX8, "token", "(II)I"⟩
abbrev cX8_feed : ByteArray := prog_1_method_5_code
def yX8_feed : MethodName := ⟨RX8, "feed", "(I)I"⟩
abbrev cX8_clear : ByteArray := prog_1_method_6_code
def yX8_clear : MethodName := ⟨RX8, "clear", "()I"⟩
abbrev cX8_rule : ByteArray := prog_1_method_7_code
def yX8_rule : MethodName := ⟨RX8, "rule", "(I)I"⟩
abbrev cX8_drop : ByteArray := prog_1_method_8_code
def yX8_drop : MethodName := ⟨RX8, "drop", "(I)I"⟩
abbrev cX8_has : ByteArray := prog_1_method_9_code
def yX8_has : MethodName := ⟨RX8, "has", "(II)I"⟩
abbrev cX8_spell : ByteArray := prog_1_method_10_code
def yX8_spell : MethodName := ⟨RX8, "spell", "(I)I"⟩
abbrev cX8_line : ByteArray := prog_1_method_11_code
def yX8_line : MethodName := ⟨RX8, "line", "()I"⟩
abbrev cX8_paper : ByteArray := prog_1_method_12_code
def yX8_paper : MethodName := ⟨RX8, "paper", "(I)I"⟩
abbrev cX8_can : ByteArray := prog_1_method_13_code
def yX8_can : MethodName := ⟨RX8, "can", "(I)I"⟩
abbrev cX8_bound : ByteArray := prog_1_method_14_code
def yX8_bound : MethodName := ⟨RX8, "bound", "(II)I"⟩
abbrev cX8_bindings : ByteArray := prog_1_method_15_code
def yX8_bindings : MethodName := ⟨RX8, "bindings", "(I)I"⟩
abbrev cX8_go : ByteArray := prog_1_method_16_code
def yX8_go : MethodName := ⟨RX8, "go", "(I)I"⟩
abbrev cX8_all : ByteArray := prog_1_method_17_code
def yX8_all : MethodName := ⟨RX8, "all", "()I"⟩
abbrev cX8_again : ByteArray := prog_1_method_18_code
def yX8_again : MethodName := ⟨RX8, "again", "(II)I"⟩
abbrev cX8_last : ByteArray := prog_1_method_19_code
def yX8_last : MethodName := ⟨RX8, "last", "(III)I"⟩
abbrev cX8_reach : ByteArray := prog_1_method_20_code
def yX8_reach : MethodName := ⟨RX8, "reach", "(I)I"⟩
abbrev cX8_most : ByteArray := prog_1_method_21_code
def yX8_most : MethodName := ⟨RX8, "most", "(II)I"⟩
abbrev cX8_dead : ByteArray := prog_1_method_22_code
def yX8_dead : MethodName := ⟨RX8, "dead", "(I)I"⟩
abbrev cX8_ends : ByteArray := prog_1_method_23_code
def yX8_ends : MethodName := ⟨RX8, "ends", "(I)I"⟩
abbrev cX8_stuck : ByteArray := prog_1_method_24_code
def yX8_stuck : MethodName := ⟨RX8, "stuck", "(I)I"⟩
abbrev cX8_walk : ByteArray := prog_1_method_25_code
def yX8_walk : MethodName := ⟨RX8, "walk", "(III)I"⟩
abbrev cX8_held : ByteArray := prog_1_method_26_code
def yX8_held : MethodName := ⟨RX8, "held", "(III)I"⟩
abbrev cX8_change : ByteArray := prog_1_method_27_code
def yX8_change : MethodName := ⟨RX8, "change", "(II)I"⟩
abbrev cX8_invariants : ByteArray := prog_1_method_28_code
def yX8_invariants : MethodName := ⟨RX8, "invariants", "()I"⟩
abbrev cX8_weight : ByteArray := prog_1_method_29_code
def yX8_weight : MethodName := ⟨RX8, "weight", "(III)J"⟩
abbrev cX8_sum : ByteArray := prog_1_method_30_code
def yX8_sum : MethodName := ⟨RX8, "sum", "(II)I"⟩
abbrev cX8_told : ByteArray := prog_1_method_31_code
def yX8_told : MethodName := ⟨RX8, "told", "(I)I"⟩
abbrev cX8_image : ByteArray := prog_1_method_32_code
def yX8_image : MethodName := ⟨RX8, "image", "()I"⟩
abbrev cX8_undo : ByteArray := prog_1_method_33_code
def yX8_undo : MethodName := ⟨RX8, "undo", "()I"⟩
abbrev cX8_isPlace : ByteArray := prog_1_method_34_code
def yX8_isPlace : MethodName := ⟨RX8, "isPlace", "(I)Z"⟩
abbrev cX8_isPart : ByteArray := prog_1_method_35_code
def yX8_isPart : MethodName := ⟨RX8, "isPart", "(I)Z"⟩
abbrev cX8_isSet : ByteArray := prog_1_method_36_code
def yX8_isSet : MethodName := ⟨RX8, "isSet", "(I)Z"⟩
abbrev cX8_isTimes : ByteArray := prog_1_method_37_code
def yX8_isTimes : MethodName := ⟨RX8, "isTimes", "(I)Z"⟩
abbrev cX8_isReach : ByteArray := prog_1_method_38_code
def yX8_isReach : MethodName := ⟨RX8, "isReach", "(I)Z"⟩
abbrev cX8_isSide : ByteArray := prog_1_method_39_code
def yX8_isSide : MethodName := ⟨RX8, "isSide", "(I)Z"⟩
abbrev cX8_isFigure : ByteArray := prog_1_method_40_code
def yX8_isFigure : MethodName := ⟨RX8, "isFigure", "(I)Z"⟩
abbrev cX8_isName : ByteArray := prog_1_method_41_code
def yX8_isName : MethodName := ⟨RX8, "isName", "(I)Z"⟩
abbrev cX8_wordOf : ByteArray := prog_1_method_42_code
def yX8_wordOf : MethodName := ⟨RX8, "wordOf", "(I)Ljava/lang/String;"⟩
abbrev cX8_rulesTold : ByteArray := prog_1_method_43_code
def yX8_rulesTold : MethodName := ⟨RX8, "rulesTold", "()I"⟩
abbrev cX8_tryOut : ByteArray := prog_1_method_44_code
def yX8_tryOut : MethodName := ⟨RX8, "tryOut", "(II)I"⟩
abbrev cX8_tryOne : ByteArray := prog_1_method_45_code
def yX8_tryOne : MethodName := ⟨RX8, "tryOne", "(I)Z"⟩
abbrev cX8_walksNow : ByteArray := prog_1_method_46_code
def yX8_walksNow : MethodName := ⟨RX8, "walksNow", "()LTokenNet$Walks;"⟩
def RX9 : String := "TokenNetModel"
def TX9 : u_T := fun k => match k with
  | 0 => ("TokenNetModel", "now", "[I", true)
  | 1 => ("TokenNetModel", "thenTokens", "[I", true)
  | 2 => ("TokenNetModel", "rules", "[I", true)
  | 3 => ("TokenNetModel", "thenRules", "[I", true)
  | 4 => ("TokenNetModel", "went", "I", false)
  | 5 => ("TokenNetModel", "thenWent", "I", false)
  | 6 => ("TokenNetModel", "kept", "Z", false)
  | 7 => ("TokenNetModel", "tape", "[I", true)
  | 8 => ("TokenNetModel", "length", "I", false)
  | 9 => ("TokenNetModel", "text", "[I", true)
  | 10 => ("TokenNetModel", "size", "I", false)
  | 11 => ("TokenNetModel", "place", "I", false)
  | 12 => ("TokenNetModel", "fault", "I", false)
  | 13 => ("TokenNetModel", "takesMany", "I", false)
  | 14 => ("TokenNetModel", "takePlace", "[I", true)
  | 15 => ("TokenNetModel", "takeName", "[I", true)
  | 16 => ("TokenNetModel", "givesMany", "I", false)
  | 17 => ("TokenNetModel", "givePlace", "[I", true)
  | 18 => ("TokenNetModel", "giveAt", "[I", true)
  | 19 => ("TokenNetModel", "conditions", "I", false)
  | 20 => ("TokenNetModel", "conditionAt", "[I", true)
  | 21 => ("TokenNetModel", "empties", "I", false)
  | 22 => ("TokenNetModel", "clauses", "I", false)
  | 23 => ("TokenNetModel", "names", "[I", true)
  | 24 => ("TokenNetModel", "known", "I", false)
  | 25 => ("TokenNetModel", "inside", "I", false)
  | 26 => ("TokenNetModel", "paper", "[I", true)
  | 27 => ("TokenNetModel", "written", "I", false)
  | 28 => ("TokenNetModel", "chosen", "[I", true)
  | 29 => ("TokenNetModel", "first", "[I", true)
  | 30 => ("TokenNetModel", "next", "[I", true)
  | 31 => ("TokenNetModel", "later", "[I", true)
  | 32 => ("TokenNetModel", "found", "I", false)
  | 33 => ("TokenNetModel", "markings", "[I", true)
  | 34 => ("TokenNetModel", "by", "[I", true)
  | 35 => ("TokenNetModel", "from", "[I", true)
  | 36 => ("TokenNetModel", "leads", "[I", true)
  | 37 => ("TokenNetModel", "looked", "[I", true)
  | 38 => ("TokenNetModel", "reached", "[Z", true)
  | 39 => ("TokenNetModel", "above", "[J", true)
  | 40 => ("TokenNetModel", "below", "[J", true)
  | 41 => ("TokenNetModel", "free", "[I", true)
  | 42 => ("TokenNetModel", "frees", "I", false)
  | 43 => ("TokenNetModel", "leading", "[I", true)
  | 44 => ("TokenNetModel", "rank", "I", false)
  | 45 => ("TokenNetModel", "weightAbove", "J", false)
  | _ => ("TokenNetModel", "weightBelow", "J", false)
def tyX9 : Nat → FieldType := fun k => match k with
  | 0 => .array .int
  | 1 => .array .int
  | 2 => .array .int
  | 3 => .array .int
  | 4 => .int
  | 5 => .int
  | 6 => .boolean
  | 7 => .array .int
  | 8 => .int
  | 9 => .array .int
  | 10 => .int
  | 11 => .int
  | 12 => .int
  | 13 => .int
  | 14 => .array .int
  | 15 => .array .int
  | 16 => .int
  | 17 => .array .int
  | 18 => .array .int
  | 19 => .int
  | 20 => .array .int
  | 21 => .int
  | 22 => .int
  | 23 => .array .int
  | 24 => .int
  | 25 => .int
  | 26 => .array .int
  | 27 => .int
  | 28 => .array .int
  | 29 => .array .int
  | 30 => .array .int
  | 31 => .array .int
  | 32 => .int
  | 33 => .array .int
  | 34 => .array .int
  | 35 => .array .int
  | 36 => .array .int
  | 37 => .array .int
  | 38 => .array .boolean
  | 39 => .array .long
  | 40 => .array .long
  | 41 => .array .int
  | 42 => .int
  | 43 => .array .int
  | 44 => .int
  | 45 => .long
  | _ => .long
abbrev wsX90 : List Cond := u_ws RX9 TX9 47
theorem nmX9 : ∀ a, a < 47 → ∀ b, b < 47 → a ≠ b → (TX9 a).2.1 ≠ (TX9 b).2.1 := by decide +kernel
theorem tyX9_ok : ∀ k, k < 47 → parseFieldDescriptor (TX9 k).2.2.1 = some (tyX9 k) := by decide +kernel
abbrev cX9_init : ByteArray := prog_11_method_1_code
def yX9_init : MethodName := ⟨RX9, "<init>", "()V"⟩
abbrev cX9_isIn : ByteArray := prog_11_method_2_code
def yX9_isIn : MethodName := ⟨RX9, "isIn", "(JJJ)Z"⟩
abbrev cX9_isPlace : ByteArray := prog_11_method_3_code
def yX9_isPlace : MethodName := ⟨RX9, "isPlace", "(I)Z"⟩
abbrev cX9_pours : ByteArray := prog_11_method_4_code
def yX9_pours : MethodName := ⟨RX9, "pours", "([II[III)V"⟩
abbrev cX9_at : ByteArray := prog_11_method_5_code
def yX9_at : MethodName := ⟨RX9, "at", "(II)I"⟩
abbrev cX9_removes : ByteArray := prog_11_method_6_code
def yX9_removes : MethodName := ⟨RX9, "removes", "([III)V"⟩
abbrev cX9_adds : ByteArray := prog_11_method_7_code
def yX9_adds : MethodName := ⟨RX9, "adds", "([III)Z"⟩
abbrev cX9_put : ByteArray := prog_11_method_8_code
def yX9_put : MethodName := ⟨RX9, "put", "(II)I"⟩
abbrev cX9_take : ByteArray := prog_11_method_9_code
def yX9_take : MethodName := ⟨RX9, "take", "(II)I"⟩
abbrev cX9_token : ByteArray := prog_11_method_10_code
def yX9_token : MethodName := ⟨RX9, "token", "(II)I"⟩
abbrev cX9_feed : ByteArray := prog_11_method_11_code
def yX9_feed : MethodName := ⟨RX9, "feed", "(I)I"⟩
abbrev cX9_clear : ByteArray := prog_11_method_12_code
def yX9_clear : MethodName := ⟨RX9, "clear", "()I"⟩
abbrev cX9_peek : ByteArray := prog_11_method_13_code
def yX9_peek : MethodName := ⟨RX9, "peek", "()I"⟩
abbrev cX9_wrong : ByteArray := prog_11_method_14_code
def yX9_wrong : MethodName := ⟨RX9, "wrong", "(I)V"⟩
abbrev cX9_takes : ByteArray := prog_11_method_15_code
def yX9_takes : MethodName := ⟨RX9, "takes", "(I)V"⟩
abbrev cX9_isFigure : ByteArray := prog_11_method_16_code
def yX9_isFigure : MethodName := ⟨RX9, "isFigure", "(I)Z"⟩
abbrev cX9_figure : ByteArray := prog_11_method_17_code
def yX9_figure : MethodName := ⟨RX9, "figure", "()I"⟩
abbrev cX9_expression : ByteArray := prog_11_method_18_code
def yX9_expression : MethodName := ⟨RX9, "expression", "()I"⟩
abbrev cX9_term : ByteArray := prog_11_method_19_code
def yX9_term : MethodName := ⟨RX9, "term", "()I"⟩
abbrev cX9_factor : ByteArray := prog_11_method_20_code
def yX9_factor : MethodName := ⟨RX9, "factor", "()I"⟩
abbrev cX9_compares : ByteArray := prog_11_method_21_code
def yX9_compares : MethodName := ⟨RX9, "compares", "()Z"⟩
abbrev cX9_word : ByteArray := prog_11_method_22_code
def yX9_word : MethodName := ⟨RX9, "word", "()I"⟩
abbrev cX9_takeClause : ByteArray := prog_11_method_23_code
def yX9_takeClause : MethodName := ⟨RX9, "takeClause", "()V"⟩
abbrev cX9_giveClause : ByteArray := prog_11_method_24_code
def yX9_giveClause : MethodName := ⟨RX9, "giveClause", "()V"⟩
abbrev cX9_conditionClause : ByteArray := prog_11_method_25_code
def yX9_conditionClause : MethodName := ⟨RX9, "conditionClause", "()V"⟩
abbrev cX9_clause : ByteArray := prog_11_method_26_code
def yX9_clause : MethodName := ⟨RX9, "clause", "()V"⟩
abbrev cX9_reads : ByteArray := prog_11_method_27_code
def yX9_reads : MethodName := ⟨RX9, "reads", "()I"⟩
abbrev cX9_readsRule : ByteArray := prog_11_method_28_code
def yX9_readsRule : MethodName := ⟨RX9, "readsRule", "(I)Z"⟩
abbrev cX9_rule : ByteArray := prog_11_method_29_code
def yX9_rule : MethodName := ⟨RX9, "rule", "(I)I"⟩
abbrev cX9_drop : ByteArray := prog_11_method_30_code
def yX9_drop : MethodName := ⟨RX9, "drop", "(I)I"⟩
abbrev cX9_has : ByteArray := prog_11_method_31_code
def yX9_has : MethodName := ⟨RX9, "has", "(II)I"⟩
abbrev cX9_writes : ByteArray := prog_11_method_32_code
def yX9_writes : MethodName := ⟨RX9, "writes", "(I)V"⟩
abbrev cX9_sign : ByteArray := prog_11_method_33_code
def yX9_sign : MethodName := ⟨RX9, "sign", "(II)I"⟩
abbrev cX9_bare : ByteArray := prog_11_method_34_code
def yX9_bare : MethodName := ⟨RX9, "bare", "(II)I"⟩
abbrev cX9_looseness : ByteArray := prog_11_method_35_code
def yX9_looseness : MethodName := ⟨RX9, "looseness", "(II)I"⟩
abbrev cX9_spells : ByteArray := prog_11_method_36_code
def yX9_spells : MethodName := ⟨RX9, "spells", "(III)V"⟩
abbrev cX9_end : ByteArray := prog_11_method_37_code
def yX9_end : MethodName := ⟨RX9, "end", "(I)I"⟩
abbrev cX9_spell : ByteArray := prog_11_method_38_code
def yX9_spell : MethodName := ⟨RX9, "spell", "(I)I"⟩
abbrev cX9_writesNumber : ByteArray := prog_11_method_39_code
def yX9_writesNumber : MethodName := ⟨RX9, "writesNumber", "(I)V"⟩
abbrev cX9_line : ByteArray := prog_11_method_40_code
def yX9_line : MethodName := ⟨RX9, "line", "()I"⟩
abbrev cX9_paper : ByteArray := prog_11_method_41_code
def yX9_paper : MethodName := ⟨RX9, "paper", "(I)I"⟩
abbrev cX9_isBinding : ByteArray := prog_11_method_42_code
def yX9_isBinding : MethodName := ⟨RX9, "isBinding", "([I)Z"⟩
abbrev cX9_binds : ByteArray := prog_11_method_43_code
def yX9_binds : MethodName := ⟨RX9, "binds", "([IZ)I"⟩
abbrev cX9_goes : ByteArray := prog_11_method_44_code
def yX9_goes : MethodName := ⟨RX9, "goes", "(I[I)Z"⟩
abbrev cX9_can : ByteArray := prog_11_method_45_code
def yX9_can : MethodName := ⟨RX9, "can", "(I)I"⟩
abbrev cX9_bound : ByteArray := prog_11_method_46_code
def yX9_bound : MethodName := ⟨RX9, "bound", "(II)I"⟩
abbrev cX9_bindings : ByteArray := prog_11_method_47_code
def yX9_bindings : MethodName := ⟨RX9, "bindings", "(I)I"⟩
abbrev cX9_go : ByteArray := prog_11_method_48_code
def yX9_go : MethodName := ⟨RX9, "go", "(I)I"⟩
abbrev cX9_all : ByteArray := prog_11_method_49_code
def yX9_all : MethodName := ⟨RX9, "all", "()I"⟩
abbrev cX9_repeats : ByteArray := prog_11_method_50_code
def yX9_repeats : MethodName := ⟨RX9, "repeats", "(II)I"⟩
abbrev cX9_isRepeat : ByteArray := prog_11_method_51_code
def yX9_isRepeat : MethodName := ⟨RX9, "isRepeat", "(II)Z"⟩
abbrev cX9_again : ByteArray := prog_11_method_52_code
def yX9_again : MethodName := ⟨RX9, "again", "(II)I"⟩
abbrev cX9_last : ByteArray := prog_11_method_53_code
def yX9_last : MethodName := ⟨RX9, "last", "(III)I"⟩
abbrev cX9_placeOf : ByteArray := prog_11_method_54_code
def yX9_placeOf : MethodName := ⟨RX9, "placeOf", "([I)I"⟩
abbrev cX9_finds : ByteArray := prog_11_method_55_code
def yX9_finds : MethodName := ⟨RX9, "finds", "(I)Z"⟩
abbrev cX9_reach : ByteArray := prog_11_method_56_code
def yX9_reach : MethodName := ⟨RX9, "reach", "(I)I"⟩
abbrev cX9_most : ByteArray := prog_11_method_57_code
def yX9_most : MethodName := ⟨RX9, "most", "(II)I"⟩
abbrev cX9_dead : ByteArray := prog_11_method_58_code
def yX9_dead : MethodName := ⟨RX9, "dead", "(I)I"⟩
abbrev cX9_isEnd : ByteArray := prog_11_method_59_code
def yX9_isEnd : MethodName := ⟨RX9, "isEnd", "(I)Z"⟩
abbrev cX9_ends : ByteArray := prog_11_method_60_code
def yX9_ends : MethodName := ⟨RX9, "ends", "(I)I"⟩
abbrev cX9_stuck : ByteArray := prog_11_method_61_code
def yX9_stuck : MethodName := ⟨RX9, "stuck", "(I)I"⟩
abbrev cX9_walk : ByteArray := prog_11_method_62_code
def yX9_walk : MethodName := ⟨RX9, "walk", "(III)I"⟩
abbrev cX9_held : ByteArray := prog_11_method_63_code
def yX9_held : MethodName := ⟨RX9, "held", "(III)I"⟩
abbrev cX9_changeOf : ByteArray := prog_11_method_64_code
def yX9_changeOf : MethodName := ⟨RX9, "changeOf", "(I)I"⟩
abbrev cX9_change : ByteArray := prog_11_method_65_code
def yX9_change : MethodName := ⟨RX9, "change", "(II)I"⟩
abbrev cX9_gcd : ByteArray := prog_11_method_66_code
def yX9_gcd : MethodName := ⟨RX9, "gcd", "(JJ)J"⟩
abbrev cX9_sets : ByteArray := prog_11_method_67_code
def yX9_sets : MethodName := ⟨RX9, "sets", "(IJJ)V"⟩
abbrev cX9_less : ByteArray := prog_11_method_68_code
def yX9_less : MethodName := ⟨RX9, "less", "(IIJJ)V"⟩
abbrev cX9_swaps : ByteArray := prog_11_method_69_code
def yX9_swaps : MethodName := ⟨RX9, "swaps", "(II)V"⟩
abbrev cX9_reduces : ByteArray := prog_11_method_70_code
def yX9_reduces : MethodName := ⟨RX9, "reduces", "()V"⟩
abbrev cX9_invariants : ByteArray := prog_11_method_71_code
def yX9_invariants : MethodName := ⟨RX9, "invariants", "()I"⟩
abbrev cX9_weighs : ByteArray := prog_11_method_72_code
def yX9_weighs : MethodName := ⟨RX9, "weighs", "(II)V"⟩
abbrev cX9_weight : ByteArray := prog_11_method_73_code
def yX9_weight : MethodName := ⟨RX9, "weight", "(III)J"⟩
abbrev cX9_sum : ByteArray := prog_11_method_74_code
def yX9_sum : MethodName := ⟨RX9, "sum", "(II)I"⟩
abbrev cX9_tokens : ByteArray := prog_11_method_75_code
def yX9_tokens : MethodName := ⟨RX9, "tokens", "()I"⟩
abbrev cX9_told : ByteArray := prog_11_method_76_code
def yX9_told : MethodName := ⟨RX9, "told", "(I)I"⟩
abbrev cX9_image : ByteArray := prog_11_method_77_code
def yX9_image : MethodName := ⟨RX9, "image", "()I"⟩
abbrev cX9_undo : ByteArray := prog_11_method_78_code
def yX9_undo : MethodName := ⟨RX9, "undo", "()I"⟩
def RJ6 : String := "java/lang/Integer"
def TJ6 : u_T := fun k => match k with
  | _ => ("", "", "", false)
def tyJ6 : Nat → FieldType := fun k => match k with
  | _ => .int
abbrev wsJ60 : List Cond := u_ws RJ6 TJ6 0
theorem nmJ6 : ∀ a, a < 0 → ∀ b, b < 0 → a ≠ b → (TJ6 a).2.1 ≠ (TJ6 b).2.1 := by decide +kernel
theorem tyJ6_ok : ∀ k, k < 0 → parseFieldDescriptor (TJ6 k).2.2.1 = some (tyJ6 k) := by decide +kernel
abbrev cJ6_bitCount_0f7a4 : ByteArray := prog_12_method_49_code
def yJ6_bitCount_0f7a4 : MethodName := ⟨RJ6, "bitCount", "(I)I"⟩
def RJ9 : String := "java/lang/Math"
def TJ9 : u_T := fun k => match k with
  | _ => ("", "", "", false)
def tyJ9 : Nat → FieldType := fun k => match k with
  | _ => .int
abbrev wsJ90 : List Cond := u_ws RJ9 TJ9 0
theorem nmJ9 : ∀ a, a < 0 → ∀ b, b < 0 → a ≠ b → (TJ9 a).2.1 ≠ (TJ9 b).2.1 := by decide +kernel
theorem tyJ9_ok : ∀ k, k < 0 → parseFieldDescriptor (TJ9 k).2.2.1 = some (tyJ9 k) := by decide +kernel
abbrev cJ9_floorMod_7cf53 : ByteArray := prog_13_method_50_code
def yJ9_floorMod_7cf53 : MethodName := ⟨RJ9, "floorMod", "(II)I"⟩
abbrev cJ9_abs_067f4 : ByteArray := prog_13_method_61_code
def yJ9_abs_067f4 : MethodName := ⟨RJ9, "abs", "(J)J"⟩
abbrev cJ9_max_7cf53 : ByteArray := prog_13_method_65_code
def yJ9_max_7cf53 : MethodName := ⟨RJ9, "max", "(II)I"⟩
abbrev cJ9_min_7cf53 : ByteArray := prog_13_method_69_code
def yJ9_min_7cf53 : MethodName := ⟨RJ9, "min", "(II)I"⟩
def RJ0 : String := "java/lang/String"
def TJ0 : u_T := fun k => match k with
  | _ => ("", "", "", false)
def tyJ0 : Nat → FieldType := fun k => match k with
  | _ => .int
abbrev wsJ00 : List Cond := u_ws RJ0 TJ0 0
theorem nmJ0 : ∀ a, a < 0 → ∀ b, b < 0 → a ≠ b → (TJ0 a).2.1 ≠ (TJ0 b).2.1 := by decide +kernel
theorem tyJ0_ok : ∀ k, k < 0 → parseFieldDescriptor (TJ0 k).2.2.1 = some (tyJ0 k) := by decide +kernel
abbrev cJ0_length_8abf5 : ByteArray := prog_14_method_54_code
def yJ0_length_8abf5 : MethodName := ⟨RJ0, "length", "()I"⟩
abbrev cJ0_charAt_5068e : ByteArray := prog_14_method_56_code
def yJ0_charAt_5068e : MethodName := ⟨RJ0, "charAt", "(I)C"⟩
abbrev cJ0_coder_7d493 : ByteArray := prog_14_method_152_code
def yJ0_coder_7d493 : MethodName := ⟨RJ0, "coder", "()B"⟩
abbrev cJ0_isLatin1_aae02 : ByteArray := prog_14_method_154_code
def yJ0_isLatin1_aae02 : MethodName := ⟨RJ0, "isLatin1", "()Z"⟩
abbrev cJ0_checkIndex_df160 : ByteArray := prog_14_method_155_code
def yJ0_checkIndex_df160 : MethodName := ⟨RJ0, "checkIndex", "(II)V"⟩
def RJ1 : String := "java/lang/StringLatin1"
def TJ1 : u_T := fun k => match k with
  | _ => ("", "", "", false)
def tyJ1 : Nat → FieldType := fun k => match k with
  | _ => .int
abbrev wsJ10 : List Cond := u_ws RJ1 TJ1 0
theorem nmJ1 : ∀ a, a < 0 → ∀ b, b < 0 → a ≠ b → (TJ1 a).2.1 ≠ (TJ1 b).2.1 := by decide +kernel
theorem tyJ1_ok : ∀ k, k < 0 → parseFieldDescriptor (TJ1 k).2.2.1 = some (tyJ1 k) := by decide +kernel
abbrev cJ1_charAt_3b067 : ByteArray := prog_15_method_2_code
def yJ1_charAt_3b067 : MethodName := ⟨RJ1, "charAt", "([BI)C"⟩
def RJ2 : String := "java/lang/StringUTF16"
def TJ2 : u_T := fun k => match k with
  | _ => ("", "", "", false)
def tyJ2 : Nat → FieldType := fun k => match k with
  | _ => .int
abbrev wsJ20 : List Cond := u_ws RJ2 TJ2 0
theorem nmJ2 : ∀ a, a < 0 → ∀ b, b < 0 → a ≠ b → (TJ2 a).2.1 ≠ (TJ2 b).2.1 := by decide +kernel
theorem tyJ2_ok : ∀ k, k < 0 → parseFieldDescriptor (TJ2 k).2.2.1 = some (tyJ2 k) := by decide +kernel
abbrev cJ2_getChar_3b067 : ByteArray := prog_16_method_5_code
def yJ2_getChar_3b067 : MethodName := ⟨RJ2, "getChar", "([BI)C"⟩
abbrev cJ2_length_9d52b : ByteArray := prog_16_method_6_code
def yJ2_length_9d52b : MethodName := ⟨RJ2, "length", "([B)I"⟩
abbrev cJ2_charAt_3b067 : ByteArray := prog_16_method_83_code
def yJ2_charAt_3b067 : MethodName := ⟨RJ2, "charAt", "([BI)C"⟩
abbrev cJ2_checkIndex_2214a : ByteArray := prog_16_method_91_code
def yJ2_checkIndex_2214a : MethodName := ⟨RJ2, "checkIndex", "(I[B)V"⟩
def RJ3 : String := "jdk/internal/util/Preconditions"
def TJ3 : u_T := fun k => match k with
  | _ => ("", "", "", false)
def tyJ3 : Nat → FieldType := fun k => match k with
  | _ => .int
abbrev wsJ30 : List Cond := u_ws RJ3 TJ3 0
theorem nmJ3 : ∀ a, a < 0 → ∀ b, b < 0 → a ≠ b → (TJ3 a).2.1 ≠ (TJ3 b).2.1 := by decide +kernel
theorem tyJ3_ok : ∀ k, k < 0 → parseFieldDescriptor (TJ3 k).2.2.1 = some (tyJ3 k) := by decide +kernel
abbrev cJ3_checkIndex_8e157 : ByteArray := prog_17_method_11_code
def yJ3_checkIndex_8e157 : MethodName := ⟨RJ3, "checkIndex", "(IILjava/util/function/BiFunction;)I"⟩
def RL : String := "TokenNetLaw"
abbrev cL_law : ByteArray := code
def yL_law : MethodName := ⟨RL, "law", "([I)Z"⟩
abbrev vwCl : List vw_C := [(RX0, TX0, 4), (RX1, TX1, 3), (RX2, TX2, 4), (RX3, TX3, 2), (RX4, TX4, 4), (RX5, TX5, 14), (RX6, TX6, 6), (RX7, TX7, 8), (RX8, TX8, 12), (RX9, TX9, 47)]
end
section
abbrev azI : Type := Nat → Nat → Int32
abbrev azJ : Type := Nat → Nat → Int64
abbrev azR : Type := Nat → Nat → Option Nat
abbrev azK : Type := Nat → Nat × Nat
abbrev azS : Type := (Nat × Nat × azK) × azI × azJ × azR
abbrev azT : Type := List (Nat × Instr × Nat)
/-- a method: name, code, locals, what it returns, whether it is a constructor, its class's number, its instructions -/
abbrev azM : Type := MethodName × ByteArray × Nat × Option FieldType × Bool × Nat × azT
abbrev azQ : Type := Option Value → azS → Prop
abbrev azP : Type := Nat → azM → Nat → List Value → List Value → azS → azQ → Prop
def azNs : List String := [RX0, RX1, RX2, RX3, RX4, RX5, RX6, RX7, RX8, RX9, RL, RJ6, RJ9, RJ0, RJ1, RJ2, RJ3]
def azN (c : Nat) : String := azNs.getD c ""
def m_nil : azM := (⟨RX0, "", ""⟩, ⟨#[]⟩, 0, none, false, 0, [])
def tX0_init : azT := [(0, .aload_n 0, 1), (1, .invokespecial 3, 3), (4, .aload_n 0, 1), (5, .bipush 100, 2), (7, .newarray .long, 2), (9, .putfield 9, 3), (12, .aload_n 0, 1), (13, .bipush 10, 2), (15, .newarray .int, 2), (17, .putfield 15, 3), (20, .return_, 1)]
def mX0_init : azM := (yX0_init, cX0_init, 1, none, true, 0, tX0_init)
def tX0_solve : azT := [(0, .iconst 0, 1), (1, .istore_n 2, 1), (2, .iload_n 2, 1), (3, .bipush 10, 2), (5, .if_icmp .ge 58, 3), (8, .iload_n 2, 1), (9, .aload_n 1, 1), (10, .arraylength, 1), (11, .if_icmp .ge 52, 3), (14, .iconst 0, 1), (15, .istore_n 3, 1), (16, .iload_n 3, 1), (17, .bipush 10, 2), (19, .if_icmp .ge 38, 3), (22, .aload_n 0, 1), (23, .getfield 9, 3), (26, .iload_n 2, 1), (27, .bipush 10, 2), (29, .imul, 1), (30, .iload_n 3, 1), (31, .iadd, 1), (32, .aload_n 1, 1), (33, .iload_n 2, 1), (34, .aaload, 1), (35, .ifnonnull 7, 3), (38, .lconst 0, 1), (39, .goto 11, 3), (42, .aload_n 1, 1), (43, .iload_n 2, 1), (44, .aaload, 1), (45, .iload_n 3, 1), (46, .invokevirtual 19, 3), (49, .i2l, 1), (50, .lastore, 1), (51, .iinc 3 1, 3), (54, .goto (-38), 3), (57, .iinc 2 1, 3), (60, .goto (-58), 3), (63, .iconst 0, 1), (64, .istore_n 2, 1), (65, .iconst 0, 1), (66, .istore_n 3, 1), (67, .iload_n 3, 1), (68, .bipush 10, 2), (70, .if_icmp .ge 56, 3), (73, .aload_n 0, 1), (74, .iload_n 3, 1), (75, .iload_n 2, 1), (76, .invokevirtual 25, 3), (79, .istore 4, 2), (81, .aload_n 0, 1), (82, .getfield 15, 3), (85, .iload_n 3, 1), (86, .iconst (-1), 1), (87, .iastore, 1), (88, .iload 4, 2), (90, .iconst (-1), 1), (91, .if_icmp .ne 6, 3), (94, .goto 26, 3), (97, .aload_n 0, 1), (98, .iload 4, 2), (100, .iload_n 2, 1), (101, .invokevirtual 29, 3), (104, .aload_n 0, 1), (105, .iload_n 2, 1), (106, .iload_n 3, 1), (107, .invokevirtual 33, 3), (110, .aload_n 0, 1), (111, .getfield 15, 3), (114, .iload_n 3, 1), (115, .iload_n 2, 1), (116, .iastore, 1), (117, .iinc 2 1, 3), (120, .iinc 3 1, 3), (123, .goto (-56), 3), (126, .return_, 1)]
def mX0_solve : azM := (yX0_solve, cX0_solve, 5, none, false, 0, tX0_solve)
def tX0_rowWith : azT := [(0, .iload_n 2, 1), (1, .istore_n 3, 1), (2, .iload_n 3, 1), (3, .bipush 10, 2), (5, .if_icmp .ge 27, 3), (8, .aload_n 0, 1), (9, .getfield 9, 3), (12, .iload_n 3, 1), (13, .bipush 10, 2), (15, .imul, 1), (16, .iload_n 1, 1), (17, .iadd, 1), (18, .laload, 1), (19, .lconst 0, 1), (20, .lcmp, 1), (21, .ifCond .eq 5, 3), (24, .iload_n 3, 1), (25, .ireturn, 1), (26, .iinc 3 1, 3), (29, .goto (-27), 3), (32, .iconst (-1), 1), (33, .ireturn, 1)]
def mX0_rowWith : azM := (yX0_rowWith, cX0_rowWith, 4, some .int, false, 0, tX0_rowWith)
def tX0_swapRows : azT := [(0, .iconst 0, 1), (1, .istore_n 3, 1), (2, .iload_n 3, 1), (3, .bipush 10, 2), (5, .if_icmp .ge 57, 3), (8, .aload_n 0, 1), (9, .getfield 9, 3), (12, .iload_n 1, 1), (13, .bipush 10, 2), (15, .imul, 1), (16, .iload_n 3, 1), (17, .iadd, 1), (18, .laload, 1), (19, .lstore 4, 2), (21, .aload_n 0, 1), (22, .getfield 9, 3), (25, .iload_n 1, 1), (26, .bipush 10, 2), (28, .imul, 1), (29, .iload_n 3, 1), (30, .iadd, 1), (31, .aload_n 0, 1), (32, .getfield 9, 3), (35, .iload_n 2, 1), (36, .bipush 10, 2), (38, .imul, 1), (39, .iload_n 3, 1), (40, .iadd, 1), (41, .laload, 1), (42, .lastore, 1), (43, .aload_n 0, 1), (44, .getfield 9, 3), (47, .iload_n 2, 1), (48, .bipush 10, 2), (50, .imul, 1), (51, .iload_n 3, 1), (52, .iadd, 1), (53, .lload 4, 2), (55, .lastore, 1), (56, .iinc 3 1, 3), (59, .goto (-57), 3), (62, .return_, 1)]
def mX0_swapRows : azM := (yX0_swapRows, cX0_swapRows, 6, none, false, 0, tX0_swapRows)
def tX0_clearOthers : azT := [(0, .iconst 0, 1), (1, .istore_n 3, 1), (2, .iload_n 3, 1), (3, .bipush 10, 2), (5, .if_icmp .ge 42, 3), (8, .iload_n 3, 1), (9, .iload_n 1, 1), (10, .if_icmp .eq 31, 3), (13, .aload_n 0, 1), (14, .getfield 9, 3), (17, .iload_n 3, 1), (18, .bipush 10, 2), (20, .imul, 1), (21, .iload_n 2, 1), (22, .iadd, 1), (23, .laload, 1), (24, .lconst 0, 1), (25, .lcmp, 1), (26, .ifCond .eq 15, 3), (29, .aload_n 0, 1), (30, .iload_n 3, 1), (31, .iload_n 1, 1), (32, .iload_n 2, 1), (33, .invokevirtual 36, 3), (36, .aload_n 0, 1), (37, .iload_n 3, 1), (38, .invokevirtual 40, 3), (41, .iinc 3 1, 3), (44, .goto (-42), 3), (47, .return_, 1)]
def mX0_clearOthers : azM := (yX0_clearOthers, cX0_clearOthers, 4, none, false, 0, tX0_clearOthers)
def tX0_clearRow : azT := [(0, .aload_n 0, 1), (1, .getfield 9, 3), (4, .iload_n 1, 1), (5, .bipush 10, 2), (7, .imul, 1), (8, .iload_n 3, 1), (9, .iadd, 1), (10, .laload, 1), (11, .lstore 4, 2), (13, .aload_n 0, 1), (14, .getfield 9, 3), (17, .iload_n 2, 1), (18, .bipush 10, 2), (20, .imul, 1), (21, .iload_n 3, 1), (22, .iadd, 1), (23, .laload, 1), (24, .lstore 6, 2), (26, .iconst 0, 1), (27, .istore 8, 2), (29, .iload 8, 2), (31, .bipush 10, 2), (33, .if_icmp .ge 52, 3), (36, .aload_n 0, 1), (37, .getfield 9, 3), (40, .iload_n 1, 1), (41, .bipush 10, 2), (43, .imul, 1), (44, .iload 8, 2), (46, .iadd, 1), (47, .aload_n 0, 1), (48, .getfield 9, 3), (51, .iload_n 1, 1), (52, .bipush 10, 2), (54, .imul, 1), (55, .iload 8, 2), (57, .iadd, 1), (58, .laload, 1), (59, .lload 6, 2), (61, .lmul, 1), (62, .aload_n 0, 1), (63, .getfield 9, 3), (66, .iload_n 2, 1), (67, .bipush 10, 2), (69, .imul, 1), (70, .iload 8, 2), (72, .iadd, 1), (73, .laload, 1), (74, .lload 4, 2), (76, .lmul, 1), (77, .lsub, 1), (78, .lastore, 1), (79, .iinc 8 1, 3), (82, .goto (-53), 3), (85, .return_, 1)]
def mX0_clearRow : azM := (yX0_clearRow, cX0_clearRow, 9, none, false, 0, tX0_clearRow)
def tX0_shortenRow : azT := [(0, .lconst 0, 1), (1, .lstore_n 2, 1), (2, .iconst 0, 1), (3, .istore 4, 2), (5, .iload 4, 2), (7, .bipush 10, 2), (9, .if_icmp .ge 26, 3), (12, .lload_n 2, 1), (13, .aload_n 0, 1), (14, .getfield 9, 3), (17, .iload_n 1, 1), (18, .bipush 10, 2), (20, .imul, 1), (21, .iload 4, 2), (23, .iadd, 1), (24, .laload, 1), (25, .invokestatic 44, 3), (28, .lstore_n 2, 1), (29, .iinc 4 1, 3), (32, .goto (-27), 3), (35, .lload_n 2, 1), (36, .lconst 1, 1), (37, .lcmp, 1), (38, .ifCond .gt 4, 3), (41, .return_, 1), (42, .iconst 0, 1), (43, .istore 4, 2), (45, .iload 4, 2), (47, .bipush 10, 2), (49, .if_icmp .ge 35, 3), (52, .aload_n 0, 1), (53, .getfield 9, 3), (56, .iload_n 1, 1), (57, .bipush 10, 2), (59, .imul, 1), (60, .iload 4, 2), (62, .iadd, 1), (63, .aload_n 0, 1), (64, .getfield 9, 3), (67, .iload_n 1, 1), (68, .bipush 10, 2), (70, .imul, 1), (71, .iload 4, 2), (73, .iadd, 1), (74, .laload, 1), (75, .lload_n 2, 1), (76, .ldiv, 1), (77, .lastore, 1), (78, .iinc 4 1, 3), (81, .goto (-36), 3), (84, .return_, 1)]
def mX0_shortenRow : azM := (yX0_shortenRow, cX0_shortenRow, 5, none, false, 0, tX0_shortenRow)
def tX0_commonDivisor : azT := [(0, .lload_n 0, 1), (1, .invokestatic 48, 3), (4, .lstore 4, 2), (6, .lload_n 2, 1), (7, .invokestatic 48, 3), (10, .lstore 6, 2), (12, .iconst 0, 1), (13, .istore 8, 2), (15, .iload 8, 2), (17, .sipush 200, 3), (20, .if_icmp .ge 31, 3), (23, .lload 6, 2), (25, .lconst 0, 1), (26, .lcmp, 1), (27, .ifCond .eq 24, 3), (30, .lload 4, 2), (32, .lload 6, 2), (34, .lrem, 1), (35, .lstore 9, 2), (37, .lload 6, 2), (39, .lstore 4, 2), (41, .lload 9, 2), (43, .lstore 6, 2), (45, .iinc 8 1, 3), (48, .goto (-33), 3), (51, .lload 4, 2), (53, .lreturn, 1)]
def mX0_commonDivisor : azM := (yX0_commonDivisor, cX0_commonDivisor, 11, some .long, false, 0, tX0_commonDivisor)
def tX0_count : azT := [(0, .iconst 0, 1), (1, .istore_n 1, 1), (2, .iconst 0, 1), (3, .istore_n 2, 1), (4, .iload_n 2, 1), (5, .bipush 10, 2), (7, .if_icmp .ge 22, 3), (10, .aload_n 0, 1), (11, .getfield 15, 3), (14, .iload_n 2, 1), (15, .iaload, 1), (16, .iconst (-1), 1), (17, .if_icmp .ne 6, 3), (20, .iinc 1 1, 3), (23, .iinc 2 1, 3), (26, .goto (-22), 3), (29, .iload_n 1, 1), (30, .ireturn, 1)]
def mX0_count : azM := (yX0_count, cX0_count, 3, some .int, false, 0, tX0_count)
def tX0_placeOf : azT := [(0, .iconst 0, 1), (1, .istore_n 2, 1), (2, .iconst 0, 1), (3, .istore_n 3, 1), (4, .iload_n 3, 1), (5, .bipush 10, 2), (7, .if_icmp .ge 32, 3), (10, .aload_n 0, 1), (11, .getfield 15, 3), (14, .iload_n 3, 1), (15, .iaload, 1), (16, .iconst (-1), 1), (17, .if_icmp .eq 6, 3), (20, .goto 13, 3), (23, .iload_n 2, 1), (24, .iload_n 1, 1), (25, .if_icmp .ne 5, 3), (28, .iload_n 3, 1), (29, .ireturn, 1), (30, .iinc 2 1, 3), (33, .iinc 3 1, 3), (36, .goto (-32), 3), (39, .iconst (-1), 1), (40, .ireturn, 1)]
def mX0_placeOf : azM := (yX0_placeOf, cX0_placeOf, 4, some .int, false, 0, tX0_placeOf)
def tX0_weigh : azT := [(0, .iload_n 1, 1), (1, .invokestatic 54, 3), (4, .ifCond .eq 10, 3), (7, .iload_n 2, 1), (8, .invokestatic 54, 3), (11, .ifCond .ne 10, 3), (14, .aload_n 0, 1), (15, .lconst 0, 1), (16, .lconst 1, 1), (17, .invokevirtual 58, 3), (20, .return_, 1), (21, .aload_n 0, 1), (22, .getfield 15, 3), (25, .iload_n 2, 1), (26, .iaload, 1), (27, .istore_n 3, 1), (28, .iload_n 3, 1), (29, .ifCond .lt 9, 3), (32, .iload_n 3, 1), (33, .bipush 10, 2), (35, .if_icmp .lt 19, 3), (38, .aload_n 0, 1), (39, .iload_n 1, 1), (40, .iload_n 2, 1), (41, .if_icmp .ne 7, 3), (44, .lconst 1, 1), (45, .goto 4, 3), (48, .lconst 0, 1), (49, .lconst 1, 1), (50, .invokevirtual 58, 3), (53, .return_, 1), (54, .aload_n 0, 1), (55, .aload_n 0, 1), (56, .getfield 9, 3), (59, .iload_n 3, 1), (60, .bipush 10, 2), (62, .imul, 1), (63, .iload_n 1, 1), (64, .iadd, 1), (65, .laload, 1), (66, .lneg, 1), (67, .aload_n 0, 1), (68, .getfield 9, 3), (71, .iload_n 3, 1), (72, .bipush 10, 2), (74, .imul, 1), (75, .iload_n 2, 1), (76, .iadd, 1), (77, .laload, 1), (78, .invokevirtual 58, 3), (81, .return_, 1)]
def mX0_weigh : azM := (yX0_weigh, cX0_weigh, 4, none, false, 0, tX0_weigh)
def tX0_addUp : azT := [(0, .lconst 0, 1), (1, .lstore_n 3, 1), (2, .lconst 1, 1), (3, .lstore 5, 2), (5, .iconst 0, 1), (6, .istore 7, 2), (8, .iload 7, 2), (10, .bipush 10, 2), (12, .if_icmp .ge 60, 3), (15, .aload_n 0, 1), (16, .iload_n 1, 1), (17, .iload 7, 2), (19, .invokevirtual 62, 3), (22, .aload_n 0, 1), (23, .lload_n 3, 1), (24, .aload_n 0, 1), (25, .getfield 65, 3), (28, .lmul, 1), (29, .aload_n 0, 1), (30, .getfield 69, 3), (33, .aload_n 2, 1), (34, .iload 7, 2), (36, .invokevirtual 72, 3), (39, .i2l, 1), (40, .lmul, 1), (41, .lload 5, 2), (43, .lmul, 1), (44, .ladd, 1), (45, .lload 5, 2), (47, .aload_n 0, 1), (48, .getfield 65, 3), (51, .lmul, 1), (52, .invokevirtual 58, 3), (55, .aload_n 0, 1), (56, .getfield 69, 3), (59, .lstore_n 3, 1), (60, .aload_n 0, 1), (61, .getfield 65, 3), (64, .lstore 5, 2), (66, .iinc 7 1, 3), (69, .goto (-61), 3), (72, .return_, 1)]
def mX0_addUp : azM := (yX0_addUp, cX0_addUp, 8, none, false, 0, tX0_addUp)
def tX0_setFraction : azT := [(0, .lload_n 1, 1), (1, .lload_n 3, 1), (2, .invokestatic 44, 3), (5, .lstore 5, 2), (7, .lload 5, 2), (9, .lconst 0, 1), (10, .lcmp, 1), (11, .ifCond .eq 9, 3), (14, .lload_n 3, 1), (15, .lconst 0, 1), (16, .lcmp, 1), (17, .ifCond .ne 14, 3), (20, .aload_n 0, 1), (21, .lconst 0, 1), (22, .putfield 69, 3), (25, .aload_n 0, 1), (26, .lconst 1, 1), (27, .putfield 65, 3), (30, .return_, 1), (31, .lload_n 3, 1), (32, .lconst 0, 1), (33, .lcmp, 1), (34, .ifCond .ge 9, 3), (37, .ldc2_w 77, 3), (40, .goto 4, 3), (43, .lconst 1, 1), (44, .lstore 7, 2), (46, .aload_n 0, 1), (47, .lload 7, 2), (49, .lload_n 1, 1), (50, .lload 5, 2), (52, .ldiv, 1), (53, .lmul, 1), (54, .putfield 69, 3), (57, .aload_n 0, 1), (58, .lload 7, 2), (60, .lload_n 3, 1), (61, .lload 5, 2), (63, .ldiv, 1), (64, .lmul, 1), (65, .putfield 65, 3), (68, .return_, 1)]
def mX0_setFraction : azM := (yX0_setFraction, cX0_setFraction, 9, none, false, 0, tX0_setFraction)
def tX1_init : azT := [(0, .aload_n 0, 1), (1, .invokespecial 3, 3), (4, .aload_n 0, 1), (5, .iconst 3, 1), (6, .newarray .int, 2), (8, .putfield 9, 3), (11, .aload_n 0, 1), (12, .iconst 3, 1), (13, .newarray .int, 2), (15, .putfield 15, 3), (18, .aload_n 0, 1), (19, .bipush 80, 2), (21, .newarray .int, 2), (23, .putfield 18, 3), (26, .return_, 1)]
def mX1_init : azM := (yX1_init, cX1_init, 1, none, true, 1, tX1_init)
def tX1_chosenFor : azT := [(0, .iload_n 1, 1), (1, .ifCond .lt 17, 3), (4, .iload_n 1, 1), (5, .iconst 3, 1), (6, .if_icmp .ge 12, 3), (9, .aload_n 0, 1), (10, .getfield 9, 3), (13, .iload_n 1, 1), (14, .iaload, 1), (15, .goto 4, 3), (18, .iconst (-1), 1), (19, .ireturn, 1)]
def mX1_chosenFor : azM := (yX1_chosenFor, cX1_chosenFor, 2, some .int, false, 1, tX1_chosenFor)
def tX1_countBindings : azT := [(0, .aload_n 0, 1), (1, .aload_n 1, 1), (2, .aload_n 2, 1), (3, .iconst 0, 1), (4, .iconst 0, 1), (5, .invokevirtual 21, 3), (8, .ireturn, 1)]
def mX1_countBindings : azM := (yX1_countBindings, cX1_countBindings, 3, some .int, false, 1, tX1_countBindings)
def tX1_bindFirst : azT := [(0, .aload_n 0, 1), (1, .aload_n 1, 1), (2, .aload_n 2, 1), (3, .iconst 0, 1), (4, .iconst 1, 1), (5, .invokevirtual 21, 3), (8, .ifCond .le 7, 3), (11, .iconst 1, 1), (12, .goto 4, 3), (15, .iconst 0, 1), (16, .ireturn, 1)]
def mX1_bindFirst : azM := (yX1_bindFirst, cX1_bindFirst, 3, some .boolean, false, 1, tX1_bindFirst)
def tX1_goes : azT := [(0, .aload_n 1, 1), (1, .ifnull 14, 3), (4, .aload_n 0, 1), (5, .aload_n 1, 1), (6, .aload_n 2, 1), (7, .iconst 0, 1), (8, .iconst 1, 1), (9, .invokevirtual 21, 3), (12, .ifCond .ne 5, 3), (15, .iconst 0, 1), (16, .ireturn, 1), (17, .aload_n 0, 1), (18, .aload_n 1, 1), (19, .aload_n 2, 1), (20, .aload_n 3, 1), (21, .invokevirtual 25, 3), (24, .iconst 0, 1), (25, .istore 4, 2), (27, .iload 4, 2), (29, .aload_n 1, 1), (30, .getfield 29, 3), (33, .if_icmp .ge 48, 3), (36, .aload_n 1, 1), (37, .iload 4, 2), (39, .invokevirtual 35, 3), (42, .istore 5, 2), (44, .aload_n 0, 1), (45, .aload_n 1, 1), (46, .iload 5, 2), (48, .invokevirtual 39, 3), (51, .bipush 100, 2), (53, .invokestatic 43, 3), (56, .istore 6, 2), (58, .aload_n 3, 1), (59, .aload_n 1, 1), (60, .iload 5, 2), (62, .invokevirtual 49, 3), (65, .iload 6, 2), (67, .invokevirtual 52, 3), (70, .ifCond .ne 5, 3), (73, .iconst 0, 1), (74, .ireturn, 1), (75, .iinc 4 1, 3), (78, .goto (-51), 3), (81, .iconst 1, 1), (82, .ireturn, 1)]
def mX1_goes : azM := (yX1_goes, cX1_goes, 7, some .boolean, false, 1, tX1_goes)
def tX1_bindFrom : azT := [(0, .iload_n 3, 1), (1, .aload_n 1, 1), (2, .getfield 58, 3), (5, .if_icmp .ge 8, 3), (8, .iload_n 3, 1), (9, .iconst 3, 1), (10, .if_icmp .lt 17, 3), (13, .aload_n 0, 1), (14, .aload_n 1, 1), (15, .invokevirtual 61, 3), (18, .ifCond .eq 7, 3), (21, .iconst 1, 1), (22, .goto 4, 3), (25, .iconst 0, 1), (26, .ireturn, 1), (27, .aload_n 1, 1), (28, .iload_n 3, 1), (29, .invokevirtual 65, 3), (32, .istore 5, 2), (34, .aload_n 1, 1), (35, .iload 5, 2), (37, .invokevirtual 49, 3), (40, .istore 6, 2), (42, .aload_n 1, 1), (43, .iload 5, 2), (45, .invokevirtual 68, 3), (48, .istore 7, 2), (50, .iconst 0, 1), (51, .istore 8, 2), (53, .iconst 0, 1), (54, .istore 9, 2), (56, .iload 9, 2), (58, .aload_n 2, 1), (59, .iload 6, 2), (61, .invokevirtual 71, 3), (64, .if_icmp .ge 87, 3), (67, .iload 7, 2), (69, .ifCond .lt 76, 3), (72, .iload 7, 2), (74, .iconst 3, 1), (75, .if_icmp .ge 70, 3), (78, .aload_n 0, 1), (79, .aload_n 1, 1), (80, .aload_n 2, 1), (81, .iload_n 3, 1), (82, .iload 9, 2), (84, .invokevirtual 74, 3), (87, .ifCond .ne 6, 3), (90, .goto 55, 3), (93, .aload_n 0, 1), (94, .getfield 9, 3), (97, .iload_n 3, 1), (98, .iload 9, 2), (100, .iastore, 1), (101, .aload_n 0, 1), (102, .getfield 15, 3), (105, .iload 7, 2), (107, .aload_n 2, 1), (108, .iload 6, 2), (110, .iload 9, 2), (112, .invokevirtual 78, 3), (115, .iastore, 1), (116, .iload 8, 2), (118, .aload_n 0, 1), (119, .aload_n 1, 1), (120, .aload_n 2, 1), (121, .iload_n 3, 1), (122, .iconst 1, 1), (123, .iadd, 1), (124, .iload 4, 2), (126, .invokevirtual 21, 3), (129, .iadd, 1), (130, .istore 8, 2), (132, .iload 4, 2), (134, .ifCond .eq 11, 3), (137, .iload 8, 2), (139, .ifCond .le 6, 3), (142, .goto 9, 3), (145, .iinc 9 1, 3), (148, .goto (-92), 3), (151, .iload 8, 2), (153, .ireturn, 1)]
def mX1_bindFrom : azM := (yX1_bindFrom, cX1_bindFrom, 10, some .int, false, 1, tX1_bindFrom)
def tX1_isFree : azT := [(0, .aload_n 1, 1), (1, .iload_n 3, 1), (2, .invokevirtual 65, 3), (5, .istore 5, 2), (7, .aload_n 2, 1), (8, .aload_n 1, 1), (9, .iload 5, 2), (11, .invokevirtual 49, 3), (14, .iload 4, 2), (16, .invokevirtual 78, 3), (19, .istore 6, 2), (21, .iconst 0, 1), (22, .istore 7, 2), (24, .iload 7, 2), (26, .iload_n 3, 1), (27, .if_icmp .ge 91, 3), (30, .iload 7, 2), (32, .iconst 3, 1), (33, .if_icmp .ge 85, 3), (36, .aload_n 1, 1), (37, .iload 7, 2), (39, .invokevirtual 65, 3), (42, .istore 8, 2), (44, .aload_n 1, 1), (45, .iload 8, 2), (47, .invokevirtual 49, 3), (50, .aload_n 1, 1), (51, .iload 5, 2), (53, .invokevirtual 49, 3), (56, .if_icmp .ne 17, 3), (59, .aload_n 0, 1), (60, .getfield 9, 3), (63, .iload 7, 2), (65, .iaload, 1), (66, .iload 4, 2), (68, .if_icmp .ne 5, 3), (71, .iconst 0, 1), (72, .ireturn, 1), (73, .aload_n 1, 1), (74, .iload 8, 2), (76, .invokevirtual 68, 3), (79, .aload_n 1, 1), (80, .iload 5, 2), (82, .invokevirtual 68, 3), (85, .if_icmp .ne 27, 3), (88, .aload_n 2, 1), (89, .aload_n 1, 1), (90, .iload 8, 2), (92, .invokevirtual 49, 3), (95, .aload_n 0, 1), (96, .getfield 9, 3), (99, .iload 7, 2), (101, .iaload, 1), (102, .invokevirtual 78, 3), (105, .iload 6, 2), (107, .if_icmp .eq 5, 3), (110, .iconst 0, 1), (111, .ireturn, 1), (112, .iinc 7 1, 3), (115, .goto (-91), 3), (118, .iconst 1, 1), (119, .ireturn, 1)]
def mX1_isFree : azM := (yX1_isFree, cX1_isFree, 9, some .boolean, false, 1, tX1_isFree)
def tX1_conditionsHold : azT := [(0, .iconst 0, 1), (1, .istore_n 2, 1), (2, .iload_n 2, 1), (3, .aload_n 1, 1), (4, .getfield 81, 3), (7, .if_icmp .ge 29, 3), (10, .aload_n 1, 1), (11, .iload_n 2, 1), (12, .invokevirtual 84, 3), (15, .iconst 1, 1), (16, .if_icmp .ne 14, 3), (19, .aload_n 0, 1), (20, .aload_n 1, 1), (21, .iload_n 2, 1), (22, .invokevirtual 39, 3), (25, .ifCond .ne 5, 3), (28, .iconst 0, 1), (29, .ireturn, 1), (30, .iinc 2 1, 3), (33, .goto (-31), 3), (36, .iconst 1, 1), (37, .ireturn, 1)]
def mX1_conditionsHold : azM := (yX1_conditionsHold, cX1_conditionsHold, 3, some .boolean, false, 1, tX1_conditionsHold)
def tX1_copyLeft : azT := [(0, .aload_n 3, 1), (1, .invokevirtual 87, 3), (4, .iconst 0, 1), (5, .istore 4, 2), (7, .iload 4, 2), (9, .bipush 10, 2), (11, .if_icmp .ge 72, 3), (14, .aload_n 1, 1), (15, .getfield 90, 3), (18, .iload 4, 2), (20, .ishr, 1), (21, .iconst 1, 1), (22, .iand, 1), (23, .iconst 1, 1), (24, .if_icmp .ne 6, 3), (27, .goto 50, 3), (30, .iconst 0, 1), (31, .istore 5, 2), (33, .iload 5, 2), (35, .aload_n 2, 1), (36, .iload 4, 2), (38, .invokevirtual 71, 3), (41, .if_icmp .ge 36, 3), (44, .aload_n 0, 1), (45, .aload_n 1, 1), (46, .iload 4, 2), (48, .iload 5, 2), (50, .invokevirtual 93, 3), (53, .ifCond .ne 18, 3), (56, .aload_n 3, 1), (57, .iload 4, 2), (59, .aload_n 2, 1), (60, .iload 4, 2), (62, .iload 5, 2), (64, .invokevirtual 78, 3), (67, .invokevirtual 52, 3), (70, .pop, 1), (71, .iinc 5 1, 3), (74, .goto (-41), 3), (77, .iinc 4 1, 3), (80, .goto (-73), 3), (83, .return_, 1)]
def mX1_copyLeft : azM := (yX1_copyLeft, cX1_copyLeft, 6, none, false, 1, tX1_copyLeft)
def tX1_isTaken : azT := [(0, .iconst 0, 1), (1, .istore 4, 2), (3, .iload 4, 2), (5, .aload_n 1, 1), (6, .getfield 58, 3), (9, .if_icmp .ge 42, 3), (12, .iload 4, 2), (14, .iconst 3, 1), (15, .if_icmp .ge 36, 3), (18, .aload_n 1, 1), (19, .aload_n 1, 1), (20, .iload 4, 2), (22, .invokevirtual 65, 3), (25, .invokevirtual 49, 3), (28, .iload_n 2, 1), (29, .if_icmp .ne 16, 3), (32, .aload_n 0, 1), (33, .getfield 9, 3), (36, .iload 4, 2), (38, .iaload, 1), (39, .iload_n 3, 1), (40, .if_icmp .ne 5, 3), (43, .iconst 1, 1), (44, .ireturn, 1), (45, .iinc 4 1, 3), (48, .goto (-45), 3), (51, .iconst 0, 1), (52, .ireturn, 1)]
def mX1_isTaken : azM := (yX1_isTaken, cX1_isTaken, 5, some .boolean, false, 1, tX1_isTaken)
def tX1_value : azT := [(0, .iconst 0, 1), (1, .istore_n 3, 1), (2, .aload_n 1, 1), (3, .iload_n 2, 1), (4, .invokevirtual 97, 3), (7, .istore 4, 2), (9, .iload 4, 2), (11, .aload_n 1, 1), (12, .iload_n 2, 1), (13, .invokevirtual 100, 3), (16, .if_icmp .ge 125, 3), (19, .aload_n 1, 1), (20, .iload 4, 2), (22, .invokevirtual 103, 3), (25, .istore 5, 2), (27, .iload 5, 2), (29, .sipush 200, 3), (32, .if_icmp .lt 47, 3), (35, .iload_n 3, 1), (36, .iconst 2, 1), (37, .if_icmp .lt 98, 3), (40, .aload_n 0, 1), (41, .getfield 18, 3), (44, .iload_n 3, 1), (45, .iconst 2, 1), (46, .isub, 1), (47, .iload 5, 2), (49, .sipush 200, 3), (52, .isub, 1), (53, .aload_n 0, 1), (54, .getfield 18, 3), (57, .iload_n 3, 1), (58, .iconst 2, 1), (59, .isub, 1), (60, .iaload, 1), (61, .aload_n 0, 1), (62, .getfield 18, 3), (65, .iload_n 3, 1), (66, .iconst 1, 1), (67, .isub, 1), (68, .iaload, 1), (69, .invokestatic 106, 3), (72, .iastore, 1), (73, .iinc 3 (-1), 3), (76, .goto 59, 3), (79, .iload_n 3, 1), (80, .bipush 80, 2), (82, .if_icmp .ge 53, 3), (85, .iload 5, 2), (87, .bipush 100, 2), (89, .if_icmp .lt 10, 3), (92, .iload 5, 2), (94, .bipush 103, 2), (96, .if_icmp .lt 7, 3), (99, .iconst 1, 1), (100, .goto 4, 3), (103, .iconst 0, 1), (104, .istore 6, 2), (106, .aload_n 0, 1), (107, .getfield 18, 3), (110, .iload_n 3, 1), (111, .iload 6, 2), (113, .ifCond .eq 8, 3), (116, .iload 5, 2), (118, .goto 13, 3), (121, .aload_n 0, 1), (122, .getfield 15, 3), (125, .iload 5, 2), (127, .bipush 100, 2), (129, .isub, 1), (130, .iaload, 1), (131, .iastore, 1), (132, .iinc 3 1, 3), (135, .iinc 4 1, 3), (138, .goto (-129), 3), (141, .aload_n 0, 1), (142, .getfield 18, 3), (145, .iconst 0, 1), (146, .iaload, 1), (147, .ireturn, 1)]
def mX1_value : azM := (yX1_value, cX1_value, 7, some .int, false, 1, tX1_value)
def tX1_result : azT := [(0, .iload_n 0, 1), (1, .lookupswitch 104 #[(42, 67), (43, 59), (45, 63), (60, 71), (61, 93), (62, 82)], 59), (60, .iload_n 1, 1), (61, .iload_n 2, 1), (62, .iadd, 1), (63, .ireturn, 1), (64, .iload_n 1, 1), (65, .iload_n 2, 1), (66, .isub, 1), (67, .ireturn, 1), (68, .iload_n 1, 1), (69, .iload_n 2, 1), (70, .imul, 1), (71, .ireturn, 1), (72, .iload_n 1, 1), (73, .iload_n 2, 1), (74, .if_icmp .ge 7, 3), (77, .iconst 1, 1), (78, .goto 4, 3), (81, .iconst 0, 1), (82, .ireturn, 1), (83, .iload_n 1, 1), (84, .iload_n 2, 1), (85, .if_icmp .le 7, 3), (88, .iconst 1, 1), (89, .goto 4, 3), (92, .iconst 0, 1), (93, .ireturn, 1), (94, .iload_n 1, 1), (95, .iload_n 2, 1), (96, .if_icmp .ne 7, 3), (99, .iconst 1, 1), (100, .goto 4, 3), (103, .iconst 0, 1), (104, .ireturn, 1), (105, .iload_n 1, 1), (106, .iload_n 2, 1), (107, .iand, 1), (108, .ireturn, 1)]
def mX1_result : azM := (yX1_result, cX1_result, 3, some .int, false, 1, tX1_result)
def tX2_init : azT := [(0, .aload_n 0, 1), (1, .invokespecial 3, 3), (4, .aload_n 0, 1), (5, .new 9, 3), (8, .dup, 1), (9, .invokespecial 11, 3), (12, .putfield 12, 3), (15, .aload_n 0, 1), (16, .bipush 10, 2), (18, .anewarray 18, 3), (21, .putfield 20, 3), (24, .return_, 1)]
def mX2_init : azM := (yX2_init, cX2_init, 1, none, true, 2, tX2_init)
def tX2_keep : azT := [(0, .aload_n 0, 1), (1, .getfield 12, 3), (4, .aload_n 1, 1), (5, .invokevirtual 24, 3), (8, .iconst 0, 1), (9, .istore 4, 2), (11, .iload 4, 2), (13, .bipush 10, 2), (15, .if_icmp .ge 27, 3), (18, .iload 4, 2), (20, .aload_n 2, 1), (21, .arraylength, 1), (22, .if_icmp .ge 20, 3), (25, .aload_n 0, 1), (26, .getfield 20, 3), (29, .iload 4, 2), (31, .aload_n 2, 1), (32, .iload 4, 2), (34, .aaload, 1), (35, .aastore, 1), (36, .iinc 4 1, 3), (39, .goto (-28), 3), (42, .aload_n 0, 1), (43, .iload_n 3, 1), (44, .putfield 28, 3), (47, .aload_n 0, 1), (48, .iconst 1, 1), (49, .putfield 32, 3), (52, .return_, 1)]
def mX2_keep : azM := (yX2_keep, cX2_keep, 5, none, false, 2, tX2_keep)
def tX2_giveBack : azT := [(0, .aload_n 1, 1), (1, .aload_n 0, 1), (2, .getfield 12, 3), (5, .invokevirtual 24, 3), (8, .iconst 0, 1), (9, .istore_n 3, 1), (10, .iload_n 3, 1), (11, .bipush 10, 2), (13, .if_icmp .ge 24, 3), (16, .iload_n 3, 1), (17, .aload_n 2, 1), (18, .arraylength, 1), (19, .if_icmp .ge 18, 3), (22, .aload_n 2, 1), (23, .iload_n 3, 1), (24, .aload_n 0, 1), (25, .getfield 20, 3), (28, .iload_n 3, 1), (29, .aaload, 1), (30, .aastore, 1), (31, .iinc 3 1, 3), (34, .goto (-24), 3), (37, .return_, 1)]
def mX2_giveBack : azM := (yX2_giveBack, cX2_giveBack, 4, none, false, 2, tX2_giveBack)
def tX3_init : azT := [(0, .aload_n 0, 1), (1, .invokespecial 3, 3), (4, .aload_n 0, 1), (5, .bipush 10, 2), (7, .newarray .int, 2), (9, .putfield 9, 3), (12, .aload_n 0, 1), (13, .bipush 60, 2), (15, .newarray .int, 2), (17, .putfield 15, 3), (20, .return_, 1)]
def mX3_init : azM := (yX3_init, cX3_init, 1, none, true, 3, tX3_init)
def tX3_count : azT := [(0, .iload_n 1, 1), (1, .ifCond .lt 18, 3), (4, .iload_n 1, 1), (5, .bipush 10, 2), (7, .if_icmp .ge 12, 3), (10, .aload_n 0, 1), (11, .getfield 9, 3), (14, .iload_n 1, 1), (15, .iaload, 1), (16, .goto 4, 3), (19, .iconst 0, 1), (20, .ireturn, 1)]
def mX3_count : azM := (yX3_count, cX3_count, 2, some .int, false, 3, tX3_count)
def tX3_holds : azT := [(0, .iload_n 1, 1), (1, .ifCond .lt 33, 3), (4, .iload_n 1, 1), (5, .bipush 10, 2), (7, .if_icmp .ge 27, 3), (10, .iload_n 2, 1), (11, .ifCond .lt 23, 3), (14, .iload_n 2, 1), (15, .bipush 6, 2), (17, .if_icmp .ge 17, 3), (20, .iload_n 2, 1), (21, .aload_n 0, 1), (22, .getfield 9, 3), (25, .iload_n 1, 1), (26, .iaload, 1), (27, .if_icmp .ge 7, 3), (30, .iconst 1, 1), (31, .goto 4, 3), (34, .iconst 0, 1), (35, .ireturn, 1)]
def mX3_holds : azM := (yX3_holds, cX3_holds, 3, some .boolean, false, 3, tX3_holds)
def tX3_at : azT := [(0, .aload_n 0, 1), (1, .iload_n 1, 1), (2, .iload_n 2, 1), (3, .invokevirtual 18, 3), (6, .ifCond .eq 17, 3), (9, .aload_n 0, 1), (10, .getfield 15, 3), (13, .iload_n 1, 1), (14, .bipush 6, 2), (16, .imul, 1), (17, .iload_n 2, 1), (18, .iadd, 1), (19, .iaload, 1), (20, .goto 4, 3), (23, .iconst (-1), 1), (24, .ireturn, 1)]
def mX3_at : azM := (yX3_at, cX3_at, 3, some .int, false, 3, tX3_at)
def tX3_append : azT := [(0, .iload_n 1, 1), (1, .invokestatic 22, 3), (4, .ifCond .eq 14, 3), (7, .aload_n 0, 1), (8, .getfield 9, 3), (11, .iload_n 1, 1), (12, .iaload, 1), (13, .bipush 6, 2), (15, .if_icmp .lt 5, 3), (18, .iconst 0, 1), (19, .ireturn, 1), (20, .aload_n 0, 1), (21, .getfield 15, 3), (24, .iload_n 1, 1), (25, .bipush 6, 2), (27, .imul, 1), (28, .aload_n 0, 1), (29, .getfield 9, 3), (32, .iload_n 1, 1), (33, .iaload, 1), (34, .iadd, 1), (35, .iload_n 2, 1), (36, .iastore, 1), (37, .aload_n 0, 1), (38, .getfield 9, 3), (41, .iload_n 1, 1), (42, .dup2, 1), (43, .iaload, 1), (44, .iconst 1, 1), (45, .iadd, 1), (46, .iastore, 1), (47, .iconst 1, 1), (48, .ireturn, 1)]
def mX3_append : azM := (yX3_append, cX3_append, 3, some .boolean, false, 3, tX3_append)
def tX3_remove : azT := [(0, .aload_n 0, 1), (1, .iload_n 1, 1), (2, .iload_n 2, 1), (3, .invokevirtual 18, 3), (6, .ifCond .ne 5, 3), (9, .iconst (-1), 1), (10, .ireturn, 1), (11, .aload_n 0, 1), (12, .getfield 15, 3), (15, .iload_n 1, 1), (16, .bipush 6, 2), (18, .imul, 1), (19, .iload_n 2, 1), (20, .iadd, 1), (21, .iaload, 1), (22, .istore_n 3, 1), (23, .aload_n 0, 1), (24, .getfield 9, 3), (27, .iload_n 1, 1), (28, .dup2, 1), (29, .iaload, 1), (30, .iconst 1, 1), (31, .isub, 1), (32, .iastore, 1), (33, .iload_n 2, 1), (34, .istore 4, 2), (36, .iload 4, 2), (38, .aload_n 0, 1), (39, .getfield 9, 3), (42, .iload_n 1, 1), (43, .iaload, 1), (44, .if_icmp .ge 35, 3), (47, .aload_n 0, 1), (48, .getfield 15, 3), (51, .iload_n 1, 1), (52, .bipush 6, 2), (54, .imul, 1), (55, .iload 4, 2), (57, .iadd, 1), (58, .aload_n 0, 1), (59, .getfield 15, 3), (62, .iload_n 1, 1), (63, .bipush 6, 2), (65, .imul, 1), (66, .iload 4, 2), (68, .iadd, 1), (69, .iconst 1, 1), (70, .iadd, 1), (71, .iaload, 1), (72, .iastore, 1), (73, .iinc 4 1, 3), (76, .goto (-40), 3), (79, .iload_n 3, 1), (80, .ireturn, 1)]
def mX3_remove : azM := (yX3_remove, cX3_remove, 5, some .int, false, 3, tX3_remove)
def tX3_wipe : azT := [(0, .iconst 0, 1), (1, .istore_n 1, 1), (2, .iload_n 1, 1), (3, .bipush 10, 2), (5, .if_icmp .ge 16, 3), (8, .aload_n 0, 1), (9, .getfield 9, 3), (12, .iload_n 1, 1), (13, .iconst 0, 1), (14, .iastore, 1), (15, .iinc 1 1, 3), (18, .goto (-16), 3), (21, .return_, 1)]
def mX3_wipe : azM := (yX3_wipe, cX3_wipe, 2, none, false, 3, tX3_wipe)
def tX3_copy : azT := [(0, .iconst 0, 1), (1, .istore_n 2, 1), (2, .iload_n 2, 1), (3, .bipush 10, 2), (5, .if_icmp .ge 21, 3), (8, .aload_n 0, 1), (9, .getfield 9, 3), (12, .iload_n 2, 1), (13, .aload_n 1, 1), (14, .getfield 9, 3), (17, .iload_n 2, 1), (18, .iaload, 1), (19, .iastore, 1), (20, .iinc 2 1, 3), (23, .goto (-21), 3), (26, .iconst 0, 1), (27, .istore_n 2, 1), (28, .iload_n 2, 1), (29, .bipush 60, 2), (31, .if_icmp .ge 21, 3), (34, .aload_n 0, 1), (35, .getfield 15, 3), (38, .iload_n 2, 1), (39, .aload_n 1, 1), (40, .getfield 15, 3), (43, .iload_n 2, 1), (44, .iaload, 1), (45, .iastore, 1), (46, .iinc 2 1, 3), (49, .goto (-21), 3), (52, .return_, 1)]
def mX3_copy : azM := (yX3_copy, cX3_copy, 3, none, false, 3, tX3_copy)
def tX3_isLike : azT := [(0, .iconst 0, 1), (1, .istore_n 2, 1), (2, .iload_n 2, 1), (3, .bipush 10, 2), (5, .if_icmp .ge 77, 3), (8, .aload_n 0, 1), (9, .getfield 9, 3), (12, .iload_n 2, 1), (13, .iaload, 1), (14, .aload_n 1, 1), (15, .getfield 9, 3), (18, .iload_n 2, 1), (19, .iaload, 1), (20, .if_icmp .eq 5, 3), (23, .iconst 0, 1), (24, .ireturn, 1), (25, .iconst 0, 1), (26, .istore_n 3, 1), (27, .iload_n 3, 1), (28, .aload_n 0, 1), (29, .getfield 9, 3), (32, .iload_n 2, 1), (33, .iaload, 1), (34, .if_icmp .ge 42, 3), (37, .iload_n 3, 1), (38, .bipush 6, 2), (40, .if_icmp .ge 36, 3), (43, .aload_n 0, 1), (44, .getfield 15, 3), (47, .iload_n 2, 1), (48, .bipush 6, 2), (50, .imul, 1), (51, .iload_n 3, 1), (52, .iadd, 1), (53, .iaload, 1), (54, .aload_n 1, 1), (55, .getfield 15, 3), (58, .iload_n 2, 1), (59, .bipush 6, 2), (61, .imul, 1), (62, .iload_n 3, 1), (63, .iadd, 1), (64, .iaload, 1), (65, .if_icmp .eq 5, 3), (68, .iconst 0, 1), (69, .ireturn, 1), (70, .iinc 3 1, 3), (73, .goto (-46), 3), (76, .iinc 2 1, 3), (79, .goto (-77), 3), (82, .iconst 1, 1), (83, .ireturn, 1)]
def mX3_isLike : azM := (yX3_isLike, cX3_isLike, 4, some .boolean, false, 3, tX3_isLike)
def tX3_total : azT := [(0, .iconst 0, 1), (1, .istore_n 1, 1), (2, .iconst 0, 1), (3, .istore_n 2, 1), (4, .iload_n 2, 1), (5, .bipush 10, 2), (7, .if_icmp .ge 18, 3), (10, .iload_n 1, 1), (11, .aload_n 0, 1), (12, .getfield 9, 3), (15, .iload_n 2, 1), (16, .iaload, 1), (17, .iadd, 1), (18, .istore_n 1, 1), (19, .iinc 2 1, 3), (22, .goto (-18), 3), (25, .iload_n 1, 1), (26, .ireturn, 1)]
def mX3_total : azM := (yX3_total, cX3_total, 3, some .int, false, 3, tX3_total)
def tX4_init : azT := [(0, .aload_n 0, 1), (1, .invokespecial 3, 3), (4, .aload_n 0, 1), (5, .sipush 256, 3), (8, .newarray .int, 2), (10, .putfield 9, 3), (13, .aload_n 0, 1), (14, .bipush 80, 2), (16, .newarray .int, 2), (18, .putfield 15, 3), (21, .aload_n 0, 1), (22, .bipush 80, 2), (24, .newarray .int, 2), (26, .putfield 18, 3), (29, .return_, 1)]
def mX4_init : azM := (yX4_init, cX4_init, 1, none, true, 4, tX4_init)
def tX4_at : azT := [(0, .iload_n 1, 1), (1, .ifCond .lt 27, 3), (4, .iload_n 1, 1), (5, .aload_n 0, 1), (6, .getfield 21, 3), (9, .if_icmp .ge 19, 3), (12, .iload_n 1, 1), (13, .sipush 256, 3), (16, .if_icmp .ge 12, 3), (19, .aload_n 0, 1), (20, .getfield 9, 3), (23, .iload_n 1, 1), (24, .iaload, 1), (25, .goto 4, 3), (28, .iconst (-1), 1), (29, .ireturn, 1)]
def mX4_at : azM := (yX4_at, cX4_at, 2, some .int, false, 4, tX4_at)
def tX4_writeMarking : azT := [(0, .aload_n 0, 1), (1, .iconst 0, 1), (2, .putfield 21, 3), (5, .iconst 0, 1), (6, .istore_n 2, 1), (7, .iload_n 2, 1), (8, .bipush 10, 2), (10, .if_icmp .ge 86, 3), (13, .aload_n 1, 1), (14, .iload_n 2, 1), (15, .invokevirtual 25, 3), (18, .ifCond .ne 6, 3), (21, .goto 69, 3), (24, .aload_n 0, 1), (25, .getfield 21, 3), (28, .ifCond .le 9, 3), (31, .aload_n 0, 1), (32, .bipush 32, 2), (34, .invokevirtual 31, 3), (37, .aload_n 0, 1), (38, .bipush 80, 2), (40, .invokevirtual 31, 3), (43, .aload_n 0, 1), (44, .iload_n 2, 1), (45, .invokevirtual 35, 3), (48, .iconst 0, 1), (49, .istore_n 3, 1), (50, .iload_n 3, 1), (51, .aload_n 1, 1), (52, .iload_n 2, 1), (53, .invokevirtual 25, 3), (56, .if_icmp .ge 34, 3), (59, .aload_n 0, 1), (60, .iload_n 3, 1), (61, .ifCond .ne 8, 3), (64, .bipush 61, 2), (66, .goto 5, 3), (69, .bipush 44, 2), (71, .invokevirtual 31, 3), (74, .aload_n 0, 1), (75, .aload_n 1, 1), (76, .iload_n 2, 1), (77, .iload_n 3, 1), (78, .invokevirtual 38, 3), (81, .invokevirtual 35, 3), (84, .iinc 3 1, 3), (87, .goto (-37), 3), (90, .iinc 2 1, 3), (93, .goto (-86), 3), (96, .return_, 1)]
def mX4_writeMarking : azM := (yX4_writeMarking, cX4_writeMarking, 4, none, false, 4, tX4_writeMarking)
def tX4_writeRule : azT := [(0, .aload_n 0, 1), (1, .iconst 0, 1), (2, .putfield 21, 3), (5, .iconst 0, 1), (6, .istore_n 2, 1), (7, .iload_n 2, 1), (8, .aload_n 1, 1), (9, .getfield 42, 3), (12, .if_icmp .ge 25, 3), (15, .iload_n 2, 1), (16, .ifCond .le 9, 3), (19, .aload_n 0, 1), (20, .bipush 59, 2), (22, .invokevirtual 31, 3), (25, .aload_n 0, 1), (26, .aload_n 1, 1), (27, .iload_n 2, 1), (28, .invokevirtual 47, 3), (31, .iinc 2 1, 3), (34, .goto (-27), 3), (37, .return_, 1)]
def mX4_writeRule : azM := (yX4_writeRule, cX4_writeRule, 3, none, false, 4, tX4_writeRule)
def tX4_writeClause : azT := [(0, .aload_n 1, 1), (1, .iload_n 2, 1), (2, .invokevirtual 51, 3), (5, .istore_n 3, 1), (6, .aload_n 0, 1), (7, .iload_n 3, 1), (8, .invokestatic 54, 3), (11, .invokevirtual 58, 3), (14, .aload_n 0, 1), (15, .bipush 32, 2), (17, .invokevirtual 31, 3), (20, .iload_n 3, 1), (21, .iconst 1, 1), (22, .if_icmp .eq 12, 3), (25, .aload_n 0, 1), (26, .aload_n 1, 1), (27, .iload_n 2, 1), (28, .invokevirtual 62, 3), (31, .invokevirtual 35, 3), (34, .iload_n 3, 1), (35, .ifCond .ne 21, 3), (38, .aload_n 0, 1), (39, .bipush 32, 2), (41, .invokevirtual 31, 3), (44, .aload_n 0, 1), (45, .bipush 120, 2), (47, .aload_n 1, 1), (48, .iload_n 2, 1), (49, .invokevirtual 65, 3), (52, .iadd, 1), (53, .invokevirtual 31, 3), (56, .iload_n 3, 1), (57, .iconst 2, 1), (58, .if_icmp .ne 9, 3), (61, .aload_n 0, 1), (62, .bipush 32, 2), (64, .invokevirtual 31, 3), (67, .iload_n 3, 1), (68, .iconst 2, 1), (69, .if_icmp .eq 8, 3), (72, .iload_n 3, 1), (73, .iconst 1, 1), (74, .if_icmp .ne 18, 3), (77, .aload_n 0, 1), (78, .aload_n 1, 1), (79, .aload_n 1, 1), (80, .iload_n 2, 1), (81, .invokevirtual 68, 3), (84, .aload_n 1, 1), (85, .iload_n 2, 1), (86, .invokevirtual 71, 3), (89, .invokevirtual 74, 3), (92, .return_, 1)]
def mX4_writeClause : azM := (yX4_writeClause, cX4_writeClause, 4, none, false, 4, tX4_writeClause)
def tX4_writeCode : azT := [(0, .iconst 0, 1), (1, .istore 4, 2), (3, .iload_n 2, 1), (4, .istore 5, 2), (6, .iload 5, 2), (8, .iload_n 3, 1), (9, .if_icmp .ge 90, 3), (12, .aload_n 1, 1), (13, .iload 5, 2), (15, .invokevirtual 78, 3), (18, .istore 6, 2), (20, .iload 6, 2), (22, .sipush 200, 3), (25, .if_icmp .lt 33, 3), (28, .iload 4, 2), (30, .iconst 2, 1), (31, .if_icmp .lt 62, 3), (34, .aload_n 0, 1), (35, .iload 4, 2), (37, .iconst 2, 1), (38, .isub, 1), (39, .iload 4, 2), (41, .iconst 1, 1), (42, .isub, 1), (43, .iload 6, 2), (45, .sipush 200, 3), (48, .isub, 1), (49, .invokevirtual 81, 3), (52, .iinc 4 (-1), 3), (55, .goto 38, 3), (58, .iload 4, 2), (60, .bipush 80, 2), (62, .if_icmp .ge 31, 3), (65, .aload_n 0, 1), (66, .getfield 15, 3), (69, .iload 4, 2), (71, .aload_n 0, 1), (72, .getfield 21, 3), (75, .iastore, 1), (76, .aload_n 0, 1), (77, .getfield 18, 3), (80, .iload 4, 2), (82, .iconst 4, 1), (83, .iastore, 1), (84, .iinc 4 1, 3), (87, .aload_n 0, 1), (88, .iload 6, 2), (90, .invokevirtual 85, 3), (93, .iinc 5 1, 3), (96, .goto (-90), 3), (99, .return_, 1)]
def mX4_writeCode : azM := (yX4_writeCode, cX4_writeCode, 7, none, false, 4, tX4_writeCode)
def tX4_writeItem : azT := [(0, .iload_n 1, 1), (1, .bipush 100, 2), (3, .if_icmp .lt 17, 3), (6, .aload_n 0, 1), (7, .bipush 120, 2), (9, .iload_n 1, 1), (10, .iadd, 1), (11, .bipush 100, 2), (13, .isub, 1), (14, .invokevirtual 31, 3), (17, .goto 8, 3), (20, .aload_n 0, 1), (21, .iload_n 1, 1), (22, .invokevirtual 35, 3), (25, .return_, 1)]
def mX4_writeItem : azM := (yX4_writeItem, cX4_writeItem, 2, none, false, 4, tX4_writeItem)
def tX4_joinPieces : azT := [(0, .iload_n 1, 1), (1, .ifCond .lt 19, 3), (4, .iload_n 2, 1), (5, .ifCond .lt 15, 3), (8, .iload_n 1, 1), (9, .bipush 80, 2), (11, .if_icmp .ge 9, 3), (14, .iload_n 2, 1), (15, .bipush 80, 2), (17, .if_icmp .lt 4, 3), (20, .return_, 1), (21, .iload_n 3, 1), (22, .invokestatic 88, 3), (25, .istore 4, 2), (27, .aload_n 0, 1), (28, .getfield 18, 3), (31, .iload_n 2, 1), (32, .iaload, 1), (33, .iload 4, 2), (35, .if_icmp .gt 21, 3), (38, .aload_n 0, 1), (39, .aload_n 0, 1), (40, .getfield 15, 3), (43, .iload_n 2, 1), (44, .iaload, 1), (45, .bipush 40, 2), (47, .invokevirtual 91, 3), (50, .aload_n 0, 1), (51, .bipush 41, 2), (53, .invokevirtual 31, 3), (56, .aload_n 0, 1), (57, .aload_n 0, 1), (58, .getfield 15, 3), (61, .iload_n 2, 1), (62, .iaload, 1), (63, .iload_n 3, 1), (64, .invokevirtual 91, 3), (67, .aload_n 0, 1), (68, .getfield 18, 3), (71, .iload_n 1, 1), (72, .iaload, 1), (73, .iload 4, 2), (75, .if_icmp .ge 27, 3), (78, .aload_n 0, 1), (79, .aload_n 0, 1), (80, .getfield 15, 3), (83, .iload_n 2, 1), (84, .iaload, 1), (85, .bipush 41, 2), (87, .invokevirtual 91, 3), (90, .aload_n 0, 1), (91, .aload_n 0, 1), (92, .getfield 15, 3), (95, .iload_n 1, 1), (96, .iaload, 1), (97, .bipush 40, 2), (99, .invokevirtual 91, 3), (102, .aload_n 0, 1), (103, .getfield 18, 3), (106, .iload_n 1, 1), (107, .iload 4, 2), (109, .iastore, 1), (110, .return_, 1)]
def mX4_joinPieces : azM := (yX4_joinPieces, cX4_joinPieces, 5, none, false, 4, tX4_joinPieces)
def tX4_holdOf : azT := [(0, .iload_n 0, 1), (1, .tableswitch 53 38 45 #[47, 53, 53, 53, 51, 49, 53, 49], 47), (48, .iconst 0, 1), (49, .ireturn, 1), (50, .iconst 2, 1), (51, .ireturn, 1), (52, .iconst 3, 1), (53, .ireturn, 1), (54, .iconst 1, 1), (55, .ireturn, 1)]
def mX4_holdOf : azM := (yX4_holdOf, cX4_holdOf, 1, some .int, false, 4, tX4_holdOf)
def tX4_write : azT := [(0, .aload_n 0, 1), (1, .getfield 21, 3), (4, .sipush 256, 3), (7, .if_icmp .ge 23, 3), (10, .aload_n 0, 1), (11, .getfield 9, 3), (14, .aload_n 0, 1), (15, .getfield 21, 3), (18, .iload_n 1, 1), (19, .iastore, 1), (20, .aload_n 0, 1), (21, .dup, 1), (22, .getfield 21, 3), (25, .iconst 1, 1), (26, .iadd, 1), (27, .putfield 21, 3), (30, .return_, 1)]
def mX4_write : azM := (yX4_write, cX4_write, 2, none, false, 4, tX4_write)
def tX4_insert : azT := [(0, .iload_n 1, 1), (1, .ifCond .lt 21, 3), (4, .iload_n 1, 1), (5, .aload_n 0, 1), (6, .getfield 21, 3), (9, .if_icmp .gt 13, 3), (12, .aload_n 0, 1), (13, .getfield 21, 3), (16, .sipush 256, 3), (19, .if_icmp .lt 4, 3), (22, .return_, 1), (23, .aload_n 0, 1), (24, .getfield 21, 3), (27, .istore_n 3, 1), (28, .iload_n 3, 1), (29, .iload_n 1, 1), (30, .if_icmp .le 23, 3), (33, .aload_n 0, 1), (34, .getfield 9, 3), (37, .iload_n 3, 1), (38, .aload_n 0, 1), (39, .getfield 9, 3), (42, .iload_n 3, 1), (43, .iconst 1, 1), (44, .isub, 1), (45, .iaload, 1), (46, .iastore, 1), (47, .iinc 3 (-1), 3), (50, .goto (-22), 3), (53, .aload_n 0, 1), (54, .getfield 9, 3), (57, .iload_n 1, 1), (58, .iload_n 2, 1), (59, .iastore, 1), (60, .aload_n 0, 1), (61, .dup, 1), (62, .getfield 21, 3), (65, .iconst 1, 1), (66, .iadd, 1), (67, .putfield 21, 3), (70, .return_, 1)]
def mX4_insert : azM := (yX4_insert, cX4_insert, 4, none, false, 4, tX4_insert)
def tX4_writeText : azT := [(0, .iconst 0, 1), (1, .istore_n 2, 1), (2, .iload_n 2, 1), (3, .aload_n 1, 1), (4, .invokevirtual 95, 3), (7, .if_icmp .ge 18, 3), (10, .aload_n 0, 1), (11, .aload_n 1, 1), (12, .iload_n 2, 1), (13, .invokevirtual 100, 3), (16, .invokevirtual 31, 3), (19, .iinc 2 1, 3), (22, .goto (-20), 3), (25, .return_, 1)]
def mX4_writeText : azM := (yX4_writeText, cX4_writeText, 3, none, false, 4, tX4_writeText)
def tX4_writeNumber : azT := [(0, .iload_n 1, 1), (1, .bipush 10, 2), (3, .if_icmp .lt 14, 3), (6, .aload_n 0, 1), (7, .bipush 48, 2), (9, .iload_n 1, 1), (10, .bipush 10, 2), (12, .idiv, 1), (13, .iadd, 1), (14, .invokevirtual 31, 3), (17, .aload_n 0, 1), (18, .bipush 48, 2), (20, .iload_n 1, 1), (21, .bipush 10, 2), (23, .irem, 1), (24, .iadd, 1), (25, .invokevirtual 31, 3), (28, .return_, 1)]
def mX4_writeNumber : azM := (yX4_writeNumber, cX4_writeNumber, 2, none, false, 4, tX4_writeNumber)
def tX5_init : azT := [(0, .aload_n 0, 1), (1, .invokespecial 3, 3), (4, .aload_n 0, 1), (5, .bipush 12, 2), (7, .newarray .int, 2), (9, .putfield 9, 3), (12, .aload_n 0, 1), (13, .bipush 12, 2), (15, .newarray .int, 2), (17, .putfield 15, 3), (20, .aload_n 0, 1), (21, .bipush 12, 2), (23, .newarray .int, 2), (25, .putfield 18, 3), (28, .aload_n 0, 1), (29, .bipush 12, 2), (31, .newarray .int, 2), (33, .putfield 21, 3), (36, .aload_n 0, 1), (37, .bipush 12, 2), (39, .newarray .int, 2), (41, .putfield 24, 3), (44, .aload_n 0, 1), (45, .iconst 3, 1), (46, .newarray .int, 2), (48, .putfield 27, 3), (51, .aload_n 0, 1), (52, .iconst 3, 1), (53, .newarray .int, 2), (55, .putfield 30, 3), (58, .aload_n 0, 1), (59, .bipush 80, 2), (61, .newarray .int, 2), (63, .putfield 33, 3), (66, .return_, 1)]
def mX5_init : azM := (yX5_init, cX5_init, 1, none, true, 5, tX5_init)
def tX5_kind : azT := [(0, .iload_n 1, 1), (1, .ifCond .lt 18, 3), (4, .iload_n 1, 1), (5, .bipush 12, 2), (7, .if_icmp .ge 12, 3), (10, .aload_n 0, 1), (11, .getfield 9, 3), (14, .iload_n 1, 1), (15, .iaload, 1), (16, .goto 4, 3), (19, .iconst (-1), 1), (20, .ireturn, 1)]
def mX5_kind : azM := (yX5_kind, cX5_kind, 2, some .int, false, 5, tX5_kind)
def tX5_place : azT := [(0, .iload_n 1, 1), (1, .ifCond .lt 18, 3), (4, .iload_n 1, 1), (5, .bipush 12, 2), (7, .if_icmp .ge 12, 3), (10, .aload_n 0, 1), (11, .getfield 15, 3), (14, .iload_n 1, 1), (15, .iaload, 1), (16, .goto 4, 3), (19, .iconst (-1), 1), (20, .ireturn, 1)]
def mX5_place : azM := (yX5_place, cX5_place, 2, some .int, false, 5, tX5_place)
def tX5_name : azT := [(0, .iload_n 1, 1), (1, .ifCond .lt 18, 3), (4, .iload_n 1, 1), (5, .bipush 12, 2), (7, .if_icmp .ge 12, 3), (10, .aload_n 0, 1), (11, .getfield 18, 3), (14, .iload_n 1, 1), (15, .iaload, 1), (16, .goto 4, 3), (19, .iconst (-1), 1), (20, .ireturn, 1)]
def mX5_name : azM := (yX5_name, cX5_name, 2, some .int, false, 5, tX5_name)
def tX5_begin : azT := [(0, .iload_n 1, 1), (1, .ifCond .lt 18, 3), (4, .iload_n 1, 1), (5, .bipush 12, 2), (7, .if_icmp .ge 12, 3), (10, .aload_n 0, 1), (11, .getfield 21, 3), (14, .iload_n 1, 1), (15, .iaload, 1), (16, .goto 4, 3), (19, .iconst 0, 1), (20, .ireturn, 1)]
def mX5_begin : azM := (yX5_begin, cX5_begin, 2, some .int, false, 5, tX5_begin)
def tX5_end : azT := [(0, .iload_n 1, 1), (1, .ifCond .lt 18, 3), (4, .iload_n 1, 1), (5, .bipush 12, 2), (7, .if_icmp .ge 12, 3), (10, .aload_n 0, 1), (11, .getfield 24, 3), (14, .iload_n 1, 1), (15, .iaload, 1), (16, .goto 4, 3), (19, .iconst 0, 1), (20, .ireturn, 1)]
def mX5_end : azM := (yX5_end, cX5_end, 2, some .int, false, 5, tX5_end)
def tX5_takeClause : azT := [(0, .iload_n 1, 1), (1, .ifCond .lt 17, 3), (4, .iload_n 1, 1), (5, .iconst 3, 1), (6, .if_icmp .ge 12, 3), (9, .aload_n 0, 1), (10, .getfield 27, 3), (13, .iload_n 1, 1), (14, .iaload, 1), (15, .goto 4, 3), (18, .iconst (-1), 1), (19, .ireturn, 1)]
def mX5_takeClause : azM := (yX5_takeClause, cX5_takeClause, 2, some .int, false, 5, tX5_takeClause)
def tX5_giveClause : azT := [(0, .iload_n 1, 1), (1, .ifCond .lt 17, 3), (4, .iload_n 1, 1), (5, .iconst 3, 1), (6, .if_icmp .ge 12, 3), (9, .aload_n 0, 1), (10, .getfield 30, 3), (13, .iload_n 1, 1), (14, .iaload, 1), (15, .goto 4, 3), (18, .iconst (-1), 1), (19, .ireturn, 1)]
def mX5_giveClause : azM := (yX5_giveClause, cX5_giveClause, 2, some .int, false, 5, tX5_giveClause)
def tX5_item : azT := [(0, .iload_n 1, 1), (1, .ifCond .lt 18, 3), (4, .iload_n 1, 1), (5, .bipush 80, 2), (7, .if_icmp .ge 12, 3), (10, .aload_n 0, 1), (11, .getfield 33, 3), (14, .iload_n 1, 1), (15, .iaload, 1), (16, .goto 4, 3), (19, .iconst 0, 1), (20, .ireturn, 1)]
def mX5_item : azM := (yX5_item, cX5_item, 2, some .int, false, 5, tX5_item)
def tX5_addItem : azT := [(0, .aload_n 0, 1), (1, .getfield 36, 3), (4, .bipush 80, 2), (6, .if_icmp .ge 23, 3), (9, .aload_n 0, 1), (10, .getfield 33, 3), (13, .aload_n 0, 1), (14, .getfield 36, 3), (17, .iload_n 1, 1), (18, .iastore, 1), (19, .aload_n 0, 1), (20, .dup, 1), (21, .getfield 36, 3), (24, .iconst 1, 1), (25, .iadd, 1), (26, .putfield 36, 3), (29, .return_, 1)]
def mX5_addItem : azM := (yX5_addItem, cX5_addItem, 2, none, false, 5, tX5_addItem)
def tX5_addTake : azT := [(0, .aload_n 0, 1), (1, .getfield 40, 3), (4, .iconst 3, 1), (5, .if_icmp .ge 42, 3), (8, .aload_n 0, 1), (9, .iconst 0, 1), (10, .iload_n 1, 1), (11, .iload_n 2, 1), (12, .aload_n 0, 1), (13, .getfield 36, 3), (16, .invokevirtual 43, 3), (19, .ifCond .eq 28, 3), (22, .aload_n 0, 1), (23, .getfield 27, 3), (26, .aload_n 0, 1), (27, .getfield 40, 3), (30, .aload_n 0, 1), (31, .getfield 47, 3), (34, .iconst 1, 1), (35, .isub, 1), (36, .iastore, 1), (37, .aload_n 0, 1), (38, .dup, 1), (39, .getfield 40, 3), (42, .iconst 1, 1), (43, .iadd, 1), (44, .putfield 40, 3), (47, .return_, 1)]
def mX5_addTake : azM := (yX5_addTake, cX5_addTake, 3, none, false, 5, tX5_addTake)
def tX5_addCondition : azT := [(0, .aload_n 0, 1), (1, .iconst 1, 1), (2, .iconst (-1), 1), (3, .iconst (-1), 1), (4, .iload_n 1, 1), (5, .invokevirtual 43, 3), (8, .ifCond .eq 13, 3), (11, .aload_n 0, 1), (12, .dup, 1), (13, .getfield 50, 3), (16, .iload_n 2, 1), (17, .iadd, 1), (18, .putfield 50, 3), (21, .return_, 1)]
def mX5_addCondition : azM := (yX5_addCondition, cX5_addCondition, 3, none, false, 5, tX5_addCondition)
def tX5_addGive : azT := [(0, .aload_n 0, 1), (1, .getfield 53, 3), (4, .iconst 3, 1), (5, .if_icmp .ge 39, 3), (8, .aload_n 0, 1), (9, .iconst 2, 1), (10, .iload_n 1, 1), (11, .iconst (-1), 1), (12, .iload_n 2, 1), (13, .invokevirtual 43, 3), (16, .ifCond .eq 28, 3), (19, .aload_n 0, 1), (20, .getfield 30, 3), (23, .aload_n 0, 1), (24, .getfield 53, 3), (27, .aload_n 0, 1), (28, .getfield 47, 3), (31, .iconst 1, 1), (32, .isub, 1), (33, .iastore, 1), (34, .aload_n 0, 1), (35, .dup, 1), (36, .getfield 53, 3), (39, .iconst 1, 1), (40, .iadd, 1), (41, .putfield 53, 3), (44, .return_, 1)]
def mX5_addGive : azM := (yX5_addGive, cX5_addGive, 3, none, false, 5, tX5_addGive)
def tX5_addEmpty : azT := [(0, .iload_n 1, 1), (1, .invokestatic 56, 3), (4, .ifCond .eq 29, 3), (7, .aload_n 0, 1), (8, .iconst 3, 1), (9, .iload_n 1, 1), (10, .iconst (-1), 1), (11, .aload_n 0, 1), (12, .getfield 36, 3), (15, .invokevirtual 43, 3), (18, .ifCond .eq 15, 3), (21, .aload_n 0, 1), (22, .dup, 1), (23, .getfield 60, 3), (26, .iconst 1, 1), (27, .iload_n 1, 1), (28, .ishl, 1), (29, .ior, 1), (30, .putfield 60, 3), (33, .return_, 1)]
def mX5_addEmpty : azM := (yX5_addEmpty, cX5_addEmpty, 2, none, false, 5, tX5_addEmpty)
def tX5_addClause : azT := [(0, .aload_n 0, 1), (1, .getfield 47, 3), (4, .bipush 12, 2), (6, .if_icmp .lt 5, 3), (9, .iconst 0, 1), (10, .ireturn, 1), (11, .aload_n 0, 1), (12, .getfield 9, 3), (15, .aload_n 0, 1), (16, .getfield 47, 3), (19, .iload_n 1, 1), (20, .iastore, 1), (21, .aload_n 0, 1), (22, .getfield 15, 3), (25, .aload_n 0, 1), (26, .getfield 47, 3), (29, .iload_n 2, 1), (30, .iastore, 1), (31, .aload_n 0, 1), (32, .getfield 18, 3), (35, .aload_n 0, 1), (36, .getfield 47, 3), (39, .iload_n 3, 1), (40, .iastore, 1), (41, .aload_n 0, 1), (42, .getfield 21, 3), (45, .aload_n 0, 1), (46, .getfield 47, 3), (49, .iload 4, 2), (51, .iastore, 1), (52, .aload_n 0, 1), (53, .getfield 24, 3), (56, .aload_n 0, 1), (57, .getfield 47, 3), (60, .aload_n 0, 1), (61, .getfield 36, 3), (64, .iastore, 1), (65, .aload_n 0, 1), (66, .dup, 1), (67, .getfield 47, 3), (70, .iconst 1, 1), (71, .iadd, 1), (72, .putfield 47, 3), (75, .iconst 1, 1), (76, .ireturn, 1)]
def mX5_addClause : azM := (yX5_addClause, cX5_addClause, 5, some .boolean, false, 5, tX5_addClause)
def tX5_changeOf : azT := [(0, .iconst 0, 1), (1, .istore_n 2, 1), (2, .iconst 0, 1), (3, .istore_n 3, 1), (4, .iload_n 3, 1), (5, .aload_n 0, 1), (6, .getfield 47, 3), (9, .if_icmp .ge 50, 3), (12, .aload_n 0, 1), (13, .iload_n 3, 1), (14, .invokevirtual 63, 3), (17, .iload_n 1, 1), (18, .if_icmp .ne 15, 3), (21, .aload_n 0, 1), (22, .iload_n 3, 1), (23, .invokevirtual 67, 3), (26, .iconst 2, 1), (27, .if_icmp .ne 6, 3), (30, .iinc 2 1, 3), (33, .aload_n 0, 1), (34, .iload_n 3, 1), (35, .invokevirtual 63, 3), (38, .iload_n 1, 1), (39, .if_icmp .ne 14, 3), (42, .aload_n 0, 1), (43, .iload_n 3, 1), (44, .invokevirtual 67, 3), (47, .ifCond .ne 6, 3), (50, .iinc 2 (-1), 3), (53, .iinc 3 1, 3), (56, .goto (-52), 3), (59, .iload_n 2, 1), (60, .ireturn, 1)]
def mX5_changeOf : azM := (yX5_changeOf, cX5_changeOf, 4, some .int, false, 5, tX5_changeOf)
def tX6_init : azT := [(0, .aload_n 0, 1), (1, .invokespecial 3, 3), (4, .aload_n 0, 1), (5, .bipush 80, 2), (7, .newarray .int, 2), (9, .putfield 9, 3), (12, .return_, 1)]
def mX6_init : azM := (yX6_init, cX6_init, 1, none, true, 6, tX6_init)
def tX6_append : azT := [(0, .aload_n 0, 1), (1, .getfield 15, 3), (4, .bipush 80, 2), (6, .if_icmp .lt 5, 3), (9, .iconst 0, 1), (10, .ireturn, 1), (11, .aload_n 0, 1), (12, .getfield 9, 3), (15, .aload_n 0, 1), (16, .getfield 15, 3), (19, .iload_n 1, 1), (20, .iastore, 1), (21, .aload_n 0, 1), (22, .dup, 1), (23, .getfield 15, 3), (26, .iconst 1, 1), (27, .iadd, 1), (28, .putfield 15, 3), (31, .iconst 1, 1), (32, .ireturn, 1)]
def mX6_append : azM := (yX6_append, cX6_append, 2, some .boolean, false, 6, tX6_append)
def tX6_wipe : azT := [(0, .aload_n 0, 1), (1, .iconst 0, 1), (2, .putfield 15, 3), (5, .return_, 1)]
def mX6_wipe : azM := (yX6_wipe, cX6_wipe, 1, none, false, 6, tX6_wipe)
def tX6_read : azT := [(0, .aload_n 0, 1), (1, .iconst 0, 1), (2, .putfield 19, 3), (5, .aload_n 0, 1), (6, .iconst 0, 1), (7, .putfield 22, 3), (10, .aload_n 0, 1), (11, .new 25, 3), (14, .dup, 1), (15, .invokespecial 27, 3), (18, .putfield 28, 3), (21, .iconst 0, 1), (22, .istore_n 1, 1), (23, .iload_n 1, 1), (24, .bipush 12, 2), (26, .if_icmp .ge 43, 3), (29, .aload_n 0, 1), (30, .invokevirtual 32, 3), (33, .ifCond .ne 5, 3), (36, .aconst_null, 1), (37, .areturn, 1), (38, .aload_n 0, 1), (39, .getfield 19, 3), (42, .aload_n 0, 1), (43, .getfield 15, 3), (46, .if_icmp .lt 6, 3), (49, .goto 20, 3), (52, .aload_n 0, 1), (53, .bipush 59, 2), (55, .invokevirtual 36, 3), (58, .ifCond .ne 5, 3), (61, .aconst_null, 1), (62, .areturn, 1), (63, .iinc 1 1, 3), (66, .goto (-43), 3), (69, .aload_n 0, 1), (70, .getfield 19, 3), (73, .aload_n 0, 1), (74, .getfield 15, 3), (77, .if_icmp .lt 13, 3), (80, .aload_n 0, 1), (81, .getfield 28, 3), (84, .getfield 40, 3), (87, .ifCond .ne 13, 3), (90, .aload_n 0, 1), (91, .aload_n 0, 1), (92, .getfield 15, 3), (95, .putfield 43, 3), (98, .aconst_null, 1), (99, .areturn, 1), (100, .aload_n 0, 1), (101, .getfield 28, 3), (104, .areturn, 1)]
def mX6_read : azM := (yX6_read, cX6_read, 2, some (.object "TokenNet$Rule"), false, 6, tX6_read)
def tX6_fail : azT := [(0, .aload_n 0, 1), (1, .iload_n 1, 1), (2, .putfield 43, 3), (5, .iconst 0, 1), (6, .ireturn, 1)]
def mX6_fail : azM := (yX6_fail, cX6_fail, 2, some .boolean, false, 6, tX6_fail)
def tX6_peek : azT := [(0, .aload_n 0, 1), (1, .getfield 19, 3), (4, .ifCond .lt 35, 3), (7, .aload_n 0, 1), (8, .getfield 19, 3), (11, .aload_n 0, 1), (12, .getfield 15, 3), (15, .if_icmp .ge 24, 3), (18, .aload_n 0, 1), (19, .getfield 19, 3), (22, .bipush 80, 2), (24, .if_icmp .ge 15, 3), (27, .aload_n 0, 1), (28, .getfield 9, 3), (31, .aload_n 0, 1), (32, .getfield 19, 3), (35, .iaload, 1), (36, .goto 4, 3), (39, .iconst 0, 1), (40, .ireturn, 1)]
def mX6_peek : azM := (yX6_peek, cX6_peek, 1, some .int, false, 6, tX6_peek)
def tX6_byteAt : azT := [(0, .iload_n 1, 1), (1, .ifCond .lt 26, 3), (4, .iload_n 1, 1), (5, .aload_n 0, 1), (6, .getfield 15, 3), (9, .if_icmp .ge 18, 3), (12, .iload_n 1, 1), (13, .bipush 80, 2), (15, .if_icmp .ge 12, 3), (18, .aload_n 0, 1), (19, .getfield 9, 3), (22, .iload_n 1, 1), (23, .iaload, 1), (24, .goto 4, 3), (27, .iconst 0, 1), (28, .ireturn, 1)]
def mX6_byteAt : azM := (yX6_byteAt, cX6_byteAt, 2, some .int, false, 6, tX6_byteAt)
def tX6_expect : azT := [(0, .aload_n 0, 1), (1, .invokevirtual 46, 3), (4, .iload_n 1, 1), (5, .if_icmp .eq 12, 3), (8, .aload_n 0, 1), (9, .aload_n 0, 1), (10, .getfield 19, 3), (13, .invokevirtual 50, 3), (16, .ireturn, 1), (17, .aload_n 0, 1), (18, .dup, 1), (19, .getfield 19, 3), (22, .iconst 1, 1), (23, .iadd, 1), (24, .putfield 19, 3), (27, .iconst 1, 1), (28, .ireturn, 1)]
def mX6_expect : azM := (yX6_expect, cX6_expect, 2, some .boolean, false, 6, tX6_expect)
def tX6_readClause : azT := [(0, .aload_n 0, 1), (1, .getfield 19, 3), (4, .istore_n 1, 1), (5, .aload_n 0, 1), (6, .iload_n 1, 1), (7, .invokevirtual 53, 3), (10, .istore_n 2, 1), (11, .aload_n 0, 1), (12, .iload_n 1, 1), (13, .iload_n 2, 1), (14, .invokevirtual 57, 3), (17, .istore_n 3, 1), (18, .iload_n 3, 1), (19, .iconst (-1), 1), (20, .if_icmp .eq 11, 3), (23, .aload_n 0, 1), (24, .iload_n 3, 1), (25, .invokevirtual 61, 3), (28, .ifCond .eq 9, 3), (31, .aload_n 0, 1), (32, .iload_n 1, 1), (33, .invokevirtual 50, 3), (36, .ireturn, 1), (37, .aload_n 0, 1), (38, .iload_n 2, 1), (39, .putfield 19, 3), (42, .aload_n 0, 1), (43, .bipush 32, 2), (45, .invokevirtual 36, 3), (48, .ifCond .ne 5, 3), (51, .iconst 0, 1), (52, .ireturn, 1), (53, .iload_n 3, 1), (54, .iconst 1, 1), (55, .if_icmp .ne 8, 3), (58, .aload_n 0, 1), (59, .invokevirtual 64, 3), (62, .ireturn, 1), (63, .aload_n 0, 1), (64, .invokevirtual 46, 3), (67, .invokestatic 67, 3), (70, .ifCond .ne 12, 3), (73, .aload_n 0, 1), (74, .aload_n 0, 1), (75, .getfield 19, 3), (78, .invokevirtual 50, 3), (81, .ireturn, 1), (82, .aload_n 0, 1), (83, .invokevirtual 46, 3), (86, .bipush 48, 2), (88, .isub, 1), (89, .istore 4, 2), (91, .aload_n 0, 1), (92, .dup, 1), (93, .getfield 19, 3), (96, .iconst 1, 1), (97, .iadd, 1), (98, .putfield 19, 3), (101, .iload_n 3, 1), (102, .iconst 3, 1), (103, .if_icmp .ne 14, 3), (106, .aload_n 0, 1), (107, .getfield 28, 3), (110, .iload 4, 2), (112, .invokevirtual 70, 3), (115, .iconst 1, 1), (116, .ireturn, 1), (117, .aload_n 0, 1), (118, .bipush 32, 2), (120, .invokevirtual 36, 3), (123, .ifCond .ne 5, 3), (126, .iconst 0, 1), (127, .ireturn, 1), (128, .iload_n 3, 1), (129, .ifCond .ne 12, 3), (132, .aload_n 0, 1), (133, .iload 4, 2), (135, .invokevirtual 74, 3), (138, .goto 9, 3), (141, .aload_n 0, 1), (142, .iload 4, 2), (144, .invokevirtual 77, 3), (147, .ireturn, 1)]
def mX6_readClause : azM := (yX6_readClause, cX6_readClause, 5, some .boolean, false, 6, tX6_readClause)
def tX6_wordEnd : azT := [(0, .iload_n 1, 1), (1, .istore_n 2, 1), (2, .iconst 0, 1), (3, .istore_n 3, 1), (4, .iload_n 3, 1), (5, .bipush 80, 2), (7, .if_icmp .ge 35, 3), (10, .aload_n 0, 1), (11, .iload_n 2, 1), (12, .invokevirtual 80, 3), (15, .bipush 97, 2), (17, .if_icmp .lt 25, 3), (20, .aload_n 0, 1), (21, .iload_n 2, 1), (22, .invokevirtual 80, 3), (25, .bipush 122, 2), (27, .if_icmp .le 6, 3), (30, .goto 12, 3), (33, .iinc 2 1, 3), (36, .iinc 3 1, 3), (39, .goto (-35), 3), (42, .iload_n 2, 1), (43, .ireturn, 1)]
def mX6_wordEnd : azM := (yX6_wordEnd, cX6_wordEnd, 4, some .int, false, 6, tX6_wordEnd)
def tX6_kindOf : azT := [(0, .iconst 0, 1), (1, .istore_n 3, 1), (2, .iload_n 3, 1), (3, .iconst 4, 1), (4, .if_icmp .ge 24, 3), (7, .aload_n 0, 1), (8, .iload_n 3, 1), (9, .invokestatic 83, 3), (12, .iload_n 1, 1), (13, .iload_n 2, 1), (14, .invokevirtual 87, 3), (17, .ifCond .eq 5, 3), (20, .iload_n 3, 1), (21, .ireturn, 1), (22, .iinc 3 1, 3), (25, .goto (-23), 3), (28, .iconst (-1), 1), (29, .ireturn, 1)]
def mX6_kindOf : azM := (yX6_kindOf, cX6_kindOf, 4, some .int, false, 6, tX6_kindOf)
def tX6_isWord : azT := [(0, .iload_n 3, 1), (1, .iload_n 2, 1), (2, .isub, 1), (3, .aload_n 1, 1), (4, .invokevirtual 91, 3), (7, .if_icmp .eq 5, 3), (10, .iconst 0, 1), (11, .ireturn, 1), (12, .iconst 0, 1), (13, .istore 4, 2), (15, .iload 4, 2), (17, .aload_n 1, 1), (18, .invokevirtual 91, 3), (21, .if_icmp .ge 28, 3), (24, .aload_n 0, 1), (25, .iload_n 2, 1), (26, .iload 4, 2), (28, .iadd, 1), (29, .invokevirtual 80, 3), (32, .aload_n 1, 1), (33, .iload 4, 2), (35, .invokevirtual 95, 3), (38, .if_icmp .eq 5, 3), (41, .iconst 0, 1), (42, .ireturn, 1), (43, .iinc 4 1, 3), (46, .goto (-31), 3), (49, .iconst 1, 1), (50, .ireturn, 1)]
def mX6_isWord : azM := (yX6_isWord, cX6_isWord, 5, some .boolean, false, 6, tX6_isWord)
def tX6_isOneTooMany : azT := [(0, .iload_n 1, 1), (1, .ifCond .ne 14, 3), (4, .aload_n 0, 1), (5, .getfield 28, 3), (8, .getfield 40, 3), (11, .iconst 3, 1), (12, .if_icmp .ge 19, 3), (15, .iload_n 1, 1), (16, .iconst 2, 1), (17, .if_icmp .ne 18, 3), (20, .aload_n 0, 1), (21, .getfield 28, 3), (24, .getfield 99, 3), (27, .iconst 3, 1), (28, .if_icmp .lt 7, 3), (31, .iconst 1, 1), (32, .goto 4, 3), (35, .iconst 0, 1), (36, .ireturn, 1)]
def mX6_isOneTooMany : azM := (yX6_isOneTooMany, cX6_isOneTooMany, 2, some .boolean, false, 6, tX6_isOneTooMany)
def tX6_readIn : azT := [(0, .aload_n 0, 1), (1, .invokevirtual 46, 3), (4, .invokestatic 102, 3), (7, .ifCond .ne 12, 3), (10, .aload_n 0, 1), (11, .aload_n 0, 1), (12, .getfield 19, 3), (15, .invokevirtual 50, 3), (18, .ireturn, 1), (19, .aload_n 0, 1), (20, .invokevirtual 46, 3), (23, .bipush 120, 2), (25, .isub, 1), (26, .istore_n 2, 1), (27, .aload_n 0, 1), (28, .dup, 1), (29, .getfield 19, 3), (32, .iconst 1, 1), (33, .iadd, 1), (34, .putfield 19, 3), (37, .aload_n 0, 1), (38, .dup, 1), (39, .getfield 22, 3), (42, .iconst 1, 1), (43, .iload_n 2, 1), (44, .ishl, 1), (45, .ior, 1), (46, .putfield 22, 3), (49, .aload_n 0, 1), (50, .getfield 28, 3), (53, .iload_n 1, 1), (54, .iload_n 2, 1), (55, .invokevirtual 105, 3), (58, .iconst 1, 1), (59, .ireturn, 1)]
def mX6_readIn : azM := (yX6_readIn, cX6_readIn, 3, some .boolean, false, 6, tX6_readIn)
def tX6_readOut : azT := [(0, .aload_n 0, 1), (1, .getfield 28, 3), (4, .getfield 109, 3), (7, .istore_n 2, 1), (8, .aload_n 0, 1), (9, .iconst 0, 1), (10, .invokevirtual 110, 3), (13, .ifCond .ne 5, 3), (16, .iconst 0, 1), (17, .ireturn, 1), (18, .aload_n 0, 1), (19, .getfield 28, 3), (22, .iload_n 1, 1), (23, .iload_n 2, 1), (24, .invokevirtual 113, 3), (27, .iconst 1, 1), (28, .ireturn, 1)]
def mX6_readOut : azM := (yX6_readOut, cX6_readOut, 3, some .boolean, false, 6, tX6_readOut)
def tX6_readIf : azT := [(0, .aload_n 0, 1), (1, .getfield 28, 3), (4, .getfield 109, 3), (7, .istore_n 1, 1), (8, .iconst 1, 1), (9, .istore_n 2, 1), (10, .iload_n 2, 1), (11, .bipush 80, 2), (13, .if_icmp .ge 63, 3), (16, .aload_n 0, 1), (17, .invokevirtual 116, 3), (20, .ifCond .ne 5, 3), (23, .iconst 0, 1), (24, .ireturn, 1), (25, .iload_n 2, 1), (26, .iconst 1, 1), (27, .if_icmp .le 13, 3), (30, .aload_n 0, 1), (31, .getfield 28, 3), (34, .sipush 238, 3), (37, .invokevirtual 119, 3), (40, .aload_n 0, 1), (41, .invokevirtual 46, 3), (44, .bipush 38, 2), (46, .if_icmp .eq 14, 3), (49, .aload_n 0, 1), (50, .getfield 28, 3), (53, .iload_n 1, 1), (54, .iload_n 2, 1), (55, .invokevirtual 122, 3), (58, .iconst 1, 1), (59, .ireturn, 1), (60, .aload_n 0, 1), (61, .dup, 1), (62, .getfield 19, 3), (65, .iconst 1, 1), (66, .iadd, 1), (67, .putfield 19, 3), (70, .iinc 2 1, 3), (73, .goto (-63), 3), (76, .aload_n 0, 1), (77, .aload_n 0, 1), (78, .getfield 19, 3), (81, .invokevirtual 50, 3), (84, .ireturn, 1)]
def mX6_readIf : azM := (yX6_readIf, cX6_readIf, 3, some .boolean, false, 6, tX6_readIf)
def tX6_readComparison : azT := [(0, .aload_n 0, 1), (1, .iconst 0, 1), (2, .invokevirtual 110, 3), (5, .ifCond .ne 5, 3), (8, .iconst 0, 1), (9, .ireturn, 1), (10, .aload_n 0, 1), (11, .invokevirtual 46, 3), (14, .istore_n 1, 1), (15, .iload_n 1, 1), (16, .bipush 60, 2), (18, .if_icmp .eq 24, 3), (21, .iload_n 1, 1), (22, .bipush 61, 2), (24, .if_icmp .eq 18, 3), (27, .iload_n 1, 1), (28, .bipush 62, 2), (30, .if_icmp .eq 12, 3), (33, .aload_n 0, 1), (34, .aload_n 0, 1), (35, .getfield 19, 3), (38, .invokevirtual 50, 3), (41, .ireturn, 1), (42, .aload_n 0, 1), (43, .dup, 1), (44, .getfield 19, 3), (47, .iconst 1, 1), (48, .iadd, 1), (49, .putfield 19, 3), (52, .aload_n 0, 1), (53, .iconst 0, 1), (54, .invokevirtual 110, 3), (57, .ifCond .ne 5, 3), (60, .iconst 0, 1), (61, .ireturn, 1), (62, .aload_n 0, 1), (63, .getfield 28, 3), (66, .sipush 200, 3), (69, .iload_n 1, 1), (70, .iadd, 1), (71, .invokevirtual 119, 3), (74, .iconst 1, 1), (75, .ireturn, 1)]
def mX6_readComparison : azM := (yX6_readComparison, cX6_readComparison, 2, some .boolean, false, 6, tX6_readComparison)
def tX6_readSum : azT := [(0, .iconst 0, 1), (1, .istore_n 2, 1), (2, .iconst 0, 1), (3, .istore_n 3, 1), (4, .iconst 0, 1), (5, .istore 4, 2), (7, .iload 4, 2), (9, .bipush 80, 2), (11, .if_icmp .ge 101, 3), (14, .aload_n 0, 1), (15, .iload_n 1, 1), (16, .invokevirtual 125, 3), (19, .ifCond .ne 5, 3), (22, .iconst 0, 1), (23, .ireturn, 1), (24, .iload_n 3, 1), (25, .ifCond .eq 13, 3), (28, .aload_n 0, 1), (29, .getfield 28, 3), (32, .sipush 242, 3), (35, .invokevirtual 119, 3), (38, .aload_n 0, 1), (39, .invokevirtual 46, 3), (42, .istore 5, 2), (44, .iload 5, 2), (46, .bipush 42, 2), (48, .if_icmp .ne 7, 3), (51, .iconst 1, 1), (52, .goto 4, 3), (55, .iconst 0, 1), (56, .istore_n 3, 1), (57, .iload_n 3, 1), (58, .ifCond .ne 38, 3), (61, .iload_n 2, 1), (62, .ifCond .eq 15, 3), (65, .aload_n 0, 1), (66, .getfield 28, 3), (69, .sipush 200, 3), (72, .iload_n 2, 1), (73, .iadd, 1), (74, .invokevirtual 119, 3), (77, .iload 5, 2), (79, .bipush 43, 2), (81, .if_icmp .eq 12, 3), (84, .iload 5, 2), (86, .bipush 45, 2), (88, .if_icmp .eq 5, 3), (91, .iconst 1, 1), (92, .ireturn, 1), (93, .iload 5, 2), (95, .istore_n 2, 1), (96, .aload_n 0, 1), (97, .dup, 1), (98, .getfield 19, 3), (101, .iconst 1, 1), (102, .iadd, 1), (103, .putfield 19, 3), (106, .iinc 4 1, 3), (109, .goto (-102), 3), (112, .aload_n 0, 1), (113, .aload_n 0, 1), (114, .getfield 19, 3), (117, .invokevirtual 50, 3), (120, .ireturn, 1)]
def mX6_readSum : azM := (yX6_readSum, cX6_readSum, 6, some .boolean, false, 6, tX6_readSum)
def tX6_readFactor : azT := [(0, .aload_n 0, 1), (1, .invokevirtual 46, 3), (4, .istore_n 2, 1), (5, .iload_n 2, 1), (6, .invokestatic 67, 3), (9, .ifCond .eq 61, 3), (12, .iload_n 2, 1), (13, .bipush 48, 2), (15, .isub, 1), (16, .istore_n 3, 1), (17, .aload_n 0, 1), (18, .dup, 1), (19, .getfield 19, 3), (22, .iconst 1, 1), (23, .iadd, 1), (24, .putfield 19, 3), (27, .aload_n 0, 1), (28, .invokevirtual 46, 3), (31, .invokestatic 67, 3), (34, .ifCond .eq 26, 3), (37, .iload_n 3, 1), (38, .bipush 10, 2), (40, .imul, 1), (41, .aload_n 0, 1), (42, .invokevirtual 46, 3), (45, .iadd, 1), (46, .bipush 48, 2), (48, .isub, 1), (49, .istore_n 3, 1), (50, .aload_n 0, 1), (51, .dup, 1), (52, .getfield 19, 3), (55, .iconst 1, 1), (56, .iadd, 1), (57, .putfield 19, 3), (60, .aload_n 0, 1), (61, .getfield 28, 3), (64, .iload_n 3, 1), (65, .invokevirtual 119, 3), (68, .iconst 1, 1), (69, .ireturn, 1), (70, .iload_n 2, 1), (71, .invokestatic 102, 3), (74, .ifCond .eq 44, 3), (77, .aload_n 0, 1), (78, .getfield 22, 3), (81, .iload_n 2, 1), (82, .bipush 120, 2), (84, .isub, 1), (85, .ishr, 1), (86, .iconst 1, 1), (87, .iand, 1), (88, .iconst 1, 1), (89, .if_icmp .ne 29, 3), (92, .aload_n 0, 1), (93, .dup, 1), (94, .getfield 19, 3), (97, .iconst 1, 1), (98, .iadd, 1), (99, .putfield 19, 3), (102, .aload_n 0, 1), (103, .getfield 28, 3), (106, .bipush 100, 2), (108, .iload_n 2, 1), (109, .iadd, 1), (110, .bipush 120, 2), (112, .isub, 1), (113, .invokevirtual 119, 3), (116, .iconst 1, 1), (117, .ireturn, 1), (118, .iload_n 2, 1), (119, .bipush 40, 2), (121, .if_icmp .ne 8, 3), (124, .iload_n 1, 1), (125, .iconst 5, 1), (126, .if_icmp .lt 12, 3), (129, .aload_n 0, 1), (130, .aload_n 0, 1), (131, .getfield 19, 3), (134, .invokevirtual 50, 3), (137, .ireturn, 1), (138, .aload_n 0, 1), (139, .dup, 1), (140, .getfield 19, 3), (143, .iconst 1, 1), (144, .iadd, 1), (145, .putfield 19, 3), (148, .aload_n 0, 1), (149, .iload_n 1, 1), (150, .iconst 1, 1), (151, .iadd, 1), (152, .invokevirtual 110, 3), (155, .ifCond .ne 5, 3), (158, .iconst 0, 1), (159, .ireturn, 1), (160, .aload_n 0, 1), (161, .invokevirtual 46, 3), (164, .bipush 41, 2), (166, .if_icmp .eq 12, 3), (169, .aload_n 0, 1), (170, .aload_n 0, 1), (171, .getfield 19, 3), (174, .invokevirtual 50, 3), (177, .ireturn, 1), (178, .aload_n 0, 1), (179, .dup, 1), (180, .getfield 19, 3), (183, .iconst 1, 1), (184, .iadd, 1), (185, .putfield 19, 3), (188, .iconst 1, 1), (189, .ireturn, 1)]
def mX6_readFactor : azM := (yX6_readFactor, cX6_readFactor, 4, some .boolean, false, 6, tX6_readFactor)
def tX7_init : azT := [(0, .aload_n 0, 1), (1, .invokespecial 3, 3), (4, .aload_n 0, 1), (5, .bipush 60, 2), (7, .anewarray 9, 3), (10, .putfield 11, 3), (13, .iconst 0, 1), (14, .istore_n 1, 1), (15, .iload_n 1, 1), (16, .bipush 60, 2), (18, .if_icmp .ge 22, 3), (21, .aload_n 0, 1), (22, .getfield 11, 3), (25, .iload_n 1, 1), (26, .new 9, 3), (29, .dup, 1), (30, .invokespecial 17, 3), (33, .aastore, 1), (34, .iinc 1 1, 3), (37, .goto (-22), 3), (40, .aload_n 0, 1), (41, .new 9, 3), (44, .dup, 1), (45, .invokespecial 17, 3), (48, .putfield 18, 3), (51, .aload_n 0, 1), (52, .bipush 60, 2), (54, .newarray .int, 2), (56, .putfield 22, 3), (59, .aload_n 0, 1), (60, .bipush 60, 2), (62, .newarray .int, 2), (64, .putfield 26, 3), (67, .aload_n 0, 1), (68, .bipush 60, 2), (70, .newarray .int, 2), (72, .putfield 29, 3), (75, .aload_n 0, 1), (76, .sipush 600, 3), (79, .newarray .int, 2), (81, .putfield 32, 3), (84, .aload_n 0, 1), (85, .bipush 60, 2), (87, .newarray .boolean, 2), (89, .putfield 35, 3), (92, .return_, 1)]
def mX7_init : azM := (yX7_init, cX7_init, 2, none, true, 7, tX7_init)
def tX7_search : azT := [(0, .aload_n 0, 1), (1, .getfield 11, 3), (4, .iconst 0, 1), (5, .aaload, 1), (6, .aload_n 1, 1), (7, .invokevirtual 39, 3), (10, .aload_n 0, 1), (11, .getfield 22, 3), (14, .iconst 0, 1), (15, .iconst (-1), 1), (16, .iastore, 1), (17, .aload_n 0, 1), (18, .getfield 26, 3), (21, .iconst 0, 1), (22, .iconst (-1), 1), (23, .iastore, 1), (24, .aload_n 0, 1), (25, .iconst 1, 1), (26, .putfield 43, 3), (29, .iconst 0, 1), (30, .istore 4, 2), (32, .iload 4, 2), (34, .aload_n 0, 1), (35, .getfield 43, 3), (38, .if_icmp .ge 118, 3), (41, .iload 4, 2), (43, .bipush 60, 2), (45, .if_icmp .ge 111, 3), (48, .aload_n 0, 1), (49, .getfield 29, 3), (52, .iload 4, 2), (54, .iconst 0, 1), (55, .iastore, 1), (56, .iconst 0, 1), (57, .istore 5, 2), (59, .iload 5, 2), (61, .bipush 10, 2), (63, .if_icmp .ge 87, 3), (66, .iload 5, 2), (68, .aload_n 2, 1), (69, .arraylength, 1), (70, .if_icmp .ge 80, 3), (73, .aload_n 0, 1), (74, .getfield 32, 3), (77, .iload 4, 2), (79, .bipush 10, 2), (81, .imul, 1), (82, .iload 5, 2), (84, .iadd, 1), (85, .iconst (-1), 1), (86, .iastore, 1), (87, .aload_n 3, 1), (88, .aload_n 2, 1), (89, .iload 5, 2), (91, .aaload, 1), (92, .aload_n 0, 1), (93, .getfield 11, 3), (96, .iload 4, 2), (98, .aaload, 1), (99, .aload_n 0, 1), (100, .getfield 18, 3), (103, .invokevirtual 47, 3), (106, .ifCond .eq 38, 3), (109, .aload_n 0, 1), (110, .getfield 29, 3), (113, .iload 4, 2), (115, .dup2, 1), (116, .iaload, 1), (117, .iconst 1, 1), (118, .iload 5, 2), (120, .ishl, 1), (121, .ior, 1), (122, .iastore, 1), (123, .aload_n 0, 1), (124, .getfield 32, 3), (127, .iload 4, 2), (129, .bipush 10, 2), (131, .imul, 1), (132, .iload 5, 2), (134, .iadd, 1), (135, .aload_n 0, 1), (136, .iload 4, 2), (138, .iload 5, 2), (140, .invokevirtual 53, 3), (143, .iastore, 1), (144, .iinc 5 1, 3), (147, .goto (-88), 3), (150, .iinc 4 1, 3), (153, .goto (-121), 3), (156, .return_, 1)]
def mX7_search : azM := (yX7_search, cX7_search, 6, none, false, 7, tX7_search)
def tX7_numberOfNext : azT := [(0, .iconst 0, 1), (1, .istore_n 3, 1), (2, .iload_n 3, 1), (3, .aload_n 0, 1), (4, .getfield 43, 3), (7, .if_icmp .ge 33, 3), (10, .iload_n 3, 1), (11, .bipush 60, 2), (13, .if_icmp .ge 27, 3), (16, .aload_n 0, 1), (17, .getfield 11, 3), (20, .iload_n 3, 1), (21, .aaload, 1), (22, .aload_n 0, 1), (23, .getfield 18, 3), (26, .invokevirtual 57, 3), (29, .ifCond .eq 5, 3), (32, .iload_n 3, 1), (33, .ireturn, 1), (34, .iinc 3 1, 3), (37, .goto (-35), 3), (40, .aload_n 0, 1), (41, .getfield 43, 3), (44, .bipush 60, 2), (46, .if_icmp .lt 5, 3), (49, .iconst (-1), 1), (50, .ireturn, 1), (51, .aload_n 0, 1), (52, .getfield 11, 3), (55, .aload_n 0, 1), (56, .getfield 43, 3), (59, .aaload, 1), (60, .aload_n 0, 1), (61, .getfield 18, 3), (64, .invokevirtual 39, 3), (67, .aload_n 0, 1), (68, .getfield 22, 3), (71, .aload_n 0, 1), (72, .getfield 43, 3), (75, .iload_n 1, 1), (76, .iastore, 1), (77, .aload_n 0, 1), (78, .getfield 26, 3), (81, .aload_n 0, 1), (82, .getfield 43, 3), (85, .iload_n 2, 1), (86, .iastore, 1), (87, .aload_n 0, 1), (88, .dup, 1), (89, .getfield 43, 3), (92, .iconst 1, 1), (93, .iadd, 1), (94, .putfield 43, 3), (97, .aload_n 0, 1), (98, .getfield 43, 3), (101, .iconst 1, 1), (102, .isub, 1), (103, .ireturn, 1)]
def mX7_numberOfNext : azM := (yX7_numberOfNext, cX7_numberOfNext, 4, some .int, false, 7, tX7_numberOfNext)
def tX7_among : azT := [(0, .iload_n 1, 1), (1, .aload_n 0, 1), (2, .getfield 43, 3), (5, .bipush 60, 2), (7, .invokestatic 61, 3), (10, .invokestatic 61, 3), (13, .ireturn, 1)]
def mX7_among : azM := (yX7_among, cX7_among, 2, some .int, false, 7, tX7_among)
def tX7_countIn : azT := [(0, .iload_n 1, 1), (1, .ifCond .lt 30, 3), (4, .iload_n 1, 1), (5, .aload_n 0, 1), (6, .getfield 43, 3), (9, .if_icmp .ge 22, 3), (12, .iload_n 1, 1), (13, .bipush 60, 2), (15, .if_icmp .ge 16, 3), (18, .aload_n 0, 1), (19, .getfield 11, 3), (22, .iload_n 1, 1), (23, .aaload, 1), (24, .iload_n 2, 1), (25, .invokevirtual 66, 3), (28, .goto 4, 3), (31, .iconst 0, 1), (32, .ireturn, 1)]
def mX7_countIn : azM := (yX7_countIn, cX7_countIn, 3, some .int, false, 7, tX7_countIn)
def tX7_fullest : azT := [(0, .iconst 0, 1), (1, .istore_n 3, 1), (2, .iconst 0, 1), (3, .istore 4, 2), (5, .iload 4, 2), (7, .aload_n 0, 1), (8, .iload_n 2, 1), (9, .invokevirtual 69, 3), (12, .if_icmp .ge 21, 3), (15, .iload_n 3, 1), (16, .aload_n 0, 1), (17, .iload 4, 2), (19, .iload_n 1, 1), (20, .invokevirtual 72, 3), (23, .invokestatic 75, 3), (26, .istore_n 3, 1), (27, .iinc 4 1, 3), (30, .goto (-25), 3), (33, .iload_n 3, 1), (34, .ireturn, 1)]
def mX7_fullest : azM := (yX7_fullest, cX7_fullest, 5, some .int, false, 7, tX7_fullest)
def tX7_ableSomewhere : azT := [(0, .iconst 0, 1), (1, .istore_n 2, 1), (2, .iconst 0, 1), (3, .istore_n 3, 1), (4, .iload_n 3, 1), (5, .aload_n 0, 1), (6, .iload_n 1, 1), (7, .invokevirtual 69, 3), (10, .if_icmp .ge 18, 3), (13, .iload_n 2, 1), (14, .aload_n 0, 1), (15, .getfield 29, 3), (18, .iload_n 3, 1), (19, .iaload, 1), (20, .ior, 1), (21, .istore_n 2, 1), (22, .iinc 3 1, 3), (25, .goto (-21), 3), (28, .iload_n 2, 1), (29, .ireturn, 1)]
def mX7_ableSomewhere : azM := (yX7_ableSomewhere, cX7_ableSomewhere, 4, some .int, false, 7, tX7_ableSomewhere)
def tX7_countEnds : azT := [(0, .iconst 0, 1), (1, .istore_n 2, 1), (2, .iconst 0, 1), (3, .istore_n 3, 1), (4, .iload_n 3, 1), (5, .aload_n 0, 1), (6, .iload_n 1, 1), (7, .invokevirtual 69, 3), (10, .if_icmp .ge 22, 3), (13, .aload_n 0, 1), (14, .iload_n 3, 1), (15, .bipush 9, 2), (17, .invokevirtual 72, 3), (20, .ifCond .le 6, 3), (23, .iinc 2 1, 3), (26, .iinc 3 1, 3), (29, .goto (-25), 3), (32, .iload_n 2, 1), (33, .ireturn, 1)]
def mX7_countEnds : azM := (yX7_countEnds, cX7_countEnds, 4, some .int, false, 7, tX7_countEnds)
def tX7_firstStuck : azT := [(0, .aload_n 0, 1), (1, .iload_n 1, 1), (2, .invokevirtual 69, 3), (5, .istore_n 2, 1), (6, .iconst 0, 1), (7, .istore_n 3, 1), (8, .iload_n 3, 1), (9, .iload_n 2, 1), (10, .if_icmp .ge 30, 3), (13, .aload_n 0, 1), (14, .getfield 35, 3), (17, .iload_n 3, 1), (18, .aload_n 0, 1), (19, .iload_n 3, 1), (20, .bipush 9, 2), (22, .invokevirtual 72, 3), (25, .ifCond .le 7, 3), (28, .iconst 1, 1), (29, .goto 4, 3), (32, .iconst 0, 1), (33, .bastore, 1), (34, .iinc 3 1, 3), (37, .goto (-29), 3), (40, .iconst 0, 1), (41, .istore_n 3, 1), (42, .iload_n 3, 1), (43, .iload_n 2, 1), (44, .if_icmp .ge 20, 3), (47, .aload_n 0, 1), (48, .iload_n 2, 1), (49, .invokevirtual 78, 3), (52, .ifCond .ne 6, 3), (55, .goto 9, 3), (58, .iinc 3 1, 3), (61, .goto (-19), 3), (64, .iconst 0, 1), (65, .istore_n 3, 1), (66, .iload_n 3, 1), (67, .iload_n 2, 1), (68, .if_icmp .ge 20, 3), (71, .aload_n 0, 1), (72, .getfield 35, 3), (75, .iload_n 3, 1), (76, .baload, 1), (77, .ifCond .ne 5, 3), (80, .iload_n 3, 1), (81, .ireturn, 1), (82, .iinc 3 1, 3), (85, .goto (-19), 3), (88, .bipush (-5), 2), (90, .ireturn, 1)]
def mX7_firstStuck : azM := (yX7_firstStuck, cX7_firstStuck, 4, some .int, false, 7, tX7_firstStuck)
def tX7_spreadEnding : azT := [(0, .iconst 0, 1), (1, .istore_n 2, 1), (2, .iconst 0, 1), (3, .istore_n 3, 1), (4, .iload_n 3, 1), (5, .iload_n 1, 1), (6, .if_icmp .ge 36, 3), (9, .aload_n 0, 1), (10, .getfield 35, 3), (13, .iload_n 3, 1), (14, .baload, 1), (15, .ifCond .ne 21, 3), (18, .aload_n 0, 1), (19, .iload_n 3, 1), (20, .iload_n 1, 1), (21, .invokevirtual 82, 3), (24, .ifCond .eq 12, 3), (27, .aload_n 0, 1), (28, .getfield 35, 3), (31, .iload_n 3, 1), (32, .iconst 1, 1), (33, .bastore, 1), (34, .iconst 1, 1), (35, .istore_n 2, 1), (36, .iinc 3 1, 3), (39, .goto (-35), 3), (42, .iload_n 2, 1), (43, .ireturn, 1)]
def mX7_spreadEnding : azM := (yX7_spreadEnding, cX7_spreadEnding, 4, some .boolean, false, 7, tX7_spreadEnding)
def tX7_leadsToEnding : azT := [(0, .iconst 0, 1), (1, .istore_n 3, 1), (2, .iload_n 3, 1), (3, .bipush 10, 2), (5, .if_icmp .ge 45, 3), (8, .aload_n 0, 1), (9, .getfield 32, 3), (12, .iload_n 1, 1), (13, .bipush 10, 2), (15, .imul, 1), (16, .iload_n 3, 1), (17, .iadd, 1), (18, .iaload, 1), (19, .istore 4, 2), (21, .iload 4, 2), (23, .ifCond .lt 21, 3), (26, .iload 4, 2), (28, .iload_n 2, 1), (29, .if_icmp .ge 15, 3), (32, .aload_n 0, 1), (33, .getfield 35, 3), (36, .iload 4, 2), (38, .baload, 1), (39, .ifCond .eq 5, 3), (42, .iconst 1, 1), (43, .ireturn, 1), (44, .iinc 3 1, 3), (47, .goto (-45), 3), (50, .iconst 0, 1), (51, .ireturn, 1)]
def mX7_leadsToEnding : azM := (yX7_leadsToEnding, cX7_leadsToEnding, 5, some .boolean, false, 7, tX7_leadsToEnding)
def tX7_steps : azT := [(0, .iconst 0, 1), (1, .istore_n 2, 1), (2, .iload_n 1, 1), (3, .istore_n 3, 1), (4, .iconst 0, 1), (5, .istore 4, 2), (7, .iload 4, 2), (9, .bipush 60, 2), (11, .if_icmp .ge 29, 3), (14, .iload_n 3, 1), (15, .ifCond .le 25, 3), (18, .iload_n 3, 1), (19, .bipush 60, 2), (21, .if_icmp .ge 19, 3), (24, .aload_n 0, 1), (25, .getfield 22, 3), (28, .iload_n 3, 1), (29, .iaload, 1), (30, .istore_n 3, 1), (31, .iinc 2 1, 3), (34, .iinc 4 1, 3), (37, .goto (-30), 3), (40, .iload_n 2, 1), (41, .ireturn, 1)]
def mX7_steps : azM := (yX7_steps, cX7_steps, 5, some .int, false, 7, tX7_steps)
def tX7_step : azT := [(0, .iload_n 1, 1), (1, .istore_n 3, 1), (2, .iconst 0, 1), (3, .istore 4, 2), (5, .iload 4, 2), (7, .iload_n 2, 1), (8, .if_icmp .ge 26, 3), (11, .iload_n 3, 1), (12, .ifCond .le 22, 3), (15, .iload_n 3, 1), (16, .bipush 60, 2), (18, .if_icmp .ge 16, 3), (21, .aload_n 0, 1), (22, .getfield 22, 3), (25, .iload_n 3, 1), (26, .iaload, 1), (27, .istore_n 3, 1), (28, .iinc 4 1, 3), (31, .goto (-26), 3), (34, .iload_n 3, 1), (35, .ifCond .le 18, 3), (38, .iload_n 3, 1), (39, .bipush 60, 2), (41, .if_icmp .ge 12, 3), (44, .aload_n 0, 1), (45, .getfield 26, 3), (48, .iload_n 3, 1), (49, .iaload, 1), (50, .goto 4, 3), (53, .iconst (-1), 1), (54, .ireturn, 1)]
def mX7_step : azM := (yX7_step, cX7_step, 5, some .int, false, 7, tX7_step)
def tX8_init : azT := [(0, .aload_n 0, 1), (1, .invokespecial 5, 3), (4, .aload_n 0, 1), (5, .new 11, 3), (8, .dup, 1), (9, .invokespecial 13, 3), (12, .putfield 14, 3), (15, .aload_n 0, 1), (16, .new 11, 3), (19, .dup, 1), (20, .invokespecial 13, 3), (23, .putfield 18, 3), (26, .aload_n 0, 1), (27, .new 11, 3), (30, .dup, 1), (31, .invokespecial 13, 3), (34, .putfield 21, 3), (37, .aload_n 0, 1), (38, .bipush 10, 2), (40, .anewarray 24, 3), (43, .putfield 26, 3), (46, .aload_n 0, 1), (47, .new 30, 3), (50, .dup, 1), (51, .invokespecial 32, 3), (54, .putfield 33, 3), (57, .aload_n 0, 1), (58, .new 37, 3), (61, .dup, 1), (62, .invokespecial 39, 3), (65, .putfield 40, 3), (68, .aload_n 0, 1), (69, .new 44, 3), (72, .dup, 1), (73, .invokespecial 46, 3), (76, .putfield 47, 3), (79, .aload_n 0, 1), (80, .new 51, 3), (83, .dup, 1), (84, .invokespecial 53, 3), (87, .putfield 54, 3), (90, .aload_n 0, 1), (91, .new 58, 3), (94, .dup, 1), (95, .invokespecial 60, 3), (98, .putfield 61, 3), (101, .aload_n 0, 1), (102, .new 65, 3), (105, .dup, 1), (106, .invokespecial 67, 3), (109, .putfield 68, 3), (112, .return_, 1)]
def mX8_init : azM := (yX8_init, cX8_init, 1, none, true, 8, tX8_init)
def tX8_put : azT := [(0, .iload_n 1, 1), (1, .invokestatic 72, 3), (4, .ifCond .ne 5, 3), (7, .iconst (-1), 1), (8, .ireturn, 1), (9, .iload_n 2, 1), (10, .ifCond .lt 9, 3), (13, .iload_n 2, 1), (14, .bipush 100, 2), (16, .if_icmp .lt 6, 3), (19, .bipush (-2), 2), (21, .ireturn, 1), (22, .aload_n 0, 1), (23, .getfield 14, 3), (26, .iload_n 1, 1), (27, .iload_n 2, 1), (28, .invokevirtual 76, 3), (31, .ifCond .ne 6, 3), (34, .bipush (-4), 2), (36, .ireturn, 1), (37, .aload_n 0, 1), (38, .iconst 0, 1), (39, .putfield 80, 3), (42, .aload_n 0, 1), (43, .getfield 14, 3), (46, .iload_n 1, 1), (47, .invokevirtual 84, 3), (50, .ireturn, 1)]
def mX8_put : azM := (yX8_put, cX8_put, 3, some .int, false, 8, tX8_put)
def tX8_take : azT := [(0, .aload_n 0, 1), (1, .getfield 14, 3), (4, .iload_n 1, 1), (5, .iload_n 2, 1), (6, .invokevirtual 88, 3), (9, .ifCond .ne 5, 3), (12, .iconst (-1), 1), (13, .ireturn, 1), (14, .aload_n 0, 1), (15, .iconst 0, 1), (16, .putfield 80, 3), (19, .aload_n 0, 1), (20, .getfield 14, 3), (23, .iload_n 1, 1), (24, .iload_n 2, 1), (25, .invokevirtual 91, 3), (28, .ireturn, 1)]
def mX8_take : azM := (yX8_take, cX8_take, 3, some .int, false, 8, tX8_take)
def tX8_token : azT := [(0, .iload_n 1, 1), (1, .invokestatic 72, 3), (4, .ifCond .ne 5, 3), (7, .iconst (-1), 1), (8, .ireturn, 1), (9, .iload_n 2, 1), (10, .iconst (-1), 1), (11, .if_icmp .ne 14, 3), (14, .aload_n 0, 1), (15, .getfield 14, 3), (18, .iload_n 1, 1), (19, .invokevirtual 84, 3), (22, .goto 12, 3), (25, .aload_n 0, 1), (26, .getfield 14, 3), (29, .iload_n 1, 1), (30, .iload_n 2, 1), (31, .invokevirtual 95, 3), (34, .ireturn, 1)]
def mX8_token : azM := (yX8_token, cX8_token, 3, some .int, false, 8, tX8_token)
def tX8_feed : azT := [(0, .iload_n 1, 1), (1, .iconst 1, 1), (2, .if_icmp .lt 9, 3), (5, .iload_n 1, 1), (6, .bipush 127, 2), (8, .if_icmp .le 6, 3), (11, .bipush (-2), 2), (13, .ireturn, 1), (14, .aload_n 0, 1), (15, .getfield 33, 3), (18, .iload_n 1, 1), (19, .invokevirtual 98, 3), (22, .ifCond .eq 13, 3), (25, .aload_n 0, 1), (26, .getfield 33, 3), (29, .getfield 100, 3), (32, .goto 5, 3), (35, .bipush (-4), 2), (37, .ireturn, 1)]
def mX8_feed : azM := (yX8_feed, cX8_feed, 2, some .int, false, 8, tX8_feed)
def tX8_clear : azT := [(0, .aload_n 0, 1), (1, .getfield 33, 3), (4, .getfield 100, 3), (7, .istore_n 1, 1), (8, .aload_n 0, 1), (9, .getfield 33, 3), (12, .invokevirtual 104, 3), (15, .iload_n 1, 1), (16, .ireturn, 1)]
def mX8_clear : azM := (yX8_clear, cX8_clear, 2, some .int, false, 8, tX8_clear)
def tX8_rule : azT := [(0, .iload_n 1, 1), (1, .invokestatic 107, 3), (4, .ifCond .ne 5, 3), (7, .iconst (-1), 1), (8, .ireturn, 1), (9, .aload_n 0, 1), (10, .getfield 33, 3), (13, .invokevirtual 110, 3), (16, .astore_n 2, 1), (17, .aload_n 0, 1), (18, .getfield 33, 3), (21, .invokevirtual 104, 3), (24, .aload_n 2, 1), (25, .ifnonnull 14, 3), (28, .bipush (-100), 2), (30, .aload_n 0, 1), (31, .getfield 33, 3), (34, .getfield 114, 3), (37, .isub, 1), (38, .ireturn, 1), (39, .aload_n 0, 1), (40, .getfield 26, 3), (43, .iload_n 1, 1), (44, .aload_n 2, 1), (45, .aastore, 1), (46, .aload_n 0, 1), (47, .iconst 0, 1), (48, .putfield 80, 3), (51, .aload_n 2, 1), (52, .getfield 117, 3), (55, .ireturn, 1)]
def mX8_rule : azM := (yX8_rule, cX8_rule, 3, some .int, false, 8, tX8_rule)
def tX8_drop : azT := [(0, .iload_n 1, 1), (1, .invokestatic 107, 3), (4, .ifCond .ne 5, 3), (7, .iconst (-1), 1), (8, .ireturn, 1), (9, .aload_n 0, 1), (10, .getfield 26, 3), (13, .iload_n 1, 1), (14, .aaload, 1), (15, .ifnonnull 6, 3), (18, .bipush (-3), 2), (20, .ireturn, 1), (21, .aload_n 0, 1), (22, .getfield 26, 3), (25, .iload_n 1, 1), (26, .aconst_null, 1), (27, .aastore, 1), (28, .aload_n 0, 1), (29, .iconst 0, 1), (30, .putfield 80, 3), (33, .iconst 1, 1), (34, .ireturn, 1)]
def mX8_drop : azM := (yX8_drop, cX8_drop, 2, some .int, false, 8, tX8_drop)
def tX8_has : azT := [(0, .iload_n 1, 1), (1, .invokestatic 107, 3), (4, .ifCond .eq 12, 3), (7, .iload_n 2, 1), (8, .ifCond .lt 8, 3), (11, .iload_n 2, 1), (12, .iconst 3, 1), (13, .if_icmp .le 5, 3), (16, .iconst (-1), 1), (17, .ireturn, 1), (18, .aload_n 0, 1), (19, .getfield 26, 3), (22, .iload_n 1, 1), (23, .aaload, 1), (24, .astore_n 3, 1), (25, .aload_n 3, 1), (26, .ifnonnull 6, 3), (29, .bipush (-3), 2), (31, .ireturn, 1), (32, .iload_n 2, 1), (33, .tableswitch 42 0 2 #[27, 32, 37], 27), (60, .aload_n 3, 1), (61, .getfield 120, 3), (64, .ireturn, 1), (65, .aload_n 3, 1), (66, .getfield 123, 3), (69, .ireturn, 1), (70, .aload_n 3, 1), (71, .getfield 126, 3), (74, .ireturn, 1), (75, .aload_n 3, 1), (76, .getfield 129, 3), (79, .invokestatic 132, 3), (82, .ireturn, 1)]
def mX8_has : azM := (yX8_has, cX8_has, 4, some .int, false, 8, tX8_has)
def tX8_spell : azT := [(0, .iload_n 1, 1), (1, .invokestatic 107, 3), (4, .ifCond .ne 5, 3), (7, .iconst (-1), 1), (8, .ireturn, 1), (9, .aload_n 0, 1), (10, .getfield 26, 3), (13, .iload_n 1, 1), (14, .aaload, 1), (15, .ifnonnull 6, 3), (18, .bipush (-3), 2), (20, .ireturn, 1), (21, .aload_n 0, 1), (22, .getfield 40, 3), (25, .aload_n 0, 1), (26, .getfield 26, 3), (29, .iload_n 1, 1), (30, .aaload, 1), (31, .invokevirtual 137, 3), (34, .aload_n 0, 1), (35, .getfield 40, 3), (38, .getfield 141, 3), (41, .ireturn, 1)]
def mX8_spell : azM := (yX8_spell, cX8_spell, 2, some .int, false, 8, tX8_spell)
def tX8_line : azT := [(0, .aload_n 0, 1), (1, .getfield 40, 3), (4, .aload_n 0, 1), (5, .getfield 14, 3), (8, .invokevirtual 142, 3), (11, .aload_n 0, 1), (12, .getfield 40, 3), (15, .getfield 141, 3), (18, .ireturn, 1)]
def mX8_line : azM := (yX8_line, cX8_line, 1, some .int, false, 8, tX8_line)
def tX8_paper : azT := [(0, .aload_n 0, 1), (1, .getfield 40, 3), (4, .iload_n 1, 1), (5, .invokevirtual 146, 3), (8, .ireturn, 1)]
def mX8_paper : azM := (yX8_paper, cX8_paper, 2, some .int, false, 8, tX8_paper)
def tX8_can : azT := [(0, .iload_n 1, 1), (1, .invokestatic 107, 3), (4, .ifCond .ne 5, 3), (7, .iconst (-1), 1), (8, .ireturn, 1), (9, .aload_n 0, 1), (10, .getfield 26, 3), (13, .iload_n 1, 1), (14, .aaload, 1), (15, .ifnonnull 6, 3), (18, .bipush (-3), 2), (20, .ireturn, 1), (21, .aload_n 0, 1), (22, .getfield 47, 3), (25, .aload_n 0, 1), (26, .getfield 26, 3), (29, .iload_n 1, 1), (30, .aaload, 1), (31, .aload_n 0, 1), (32, .getfield 14, 3), (35, .aload_n 0, 1), (36, .getfield 18, 3), (39, .invokevirtual 148, 3), (42, .ifCond .eq 7, 3), (45, .iconst 1, 1), (46, .goto 4, 3), (49, .iconst 0, 1), (50, .ireturn, 1)]
def mX8_can : azM := (yX8_can, cX8_can, 2, some .int, false, 8, tX8_can)
def tX8_bound : azT := [(0, .iload_n 1, 1), (1, .invokestatic 107, 3), (4, .ifCond .ne 5, 3), (7, .iconst (-1), 1), (8, .ireturn, 1), (9, .aload_n 0, 1), (10, .getfield 26, 3), (13, .iload_n 1, 1), (14, .aaload, 1), (15, .astore_n 3, 1), (16, .aload_n 3, 1), (17, .ifnonnull 6, 3), (20, .bipush (-3), 2), (22, .ireturn, 1), (23, .iload_n 2, 1), (24, .ifCond .lt 11, 3), (27, .iload_n 2, 1), (28, .aload_n 3, 1), (29, .getfield 120, 3), (32, .if_icmp .lt 5, 3), (35, .iconst (-1), 1), (36, .ireturn, 1), (37, .aload_n 0, 1), (38, .getfield 47, 3), (41, .aload_n 3, 1), (42, .aload_n 0, 1), (43, .getfield 14, 3), (46, .invokevirtual 152, 3), (49, .ifCond .eq 14, 3), (52, .aload_n 0, 1), (53, .getfield 47, 3), (56, .iload_n 2, 1), (57, .invokevirtual 156, 3), (60, .goto 5, 3), (63, .bipush (-5), 2), (65, .ireturn, 1)]
def mX8_bound : azM := (yX8_bound, cX8_bound, 4, some .int, false, 8, tX8_bound)
def tX8_bindings : azT := [(0, .iload_n 1, 1), (1, .invokestatic 107, 3), (4, .ifCond .ne 5, 3), (7, .iconst (-1), 1), (8, .ireturn, 1), (9, .aload_n 0, 1), (10, .getfield 26, 3), (13, .iload_n 1, 1), (14, .aaload, 1), (15, .ifnonnull 6, 3), (18, .bipush (-3), 2), (20, .ireturn, 1), (21, .aload_n 0, 1), (22, .getfield 47, 3), (25, .aload_n 0, 1), (26, .getfield 26, 3), (29, .iload_n 1, 1), (30, .aaload, 1), (31, .aload_n 0, 1), (32, .getfield 14, 3), (35, .invokevirtual 159, 3), (38, .ireturn, 1)]
def mX8_bindings : azM := (yX8_bindings, cX8_bindings, 2, some .int, false, 8, tX8_bindings)
def tX8_go : azT := [(0, .iload_n 1, 1), (1, .invokestatic 107, 3), (4, .ifCond .ne 5, 3), (7, .iconst (-1), 1), (8, .ireturn, 1), (9, .aload_n 0, 1), (10, .getfield 47, 3), (13, .aload_n 0, 1), (14, .getfield 26, 3), (17, .iload_n 1, 1), (18, .aaload, 1), (19, .aload_n 0, 1), (20, .getfield 14, 3), (23, .aload_n 0, 1), (24, .getfield 18, 3), (27, .invokevirtual 148, 3), (30, .ifCond .ne 6, 3), (33, .bipush (-3), 2), (35, .ireturn, 1), (36, .aload_n 0, 1), (37, .getfield 14, 3), (40, .aload_n 0, 1), (41, .getfield 18, 3), (44, .invokevirtual 163, 3), (47, .aload_n 0, 1), (48, .iconst 0, 1), (49, .putfield 80, 3), (52, .aload_n 0, 1), (53, .dup, 1), (54, .getfield 166, 3), (57, .iconst 1, 1), (58, .iadd, 1), (59, .putfield 166, 3), (62, .aload_n 0, 1), (63, .getfield 166, 3), (66, .ireturn, 1)]
def mX8_go : azM := (yX8_go, cX8_go, 2, some .int, false, 8, tX8_go)
def tX8_all : azT := [(0, .iconst 0, 1), (1, .istore_n 1, 1), (2, .iconst 0, 1), (3, .istore_n 2, 1), (4, .iload_n 2, 1), (5, .bipush 10, 2), (7, .if_icmp .ge 39, 3), (10, .aload_n 0, 1), (11, .getfield 47, 3), (14, .aload_n 0, 1), (15, .getfield 26, 3), (18, .iload_n 2, 1), (19, .aaload, 1), (20, .aload_n 0, 1), (21, .getfield 14, 3), (24, .aload_n 0, 1), (25, .getfield 18, 3), (28, .invokevirtual 148, 3), (31, .ifCond .eq 9, 3), (34, .iload_n 1, 1), (35, .iconst 1, 1), (36, .iload_n 2, 1), (37, .ishl, 1), (38, .ior, 1), (39, .istore_n 1, 1), (40, .iinc 2 1, 3), (43, .goto (-39), 3), (46, .iload_n 1, 1), (47, .ireturn, 1)]
def mX8_all : azM := (yX8_all, cX8_all, 3, some .int, false, 8, tX8_all)
def tX8_again : azT := [(0, .iload_n 1, 1), (1, .invokestatic 169, 3), (4, .ifCond .eq 10, 3), (7, .iload_n 2, 1), (8, .invokestatic 172, 3), (11, .ifCond .ne 6, 3), (14, .bipush (-2), 2), (16, .ireturn, 1), (17, .aload_n 0, 1), (18, .iload_n 1, 1), (19, .iload_n 2, 1), (20, .invokevirtual 175, 3), (23, .ireturn, 1)]
def mX8_again : azM := (yX8_again, cX8_again, 3, some .int, false, 8, tX8_again)
def tX8_last : azT := [(0, .iload_n 1, 1), (1, .invokestatic 169, 3), (4, .ifCond .eq 10, 3), (7, .iload_n 2, 1), (8, .invokestatic 172, 3), (11, .ifCond .ne 6, 3), (14, .bipush (-2), 2), (16, .ireturn, 1), (17, .iload_n 3, 1), (18, .invokestatic 72, 3), (21, .ifCond .ne 5, 3), (24, .iconst (-1), 1), (25, .ireturn, 1), (26, .aload_n 0, 1), (27, .iload_n 1, 1), (28, .iload_n 2, 1), (29, .invokevirtual 175, 3), (32, .pop, 1), (33, .aload_n 0, 1), (34, .getfield 21, 3), (37, .iload_n 3, 1), (38, .invokevirtual 84, 3), (41, .istore 4, 2), (43, .iload 4, 2), (45, .ifCond .ne 8, 3), (48, .bipush (-5), 2), (50, .goto 15, 3), (53, .aload_n 0, 1), (54, .getfield 21, 3), (57, .iload_n 3, 1), (58, .iload 4, 2), (60, .iconst 1, 1), (61, .isub, 1), (62, .invokevirtual 95, 3), (65, .ireturn, 1)]
def mX8_last : azM := (yX8_last, cX8_last, 5, some .int, false, 8, tX8_last)
def tX8_reach : azT := [(0, .iload_n 1, 1), (1, .invokestatic 178, 3), (4, .ifCond .eq 14, 3), (7, .aload_n 0, 1), (8, .invokevirtual 181, 3), (11, .iload_n 1, 1), (12, .invokevirtual 185, 3), (15, .goto 5, 3), (18, .bipush (-2), 2), (20, .ireturn, 1)]
def mX8_reach : azM := (yX8_reach, cX8_reach, 2, some .int, false, 8, tX8_reach)
def tX8_most : azT := [(0, .iload_n 1, 1), (1, .invokestatic 72, 3), (4, .ifCond .ne 5, 3), (7, .iconst (-1), 1), (8, .ireturn, 1), (9, .iload_n 2, 1), (10, .invokestatic 178, 3), (13, .ifCond .eq 15, 3), (16, .aload_n 0, 1), (17, .invokevirtual 181, 3), (20, .iload_n 1, 1), (21, .iload_n 2, 1), (22, .invokevirtual 188, 3), (25, .goto 5, 3), (28, .bipush (-2), 2), (30, .ireturn, 1)]
def mX8_most : azM := (yX8_most, cX8_most, 3, some .int, false, 8, tX8_most)
def tX8_dead : azT := [(0, .iload_n 1, 1), (1, .invokestatic 178, 3), (4, .ifCond .eq 21, 3), (7, .aload_n 0, 1), (8, .invokevirtual 191, 3), (11, .aload_n 0, 1), (12, .invokevirtual 181, 3), (15, .iload_n 1, 1), (16, .invokevirtual 195, 3), (19, .iconst (-1), 1), (20, .ixor, 1), (21, .iand, 1), (22, .goto 5, 3), (25, .bipush (-2), 2), (27, .ireturn, 1)]
def mX8_dead : azM := (yX8_dead, cX8_dead, 2, some .int, false, 8, tX8_dead)
def tX8_ends : azT := [(0, .iload_n 1, 1), (1, .invokestatic 178, 3), (4, .ifCond .eq 14, 3), (7, .aload_n 0, 1), (8, .invokevirtual 181, 3), (11, .iload_n 1, 1), (12, .invokevirtual 198, 3), (15, .goto 5, 3), (18, .bipush (-2), 2), (20, .ireturn, 1)]
def mX8_ends : azM := (yX8_ends, cX8_ends, 2, some .int, false, 8, tX8_ends)
def tX8_stuck : azT := [(0, .iload_n 1, 1), (1, .invokestatic 178, 3), (4, .ifCond .eq 14, 3), (7, .aload_n 0, 1), (8, .invokevirtual 181, 3), (11, .iload_n 1, 1), (12, .invokevirtual 201, 3), (15, .goto 5, 3), (18, .bipush (-2), 2), (20, .ireturn, 1)]
def mX8_stuck : azM := (yX8_stuck, cX8_stuck, 2, some .int, false, 8, tX8_stuck)
def tX8_walk : azT := [(0, .iload_n 1, 1), (1, .invokestatic 178, 3), (4, .ifCond .ne 6, 3), (7, .bipush (-2), 2), (9, .ireturn, 1), (10, .iload_n 2, 1), (11, .ifCond .lt 15, 3), (14, .iload_n 2, 1), (15, .aload_n 0, 1), (16, .invokevirtual 181, 3), (19, .iload_n 1, 1), (20, .invokevirtual 185, 3), (23, .if_icmp .lt 5, 3), (26, .iconst (-1), 1), (27, .ireturn, 1), (28, .aload_n 0, 1), (29, .getfield 54, 3), (32, .iload_n 2, 1), (33, .invokevirtual 204, 3), (36, .istore 4, 2), (38, .iload_n 3, 1), (39, .iconst (-1), 1), (40, .if_icmp .ne 6, 3), (43, .iload 4, 2), (45, .ireturn, 1), (46, .iload_n 3, 1), (47, .ifCond .lt 26, 3), (50, .iload_n 3, 1), (51, .iload 4, 2), (53, .if_icmp .ge 20, 3), (56, .aload_n 0, 1), (57, .getfield 54, 3), (60, .iload_n 2, 1), (61, .iload 4, 2), (63, .iconst 1, 1), (64, .isub, 1), (65, .iload_n 3, 1), (66, .isub, 1), (67, .invokevirtual 207, 3), (70, .goto 4, 3), (73, .iconst (-1), 1), (74, .ireturn, 1)]
def mX8_walk : azM := (yX8_walk, cX8_walk, 5, some .int, false, 8, tX8_walk)
def tX8_held : azT := [(0, .iload_n 1, 1), (1, .invokestatic 178, 3), (4, .ifCond .ne 6, 3), (7, .bipush (-2), 2), (9, .ireturn, 1), (10, .iload_n 2, 1), (11, .ifCond .lt 22, 3), (14, .iload_n 2, 1), (15, .aload_n 0, 1), (16, .invokevirtual 181, 3), (19, .iload_n 1, 1), (20, .invokevirtual 185, 3), (23, .if_icmp .ge 10, 3), (26, .iload_n 3, 1), (27, .invokestatic 72, 3), (30, .ifCond .ne 5, 3), (33, .iconst (-1), 1), (34, .ireturn, 1), (35, .aload_n 0, 1), (36, .getfield 54, 3), (39, .iload_n 2, 1), (40, .iload_n 3, 1), (41, .invokevirtual 210, 3), (44, .ireturn, 1)]
def mX8_held : azM := (yX8_held, cX8_held, 4, some .int, false, 8, tX8_held)
def tX8_change : azT := [(0, .iload_n 1, 1), (1, .invokestatic 107, 3), (4, .ifCond .eq 10, 3), (7, .iload_n 2, 1), (8, .invokestatic 72, 3), (11, .ifCond .ne 5, 3), (14, .iconst (-1), 1), (15, .ireturn, 1), (16, .aload_n 0, 1), (17, .getfield 26, 3), (20, .iload_n 1, 1), (21, .aaload, 1), (22, .ifnonnull 8, 3), (25, .bipush (-3), 2), (27, .goto 13, 3), (30, .aload_n 0, 1), (31, .getfield 26, 3), (34, .iload_n 1, 1), (35, .aaload, 1), (36, .iload_n 2, 1), (37, .invokevirtual 213, 3), (40, .ireturn, 1)]
def mX8_change : azM := (yX8_change, cX8_change, 3, some .int, false, 8, tX8_change)
def tX8_invariants : azT := [(0, .aload_n 0, 1), (1, .getfield 61, 3), (4, .aload_n 0, 1), (5, .getfield 26, 3), (8, .invokevirtual 216, 3), (11, .aload_n 0, 1), (12, .getfield 61, 3), (15, .invokevirtual 220, 3), (18, .ireturn, 1)]
def mX8_invariants : azM := (yX8_invariants, cX8_invariants, 1, some .int, false, 8, tX8_invariants)
def tX8_weight : azT := [(0, .aload_n 0, 1), (1, .getfield 61, 3), (4, .aload_n 0, 1), (5, .getfield 26, 3), (8, .invokevirtual 216, 3), (11, .aload_n 0, 1), (12, .getfield 61, 3), (15, .iload_n 1, 1), (16, .invokevirtual 222, 3), (19, .istore 4, 2), (21, .iload 4, 2), (23, .ifCond .lt 17, 3), (26, .iload_n 2, 1), (27, .invokestatic 72, 3), (30, .ifCond .eq 10, 3), (33, .iload_n 3, 1), (34, .invokestatic 225, 3), (37, .ifCond .ne 7, 3), (40, .ldc2_w 228, 3), (43, .lreturn, 1), (44, .aload_n 0, 1), (45, .getfield 61, 3), (48, .iload 4, 2), (50, .iload_n 2, 1), (51, .invokevirtual 230, 3), (54, .iload_n 3, 1), (55, .ifCond .ne 13, 3), (58, .aload_n 0, 1), (59, .getfield 61, 3), (62, .getfield 234, 3), (65, .goto 10, 3), (68, .aload_n 0, 1), (69, .getfield 61, 3), (72, .getfield 238, 3), (75, .lreturn, 1)]
def mX8_weight : azM := (yX8_weight, cX8_weight, 5, some .long, false, 8, tX8_weight)
def tX8_sum : azT := [(0, .aload_n 0, 1), (1, .getfield 61, 3), (4, .aload_n 0, 1), (5, .getfield 26, 3), (8, .invokevirtual 216, 3), (11, .aload_n 0, 1), (12, .getfield 61, 3), (15, .iload_n 1, 1), (16, .invokevirtual 222, 3), (19, .istore_n 3, 1), (20, .iload_n 3, 1), (21, .ifCond .lt 10, 3), (24, .iload_n 2, 1), (25, .invokestatic 225, 3), (28, .ifCond .ne 5, 3), (31, .iconst (-1), 1), (32, .ireturn, 1), (33, .aload_n 0, 1), (34, .getfield 61, 3), (37, .iload_n 3, 1), (38, .aload_n 0, 1), (39, .getfield 14, 3), (42, .invokevirtual 241, 3), (45, .iload_n 2, 1), (46, .ifCond .ne 13, 3), (49, .aload_n 0, 1), (50, .getfield 61, 3), (53, .getfield 234, 3), (56, .goto 10, 3), (59, .aload_n 0, 1), (60, .getfield 61, 3), (63, .getfield 238, 3), (66, .l2i, 1), (67, .ireturn, 1)]
def mX8_sum : azM := (yX8_sum, cX8_sum, 4, some .int, false, 8, tX8_sum)
def tX8_told : azT := [(0, .iload_n 1, 1), (1, .tableswitch 72 0 4 #[35, 43, 51, 56, 64], 35), (36, .aload_n 0, 1), (37, .getfield 14, 3), (40, .invokevirtual 245, 3), (43, .ireturn, 1), (44, .aload_n 0, 1), (45, .invokevirtual 191, 3), (48, .invokestatic 132, 3), (51, .ireturn, 1), (52, .aload_n 0, 1), (53, .getfield 166, 3), (56, .ireturn, 1), (57, .aload_n 0, 1), (58, .getfield 33, 3), (61, .getfield 100, 3), (64, .ireturn, 1), (65, .aload_n 0, 1), (66, .getfield 40, 3), (69, .getfield 141, 3), (72, .ireturn, 1), (73, .iconst (-1), 1), (74, .ireturn, 1)]
def mX8_told : azM := (yX8_told, cX8_told, 2, some .int, false, 8, tX8_told)
def tX8_image : azT := [(0, .aload_n 0, 1), (1, .getfield 68, 3), (4, .aload_n 0, 1), (5, .getfield 14, 3), (8, .aload_n 0, 1), (9, .getfield 26, 3), (12, .aload_n 0, 1), (13, .getfield 166, 3), (16, .invokevirtual 248, 3), (19, .aload_n 0, 1), (20, .getfield 14, 3), (23, .invokevirtual 245, 3), (26, .ireturn, 1)]
def mX8_image : azM := (yX8_image, cX8_image, 1, some .int, false, 8, tX8_image)
def tX8_undo : azT := [(0, .aload_n 0, 1), (1, .getfield 68, 3), (4, .getfield 252, 3), (7, .ifCond .ne 6, 3), (10, .bipush (-3), 2), (12, .ireturn, 1), (13, .aload_n 0, 1), (14, .getfield 68, 3), (17, .aload_n 0, 1), (18, .getfield 14, 3), (21, .aload_n 0, 1), (22, .getfield 26, 3), (25, .invokevirtual 255, 3), (28, .aload_n 0, 1), (29, .aload_n 0, 1), (30, .getfield 68, 3), (33, .getfield 259, 3), (36, .putfield 166, 3), (39, .aload_n 0, 1), (40, .iconst 0, 1), (41, .putfield 80, 3), (44, .aload_n 0, 1), (45, .getfield 14, 3), (48, .invokevirtual 245, 3), (51, .ireturn, 1)]
def mX8_undo : azM := (yX8_undo, cX8_undo, 1, some .int, false, 8, tX8_undo)
def tX8_isPlace : azT := [(0, .iload_n 0, 1), (1, .ifCond .lt 13, 3), (4, .iload_n 0, 1), (5, .bipush 10, 2), (7, .if_icmp .ge 7, 3), (10, .iconst 1, 1), (11, .goto 4, 3), (14, .iconst 0, 1), (15, .ireturn, 1)]
def mX8_isPlace : azM := (yX8_isPlace, cX8_isPlace, 1, some .boolean, false, 8, tX8_isPlace)
def tX8_isPart : azT := [(0, .iload_n 0, 1), (1, .ifCond .lt 13, 3), (4, .iload_n 0, 1), (5, .bipush 10, 2), (7, .if_icmp .ge 7, 3), (10, .iconst 1, 1), (11, .goto 4, 3), (14, .iconst 0, 1), (15, .ireturn, 1)]
def mX8_isPart : azM := (yX8_isPart, cX8_isPart, 1, some .boolean, false, 8, tX8_isPart)
def tX8_isSet : azT := [(0, .iload_n 0, 1), (1, .ifCond .lt 14, 3), (4, .iload_n 0, 1), (5, .sipush 1024, 3), (8, .if_icmp .ge 7, 3), (11, .iconst 1, 1), (12, .goto 4, 3), (15, .iconst 0, 1), (16, .ireturn, 1)]
def mX8_isSet : azM := (yX8_isSet, cX8_isSet, 1, some .boolean, false, 8, tX8_isSet)
def tX8_isTimes : azT := [(0, .iload_n 0, 1), (1, .iconst 1, 1), (2, .if_icmp .lt 14, 3), (5, .iload_n 0, 1), (6, .sipush 200, 3), (9, .if_icmp .gt 7, 3), (12, .iconst 1, 1), (13, .goto 4, 3), (16, .iconst 0, 1), (17, .ireturn, 1)]
def mX8_isTimes : azM := (yX8_isTimes, cX8_isTimes, 1, some .boolean, false, 8, tX8_isTimes)
def tX8_isReach : azT := [(0, .iload_n 0, 1), (1, .iconst 1, 1), (2, .if_icmp .lt 13, 3), (5, .iload_n 0, 1), (6, .bipush 60, 2), (8, .if_icmp .gt 7, 3), (11, .iconst 1, 1), (12, .goto 4, 3), (15, .iconst 0, 1), (16, .ireturn, 1)]
def mX8_isReach : azM := (yX8_isReach, cX8_isReach, 1, some .boolean, false, 8, tX8_isReach)
def tX8_isSide : azT := [(0, .iload_n 0, 1), (1, .ifCond .eq 8, 3), (4, .iload_n 0, 1), (5, .iconst 1, 1), (6, .if_icmp .ne 7, 3), (9, .iconst 1, 1), (10, .goto 4, 3), (13, .iconst 0, 1), (14, .ireturn, 1)]
def mX8_isSide : azM := (yX8_isSide, cX8_isSide, 1, some .boolean, false, 8, tX8_isSide)
def tX8_isFigure : azT := [(0, .iload_n 0, 1), (1, .bipush 48, 2), (3, .if_icmp .lt 13, 3), (6, .iload_n 0, 1), (7, .bipush 57, 2), (9, .if_icmp .gt 7, 3), (12, .iconst 1, 1), (13, .goto 4, 3), (16, .iconst 0, 1), (17, .ireturn, 1)]
def mX8_isFigure : azM := (yX8_isFigure, cX8_isFigure, 1, some .boolean, false, 8, tX8_isFigure)
def tX8_isName : azT := [(0, .iload_n 0, 1), (1, .bipush 120, 2), (3, .if_icmp .lt 13, 3), (6, .iload_n 0, 1), (7, .bipush 122, 2), (9, .if_icmp .gt 7, 3), (12, .iconst 1, 1), (13, .goto 4, 3), (16, .iconst 0, 1), (17, .ireturn, 1)]
def mX8_isName : azM := (yX8_isName, cX8_isName, 1, some .boolean, false, 8, tX8_isName)
def tX8_wordOf : azT := [(0, .iload_n 0, 1), (1, .tableswitch 39 0 2 #[27, 31, 35], 27), (28, .ldc_w 260, 3), (31, .areturn, 1), (32, .ldc_w 262, 3), (35, .areturn, 1), (36, .ldc_w 264, 3), (39, .areturn, 1), (40, .ldc_w 266, 3), (43, .areturn, 1)]
def mX8_wordOf : azM := (yX8_wordOf, cX8_wordOf, 1, some (.object "java/lang/String"), false, 8, tX8_wordOf)
def tX8_rulesTold : azT := [(0, .iconst 0, 1), (1, .istore_n 1, 1), (2, .iconst 0, 1), (3, .istore_n 2, 1), (4, .iload_n 2, 1), (5, .bipush 10, 2), (7, .if_icmp .ge 24, 3), (10, .aload_n 0, 1), (11, .getfield 26, 3), (14, .iload_n 2, 1), (15, .aaload, 1), (16, .ifnull 9, 3), (19, .iload_n 1, 1), (20, .iconst 1, 1), (21, .iload_n 2, 1), (22, .ishl, 1), (23, .ior, 1), (24, .istore_n 1, 1), (25, .iinc 2 1, 3), (28, .goto (-24), 3), (31, .iload_n 1, 1), (32, .ireturn, 1)]
def mX8_rulesTold : azM := (yX8_rulesTold, cX8_rulesTold, 3, some .int, false, 8, tX8_rulesTold)
def tX8_tryOut : azT := [(0, .aload_n 0, 1), (1, .getfield 21, 3), (4, .aload_n 0, 1), (5, .getfield 14, 3), (8, .invokevirtual 163, 3), (11, .iconst 0, 1), (12, .istore_n 3, 1), (13, .iconst 0, 1), (14, .istore 4, 2), (16, .iload 4, 2), (18, .iload_n 2, 1), (19, .if_icmp .ge 23, 3), (22, .aload_n 0, 1), (23, .iload_n 1, 1), (24, .invokevirtual 268, 3), (27, .ifCond .ne 6, 3), (30, .goto 12, 3), (33, .iinc 3 1, 3), (36, .iinc 4 1, 3), (39, .goto (-23), 3), (42, .iload_n 3, 1), (43, .ireturn, 1)]
def mX8_tryOut : azM := (yX8_tryOut, cX8_tryOut, 5, some .int, false, 8, tX8_tryOut)
def tX8_tryOne : azT := [(0, .iconst 0, 1), (1, .istore_n 2, 1), (2, .iload_n 2, 1), (3, .bipush 10, 2), (5, .if_icmp .ge 55, 3), (8, .iload_n 1, 1), (9, .iload_n 2, 1), (10, .ishr, 1), (11, .iconst 1, 1), (12, .iand, 1), (13, .iconst 1, 1), (14, .if_icmp .ne 40, 3), (17, .aload_n 0, 1), (18, .getfield 47, 3), (21, .aload_n 0, 1), (22, .getfield 26, 3), (25, .iload_n 2, 1), (26, .aaload, 1), (27, .aload_n 0, 1), (28, .getfield 21, 3), (31, .aload_n 0, 1), (32, .getfield 18, 3), (35, .invokevirtual 148, 3), (38, .ifCond .eq 16, 3), (41, .aload_n 0, 1), (42, .getfield 21, 3), (45, .aload_n 0, 1), (46, .getfield 18, 3), (49, .invokevirtual 163, 3), (52, .iconst 1, 1), (53, .ireturn, 1), (54, .iinc 2 1, 3), (57, .goto (-55), 3), (60, .iconst 0, 1), (61, .ireturn, 1)]
def mX8_tryOne : azM := (yX8_tryOne, cX8_tryOne, 3, some .boolean, false, 8, tX8_tryOne)
def tX8_walksNow : azT := [(0, .aload_n 0, 1), (1, .getfield 80, 3), (4, .ifCond .ne 27, 3), (7, .aload_n 0, 1), (8, .getfield 54, 3), (11, .aload_n 0, 1), (12, .getfield 14, 3), (15, .aload_n 0, 1), (16, .getfield 26, 3), (19, .aload_n 0, 1), (20, .getfield 47, 3), (23, .invokevirtual 271, 3), (26, .aload_n 0, 1), (27, .iconst 1, 1), (28, .putfield 80, 3), (31, .aload_n 0, 1), (32, .getfield 54, 3), (35, .areturn, 1)]
def mX8_walksNow : azM := (yX8_walksNow, cX8_walksNow, 1, some (.object "TokenNet$Walks"), false, 8, tX8_walksNow)
def tX9_init : azT := [(0, .aload_n 0, 1), (1, .invokespecial 3, 3), (4, .aload_n 0, 1), (5, .bipush 70, 2), (7, .newarray .int, 2), (9, .putfield 9, 3), (12, .aload_n 0, 1), (13, .bipush 70, 2), (15, .newarray .int, 2), (17, .putfield 15, 3), (20, .aload_n 0, 1), (21, .sipush 810, 3), (24, .newarray .int, 2), (26, .putfield 18, 3), (29, .aload_n 0, 1), (30, .sipush 810, 3), (33, .newarray .int, 2), (35, .putfield 21, 3), (38, .aload_n 0, 1), (39, .bipush 80, 2), (41, .newarray .int, 2), (43, .putfield 24, 3), (46, .aload_n 0, 1), (47, .bipush 80, 2), (49, .newarray .int, 2), (51, .putfield 27, 3), (54, .aload_n 0, 1), (55, .iconst 3, 1), (56, .newarray .int, 2), (58, .putfield 30, 3), (61, .aload_n 0, 1), (62, .iconst 3, 1), (63, .newarray .int, 2), (65, .putfield 33, 3), (68, .aload_n 0, 1), (69, .iconst 3, 1), (70, .newarray .int, 2), (72, .putfield 36, 3), (75, .aload_n 0, 1), (76, .iconst 3, 1), (77, .newarray .int, 2), (79, .putfield 39, 3), (82, .aload_n 0, 1), (83, .bipush 40, 2), (85, .newarray .int, 2), (87, .putfield 42, 3), (90, .aload_n 0, 1), (91, .iconst 3, 1), (92, .newarray .int, 2), (94, .putfield 45, 3), (97, .aload_n 0, 1), (98, .sipush 800, 3), (101, .newarray .int, 2), (103, .putfield 48, 3), (106, .aload_n 0, 1), (107, .iconst 3, 1), (108, .newarray .int, 2), (110, .putfield 51, 3), (113, .aload_n 0, 1), (114, .iconst 3, 1), (115, .newarray .int, 2), (117, .putfield 54, 3), (120, .aload_n 0, 1), (121, .bipush 70, 2), (123, .newarray .int, 2), (125, .putfield 57, 3), (128, .aload_n 0, 1), (129, .bipush 70, 2), (131, .newarray .int, 2), (133, .putfield 60, 3), (136, .aload_n 0, 1), (137, .sipush 4200, 3), (140, .newarray .int, 2), (142, .putfield 63, 3), (145, .aload_n 0, 1), (146, .bipush 60, 2), (148, .newarray .int, 2), (150, .putfield 66, 3), (153, .aload_n 0, 1), (154, .bipush 60, 2), (156, .newarray .int, 2), (158, .putfield 69, 3), (161, .aload_n 0, 1), (162, .sipush 600, 3), (165, .newarray .int, 2), (167, .putfield 72, 3), (170, .aload_n 0, 1), (171, .bipush 70, 2), (173, .newarray .int, 2), (175, .putfield 75, 3), (178, .aload_n 0, 1), (179, .bipush 60, 2), (181, .newarray .boolean, 2), (183, .putfield 78, 3), (186, .aload_n 0, 1), (187, .bipush 100, 2), (189, .newarray .long, 2), (191, .putfield 82, 3), (194, .aload_n 0, 1), (195, .bipush 100, 2), (197, .newarray .long, 2), (199, .putfield 86, 3), (202, .aload_n 0, 1), (203, .bipush 10, 2), (205, .newarray .int, 2), (207, .putfield 89, 3), (210, .aload_n 0, 1), (211, .bipush 10, 2), (213, .newarray .int, 2), (215, .putfield 92, 3), (218, .return_, 1)]
def mX9_init : azM := (yX9_init, cX9_init, 1, none, true, 9, tX9_init)
def tX9_isIn : azT := [(0, .lload_n 0, 1), (1, .lload_n 2, 1), (2, .lcmp, 1), (3, .ifCond .lt 14, 3), (6, .lload_n 0, 1), (7, .lload 4, 2), (9, .lcmp, 1), (10, .ifCond .gt 7, 3), (13, .iconst 1, 1), (14, .goto 4, 3), (17, .iconst 0, 1), (18, .ireturn, 1)]
def mX9_isIn : azM := (yX9_isIn, cX9_isIn, 6, some .boolean, false, 9, tX9_isIn)
def tX9_isPlace : azT := [(0, .iload_n 0, 1), (1, .i2l, 1), (2, .lconst 0, 1), (3, .ldc2_w 95, 3), (6, .invokestatic 97, 3), (9, .ireturn, 1)]
def mX9_isPlace : azM := (yX9_isPlace, cX9_isPlace, 1, some .boolean, false, 9, tX9_isPlace)
def tX9_pours : azT := [(0, .iconst 0, 1), (1, .istore 5, 2), (3, .iload 5, 2), (5, .iload 4, 2), (7, .if_icmp .ge 21, 3), (10, .aload_n 2, 1), (11, .iload_n 3, 1), (12, .iload 5, 2), (14, .iadd, 1), (15, .aload_n 0, 1), (16, .iload_n 1, 1), (17, .iload 5, 2), (19, .iadd, 1), (20, .iaload, 1), (21, .iastore, 1), (22, .iinc 5 1, 3), (25, .goto (-22), 3), (28, .return_, 1)]
def mX9_pours : azM := (yX9_pours, cX9_pours, 6, none, false, 9, tX9_pours)
def tX9_at : azT := [(0, .bipush 10, 2), (2, .bipush 6, 2), (4, .iload_n 0, 1), (5, .imul, 1), (6, .iadd, 1), (7, .iload_n 1, 1), (8, .iadd, 1), (9, .ireturn, 1)]
def mX9_at : azM := (yX9_at, cX9_at, 2, some .int, false, 9, tX9_at)
def tX9_removes : azT := [(0, .iload_n 2, 1), (1, .istore_n 3, 1), (2, .iload_n 3, 1), (3, .iconst 5, 1), (4, .if_icmp .ge 25, 3), (7, .aload_n 0, 1), (8, .iload_n 1, 1), (9, .iload_n 3, 1), (10, .invokestatic 101, 3), (13, .aload_n 0, 1), (14, .iload_n 1, 1), (15, .iload_n 3, 1), (16, .iconst 1, 1), (17, .iadd, 1), (18, .invokestatic 101, 3), (21, .iaload, 1), (22, .iastore, 1), (23, .iinc 3 1, 3), (26, .goto (-24), 3), (29, .aload_n 0, 1), (30, .iload_n 1, 1), (31, .iconst 5, 1), (32, .invokestatic 101, 3), (35, .iconst 0, 1), (36, .iastore, 1), (37, .aload_n 0, 1), (38, .iload_n 1, 1), (39, .dup2, 1), (40, .iaload, 1), (41, .iconst 1, 1), (42, .isub, 1), (43, .iastore, 1), (44, .return_, 1)]
def mX9_removes : azM := (yX9_removes, cX9_removes, 4, none, false, 9, tX9_removes)
def tX9_adds : azT := [(0, .aload_n 0, 1), (1, .iload_n 1, 1), (2, .iaload, 1), (3, .bipush 6, 2), (5, .if_icmp .ne 5, 3), (8, .iconst 0, 1), (9, .ireturn, 1), (10, .aload_n 0, 1), (11, .iload_n 1, 1), (12, .aload_n 0, 1), (13, .iload_n 1, 1), (14, .iaload, 1), (15, .invokestatic 101, 3), (18, .iload_n 2, 1), (19, .iastore, 1), (20, .aload_n 0, 1), (21, .iload_n 1, 1), (22, .dup2, 1), (23, .iaload, 1), (24, .iconst 1, 1), (25, .iadd, 1), (26, .iastore, 1), (27, .iconst 1, 1), (28, .ireturn, 1)]
def mX9_adds : azM := (yX9_adds, cX9_adds, 3, some .boolean, false, 9, tX9_adds)
def tX9_put : azT := [(0, .iload_n 1, 1), (1, .invokestatic 105, 3), (4, .ifCond .ne 5, 3), (7, .iconst (-1), 1), (8, .ireturn, 1), (9, .iload_n 2, 1), (10, .i2l, 1), (11, .lconst 0, 1), (12, .ldc2_w 109, 3), (15, .invokestatic 97, 3), (18, .ifCond .ne 6, 3), (21, .bipush (-2), 2), (23, .ireturn, 1), (24, .aload_n 0, 1), (25, .getfield 9, 3), (28, .iload_n 1, 1), (29, .iload_n 2, 1), (30, .invokestatic 111, 3), (33, .ifCond .eq 12, 3), (36, .aload_n 0, 1), (37, .getfield 9, 3), (40, .iload_n 1, 1), (41, .iaload, 1), (42, .goto 5, 3), (45, .bipush (-4), 2), (47, .ireturn, 1)]
def mX9_put : azM := (yX9_put, cX9_put, 3, some .int, false, 9, tX9_put)
def tX9_take : azT := [(0, .iload_n 1, 1), (1, .invokestatic 105, 3), (4, .ifCond .eq 21, 3), (7, .iload_n 2, 1), (8, .i2l, 1), (9, .lconst 0, 1), (10, .aload_n 0, 1), (11, .getfield 9, 3), (14, .iload_n 1, 1), (15, .iaload, 1), (16, .iconst 1, 1), (17, .isub, 1), (18, .i2l, 1), (19, .invokestatic 97, 3), (22, .ifCond .ne 5, 3), (25, .iconst (-1), 1), (26, .ireturn, 1), (27, .aload_n 0, 1), (28, .getfield 9, 3), (31, .iload_n 1, 1), (32, .iload_n 2, 1), (33, .invokestatic 101, 3), (36, .iaload, 1), (37, .istore_n 3, 1), (38, .aload_n 0, 1), (39, .getfield 9, 3), (42, .iload_n 1, 1), (43, .iload_n 2, 1), (44, .invokestatic 115, 3), (47, .iload_n 3, 1), (48, .ireturn, 1)]
def mX9_take : azM := (yX9_take, cX9_take, 4, some .int, false, 9, tX9_take)
def tX9_token : azT := [(0, .iload_n 1, 1), (1, .invokestatic 105, 3), (4, .ifCond .ne 5, 3), (7, .iconst (-1), 1), (8, .ireturn, 1), (9, .iload_n 2, 1), (10, .iconst (-1), 1), (11, .if_icmp .ne 12, 3), (14, .aload_n 0, 1), (15, .getfield 9, 3), (18, .iload_n 1, 1), (19, .iaload, 1), (20, .goto 35, 3), (23, .iload_n 2, 1), (24, .i2l, 1), (25, .lconst 0, 1), (26, .aload_n 0, 1), (27, .getfield 9, 3), (30, .iload_n 1, 1), (31, .iaload, 1), (32, .iconst 1, 1), (33, .isub, 1), (34, .i2l, 1), (35, .invokestatic 97, 3), (38, .ifCond .eq 16, 3), (41, .aload_n 0, 1), (42, .getfield 9, 3), (45, .iload_n 1, 1), (46, .iload_n 2, 1), (47, .invokestatic 101, 3), (50, .iaload, 1), (51, .goto 4, 3), (54, .iconst (-1), 1), (55, .ireturn, 1)]
def mX9_token : azM := (yX9_token, cX9_token, 3, some .int, false, 9, tX9_token)
def tX9_feed : azT := [(0, .iload_n 1, 1), (1, .i2l, 1), (2, .lconst 1, 1), (3, .ldc2_w 119, 3), (6, .invokestatic 97, 3), (9, .ifCond .ne 6, 3), (12, .bipush (-2), 2), (14, .ireturn, 1), (15, .aload_n 0, 1), (16, .getfield 121, 3), (19, .bipush 80, 2), (21, .if_icmp .ne 6, 3), (24, .bipush (-4), 2), (26, .ireturn, 1), (27, .aload_n 0, 1), (28, .getfield 24, 3), (31, .aload_n 0, 1), (32, .getfield 121, 3), (35, .iload_n 1, 1), (36, .iastore, 1), (37, .aload_n 0, 1), (38, .dup, 1), (39, .getfield 121, 3), (42, .iconst 1, 1), (43, .iadd, 1), (44, .putfield 121, 3), (47, .aload_n 0, 1), (48, .getfield 121, 3), (51, .ireturn, 1)]
def mX9_feed : azM := (yX9_feed, cX9_feed, 2, some .int, false, 9, tX9_feed)
def tX9_clear : azT := [(0, .aload_n 0, 1), (1, .getfield 121, 3), (4, .istore_n 1, 1), (5, .aload_n 0, 1), (6, .iconst 0, 1), (7, .putfield 121, 3), (10, .iload_n 1, 1), (11, .ireturn, 1)]
def mX9_clear : azM := (yX9_clear, cX9_clear, 2, some .int, false, 9, tX9_clear)
def tX9_peek : azT := [(0, .aload_n 0, 1), (1, .getfield 125, 3), (4, .aload_n 0, 1), (5, .getfield 128, 3), (8, .if_icmp .ge 15, 3), (11, .aload_n 0, 1), (12, .getfield 27, 3), (15, .aload_n 0, 1), (16, .getfield 125, 3), (19, .iaload, 1), (20, .goto 4, 3), (23, .iconst 0, 1), (24, .ireturn, 1)]
def mX9_peek : azM := (yX9_peek, cX9_peek, 1, some .int, false, 9, tX9_peek)
def tX9_wrong : azT := [(0, .aload_n 0, 1), (1, .aload_n 0, 1), (2, .getfield 131, 3), (5, .ifCond .ge 7, 3), (8, .iload_n 1, 1), (9, .goto 7, 3), (12, .aload_n 0, 1), (13, .getfield 131, 3), (16, .putfield 131, 3), (19, .return_, 1)]
def mX9_wrong : azM := (yX9_wrong, cX9_wrong, 2, none, false, 9, tX9_wrong)
def tX9_takes : azT := [(0, .aload_n 0, 1), (1, .getfield 131, 3), (4, .ifCond .ge 24, 3), (7, .aload_n 0, 1), (8, .invokevirtual 134, 3), (11, .iload_n 1, 1), (12, .if_icmp .ne 16, 3), (15, .aload_n 0, 1), (16, .dup, 1), (17, .getfield 125, 3), (20, .iconst 1, 1), (21, .iadd, 1), (22, .putfield 125, 3), (25, .goto 11, 3), (28, .aload_n 0, 1), (29, .aload_n 0, 1), (30, .getfield 125, 3), (33, .invokevirtual 138, 3), (36, .return_, 1)]
def mX9_takes : azM := (yX9_takes, cX9_takes, 2, none, false, 9, tX9_takes)
def tX9_isFigure : azT := [(0, .iload_n 0, 1), (1, .bipush 48, 2), (3, .if_icmp .lt 13, 3), (6, .iload_n 0, 1), (7, .bipush 57, 2), (9, .if_icmp .gt 7, 3), (12, .iconst 1, 1), (13, .goto 4, 3), (16, .iconst 0, 1), (17, .ireturn, 1)]
def mX9_isFigure : azM := (yX9_isFigure, cX9_isFigure, 1, some .boolean, false, 9, tX9_isFigure)
def tX9_figure : azT := [(0, .aload_n 0, 1), (1, .invokevirtual 134, 3), (4, .istore_n 1, 1), (5, .aload_n 0, 1), (6, .getfield 131, 3), (9, .ifCond .ge 10, 3), (12, .iload_n 1, 1), (13, .invokestatic 142, 3), (16, .ifCond .ne 13, 3), (19, .aload_n 0, 1), (20, .aload_n 0, 1), (21, .getfield 125, 3), (24, .invokevirtual 138, 3), (27, .iconst 0, 1), (28, .ireturn, 1), (29, .aload_n 0, 1), (30, .dup, 1), (31, .getfield 125, 3), (34, .iconst 1, 1), (35, .iadd, 1), (36, .putfield 125, 3), (39, .iload_n 1, 1), (40, .bipush 48, 2), (42, .isub, 1), (43, .ireturn, 1)]
def mX9_figure : azM := (yX9_figure, cX9_figure, 2, some .int, false, 9, tX9_figure)
def tX9_expression : azT := [(0, .aload_n 0, 1), (1, .invokevirtual 145, 3), (4, .istore_n 1, 1), (5, .aload_n 0, 1), (6, .getfield 131, 3), (9, .ifCond .ge 68, 3), (12, .aload_n 0, 1), (13, .invokevirtual 134, 3), (16, .bipush 43, 2), (18, .if_icmp .eq 12, 3), (21, .aload_n 0, 1), (22, .invokevirtual 134, 3), (25, .bipush 45, 2), (27, .if_icmp .ne 50, 3), (30, .aload_n 0, 1), (31, .invokevirtual 134, 3), (34, .bipush 43, 2), (36, .if_icmp .ne 7, 3), (39, .iconst 1, 1), (40, .goto 4, 3), (43, .iconst 0, 1), (44, .istore_n 2, 1), (45, .aload_n 0, 1), (46, .dup, 1), (47, .getfield 125, 3), (50, .iconst 1, 1), (51, .iadd, 1), (52, .putfield 125, 3), (55, .aload_n 0, 1), (56, .invokevirtual 145, 3), (59, .istore_n 3, 1), (60, .iload_n 2, 1), (61, .ifCond .eq 9, 3), (64, .iload_n 1, 1), (65, .iload_n 3, 1), (66, .iadd, 1), (67, .goto 6, 3), (70, .iload_n 1, 1), (71, .iload_n 3, 1), (72, .isub, 1), (73, .istore_n 1, 1), (74, .goto (-69), 3), (77, .iload_n 1, 1), (78, .ireturn, 1)]
def mX9_expression : azM := (yX9_expression, cX9_expression, 4, some .int, false, 9, tX9_expression)
def tX9_term : azT := [(0, .aload_n 0, 1), (1, .invokevirtual 148, 3), (4, .istore_n 1, 1), (5, .aload_n 0, 1), (6, .getfield 131, 3), (9, .ifCond .ge 32, 3), (12, .aload_n 0, 1), (13, .invokevirtual 134, 3), (16, .bipush 42, 2), (18, .if_icmp .ne 23, 3), (21, .aload_n 0, 1), (22, .dup, 1), (23, .getfield 125, 3), (26, .iconst 1, 1), (27, .iadd, 1), (28, .putfield 125, 3), (31, .iload_n 1, 1), (32, .aload_n 0, 1), (33, .invokevirtual 148, 3), (36, .imul, 1), (37, .istore_n 1, 1), (38, .goto (-33), 3), (41, .iload_n 1, 1), (42, .ireturn, 1)]
def mX9_term : azM := (yX9_term, cX9_term, 2, some .int, false, 9, tX9_term)
def tX9_factor : azT := [(0, .aload_n 0, 1), (1, .invokevirtual 134, 3), (4, .istore_n 1, 1), (5, .aload_n 0, 1), (6, .getfield 131, 3), (9, .ifCond .lt 5, 3), (12, .iconst 0, 1), (13, .ireturn, 1), (14, .iload_n 1, 1), (15, .invokestatic 142, 3), (18, .ifCond .eq 32, 3), (21, .aload_n 0, 1), (22, .invokevirtual 151, 3), (25, .istore_n 2, 1), (26, .aload_n 0, 1), (27, .invokevirtual 134, 3), (30, .invokestatic 142, 3), (33, .ifCond .eq 15, 3), (36, .bipush 10, 2), (38, .iload_n 2, 1), (39, .imul, 1), (40, .aload_n 0, 1), (41, .invokevirtual 151, 3), (44, .iadd, 1), (45, .goto 4, 3), (48, .iload_n 2, 1), (49, .ireturn, 1), (50, .iload_n 1, 1), (51, .bipush 120, 2), (53, .if_icmp .lt 53, 3), (56, .iload_n 1, 1), (57, .bipush 122, 2), (59, .if_icmp .gt 47, 3), (62, .aload_n 0, 1), (63, .getfield 154, 3), (66, .iload_n 1, 1), (67, .bipush 120, 2), (69, .isub, 1), (70, .ishr, 1), (71, .iconst 1, 1), (72, .iand, 1), (73, .ifCond .ne 13, 3), (76, .aload_n 0, 1), (77, .aload_n 0, 1), (78, .getfield 125, 3), (81, .invokevirtual 138, 3), (84, .iconst 0, 1), (85, .ireturn, 1), (86, .aload_n 0, 1), (87, .dup, 1), (88, .getfield 125, 3), (91, .iconst 1, 1), (92, .iadd, 1), (93, .putfield 125, 3), (96, .aload_n 0, 1), (97, .getfield 45, 3), (100, .iload_n 1, 1), (101, .bipush 120, 2), (103, .isub, 1), (104, .iaload, 1), (105, .ireturn, 1), (106, .iload_n 1, 1), (107, .bipush 40, 2), (109, .if_icmp .ne 11, 3), (112, .aload_n 0, 1), (113, .getfield 157, 3), (116, .iconst 5, 1), (117, .if_icmp .ne 13, 3), (120, .aload_n 0, 1), (121, .aload_n 0, 1), (122, .getfield 125, 3), (125, .invokevirtual 138, 3), (128, .iconst 0, 1), (129, .ireturn, 1), (130, .aload_n 0, 1), (131, .dup, 1), (132, .getfield 125, 3), (135, .iconst 1, 1), (136, .iadd, 1), (137, .putfield 125, 3), (140, .aload_n 0, 1), (141, .dup, 1), (142, .getfield 157, 3), (145, .iconst 1, 1), (146, .iadd, 1), (147, .putfield 157, 3), (150, .aload_n 0, 1), (151, .invokevirtual 160, 3), (154, .istore_n 2, 1), (155, .aload_n 0, 1), (156, .dup, 1), (157, .getfield 157, 3), (160, .iconst 1, 1), (161, .isub, 1), (162, .putfield 157, 3), (165, .aload_n 0, 1), (166, .bipush 41, 2), (168, .invokevirtual 163, 3), (171, .iload_n 2, 1), (172, .ireturn, 1)]
def mX9_factor : azM := (yX9_factor, cX9_factor, 3, some .int, false, 9, tX9_factor)
def tX9_compares : azT := [(0, .aload_n 0, 1), (1, .invokevirtual 160, 3), (4, .istore_n 1, 1), (5, .aload_n 0, 1), (6, .invokevirtual 134, 3), (9, .istore_n 2, 1), (10, .iload_n 2, 1), (11, .bipush 60, 2), (13, .if_icmp .eq 23, 3), (16, .iload_n 2, 1), (17, .bipush 61, 2), (19, .if_icmp .eq 17, 3), (22, .iload_n 2, 1), (23, .bipush 62, 2), (25, .if_icmp .eq 11, 3), (28, .aload_n 0, 1), (29, .aload_n 0, 1), (30, .getfield 125, 3), (33, .invokevirtual 138, 3), (36, .aload_n 0, 1), (37, .dup, 1), (38, .getfield 125, 3), (41, .aload_n 0, 1), (42, .getfield 131, 3), (45, .ifCond .ge 7, 3), (48, .iconst 1, 1), (49, .goto 4, 3), (52, .iconst 0, 1), (53, .iadd, 1), (54, .putfield 125, 3), (57, .aload_n 0, 1), (58, .invokevirtual 160, 3), (61, .istore_n 3, 1), (62, .iload_n 2, 1), (63, .bipush 60, 2), (65, .if_icmp .ne 16, 3), (68, .iload_n 1, 1), (69, .iload_n 3, 1), (70, .if_icmp .ge 7, 3), (73, .iconst 1, 1), (74, .goto 36, 3), (77, .iconst 0, 1), (78, .goto 32, 3), (81, .iload_n 2, 1), (82, .bipush 61, 2), (84, .if_icmp .ne 16, 3), (87, .iload_n 1, 1), (88, .iload_n 3, 1), (89, .if_icmp .ne 7, 3), (92, .iconst 1, 1), (93, .goto 17, 3), (96, .iconst 0, 1), (97, .goto 13, 3), (100, .iload_n 1, 1), (101, .iload_n 3, 1), (102, .if_icmp .le 7, 3), (105, .iconst 1, 1), (106, .goto 4, 3), (109, .iconst 0, 1), (110, .ireturn, 1)]
def mX9_compares : azM := (yX9_compares, cX9_compares, 4, some .boolean, false, 9, tX9_compares)
def tX9_word : azT := [(0, .iconst 0, 1), (1, .istore_n 1, 1), (2, .iconst 0, 1), (3, .istore_n 2, 1), (4, .aload_n 0, 1), (5, .invokevirtual 134, 3), (8, .bipush 97, 2), (10, .if_icmp .lt 53, 3), (13, .aload_n 0, 1), (14, .invokevirtual 134, 3), (17, .bipush 122, 2), (19, .if_icmp .gt 44, 3), (22, .iload_n 2, 1), (23, .bipush 6, 2), (25, .if_icmp .ge 20, 3), (28, .iload_n 1, 1), (29, .bipush 27, 2), (31, .imul, 1), (32, .aload_n 0, 1), (33, .invokevirtual 134, 3), (36, .iadd, 1), (37, .bipush 97, 2), (39, .isub, 1), (40, .iconst 1, 1), (41, .iadd, 1), (42, .goto 4, 3), (45, .iconst (-1), 1), (46, .istore_n 1, 1), (47, .iinc 2 1, 3), (50, .aload_n 0, 1), (51, .dup, 1), (52, .getfield 125, 3), (55, .iconst 1, 1), (56, .iadd, 1), (57, .putfield 125, 3), (60, .goto (-56), 3), (63, .iload_n 1, 1), (64, .ireturn, 1)]
def mX9_word : azM := (yX9_word, cX9_word, 3, some .int, false, 9, tX9_word)
def tX9_takeClause : azT := [(0, .aload_n 0, 1), (1, .getfield 30, 3), (4, .aload_n 0, 1), (5, .getfield 166, 3), (8, .aload_n 0, 1), (9, .invokevirtual 151, 3), (12, .iastore, 1), (13, .aload_n 0, 1), (14, .bipush 32, 2), (16, .invokevirtual 163, 3), (19, .aload_n 0, 1), (20, .invokevirtual 134, 3), (23, .istore_n 1, 1), (24, .aload_n 0, 1), (25, .getfield 131, 3), (28, .ifCond .ge 15, 3), (31, .iload_n 1, 1), (32, .bipush 120, 2), (34, .if_icmp .lt 9, 3), (37, .iload_n 1, 1), (38, .bipush 122, 2), (40, .if_icmp .le 12, 3), (43, .aload_n 0, 1), (44, .aload_n 0, 1), (45, .getfield 125, 3), (48, .invokevirtual 138, 3), (51, .return_, 1), (52, .aload_n 0, 1), (53, .dup, 1), (54, .getfield 125, 3), (57, .iconst 1, 1), (58, .iadd, 1), (59, .putfield 125, 3), (62, .aload_n 0, 1), (63, .getfield 33, 3), (66, .aload_n 0, 1), (67, .getfield 166, 3), (70, .iload_n 1, 1), (71, .bipush 120, 2), (73, .isub, 1), (74, .iastore, 1), (75, .aload_n 0, 1), (76, .dup, 1), (77, .getfield 166, 3), (80, .iconst 1, 1), (81, .iadd, 1), (82, .putfield 166, 3), (85, .aload_n 0, 1), (86, .dup, 1), (87, .getfield 154, 3), (90, .iconst 1, 1), (91, .iload_n 1, 1), (92, .bipush 120, 2), (94, .isub, 1), (95, .ishl, 1), (96, .ior, 1), (97, .putfield 154, 3), (100, .return_, 1)]
def mX9_takeClause : azM := (yX9_takeClause, cX9_takeClause, 2, none, false, 9, tX9_takeClause)
def tX9_giveClause : azT := [(0, .aload_n 0, 1), (1, .getfield 36, 3), (4, .aload_n 0, 1), (5, .getfield 169, 3), (8, .aload_n 0, 1), (9, .invokevirtual 151, 3), (12, .iastore, 1), (13, .aload_n 0, 1), (14, .bipush 32, 2), (16, .invokevirtual 163, 3), (19, .aload_n 0, 1), (20, .getfield 39, 3), (23, .aload_n 0, 1), (24, .getfield 169, 3), (27, .aload_n 0, 1), (28, .getfield 125, 3), (31, .iastore, 1), (32, .aload_n 0, 1), (33, .dup, 1), (34, .getfield 169, 3), (37, .iconst 1, 1), (38, .iadd, 1), (39, .putfield 169, 3), (42, .aload_n 0, 1), (43, .invokevirtual 160, 3), (46, .pop, 1), (47, .return_, 1)]
def mX9_giveClause : azM := (yX9_giveClause, cX9_giveClause, 1, none, false, 9, tX9_giveClause)
def tX9_conditionClause : azT := [(0, .iconst 1, 1), (1, .istore_n 1, 1), (2, .iload_n 1, 1), (3, .ifCond .eq 81, 3), (6, .aload_n 0, 1), (7, .getfield 131, 3), (10, .ifCond .ge 74, 3), (13, .aload_n 0, 1), (14, .getfield 42, 3), (17, .aload_n 0, 1), (18, .getfield 172, 3), (21, .aload_n 0, 1), (22, .getfield 125, 3), (25, .iastore, 1), (26, .aload_n 0, 1), (27, .dup, 1), (28, .getfield 172, 3), (31, .iconst 1, 1), (32, .iadd, 1), (33, .putfield 172, 3), (36, .aload_n 0, 1), (37, .invokevirtual 175, 3), (40, .pop, 1), (41, .aload_n 0, 1), (42, .getfield 131, 3), (45, .ifCond .ge 16, 3), (48, .aload_n 0, 1), (49, .invokevirtual 134, 3), (52, .bipush 38, 2), (54, .if_icmp .ne 7, 3), (57, .iconst 1, 1), (58, .goto 4, 3), (61, .iconst 0, 1), (62, .istore_n 1, 1), (63, .aload_n 0, 1), (64, .dup, 1), (65, .getfield 125, 3), (68, .iload_n 1, 1), (69, .ifCond .eq 7, 3), (72, .iconst 1, 1), (73, .goto 4, 3), (76, .iconst 0, 1), (77, .iadd, 1), (78, .putfield 125, 3), (81, .goto (-79), 3), (84, .return_, 1)]
def mX9_conditionClause : azM := (yX9_conditionClause, cX9_conditionClause, 2, none, false, 9, tX9_conditionClause)
def tX9_clause : azT := [(0, .aload_n 0, 1), (1, .getfield 125, 3), (4, .istore_n 1, 1), (5, .aload_n 0, 1), (6, .invokevirtual 179, 3), (9, .istore_n 2, 1), (10, .aload_n 0, 1), (11, .dup, 1), (12, .getfield 182, 3), (15, .iconst 1, 1), (16, .iadd, 1), (17, .putfield 182, 3), (20, .aload_n 0, 1), (21, .iconst 0, 1), (22, .putfield 157, 3), (25, .iload_n 2, 1), (26, .sipush 257, 3), (29, .if_icmp .eq 23, 3), (32, .iload_n 2, 1), (33, .sipush 249, 3), (36, .if_icmp .eq 16, 3), (39, .iload_n 2, 1), (40, .sipush 11522, 3), (43, .if_icmp .eq 9, 3), (46, .iload_n 2, 1), (47, .ldc 185, 2), (49, .if_icmp .ne 33, 3), (52, .iload_n 2, 1), (53, .sipush 257, 3), (56, .if_icmp .ne 11, 3), (59, .aload_n 0, 1), (60, .getfield 166, 3), (63, .iconst 3, 1), (64, .if_icmp .eq 18, 3), (67, .iload_n 2, 1), (68, .sipush 11522, 3), (71, .if_icmp .ne 17, 3), (74, .aload_n 0, 1), (75, .getfield 169, 3), (78, .iconst 3, 1), (79, .if_icmp .ne 9, 3), (82, .aload_n 0, 1), (83, .iload_n 1, 1), (84, .invokevirtual 138, 3), (87, .return_, 1), (88, .aload_n 0, 1), (89, .bipush 32, 2), (91, .invokevirtual 163, 3), (94, .aload_n 0, 1), (95, .getfield 131, 3), (98, .ifCond .lt 4, 3), (101, .return_, 1), (102, .iload_n 2, 1), (103, .sipush 257, 3), (106, .if_icmp .ne 10, 3), (109, .aload_n 0, 1), (110, .invokevirtual 186, 3), (113, .goto 46, 3), (116, .iload_n 2, 1), (117, .sipush 11522, 3), (120, .if_icmp .ne 10, 3), (123, .aload_n 0, 1), (124, .invokevirtual 189, 3), (127, .goto 32, 3), (130, .iload_n 2, 1), (131, .sipush 249, 3), (134, .if_icmp .ne 10, 3), (137, .aload_n 0, 1), (138, .invokevirtual 192, 3), (141, .goto 18, 3), (144, .aload_n 0, 1), (145, .dup, 1), (146, .getfield 195, 3), (149, .iconst 1, 1), (150, .aload_n 0, 1), (151, .invokevirtual 151, 3), (154, .ishl, 1), (155, .ior, 1), (156, .putfield 195, 3), (159, .return_, 1)]
def mX9_clause : azM := (yX9_clause, cX9_clause, 3, none, false, 9, tX9_clause)
def tX9_reads : azT := [(0, .aload_n 0, 1), (1, .iconst 0, 1), (2, .putfield 125, 3), (5, .aload_n 0, 1), (6, .iconst (-1), 1), (7, .putfield 131, 3), (10, .aload_n 0, 1), (11, .iconst 0, 1), (12, .putfield 166, 3), (15, .aload_n 0, 1), (16, .iconst 0, 1), (17, .putfield 169, 3), (20, .aload_n 0, 1), (21, .iconst 0, 1), (22, .putfield 172, 3), (25, .aload_n 0, 1), (26, .iconst 0, 1), (27, .putfield 195, 3), (30, .aload_n 0, 1), (31, .iconst 0, 1), (32, .putfield 182, 3), (35, .aload_n 0, 1), (36, .iconst 0, 1), (37, .putfield 154, 3), (40, .iconst 1, 1), (41, .istore_n 1, 1), (42, .iload_n 1, 1), (43, .ifCond .eq 57, 3), (46, .aload_n 0, 1), (47, .getfield 131, 3), (50, .ifCond .ge 50, 3), (53, .aload_n 0, 1), (54, .invokevirtual 198, 3), (57, .aload_n 0, 1), (58, .getfield 131, 3), (61, .ifCond .ge 16, 3), (64, .aload_n 0, 1), (65, .invokevirtual 134, 3), (68, .bipush 59, 2), (70, .if_icmp .ne 7, 3), (73, .iconst 1, 1), (74, .goto 4, 3), (77, .iconst 0, 1), (78, .istore_n 1, 1), (79, .aload_n 0, 1), (80, .dup, 1), (81, .getfield 125, 3), (84, .iload_n 1, 1), (85, .ifCond .eq 7, 3), (88, .iconst 1, 1), (89, .goto 4, 3), (92, .iconst 0, 1), (93, .iadd, 1), (94, .putfield 125, 3), (97, .goto (-55), 3), (100, .aload_n 0, 1), (101, .getfield 131, 3), (104, .ifCond .ge 22, 3), (107, .aload_n 0, 1), (108, .getfield 125, 3), (111, .aload_n 0, 1), (112, .getfield 128, 3), (115, .if_icmp .ge 11, 3), (118, .aload_n 0, 1), (119, .aload_n 0, 1), (120, .getfield 125, 3), (123, .invokevirtual 138, 3), (126, .aload_n 0, 1), (127, .getfield 166, 3), (130, .ifCond .ne 11, 3), (133, .aload_n 0, 1), (134, .aload_n 0, 1), (135, .getfield 128, 3), (138, .invokevirtual 138, 3), (141, .aload_n 0, 1), (142, .getfield 131, 3), (145, .ireturn, 1)]
def mX9_reads : azM := (yX9_reads, cX9_reads, 2, some .int, false, 9, tX9_reads)
def tX9_readsRule : azT := [(0, .aload_n 0, 1), (1, .aload_n 0, 1), (2, .getfield 18, 3), (5, .bipush 81, 2), (7, .iload_n 1, 1), (8, .imul, 1), (9, .iaload, 1), (10, .putfield 128, 3), (13, .aload_n 0, 1), (14, .getfield 18, 3), (17, .bipush 81, 2), (19, .iload_n 1, 1), (20, .imul, 1), (21, .iconst 1, 1), (22, .iadd, 1), (23, .aload_n 0, 1), (24, .getfield 27, 3), (27, .iconst 0, 1), (28, .aload_n 0, 1), (29, .getfield 128, 3), (32, .invokestatic 201, 3), (35, .aload_n 0, 1), (36, .getfield 128, 3), (39, .ifCond .ne 5, 3), (42, .iconst 0, 1), (43, .ireturn, 1), (44, .aload_n 0, 1), (45, .invokevirtual 205, 3), (48, .pop, 1), (49, .iconst 1, 1), (50, .ireturn, 1)]
def mX9_readsRule : azM := (yX9_readsRule, cX9_readsRule, 2, some .boolean, false, 9, tX9_readsRule)
def tX9_rule : azT := [(0, .iload_n 1, 1), (1, .invokestatic 105, 3), (4, .ifCond .ne 5, 3), (7, .iconst (-1), 1), (8, .ireturn, 1), (9, .aload_n 0, 1), (10, .aload_n 0, 1), (11, .getfield 121, 3), (14, .putfield 128, 3), (17, .aload_n 0, 1), (18, .getfield 24, 3), (21, .iconst 0, 1), (22, .aload_n 0, 1), (23, .getfield 27, 3), (26, .iconst 0, 1), (27, .aload_n 0, 1), (28, .getfield 128, 3), (31, .invokestatic 201, 3), (34, .aload_n 0, 1), (35, .iconst 0, 1), (36, .putfield 121, 3), (39, .aload_n 0, 1), (40, .invokevirtual 205, 3), (43, .ifCond .lt 11, 3), (46, .bipush (-100), 2), (48, .aload_n 0, 1), (49, .getfield 131, 3), (52, .isub, 1), (53, .ireturn, 1), (54, .aload_n 0, 1), (55, .getfield 18, 3), (58, .bipush 81, 2), (60, .iload_n 1, 1), (61, .imul, 1), (62, .aload_n 0, 1), (63, .getfield 128, 3), (66, .iastore, 1), (67, .aload_n 0, 1), (68, .getfield 27, 3), (71, .iconst 0, 1), (72, .aload_n 0, 1), (73, .getfield 18, 3), (76, .bipush 81, 2), (78, .iload_n 1, 1), (79, .imul, 1), (80, .iconst 1, 1), (81, .iadd, 1), (82, .aload_n 0, 1), (83, .getfield 128, 3), (86, .invokestatic 201, 3), (89, .aload_n 0, 1), (90, .getfield 182, 3), (93, .ireturn, 1)]
def mX9_rule : azM := (yX9_rule, cX9_rule, 2, some .int, false, 9, tX9_rule)
def tX9_drop : azT := [(0, .iload_n 1, 1), (1, .invokestatic 105, 3), (4, .ifCond .ne 5, 3), (7, .iconst (-1), 1), (8, .ireturn, 1), (9, .aload_n 0, 1), (10, .getfield 18, 3), (13, .bipush 81, 2), (15, .iload_n 1, 1), (16, .imul, 1), (17, .iaload, 1), (18, .ifCond .ne 6, 3), (21, .bipush (-3), 2), (23, .ireturn, 1), (24, .aload_n 0, 1), (25, .getfield 18, 3), (28, .bipush 81, 2), (30, .iload_n 1, 1), (31, .imul, 1), (32, .iconst 0, 1), (33, .iastore, 1), (34, .iconst 1, 1), (35, .ireturn, 1)]
def mX9_drop : azM := (yX9_drop, cX9_drop, 2, some .int, false, 9, tX9_drop)
def tX9_has : azT := [(0, .iload_n 1, 1), (1, .invokestatic 105, 3), (4, .ifCond .eq 15, 3), (7, .iload_n 2, 1), (8, .i2l, 1), (9, .lconst 0, 1), (10, .ldc2_w 208, 3), (13, .invokestatic 97, 3), (16, .ifCond .ne 5, 3), (19, .iconst (-1), 1), (20, .ireturn, 1), (21, .aload_n 0, 1), (22, .iload_n 1, 1), (23, .invokevirtual 210, 3), (26, .ifCond .ne 6, 3), (29, .bipush (-3), 2), (31, .ireturn, 1), (32, .iconst 0, 1), (33, .istore_n 3, 1), (34, .iconst 0, 1), (35, .istore 4, 2), (37, .iload 4, 2), (39, .bipush 10, 2), (41, .if_icmp .ge 21, 3), (44, .iload_n 3, 1), (45, .aload_n 0, 1), (46, .getfield 195, 3), (49, .iload 4, 2), (51, .ishr, 1), (52, .iconst 1, 1), (53, .iand, 1), (54, .iadd, 1), (55, .istore_n 3, 1), (56, .iinc 4 1, 3), (59, .goto (-22), 3), (62, .iload_n 2, 1), (63, .ifCond .ne 10, 3), (66, .aload_n 0, 1), (67, .getfield 166, 3), (70, .goto 28, 3), (73, .iload_n 2, 1), (74, .iconst 1, 1), (75, .if_icmp .ne 10, 3), (78, .aload_n 0, 1), (79, .getfield 172, 3), (82, .goto 16, 3), (85, .iload_n 2, 1), (86, .iconst 2, 1), (87, .if_icmp .ne 10, 3), (90, .aload_n 0, 1), (91, .getfield 169, 3), (94, .goto 4, 3), (97, .iload_n 3, 1), (98, .ireturn, 1)]
def mX9_has : azM := (yX9_has, cX9_has, 5, some .int, false, 9, tX9_has)
def tX9_writes : azT := [(0, .aload_n 0, 1), (1, .getfield 48, 3), (4, .aload_n 0, 1), (5, .getfield 213, 3), (8, .iload_n 1, 1), (9, .iastore, 1), (10, .aload_n 0, 1), (11, .dup, 1), (12, .getfield 213, 3), (15, .iconst 1, 1), (16, .iadd, 1), (17, .putfield 213, 3), (20, .return_, 1)]
def mX9_writes : azM := (yX9_writes, cX9_writes, 2, none, false, 9, tX9_writes)
def tX9_sign : azT := [(0, .iconst 0, 1), (1, .istore_n 3, 1), (2, .iconst (-1), 1), (3, .istore 4, 2), (5, .iconst (-1), 1), (6, .istore 5, 2), (8, .iload_n 1, 1), (9, .istore 6, 2), (11, .iload 6, 2), (13, .iload_n 2, 1), (14, .if_icmp .ge 91, 3), (17, .aload_n 0, 1), (18, .getfield 27, 3), (21, .iload 6, 2), (23, .iaload, 1), (24, .istore 7, 2), (26, .iload_n 3, 1), (27, .iload 7, 2), (29, .bipush 40, 2), (31, .if_icmp .ne 7, 3), (34, .iconst 1, 1), (35, .goto 15, 3), (38, .iload 7, 2), (40, .bipush 41, 2), (42, .if_icmp .ne 7, 3), (45, .iconst (-1), 1), (46, .goto 4, 3), (49, .iconst 0, 1), (50, .iadd, 1), (51, .istore_n 3, 1), (52, .iload_n 3, 1), (53, .ifCond .ne 22, 3), (56, .iload 7, 2), (58, .bipush 43, 2), (60, .if_icmp .eq 10, 3), (63, .iload 7, 2), (65, .bipush 45, 2), (67, .if_icmp .ne 8, 3), (70, .iload 6, 2), (72, .goto 5, 3), (75, .iload 4, 2), (77, .istore 4, 2), (79, .iload_n 3, 1), (80, .ifCond .ne 15, 3), (83, .iload 7, 2), (85, .bipush 42, 2), (87, .if_icmp .ne 8, 3), (90, .iload 6, 2), (92, .goto 5, 3), (95, .iload 5, 2), (97, .istore 5, 2), (99, .iinc 6 1, 3), (102, .goto (-91), 3), (105, .iload 4, 2), (107, .ifCond .lt 8, 3), (110, .iload 4, 2), (112, .goto 5, 3), (115, .iload 5, 2), (117, .ireturn, 1)]
def mX9_sign : azM := (yX9_sign, cX9_sign, 8, some .int, false, 9, tX9_sign)
def tX9_bare : azT := [(0, .iload_n 1, 1), (1, .istore_n 3, 1), (2, .aload_n 0, 1), (3, .getfield 27, 3), (6, .iload_n 3, 1), (7, .iaload, 1), (8, .bipush 40, 2), (10, .if_icmp .ne 22, 3), (13, .aload_n 0, 1), (14, .iload_n 3, 1), (15, .iload_n 2, 1), (16, .iload_n 3, 1), (17, .iload_n 1, 1), (18, .isub, 1), (19, .isub, 1), (20, .invokevirtual 216, 3), (23, .ifCond .ge 9, 3), (26, .iinc 3 1, 3), (29, .goto (-27), 3), (32, .iload_n 3, 1), (33, .ireturn, 1)]
def mX9_bare : azM := (yX9_bare, cX9_bare, 4, some .int, false, 9, tX9_bare)
def tX9_looseness : azT := [(0, .aload_n 0, 1), (1, .iload_n 1, 1), (2, .iload_n 2, 1), (3, .invokevirtual 219, 3), (6, .istore_n 3, 1), (7, .aload_n 0, 1), (8, .iload_n 3, 1), (9, .iload_n 2, 1), (10, .iload_n 3, 1), (11, .iload_n 1, 1), (12, .isub, 1), (13, .isub, 1), (14, .invokevirtual 216, 3), (17, .istore 4, 2), (19, .iload 4, 2), (21, .ifCond .ge 7, 3), (24, .iconst 0, 1), (25, .goto 20, 3), (28, .aload_n 0, 1), (29, .getfield 27, 3), (32, .iload 4, 2), (34, .iaload, 1), (35, .bipush 42, 2), (37, .if_icmp .ne 7, 3), (40, .iconst 1, 1), (41, .goto 4, 3), (44, .iconst 2, 1), (45, .ireturn, 1)]
def mX9_looseness : azM := (yX9_looseness, cX9_looseness, 5, some .int, false, 9, tX9_looseness)
def tX9_spells : azT := [(0, .aload_n 0, 1), (1, .iload_n 1, 1), (2, .iload_n 2, 1), (3, .invokevirtual 219, 3), (6, .istore 4, 2), (8, .iload_n 2, 1), (9, .iload 4, 2), (11, .iload_n 1, 1), (12, .isub, 1), (13, .isub, 1), (14, .istore 5, 2), (16, .aload_n 0, 1), (17, .iload_n 1, 1), (18, .iload_n 2, 1), (19, .invokevirtual 222, 3), (22, .iload_n 3, 1), (23, .if_icmp .le 7, 3), (26, .iconst 1, 1), (27, .goto 4, 3), (30, .iconst 0, 1), (31, .istore 6, 2), (33, .iload 6, 2), (35, .ifCond .eq 9, 3), (38, .aload_n 0, 1), (39, .bipush 40, 2), (41, .invokevirtual 225, 3), (44, .aload_n 0, 1), (45, .iload 4, 2), (47, .iload 5, 2), (49, .invokevirtual 216, 3), (52, .istore 7, 2), (54, .iload 7, 2), (56, .ifCond .lt 60, 3), (59, .aload_n 0, 1), (60, .getfield 27, 3), (63, .iload 7, 2), (65, .iaload, 1), (66, .bipush 42, 2), (68, .if_icmp .ne 7, 3), (71, .iconst 1, 1), (72, .goto 4, 3), (75, .iconst 2, 1), (76, .istore 8, 2), (78, .aload_n 0, 1), (79, .iload 4, 2), (81, .iload 7, 2), (83, .iload 8, 2), (85, .invokevirtual 228, 3), (88, .aload_n 0, 1), (89, .aload_n 0, 1), (90, .getfield 27, 3), (93, .iload 7, 2), (95, .iaload, 1), (96, .invokevirtual 225, 3), (99, .aload_n 0, 1), (100, .iload 7, 2), (102, .iconst 1, 1), (103, .iadd, 1), (104, .iload 5, 2), (106, .iload 8, 2), (108, .iconst 1, 1), (109, .isub, 1), (110, .invokevirtual 228, 3), (113, .goto 63, 3), (116, .iload 5, 2), (118, .iload 4, 2), (120, .isub, 1), (121, .iconst 2, 1), (122, .if_icmp .ne 22, 3), (125, .aload_n 0, 1), (126, .getfield 27, 3), (129, .iload 4, 2), (131, .iaload, 1), (132, .bipush 48, 2), (134, .if_icmp .ne 10, 3), (137, .iload 4, 2), (139, .iconst 1, 1), (140, .iadd, 1), (141, .goto 5, 3), (144, .iload 4, 2), (146, .istore 8, 2), (148, .iload 8, 2), (150, .istore 9, 2), (152, .iload 9, 2), (154, .iload 5, 2), (156, .if_icmp .ge 20, 3), (159, .aload_n 0, 1), (160, .aload_n 0, 1), (161, .getfield 27, 3), (164, .iload 9, 2), (166, .iaload, 1), (167, .invokevirtual 225, 3), (170, .iinc 9 1, 3), (173, .goto (-21), 3), (176, .iload 6, 2), (178, .ifCond .eq 9, 3), (181, .aload_n 0, 1), (182, .bipush 41, 2), (184, .invokevirtual 225, 3), (187, .return_, 1)]
def mX9_spells : azM := (yX9_spells, cX9_spells, 10, none, false, 9, tX9_spells)
def tX9_end : azT := [(0, .iload_n 1, 1), (1, .istore_n 2, 1), (2, .iload_n 2, 1), (3, .aload_n 0, 1), (4, .getfield 128, 3), (7, .if_icmp .ge 64, 3), (10, .aload_n 0, 1), (11, .getfield 27, 3), (14, .iload_n 2, 1), (15, .iaload, 1), (16, .bipush 59, 2), (18, .if_icmp .eq 53, 3), (21, .aload_n 0, 1), (22, .getfield 27, 3), (25, .iload_n 2, 1), (26, .iaload, 1), (27, .bipush 38, 2), (29, .if_icmp .eq 42, 3), (32, .aload_n 0, 1), (33, .getfield 27, 3), (36, .iload_n 2, 1), (37, .iaload, 1), (38, .bipush 60, 2), (40, .if_icmp .eq 31, 3), (43, .aload_n 0, 1), (44, .getfield 27, 3), (47, .iload_n 2, 1), (48, .iaload, 1), (49, .bipush 61, 2), (51, .if_icmp .eq 20, 3), (54, .aload_n 0, 1), (55, .getfield 27, 3), (58, .iload_n 2, 1), (59, .iaload, 1), (60, .bipush 62, 2), (62, .if_icmp .eq 9, 3), (65, .iinc 2 1, 3), (68, .goto (-66), 3), (71, .iload_n 2, 1), (72, .ireturn, 1)]
def mX9_end : azM := (yX9_end, cX9_end, 3, some .int, false, 9, tX9_end)
def tX9_spell : azT := [(0, .iload_n 1, 1), (1, .invokestatic 105, 3), (4, .ifCond .ne 5, 3), (7, .iconst (-1), 1), (8, .ireturn, 1), (9, .aload_n 0, 1), (10, .iload_n 1, 1), (11, .invokevirtual 210, 3), (14, .ifCond .ne 6, 3), (17, .bipush (-3), 2), (19, .ireturn, 1), (20, .aload_n 0, 1), (21, .iconst 0, 1), (22, .putfield 213, 3), (25, .iconst 0, 1), (26, .istore_n 2, 1), (27, .iload_n 2, 1), (28, .aload_n 0, 1), (29, .getfield 128, 3), (32, .if_icmp .ge 243, 3), (35, .aload_n 0, 1), (36, .getfield 27, 3), (39, .iload_n 2, 1), (40, .iaload, 1), (41, .bipush 111, 2), (43, .if_icmp .ne 7, 3), (46, .iconst 1, 1), (47, .goto 4, 3), (50, .iconst 0, 1), (51, .istore_n 3, 1), (52, .aload_n 0, 1), (53, .getfield 27, 3), (56, .iload_n 2, 1), (57, .iaload, 1), (58, .bipush 105, 2), (60, .if_icmp .ne 20, 3), (63, .aload_n 0, 1), (64, .getfield 27, 3), (67, .iload_n 2, 1), (68, .iconst 1, 1), (69, .iadd, 1), (70, .iaload, 1), (71, .bipush 102, 2), (73, .if_icmp .ne 7, 3), (76, .iconst 1, 1), (77, .goto 4, 3), (80, .iconst 0, 1), (81, .istore 4, 2), (83, .iload_n 3, 1), (84, .ifCond .eq 8, 3), (87, .bipush 6, 2), (89, .goto 13, 3), (92, .iload 4, 2), (94, .ifCond .eq 7, 3), (97, .iconst 3, 1), (98, .goto 4, 3), (101, .iconst 0, 1), (102, .istore 5, 2), (104, .iconst 0, 1), (105, .istore 6, 2), (107, .iload 6, 2), (109, .iload 5, 2), (111, .if_icmp .ge 22, 3), (114, .aload_n 0, 1), (115, .aload_n 0, 1), (116, .getfield 27, 3), (119, .iload_n 2, 1), (120, .iload 6, 2), (122, .iadd, 1), (123, .iaload, 1), (124, .invokevirtual 225, 3), (127, .iinc 6 1, 3), (130, .goto (-23), 3), (133, .iload_n 2, 1), (134, .iload 5, 2), (136, .iadd, 1), (137, .istore_n 2, 1), (138, .iload 5, 2), (140, .ifCond .le 75, 3), (143, .iload_n 2, 1), (144, .aload_n 0, 1), (145, .getfield 128, 3), (148, .if_icmp .ge 67, 3), (151, .aload_n 0, 1), (152, .getfield 27, 3), (155, .iload_n 2, 1), (156, .iaload, 1), (157, .bipush 59, 2), (159, .if_icmp .eq 56, 3), (162, .aload_n 0, 1), (163, .iload_n 2, 1), (164, .invokevirtual 232, 3), (167, .istore 6, 2), (169, .aload_n 0, 1), (170, .iload_n 2, 1), (171, .iload 6, 2), (173, .iconst 2, 1), (174, .invokevirtual 228, 3), (177, .iload 6, 2), (179, .istore_n 2, 1), (180, .iload_n 2, 1), (181, .aload_n 0, 1), (182, .getfield 128, 3), (185, .if_icmp .ge 27, 3), (188, .aload_n 0, 1), (189, .getfield 27, 3), (192, .iload_n 2, 1), (193, .iaload, 1), (194, .bipush 59, 2), (196, .if_icmp .eq 16, 3), (199, .aload_n 0, 1), (200, .aload_n 0, 1), (201, .getfield 27, 3), (204, .iload_n 2, 1), (205, .iaload, 1), (206, .invokevirtual 225, 3), (209, .iinc 2 1, 3), (212, .goto (-74), 3), (215, .iload 5, 2), (217, .ifCond .ne 38, 3), (220, .iload_n 2, 1), (221, .aload_n 0, 1), (222, .getfield 128, 3), (225, .if_icmp .ge 30, 3), (228, .aload_n 0, 1), (229, .getfield 27, 3), (232, .iload_n 2, 1), (233, .iaload, 1), (234, .bipush 59, 2), (236, .if_icmp .eq 19, 3), (239, .aload_n 0, 1), (240, .aload_n 0, 1), (241, .getfield 27, 3), (244, .iload_n 2, 1), (245, .iaload, 1), (246, .invokevirtual 225, 3), (249, .iinc 2 1, 3), (252, .goto (-37), 3), (255, .iload_n 2, 1), (256, .aload_n 0, 1), (257, .getfield 128, 3), (260, .if_icmp .ge 12, 3), (263, .aload_n 0, 1), (264, .bipush 59, 2), (266, .invokevirtual 225, 3), (269, .iinc 2 1, 3), (272, .goto (-245), 3), (275, .aload_n 0, 1), (276, .getfield 213, 3), (279, .ireturn, 1)]
def mX9_spell : azM := (yX9_spell, cX9_spell, 7, some .int, false, 9, tX9_spell)
def tX9_writesNumber : azT := [(0, .iload_n 1, 1), (1, .bipush 9, 2), (3, .if_icmp .le 14, 3), (6, .aload_n 0, 1), (7, .bipush 48, 2), (9, .iload_n 1, 1), (10, .bipush 10, 2), (12, .idiv, 1), (13, .iadd, 1), (14, .invokevirtual 225, 3), (17, .aload_n 0, 1), (18, .bipush 48, 2), (20, .iload_n 1, 1), (21, .bipush 10, 2), (23, .irem, 1), (24, .iadd, 1), (25, .invokevirtual 225, 3), (28, .return_, 1)]
def mX9_writesNumber : azM := (yX9_writesNumber, cX9_writesNumber, 2, none, false, 9, tX9_writesNumber)
def tX9_line : azT := [(0, .aload_n 0, 1), (1, .iconst 0, 1), (2, .putfield 213, 3), (5, .iconst 0, 1), (6, .istore_n 1, 1), (7, .iload_n 1, 1), (8, .bipush 10, 2), (10, .if_icmp .ge 92, 3), (13, .aload_n 0, 1), (14, .getfield 9, 3), (17, .iload_n 1, 1), (18, .iaload, 1), (19, .ifCond .le 77, 3), (22, .aload_n 0, 1), (23, .getfield 213, 3), (26, .ifCond .le 9, 3), (29, .aload_n 0, 1), (30, .bipush 32, 2), (32, .invokevirtual 225, 3), (35, .aload_n 0, 1), (36, .bipush 80, 2), (38, .invokevirtual 225, 3), (41, .aload_n 0, 1), (42, .bipush 48, 2), (44, .iload_n 1, 1), (45, .iadd, 1), (46, .invokevirtual 225, 3), (49, .iconst 0, 1), (50, .istore_n 2, 1), (51, .iload_n 2, 1), (52, .aload_n 0, 1), (53, .getfield 9, 3), (56, .iload_n 1, 1), (57, .iaload, 1), (58, .if_icmp .ge 38, 3), (61, .aload_n 0, 1), (62, .iload_n 2, 1), (63, .ifCond .ne 8, 3), (66, .bipush 61, 2), (68, .goto 5, 3), (71, .bipush 44, 2), (73, .invokevirtual 225, 3), (76, .aload_n 0, 1), (77, .aload_n 0, 1), (78, .getfield 9, 3), (81, .iload_n 1, 1), (82, .iload_n 2, 1), (83, .invokestatic 101, 3), (86, .iaload, 1), (87, .invokevirtual 236, 3), (90, .iinc 2 1, 3), (93, .goto (-42), 3), (96, .iinc 1 1, 3), (99, .goto (-92), 3), (102, .aload_n 0, 1), (103, .getfield 213, 3), (106, .ireturn, 1)]
def mX9_line : azM := (yX9_line, cX9_line, 3, some .int, false, 9, tX9_line)
def tX9_paper : azT := [(0, .iload_n 1, 1), (1, .i2l, 1), (2, .lconst 0, 1), (3, .aload_n 0, 1), (4, .getfield 213, 3), (7, .iconst 1, 1), (8, .isub, 1), (9, .i2l, 1), (10, .invokestatic 97, 3), (13, .ifCond .eq 12, 3), (16, .aload_n 0, 1), (17, .getfield 48, 3), (20, .iload_n 1, 1), (21, .iaload, 1), (22, .goto 4, 3), (25, .iconst (-1), 1), (26, .ireturn, 1)]
def mX9_paper : azM := (yX9_paper, cX9_paper, 2, some .int, false, 9, tX9_paper)
def tX9_isBinding : azT := [(0, .iconst 0, 1), (1, .istore_n 2, 1), (2, .iconst 0, 1), (3, .istore_n 3, 1), (4, .iload_n 3, 1), (5, .aload_n 0, 1), (6, .getfield 166, 3), (9, .if_icmp .ge 133, 3), (12, .aload_n 1, 1), (13, .aload_n 0, 1), (14, .getfield 30, 3), (17, .iload_n 3, 1), (18, .iaload, 1), (19, .aload_n 0, 1), (20, .getfield 51, 3), (23, .iload_n 3, 1), (24, .iaload, 1), (25, .invokestatic 101, 3), (28, .iaload, 1), (29, .istore 4, 2), (31, .iconst 0, 1), (32, .istore 5, 2), (34, .iload 5, 2), (36, .iload_n 3, 1), (37, .if_icmp .ge 43, 3), (40, .aload_n 0, 1), (41, .getfield 30, 3), (44, .iload 5, 2), (46, .iaload, 1), (47, .aload_n 0, 1), (48, .getfield 30, 3), (51, .iload_n 3, 1), (52, .iaload, 1), (53, .if_icmp .ne 21, 3), (56, .aload_n 0, 1), (57, .getfield 51, 3), (60, .iload 5, 2), (62, .iaload, 1), (63, .aload_n 0, 1), (64, .getfield 51, 3), (67, .iload_n 3, 1), (68, .iaload, 1), (69, .if_icmp .ne 5, 3), (72, .iconst 0, 1), (73, .ireturn, 1), (74, .iinc 5 1, 3), (77, .goto (-43), 3), (80, .iload_n 2, 1), (81, .aload_n 0, 1), (82, .getfield 33, 3), (85, .iload_n 3, 1), (86, .iaload, 1), (87, .ishr, 1), (88, .iconst 1, 1), (89, .iand, 1), (90, .iconst 1, 1), (91, .if_icmp .ne 21, 3), (94, .aload_n 0, 1), (95, .getfield 45, 3), (98, .aload_n 0, 1), (99, .getfield 33, 3), (102, .iload_n 3, 1), (103, .iaload, 1), (104, .iaload, 1), (105, .iload 4, 2), (107, .if_icmp .eq 5, 3), (110, .iconst 0, 1), (111, .ireturn, 1), (112, .iload_n 2, 1), (113, .iconst 1, 1), (114, .aload_n 0, 1), (115, .getfield 33, 3), (118, .iload_n 3, 1), (119, .iaload, 1), (120, .ishl, 1), (121, .ior, 1), (122, .istore_n 2, 1), (123, .aload_n 0, 1), (124, .getfield 45, 3), (127, .aload_n 0, 1), (128, .getfield 33, 3), (131, .iload_n 3, 1), (132, .iaload, 1), (133, .iload 4, 2), (135, .iastore, 1), (136, .iinc 3 1, 3), (139, .goto (-135), 3), (142, .iconst 1, 1), (143, .istore_n 3, 1), (144, .iconst 0, 1), (145, .istore 4, 2), (147, .iload 4, 2), (149, .aload_n 0, 1), (150, .getfield 172, 3), (153, .if_icmp .ge 29, 3), (156, .iload_n 3, 1), (157, .ifCond .eq 25, 3), (160, .aload_n 0, 1), (161, .aload_n 0, 1), (162, .getfield 42, 3), (165, .iload 4, 2), (167, .iaload, 1), (168, .putfield 125, 3), (171, .aload_n 0, 1), (172, .invokevirtual 175, 3), (175, .istore_n 3, 1), (176, .iinc 4 1, 3), (179, .goto (-32), 3), (182, .iload_n 3, 1), (183, .ireturn, 1)]
def mX9_isBinding : azM := (yX9_isBinding, cX9_isBinding, 6, some .boolean, false, 9, tX9_isBinding)
def tX9_binds : azT := [(0, .iconst 1, 1), (1, .istore_n 3, 1), (2, .iconst 0, 1), (3, .istore 4, 2), (5, .iload 4, 2), (7, .aload_n 0, 1), (8, .getfield 166, 3), (11, .if_icmp .ge 21, 3), (14, .iload_n 3, 1), (15, .aload_n 1, 1), (16, .aload_n 0, 1), (17, .getfield 30, 3), (20, .iload 4, 2), (22, .iaload, 1), (23, .iaload, 1), (24, .imul, 1), (25, .istore_n 3, 1), (26, .iinc 4 1, 3), (29, .goto (-24), 3), (32, .iconst 0, 1), (33, .istore 4, 2), (35, .iconst 0, 1), (36, .istore 5, 2), (38, .iload 5, 2), (40, .iload_n 3, 1), (41, .if_icmp .ge 122, 3), (44, .iload_n 2, 1), (45, .ifCond .ne 8, 3), (48, .iload 4, 2), (50, .ifCond .ne 113, 3), (53, .iload 5, 2), (55, .istore 6, 2), (57, .aload_n 0, 1), (58, .getfield 166, 3), (61, .iconst 1, 1), (62, .isub, 1), (63, .istore 7, 2), (65, .iload 7, 2), (67, .ifCond .lt 42, 3), (70, .aload_n 0, 1), (71, .getfield 51, 3), (74, .iload 7, 2), (76, .iload 6, 2), (78, .aload_n 1, 1), (79, .aload_n 0, 1), (80, .getfield 30, 3), (83, .iload 7, 2), (85, .iaload, 1), (86, .iaload, 1), (87, .irem, 1), (88, .iastore, 1), (89, .iload 6, 2), (91, .aload_n 1, 1), (92, .aload_n 0, 1), (93, .getfield 30, 3), (96, .iload 7, 2), (98, .iaload, 1), (99, .iaload, 1), (100, .idiv, 1), (101, .istore 6, 2), (103, .iinc 7 (-1), 3), (106, .goto (-41), 3), (109, .aload_n 0, 1), (110, .aload_n 1, 1), (111, .invokevirtual 239, 3), (114, .ifCond .eq 43, 3), (117, .iconst 0, 1), (118, .istore 7, 2), (120, .iload 7, 2), (122, .aload_n 0, 1), (123, .getfield 166, 3), (126, .if_icmp .ge 28, 3), (129, .iload 4, 2), (131, .ifCond .ne 23, 3), (134, .aload_n 0, 1), (135, .getfield 54, 3), (138, .iload 7, 2), (140, .aload_n 0, 1), (141, .getfield 51, 3), (144, .iload 7, 2), (146, .iaload, 1), (147, .iastore, 1), (148, .iinc 7 1, 3), (151, .goto (-31), 3), (154, .iinc 4 1, 3), (157, .iinc 5 1, 3), (160, .goto (-122), 3), (163, .iload 4, 2), (165, .ireturn, 1)]
def mX9_binds : azM := (yX9_binds, cX9_binds, 8, some .int, false, 9, tX9_binds)
def tX9_goes : azT := [(0, .aload_n 0, 1), (1, .iload_n 1, 1), (2, .invokevirtual 210, 3), (5, .ifCond .eq 12, 3), (8, .aload_n 0, 1), (9, .aload_n 2, 1), (10, .iconst 0, 1), (11, .invokevirtual 243, 3), (14, .ifCond .ne 5, 3), (17, .iconst 0, 1), (18, .ireturn, 1), (19, .iconst 0, 1), (20, .istore_n 3, 1), (21, .iload_n 3, 1), (22, .aload_n 0, 1), (23, .getfield 166, 3), (26, .if_icmp .ge 37, 3), (29, .aload_n 0, 1), (30, .getfield 45, 3), (33, .aload_n 0, 1), (34, .getfield 33, 3), (37, .iload_n 3, 1), (38, .iaload, 1), (39, .aload_n 2, 1), (40, .aload_n 0, 1), (41, .getfield 30, 3), (44, .iload_n 3, 1), (45, .iaload, 1), (46, .aload_n 0, 1), (47, .getfield 54, 3), (50, .iload_n 3, 1), (51, .iaload, 1), (52, .invokestatic 101, 3), (55, .iaload, 1), (56, .iastore, 1), (57, .iinc 3 1, 3), (60, .goto (-39), 3), (63, .aload_n 2, 1), (64, .iconst 0, 1), (65, .aload_n 0, 1), (66, .getfield 57, 3), (69, .iconst 0, 1), (70, .bipush 70, 2), (72, .invokestatic 201, 3), (75, .iconst 0, 1), (76, .istore_n 3, 1), (77, .iload_n 3, 1), (78, .aload_n 0, 1), (79, .getfield 166, 3), (82, .if_icmp .ge 30, 3), (85, .aload_n 0, 1), (86, .getfield 57, 3), (89, .aload_n 0, 1), (90, .getfield 30, 3), (93, .iload_n 3, 1), (94, .iaload, 1), (95, .aload_n 0, 1), (96, .getfield 54, 3), (99, .iload_n 3, 1), (100, .iaload, 1), (101, .invokestatic 101, 3), (104, .iconst (-1), 1), (105, .iastore, 1), (106, .iinc 3 1, 3), (109, .goto (-32), 3), (112, .iconst 0, 1), (113, .istore_n 3, 1), (114, .iload_n 3, 1), (115, .bipush 10, 2), (117, .if_icmp .ge 70, 3), (120, .iconst 5, 1), (121, .istore 4, 2), (123, .iload 4, 2), (125, .ifCond .lt 56, 3), (128, .aload_n 0, 1), (129, .getfield 57, 3), (132, .iload_n 3, 1), (133, .iload 4, 2), (135, .invokestatic 101, 3), (138, .iaload, 1), (139, .ifCond .lt 26, 3), (142, .aload_n 0, 1), (143, .getfield 195, 3), (146, .iload_n 3, 1), (147, .ishr, 1), (148, .iconst 1, 1), (149, .iand, 1), (150, .iconst 1, 1), (151, .if_icmp .ne 24, 3), (154, .iload 4, 2), (156, .aload_n 0, 1), (157, .getfield 57, 3), (160, .iload_n 3, 1), (161, .iaload, 1), (162, .if_icmp .ge 13, 3), (165, .aload_n 0, 1), (166, .getfield 57, 3), (169, .iload_n 3, 1), (170, .iload 4, 2), (172, .invokestatic 115, 3), (175, .iinc 4 (-1), 3), (178, .goto (-55), 3), (181, .iinc 3 1, 3), (184, .goto (-70), 3), (187, .iconst 1, 1), (188, .istore_n 3, 1), (189, .iconst 0, 1), (190, .istore 4, 2), (192, .iload 4, 2), (194, .aload_n 0, 1), (195, .getfield 169, 3), (198, .if_icmp .ge 60, 3), (201, .aload_n 0, 1), (202, .aload_n 0, 1), (203, .getfield 39, 3), (206, .iload 4, 2), (208, .iaload, 1), (209, .putfield 125, 3), (212, .iload_n 3, 1), (213, .ifCond .eq 37, 3), (216, .aload_n 0, 1), (217, .getfield 57, 3), (220, .aload_n 0, 1), (221, .getfield 36, 3), (224, .iload 4, 2), (226, .iaload, 1), (227, .aload_n 0, 1), (228, .invokevirtual 160, 3), (231, .bipush 100, 2), (233, .irem, 1), (234, .bipush 100, 2), (236, .iadd, 1), (237, .bipush 100, 2), (239, .irem, 1), (240, .invokestatic 111, 3), (243, .ifCond .eq 7, 3), (246, .iconst 1, 1), (247, .goto 4, 3), (250, .iconst 0, 1), (251, .istore_n 3, 1), (252, .iinc 4 1, 3), (255, .goto (-63), 3), (258, .iload_n 3, 1), (259, .ireturn, 1)]
def mX9_goes : azM := (yX9_goes, cX9_goes, 5, some .boolean, false, 9, tX9_goes)
def tX9_can : azT := [(0, .iload_n 1, 1), (1, .invokestatic 105, 3), (4, .ifCond .ne 5, 3), (7, .iconst (-1), 1), (8, .ireturn, 1), (9, .aload_n 0, 1), (10, .getfield 18, 3), (13, .bipush 81, 2), (15, .iload_n 1, 1), (16, .imul, 1), (17, .iaload, 1), (18, .ifCond .ne 8, 3), (21, .bipush (-3), 2), (23, .goto 20, 3), (26, .aload_n 0, 1), (27, .iload_n 1, 1), (28, .aload_n 0, 1), (29, .getfield 9, 3), (32, .invokevirtual 247, 3), (35, .ifCond .eq 7, 3), (38, .iconst 1, 1), (39, .goto 4, 3), (42, .iconst 0, 1), (43, .ireturn, 1)]
def mX9_can : azM := (yX9_can, cX9_can, 2, some .int, false, 9, tX9_can)
def tX9_bound : azT := [(0, .iload_n 1, 1), (1, .invokestatic 105, 3), (4, .ifCond .ne 5, 3), (7, .iconst (-1), 1), (8, .ireturn, 1), (9, .aload_n 0, 1), (10, .iload_n 1, 1), (11, .invokevirtual 210, 3), (14, .ifCond .ne 6, 3), (17, .bipush (-3), 2), (19, .ireturn, 1), (20, .iload_n 2, 1), (21, .i2l, 1), (22, .lconst 0, 1), (23, .aload_n 0, 1), (24, .getfield 166, 3), (27, .iconst 1, 1), (28, .isub, 1), (29, .i2l, 1), (30, .invokestatic 97, 3), (33, .ifCond .ne 5, 3), (36, .iconst (-1), 1), (37, .ireturn, 1), (38, .aload_n 0, 1), (39, .aload_n 0, 1), (40, .getfield 9, 3), (43, .iconst 0, 1), (44, .invokevirtual 243, 3), (47, .ifCond .ne 8, 3), (50, .bipush (-5), 2), (52, .goto 9, 3), (55, .aload_n 0, 1), (56, .getfield 54, 3), (59, .iload_n 2, 1), (60, .iaload, 1), (61, .ireturn, 1)]
def mX9_bound : azM := (yX9_bound, cX9_bound, 3, some .int, false, 9, tX9_bound)
def tX9_bindings : azT := [(0, .iload_n 1, 1), (1, .invokestatic 105, 3), (4, .ifCond .ne 5, 3), (7, .iconst (-1), 1), (8, .ireturn, 1), (9, .aload_n 0, 1), (10, .iload_n 1, 1), (11, .invokevirtual 210, 3), (14, .ifCond .eq 15, 3), (17, .aload_n 0, 1), (18, .aload_n 0, 1), (19, .getfield 9, 3), (22, .iconst 1, 1), (23, .invokevirtual 243, 3), (26, .goto 5, 3), (29, .bipush (-3), 2), (31, .ireturn, 1)]
def mX9_bindings : azM := (yX9_bindings, cX9_bindings, 2, some .int, false, 9, tX9_bindings)
def tX9_go : azT := [(0, .iload_n 1, 1), (1, .invokestatic 105, 3), (4, .ifCond .ne 5, 3), (7, .iconst (-1), 1), (8, .ireturn, 1), (9, .aload_n 0, 1), (10, .iload_n 1, 1), (11, .aload_n 0, 1), (12, .getfield 9, 3), (15, .invokevirtual 247, 3), (18, .ifCond .ne 6, 3), (21, .bipush (-3), 2), (23, .ireturn, 1), (24, .aload_n 0, 1), (25, .getfield 57, 3), (28, .iconst 0, 1), (29, .aload_n 0, 1), (30, .getfield 9, 3), (33, .iconst 0, 1), (34, .bipush 70, 2), (36, .invokestatic 201, 3), (39, .aload_n 0, 1), (40, .dup, 1), (41, .getfield 251, 3), (44, .iconst 1, 1), (45, .iadd, 1), (46, .putfield 251, 3), (49, .aload_n 0, 1), (50, .getfield 251, 3), (53, .ireturn, 1)]
def mX9_go : azM := (yX9_go, cX9_go, 2, some .int, false, 9, tX9_go)
def tX9_all : azT := [(0, .iconst 0, 1), (1, .istore_n 1, 1), (2, .iconst 0, 1), (3, .istore_n 2, 1), (4, .iload_n 2, 1), (5, .bipush 10, 2), (7, .if_icmp .ge 31, 3), (10, .iload_n 1, 1), (11, .aload_n 0, 1), (12, .iload_n 2, 1), (13, .aload_n 0, 1), (14, .getfield 9, 3), (17, .invokevirtual 247, 3), (20, .ifCond .eq 9, 3), (23, .iconst 1, 1), (24, .iload_n 2, 1), (25, .ishl, 1), (26, .goto 4, 3), (29, .iconst 0, 1), (30, .ior, 1), (31, .istore_n 1, 1), (32, .iinc 2 1, 3), (35, .goto (-31), 3), (38, .iload_n 1, 1), (39, .ireturn, 1)]
def mX9_all : azM := (yX9_all, cX9_all, 3, some .int, false, 9, tX9_all)
def tX9_repeats : azT := [(0, .aload_n 0, 1), (1, .getfield 9, 3), (4, .iconst 0, 1), (5, .aload_n 0, 1), (6, .getfield 60, 3), (9, .iconst 0, 1), (10, .bipush 70, 2), (12, .invokestatic 201, 3), (15, .iconst 0, 1), (16, .istore_n 3, 1), (17, .iconst 1, 1), (18, .istore 4, 2), (20, .iload 4, 2), (22, .ifCond .eq 88, 3), (25, .iload_n 3, 1), (26, .iload_n 2, 1), (27, .if_icmp .ge 83, 3), (30, .iconst 0, 1), (31, .istore 4, 2), (33, .iconst 0, 1), (34, .istore 5, 2), (36, .iload 5, 2), (38, .bipush 10, 2), (40, .if_icmp .ge 44, 3), (43, .iload 4, 2), (45, .ifCond .ne 39, 3), (48, .iload_n 1, 1), (49, .iload 5, 2), (51, .ishr, 1), (52, .iconst 1, 1), (53, .iand, 1), (54, .iconst 1, 1), (55, .if_icmp .ne 20, 3), (58, .aload_n 0, 1), (59, .iload 5, 2), (61, .aload_n 0, 1), (62, .getfield 60, 3), (65, .invokevirtual 247, 3), (68, .ifCond .eq 7, 3), (71, .iconst 1, 1), (72, .goto 4, 3), (75, .iconst 0, 1), (76, .istore 4, 2), (78, .iinc 5 1, 3), (81, .goto (-45), 3), (84, .iload 4, 2), (86, .ifCond .eq (-66), 3), (89, .aload_n 0, 1), (90, .getfield 57, 3), (93, .iconst 0, 1), (94, .aload_n 0, 1), (95, .getfield 60, 3), (98, .iconst 0, 1), (99, .bipush 70, 2), (101, .invokestatic 201, 3), (104, .iinc 3 1, 3), (107, .goto (-87), 3), (110, .iload_n 3, 1), (111, .ireturn, 1)]
def mX9_repeats : azM := (yX9_repeats, cX9_repeats, 6, some .int, false, 9, tX9_repeats)
def tX9_isRepeat : azT := [(0, .iload_n 0, 1), (1, .i2l, 1), (2, .lconst 0, 1), (3, .ldc2_w 254, 3), (6, .invokestatic 97, 3), (9, .ifCond .eq 19, 3), (12, .iload_n 1, 1), (13, .i2l, 1), (14, .lconst 1, 1), (15, .ldc2_w 256, 3), (18, .invokestatic 97, 3), (21, .ifCond .eq 7, 3), (24, .iconst 1, 1), (25, .goto 4, 3), (28, .iconst 0, 1), (29, .ireturn, 1)]
def mX9_isRepeat : azM := (yX9_isRepeat, cX9_isRepeat, 2, some .boolean, false, 9, tX9_isRepeat)
def tX9_again : azT := [(0, .iload_n 1, 1), (1, .iload_n 2, 1), (2, .invokestatic 258, 3), (5, .ifCond .eq 12, 3), (8, .aload_n 0, 1), (9, .iload_n 1, 1), (10, .iload_n 2, 1), (11, .invokevirtual 262, 3), (14, .goto 5, 3), (17, .bipush (-2), 2), (19, .ireturn, 1)]
def mX9_again : azM := (yX9_again, cX9_again, 3, some .int, false, 9, tX9_again)
def tX9_last : azT := [(0, .iload_n 1, 1), (1, .iload_n 2, 1), (2, .invokestatic 258, 3), (5, .ifCond .ne 6, 3), (8, .bipush (-2), 2), (10, .ireturn, 1), (11, .iload_n 3, 1), (12, .invokestatic 105, 3), (15, .ifCond .ne 5, 3), (18, .iconst (-1), 1), (19, .ireturn, 1), (20, .aload_n 0, 1), (21, .iload_n 1, 1), (22, .iload_n 2, 1), (23, .invokevirtual 262, 3), (26, .pop, 1), (27, .aload_n 0, 1), (28, .getfield 60, 3), (31, .iload_n 3, 1), (32, .iaload, 1), (33, .ifCond .ne 8, 3), (36, .bipush (-5), 2), (38, .goto 20, 3), (41, .aload_n 0, 1), (42, .getfield 60, 3), (45, .iload_n 3, 1), (46, .aload_n 0, 1), (47, .getfield 60, 3), (50, .iload_n 3, 1), (51, .iaload, 1), (52, .iconst 1, 1), (53, .isub, 1), (54, .invokestatic 101, 3), (57, .iaload, 1), (58, .ireturn, 1)]
def mX9_last : azM := (yX9_last, cX9_last, 4, some .int, false, 9, tX9_last)
def tX9_placeOf : azT := [(0, .iconst 0, 1), (1, .istore_n 2, 1), (2, .iload_n 2, 1), (3, .aload_n 0, 1), (4, .getfield 265, 3), (7, .if_icmp .ge 62, 3), (10, .iconst 1, 1), (11, .istore_n 3, 1), (12, .iconst 0, 1), (13, .istore 4, 2), (15, .iload 4, 2), (17, .bipush 70, 2), (19, .if_icmp .ge 38, 3), (22, .iload_n 3, 1), (23, .ifCond .eq 34, 3), (26, .aload_n 0, 1), (27, .getfield 63, 3), (30, .bipush 70, 2), (32, .iload_n 2, 1), (33, .imul, 1), (34, .iload 4, 2), (36, .iadd, 1), (37, .iaload, 1), (38, .aload_n 1, 1), (39, .iload 4, 2), (41, .iaload, 1), (42, .if_icmp .ne 7, 3), (45, .iconst 1, 1), (46, .goto 4, 3), (49, .iconst 0, 1), (50, .istore_n 3, 1), (51, .iinc 4 1, 3), (54, .goto (-39), 3), (57, .iload_n 3, 1), (58, .ifCond .eq 5, 3), (61, .iload_n 2, 1), (62, .ireturn, 1), (63, .iinc 2 1, 3), (66, .goto (-64), 3), (69, .iconst (-1), 1), (70, .ireturn, 1)]
def mX9_placeOf : azM := (yX9_placeOf, cX9_placeOf, 5, some .int, false, 9, tX9_placeOf)
def tX9_finds : azT := [(0, .iload_n 1, 1), (1, .i2l, 1), (2, .lconst 1, 1), (3, .ldc2_w 268, 3), (6, .invokestatic 97, 3), (9, .ifCond .ne 5, 3), (12, .iconst 0, 1), (13, .ireturn, 1), (14, .aload_n 0, 1), (15, .iconst 1, 1), (16, .putfield 265, 3), (19, .aload_n 0, 1), (20, .getfield 9, 3), (23, .iconst 0, 1), (24, .aload_n 0, 1), (25, .getfield 63, 3), (28, .iconst 0, 1), (29, .bipush 70, 2), (31, .invokestatic 201, 3), (34, .iconst 0, 1), (35, .istore_n 2, 1), (36, .iload_n 2, 1), (37, .aload_n 0, 1), (38, .getfield 265, 3), (41, .if_icmp .ge 150, 3), (44, .iconst 0, 1), (45, .istore_n 3, 1), (46, .iload_n 3, 1), (47, .bipush 10, 2), (49, .if_icmp .ge 136, 3), (52, .aload_n 0, 1), (53, .getfield 63, 3), (56, .bipush 70, 2), (58, .iload_n 2, 1), (59, .imul, 1), (60, .aload_n 0, 1), (61, .getfield 75, 3), (64, .iconst 0, 1), (65, .bipush 70, 2), (67, .invokestatic 201, 3), (70, .bipush (-2), 2), (72, .istore 4, 2), (74, .aload_n 0, 1), (75, .iload_n 3, 1), (76, .aload_n 0, 1), (77, .getfield 75, 3), (80, .invokevirtual 247, 3), (83, .ifCond .eq 83, 3), (86, .aload_n 0, 1), (87, .aload_n 0, 1), (88, .getfield 57, 3), (91, .invokevirtual 270, 3), (94, .istore 4, 2), (96, .iload 4, 2), (98, .ifCond .ge 68, 3), (101, .aload_n 0, 1), (102, .getfield 265, 3), (105, .iload_n 1, 1), (106, .if_icmp .ge 60, 3), (109, .aload_n 0, 1), (110, .getfield 265, 3), (113, .istore 4, 2), (115, .aload_n 0, 1), (116, .getfield 57, 3), (119, .iconst 0, 1), (120, .aload_n 0, 1), (121, .getfield 63, 3), (124, .bipush 70, 2), (126, .aload_n 0, 1), (127, .getfield 265, 3), (130, .imul, 1), (131, .bipush 70, 2), (133, .invokestatic 201, 3), (136, .aload_n 0, 1), (137, .getfield 66, 3), (140, .aload_n 0, 1), (141, .getfield 265, 3), (144, .iload_n 3, 1), (145, .iastore, 1), (146, .aload_n 0, 1), (147, .getfield 69, 3), (150, .aload_n 0, 1), (151, .getfield 265, 3), (154, .iload_n 2, 1), (155, .iastore, 1), (156, .aload_n 0, 1), (157, .dup, 1), (158, .getfield 265, 3), (161, .iconst 1, 1), (162, .iadd, 1), (163, .putfield 265, 3), (166, .aload_n 0, 1), (167, .getfield 72, 3), (170, .bipush 10, 2), (172, .iload_n 2, 1), (173, .imul, 1), (174, .iload_n 3, 1), (175, .iadd, 1), (176, .iload 4, 2), (178, .iastore, 1), (179, .iinc 3 1, 3), (182, .goto (-136), 3), (185, .iinc 2 1, 3), (188, .goto (-152), 3), (191, .iconst 1, 1), (192, .ireturn, 1)]
def mX9_finds : azM := (yX9_finds, cX9_finds, 5, some .boolean, false, 9, tX9_finds)
def tX9_reach : azT := [(0, .aload_n 0, 1), (1, .iload_n 1, 1), (2, .invokevirtual 274, 3), (5, .ifCond .eq 10, 3), (8, .aload_n 0, 1), (9, .getfield 265, 3), (12, .goto 5, 3), (15, .bipush (-2), 2), (17, .ireturn, 1)]
def mX9_reach : azM := (yX9_reach, cX9_reach, 2, some .int, false, 9, tX9_reach)
def tX9_most : azT := [(0, .iload_n 1, 1), (1, .invokestatic 105, 3), (4, .ifCond .ne 5, 3), (7, .iconst (-1), 1), (8, .ireturn, 1), (9, .aload_n 0, 1), (10, .iload_n 2, 1), (11, .invokevirtual 274, 3), (14, .ifCond .ne 6, 3), (17, .bipush (-2), 2), (19, .ireturn, 1), (20, .iconst 0, 1), (21, .istore_n 3, 1), (22, .iconst 0, 1), (23, .istore 4, 2), (25, .iload 4, 2), (27, .aload_n 0, 1), (28, .getfield 265, 3), (31, .if_icmp .ge 26, 3), (34, .iload_n 3, 1), (35, .aload_n 0, 1), (36, .getfield 63, 3), (39, .bipush 70, 2), (41, .iload 4, 2), (43, .imul, 1), (44, .iload_n 1, 1), (45, .iadd, 1), (46, .iaload, 1), (47, .invokestatic 277, 3), (50, .istore_n 3, 1), (51, .iinc 4 1, 3), (54, .goto (-29), 3), (57, .iload_n 3, 1), (58, .ireturn, 1)]
def mX9_most : azM := (yX9_most, cX9_most, 5, some .int, false, 9, tX9_most)
def tX9_dead : azT := [(0, .aload_n 0, 1), (1, .iload_n 1, 1), (2, .invokevirtual 274, 3), (5, .ifCond .ne 6, 3), (8, .bipush (-2), 2), (10, .ireturn, 1), (11, .iconst 0, 1), (12, .istore_n 2, 1), (13, .iconst 0, 1), (14, .istore_n 3, 1), (15, .iload_n 3, 1), (16, .bipush 10, 2), (18, .if_icmp .ge 90, 3), (21, .aload_n 0, 1), (22, .getfield 18, 3), (25, .bipush 81, 2), (27, .iload_n 3, 1), (28, .imul, 1), (29, .iaload, 1), (30, .ifCond .ne 7, 3), (33, .iconst 1, 1), (34, .goto 4, 3), (37, .iconst 0, 1), (38, .istore 4, 2), (40, .iconst 0, 1), (41, .istore 5, 2), (43, .iload 5, 2), (45, .aload_n 0, 1), (46, .getfield 265, 3), (49, .if_icmp .ge 38, 3), (52, .iload 4, 2), (54, .ifCond .ne 20, 3), (57, .aload_n 0, 1), (58, .getfield 72, 3), (61, .bipush 10, 2), (63, .iload 5, 2), (65, .imul, 1), (66, .iload_n 3, 1), (67, .iadd, 1), (68, .iaload, 1), (69, .bipush (-2), 2), (71, .if_icmp .le 7, 3), (74, .iconst 1, 1), (75, .goto 4, 3), (78, .iconst 0, 1), (79, .istore 4, 2), (81, .iinc 5 1, 3), (84, .goto (-41), 3), (87, .iload_n 2, 1), (88, .iload 4, 2), (90, .ifCond .eq 7, 3), (93, .iconst 0, 1), (94, .goto 6, 3), (97, .iconst 1, 1), (98, .iload_n 3, 1), (99, .ishl, 1), (100, .ior, 1), (101, .istore_n 2, 1), (102, .iinc 3 1, 3), (105, .goto (-90), 3), (108, .iload_n 2, 1), (109, .ireturn, 1)]
def mX9_dead : azM := (yX9_dead, cX9_dead, 6, some .int, false, 9, tX9_dead)
def tX9_isEnd : azT := [(0, .aload_n 0, 1), (1, .getfield 63, 3), (4, .bipush 70, 2), (6, .iload_n 1, 1), (7, .imul, 1), (8, .bipush 9, 2), (10, .iadd, 1), (11, .iaload, 1), (12, .ifCond .le 7, 3), (15, .iconst 1, 1), (16, .goto 4, 3), (19, .iconst 0, 1), (20, .ireturn, 1)]
def mX9_isEnd : azM := (yX9_isEnd, cX9_isEnd, 2, some .boolean, false, 9, tX9_isEnd)
def tX9_ends : azT := [(0, .aload_n 0, 1), (1, .iload_n 1, 1), (2, .invokevirtual 274, 3), (5, .ifCond .ne 6, 3), (8, .bipush (-2), 2), (10, .ireturn, 1), (11, .iconst 0, 1), (12, .istore_n 2, 1), (13, .iconst 0, 1), (14, .istore_n 3, 1), (15, .iload_n 3, 1), (16, .aload_n 0, 1), (17, .getfield 265, 3), (20, .if_icmp .ge 25, 3), (23, .iload_n 2, 1), (24, .aload_n 0, 1), (25, .iload_n 3, 1), (26, .invokevirtual 282, 3), (29, .ifCond .eq 7, 3), (32, .iconst 1, 1), (33, .goto 4, 3), (36, .iconst 0, 1), (37, .iadd, 1), (38, .istore_n 2, 1), (39, .iinc 3 1, 3), (42, .goto (-27), 3), (45, .iload_n 2, 1), (46, .ireturn, 1)]
def mX9_ends : azM := (yX9_ends, cX9_ends, 4, some .int, false, 9, tX9_ends)
def tX9_stuck : azT := [(0, .aload_n 0, 1), (1, .iload_n 1, 1), (2, .invokevirtual 274, 3), (5, .ifCond .ne 6, 3), (8, .bipush (-2), 2), (10, .ireturn, 1), (11, .iconst 0, 1), (12, .istore_n 2, 1), (13, .iload_n 2, 1), (14, .aload_n 0, 1), (15, .getfield 265, 3), (18, .if_icmp .ge 20, 3), (21, .aload_n 0, 1), (22, .getfield 78, 3), (25, .iload_n 2, 1), (26, .aload_n 0, 1), (27, .iload_n 2, 1), (28, .invokevirtual 282, 3), (31, .bastore, 1), (32, .iinc 2 1, 3), (35, .goto (-22), 3), (38, .iconst 0, 1), (39, .istore_n 2, 1), (40, .iload_n 2, 1), (41, .aload_n 0, 1), (42, .getfield 265, 3), (45, .if_icmp .ge 77, 3), (48, .iconst 0, 1), (49, .istore_n 3, 1), (50, .iload_n 3, 1), (51, .bipush 10, 2), (53, .aload_n 0, 1), (54, .getfield 265, 3), (57, .imul, 1), (58, .if_icmp .ge 58, 3), (61, .aload_n 0, 1), (62, .getfield 78, 3), (65, .iload_n 3, 1), (66, .bipush 10, 2), (68, .idiv, 1), (69, .aload_n 0, 1), (70, .getfield 78, 3), (73, .iload_n 3, 1), (74, .bipush 10, 2), (76, .idiv, 1), (77, .baload, 1), (78, .ifCond .ne 26, 3), (81, .aload_n 0, 1), (82, .getfield 72, 3), (85, .iload_n 3, 1), (86, .iaload, 1), (87, .ifCond .lt 21, 3), (90, .aload_n 0, 1), (91, .getfield 78, 3), (94, .aload_n 0, 1), (95, .getfield 72, 3), (98, .iload_n 3, 1), (99, .iaload, 1), (100, .baload, 1), (101, .ifCond .eq 7, 3), (104, .iconst 1, 1), (105, .goto 4, 3), (108, .iconst 0, 1), (109, .bastore, 1), (110, .iinc 3 1, 3), (113, .goto (-63), 3), (116, .iinc 2 1, 3), (119, .goto (-79), 3), (122, .iconst 0, 1), (123, .istore_n 2, 1), (124, .iload_n 2, 1), (125, .aload_n 0, 1), (126, .getfield 265, 3), (129, .if_icmp .ge 20, 3), (132, .aload_n 0, 1), (133, .getfield 78, 3), (136, .iload_n 2, 1), (137, .baload, 1), (138, .ifCond .ne 5, 3), (141, .iload_n 2, 1), (142, .ireturn, 1), (143, .iinc 2 1, 3), (146, .goto (-22), 3), (149, .bipush (-5), 2), (151, .ireturn, 1)]
def mX9_stuck : azM := (yX9_stuck, cX9_stuck, 4, some .int, false, 9, tX9_stuck)
def tX9_walk : azT := [(0, .aload_n 0, 1), (1, .iload_n 1, 1), (2, .invokevirtual 274, 3), (5, .ifCond .ne 6, 3), (8, .bipush (-2), 2), (10, .ireturn, 1), (11, .iload_n 2, 1), (12, .i2l, 1), (13, .lconst 0, 1), (14, .aload_n 0, 1), (15, .getfield 265, 3), (18, .iconst 1, 1), (19, .isub, 1), (20, .i2l, 1), (21, .invokestatic 97, 3), (24, .ifCond .ne 5, 3), (27, .iconst (-1), 1), (28, .ireturn, 1), (29, .iconst 0, 1), (30, .istore 4, 2), (32, .iload_n 2, 1), (33, .istore 5, 2), (35, .iload 5, 2), (37, .ifCond .le 18, 3), (40, .iinc 4 1, 3), (43, .aload_n 0, 1), (44, .getfield 69, 3), (47, .iload 5, 2), (49, .iaload, 1), (50, .istore 5, 2), (52, .goto (-17), 3), (55, .iload_n 3, 1), (56, .iconst (-1), 1), (57, .if_icmp .eq 17, 3), (60, .iload_n 3, 1), (61, .i2l, 1), (62, .lconst 0, 1), (63, .iload 4, 2), (65, .iconst 1, 1), (66, .isub, 1), (67, .i2l, 1), (68, .invokestatic 97, 3), (71, .ifCond .ne 15, 3), (74, .iload_n 3, 1), (75, .iconst (-1), 1), (76, .if_icmp .ne 8, 3), (79, .iload 4, 2), (81, .goto 4, 3), (84, .iconst (-1), 1), (85, .ireturn, 1), (86, .iload_n 2, 1), (87, .istore 5, 2), (89, .iload 4, 2), (91, .iconst 1, 1), (92, .isub, 1), (93, .istore 6, 2), (95, .iload 6, 2), (97, .iload_n 3, 1), (98, .if_icmp .le 18, 3), (101, .aload_n 0, 1), (102, .getfield 69, 3), (105, .iload 5, 2), (107, .iaload, 1), (108, .istore 5, 2), (110, .iinc 6 (-1), 3), (113, .goto (-18), 3), (116, .aload_n 0, 1), (117, .getfield 66, 3), (120, .iload 5, 2), (122, .iaload, 1), (123, .ireturn, 1)]
def mX9_walk : azM := (yX9_walk, cX9_walk, 7, some .int, false, 9, tX9_walk)
def tX9_held : azT := [(0, .aload_n 0, 1), (1, .iload_n 1, 1), (2, .invokevirtual 274, 3), (5, .ifCond .ne 6, 3), (8, .bipush (-2), 2), (10, .ireturn, 1), (11, .iload_n 2, 1), (12, .i2l, 1), (13, .lconst 0, 1), (14, .aload_n 0, 1), (15, .getfield 265, 3), (18, .iconst 1, 1), (19, .isub, 1), (20, .i2l, 1), (21, .invokestatic 97, 3), (24, .ifCond .eq 24, 3), (27, .iload_n 3, 1), (28, .invokestatic 105, 3), (31, .ifCond .eq 17, 3), (34, .aload_n 0, 1), (35, .getfield 63, 3), (38, .bipush 70, 2), (40, .iload_n 2, 1), (41, .imul, 1), (42, .iload_n 3, 1), (43, .iadd, 1), (44, .iaload, 1), (45, .goto 4, 3), (48, .iconst (-1), 1), (49, .ireturn, 1)]
def mX9_held : azM := (yX9_held, cX9_held, 4, some .int, false, 9, tX9_held)
def tX9_changeOf : azT := [(0, .iconst 0, 1), (1, .istore_n 2, 1), (2, .iconst 0, 1), (3, .istore_n 3, 1), (4, .iload_n 3, 1), (5, .aload_n 0, 1), (6, .getfield 169, 3), (9, .if_icmp .ge 27, 3), (12, .iload_n 2, 1), (13, .aload_n 0, 1), (14, .getfield 36, 3), (17, .iload_n 3, 1), (18, .iaload, 1), (19, .iload_n 1, 1), (20, .if_icmp .ne 7, 3), (23, .iconst 1, 1), (24, .goto 4, 3), (27, .iconst 0, 1), (28, .iadd, 1), (29, .istore_n 2, 1), (30, .iinc 3 1, 3), (33, .goto (-29), 3), (36, .iconst 0, 1), (37, .istore_n 3, 1), (38, .iload_n 3, 1), (39, .aload_n 0, 1), (40, .getfield 166, 3), (43, .if_icmp .ge 27, 3), (46, .iload_n 2, 1), (47, .aload_n 0, 1), (48, .getfield 30, 3), (51, .iload_n 3, 1), (52, .iaload, 1), (53, .iload_n 1, 1), (54, .if_icmp .ne 7, 3), (57, .iconst 1, 1), (58, .goto 4, 3), (61, .iconst 0, 1), (62, .isub, 1), (63, .istore_n 2, 1), (64, .iinc 3 1, 3), (67, .goto (-29), 3), (70, .iload_n 2, 1), (71, .ireturn, 1)]
def mX9_changeOf : azM := (yX9_changeOf, cX9_changeOf, 4, some .int, false, 9, tX9_changeOf)
def tX9_change : azT := [(0, .iload_n 1, 1), (1, .invokestatic 105, 3), (4, .ifCond .eq 10, 3), (7, .iload_n 2, 1), (8, .invokestatic 105, 3), (11, .ifCond .ne 5, 3), (14, .iconst (-1), 1), (15, .ireturn, 1), (16, .aload_n 0, 1), (17, .iload_n 1, 1), (18, .invokevirtual 210, 3), (21, .ifCond .eq 11, 3), (24, .aload_n 0, 1), (25, .iload_n 2, 1), (26, .invokevirtual 285, 3), (29, .goto 5, 3), (32, .bipush (-3), 2), (34, .ireturn, 1)]
def mX9_change : azM := (yX9_change, cX9_change, 3, some .int, false, 9, tX9_change)
def tX9_gcd : azT := [(0, .lload_n 0, 1), (1, .lconst 0, 1), (2, .lcmp, 1), (3, .ifCond .ge 8, 3), (6, .lload_n 0, 1), (7, .lneg, 1), (8, .goto 4, 3), (11, .lload_n 0, 1), (12, .lstore 4, 2), (14, .lload_n 2, 1), (15, .lconst 0, 1), (16, .lcmp, 1), (17, .ifCond .ge 8, 3), (20, .lload_n 2, 1), (21, .lneg, 1), (22, .goto 4, 3), (25, .lload_n 2, 1), (26, .lstore 6, 2), (28, .lload 6, 2), (30, .lconst 0, 1), (31, .lcmp, 1), (32, .ifCond .eq 21, 3), (35, .lload 4, 2), (37, .lload 6, 2), (39, .lrem, 1), (40, .lstore 8, 2), (42, .lload 6, 2), (44, .lstore 4, 2), (46, .lload 8, 2), (48, .lstore 6, 2), (50, .goto (-22), 3), (53, .lload 4, 2), (55, .lreturn, 1)]
def mX9_gcd : azM := (yX9_gcd, cX9_gcd, 10, some .long, false, 9, tX9_gcd)
def tX9_sets : azT := [(0, .lload_n 2, 1), (1, .lload 4, 2), (3, .invokestatic 288, 3), (6, .lstore 6, 2), (8, .lload 4, 2), (10, .lconst 0, 1), (11, .lcmp, 1), (12, .ifCond .ge 9, 3), (15, .ldc2_w 292, 3), (18, .goto 4, 3), (21, .lconst 1, 1), (22, .lstore 8, 2), (24, .aload_n 0, 1), (25, .getfield 82, 3), (28, .iload_n 1, 1), (29, .lload 8, 2), (31, .lload_n 2, 1), (32, .lmul, 1), (33, .lload 6, 2), (35, .ldiv, 1), (36, .lastore, 1), (37, .aload_n 0, 1), (38, .getfield 86, 3), (41, .iload_n 1, 1), (42, .lload 8, 2), (44, .lload 4, 2), (46, .lmul, 1), (47, .lload 6, 2), (49, .ldiv, 1), (50, .lastore, 1), (51, .return_, 1)]
def mX9_sets : azM := (yX9_sets, cX9_sets, 10, none, false, 9, tX9_sets)
def tX9_less : azT := [(0, .iconst 0, 1), (1, .istore 7, 2), (3, .iload 7, 2), (5, .bipush 10, 2), (7, .if_icmp .ge 87, 3), (10, .bipush 10, 2), (12, .iload_n 1, 1), (13, .imul, 1), (14, .iload 7, 2), (16, .iadd, 1), (17, .istore 8, 2), (19, .bipush 10, 2), (21, .iload_n 2, 1), (22, .imul, 1), (23, .iload 7, 2), (25, .iadd, 1), (26, .istore 9, 2), (28, .aload_n 0, 1), (29, .getfield 82, 3), (32, .iload 9, 2), (34, .laload, 1), (35, .lload_n 3, 1), (36, .lmul, 1), (37, .lstore 10, 2), (39, .aload_n 0, 1), (40, .getfield 86, 3), (43, .iload 9, 2), (45, .laload, 1), (46, .lload 5, 2), (48, .lmul, 1), (49, .lstore 12, 2), (51, .aload_n 0, 1), (52, .iload 8, 2), (54, .aload_n 0, 1), (55, .getfield 82, 3), (58, .iload 8, 2), (60, .laload, 1), (61, .lload 12, 2), (63, .lmul, 1), (64, .lload 10, 2), (66, .aload_n 0, 1), (67, .getfield 86, 3), (70, .iload 8, 2), (72, .laload, 1), (73, .lmul, 1), (74, .lsub, 1), (75, .aload_n 0, 1), (76, .getfield 86, 3), (79, .iload 8, 2), (81, .laload, 1), (82, .lload 12, 2), (84, .lmul, 1), (85, .invokevirtual 294, 3), (88, .iinc 7 1, 3), (91, .goto (-88), 3), (94, .return_, 1)]
def mX9_less : azM := (yX9_less, cX9_less, 14, none, false, 9, tX9_less)
def tX9_swaps : azT := [(0, .iconst 0, 1), (1, .istore_n 3, 1), (2, .iload_n 3, 1), (3, .bipush 10, 2), (5, .if_icmp .ge 105, 3), (8, .aload_n 0, 1), (9, .getfield 82, 3), (12, .bipush 10, 2), (14, .iload_n 1, 1), (15, .imul, 1), (16, .iload_n 3, 1), (17, .iadd, 1), (18, .laload, 1), (19, .lstore 4, 2), (21, .aload_n 0, 1), (22, .getfield 86, 3), (25, .bipush 10, 2), (27, .iload_n 1, 1), (28, .imul, 1), (29, .iload_n 3, 1), (30, .iadd, 1), (31, .laload, 1), (32, .lstore 6, 2), (34, .aload_n 0, 1), (35, .getfield 82, 3), (38, .bipush 10, 2), (40, .iload_n 1, 1), (41, .imul, 1), (42, .iload_n 3, 1), (43, .iadd, 1), (44, .aload_n 0, 1), (45, .getfield 82, 3), (48, .bipush 10, 2), (50, .iload_n 2, 1), (51, .imul, 1), (52, .iload_n 3, 1), (53, .iadd, 1), (54, .laload, 1), (55, .lastore, 1), (56, .aload_n 0, 1), (57, .getfield 86, 3), (60, .bipush 10, 2), (62, .iload_n 1, 1), (63, .imul, 1), (64, .iload_n 3, 1), (65, .iadd, 1), (66, .aload_n 0, 1), (67, .getfield 86, 3), (70, .bipush 10, 2), (72, .iload_n 2, 1), (73, .imul, 1), (74, .iload_n 3, 1), (75, .iadd, 1), (76, .laload, 1), (77, .lastore, 1), (78, .aload_n 0, 1), (79, .getfield 82, 3), (82, .bipush 10, 2), (84, .iload_n 2, 1), (85, .imul, 1), (86, .iload_n 3, 1), (87, .iadd, 1), (88, .lload 4, 2), (90, .lastore, 1), (91, .aload_n 0, 1), (92, .getfield 86, 3), (95, .bipush 10, 2), (97, .iload_n 2, 1), (98, .imul, 1), (99, .iload_n 3, 1), (100, .iadd, 1), (101, .lload 6, 2), (103, .lastore, 1), (104, .iinc 3 1, 3), (107, .goto (-105), 3), (110, .return_, 1)]
def mX9_swaps : azM := (yX9_swaps, cX9_swaps, 8, none, false, 9, tX9_swaps)
def tX9_reduces : azT := [(0, .iconst 0, 1), (1, .istore_n 1, 1), (2, .iconst 0, 1), (3, .istore_n 2, 1), (4, .iload_n 2, 1), (5, .bipush 10, 2), (7, .if_icmp .ge 63, 3), (10, .aload_n 0, 1), (11, .iload_n 2, 1), (12, .invokevirtual 210, 3), (15, .ifCond .eq 49, 3), (18, .iconst 0, 1), (19, .istore_n 3, 1), (20, .iload_n 3, 1), (21, .bipush 10, 2), (23, .if_icmp .ge 38, 3), (26, .aload_n 0, 1), (27, .getfield 82, 3), (30, .bipush 10, 2), (32, .iload_n 1, 1), (33, .imul, 1), (34, .iload_n 3, 1), (35, .iadd, 1), (36, .aload_n 0, 1), (37, .iload_n 3, 1), (38, .invokevirtual 285, 3), (41, .i2l, 1), (42, .lastore, 1), (43, .aload_n 0, 1), (44, .getfield 86, 3), (47, .bipush 10, 2), (49, .iload_n 1, 1), (50, .imul, 1), (51, .iload_n 3, 1), (52, .iadd, 1), (53, .lconst 1, 1), (54, .lastore, 1), (55, .iinc 3 1, 3), (58, .goto (-38), 3), (61, .iinc 1 1, 3), (64, .iinc 2 1, 3), (67, .goto (-63), 3), (70, .aload_n 0, 1), (71, .iconst 0, 1), (72, .putfield 298, 3), (75, .aload_n 0, 1), (76, .iconst 0, 1), (77, .putfield 301, 3), (80, .iconst 0, 1), (81, .istore_n 2, 1), (82, .iload_n 2, 1), (83, .bipush 10, 2), (85, .if_icmp .ge 242, 3), (88, .aload_n 0, 1), (89, .getfield 298, 3), (92, .istore_n 3, 1), (93, .iload_n 3, 1), (94, .iload_n 1, 1), (95, .if_icmp .ge 25, 3), (98, .aload_n 0, 1), (99, .getfield 82, 3), (102, .bipush 10, 2), (104, .iload_n 3, 1), (105, .imul, 1), (106, .iload_n 2, 1), (107, .iadd, 1), (108, .laload, 1), (109, .lconst 0, 1), (110, .lcmp, 1), (111, .ifCond .ne 9, 3), (114, .iinc 3 1, 3), (117, .goto (-24), 3), (120, .iload_n 3, 1), (121, .iload_n 1, 1), (122, .if_icmp .ne 26, 3), (125, .aload_n 0, 1), (126, .getfield 89, 3), (129, .aload_n 0, 1), (130, .getfield 301, 3), (133, .iload_n 2, 1), (134, .iastore, 1), (135, .aload_n 0, 1), (136, .dup, 1), (137, .getfield 301, 3), (140, .iconst 1, 1), (141, .iadd, 1), (142, .putfield 301, 3), (145, .goto 176, 3), (148, .aload_n 0, 1), (149, .aload_n 0, 1), (150, .getfield 298, 3), (153, .iload_n 3, 1), (154, .invokevirtual 304, 3), (157, .aload_n 0, 1), (158, .getfield 82, 3), (161, .bipush 10, 2), (163, .aload_n 0, 1), (164, .getfield 298, 3), (167, .imul, 1), (168, .iload_n 2, 1), (169, .iadd, 1), (170, .laload, 1), (171, .lstore 4, 2), (173, .aload_n 0, 1), (174, .getfield 86, 3), (177, .bipush 10, 2), (179, .aload_n 0, 1), (180, .getfield 298, 3), (183, .imul, 1), (184, .iload_n 2, 1), (185, .iadd, 1), (186, .laload, 1), (187, .lstore 6, 2), (189, .iconst 0, 1), (190, .istore 8, 2), (192, .iload 8, 2), (194, .bipush 10, 2), (196, .if_icmp .ge 47, 3), (199, .bipush 10, 2), (201, .aload_n 0, 1), (202, .getfield 298, 3), (205, .imul, 1), (206, .iload 8, 2), (208, .iadd, 1), (209, .istore 9, 2), (211, .aload_n 0, 1), (212, .iload 9, 2), (214, .aload_n 0, 1), (215, .getfield 82, 3), (218, .iload 9, 2), (220, .laload, 1), (221, .lload 6, 2), (223, .lmul, 1), (224, .aload_n 0, 1), (225, .getfield 86, 3), (228, .iload 9, 2), (230, .laload, 1), (231, .lload 4, 2), (233, .lmul, 1), (234, .invokevirtual 294, 3), (237, .iinc 8 1, 3), (240, .goto (-48), 3), (243, .iconst 0, 1), (244, .istore 8, 2), (246, .iload 8, 2), (248, .iload_n 1, 1), (249, .if_icmp .ge 52, 3), (252, .iload 8, 2), (254, .aload_n 0, 1), (255, .getfield 298, 3), (258, .if_icmp .eq 37, 3), (261, .aload_n 0, 1), (262, .iload 8, 2), (264, .aload_n 0, 1), (265, .getfield 298, 3), (268, .aload_n 0, 1), (269, .getfield 82, 3), (272, .bipush 10, 2), (274, .iload 8, 2), (276, .imul, 1), (277, .iload_n 2, 1), (278, .iadd, 1), (279, .laload, 1), (280, .aload_n 0, 1), (281, .getfield 86, 3), (284, .bipush 10, 2), (286, .iload 8, 2), (288, .imul, 1), (289, .iload_n 2, 1), (290, .iadd, 1), (291, .laload, 1), (292, .invokevirtual 308, 3), (295, .iinc 8 1, 3), (298, .goto (-52), 3), (301, .aload_n 0, 1), (302, .getfield 92, 3), (305, .aload_n 0, 1), (306, .getfield 298, 3), (309, .iload_n 2, 1), (310, .iastore, 1), (311, .aload_n 0, 1), (312, .dup, 1), (313, .getfield 298, 3), (316, .iconst 1, 1), (317, .iadd, 1), (318, .putfield 298, 3), (321, .iinc 2 1, 3), (324, .goto (-242), 3), (327, .return_, 1)]
def mX9_reduces : azM := (yX9_reduces, cX9_reduces, 10, none, false, 9, tX9_reduces)
def tX9_invariants : azT := [(0, .aload_n 0, 1), (1, .invokevirtual 312, 3), (4, .aload_n 0, 1), (5, .getfield 301, 3), (8, .ireturn, 1)]
def mX9_invariants : azM := (yX9_invariants, cX9_invariants, 1, some .int, false, 9, tX9_invariants)
def tX9_weighs : azT := [(0, .aload_n 0, 1), (1, .iload_n 2, 1), (2, .aload_n 0, 1), (3, .getfield 89, 3), (6, .iload_n 1, 1), (7, .iaload, 1), (8, .if_icmp .ne 7, 3), (11, .lconst 1, 1), (12, .goto 4, 3), (15, .lconst 0, 1), (16, .putfield 315, 3), (19, .aload_n 0, 1), (20, .lconst 1, 1), (21, .putfield 319, 3), (24, .iconst 0, 1), (25, .istore_n 3, 1), (26, .iload_n 3, 1), (27, .aload_n 0, 1), (28, .getfield 298, 3), (31, .if_icmp .ge 60, 3), (34, .aload_n 0, 1), (35, .getfield 92, 3), (38, .iload_n 3, 1), (39, .iaload, 1), (40, .iload_n 2, 1), (41, .if_icmp .ne 44, 3), (44, .aload_n 0, 1), (45, .aload_n 0, 1), (46, .getfield 82, 3), (49, .bipush 10, 2), (51, .iload_n 3, 1), (52, .imul, 1), (53, .aload_n 0, 1), (54, .getfield 89, 3), (57, .iload_n 1, 1), (58, .iaload, 1), (59, .iadd, 1), (60, .laload, 1), (61, .lneg, 1), (62, .putfield 315, 3), (65, .aload_n 0, 1), (66, .aload_n 0, 1), (67, .getfield 86, 3), (70, .bipush 10, 2), (72, .iload_n 3, 1), (73, .imul, 1), (74, .aload_n 0, 1), (75, .getfield 89, 3), (78, .iload_n 1, 1), (79, .iaload, 1), (80, .iadd, 1), (81, .laload, 1), (82, .putfield 319, 3), (85, .iinc 3 1, 3), (88, .goto (-62), 3), (91, .return_, 1)]
def mX9_weighs : azM := (yX9_weighs, cX9_weighs, 4, none, false, 9, tX9_weighs)
def tX9_weight : azT := [(0, .aload_n 0, 1), (1, .invokevirtual 312, 3), (4, .iload_n 1, 1), (5, .i2l, 1), (6, .lconst 0, 1), (7, .aload_n 0, 1), (8, .getfield 301, 3), (11, .iconst 1, 1), (12, .isub, 1), (13, .i2l, 1), (14, .invokestatic 97, 3), (17, .ifCond .eq 20, 3), (20, .iload_n 2, 1), (21, .invokestatic 105, 3), (24, .ifCond .eq 13, 3), (27, .iload_n 3, 1), (28, .i2l, 1), (29, .lconst 0, 1), (30, .lconst 1, 1), (31, .invokestatic 97, 3), (34, .ifCond .ne 7, 3), (37, .ldc2_w 322, 3), (40, .lreturn, 1), (41, .aload_n 0, 1), (42, .iload_n 1, 1), (43, .iload_n 2, 1), (44, .invokevirtual 324, 3), (47, .iload_n 3, 1), (48, .ifCond .ne 10, 3), (51, .aload_n 0, 1), (52, .getfield 315, 3), (55, .goto 7, 3), (58, .aload_n 0, 1), (59, .getfield 319, 3), (62, .lreturn, 1)]
def mX9_weight : azM := (yX9_weight, cX9_weight, 4, some .long, false, 9, tX9_weight)
def tX9_sum : azT := [(0, .aload_n 0, 1), (1, .invokevirtual 312, 3), (4, .iload_n 1, 1), (5, .i2l, 1), (6, .lconst 0, 1), (7, .aload_n 0, 1), (8, .getfield 301, 3), (11, .iconst 1, 1), (12, .isub, 1), (13, .i2l, 1), (14, .invokestatic 97, 3), (17, .ifCond .eq 13, 3), (20, .iload_n 2, 1), (21, .i2l, 1), (22, .lconst 0, 1), (23, .lconst 1, 1), (24, .invokestatic 97, 3), (27, .ifCond .ne 5, 3), (30, .iconst (-1), 1), (31, .ireturn, 1), (32, .lconst 0, 1), (33, .lstore_n 3, 1), (34, .lconst 1, 1), (35, .lstore 5, 2), (37, .iconst 0, 1), (38, .istore 7, 2), (40, .iload 7, 2), (42, .bipush 10, 2), (44, .if_icmp .ge 69, 3), (47, .aload_n 0, 1), (48, .iload_n 1, 1), (49, .iload 7, 2), (51, .invokevirtual 324, 3), (54, .lload_n 3, 1), (55, .aload_n 0, 1), (56, .getfield 319, 3), (59, .lmul, 1), (60, .aload_n 0, 1), (61, .getfield 315, 3), (64, .aload_n 0, 1), (65, .getfield 9, 3), (68, .iload 7, 2), (70, .iaload, 1), (71, .i2l, 1), (72, .lmul, 1), (73, .lload 5, 2), (75, .lmul, 1), (76, .ladd, 1), (77, .lstore_n 3, 1), (78, .lload 5, 2), (80, .aload_n 0, 1), (81, .getfield 319, 3), (84, .lmul, 1), (85, .lstore 5, 2), (87, .lload_n 3, 1), (88, .lload 5, 2), (90, .invokestatic 288, 3), (93, .lstore 8, 2), (95, .lload_n 3, 1), (96, .lload 8, 2), (98, .ldiv, 1), (99, .lstore_n 3, 1), (100, .lload 5, 2), (102, .lload 8, 2), (104, .ldiv, 1), (105, .lstore 5, 2), (107, .iinc 7 1, 3), (110, .goto (-70), 3), (113, .iload_n 2, 1), (114, .ifCond .ne 7, 3), (117, .lload_n 3, 1), (118, .goto 5, 3), (121, .lload 5, 2), (123, .l2i, 1), (124, .ireturn, 1)]
def mX9_sum : azM := (yX9_sum, cX9_sum, 10, some .int, false, 9, tX9_sum)
def tX9_tokens : azT := [(0, .iconst 0, 1), (1, .istore_n 1, 1), (2, .iconst 0, 1), (3, .istore_n 2, 1), (4, .iload_n 2, 1), (5, .bipush 10, 2), (7, .if_icmp .ge 18, 3), (10, .iload_n 1, 1), (11, .aload_n 0, 1), (12, .getfield 9, 3), (15, .iload_n 2, 1), (16, .iaload, 1), (17, .iadd, 1), (18, .istore_n 1, 1), (19, .iinc 2 1, 3), (22, .goto (-18), 3), (25, .iload_n 1, 1), (26, .ireturn, 1)]
def mX9_tokens : azM := (yX9_tokens, cX9_tokens, 3, some .int, false, 9, tX9_tokens)
def tX9_told : azT := [(0, .iload_n 1, 1), (1, .tableswitch 93 0 4 #[35, 40, 78, 83, 88], 35), (36, .aload_n 0, 1), (37, .invokevirtual 327, 3), (40, .ireturn, 1), (41, .iconst 0, 1), (42, .istore_n 2, 1), (43, .iconst 0, 1), (44, .istore_n 3, 1), (45, .iload_n 3, 1), (46, .bipush 10, 2), (48, .if_icmp .ge 29, 3), (51, .iload_n 2, 1), (52, .aload_n 0, 1), (53, .getfield 18, 3), (56, .bipush 81, 2), (58, .iload_n 3, 1), (59, .imul, 1), (60, .iaload, 1), (61, .ifCond .le 7, 3), (64, .iconst 1, 1), (65, .goto 4, 3), (68, .iconst 0, 1), (69, .iadd, 1), (70, .istore_n 2, 1), (71, .iinc 3 1, 3), (74, .goto (-29), 3), (77, .iload_n 2, 1), (78, .ireturn, 1), (79, .aload_n 0, 1), (80, .getfield 251, 3), (83, .ireturn, 1), (84, .aload_n 0, 1), (85, .getfield 121, 3), (88, .ireturn, 1), (89, .aload_n 0, 1), (90, .getfield 213, 3), (93, .ireturn, 1), (94, .iconst (-1), 1), (95, .ireturn, 1)]
def mX9_told : azM := (yX9_told, cX9_told, 4, some .int, false, 9, tX9_told)
def tX9_image : azT := [(0, .aload_n 0, 1), (1, .getfield 9, 3), (4, .iconst 0, 1), (5, .aload_n 0, 1), (6, .getfield 15, 3), (9, .iconst 0, 1), (10, .bipush 70, 2), (12, .invokestatic 201, 3), (15, .aload_n 0, 1), (16, .getfield 18, 3), (19, .iconst 0, 1), (20, .aload_n 0, 1), (21, .getfield 21, 3), (24, .iconst 0, 1), (25, .sipush 810, 3), (28, .invokestatic 201, 3), (31, .aload_n 0, 1), (32, .aload_n 0, 1), (33, .getfield 251, 3), (36, .putfield 330, 3), (39, .aload_n 0, 1), (40, .iconst 1, 1), (41, .putfield 333, 3), (44, .aload_n 0, 1), (45, .invokevirtual 327, 3), (48, .ireturn, 1)]
def mX9_image : azM := (yX9_image, cX9_image, 1, some .int, false, 9, tX9_image)
def tX9_undo : azT := [(0, .aload_n 0, 1), (1, .getfield 333, 3), (4, .ifCond .ne 6, 3), (7, .bipush (-3), 2), (9, .ireturn, 1), (10, .aload_n 0, 1), (11, .getfield 15, 3), (14, .iconst 0, 1), (15, .aload_n 0, 1), (16, .getfield 9, 3), (19, .iconst 0, 1), (20, .bipush 70, 2), (22, .invokestatic 201, 3), (25, .aload_n 0, 1), (26, .getfield 21, 3), (29, .iconst 0, 1), (30, .aload_n 0, 1), (31, .getfield 18, 3), (34, .iconst 0, 1), (35, .sipush 810, 3), (38, .invokestatic 201, 3), (41, .aload_n 0, 1), (42, .aload_n 0, 1), (43, .getfield 330, 3), (46, .putfield 251, 3), (49, .aload_n 0, 1), (50, .invokevirtual 327, 3), (53, .ireturn, 1)]
def mX9_undo : azM := (yX9_undo, cX9_undo, 1, some .int, false, 9, tX9_undo)
def tJ6_bitCount_0f7a4 : azT := [(0, .iload_n 0, 1), (1, .iload_n 0, 1), (2, .iconst 1, 1), (3, .iushr, 1), (4, .ldc_w 265, 3), (7, .iand, 1), (8, .isub, 1), (9, .istore_n 0, 1), (10, .iload_n 0, 1), (11, .ldc_w 266, 3), (14, .iand, 1), (15, .iload_n 0, 1), (16, .iconst 2, 1), (17, .iushr, 1), (18, .ldc_w 266, 3), (21, .iand, 1), (22, .iadd, 1), (23, .istore_n 0, 1), (24, .iload_n 0, 1), (25, .iload_n 0, 1), (26, .iconst 4, 1), (27, .iushr, 1), (28, .iadd, 1), (29, .ldc_w 267, 3), (32, .iand, 1), (33, .istore_n 0, 1), (34, .iload_n 0, 1), (35, .iload_n 0, 1), (36, .bipush 8, 2), (38, .iushr, 1), (39, .iadd, 1), (40, .istore_n 0, 1), (41, .iload_n 0, 1), (42, .iload_n 0, 1), (43, .bipush 16, 2), (45, .iushr, 1), (46, .iadd, 1), (47, .istore_n 0, 1), (48, .iload_n 0, 1), (49, .bipush 63, 2), (51, .iand, 1), (52, .ireturn, 1)]
def mJ6_bitCount_0f7a4 : azM := (yJ6_bitCount_0f7a4, cJ6_bitCount_0f7a4, 1, some .int, false, 11, tJ6_bitCount_0f7a4)
def tJ9_floorMod_7cf53 : azT := [(0, .iload_n 0, 1), (1, .iload_n 1, 1), (2, .irem, 1), (3, .istore_n 2, 1), (4, .iload_n 0, 1), (5, .iload_n 1, 1), (6, .ixor, 1), (7, .ifCond .ge 11, 3), (10, .iload_n 2, 1), (11, .ifCond .eq 7, 3), (14, .iload_n 2, 1), (15, .iload_n 1, 1), (16, .iadd, 1), (17, .ireturn, 1), (18, .iload_n 2, 1), (19, .ireturn, 1)]
def mJ9_floorMod_7cf53 : azM := (yJ9_floorMod_7cf53, cJ9_floorMod_7cf53, 3, some .int, false, 12, tJ9_floorMod_7cf53)
def tJ9_abs_067f4 : azT := [(0, .lload_n 0, 1), (1, .lconst 0, 1), (2, .lcmp, 1), (3, .ifCond .ge 8, 3), (6, .lload_n 0, 1), (7, .lneg, 1), (8, .goto 4, 3), (11, .lload_n 0, 1), (12, .lreturn, 1)]
def mJ9_abs_067f4 : azM := (yJ9_abs_067f4, cJ9_abs_067f4, 2, some .long, false, 12, tJ9_abs_067f4)
def tJ9_max_7cf53 : azT := [(0, .iload_n 0, 1), (1, .iload_n 1, 1), (2, .if_icmp .lt 7, 3), (5, .iload_n 0, 1), (6, .goto 4, 3), (9, .iload_n 1, 1), (10, .ireturn, 1)]
def mJ9_max_7cf53 : azM := (yJ9_max_7cf53, cJ9_max_7cf53, 2, some .int, false, 12, tJ9_max_7cf53)
def tJ9_min_7cf53 : azT := [(0, .iload_n 0, 1), (1, .iload_n 1, 1), (2, .if_icmp .gt 7, 3), (5, .iload_n 0, 1), (6, .goto 4, 3), (9, .iload_n 1, 1), (10, .ireturn, 1)]
def mJ9_min_7cf53 : azM := (yJ9_min_7cf53, cJ9_min_7cf53, 2, some .int, false, 12, tJ9_min_7cf53)
def tJ0_length_8abf5 : azT := [(0, .aload_n 0, 1), (1, .getfield 9, 3), (4, .arraylength, 1), (5, .aload_n 0, 1), (6, .invokevirtual 335, 3), (9, .ishr, 1), (10, .ireturn, 1)]
def mJ0_length_8abf5 : azM := (yJ0_length_8abf5, cJ0_length_8abf5, 1, some .int, false, 13, tJ0_length_8abf5)
def tJ0_charAt_5068e : azT := [(0, .aload_n 0, 1), (1, .invokevirtual 492, 3), (4, .ifCond .eq 12, 3), (7, .aload_n 0, 1), (8, .getfield 9, 3), (11, .iload_n 1, 1), (12, .invokestatic 495, 3), (15, .ireturn, 1)]
def mJ0_charAt_5068e : azM := (yJ0_charAt_5068e, cJ0_charAt_5068e, 2, some .char, false, 13, tJ0_charAt_5068e)
def tJ0_coder_7d493 : azT := [(0, .getstatic 38, 3), (3, .ifCond .eq 10, 3), (6, .aload_n 0, 1), (7, .getfield 15, 3), (10, .goto 4, 3), (13, .iconst 1, 1), (14, .ireturn, 1)]
def mJ0_coder_7d493 : azM := (yJ0_coder_7d493, cJ0_coder_7d493, 1, some .byte, false, 13, tJ0_coder_7d493)
def tJ0_isLatin1_aae02 : azT := [(0, .getstatic 38, 3), (3, .ifCond .eq 14, 3), (6, .aload_n 0, 1), (7, .getfield 15, 3), (10, .ifCond .ne 7, 3), (13, .iconst 1, 1), (14, .goto 4, 3), (17, .iconst 0, 1), (18, .ireturn, 1)]
def mJ0_isLatin1_aae02 : azM := (yJ0_isLatin1_aae02, cJ0_isLatin1_aae02, 1, some .boolean, false, 13, tJ0_isLatin1_aae02)
def tJ0_checkIndex_df160 : azT := [(0, .iload_n 0, 1), (1, .iload_n 1, 1), (2, .getstatic 1053, 3), (5, .invokestatic 1059, 3), (8, .pop, 1), (9, .return_, 1)]
def mJ0_checkIndex_df160 : azM := (yJ0_checkIndex_df160, cJ0_checkIndex_df160, 2, none, false, 13, tJ0_checkIndex_df160)
def tJ1_charAt_3b067 : azT := [(0, .iload_n 1, 1), (1, .aload_n 0, 1), (2, .arraylength, 1), (3, .invokestatic 9, 3), (6, .aload_n 0, 1), (7, .iload_n 1, 1), (8, .baload, 1), (9, .sipush 255, 3), (12, .iand, 1), (13, .i2c, 1), (14, .ireturn, 1)]
def mJ1_charAt_3b067 : azM := (yJ1_charAt_3b067, cJ1_charAt_3b067, 2, some .char, false, 14, tJ1_charAt_3b067)
def tJ3_checkIndex_8e157 : azT := [(0, .iload_n 0, 1), (1, .ifCond .lt 8, 3), (4, .iload_n 0, 1), (5, .iload_n 1, 1), (6, .if_icmp .lt 10, 3), (16, .iload_n 0, 1), (17, .ireturn, 1)]
def mJ3_checkIndex_8e157 : azM := (yJ3_checkIndex_8e157, cJ3_checkIndex_8e157, 3, some .int, false, 16, tJ3_checkIndex_8e157)
def tL_law_0 : azT := [(0, .new 7, 3), (3, .dup, 1), (4, .invokespecial 9, 3), (7, .astore_n 1, 1), (8, .new 10, 3), (11, .dup, 1), (12, .invokespecial 12, 3), (15, .astore_n 2, 1), (16, .iconst 0, 1), (17, .istore_n 3, 1), (18, .iload_n 3, 1), (19, .aload_n 0, 1), (20, .arraylength, 1), (21, .iconst 4, 1), (22, .isub, 1), (23, .if_icmp .gt 1006, 3), (26, .aload_n 0, 1), (27, .iload_n 3, 1), (28, .iaload, 1), (29, .bipush 31, 2), (31, .iand, 1), (32, .tableswitch 991 0 31 #[144, 177, 210, 243, 266, 279, 302, 325, 358, 381, 394, 417, 440, 473, 496, 519, 532, 565, 608, 631, 664, 687, 710, 733, 776, 819, 852, 865, 909, 942, 965, 978], 144), (176, .aload_n 1, 1), (177, .aload_n 0, 1), (178, .iload_n 3, 1), (179, .iconst 1, 1), (180, .iadd, 1), (181, .iaload, 1), (182, .aload_n 0, 1), (183, .iload_n 3, 1), (184, .iconst 2, 1), (185, .iadd, 1), (186, .iaload, 1), (187, .invokevirtual 13, 3), (190, .aload_n 2, 1), (191, .aload_n 0, 1), (192, .iload_n 3, 1), (193, .iconst 1, 1), (194, .iadd, 1), (195, .iaload, 1)]
def tL_law_1 : azT := [(196, .aload_n 0, 1), (197, .iload_n 3, 1), (198, .iconst 2, 1), (199, .iadd, 1), (200, .iaload, 1), (201, .invokevirtual 17, 3), (204, .if_icmp .eq 819, 3), (207, .iconst 0, 1), (208, .ireturn, 1), (209, .aload_n 1, 1), (210, .aload_n 0, 1), (211, .iload_n 3, 1), (212, .iconst 1, 1), (213, .iadd, 1), (214, .iaload, 1), (215, .aload_n 0, 1), (216, .iload_n 3, 1), (217, .iconst 2, 1), (218, .iadd, 1), (219, .iaload, 1), (220, .invokevirtual 18, 3), (223, .aload_n 2, 1), (224, .aload_n 0, 1), (225, .iload_n 3, 1), (226, .iconst 1, 1), (227, .iadd, 1), (228, .iaload, 1), (229, .aload_n 0, 1), (230, .iload_n 3, 1), (231, .iconst 2, 1), (232, .iadd, 1), (233, .iaload, 1), (234, .invokevirtual 21, 3), (237, .if_icmp .eq 786, 3), (240, .iconst 0, 1), (241, .ireturn, 1), (242, .aload_n 1, 1), (243, .aload_n 0, 1), (244, .iload_n 3, 1), (245, .iconst 1, 1)]
def tL_law_2 : azT := [(246, .iadd, 1), (247, .iaload, 1), (248, .aload_n 0, 1), (249, .iload_n 3, 1), (250, .iconst 2, 1), (251, .iadd, 1), (252, .iaload, 1), (253, .invokevirtual 22, 3), (256, .aload_n 2, 1), (257, .aload_n 0, 1), (258, .iload_n 3, 1), (259, .iconst 1, 1), (260, .iadd, 1), (261, .iaload, 1), (262, .aload_n 0, 1), (263, .iload_n 3, 1), (264, .iconst 2, 1), (265, .iadd, 1), (266, .iaload, 1), (267, .invokevirtual 25, 3), (270, .if_icmp .eq 753, 3), (273, .iconst 0, 1), (274, .ireturn, 1), (275, .aload_n 1, 1), (276, .aload_n 0, 1), (277, .iload_n 3, 1), (278, .iconst 1, 1), (279, .iadd, 1), (280, .iaload, 1), (281, .invokevirtual 26, 3), (284, .aload_n 2, 1), (285, .aload_n 0, 1), (286, .iload_n 3, 1), (287, .iconst 1, 1), (288, .iadd, 1), (289, .iaload, 1), (290, .invokevirtual 30, 3), (293, .if_icmp .eq 730, 3), (296, .iconst 0, 1), (297, .ireturn, 1)]
def tL_law_3 : azT := [(298, .aload_n 1, 1), (299, .invokevirtual 31, 3), (302, .aload_n 2, 1), (303, .invokevirtual 35, 3), (306, .if_icmp .eq 717, 3), (309, .iconst 0, 1), (310, .ireturn, 1), (311, .aload_n 1, 1), (312, .aload_n 0, 1), (313, .iload_n 3, 1), (314, .iconst 1, 1), (315, .iadd, 1), (316, .iaload, 1), (317, .invokevirtual 36, 3), (320, .aload_n 2, 1), (321, .aload_n 0, 1), (322, .iload_n 3, 1), (323, .iconst 1, 1), (324, .iadd, 1), (325, .iaload, 1), (326, .invokevirtual 39, 3), (329, .if_icmp .eq 694, 3), (332, .iconst 0, 1), (333, .ireturn, 1), (334, .aload_n 1, 1), (335, .aload_n 0, 1), (336, .iload_n 3, 1), (337, .iconst 1, 1), (338, .iadd, 1), (339, .iaload, 1), (340, .invokevirtual 40, 3), (343, .aload_n 2, 1), (344, .aload_n 0, 1), (345, .iload_n 3, 1), (346, .iconst 1, 1), (347, .iadd, 1), (348, .iaload, 1), (349, .invokevirtual 43, 3), (352, .if_icmp .eq 671, 3), (355, .iconst 0, 1)]
def tL_law_4 : azT := [(356, .ireturn, 1), (357, .aload_n 1, 1), (358, .aload_n 0, 1), (359, .iload_n 3, 1), (360, .iconst 1, 1), (361, .iadd, 1), (362, .iaload, 1), (363, .aload_n 0, 1), (364, .iload_n 3, 1), (365, .iconst 2, 1), (366, .iadd, 1), (367, .iaload, 1), (368, .invokevirtual 44, 3), (371, .aload_n 2, 1), (372, .aload_n 0, 1), (373, .iload_n 3, 1), (374, .iconst 1, 1), (375, .iadd, 1), (376, .iaload, 1), (377, .aload_n 0, 1), (378, .iload_n 3, 1), (379, .iconst 2, 1), (380, .iadd, 1), (381, .iaload, 1), (382, .invokevirtual 47, 3), (385, .if_icmp .eq 638, 3), (388, .iconst 0, 1), (389, .ireturn, 1), (390, .aload_n 1, 1), (391, .aload_n 0, 1), (392, .iload_n 3, 1), (393, .iconst 1, 1), (394, .iadd, 1), (395, .iaload, 1), (396, .invokevirtual 48, 3), (399, .aload_n 2, 1), (400, .aload_n 0, 1), (401, .iload_n 3, 1), (402, .iconst 1, 1), (403, .iadd, 1)]
def tL_law_5 : azT := [(404, .iaload, 1), (405, .invokevirtual 51, 3), (408, .if_icmp .eq 615, 3), (411, .iconst 0, 1), (412, .ireturn, 1), (413, .aload_n 1, 1), (414, .invokevirtual 52, 3), (417, .aload_n 2, 1), (418, .invokevirtual 55, 3), (421, .if_icmp .eq 602, 3), (424, .iconst 0, 1), (425, .ireturn, 1), (426, .aload_n 1, 1), (427, .aload_n 0, 1), (428, .iload_n 3, 1), (429, .iconst 1, 1), (430, .iadd, 1), (431, .iaload, 1), (432, .invokevirtual 56, 3), (435, .aload_n 2, 1), (436, .aload_n 0, 1), (437, .iload_n 3, 1), (438, .iconst 1, 1), (439, .iadd, 1), (440, .iaload, 1), (441, .invokevirtual 59, 3), (444, .if_icmp .eq 579, 3), (447, .iconst 0, 1), (448, .ireturn, 1), (449, .aload_n 1, 1), (450, .aload_n 0, 1), (451, .iload_n 3, 1), (452, .iconst 1, 1), (453, .iadd, 1), (454, .iaload, 1), (455, .invokevirtual 60, 3), (458, .aload_n 2, 1), (459, .aload_n 0, 1), (460, .iload_n 3, 1), (461, .iconst 1, 1)]
def tL_law_6 : azT := [(462, .iadd, 1), (463, .iaload, 1), (464, .invokevirtual 63, 3), (467, .if_icmp .eq 556, 3), (470, .iconst 0, 1), (471, .ireturn, 1), (472, .aload_n 1, 1), (473, .aload_n 0, 1), (474, .iload_n 3, 1), (475, .iconst 1, 1), (476, .iadd, 1), (477, .iaload, 1), (478, .aload_n 0, 1), (479, .iload_n 3, 1), (480, .iconst 2, 1), (481, .iadd, 1), (482, .iaload, 1), (483, .invokevirtual 64, 3), (486, .aload_n 2, 1), (487, .aload_n 0, 1), (488, .iload_n 3, 1), (489, .iconst 1, 1), (490, .iadd, 1), (491, .iaload, 1), (492, .aload_n 0, 1), (493, .iload_n 3, 1), (494, .iconst 2, 1), (495, .iadd, 1), (496, .iaload, 1), (497, .invokevirtual 67, 3), (500, .if_icmp .eq 523, 3), (503, .iconst 0, 1), (504, .ireturn, 1), (505, .aload_n 1, 1), (506, .aload_n 0, 1), (507, .iload_n 3, 1), (508, .iconst 1, 1), (509, .iadd, 1), (510, .iaload, 1), (511, .invokevirtual 68, 3)]
def tL_law_7 : azT := [(514, .aload_n 2, 1), (515, .aload_n 0, 1), (516, .iload_n 3, 1), (517, .iconst 1, 1), (518, .iadd, 1), (519, .iaload, 1), (520, .invokevirtual 71, 3), (523, .if_icmp .eq 500, 3), (526, .iconst 0, 1), (527, .ireturn, 1), (528, .aload_n 1, 1), (529, .aload_n 0, 1), (530, .iload_n 3, 1), (531, .iconst 1, 1), (532, .iadd, 1), (533, .iaload, 1), (534, .invokevirtual 72, 3), (537, .aload_n 2, 1), (538, .aload_n 0, 1), (539, .iload_n 3, 1), (540, .iconst 1, 1), (541, .iadd, 1), (542, .iaload, 1), (543, .invokevirtual 75, 3), (546, .if_icmp .eq 477, 3), (549, .iconst 0, 1), (550, .ireturn, 1), (551, .aload_n 1, 1), (552, .invokevirtual 76, 3), (555, .aload_n 2, 1), (556, .invokevirtual 79, 3), (559, .if_icmp .eq 464, 3), (562, .iconst 0, 1), (563, .ireturn, 1), (564, .aload_n 1, 1), (565, .aload_n 0, 1), (566, .iload_n 3, 1), (567, .iconst 1, 1), (568, .iadd, 1), (569, .iaload, 1)]
def tL_law_8 : azT := [(570, .aload_n 0, 1), (571, .iload_n 3, 1), (572, .iconst 2, 1), (573, .iadd, 1), (574, .iaload, 1), (575, .invokevirtual 80, 3), (578, .aload_n 2, 1), (579, .aload_n 0, 1), (580, .iload_n 3, 1), (581, .iconst 1, 1), (582, .iadd, 1), (583, .iaload, 1), (584, .aload_n 0, 1), (585, .iload_n 3, 1), (586, .iconst 2, 1), (587, .iadd, 1), (588, .iaload, 1), (589, .invokevirtual 83, 3), (592, .if_icmp .eq 431, 3), (595, .iconst 0, 1), (596, .ireturn, 1), (597, .aload_n 1, 1), (598, .aload_n 0, 1), (599, .iload_n 3, 1), (600, .iconst 1, 1), (601, .iadd, 1), (602, .iaload, 1), (603, .aload_n 0, 1), (604, .iload_n 3, 1), (605, .iconst 2, 1), (606, .iadd, 1), (607, .iaload, 1), (608, .aload_n 0, 1), (609, .iload_n 3, 1), (610, .iconst 3, 1), (611, .iadd, 1), (612, .iaload, 1), (613, .invokevirtual 84, 3), (616, .aload_n 2, 1), (617, .aload_n 0, 1)]
def tL_law_9 : azT := [(618, .iload_n 3, 1), (619, .iconst 1, 1), (620, .iadd, 1), (621, .iaload, 1), (622, .aload_n 0, 1), (623, .iload_n 3, 1), (624, .iconst 2, 1), (625, .iadd, 1), (626, .iaload, 1), (627, .aload_n 0, 1), (628, .iload_n 3, 1), (629, .iconst 3, 1), (630, .iadd, 1), (631, .iaload, 1), (632, .invokevirtual 88, 3), (635, .if_icmp .eq 388, 3), (638, .iconst 0, 1), (639, .ireturn, 1), (640, .aload_n 1, 1), (641, .aload_n 0, 1), (642, .iload_n 3, 1), (643, .iconst 1, 1), (644, .iadd, 1), (645, .iaload, 1), (646, .invokevirtual 89, 3), (649, .aload_n 2, 1), (650, .aload_n 0, 1), (651, .iload_n 3, 1), (652, .iconst 1, 1), (653, .iadd, 1), (654, .iaload, 1), (655, .invokevirtual 92, 3), (658, .if_icmp .eq 365, 3), (661, .iconst 0, 1), (662, .ireturn, 1), (663, .aload_n 1, 1), (664, .aload_n 0, 1), (665, .iload_n 3, 1), (666, .iconst 1, 1), (667, .iadd, 1)]
def tL_law_10 : azT := [(668, .iaload, 1), (669, .aload_n 0, 1), (670, .iload_n 3, 1), (671, .iconst 2, 1), (672, .iadd, 1), (673, .iaload, 1), (674, .invokevirtual 93, 3), (677, .aload_n 2, 1), (678, .aload_n 0, 1), (679, .iload_n 3, 1), (680, .iconst 1, 1), (681, .iadd, 1), (682, .iaload, 1), (683, .aload_n 0, 1), (684, .iload_n 3, 1), (685, .iconst 2, 1), (686, .iadd, 1), (687, .iaload, 1), (688, .invokevirtual 96, 3), (691, .if_icmp .eq 332, 3), (694, .iconst 0, 1), (695, .ireturn, 1), (696, .aload_n 1, 1), (697, .aload_n 0, 1), (698, .iload_n 3, 1), (699, .iconst 1, 1), (700, .iadd, 1), (701, .iaload, 1), (702, .invokevirtual 97, 3), (705, .aload_n 2, 1), (706, .aload_n 0, 1), (707, .iload_n 3, 1), (708, .iconst 1, 1), (709, .iadd, 1), (710, .iaload, 1), (711, .invokevirtual 100, 3), (714, .if_icmp .eq 309, 3), (717, .iconst 0, 1), (718, .ireturn, 1), (719, .aload_n 1, 1)]
def tL_law_11 : azT := [(720, .aload_n 0, 1), (721, .iload_n 3, 1), (722, .iconst 1, 1), (723, .iadd, 1), (724, .iaload, 1), (725, .invokevirtual 101, 3), (728, .aload_n 2, 1), (729, .aload_n 0, 1), (730, .iload_n 3, 1), (731, .iconst 1, 1), (732, .iadd, 1), (733, .iaload, 1), (734, .invokevirtual 104, 3), (737, .if_icmp .eq 286, 3), (740, .iconst 0, 1), (741, .ireturn, 1), (742, .aload_n 1, 1), (743, .aload_n 0, 1), (744, .iload_n 3, 1), (745, .iconst 1, 1), (746, .iadd, 1), (747, .iaload, 1), (748, .invokevirtual 105, 3), (751, .aload_n 2, 1), (752, .aload_n 0, 1), (753, .iload_n 3, 1), (754, .iconst 1, 1), (755, .iadd, 1), (756, .iaload, 1), (757, .invokevirtual 108, 3), (760, .if_icmp .eq 263, 3), (763, .iconst 0, 1), (764, .ireturn, 1), (765, .aload_n 1, 1), (766, .aload_n 0, 1), (767, .iload_n 3, 1), (768, .iconst 1, 1), (769, .iadd, 1), (770, .iaload, 1), (771, .aload_n 0, 1)]
def tL_law_12 : azT := [(772, .iload_n 3, 1), (773, .iconst 2, 1), (774, .iadd, 1), (775, .iaload, 1), (776, .aload_n 0, 1), (777, .iload_n 3, 1), (778, .iconst 3, 1), (779, .iadd, 1), (780, .iaload, 1), (781, .invokevirtual 109, 3), (784, .aload_n 2, 1), (785, .aload_n 0, 1), (786, .iload_n 3, 1), (787, .iconst 1, 1), (788, .iadd, 1), (789, .iaload, 1), (790, .aload_n 0, 1), (791, .iload_n 3, 1), (792, .iconst 2, 1), (793, .iadd, 1), (794, .iaload, 1), (795, .aload_n 0, 1), (796, .iload_n 3, 1), (797, .iconst 3, 1), (798, .iadd, 1), (799, .iaload, 1), (800, .invokevirtual 112, 3), (803, .if_icmp .eq 220, 3), (806, .iconst 0, 1), (807, .ireturn, 1), (808, .aload_n 1, 1), (809, .aload_n 0, 1), (810, .iload_n 3, 1), (811, .iconst 1, 1), (812, .iadd, 1), (813, .iaload, 1), (814, .aload_n 0, 1), (815, .iload_n 3, 1), (816, .iconst 2, 1), (817, .iadd, 1)]
def tL_law_13 : azT := [(818, .iaload, 1), (819, .aload_n 0, 1), (820, .iload_n 3, 1), (821, .iconst 3, 1), (822, .iadd, 1), (823, .iaload, 1), (824, .invokevirtual 113, 3), (827, .aload_n 2, 1), (828, .aload_n 0, 1), (829, .iload_n 3, 1), (830, .iconst 1, 1), (831, .iadd, 1), (832, .iaload, 1), (833, .aload_n 0, 1), (834, .iload_n 3, 1), (835, .iconst 2, 1), (836, .iadd, 1), (837, .iaload, 1), (838, .aload_n 0, 1), (839, .iload_n 3, 1), (840, .iconst 3, 1), (841, .iadd, 1), (842, .iaload, 1), (843, .invokevirtual 116, 3), (846, .if_icmp .eq 177, 3), (849, .iconst 0, 1), (850, .ireturn, 1), (851, .aload_n 1, 1), (852, .aload_n 0, 1), (853, .iload_n 3, 1), (854, .iconst 1, 1), (855, .iadd, 1), (856, .iaload, 1), (857, .aload_n 0, 1), (858, .iload_n 3, 1), (859, .iconst 2, 1), (860, .iadd, 1), (861, .iaload, 1), (862, .invokevirtual 117, 3), (865, .aload_n 2, 1)]
def tL_law_14 : azT := [(866, .aload_n 0, 1), (867, .iload_n 3, 1), (868, .iconst 1, 1), (869, .iadd, 1), (870, .iaload, 1), (871, .aload_n 0, 1), (872, .iload_n 3, 1), (873, .iconst 2, 1), (874, .iadd, 1), (875, .iaload, 1), (876, .invokevirtual 120, 3), (879, .if_icmp .eq 144, 3), (882, .iconst 0, 1), (883, .ireturn, 1), (884, .aload_n 1, 1), (885, .invokevirtual 121, 3), (888, .aload_n 2, 1), (889, .invokevirtual 124, 3), (892, .if_icmp .eq 131, 3), (895, .iconst 0, 1), (896, .ireturn, 1), (897, .aload_n 1, 1), (898, .aload_n 0, 1), (899, .iload_n 3, 1), (900, .iconst 1, 1), (901, .iadd, 1), (902, .iaload, 1), (903, .aload_n 0, 1), (904, .iload_n 3, 1), (905, .iconst 2, 1), (906, .iadd, 1), (907, .iaload, 1), (908, .aload_n 0, 1), (909, .iload_n 3, 1), (910, .iconst 3, 1), (911, .iadd, 1), (912, .iaload, 1), (913, .invokevirtual 125, 3), (916, .aload_n 2, 1), (917, .aload_n 0, 1)]
def tL_law_15 : azT := [(918, .iload_n 3, 1), (919, .iconst 1, 1), (920, .iadd, 1), (921, .iaload, 1), (922, .aload_n 0, 1), (923, .iload_n 3, 1), (924, .iconst 2, 1), (925, .iadd, 1), (926, .iaload, 1), (927, .aload_n 0, 1), (928, .iload_n 3, 1), (929, .iconst 3, 1), (930, .iadd, 1), (931, .iaload, 1), (932, .invokevirtual 129, 3), (935, .lcmp, 1), (936, .ifCond .eq 87, 3), (939, .iconst 0, 1), (940, .ireturn, 1), (941, .aload_n 1, 1), (942, .aload_n 0, 1), (943, .iload_n 3, 1), (944, .iconst 1, 1), (945, .iadd, 1), (946, .iaload, 1), (947, .aload_n 0, 1), (948, .iload_n 3, 1), (949, .iconst 2, 1), (950, .iadd, 1), (951, .iaload, 1), (952, .invokevirtual 130, 3), (955, .aload_n 2, 1), (956, .aload_n 0, 1), (957, .iload_n 3, 1), (958, .iconst 1, 1), (959, .iadd, 1), (960, .iaload, 1), (961, .aload_n 0, 1), (962, .iload_n 3, 1), (963, .iconst 2, 1)]
def tL_law_16 : azT := [(964, .iadd, 1), (965, .iaload, 1), (966, .invokevirtual 133, 3), (969, .if_icmp .eq 54, 3), (972, .iconst 0, 1), (973, .ireturn, 1), (974, .aload_n 1, 1), (975, .aload_n 0, 1), (976, .iload_n 3, 1), (977, .iconst 1, 1), (978, .iadd, 1), (979, .iaload, 1), (980, .invokevirtual 134, 3), (983, .aload_n 2, 1), (984, .aload_n 0, 1), (985, .iload_n 3, 1), (986, .iconst 1, 1), (987, .iadd, 1), (988, .iaload, 1), (989, .invokevirtual 137, 3), (992, .if_icmp .eq 31, 3), (995, .iconst 0, 1), (996, .ireturn, 1), (997, .aload_n 1, 1), (998, .invokevirtual 138, 3), (1001, .aload_n 2, 1), (1002, .invokevirtual 141, 3), (1005, .if_icmp .eq 18, 3), (1008, .iconst 0, 1), (1009, .ireturn, 1), (1010, .aload_n 1, 1), (1011, .invokevirtual 142, 3), (1014, .aload_n 2, 1), (1015, .invokevirtual 145, 3), (1018, .if_icmp .eq 5, 3), (1021, .iconst 0, 1), (1022, .ireturn, 1), (1023, .iinc 3 4, 3), (1026, .goto (-1008), 3), (1029, .iconst 1, 1)]
def tL_law_17 : azT := [(1030, .ireturn, 1)]
def tL_law : azT := tL_law_0 ++ (tL_law_1 ++ (tL_law_2 ++ (tL_law_3 ++ (tL_law_4 ++ (tL_law_5 ++ (tL_law_6 ++ (tL_law_7 ++ (tL_law_8 ++ (tL_law_9 ++ (tL_law_10 ++ (tL_law_11 ++ (tL_law_12 ++ (tL_law_13 ++ (tL_law_14 ++ (tL_law_15 ++ (tL_law_16 ++ (tL_law_17)))))))))))))))))
def mL_law : azM := (yL_law, cL_law, 4, some .boolean, false, 10, tL_law)
/-- fields by the pool: place, class, slot, kind of type, final, host -/
abbrev azF : Type := Nat × Nat × Nat × Nat × Bool × Option String
def azFL : List (List azF) := [[(9, 0, 0, 3, true, none), (15, 0, 1, 3, true, none), (65, 0, 3, 1, false, none), (69, 0, 2, 1, false, none)],
  [(9, 1, 0, 3, true, none), (15, 1, 1, 3, true, none), (18, 1, 2, 3, true, none), (29, 5, 2, 0, false, some "TokenNet"), (58, 5, 1, 0, false, some "TokenNet"), (81, 5, 0, 0, false, some "TokenNet"), (90, 5, 4, 0, false, some "TokenNet")],
  [(12, 2, 0, 3, true, none), (20, 2, 1, 3, true, none), (28, 2, 2, 0, false, none), (32, 2, 3, 2, false, none)],
  [(9, 3, 0, 3, true, none), (15, 3, 1, 3, true, none)],
  [(9, 4, 0, 3, true, none), (15, 4, 1, 3, true, none), (18, 4, 2, 3, true, none), (21, 4, 3, 0, false, none), (42, 5, 0, 0, false, some "TokenNet")],
  [(9, 5, 6, 3, true, none), (15, 5, 7, 3, true, none), (18, 5, 8, 3, true, none), (21, 5, 9, 3, true, none), (24, 5, 10, 3, true, none), (27, 5, 11, 3, true, none), (30, 5, 12, 3, true, none), (33, 5, 13, 3, true, none), (36, 5, 5, 0, false, none), (40, 5, 1, 0, false, none), (47, 5, 0, 0, false, none), (50, 5, 3, 0, false, none), (53, 5, 2, 0, false, none), (60, 5, 4, 0, false, none)],
  [(9, 6, 0, 3, true, none), (15, 6, 1, 0, false, none), (19, 6, 2, 0, false, none), (22, 6, 4, 0, false, none), (28, 6, 5, 3, false, none), (40, 5, 1, 0, false, some "TokenNet"), (43, 6, 3, 0, false, none), (99, 5, 2, 0, false, some "TokenNet"), (109, 5, 5, 0, false, some "TokenNet")],
  [(11, 7, 0, 3, true, none), (18, 7, 1, 3, true, none), (22, 7, 2, 3, true, none), (26, 7, 3, 3, true, none), (29, 7, 4, 3, true, none), (32, 7, 5, 3, true, none), (35, 7, 6, 3, true, none), (43, 7, 7, 0, false, none)],
  [(14, 8, 0, 3, true, none), (18, 8, 1, 3, true, none), (21, 8, 2, 3, true, none), (26, 8, 3, 3, true, none), (33, 8, 4, 3, true, none), (40, 8, 5, 3, true, none), (47, 8, 6, 3, true, none), (54, 8, 7, 3, true, none), (61, 8, 8, 3, true, none), (68, 8, 9, 3, true, none), (80, 8, 11, 2, false, none), (100, 6, 1, 0, false, some "TokenNet"), (114, 6, 3, 0, false, some "TokenNet"), (117, 5, 0, 0, false, some "TokenNet"), (120, 5, 1, 0, false, some "TokenNet"), (123, 5, 3, 0, false, some "TokenNet"), (126, 5, 2, 0, false, some "TokenNet"), (129, 5, 4, 0, false, some "TokenNet"), (141, 4, 3, 0, false, some "TokenNet"), (166, 8, 10, 0, false, none), (234, 0, 2, 1, false, some "TokenNet"), (238, 0, 3, 1, false, some "TokenNet"), (252, 2, 3, 2, false, some "TokenNet"), (259, 2, 2, 0, false, some "TokenNet")],
  [(9, 9, 0, 3, true, none), (15, 9, 1, 3, true, none), (18, 9, 2, 3, true, none), (21, 9, 3, 3, true, none), (24, 9, 7, 3, true, none), (27, 9, 9, 3, true, none), (30, 9, 14, 3, true, none), (33, 9, 15, 3, true, none), (36, 9, 17, 3, true, none), (39, 9, 18, 3, true, none), (42, 9, 20, 3, true, none), (45, 9, 23, 3, true, none), (48, 9, 26, 3, true, none), (51, 9, 28, 3, true, none), (54, 9, 29, 3, true, none), (57, 9, 30, 3, true, none), (60, 9, 31, 3, true, none), (63, 9, 33, 3, true, none), (66, 9, 34, 3, true, none), (69, 9, 35, 3, true, none), (72, 9, 36, 3, true, none), (75, 9, 37, 3, true, none), (78, 9, 38, 3, true, none), (82, 9, 39, 3, true, none), (86, 9, 40, 3, true, none), (89, 9, 41, 3, true, none), (92, 9, 43, 3, true, none), (121, 9, 8, 0, false, none), (125, 9, 11, 0, false, none), (128, 9, 10, 0, false, none), (131, 9, 12, 0, false, none), (154, 9, 24, 0, false, none), (157, 9, 25, 0, false, none), (166, 9, 13, 0, false, none), (169, 9, 16, 0, false, none), (172, 9, 19, 0, false, none), (182, 9, 22, 0, false, none), (195, 9, 21, 0, false, none), (213, 9, 27, 0, false, none), (251, 9, 4, 0, false, none), (265, 9, 32, 0, false, none), (298, 9, 44, 0, false, none), (301, 9, 42, 0, false, none), (315, 9, 45, 1, false, none), (319, 9, 46, 1, false, none), (330, 9, 5, 0, false, none), (333, 9, 6, 2, false, none)],
  [],
  [],
  [],
  [],
  [],
  [],
  []]
def azXL : List (List (Nat × Nat)) := [[], [], [], [], [], [], [], [], [], [], [], [], [], [(9, 0), (15, 1)], [], [], []]
def azTL : List (List (Nat × Nat)) := [[], [], [], [], [], [], [], [], [], [], [], [], [], [(38, 0), (1053, 1)], [], [], []]
/-- calls by the pool: place, kind (0 virtual, 1 static, 2 constructor, 3 static of a nest mate, 6 Object(), 7 virtual on a text), parameters, the method -/
abbrev azCl : Type := Nat × Nat × Nat × azM
def azCL : List (List azCl) := [[(3, 6, 0, m_nil), (19, 0, 1, mX5_changeOf), (25, 0, 2, mX0_rowWith), (29, 0, 2, mX0_swapRows), (33, 0, 2, mX0_clearOthers), (36, 0, 3, mX0_clearRow), (40, 0, 1, mX0_shortenRow), (44, 1, 2, mX0_commonDivisor), (48, 1, 1, mJ9_abs_067f4), (54, 3, 1, mX8_isPlace), (58, 0, 2, mX0_setFraction), (62, 0, 2, mX0_weigh), (72, 0, 1, mX3_count)],
  [(3, 6, 0, m_nil), (21, 0, 4, mX1_bindFrom), (25, 0, 3, mX1_copyLeft), (35, 0, 1, mX5_giveClause), (39, 0, 2, mX1_value), (43, 1, 2, mJ9_floorMod_7cf53), (49, 0, 1, mX5_place), (52, 0, 2, mX3_append), (61, 0, 1, mX1_conditionsHold), (65, 0, 1, mX5_takeClause), (68, 0, 1, mX5_name), (71, 0, 1, mX3_count), (74, 0, 4, mX1_isFree), (78, 0, 2, mX3_at), (84, 0, 1, mX5_kind), (87, 0, 0, mX3_wipe), (93, 0, 3, mX1_isTaken), (97, 0, 1, mX5_begin), (100, 0, 1, mX5_end), (103, 0, 1, mX5_item), (106, 1, 3, mX1_result)],
  [(3, 6, 0, m_nil), (11, 2, 0, mX3_init), (24, 0, 1, mX3_copy)],
  [(3, 6, 0, m_nil), (18, 0, 2, mX3_holds), (22, 3, 1, mX8_isPlace)],
  [(3, 6, 0, m_nil), (25, 0, 1, mX3_count), (31, 0, 1, mX4_write), (35, 0, 1, mX4_writeNumber), (38, 0, 2, mX3_at), (47, 0, 2, mX4_writeClause), (51, 0, 1, mX5_kind), (54, 3, 1, mX8_wordOf), (58, 0, 1, mX4_writeText), (62, 0, 1, mX5_place), (65, 0, 1, mX5_name), (68, 0, 1, mX5_begin), (71, 0, 1, mX5_end), (74, 0, 3, mX4_writeCode), (78, 0, 1, mX5_item), (81, 0, 3, mX4_joinPieces), (85, 0, 1, mX4_writeItem), (88, 1, 1, mX4_holdOf), (91, 0, 2, mX4_insert), (95, 7, 0, mJ0_length_8abf5), (100, 7, 1, mJ0_charAt_5068e)],
  [(3, 6, 0, m_nil), (43, 0, 4, mX5_addClause), (56, 3, 1, mX8_isPlace), (63, 0, 1, mX5_place), (67, 0, 1, mX5_kind)],
  [(3, 6, 0, m_nil), (27, 2, 0, mX5_init), (32, 0, 0, mX6_readClause), (36, 0, 1, mX6_expect), (46, 0, 0, mX6_peek), (50, 0, 1, mX6_fail), (53, 0, 1, mX6_wordEnd), (57, 0, 2, mX6_kindOf), (61, 0, 1, mX6_isOneTooMany), (64, 0, 0, mX6_readIf), (67, 3, 1, mX8_isFigure), (70, 0, 1, mX5_addEmpty), (74, 0, 1, mX6_readIn), (77, 0, 1, mX6_readOut), (80, 0, 1, mX6_byteAt), (83, 3, 1, mX8_wordOf), (87, 0, 3, mX6_isWord), (91, 7, 0, mJ0_length_8abf5), (95, 7, 1, mJ0_charAt_5068e), (102, 3, 1, mX8_isName), (105, 0, 2, mX5_addTake), (110, 0, 1, mX6_readSum), (113, 0, 2, mX5_addGive), (116, 0, 0, mX6_readComparison), (119, 0, 1, mX5_addItem), (122, 0, 2, mX5_addCondition), (125, 0, 1, mX6_readFactor)],
  [(3, 6, 0, m_nil), (17, 2, 0, mX3_init), (39, 0, 1, mX3_copy), (47, 0, 3, mX1_goes), (53, 0, 2, mX7_numberOfNext), (57, 0, 1, mX3_isLike), (61, 1, 2, mJ9_min_7cf53), (66, 0, 1, mX3_count), (69, 0, 1, mX7_among), (72, 0, 2, mX7_countIn), (75, 1, 2, mJ9_max_7cf53), (78, 0, 1, mX7_spreadEnding), (82, 0, 2, mX7_leadsToEnding)],
  [(5, 6, 0, m_nil), (13, 2, 0, mX3_init), (32, 2, 0, mX6_init), (39, 2, 0, mX4_init), (46, 2, 0, mX1_init), (53, 2, 0, mX7_init), (60, 2, 0, mX0_init), (67, 2, 0, mX2_init), (72, 1, 1, mX8_isPlace), (76, 0, 2, mX3_append), (84, 0, 1, mX3_count), (88, 0, 2, mX3_holds), (91, 0, 2, mX3_remove), (95, 0, 2, mX3_at), (98, 0, 1, mX6_append), (104, 0, 0, mX6_wipe), (107, 1, 1, mX8_isPart), (110, 0, 0, mX6_read), (132, 1, 1, mJ6_bitCount_0f7a4), (137, 0, 1, mX4_writeRule), (142, 0, 1, mX4_writeMarking), (146, 0, 1, mX4_at), (148, 0, 3, mX1_goes), (152, 0, 2, mX1_bindFirst), (156, 0, 1, mX1_chosenFor), (159, 0, 2, mX1_countBindings), (163, 0, 1, mX3_copy), (169, 1, 1, mX8_isSet), (172, 1, 1, mX8_isTimes), (175, 0, 2, mX8_tryOut), (178, 1, 1, mX8_isReach), (181, 0, 0, mX8_walksNow), (185, 0, 1, mX7_among), (188, 0, 2, mX7_fullest), (191, 0, 0, mX8_rulesTold), (195, 0, 1, mX7_ableSomewhere), (198, 0, 1, mX7_countEnds), (201, 0, 1, mX7_firstStuck), (204, 0, 1, mX7_steps), (207, 0, 2, mX7_step), (210, 0, 2, mX7_countIn), (213, 0, 1, mX5_changeOf), (216, 0, 1, mX0_solve), (220, 0, 0, mX0_count), (222, 0, 1, mX0_placeOf), (225, 1, 1, mX8_isSide), (230, 0, 2, mX0_weigh), (241, 0, 2, mX0_addUp), (245, 0, 0, mX3_total), (248, 0, 3, mX2_keep), (255, 0, 2, mX2_giveBack), (268, 0, 1, mX8_tryOne), (271, 0, 3, mX7_search)],
  [(3, 6, 0, m_nil), (97, 1, 3, mX9_isIn), (101, 1, 2, mX9_at), (105, 1, 1, mX9_isPlace), (111, 1, 3, mX9_adds), (115, 1, 3, mX9_removes), (134, 0, 0, mX9_peek), (138, 0, 1, mX9_wrong), (142, 1, 1, mX9_isFigure), (145, 0, 0, mX9_term), (148, 0, 0, mX9_factor), (151, 0, 0, mX9_figure), (160, 0, 0, mX9_expression), (163, 0, 1, mX9_takes), (175, 0, 0, mX9_compares), (179, 0, 0, mX9_word), (186, 0, 0, mX9_takeClause), (189, 0, 0, mX9_giveClause), (192, 0, 0, mX9_conditionClause), (198, 0, 0, mX9_clause), (201, 1, 5, mX9_pours), (205, 0, 0, mX9_reads), (210, 0, 1, mX9_readsRule), (216, 0, 2, mX9_sign), (219, 0, 2, mX9_bare), (222, 0, 2, mX9_looseness), (225, 0, 1, mX9_writes), (228, 0, 3, mX9_spells), (232, 0, 1, mX9_end), (236, 0, 1, mX9_writesNumber), (239, 0, 1, mX9_isBinding), (243, 0, 2, mX9_binds), (247, 0, 2, mX9_goes), (258, 1, 2, mX9_isRepeat), (262, 0, 2, mX9_repeats), (270, 0, 1, mX9_placeOf), (274, 0, 1, mX9_finds), (277, 1, 2, mJ9_max_7cf53), (282, 0, 1, mX9_isEnd), (285, 0, 1, mX9_changeOf), (288, 1, 2, mX9_gcd), (294, 0, 3, mX9_sets), (304, 0, 2, mX9_swaps), (308, 0, 4, mX9_less), (312, 0, 0, mX9_reduces), (324, 0, 2, mX9_weighs), (327, 0, 0, mX9_tokens)],
  [(9, 2, 0, mX8_init), (12, 2, 0, mX9_init), (13, 0, 2, mX8_put), (17, 0, 2, mX9_put), (18, 0, 2, mX8_take), (21, 0, 2, mX9_take), (22, 0, 2, mX8_token), (25, 0, 2, mX9_token), (26, 0, 1, mX8_feed), (30, 0, 1, mX9_feed), (31, 0, 0, mX8_clear), (35, 0, 0, mX9_clear), (36, 0, 1, mX8_rule), (39, 0, 1, mX9_rule), (40, 0, 1, mX8_drop), (43, 0, 1, mX9_drop), (44, 0, 2, mX8_has), (47, 0, 2, mX9_has), (48, 0, 1, mX8_spell), (51, 0, 1, mX9_spell), (52, 0, 0, mX8_line), (55, 0, 0, mX9_line), (56, 0, 1, mX8_paper), (59, 0, 1, mX9_paper), (60, 0, 1, mX8_can), (63, 0, 1, mX9_can), (64, 0, 2, mX8_bound), (67, 0, 2, mX9_bound), (68, 0, 1, mX8_bindings), (71, 0, 1, mX9_bindings), (72, 0, 1, mX8_go), (75, 0, 1, mX9_go), (76, 0, 0, mX8_all), (79, 0, 0, mX9_all), (80, 0, 2, mX8_again), (83, 0, 2, mX9_again), (84, 0, 3, mX8_last), (88, 0, 3, mX9_last), (89, 0, 1, mX8_reach), (92, 0, 1, mX9_reach), (93, 0, 2, mX8_most), (96, 0, 2, mX9_most), (97, 0, 1, mX8_dead), (100, 0, 1, mX9_dead), (101, 0, 1, mX8_ends), (104, 0, 1, mX9_ends), (105, 0, 1, mX8_stuck), (108, 0, 1, mX9_stuck), (109, 0, 3, mX8_walk), (112, 0, 3, mX9_walk), (113, 0, 3, mX8_held), (116, 0, 3, mX9_held), (117, 0, 2, mX8_change), (120, 0, 2, mX9_change), (121, 0, 0, mX8_invariants), (124, 0, 0, mX9_invariants), (125, 0, 3, mX8_weight), (129, 0, 3, mX9_weight), (130, 0, 2, mX8_sum), (133, 0, 2, mX9_sum), (134, 0, 1, mX8_told), (137, 0, 1, mX9_told), (138, 0, 0, mX8_image), (141, 0, 0, mX9_image), (142, 0, 0, mX8_undo), (145, 0, 0, mX9_undo)],
  [],
  [],
  [(335, 7, 0, mJ0_coder_7d493), (492, 7, 0, mJ0_isLatin1_aae02), (495, 1, 2, mJ1_charAt_3b067), (1059, 1, 3, mJ3_checkIndex_8e157)],
  [(9, 1, 2, mJ0_checkIndex_df160)],
  [(414, 1, 2, mJ0_checkIndex_df160)],
  []]
def azNL : List (List (Nat × Nat × Nat)) := [[], [], [(9, 3, 2)], [], [], [], [(25, 5, 14)], [(9, 3, 2)], [(11, 3, 2), (30, 6, 6), (37, 4, 4), (44, 1, 3), (51, 7, 8), (58, 0, 4), (65, 2, 4)], [], [(7, 8, 12), (10, 9, 47)], [], [], [], [], [], []]
def azAL : List (List (Nat × Nat)) := [[], [], [(18, 14)], [], [], [], [], [(9, 13)], [(24, 14)], [], [], [], [], [], [], [], []]
def azDL : List (List (Nat × Int32)) := [[], [], [], [], [], [], [], [], [], [(185, 2925313)], [], [(265, 1431655765), (266, 858993459), (267, 252645135)], [], [], [], [], []]
def azSL : List (List (Nat × Nat × String)) := [[], [], [], [], [], [], [], [], [(260, 0, "in"), (262, 1, "if"), (264, 2, "out"), (266, 3, "empty")], [], [], [], [], [], [], [], []]
def azLL : List (List (Nat × Int64)) := [[(77, -1)], [], [], [], [], [], [], [], [(228, -9223372036854775808)], [(95, 9), (109, 99), (119, 127), (208, 3), (254, 1023), (256, 200), (268, 60), (292, -1), (322, -9223372036854775808)], [], [], [], [], [], [], []]
def azLk {α : Type} (c : Nat) (L : List (List (Nat × α))) (k : Nat) : Option α := ((L.getD c []).find? (fun q => Nat.beq q.1 k)).map (·.2)
def azObj : List Cond := [.instanceMethod objectInit, .code objectInit ⟨#[0xb1]⟩ 1 none]
def azFw (c : Nat) (q : azF) : List Cond := match vwCl[q.2.1]?, q.2.2.2.2.2 with
  | some r, none => [.fieldLink (azN c) q.1 r.1 (r.2.1 q.2.2.1).2.1 (r.2.1 q.2.2.1).2.2.1]
  | _, _ => []
def azFx (c : Nat) (q : azF) : List Cond := match vwCl[q.2.1]?, q.2.2.2.2.2 with
  | some r, some h => [.fieldLinkNest (azN c) q.1 r.1 (r.2.1 q.2.2.1).2.1 (r.2.1 q.2.2.1).2.2.1 h]
  | _, _ => []
def azCode (M : azM) : Cond := .code M.1 M.2.1 M.2.2.1 M.2.2.2.1
def azCw (c : Nat) (q : azCl) : List Cond := match q.2.1 with
  | 0 => [.methodLink (azN c) q.1 q.2.2.2.1, azCode q.2.2.2, .instanceMethod q.2.2.2.1, .selects q.2.2.2.1.cls q.2.2.2.1 q.2.2.2.1, .initialized q.2.2.2.1.cls]
  | 1 => [.methodLink (azN c) q.1 q.2.2.2.1, azCode q.2.2.2, .static q.2.2.2.1, .initialized q.2.2.2.1.cls]
  | 2 => [.methodLink (azN c) q.1 q.2.2.2.1, azCode q.2.2.2, .instanceMethod q.2.2.2.1, .initialized q.2.2.2.1.cls]
  | 3 => [azCode q.2.2.2, .static q.2.2.2.1, .initialized q.2.2.2.1.cls]
  | 7 => [.methodLink (azN c) q.1 q.2.2.2.1, azCode q.2.2.2, .instanceMethod q.2.2.2.1, .selects q.2.2.2.1.cls q.2.2.2.1 q.2.2.2.1, .initialized q.2.2.2.1.cls]
  | _ => [.methodLink (azN c) q.1 objectInit, .instanceMethod objectInit, .code objectInit ⟨#[0xb1]⟩ 1 none]
def azCx (c : Nat) (q : azCl) : List Cond := match q.2.1 with
  | 3 => [.methodLinkNest (azN c) q.1 q.2.2.2.1 RX8]
  | _ => []
def azNw (c : Nat) (q : Nat × Nat × Nat) : List Cond := [.classLink (azN c) q.1 (azN q.2.1), .instantiable (azN q.2.1) q.2.2, .initialized (azN q.2.1)]
def azAw (c : Nat) (q : Nat × Nat) : List Cond := [.classLink (azN c) q.1 (bif Nat.beq q.2 13 then RX3 else RX5)]
def azDw (c : Nat) (q : Nat × Int32) : List Cond := [.constant (azN c) q.1 q.2]
def azSw (c : Nat) (q : Nat × Nat × String) : List Cond := [.stringRef (azN c) q.1 q.2.2]
def azXw (c : Nat) (q : Nat × Nat) : List Cond := [bif Nat.beq q.2 0 then .fieldLink (azN c) q.1 "java/lang/String" "value" "[B" else .fieldLink (azN c) q.1 "java/lang/String" "coder" "B"]
def azTw (c : Nat) (q : Nat × Nat) : List Cond := [bif Nat.beq q.2 0 then .fieldLink (azN c) q.1 "java/lang/String" "COMPACT_STRINGS" "Z" else .fieldLink (azN c) q.1 "jdk/internal/util/Preconditions" "SIOOBE_FORMATTER" "Ljava/util/function/BiFunction;"]
def azLw (c : Nat) (q : Nat × Int64) : List Cond := [.constantLong (azN c) q.1 q.2]
def azMap {α : Type} (L : List (List α)) (f : Nat → α → List Cond) : List Cond := (List.range 17).flatMap (fun c => (L.getD c []).flatMap (f c))
def azLays : List Cond := wsX00 ++ (wsX10 ++ (wsX20 ++ (wsX30 ++ (wsX40 ++ (wsX50 ++ (wsX60 ++ (wsX70 ++ (wsX80 ++ wsX90))))))))
def azArr : List Cond := [.arrayClass .int, .arrayClass .long, .arrayClass .boolean]
theorem azWc_0 : GoodIn lw_tbl (azCw 0 (3, 6, 0, m_nil)) := goodIn_r _ [223, 102, 103] (by decide +kernel) (by decide +kernel)
theorem azWc_1 : GoodIn lw_tbl (azCw 0 (19, 0, 1, mX5_changeOf)) := goodIn_r _ [909, 898, 896, 897, 89] (by decide +kernel) (by decide +kernel)
theorem azWc_2 : GoodIn lw_tbl (azCw 0 (25, 0, 2, mX0_rowWith)) := goodIn_r _ [910, 913, 912, 37, 86] (by decide +kernel) (by decide +kernel)
theorem azWc_3 : GoodIn lw_tbl (azCw 0 (29, 0, 2, mX0_swapRows)) := goodIn_r _ [914, 917, 916, 38, 86] (by decide +kernel) (by decide +kernel)
theorem azWc_4 : GoodIn lw_tbl (azCw 0 (33, 0, 2, mX0_clearOthers)) := goodIn_r _ [918, 921, 920, 39, 86] (by decide +kernel) (by decide +kernel)
theorem azWc_5 : GoodIn lw_tbl (azCw 0 (36, 0, 3, mX0_clearRow)) := goodIn_r _ [922, 925, 924, 40, 86] (by decide +kernel) (by decide +kernel)
theorem azWc_6 : GoodIn lw_tbl (azCw 0 (40, 0, 1, mX0_shortenRow)) := goodIn_r _ [926, 929, 928, 41, 86] (by decide +kernel) (by decide +kernel)
theorem azWc_7 : GoodIn lw_tbl (azCw 0 (44, 1, 2, mX0_commonDivisor)) := goodIn_r _ [930, 932, 931, 86] (by decide +kernel) (by decide +kernel)
theorem azWc_8 : GoodIn lw_tbl (azCw 0 (48, 1, 1, mJ9_abs_067f4)) := goodIn_r _ [933, 935, 934, 95] (by decide +kernel) (by decide +kernel)
theorem azWc_9 : GoodIn lw_tbl (azCw 0 (54, 3, 1, mX8_isPlace)) := goodIn_r _ [307, 306, 80] (by decide +kernel) (by decide +kernel)
theorem azWc_10 : GoodIn lw_tbl (azCw 0 (58, 0, 2, mX0_setFraction)) := goodIn_r _ [957, 960, 959, 42, 86] (by decide +kernel) (by decide +kernel)
theorem azWc_11 : GoodIn lw_tbl (azCw 0 (62, 0, 2, mX0_weigh)) := goodIn_r _ [970, 955, 953, 954, 86] (by decide +kernel) (by decide +kernel)
theorem azWc_12 : GoodIn lw_tbl (azCw 0 (72, 0, 1, mX3_count)) := goodIn_r _ [971, 316, 314, 315, 81] (by decide +kernel) (by decide +kernel)
theorem azWc_13 : GoodIn lw_tbl (azCw 1 (3, 6, 0, m_nil)) := goodIn_r _ [172, 102, 103] (by decide +kernel) (by decide +kernel)
theorem azWc_14 : GoodIn lw_tbl (azCw 1 (21, 0, 4, mX1_bindFrom)) := goodIn_r _ [684, 687, 686, 24, 84] (by decide +kernel) (by decide +kernel)
theorem azWc_15 : GoodIn lw_tbl (azCw 1 (25, 0, 3, mX1_copyLeft)) := goodIn_r _ [715, 718, 717, 28, 84] (by decide +kernel) (by decide +kernel)
theorem azWc_16 : GoodIn lw_tbl (azCw 1 (35, 0, 1, mX5_giveClause)) := goodIn_r _ [728, 731, 729, 730, 89] (by decide +kernel) (by decide +kernel)
theorem azWc_17 : GoodIn lw_tbl (azCw 1 (39, 0, 2, mX1_value)) := goodIn_r _ [693, 696, 695, 26, 84] (by decide +kernel) (by decide +kernel)
theorem azWc_18 : GoodIn lw_tbl (azCw 1 (43, 1, 2, mJ9_floorMod_7cf53)) := goodIn_r _ [732, 734, 733, 95] (by decide +kernel) (by decide +kernel)
theorem azWc_19 : GoodIn lw_tbl (azCw 1 (49, 0, 1, mX5_place)) := goodIn_r _ [707, 618, 616, 617, 89] (by decide +kernel) (by decide +kernel)
theorem azWc_20 : GoodIn lw_tbl (azCw 1 (52, 0, 2, mX3_append)) := goodIn_r _ [727, 311, 309, 310, 81] (by decide +kernel) (by decide +kernel)
theorem azWc_21 : GoodIn lw_tbl (azCw 1 (61, 0, 1, mX1_conditionsHold)) := goodIn_r _ [688, 691, 690, 25, 84] (by decide +kernel) (by decide +kernel)
theorem azWc_22 : GoodIn lw_tbl (azCw 1 (65, 0, 1, mX5_takeClause)) := goodIn_r _ [703, 706, 704, 705, 89] (by decide +kernel) (by decide +kernel)
theorem azWc_23 : GoodIn lw_tbl (azCw 1 (68, 0, 1, mX5_name)) := goodIn_r _ [708, 626, 624, 625, 89] (by decide +kernel) (by decide +kernel)
theorem azWc_24 : GoodIn lw_tbl (azCw 1 (71, 0, 1, mX3_count)) := goodIn_r _ [709, 316, 314, 315, 81] (by decide +kernel) (by decide +kernel)
theorem azWc_25 : GoodIn lw_tbl (azCw 1 (74, 0, 4, mX1_isFree)) := goodIn_r _ [710, 713, 712, 27, 84] (by decide +kernel) (by decide +kernel)
theorem azWc_26 : GoodIn lw_tbl (azCw 1 (78, 0, 2, mX3_at)) := goodIn_r _ [714, 337, 335, 336, 81] (by decide +kernel) (by decide +kernel)
theorem azWc_27 : GoodIn lw_tbl (azCw 1 (84, 0, 1, mX5_kind)) := goodIn_r _ [692, 607, 605, 606, 89] (by decide +kernel) (by decide +kernel)
theorem azWc_28 : GoodIn lw_tbl (azCw 1 (87, 0, 0, mX3_wipe)) := goodIn_r _ [719, 722, 720, 721, 81] (by decide +kernel) (by decide +kernel)
theorem azWc_29 : GoodIn lw_tbl (azCw 1 (93, 0, 3, mX1_isTaken)) := goodIn_r _ [723, 726, 725, 29, 84] (by decide +kernel) (by decide +kernel)
theorem azWc_30 : GoodIn lw_tbl (azCw 1 (97, 0, 1, mX5_begin)) := goodIn_r _ [697, 630, 628, 629, 89] (by decide +kernel) (by decide +kernel)
theorem azWc_31 : GoodIn lw_tbl (azCw 1 (100, 0, 1, mX5_end)) := goodIn_r _ [698, 634, 632, 633, 89] (by decide +kernel) (by decide +kernel)
theorem azWc_32 : GoodIn lw_tbl (azCw 1 (103, 0, 1, mX5_item)) := goodIn_r _ [699, 642, 640, 641, 89] (by decide +kernel) (by decide +kernel)
theorem azWc_33 : GoodIn lw_tbl (azCw 1 (106, 1, 3, mX1_result)) := goodIn_r _ [700, 702, 701, 84] (by decide +kernel) (by decide +kernel)
theorem azWc_34 : GoodIn lw_tbl (azCw 2 (3, 6, 0, m_nil)) := goodIn_r _ [245, 102, 103] (by decide +kernel) (by decide +kernel)
theorem azWc_35 : GoodIn lw_tbl (azCw 2 (11, 2, 0, mX3_init)) := goodIn_r _ [247, 108, 107, 81] (by decide +kernel) (by decide +kernel)
theorem azWc_36 : GoodIn lw_tbl (azCw 2 (24, 0, 1, mX3_copy)) := goodIn_r _ [988, 762, 760, 761, 81] (by decide +kernel) (by decide +kernel)
theorem azWc_37 : GoodIn lw_tbl (azCw 3 (3, 6, 0, m_nil)) := goodIn_r _ [109, 102, 103] (by decide +kernel) (by decide +kernel)
theorem azWc_38 : GoodIn lw_tbl (azCw 3 (18, 0, 2, mX3_holds)) := goodIn_r _ [329, 324, 322, 323, 81] (by decide +kernel) (by decide +kernel)
theorem azWc_39 : GoodIn lw_tbl (azCw 3 (22, 3, 1, mX8_isPlace)) := goodIn_r _ [307, 306, 80] (by decide +kernel) (by decide +kernel)
theorem azWc_40 : GoodIn lw_tbl (azCw 4 (3, 6, 0, m_nil)) := goodIn_r _ [152, 102, 103] (by decide +kernel) (by decide +kernel)
theorem azWc_41 : GoodIn lw_tbl (azCw 4 (25, 0, 1, mX3_count)) := goodIn_r _ [666, 316, 314, 315, 81] (by decide +kernel) (by decide +kernel)
theorem azWc_42 : GoodIn lw_tbl (azCw 4 (31, 0, 1, mX4_write)) := goodIn_r _ [596, 599, 598, 16, 83] (by decide +kernel) (by decide +kernel)
theorem azWc_43 : GoodIn lw_tbl (azCw 4 (35, 0, 1, mX4_writeNumber)) := goodIn_r _ [619, 622, 621, 19, 83] (by decide +kernel) (by decide +kernel)
theorem azWc_44 : GoodIn lw_tbl (azCw 4 (38, 0, 2, mX3_at)) := goodIn_r _ [667, 337, 335, 336, 81] (by decide +kernel) (by decide +kernel)
theorem azWc_45 : GoodIn lw_tbl (azCw 4 (47, 0, 2, mX4_writeClause)) := goodIn_r _ [600, 603, 602, 17, 83] (by decide +kernel) (by decide +kernel)
theorem azWc_46 : GoodIn lw_tbl (azCw 4 (51, 0, 1, mX5_kind)) := goodIn_r _ [604, 607, 605, 606, 89] (by decide +kernel) (by decide +kernel)
theorem azWc_47 : GoodIn lw_tbl (azCw 4 (54, 3, 1, mX8_wordOf)) := goodIn_r _ [445, 444, 80] (by decide +kernel) (by decide +kernel)
theorem azWc_48 : GoodIn lw_tbl (azCw 4 (58, 0, 1, mX4_writeText)) := goodIn_r _ [609, 612, 611, 18, 83] (by decide +kernel) (by decide +kernel)
theorem azWc_49 : GoodIn lw_tbl (azCw 4 (62, 0, 1, mX5_place)) := goodIn_r _ [615, 618, 616, 617, 89] (by decide +kernel) (by decide +kernel)
theorem azWc_50 : GoodIn lw_tbl (azCw 4 (65, 0, 1, mX5_name)) := goodIn_r _ [623, 626, 624, 625, 89] (by decide +kernel) (by decide +kernel)
theorem azWc_51 : GoodIn lw_tbl (azCw 4 (68, 0, 1, mX5_begin)) := goodIn_r _ [627, 630, 628, 629, 89] (by decide +kernel) (by decide +kernel)
theorem azWc_52 : GoodIn lw_tbl (azCw 4 (71, 0, 1, mX5_end)) := goodIn_r _ [631, 634, 632, 633, 89] (by decide +kernel) (by decide +kernel)
theorem azWc_53 : GoodIn lw_tbl (azCw 4 (74, 0, 3, mX4_writeCode)) := goodIn_r _ [635, 638, 637, 20, 83] (by decide +kernel) (by decide +kernel)
theorem azWc_54 : GoodIn lw_tbl (azCw 4 (78, 0, 1, mX5_item)) := goodIn_r _ [639, 642, 640, 641, 89] (by decide +kernel) (by decide +kernel)
theorem azWc_55 : GoodIn lw_tbl (azCw 4 (81, 0, 3, mX4_joinPieces)) := goodIn_r _ [643, 646, 645, 21, 83] (by decide +kernel) (by decide +kernel)
theorem azWc_56 : GoodIn lw_tbl (azCw 4 (85, 0, 1, mX4_writeItem)) := goodIn_r _ [654, 657, 656, 23, 83] (by decide +kernel) (by decide +kernel)
theorem azWc_57 : GoodIn lw_tbl (azCw 4 (88, 1, 1, mX4_holdOf)) := goodIn_r _ [647, 649, 648, 83] (by decide +kernel) (by decide +kernel)
theorem azWc_58 : GoodIn lw_tbl (azCw 4 (91, 0, 2, mX4_insert)) := goodIn_r _ [650, 653, 652, 22, 83] (by decide +kernel) (by decide +kernel)
theorem azWc_59 : GoodIn lw_tbl (azCw 4 (95, 7, 0, mJ0_length_8abf5)) := goodIn_r _ [613, 457, 455, 456, 90] (by decide +kernel) (by decide +kernel)
theorem azWc_60 : GoodIn lw_tbl (azCw 4 (100, 7, 1, mJ0_charAt_5068e)) := goodIn_r _ [614, 467, 465, 466, 90] (by decide +kernel) (by decide +kernel)
theorem azWc_61 : GoodIn lw_tbl (azCw 5 (3, 6, 0, m_nil)) := goodIn_r _ [370, 102, 103] (by decide +kernel) (by decide +kernel)
theorem azWc_62 : GoodIn lw_tbl (azCw 5 (43, 0, 4, mX5_addClause)) := goodIn_r _ [548, 551, 550, 13, 89] (by decide +kernel) (by decide +kernel)
theorem azWc_63 : GoodIn lw_tbl (azCw 5 (56, 3, 1, mX8_isPlace)) := goodIn_r _ [307, 306, 80] (by decide +kernel) (by decide +kernel)
theorem azWc_64 : GoodIn lw_tbl (azCw 5 (63, 0, 1, mX5_place)) := goodIn_r _ [899, 618, 616, 617, 89] (by decide +kernel) (by decide +kernel)
theorem azWc_65 : GoodIn lw_tbl (azCw 5 (67, 0, 1, mX5_kind)) := goodIn_r _ [900, 607, 605, 606, 89] (by decide +kernel) (by decide +kernel)
theorem azWc_66 : GoodIn lw_tbl (azCw 6 (3, 6, 0, m_nil)) := goodIn_r _ [125, 102, 103] (by decide +kernel) (by decide +kernel)
theorem azWc_67 : GoodIn lw_tbl (azCw 6 (27, 2, 0, mX5_init)) := goodIn_r _ [367, 369, 368, 89] (by decide +kernel) (by decide +kernel)
theorem azWc_68 : GoodIn lw_tbl (azCw 6 (32, 0, 0, mX6_readClause)) := goodIn_r _ [427, 430, 429, 0, 82] (by decide +kernel) (by decide +kernel)
theorem azWc_69 : GoodIn lw_tbl (azCw 6 (36, 0, 1, mX6_expect)) := goodIn_r _ [510, 513, 512, 7, 82] (by decide +kernel) (by decide +kernel)
theorem azWc_70 : GoodIn lw_tbl (azCw 6 (46, 0, 0, mX6_peek)) := goodIn_r _ [514, 517, 516, 8, 82] (by decide +kernel) (by decide +kernel)
theorem azWc_71 : GoodIn lw_tbl (azCw 6 (50, 0, 1, mX6_fail)) := goodIn_r _ [506, 509, 508, 6, 82] (by decide +kernel) (by decide +kernel)
theorem azWc_72 : GoodIn lw_tbl (azCw 6 (53, 0, 1, mX6_wordEnd)) := goodIn_r _ [431, 434, 433, 1, 82] (by decide +kernel) (by decide +kernel)
theorem azWc_73 : GoodIn lw_tbl (azCw 6 (57, 0, 2, mX6_kindOf)) := goodIn_r _ [439, 442, 441, 3, 82] (by decide +kernel) (by decide +kernel)
theorem azWc_74 : GoodIn lw_tbl (azCw 6 (61, 0, 1, mX6_isOneTooMany)) := goodIn_r _ [502, 505, 504, 5, 82] (by decide +kernel) (by decide +kernel)
theorem azWc_75 : GoodIn lw_tbl (azCw 6 (64, 0, 0, mX6_readIf)) := goodIn_r _ [518, 521, 520, 9, 82] (by decide +kernel) (by decide +kernel)
theorem azWc_76 : GoodIn lw_tbl (azCw 6 (67, 3, 1, mX8_isFigure)) := goodIn_r _ [536, 535, 80] (by decide +kernel) (by decide +kernel)
theorem azWc_77 : GoodIn lw_tbl (azCw 6 (70, 0, 1, mX5_addEmpty)) := goodIn_r _ [552, 555, 553, 554, 89] (by decide +kernel) (by decide +kernel)
theorem azWc_78 : GoodIn lw_tbl (azCw 6 (74, 0, 1, mX6_readIn)) := goodIn_r _ [557, 560, 559, 14, 82] (by decide +kernel) (by decide +kernel)
theorem azWc_79 : GoodIn lw_tbl (azCw 6 (77, 0, 1, mX6_readOut)) := goodIn_r _ [565, 568, 567, 15, 82] (by decide +kernel) (by decide +kernel)
theorem azWc_80 : GoodIn lw_tbl (azCw 6 (80, 0, 1, mX6_byteAt)) := goodIn_r _ [435, 438, 437, 2, 82] (by decide +kernel) (by decide +kernel)
theorem azWc_81 : GoodIn lw_tbl (azCw 6 (83, 3, 1, mX8_wordOf)) := goodIn_r _ [445, 444, 80] (by decide +kernel) (by decide +kernel)
theorem azWc_82 : GoodIn lw_tbl (azCw 6 (87, 0, 3, mX6_isWord)) := goodIn_r _ [450, 453, 452, 4, 82] (by decide +kernel) (by decide +kernel)
theorem azWc_83 : GoodIn lw_tbl (azCw 6 (91, 7, 0, mJ0_length_8abf5)) := goodIn_r _ [454, 457, 455, 456, 90] (by decide +kernel) (by decide +kernel)
theorem azWc_84 : GoodIn lw_tbl (azCw 6 (95, 7, 1, mJ0_charAt_5068e)) := goodIn_r _ [464, 467, 465, 466, 90] (by decide +kernel) (by decide +kernel)
theorem azWc_85 : GoodIn lw_tbl (azCw 6 (102, 3, 1, mX8_isName)) := goodIn_r _ [543, 542, 80] (by decide +kernel) (by decide +kernel)
theorem azWc_86 : GoodIn lw_tbl (azCw 6 (105, 0, 2, mX5_addTake)) := goodIn_r _ [561, 564, 562, 563, 89] (by decide +kernel) (by decide +kernel)
theorem azWc_87 : GoodIn lw_tbl (azCw 6 (110, 0, 1, mX6_readSum)) := goodIn_r _ [526, 529, 528, 11, 82] (by decide +kernel) (by decide +kernel)
theorem azWc_88 : GoodIn lw_tbl (azCw 6 (113, 0, 2, mX5_addGive)) := goodIn_r _ [569, 572, 570, 571, 89] (by decide +kernel) (by decide +kernel)
theorem azWc_89 : GoodIn lw_tbl (azCw 6 (116, 0, 0, mX6_readComparison)) := goodIn_r _ [522, 525, 524, 10, 82] (by decide +kernel) (by decide +kernel)
theorem azWc_90 : GoodIn lw_tbl (azCw 6 (119, 0, 1, mX5_addItem)) := goodIn_r _ [537, 540, 538, 539, 89] (by decide +kernel) (by decide +kernel)
theorem azWc_91 : GoodIn lw_tbl (azCw 6 (122, 0, 2, mX5_addCondition)) := goodIn_r _ [544, 547, 545, 546, 89] (by decide +kernel) (by decide +kernel)
theorem azWc_92 : GoodIn lw_tbl (azCw 6 (125, 0, 1, mX6_readFactor)) := goodIn_r _ [530, 533, 532, 12, 82] (by decide +kernel) (by decide +kernel)
theorem azWc_93 : GoodIn lw_tbl (azCw 7 (3, 6, 0, m_nil)) := goodIn_r _ [188, 102, 103] (by decide +kernel) (by decide +kernel)
theorem azWc_94 : GoodIn lw_tbl (azCw 7 (17, 2, 0, mX3_init)) := goodIn_r _ [191, 108, 107, 81] (by decide +kernel) (by decide +kernel)
theorem azWc_95 : GoodIn lw_tbl (azCw 7 (39, 0, 1, mX3_copy)) := goodIn_r _ [804, 762, 760, 761, 81] (by decide +kernel) (by decide +kernel)
theorem azWc_96 : GoodIn lw_tbl (azCw 7 (47, 0, 3, mX1_goes)) := goodIn_r _ [805, 683, 681, 682, 84] (by decide +kernel) (by decide +kernel)
theorem azWc_97 : GoodIn lw_tbl (azCw 7 (53, 0, 2, mX7_numberOfNext)) := goodIn_r _ [806, 809, 808, 33, 85] (by decide +kernel) (by decide +kernel)
theorem azWc_98 : GoodIn lw_tbl (azCw 7 (57, 0, 1, mX3_isLike)) := goodIn_r _ [810, 813, 811, 812, 81] (by decide +kernel) (by decide +kernel)
theorem azWc_99 : GoodIn lw_tbl (azCw 7 (61, 1, 2, mJ9_min_7cf53)) := goodIn_r _ [818, 820, 819, 95] (by decide +kernel) (by decide +kernel)
theorem azWc_100 : GoodIn lw_tbl (azCw 7 (66, 0, 1, mX3_count)) := goodIn_r _ [834, 316, 314, 315, 81] (by decide +kernel) (by decide +kernel)
theorem azWc_101 : GoodIn lw_tbl (azCw 7 (69, 0, 1, mX7_among)) := goodIn_r _ [829, 817, 815, 816, 85] (by decide +kernel) (by decide +kernel)
theorem azWc_102 : GoodIn lw_tbl (azCw 7 (72, 0, 2, mX7_countIn)) := goodIn_r _ [830, 833, 831, 832, 85] (by decide +kernel) (by decide +kernel)
theorem azWc_103 : GoodIn lw_tbl (azCw 7 (75, 1, 2, mJ9_max_7cf53)) := goodIn_r _ [835, 837, 836, 95] (by decide +kernel) (by decide +kernel)
theorem azWc_104 : GoodIn lw_tbl (azCw 7 (78, 0, 1, mX7_spreadEnding)) := goodIn_r _ [866, 869, 868, 35, 85] (by decide +kernel) (by decide +kernel)
theorem azWc_105 : GoodIn lw_tbl (azCw 7 (82, 0, 2, mX7_leadsToEnding)) := goodIn_r _ [870, 873, 872, 36, 85] (by decide +kernel) (by decide +kernel)
theorem azWc_106 : GoodIn lw_tbl (azCw 8 (5, 6, 0, m_nil)) := goodIn_r _ [101, 102, 103] (by decide +kernel) (by decide +kernel)
theorem azWc_107 : GoodIn lw_tbl (azCw 8 (13, 2, 0, mX3_init)) := goodIn_r _ [106, 108, 107, 81] (by decide +kernel) (by decide +kernel)
theorem azWc_108 : GoodIn lw_tbl (azCw 8 (32, 2, 0, mX6_init)) := goodIn_r _ [122, 124, 123, 82] (by decide +kernel) (by decide +kernel)
theorem azWc_109 : GoodIn lw_tbl (azCw 8 (39, 2, 0, mX4_init)) := goodIn_r _ [149, 151, 150, 83] (by decide +kernel) (by decide +kernel)
theorem azWc_110 : GoodIn lw_tbl (azCw 8 (46, 2, 0, mX1_init)) := goodIn_r _ [169, 171, 170, 84] (by decide +kernel) (by decide +kernel)
theorem azWc_111 : GoodIn lw_tbl (azCw 8 (53, 2, 0, mX7_init)) := goodIn_r _ [185, 187, 186, 85] (by decide +kernel) (by decide +kernel)
theorem azWc_112 : GoodIn lw_tbl (azCw 8 (60, 2, 0, mX0_init)) := goodIn_r _ [220, 222, 221, 86] (by decide +kernel) (by decide +kernel)
theorem azWc_113 : GoodIn lw_tbl (azCw 8 (67, 2, 0, mX2_init)) := goodIn_r _ [242, 244, 243, 87] (by decide +kernel) (by decide +kernel)
theorem azWc_114 : GoodIn lw_tbl (azCw 8 (72, 1, 1, mX8_isPlace)) := goodIn_r _ [305, 307, 306, 80] (by decide +kernel) (by decide +kernel)
theorem azWc_115 : GoodIn lw_tbl (azCw 8 (76, 0, 2, mX3_append)) := goodIn_r _ [308, 311, 309, 310, 81] (by decide +kernel) (by decide +kernel)
theorem azWc_116 : GoodIn lw_tbl (azCw 8 (84, 0, 1, mX3_count)) := goodIn_r _ [313, 316, 314, 315, 81] (by decide +kernel) (by decide +kernel)
theorem azWc_117 : GoodIn lw_tbl (azCw 8 (88, 0, 2, mX3_holds)) := goodIn_r _ [321, 324, 322, 323, 81] (by decide +kernel) (by decide +kernel)
theorem azWc_118 : GoodIn lw_tbl (azCw 8 (91, 0, 2, mX3_remove)) := goodIn_r _ [325, 328, 326, 327, 81] (by decide +kernel) (by decide +kernel)
theorem azWc_119 : GoodIn lw_tbl (azCw 8 (95, 0, 2, mX3_at)) := goodIn_r _ [334, 337, 335, 336, 81] (by decide +kernel) (by decide +kernel)
theorem azWc_120 : GoodIn lw_tbl (azCw 8 (98, 0, 1, mX6_append)) := goodIn_r _ [342, 345, 343, 344, 82] (by decide +kernel) (by decide +kernel)
theorem azWc_121 : GoodIn lw_tbl (azCw 8 (104, 0, 0, mX6_wipe)) := goodIn_r _ [350, 353, 351, 352, 82] (by decide +kernel) (by decide +kernel)
theorem azWc_122 : GoodIn lw_tbl (azCw 8 (107, 1, 1, mX8_isPart)) := goodIn_r _ [358, 360, 359, 80] (by decide +kernel) (by decide +kernel)
theorem azWc_123 : GoodIn lw_tbl (azCw 8 (110, 0, 0, mX6_read)) := goodIn_r _ [361, 364, 362, 363, 82] (by decide +kernel) (by decide +kernel)
theorem azWc_124 : GoodIn lw_tbl (azCw 8 (132, 1, 1, mJ6_bitCount_0f7a4)) := goodIn_r _ [582, 584, 583, 94] (by decide +kernel) (by decide +kernel)
theorem azWc_125 : GoodIn lw_tbl (azCw 8 (137, 0, 1, mX4_writeRule)) := goodIn_r _ [592, 595, 593, 594, 83] (by decide +kernel) (by decide +kernel)
theorem azWc_126 : GoodIn lw_tbl (azCw 8 (142, 0, 1, mX4_writeMarking)) := goodIn_r _ [662, 665, 663, 664, 83] (by decide +kernel) (by decide +kernel)
theorem azWc_127 : GoodIn lw_tbl (azCw 8 (146, 0, 1, mX4_at)) := goodIn_r _ [672, 675, 673, 674, 83] (by decide +kernel) (by decide +kernel)
theorem azWc_128 : GoodIn lw_tbl (azCw 8 (148, 0, 3, mX1_goes)) := goodIn_r _ [680, 683, 681, 682, 84] (by decide +kernel) (by decide +kernel)
theorem azWc_129 : GoodIn lw_tbl (azCw 8 (152, 0, 2, mX1_bindFirst)) := goodIn_r _ [739, 742, 740, 741, 84] (by decide +kernel) (by decide +kernel)
theorem azWc_130 : GoodIn lw_tbl (azCw 8 (156, 0, 1, mX1_chosenFor)) := goodIn_r _ [743, 746, 744, 745, 84] (by decide +kernel) (by decide +kernel)
theorem azWc_131 : GoodIn lw_tbl (azCw 8 (159, 0, 2, mX1_countBindings)) := goodIn_r _ [751, 754, 752, 753, 84] (by decide +kernel) (by decide +kernel)
theorem azWc_132 : GoodIn lw_tbl (azCw 8 (163, 0, 1, mX3_copy)) := goodIn_r _ [759, 762, 760, 761, 81] (by decide +kernel) (by decide +kernel)
theorem azWc_133 : GoodIn lw_tbl (azCw 8 (169, 1, 1, mX8_isSet)) := goodIn_r _ [771, 773, 772, 80] (by decide +kernel) (by decide +kernel)
theorem azWc_134 : GoodIn lw_tbl (azCw 8 (172, 1, 1, mX8_isTimes)) := goodIn_r _ [774, 776, 775, 80] (by decide +kernel) (by decide +kernel)
theorem azWc_135 : GoodIn lw_tbl (azCw 8 (175, 0, 2, mX8_tryOut)) := goodIn_r _ [777, 780, 779, 30, 80] (by decide +kernel) (by decide +kernel)
theorem azWc_136 : GoodIn lw_tbl (azCw 8 (178, 1, 1, mX8_isReach)) := goodIn_r _ [793, 795, 794, 80] (by decide +kernel) (by decide +kernel)
theorem azWc_137 : GoodIn lw_tbl (azCw 8 (181, 0, 0, mX8_walksNow)) := goodIn_r _ [796, 799, 798, 32, 80] (by decide +kernel) (by decide +kernel)
theorem azWc_138 : GoodIn lw_tbl (azCw 8 (185, 0, 1, mX7_among)) := goodIn_r _ [814, 817, 815, 816, 85] (by decide +kernel) (by decide +kernel)
theorem azWc_139 : GoodIn lw_tbl (azCw 8 (188, 0, 2, mX7_fullest)) := goodIn_r _ [825, 828, 826, 827, 85] (by decide +kernel) (by decide +kernel)
theorem azWc_140 : GoodIn lw_tbl (azCw 8 (191, 0, 0, mX8_rulesTold)) := goodIn_r _ [842, 845, 844, 34, 80] (by decide +kernel) (by decide +kernel)
theorem azWc_141 : GoodIn lw_tbl (azCw 8 (195, 0, 1, mX7_ableSomewhere)) := goodIn_r _ [846, 849, 847, 848, 85] (by decide +kernel) (by decide +kernel)
theorem azWc_142 : GoodIn lw_tbl (azCw 8 (198, 0, 1, mX7_countEnds)) := goodIn_r _ [854, 857, 855, 856, 85] (by decide +kernel) (by decide +kernel)
theorem azWc_143 : GoodIn lw_tbl (azCw 8 (201, 0, 1, mX7_firstStuck)) := goodIn_r _ [862, 865, 863, 864, 85] (by decide +kernel) (by decide +kernel)
theorem azWc_144 : GoodIn lw_tbl (azCw 8 (204, 0, 1, mX7_steps)) := goodIn_r _ [878, 881, 879, 880, 85] (by decide +kernel) (by decide +kernel)
theorem azWc_145 : GoodIn lw_tbl (azCw 8 (207, 0, 2, mX7_step)) := goodIn_r _ [882, 885, 883, 884, 85] (by decide +kernel) (by decide +kernel)
theorem azWc_146 : GoodIn lw_tbl (azCw 8 (210, 0, 2, mX7_countIn)) := goodIn_r _ [890, 833, 831, 832, 85] (by decide +kernel) (by decide +kernel)
theorem azWc_147 : GoodIn lw_tbl (azCw 8 (213, 0, 1, mX5_changeOf)) := goodIn_r _ [895, 898, 896, 897, 89] (by decide +kernel) (by decide +kernel)
theorem azWc_148 : GoodIn lw_tbl (azCw 8 (216, 0, 1, mX0_solve)) := goodIn_r _ [905, 908, 906, 907, 86] (by decide +kernel) (by decide +kernel)
theorem azWc_149 : GoodIn lw_tbl (azCw 8 (220, 0, 0, mX0_count)) := goodIn_r _ [936, 939, 937, 938, 86] (by decide +kernel) (by decide +kernel)
theorem azWc_150 : GoodIn lw_tbl (azCw 8 (222, 0, 1, mX0_placeOf)) := goodIn_r _ [944, 947, 945, 946, 86] (by decide +kernel) (by decide +kernel)
theorem azWc_151 : GoodIn lw_tbl (azCw 8 (225, 1, 1, mX8_isSide)) := goodIn_r _ [948, 950, 949, 80] (by decide +kernel) (by decide +kernel)
theorem azWc_152 : GoodIn lw_tbl (azCw 8 (230, 0, 2, mX0_weigh)) := goodIn_r _ [952, 955, 953, 954, 86] (by decide +kernel) (by decide +kernel)
theorem azWc_153 : GoodIn lw_tbl (azCw 8 (241, 0, 2, mX0_addUp)) := goodIn_r _ [966, 969, 967, 968, 86] (by decide +kernel) (by decide +kernel)
theorem azWc_154 : GoodIn lw_tbl (azCw 8 (245, 0, 0, mX3_total)) := goodIn_r _ [976, 979, 977, 978, 81] (by decide +kernel) (by decide +kernel)
theorem azWc_155 : GoodIn lw_tbl (azCw 8 (248, 0, 3, mX2_keep)) := goodIn_r _ [984, 987, 985, 986, 87] (by decide +kernel) (by decide +kernel)
theorem azWc_156 : GoodIn lw_tbl (azCw 8 (255, 0, 2, mX2_giveBack)) := goodIn_r _ [993, 996, 994, 995, 87] (by decide +kernel) (by decide +kernel)
theorem azWc_157 : GoodIn lw_tbl (azCw 8 (268, 0, 1, mX8_tryOne)) := goodIn_r _ [781, 784, 783, 31, 80] (by decide +kernel) (by decide +kernel)
theorem azWc_158 : GoodIn lw_tbl (azCw 8 (271, 0, 3, mX7_search)) := goodIn_r _ [800, 803, 801, 802, 85] (by decide +kernel) (by decide +kernel)
theorem azWc_159 : GoodIn lw_tbl (azCw 9 (3, 6, 0, m_nil)) := goodIn_r _ [1002, 102, 103] (by decide +kernel) (by decide +kernel)
theorem azWc_160 : GoodIn lw_tbl (azCw 9 (97, 1, 3, mX9_isIn)) := goodIn_r _ [1153, 1155, 1154, 88] (by decide +kernel) (by decide +kernel)
theorem azWc_161 : GoodIn lw_tbl (azCw 9 (101, 1, 2, mX9_at)) := goodIn_r _ [1160, 1162, 1161, 88] (by decide +kernel) (by decide +kernel)
theorem azWc_162 : GoodIn lw_tbl (azCw 9 (105, 1, 1, mX9_isPlace)) := goodIn_r _ [1149, 1151, 1150, 88] (by decide +kernel) (by decide +kernel)
theorem azWc_163 : GoodIn lw_tbl (azCw 9 (111, 1, 3, mX9_adds)) := goodIn_r _ [1157, 1159, 1158, 88] (by decide +kernel) (by decide +kernel)
theorem azWc_164 : GoodIn lw_tbl (azCw 9 (115, 1, 3, mX9_removes)) := goodIn_r _ [1167, 1169, 1168, 88] (by decide +kernel) (by decide +kernel)
theorem azWc_165 : GoodIn lw_tbl (azCw 9 (134, 0, 0, mX9_peek)) := goodIn_r _ [1202, 1205, 1204, 46, 88] (by decide +kernel) (by decide +kernel)
theorem azWc_166 : GoodIn lw_tbl (azCw 9 (138, 0, 1, mX9_wrong)) := goodIn_r _ [1207, 1210, 1209, 47, 88] (by decide +kernel) (by decide +kernel)
theorem azWc_167 : GoodIn lw_tbl (azCw 9 (142, 1, 1, mX9_isFigure)) := goodIn_r _ [1223, 1225, 1224, 88] (by decide +kernel) (by decide +kernel)
theorem azWc_168 : GoodIn lw_tbl (azCw 9 (145, 0, 0, mX9_term)) := goodIn_r _ [1234, 1237, 1236, 53, 88] (by decide +kernel) (by decide +kernel)
theorem azWc_169 : GoodIn lw_tbl (azCw 9 (148, 0, 0, mX9_factor)) := goodIn_r _ [1238, 1241, 1240, 54, 88] (by decide +kernel) (by decide +kernel)
theorem azWc_170 : GoodIn lw_tbl (azCw 9 (151, 0, 0, mX9_figure)) := goodIn_r _ [1219, 1222, 1221, 50, 88] (by decide +kernel) (by decide +kernel)
theorem azWc_171 : GoodIn lw_tbl (azCw 9 (160, 0, 0, mX9_expression)) := goodIn_r _ [1230, 1233, 1232, 52, 88] (by decide +kernel) (by decide +kernel)
theorem azWc_172 : GoodIn lw_tbl (azCw 9 (163, 0, 1, mX9_takes)) := goodIn_r _ [1211, 1214, 1213, 48, 88] (by decide +kernel) (by decide +kernel)
theorem azWc_173 : GoodIn lw_tbl (azCw 9 (175, 0, 0, mX9_compares)) := goodIn_r _ [1246, 1249, 1248, 56, 88] (by decide +kernel) (by decide +kernel)
theorem azWc_174 : GoodIn lw_tbl (azCw 9 (179, 0, 0, mX9_word)) := goodIn_r _ [1198, 1201, 1200, 45, 88] (by decide +kernel) (by decide +kernel)
theorem azWc_175 : GoodIn lw_tbl (azCw 9 (186, 0, 0, mX9_takeClause)) := goodIn_r _ [1215, 1218, 1217, 49, 88] (by decide +kernel) (by decide +kernel)
theorem azWc_176 : GoodIn lw_tbl (azCw 9 (189, 0, 0, mX9_giveClause)) := goodIn_r _ [1226, 1229, 1228, 51, 88] (by decide +kernel) (by decide +kernel)
theorem azWc_177 : GoodIn lw_tbl (azCw 9 (192, 0, 0, mX9_conditionClause)) := goodIn_r _ [1242, 1245, 1244, 55, 88] (by decide +kernel) (by decide +kernel)
theorem azWc_178 : GoodIn lw_tbl (azCw 9 (198, 0, 0, mX9_clause)) := goodIn_r _ [1194, 1197, 1196, 44, 88] (by decide +kernel) (by decide +kernel)
theorem azWc_179 : GoodIn lw_tbl (azCw 9 (201, 1, 5, mX9_pours)) := goodIn_r _ [1187, 1189, 1188, 88] (by decide +kernel) (by decide +kernel)
theorem azWc_180 : GoodIn lw_tbl (azCw 9 (205, 0, 0, mX9_reads)) := goodIn_r _ [1190, 1193, 1192, 43, 88] (by decide +kernel) (by decide +kernel)
theorem azWc_181 : GoodIn lw_tbl (azCw 9 (210, 0, 1, mX9_readsRule)) := goodIn_r _ [1259, 1262, 1261, 57, 88] (by decide +kernel) (by decide +kernel)
theorem azWc_182 : GoodIn lw_tbl (azCw 9 (216, 0, 2, mX9_sign)) := goodIn_r _ [1283, 1286, 1285, 62, 88] (by decide +kernel) (by decide +kernel)
theorem azWc_183 : GoodIn lw_tbl (azCw 9 (219, 0, 2, mX9_bare)) := goodIn_r _ [1279, 1282, 1281, 61, 88] (by decide +kernel) (by decide +kernel)
theorem azWc_184 : GoodIn lw_tbl (azCw 9 (222, 0, 2, mX9_looseness)) := goodIn_r _ [1287, 1290, 1289, 63, 88] (by decide +kernel) (by decide +kernel)
theorem azWc_185 : GoodIn lw_tbl (azCw 9 (225, 0, 1, mX9_writes)) := goodIn_r _ [1267, 1270, 1269, 58, 88] (by decide +kernel) (by decide +kernel)
theorem azWc_186 : GoodIn lw_tbl (azCw 9 (228, 0, 3, mX9_spells)) := goodIn_r _ [1275, 1278, 1277, 60, 88] (by decide +kernel) (by decide +kernel)
theorem azWc_187 : GoodIn lw_tbl (azCw 9 (232, 0, 1, mX9_end)) := goodIn_r _ [1271, 1274, 1273, 59, 88] (by decide +kernel) (by decide +kernel)
theorem azWc_188 : GoodIn lw_tbl (azCw 9 (236, 0, 1, mX9_writesNumber)) := goodIn_r _ [1295, 1298, 1297, 64, 88] (by decide +kernel) (by decide +kernel)
theorem azWc_189 : GoodIn lw_tbl (azCw 9 (239, 0, 1, mX9_isBinding)) := goodIn_r _ [1315, 1318, 1317, 67, 88] (by decide +kernel) (by decide +kernel)
theorem azWc_190 : GoodIn lw_tbl (azCw 9 (243, 0, 2, mX9_binds)) := goodIn_r _ [1311, 1314, 1313, 66, 88] (by decide +kernel) (by decide +kernel)
theorem azWc_191 : GoodIn lw_tbl (azCw 9 (247, 0, 2, mX9_goes)) := goodIn_r _ [1307, 1310, 1309, 65, 88] (by decide +kernel) (by decide +kernel)
theorem azWc_192 : GoodIn lw_tbl (azCw 9 (258, 1, 2, mX9_isRepeat)) := goodIn_r _ [1339, 1341, 1340, 88] (by decide +kernel) (by decide +kernel)
theorem azWc_193 : GoodIn lw_tbl (azCw 9 (262, 0, 2, mX9_repeats)) := goodIn_r _ [1344, 1347, 1346, 68, 88] (by decide +kernel) (by decide +kernel)
theorem azWc_194 : GoodIn lw_tbl (azCw 9 (270, 0, 1, mX9_placeOf)) := goodIn_r _ [1361, 1364, 1363, 70, 88] (by decide +kernel) (by decide +kernel)
theorem azWc_195 : GoodIn lw_tbl (azCw 9 (274, 0, 1, mX9_finds)) := goodIn_r _ [1356, 1359, 1358, 69, 88] (by decide +kernel) (by decide +kernel)
theorem azWc_196 : GoodIn lw_tbl (azCw 9 (277, 1, 2, mJ9_max_7cf53)) := goodIn_r _ [1369, 837, 836, 95] (by decide +kernel) (by decide +kernel)
theorem azWc_197 : GoodIn lw_tbl (azCw 9 (282, 0, 1, mX9_isEnd)) := goodIn_r _ [1378, 1381, 1380, 71, 88] (by decide +kernel) (by decide +kernel)
theorem azWc_198 : GoodIn lw_tbl (azCw 9 (285, 0, 1, mX9_changeOf)) := goodIn_r _ [1398, 1401, 1400, 72, 88] (by decide +kernel) (by decide +kernel)
theorem azWc_199 : GoodIn lw_tbl (azCw 9 (288, 1, 2, mX9_gcd)) := goodIn_r _ [1418, 1420, 1419, 88] (by decide +kernel) (by decide +kernel)
theorem azWc_200 : GoodIn lw_tbl (azCw 9 (294, 0, 3, mX9_sets)) := goodIn_r _ [1414, 1417, 1416, 75, 88] (by decide +kernel) (by decide +kernel)
theorem azWc_201 : GoodIn lw_tbl (azCw 9 (304, 0, 2, mX9_swaps)) := goodIn_r _ [1410, 1413, 1412, 74, 88] (by decide +kernel) (by decide +kernel)
theorem azWc_202 : GoodIn lw_tbl (azCw 9 (308, 0, 4, mX9_less)) := goodIn_r _ [1422, 1425, 1424, 76, 88] (by decide +kernel) (by decide +kernel)
theorem azWc_203 : GoodIn lw_tbl (azCw 9 (312, 0, 0, mX9_reduces)) := goodIn_r _ [1406, 1409, 1408, 73, 88] (by decide +kernel) (by decide +kernel)
theorem azWc_204 : GoodIn lw_tbl (azCw 9 (324, 0, 2, mX9_weighs)) := goodIn_r _ [1431, 1434, 1433, 77, 88] (by decide +kernel) (by decide +kernel)
theorem azWc_205 : GoodIn lw_tbl (azCw 9 (327, 0, 0, mX9_tokens)) := goodIn_r _ [1443, 1446, 1445, 78, 88] (by decide +kernel) (by decide +kernel)
theorem azWc_206 : GoodIn lw_tbl (azCw 10 (9, 2, 0, mX8_init)) := goodIn_r _ [98, 100, 99, 80] (by decide +kernel) (by decide +kernel)
theorem azWc_207 : GoodIn lw_tbl (azCw 10 (12, 2, 0, mX9_init)) := goodIn_r _ [999, 1001, 1000, 88] (by decide +kernel) (by decide +kernel)
theorem azWc_208 : GoodIn lw_tbl (azCw 10 (13, 0, 2, mX8_put)) := goodIn_r _ [301, 304, 302, 303, 80] (by decide +kernel) (by decide +kernel)
theorem azWc_209 : GoodIn lw_tbl (azCw 10 (17, 0, 2, mX9_put)) := goodIn_r _ [1145, 1148, 1146, 1147, 88] (by decide +kernel) (by decide +kernel)
theorem azWc_210 : GoodIn lw_tbl (azCw 10 (18, 0, 2, mX8_take)) := goodIn_r _ [317, 320, 318, 319, 80] (by decide +kernel) (by decide +kernel)
theorem azWc_211 : GoodIn lw_tbl (azCw 10 (21, 0, 2, mX9_take)) := goodIn_r _ [1163, 1166, 1164, 1165, 88] (by decide +kernel) (by decide +kernel)
theorem azWc_212 : GoodIn lw_tbl (azCw 10 (22, 0, 2, mX8_token)) := goodIn_r _ [330, 333, 331, 332, 80] (by decide +kernel) (by decide +kernel)
theorem azWc_213 : GoodIn lw_tbl (azCw 10 (25, 0, 2, mX9_token)) := goodIn_r _ [1170, 1173, 1171, 1172, 88] (by decide +kernel) (by decide +kernel)
theorem azWc_214 : GoodIn lw_tbl (azCw 10 (26, 0, 1, mX8_feed)) := goodIn_r _ [338, 341, 339, 340, 80] (by decide +kernel) (by decide +kernel)
theorem azWc_215 : GoodIn lw_tbl (azCw 10 (30, 0, 1, mX9_feed)) := goodIn_r _ [1174, 1177, 1175, 1176, 88] (by decide +kernel) (by decide +kernel)
theorem azWc_216 : GoodIn lw_tbl (azCw 10 (31, 0, 0, mX8_clear)) := goodIn_r _ [346, 349, 347, 348, 80] (by decide +kernel) (by decide +kernel)
theorem azWc_217 : GoodIn lw_tbl (azCw 10 (35, 0, 0, mX9_clear)) := goodIn_r _ [1179, 1182, 1180, 1181, 88] (by decide +kernel) (by decide +kernel)
theorem azWc_218 : GoodIn lw_tbl (azCw 10 (36, 0, 1, mX8_rule)) := goodIn_r _ [354, 357, 355, 356, 80] (by decide +kernel) (by decide +kernel)
theorem azWc_219 : GoodIn lw_tbl (azCw 10 (39, 0, 1, mX9_rule)) := goodIn_r _ [1183, 1186, 1184, 1185, 88] (by decide +kernel) (by decide +kernel)
theorem azWc_220 : GoodIn lw_tbl (azCw 10 (40, 0, 1, mX8_drop)) := goodIn_r _ [574, 577, 575, 576, 80] (by decide +kernel) (by decide +kernel)
theorem azWc_221 : GoodIn lw_tbl (azCw 10 (43, 0, 1, mX9_drop)) := goodIn_r _ [1250, 1253, 1251, 1252, 88] (by decide +kernel) (by decide +kernel)
theorem azWc_222 : GoodIn lw_tbl (azCw 10 (44, 0, 2, mX8_has)) := goodIn_r _ [578, 581, 579, 580, 80] (by decide +kernel) (by decide +kernel)
theorem azWc_223 : GoodIn lw_tbl (azCw 10 (47, 0, 2, mX9_has)) := goodIn_r _ [1254, 1257, 1255, 1256, 88] (by decide +kernel) (by decide +kernel)
theorem azWc_224 : GoodIn lw_tbl (azCw 10 (48, 0, 1, mX8_spell)) := goodIn_r _ [588, 591, 589, 590, 80] (by decide +kernel) (by decide +kernel)
theorem azWc_225 : GoodIn lw_tbl (azCw 10 (51, 0, 1, mX9_spell)) := goodIn_r _ [1263, 1266, 1264, 1265, 88] (by decide +kernel) (by decide +kernel)
theorem azWc_226 : GoodIn lw_tbl (azCw 10 (52, 0, 0, mX8_line)) := goodIn_r _ [658, 661, 659, 660, 80] (by decide +kernel) (by decide +kernel)
theorem azWc_227 : GoodIn lw_tbl (azCw 10 (55, 0, 0, mX9_line)) := goodIn_r _ [1291, 1294, 1292, 1293, 88] (by decide +kernel) (by decide +kernel)
theorem azWc_228 : GoodIn lw_tbl (azCw 10 (56, 0, 1, mX8_paper)) := goodIn_r _ [668, 671, 669, 670, 80] (by decide +kernel) (by decide +kernel)
theorem azWc_229 : GoodIn lw_tbl (azCw 10 (59, 0, 1, mX9_paper)) := goodIn_r _ [1299, 1302, 1300, 1301, 88] (by decide +kernel) (by decide +kernel)
theorem azWc_230 : GoodIn lw_tbl (azCw 10 (60, 0, 1, mX8_can)) := goodIn_r _ [676, 679, 677, 678, 80] (by decide +kernel) (by decide +kernel)
theorem azWc_231 : GoodIn lw_tbl (azCw 10 (63, 0, 1, mX9_can)) := goodIn_r _ [1303, 1306, 1304, 1305, 88] (by decide +kernel) (by decide +kernel)
theorem azWc_232 : GoodIn lw_tbl (azCw 10 (64, 0, 2, mX8_bound)) := goodIn_r _ [735, 738, 736, 737, 80] (by decide +kernel) (by decide +kernel)
theorem azWc_233 : GoodIn lw_tbl (azCw 10 (67, 0, 2, mX9_bound)) := goodIn_r _ [1319, 1322, 1320, 1321, 88] (by decide +kernel) (by decide +kernel)
theorem azWc_234 : GoodIn lw_tbl (azCw 10 (68, 0, 1, mX8_bindings)) := goodIn_r _ [747, 750, 748, 749, 80] (by decide +kernel) (by decide +kernel)
theorem azWc_235 : GoodIn lw_tbl (azCw 10 (71, 0, 1, mX9_bindings)) := goodIn_r _ [1323, 1326, 1324, 1325, 88] (by decide +kernel) (by decide +kernel)
theorem azWc_236 : GoodIn lw_tbl (azCw 10 (72, 0, 1, mX8_go)) := goodIn_r _ [755, 758, 756, 757, 80] (by decide +kernel) (by decide +kernel)
theorem azWc_237 : GoodIn lw_tbl (azCw 10 (75, 0, 1, mX9_go)) := goodIn_r _ [1327, 1330, 1328, 1329, 88] (by decide +kernel) (by decide +kernel)
theorem azWc_238 : GoodIn lw_tbl (azCw 10 (76, 0, 0, mX8_all)) := goodIn_r _ [763, 766, 764, 765, 80] (by decide +kernel) (by decide +kernel)
theorem azWc_239 : GoodIn lw_tbl (azCw 10 (79, 0, 0, mX9_all)) := goodIn_r _ [1331, 1334, 1332, 1333, 88] (by decide +kernel) (by decide +kernel)
theorem azWc_240 : GoodIn lw_tbl (azCw 10 (80, 0, 2, mX8_again)) := goodIn_r _ [767, 770, 768, 769, 80] (by decide +kernel) (by decide +kernel)
theorem azWc_241 : GoodIn lw_tbl (azCw 10 (83, 0, 2, mX9_again)) := goodIn_r _ [1335, 1338, 1336, 1337, 88] (by decide +kernel) (by decide +kernel)
theorem azWc_242 : GoodIn lw_tbl (azCw 10 (84, 0, 3, mX8_last)) := goodIn_r _ [785, 788, 786, 787, 80] (by decide +kernel) (by decide +kernel)
theorem azWc_243 : GoodIn lw_tbl (azCw 10 (88, 0, 3, mX9_last)) := goodIn_r _ [1348, 1351, 1349, 1350, 88] (by decide +kernel) (by decide +kernel)
theorem azWc_244 : GoodIn lw_tbl (azCw 10 (89, 0, 1, mX8_reach)) := goodIn_r _ [789, 792, 790, 791, 80] (by decide +kernel) (by decide +kernel)
theorem azWc_245 : GoodIn lw_tbl (azCw 10 (92, 0, 1, mX9_reach)) := goodIn_r _ [1352, 1355, 1353, 1354, 88] (by decide +kernel) (by decide +kernel)
theorem azWc_246 : GoodIn lw_tbl (azCw 10 (93, 0, 2, mX8_most)) := goodIn_r _ [821, 824, 822, 823, 80] (by decide +kernel) (by decide +kernel)
theorem azWc_247 : GoodIn lw_tbl (azCw 10 (96, 0, 2, mX9_most)) := goodIn_r _ [1365, 1368, 1366, 1367, 88] (by decide +kernel) (by decide +kernel)
theorem azWc_248 : GoodIn lw_tbl (azCw 10 (97, 0, 1, mX8_dead)) := goodIn_r _ [838, 841, 839, 840, 80] (by decide +kernel) (by decide +kernel)
theorem azWc_249 : GoodIn lw_tbl (azCw 10 (100, 0, 1, mX9_dead)) := goodIn_r _ [1370, 1373, 1371, 1372, 88] (by decide +kernel) (by decide +kernel)
theorem azWc_250 : GoodIn lw_tbl (azCw 10 (101, 0, 1, mX8_ends)) := goodIn_r _ [850, 853, 851, 852, 80] (by decide +kernel) (by decide +kernel)
theorem azWc_251 : GoodIn lw_tbl (azCw 10 (104, 0, 1, mX9_ends)) := goodIn_r _ [1374, 1377, 1375, 1376, 88] (by decide +kernel) (by decide +kernel)
theorem azWc_252 : GoodIn lw_tbl (azCw 10 (105, 0, 1, mX8_stuck)) := goodIn_r _ [858, 861, 859, 860, 80] (by decide +kernel) (by decide +kernel)
theorem azWc_253 : GoodIn lw_tbl (azCw 10 (108, 0, 1, mX9_stuck)) := goodIn_r _ [1382, 1385, 1383, 1384, 88] (by decide +kernel) (by decide +kernel)
theorem azWc_254 : GoodIn lw_tbl (azCw 10 (109, 0, 3, mX8_walk)) := goodIn_r _ [874, 877, 875, 876, 80] (by decide +kernel) (by decide +kernel)
theorem azWc_255 : GoodIn lw_tbl (azCw 10 (112, 0, 3, mX9_walk)) := goodIn_r _ [1386, 1389, 1387, 1388, 88] (by decide +kernel) (by decide +kernel)
theorem azWc_256 : GoodIn lw_tbl (azCw 10 (113, 0, 3, mX8_held)) := goodIn_r _ [886, 889, 887, 888, 80] (by decide +kernel) (by decide +kernel)
theorem azWc_257 : GoodIn lw_tbl (azCw 10 (116, 0, 3, mX9_held)) := goodIn_r _ [1390, 1393, 1391, 1392, 88] (by decide +kernel) (by decide +kernel)
theorem azWc_258 : GoodIn lw_tbl (azCw 10 (117, 0, 2, mX8_change)) := goodIn_r _ [891, 894, 892, 893, 80] (by decide +kernel) (by decide +kernel)
theorem azWc_259 : GoodIn lw_tbl (azCw 10 (120, 0, 2, mX9_change)) := goodIn_r _ [1394, 1397, 1395, 1396, 88] (by decide +kernel) (by decide +kernel)
theorem azWc_260 : GoodIn lw_tbl (azCw 10 (121, 0, 0, mX8_invariants)) := goodIn_r _ [901, 904, 902, 903, 80] (by decide +kernel) (by decide +kernel)
theorem azWc_261 : GoodIn lw_tbl (azCw 10 (124, 0, 0, mX9_invariants)) := goodIn_r _ [1402, 1405, 1403, 1404, 88] (by decide +kernel) (by decide +kernel)
theorem azWc_262 : GoodIn lw_tbl (azCw 10 (125, 0, 3, mX8_weight)) := goodIn_r _ [940, 943, 941, 942, 80] (by decide +kernel) (by decide +kernel)
theorem azWc_263 : GoodIn lw_tbl (azCw 10 (129, 0, 3, mX9_weight)) := goodIn_r _ [1426, 1429, 1427, 1428, 88] (by decide +kernel) (by decide +kernel)
theorem azWc_264 : GoodIn lw_tbl (azCw 10 (130, 0, 2, mX8_sum)) := goodIn_r _ [962, 965, 963, 964, 80] (by decide +kernel) (by decide +kernel)
theorem azWc_265 : GoodIn lw_tbl (azCw 10 (133, 0, 2, mX9_sum)) := goodIn_r _ [1435, 1438, 1436, 1437, 88] (by decide +kernel) (by decide +kernel)
theorem azWc_266 : GoodIn lw_tbl (azCw 10 (134, 0, 1, mX8_told)) := goodIn_r _ [972, 975, 973, 974, 80] (by decide +kernel) (by decide +kernel)
theorem azWc_267 : GoodIn lw_tbl (azCw 10 (137, 0, 1, mX9_told)) := goodIn_r _ [1439, 1442, 1440, 1441, 88] (by decide +kernel) (by decide +kernel)
theorem azWc_268 : GoodIn lw_tbl (azCw 10 (138, 0, 0, mX8_image)) := goodIn_r _ [980, 983, 981, 982, 80] (by decide +kernel) (by decide +kernel)
theorem azWc_269 : GoodIn lw_tbl (azCw 10 (141, 0, 0, mX9_image)) := goodIn_r _ [1447, 1450, 1448, 1449, 88] (by decide +kernel) (by decide +kernel)
theorem azWc_270 : GoodIn lw_tbl (azCw 10 (142, 0, 0, mX8_undo)) := goodIn_r _ [989, 992, 990, 991, 80] (by decide +kernel) (by decide +kernel)
theorem azWc_271 : GoodIn lw_tbl (azCw 10 (145, 0, 0, mX9_undo)) := goodIn_r _ [1451, 1454, 1452, 1453, 88] (by decide +kernel) (by decide +kernel)
theorem azWc_272 : GoodIn lw_tbl (azCw 13 (335, 7, 0, mJ0_coder_7d493)) := goodIn_r _ [458, 461, 459, 460, 90] (by decide +kernel) (by decide +kernel)
theorem azWc_273 : GoodIn lw_tbl (azCw 13 (492, 7, 0, mJ0_isLatin1_aae02)) := goodIn_r _ [468, 471, 469, 470, 90] (by decide +kernel) (by decide +kernel)
theorem azWc_274 : GoodIn lw_tbl (azCw 13 (495, 1, 2, mJ1_charAt_3b067)) := goodIn_r _ [472, 474, 473, 91] (by decide +kernel) (by decide +kernel)
theorem azWc_275 : GoodIn lw_tbl (azCw 13 (1059, 1, 3, mJ3_checkIndex_8e157)) := goodIn_r _ [480, 482, 481, 92] (by decide +kernel) (by decide +kernel)
theorem azWc_276 : GoodIn lw_tbl (azCw 14 (9, 1, 2, mJ0_checkIndex_df160)) := goodIn_r _ [475, 477, 476, 90] (by decide +kernel) (by decide +kernel)
theorem azWc_277 : GoodIn lw_tbl (azCw 15 (414, 1, 2, mJ0_checkIndex_df160)) := goodIn_r _ [492, 477, 476, 90] (by decide +kernel) (by decide +kernel)
theorem azWcc_0 : ∀ q ∈ azCL.getD 0 [], GoodIn lw_tbl (azCw 0 q) := List.forall_mem_cons.mpr ⟨azWc_0, List.forall_mem_cons.mpr ⟨azWc_1, List.forall_mem_cons.mpr ⟨azWc_2, List.forall_mem_cons.mpr ⟨azWc_3, List.forall_mem_cons.mpr ⟨azWc_4, List.forall_mem_cons.mpr ⟨azWc_5, List.forall_mem_cons.mpr ⟨azWc_6, List.forall_mem_cons.mpr ⟨azWc_7, List.forall_mem_cons.mpr ⟨azWc_8, List.forall_mem_cons.mpr ⟨azWc_9, List.forall_mem_cons.mpr ⟨azWc_10, List.forall_mem_cons.mpr ⟨azWc_11, List.forall_mem_cons.mpr ⟨azWc_12, fun _ h => absurd h List.not_mem_nil⟩⟩⟩⟩⟩⟩⟩⟩⟩⟩⟩⟩⟩
theorem azWcc_1 : ∀ q ∈ azCL.getD 1 [], GoodIn lw_tbl (azCw 1 q) := List.forall_mem_cons.mpr ⟨azWc_13, List.forall_mem_cons.mpr ⟨azWc_14, List.forall_mem_cons.mpr ⟨azWc_15, List.forall_mem_cons.mpr ⟨azWc_16, List.forall_mem_cons.mpr ⟨azWc_17, List.forall_mem_cons.mpr ⟨azWc_18, List.forall_mem_cons.mpr ⟨azWc_19, List.forall_mem_cons.mpr ⟨azWc_20, List.forall_mem_cons.mpr ⟨azWc_21, List.forall_mem_cons.mpr ⟨azWc_22, List.forall_mem_cons.mpr ⟨azWc_23, List.forall_mem_cons.mpr ⟨azWc_24, List.forall_mem_cons.mpr ⟨azWc_25, List.forall_mem_cons.mpr ⟨azWc_26, List.forall_mem_cons.mpr ⟨azWc_27, List.forall_mem_cons.mpr ⟨azWc_28, List.forall_mem_cons.mpr ⟨azWc_29, List.forall_mem_cons.mpr ⟨azWc_30, List.forall_mem_cons.mpr ⟨azWc_31, List.forall_mem_cons.mpr ⟨azWc_32, List.forall_mem_cons.mpr ⟨azWc_33, fun _ h => absurd h List.not_mem_nil⟩⟩⟩⟩⟩⟩⟩⟩⟩⟩⟩⟩⟩⟩⟩⟩⟩⟩⟩⟩⟩
theorem azWcc_2 : ∀ q ∈ azCL.getD 2 [], GoodIn lw_tbl (azCw 2 q) := List.forall_mem_cons.mpr ⟨azWc_34, List.forall_mem_cons.mpr ⟨azWc_35, List.forall_mem_cons.mpr ⟨azWc_36, fun _ h => absurd h List.not_mem_nil⟩⟩⟩
theorem azWcc_3 : ∀ q ∈ azCL.getD 3 [], GoodIn lw_tbl (azCw 3 q) := List.forall_mem_cons.mpr ⟨azWc_37, List.forall_mem_cons.mpr ⟨azWc_38, List.forall_mem_cons.mpr ⟨azWc_39, fun _ h => absurd h List.not_mem_nil⟩⟩⟩
theorem azWcc_4 : ∀ q ∈ azCL.getD 4 [], GoodIn lw_tbl (azCw 4 q) := List.forall_mem_cons.mpr ⟨azWc_40, List.forall_mem_cons.mpr ⟨azWc_41, List.forall_mem_cons.mpr ⟨azWc_42, List.forall_mem_cons.mpr ⟨azWc_43, List.forall_mem_cons.mpr ⟨azWc_44, List.forall_mem_cons.mpr ⟨azWc_45, List.forall_mem_cons.mpr ⟨azWc_46, List.forall_mem_cons.mpr ⟨azWc_47, List.forall_mem_cons.mpr ⟨azWc_48, List.forall_mem_cons.mpr ⟨azWc_49, List.forall_mem_cons.mpr ⟨azWc_50, List.forall_mem_cons.mpr ⟨azWc_51, List.forall_mem_cons.mpr ⟨azWc_52, List.forall_mem_cons.mpr ⟨azWc_53, List.forall_mem_cons.mpr ⟨azWc_54, List.forall_mem_cons.mpr ⟨azWc_55, List.forall_mem_cons.mpr ⟨azWc_56, List.forall_mem_cons.mpr ⟨azWc_57, List.forall_mem_cons.mpr ⟨azWc_58, List.forall_mem_cons.mpr ⟨azWc_59, List.forall_mem_cons.mpr ⟨azWc_60, fun _ h => absurd h List.not_mem_nil⟩⟩⟩⟩⟩⟩⟩⟩⟩⟩⟩⟩⟩⟩⟩⟩⟩⟩⟩⟩⟩
theorem azWcc_5 : ∀ q ∈ azCL.getD 5 [], GoodIn lw_tbl (azCw 5 q) := List.forall_mem_cons.mpr ⟨azWc_61, List.forall_mem_cons.mpr ⟨azWc_62, List.forall_mem_cons.mpr ⟨azWc_63, List.forall_mem_cons.mpr ⟨azWc_64, List.forall_mem_cons.mpr ⟨azWc_65, fun _ h => absurd h List.not_mem_nil⟩⟩⟩⟩⟩
theorem azWcc_6 : ∀ q ∈ azCL.getD 6 [], GoodIn lw_tbl (azCw 6 q) := List.forall_mem_cons.mpr ⟨azWc_66, List.forall_mem_cons.mpr ⟨azWc_67, List.forall_mem_cons.mpr ⟨azWc_68, List.forall_mem_cons.mpr ⟨azWc_69, List.forall_mem_cons.mpr ⟨azWc_70, List.forall_mem_cons.mpr ⟨azWc_71, List.forall_mem_cons.mpr ⟨azWc_72, List.forall_mem_cons.mpr ⟨azWc_73, List.forall_mem_cons.mpr ⟨azWc_74, List.forall_mem_cons.mpr ⟨azWc_75, List.forall_mem_cons.mpr ⟨azWc_76, List.forall_mem_cons.mpr ⟨azWc_77, List.forall_mem_cons.mpr ⟨azWc_78, List.forall_mem_cons.mpr ⟨azWc_79, List.forall_mem_cons.mpr ⟨azWc_80, List.forall_mem_cons.mpr ⟨azWc_81, List.forall_mem_cons.mpr ⟨azWc_82, List.forall_mem_cons.mpr ⟨azWc_83, List.forall_mem_cons.mpr ⟨azWc_84, List.forall_mem_cons.mpr ⟨azWc_85, List.forall_mem_cons.mpr ⟨azWc_86, List.forall_mem_cons.mpr ⟨azWc_87, List.forall_mem_cons.mpr ⟨azWc_88, List.forall_mem_cons.mpr ⟨azWc_89, List.forall_mem_cons.mpr ⟨azWc_90, List.forall_mem_cons.mpr ⟨azWc_91, List.forall_mem_cons.mpr ⟨azWc_92, fun _ h => absurd h List.not_mem_nil⟩⟩⟩⟩⟩⟩⟩⟩⟩⟩⟩⟩⟩⟩⟩⟩⟩⟩⟩⟩⟩⟩⟩⟩⟩⟩⟩
theorem azWcc_7 : ∀ q ∈ azCL.getD 7 [], GoodIn lw_tbl (azCw 7 q) := List.forall_mem_cons.mpr ⟨azWc_93, List.forall_mem_cons.mpr ⟨azWc_94, List.forall_mem_cons.mpr ⟨azWc_95, List.forall_mem_cons.mpr ⟨azWc_96, List.forall_mem_cons.mpr ⟨azWc_97, List.forall_mem_cons.mpr ⟨azWc_98, List.forall_mem_cons.mpr ⟨azWc_99, List.forall_mem_cons.mpr ⟨azWc_100, List.forall_mem_cons.mpr ⟨azWc_101, List.forall_mem_cons.mpr ⟨azWc_102, List.forall_mem_cons.mpr ⟨azWc_103, List.forall_mem_cons.mpr ⟨azWc_104, List.forall_mem_cons.mpr ⟨azWc_105, fun _ h => absurd h List.not_mem_nil⟩⟩⟩⟩⟩⟩⟩⟩⟩⟩⟩⟩⟩
theorem azWcc_8 : ∀ q ∈ azCL.getD 8 [], GoodIn lw_tbl (azCw 8 q) := List.forall_mem_cons.mpr ⟨azWc_106, List.forall_mem_cons.mpr ⟨azWc_107, List.forall_mem_cons.mpr ⟨azWc_108, List.forall_mem_cons.mpr ⟨azWc_109, List.forall_mem_cons.mpr ⟨azWc_110, List.forall_mem_cons.mpr ⟨azWc_111, List.forall_mem_cons.mpr ⟨azWc_112, List.forall_mem_cons.mpr ⟨azWc_113, List.forall_mem_cons.mpr ⟨azWc_114, List.forall_mem_cons.mpr ⟨azWc_115, List.forall_mem_cons.mpr ⟨azWc_116, List.forall_mem_cons.mpr ⟨azWc_117, List.forall_mem_cons.mpr ⟨azWc_118, List.forall_mem_cons.mpr ⟨azWc_119, List.forall_mem_cons.mpr ⟨azWc_120, List.forall_mem_cons.mpr ⟨azWc_121, List.forall_mem_cons.mpr ⟨azWc_122, List.forall_mem_cons.mpr ⟨azWc_123, List.forall_mem_cons.mpr ⟨azWc_124, List.forall_mem_cons.mpr ⟨azWc_125, List.forall_mem_cons.mpr ⟨azWc_126, List.forall_mem_cons.mpr ⟨azWc_127, List.forall_mem_cons.mpr ⟨azWc_128, List.forall_mem_cons.mpr ⟨azWc_129, List.forall_mem_cons.mpr ⟨azWc_130, List.forall_mem_cons.mpr ⟨azWc_131, List.forall_mem_cons.mpr ⟨azWc_132, List.forall_mem_cons.mpr ⟨azWc_133, List.forall_mem_cons.mpr ⟨azWc_134, List.forall_mem_cons.mpr ⟨azWc_135, List.forall_mem_cons.mpr ⟨azWc_136, List.forall_mem_cons.mpr ⟨azWc_137, List.forall_mem_cons.mpr ⟨azWc_138, List.forall_mem_cons.mpr ⟨azWc_139, List.forall_mem_cons.mpr ⟨azWc_140, List.forall_mem_cons.mpr ⟨azWc_141, List.forall_mem_cons.mpr ⟨azWc_142, List.forall_mem_cons.mpr ⟨azWc_143, List.forall_mem_cons.mpr ⟨azWc_144, List.forall_mem_cons.mpr ⟨azWc_145, List.forall_mem_cons.mpr ⟨azWc_146, List.forall_mem_cons.mpr ⟨azWc_147, List.forall_mem_cons.mpr ⟨azWc_148, List.forall_mem_cons.mpr ⟨azWc_149, List.forall_mem_cons.mpr ⟨azWc_150, List.forall_mem_cons.mpr ⟨azWc_151, List.forall_mem_cons.mpr ⟨azWc_152, List.forall_mem_cons.mpr ⟨azWc_153, List.forall_mem_cons.mpr ⟨azWc_154, List.forall_mem_cons.mpr ⟨azWc_155, List.forall_mem_cons.mpr ⟨azWc_156, List.forall_mem_cons.mpr ⟨azWc_157, List.forall_mem_cons.mpr ⟨azWc_158, fun _ h => absurd h List.not_mem_nil⟩⟩⟩⟩⟩⟩⟩⟩⟩⟩⟩⟩⟩⟩⟩⟩⟩⟩⟩⟩⟩⟩⟩⟩⟩⟩⟩⟩⟩⟩⟩⟩⟩⟩⟩⟩⟩⟩⟩⟩⟩⟩⟩⟩⟩⟩⟩⟩⟩⟩⟩⟩⟩
theorem azWcc_9 : ∀ q ∈ azCL.getD 9 [], GoodIn lw_tbl (azCw 9 q) := List.forall_mem_cons.mpr ⟨azWc_159, List.forall_mem_cons.mpr ⟨azWc_160, List.forall_mem_cons.mpr ⟨azWc_161, List.forall_mem_cons.mpr ⟨azWc_162, List.forall_mem_cons.mpr ⟨azWc_163, List.forall_mem_cons.mpr ⟨azWc_164, List.forall_mem_cons.mpr ⟨azWc_165, List.forall_mem_cons.mpr ⟨azWc_166, List.forall_mem_cons.mpr ⟨azWc_167, List.forall_mem_cons.mpr ⟨azWc_168, List.forall_mem_cons.mpr ⟨azWc_169, List.forall_mem_cons.mpr ⟨azWc_170, List.forall_mem_cons.mpr ⟨azWc_171, List.forall_mem_cons.mpr ⟨azWc_172, List.forall_mem_cons.mpr ⟨azWc_173, List.forall_mem_cons.mpr ⟨azWc_174, List.forall_mem_cons.mpr ⟨azWc_175, List.forall_mem_cons.mpr ⟨azWc_176, List.forall_mem_cons.mpr ⟨azWc_177, List.forall_mem_cons.mpr ⟨azWc_178, List.forall_mem_cons.mpr ⟨azWc_179, List.forall_mem_cons.mpr ⟨azWc_180, List.forall_mem_cons.mpr ⟨azWc_181, List.forall_mem_cons.mpr ⟨azWc_182, List.forall_mem_cons.mpr ⟨azWc_183, List.forall_mem_cons.mpr ⟨azWc_184, List.forall_mem_cons.mpr ⟨azWc_185, List.forall_mem_cons.mpr ⟨azWc_186, List.forall_mem_cons.mpr ⟨azWc_187, List.forall_mem_cons.mpr ⟨azWc_188, List.forall_mem_cons.mpr ⟨azWc_189, List.forall_mem_cons.mpr ⟨azWc_190, List.forall_mem_cons.mpr ⟨azWc_191, List.forall_mem_cons.mpr ⟨azWc_192, List.forall_mem_cons.mpr ⟨azWc_193, List.forall_mem_cons.mpr ⟨azWc_194, List.forall_mem_cons.mpr ⟨azWc_195, List.forall_mem_cons.mpr ⟨azWc_196, List.forall_mem_cons.mpr ⟨azWc_197, List.forall_mem_cons.mpr ⟨azWc_198, List.forall_mem_cons.mpr ⟨azWc_199, List.forall_mem_cons.mpr ⟨azWc_200, List.forall_mem_cons.mpr ⟨azWc_201, List.forall_mem_cons.mpr ⟨azWc_202, List.forall_mem_cons.mpr ⟨azWc_203, List.forall_mem_cons.mpr ⟨azWc_204, List.forall_mem_cons.mpr ⟨azWc_205, fun _ h => absurd h List.not_mem_nil⟩⟩⟩⟩⟩⟩⟩⟩⟩⟩⟩⟩⟩⟩⟩⟩⟩⟩⟩⟩⟩⟩⟩⟩⟩⟩⟩⟩⟩⟩⟩⟩⟩⟩⟩⟩⟩⟩⟩⟩⟩⟩⟩⟩⟩⟩⟩
theorem azWcc_10 : ∀ q ∈ azCL.getD 10 [], GoodIn lw_tbl (azCw 10 q) := List.forall_mem_cons.mpr ⟨azWc_206, List.forall_mem_cons.mpr ⟨azWc_207, List.forall_mem_cons.mpr ⟨azWc_208, List.forall_mem_cons.mpr ⟨azWc_209, List.forall_mem_cons.mpr ⟨azWc_210, List.forall_mem_cons.mpr ⟨azWc_211, List.forall_mem_cons.mpr ⟨azWc_212, List.forall_mem_cons.mpr ⟨azWc_213, List.forall_mem_cons.mpr ⟨azWc_214, List.forall_mem_cons.mpr ⟨azWc_215, List.forall_mem_cons.mpr ⟨azWc_216, List.forall_mem_cons.mpr ⟨azWc_217, List.forall_mem_cons.mpr ⟨azWc_218, List.forall_mem_cons.mpr ⟨azWc_219, List.forall_mem_cons.mpr ⟨azWc_220, List.forall_mem_cons.mpr ⟨azWc_221, List.forall_mem_cons.mpr ⟨azWc_222, List.forall_mem_cons.mpr ⟨azWc_223, List.forall_mem_cons.mpr ⟨azWc_224, List.forall_mem_cons.mpr ⟨azWc_225, List.forall_mem_cons.mpr ⟨azWc_226, List.forall_mem_cons.mpr ⟨azWc_227, List.forall_mem_cons.mpr ⟨azWc_228, List.forall_mem_cons.mpr ⟨azWc_229, List.forall_mem_cons.mpr ⟨azWc_230, List.forall_mem_cons.mpr ⟨azWc_231, List.forall_mem_cons.mpr ⟨azWc_232, List.forall_mem_cons.mpr ⟨azWc_233, List.forall_mem_cons.mpr ⟨azWc_234, List.forall_mem_cons.mpr ⟨azWc_235, List.forall_mem_cons.mpr ⟨azWc_236, List.forall_mem_cons.mpr ⟨azWc_237, List.forall_mem_cons.mpr ⟨azWc_238, List.forall_mem_cons.mpr ⟨azWc_239, List.forall_mem_cons.mpr ⟨azWc_240, List.forall_mem_cons.mpr ⟨azWc_241, List.forall_mem_cons.mpr ⟨azWc_242, List.forall_mem_cons.mpr ⟨azWc_243, List.forall_mem_cons.mpr ⟨azWc_244, List.forall_mem_cons.mpr ⟨azWc_245, List.forall_mem_cons.mpr ⟨azWc_246, List.forall_mem_cons.mpr ⟨azWc_247, List.forall_mem_cons.mpr ⟨azWc_248, List.forall_mem_cons.mpr ⟨azWc_249, List.forall_mem_cons.mpr ⟨azWc_250, List.forall_mem_cons.mpr ⟨azWc_251, List.forall_mem_cons.mpr ⟨azWc_252, List.forall_mem_cons.mpr ⟨azWc_253, List.forall_mem_cons.mpr ⟨azWc_254, List.forall_mem_cons.mpr ⟨azWc_255, List.forall_mem_cons.mpr ⟨azWc_256, List.forall_mem_cons.mpr ⟨azWc_257, List.forall_mem_cons.mpr ⟨azWc_258, List.forall_mem_cons.mpr ⟨azWc_259, List.forall_mem_cons.mpr ⟨azWc_260, List.forall_mem_cons.mpr ⟨azWc_261, List.forall_mem_cons.mpr ⟨azWc_262, List.forall_mem_cons.mpr ⟨azWc_263, List.forall_mem_cons.mpr ⟨azWc_264, List.forall_mem_cons.mpr ⟨azWc_265, List.forall_mem_cons.mpr ⟨azWc_266, List.forall_mem_cons.mpr ⟨azWc_267, List.forall_mem_cons.mpr ⟨azWc_268, List.forall_mem_cons.mpr ⟨azWc_269, List.forall_mem_cons.mpr ⟨azWc_270, List.forall_mem_cons.mpr ⟨azWc_271, fun _ h => absurd h List.not_mem_nil⟩⟩⟩⟩⟩⟩⟩⟩⟩⟩⟩⟩⟩⟩⟩⟩⟩⟩⟩⟩⟩⟩⟩⟩⟩⟩⟩⟩⟩⟩⟩⟩⟩⟩⟩⟩⟩⟩⟩⟩⟩⟩⟩⟩⟩⟩⟩⟩⟩⟩⟩⟩⟩⟩⟩⟩⟩⟩⟩⟩⟩⟩⟩⟩⟩⟩
theorem azWcc_11 : ∀ q ∈ azCL.getD 11 [], GoodIn lw_tbl (azCw 11 q) :=  fun _ h => absurd h List.not_mem_nil
theorem azWcc_12 : ∀ q ∈ azCL.getD 12 [], GoodIn lw_tbl (azCw 12 q) :=  fun _ h => absurd h List.not_mem_nil
theorem azWcc_13 : ∀ q ∈ azCL.getD 13 [], GoodIn lw_tbl (azCw 13 q) := List.forall_mem_cons.mpr ⟨azWc_272, List.forall_mem_cons.mpr ⟨azWc_273, List.forall_mem_cons.mpr ⟨azWc_274, List.forall_mem_cons.mpr ⟨azWc_275, fun _ h => absurd h List.not_mem_nil⟩⟩⟩⟩
theorem azWcc_14 : ∀ q ∈ azCL.getD 14 [], GoodIn lw_tbl (azCw 14 q) := List.forall_mem_cons.mpr ⟨azWc_276, fun _ h => absurd h List.not_mem_nil⟩
theorem azWcc_15 : ∀ q ∈ azCL.getD 15 [], GoodIn lw_tbl (azCw 15 q) := List.forall_mem_cons.mpr ⟨azWc_277, fun _ h => absurd h List.not_mem_nil⟩
theorem azWcc_16 : ∀ q ∈ azCL.getD 16 [], GoodIn lw_tbl (azCw 16 q) :=  fun _ h => absurd h List.not_mem_nil
theorem azWcc : ∀ c, ∀ q ∈ azCL.getD c [], GoodIn lw_tbl (azCw c q) := fun c => match c with
  | 0 => azWcc_0
  | 1 => azWcc_1
  | 2 => azWcc_2
  | 3 => azWcc_3
  | 4 => azWcc_4
  | 5 => azWcc_5
  | 6 => azWcc_6
  | 7 => azWcc_7
  | 8 => azWcc_8
  | 9 => azWcc_9
  | 10 => azWcc_10
  | 11 => azWcc_11
  | 12 => azWcc_12
  | 13 => azWcc_13
  | 14 => azWcc_14
  | 15 => azWcc_15
  | 16 => azWcc_16
  | _ + 17 => fun _ h => absurd h List.not_mem_nil
def azWc : List Cond := azMap azCL azCw
theorem azWc_in : GoodIn lw_tbl azWc := by
  intro w hw
  obtain ⟨c, -, hw⟩ := List.mem_flatMap.mp hw
  obtain ⟨q, hq, hw⟩ := List.mem_flatMap.mp hw
  exact azWcc c q hq w hw
theorem azMap_mem {α : Type} {L : List (List α)} {f : Nat → α → List Cond} {c : Nat} {q : α} {w : Cond} (hc : c < 17) (hq : q ∈ L.getD c []) (hw : w ∈ f c q) : w ∈ azMap L f := List.mem_flatMap.mpr ⟨c, List.mem_range.mpr hc, List.mem_flatMap.mpr ⟨q, hq, hw⟩⟩
def azWf : List Cond := azMap azFL azFw
theorem azWf_in : GoodIn lw_tbl azWf := goodIn_r _ [224, 225, 228, 226, 173, 174, 175, 249, 250, 251, 253, 110, 111, 153, 154, 155, 156, 390, 391, 392, 393, 394, 395, 396, 397, 388, 378, 374, 384, 381, 387, 126, 127, 129, 132, 133, 130, 192, 193, 194, 195, 196, 197, 198, 199, 264, 265, 266, 267, 268, 269, 270, 271, 272, 273, 275, 274, 1003, 1004, 1005, 1006, 1010, 1012, 1017, 1018, 1020, 1021, 1023, 1026, 1029, 1031, 1032, 1033, 1034, 1036, 1037, 1038, 1039, 1040, 1041, 1042, 1043, 1044, 1046, 1011, 1014, 1013, 1015, 1027, 1028, 1016, 1019, 1022, 1025, 1024, 1030, 1007, 1035, 1047, 1045, 1048, 1049, 1008, 1009] (by decide +kernel) (by decide +kernel)
def azWn : List Cond := azMap azNL azNw
theorem azWn_in : GoodIn lw_tbl azWn := goodIn_r _ [246, 105, 81, 365, 366, 89, 189, 105, 81, 104, 105, 81, 120, 121, 82, 147, 148, 83, 167, 168, 84, 183, 184, 85, 218, 219, 86, 240, 241, 87, 96, 97, 80, 997, 998, 88] (by decide +kernel) (by decide +kernel)
def azWa : List Cond := azMap azAL azAw
theorem azWa_in : GoodIn lw_tbl azWa := goodIn_r _ [248, 189, 118] (by decide +kernel) (by decide +kernel)
def azWd : List Cond := azMap azDL azDw
theorem azWd_in : GoodIn lw_tbl azWd := goodIn_r _ [1206, 585, 586, 587] (by decide +kernel) (by decide +kernel)
def azWl : List Cond := azMap azLL azLw
theorem azWl_in : GoodIn lw_tbl azWl := goodIn_r _ [961, 951, 1152, 1156, 1178, 1258, 1342, 1343, 1360, 1421, 1430] (by decide +kernel) (by decide +kernel)
def azWx : List Cond := azMap azXL azXw
theorem azWx_in : GoodIn lw_tbl azWx := goodIn_r _ [1455, 1456] (by decide +kernel) (by decide +kernel)
def azWt : List Cond := azMap azTL azTw
theorem azWt_in : GoodIn lw_tbl azWt := goodIn_r _ [462, 478] (by decide +kernel) (by decide +kernel)
def azWy : List Cond := azLays
theorem azWy_in : GoodIn lw_tbl azWy := goodIn_r _ [230, 232, 234, 236, 176, 178, 180, 255, 257, 259, 261, 112, 114, 158, 160, 162, 164, 398, 400, 402, 404, 406, 408, 410, 412, 414, 416, 418, 420, 422, 424, 134, 136, 138, 140, 142, 144, 200, 202, 204, 206, 208, 210, 212, 214, 276, 278, 280, 282, 284, 286, 288, 290, 292, 294, 296, 298, 1050, 1052, 1054, 1056, 1058, 1060, 1062, 1064, 1066, 1068, 1070, 1072, 1074, 1076, 1078, 1080, 1082, 1084, 1086, 1088, 1090, 1092, 1094, 1096, 1098, 1100, 1102, 1104, 1106, 1108, 1110, 1112, 1114, 1116, 1118, 1120, 1122, 1124, 1126, 1128, 1130, 1132, 1134, 1136, 1138, 1140, 1142] (by decide +kernel) (by decide +kernel)
def azWr : List Cond := azArr
theorem azWr_in : GoodIn lw_tbl azWr := goodIn_r _ [117, 239, 217] (by decide +kernel) (by decide +kernel)
def azWords : List Cond := azWf ++ (azWn ++ (azWa ++ (azWd ++ (azWl ++ (azWx ++ (azWt ++ (azWy ++ (azWr ++ (azWc)))))))))
theorem azWords_in : GoodIn lw_tbl azWords := goodIn_app azWf_in (goodIn_app azWn_in (goodIn_app azWa_in (goodIn_app azWd_in (goodIn_app azWl_in (goodIn_app azWx_in (goodIn_app azWt_in (goodIn_app azWy_in (goodIn_app azWr_in azWc_in))))))))
theorem az_in {big : List Cond} (ws : List Cond) (ps : List Nat) (hp : ws = ps.filterMap (fun i => big[i]?)) : ∀ w ∈ ws, w ∈ big := by
  intro w hw
  rw [hp] at hw
  obtain ⟨i, -, hi⟩ := List.mem_filterMap.mp hw
  exact List.mem_of_getElem? hi
def azXf : List Cond := azMap azFL azFx
theorem azXf_in : ∀ w ∈ azXf, w ∈ lw_tbl := az_in _ [379, 376, 373, 385, 371, 375, 382, 389, 128, 131, 372, 377, 383, 380, 386, 157, 227, 229, 254, 252] (by decide +kernel)
def azXc : List Cond := azMap azCL azCx
theorem azXc_in : ∀ w ∈ azXc, w ∈ lw_tbl := az_in _ [956, 312, 608, 556, 534, 443, 541] (by decide +kernel)
def azXs : List Cond := azMap azSL azSw
theorem azXs_in : ∀ w ∈ azXs, w ∈ lw_tbl := az_in _ [446, 447, 448, 449] (by decide +kernel)
def azXo : List Cond := [.arrayOver (.object RX3), .arrayOver (.object RX5)]
theorem azXo_in : ∀ w ∈ azXo, w ∈ lw_tbl := az_in _ [190, 119] (by decide +kernel)
end
section
/-- a written number, as the machine's int -/
def azC (n : Int) : Int32 := match n with
  | .ofNat k => nI k
  | .negSucc k => -(nI (k + 1))
def azLen (q : Instr × Nat) : Bool := match q.1 with
  | .iconst n => q.2 == 1 && Int32.ofInt n == azC n
  | .bipush n => q.2 == 2 && (Int8.ofInt n).toInt32 == azC n
  | .sipush n => q.2 == 3 && (Int16.ofInt n).toInt32 == azC n
  | .iinc _ n => q.2 == 3 && Int32.ofInt n == azC n
  | .lconst _ | .iload_n _ | .lload_n _ | .aload_n _ | .istore_n _ | .lstore_n _ | .astore_n _ => q.2 == 1
  | .ldc _ | .iload _ | .lload _ | .aload _ | .istore _ | .lstore _ | .astore _ | .newarray _ => q.2 == 2
  | .ldc_w _ | .ldc2_w _ | .if_icmp _ _ | .ifCond _ _ | .ifnull _ | .ifnonnull _ | .goto _ | .getfield _ | .putfield _ | .getstatic _ | .new _ | .anewarray _ | .invokevirtual _ | .invokestatic _ | .invokespecial _ => q.2 == 3
  | .tableswitch _ lo hi os => decide (os.size = (hi - lo + 1).toNat)
  | .lookupswitch _ ps => (ps.toList.zip (ps.toList.drop 1)).all (fun (a, next) => a.1 < next.1)
  | _ => q.2 == 1
def azTabOK (M : azM) : Bool := decide (M.1.cls = azN M.2.2.2.2.2.1) && (!M.2.2.2.2.1 || decide (M.1.name = "<init>")) && decide (M.2.2.1 ≤ 21) && M.2.2.2.2.2.2.all (fun q => decide (decode M.2.1 q.1 = .ok q.2) && azLen q.2)
theorem kX0_init : azTabOK mX0_init = true := by decide +kernel
theorem kX0_solve : azTabOK mX0_solve = true := by decide +kernel
theorem kX0_rowWith : azTabOK mX0_rowWith = true := by decide +kernel
theorem kX0_swapRows : azTabOK mX0_swapRows = true := by decide +kernel
theorem kX0_clearOthers : azTabOK mX0_clearOthers = true := by decide +kernel
theorem kX0_clearRow : azTabOK mX0_clearRow = true := by decide +kernel
theorem kX0_shortenRow : azTabOK mX0_shortenRow = true := by decide +kernel
theorem kX0_commonDivisor : azTabOK mX0_commonDivisor = true := by decide +kernel
theorem kX0_count : azTabOK mX0_count = true := by decide +kernel
theorem kX0_placeOf : azTabOK mX0_placeOf = true := by decide +kernel
theorem kX0_weigh : azTabOK mX0_weigh = true := by decide +kernel
theorem kX0_addUp : azTabOK mX0_addUp = true := by decide +kernel
theorem kX0_setFraction : azTabOK mX0_setFraction = true := by decide +kernel
theorem kX1_init : azTabOK mX1_init = true := by decide +kernel
theorem kX1_chosenFor : azTabOK mX1_chosenFor = true := by decide +kernel
theorem kX1_countBindings : azTabOK mX1_countBindings = true := by decide +kernel
theorem kX1_bindFirst : azTabOK mX1_bindFirst = true := by decide +kernel
theorem kX1_goes : azTabOK mX1_goes = true := by decide +kernel
theorem kX1_bindFrom : azTabOK mX1_bindFrom = true := by decide +kernel
theorem kX1_isFree : azTabOK mX1_isFree = true := by decide +kernel
theorem kX1_conditionsHold : azTabOK mX1_conditionsHold = true := by decide +kernel
theorem kX1_copyLeft : azTabOK mX1_copyLeft = true := by decide +kernel
theorem kX1_isTaken : azTabOK mX1_isTaken = true := by decide +kernel
theorem kX1_value : azTabOK mX1_value = true := by decide +kernel
theorem kX1_result : azTabOK mX1_result = true := by decide +kernel
theorem kX2_init : azTabOK mX2_init = true := by decide +kernel
theorem kX2_keep : azTabOK mX2_keep = true := by decide +kernel
theorem kX2_giveBack : azTabOK mX2_giveBack = true := by decide +kernel
theorem kX3_init : azTabOK mX3_init = true := by decide +kernel
theorem kX3_count : azTabOK mX3_count = true := by decide +kernel
theorem kX3_holds : azTabOK mX3_holds = true := by decide +kernel
theorem kX3_at : azTabOK mX3_at = true := by decide +kernel
theorem kX3_append : azTabOK mX3_append = true := by decide +kernel
theorem kX3_remove : azTabOK mX3_remove = true := by decide +kernel
theorem kX3_wipe : azTabOK mX3_wipe = true := by decide +kernel
theorem kX3_copy : azTabOK mX3_copy = true := by decide +kernel
theorem kX3_isLike : azTabOK mX3_isLike = true := by decide +kernel
theorem kX3_total : azTabOK mX3_total = true := by decide +kernel
theorem kX4_init : azTabOK mX4_init = true := by decide +kernel
theorem kX4_at : azTabOK mX4_at = true := by decide +kernel
theorem kX4_writeMarking : azTabOK mX4_writeMarking = true := by decide +kernel
theorem kX4_writeRule : azTabOK mX4_writeRule = true := by decide +kernel
theorem kX4_writeClause : azTabOK mX4_writeClause = true := by decide +kernel
theorem kX4_writeCode : azTabOK mX4_writeCode = true := by decide +kernel
theorem kX4_writeItem : azTabOK mX4_writeItem = true := by decide +kernel
theorem kX4_joinPieces : azTabOK mX4_joinPieces = true := by decide +kernel
theorem kX4_holdOf : azTabOK mX4_holdOf = true := by decide +kernel
theorem kX4_write : azTabOK mX4_write = true := by decide +kernel
theorem kX4_insert : azTabOK mX4_insert = true := by decide +kernel
theorem kX4_writeText : azTabOK mX4_writeText = true := by decide +kernel
theorem kX4_writeNumber : azTabOK mX4_writeNumber = true := by decide +kernel
theorem kX5_init : azTabOK mX5_init = true := by decide +kernel
theorem kX5_kind : azTabOK mX5_kind = true := by decide +kernel
theorem kX5_place : azTabOK mX5_place = true := by decide +kernel
theorem kX5_name : azTabOK mX5_name = true := by decide +kernel
theorem kX5_begin : azTabOK mX5_begin = true := by decide +kernel
theorem kX5_end : azTabOK mX5_end = true := by decide +kernel
theorem kX5_takeClause : azTabOK mX5_takeClause = true := by decide +kernel
theorem kX5_giveClause : azTabOK mX5_giveClause = true := by decide +kernel
theorem kX5_item : azTabOK mX5_item = true := by decide +kernel
theorem kX5_addItem : azTabOK mX5_addItem = true := by decide +kernel
theorem kX5_addTake : azTabOK mX5_addTake = true := by decide +kernel
theorem kX5_addCondition : azTabOK mX5_addCondition = true := by decide +kernel
theorem kX5_addGive : azTabOK mX5_addGive = true := by decide +kernel
theorem kX5_addEmpty : azTabOK mX5_addEmpty = true := by decide +kernel
theorem kX5_addClause : azTabOK mX5_addClause = true := by decide +kernel
theorem kX5_changeOf : azTabOK mX5_changeOf = true := by decide +kernel
theorem kX6_init : azTabOK mX6_init = true := by decide +kernel
theorem kX6_append : azTabOK mX6_append = true := by decide +kernel
theorem kX6_wipe : azTabOK mX6_wipe = true := by decide +kernel
theorem kX6_read : azTabOK mX6_read = true := by decide +kernel
theorem kX6_fail : azTabOK mX6_fail = true := by decide +kernel
theorem kX6_peek : azTabOK mX6_peek = true := by decide +kernel
theorem kX6_byteAt : azTabOK mX6_byteAt = true := by decide +kernel
theorem kX6_expect : azTabOK mX6_expect = true := by decide +kernel
theorem kX6_readClause : azTabOK mX6_readClause = true := by decide +kernel
theorem kX6_wordEnd : azTabOK mX6_wordEnd = true := by decide +kernel
theorem kX6_kindOf : azTabOK mX6_kindOf = true := by decide +kernel
theorem kX6_isWord : azTabOK mX6_isWord = true := by decide +kernel
theorem kX6_isOneTooMany : azTabOK mX6_isOneTooMany = true := by decide +kernel
theorem kX6_readIn : azTabOK mX6_readIn = true := by decide +kernel
theorem kX6_readOut : azTabOK mX6_readOut = true := by decide +kernel
theorem kX6_readIf : azTabOK mX6_readIf = true := by decide +kernel
theorem kX6_readComparison : azTabOK mX6_readComparison = true := by decide +kernel
theorem kX6_readSum : azTabOK mX6_readSum = true := by decide +kernel
theorem kX6_readFactor : azTabOK mX6_readFactor = true := by decide +kernel
theorem kX7_init : azTabOK mX7_init = true := by decide +kernel
theorem kX7_search : azTabOK mX7_search = true := by decide +kernel
theorem kX7_numberOfNext : azTabOK mX7_numberOfNext = true := by decide +kernel
theorem kX7_among : azTabOK mX7_among = true := by decide +kernel
theorem kX7_countIn : azTabOK mX7_countIn = true := by decide +kernel
theorem kX7_fullest : azTabOK mX7_fullest = true := by decide +kernel
theorem kX7_ableSomewhere : azTabOK mX7_ableSomewhere = true := by decide +kernel
theorem kX7_countEnds : azTabOK mX7_countEnds = true := by decide +kernel
theorem kX7_firstStuck : azTabOK mX7_firstStuck = true := by decide +kernel
theorem kX7_spreadEnding : azTabOK mX7_spreadEnding = true := by decide +kernel
theorem kX7_leadsToEnding : azTabOK mX7_leadsToEnding = true := by decide +kernel
theorem kX7_steps : azTabOK mX7_steps = true := by decide +kernel
theorem kX7_step : azTabOK mX7_step = true := by decide +kernel
theorem kX8_init : azTabOK mX8_init = true := by decide +kernel
theorem kX8_put : azTabOK mX8_put = true := by decide +kernel
theorem kX8_take : azTabOK mX8_take = true := by decide +kernel
theorem kX8_token : azTabOK mX8_token = true := by decide +kernel
theorem kX8_feed : azTabOK mX8_feed = true := by decide +kernel
theorem kX8_clear : azTabOK mX8_clear = true := by decide +kernel
theorem kX8_rule : azTabOK mX8_rule = true := by decide +kernel
theorem kX8_drop : azTabOK mX8_drop = true := by decide +kernel
theorem kX8_has : azTabOK mX8_has = true := by decide +kernel
theorem kX8_spell : azTabOK mX8_spell = true := by decide +kernel
theorem kX8_line : azTabOK mX8_line = true := by decide +kernel
theorem kX8_paper : azTabOK mX8_paper = true := by decide +kernel
theorem kX8_can : azTabOK mX8_can = true := by decide +kernel
theorem kX8_bound : azTabOK mX8_bound = true := by decide +kernel
theorem kX8_bindings : azTabOK mX8_bindings = true := by decide +kernel
theorem kX8_go : azTabOK mX8_go = true := by decide +kernel
theorem kX8_all : azTabOK mX8_all = true := by decide +kernel
theorem kX8_again : azTabOK mX8_again = true := by decide +kernel
theorem kX8_last : azTabOK mX8_last = true := by decide +kernel
theorem kX8_reach : azTabOK mX8_reach = true := by decide +kernel
theorem kX8_most : azTabOK mX8_most = true := by decide +kernel
theorem kX8_dead : azTabOK mX8_dead = true := by decide +kernel
theorem kX8_ends : azTabOK mX8_ends = true := by decide +kernel
theorem kX8_stuck : azTabOK mX8_stuck = true := by decide +kernel
theorem kX8_walk : azTabOK mX8_walk = true := by decide +kernel
theorem kX8_held : azTabOK mX8_held = true := by decide +kernel
theorem kX8_change : azTabOK mX8_change = true := by decide +kernel
theorem kX8_invariants : azTabOK mX8_invariants = true := by decide +kernel
theorem kX8_weight : azTabOK mX8_weight = true := by decide +kernel
theorem kX8_sum : azTabOK mX8_sum = true := by decide +kernel
theorem kX8_told : azTabOK mX8_told = true := by decide +kernel
theorem kX8_image : azTabOK mX8_image = true := by decide +kernel
theorem kX8_undo : azTabOK mX8_undo = true := by decide +kernel
theorem kX8_isPlace : azTabOK mX8_isPlace = true := by decide +kernel
theorem kX8_isPart : azTabOK mX8_isPart = true := by decide +kernel
theorem kX8_isSet : azTabOK mX8_isSet = true := by decide +kernel
theorem kX8_isTimes : azTabOK mX8_isTimes = true := by decide +kernel
theorem kX8_isReach : azTabOK mX8_isReach = true := by decide +kernel
theorem kX8_isSide : azTabOK mX8_isSide = true := by decide +kernel
theorem kX8_isFigure : azTabOK mX8_isFigure = true := by decide +kernel
theorem kX8_isName : azTabOK mX8_isName = true := by decide +kernel
theorem kX8_wordOf : azTabOK mX8_wordOf = true := by decide +kernel
theorem kX8_rulesTold : azTabOK mX8_rulesTold = true := by decide +kernel
theorem kX8_tryOut : azTabOK mX8_tryOut = true := by decide +kernel
theorem kX8_tryOne : azTabOK mX8_tryOne = true := by decide +kernel
theorem kX8_walksNow : azTabOK mX8_walksNow = true := by decide +kernel
theorem kX9_init : azTabOK mX9_init = true := by decide +kernel
theorem kX9_isIn : azTabOK mX9_isIn = true := by decide +kernel
theorem kX9_isPlace : azTabOK mX9_isPlace = true := by decide +kernel
theorem kX9_pours : azTabOK mX9_pours = true := by decide +kernel
theorem kX9_at : azTabOK mX9_at = true := by decide +kernel
theorem kX9_removes : azTabOK mX9_removes = true := by decide +kernel
theorem kX9_adds : azTabOK mX9_adds = true := by decide +kernel
theorem kX9_put : azTabOK mX9_put = true := by decide +kernel
theorem kX9_take : azTabOK mX9_take = true := by decide +kernel
theorem kX9_token : azTabOK mX9_token = true := by decide +kernel
theorem kX9_feed : azTabOK mX9_feed = true := by decide +kernel
theorem kX9_clear : azTabOK mX9_clear = true := by decide +kernel
theorem kX9_peek : azTabOK mX9_peek = true := by decide +kernel
theorem kX9_wrong : azTabOK mX9_wrong = true := by decide +kernel
theorem kX9_takes : azTabOK mX9_takes = true := by decide +kernel
theorem kX9_isFigure : azTabOK mX9_isFigure = true := by decide +kernel
theorem kX9_figure : azTabOK mX9_figure = true := by decide +kernel
theorem kX9_expression : azTabOK mX9_expression = true := by decide +kernel
theorem kX9_term : azTabOK mX9_term = true := by decide +kernel
theorem kX9_factor : azTabOK mX9_factor = true := by decide +kernel
theorem kX9_compares : azTabOK mX9_compares = true := by decide +kernel
theorem kX9_word : azTabOK mX9_word = true := by decide +kernel
theorem kX9_takeClause : azTabOK mX9_takeClause = true := by decide +kernel
theorem kX9_giveClause : azTabOK mX9_giveClause = true := by decide +kernel
theorem kX9_conditionClause : azTabOK mX9_conditionClause = true := by decide +kernel
theorem kX9_clause : azTabOK mX9_clause = true := by decide +kernel
theorem kX9_reads : azTabOK mX9_reads = true := by decide +kernel
theorem kX9_readsRule : azTabOK mX9_readsRule = true := by decide +kernel
theorem kX9_rule : azTabOK mX9_rule = true := by decide +kernel
theorem kX9_drop : azTabOK mX9_drop = true := by decide +kernel
theorem kX9_has : azTabOK mX9_has = true := by decide +kernel
theorem kX9_writes : azTabOK mX9_writes = true := by decide +kernel
theorem kX9_sign : azTabOK mX9_sign = true := by decide +kernel
theorem kX9_bare : azTabOK mX9_bare = true := by decide +kernel
theorem kX9_looseness : azTabOK mX9_looseness = true := by decide +kernel
theorem kX9_spells : azTabOK mX9_spells = true := by decide +kernel
theorem kX9_end : azTabOK mX9_end = true := by decide +kernel
theorem kX9_spell : azTabOK mX9_spell = true := by decide +kernel
theorem kX9_writesNumber : azTabOK mX9_writesNumber = true := by decide +kernel
theorem kX9_line : azTabOK mX9_line = true := by decide +kernel
theorem kX9_paper : azTabOK mX9_paper = true := by decide +kernel
theorem kX9_isBinding : azTabOK mX9_isBinding = true := by decide +kernel
theorem kX9_binds : azTabOK mX9_binds = true := by decide +kernel
theorem kX9_goes : azTabOK mX9_goes = true := by decide +kernel
theorem kX9_can : azTabOK mX9_can = true := by decide +kernel
theorem kX9_bound : azTabOK mX9_bound = true := by decide +kernel
theorem kX9_bindings : azTabOK mX9_bindings = true := by decide +kernel
theorem kX9_go : azTabOK mX9_go = true := by decide +kernel
theorem kX9_all : azTabOK mX9_all = true := by decide +kernel
theorem kX9_repeats : azTabOK mX9_repeats = true := by decide +kernel
theorem kX9_isRepeat : azTabOK mX9_isRepeat = true := by decide +kernel
theorem kX9_again : azTabOK mX9_again = true := by decide +kernel
theorem kX9_last : azTabOK mX9_last = true := by decide +kernel
theorem kX9_placeOf : azTabOK mX9_placeOf = true := by decide +kernel
theorem kX9_finds : azTabOK mX9_finds = true := by decide +kernel
theorem kX9_reach : azTabOK mX9_reach = true := by decide +kernel
theorem kX9_most : azTabOK mX9_most = true := by decide +kernel
theorem kX9_dead : azTabOK mX9_dead = true := by decide +kernel
theorem kX9_isEnd : azTabOK mX9_isEnd = true := by decide +kernel
theorem kX9_ends : azTabOK mX9_ends = true := by decide +kernel
theorem kX9_stuck : azTabOK mX9_stuck = true := by decide +kernel
theorem kX9_walk : azTabOK mX9_walk = true := by decide +kernel
theorem kX9_held : azTabOK mX9_held = true := by decide +kernel
theorem kX9_changeOf : azTabOK mX9_changeOf = true := by decide +kernel
theorem kX9_change : azTabOK mX9_change = true := by decide +kernel
theorem kX9_gcd : azTabOK mX9_gcd = true := by decide +kernel
theorem kX9_sets : azTabOK mX9_sets = true := by decide +kernel
theorem kX9_less : azTabOK mX9_less = true := by decide +kernel
theorem kX9_swaps : azTabOK mX9_swaps = true := by decide +kernel
theorem kX9_reduces : azTabOK mX9_reduces = true := by decide +kernel
theorem kX9_invariants : azTabOK mX9_invariants = true := by decide +kernel
theorem kX9_weighs : azTabOK mX9_weighs = true := by decide +kernel
theorem kX9_weight : azTabOK mX9_weight = true := by decide +kernel
theorem kX9_sum : azTabOK mX9_sum = true := by decide +kernel
theorem kX9_tokens : azTabOK mX9_tokens = true := by decide +kernel
theorem kX9_told : azTabOK mX9_told = true := by decide +kernel
theorem kX9_image : azTabOK mX9_image = true := by decide +kernel
theorem kX9_undo : azTabOK mX9_undo = true := by decide +kernel
theorem kJ6_bitCount_0f7a4 : azTabOK mJ6_bitCount_0f7a4 = true := by decide +kernel
theorem kJ9_floorMod_7cf53 : azTabOK mJ9_floorMod_7cf53 = true := by decide +kernel
theorem kJ9_abs_067f4 : azTabOK mJ9_abs_067f4 = true := by decide +kernel
theorem kJ9_max_7cf53 : azTabOK mJ9_max_7cf53 = true := by decide +kernel
theorem kJ9_min_7cf53 : azTabOK mJ9_min_7cf53 = true := by decide +kernel
theorem kJ0_length_8abf5 : azTabOK mJ0_length_8abf5 = true := by decide +kernel
theorem kJ0_charAt_5068e : azTabOK mJ0_charAt_5068e = true := by decide +kernel
theorem kJ0_coder_7d493 : azTabOK mJ0_coder_7d493 = true := by decide +kernel
theorem kJ0_isLatin1_aae02 : azTabOK mJ0_isLatin1_aae02 = true := by decide +kernel
theorem kJ0_checkIndex_df160 : azTabOK mJ0_checkIndex_df160 = true := by decide +kernel
theorem kJ1_charAt_3b067 : azTabOK mJ1_charAt_3b067 = true := by decide +kernel
theorem kJ3_checkIndex_8e157 : azTabOK mJ3_checkIndex_8e157 = true := by decide +kernel
theorem kL_law_0 : tL_law_0.all (fun q => decide (decode cL_law q.1 = .ok q.2) && azLen q.2) = true := by decide +kernel
theorem kL_law_1 : tL_law_1.all (fun q => decide (decode cL_law q.1 = .ok q.2) && azLen q.2) = true := by decide +kernel
theorem kL_law_2 : tL_law_2.all (fun q => decide (decode cL_law q.1 = .ok q.2) && azLen q.2) = true := by decide +kernel
theorem kL_law_3 : tL_law_3.all (fun q => decide (decode cL_law q.1 = .ok q.2) && azLen q.2) = true := by decide +kernel
theorem kL_law_4 : tL_law_4.all (fun q => decide (decode cL_law q.1 = .ok q.2) && azLen q.2) = true := by decide +kernel
theorem kL_law_5 : tL_law_5.all (fun q => decide (decode cL_law q.1 = .ok q.2) && azLen q.2) = true := by decide +kernel
theorem kL_law_6 : tL_law_6.all (fun q => decide (decode cL_law q.1 = .ok q.2) && azLen q.2) = true := by decide +kernel
theorem kL_law_7 : tL_law_7.all (fun q => decide (decode cL_law q.1 = .ok q.2) && azLen q.2) = true := by decide +kernel
theorem kL_law_8 : tL_law_8.all (fun q => decide (decode cL_law q.1 = .ok q.2) && azLen q.2) = true := by decide +kernel
theorem kL_law_9 : tL_law_9.all (fun q => decide (decode cL_law q.1 = .ok q.2) && azLen q.2) = true := by decide +kernel
theorem kL_law_10 : tL_law_10.all (fun q => decide (decode cL_law q.1 = .ok q.2) && azLen q.2) = true := by decide +kernel
theorem kL_law_11 : tL_law_11.all (fun q => decide (decode cL_law q.1 = .ok q.2) && azLen q.2) = true := by decide +kernel
theorem kL_law_12 : tL_law_12.all (fun q => decide (decode cL_law q.1 = .ok q.2) && azLen q.2) = true := by decide +kernel
theorem kL_law_13 : tL_law_13.all (fun q => decide (decode cL_law q.1 = .ok q.2) && azLen q.2) = true := by decide +kernel
theorem kL_law_14 : tL_law_14.all (fun q => decide (decode cL_law q.1 = .ok q.2) && azLen q.2) = true := by decide +kernel
theorem kL_law_15 : tL_law_15.all (fun q => decide (decode cL_law q.1 = .ok q.2) && azLen q.2) = true := by decide +kernel
theorem kL_law_16 : tL_law_16.all (fun q => decide (decode cL_law q.1 = .ok q.2) && azLen q.2) = true := by decide +kernel
theorem kL_law_17 : tL_law_17.all (fun q => decide (decode cL_law q.1 = .ok q.2) && azLen q.2) = true := by decide +kernel
theorem kL_law_t : tL_law.all (fun q => decide (decode cL_law q.1 = .ok q.2) && azLen q.2) = true := by
  unfold tL_law
  simp only [List.all_append, Bool.and_eq_true]
  exact ⟨kL_law_0, kL_law_1, kL_law_2, kL_law_3, kL_law_4, kL_law_5, kL_law_6, kL_law_7, kL_law_8, kL_law_9, kL_law_10, kL_law_11, kL_law_12, kL_law_13, kL_law_14, kL_law_15, kL_law_16, kL_law_17⟩
theorem kL_law : azTabOK mL_law = true := by
  have h : (decide (yL_law.cls = azN 10) && (!false || decide (yL_law.name = "<init>")) && decide (4 ≤ 21)) = true := by decide +kernel
  show (_ && _) = true
  rw [Bool.and_eq_true]
  exact ⟨h, kL_law_t⟩
theorem k_nil : azTabOK m_nil = true := by decide +kernel
theorem azCok_0 : ∀ q ∈ azCL.getD 0 [], azTabOK q.2.2.2 = true := List.forall_mem_cons.mpr ⟨k_nil, List.forall_mem_cons.mpr ⟨kX5_changeOf, List.forall_mem_cons.mpr ⟨kX0_rowWith, List.forall_mem_cons.mpr ⟨kX0_swapRows, List.forall_mem_cons.mpr ⟨kX0_clearOthers, List.forall_mem_cons.mpr ⟨kX0_clearRow, List.forall_mem_cons.mpr ⟨kX0_shortenRow, List.forall_mem_cons.mpr ⟨kX0_commonDivisor, List.forall_mem_cons.mpr ⟨kJ9_abs_067f4, List.forall_mem_cons.mpr ⟨kX8_isPlace, List.forall_mem_cons.mpr ⟨kX0_setFraction, List.forall_mem_cons.mpr ⟨kX0_weigh, List.forall_mem_cons.mpr ⟨kX3_count, fun _ h => absurd h List.not_mem_nil⟩⟩⟩⟩⟩⟩⟩⟩⟩⟩⟩⟩⟩
theorem azCok_1 : ∀ q ∈ azCL.getD 1 [], azTabOK q.2.2.2 = true := List.forall_mem_cons.mpr ⟨k_nil, List.forall_mem_cons.mpr ⟨kX1_bindFrom, List.forall_mem_cons.mpr ⟨kX1_copyLeft, List.forall_mem_cons.mpr ⟨kX5_giveClause, List.forall_mem_cons.mpr ⟨kX1_value, List.forall_mem_cons.mpr ⟨kJ9_floorMod_7cf53, List.forall_mem_cons.mpr ⟨kX5_place, List.forall_mem_cons.mpr ⟨kX3_append, List.forall_mem_cons.mpr ⟨kX1_conditionsHold, List.forall_mem_cons.mpr ⟨kX5_takeClause, List.forall_mem_cons.mpr ⟨kX5_name, List.forall_mem_cons.mpr ⟨kX3_count, List.forall_mem_cons.mpr ⟨kX1_isFree, List.forall_mem_cons.mpr ⟨kX3_at, List.forall_mem_cons.mpr ⟨kX5_kind, List.forall_mem_cons.mpr ⟨kX3_wipe, List.forall_mem_cons.mpr ⟨kX1_isTaken, List.forall_mem_cons.mpr ⟨kX5_begin, List.forall_mem_cons.mpr ⟨kX5_end, List.forall_mem_cons.mpr ⟨kX5_item, List.forall_mem_cons.mpr ⟨kX1_result, fun _ h => absurd h List.not_mem_nil⟩⟩⟩⟩⟩⟩⟩⟩⟩⟩⟩⟩⟩⟩⟩⟩⟩⟩⟩⟩⟩
theorem azCok_2 : ∀ q ∈ azCL.getD 2 [], azTabOK q.2.2.2 = true := List.forall_mem_cons.mpr ⟨k_nil, List.forall_mem_cons.mpr ⟨kX3_init, List.forall_mem_cons.mpr ⟨kX3_copy, fun _ h => absurd h List.not_mem_nil⟩⟩⟩
theorem azCok_3 : ∀ q ∈ azCL.getD 3 [], azTabOK q.2.2.2 = true := List.forall_mem_cons.mpr ⟨k_nil, List.forall_mem_cons.mpr ⟨kX3_holds, List.forall_mem_cons.mpr ⟨kX8_isPlace, fun _ h => absurd h List.not_mem_nil⟩⟩⟩
theorem azCok_4 : ∀ q ∈ azCL.getD 4 [], azTabOK q.2.2.2 = true := List.forall_mem_cons.mpr ⟨k_nil, List.forall_mem_cons.mpr ⟨kX3_count, List.forall_mem_cons.mpr ⟨kX4_write, List.forall_mem_cons.mpr ⟨kX4_writeNumber, List.forall_mem_cons.mpr ⟨kX3_at, List.forall_mem_cons.mpr ⟨kX4_writeClause, List.forall_mem_cons.mpr ⟨kX5_kind, List.forall_mem_cons.mpr ⟨kX8_wordOf, List.forall_mem_cons.mpr ⟨kX4_writeText, List.forall_mem_cons.mpr ⟨kX5_place, List.forall_mem_cons.mpr ⟨kX5_name, List.forall_mem_cons.mpr ⟨kX5_begin, List.forall_mem_cons.mpr ⟨kX5_end, List.forall_mem_cons.mpr ⟨kX4_writeCode, List.forall_mem_cons.mpr ⟨kX5_item, List.forall_mem_cons.mpr ⟨kX4_joinPieces, List.forall_mem_cons.mpr ⟨kX4_writeItem, List.forall_mem_cons.mpr ⟨kX4_holdOf, List.forall_mem_cons.mpr ⟨kX4_insert, List.forall_mem_cons.mpr ⟨kJ0_length_8abf5, List.forall_mem_cons.mpr ⟨kJ0_charAt_5068e, fun _ h => absurd h List.not_mem_nil⟩⟩⟩⟩⟩⟩⟩⟩⟩⟩⟩⟩⟩⟩⟩⟩⟩⟩⟩⟩⟩
theorem azCok_5 : ∀ q ∈ azCL.getD 5 [], azTabOK q.2.2.2 = true := List.forall_mem_cons.mpr ⟨k_nil, List.forall_mem_cons.mpr ⟨kX5_addClause, List.forall_mem_cons.mpr ⟨kX8_isPlace, List.forall_mem_cons.mpr ⟨kX5_place, List.forall_mem_cons.mpr ⟨kX5_kind, fun _ h => absurd h List.not_mem_nil⟩⟩⟩⟩⟩
theorem azCok_6 : ∀ q ∈ azCL.getD 6 [], azTabOK q.2.2.2 = true := List.forall_mem_cons.mpr ⟨k_nil, List.forall_mem_cons.mpr ⟨kX5_init, List.forall_mem_cons.mpr ⟨kX6_readClause, List.forall_mem_cons.mpr ⟨kX6_expect, List.forall_mem_cons.mpr ⟨kX6_peek, List.forall_mem_cons.mpr ⟨kX6_fail, List.forall_mem_cons.mpr ⟨kX6_wordEnd, List.forall_mem_cons.mpr ⟨kX6_kindOf, List.forall_mem_cons.mpr ⟨kX6_isOneTooMany, List.forall_mem_cons.mpr ⟨kX6_readIf, List.forall_mem_cons.mpr ⟨kX8_isFigure, List.forall_mem_cons.mpr ⟨kX5_addEmpty, List.forall_mem_cons.mpr ⟨kX6_readIn, List.forall_mem_cons.mpr ⟨kX6_readOut, List.forall_mem_cons.mpr ⟨kX6_byteAt, List.forall_mem_cons.mpr ⟨kX8_wordOf, List.forall_mem_cons.mpr ⟨kX6_isWord, List.forall_mem_cons.mpr ⟨kJ0_length_8abf5, List.forall_mem_cons.mpr ⟨kJ0_charAt_5068e, List.forall_mem_cons.mpr ⟨kX8_isName, List.forall_mem_cons.mpr ⟨kX5_addTake, List.forall_mem_cons.mpr ⟨kX6_readSum, List.forall_mem_cons.mpr ⟨kX5_addGive, List.forall_mem_cons.mpr ⟨kX6_readComparison, List.forall_mem_cons.mpr ⟨kX5_addItem, List.forall_mem_cons.mpr ⟨kX5_addCondition, List.forall_mem_cons.mpr ⟨kX6_readFactor, fun _ h => absurd h List.not_mem_nil⟩⟩⟩⟩⟩⟩⟩⟩⟩⟩⟩⟩⟩⟩⟩⟩⟩⟩⟩⟩⟩⟩⟩⟩⟩⟩⟩
theorem azCok_7 : ∀ q ∈ azCL.getD 7 [], azTabOK q.2.2.2 = true := List.forall_mem_cons.mpr ⟨k_nil, List.forall_mem_cons.mpr ⟨kX3_init, List.forall_mem_cons.mpr ⟨kX3_copy, List.forall_mem_cons.mpr ⟨kX1_goes, List.forall_mem_cons.mpr ⟨kX7_numberOfNext, List.forall_mem_cons.mpr ⟨kX3_isLike, List.forall_mem_cons.mpr ⟨kJ9_min_7cf53, List.forall_mem_cons.mpr ⟨kX3_count, List.forall_mem_cons.mpr ⟨kX7_among, List.forall_mem_cons.mpr ⟨kX7_countIn, List.forall_mem_cons.mpr ⟨kJ9_max_7cf53, List.forall_mem_cons.mpr ⟨kX7_spreadEnding, List.forall_mem_cons.mpr ⟨kX7_leadsToEnding, fun _ h => absurd h List.not_mem_nil⟩⟩⟩⟩⟩⟩⟩⟩⟩⟩⟩⟩⟩
theorem azCok_8 : ∀ q ∈ azCL.getD 8 [], azTabOK q.2.2.2 = true := List.forall_mem_cons.mpr ⟨k_nil, List.forall_mem_cons.mpr ⟨kX3_init, List.forall_mem_cons.mpr ⟨kX6_init, List.forall_mem_cons.mpr ⟨kX4_init, List.forall_mem_cons.mpr ⟨kX1_init, List.forall_mem_cons.mpr ⟨kX7_init, List.forall_mem_cons.mpr ⟨kX0_init, List.forall_mem_cons.mpr ⟨kX2_init, List.forall_mem_cons.mpr ⟨kX8_isPlace, List.forall_mem_cons.mpr ⟨kX3_append, List.forall_mem_cons.mpr ⟨kX3_count, List.forall_mem_cons.mpr ⟨kX3_holds, List.forall_mem_cons.mpr ⟨kX3_remove, List.forall_mem_cons.mpr ⟨kX3_at, List.forall_mem_cons.mpr ⟨kX6_append, List.forall_mem_cons.mpr ⟨kX6_wipe, List.forall_mem_cons.mpr ⟨kX8_isPart, List.forall_mem_cons.mpr ⟨kX6_read, List.forall_mem_cons.mpr ⟨kJ6_bitCount_0f7a4, List.forall_mem_cons.mpr ⟨kX4_writeRule, List.forall_mem_cons.mpr ⟨kX4_writeMarking, List.forall_mem_cons.mpr ⟨kX4_at, List.forall_mem_cons.mpr ⟨kX1_goes, List.forall_mem_cons.mpr ⟨kX1_bindFirst, List.forall_mem_cons.mpr ⟨kX1_chosenFor, List.forall_mem_cons.mpr ⟨kX1_countBindings, List.forall_mem_cons.mpr ⟨kX3_copy, List.forall_mem_cons.mpr ⟨kX8_isSet, List.forall_mem_cons.mpr ⟨kX8_isTimes, List.forall_mem_cons.mpr ⟨kX8_tryOut, List.forall_mem_cons.mpr ⟨kX8_isReach, List.forall_mem_cons.mpr ⟨kX8_walksNow, List.forall_mem_cons.mpr ⟨kX7_among, List.forall_mem_cons.mpr ⟨kX7_fullest, List.forall_mem_cons.mpr ⟨kX8_rulesTold, List.forall_mem_cons.mpr ⟨kX7_ableSomewhere, List.forall_mem_cons.mpr ⟨kX7_countEnds, List.forall_mem_cons.mpr ⟨kX7_firstStuck, List.forall_mem_cons.mpr ⟨kX7_steps, List.forall_mem_cons.mpr ⟨kX7_step, List.forall_mem_cons.mpr ⟨kX7_countIn, List.forall_mem_cons.mpr ⟨kX5_changeOf, List.forall_mem_cons.mpr ⟨kX0_solve, List.forall_mem_cons.mpr ⟨kX0_count, List.forall_mem_cons.mpr ⟨kX0_placeOf, List.forall_mem_cons.mpr ⟨kX8_isSide, List.forall_mem_cons.mpr ⟨kX0_weigh, List.forall_mem_cons.mpr ⟨kX0_addUp, List.forall_mem_cons.mpr ⟨kX3_total, List.forall_mem_cons.mpr ⟨kX2_keep, List.forall_mem_cons.mpr ⟨kX2_giveBack, List.forall_mem_cons.mpr ⟨kX8_tryOne, List.forall_mem_cons.mpr ⟨kX7_search, fun _ h => absurd h List.not_mem_nil⟩⟩⟩⟩⟩⟩⟩⟩⟩⟩⟩⟩⟩⟩⟩⟩⟩⟩⟩⟩⟩⟩⟩⟩⟩⟩⟩⟩⟩⟩⟩⟩⟩⟩⟩⟩⟩⟩⟩⟩⟩⟩⟩⟩⟩⟩⟩⟩⟩⟩⟩⟩⟩
theorem azCok_9 : ∀ q ∈ azCL.getD 9 [], azTabOK q.2.2.2 = true := List.forall_mem_cons.mpr ⟨k_nil, List.forall_mem_cons.mpr ⟨kX9_isIn, List.forall_mem_cons.mpr ⟨kX9_at, List.forall_mem_cons.mpr ⟨kX9_isPlace, List.forall_mem_cons.mpr ⟨kX9_adds, List.forall_mem_cons.mpr ⟨kX9_removes, List.forall_mem_cons.mpr ⟨kX9_peek, List.forall_mem_cons.mpr ⟨kX9_wrong, List.forall_mem_cons.mpr ⟨kX9_isFigure, List.forall_mem_cons.mpr ⟨kX9_term, List.forall_mem_cons.mpr ⟨kX9_factor, List.forall_mem_cons.mpr ⟨kX9_figure, List.forall_mem_cons.mpr ⟨kX9_expression, List.forall_mem_cons.mpr ⟨kX9_takes, List.forall_mem_cons.mpr ⟨kX9_compares, List.forall_mem_cons.mpr ⟨kX9_word, List.forall_mem_cons.mpr ⟨kX9_takeClause, List.forall_mem_cons.mpr ⟨kX9_giveClause, List.forall_mem_cons.mpr ⟨kX9_conditionClause, List.forall_mem_cons.mpr ⟨kX9_clause, List.forall_mem_cons.mpr ⟨kX9_pours, List.forall_mem_cons.mpr ⟨kX9_reads, List.forall_mem_cons.mpr ⟨kX9_readsRule, List.forall_mem_cons.mpr ⟨kX9_sign, List.forall_mem_cons.mpr ⟨kX9_bare, List.forall_mem_cons.mpr ⟨kX9_looseness, List.forall_mem_cons.mpr ⟨kX9_writes, List.forall_mem_cons.mpr ⟨kX9_spells, List.forall_mem_cons.mpr ⟨kX9_end, List.forall_mem_cons.mpr ⟨kX9_writesNumber, List.forall_mem_cons.mpr ⟨kX9_isBinding, List.forall_mem_cons.mpr ⟨kX9_binds, List.forall_mem_cons.mpr ⟨kX9_goes, List.forall_mem_cons.mpr ⟨kX9_isRepeat, List.forall_mem_cons.mpr ⟨kX9_repeats, List.forall_mem_cons.mpr ⟨kX9_placeOf, List.forall_mem_cons.mpr ⟨kX9_finds, List.forall_mem_cons.mpr ⟨kJ9_max_7cf53, List.forall_mem_cons.mpr ⟨kX9_isEnd, List.forall_mem_cons.mpr ⟨kX9_changeOf, List.forall_mem_cons.mpr ⟨kX9_gcd, List.forall_mem_cons.mpr ⟨kX9_sets, List.forall_mem_cons.mpr ⟨kX9_swaps, List.forall_mem_cons.mpr ⟨kX9_less, List.forall_mem_cons.mpr ⟨kX9_reduces, List.forall_mem_cons.mpr ⟨kX9_weighs, List.forall_mem_cons.mpr ⟨kX9_tokens, fun _ h => absurd h List.not_mem_nil⟩⟩⟩⟩⟩⟩⟩⟩⟩⟩⟩⟩⟩⟩⟩⟩⟩⟩⟩⟩⟩⟩⟩⟩⟩⟩⟩⟩⟩⟩⟩⟩⟩⟩⟩⟩⟩⟩⟩⟩⟩⟩⟩⟩⟩⟩⟩
theorem azCok_10 : ∀ q ∈ azCL.getD 10 [], azTabOK q.2.2.2 = true := List.forall_mem_cons.mpr ⟨kX8_init, List.forall_mem_cons.mpr ⟨kX9_init, List.forall_mem_cons.mpr ⟨kX8_put, List.forall_mem_cons.mpr ⟨kX9_put, List.forall_mem_cons.mpr ⟨kX8_take, List.forall_mem_cons.mpr ⟨kX9_take, List.forall_mem_cons.mpr ⟨kX8_token, List.forall_mem_cons.mpr ⟨kX9_token, List.forall_mem_cons.mpr ⟨kX8_feed, List.forall_mem_cons.mpr ⟨kX9_feed, List.forall_mem_cons.mpr ⟨kX8_clear, List.forall_mem_cons.mpr ⟨kX9_clear, List.forall_mem_cons.mpr ⟨kX8_rule, List.forall_mem_cons.mpr ⟨kX9_rule, List.forall_mem_cons.mpr ⟨kX8_drop, List.forall_mem_cons.mpr ⟨kX9_drop, List.forall_mem_cons.mpr ⟨kX8_has, List.forall_mem_cons.mpr ⟨kX9_has, List.forall_mem_cons.mpr ⟨kX8_spell, List.forall_mem_cons.mpr ⟨kX9_spell, List.forall_mem_cons.mpr ⟨kX8_line, List.forall_mem_cons.mpr ⟨kX9_line, List.forall_mem_cons.mpr ⟨kX8_paper, List.forall_mem_cons.mpr ⟨kX9_paper, List.forall_mem_cons.mpr ⟨kX8_can, List.forall_mem_cons.mpr ⟨kX9_can, List.forall_mem_cons.mpr ⟨kX8_bound, List.forall_mem_cons.mpr ⟨kX9_bound, List.forall_mem_cons.mpr ⟨kX8_bindings, List.forall_mem_cons.mpr ⟨kX9_bindings, List.forall_mem_cons.mpr ⟨kX8_go, List.forall_mem_cons.mpr ⟨kX9_go, List.forall_mem_cons.mpr ⟨kX8_all, List.forall_mem_cons.mpr ⟨kX9_all, List.forall_mem_cons.mpr ⟨kX8_again, List.forall_mem_cons.mpr ⟨kX9_again, List.forall_mem_cons.mpr ⟨kX8_last, List.forall_mem_cons.mpr ⟨kX9_last, List.forall_mem_cons.mpr ⟨kX8_reach, List.forall_mem_cons.mpr ⟨kX9_reach, List.forall_mem_cons.mpr ⟨kX8_most, List.forall_mem_cons.mpr ⟨kX9_most, List.forall_mem_cons.mpr ⟨kX8_dead, List.forall_mem_cons.mpr ⟨kX9_dead, List.forall_mem_cons.mpr ⟨kX8_ends, List.forall_mem_cons.mpr ⟨kX9_ends, List.forall_mem_cons.mpr ⟨kX8_stuck, List.forall_mem_cons.mpr ⟨kX9_stuck, List.forall_mem_cons.mpr ⟨kX8_walk, List.forall_mem_cons.mpr ⟨kX9_walk, List.forall_mem_cons.mpr ⟨kX8_held, List.forall_mem_cons.mpr ⟨kX9_held, List.forall_mem_cons.mpr ⟨kX8_change, List.forall_mem_cons.mpr ⟨kX9_change, List.forall_mem_cons.mpr ⟨kX8_invariants, List.forall_mem_cons.mpr ⟨kX9_invariants, List.forall_mem_cons.mpr ⟨kX8_weight, List.forall_mem_cons.mpr ⟨kX9_weight, List.forall_mem_cons.mpr ⟨kX8_sum, List.forall_mem_cons.mpr ⟨kX9_sum, List.forall_mem_cons.mpr ⟨kX8_told, List.forall_mem_cons.mpr ⟨kX9_told, List.forall_mem_cons.mpr ⟨kX8_image, List.forall_mem_cons.mpr ⟨kX9_image, List.forall_mem_cons.mpr ⟨kX8_undo, List.forall_mem_cons.mpr ⟨kX9_undo, fun _ h => absurd h List.not_mem_nil⟩⟩⟩⟩⟩⟩⟩⟩⟩⟩⟩⟩⟩⟩⟩⟩⟩⟩⟩⟩⟩⟩⟩⟩⟩⟩⟩⟩⟩⟩⟩⟩⟩⟩⟩⟩⟩⟩⟩⟩⟩⟩⟩⟩⟩⟩⟩⟩⟩⟩⟩⟩⟩⟩⟩⟩⟩⟩⟩⟩⟩⟩⟩⟩⟩⟩
theorem azCok_11 : ∀ q ∈ azCL.getD 11 [], azTabOK q.2.2.2 = true :=  fun _ h => absurd h List.not_mem_nil
theorem azCok_12 : ∀ q ∈ azCL.getD 12 [], azTabOK q.2.2.2 = true :=  fun _ h => absurd h List.not_mem_nil
theorem azCok_13 : ∀ q ∈ azCL.getD 13 [], azTabOK q.2.2.2 = true := List.forall_mem_cons.mpr ⟨kJ0_coder_7d493, List.forall_mem_cons.mpr ⟨kJ0_isLatin1_aae02, List.forall_mem_cons.mpr ⟨kJ1_charAt_3b067, List.forall_mem_cons.mpr ⟨kJ3_checkIndex_8e157, fun _ h => absurd h List.not_mem_nil⟩⟩⟩⟩
theorem azCok_14 : ∀ q ∈ azCL.getD 14 [], azTabOK q.2.2.2 = true := List.forall_mem_cons.mpr ⟨kJ0_checkIndex_df160, fun _ h => absurd h List.not_mem_nil⟩
theorem azCok_15 : ∀ q ∈ azCL.getD 15 [], azTabOK q.2.2.2 = true := List.forall_mem_cons.mpr ⟨kJ0_checkIndex_df160, fun _ h => absurd h List.not_mem_nil⟩
theorem azCok_16 : ∀ q ∈ azCL.getD 16 [], azTabOK q.2.2.2 = true :=  fun _ h => absurd h List.not_mem_nil
theorem azCok : ∀ c, ∀ q ∈ azCL.getD c [], azTabOK q.2.2.2 = true := fun c => match c with
  | 0 => azCok_0
  | 1 => azCok_1
  | 2 => azCok_2
  | 3 => azCok_3
  | 4 => azCok_4
  | 5 => azCok_5
  | 6 => azCok_6
  | 7 => azCok_7
  | 8 => azCok_8
  | 9 => azCok_9
  | 10 => azCok_10
  | 11 => azCok_11
  | 12 => azCok_12
  | 13 => azCok_13
  | 14 => azCok_14
  | 15 => azCok_15
  | 16 => azCok_16
  | _ + 17 => fun _ h => absurd h List.not_mem_nil
end
section
/-! THE ABSTRACT MACHINE: one step of a method, as a condition (what must hold so that R holds behind it). -/
def azLook : azT → Nat → Option (Instr × Nat)
  | [], _ => none
  | q :: t, pc => bif Nat.beq q.1 pc then some q.2 else azLook t pc
def azUp {α : Type} (f : Nat → Nat → α) (a k : Nat) (v : α) : Nat → Nat → α := fun b j => if b = a then (if j = k then v else f b j) else f b j
/-- texts stand behind this number, the script behind them -/
abbrev azB : Nat := 1000000
-- the operand stack
def zI (st : List Value) (f : Int32 → List Value → Prop) : Prop := match st with | .int x :: r => f x r | _ => False
def zII (st : List Value) (f : Int32 → Int32 → List Value → Prop) : Prop := match st with | .int y :: .int x :: r => f x y r | _ => False
def zL (st : List Value) (f : Int64 → List Value → Prop) : Prop := match st with | .long x :: r => f x r | _ => False
def zLL (st : List Value) (f : Int64 → Int64 → List Value → Prop) : Prop := match st with | .long y :: .long x :: r => f x y r | _ => False
def zR (st : List Value) (f : Nat → List Value → Prop) : Prop := match st with | .ref a :: r => f a r | _ => False
def zRI (st : List Value) (f : Nat → Int32 → List Value → Prop) : Prop := match st with | .int i :: .ref a :: r => f a i r | _ => False
def zRII (st : List Value) (f : Nat → Int32 → Int32 → List Value → Prop) : Prop := match st with | .int x :: .int i :: .ref a :: r => f a i x r | _ => False
def zRIL (st : List Value) (f : Nat → Int32 → Int64 → List Value → Prop) : Prop := match st with | .long x :: .int i :: .ref a :: r => f a i x r | _ => False
def zRL (st : List Value) (f : Nat → Int64 → List Value → Prop) : Prop := match st with | .long x :: .ref a :: r => f a x r | _ => False
def zRR (st : List Value) (f : Nat → Nat → List Value → Prop) : Prop := match st with | .ref b :: .ref a :: r => f a b r | _ => False
/-- a reference or null, by place -/
def zRIO (st : List Value) (f : Nat → Int32 → Nat → List Value → Prop) (g : Nat → Int32 → List Value → Prop) : Prop := match st with
  | .ref b :: .int i :: .ref a :: r => f a i b r
  | .null :: .int i :: .ref a :: r => g a i r
  | _ => False
def zO (st : List Value) (f : Nat → List Value → Prop) (g : List Value → Prop) : Prop := match st with
  | .ref a :: r => f a r
  | .null :: r => g r
  | _ => False
def zV (st : List Value) (f : Value → List Value → Prop) : Prop := match st with | v :: r => f v r | _ => False
def zVV (st : List Value) (f : Value → Value → List Value → Prop) : Prop := match st with | v :: w :: r => f v w r | _ => False
-- guards, locals, answers
def zG (b : Bool) (P : Prop) : Prop := match b with | true => P | false => False
def zOf {α : Type} (o : Option α) (f : α → Prop) : Prop := match o with | some x => f x | none => False
def zOp {α : Type} (o : Option α) (f : α → Prop) (g : Prop) : Prop := match o with | some x => f x | none => g
abbrev azUn : Value := .retAddr 0
def azGl (ls : List Value) (i : Nat) : Value := ls.getD i azUn
def zlI (v : Value) (f : Int32 → Prop) : Prop := match v with | .int x => f x | _ => False
def zlL (v : Value) (f : Int64 → Prop) : Prop := match v with | .long x => f x | _ => False
def zlR (v : Value) (f : Nat → Prop) (g : Prop) : Prop := match v with | .ref x => f x | .null => g | _ => False
def azIs2 (v : Value) : Bool := match v with | .long _ => true | .double _ => true | _ => false
/-- a local of one word may be written: it is there, and no long ends in it -/
def azW1 (ls : List Value) (i : Nat) : Bool := Nat.blt i ls.length && (match i with | 0 => true | j + 1 => !azIs2 (azGl ls j))
def azW2 (ls : List Value) (i : Nat) : Bool := Nat.blt (i + 1) ls.length && (match i with | 0 => true | j + 1 => !azIs2 (azGl ls j))
def azT0 (pc : Nat) (off : Int) : Option Nat := match (pc : Int) + off with | .ofNat n => some n | .negSucc _ => none
def azCmp (c : ClassFile.Cond) (x y : Int32) : Prop := match c with | .eq => x = y | .ne => ¬ x = y | .lt => x < y | .ge => y ≤ x | .gt => y < x | .le => x ≤ y
def azPop : Nat → List Value → List Value → Option (List Value × List Value)
  | 0, st, acc => some (acc, st)
  | n + 1, v :: st, acc => azPop n st (v :: acc)
  | _ + 1, [], _ => none
def azSl : List Value → List Value
  | [] => []
  | v :: t => bif azIs2 v then v :: .retAddr 1 :: azSl t else v :: azSl t
def azEnv (as : List Value) (n : Nat) : List Value := azSl as ++ List.replicate (n - (azSl as).length) azUn
def azCat (st : List Value) : Nat := match st with | [] => 0 | v :: t => (bif azIs2 v then 2 else 1) + azCat t
def kI (v : Option Value) (f : Int32 → Prop) : Prop := match v with | some (.int x) => f x | _ => False
def kL (v : Option Value) (f : Int64 → Prop) : Prop := match v with | some (.long x) => f x | _ => False
def kO (v : Option Value) (f : Nat → Prop) (g : Prop) : Prop := match v with | some (.ref x) => f x | some .null => g | _ => False
/-- what a call answers -/
def zRet (t : Option FieldType) (v : Option Value) (rest : List Value) (f : List Value → Prop) : Prop := match t with
  | none => v = none ∧ f rest
  | some .int | some .boolean | some .byte | some .char => kI v fun x => f (.int x :: rest)
  | some .long => kL v fun x => f (.long x :: rest)
  | some (.object _) => kO v (fun x => f (.ref x :: rest)) (f (.null :: rest))
  | _ => False
def zNil (r : List Value) (P : Prop) : Prop := match r with | [] => P | _ => False
def zRok (t : Option FieldType) (x : Int32) (P : Prop) : Prop := match t with
  | some .int => P
  | some .boolean => (x = 0 ∨ x = 1) ∧ P
  | some .byte => narrow .byte (.int x) = .int x ∧ P
  | some .char => narrow .char (.int x) = .int x ∧ P
  | _ => False
def azLL1 (t : Option FieldType) : Bool := match t with | some .long => true | _ => false
def azOb (t : Option FieldType) : Bool := match t with | some (.object _) => true | _ => false
def azNo (t : Option FieldType) : Bool := match t with | none => true | _ => false
def zSw (x : Int32) (lo : Int) : List Int → (Int → Prop) → Prop
  | [], _ => True
  | o :: t, f => (x.toInt = lo → f o) ∧ zSw x (lo + 1) t f
def zLs (x : Int32) (d : Int) : List (Int × Int) → (Int → Prop) → Prop
  | [], f => f d
  | q :: t, f => (x.toInt = q.1 → f q.2) ∧ (¬ x.toInt = q.1 → zLs x d t f)
def azNew (σ : azS) (k len : Nat) : azS := ((σ.1.1 + 1, σ.1.2.1 + len, fun b => if b = σ.1.1 then (k, len) else σ.1.2.2 b), (fun b j => if b = σ.1.1 then 0 else σ.2.1 b j), (fun b j => if b = σ.1.1 then 0 else σ.2.2.1 b j), fun b j => if b = σ.1.1 then none else σ.2.2.2 b j)
def azKd (σ : azS) (a : Nat) : Nat × Nat := σ.1.2.2 a
def azSI (σ : azS) (a k : Nat) (x : Int32) : azS := (σ.1, azUp σ.2.1 a k x, σ.2.2.1, σ.2.2.2)
def azSJ (σ : azS) (a k : Nat) (x : Int64) : azS := (σ.1, σ.2.1, azUp σ.2.2.1 a k x, σ.2.2.2)
def azSR (σ : azS) (a k : Nat) (x : Option Nat) : azS := (σ.1, σ.2.1, σ.2.2.1, azUp σ.2.2.2 a k x)
def azNarr (t : ArrayType) : Option Nat := match t with | .int => some 10 | .long => some 11 | .boolean => some 12 | _ => none
/-- the receiver of a call -/
def zRv (σ : azS) (k cls : Nat) (as : List Value) (P : Prop) : Prop := bif Nat.beq k 0 then (match as with | .ref b :: _ => (azKd σ b).1 = cls ∧ P | _ => False) else bif Nat.beq k 7 then (match as with | .ref b :: _ => (azKd σ b).1 = 16 ∧ P | _ => False) else bif Nat.beq k 2 then (match as with | .ref _ :: _ => P | _ => False) else P
/-- a call -/
def zCall (Rc Rn : azP) (d : Nat) (M : azM) (pc : Nat) (ls st : List Value) (σ : azS) (Q : azQ) (kinds : Nat → Bool) (idx : Nat) : Prop :=
  zOf (azLk M.2.2.2.2.2.1 azCL idx) fun q => zG (kinds q.1) (match q.1 with
    | 6 => zR st fun _ r => zG (Nat.ble (azCat r) 8 && Nat.ble 1 d) (Rn d M (pc + 3) ls r σ Q)
    | k => zOf (azPop (bif Nat.beq k 1 || Nat.beq k 3 then q.2.1 else q.2.1 + 1) st []) fun w => zRv σ k q.2.2.2.2.2.2.2.1 w.1
        (match d with | 0 => False | d' + 1 => zG (Nat.ble (azCat w.2) 8 && Nat.ble (azSl w.1).length q.2.2.2.2.1) (Rc d' q.2.2 0 (azEnv w.1 q.2.2.2.2.1) [] σ fun v σ1 => zRet q.2.2.2.2.2.1 v w.2 fun st1 => Rn d M (pc + 3) ls st1 σ1 Q)))
def azIJ (σ : azS) (a : Nat) : Prop := (azKd σ a).1 = 10 ∨ (azKd σ a).1 = 15
def azStep (Rc Rn : azP) (d : Nat) (M : azM) (pc : Nat) (ls st : List Value) (σ : azS) (Q : azQ) (i : Instr) : Prop := match i with
  | .iconst n => Rn d M (pc + 1) ls (.int (azC n) :: st) σ Q
  | .bipush n => Rn d M (pc + 2) ls (.int (azC n) :: st) σ Q
  | .sipush n => Rn d M (pc + 3) ls (.int (azC n) :: st) σ Q
  | .lconst n => Rn d M (pc + 1) ls (.long (lN n) :: st) σ Q
  | .ldc k => zOp (azLk M.2.2.2.2.2.1 azDL k) (fun v => Rn d M (pc + 2) ls (.int v :: st) σ Q) (zOf (azLk M.2.2.2.2.2.1 azSL k) fun q => Rn d M (pc + 2) ls (.ref (azB + q.1) :: st) σ Q)
  | .ldc_w k => zOp (azLk M.2.2.2.2.2.1 azDL k) (fun v => Rn d M (pc + 3) ls (.int v :: st) σ Q) (zOf (azLk M.2.2.2.2.2.1 azSL k) fun q => Rn d M (pc + 3) ls (.ref (azB + q.1) :: st) σ Q)
  | .ldc2_w k => zOf (azLk M.2.2.2.2.2.1 azLL k) fun v => Rn d M (pc + 3) ls (.long v :: st) σ Q
  | .aconst_null => Rn d M (pc + 1) ls (.null :: st) σ Q
  | .iload k => zlI (azGl ls k) fun x => Rn d M (pc + 2) ls (.int x :: st) σ Q
  | .iload_n k => zlI (azGl ls k) fun x => Rn d M (pc + 1) ls (.int x :: st) σ Q
  | .lload k => zlL (azGl ls k) fun x => Rn d M (pc + 2) ls (.long x :: st) σ Q
  | .lload_n k => zlL (azGl ls k) fun x => Rn d M (pc + 1) ls (.long x :: st) σ Q
  | .aload k => zlR (azGl ls k) (fun x => Rn d M (pc + 2) ls (.ref x :: st) σ Q) (Rn d M (pc + 2) ls (.null :: st) σ Q)
  | .aload_n k => zlR (azGl ls k) (fun x => Rn d M (pc + 1) ls (.ref x :: st) σ Q) (Rn d M (pc + 1) ls (.null :: st) σ Q)
  | .istore k => zI st fun x r => zG (azW1 ls k) (Rn d M (pc + 2) (ls.set k (.int x)) r σ Q)
  | .istore_n k => zI st fun x r => zG (azW1 ls k) (Rn d M (pc + 1) (ls.set k (.int x)) r σ Q)
  | .lstore k => zL st fun x r => zG (azW2 ls k) (Rn d M (pc + 2) ((ls.set k (.long x)).set (k + 1) (.retAddr 1)) r σ Q)
  | .lstore_n k => zL st fun x r => zG (azW2 ls k) (Rn d M (pc + 1) ((ls.set k (.long x)).set (k + 1) (.retAddr 1)) r σ Q)
  | .astore k => zO st (fun x r => zG (azW1 ls k) (Rn d M (pc + 2) (ls.set k (.ref x)) r σ Q)) (fun r => zG (azW1 ls k) (Rn d M (pc + 2) (ls.set k .null) r σ Q))
  | .astore_n k => zO st (fun x r => zG (azW1 ls k) (Rn d M (pc + 1) (ls.set k (.ref x)) r σ Q)) (fun r => zG (azW1 ls k) (Rn d M (pc + 1) (ls.set k .null) r σ Q))
  | .iinc k n => zlI (azGl ls k) fun x => zG (azW1 ls k) (Rn d M (pc + 3) (ls.set k (.int (x + azC n))) st σ Q)
  | .iadd => zII st fun x y r => Rn d M (pc + 1) ls (.int (x + y) :: r) σ Q
  | .isub => zII st fun x y r => Rn d M (pc + 1) ls (.int (x - y) :: r) σ Q
  | .imul => zII st fun x y r => Rn d M (pc + 1) ls (.int (x * y) :: r) σ Q
  | .iand => zII st fun x y r => Rn d M (pc + 1) ls (.int (x &&& y) :: r) σ Q
  | .ior => zII st fun x y r => Rn d M (pc + 1) ls (.int (x ||| y) :: r) σ Q
  | .ixor => zII st fun x y r => Rn d M (pc + 1) ls (.int (x ^^^ y) :: r) σ Q
  | .ishl => zII st fun x y r => Rn d M (pc + 1) ls (.int (x <<< (y &&& 31)) :: r) σ Q
  | .ishr => zII st fun x y r => Rn d M (pc + 1) ls (.int (x >>> (y &&& 31)) :: r) σ Q
  | .iushr => zII st fun x y r => Rn d M (pc + 1) ls (.int (x.toUInt32 >>> (y.toUInt32 &&& Int32.toUInt32 31)).toInt32 :: r) σ Q
  | .idiv => zII st fun x y r => ¬ y = 0 ∧ Rn d M (pc + 1) ls (.int (x / y) :: r) σ Q
  | .irem => zII st fun x y r => ¬ y = 0 ∧ Rn d M (pc + 1) ls (.int (x - x / y * y) :: r) σ Q
  | .ladd => zLL st fun x y r => Rn d M (pc + 1) ls (.long (x + y) :: r) σ Q
  | .lsub => zLL st fun x y r => Rn d M (pc + 1) ls (.long (x - y) :: r) σ Q
  | .lmul => zLL st fun x y r => Rn d M (pc + 1) ls (.long (x * y) :: r) σ Q
  | .ldiv => zLL st fun x y r => ¬ y = 0 ∧ Rn d M (pc + 1) ls (.long (x / y) :: r) σ Q
  | .lrem => zLL st fun x y r => ¬ y = 0 ∧ Rn d M (pc + 1) ls (.long (x - x / y * y) :: r) σ Q
  | .lneg => zL st fun x r => Rn d M (pc + 1) ls (.long (-x) :: r) σ Q
  | .lcmp => zLL st fun x y r => Rn d M (pc + 1) ls (.int (lg_cmp x y) :: r) σ Q
  | .i2l => zI st fun x r => Rn d M (pc + 1) ls (.long x.toInt64 :: r) σ Q
  | .l2i => zL st fun x r => Rn d M (pc + 1) ls (.int x.toInt32 :: r) σ Q
  | .dup => zV st fun v r => zG (!azIs2 v) (Rn d M (pc + 1) ls (v :: v :: r) σ Q)
  | .dup2 => zVV st fun v w r => zG (!azIs2 v && !azIs2 w) (Rn d M (pc + 1) ls (v :: w :: v :: w :: r) σ Q)
  | .pop => zV st fun v r => zG (!azIs2 v) (Rn d M (pc + 1) ls r σ Q)
  | .if_icmp c o => zII st fun x y r => zOf (azT0 pc o) fun t => (azCmp c x y → Rn d M t ls r σ Q) ∧ (¬ azCmp c x y → Rn d M (pc + 3) ls r σ Q)
  | .ifCond c o => zI st fun x r => zOf (azT0 pc o) fun t => (azCmp c x 0 → Rn d M t ls r σ Q) ∧ (¬ azCmp c x 0 → Rn d M (pc + 3) ls r σ Q)
  | .ifnull o => zO st (fun _ r => Rn d M (pc + 3) ls r σ Q) (fun r => zOf (azT0 pc o) fun t => Rn d M t ls r σ Q)
  | .ifnonnull o => zO st (fun _ r => zOf (azT0 pc o) fun t => Rn d M t ls r σ Q) (fun r => Rn d M (pc + 3) ls r σ Q)
  | .goto o => zOf (azT0 pc o) fun t => Rn d M t ls st σ Q
  | .tableswitch df lo hi os => zI st fun x r => (x.toInt < lo ∨ hi < x.toInt → zOf (azT0 pc df) fun t => Rn d M t ls r σ Q) ∧ zSw x lo os.toList fun o => zOf (azT0 pc o) fun t => Rn d M t ls r σ Q
  | .lookupswitch df ps => zI st fun x r => zLs x df ps.toList fun o => zOf (azT0 pc o) fun t => Rn d M t ls r σ Q
  | .getfield k => zOp (azLk M.2.2.2.2.2.1 azFL k) (fun q => zR st fun a r => (azKd σ a).1 = q.1 ∧ (match q.2.2.1 with
      | 0 => Rn d M (pc + 3) ls (.int (σ.2.1 a q.2.1) :: r) σ Q
      | 1 => Rn d M (pc + 3) ls (.long (σ.2.2.1 a q.2.1) :: r) σ Q
      | 2 => Rn d M (pc + 3) ls (.int (σ.2.1 a q.2.1) :: r) σ Q
      | _ => zOf (σ.2.2.2 a q.2.1) fun b => Rn d M (pc + 3) ls (.ref b :: r) σ Q))
      (zOf (azLk M.2.2.2.2.2.1 azXL k) fun j => zR st fun a r => (azKd σ a).1 = 16 ∧ (match j with | 0 => Rn d M (pc + 3) ls (.ref (a + 20) :: r) σ Q | _ => Rn d M (pc + 3) ls (.int (nI 0) :: r) σ Q))
  | .getstatic k => zOf (azLk M.2.2.2.2.2.1 azTL k) fun j => (match j with | 0 => Rn d M (pc + 3) ls (.int (nI 1) :: st) σ Q | _ => Rn d M (pc + 3) ls (.null :: st) σ Q ∧ Rn d M (pc + 3) ls (.ref (azB + 30) :: st) σ Q)
  | .i2c => zI st fun x r => Rn d M (pc + 1) ls (.int (x.toUInt32 % 65536).toInt32 :: r) σ Q
  | .putfield k => zOf (azLk M.2.2.2.2.2.1 azFL k) fun q => zG (!q.2.2.2.1 || (M.2.2.2.2.1 && Nat.beq q.1 M.2.2.2.2.2.1)) (match q.2.2.1 with
      | 0 => zRI st fun a x r => (azKd σ a).1 = q.1 ∧ Rn d M (pc + 3) ls r (azSI σ a q.2.1 x) Q
      | 1 => zRL st fun a x r => (azKd σ a).1 = q.1 ∧ Rn d M (pc + 3) ls r (azSJ σ a q.2.1 x) Q
      | 2 => zRI st fun a x r => (azKd σ a).1 = q.1 ∧ (x = 0 ∨ x = 1) ∧ Rn d M (pc + 3) ls r (azSI σ a q.2.1 x) Q
      | _ => zRR st fun a b r => (azKd σ a).1 = q.1 ∧ Rn d M (pc + 3) ls r (azSR σ a q.2.1 (some b)) Q)
  | .arraylength => zR st fun a r => ((10 ≤ (azKd σ a).1 ∧ (azKd σ a).1 ≤ 15) ∨ (azKd σ a).1 = 17) ∧ Rn d M (pc + 1) ls (.int (nI (azKd σ a).2) :: r) σ Q
  | .iaload => zRI st fun a i r => azIJ σ a ∧ vp_in i (azKd σ a).2 ∧ Rn d M (pc + 1) ls (.int (σ.2.1 a i.toNatClampNeg) :: r) σ Q
  | .baload => zRI st fun a i r => ((azKd σ a).1 = 12 ∨ (azKd σ a).1 = 17) ∧ vp_in i (azKd σ a).2 ∧ Rn d M (pc + 1) ls (.int (σ.2.1 a i.toNatClampNeg) :: r) σ Q
  | .laload => zRI st fun a i r => (azKd σ a).1 = 11 ∧ vp_in i (azKd σ a).2 ∧ Rn d M (pc + 1) ls (.long (σ.2.2.1 a i.toNatClampNeg) :: r) σ Q
  | .aaload => zRI st fun a i r => ((azKd σ a).1 = 13 ∨ (azKd σ a).1 = 14) ∧ vp_in i (azKd σ a).2 ∧ zOp (σ.2.2.2 a i.toNatClampNeg) (fun b => Rn d M (pc + 1) ls (.ref b :: r) σ Q) (Rn d M (pc + 1) ls (.null :: r) σ Q)
  | .iastore => zRII st fun a i x r => (azKd σ a).1 = 10 ∧ vp_in i (azKd σ a).2 ∧ Rn d M (pc + 1) ls r (azSI σ a i.toNatClampNeg x) Q
  | .bastore => zRII st fun a i x r => (azKd σ a).1 = 12 ∧ vp_in i (azKd σ a).2 ∧ (x = 0 ∨ x = 1) ∧ Rn d M (pc + 1) ls r (azSI σ a i.toNatClampNeg x) Q
  | .lastore => zRIL st fun a i x r => (azKd σ a).1 = 11 ∧ vp_in i (azKd σ a).2 ∧ Rn d M (pc + 1) ls r (azSJ σ a i.toNatClampNeg x) Q
  | .aastore => zRIO st (fun a i b r => (((azKd σ a).1 = 13 ∧ (azKd σ b).1 = 3) ∨ ((azKd σ a).1 = 14 ∧ (azKd σ b).1 = 5)) ∧ vp_in i (azKd σ a).2 ∧ Rn d M (pc + 1) ls r (azSR σ a i.toNatClampNeg (some b)) Q)
      (fun a i r => ((azKd σ a).1 = 13 ∨ (azKd σ a).1 = 14) ∧ vp_in i (azKd σ a).2 ∧ Rn d M (pc + 1) ls r (azSR σ a i.toNatClampNeg none) Q)
  | .new k => zOf (azLk M.2.2.2.2.2.1 azNL k) fun q => Rn d M (pc + 3) ls (.ref σ.1.1 :: st) (azNew σ q.1 q.2) Q
  | .newarray t => zI st fun n r => zOf (azNarr t) fun k => ¬ n < 0 ∧ n.toNatClampNeg ≤ 10000 ∧ Rn d M (pc + 2) ls (.ref σ.1.1 :: r) (azNew σ k n.toNatClampNeg) Q
  | .anewarray k => zI st fun n r => zOf (azLk M.2.2.2.2.2.1 azAL k) fun q => ¬ n < 0 ∧ n.toNatClampNeg ≤ 10000 ∧ Rn d M (pc + 3) ls (.ref σ.1.1 :: r) (azNew σ q n.toNatClampNeg) Q
  | .invokevirtual k => zCall Rc Rn d M pc ls st σ Q (fun n => Nat.beq n 0 || Nat.beq n 7) k
  | .invokestatic k => zCall Rc Rn d M pc ls st σ Q (fun n => Nat.beq n 1 || Nat.beq n 3) k
  | .invokespecial k => zCall Rc Rn d M pc ls st σ Q (fun n => Nat.beq n 2 || Nat.beq n 6) k
  | .ireturn => zI st fun x r => zNil r (zRok M.2.2.2.1 x (Q (some (.int x)) σ))
  | .lreturn => zL st fun x r => zNil r (zG (azLL1 M.2.2.2.1) (Q (some (.long x)) σ))
  | .areturn => zO st (fun a r => zNil r (zG (azOb M.2.2.2.1) (Q (some (.ref a)) σ))) (fun r => zNil r (zG (azOb M.2.2.2.1) (Q (some .null) σ)))
  | .return_ => zNil st (zG (azNo M.2.2.2.1) (Q none σ))
  | _ => False
def azPre (Rc Rn : azP) : azP := fun d M pc ls st σ Q => zOf (azLook M.2.2.2.2.2.2 pc) fun q => azStep Rc Rn d M pc ls st σ Q q.1
def azClosed (R : azP) : Prop := (∀ d M pc ls st σ Q, azPre R R d M pc ls st σ Q → R d M pc ls st σ Q) ∧ ∀ d M pc ls st σ Q Q', (∀ v σ1, Q v σ1 → Q' v σ1) → R d M pc ls st σ Q → R d M pc ls st σ Q'

-- what follows from less follows from more
theorem zI_mono {st : List Value} {f g : Int32 → List Value → Prop} (h : ∀ x r, f x r → g x r) : zI st f → zI st g := by
  unfold zI; split <;> first | exact h _ _ | exact id
theorem zII_mono {st : List Value} {f g : Int32 → Int32 → List Value → Prop} (h : ∀ x y r, f x y r → g x y r) : zII st f → zII st g := by
  unfold zII; split <;> first | exact h _ _ _ | exact id
theorem zL_mono {st : List Value} {f g : Int64 → List Value → Prop} (h : ∀ x r, f x r → g x r) : zL st f → zL st g := by
  unfold zL; split <;> first | exact h _ _ | exact id
theorem zLL_mono {st : List Value} {f g : Int64 → Int64 → List Value → Prop} (h : ∀ x y r, f x y r → g x y r) : zLL st f → zLL st g := by
  unfold zLL; split <;> first | exact h _ _ _ | exact id
theorem zR_mono {st : List Value} {f g : Nat → List Value → Prop} (h : ∀ x r, f x r → g x r) : zR st f → zR st g := by
  unfold zR; split <;> first | exact h _ _ | exact id
theorem zRI_mono {st : List Value} {f g : Nat → Int32 → List Value → Prop} (h : ∀ x y r, f x y r → g x y r) : zRI st f → zRI st g := by
  unfold zRI; split <;> first | exact h _ _ _ | exact id
theorem zRII_mono {st : List Value} {f g : Nat → Int32 → Int32 → List Value → Prop} (h : ∀ x y z r, f x y z r → g x y z r) : zRII st f → zRII st g := by
  unfold zRII; split <;> first | exact h _ _ _ _ | exact id
theorem zRIL_mono {st : List Value} {f g : Nat → Int32 → Int64 → List Value → Prop} (h : ∀ x y z r, f x y z r → g x y z r) : zRIL st f → zRIL st g := by
  unfold zRIL; split <;> first | exact h _ _ _ _ | exact id
theorem zRL_mono {st : List Value} {f g : Nat → Int64 → List Value → Prop} (h : ∀ x y r, f x y r → g x y r) : zRL st f → zRL st g := by
  unfold zRL; split <;> first | exact h _ _ _ | exact id
theorem zRR_mono {st : List Value} {f g : Nat → Nat → List Value → Prop} (h : ∀ x y r, f x y r → g x y r) : zRR st f → zRR st g := by
  unfold zRR; split <;> first | exact h _ _ _ | exact id
theorem zRIO_mono {st : List Value} {f f' : Nat → Int32 → Nat → List Value → Prop} {g g' : Nat → Int32 → List Value → Prop} (h : ∀ x y z r, f x y z r → f' x y z r) (h2 : ∀ x y r, g x y r → g' x y r) : zRIO st f g → zRIO st f' g' := by
  unfold zRIO; split <;> first | exact h _ _ _ _ | exact h2 _ _ _ | exact id
theorem zO_mono {st : List Value} {f f' : Nat → List Value → Prop} {g g' : List Value → Prop} (h : ∀ x r, f x r → f' x r) (h2 : ∀ r, g r → g' r) : zO st f g → zO st f' g' := by
  unfold zO; split <;> first | exact h _ _ | exact h2 _ | exact id
theorem zV_mono {st : List Value} {f g : Value → List Value → Prop} (h : ∀ x r, f x r → g x r) : zV st f → zV st g := by
  unfold zV; split <;> first | exact h _ _ | exact id
theorem zVV_mono {st : List Value} {f g : Value → Value → List Value → Prop} (h : ∀ x y r, f x y r → g x y r) : zVV st f → zVV st g := by
  unfold zVV; split <;> first | exact h _ _ _ | exact id
theorem zG_mono {b : Bool} {P P' : Prop} (h : P → P') : zG b P → zG b P' := by
  unfold zG; split <;> first | exact h | exact id
theorem zOf_mono {α : Type} {o : Option α} {f g : α → Prop} (h : ∀ x, f x → g x) : zOf o f → zOf o g := by
  unfold zOf; split <;> first | exact h _ | exact id
theorem zOp_mono {α : Type} {o : Option α} {f f' : α → Prop} {g g' : Prop} (h : ∀ x, f x → f' x) (h2 : g → g') : zOp o f g → zOp o f' g' := by
  unfold zOp; split <;> first | exact h _ | exact h2
theorem zlI_mono {v : Value} {f g : Int32 → Prop} (h : ∀ x, f x → g x) : zlI v f → zlI v g := by
  unfold zlI; split <;> first | exact h _ | exact id
theorem zlL_mono {v : Value} {f g : Int64 → Prop} (h : ∀ x, f x → g x) : zlL v f → zlL v g := by
  unfold zlL; split <;> first | exact h _ | exact id
theorem zlR_mono {v : Value} {f f' : Nat → Prop} {g g' : Prop} (h : ∀ x, f x → f' x) (h2 : g → g') : zlR v f g → zlR v f' g' := by
  unfold zlR; split <;> first | exact h _ | exact h2 | exact id
theorem kI_mono {v : Option Value} {f g : Int32 → Prop} (h : ∀ x, f x → g x) : kI v f → kI v g := by
  unfold kI; split <;> first | exact h _ | exact id
theorem kL_mono {v : Option Value} {f g : Int64 → Prop} (h : ∀ x, f x → g x) : kL v f → kL v g := by
  unfold kL; split <;> first | exact h _ | exact id
theorem kO_mono {v : Option Value} {f f' : Nat → Prop} {g g' : Prop} (h : ∀ x, f x → f' x) (h2 : g → g') : kO v f g → kO v f' g' := by
  unfold kO; split <;> first | exact h _ | exact h2 | exact id
theorem zNil_mono {r : List Value} {P P' : Prop} (h : P → P') : zNil r P → zNil r P' := by
  unfold zNil; split <;> first | exact h | exact id
theorem zRet_mono {t : Option FieldType} {v : Option Value} {rest : List Value} {f g : List Value → Prop} (h : ∀ x, f x → g x) : zRet t v rest f → zRet t v rest g := by
  unfold zRet
  split
  · exact fun q => ⟨q.1, h _ q.2⟩
  all_goals first | exact kI_mono fun _ => h _ | exact kL_mono fun _ => h _ | exact kO_mono (fun _ => h _) (h _) | exact id
theorem zRv_mono {σ : azS} {k cls : Nat} {as : List Value} {P P' : Prop} (h : P → P') : zRv σ k cls as P → zRv σ k cls as P' := by
  unfold zRv
  cases Nat.beq k 0 with
  | true => exact (by
      show (match as with | .ref b :: _ => (azKd σ b).1 = cls ∧ P | _ => False) → (match as with | .ref b :: _ => (azKd σ b).1 = cls ∧ P' | _ => False)
      split <;> first | exact fun q => ⟨q.1, h q.2⟩ | exact id)
  | false =>
    cases Nat.beq k 7 with
    | true => exact (by
        show (match as with | .ref b :: _ => (azKd σ b).1 = 16 ∧ P | _ => False) → (match as with | .ref b :: _ => (azKd σ b).1 = 16 ∧ P' | _ => False)
        split <;> first | exact fun q => ⟨q.1, h q.2⟩ | exact id)
    | false =>
      cases Nat.beq k 2 with
      | true => exact (by
          show (match as with | .ref _ :: _ => P | _ => False) → (match as with | .ref _ :: _ => P' | _ => False)
          split <;> first | exact h | exact id)
      | false => exact h
theorem zSw_mono {x : Int32} {f g : Int → Prop} (h : ∀ x, f x → g x) : ∀ (l : List Int) (lo : Int), zSw x lo l f → zSw x lo l g
  | [], _, _ => trivial
  | _ :: t, lo, q => ⟨fun c => h _ (q.1 c), zSw_mono h t (lo + 1) q.2⟩
theorem zLs_mono {x : Int32} {d : Int} {f g : Int → Prop} (h : ∀ x, f x → g x) : ∀ (l : List (Int × Int)), zLs x d l f → zLs x d l g
  | [], q => h _ q
  | _ :: t, q => ⟨fun c => h _ (q.1 c), fun c => zLs_mono h t (q.2 c)⟩
theorem zCall_mono {R Rn Rn' : azP} (hQ : ∀ d M pc ls st σ Q Q', (∀ v σ1, Q v σ1 → Q' v σ1) → R d M pc ls st σ Q → R d M pc ls st σ Q') (h : ∀ d M pc ls st σ Q, Rn d M pc ls st σ Q → Rn' d M pc ls st σ Q) (d : Nat) (M : azM) (pc : Nat) (ls st : List Value) (σ : azS) (Q : azQ) (kinds : Nat → Bool) (idx : Nat) : zCall R Rn d M pc ls st σ Q kinds idx → zCall R Rn' d M pc ls st σ Q kinds idx := by
  unfold zCall
  refine zOf_mono fun q => zG_mono fun H => ?_
  revert H
  split
  · exact zR_mono fun _ _ H => zG_mono (h _ _ _ _ _ _ _) H
  · refine zOf_mono fun w => zRv_mono fun H => ?_
    cases d with
    | zero => exact H
    | succ d => exact zG_mono (hQ _ _ _ _ _ _ _ _ fun v σ1 H => zRet_mono (fun _ H => h _ _ _ _ _ _ _ H) H) H
set_option maxHeartbeats 4000000 in
theorem azStep_mono {R Rn Rn' : azP} (hQ : ∀ d M pc ls st σ Q Q', (∀ v σ1, Q v σ1 → Q' v σ1) → R d M pc ls st σ Q → R d M pc ls st σ Q') (h : ∀ d M pc ls st σ Q, Rn d M pc ls st σ Q → Rn' d M pc ls st σ Q) (d : Nat) (M : azM) (pc : Nat) (ls st : List Value) (σ : azS) (Q : azQ) (i : Instr) : azStep R Rn d M pc ls st σ Q i → azStep R Rn' d M pc ls st σ Q i := by
  intro H
  cases i
  all_goals first
    | exact H.elim
    | exact h _ _ _ _ _ _ _ H
    | exact zII_mono (fun _ _ _ H => h _ _ _ _ _ _ _ H) H
    | exact zII_mono (fun _ _ _ H => ⟨H.1, h _ _ _ _ _ _ _ H.2⟩) H
    | exact zLL_mono (fun _ _ _ H => h _ _ _ _ _ _ _ H) H
    | exact zLL_mono (fun _ _ _ H => ⟨H.1, h _ _ _ _ _ _ _ H.2⟩) H
    | exact zL_mono (fun _ _ H => h _ _ _ _ _ _ _ H) H
    | exact zI_mono (fun _ _ H => h _ _ _ _ _ _ _ H) H
    | exact zI_mono (fun _ _ H => zG_mono (h _ _ _ _ _ _ _) H) H
    | exact zL_mono (fun _ _ H => zG_mono (h _ _ _ _ _ _ _) H) H
    | exact zlI_mono (fun _ H => h _ _ _ _ _ _ _ H) H
    | exact zlL_mono (fun _ H => h _ _ _ _ _ _ _ H) H
    | exact zlR_mono (fun _ H => h _ _ _ _ _ _ _ H) (h _ _ _ _ _ _ _) H
    | exact zO_mono (fun _ _ H => zG_mono (h _ _ _ _ _ _ _) H) (fun _ H => zG_mono (h _ _ _ _ _ _ _) H) H
    | exact zlI_mono (fun _ H => zG_mono (h _ _ _ _ _ _ _) H) H
    | exact zOp_mono (fun _ H => h _ _ _ _ _ _ _ H) (zOf_mono fun _ H => h _ _ _ _ _ _ _ H) H
    | exact zOf_mono (fun _ H => h _ _ _ _ _ _ _ H) H
    | exact zV_mono (fun _ _ H => zG_mono (h _ _ _ _ _ _ _) H) H
    | exact zVV_mono (fun _ _ _ H => zG_mono (h _ _ _ _ _ _ _) H) H
    | exact zII_mono (fun _ _ _ H => zOf_mono (fun _ H => ⟨fun c => h _ _ _ _ _ _ _ (H.1 c), fun c => h _ _ _ _ _ _ _ (H.2 c)⟩) H) H
    | exact zI_mono (fun _ _ H => zOf_mono (fun _ H => ⟨fun c => h _ _ _ _ _ _ _ (H.1 c), fun c => h _ _ _ _ _ _ _ (H.2 c)⟩) H) H
    | exact zO_mono (fun _ _ H => h _ _ _ _ _ _ _ H) (fun _ H => zOf_mono (fun _ H => h _ _ _ _ _ _ _ H) H) H
    | exact zO_mono (fun _ _ H => zOf_mono (fun _ H => h _ _ _ _ _ _ _ H) H) (fun _ H => h _ _ _ _ _ _ _ H) H
    | exact zI_mono (fun _ _ H => ⟨fun c => zOf_mono (fun _ H => h _ _ _ _ _ _ _ H) (H.1 c), zSw_mono (fun _ H => zOf_mono (fun _ H => h _ _ _ _ _ _ _ H) H) _ _ H.2⟩) H
    | exact zI_mono (fun _ _ H => zLs_mono (fun _ H => zOf_mono (fun _ H => h _ _ _ _ _ _ _ H) H) _ H) H
    | exact zR_mono (fun _ _ H => ⟨H.1, h _ _ _ _ _ _ _ H.2⟩) H
    | exact zRI_mono (fun _ _ _ H => ⟨H.1, H.2.1, h _ _ _ _ _ _ _ H.2.2⟩) H
    | exact zRII_mono (fun _ _ _ _ H => ⟨H.1, H.2.1, h _ _ _ _ _ _ _ H.2.2⟩) H
    | exact zRII_mono (fun _ _ _ _ H => ⟨H.1, H.2.1, H.2.2.1, h _ _ _ _ _ _ _ H.2.2.2⟩) H
    | exact zRIL_mono (fun _ _ _ _ H => ⟨H.1, H.2.1, h _ _ _ _ _ _ _ H.2.2⟩) H
    | exact zRI_mono (fun _ _ _ H => ⟨H.1, H.2.1, zOp_mono (fun _ H => h _ _ _ _ _ _ _ H) (h _ _ _ _ _ _ _) H.2.2⟩) H
    | exact zRIO_mono (fun _ _ _ _ H => ⟨H.1, H.2.1, h _ _ _ _ _ _ _ H.2.2⟩) (fun _ _ _ H => ⟨H.1, H.2.1, h _ _ _ _ _ _ _ H.2.2⟩) H
    | exact zI_mono (fun _ _ H => zOf_mono (fun _ H => ⟨H.1, H.2.1, h _ _ _ _ _ _ _ H.2.2⟩) H) H
    | exact zCall_mono hQ h d M pc ls st σ Q (fun n => Nat.beq n 0 || Nat.beq n 7) _ H
    | exact zCall_mono hQ h d M pc ls st σ Q (fun n => Nat.beq n 1 || Nat.beq n 3) _ H
    | exact zCall_mono hQ h d M pc ls st σ Q (fun n => Nat.beq n 2 || Nat.beq n 6) _ H
    | exact H
    | skip
  · refine zOp_mono (fun q H => zR_mono (fun a r H => ⟨H.1, ?_⟩) H) (fun H => zOf_mono (fun q H => zR_mono (fun a r H => ⟨H.1, ?_⟩) H) H) H
    · have H := H.2
      revert H
      split <;> first | exact h _ _ _ _ _ _ _ | exact zOf_mono fun _ H => h _ _ _ _ _ _ _ H
    · have H := H.2
      revert H
      split <;> exact h _ _ _ _ _ _ _
  · refine zOf_mono (fun q H => ?_) H
    revert H
    split
    · exact h _ _ _ _ _ _ _
    · exact fun H => ⟨h _ _ _ _ _ _ _ H.1, h _ _ _ _ _ _ _ H.2⟩
  · refine zOf_mono (fun q H => zG_mono (fun H => ?_) H) H
    revert H
    split
    · exact zRI_mono fun _ _ _ H => ⟨H.1, h _ _ _ _ _ _ _ H.2⟩
    · exact zRL_mono fun _ _ _ H => ⟨H.1, h _ _ _ _ _ _ _ H.2⟩
    · exact zRI_mono fun _ _ _ H => ⟨H.1, H.2.1, h _ _ _ _ _ _ _ H.2.2⟩
    · exact zRR_mono fun _ _ _ H => ⟨H.1, h _ _ _ _ _ _ _ H.2⟩
theorem azPre_mono {R Rn Rn' : azP} (hQ : ∀ d M pc ls st σ Q Q', (∀ v σ1, Q v σ1 → Q' v σ1) → R d M pc ls st σ Q → R d M pc ls st σ Q') (h : ∀ d M pc ls st σ Q, Rn d M pc ls st σ Q → Rn' d M pc ls st σ Q) (d : Nat) (M : azM) (pc : Nat) (ls st : List Value) (σ : azS) (Q : azQ) : azPre R Rn d M pc ls st σ Q → azPre R Rn' d M pc ls st σ Q :=
  zOf_mono fun q => azStep_mono hQ h d M pc ls st σ Q q.1
def azRun (R : azP) (stops : List Nat) : Nat → azP
  | 0 => R
  | n + 1 => fun d M pc ls st σ Q => bif stops.any (fun k => Nat.beq k pc) then R d M pc ls st σ Q else azPre R (azRun R stops n) d M pc ls st σ Q
theorem azRun_ok {R : azP} (hR : azClosed R) (stops : List Nat) : ∀ n d M pc ls st σ Q, azRun R stops n d M pc ls st σ Q → R d M pc ls st σ Q
  | 0, _, _, _, _, _, _, _, H => H
  | n + 1, d, M, pc, ls, st, σ, Q, H => by
    unfold azRun at H
    revert H
    cases stops.any (fun k => Nat.beq k pc) with
    | true => exact id
    | false => exact fun H => hR.1 _ _ _ _ _ _ _ (azPre_mono hR.2 (azRun_ok hR stops n) _ _ _ _ _ _ _ H)
/-- n instructions at most, up to one of the stops -/
theorem azClosed.go {R : azP} (hR : azClosed R) (stops : List Nat) (n : Nat) {d : Nat} {M : azM} {pc : Nat} {ls st : List Value} {σ : azS} {Q : azQ} (H : azPre R (azRun R stops n) d M pc ls st σ Q) : R d M pc ls st σ Q :=
  hR.1 _ _ _ _ _ _ _ (azPre_mono hR.2 (azRun_ok hR stops n) _ _ _ _ _ _ _ H)
theorem azClosed.more {R : azP} (hR : azClosed R) {d : Nat} {M : azM} {pc : Nat} {ls st : List Value} {σ : azS} {Q Q' : azQ} (h : ∀ v σ1, Q v σ1 → Q' v σ1) (H : R d M pc ls st σ Q) : R d M pc ls st σ Q' := hR.2 _ _ _ _ _ _ _ _ h H
end
section
/-! THE REAL MACHINE BEHIND THE ABSTRACT ONE: what a state of the one is in the other's heap. -/
abbrev azG : Type := (Nat × Heap × Nat × Nat × (Nat → Int32)) × ((Nat → Nat) × (Nat → Nat)) × (Nat → ClassId) × (Nat → Nat → Nat) × (Nat → ClassId)
def gB (G : azG) : Nat := G.1.1
def gH (G : azG) : Heap := G.1.2.1
def gS (G : azG) : Nat := G.1.2.2.1
def gL (G : azG) : Nat := G.1.2.2.2.1
def gX (G : azG) : Nat → Int32 := G.1.2.2.2.2
def gT (G : azG) : Nat → Nat := G.2.1.1
def gV (G : azG) : Nat → Nat := G.2.1.2
def gD (G : azG) : va_G := (G.2.2.1, G.2.2.2.1)
def gA (G : azG) : Nat → ClassId := G.2.2.2.2
def azTx : List (List Int32) := [[105, 110], [105, 102], [111, 117, 116], [101, 109, 112, 116, 121]]
def azTl : List Nat := [2, 2, 3, 5]
def zA (G : azG) (a : Nat) : Nat := if a < azB then gB G + a else if a = azB + 10 then gS G else if a < azB + 10 then gT G (a - azB) else gV G (a - azB - 20)
def zVal (G : azG) (v : Value) : Value := match v with
  | .ref a => .ref (zA G a)
  | .int x => .int x
  | .long x => .long x
  | .null => .null
  | .float x => .float x
  | .double x => .double x
  | .retAddr x => .retAddr x
def azTy (ci : Nat) : Nat → FieldType := match ci with
  | 0 => tyX0 | 1 => tyX1 | 2 => tyX2 | 3 => tyX3 | 4 => tyX4 | 5 => tyX5 | 6 => tyX6 | 7 => tyX7 | 8 => tyX8 | _ => tyX9
def azNf (ci : Nat) : Nat := match ci with
  | 0 => 4 | 1 => 3 | 2 => 4 | 3 => 2 | 4 => 4 | 5 => 14 | 6 => 6 | 7 => 8 | 8 => 12 | _ => 47
def zFv (G : azG) (σ : azS) (a : Nat) (t : FieldType) (j : Nat) : Value := match t with
  | .int => .int (σ.2.1 a j)
  | .boolean => .int (σ.2.1 a j)
  | .long => .long (σ.2.2.1 a j)
  | _ => va_rf ((σ.2.2.2 a j).map (zA G))
def zFs (G : azG) (σ : azS) (a ci : Nat) : List Value := (List.range (azNf ci)).map fun j => zFv G σ a (azTy ci j) j
def zRow (G : azG) (σ : azS) (a : Nat) : Nat → Option Nat := fun j => (σ.2.2.2 a j).map (zA G)
def zCell (G : azG) (σ : azS) (a : Nat) : va_E := match (azKd σ a).1 with
  | 10 => .inl (gA G 10, (azKd σ a).2, .inl (σ.2.1 a))
  | 11 => .inl (gA G 11, (azKd σ a).2, .inr (.inl (σ.2.2.1 a)))
  | 12 => .inl (gA G 12, (azKd σ a).2, .inl (σ.2.1 a))
  | 13 => .inl (gA G 13, (azKd σ a).2, .inr (.inr (.inr (.inr (zRow G σ a)))))
  | 14 => .inl (gA G 14, (azKd σ a).2, .inr (.inr (.inr (.inr (zRow G σ a)))))
  | k => .inr (k, zFs G σ a k)
/-- the cells that are not made by the run: texts and script -/
def zOld (G : azG) (σ : azS) : Prop := (∀ a, (azKd σ a).1 < 15 → a < σ.1.1) ∧ (∀ a, (azKd σ a).1 = 15 → a = azB + 10 ∧ (azKd σ a).2 = gL G ∧ σ.2.1 a = gX G) ∧ (∀ a, (azKd σ a).1 = 16 → ∃ j, j < 4 ∧ a = azB + j) ∧ ∀ a, (azKd σ a).1 = 17 → ∃ j, j < 4 ∧ a = azB + 20 + j ∧ (azKd σ a).2 = azTl.getD j 0 ∧ ∀ k, k < azTl.getD j 0 → σ.2.1 a k = (azTx.getD j []).getD k 0
def zRel (G : azG) (σ : azS) (H : Heap) : Prop := H.size = gB G + σ.1.1 ∧ (∀ a, a < σ.1.1 → (azKd σ a).1 < 15 ∧ va_at (gD G) vwCl (gB G + a, zCell G σ a) H) ∧ zOld G σ ∧ ∀ q, q < gB G → H[q]? = (gH G)[q]?
def zTys (G : azG) : List (ClassId × FieldType) := [(gA G 10, .int), (gA G 11, .long), (gA G 12, .boolean), (gA G 13, .object RX3), (gA G 14, .object RX5)]
/-- what the tables say, of any state of the run -/
def zK (G : azG) (U : State) : Prop := va_K (gD G) vwCl (zTys G) U ∧ (∀ w ∈ azXf ++ azXc, va_Nw w U) ∧ (va_AO RX3 U ∧ va_AO RX5 U) ∧ (∀ q ∈ azSL.getD 8 [], vk_R RX8 q.1 q.2.2 (gT G q.2.1) U) ∧ (va_X (gS G) (gL G) (gX G) U (gH G) ∧ gS G < gB G) ∧ vk_S 4 azTl azTx (gT G) (gV G) (fun q => gB G ≤ q) U (gH G) ∧ (gH G).size = gB G ∧ va_Z "java/lang/String" "COMPACT_STRINGS" "Z" (.int 1) (fun q => gB G ≤ q) U (gH G) ∧ ((gV G 11 = 0 ∧ va_Z "jdk/internal/util/Preconditions" "SIOOBE_FORMATTER" "Ljava/util/function/BiFunction;" .null (fun q => gB G ≤ q) U (gH G)) ∨ (gV G 11 ≠ 0 ∧ va_Z "jdk/internal/util/Preconditions" "SIOOBE_FORMATTER" "Ljava/util/function/BiFunction;" (.ref (gV G 10)) (fun q => gB G ≤ q) U (gH G)))
def zLv (G : azG) (ls : List Value) (ls' : Array Slot) : Prop := ls'.size = ls.length ∧ lv_wf ls' ∧ ∀ (i : Nat) (v : Value), ls[i]? = some v → (∀ n : Nat, v ≠ .retAddr n) → ls'[i]? = some (.val (zVal G v))
def zCtx (p : Program) (s : State) (m : MethodId) (args : Array Value) (meth : Method) (c : Code) (M : azM) : Prop :=
  p.tables.exec = Jvm.exec ∧ c.code = M.2.1 ∧ meth.sig.returnType = M.2.2.2.1 ∧ c.maxLocals = M.2.2.1 ∧ s.vm.findClass (azN M.2.2.2.2.2.1) = some m.cls ∧ (∀ w ∈ azWords, w.before args s = true) ∧ meth.locks = false ∧ (M.2.2.2.2.1 = true → meth.name = "<init>") ∧ azTabOK M = true
def zQ (G : azG) (v : Option Value) (σ : azS) : Array Value → State → Outcome → State → Prop := fun _ _ o t => o = .returned (v.map (zVal G)) ∧ zRel G σ t.heap
def zRuns (G : azG) (l : Launch) (d : Nat) (M : azM) (pc : Nat) (ls st : List Value) (σ : azS) (v : Option Value) (σ' : azS) : Prop :=
  σ.1.1 ≤ σ'.1.1 ∧ σ.1.2.1 ≤ σ'.1.2.1 ∧ (σ'.1.1 < azB → ls.length = M.2.2.1 → ∀ (p : Program) (e : Env) (R : Room) (s : State) (m : MethodId) (args : Array Value) (below : List Frame) (meth : Method) (c : Code) (H : Heap) (locs : List Loc) (cells slots : Nat) (ls' : Array Slot),
    zCtx p s m args meth c M → zK G s → zRel G σ H → zLv G ls ls' → (∀ q ∈ locs, gB G ≤ q.base) → cells + (σ'.1.1 - σ.1.1) ≤ R.cells → slots + (σ'.1.2.1 - σ.1.2.1) ≤ R.slots → d ≤ R.frames → 40 * d ≤ R.locals →
    W p l e R s m args below meth c H locs cells slots (MQ below (zQ G v σ') args s (cells + (σ'.1.1 - σ.1.1)) (slots + (σ'.1.2.1 - σ.1.2.1)) (fun q => gB G ≤ q)) (F0 m pc ls' (st.map (zVal G))))
def zReal (G : azG) (l : Launch) : azP := fun d M pc ls st σ Q => azTabOK M = true → ∃ v σ', Q v σ' ∧ zRuns G l d M pc ls st σ v σ'
-- the tables' rows
theorem azLook_mem : ∀ (t : azT) (pc : Nat) (q : Instr × Nat), azLook t pc = some q → (pc, q) ∈ t
  | [], _, _, h => by simp [azLook] at h
  | x :: t, pc, q, h => by
    unfold azLook at h
    cases hb : Nat.beq x.1 pc with
    | true =>
      rw [hb] at h
      have e1 : x.1 = pc := Nat.eq_of_beq_eq_true hb
      have e2 : x.2 = q := Option.some.inj h
      rw [← e1, ← e2]
      exact List.mem_cons_self
    | false =>
      rw [hb] at h
      exact List.mem_cons_of_mem _ (azLook_mem t pc q h)
theorem azLook_dec {M : azM} (hM : azTabOK M = true) {pc : Nat} {q : Instr × Nat} (h : azLook M.2.2.2.2.2.2 pc = some q) : decode M.2.1 pc = .ok q ∧ azLen q = true := by
  unfold azTabOK at hM
  rw [Bool.and_eq_true] at hM
  have h1 := List.all_eq_true.mp hM.2 _ (azLook_mem _ _ _ h)
  rw [Bool.and_eq_true, decide_eq_true_eq] at h1
  exact h1
theorem azLk_mem {α : Type} {c : Nat} {L : List (List (Nat × α))} {k : Nat} {x : α} (h : azLk c L k = some x) : (k, x) ∈ L.getD c [] := by
  unfold azLk at h
  cases hf : (L.getD c []).find? (fun q => Nat.beq q.1 k) with
  | none => rw [hf] at h; cases h
  | some q =>
    rw [hf] at h
    have e1 : q.1 = k := Nat.eq_of_beq_eq_true (by simpa using List.find?_some hf)
    have e2 : q.2 = x := Option.some.inj h
    rw [← e1, ← e2]
    exact List.mem_of_find?_eq_some hf
theorem azGetD_lt {α : Type} {L : List (List α)} {c : Nat} {q : α} (h : q ∈ L.getD c []) : c < L.length := by
  rcases Nat.lt_or_ge c L.length with g | g
  · exact g
  · rw [List.getD_eq_getElem?_getD, List.getElem?_eq_none g] at h
    exact absurd h List.not_mem_nil
theorem azLays_in : ∀ w ∈ azLays, w ∈ azWords := fun _ h => List.mem_append_right _ (List.mem_append_right _ (List.mem_append_right _ (List.mem_append_right _ (List.mem_append_right _ (List.mem_append_right _ (List.mem_append_right _ (List.mem_append_left _ h)))))))
theorem azWf_w : ∀ w ∈ azWf, w ∈ azWords := fun _ h => List.mem_append_left _ h
theorem azWn_w : ∀ w ∈ azWn, w ∈ azWords := fun _ h => List.mem_append_right _ (List.mem_append_left _ h)
theorem azWa_w : ∀ w ∈ azWa, w ∈ azWords := fun _ h => List.mem_append_right _ (List.mem_append_right _ (List.mem_append_left _ h))
theorem azWd_w : ∀ w ∈ azWd, w ∈ azWords := fun _ h => List.mem_append_right _ (List.mem_append_right _ (List.mem_append_right _ (List.mem_append_left _ h)))
theorem azWl_w : ∀ w ∈ azWl, w ∈ azWords := fun _ h => List.mem_append_right _ (List.mem_append_right _ (List.mem_append_right _ (List.mem_append_right _ (List.mem_append_left _ h))))
theorem azWx_w : ∀ w ∈ azWx, w ∈ azWords := fun _ h => List.mem_append_right _ (List.mem_append_right _ (List.mem_append_right _ (List.mem_append_right _ (List.mem_append_right _ (List.mem_append_left _ h)))))
theorem azWt_w : ∀ w ∈ azWt, w ∈ azWords := fun _ h => List.mem_append_right _ (List.mem_append_right _ (List.mem_append_right _ (List.mem_append_right _ (List.mem_append_right _ (List.mem_append_right _ (List.mem_append_left _ h))))))
theorem azWr_w : ∀ w ∈ azWr, w ∈ azWords := fun _ h => List.mem_append_right _ (List.mem_append_right _ (List.mem_append_right _ (List.mem_append_right _ (List.mem_append_right _ (List.mem_append_right _ (List.mem_append_right _ (List.mem_append_right _ (List.mem_append_left _ h))))))))
theorem azWc_w : ∀ w ∈ azWc, w ∈ azWords := fun _ h => List.mem_append_right _ (List.mem_append_right _ (List.mem_append_right _ (List.mem_append_right _ (List.mem_append_right _ (List.mem_append_right _ (List.mem_append_right _ (List.mem_append_right _ (List.mem_append_right _ h))))))))
/-- a class by its number -/
theorem azCls : ∀ ci, ci < 10 → ∃ (C : String) (T : u_T), vwCl[ci]? = some (C, T, azNf ci) ∧ C = azN ci ∧ (∀ w ∈ u_ws C T (azNf ci), w ∈ azWords) ∧ (∀ k, k < azNf ci → parseFieldDescriptor (T k).2.2.1 = some (azTy ci k)) ∧ (∀ a, a < azNf ci → ∀ b, b < azNf ci → a ≠ b → (T a).2.1 ≠ (T b).2.1) ∧ ∀ k, k < azNf ci → (T k).1 = C
  | 0, _ => ⟨RX0, TX0, rfl, rfl, fun w h => azLays_in w (List.mem_append_left _ h), tyX0_ok, nmX0, by decide +kernel⟩
  | 1, _ => ⟨RX1, TX1, rfl, rfl, fun w h => azLays_in w (List.mem_append_right _ (List.mem_append_left _ h)), tyX1_ok, nmX1, by decide +kernel⟩
  | 2, _ => ⟨RX2, TX2, rfl, rfl, fun w h => azLays_in w (List.mem_append_right _ (List.mem_append_right _ (List.mem_append_left _ h))), tyX2_ok, nmX2, by decide +kernel⟩
  | 3, _ => ⟨RX3, TX3, rfl, rfl, fun w h => azLays_in w (List.mem_append_right _ (List.mem_append_right _ (List.mem_append_right _ (List.mem_append_left _ h)))), tyX3_ok, nmX3, by decide +kernel⟩
  | 4, _ => ⟨RX4, TX4, rfl, rfl, fun w h => azLays_in w (List.mem_append_right _ (List.mem_append_right _ (List.mem_append_right _ (List.mem_append_right _ (List.mem_append_left _ h))))), tyX4_ok, nmX4, by decide +kernel⟩
  | 5, _ => ⟨RX5, TX5, rfl, rfl, fun w h => azLays_in w (List.mem_append_right _ (List.mem_append_right _ (List.mem_append_right _ (List.mem_append_right _ (List.mem_append_right _ (List.mem_append_left _ h)))))), tyX5_ok, nmX5, by decide +kernel⟩
  | 6, _ => ⟨RX6, TX6, rfl, rfl, fun w h => azLays_in w (List.mem_append_right _ (List.mem_append_right _ (List.mem_append_right _ (List.mem_append_right _ (List.mem_append_right _ (List.mem_append_right _ (List.mem_append_left _ h))))))), tyX6_ok, nmX6, by decide +kernel⟩
  | 7, _ => ⟨RX7, TX7, rfl, rfl, fun w h => azLays_in w (List.mem_append_right _ (List.mem_append_right _ (List.mem_append_right _ (List.mem_append_right _ (List.mem_append_right _ (List.mem_append_right _ (List.mem_append_right _ (List.mem_append_left _ h)))))))), tyX7_ok, nmX7, by decide +kernel⟩
  | 8, _ => ⟨RX8, TX8, rfl, rfl, fun w h => azLays_in w (List.mem_append_right _ (List.mem_append_right _ (List.mem_append_right _ (List.mem_append_right _ (List.mem_append_right _ (List.mem_append_right _ (List.mem_append_right _ (List.mem_append_right _ (List.mem_append_left _ h))))))))), tyX8_ok, nmX8, by decide +kernel⟩
  | 9, _ => ⟨RX9, TX9, rfl, rfl, fun w h => azLays_in w (List.mem_append_right _ (List.mem_append_right _ (List.mem_append_right _ (List.mem_append_right _ (List.mem_append_right _ (List.mem_append_right _ (List.mem_append_right _ (List.mem_append_right _ (List.mem_append_right _ h))))))))), tyX9_ok, nmX9, by decide +kernel⟩
  | n + 10, h => absurd h (by omega)
/-- what a row of the fields' table says -/
def azFc (t : FieldType) : Nat := match t with
  | .int => 0
  | .long => 1
  | .boolean => 2
  | _ => 3
def azFok (q : azF) : Bool := Nat.blt q.2.1 10 && Nat.blt q.2.2.1 (azNf q.2.1) && Nat.beq (azFc (azTy q.2.1 q.2.2.1)) q.2.2.2.1 && (match vwCl[q.2.1]? with | some r => (r.2.1 q.2.2.1).2.2.2 == q.2.2.2.2.1 | none => false)
theorem azFok_all : azFL.all (fun l => l.all azFok) = true := by decide +kernel
theorem azFok_of {c : Nat} {q : azF} (h : q ∈ azFL.getD c []) : azFok q = true := by
  have hl := azGetD_lt h
  rw [List.getD_eq_getElem?_getD, List.getElem?_eq_getElem hl] at h
  exact List.all_eq_true.mp (List.all_eq_true.mp azFok_all _ (List.getElem_mem hl)) _ h
-- states that are alike
theorem azX_shape : ∀ w ∈ azXf ++ azXc, (∃ a i b n d h, w = .fieldLinkNest a i b n d h) ∨ ∃ a i x h, w = .methodLinkNest a i x h := by
  intro w hw
  rcases List.mem_append.mp hw with h | h
  · obtain ⟨c, -, h⟩ := List.mem_flatMap.mp h
    obtain ⟨q, -, h⟩ := List.mem_flatMap.mp h
    unfold azFx at h
    split at h
    · exact Or.inl ⟨_, _, _, _, _, _, List.mem_singleton.mp h⟩
    · exact absurd h List.not_mem_nil
  · obtain ⟨c, -, h⟩ := List.mem_flatMap.mp h
    obtain ⟨q, -, h⟩ := List.mem_flatMap.mp h
    unfold azCx at h
    split at h
    · exact Or.inr ⟨_, _, _, _, List.mem_singleton.mp h⟩
    · exact absurd h List.not_mem_nil
theorem zK.warm {G : azG} {s U : State} (hW : s.WarmedH U.vm) (h : zK G s) : zK G U := by
  obtain ⟨h1, h2, h3, h4, h5, h6, h7, h8, h9⟩ := h
  refine ⟨va_K.moved hW.alike h1, fun w hw => ?_, ⟨va_AO.moved hW.alike h3.1, va_AO.moved hW.alike h3.2⟩, fun q hq => vk_R.warm hW (h4 q hq), ⟨va_X.moved hW.alike h5.1, h5.2⟩, vk_S.moved hW.alike h6, h7, h8.moved hW.alike, h9.elim (fun h => Or.inl ⟨h.1, h.2.moved hW.alike⟩) (fun h => Or.inr ⟨h.1, h.2.moved hW.alike⟩)⟩
  have hz := h2 w hw
  rcases azX_shape w hw with ⟨a, i, b, n, d, hh, rfl⟩ | ⟨a, i, x, hh, rfl⟩
  · exact va_Nw.warmF hW hz
  · exact va_Nw.warmM hW hz
theorem zK.same {G : azG} {s U : State} (hW : s.vm = U.vm) (h : zK G s) : zK G U := by
  obtain ⟨h1, h2, h3, h4, h5, h6, h7, h8, h9⟩ := h
  have ha : s.vm.Alike U.vm := by rw [hW]; exact Vm.Alike.refl _
  refine ⟨va_K.moved ha h1, fun w hw => ?_, ⟨va_AO.moved ha h3.1, va_AO.moved ha h3.2⟩, fun q hq => vk_R.same hW.symm (h4 q hq), ⟨va_X.moved ha h5.1, h5.2⟩, vk_S.moved ha h6, h7, h8.moved ha, h9.elim (fun h => Or.inl ⟨h.1, h.2.moved ha⟩) (fun h => Or.inr ⟨h.1, h.2.moved ha⟩)⟩
  have hz := h2 w hw
  rcases azX_shape w hw with ⟨a, i, b, n, d, hh, rfl⟩ | ⟨a, i, x, hh, rfl⟩
  · exact va_Nw.same rfl hW hz
  · exact va_Nw.same rfl hW hz
-- cells
theorem zA_lt {G : azG} {a : Nat} (h : a < azB) : zA G a = gB G + a := if_pos h
theorem zRel.at {G : azG} {σ : azS} {H : Heap} (h : zRel G σ H) {a : Nat} (hk : (azKd σ a).1 < 15) : va_P (gD G) vwCl [(gB G + a, zCell G σ a)] H := by
  intro k q hq
  have h1 := (h.2.1 a (h.2.2.1.1 a hk)).2
  cases k with
  | zero => cases hq; exact h1
  | succ k => cases hq
/-- one cell is written -/
theorem zRel.put {G : azG} {σ σ2 : azS} {H H1 : Heap} (h : zRel G σ H) {a : Nat} (ha : (azKd σ a).1 < 15) (hs : σ2.1 = σ.1) (hc : ∀ b, b ≠ a → zCell G σ2 b = zCell G σ b) (hI : ∀ b, b ≠ a → σ2.2.1 b = σ.2.1 b) (hat : va_at (gD G) vwCl (gB G + a, zCell G σ2 a) H1) (hz : H1.size = H.size) (ho : ∀ q : Nat, q ≠ gB G + a → H1[q]? = H[q]?) : zRel G σ2 H1 := by
  obtain ⟨h1, h2, h3, h4⟩ := h
  have hkd : ∀ b, azKd σ2 b = azKd σ b := fun b => by unfold azKd; rw [hs]
  have hne : ∀ b, 15 ≤ (azKd σ b).1 → b ≠ a := fun b hb e => by subst e; omega
  refine ⟨by rw [hz, hs]; exact h1, fun b hb => ?_, ⟨fun b hb => ?_, fun b hb => ?_, fun b hb => ?_, fun b hb => ?_⟩, fun q hq => ?_⟩
  · rw [hs] at hb
    rw [hkd]
    refine ⟨(h2 b hb).1, ?_⟩
    by_cases e : b = a
    · subst e; exact hat
    · rw [hc b e]
      exact va_at.kept (h2 b hb).2 (ho _ (by show gB G + b ≠ gB G + a; omega))
  · rw [hkd] at hb; rw [hs]; exact h3.1 b hb
  · rw [hkd] at hb ⊢
    rw [hI b (hne b (by omega))]
    exact h3.2.1 b hb
  · rw [hkd] at hb
    exact h3.2.2.1 b hb
  · rw [hkd] at hb ⊢
    rw [hI b (hne b (by omega))]
    exact h3.2.2.2 b hb
  · rw [ho q (by omega)]
    exact h4 q hq
theorem azUp_ne {α : Type} (f : Nat → Nat → α) {a b : Nat} (k : Nat) (v : α) (h : b ≠ a) : azUp f a k v b = f b := by
  funext j
  simp [azUp, h]
theorem azUp_eq {α : Type} (f : Nat → Nat → α) (a k : Nat) (v : α) : azUp f a k v a = fun j => if j = k then v else f a j := by
  funext j
  simp [azUp]
theorem zCell_congr {G : azG} {σ σ2 : azS} {b : Nat} (hk : azKd σ2 b = azKd σ b) (hI : σ2.2.1 b = σ.2.1 b) (hJ : σ2.2.2.1 b = σ.2.2.1 b) (hR : σ2.2.2.2 b = σ.2.2.2 b) : zCell G σ2 b = zCell G σ b := by
  have hr : zRow G σ2 b = zRow G σ b := by funext j; unfold zRow; rw [hR]
  have hf : ∀ ci, zFs G σ2 b ci = zFs G σ b ci := by
    intro ci
    unfold zFs
    congr 1
    funext j
    unfold zFv
    split <;> simp only [hI, hJ, hR]
  unfold zCell
  rw [hk]
  split <;> simp only [hI, hJ, hr, hf]
/-- one cell is made -/
theorem zRel.push {G : azG} {σ : azS} {H H1 : Heap} (h : zRel G σ H) {k len : Nat} (hn : σ.1.1 + 1 < azB) (hk : k < 15) (hat : va_at (gD G) vwCl (gB G + σ.1.1, zCell G (azNew σ k len) σ.1.1) H1) (hz : H1.size = H.size + 1) (ho : ∀ q : Nat, q < H.size → H1[q]? = H[q]?) : zRel G (azNew σ k len) H1 := by
  obtain ⟨h1, h2, h3, h4⟩ := h
  have hkd : ∀ b, b ≠ σ.1.1 → azKd (azNew σ k len) b = azKd σ b := fun b hb => by simp [azKd, azNew, hb]
  have hke : azKd (azNew σ k len) σ.1.1 = (k, len) := by simp [azKd, azNew]
  have hc : ∀ b, b ≠ σ.1.1 → zCell G (azNew σ k len) b = zCell G σ b := fun b hb => zCell_congr (hkd b hb) (by funext j; simp [azNew, hb]) (by funext j; simp [azNew, hb]) (by funext j; simp [azNew, hb])
  refine ⟨by rw [hz, h1]; rfl, fun b hb => ?_, ⟨fun b hb => ?_, fun b hb => ?_, fun b hb => ?_, fun b hb => ?_⟩, fun q hq => ?_⟩
  · by_cases e : b = σ.1.1
    · subst e
      rw [hke]
      exact ⟨hk, hat⟩
    · have hb2 : b < σ.1.1 := by
        have : b < σ.1.1 + 1 := hb
        omega
      rw [hkd b e, hc b e]
      exact ⟨(h2 b hb2).1, va_at.kept (h2 b hb2).2 (ho _ (by show gB G + b < H.size; omega))⟩
  · show b < σ.1.1 + 1
    by_cases e : b = σ.1.1
    · omega
    · rw [hkd b e] at hb
      have := h3.1 b hb
      omega
  · by_cases e : b = σ.1.1
    · subst e
      rw [hke] at hb
      exact absurd hb (by omega)
    · rw [hkd b e] at hb ⊢
      have hI : (azNew σ k len).2.1 b = σ.2.1 b := by funext j; simp [azNew, e]
      rw [hI]
      exact h3.2.1 b hb
  · by_cases e : b = σ.1.1
    · subst e
      rw [hke] at hb
      exact absurd hb (by omega)
    · rw [hkd b e] at hb
      exact h3.2.2.1 b hb
  · by_cases e : b = σ.1.1
    · subst e
      rw [hke] at hb
      exact absurd hb (by omega)
    · rw [hkd b e] at hb ⊢
      have hI : (azNew σ k len).2.1 b = σ.2.1 b := by funext j; simp [azNew, e]
      rw [hI]
      exact h3.2.2.2 b hb
  · rw [ho q (by omega)]
    exact h4 q hq
-- locals
def zLl (G : azG) (ls : List Value) : List (Nat × Value) := (List.range ls.length).filterMap fun i => match azGl ls i with
  | .retAddr _ => none
  | v => some (i, zVal G v)
theorem azGl_of {ls : List Value} {i : Nat} {v : Value} (h : ls[i]? = some v) : azGl ls i = v := by
  unfold azGl
  rw [List.getD_eq_getElem?_getD, h]
  rfl
theorem azGl_get {ls : List Value} {i : Nat} (h : azGl ls i ≠ azUn) : ls[i]? = some (azGl ls i) := by
  unfold azGl at h ⊢
  rw [List.getD_eq_getElem?_getD] at h ⊢
  cases hh : ls[i]? with
  | none => rw [hh] at h; exact absurd rfl h
  | some v => rfl
theorem zLl_mem {G : azG} {ls : List Value} {i : Nat} {w : Value} : (i, w) ∈ zLl G ls ↔ ∃ v, ls[i]? = some v ∧ (∀ n, v ≠ .retAddr n) ∧ w = zVal G v := by
  unfold zLl
  rw [List.mem_filterMap]
  constructor
  · rintro ⟨j, hj, h⟩
    have hl := List.mem_range.mp hj
    have hg : ls[j]? = some (azGl ls j) := by
      unfold azGl
      rw [List.getD_eq_getElem?_getD, List.getElem?_eq_getElem hl]
      rfl
    revert h
    split
    · intro h; cases h
    · rename_i hne
      intro h
      have e := Option.some.inj h
      obtain ⟨rfl, rfl⟩ := Prod.mk.inj e
      exact ⟨_, hg, fun n e => hne n e, rfl⟩
  · rintro ⟨v, hv, hn, rfl⟩
    refine ⟨i, List.mem_range.mpr ((List.getElem?_eq_some_iff.mp hv).1), ?_⟩
    rw [azGl_of hv]
    cases v <;> first | exact absurd rfl (hn _) | rfl
theorem zLv.has {G : azG} {ls : List Value} {ls' : Array Slot} (h : zLv G ls ls') : lv_has ls' ls.length (zLl G ls) := by
  refine ⟨h.1, h.2.1, ?_⟩
  rintro ⟨i, w⟩ hq
  obtain ⟨v, h1, h2, rfl⟩ := zLl_mem.mp hq
  exact h.2.2 i v h1 h2
theorem zLv.at {G : azG} {ls : List Value} {ls' : Array Slot} (h : zLv G ls ls') {i : Nat} {v : Value} (hv : azGl ls i = v) (hn : ∀ n, v ≠ .retAddr n) : ls'[i]? = some (.val (zVal G v)) := by
  subst hv
  exact h.2.2 i _ (azGl_get (hn 0)) hn
theorem azIs2_cat (G : azG) (v : Value) : (zVal G v).category = bif azIs2 v then 2 else 1 := by cases v <;> rfl
/-- a local of one word is written -/
theorem zLv.set1 {G : azG} {ls : List Value} {ls' : Array Slot} {i nL : Nat} {v : Value} (hn : nL = ls.length) (hw : azW1 ls i = true) (hv : azIs2 v = false) (h : lv_has ls' nL ((i, zVal G v) :: (zLl G ls).filter (fun q => !(q.1 == i) && !(q.1 + 1 == i && q.2.category == 2)))) : zLv G (ls.set i v) ls' := by
  unfold azW1 at hw
  rw [Bool.and_eq_true] at hw
  have hi : i < ls.length := Nat.blt_eq.mp hw.1
  refine ⟨by rw [h.1, List.length_set, hn], h.2.1, fun k x hx hr => ?_⟩
  by_cases e : k = i
  · subst e
    rw [List.getElem?_set_self hi] at hx
    obtain rfl := Option.some.inj hx
    exact h.2.2 _ List.mem_cons_self
  · rw [List.getElem?_set_ne (fun q => e q.symm)] at hx
    refine h.2.2 (k, zVal G x) (List.mem_cons_of_mem _ (List.mem_filter.mpr ⟨zLl_mem.mpr ⟨x, hx, hr, rfl⟩, ?_⟩))
    have h2 := hw.2
    have : ¬ (k + 1 = i ∧ (zVal G x).category = 2) := by
      rintro ⟨rfl, h3⟩
      have h2 : (!azIs2 (azGl ls k)) = true := h2
      rw [azGl_of hx] at h2
      rw [azIs2_cat] at h3
      cases hz : azIs2 x <;> simp_all
    simp only [Bool.and_eq_true, Bool.not_eq_true', beq_eq_false_iff_ne, ne_eq, Bool.and_eq_false_iff]
    refine ⟨e, ?_⟩
    by_cases h4 : k + 1 = i
    · right
      exact fun h5 => this ⟨h4, h5⟩
    · left
      exact h4
theorem zLv.set2 {G : azG} {ls : List Value} {ls' : Array Slot} {i nL : Nat} {x : Int64} (hn : nL = ls.length) (hw : azW2 ls i = true) (h : lv_has ls' nL ((i, Value.long x) :: (zLl G ls).filter (fun q => !(q.1 == i) && (!(q.1 == i + 1) && !(q.1 + 1 == i && q.2.category == 2))))) : zLv G ((ls.set i (.long x)).set (i + 1) (.retAddr 1)) ls' := by
  unfold azW2 at hw
  rw [Bool.and_eq_true] at hw
  have hi : i + 1 < ls.length := Nat.blt_eq.mp hw.1
  refine ⟨by rw [h.1, List.length_set, List.length_set, hn], h.2.1, fun k v hx hr => ?_⟩
  by_cases e1 : k = i + 1
  · subst e1
    rw [List.getElem?_set_self (by rw [List.length_set]; exact hi)] at hx
    obtain rfl := Option.some.inj hx
    exact absurd rfl (hr 1)
  rw [List.getElem?_set_ne (fun q => e1 q.symm)] at hx
  by_cases e : k = i
  · subst e
    rw [List.getElem?_set_self (by omega)] at hx
    obtain rfl := Option.some.inj hx
    exact h.2.2 _ List.mem_cons_self
  · rw [List.getElem?_set_ne (fun q => e q.symm)] at hx
    refine h.2.2 (k, zVal G v) (List.mem_cons_of_mem _ (List.mem_filter.mpr ⟨zLl_mem.mpr ⟨v, hx, hr, rfl⟩, ?_⟩))
    have h2 := hw.2
    have : ¬ (k + 1 = i ∧ (zVal G v).category = 2) := by
      rintro ⟨rfl, h3⟩
      have h2 : (!azIs2 (azGl ls k)) = true := h2
      rw [azGl_of hx] at h2
      rw [azIs2_cat] at h3
      cases hz : azIs2 v <;> simp_all
    simp only [Bool.and_eq_true, Bool.not_eq_true', beq_eq_false_iff_ne, ne_eq, Bool.and_eq_false_iff]
    refine ⟨e, e1, ?_⟩
    by_cases h4 : k + 1 = i
    · right
      exact fun h5 => this ⟨h4, h5⟩
    · left
      exact h4
end
section
/-! SOUNDNESS: what runs on the abstract machine runs on the real one. -/
/-- one instruction: what stands behind it may have other locals, other cells, more cells -/
theorem az_go {G : azG} {l : Launch} {d : Nat} {M : azM} {pc : Nat} {ls st : List Value} {σ : azS} {Q : azQ} {pc2 : Nat} {ls2 st2 : List Value} {σ2 : azS} (hn : σ.1.1 ≤ σ2.1.1) (hz : σ.1.2.1 ≤ σ2.1.2.1) (hlen : ls2.length = ls.length)
    (h : ∀ {p : Program} {e : Env} {R : Room} {s : State} {m : MethodId} {args : Array Value} {below : List Frame} {meth : Method} {c : Code} {H : Heap} {locs : List Loc} {cells slots : Nat} {ls' : Array Slot} {Qw : State → Prop},
      zCtx p s m args meth c M → zK G s → zRel G σ H → zLv G ls ls' → (∀ q ∈ locs, gB G ≤ q.base) → σ2.1.1 < azB → ls.length = M.2.2.1 → cells + (σ2.1.1 - σ.1.1) ≤ R.cells → slots + (σ2.1.2.1 - σ.1.2.1) ≤ R.slots → d ≤ R.frames → 40 * d ≤ R.locals →
      (∀ (H1 : Heap) (locs1 : List Loc) (ls1 : Array Slot), zRel G σ2 H1 → zLv G ls2 ls1 → (∀ q ∈ locs1, gB G ≤ q.base) → W p l e R s m args below meth c H1 locs1 (cells + (σ2.1.1 - σ.1.1)) (slots + (σ2.1.2.1 - σ.1.2.1)) Qw (F0 m pc2 ls1 (st2.map (zVal G)))) →
      W p l e R s m args below meth c H locs cells slots Qw (F0 m pc ls' (st.map (zVal G)))) :
    zReal G l d M pc2 ls2 st2 σ2 Q → zReal G l d M pc ls st σ Q := by
  intro h0 hM
  obtain ⟨v, σ', hQ, h1, h2, K⟩ := h0 hM
  refine ⟨v, σ', hQ, Nat.le_trans hn h1, Nat.le_trans hz h2, fun hb hL p e R s m args below meth c H locs cells slots ls' hC hK hR hl hlocs hc hs hd hdl => ?_⟩
  refine h hC hK hR hl hlocs (by omega) hL (by omega) (by omega) hd hdl (fun H1 locs1 ls1 hR1 hl1 hlo1 => ?_)
  have e1 : cells + (σ'.1.1 - σ.1.1) = cells + (σ2.1.1 - σ.1.1) + (σ'.1.1 - σ2.1.1) := by omega
  have e2 : slots + (σ'.1.2.1 - σ.1.2.1) = slots + (σ2.1.2.1 - σ.1.2.1) + (σ'.1.2.1 - σ2.1.2.1) := by omega
  rw [e1, e2]
  exact K hb (by rw [hlen]; exact hL) p e R s m args below meth c H1 locs1 _ _ ls1 hC hK hR1 hl1 hlo1 (by omega) (by omega) hd hdl
/-- cells and locals stay -/
theorem az_pure {G : azG} {l : Launch} {d : Nat} {M : azM} {pc : Nat} {ls st : List Value} {σ : azS} {Q : azQ} {pc2 : Nat} {st2 : List Value}
    (h : ∀ {p : Program} {e : Env} {R : Room} {s : State} {m : MethodId} {args : Array Value} {below : List Frame} {meth : Method} {c : Code} {H : Heap} {locs : List Loc} {cells slots : Nat} {ls' : Array Slot} {Qw : State → Prop},
      zCtx p s m args meth c M → zK G s → zRel G σ H → zLv G ls ls' → σ.1.1 < azB → W p l e R s m args below meth c H locs cells slots Qw (F0 m pc2 ls' (st2.map (zVal G))) →
      W p l e R s m args below meth c H locs cells slots Qw (F0 m pc ls' (st.map (zVal G)))) :
    zReal G l d M pc2 ls st2 σ Q → zReal G l d M pc ls st σ Q :=
  az_go (Nat.le_refl _) (Nat.le_refl _) rfl (fun hC hK hR hl hlo hb _ _ _ _ _ k => h hC hK hR hl hb (by have k1 := k _ _ _ hR hl hlo; simpa using k1))
/-- cells stay -/
theorem az_loc {G : azG} {l : Launch} {d : Nat} {M : azM} {pc : Nat} {ls st : List Value} {σ : azS} {Q : azQ} {pc2 : Nat} {ls2 st2 : List Value} (hlen : ls2.length = ls.length)
    (h : ∀ {p : Program} {e : Env} {R : Room} {s : State} {m : MethodId} {args : Array Value} {below : List Frame} {meth : Method} {c : Code} {H : Heap} {locs : List Loc} {cells slots : Nat} {ls' : Array Slot} {Qw : State → Prop},
      zCtx p s m args meth c M → zLv G ls ls' → (∀ ls1, zLv G ls2 ls1 → W p l e R s m args below meth c H locs cells slots Qw (F0 m pc2 ls1 (st2.map (zVal G)))) →
      W p l e R s m args below meth c H locs cells slots Qw (F0 m pc ls' (st.map (zVal G)))) :
    zReal G l d M pc2 ls2 st2 σ Q → zReal G l d M pc ls st σ Q :=
  az_go (Nat.le_refl _) (Nat.le_refl _) hlen (fun hC hK hR hl hlo hb _ _ _ _ _ k => h hC hl (fun ls1 hl1 => by have k1 := k _ _ _ hR hl1 hlo; simpa using k1))
/-- locals stay, no cell is made -/
theorem az_wr {G : azG} {l : Launch} {d : Nat} {M : azM} {pc : Nat} {ls st : List Value} {σ : azS} {Q : azQ} {pc2 : Nat} {st2 : List Value} {σ2 : azS} (hs : σ2.1 = σ.1)
    (h : ∀ {p : Program} {e : Env} {R : Room} {s : State} {m : MethodId} {args : Array Value} {below : List Frame} {meth : Method} {c : Code} {H : Heap} {locs : List Loc} {cells slots : Nat} {ls' : Array Slot} {Qw : State → Prop},
      zCtx p s m args meth c M → zK G s → zRel G σ H → (∀ q ∈ locs, gB G ≤ q.base) → σ.1.1 < azB → (∀ (H1 : Heap) (locs1 : List Loc), zRel G σ2 H1 → (∀ q ∈ locs1, gB G ≤ q.base) → W p l e R s m args below meth c H1 locs1 cells slots Qw (F0 m pc2 ls' (st2.map (zVal G)))) →
      W p l e R s m args below meth c H locs cells slots Qw (F0 m pc ls' (st.map (zVal G)))) :
    zReal G l d M pc2 ls st2 σ2 Q → zReal G l d M pc ls st σ Q :=
  az_go (by rw [hs]; exact Nat.le_refl _) (by rw [hs]; exact Nat.le_refl _) rfl (fun hC hK hR hl hlo hb _ _ _ _ _ k => h hC hK hR hlo (by rw [← hs]; exact hb) (fun H1 locs1 hR1 hlo1 => by have k1 := k H1 locs1 _ hR1 hl hlo1; rw [hs] at k1; simpa using k1))
-- what stands on the stack
theorem zI_of {st : List Value} {f : Int32 → List Value → Prop} (h : zI st f) : ∃ x r, st = .int x :: r ∧ f x r := by
  unfold zI at h; split at h <;> first | exact ⟨_, _, rfl, h⟩ | exact h.elim
theorem zII_of {st : List Value} {f : Int32 → Int32 → List Value → Prop} (h : zII st f) : ∃ x y r, st = .int y :: .int x :: r ∧ f x y r := by
  unfold zII at h; split at h <;> first | exact ⟨_, _, _, rfl, h⟩ | exact h.elim
theorem zL_of {st : List Value} {f : Int64 → List Value → Prop} (h : zL st f) : ∃ x r, st = .long x :: r ∧ f x r := by
  unfold zL at h; split at h <;> first | exact ⟨_, _, rfl, h⟩ | exact h.elim
theorem zLL_of {st : List Value} {f : Int64 → Int64 → List Value → Prop} (h : zLL st f) : ∃ x y r, st = .long y :: .long x :: r ∧ f x y r := by
  unfold zLL at h; split at h <;> first | exact ⟨_, _, _, rfl, h⟩ | exact h.elim
theorem zR_of {st : List Value} {f : Nat → List Value → Prop} (h : zR st f) : ∃ a r, st = .ref a :: r ∧ f a r := by
  unfold zR at h; split at h <;> first | exact ⟨_, _, rfl, h⟩ | exact h.elim
theorem zRI_of {st : List Value} {f : Nat → Int32 → List Value → Prop} (h : zRI st f) : ∃ a i r, st = .int i :: .ref a :: r ∧ f a i r := by
  unfold zRI at h; split at h <;> first | exact ⟨_, _, _, rfl, h⟩ | exact h.elim
theorem zRII_of {st : List Value} {f : Nat → Int32 → Int32 → List Value → Prop} (h : zRII st f) : ∃ a i x r, st = .int x :: .int i :: .ref a :: r ∧ f a i x r := by
  unfold zRII at h; split at h <;> first | exact ⟨_, _, _, _, rfl, h⟩ | exact h.elim
theorem zRIL_of {st : List Value} {f : Nat → Int32 → Int64 → List Value → Prop} (h : zRIL st f) : ∃ a i x r, st = .long x :: .int i :: .ref a :: r ∧ f a i x r := by
  unfold zRIL at h; split at h <;> first | exact ⟨_, _, _, _, rfl, h⟩ | exact h.elim
theorem zRL_of {st : List Value} {f : Nat → Int64 → List Value → Prop} (h : zRL st f) : ∃ a x r, st = .long x :: .ref a :: r ∧ f a x r := by
  unfold zRL at h; split at h <;> first | exact ⟨_, _, _, rfl, h⟩ | exact h.elim
theorem zRR_of {st : List Value} {f : Nat → Nat → List Value → Prop} (h : zRR st f) : ∃ a b r, st = .ref b :: .ref a :: r ∧ f a b r := by
  unfold zRR at h; split at h <;> first | exact ⟨_, _, _, rfl, h⟩ | exact h.elim
theorem zRIO_of {st : List Value} {f : Nat → Int32 → Nat → List Value → Prop} {g : Nat → Int32 → List Value → Prop} (h : zRIO st f g) : (∃ a i b r, st = .ref b :: .int i :: .ref a :: r ∧ f a i b r) ∨ ∃ a i r, st = .null :: .int i :: .ref a :: r ∧ g a i r := by
  unfold zRIO at h; split at h <;> first | exact Or.inl ⟨_, _, _, _, rfl, h⟩ | exact Or.inr ⟨_, _, _, rfl, h⟩ | exact h.elim
theorem zO_of {st : List Value} {f : Nat → List Value → Prop} {g : List Value → Prop} (h : zO st f g) : (∃ a r, st = .ref a :: r ∧ f a r) ∨ ∃ r, st = .null :: r ∧ g r := by
  unfold zO at h; split at h <;> first | exact Or.inl ⟨_, _, rfl, h⟩ | exact Or.inr ⟨_, rfl, h⟩ | exact h.elim
theorem zV_of {st : List Value} {f : Value → List Value → Prop} (h : zV st f) : ∃ v r, st = v :: r ∧ f v r := by
  unfold zV at h; split at h <;> first | exact ⟨_, _, rfl, h⟩ | exact h.elim
theorem zVV_of {st : List Value} {f : Value → Value → List Value → Prop} (h : zVV st f) : ∃ v w r, st = v :: w :: r ∧ f v w r := by
  unfold zVV at h; split at h <;> first | exact ⟨_, _, _, rfl, h⟩ | exact h.elim
theorem zG_of {b : Bool} {P : Prop} (h : zG b P) : b = true ∧ P := by cases b <;> first | exact h.elim | exact ⟨rfl, h⟩
theorem zOf_of {α : Type} {o : Option α} {f : α → Prop} (h : zOf o f) : ∃ x, o = some x ∧ f x := by cases o <;> first | exact h.elim | exact ⟨_, rfl, h⟩
theorem zOp_of {α : Type} {o : Option α} {f : α → Prop} {g : Prop} (h : zOp o f g) : (∃ x, o = some x ∧ f x) ∨ (o = none ∧ g) := by cases o <;> first | exact Or.inr ⟨rfl, h⟩ | exact Or.inl ⟨_, rfl, h⟩
theorem zlI_of {v : Value} {f : Int32 → Prop} (h : zlI v f) : ∃ x, v = .int x ∧ f x := by cases v <;> first | exact h.elim | exact ⟨_, rfl, h⟩
theorem zlL_of {v : Value} {f : Int64 → Prop} (h : zlL v f) : ∃ x, v = .long x ∧ f x := by cases v <;> first | exact h.elim | exact ⟨_, rfl, h⟩
theorem zlR_of {v : Value} {f : Nat → Prop} {g : Prop} (h : zlR v f g) : (∃ x, v = .ref x ∧ f x) ∨ (v = .null ∧ g) := by cases v <;> first | exact h.elim | exact Or.inl ⟨_, rfl, h⟩ | exact Or.inr ⟨rfl, h⟩
theorem azT0_of {pc : Nat} {o : Int} {t : Nat} (h : azT0 pc o = some t) : (pc : Int) + o = (t : Int) := by
  unfold azT0 at h
  cases hh : (pc : Int) + o with
  | ofNat n => rw [hh] at h; cases h; rfl
  | negSucc n => rw [hh] at h; cases h
theorem azLen_beq {a b : Nat} (h : (a == b) = true) : a = b := by simpa using h
/-- the instructions that are neither calls nor touch the heap nor leave -/
def azPl (i : Instr) : Bool := match i with
  | .iconst _ | .bipush _ | .sipush _ | .lconst _ | .aconst_null | .iload _ | .iload_n _ | .lload _ | .lload_n _ | .aload _ | .aload_n _ | .istore _ | .istore_n _ | .lstore _ | .lstore_n _ | .astore _ | .astore_n _ | .iinc _ _ => true
  | .iadd | .isub | .imul | .iand | .ior | .ixor | .ishl | .ishr | .iushr | .idiv | .irem | .ladd | .lsub | .lmul | .ldiv | .lrem | .lneg | .lcmp | .i2l | .l2i | .i2c | .dup | .dup2 | .pop => true
  | .if_icmp _ _ | .ifCond _ _ | .ifnull _ | .ifnonnull _ | .goto _ | .tableswitch _ _ _ _ | .lookupswitch _ _ => true
  | _ => false
theorem zSw_of {x : Int32} {f : Int → Prop} : ∀ (os : List Int) (lo : Int) (k : Nat) (o : Int), zSw x lo os f → os[k]? = some o → x.toInt = lo + k → f o
  | [], _, k, o, _, h, _ => by simp at h
  | a :: t, lo, 0, o, H, h, e => by
    simp at h
    subst h
    exact H.1 (by simpa using e)
  | a :: t, lo, k + 1, o, H, h, e => zSw_of t (lo + 1) k o H.2 (by simpa using h) (by rw [e]; push_cast; omega)
theorem zLs_of {x : Int32} {df : Int} {f : Int → Prop} : ∀ (ps : List (Int × Int)), zLs x df ps f → f (Op.lookupswitch.offset ps df x.toInt)
  | [], H => H
  | q :: t, H => by
    rw [show q = (q.1, q.2) from rfl, Op.lookupswitch.offset_cons]
    by_cases e : x.toInt = q.1
    · rw [if_pos e.symm]; exact H.1 e
    · rw [if_neg (fun z => e z.symm)]; exact zLs_of t (H.2 e)
theorem azW1_lt {ls : List Value} {i : Nat} (h : azW1 ls i = true) : i < ls.length := by
  unfold azW1 at h
  rw [Bool.and_eq_true] at h
  exact Nat.blt_eq.mp h.1
theorem azW2_lt {ls : List Value} {i : Nat} (h : azW2 ls i = true) : i + 1 < ls.length := by
  unfold azW2 at h
  rw [Bool.and_eq_true] at h
  exact Nat.blt_eq.mp h.1
theorem azIs2_1 {G : azG} {v : Value} (h : (!azIs2 v) = true) : (zVal G v).category = 1 := by
  rw [azIs2_cat]
  cases hz : azIs2 v <;> simp_all
set_option maxHeartbeats 4000000 in
theorem az_plain {G : azG} {l : Launch} {d : Nat} {M : azM} {pc : Nat} {ls st : List Value} {σ : azS} {Q : azQ} {i : Instr} {len : Nat} (hi : azPl i = true) (hd : decode M.2.1 pc = .ok (i, len) ∧ azLen (i, len) = true) (H : azStep (zReal G l) (zReal G l) d M pc ls st σ Q i) : zReal G l d M pc ls st σ Q := by
  cases i
  case iconst n =>
    refine az_pure (fun hC _ _ _ _ k => ?_) H
    obtain ⟨h1, h2⟩ := hd
    simp only [azLen, Bool.and_eq_true, beq_iff_eq] at h2
    obtain ⟨rfl, h3⟩ := h2
    exact lv_iconst hC.1 hC.2.1 h1 h3 k
  case bipush n =>
    refine az_pure (fun hC _ _ _ _ k => ?_) H
    obtain ⟨h1, h2⟩ := hd
    simp only [azLen, Bool.and_eq_true, beq_iff_eq] at h2
    obtain ⟨rfl, h3⟩ := h2
    exact lv_bipush hC.1 hC.2.1 h1 h3 k
  case sipush n =>
    refine az_pure (fun hC _ _ _ _ k => ?_) H
    obtain ⟨h1, h2⟩ := hd
    simp only [azLen, Bool.and_eq_true, beq_iff_eq] at h2
    obtain ⟨rfl, h3⟩ := h2
    exact lv_sipush hC.1 hC.2.1 h1 h3 k
  case lconst n =>
    refine az_pure (fun hC _ _ hl _ k => ?_) H
    obtain ⟨h1, h2⟩ := hd
    obtain rfl : len = 1 := azLen_beq h2
    exact lv_lconst hC.1 hC.2.1 h1 rfl k
  case aconst_null =>
    refine az_pure (fun hC _ _ hl _ k => ?_) H
    obtain ⟨h1, h2⟩ := hd
    obtain rfl : len = 1 := azLen_beq h2
    exact lv_null hC.1 hC.2.1 h1 k
  case iload n =>
    obtain ⟨x, e, H⟩ := zlI_of H
    refine az_pure (fun hC _ _ hl _ k => ?_) H
    obtain ⟨h1, h2⟩ := hd
    obtain rfl : len = 2 := azLen_beq h2
    exact lv_iload hC.1 hC.2.1 h1 (hl.at e (fun _ h => by cases h)) k
  case iload_n n =>
    obtain ⟨x, e, H⟩ := zlI_of H
    refine az_pure (fun hC _ _ hl _ k => ?_) H
    obtain ⟨h1, h2⟩ := hd
    obtain rfl : len = 1 := azLen_beq h2
    exact lv_iload_n hC.1 hC.2.1 h1 rfl (hl.at e (fun _ h => by cases h)) k
  case lload n =>
    obtain ⟨x, e, H⟩ := zlL_of H
    refine az_pure (fun hC _ _ hl _ k => ?_) H
    obtain ⟨h1, h2⟩ := hd
    obtain rfl : len = 2 := azLen_beq h2
    exact lv_lload hC.1 hC.2.1 h1 (hl.at e (fun _ h => by cases h)) k
  case lload_n n =>
    obtain ⟨x, e, H⟩ := zlL_of H
    refine az_pure (fun hC _ _ hl _ k => ?_) H
    obtain ⟨h1, h2⟩ := hd
    obtain rfl : len = 1 := azLen_beq h2
    exact lv_lload_n hC.1 hC.2.1 h1 rfl (hl.at e (fun _ h => by cases h)) k
  case aload n =>
    obtain ⟨x, e, H⟩ | ⟨e, H⟩ := zlR_of H
    · refine az_pure (fun hC _ _ hl _ k => ?_) H
      obtain ⟨h1, h2⟩ := hd
      obtain rfl : len = 2 := azLen_beq h2
      exact lv_aload hC.1 hC.2.1 h1 (hl.at e (fun _ h => by cases h)) k
    · refine az_pure (fun hC _ _ hl _ k => ?_) H
      obtain ⟨h1, h2⟩ := hd
      obtain rfl : len = 2 := azLen_beq h2
      exact lv_aloadN hC.1 hC.2.1 h1 (hl.at e (fun _ h => by cases h)) k
  case aload_n n =>
    obtain ⟨x, e, H⟩ | ⟨e, H⟩ := zlR_of H
    · refine az_pure (fun hC _ _ hl _ k => ?_) H
      obtain ⟨h1, h2⟩ := hd
      obtain rfl : len = 1 := azLen_beq h2
      exact lv_aload_n hC.1 hC.2.1 h1 rfl (hl.at e (fun _ h => by cases h)) k
    · refine az_pure (fun hC _ _ hl _ k => ?_) H
      obtain ⟨h1, h2⟩ := hd
      obtain rfl : len = 1 := azLen_beq h2
      exact lv_aload_nN hC.1 hC.2.1 h1 rfl (hl.at e (fun _ h => by cases h)) k
  case istore n =>
    obtain ⟨x, r, rfl, H⟩ := zI_of H
    obtain ⟨hw, H⟩ := zG_of H
    refine az_loc (by simp) (fun hC hl k => ?_) H
    obtain ⟨h1, h2⟩ := hd
    obtain rfl : len = 2 := azLen_beq h2
    exact lv_istore hC.1 hC.2.1 h1 hl.has (azW1_lt hw) rfl (fun ls1 g => k ls1 (zLv.set1 (v := .int x) rfl hw rfl g))
  case istore_n n =>
    obtain ⟨x, r, rfl, H⟩ := zI_of H
    obtain ⟨hw, H⟩ := zG_of H
    refine az_loc (by simp) (fun hC hl k => ?_) H
    obtain ⟨h1, h2⟩ := hd
    obtain rfl : len = 1 := azLen_beq h2
    exact lv_istore_n hC.1 hC.2.1 h1 rfl hl.has (azW1_lt hw) rfl (fun ls1 g => k ls1 (zLv.set1 (v := .int x) rfl hw rfl g))
  case lstore n =>
    obtain ⟨x, r, rfl, H⟩ := zL_of H
    obtain ⟨hw, H⟩ := zG_of H
    refine az_loc (by simp) (fun hC hl k => ?_) H
    obtain ⟨h1, h2⟩ := hd
    obtain rfl : len = 2 := azLen_beq h2
    exact lv_lstore hC.1 hC.2.1 h1 hl.has (azW2_lt hw) rfl (fun ls1 g => k ls1 (zLv.set2 rfl hw g))
  case lstore_n n =>
    obtain ⟨x, r, rfl, H⟩ := zL_of H
    obtain ⟨hw, H⟩ := zG_of H
    refine az_loc (by simp) (fun hC hl k => ?_) H
    obtain ⟨h1, h2⟩ := hd
    obtain rfl : len = 1 := azLen_beq h2
    exact lv_lstore_n hC.1 hC.2.1 h1 rfl hl.has (azW2_lt hw) rfl (fun ls1 g => k ls1 (zLv.set2 rfl hw g))
  case astore n =>
    obtain ⟨x, r, rfl, H⟩ | ⟨r, rfl, H⟩ := zO_of H
    · obtain ⟨hw, H⟩ := zG_of H
      refine az_loc (by simp) (fun hC hl k => ?_) H
      obtain ⟨h1, h2⟩ := hd
      obtain rfl : len = 2 := azLen_beq h2
      exact lv_astore hC.1 hC.2.1 h1 hl.has (azW1_lt hw) rfl (fun ls1 g => k ls1 (zLv.set1 (v := .ref x) rfl hw rfl g))
    · obtain ⟨hw, H⟩ := zG_of H
      refine az_loc (by simp) (fun hC hl k => ?_) H
      obtain ⟨h1, h2⟩ := hd
      obtain rfl : len = 2 := azLen_beq h2
      exact lv_astoreN hC.1 hC.2.1 h1 hl.has (azW1_lt hw) rfl (fun ls1 g => k ls1 (zLv.set1 (v := .null) rfl hw rfl g))
  case astore_n n =>
    obtain ⟨x, r, rfl, H⟩ | ⟨r, rfl, H⟩ := zO_of H
    · obtain ⟨hw, H⟩ := zG_of H
      refine az_loc (by simp) (fun hC hl k => ?_) H
      obtain ⟨h1, h2⟩ := hd
      obtain rfl : len = 1 := azLen_beq h2
      exact lv_astore_n hC.1 hC.2.1 h1 rfl hl.has (azW1_lt hw) rfl (fun ls1 g => k ls1 (zLv.set1 (v := .ref x) rfl hw rfl g))
    · obtain ⟨hw, H⟩ := zG_of H
      refine az_loc (by simp) (fun hC hl k => ?_) H
      obtain ⟨h1, h2⟩ := hd
      obtain rfl : len = 1 := azLen_beq h2
      exact lv_astore_nN hC.1 hC.2.1 h1 rfl hl.has (azW1_lt hw) rfl (fun ls1 g => k ls1 (zLv.set1 (v := .null) rfl hw rfl g))
  case iinc n b =>
    obtain ⟨x, e, H⟩ := zlI_of H
    obtain ⟨hw, H⟩ := zG_of H
    refine az_loc (by simp) (fun hC hl k => ?_) H
    obtain ⟨h1, h2⟩ := hd
    simp only [azLen, Bool.and_eq_true, beq_iff_eq] at h2
    obtain ⟨rfl, h3⟩ := h2
    have hm : (n, Value.int x) ∈ zLl G ls := zLl_mem.mpr ⟨.int x, by rw [← e]; exact azGl_get (by rw [e]; exact fun h => by cases h), (fun _ h => by cases h), rfl⟩
    obtain ⟨j, hj⟩ := List.getElem?_of_mem hm
    exact lv_iinc hC.1 hC.2.1 h1 hl.has hj (by rw [h3]) (azW1_lt hw) rfl (fun ls1 g => k ls1 (zLv.set1 (v := .int (x + azC b)) rfl hw rfl g))
  case iadd =>
    obtain ⟨x, y, r, rfl, H⟩ := zII_of H
    refine az_pure (fun hC _ _ hl _ k => ?_) H
    obtain ⟨h1, h2⟩ := hd
    obtain rfl : len = 1 := azLen_beq h2
    exact lv_iadd hC.1 hC.2.1 h1 k
  case isub =>
    obtain ⟨x, y, r, rfl, H⟩ := zII_of H
    refine az_pure (fun hC _ _ hl _ k => ?_) H
    obtain ⟨h1, h2⟩ := hd
    obtain rfl : len = 1 := azLen_beq h2
    exact lv_isub hC.1 hC.2.1 h1 k
  case imul =>
    obtain ⟨x, y, r, rfl, H⟩ := zII_of H
    refine az_pure (fun hC _ _ hl _ k => ?_) H
    obtain ⟨h1, h2⟩ := hd
    obtain rfl : len = 1 := azLen_beq h2
    exact lv_imul hC.1 hC.2.1 h1 k
  case iand =>
    obtain ⟨x, y, r, rfl, H⟩ := zII_of H
    refine az_pure (fun hC _ _ hl _ k => ?_) H
    obtain ⟨h1, h2⟩ := hd
    obtain rfl : len = 1 := azLen_beq h2
    exact lv_iand hC.1 hC.2.1 h1 k
  case ior =>
    obtain ⟨x, y, r, rfl, H⟩ := zII_of H
    refine az_pure (fun hC _ _ hl _ k => ?_) H
    obtain ⟨h1, h2⟩ := hd
    obtain rfl : len = 1 := azLen_beq h2
    exact lv_ior hC.1 hC.2.1 h1 k
  case ixor =>
    obtain ⟨x, y, r, rfl, H⟩ := zII_of H
    refine az_pure (fun hC _ _ hl _ k => ?_) H
    obtain ⟨h1, h2⟩ := hd
    obtain rfl : len = 1 := azLen_beq h2
    exact lv_ixor hC.1 hC.2.1 h1 k
  case ishl =>
    obtain ⟨x, y, r, rfl, H⟩ := zII_of H
    refine az_pure (fun hC _ _ hl _ k => ?_) H
    obtain ⟨h1, h2⟩ := hd
    obtain rfl : len = 1 := azLen_beq h2
    exact lv_ishl hC.1 hC.2.1 h1 k
  case ishr =>
    obtain ⟨x, y, r, rfl, H⟩ := zII_of H
    refine az_pure (fun hC _ _ hl _ k => ?_) H
    obtain ⟨h1, h2⟩ := hd
    obtain rfl : len = 1 := azLen_beq h2
    exact lv_ishr hC.1 hC.2.1 h1 k
  case iushr =>
    obtain ⟨x, y, r, rfl, H⟩ := zII_of H
    refine az_pure (fun hC _ _ hl _ k => ?_) H
    obtain ⟨h1, h2⟩ := hd
    obtain rfl : len = 1 := azLen_beq h2
    exact lv_iushr hC.1 hC.2.1 h1 rfl k
  case idiv =>
    obtain ⟨x, y, r, rfl, hne, H⟩ := zII_of H
    refine az_pure (fun hC _ _ hl _ k => ?_) H
    obtain ⟨h1, h2⟩ := hd
    obtain rfl : len = 1 := azLen_beq h2
    exact lv_idiv hC.1 hC.2.1 h1 hne k
  case irem =>
    obtain ⟨x, y, r, rfl, hne, H⟩ := zII_of H
    refine az_pure (fun hC _ _ hl _ k => ?_) H
    obtain ⟨h1, h2⟩ := hd
    obtain rfl : len = 1 := azLen_beq h2
    exact lv_irem hC.1 hC.2.1 h1 hne k
  case ladd =>
    obtain ⟨x, y, r, rfl, H⟩ := zLL_of H
    refine az_pure (fun hC _ _ hl _ k => ?_) H
    obtain ⟨h1, h2⟩ := hd
    obtain rfl : len = 1 := azLen_beq h2
    exact lv_ladd hC.1 hC.2.1 h1 k
  case lsub =>
    obtain ⟨x, y, r, rfl, H⟩ := zLL_of H
    refine az_pure (fun hC _ _ hl _ k => ?_) H
    obtain ⟨h1, h2⟩ := hd
    obtain rfl : len = 1 := azLen_beq h2
    exact lv_lsub hC.1 hC.2.1 h1 k
  case lmul =>
    obtain ⟨x, y, r, rfl, H⟩ := zLL_of H
    refine az_pure (fun hC _ _ hl _ k => ?_) H
    obtain ⟨h1, h2⟩ := hd
    obtain rfl : len = 1 := azLen_beq h2
    exact lv_lmul hC.1 hC.2.1 h1 k
  case ldiv =>
    obtain ⟨x, y, r, rfl, hne, H⟩ := zLL_of H
    refine az_pure (fun hC _ _ hl _ k => ?_) H
    obtain ⟨h1, h2⟩ := hd
    obtain rfl : len = 1 := azLen_beq h2
    exact lv_ldiv hC.1 hC.2.1 h1 hne k
  case lrem =>
    obtain ⟨x, y, r, rfl, hne, H⟩ := zLL_of H
    refine az_pure (fun hC _ _ hl _ k => ?_) H
    obtain ⟨h1, h2⟩ := hd
    obtain rfl : len = 1 := azLen_beq h2
    exact lv_lrem hC.1 hC.2.1 h1 hne k
  case lneg =>
    obtain ⟨x, r, rfl, H⟩ := zL_of H
    refine az_pure (fun hC _ _ hl _ k => ?_) H
    obtain ⟨h1, h2⟩ := hd
    obtain rfl : len = 1 := azLen_beq h2
    exact lv_lneg hC.1 hC.2.1 h1 k
  case lcmp =>
    obtain ⟨x, y, r, rfl, H⟩ := zLL_of H
    refine az_pure (fun hC _ _ hl _ k => ?_) H
    obtain ⟨h1, h2⟩ := hd
    obtain rfl : len = 1 := azLen_beq h2
    exact W.lcmp hC.1 hC.2.1 h1 k
  case i2l =>
    obtain ⟨x, r, rfl, H⟩ := zI_of H
    refine az_pure (fun hC _ _ hl _ k => ?_) H
    obtain ⟨h1, h2⟩ := hd
    obtain rfl : len = 1 := azLen_beq h2
    exact lv_i2l hC.1 hC.2.1 h1 rfl k
  case i2c =>
    obtain ⟨x, r, rfl, H⟩ := zI_of H
    refine az_pure (fun hC _ _ hl _ k => ?_) H
    obtain ⟨h1, h2⟩ := hd
    obtain rfl : len = 1 := azLen_beq h2
    exact lv_i2c hC.1 hC.2.1 h1 rfl k
  case l2i =>
    obtain ⟨x, r, rfl, H⟩ := zL_of H
    refine az_pure (fun hC _ _ hl _ k => ?_) H
    obtain ⟨h1, h2⟩ := hd
    obtain rfl : len = 1 := azLen_beq h2
    exact lv_l2i hC.1 hC.2.1 h1 rfl k
  case dup =>
    obtain ⟨v, r, rfl, H⟩ := zV_of H
    obtain ⟨hv, H⟩ := zG_of H
    refine az_pure (fun hC _ _ hl _ k => ?_) H
    obtain ⟨h1, h2⟩ := hd
    obtain rfl : len = 1 := azLen_beq h2
    exact lv_dup hC.1 hC.2.1 h1 (azIs2_1 hv) k
  case dup2 =>
    obtain ⟨v, w, r, rfl, H⟩ := zVV_of H
    obtain ⟨hv, H⟩ := zG_of H
    rw [Bool.and_eq_true] at hv
    refine az_pure (fun hC _ _ hl _ k => ?_) H
    obtain ⟨h1, h2⟩ := hd
    obtain rfl : len = 1 := azLen_beq h2
    exact lv_dup2_11 hC.1 hC.2.1 h1 (azIs2_1 hv.1) (azIs2_1 hv.2) k
  case pop =>
    obtain ⟨v, r, rfl, H⟩ := zV_of H
    obtain ⟨hv, H⟩ := zG_of H
    refine az_pure (fun hC _ _ hl _ k => ?_) H
    obtain ⟨h1, h2⟩ := hd
    obtain rfl : len = 1 := azLen_beq h2
    exact lv_pop hC.1 hC.2.1 h1 (azIs2_1 hv) k
  case if_icmp cn o =>
    obtain ⟨x, y, r, rfl, H⟩ := zII_of H
    obtain ⟨t, ht, H⟩ := zOf_of H
    cases cn
    case eq =>
      by_cases hc : azCmp .eq x y
      · refine az_pure (fun hC _ _ hl _ k => ?_) (H.1 hc)
        obtain ⟨h1, h2⟩ := hd
        obtain rfl : len = 3 := azLen_beq h2
        exact lv_icmp_eq (tgt := t) hC.1 hC.2.1 h1 (azT0_of ht) (fun _ => k) (fun z => absurd hc z)
      · refine az_pure (fun hC _ _ hl _ k => ?_) (H.2 hc)
        obtain ⟨h1, h2⟩ := hd
        obtain rfl : len = 3 := azLen_beq h2
        exact lv_icmp_eq (tgt := t) hC.1 hC.2.1 h1 (azT0_of ht) (fun z => absurd z hc) (fun _ => k)
    case ne =>
      by_cases hc : azCmp .ne x y
      · refine az_pure (fun hC _ _ hl _ k => ?_) (H.1 hc)
        obtain ⟨h1, h2⟩ := hd
        obtain rfl : len = 3 := azLen_beq h2
        exact lv_icmp_ne (tgt := t) hC.1 hC.2.1 h1 (azT0_of ht) (fun _ => k) (fun z => absurd z hc)
      · refine az_pure (fun hC _ _ hl _ k => ?_) (H.2 hc)
        obtain ⟨h1, h2⟩ := hd
        obtain rfl : len = 3 := azLen_beq h2
        exact lv_icmp_ne (tgt := t) hC.1 hC.2.1 h1 (azT0_of ht) (fun z => absurd z hc) (fun _ => k)
    case lt =>
      by_cases hc : azCmp .lt x y
      · refine az_pure (fun hC _ _ hl _ k => ?_) (H.1 hc)
        obtain ⟨h1, h2⟩ := hd
        obtain rfl : len = 3 := azLen_beq h2
        exact lv_icmp_lt (tgt := t) hC.1 hC.2.1 h1 (azT0_of ht) (fun _ => k) (fun z => absurd hc z)
      · refine az_pure (fun hC _ _ hl _ k => ?_) (H.2 hc)
        obtain ⟨h1, h2⟩ := hd
        obtain rfl : len = 3 := azLen_beq h2
        exact lv_icmp_lt (tgt := t) hC.1 hC.2.1 h1 (azT0_of ht) (fun z => absurd z hc) (fun _ => k)
    case ge =>
      by_cases hc : azCmp .ge x y
      · refine az_pure (fun hC _ _ hl _ k => ?_) (H.1 hc)
        obtain ⟨h1, h2⟩ := hd
        obtain rfl : len = 3 := azLen_beq h2
        exact lv_icmp_ge (tgt := t) hC.1 hC.2.1 h1 (azT0_of ht) (fun _ => k) (fun z => absurd hc z)
      · refine az_pure (fun hC _ _ hl _ k => ?_) (H.2 hc)
        obtain ⟨h1, h2⟩ := hd
        obtain rfl : len = 3 := azLen_beq h2
        exact lv_icmp_ge (tgt := t) hC.1 hC.2.1 h1 (azT0_of ht) (fun z => absurd z hc) (fun _ => k)
    case gt =>
      by_cases hc : azCmp .gt x y
      · refine az_pure (fun hC _ _ hl _ k => ?_) (H.1 hc)
        obtain ⟨h1, h2⟩ := hd
        obtain rfl : len = 3 := azLen_beq h2
        exact lv_icmp_gt (tgt := t) hC.1 hC.2.1 h1 (azT0_of ht) (fun _ => k) (fun z => absurd hc z)
      · refine az_pure (fun hC _ _ hl _ k => ?_) (H.2 hc)
        obtain ⟨h1, h2⟩ := hd
        obtain rfl : len = 3 := azLen_beq h2
        exact lv_icmp_gt (tgt := t) hC.1 hC.2.1 h1 (azT0_of ht) (fun z => absurd z hc) (fun _ => k)
    case le =>
      by_cases hc : azCmp .le x y
      · refine az_pure (fun hC _ _ hl _ k => ?_) (H.1 hc)
        obtain ⟨h1, h2⟩ := hd
        obtain rfl : len = 3 := azLen_beq h2
        exact lv_icmp_le (tgt := t) hC.1 hC.2.1 h1 (azT0_of ht) (fun _ => k) (fun z => absurd hc z)
      · refine az_pure (fun hC _ _ hl _ k => ?_) (H.2 hc)
        obtain ⟨h1, h2⟩ := hd
        obtain rfl : len = 3 := azLen_beq h2
        exact lv_icmp_le (tgt := t) hC.1 hC.2.1 h1 (azT0_of ht) (fun z => absurd z hc) (fun _ => k)
  case ifCond cn o =>
    obtain ⟨x, r, rfl, H⟩ := zI_of H
    obtain ⟨t, ht, H⟩ := zOf_of H
    cases cn
    case eq =>
      by_cases hc : azCmp .eq x 0
      · refine az_pure (fun hC _ _ hl _ k => ?_) (H.1 hc)
        obtain ⟨h1, h2⟩ := hd
        obtain rfl : len = 3 := azLen_beq h2
        exact lv_if_eq (tgt := t) hC.1 hC.2.1 h1 (azT0_of ht) (fun _ => k) (fun z => absurd hc z)
      · refine az_pure (fun hC _ _ hl _ k => ?_) (H.2 hc)
        obtain ⟨h1, h2⟩ := hd
        obtain rfl : len = 3 := azLen_beq h2
        exact lv_if_eq (tgt := t) hC.1 hC.2.1 h1 (azT0_of ht) (fun z => absurd z hc) (fun _ => k)
    case ne =>
      by_cases hc : azCmp .ne x 0
      · refine az_pure (fun hC _ _ hl _ k => ?_) (H.1 hc)
        obtain ⟨h1, h2⟩ := hd
        obtain rfl : len = 3 := azLen_beq h2
        exact lv_if_ne (tgt := t) hC.1 hC.2.1 h1 (azT0_of ht) (fun _ => k) (fun z => absurd z hc)
      · refine az_pure (fun hC _ _ hl _ k => ?_) (H.2 hc)
        obtain ⟨h1, h2⟩ := hd
        obtain rfl : len = 3 := azLen_beq h2
        exact lv_if_ne (tgt := t) hC.1 hC.2.1 h1 (azT0_of ht) (fun z => absurd z hc) (fun _ => k)
    case lt =>
      by_cases hc : azCmp .lt x 0
      · refine az_pure (fun hC _ _ hl _ k => ?_) (H.1 hc)
        obtain ⟨h1, h2⟩ := hd
        obtain rfl : len = 3 := azLen_beq h2
        exact lv_if_lt (tgt := t) hC.1 hC.2.1 h1 (azT0_of ht) (fun _ => k) (fun z => absurd hc z)
      · refine az_pure (fun hC _ _ hl _ k => ?_) (H.2 hc)
        obtain ⟨h1, h2⟩ := hd
        obtain rfl : len = 3 := azLen_beq h2
        exact lv_if_lt (tgt := t) hC.1 hC.2.1 h1 (azT0_of ht) (fun z => absurd z hc) (fun _ => k)
    case ge =>
      by_cases hc : azCmp .ge x 0
      · refine az_pure (fun hC _ _ hl _ k => ?_) (H.1 hc)
        obtain ⟨h1, h2⟩ := hd
        obtain rfl : len = 3 := azLen_beq h2
        exact lv_if_ge (tgt := t) hC.1 hC.2.1 h1 (azT0_of ht) (fun _ => k) (fun z => absurd hc z)
      · refine az_pure (fun hC _ _ hl _ k => ?_) (H.2 hc)
        obtain ⟨h1, h2⟩ := hd
        obtain rfl : len = 3 := azLen_beq h2
        exact lv_if_ge (tgt := t) hC.1 hC.2.1 h1 (azT0_of ht) (fun z => absurd z hc) (fun _ => k)
    case gt =>
      by_cases hc : azCmp .gt x 0
      · refine az_pure (fun hC _ _ hl _ k => ?_) (H.1 hc)
        obtain ⟨h1, h2⟩ := hd
        obtain rfl : len = 3 := azLen_beq h2
        exact lv_if_gt (tgt := t) hC.1 hC.2.1 h1 (azT0_of ht) (fun _ => k) (fun z => absurd hc z)
      · refine az_pure (fun hC _ _ hl _ k => ?_) (H.2 hc)
        obtain ⟨h1, h2⟩ := hd
        obtain rfl : len = 3 := azLen_beq h2
        exact lv_if_gt (tgt := t) hC.1 hC.2.1 h1 (azT0_of ht) (fun z => absurd z hc) (fun _ => k)
    case le =>
      by_cases hc : azCmp .le x 0
      · refine az_pure (fun hC _ _ hl _ k => ?_) (H.1 hc)
        obtain ⟨h1, h2⟩ := hd
        obtain rfl : len = 3 := azLen_beq h2
        exact lv_if_le (tgt := t) hC.1 hC.2.1 h1 (azT0_of ht) (fun _ => k) (fun z => absurd hc z)
      · refine az_pure (fun hC _ _ hl _ k => ?_) (H.2 hc)
        obtain ⟨h1, h2⟩ := hd
        obtain rfl : len = 3 := azLen_beq h2
        exact lv_if_le (tgt := t) hC.1 hC.2.1 h1 (azT0_of ht) (fun z => absurd z hc) (fun _ => k)
  case ifnull o =>
    obtain ⟨x, r, rfl, H⟩ | ⟨r, rfl, H⟩ := zO_of H
    · refine az_pure (fun hC _ _ hl _ k => ?_) H
      obtain ⟨h1, h2⟩ := hd
      obtain rfl : len = 3 := azLen_beq h2
      exact lv_ifnull hC.1 hC.2.1 h1 k
    · obtain ⟨t, ht, H⟩ := zOf_of H
      refine az_pure (fun hC _ _ hl _ k => ?_) H
      obtain ⟨h1, h2⟩ := hd
      obtain rfl : len = 3 := azLen_beq h2
      exact lv_ifnullN hC.1 hC.2.1 h1 (azT0_of ht) k
  case ifnonnull o =>
    obtain ⟨x, r, rfl, H⟩ | ⟨r, rfl, H⟩ := zO_of H
    · obtain ⟨t, ht, H⟩ := zOf_of H
      refine az_pure (fun hC _ _ hl _ k => ?_) H
      obtain ⟨h1, h2⟩ := hd
      obtain rfl : len = 3 := azLen_beq h2
      exact lv_ifnonnull hC.1 hC.2.1 h1 (azT0_of ht) k
    · refine az_pure (fun hC _ _ hl _ k => ?_) H
      obtain ⟨h1, h2⟩ := hd
      obtain rfl : len = 3 := azLen_beq h2
      exact lv_ifnonnullN hC.1 hC.2.1 h1 k
  case goto o =>
    obtain ⟨t, ht, H⟩ := zOf_of H
    refine az_pure (fun hC _ _ hl _ k => ?_) H
    obtain ⟨h1, h2⟩ := hd
    obtain rfl : len = 3 := azLen_beq h2
    exact lv_goto hC.1 hC.2.1 h1 (azT0_of ht) k
  case tableswitch df lo hj os =>
    obtain ⟨x, r, rfl, H⟩ := zI_of H
    by_cases out : x.toInt < lo ∨ hj < x.toInt
    · obtain ⟨t, ht, H⟩ := zOf_of (H.1 out)
      refine az_pure (fun hC _ _ hl _ k => ?_) H
      obtain ⟨h1, h2⟩ := hd
      exact lv_tableOut hC.1 hC.2.1 h1 out (azT0_of ht) k
    · by_cases hsz : os.size = (hj - lo + 1).toNat
      · have hk : (x.toInt - lo).toNat < os.size := by rw [hsz]; omega
        have ho : os[(x.toInt - lo).toNat]? = some os[(x.toInt - lo).toNat] := Array.getElem?_eq_getElem hk
        obtain ⟨t, ht, H⟩ := zOf_of (zSw_of os.toList lo (x.toInt - lo).toNat _ H.2 (by rw [Array.getElem?_toList]; exact ho) (by omega))
        refine az_pure (fun hC _ _ hl _ k => ?_) H
        obtain ⟨h1, h2⟩ := hd
        exact lv_tableIn hC.1 hC.2.1 h1 (fun z => out (Or.inl z)) (fun z => out (Or.inr z)) ho (azT0_of ht) k
      · exact absurd (of_decide_eq_true hd.2) hsz
  case lookupswitch df ps =>
    obtain ⟨x, r, rfl, H⟩ := zI_of H
    obtain ⟨t, ht, H⟩ := zOf_of (zLs_of _ H)
    refine az_pure (fun hC _ _ hl _ k => ?_) H
    obtain ⟨h1, h2⟩ := hd
    exact lv_lookup hC.1 hC.2.1 h1 h2 rfl (azT0_of ht) k
  all_goals cases hi
end
section
/-! SOUNDNESS: the instructions that read and write cells. -/
theorem az_rd {G : azG} {l : Launch} {d : Nat} {M : azM} {pc : Nat} {ls st : List Value} {σ : azS} {Q : azQ} {pc2 : Nat} {st2 : List Value}
    (h : ∀ {p : Program} {e : Env} {R : Room} {s : State} {m : MethodId} {args : Array Value} {below : List Frame} {meth : Method} {c : Code} {H : Heap} {locs : List Loc} {cells slots : Nat} {ls' : Array Slot} {Qw : State → Prop},
      zCtx p s m args meth c M → zK G s → zRel G σ H → (∀ q ∈ locs, gB G ≤ q.base) → σ.1.1 < azB → W p l e R s m args below meth c H locs cells slots Qw (F0 m pc2 ls' (st2.map (zVal G))) →
      W p l e R s m args below meth c H locs cells slots Qw (F0 m pc ls' (st.map (zVal G)))) :
    zReal G l d M pc2 ls st2 σ Q → zReal G l d M pc ls st σ Q :=
  az_wr rfl (fun hC hK hR hlo hb k => h hC hK hR hlo hb (k _ _ hR hlo))
theorem zCell_obj {G : azG} {σ : azS} {a ci : Nat} (h : (azKd σ a).1 = ci) (hc : ci < 10) : zCell G σ a = .inr (ci, zFs G σ a ci) := by
  unfold zCell
  rw [h]
  split <;> first | omega | rfl
theorem zCell_10 {G : azG} {σ : azS} {a : Nat} (h : (azKd σ a).1 = 10) : zCell G σ a = .inl (gA G 10, (azKd σ a).2, .inl (σ.2.1 a)) := by unfold zCell; rw [h]; rfl
theorem zCell_11 {G : azG} {σ : azS} {a : Nat} (h : (azKd σ a).1 = 11) : zCell G σ a = .inl (gA G 11, (azKd σ a).2, .inr (.inl (σ.2.2.1 a))) := by unfold zCell; rw [h]; rfl
theorem zCell_12 {G : azG} {σ : azS} {a : Nat} (h : (azKd σ a).1 = 12) : zCell G σ a = .inl (gA G 12, (azKd σ a).2, .inl (σ.2.1 a)) := by unfold zCell; rw [h]; rfl
theorem zCell_13 {G : azG} {σ : azS} {a : Nat} (h : (azKd σ a).1 = 13) : zCell G σ a = .inl (gA G 13, (azKd σ a).2, .inr (.inr (.inr (.inr (zRow G σ a))))) := by unfold zCell; rw [h]; rfl
theorem zCell_14 {G : azG} {σ : azS} {a : Nat} (h : (azKd σ a).1 = 14) : zCell G σ a = .inl (gA G 14, (azKd σ a).2, .inr (.inr (.inr (.inr (zRow G σ a))))) := by unfold zCell; rw [h]; rfl
theorem azFc_0 {t : FieldType} (h : azFc t = 0) : t = .int := by cases t <;> simp_all [azFc]
theorem azFc_1 {t : FieldType} (h : azFc t = 1) : t = .long := by cases t <;> simp_all [azFc]
theorem azFc_2 {t : FieldType} (h : azFc t = 2) : t = .boolean := by cases t <;> simp_all [azFc]
/-- fields hold ints, longs, truths and references alone -/
def azTyR (t : FieldType) : Bool := match t with | .object _ => true | .array _ => true | _ => false
def azTy5 (t : FieldType) : Bool := match t with | .int => true | .long => true | .boolean => true | t => azTyR t
theorem azTy5_all : ((List.range 10).all fun ci => (List.range (azNf ci)).all fun j => azTy5 (azTy ci j)) = true := by decide +kernel
theorem azTy5_of {ci j : Nat} (hc : ci < 10) (hj : j < azNf ci) : azTy5 (azTy ci j) = true :=
  List.all_eq_true.mp (List.all_eq_true.mp azTy5_all ci (List.mem_range.mpr hc)) j (List.mem_range.mpr hj)
theorem azFc_3 {t : FieldType} {n : Nat} (h : azFc t = n + 3) (h5 : azTy5 t = true) : azTyR t = true := by cases t <;> simp_all [azFc, azTy5, azTyR]
theorem zFv_ref {G : azG} {σ : azS} {a j : Nat} {t : FieldType} (h : azTyR t = true) : zFv G σ a t j = va_rf ((σ.2.2.2 a j).map (zA G)) := by cases t <;> first | rfl | cases h
theorem zFs_get {G : azG} {σ : azS} {a ci j : Nat} (h : j < azNf ci) : (zFs G σ a ci)[j]? = some (zFv G σ a (azTy ci j) j) := by
  unfold zFs
  rw [List.getElem?_map, List.getElem?_range h]
  rfl
theorem zFs_len {G : azG} {σ : azS} {a ci : Nat} : (zFs G σ a ci).length = azNf ci := by simp [zFs]
/-- a row of the fields' table -/
theorem azF_of {c k : Nat} {q : Nat × Nat × Nat × Bool × Option String} (h : azLk c azFL k = some q) : c < 17 ∧ q.1 < 10 ∧ q.2.1 < azNf q.1 ∧ azFc (azTy q.1 q.2.1) = q.2.2.1 ∧ ∃ (C : String) (T : u_T), vwCl[q.1]? = some (C, T, azNf q.1) ∧ C = azN q.1 ∧ (T q.2.1).2.2.2 = q.2.2.2.1 ∧ (∀ w ∈ u_ws C T (azNf q.1), w ∈ azWords) ∧ (∀ k, k < azNf q.1 → parseFieldDescriptor (T k).2.2.1 = some (azTy q.1 k)) ∧ (∀ a, a < azNf q.1 → ∀ b, b < azNf q.1 → a ≠ b → (T a).2.1 ≠ (T b).2.1) ∧ (∀ k, k < azNf q.1 → (T k).1 = C) ∧ ((q.2.2.2.2 = none ∧ Cond.fieldLink (azN c) k C (T q.2.1).2.1 (T q.2.1).2.2.1 ∈ azWords) ∨ ∃ hh, q.2.2.2.2 = some hh ∧ Cond.fieldLinkNest (azN c) k C (T q.2.1).2.1 (T q.2.1).2.2.1 hh ∈ azXf ++ azXc) := by
  have hm := azLk_mem h
  have hok := azFok_of hm
  have hc : c < 17 := azGetD_lt hm
  unfold azFok at hok
  simp only [Bool.and_eq_true] at hok
  obtain ⟨⟨⟨h1, h2⟩, h3⟩, h4⟩ := hok
  have h1 : q.1 < 10 := Nat.blt_eq.mp h1
  have h2 : q.2.1 < azNf q.1 := Nat.blt_eq.mp h2
  have h3 : azFc (azTy q.1 q.2.1) = q.2.2.1 := Nat.eq_of_beq_eq_true h3
  obtain ⟨C, T, g1, g2, g3, g4, g5, g6⟩ := azCls q.1 h1
  refine ⟨hc, h1, h2, h3, C, T, g1, g2, ?_, g3, g4, g5, g6, ?_⟩
  · rw [g1] at h4
    simpa using h4
  · cases hh : q.2.2.2.2 with
    | none =>
      refine Or.inl ⟨rfl, azWf_w _ (azMap_mem (q := (k, q)) hc hm ?_)⟩
      unfold azFw
      rw [g1, hh]
      exact List.mem_singleton_self _
    | some w =>
      refine Or.inr ⟨w, rfl, List.mem_append_left _ (azMap_mem (q := (k, q)) hc hm ?_)⟩
      unfold azFx
      rw [g1, hh]
      exact List.mem_singleton_self _
theorem azFL_nf : azFL.all (fun l => l.all fun q => !(q.2.2.2.2.1 && q.2.2.2.2.2.isSome)) = true := by decide +kernel
theorem azFL_nofin {c : Nat} {q : azF} (h : q ∈ azFL.getD c []) : (!(q.2.2.2.2.1 && q.2.2.2.2.2.isSome)) = true := by
  have hl := azGetD_lt h
  rw [List.getD_eq_getElem?_getD, List.getElem?_eq_getElem hl] at h
  exact List.all_eq_true.mp (List.all_eq_true.mp azFL_nf _ (List.getElem_mem hl)) _ h
section Rows
variable {G : azG} {l : Launch} {M : azM} {pc : Nat} {σ : azS} {p : Program} {e : Env} {R : Room} {s : State} {m : MethodId} {args : Array Value} {below : List Frame} {meth : Method} {c : Code} {H : Heap} {locs : List Loc} {cells slots : Nat} {ls' : Array Slot} {Qw : State → Prop} {rest : List Value}
theorem az_getf (hC : zCtx p s m args meth c M) (hK : zK G s) (hR : zRel G σ H) (hb : σ.1.1 < azB) {a k : Nat} {q : Nat × Nat × Nat × Bool × Option String} (hq : azLk M.2.2.2.2.2.1 azFL k = some q) (ha : (azKd σ a).1 = q.1) (hdg : decode M.2.1 pc = .ok (.getfield k, 3))
    (kk : W p l e R s m args below meth c H locs cells slots Qw (F0 m (pc + 3) ls' (zFv G σ a (azTy q.1 q.2.1) q.2.1 :: rest))) : W p l e R s m args below meth c H locs cells slots Qw (F0 m pc ls' (.ref (zA G a) :: rest)) := by
  obtain ⟨-, h1, h2, -, C, T, g1, g2, g3, g4, g5, g6, g7, hl⟩ := azF_of hq
  have han : a < σ.1.1 := hR.2.2.1.1 a (by omega)
  rw [zA_lt (G := G) (show a < azB by omega)]
  have hP := hR.at (a := a) (by omega)
  rw [zCell_obj ha h1] at hP
  have hts := hC.2.2.2.2.2.1
  rcases hl with ⟨-, hl⟩ | ⟨hh, -, hl⟩
  · exact va_get (D := gD G) (tys := zTys G) hC.1 hC.2.1 hts g4 hC.2.2.2.2.1 hK.1 hP 0 rfl g1 q.2.1 h2 (hts _ hl) (fun x hx => by rw [g7 _ h2] at hx; exact hx) (zFs_get h2) hdg kk
  · exact va_getN (D := gD G) (tys := zTys G) hC.1 hC.2.1 hts g4 hC.2.2.2.2.1 hK.1 hP 0 rfl g1 q.2.1 h2 (va_Nw.use rfl (hK.2.1 _ hl)) (fun x hx => by rw [g7 _ h2] at hx; exact hx) (zFs_get h2) hdg kk
theorem az_putf (hC : zCtx p s m args meth c M) (hK : zK G s) (hR : zRel G σ H) (hlo : ∀ q ∈ locs, gB G ≤ q.base) (hb : σ.1.1 < azB) {σ2 : azS} {a k : Nat} {v : Value} {q : Nat × Nat × Nat × Bool × Option String} (hq : azLk M.2.2.2.2.2.1 azFL k = some q) (ha : (azKd σ a).1 = q.1)
    (hfin : (!q.2.2.2.1 || (M.2.2.2.2.1 && Nat.beq q.1 M.2.2.2.2.2.1)) = true) (hnar : narrow (azTy q.1 q.2.1) v = v) (hfit : fits (azTy q.1 q.2.1) v = true) (hdg : decode M.2.1 pc = .ok (.putfield k, 3))
    (hs : σ2.1 = σ.1) (hcell : zFs G σ2 a q.1 = (zFs G σ a q.1).set q.2.1 v) (hoth : ∀ b, b ≠ a → zCell G σ2 b = zCell G σ b) (hI : ∀ b, b ≠ a → σ2.2.1 b = σ.2.1 b)
    (kk : ∀ (H1 : Heap) (locs1 : List Loc), zRel G σ2 H1 → (∀ q ∈ locs1, gB G ≤ q.base) → W p l e R s m args below meth c H1 locs1 cells slots Qw (F0 m (pc + 3) ls' rest)) : W p l e R s m args below meth c H locs cells slots Qw (F0 m pc ls' (v :: .ref (zA G a) :: rest)) := by
  obtain ⟨-, h1, h2, -, C, T, g1, g2, gf, g4, g5, g6, g7, hl⟩ := azF_of hq
  have han : a < σ.1.1 := hR.2.2.1.1 a (by omega)
  rw [zA_lt (G := G) (show a < azB by omega)]
  have hP := hR.at (a := a) (by omega)
  rw [zCell_obj ha h1] at hP
  have hts := hC.2.2.2.2.2.1
  have hap := va_apart (own := C) (tys := zTys G) (D := gD G) hts g4 (azTy q.1) g5 g6 hK.1 g1
  obtain ⟨r, e1, cell, q1, q2, q3, q4⟩ := hP 0 _ rfl
  have hr : r = (C, T, azNf q.1) := Option.some.inj (e1.symm.trans g1)
  subst hr
  obtain ⟨hS, hfc, kC, hkC, hkind⟩ := hK.1.1 q.1 _ g1
  obtain ⟨cf, kf, fi, f, hi, hsl⟩ := hS q.2.1 h2
  have hlay := hts _ (g4 _ (u_in_lay h2))
  unfold u_lay at hlay
  have hst := (u_facts hfc hkC (u_lays hts g4 h2) hi).1
  have hsame : s.fieldFound? C (T q.2.1).2.1 (T q.2.1).2.2.1 = some (cf, kf, fi, f) := by rw [← g7 _ h2]; exact hi
  have fin : ∀ (H1 : Heap), H1[gB G + a]? = some (cell.setSlot ((gD G).2 q.1 q.2.1) v) → H1.size = H.size → (∀ x : Nat, x ≠ gB G + a → H1[x]? = H[x]?) → zRel G σ2 H1 := by
    intro H1 e1 e2 e3
    have hk2 : (azKd σ2 a).1 = q.1 := by unfold azKd at ha ⊢; rw [hs]; exact ha
    refine hR.put (a := a) (by omega) hs hoth hI ?_ e2 e3
    rw [zCell_obj hk2 h1, hcell]
    exact ⟨_, g1, t_OB.to (V := updV (vp_V (zFs G σ a q.1)) q.2.1 v) ⟨_, e1, q2, q3, t_set q4 hap h2 v⟩ (fun j _ => vp_updV_set (by rw [zFs_len]; exact h2) v j)⟩
  have hlo2 : ∀ (n : Nat), ∀ x ∈ locs ++ [(⟨gB G + a, n⟩ : Loc)], gB G ≤ x.base := by
    intro n x hx
    rcases List.mem_append.mp hx with h | h
    · exact hlo x h
    · rw [List.mem_singleton.mp h]
      exact Nat.le_add_right _ _
  cases hf : q.2.2.2.1 with
  | false =>
    rw [if_neg (by rw [gf, hf]; decide)] at hlay
    have h6 := u_store hfc hkC hkind hlay hi (g5 _ h2) hnar hfit
    rcases hl with ⟨-, hl⟩ | ⟨hh, -, hl⟩
    · refine W.putK hC.1 hC.2.1 (f := f) ⟨hC.2.2.2.2.1, hts _ hl, ⟨_, _, _, hsame⟩, hst⟩ (by rw [q2]; exact h6) q1 q3 (by rw [hsl]; exact k2_hasslot (q4 _ h2)) rfl rfl hdg fun H' e1 e2 e3 => ?_
      rw [hsl] at e1 ⊢
      exact kk H' _ (fin H' e1 e2 e3) (hlo2 _)
    · refine va_WputK hC.1 hC.2.1 (f := f) hC.2.2.2.2.1 (va_Nw.use rfl (hK.2.1 _ hl)) hsame hst (by rw [q2]; exact h6) q1 q3 (by rw [hsl]; exact k2_hasslot (q4 _ h2)) rfl rfl hdg fun H' e1 e2 e3 => ?_
      rw [hsl] at e1 ⊢
      exact kk H' _ (fin H' e1 e2 e3) (hlo2 _)
  | true =>
    rw [if_pos (by rw [gf, hf])] at hlay
    rw [hf] at hfin
    simp only [Bool.not_true, Bool.false_or, Bool.and_eq_true] at hfin
    have hcc : q.1 = M.2.2.2.2.2.1 := Nat.eq_of_beq_eq_true hfin.2
    have hcf : m.cls = cf := by
      obtain ⟨_, _, c', _, _, _, -, -, hf', -, -, -, hown2, -⟩ := Cond.laysFinal_spec hlay
      have e1 : c' = cf := by have := hi.symm.trans hf'; simp at this; exact this.1.symm
      rw [g7 _ h2, g2, hcc] at hown2
      rw [← e1]; exact Option.some.inj (hC.2.2.2.2.1.symm.trans hown2)
    have h6 := u_fits hfc hkC hkind (Or.inr hlay) hi (g5 _ h2) hnar hfit
    rcases hl with ⟨-, hl⟩ | ⟨hh, hn, hl⟩
    · refine W.putFinK hC.1 hC.2.1 hC.2.2.2.2.1 (hts _ hl) hsame hst hcf (hC.2.2.2.2.2.2.2.1 hfin.1) (by rw [q2]; exact h6) q1 q3 (by rw [hsl]; exact k2_hasslot (q4 _ h2)) rfl rfl hdg fun H' e1 e2 e3 => ?_
      rw [hsl] at e1 ⊢
      exact kk H' _ (fin H' e1 e2 e3) (hlo2 _)
    · exact absurd (azFL_nofin (azLk_mem hq)) (by simp [hf, hn])
end Rows
end
section
/-! SOUNDNESS: arrays, new objects. -/
section Rows
variable {G : azG} {l : Launch} {M : azM} {pc : Nat} {σ : azS} {p : Program} {e : Env} {R : Room} {s : State} {m : MethodId} {args : Array Value} {below : List Frame} {meth : Method} {c : Code} {H : Heap} {locs : List Loc} {cells slots : Nat} {ls' : Array Slot} {Qw : State → Prop} {rest : List Value}
theorem az_locs {b n : Nat} (hlo : ∀ q ∈ locs, gB G ≤ q.base) : ∀ x ∈ locs ++ [(⟨gB G + b, n⟩ : Loc)], gB G ≤ x.base := by
  intro x hx
  rcases List.mem_append.mp hx with h | h
  · exact hlo x h
  · rw [List.mem_singleton.mp h]
    exact Nat.le_add_right _ _
theorem zRel.old (hR : zRel G σ H) (hK : zK G s) : va_S (fun q => gB G ≤ q) (gH G) H [] := by
  refine ⟨by rw [hK.2.2.2.2.2.2.1, hR.1]; exact Nat.le_add_right _ _, fun q _ h2 => hR.2.2.2 q (Nat.not_le.mp h2), fun _ h => by cases h⟩
theorem az_iald (hC : zCtx p s m args meth c M) (hK : zK G s) (hR : zRel G σ H) (hb : σ.1.1 < azB) {a : Nat} {i : Int32} (ha : azIJ σ a) (hin : vp_in i (azKd σ a).2) (hdg : decode M.2.1 pc = .ok (.iaload, 1))
    (kk : W p l e R s m args below meth c H locs cells slots Qw (F0 m (pc + 1) ls' (.int (σ.2.1 a i.toNatClampNeg) :: rest))) : W p l e R s m args below meth c H locs cells slots Qw (F0 m pc ls' (.int i :: .ref (zA G a) :: rest)) := by
  rcases ha with ha | ha
  · have han : a < σ.1.1 := hR.2.2.1.1 a (by omega)
    rw [zA_lt (G := G) (show a < azB by omega)]
    have hP := hR.at (a := a) (by omega)
    rw [zCell_10 ha] at hP
    exact va_iald (D := gD G) (cl := vwCl) (tys := zTys G) hC.1 hC.2.1 hK.1 hP 0 0 rfl rfl hin hdg kk
  · obtain ⟨rfl, h2, h3⟩ := hR.2.2.1.2.1 a ha
    rw [h2] at hin
    rw [h3] at kk
    have hz : zA G (azB + 10) = gS G := by unfold zA; rw [if_neg (by omega), if_pos rfl]
    rw [hz]
    obtain ⟨scr, g1, g2, g3, g4, g5⟩ := hK.2.2.2.2.1.1
    have hlt : i.toNatClampNeg < gL G := Nat.not_le.mp fun q => hin (Or.inr q)
    exact W.iald (v := .int (gX G i.toNatClampNeg)) hC.1 hC.2.1 (by rw [hR.2.2.2 _ hK.2.2.2.2.1.2]; exact g1) g2 g3 (by rw [g4]; exact hin) (g5 _ hlt) rfl rfl hdg kk
theorem zA_byt {j : Nat} : zA G (azB + 20 + j) = gV G j := by
  unfold zA
  rw [if_neg (by omega), if_neg (by omega), if_neg (by omega), show azB + 20 + j - azB - 20 = j by omega]
theorem az_byt (hK : zK G s) (hR : zRel G σ H) {a : Nat} (ha : (azKd σ a).1 = 17) : ∃ cell : Cell, H[zA G a]? = some cell ∧ s.isArrayOf cell .byte ∧ cell.vm ≠ .unknown ∧ (azKd σ a).2 ≤ cell.slots.size ∧ cell.slots.size.toInt32 = Int32.ofNat (azKd σ a).2 ∧ ∀ j : Nat, j < (azKd σ a).2 → cell.slots[j]? = some (.int (σ.2.1 a j)) := by
  obtain ⟨j, hj, rfl, h2, h3⟩ := hR.2.2.1.2.2.2 a ha
  obtain ⟨cell, c1, c2, c3, c4, c5, c6, c7⟩ := (hK.2.2.2.2.2.1.1 j hj).2.2.2
  rw [zA_byt, h2]
  refine ⟨cell, by rw [hR.2.2.2 _ (Nat.not_le.mp c7)]; exact c1, c2, c3, c4, c5, fun k hk => ?_⟩
  rw [h3 k hk]
  exact c6 k hk
theorem az_ba (hC : zCtx p s m args meth c M) (hK : zK G s) (hR : zRel G σ H) (hb : σ.1.1 < azB) {a : Nat} {i : Int32} (ha : (azKd σ a).1 = 12 ∨ (azKd σ a).1 = 17) (hin : vp_in i (azKd σ a).2) (hdg : decode M.2.1 pc = .ok (.baload, 1))
    (kk : W p l e R s m args below meth c H locs cells slots Qw (F0 m (pc + 1) ls' (.int (σ.2.1 a i.toNatClampNeg) :: rest))) : W p l e R s m args below meth c H locs cells slots Qw (F0 m pc ls' (.int i :: .ref (zA G a) :: rest)) := by
  rcases ha with ha | ha
  · have han : a < σ.1.1 := hR.2.2.1.1 a (by omega)
    rw [zA_lt (G := G) (show a < azB by omega)]
    have hP := hR.at (a := a) (by omega)
    rw [zCell_12 ha] at hP
    exact va_zald (D := gD G) (cl := vwCl) (tys := zTys G) hC.1 hC.2.1 hK.1 hP 0 2 rfl rfl hin hdg kk
  · obtain ⟨cell, c1, c2, c3, c4, c5, c6⟩ := az_byt hK hR ha
    have hlt : i.toNatClampNeg < (azKd σ a).2 := Nat.not_le.mp fun q => hin (Or.inr q)
    exact W.bald (v := .int (σ.2.1 a i.toNatClampNeg)) hC.1 hC.2.1 c1 c2 c3 (fun q => q.elim (fun q => hin (Or.inl q)) (fun q => by omega)) (c6 _ hlt) rfl rfl hdg kk
theorem az_la (hC : zCtx p s m args meth c M) (hK : zK G s) (hR : zRel G σ H) (hb : σ.1.1 < azB) {a : Nat} {i : Int32} (ha : (azKd σ a).1 = 11) (hin : vp_in i (azKd σ a).2) (hdg : decode M.2.1 pc = .ok (.laload, 1))
    (kk : W p l e R s m args below meth c H locs cells slots Qw (F0 m (pc + 1) ls' (.long (σ.2.2.1 a i.toNatClampNeg) :: rest))) : W p l e R s m args below meth c H locs cells slots Qw (F0 m pc ls' (.int i :: .ref (zA G a) :: rest)) := by
  have han : a < σ.1.1 := hR.2.2.1.1 a (by omega)
  rw [zA_lt (G := G) (show a < azB by omega)]
  have hP := hR.at (a := a) (by omega)
  rw [zCell_11 ha] at hP
  exact va_lald (D := gD G) (cl := vwCl) (tys := zTys G) hC.1 hC.2.1 hK.1 hP 0 1 rfl rfl hin hdg kk
theorem az_aa (hC : zCtx p s m args meth c M) (hK : zK G s) (hR : zRel G σ H) (hb : σ.1.1 < azB) {a : Nat} {i : Int32} (ha : (azKd σ a).1 = 13 ∨ (azKd σ a).1 = 14) (hin : vp_in i (azKd σ a).2) (hdg : decode M.2.1 pc = .ok (.aaload, 1))
    (kk : W p l e R s m args below meth c H locs cells slots Qw (F0 m (pc + 1) ls' (va_rf ((σ.2.2.2 a i.toNatClampNeg).map (zA G)) :: rest))) : W p l e R s m args below meth c H locs cells slots Qw (F0 m pc ls' (.int i :: .ref (zA G a) :: rest)) := by
  have han : a < σ.1.1 := hR.2.2.1.1 a (by rcases ha with h | h <;> omega)
  rw [zA_lt (G := G) (show a < azB by omega)]
  have hP := hR.at (a := a) (by rcases ha with h | h <;> omega)
  rcases ha with ha | ha
  · rw [zCell_13 ha] at hP
    exact va_aldq (D := gD G) (cl := vwCl) (tys := zTys G) hC.1 hC.2.1 hK.1 hP 0 3 rfl rfl hin hdg kk
  · rw [zCell_14 ha] at hP
    exact va_aldq (D := gD G) (cl := vwCl) (tys := zTys G) hC.1 hC.2.1 hK.1 hP 0 4 rfl rfl hin hdg kk
theorem az_len (hC : zCtx p s m args meth c M) (hK : zK G s) (hR : zRel G σ H) (hb : σ.1.1 < azB) {a : Nat} (ha : (10 ≤ (azKd σ a).1 ∧ (azKd σ a).1 ≤ 15) ∨ (azKd σ a).1 = 17) (hdg : decode M.2.1 pc = .ok (.arraylength, 1))
    (kk : W p l e R s m args below meth c H locs cells slots Qw (F0 m (pc + 1) ls' (.int (nI (azKd σ a).2) :: rest))) : W p l e R s m args below meth c H locs cells slots Qw (F0 m pc ls' (.ref (zA G a) :: rest)) := by
  rcases ha with ha | ha
  rotate_left
  · obtain ⟨cell, c1, c2, c3, c4, c5, c6⟩ := az_byt hK hR ha
    exact W.alen (n := Int32.ofNat (azKd σ a).2) hC.1 hC.2.1 c1 c2 c5 rfl rfl hdg kk
  rcases (show (azKd σ a).1 = 10 ∨ (azKd σ a).1 = 11 ∨ (azKd σ a).1 = 12 ∨ (azKd σ a).1 = 13 ∨ (azKd σ a).1 = 14 ∨ (azKd σ a).1 = 15 by omega) with h | h | h | h | h | h
  · have han : a < σ.1.1 := hR.2.2.1.1 a (by omega)
    rw [zA_lt (G := G) (show a < azB by omega)]
    have hP := hR.at (a := a) (by omega)
    rw [zCell_10 h] at hP
    exact va_alen (D := gD G) (cl := vwCl) (tys := zTys G) hC.1 hC.2.1 hK.1 hP 0 0 rfl rfl rfl hdg kk
  · have han : a < σ.1.1 := hR.2.2.1.1 a (by omega)
    rw [zA_lt (G := G) (show a < azB by omega)]
    have hP := hR.at (a := a) (by omega)
    rw [zCell_11 h] at hP
    exact va_alen (D := gD G) (cl := vwCl) (tys := zTys G) hC.1 hC.2.1 hK.1 hP 0 1 rfl rfl rfl hdg kk
  · have han : a < σ.1.1 := hR.2.2.1.1 a (by omega)
    rw [zA_lt (G := G) (show a < azB by omega)]
    have hP := hR.at (a := a) (by omega)
    rw [zCell_12 h] at hP
    exact va_alen (D := gD G) (cl := vwCl) (tys := zTys G) hC.1 hC.2.1 hK.1 hP 0 2 rfl rfl rfl hdg kk
  · have han : a < σ.1.1 := hR.2.2.1.1 a (by omega)
    rw [zA_lt (G := G) (show a < azB by omega)]
    have hP := hR.at (a := a) (by omega)
    rw [zCell_13 h] at hP
    exact va_alen (D := gD G) (cl := vwCl) (tys := zTys G) hC.1 hC.2.1 hK.1 hP 0 3 rfl rfl rfl hdg kk
  · have han : a < σ.1.1 := hR.2.2.1.1 a (by omega)
    rw [zA_lt (G := G) (show a < azB by omega)]
    have hP := hR.at (a := a) (by omega)
    rw [zCell_14 h] at hP
    exact va_alen (D := gD G) (cl := vwCl) (tys := zTys G) hC.1 hC.2.1 hK.1 hP 0 4 rfl rfl rfl hdg kk
  · obtain ⟨rfl, h2, h3⟩ := hR.2.2.1.2.1 a h
    have hz : zA G (azB + 10) = gS G := by unfold zA; rw [if_neg (by omega), if_pos rfl]
    rw [hz]
    rw [h2] at kk
    obtain ⟨scr, g1, g2, g3, g4, g5⟩ := hK.2.2.2.2.1.1
    exact W.alen (n := Int32.ofNat (gL G)) hC.1 hC.2.1 (by rw [hR.2.2.2 _ hK.2.2.2.2.1.2]; exact g1) g2 (by rw [g4] <;> rfl) rfl rfl hdg kk
theorem az_cellI {a n : Nat} {i : Int32} {x : Int32} {f : Nat → Int32} {cA : ClassId} {H1 : Heap} (e : H1[gB G + a]? = some ((vp_cell cA (n, .inl f)).setSlot i.toNatClampNeg (.int x))) : va_at (gD G) vwCl (gB G + a, .inl (cA, n, .inl (fun j => if j = i.toNatClampNeg then x else f j))) H1 := by
  show H1[gB G + a]? = some (vp_cell _ _)
  rw [e, vp_cell_i, vp_cell_i, arrV_store]
  congr 2
  funext q
  by_cases hq : q = i.toNatClampNeg
  · subst hq
    simp [updV]
  · simp [updV, hq]
theorem az_iast (hC : zCtx p s m args meth c M) (hK : zK G s) (hR : zRel G σ H) (hlo : ∀ q ∈ locs, gB G ≤ q.base) (hb : σ.1.1 < azB) {a : Nat} {i x : Int32} (ha : (azKd σ a).1 = 10) (hin : vp_in i (azKd σ a).2) (hdg : decode M.2.1 pc = .ok (.iastore, 1))
    (kk : ∀ (H1 : Heap) (locs1 : List Loc), zRel G (azSI σ a i.toNatClampNeg x) H1 → (∀ q ∈ locs1, gB G ≤ q.base) → W p l e R s m args below meth c H1 locs1 cells slots Qw (F0 m (pc + 1) ls' rest)) : W p l e R s m args below meth c H locs cells slots Qw (F0 m pc ls' (.int x :: .int i :: .ref (zA G a) :: rest)) := by
  have han : a < σ.1.1 := hR.2.2.1.1 a (by omega)
  rw [zA_lt (G := G) (show a < azB by omega)]
  have hP := hR.at (a := a) (by omega)
  rw [zCell_10 ha] at hP
  refine W.iast hC.1 hC.2.1 (hP 0 _ rfl) ((hK.1.2 0 _ rfl).1 _ (fun j => .int (σ.2.1 a j))) (fun q => by cases q) (by show ¬ (i < 0 ∨ (arrV _ _ _).slots.size ≤ _); rw [arrV_size]; exact hin) rfl rfl hdg fun H1 e1 z oq => ?_
  refine kk H1 _ (hR.put (a := a) (by omega) rfl (fun b hb => zCell_congr rfl (azUp_ne _ _ _ hb) rfl rfl) (fun b hb => azUp_ne _ _ _ hb) ?_ z oq) (az_locs hlo)
  rw [zCell_10 (σ := azSI σ a i.toNatClampNeg x) ha, show (azSI σ a i.toNatClampNeg x).2.1 a = fun j => if j = i.toNatClampNeg then x else σ.2.1 a j from azUp_eq _ _ _ _]
  exact az_cellI e1
theorem az_zast (hC : zCtx p s m args meth c M) (hK : zK G s) (hR : zRel G σ H) (hlo : ∀ q ∈ locs, gB G ≤ q.base) (hb : σ.1.1 < azB) {a : Nat} {i x : Int32} (ha : (azKd σ a).1 = 12) (hin : vp_in i (azKd σ a).2) (hx : x = 0 ∨ x = 1) (hdg : decode M.2.1 pc = .ok (.bastore, 1))
    (kk : ∀ (H1 : Heap) (locs1 : List Loc), zRel G (azSI σ a i.toNatClampNeg x) H1 → (∀ q ∈ locs1, gB G ≤ q.base) → W p l e R s m args below meth c H1 locs1 cells slots Qw (F0 m (pc + 1) ls' rest)) : W p l e R s m args below meth c H locs cells slots Qw (F0 m pc ls' (.int x :: .int i :: .ref (zA G a) :: rest)) := by
  have han : a < σ.1.1 := hR.2.2.1.1 a (by omega)
  rw [zA_lt (G := G) (show a < azB by omega)]
  have hP := hR.at (a := a) (by omega)
  rw [zCell_12 ha] at hP
  refine W.zast hC.1 hC.2.1 (hP 0 _ rfl) ((hK.1.2 2 _ rfl).1 _ (fun j => .int (σ.2.1 a j))) (fun q => by cases q) (by show ¬ (i < 0 ∨ (arrV _ _ _).slots.size ≤ _); rw [arrV_size]; exact hin) rfl rfl hdg fun H1 e1 z oq => ?_
  have hnx : narrow .boolean (.int x) = .int x := by rcases hx with rfl | rfl <;> rfl
  rw [hnx] at e1
  refine kk H1 _ (hR.put (a := a) (by omega) rfl (fun b hb => zCell_congr rfl (azUp_ne _ _ _ hb) rfl rfl) (fun b hb => azUp_ne _ _ _ hb) ?_ z oq) (az_locs hlo)
  rw [zCell_12 (σ := azSI σ a i.toNatClampNeg x) ha, show (azSI σ a i.toNatClampNeg x).2.1 a = fun j => if j = i.toNatClampNeg then x else σ.2.1 a j from azUp_eq _ _ _ _]
  exact az_cellI e1
theorem az_last (hC : zCtx p s m args meth c M) (hK : zK G s) (hR : zRel G σ H) (hlo : ∀ q ∈ locs, gB G ≤ q.base) (hb : σ.1.1 < azB) {a : Nat} {i : Int32} {x : Int64} (ha : (azKd σ a).1 = 11) (hin : vp_in i (azKd σ a).2) (hdg : decode M.2.1 pc = .ok (.lastore, 1))
    (kk : ∀ (H1 : Heap) (locs1 : List Loc), zRel G (azSJ σ a i.toNatClampNeg x) H1 → (∀ q ∈ locs1, gB G ≤ q.base) → W p l e R s m args below meth c H1 locs1 cells slots Qw (F0 m (pc + 1) ls' rest)) : W p l e R s m args below meth c H locs cells slots Qw (F0 m pc ls' (.long x :: .int i :: .ref (zA G a) :: rest)) := by
  have han : a < σ.1.1 := hR.2.2.1.1 a (by omega)
  rw [zA_lt (G := G) (show a < azB by omega)]
  have hP := hR.at (a := a) (by omega)
  rw [zCell_11 ha] at hP
  refine W.last hC.1 hC.2.1 (hP 0 _ rfl) ((hK.1.2 1 _ rfl).1 _ (fun j => .long (σ.2.2.1 a j))) (fun q => by cases q) (by show ¬ (i < 0 ∨ (arrV _ _ _).slots.size ≤ _); rw [arrV_size]; exact hin) rfl rfl hdg fun H1 e1 z oq => ?_
  refine kk H1 _ (hR.put (a := a) (by omega) rfl (fun b hb => zCell_congr rfl rfl (azUp_ne _ _ _ hb) rfl) (fun b hb => rfl) ?_ z oq) (az_locs hlo)
  rw [zCell_11 (σ := azSJ σ a i.toNatClampNeg x) ha, show (azSJ σ a i.toNatClampNeg x).2.2.1 a = fun j => if j = i.toNatClampNeg then x else σ.2.2.1 a j from azUp_eq _ _ _ _]
  show H1[gB G + a]? = some (vp_cell _ _)
  rw [e1, vp_cell_l, vp_cell_l, arrV_store]
  congr 2
  funext q
  by_cases hq : q = i.toNatClampNeg
  · subst hq
    simp [updV]
  · simp [updV, hq]
theorem az_cellR {a n : Nat} {i : Int32} {x : Option Nat} {cA : ClassId} {H1 : Heap} (e : H1[gB G + a]? = some ((vp_cell cA (n, .inr (.inr (.inr (.inr (zRow G σ a)))))).setSlot i.toNatClampNeg (va_rf (x.map (zA G))))) : va_at (gD G) vwCl (gB G + a, .inl (cA, n, .inr (.inr (.inr (.inr (zRow G (azSR σ a i.toNatClampNeg x) a)))))) H1 := by
  show H1[gB G + a]? = some (vp_cell _ _)
  rw [e, vp_cell_q, vp_cell_q, arrV_store]
  congr 2
  funext q
  by_cases hq : q = i.toNatClampNeg
  · subst hq
    simp [updV, zRow, azSR, azUp]
  · simp [updV, zRow, azSR, azUp, hq]
theorem az_aastN (hC : zCtx p s m args meth c M) (hK : zK G s) (hR : zRel G σ H) (hlo : ∀ q ∈ locs, gB G ≤ q.base) (hb : σ.1.1 < azB) {a : Nat} {i : Int32} (ha : (azKd σ a).1 = 13 ∨ (azKd σ a).1 = 14) (hin : vp_in i (azKd σ a).2) (hdg : decode M.2.1 pc = .ok (.aastore, 1))
    (kk : ∀ (H1 : Heap) (locs1 : List Loc), zRel G (azSR σ a i.toNatClampNeg none) H1 → (∀ q ∈ locs1, gB G ≤ q.base) → W p l e R s m args below meth c H1 locs1 cells slots Qw (F0 m (pc + 1) ls' rest)) : W p l e R s m args below meth c H locs cells slots Qw (F0 m pc ls' (.null :: .int i :: .ref (zA G a) :: rest)) := by
  have ha15 : (azKd σ a).1 < 15 := by rcases ha with h | h <;> omega
  have han : a < σ.1.1 := hR.2.2.1.1 a ha15
  rw [zA_lt (G := G) (show a < azB by omega)]
  have hP := hR.at (a := a) ha15
  have fin : ∀ (H1 : Heap), va_at (gD G) vwCl (gB G + a, zCell G (azSR σ a i.toNatClampNeg none) a) H1 → H1.size = H.size → (∀ x : Nat, x ≠ gB G + a → H1[x]? = H[x]?) → zRel G (azSR σ a i.toNatClampNeg none) H1 := fun H1 h z oq =>
    hR.put (a := a) ha15 rfl (fun b hb => zCell_congr rfl rfl rfl (azUp_ne _ _ _ hb)) (fun b hb => rfl) h z oq
  rcases ha with ha | ha
  · rw [zCell_13 ha] at hP
    refine va_WaastN (C := RX3) hC.1 hC.2.1 (hP 0 _ rfl) ((hK.1.2 3 _ rfl).1 _ (fun j => va_rf (zRow G σ a j))) (fun q => by cases q) (by show ¬ (i < 0 ∨ (arrV _ _ _).slots.size ≤ _); rw [arrV_size]; exact hin) rfl rfl hdg fun H1 e1 z oq => ?_
    refine kk H1 _ (fin H1 ?_ z oq) (az_locs hlo)
    rw [zCell_13 (σ := azSR σ a i.toNatClampNeg none) ha]
    exact az_cellR (x := none) e1
  · rw [zCell_14 ha] at hP
    refine va_WaastN (C := RX5) hC.1 hC.2.1 (hP 0 _ rfl) ((hK.1.2 4 _ rfl).1 _ (fun j => va_rf (zRow G σ a j))) (fun q => by cases q) (by show ¬ (i < 0 ∨ (arrV _ _ _).slots.size ≤ _); rw [arrV_size]; exact hin) rfl rfl hdg fun H1 e1 z oq => ?_
    refine kk H1 _ (fin H1 ?_ z oq) (az_locs hlo)
    rw [zCell_14 (σ := azSR σ a i.toNatClampNeg none) ha]
    exact az_cellR (x := none) e1
theorem az_obj (hK : zK G s) (hR : zRel G σ H) {b ci : Nat} (hc : ci < 10) (hkb : (azKd σ b).1 = ci) : ∃ cell : Cell, H[gB G + b]? = some cell ∧ cell.cls = (gD G).1 ci ∧ cell.vm = .none ∧ ClassAt s (azN ci) ((gD G).1 ci) := by
  obtain ⟨C, T, g1, g2, -⟩ := azCls ci hc
  have hP := hR.at (a := b) (by omega)
  rw [zCell_obj hkb hc] at hP
  obtain ⟨r, e1, cell, q1, q2, q3, q4⟩ := hP 0 _ rfl
  have h := (hK.1.1 ci _ g1).2
  exact ⟨cell, q1, q2, q3, by rw [← g2]; exact h⟩
theorem az_aast1 (hC : zCtx p s m args meth c M) (hK : zK G s) (hR : zRel G σ H) (hlo : ∀ q ∈ locs, gB G ≤ q.base) (hb : σ.1.1 < azB) {a b t0 ci : Nat} {i : Int32} {cA : ClassId} (hci : ci < 10) (ha15 : (azKd σ a).1 < 15) (hkb : (azKd σ b).1 = ci) (hin : vp_in i (azKd σ a).2)
    (hc1 : zCell G σ a = .inl (cA, (azKd σ a).2, .inr (.inr (.inr (.inr (zRow G σ a)))))) (hc2 : zCell G (azSR σ a i.toNatClampNeg (some b)) a = .inl (cA, (azKd σ a).2, .inr (.inr (.inr (.inr (zRow G (azSR σ a i.toNatClampNeg (some b)) a)))))) (ht : (zTys G)[t0]? = some (cA, .object (azN ci))) (hdg : decode M.2.1 pc = .ok (.aastore, 1))
    (kk : ∀ (H1 : Heap) (locs1 : List Loc), zRel G (azSR σ a i.toNatClampNeg (some b)) H1 → (∀ q ∈ locs1, gB G ≤ q.base) → W p l e R s m args below meth c H1 locs1 cells slots Qw (F0 m (pc + 1) ls' rest)) : W p l e R s m args below meth c H locs cells slots Qw (F0 m pc ls' (.ref (zA G b) :: .int i :: .ref (zA G a) :: rest)) := by
  have han : a < σ.1.1 := hR.2.2.1.1 a ha15
  have hbn : b < σ.1.1 := hR.2.2.1.1 b (by omega)
  rw [zA_lt (G := G) (show a < azB by omega), zA_lt (G := G) (show b < azB by omega)]
  have hP := hR.at (a := a) ha15
  rw [hc1] at hP
  have hlt : i.toNatClampNeg < (azKd σ a).2 := Nat.not_le.mp fun q => hin (Or.inr q)
  have h0 : ¬ i < 0 := fun q => hin (Or.inl q)
  obtain ⟨cellV, g1, g2, g3, hcls⟩ := az_obj hK hR hci hkb
  obtain ⟨kA, comp, k1, k2, k3, -⟩ := (hK.1.2 t0 _ ht).2
  have hcomp : comp = (gD G).1 ci := Option.some.inj (k3.symm.trans hcls.1)
  subst hcomp
  obtain ⟨kC, hkC, -⟩ := id hcls.2
  refine W.aast hC.1 hC.2.1 (hP 0 _ rfl) (fun q h => by cases h) (fun h => by cases h) k1 k2 rfl hkC ⟨h0, by show _ < (arrV _ _ _).slots.size; rw [arrV_size]; exact hlt⟩ g1 (fun q h => by rw [g3] at h; cases h) (by rw [g2]; exact hkC) (by rw [g2]; exact va_assign hcls) rfl rfl hdg fun H1 e1 z oq => ?_
  refine kk H1 _ (hR.put (a := a) ha15 rfl (fun b hb => zCell_congr rfl rfl rfl (azUp_ne _ _ _ hb)) (fun b hb => rfl) ?_ z oq) (az_locs hlo)
  rw [hc2]
  exact az_cellR (x := some b) (by rw [show va_rf ((some b).map (zA G)) = .ref (gB G + b) by show Value.ref (zA G b) = _; rw [zA_lt (show b < azB by omega)]]; exact e1)
end Rows
end
section
/-! SOUNDNESS: new objects and arrays; all instructions that touch cells. -/
theorem azNok : azNL.all (fun l => l.all fun q => Nat.blt q.2.1 10 && Nat.beq (azNf q.2.1) q.2.2) = true := by decide +kernel
theorem azN_of {c k : Nat} {q : Nat × Nat} (h : azLk c azNL k = some q) : c < 17 ∧ q.1 < 10 ∧ azNf q.1 = q.2 ∧ Cond.classLink (azN c) k (azN q.1) ∈ azWords ∧ Cond.instantiable (azN q.1) q.2 ∈ azWords ∧ Cond.initialized (azN q.1) ∈ azWords := by
  have hm := azLk_mem h
  have hc : c < 17 := azGetD_lt hm
  have hl := azGetD_lt hm
  have hm2 := hm
  rw [List.getD_eq_getElem?_getD, List.getElem?_eq_getElem hl] at hm2
  have hok := List.all_eq_true.mp (List.all_eq_true.mp azNok _ (List.getElem_mem hl)) _ hm2
  rw [Bool.and_eq_true] at hok
  refine ⟨hc, Nat.blt_eq.mp hok.1, Nat.eq_of_beq_eq_true hok.2, azWn_w _ (azMap_mem (q := (k, q)) hc hm ?_), azWn_w _ (azMap_mem (q := (k, q)) hc hm ?_), azWn_w _ (azMap_mem (q := (k, q)) hc hm ?_)⟩ <;> simp [azNw]
theorem azAok : azAL.all (fun l => l.all fun q => Nat.beq q.2 13 || Nat.beq q.2 14) = true := by decide +kernel
theorem azA_of {c k : Nat} {q : Nat} (h : azLk c azAL k = some q) : c < 17 ∧ ((q = 13 ∧ Cond.classLink (azN c) k RX3 ∈ azWords) ∨ (q = 14 ∧ Cond.classLink (azN c) k RX5 ∈ azWords)) := by
  have hm := azLk_mem h
  have hc : c < 17 := azGetD_lt hm
  have hl := azGetD_lt hm
  have hm2 := hm
  rw [List.getD_eq_getElem?_getD, List.getElem?_eq_getElem hl] at hm2
  have hok := List.all_eq_true.mp (List.all_eq_true.mp azAok _ (List.getElem_mem hl)) _ hm2
  rw [Bool.or_eq_true] at hok
  refine ⟨hc, ?_⟩
  rcases hok with h1 | h1
  · have e : q = 13 := Nat.eq_of_beq_eq_true h1
    subst e
    exact Or.inl ⟨rfl, azWa_w _ (azMap_mem (q := (k, 13)) hc hm (List.mem_singleton_self _))⟩
  · have e : q = 14 := Nat.eq_of_beq_eq_true h1
    subst e
    exact Or.inr ⟨rfl, azWa_w _ (azMap_mem (q := (k, 14)) hc hm (List.mem_singleton_self _))⟩
section Rows
variable {G : azG} {l : Launch} {M : azM} {pc : Nat} {σ : azS} {p : Program} {e : Env} {R : Room} {s : State} {m : MethodId} {args : Array Value} {below : List Frame} {meth : Method} {c : Code} {H : Heap} {locs : List Loc} {cells slots : Nat} {ls' : Array Slot} {Qw : State → Prop} {rest : List Value}
theorem az_newo (hC : zCtx p s m args meth c M) (hK : zK G s) (hR : zRel G σ H) (hb : σ.1.1 + 1 < azB) {k : Nat} {q : Nat × Nat} (hq : azLk M.2.2.2.2.2.1 azNL k = some q) (hc : cells + 1 ≤ R.cells) (hs : slots + q.2 ≤ R.slots) (hdg : decode M.2.1 pc = .ok (.new k, 3))
    (kk : ∀ (H1 : Heap), zRel G (azNew σ q.1 q.2) H1 → W p l e R s m args below meth c H1 locs (cells + 1) (slots + q.2) Qw (F0 m (pc + 3) ls' (.ref (zA G σ.1.1) :: rest))) : W p l e R s m args below meth c H locs cells slots Qw (F0 m pc ls' rest) := by
  obtain ⟨-, h1, h2, w1, w2, w3⟩ := azN_of hq
  obtain ⟨C, T, g1, g2, g4, g5, g6, g7⟩ := azCls q.1 h1
  have hts := hC.2.2.2.2.2.1
  have hKn := hK.1.1 q.1 _ g1
  rw [zA_lt (G := G) (show σ.1.1 < azB by omega)] at kk
  rw [← g2] at w1 w2 w3
  refine W.newcK hC.1 hC.2.1 hC.2.2.2.2.1 (hts _ w1) (hts _ w2) (hts _ w3) rfl hdg hc hs hKn.2.1 rfl fun H1 kC hkC e1 z1 o1 => ?_
  have hkk := kk H1 (hR.push (by omega) (by omega) ?_ z1 o1)
  · rw [← hR.1] at hkk
    exact hkk
  · have hk2 : (azKd (azNew σ q.1 q.2) σ.1.1).1 = q.1 := by simp [azKd, azNew]
    rw [zCell_obj hk2 h1, ← hR.1]
    refine ⟨_, g1, (u_born (azTy q.1) hts g4 hKn hkC e1 g5).to (fun j hj => ?_)⟩
    show defaultValue (azTy q.1 j) = vp_V _ j
    unfold vp_V
    rw [List.getD_eq_getElem?_getD, zFs_get hj]
    have h5 := azTy5_of h1 hj
    show _ = zFv G (azNew σ q.1 q.2) σ.1.1 (azTy q.1 j) j
    revert h5
    generalize azTy q.1 j = t
    intro h5
    cases t <;> first | (simp [zFv, azNew, defaultValue, va_rf]; done) | cases h5
theorem az_newa {k : Nat} {t : ArrayType} (hC : zCtx p s m args meth c M) (hK : zK G s) (hR : zRel G σ H) (hb : σ.1.1 + 1 < azB) {n : Int32} (hk : azNarr t = some k) (hn : ¬ n < 0) (hN : n.toNatClampNeg ≤ 10000) (hc : cells + 1 ≤ R.cells) (hs : slots + n.toNatClampNeg ≤ R.slots) (hdg : decode M.2.1 pc = .ok (.newarray t, 2))
    (kk : ∀ (H1 : Heap), zRel G (azNew σ k n.toNatClampNeg) H1 → W p l e R s m args below meth c H1 locs (cells + 1) (slots + n.toNatClampNeg) Qw (F0 m (pc + 2) ls' (.ref (zA G σ.1.1) :: rest))) : W p l e R s m args below meth c H locs cells slots Qw (F0 m pc ls' (.int n :: rest)) := by
  have hts := hC.2.2.2.2.2.1
  rw [zA_lt (G := G) (show σ.1.1 < azB by omega), ← hR.1] at kk
  have hkd : azKd (azNew σ k n.toNatClampNeg) σ.1.1 = (k, n.toNatClampNeg) := by simp [azKd, azNew]
  have hI : (azNew σ k n.toNatClampNeg).2.1 σ.1.1 = fun _ => 0 := by funext j; simp [azNew]
  have hJ : (azNew σ k n.toNatClampNeg).2.2.1 σ.1.1 = fun _ => 0 := by funext j; simp [azNew]
  cases t <;> cases hk
  · refine va_newaK hC.1 hC.2.1 (hts _ (azWr_w _ (by simp [azWr, azArr, newarray.typeOf]))) rfl hdg rfl hn rfl (by simp only [newarray.typeOf, componentBytes]; omega) hc hs rfl fun H1 cA e1 z1 o1 _ hf => kk H1 (hR.push (by omega) (by omega) ?_ z1 o1)
    have hcA : gA G 12 = cA := Option.some.inj ((hK.1.2 2 _ rfl).2.symm.trans hf)
    rw [zCell_12 (by rw [hkd]), hkd, hI, hcA, ← hR.1]
    exact e1
  · refine va_newaK hC.1 hC.2.1 (hts _ (azWr_w _ (by simp [azWr, azArr, newarray.typeOf]))) rfl hdg rfl hn rfl (by simp only [newarray.typeOf, componentBytes]; omega) hc hs rfl fun H1 cA e1 z1 o1 _ hf => kk H1 (hR.push (by omega) (by omega) ?_ z1 o1)
    have hcA : gA G 10 = cA := Option.some.inj ((hK.1.2 0 _ rfl).2.symm.trans hf)
    rw [zCell_10 (by rw [hkd]), hkd, hI, hcA, ← hR.1]
    exact e1
  · refine va_newaK hC.1 hC.2.1 (hts _ (azWr_w _ (by simp [azWr, azArr, newarray.typeOf]))) rfl hdg rfl hn rfl (by simp only [newarray.typeOf, componentBytes]; omega) hc hs rfl fun H1 cA e1 z1 o1 _ hf => kk H1 (hR.push (by omega) (by omega) ?_ z1 o1)
    have hcA : gA G 11 = cA := Option.some.inj ((hK.1.2 1 _ rfl).2.symm.trans hf)
    rw [zCell_11 (by rw [hkd]), hkd, hJ, hcA, ← hR.1]
    exact e1
theorem az_newq {k q : Nat} (hC : zCtx p s m args meth c M) (hK : zK G s) (hR : zRel G σ H) (hb : σ.1.1 + 1 < azB) {n : Int32} (hq : azLk M.2.2.2.2.2.1 azAL k = some q) (hn : ¬ n < 0) (hN : n.toNatClampNeg ≤ 10000) (hc : cells + 1 ≤ R.cells) (hs : slots + n.toNatClampNeg ≤ R.slots) (hdg : decode M.2.1 pc = .ok (.anewarray k, 3))
    (kk : ∀ (H1 : Heap), zRel G (azNew σ q n.toNatClampNeg) H1 → W p l e R s m args below meth c H1 locs (cells + 1) (slots + n.toNatClampNeg) Qw (F0 m (pc + 3) ls' (.ref (zA G σ.1.1) :: rest))) : W p l e R s m args below meth c H locs cells slots Qw (F0 m pc ls' (.int n :: rest)) := by
  have hts := hC.2.2.2.2.2.1
  rw [zA_lt (G := G) (show σ.1.1 < azB by omega), ← hR.1] at kk
  have hkd : azKd (azNew σ q n.toNatClampNeg) σ.1.1 = (q, n.toNatClampNeg) := by simp [azKd, azNew]
  have hRw : zRow G (azNew σ q n.toNatClampNeg) σ.1.1 = fun _ => none := by funext j; simp [zRow, azNew]
  have fin : ∀ cA : ClassId, va_at (gD G) vwCl (H.size, .inl (cA, n.toNatClampNeg, .inr (.inr (.inr (.inr (fun _ => none)))))) (H.push { cls := cA, slots := Array.replicate n.toNatClampNeg .null, vm := .none }) := by
    intro cA
    show (H.push _)[H.size]? = some (vp_cell _ _)
    rw [Array.getElem?_push_size, vp_cell_q, arrV_new]
    rfl
  have o1 : ∀ (x : Cell) (q : Nat), q < H.size → (H.push x)[q]? = H[q]? := fun x q hq => by rw [Array.getElem?_push, if_neg (Nat.ne_of_lt hq)]
  rcases (azA_of hq).2 with ⟨rfl, w⟩ | ⟨rfl, w⟩
  · refine W.anew hC.1 hC.2.1 hC.2.2.2.2.1 (hts _ w) (va_AO.use hK.2.2.1.1) rfl hdg rfl hn (by omega) hc hs fun cA kA comp f1 f2 f3 f4 => kk _ (hR.push (by omega) (by omega) ?_ (by simp) (o1 _))
    have hcA : gA G 13 = cA := by
      obtain ⟨_, _, _, _, _, h⟩ := (hK.1.2 3 _ rfl).2
      exact Option.some.inj (h.symm.trans f1)
    rw [zCell_13 (by rw [hkd]), hkd, hRw, hcA, ← hR.1]
    exact fin cA
  · refine W.anew hC.1 hC.2.1 hC.2.2.2.2.1 (hts _ w) (va_AO.use hK.2.2.1.2) rfl hdg rfl hn (by omega) hc hs fun cA kA comp f1 f2 f3 f4 => kk _ (hR.push (by omega) (by omega) ?_ (by simp) (o1 _))
    have hcA : gA G 14 = cA := by
      obtain ⟨_, _, _, _, _, h⟩ := (hK.1.2 4 _ rfl).2
      exact Option.some.inj (h.symm.trans f1)
    rw [zCell_14 (by rw [hkd]), hkd, hRw, hcA, ← hR.1]
    exact fin cA
end Rows
/-- cells are made, locals stay -/
theorem az_nw {G : azG} {l : Launch} {d : Nat} {M : azM} {pc : Nat} {ls st : List Value} {σ : azS} {Q : azQ} {pc2 : Nat} {st2 : List Value} {k N : Nat}
    (h : ∀ {p : Program} {e : Env} {R : Room} {s : State} {m : MethodId} {args : Array Value} {below : List Frame} {meth : Method} {c : Code} {H : Heap} {locs : List Loc} {cells slots : Nat} {ls' : Array Slot} {Qw : State → Prop},
      zCtx p s m args meth c M → zK G s → zRel G σ H → σ.1.1 + 1 < azB → cells + 1 ≤ R.cells → slots + N ≤ R.slots → (∀ (H1 : Heap), zRel G (azNew σ k N) H1 → W p l e R s m args below meth c H1 locs (cells + 1) (slots + N) Qw (F0 m pc2 ls' (st2.map (zVal G)))) →
      W p l e R s m args below meth c H locs cells slots Qw (F0 m pc ls' (st.map (zVal G)))) :
    zReal G l d M pc2 ls st2 (azNew σ k N) Q → zReal G l d M pc ls st σ Q := by
  have e1 : (azNew σ k N).1.1 = σ.1.1 + 1 := rfl
  have e2 : (azNew σ k N).1.2.1 = σ.1.2.1 + N := rfl
  refine az_go (by omega) (by omega) rfl (fun hC hK hR hl hlo hb _ hc hs _ _ kk => h hC hK hR (by omega) (by omega) (by omega) (fun H1 hR1 => ?_))
  have k1 := kk H1 _ _ hR1 hl hlo
  rw [e1, e2, show σ.1.1 + 1 - σ.1.1 = 1 by omega, show σ.1.2.1 + N - σ.1.2.1 = N by omega] at k1
  exact k1
def azHp (i : Instr) : Bool := match i with
  | .getfield _ | .putfield _ | .arraylength | .iaload | .baload | .laload | .aaload | .iastore | .bastore | .lastore | .aastore | .new _ | .newarray _ | .anewarray _ | .ldc _ | .ldc_w _ | .ldc2_w _ | .getstatic _ => true
  | _ => false
theorem azD_of {c k : Nat} {v : Int32} (h : azLk c azDL k = some v) : Cond.constant (azN c) k v ∈ azWords := azWd_w _ (azMap_mem (q := (k, v)) (azGetD_lt (azLk_mem h)) (azLk_mem h) (List.mem_singleton_self _))
theorem azL_of {c k : Nat} {v : Int64} (h : azLk c azLL k = some v) : Cond.constantLong (azN c) k v ∈ azWords := azWl_w _ (azMap_mem (q := (k, v)) (azGetD_lt (azLk_mem h)) (azLk_mem h) (List.mem_singleton_self _))
theorem zFs_put {G : azG} {σ σ2 : azS} {a ci j : Nat} {v : Value} (hj : j < azNf ci) (h1 : zFv G σ2 a (azTy ci j) j = v) (h2 : ∀ k, k ≠ j → zFv G σ2 a (azTy ci k) k = zFv G σ a (azTy ci k) k) : zFs G σ2 a ci = (zFs G σ a ci).set j v := by
  refine List.ext_getElem? (fun k => ?_)
  by_cases hk : k < azNf ci
  · rw [zFs_get hk]
    by_cases e : k = j
    · subst e
      rw [List.getElem?_set_self (by rw [zFs_len]; exact hk), h1]
    · rw [List.getElem?_set_ne (fun q => e q.symm), zFs_get hk, h2 k e]
  · rw [List.getElem?_eq_none (by rw [zFs_len]; omega), List.getElem?_eq_none (by rw [List.length_set, zFs_len]; omega)]
end
section
/-! SOUNDNESS: all instructions that touch cells or the pool. -/
theorem az_ldcS {p : Program} {l : Launch} {e : Env} {R : Room} {s : State} {m : MethodId} {args : Array Value} {below : List Frame} {meth : Method} {c : Code} {T : State} {locs : List Loc} {cells slots : Nat}
    (X : Stand p l e R s m args below meth c T locs cells slots) (hexec : p.tables.exec = Jvm.exec) {own text : String} {index : Nat} {a : Addr} (hown : s.vm.findClass own = some m.cls) (hZ : vk_R own index text a s) {g : JFrame} (hg : g.method = m) (hdg : decode c.code g.pc = .ok (.ldc_w index, 3)) :
    ∀ target, Steps p.tables e below (T.setTop { g with pc := g.pc + 3, stack := .ref a :: g.stack }) target → Steps p.tables e below (T.setTop g) target := by
  obtain ⟨k, cf, i, a', hk, hcf, hcp, -, hr, hev'⟩ := Cond.stringRef_spec hown hZ.1
  cases hZ.2.symm.trans hev'
  obtain ⟨k', hk', he⟩ := X.warmed.alike.2.2 _ _ hk
  have hr' : k'.resolved[index]? = some (some (.string a)) := by
    rcases X.warmed.entry hk hk' index with h | ⟨h, -⟩
    · rw [h]; exact hr
    · rw [hr] at h; cases h
  intro target hrest
  subst hg
  jvm_step X.here [hexec, hdg, ldc_w.wp_string (e := e) (s := T) (f := g) X.here.top hk' (by rw [he]; exact hcf) hcp hr']
  exact hrest
theorem azSL_8 : ∀ c, c ≠ 8 → azSL.getD c [] = [] := by
  intro c hc
  rcases Nat.lt_or_ge c 17 with h | h
  · have : c = 0 ∨ c = 1 ∨ c = 2 ∨ c = 3 ∨ c = 4 ∨ c = 5 ∨ c = 6 ∨ c = 7 ∨ c = 9 ∨ c = 10 ∨ c = 11 ∨ c = 12 ∨ c = 13 ∨ c = 14 ∨ c = 15 ∨ c = 16 := by omega
    rcases this with rfl | rfl | rfl | rfl | rfl | rfl | rfl | rfl | rfl | rfl | rfl | rfl | rfl | rfl | rfl | rfl <;> rfl
  · rw [List.getD_eq_getElem?_getD, List.getElem?_eq_none h]
    rfl
theorem azS_of {c k : Nat} {q : Nat × String} (h : azLk c azSL k = some q) : c = 8 ∧ (k, q) ∈ azSL.getD 8 [] := by
  have hm := azLk_mem h
  by_cases hc : c = 8
  · subst hc
    exact ⟨rfl, hm⟩
  · rw [azSL_8 c hc] at hm
    exact absurd hm List.not_mem_nil
theorem azSok : (azSL.getD 8 []).all (fun q => Nat.blt q.2.1 4) = true := by decide +kernel
theorem zA_str {G : azG} {j : Nat} (h : j < 4) : zA G (azB + j) = gT G j := by
  unfold zA
  rw [if_neg (by omega), if_neg (by omega), if_pos (by omega), Nat.add_sub_cancel_left]
theorem zA_fm {G : azG} : zA G (azB + 30) = gV G 10 := by
  unfold zA
  rw [if_neg (by omega), if_neg (by omega), if_neg (by omega), show azB + 30 - azB - 20 = 10 by omega]
theorem azX_of {c k j : Nat} (h : azLk c azXL k = some j) : (j = 0 ∧ Cond.fieldLink (azN c) k "java/lang/String" "value" "[B" ∈ azWords) ∨ (j ≠ 0 ∧ Cond.fieldLink (azN c) k "java/lang/String" "coder" "B" ∈ azWords) := by
  have hm := azLk_mem h
  have hw := azWx_w _ (azMap_mem (q := (k, j)) (azGetD_lt hm) hm (List.mem_singleton_self _))
  cases j with
  | zero => exact Or.inl ⟨rfl, hw⟩
  | succ j => exact Or.inr ⟨Nat.succ_ne_zero j, hw⟩
theorem azT_of {c k j : Nat} (h : azLk c azTL k = some j) : (j = 0 ∧ Cond.fieldLink (azN c) k "java/lang/String" "COMPACT_STRINGS" "Z" ∈ azWords) ∨ (j ≠ 0 ∧ Cond.fieldLink (azN c) k "jdk/internal/util/Preconditions" "SIOOBE_FORMATTER" "Ljava/util/function/BiFunction;" ∈ azWords) := by
  have hm := azLk_mem h
  have hw := azWt_w _ (azMap_mem (q := (k, j)) (azGetD_lt hm) hm (List.mem_singleton_self _))
  cases j with
  | zero => exact Or.inl ⟨rfl, hw⟩
  | succ j => exact Or.inr ⟨Nat.succ_ne_zero j, hw⟩
theorem az_getsZ {G : azG} {l : Launch} {M : azM} {pc : Nat} {σ : azS} {p : Program} {e : Env} {R : Room} {s : State} {m : MethodId} {args : Array Value} {below : List Frame} {meth : Method} {c : Code} {H : Heap} {locs : List Loc} {cells slots : Nat} {ls' : Array Slot} {Qw : State → Prop} {rest : List Value} (hC : zCtx p s m args meth c M) (hR : zRel G σ H) {C n d : String} {v : Value} {k : Nat} (hZ : va_Z C n d v (fun q => gB G ≤ q) s (gH G)) (hw : Cond.fieldLink (azN M.2.2.2.2.2.1) k C n d ∈ azWords) (hdg : decode M.2.1 pc = .ok (.getstatic k, 3))
    (kk : W p l e R s m args below meth c H locs cells slots Qw (F0 m (pc + 3) ls' (v :: rest))) : W p l e R s m args below meth c H locs cells slots Qw (F0 m pc ls' rest) := by
  obtain ⟨cf, kf, fi, f, a, cell, h1, h2, h3, h4, h5, h6, h7, h8⟩ := hZ
  exact W.gets hC.1 hC.2.1 hC.2.2.2.2.1 (hC.2.2.2.2.2.1 _ hw) h1 h2 h3 h4 (by rw [hR.2.2.2 _ (Nat.not_le.mp h8)]; exact h5) (fun e => by rw [e] at h6; cases h6) h7 rfl hdg kk
theorem az_getS {G : azG} {l : Launch} {M : azM} {pc : Nat} {σ : azS} {p : Program} {e : Env} {R : Room} {s : State} {m : MethodId} {args : Array Value} {below : List Frame} {meth : Method} {c : Code} {H : Heap} {locs : List Loc} {cells slots : Nat} {ls' : Array Slot} {Qw : State → Prop} {rest : List Value} (hC : zCtx p s m args meth c M) (hR : zRel G σ H) {n d : String} {v : Value} {k t : Nat} (hF : va_OF "java/lang/String" n d v t (fun q => gB G ≤ q) s (gH G)) (hw : Cond.fieldLink (azN M.2.2.2.2.2.1) k "java/lang/String" n d ∈ azWords) (hdg : decode M.2.1 pc = .ok (.getfield k, 3))
    (kk : W p l e R s m args below meth c H locs cells slots Qw (F0 m (pc + 3) ls' (v :: rest))) : W p l e R s m args below meth c H locs cells slots Qw (F0 m pc ls' (.ref t :: rest)) := by
  obtain ⟨cf, k, fi, f, cell, h1, h2, h3, h4, h5, h6⟩ := hF
  exact W.getf hC.1 hC.2.1 hC.2.2.2.2.1 (hC.2.2.2.2.2.1 _ hw) h1 h2 (by rw [hR.2.2.2 _ (Nat.not_le.mp h6)]; exact h3) h4 (v := v) h5 rfl rfl hdg kk
set_option maxHeartbeats 4000000 in
theorem az_heap {G : azG} {l : Launch} {d : Nat} {M : azM} {pc : Nat} {ls st : List Value} {σ : azS} {Q : azQ} {i : Instr} {len : Nat} (hi : azHp i = true) (hd : decode M.2.1 pc = .ok (i, len) ∧ azLen (i, len) = true) (H : azStep (zReal G l) (zReal G l) d M pc ls st σ Q i) : zReal G l d M pc ls st σ Q := by
  cases i
  case ldc k =>
    obtain ⟨v, hv, H⟩ | ⟨hv, H⟩ := zOp_of H
    · refine az_pure (fun hC _ _ hl _ k => ?_) H
      obtain ⟨h1, h2⟩ := hd
      obtain rfl : len = 2 := azLen_beq h2
      exact lv_ldc hC.1 hC.2.1 hC.2.2.2.2.1 (hC.2.2.2.2.2.1 _ (azD_of hv)) h1 k
    · obtain ⟨q, hq, H⟩ := zOf_of H
      obtain ⟨hc, hm⟩ := azS_of hq
      refine az_pure (fun hC hK _ hl _ k => ?_) H
      obtain ⟨h1, h2⟩ := hd
      obtain rfl : len = 2 := azLen_beq h2
      have hz := hK.2.2.2.1 _ hm
      have h4 : q.1 < 4 := Nat.blt_eq.mp (List.all_eq_true.mp azSok _ hm)
      have hown := hC.2.2.2.2.1
      rw [hc] at hown
      refine va_ldcS hC.1 hC.2.1 hown hz h1 ?_
      rw [← zA_str (G := G) h4]
      exact k
  case ldc_w k =>
    obtain ⟨v, hv, H⟩ | ⟨hv, H⟩ := zOp_of H
    · refine az_pure (fun hC _ _ hl _ k => ?_) H
      obtain ⟨h1, h2⟩ := hd
      obtain rfl : len = 3 := azLen_beq h2
      exact lv_ldcw hC.1 hC.2.1 hC.2.2.2.2.1 (hC.2.2.2.2.2.1 _ (azD_of hv)) h1 k
    · obtain ⟨q, hq, H⟩ := zOf_of H
      obtain ⟨hc, hm⟩ := azS_of hq
      refine az_pure (fun {p e R s m args below meth c H0 locs cells slots ls' Qw} hC hK _ hl _ k => ?_) H
      obtain ⟨h1, h2⟩ := hd
      obtain rfl : len = 3 := azLen_beq h2
      have hz := hK.2.2.2.1 _ hm
      have h4 : q.1 < 4 := Nat.blt_eq.mp (List.all_eq_true.mp azSok _ hm)
      have hown := hC.2.2.2.2.1
      rw [hc] at hown
      have k : W p l e R s m args below meth c H0 locs cells slots Qw (F0 m (pc + 3) ls' (.ref (zA G (azB + q.1)) :: st.map (zVal G))) := k
      rw [zA_str (G := G) h4] at k
      intro T hT X
      obtain ⟨t, a1, b1⟩ := k T hT X
      exact ⟨t, az_ldcS X hC.1 hown hz (g := F0 m pc ls' (st.map (zVal G))) rfl (by rw [hC.2.1]; exact h1) t a1, b1⟩
  case ldc2_w k =>
    obtain ⟨v, hv, H⟩ := zOf_of H
    refine az_pure (fun hC _ _ hl _ k => ?_) H
    obtain ⟨h1, h2⟩ := hd
    obtain rfl : len = 3 := azLen_beq h2
    exact lv_ldc2 hC.1 hC.2.1 hC.2.2.2.2.1 (hC.2.2.2.2.2.1 _ (azL_of hv)) h1 k
  case getstatic k =>
    obtain ⟨j, hj, H⟩ := zOf_of H
    obtain ⟨hd1, hd2⟩ := hd
    obtain rfl : len = 3 := azLen_beq hd2
    rcases azT_of hj with ⟨rfl, hw⟩ | ⟨hj0, hw⟩
    · exact az_rd (fun hC hK hR _ hb k => az_getsZ hC hR hK.2.2.2.2.2.2.2.1 hw hd1 k) H
    · cases j with
      | zero => exact absurd rfl hj0
      | succ j =>
        by_cases hz : gV G 11 = 0
        · refine az_rd (fun hC hK hR _ hb k => ?_) H.1
          rcases hK.2.2.2.2.2.2.2.2 with h | h
          · exact az_getsZ hC hR h.2 hw hd1 k
          · exact absurd hz h.1
        · refine az_rd (fun {p e R s m args below meth c H0 locs cells slots ls' Qw} hC hK hR _ hb k => ?_) H.2
          have k : W p l e R s m args below meth c H0 locs cells slots Qw (F0 m (pc + 3) ls' (.ref (zA G (azB + 30)) :: st.map (zVal G))) := k
          rw [zA_fm] at k
          rcases hK.2.2.2.2.2.2.2.2 with h | h
          · exact absurd h.1 hz
          · exact az_getsZ hC hR h.2 hw hd1 k
  case getfield k =>
    obtain ⟨q, hq, H⟩ | ⟨-, H⟩ := zOp_of H
    rotate_left
    · obtain ⟨j, hj, H⟩ := zOf_of H
      obtain ⟨a, r, rfl, ha, H⟩ := zR_of H
      obtain ⟨hd1, hd2⟩ := hd
      obtain rfl : len = 3 := azLen_beq hd2
      rcases azX_of hj with ⟨rfl, hw⟩ | ⟨hj0, hw⟩
      · refine az_rd (fun {p e R s m args below meth c H0 locs cells slots ls' Qw} hC hK hR _ hb k => ?_) H
        obtain ⟨i, hi, rfl⟩ := hR.2.2.1.2.2.1 a ha
        have k : W p l e R s m args below meth c H0 locs cells slots Qw (F0 m (pc + 3) ls' (.ref (zA G (azB + i + 20)) :: r.map (zVal G))) := k
        rw [show azB + i + 20 = azB + 20 + i by omega, zA_byt] at k
        show W p l e R s m args below meth c H0 locs cells slots Qw (F0 m pc ls' (.ref (zA G (azB + i)) :: r.map (zVal G)))
        rw [zA_str hi]
        exact az_getS hC hR (hK.2.2.2.2.2.1.1 i hi).2.2.1 hw hd1 k
      · cases j with
        | zero => exact absurd rfl hj0
        | succ j =>
          refine az_rd (fun {p e R s m args below meth c H0 locs cells slots ls' Qw} hC hK hR _ hb k => ?_) H
          obtain ⟨i, hi, rfl⟩ := hR.2.2.1.2.2.1 a ha
          show W p l e R s m args below meth c H0 locs cells slots Qw (F0 m pc ls' (.ref (zA G (azB + i)) :: r.map (zVal G)))
          rw [zA_str hi]
          exact az_getS hC hR (hK.2.2.2.2.2.1.1 i hi).2.1 hw hd1 k
    obtain ⟨a, r, rfl, ha, H⟩ := zR_of H
    obtain ⟨-, h1, h2, h3, -⟩ := azF_of hq
    obtain ⟨hd1, hd2⟩ := hd
    obtain rfl : len = 3 := azLen_beq hd2
    have go : ∀ v : Value, zFv G σ a (azTy q.1 q.2.1) q.2.1 = zVal G v → zReal G l d M (pc + 3) ls (v :: r) σ Q → zReal G l d M pc ls (.ref a :: r) σ Q := by
      intro v hv H
      refine az_rd (fun hC hK hR _ hb k => az_getf hC hK hR hb hq ha hd1 ?_) H
      rw [hv]
      exact k
    rcases hcode : q.2.2.1 with _ | _ | _ | n
    · rw [hcode] at H h3
      exact go (.int (σ.2.1 a q.2.1)) (by rw [azFc_0 h3]; rfl) H
    · rw [hcode] at H h3
      exact go (.long (σ.2.2.1 a q.2.1)) (by rw [azFc_1 h3]; rfl) H
    · rw [hcode] at H h3
      exact go (.int (σ.2.1 a q.2.1)) (by rw [azFc_2 h3]; rfl) H
    · rw [hcode] at H h3
      obtain ⟨b, hb, H⟩ := zOf_of H
      exact go (.ref b) (by rw [zFv_ref (azFc_3 h3 (azTy5_of h1 h2)), hb]; rfl) H
  case putfield k =>
    obtain ⟨q, hq, H⟩ := zOf_of H
    obtain ⟨hfin, H⟩ := zG_of H
    obtain ⟨-, h1, h2, h3, -⟩ := azF_of hq
    obtain ⟨hd1, hd2⟩ := hd
    obtain rfl : len = 3 := azLen_beq hd2
    rcases hcode : q.2.2.1 with _ | _ | _ | n
    · rw [hcode] at H h3
      obtain ⟨a, x, r, rfl, ha, H⟩ := zRI_of H
      have ht := azFc_0 h3
      exact az_wr (σ2 := azSI σ a q.2.1 x) rfl (fun hC hK hR hlo hb k => az_putf (σ2 := azSI σ a q.2.1 x) hC hK hR hlo hb hq ha hfin (v := .int x) (by rw [ht]; rfl) (by rw [ht]; rfl) hd1 rfl (zFs_put h2 (by rw [ht]; simp [zFv, azSI, azUp]) (fun k hk => by unfold zFv; split <;> simp [azSI, azUp, hk])) (fun b hb => zCell_congr rfl (azUp_ne _ _ _ hb) rfl rfl) (fun b hb => azUp_ne _ _ _ hb) k) H
    · rw [hcode] at H h3
      obtain ⟨a, x, r, rfl, ha, H⟩ := zRL_of H
      have ht := azFc_1 h3
      exact az_wr (σ2 := azSJ σ a q.2.1 x) rfl (fun hC hK hR hlo hb k => az_putf (σ2 := azSJ σ a q.2.1 x) hC hK hR hlo hb hq ha hfin (v := .long x) (by rw [ht]; rfl) (by rw [ht]; rfl) hd1 rfl (zFs_put h2 (by rw [ht]; simp [zFv, azSJ, azUp]) (fun k hk => by unfold zFv; split <;> simp [azSJ, azUp, hk])) (fun b hb => zCell_congr rfl rfl (azUp_ne _ _ _ hb) rfl) (fun b hb => rfl) k) H
    · rw [hcode] at H h3
      obtain ⟨a, x, r, rfl, ha, hx, H⟩ := zRI_of H
      have ht := azFc_2 h3
      exact az_wr (σ2 := azSI σ a q.2.1 x) rfl (fun hC hK hR hlo hb k => az_putf (σ2 := azSI σ a q.2.1 x) hC hK hR hlo hb hq ha hfin (v := .int x) (by rw [ht]; rcases hx with rfl | rfl <;> rfl) (by rw [ht]; rcases hx with rfl | rfl <;> rfl) hd1 rfl (zFs_put h2 (by rw [ht]; simp [zFv, azSI, azUp]) (fun k hk => by unfold zFv; split <;> simp [azSI, azUp, hk])) (fun b hb => zCell_congr rfl (azUp_ne _ _ _ hb) rfl rfl) (fun b hb => azUp_ne _ _ _ hb) k) H
    · rw [hcode] at H h3
      obtain ⟨a, b, r, rfl, ha, H⟩ := zRR_of H
      have ht := azFc_3 h3 (azTy5_of h1 h2)
      exact az_wr (σ2 := azSR σ a q.2.1 (some b)) rfl (fun hC hK hR hlo hb k => az_putf (σ2 := azSR σ a q.2.1 (some b)) hC hK hR hlo hb hq ha hfin (v := .ref (zA G b)) (by revert ht; generalize azTy q.1 q.2.1 = t; intro ht; cases t <;> first | rfl | cases ht) (by revert ht; generalize azTy q.1 q.2.1 = t; intro ht; cases t <;> first | rfl | cases ht) hd1 rfl (zFs_put h2 (by rw [zFv_ref ht]; simp [azSR, azUp, va_rf]) (fun k hk => by unfold zFv; split <;> simp [azSR, azUp, hk])) (fun b hb => zCell_congr rfl rfl rfl (azUp_ne _ _ _ hb)) (fun b hb => rfl) k) H
  case arraylength =>
    obtain ⟨a, r, rfl, ha, H⟩ := zR_of H
    obtain ⟨h1, h2⟩ := hd
    obtain rfl : len = 1 := azLen_beq h2
    exact az_rd (fun hC hK hR _ hb k => az_len hC hK hR hb ha h1 k) H
  case iaload =>
    obtain ⟨a, i, r, rfl, ha, hin, H⟩ := zRI_of H
    obtain ⟨h1, h2⟩ := hd
    obtain rfl : len = 1 := azLen_beq h2
    exact az_rd (fun hC hK hR _ hb k => az_iald hC hK hR hb ha hin h1 k) H
  case baload =>
    obtain ⟨a, i, r, rfl, ha, hin, H⟩ := zRI_of H
    obtain ⟨h1, h2⟩ := hd
    obtain rfl : len = 1 := azLen_beq h2
    exact az_rd (fun hC hK hR _ hb k => az_ba hC hK hR hb ha hin h1 k) H
  case laload =>
    obtain ⟨a, i, r, rfl, ha, hin, H⟩ := zRI_of H
    obtain ⟨h1, h2⟩ := hd
    obtain rfl : len = 1 := azLen_beq h2
    exact az_rd (fun hC hK hR _ hb k => az_la hC hK hR hb ha hin h1 k) H
  case aaload =>
    obtain ⟨a, i, r, rfl, ha, hin, H⟩ := zRI_of H
    obtain ⟨h1, h2⟩ := hd
    obtain rfl : len = 1 := azLen_beq h2
    obtain ⟨b, hb', H⟩ | ⟨hb', H⟩ := zOp_of H
    · exact az_rd (fun hC hK hR _ hb k => az_aa hC hK hR hb ha hin h1 (by rw [hb']; exact k)) H
    · exact az_rd (fun hC hK hR _ hb k => az_aa hC hK hR hb ha hin h1 (by rw [hb']; exact k)) H
  case iastore =>
    obtain ⟨a, i, x, r, rfl, ha, hin, H⟩ := zRII_of H
    obtain ⟨h1, h2⟩ := hd
    obtain rfl : len = 1 := azLen_beq h2
    exact az_wr (σ2 := azSI σ a i.toNatClampNeg x) rfl (fun hC hK hR hlo hb k => az_iast hC hK hR hlo hb ha hin h1 k) H
  case bastore =>
    obtain ⟨a, i, x, r, rfl, ha, hin, hx, H⟩ := zRII_of H
    obtain ⟨h1, h2⟩ := hd
    obtain rfl : len = 1 := azLen_beq h2
    exact az_wr (σ2 := azSI σ a i.toNatClampNeg x) rfl (fun hC hK hR hlo hb k => az_zast hC hK hR hlo hb ha hin hx h1 k) H
  case lastore =>
    obtain ⟨a, i, x, r, rfl, ha, hin, H⟩ := zRIL_of H
    obtain ⟨h1, h2⟩ := hd
    obtain rfl : len = 1 := azLen_beq h2
    exact az_wr (σ2 := azSJ σ a i.toNatClampNeg x) rfl (fun hC hK hR hlo hb k => az_last hC hK hR hlo hb ha hin h1 k) H
  case aastore =>
    obtain ⟨h1, h2⟩ := hd
    obtain rfl : len = 1 := azLen_beq h2
    obtain ⟨a, i, b, r, rfl, ha, hin, H⟩ | ⟨a, i, r, rfl, ha, hin, H⟩ := zRIO_of H
    · rcases ha with ⟨ha, hb'⟩ | ⟨ha, hb'⟩
      · exact az_wr (σ2 := azSR σ a i.toNatClampNeg (some b)) rfl (fun hC hK hR hlo hb k => az_aast1 (ci := 3) (t0 := 3) hC hK hR hlo hb (by omega) (by omega) hb' hin (zCell_13 ha) (zCell_13 (σ := azSR σ a i.toNatClampNeg (some b)) ha) rfl h1 k) H
      · exact az_wr (σ2 := azSR σ a i.toNatClampNeg (some b)) rfl (fun hC hK hR hlo hb k => az_aast1 (ci := 5) (t0 := 4) hC hK hR hlo hb (by omega) (by omega) hb' hin (zCell_14 ha) (zCell_14 (σ := azSR σ a i.toNatClampNeg (some b)) ha) rfl h1 k) H
    · exact az_wr (σ2 := azSR σ a i.toNatClampNeg none) rfl (fun hC hK hR hlo hb k => az_aastN hC hK hR hlo hb ha hin h1 k) H
  case new k =>
    obtain ⟨q, hq, H⟩ := zOf_of H
    obtain ⟨h1, h2⟩ := hd
    obtain rfl : len = 3 := azLen_beq h2
    exact az_nw (fun hC hK hR hb hc hs k => az_newo hC hK hR hb hq hc hs h1 k) H
  case newarray t =>
    obtain ⟨n, r, rfl, H⟩ := zI_of H
    obtain ⟨k, hk, hn, hN, H⟩ := zOf_of H
    obtain ⟨h1, h2⟩ := hd
    obtain rfl : len = 2 := azLen_beq h2
    exact az_nw (fun hC hK hR hb hc hs kk => az_newa hC hK hR hb hk hn hN hc hs h1 kk) H
  case anewarray k =>
    obtain ⟨n, r, rfl, H⟩ := zI_of H
    obtain ⟨q, hq, hn, hN, H⟩ := zOf_of H
    obtain ⟨h1, h2⟩ := hd
    obtain rfl : len = 3 := azLen_beq h2
    exact az_nw (fun hC hK hR hb hc hs kk => az_newq hC hK hR hb hq hn hN hc hs h1 kk) H
  all_goals cases hi
end
section
/-! SOUNDNESS: calls and returns; the real machine is closed. -/
def azFd : List String := ["(D)D", "(DD)D", "(DDD)D", "(F)F", "(FF)F", "(FFF)F"]
theorem azMathRows : (Jvm.natives.all fun r => r.cls != "java/lang/Math" || azFd.contains r.desc) = true := by decide +kernel
theorem azPlainN : azNs.all (fun x => plainName x || x == "java/lang/Math") = true := by decide +kernel
theorem azPlain {x : MethodName} {c : Nat} (hc : x.cls = azN c) (hd : azFd.contains x.desc = false) : plainFor x = true := by
  have h1 : plainName (azN c) = true ∨ azN c = "java/lang/Math" := by
    unfold azN
    rw [List.getD_eq_getElem?_getD]
    rcases Nat.lt_or_ge c azNs.length with h | h
    · rw [List.getElem?_eq_getElem h]
      have h2 := List.all_eq_true.mp azPlainN _ (List.getElem_mem h)
      rw [Bool.or_eq_true, beq_iff_eq] at h2
      exact h2
    · rw [List.getElem?_eq_none h]
      exact Or.inl (show plainName "" = true by decide +kernel)
  rcases h1 with h1 | h1
  · exact plainFor_of_name (by rw [hc]; exact h1)
  · unfold plainFor
    rw [Bool.or_eq_true]; right
    rw [Option.isNone_iff_eq_none, NativeRow.find?, List.find?_eq_none]
    intro r hr h
    have := List.all_eq_true.mp azMathRows r hr
    simp only [Bool.and_eq_true, beq_iff_eq] at h
    rw [h.1.2, h.2, hc, h1, hd] at this
    simp at this
theorem az_ofW {l : Launch} {y : MethodName} {ws ws' : List Cond} {rm : Room} {Pc : Array Value → State → Prop} {Qc : Array Value → State → Outcome → State → Prop} {mc ms : Nat} {free : Addr → Prop} {cc : ByteArray} {maxL : Nat} {ret : Option FieldType}
    (hy : plainFor y = true) (hw : ws = Cond.code y cc maxL ret :: ws')
    (body : ∀ p e s m args below meth c s₁, BodyLoose p l y (headSpec ws rm) cc maxL ret e s m args below meth c s₁ → c.maxLocals = maxL → Pc args s →
      W p l e (headSpec ws rm).room s m args below meth c s.heap [] 0 0 (MQ below Qc args s mc ms free) (entryFrame m args maxL)) : Met l y ws rm Pc Qc mc ms free := by
  refine MetFree.of_bodySF (code := cc) (maxLocals := maxL) (ret := ret) hy ?_ ?_
  · intro args s m h hn
    obtain ⟨meth, c, h1, h2, h3, h4, h5, h6, -, -⟩ := Cond.code_spec hn (atoms_spec (ws := ws) h _ (by rw [hw]; exact List.mem_cons_self))
    exact ⟨meth, c, h1, h2, h3, h4, h5, h6⟩
  · intro p e s m args below meth c s₁ B hml hP _
    have hh0 : s₁.heap = s.heap := by rw [B.state]; rfl
    obtain ⟨t, a1, o, b1, b2, b3⟩ := body p e s m args below meth c s₁ B hml hP s₁ hh0 (Stand.of_body B)
    exact ⟨t, o, a1, b1, b2, ⟨b3.1, b3.2⟩⟩
theorem azTab_of {M : azM} (hM : azTabOK M = true) : M.1.cls = azN M.2.2.2.2.2.1 ∧ (M.2.2.2.2.1 = true → M.1.name = "<init>") ∧ M.2.2.1 ≤ 21 := by
  unfold azTabOK at hM
  simp only [Bool.and_eq_true, decide_eq_true_eq] at hM
  refine ⟨hM.1.1.1, fun h => ?_, hM.1.2⟩
  have h2 := hM.1.1.2
  rw [h] at h2
  simpa using h2
theorem azSl_sl (G : azG) : ∀ as : List Value, (lg_sl (as.map (zVal G))).length = (azSl as).length ∧ ∀ (i : Nat) (v : Value), (azSl as)[i]? = some v → (∀ n : Nat, v ≠ .retAddr n) → (lg_sl (as.map (zVal G)))[i]? = some (.val (zVal G v))
  | [] => ⟨rfl, fun i v h => by simp [azSl] at h⟩
  | a :: t => by
    obtain ⟨h1, h2⟩ := azSl_sl G t
    have e1 : lg_sl ((a :: t).map (zVal G)) = (if (zVal G a).category = 2 then [.val (zVal G a), .second] else [.val (zVal G a)]) ++ lg_sl (t.map (zVal G)) := by simp [lg_sl]
    have e2 : azSl (a :: t) = bif azIs2 a then a :: .retAddr 1 :: azSl t else a :: azSl t := rfl
    rw [e1, e2, azIs2_cat]
    cases azIs2 a with
    | true =>
      refine ⟨by simp [h1], fun i v hv hn => ?_⟩
      match i with
      | 0 =>
        simp at hv
        subst hv
        rfl
      | 1 =>
        simp at hv
        exact absurd hv.symm (hn 1)
      | i + 2 => exact h2 i v (by simpa using hv) hn
    | false =>
      refine ⟨by simp [h1], fun i v hv hn => ?_⟩
      match i with
      | 0 =>
        simp at hv
        subst hv
        rfl
      | i + 1 => exact h2 i v (by simpa using hv) hn
theorem azEnv_len {as : List Value} {n : Nat} (h : (azSl as).length ≤ n) : (azEnv as n).length = n := by
  unfold azEnv
  rw [List.length_append, List.length_replicate]
  omega
theorem zLv_env {G : azG} {as : List Value} {n : Nat} (h : (azSl as).length ≤ n) : zLv G (azEnv as n) ((lg_sl (as.map (zVal G)) ++ List.replicate (n - (lg_sl (as.map (zVal G))).length) Slot.unset).toArray) := by
  obtain ⟨h1, h2⟩ := azSl_sl G as
  have he := lv_entry (as.map (zVal G)) (n := n) (by rw [h1]; exact h)
  refine ⟨by rw [he.1, azEnv_len h], he.2.1, fun i v hv hn => ?_⟩
  unfold azEnv at hv
  rw [List.getElem?_toArray]
  by_cases hi : i < (azSl as).length
  · rw [List.getElem?_append_left hi] at hv
    rw [List.getElem?_append_left (by rw [h1]; exact hi)]
    exact h2 i v hv hn
  · rw [List.getElem?_append_right (by omega)] at hv
    have := List.mem_of_getElem? hv
    rw [List.mem_replicate] at this
    exact absurd this.2 (hn 0)
theorem azGood : GoodIn azWords azWords := fun w h => ⟨h, (azWords_in w h).2⟩
theorem zRuns.met {G : azG} {l : Launch} {d : Nat} {M : azM} {as : List Value} {σ σ' : azS} {v : Option Value} (h : zRuns G l d M 0 (azEnv as M.2.2.1) [] σ v σ') (hM : azTabOK M = true) (hpl : azFd.contains M.1.desc = false) (hlen : (azSl as).length ≤ M.2.2.1) (hb : σ'.1.1 < azB) :
    Met l M.1 (azCode M :: azWords) ({ frames := d, cells := σ'.1.1 - σ.1.1, slots := σ'.1.2.1 - σ.1.2.1, locals := 40 * d }) (va_Pc (as.map (zVal G)) (fun U => zRel G σ U.heap ∧ zK G U)) (zQ G v σ') (σ'.1.1 - σ.1.1) (σ'.1.2.1 - σ.1.2.1) (fun q => gB G ≤ q) := by
  obtain ⟨t1, t2, t3⟩ := azTab_of hM
  refine az_ofW (cc := M.2.1) (maxL := M.2.2.1) (ret := M.2.2.2.1) (azPlain t1 hpl) rfl ?_
  intro p e s m args below meth c s₁ B hml hv
  obtain ⟨rfl, hR, hK⟩ := hv
  have hts := atoms_spec (ws := azCode M :: azWords) B.pre
  have hown : s.vm.findClass M.1.cls = some m.cls := findClass_of_methodNamed B.named
  rw [t1] at hown
  rw [lg_entry_eq]
  have hw := h.2.2 hb (azEnv_len hlen) p e ({ frames := d, cells := σ'.1.1 - σ.1.1, slots := σ'.1.2.1 - σ.1.2.1, locals := 40 * d }) s m (as.map (zVal G)).toArray below meth c s.heap [] 0 0 _ ⟨B.exec, B.bytes, B.returns, hml, hown, fun w hw => hts w (List.mem_cons_of_mem _ hw), B.notSynchronized, fun hi => by rw [(name_of_methodNamed B.named B.method).1]; exact t2 hi, hM⟩ hK hR (zLv_env hlen) (fun _ h => by cases h) (by simp) (by simp) (Nat.le_refl _) (Nat.le_refl _)
  rw [Nat.zero_add, Nat.zero_add] at hw
  exact hw
theorem z_call {G : azG} {p : Program} {l : Launch} {e : Env} {R : Room} {s : State} {m : MethodId} {args : Array Value} {below : List Frame} {meth : Method} {c : Code} {H : Heap} {locs : List Loc} {cells slots mc ms pc : Nat} {ls' : Array Slot} {st0 rest : List Value} {a : Array Value} {v : Option Value} {σ1 : azS} {Qw : State → Prop}
    (hr : va_Run p l e R s m args below meth c H locs cells slots mc ms (F0 m pc ls' st0) rest (zQ G v σ1 a) (fun q => gB G ≤ q)) (hlo : ∀ q ∈ locs, gB G ≤ q.base)
    (kk : ∀ (H1 : Heap) (locs1 : List Loc), zRel G σ1 H1 → (∀ q ∈ locs1, gB G ≤ q.base) → W p l e R s m args below meth c H1 locs1 (cells + mc) (slots + ms) Qw (F0 m (pc + 3) ls' ((v.map (zVal G)).toList ++ rest))) : W p l e R s m args below meth c H locs cells slots Qw (F0 m pc ls' st0) := by
  intro T hT X
  obtain ⟨v', st₀, t, T', L, h0, X', hL, e1, e2, ⟨hv, hR1⟩, st⟩ := hr T hT X
  have hv := (Outcome.returned.inj hv)
  subst hv
  obtain ⟨t2, a1, b1⟩ := kk T'.heap (locs ++ L) (by rw [e1]; exact hR1) (fun q hq => by
    rcases List.mem_append.mp hq with h | h
    · exact hlo q h
    · exact hL q h) T' rfl X'
  exact ⟨t2, st t2 a1, b1⟩
theorem azPop_of : ∀ (n : Nat) (st acc : List Value) (w : List Value × List Value), azPop n st acc = some w → ∃ as, w.1 = as ++ acc ∧ as.length = n ∧ st = as.reverse ++ w.2
  | 0, st, acc, w, h => by
    cases h
    exact ⟨[], rfl, rfl, rfl⟩
  | n + 1, [], acc, w, h => by cases h
  | n + 1, v :: st, acc, w, h => by
    obtain ⟨as, h1, h2, h3⟩ := azPop_of n st (v :: acc) w h
    refine ⟨as ++ [v], by rw [h1]; simp, by simp [h2], by rw [h3]; simp⟩
theorem azCat_sum (G : azG) : ∀ st : List Value, ((st.map (zVal G)).map fun v => v.category).sum = azCat st
  | [] => rfl
  | v :: t => by
    have h := azCat_sum G t
    simp only [List.map_cons, List.sum_cons]
    rw [h, azIs2_cat]
    rfl
theorem kI_of {v : Option Value} {f : Int32 → Prop} (h : kI v f) : ∃ x, v = some (.int x) ∧ f x := by
  unfold kI at h; split at h <;> first | exact ⟨_, rfl, h⟩ | exact h.elim
theorem kL_of {v : Option Value} {f : Int64 → Prop} (h : kL v f) : ∃ x, v = some (.long x) ∧ f x := by
  unfold kL at h; split at h <;> first | exact ⟨_, rfl, h⟩ | exact h.elim
theorem kO_of {v : Option Value} {f : Nat → Prop} {g : Prop} (h : kO v f g) : (∃ x, v = some (.ref x) ∧ f x) ∨ (v = some .null ∧ g) := by
  unfold kO at h; split at h <;> first | exact Or.inl ⟨_, rfl, h⟩ | exact Or.inr ⟨rfl, h⟩ | exact h.elim
theorem zRet_of {t : Option FieldType} {v : Option Value} {rest : List Value} {f : List Value → Prop} (h : zRet t v rest f) : f (v.toList ++ rest) := by
  unfold zRet at h
  split at h
  · obtain ⟨rfl, h⟩ := h; exact h
  all_goals first
    | (obtain ⟨x, rfl, h⟩ := kI_of h; exact h)
    | (obtain ⟨x, rfl, h⟩ := kL_of h; exact h)
    | (obtain ⟨x, rfl, h⟩ | ⟨rfl, h⟩ := kO_of h <;> exact h)
    | exact h.elim
/-- what the calls' table says of itself -/
def azCLk (q : azCl) : Bool := (Nat.beq q.2.1 6 || decide ((parseMethodDescriptor q.2.2.2.1.desc).map (fun d => d.parameters.length) = some q.2.2.1)) && (!Nat.beq q.2.1 2 || (decide (q.2.2.2.1.name = "<init>") && azNo q.2.2.2.2.2.2.1)) && (Nat.ble q.2.1 3 || Nat.beq q.2.1 6 || Nat.beq q.2.1 7) && (!Nat.beq q.2.1 7 || Nat.beq q.2.2.2.2.2.2.2.2.1 13) && (!Nat.beq q.2.1 0 || Nat.blt q.2.2.2.2.2.2.2.2.1 10) && !azFd.contains q.2.2.2.1.desc
theorem azCLk_all : azCL.all (fun l => l.all azCLk) = true := by decide +kernel
theorem azCLk_of {c : Nat} {q : azCl} (h : q ∈ azCL.getD c []) : azCLk q = true := by
  have hl := azGetD_lt h
  rw [List.getD_eq_getElem?_getD, List.getElem?_eq_getElem hl] at h
  exact List.all_eq_true.mp (List.all_eq_true.mp azCLk_all _ (List.getElem_mem hl)) _ h
theorem azN_ok : ∀ c, azN c ≠ "java/lang/invoke/MethodHandle" ∧ azN c ≠ "java/lang/invoke/VarHandle" := by
  intro c
  unfold azN
  rw [List.getD_eq_getElem?_getD]
  rcases Nat.lt_or_ge c azNs.length with h | h
  · rw [List.getElem?_eq_getElem h]
    have := List.all_eq_true.mp (show azNs.all (fun x => decide (x ≠ "java/lang/invoke/MethodHandle" ∧ x ≠ "java/lang/invoke/VarHandle")) = true by decide +kernel) _ (List.getElem_mem h)
    exact of_decide_eq_true this
  · rw [List.getElem?_eq_none h]
    show ("" : String) ≠ _ ∧ ("" : String) ≠ _
    decide +kernel
end
section
/-! SOUNDNESS: the real machine is closed under the abstract one's steps. -/
theorem azPreB {G : azG} {σ : azS} {as : List Value} : FrameBlind (va_Pc (as.map (zVal G)) (fun U => zRel G σ U.heap ∧ zK G U)) := fun a U g mk q => ⟨q.1, q.2.1, zK.same (s := U) (U := U.calling g mk a) rfl q.2.2⟩
theorem azC_of {c k : Nat} {q : Nat × Nat × azM} (h : azLk c azCL k = some q) : c < 17 ∧ azTabOK q.2.2 = true ∧ azFd.contains q.2.2.1.desc = false ∧ azCLk (k, q) = true ∧ (∀ w ∈ azCw c (k, q), w ∈ azWords) ∧ ∀ w ∈ azCx c (k, q), w ∈ azXf ++ azXc := by
  have hm := azLk_mem h
  have hc : c < 17 := azGetD_lt hm
  have h1 := azCLk_of hm
  refine ⟨hc, azCok c (k, q) hm, ?_, h1, fun w hw => azWc_w w (azMap_mem hc hm hw), fun w hw => List.mem_append_right _ (azMap_mem hc hm hw)⟩
  unfold azCLk at h1
  simp only [Bool.and_eq_true, Bool.not_eq_true'] at h1
  exact h1.2
/-- a call behind which the run goes on -/
theorem az_call {G : azG} {l : Launch} {d pc : Nat} {M Mc : azM} {ls st as rest : List Value} {σ : azS} {Q : azQ} (hMc : azTabOK Mc = true) (hpl : azFd.contains Mc.1.desc = false) (hst : st = as.reverse ++ rest) (hlen : (azSl as).length ≤ Mc.2.2.1)
    (h : ∀ {p : Program} {e : Env} {R : Room} {s : State} {m : MethodId} {args : Array Value} {below : List Frame} {meth : Method} {c : Code} {H : Heap} {locs : List Loc} {cells slots mc ms : Nat} {ls' : Array Slot} {v : Option Value} {σ1 : azS},
      zCtx p s m args meth c M → zK G s → zRel G σ H → σ.1.1 < azB → ls'.size = M.2.2.1 → d + 1 ≤ R.frames → 40 * (d + 1) ≤ R.locals → cells + mc ≤ R.cells → slots + ms ≤ R.slots →
      Met l Mc.1 (azCode Mc :: azWords) ({ frames := d, cells := mc, slots := ms, locals := 40 * d }) (va_Pc (as.map (zVal G)) (fun U => zRel G σ U.heap ∧ zK G U)) (zQ G v σ1) mc ms (fun q => gB G ≤ q) →
      va_Run p l e R s m args below meth c H locs cells slots mc ms (F0 m pc ls' (st.map (zVal G))) (rest.map (zVal G)) (zQ G v σ1 (as.map (zVal G)).toArray) (fun q => gB G ≤ q))
    (H : zReal G l d Mc 0 (azEnv as Mc.2.2.1) [] σ fun v σ1 => zRet Mc.2.2.2.1 v rest fun st1 => zReal G l (d + 1) M (pc + 3) ls st1 σ1 Q) : zReal G l (d + 1) M pc ls st σ Q := by
  intro hM
  obtain ⟨v, σ1, hret, hn1, hz1, K1⟩ := H hMc
  obtain ⟨v2, σ2, hQ, hn2, hz2, K2⟩ := zRet_of hret hM
  refine ⟨v2, σ2, hQ, Nat.le_trans hn1 hn2, Nat.le_trans hz1 hz2, fun hb hL p e R s m args below meth c H0 locs cells slots ls' hC hK hR hl hlo hc hs hd hdl => ?_⟩
  have hmet := zRuns.met ⟨hn1, hz1, K1⟩ hMc hpl hlen (by omega)
  have hrun := h (p := p) (e := e) (R := R) (below := below) (meth := meth) (c := c) (locs := locs) (cells := cells) (slots := slots) (ls' := ls') (args := args) (m := m) hC hK hR (by omega) (by rw [hl.1, hL]) hd hdl (by omega) (by omega) hmet
  refine z_call hrun hlo (fun H1 locs1 hR1 hlo1 => ?_)
  have e1 : cells + (σ2.1.1 - σ.1.1) = cells + (σ1.1.1 - σ.1.1) + (σ2.1.1 - σ1.1.1) := by omega
  have e2 : slots + (σ2.1.2.1 - σ.1.2.1) = slots + (σ1.1.2.1 - σ.1.2.1) + (σ2.1.2.1 - σ1.1.2.1) := by omega
  have e3 : (v.map (zVal G)).toList ++ rest.map (zVal G) = (v.toList ++ rest).map (zVal G) := by cases v <;> rfl
  rw [e1, e2, e3]
  exact K2 hb hL p e R s m args below meth c H1 locs1 _ _ ls' hC hK hR1 hl hlo1 (by omega) (by omega) hd hdl
theorem az_callB {R : Room} {s : State} {m : MethodId} {args : Array Value} {p : Program} {meth : Method} {c : Code} {M Mc : azM} {d idx np mc ms : Nat} (hC : zCtx p s m args meth c M) (hMc : azTabOK Mc = true) (hd : d + 1 ≤ R.frames) (hdl : 40 * (d + 1) ≤ R.locals)
    (hcode : azCode Mc ∈ azWords) (hini : Cond.initialized Mc.1.cls ∈ azWords) (hlink : Cond.methodLink (azN M.2.2.2.2.2.1) idx Mc.1 ∈ azWords) (hnp : (parseMethodDescriptor Mc.1.desc).map (fun d => d.parameters.length) = some np) :
    CallB R s args (azN M.2.2.2.2.2.1) idx Mc.1 Mc.2.1 Mc.2.2.1 Mc.2.2.2.1 (azCode Mc :: azWords) ({ frames := d, cells := mc, slots := ms, locals := 40 * d }) mc ms np := by
  obtain ⟨t1, t2, t3⟩ := azTab_of hMc
  have hts := hC.2.2.2.2.2.1
  have hg : GoodIn azWords (azCode Mc :: azWords) := fun w hw => by
    rcases List.mem_cons.mp hw with rfl | hw
    · exact azGood _ hcode
    · exact azGood _ hw
  refine ⟨rfl, rfl, hd, by show 8 + (Mc.2.2.1 + 11) + 40 * d ≤ R.locals; omega, pay_in hts hg, List.mem_cons_self, hts _ hcode, hts _ hini, by rw [t1]; exact azN_ok _, fun sig hsig => ?_, hts _ hlink⟩
  rw [hsig] at hnp
  exact (Option.some.inj hnp).symm
theorem az_objI {G : azG} {l : Launch} {d : Nat} {M : azM} {pc : Nat} {ls : List Value} {σ : azS} {Q : azQ} {idx a : Nat} {r : List Value} (hd : decode M.2.1 pc = .ok (.invokespecial idx, 3)) (hw : ∀ w ∈ [Cond.methodLink (azN M.2.2.2.2.2.1) idx objectInit, .instanceMethod objectInit, .code objectInit ⟨#[0xb1]⟩ 1 none], w ∈ azWords) (hcat : azCat r ≤ 8) (hd1 : 1 ≤ d)
    (H : zReal G l d M (pc + 3) ls r σ Q) : zReal G l d M pc ls (.ref a :: r) σ Q := by
  refine az_go (Nat.le_refl _) (Nat.le_refl _) rfl (fun hC hK hR hl hlo hb hL _ _ hdd hdl k => ?_) H
  have k1 := k _ _ _ hR hl hlo
  rw [Nat.sub_self, Nat.sub_self, Nat.add_zero, Nat.add_zero] at k1
  have hts := hC.2.2.2.2.2.1
  refine W.objInit hC.1 hC.2.1 hC.2.2.2.2.1 (hts _ (hw _ (by simp))) (hts _ (hw _ (by simp))) (hts _ (hw _ (by simp))) rfl (by show _ = _; rw [hC.2.2.2.1, ← hL]; exact hl.1) rfl hd (by omega) ?_ k1
  show 2 * 0 + ((r.map (zVal G)).map fun v => v.category).sum + 12 ≤ _
  rw [azCat_sum]
  omega
theorem az_roomC {G : azG} {m : MethodId} {pc : Nat} {ls' : Array Slot} {st r : List Value} (h : azCat r ≤ 8) : 2 * (F0 m pc ls' st).monitorRoom + ((r.map (zVal G)).map fun v => v.category).sum ≤ 8 := by
  show 2 * 0 + _ ≤ 8
  rw [azCat_sum]
  omega
theorem zRv_2 {σ : azS} {k cls : Nat} {as : List Value} {P : Prop} (H : zRv σ k cls as P) : P := by
  unfold zRv at H
  revert H
  cases Nat.beq k 0 with
  | true => exact (by
      show (match as with | .ref b :: _ => (azKd σ b).1 = cls ∧ P | _ => False) → P
      split <;> first | exact fun q => q.2 | exact fun q => q.elim)
  | false =>
    cases Nat.beq k 7 with
    | true => exact (by
        show (match as with | .ref b :: _ => (azKd σ b).1 = 16 ∧ P | _ => False) → P
        split <;> first | exact fun q => q.2 | exact fun q => q.elim)
    | false =>
      cases Nat.beq k 2 with
      | true => exact (by
          show (match as with | .ref _ :: _ => P | _ => False) → P
          split <;> first | exact id | exact fun q => q.elim)
      | false => exact id
theorem zRv_10 {σ : azS} {cls : Nat} {as : List Value} {P : Prop} (H : zRv σ 0 cls as P) : match (generalizing := false) as with | .ref b :: _ => (azKd σ b).1 = cls | _ => False := by
  have H : (match (generalizing := false) as with | .ref b :: _ => (azKd σ b).1 = cls ∧ P | _ => False) := H
  revert H
  split <;> first | exact fun q => q.1 | exact id
theorem zRv_17 {σ : azS} {cls : Nat} {as : List Value} {P : Prop} (H : zRv σ 7 cls as P) : match (generalizing := false) as with | .ref b :: _ => (azKd σ b).1 = 16 | _ => False := by
  have H : (match (generalizing := false) as with | .ref b :: _ => (azKd σ b).1 = 16 ∧ P | _ => False) := H
  revert H
  split <;> first | exact fun q => q.1 | exact id
theorem zRv_12 {σ : azS} {cls : Nat} {as : List Value} {P : Prop} (H : zRv σ 2 cls as P) : match (generalizing := false) as with | .ref _ :: _ => True | _ => False := by
  have H : (match (generalizing := false) as with | .ref _ :: _ => P | _ => False) := H
  revert H
  split <;> first | exact fun _ => trivial | exact id
set_option maxHeartbeats 4000000 in
theorem az_calls {G : azG} {l : Launch} {d : Nat} {M : azM} {pc : Nat} {ls st : List Value} {σ : azS} {Q : azQ} {i : Instr} {idx : Nat} {kinds : Nat → Bool} (hi : (i = .invokevirtual idx ∧ kinds = fun n => Nat.beq n 0 || Nat.beq n 7) ∨ (i = .invokestatic idx ∧ kinds = fun n => Nat.beq n 1 || Nat.beq n 3) ∨ (i = .invokespecial idx ∧ kinds = fun n => Nat.beq n 2 || Nat.beq n 6))
    (hd : decode M.2.1 pc = .ok (i, 3)) (H : zCall (zReal G l) (zReal G l) d M pc ls st σ Q kinds idx) : zReal G l d M pc ls st σ Q := by
  obtain ⟨q, hq, H⟩ := zOf_of H
  obtain ⟨hk, H⟩ := zG_of H
  obtain ⟨hc17, hMc, hpl, hck, hcw, hcx⟩ := azC_of hq
  unfold azCLk at hck
  simp only [Bool.and_eq_true, Bool.or_eq_true, Bool.not_eq_true'] at hck
  obtain ⟨⟨⟨⟨⟨hnp, hin⟩, hle⟩, hc13⟩, hc10⟩, -⟩ := hck
  obtain ⟨kd, np, Mc⟩ := q
  have hle : kd ≤ 7 := by
    rcases hle with (h | h) | h
    · exact Nat.le_trans (Nat.le_of_ble_eq_true h) (by omega)
    · rw [show kd = 6 from Nat.eq_of_beq_eq_true h]; omega
    · rw [show kd = 7 from Nat.eq_of_beq_eq_true h]; omega
  match d, kd, hle with
  | d, 6, _ =>
    obtain ⟨a, r, rfl, H⟩ := zR_of H
    obtain ⟨hcat, H⟩ := zG_of H
    rw [Bool.and_eq_true] at hcat
    obtain ⟨rfl, rfl⟩ | ⟨rfl, rfl⟩ | ⟨rfl, rfl⟩ := hi
    · exact absurd hk (by simp)
    · exact absurd hk (by simp)
    · exact az_objI hd hcw (Nat.le_of_ble_eq_true hcat.1) (Nat.le_of_ble_eq_true hcat.2) H
  | d, 4, _ => obtain ⟨rfl, rfl⟩ | ⟨rfl, rfl⟩ | ⟨rfl, rfl⟩ := hi <;> exact absurd hk (by simp)
  | d, 5, _ => obtain ⟨rfl, rfl⟩ | ⟨rfl, rfl⟩ | ⟨rfl, rfl⟩ := hi <;> exact absurd hk (by simp)
  | 0, 7, _ =>
    obtain ⟨w, hw, H⟩ := zOf_of H
    exact (zRv_2 H).elim
  | 0, 0, _ =>
    obtain ⟨w, hw, H⟩ := zOf_of H
    exact (zRv_2 H).elim
  | 0, 1, _ =>
    obtain ⟨w, hw, H⟩ := zOf_of H
    exact (zRv_2 H).elim
  | 0, 2, _ =>
    obtain ⟨w, hw, H⟩ := zOf_of H
    exact (zRv_2 H).elim
  | 0, 3, _ =>
    obtain ⟨w, hw, H⟩ := zOf_of H
    exact (zRv_2 H).elim
  | d + 1, 0, _ =>
    obtain ⟨w, hw, H⟩ := zOf_of H
    have H1 := zRv_10 H
    have H2 := zRv_2 H
    obtain ⟨hcat, H⟩ := zG_of H2
    rw [Bool.and_eq_true] at hcat
    obtain ⟨as, e1, e2, e3⟩ := azPop_of _ _ _ _ hw
    rw [List.append_nil] at e1
    have hnp' := of_decide_eq_true (hnp.resolve_left (fun h => Bool.noConfusion (show false = true from h)))
    have hc10' : Mc.2.2.2.2.2.1 < 10 := Nat.blt_eq.mp (hc10.resolve_left (fun h => Bool.noConfusion (show true = false from h)))
    obtain ⟨rfl, -⟩ | ⟨rfl, rfl⟩ | ⟨rfl, rfl⟩ := hi
    · rw [e1] at H1 H hcat
      cases as with
      | nil => exact H1.elim
      | cons v As =>
        cases v <;> first | exact H1.elim | skip
        rename_i b
        have H1 : (azKd σ b).1 = Mc.2.2.2.2.2.1 := H1
        refine az_call hMc hpl e3 (Nat.le_of_ble_eq_true hcat.2) (fun {p e R s m args below meth c H0 locs cells slots mc ms ls' v σ1} hC hK hR hb hsz hdd hdl hc hs hmet => ?_) H
        have hts := hC.2.2.2.2.2.1
        obtain ⟨cell, g1, g2, g3, g4⟩ := az_obj hK hR hc10' H1
        have hbn : b < azB := Nat.lt_trans (hR.2.2.1.1 b (by omega)) hb
        have e2' : As.length + 1 = np + 1 := e2
        exact va_runV (As := As.map (zVal G)) (rest := w.2.map (zVal G)) (C := Mc.1.cls) (b := zA G b) ⟨hC.1, hC.2.1, hC.2.2.2.1, hC.2.2.2.2.1, hts⟩ hmet
          ⟨az_callB hC hMc hdd hdl (hcw _ (by simp [azCw])) (hcw _ (by simp [azCw])) (hcw _ (by simp [azCw])) hnp', hts _ (hcw _ (by simp [azCw])), hts _ (hcw _ (by simp [azCw]))⟩
          ⟨azPreB (as := .ref b :: As), ⟨cell, by rw [zA_lt hbn]; exact g1, by rw [g3]; rfl, by rw [(azTab_of hMc).1, g2]; exact g4.1⟩, fun U hU hW => ⟨rfl, by rw [hU]; exact hR, hK.warm hW⟩⟩
          rfl (by rw [List.length_map]; exact Nat.succ.inj e2') hsz (by show st.map (zVal G) = _; rw [e3]; simp [zVal]) (az_roomC (Nat.le_of_ble_eq_true hcat.1)) hd ⟨hc, hs⟩
    · exact absurd hk (by simp)
    · exact absurd hk (by simp)
  | d + 1, 7, _ =>
    obtain ⟨w, hw, H⟩ := zOf_of H
    have H1 := zRv_17 H
    have H2 := zRv_2 H
    obtain ⟨hcat, H⟩ := zG_of H2
    rw [Bool.and_eq_true] at hcat
    obtain ⟨as, e1, e2, e3⟩ := azPop_of _ _ _ _ hw
    rw [List.append_nil] at e1
    have hnp' := of_decide_eq_true (hnp.resolve_left (fun h => Bool.noConfusion (show false = true from h)))
    have hc13' : Mc.2.2.2.2.2.1 = 13 := Nat.eq_of_beq_eq_true (hc13.resolve_left (fun h => Bool.noConfusion (show true = false from h)))
    obtain ⟨rfl, -⟩ | ⟨rfl, rfl⟩ | ⟨rfl, rfl⟩ := hi
    · rw [e1] at H1 H hcat
      cases as with
      | nil => exact H1.elim
      | cons v As =>
        cases v <;> first | exact H1.elim | skip
        rename_i b
        have H1 : (azKd σ b).1 = 16 := H1
        refine az_call hMc hpl e3 (Nat.le_of_ble_eq_true hcat.2) (fun {p e R s m args below meth c H0 locs cells slots mc ms ls' v σ1} hC hK hR hb hsz hdd hdl hc hs hmet => ?_) H
        have hts := hC.2.2.2.2.2.1
        obtain ⟨i, hi4, rfl⟩ := hR.2.2.1.2.2.1 b H1
        obtain ⟨cell, g1, g2, g3, g4⟩ := (hK.2.2.2.2.2.1.1 i hi4).1
        have hcl : Mc.1.cls = "java/lang/String" := by rw [(azTab_of hMc).1]; show azN Mc.2.2.2.2.2.1 = _; rw [hc13']; rfl
        have e2' : As.length + 1 = np + 1 := e2
        exact va_runV (As := As.map (zVal G)) (rest := w.2.map (zVal G)) (C := Mc.1.cls) (b := zA G (azB + i)) ⟨hC.1, hC.2.1, hC.2.2.2.1, hC.2.2.2.2.1, hts⟩ hmet
          ⟨az_callB hC hMc hdd hdl (hcw _ (by simp [azCw])) (hcw _ (by simp [azCw])) (hcw _ (by simp [azCw])) hnp', hts _ (hcw _ (by simp [azCw])), hts _ (hcw _ (by simp [azCw]))⟩
          ⟨azPreB (as := .ref (azB + i) :: As), ⟨cell, by rw [zA_str hi4, hR.2.2.2 _ (Nat.not_le.mp g4)]; exact g1, g2, by rw [hcl]; exact g3⟩, fun U hU hW => ⟨rfl, by rw [hU]; exact hR, hK.warm hW⟩⟩
          rfl (by rw [List.length_map]; exact Nat.succ.inj e2') hsz (by show st.map (zVal G) = _; rw [e3]; simp [zVal]) (az_roomC (Nat.le_of_ble_eq_true hcat.1)) hd ⟨hc, hs⟩
    · exact absurd hk (by simp)
    · exact absurd hk (by simp)
  | d + 1, 1, _ =>
    obtain ⟨w, hw, H⟩ := zOf_of H
    have H2 := zRv_2 H
    obtain ⟨hcat, H⟩ := zG_of H2
    rw [Bool.and_eq_true] at hcat
    obtain ⟨as, e1, e2, e3⟩ := azPop_of _ _ _ _ hw
    rw [List.append_nil] at e1
    have hnp' := of_decide_eq_true (hnp.resolve_left (fun h => Bool.noConfusion (show false = true from h)))
    obtain ⟨rfl, rfl⟩ | ⟨rfl, -⟩ | ⟨rfl, rfl⟩ := hi
    · exact absurd hk (by simp)
    · rw [e1] at H hcat
      refine az_call hMc hpl e3 (Nat.le_of_ble_eq_true hcat.2) (fun {p e R s m args below meth c H0 locs cells slots mc ms ls' v σ1} hC hK hR hb hsz hdd hdl hc hs hmet => ?_) H
      have hts := hC.2.2.2.2.2.1
      exact va_runS (As := as.map (zVal G)) (rest := w.2.map (zVal G)) ⟨hC.1, hC.2.1, hC.2.2.2.1, hC.2.2.2.2.1, hts⟩ hmet
        ⟨az_callB hC hMc hdd hdl (hcw _ (by simp [azCw])) (hcw _ (by simp [azCw])) (hcw _ (by simp [azCw])) hnp', hts _ (hcw _ (by simp [azCw]))⟩
        ⟨azPreB (as := as), fun U hU hW => ⟨rfl, by rw [hU]; exact hR, hK.warm hW⟩⟩
        rfl (by rw [List.length_map]; exact e2) hsz (by show st.map (zVal G) = _; rw [e3]; simp) (az_roomC (Nat.le_of_ble_eq_true hcat.1)) hd ⟨hc, hs⟩
    · exact absurd hk (by simp)
  | d + 1, 2, _ =>
    obtain ⟨w, hw, H⟩ := zOf_of H
    have H1 := zRv_12 H
    have H2 := zRv_2 H
    obtain ⟨hcat, H⟩ := zG_of H2
    rw [Bool.and_eq_true] at hcat
    obtain ⟨as, e1, e2, e3⟩ := azPop_of _ _ _ _ hw
    rw [List.append_nil] at e1
    have hnp' := of_decide_eq_true (hnp.resolve_left (fun h => Bool.noConfusion (show false = true from h)))
    have hin' := hin.resolve_left (fun h => Bool.noConfusion (show true = false from h))
    obtain ⟨rfl, rfl⟩ | ⟨rfl, rfl⟩ | ⟨rfl, -⟩ := hi
    · exact absurd hk (by simp)
    · exact absurd hk (by simp)
    · rw [e1] at H1 H hcat
      have hnm := of_decide_eq_true hin'.1
      have hno : Mc.2.2.2.1 = none := by
        have h2 := hin'.2
        revert h2
        show azNo Mc.2.2.2.1 = true → _
        cases Mc.2.2.2.1 with
        | none => exact fun _ => rfl
        | some x => exact fun h => Bool.noConfusion (show false = true from h)
      cases as with
      | nil => exact absurd (show 0 = np + 1 from e2) (by omega)
      | cons v As =>
        have e2' : As.length + 1 = np + 1 := e2
        cases v <;> first | exact H1.elim | skip
        rename_i b
        refine az_call hMc hpl e3 (Nat.le_of_ble_eq_true hcat.2) (fun {p e R s m args below meth c H0 locs cells slots mc ms ls' v σ1} hC hK hR hb hsz hdd hdl hc hs hmet => ?_) H
        have hts := hC.2.2.2.2.2.1
        have cb := az_callB (idx := idx) (mc := mc) (ms := ms) hC hMc hdd hdl (hcw _ (by simp [azCw])) (hcw _ (by simp [azCw])) (hcw _ (by simp [azCw])) hnp'
        rw [hno] at cb
        exact va_runI (As := As.map (zVal G)) (rest := w.2.map (zVal G)) (b := zA G b) ⟨hC.1, hC.2.1, hC.2.2.2.1, hC.2.2.2.2.1, hts⟩ hmet
          ⟨cb, hnm, hts _ (hcw _ (by simp [azCw]))⟩
          ⟨azPreB (as := .ref b :: As), fun U hU hW => ⟨rfl, by rw [hU]; exact hR, hK.warm hW⟩⟩
          rfl (by rw [List.length_map]; exact Nat.succ.inj e2') hsz (by show st.map (zVal G) = _; rw [e3]; simp [zVal]) (az_roomC (Nat.le_of_ble_eq_true hcat.1)) hd ⟨hc, hs⟩
  | d + 1, 3, _ =>
    obtain ⟨w, hw, H⟩ := zOf_of H
    have H2 := zRv_2 H
    obtain ⟨hcat, H⟩ := zG_of H2
    rw [Bool.and_eq_true] at hcat
    obtain ⟨as, e1, e2, e3⟩ := azPop_of _ _ _ _ hw
    rw [List.append_nil] at e1
    have hnp' := of_decide_eq_true (hnp.resolve_left (fun h => Bool.noConfusion (show false = true from h)))
    obtain ⟨rfl, rfl⟩ | ⟨rfl, -⟩ | ⟨rfl, rfl⟩ := hi
    · exact absurd hk (by simp)
    · rw [e1] at H hcat
      refine az_call hMc hpl e3 (Nat.le_of_ble_eq_true hcat.2) (fun {p e R s m args below meth c H0 locs cells slots mc ms ls' v σ1} hC hK hR hb hsz hdd hdl hc hs hmet => ?_) H
      have hts := hC.2.2.2.2.2.1
      have hcode : azCode Mc ∈ azWords := hcw _ (by simp [azCw])
      have hg : GoodIn azWords (azCode Mc :: azWords) := fun w hw => by
        rcases List.mem_cons.mp hw with rfl | hw
        · exact azGood _ hcode
        · exact azGood _ hw
      obtain ⟨t1, t2, t3⟩ := azTab_of hMc
      have t3 : Mc.2.2.1 ≤ 21 := t3
      exact va_runSN (As := as.map (zVal G)) (rest := w.2.map (zVal G)) ⟨hC.1, hC.2.1, hC.2.2.2.1, hC.2.2.2.2.1, hts⟩ hmet
        ⟨va_cnB (host := RX8) np hts hg rfl rfl rfl (hK.2.1 _ (hcx _ (by simp [azCx]))) (hts _ (hcw _ (by simp [azCw]))) ⟨by rw [t1]; exact (azN_ok _).1, by rw [t1]; exact (azN_ok _).2, hnp'⟩ ⟨hdd, by show 8 + (Mc.2.2.1 + 11) + 40 * d ≤ R.locals; omega⟩, hts _ (hcw _ (by simp [azCw])), trivial⟩
        ⟨azPreB (as := as), fun U hU hW => ⟨rfl, by rw [hU]; exact hR, hK.warm hW⟩⟩
        rfl (by rw [List.length_map]; exact e2) hsz (by show st.map (zVal G) = _; rw [e3]; simp) (az_roomC (Nat.le_of_ble_eq_true hcat.1)) hd ⟨hc, hs⟩
    · exact absurd hk (by simp)
theorem az_W {G : azG} {p : Program} {l : Launch} {e : Env} {R : Room} {s : State} {m : MethodId} {args : Array Value} {below : List Frame} {meth : Method} {c : Code} {H : Heap} {locs : List Loc} {cells slots pc : Nat} {ls' : Array Slot} {st st2 : List Value} {v : Option Value} {σ : azS} (h : W p l e R s m args below meth c H locs cells slots (MQ below (zQ G v σ) args s cells slots (fun q => gB G ≤ q)) (F0 m pc ls' st)) (hst : st = st2) : W p l e R s m args below meth c H locs (cells) (slots) (MQ below (zQ G v σ) args s (cells + (σ.1.1 - σ.1.1)) (slots + (σ.1.2.1 - σ.1.2.1)) (fun q => gB G ≤ q)) (F0 m pc ls' st2) := by
  subst hst
  rw [Nat.sub_self, Nat.sub_self, Nat.add_zero, Nat.add_zero]
  exact h
def azRt (i : Instr) : Bool := match i with
  | .ireturn | .lreturn | .areturn | .return_ => true
  | _ => false
theorem zNil_of {r : List Value} {P : Prop} (h : zNil r P) : r = [] ∧ P := by
  unfold zNil at h; split at h <;> first | exact ⟨rfl, h⟩ | exact h.elim
theorem zRok_of {t : Option FieldType} {x : Int32} {P : Prop} (h : zRok t x P) : (t = some .int ∨ (t = some .boolean ∧ (x = 0 ∨ x = 1)) ∨ (t = some .byte ∧ narrow .byte (.int x) = .int x) ∨ (t = some .char ∧ narrow .char (.int x) = .int x)) ∧ P := by
  unfold zRok at h
  split at h
  · exact ⟨Or.inl rfl, h⟩
  · exact ⟨Or.inr (Or.inl ⟨rfl, h.1⟩), h.2⟩
  · exact ⟨Or.inr (Or.inr (Or.inl ⟨rfl, h.1⟩)), h.2⟩
  · exact ⟨Or.inr (Or.inr (Or.inr ⟨rfl, h.1⟩)), h.2⟩
  · exact h.elim
theorem az_ret {G : azG} {l : Launch} {d : Nat} {M : azM} {pc : Nat} {ls st : List Value} {σ : azS} {Q : azQ} {i : Instr} {len : Nat} (hi : azRt i = true) (hd : decode M.2.1 pc = .ok (i, len) ∧ azLen (i, len) = true) (H : azStep (zReal G l) (zReal G l) d M pc ls st σ Q i) : zReal G l d M pc ls st σ Q := by
  cases i
  case ireturn =>
    obtain ⟨x, r, rfl, H'⟩ := zI_of H
    obtain ⟨rfl, H'⟩ := zNil_of H'
    obtain ⟨hok, H'⟩ := zRok_of H'
    replace H := H'
    obtain ⟨h1, h2⟩ := hd
    obtain rfl : len = 1 := azLen_beq h2
    refine fun _ => ⟨_, σ, H, Nat.le_refl _, Nat.le_refl _, fun hb hL p e R s m args below meth c H0 locs cells slots ls' hC hK hR hl hlo hc hs hdd hdl => az_W (st := [.int x]) ?_ rfl⟩
    have hlk := hC.2.2.2.2.2.2.1
    revert hok
    generalize hrt : M.2.2.2.1 = rt
    intro hok
    rcases hok with rfl | ⟨rfl, hok⟩ | ⟨rfl, hok⟩ | ⟨rfl, hok⟩
    · exact W.iret hC.1 hC.2.1 (hC.2.2.1.trans hrt) (fun t ht _ => ⟨rfl, by rw [ht]; exact hR⟩) hlo h1 hlk
    · exact W.zret hC.1 hC.2.1 (hC.2.2.1.trans hrt) (by rcases hok with rfl | rfl <;> rfl) (fun t ht _ => ⟨rfl, by rw [ht]; exact hR⟩) hlo h1 hlk
    · exact W.zret hC.1 hC.2.1 (hC.2.2.1.trans hrt) hok (fun t ht _ => ⟨rfl, by rw [ht]; exact hR⟩) hlo h1 hlk
    · exact W.zret hC.1 hC.2.1 (hC.2.2.1.trans hrt) hok (fun t ht _ => ⟨rfl, by rw [ht]; exact hR⟩) hlo h1 hlk
  case lreturn =>
    obtain ⟨x, r, rfl, H'⟩ := zL_of H
    obtain ⟨rfl, H'⟩ := zNil_of H'
    obtain ⟨hr, H⟩ := zG_of H'
    obtain ⟨h1, h2⟩ := hd
    obtain rfl : len = 1 := azLen_beq h2
    have hr : M.2.2.2.1 = some .long := by
      revert hr
      unfold azLL1
      split
      · rename_i h; exact fun _ => h
      · exact fun h => Bool.noConfusion h
    refine fun _ => ⟨_, σ, H, Nat.le_refl _, Nat.le_refl _, fun hb hL p e R s m args below meth c H0 locs cells slots ls' hC hK hR hl hlo hc hs hdd hdl => az_W (st := [.long x]) ?_ rfl⟩
    have hlk := hC.2.2.2.2.2.2.1
    exact W.lret hC.1 hC.2.1 (hC.2.2.1.trans hr) (fun t ht _ => ⟨rfl, by rw [ht]; exact hR⟩) hlo h1 hlk
  case areturn =>
    obtain ⟨h1, h2⟩ := hd
    obtain rfl : len = 1 := azLen_beq h2
    have hob : ∀ {t : Option FieldType}, azOb t = true → ∃ n, t = some (.object n) := by
      intro t
      unfold azOb
      split
      · exact fun _ => ⟨_, rfl⟩
      · exact fun h => Bool.noConfusion h
    obtain ⟨a, r, rfl, H'⟩ | ⟨r, rfl, H'⟩ := zO_of H
    · obtain ⟨rfl, H'⟩ := zNil_of H'
      obtain ⟨hr, H⟩ := zG_of H'
      obtain ⟨n, hr⟩ := hob hr
      refine fun _ => ⟨_, σ, H, Nat.le_refl _, Nat.le_refl _, fun hb hL p e R s m args below meth c H0 locs cells slots ls' hC hK hR hl hlo hc hs hdd hdl => az_W (st := [.ref (zA G a)]) ?_ rfl⟩
      have hlk := hC.2.2.2.2.2.2.1
      exact W.aret hC.1 hC.2.1 (hC.2.2.1.trans hr) (Or.inl ⟨n, rfl⟩) (Or.inr ⟨_, rfl⟩) (fun t ht _ => ⟨rfl, by rw [ht]; exact hR⟩) hlo h1 hlk
    · obtain ⟨rfl, H'⟩ := zNil_of H'
      obtain ⟨hr, H⟩ := zG_of H'
      obtain ⟨n, hr⟩ := hob hr
      refine fun _ => ⟨_, σ, H, Nat.le_refl _, Nat.le_refl _, fun hb hL p e R s m args below meth c H0 locs cells slots ls' hC hK hR hl hlo hc hs hdd hdl => az_W (st := [.null]) ?_ rfl⟩
      have hlk := hC.2.2.2.2.2.2.1
      exact W.aret hC.1 hC.2.1 (hC.2.2.1.trans hr) (Or.inl ⟨n, rfl⟩) (Or.inl rfl) (fun t ht _ => ⟨rfl, by rw [ht]; exact hR⟩) hlo h1 hlk
  case return_ =>
    obtain ⟨rfl, H'⟩ := zNil_of H
    obtain ⟨hr, H⟩ := zG_of H'
    obtain ⟨h1, h2⟩ := hd
    obtain rfl : len = 1 := azLen_beq h2
    have hr : M.2.2.2.1 = none := by
      revert hr
      unfold azNo
      split
      · rename_i h; exact fun _ => h
      · exact fun h => Bool.noConfusion h
    refine fun _ => ⟨_, σ, H, Nat.le_refl _, Nat.le_refl _, fun hb hL p e R s m args below meth c H0 locs cells slots ls' hC hK hR hl hlo hc hs hdd hdl => az_W (st := []) ?_ rfl⟩
    have hlk := hC.2.2.2.2.2.2.1
    exact W.vret hC.1 hC.2.1 (hC.2.2.1.trans hr) (fun t ht _ => ⟨rfl, by rw [ht]; exact hR⟩) hlo h1 hlk
  all_goals cases hi
theorem zReal_closed (G : azG) (l : Launch) : azClosed (zReal G l) := by
  refine ⟨fun d M pc ls st σ Q H hM => ?_, fun d M pc ls st σ Q Q' h H hM => ?_⟩
  · obtain ⟨q, hq, H⟩ := zOf_of H
    obtain ⟨h1, h2⟩ := azLook_dec hM hq
    obtain ⟨i, len⟩ := q
    by_cases h3 : azPl i = true
    · exact az_plain h3 ⟨h1, h2⟩ H hM
    by_cases h4 : azHp i = true
    · exact az_heap h4 ⟨h1, h2⟩ H hM
    by_cases h5 : azRt i = true
    · exact az_ret h5 ⟨h1, h2⟩ H hM
    cases i
    case invokevirtual k =>
      obtain rfl : len = 3 := azLen_beq h2
      exact az_calls (Or.inl ⟨rfl, rfl⟩) h1 H hM
    case invokestatic k =>
      obtain rfl : len = 3 := azLen_beq h2
      exact az_calls (Or.inr (Or.inl ⟨rfl, rfl⟩)) h1 H hM
    case invokespecial k =>
      obtain rfl : len = 3 := azLen_beq h2
      exact az_calls (Or.inr (Or.inr ⟨rfl, rfl⟩)) h1 H hM
    all_goals first
      | exact H.elim
      | exact absurd rfl h3
      | exact absurd rfl h4
      | exact absurd rfl h5
  · obtain ⟨v, σ', hQ, hr⟩ := H hM
    exact ⟨v, σ', h _ _ hQ, hr⟩
end
section
/-! THE CLAIM'S START OUT OF THE LAW'S RUN ON THE ABSTRACT MACHINE. -/
def az0 (L : Nat) (xs : Nat → Int32) : azS := ((0, 0, fun a => if a = azB + 10 then (15, L) else if azB ≤ a ∧ a < azB + 4 then (16, 0) else if azB + 20 ≤ a ∧ a < azB + 24 then (17, azTl.getD (a - azB - 20) 0) else (99, 0)), (fun a k => if a = azB + 10 then xs k else (azTx.getD (a - azB - 20) []).getD k 0), (fun _ _ => 0), fun _ _ => none)
theorem az0_old {G : azG} (σ : azS) (h : σ = az0 (gL G) (gX G)) : zOld G σ := by
  subst h
  refine ⟨fun a ha => ?_, fun a ha => ?_, fun a ha => ?_, fun a ha => ?_⟩
  · simp only [azKd, az0] at ha
    split at ha
    · exact absurd ha (by simp)
    · split at ha
      · exact absurd ha (by simp)
      · split at ha
        · exact absurd ha (by simp)
        · exact absurd ha (by simp)
  · simp only [azKd, az0] at ha ⊢
    split at ha
    · rename_i h
      subst h
      refine ⟨rfl, ?_, ?_⟩
      · rw [if_pos rfl]
      · funext k
        rw [if_pos rfl]
    · split at ha
      · exact absurd ha (by simp)
      · split at ha
        · exact absurd ha (by simp)
        · exact absurd ha (by simp)
  · simp only [azKd, az0] at ha
    split at ha
    · exact absurd ha (by simp)
    · split at ha
      · rename_i h
        exact ⟨a - azB, by omega, by omega⟩
      · split at ha
        · exact absurd ha (by simp)
        · exact absurd ha (by simp)
  · simp only [azKd, az0] at ha ⊢
    split at ha
    · exact absurd ha (by simp)
    · rename_i h0
      split at ha
      · exact absurd ha (by simp)
      · rename_i h1
        split at ha
        · rename_i h
          refine ⟨a - azB - 20, by omega, by omega, ?_, fun k hk => ?_⟩
          · rw [if_neg h0, if_neg h1, if_pos h]
          · rw [if_neg h0]
        · exact absurd ha (by simp)
/-- the law, run on the abstract machine, for every script -/
def azLaw : Prop := ∀ (R : azP), azClosed R → ∀ (L : Nat) (xs : Nat → Int32), L ≤ 2048 → R 200 mL_law 0 (azEnv [.ref (azB + 10)] 4) [] (az0 L xs) fun v σ => v = some (.int 1) ∧ σ.1.1 ≤ 600000 ∧ σ.1.2.1 ≤ 7302250
theorem azInst : ((List.range 10).all fun ci => decide (Cond.instantiable (azN ci) (azNf ci) ∈ azWn)) = true := by decide +kernel
theorem az_framed {s t : State} {o : Outcome} {L : List Loc} {k n : Nat} (h : FrameEnd s o t L k n) (hL : ∀ q ∈ L, s.heap.size ≤ q.base) (hk : k ≤ 600000) (hn : n ≤ 7302250) : Framed s o t [] 600000 7302250 :=
  ⟨h.1, h.2.1, h.2.2.weaken (fun y hy hlt => absurd hlt (Nat.not_lt.mpr (hL y hy))) hk hn⟩
theorem az_arr {s : State} {args : Array Value} {ty : FieldType} (h : (Cond.arrayClass ty).before args s = true) : ∃ cA : ClassId, ArrOfT s cA ty ∧ s.vm.findClass ("[" ++ ty.toString) = some cA := by
  obtain ⟨c, k, comp, h1, h2, h3⟩ := Cond.arrayClass_spec h
  exact ⟨c, fun n z => ⟨fun k h => (by cases h), k, h2, comp, h3⟩, h1⟩
theorem az_arrO {s : State} {args : Array Value} {C : String} (h : (Cond.arrayOver (.object C)).before args s = true) : ∃ cA : ClassId, ArrOfT s cA (.object C) ∧ va_RA s cA (.object C) := by
  obtain ⟨comp, c, k, h1, h2, h3, h4, h5⟩ := Cond.arrayOver_spec h
  exact ⟨c, fun n z => ⟨fun k h => (by cases h), k, h3, comp, h4⟩, k, comp, h3, h4, h1, h5⟩
set_option maxHeartbeats 4000000 in
set_option maxRecDepth 100000 in
/-- what the tables say at the law's entry -/
theorem az_start {s : State} {b L : Nat} {xs : Nat → Int32} (hts : ∀ w ∈ lw_tbl, w.before #[Value.ref b] s = true) (hX : va_X b L xs s s.heap) (hbl : b < s.heap.size) (hgv : (Jvm.Cond.and given_1 narrow_1).before #[Value.ref b] s = true) : ∃ G : azG, zK G s ∧ gB G = s.heap.size ∧ gH G = s.heap ∧ gL G = L ∧ gX G = xs ∧ gS G = b := by
  have hw : ∀ w ∈ azWords, w.before #[Value.ref b] s = true := fun w h => hts w (azWords_in w h).1
  have hfl := flat_of_before _ hgv
  have hA : ∀ a : Nat, a < s.heap.size → ¬ (fun q : Nat => s.heap.size ≤ q) a := fun a h => Nat.not_le.mpr h
  have hKn : ∀ ci : Nat, ∃ (q : ClassId × (Nat → Nat)), ci < 10 → ∀ (C : String) (T : u_T) (N : Nat), vwCl[ci]? = some (C, T, N) → u_Kn s C T N q.1 q.2 := by
    intro ci
    by_cases hci : ci < 10
    · obtain ⟨C, T, g1, g2, g3, g4, g5, g6⟩ := azCls ci hci
      have hi : Cond.instantiable (azN ci) (azNf ci) ∈ azWn := of_decide_eq_true (List.all_eq_true.mp azInst ci (List.mem_range.mpr hci))
      obtain ⟨cC, iS, h⟩ := u_known (C := C) (T := T) (N := azNf ci) (n := azNf ci) hts (fun w hw => (azWords_in w (g3 w hw)).1) (by rw [g2]; exact hw _ (azWn_w _ hi))
      refine ⟨(cC, iS), fun _ C' T' N' h' => ?_⟩
      rw [g1] at h'
      cases h'
      exact h
    · exact ⟨(0, fun _ => 0), fun h => absurd h hci⟩
  obtain ⟨kq, hkq⟩ := Classical.axiomOfChoice hKn
  obtain ⟨c10, a10, f10⟩ := az_arr (hw _ (azWr_w (.arrayClass .int) (by simp [azWr, azArr])))
  obtain ⟨c11, a11, f11⟩ := az_arr (hw _ (azWr_w (.arrayClass .long) (by simp [azWr, azArr])))
  obtain ⟨c12, a12, f12⟩ := az_arr (hw _ (azWr_w (.arrayClass .boolean) (by simp [azWr, azArr])))
  have o3 := hts _ (azXo_in (.arrayOver (.object RX3)) (by simp [azXo]))
  have o5 := hts _ (azXo_in (.arrayOver (.object RX5)) (by simp [azXo]))
  obtain ⟨c13, a13, f13⟩ := az_arrO o3
  obtain ⟨c14, a14, f14⟩ := az_arrO o5
  obtain ⟨adK, adV, hS, hT⟩ := vk_Sof (args := #[Value.ref b]) (s := s) (N := 4) (tm := fun i => Term.string RX8 (260 + 2 * i)) (len := azTl) (byt := azTx) (A := fun q => s.heap.size ≤ q)
    (fun i hi => match i, hi with
      | 0, _ => by decide
      | 1, _ => by decide
      | 2, _ => by decide
      | 3, _ => by decide)
    (fun i hi => match i, hi with
      | 0, _ => hfl _ (by decide +kernel)
      | 1, _ => hfl _ (by decide +kernel)
      | 2, _ => hfl _ (by decide +kernel)
      | 3, _ => hfl _ (by decide +kernel))
    (fun i hi => match i, hi with
      | 0, _ => hfl _ (by decide +kernel)
      | 1, _ => hfl _ (by decide +kernel)
      | 2, _ => hfl _ (by decide +kernel)
      | 3, _ => hfl _ (by decide +kernel))
    (fun i hi => match i, hi with
      | 0, _ => hfl _ (by decide +kernel)
      | 1, _ => hfl _ (by decide +kernel)
      | 2, _ => hfl _ (by decide +kernel)
      | 3, _ => hfl _ (by decide +kernel))
    (fun i hi => match i, hi with
      | 0, _ => hfl _ (by decide +kernel)
      | 1, _ => hfl _ (by decide +kernel)
      | 2, _ => hfl _ (by decide +kernel)
      | 3, _ => hfl _ (by decide +kernel))
    (fun i hi j hj => match i, hi, j, hj with
      | 0, _, 0, _ => hfl _ (by decide +kernel)
      | 0, _, 1, _ => hfl _ (by decide +kernel)
      | 1, _, 0, _ => hfl _ (by decide +kernel)
      | 1, _, 1, _ => hfl _ (by decide +kernel)
      | 2, _, 0, _ => hfl _ (by decide +kernel)
      | 2, _, 1, _ => hfl _ (by decide +kernel)
      | 2, _, 2, _ => hfl _ (by decide +kernel)
      | 3, _, 0, _ => hfl _ (by decide +kernel)
      | 3, _, 1, _ => hfl _ (by decide +kernel)
      | 3, _, 2, _ => hfl _ (by decide +kernel)
      | 3, _, 3, _ => hfl _ (by decide +kernel)
      | 3, _, 4, _ => hfl _ (by decide +kernel))
    (fun i j hi hj hne => match i, hi, j, hj, hne with
      | 0, _, 1, _, _ => Or.inl (hfl _ (by decide +kernel))
      | 0, _, 2, _, _ => Or.inl (hfl _ (by decide +kernel))
      | 0, _, 3, _, _ => Or.inl (hfl _ (by decide +kernel))
      | 1, _, 2, _, _ => Or.inl (hfl _ (by decide +kernel))
      | 1, _, 3, _, _ => Or.inl (hfl _ (by decide +kernel))
      | 2, _, 3, _, _ => Or.inl (hfl _ (by decide +kernel))
      | 1, _, 0, _, _ => Or.inr (hfl _ (by decide +kernel))
      | 2, _, 0, _, _ => Or.inr (hfl _ (by decide +kernel))
      | 3, _, 0, _, _ => Or.inr (hfl _ (by decide +kernel))
      | 2, _, 1, _, _ => Or.inr (hfl _ (by decide +kernel))
      | 3, _, 1, _, _ => Or.inr (hfl _ (by decide +kernel))
      | 3, _, 2, _, _ => Or.inr (hfl _ (by decide +kernel))
      | 0, _, 0, _, h => absurd rfl h
      | 1, _, 1, _, h => absurd rfl h
      | 2, _, 2, _, h => absurd rfl h
      | 3, _, 3, _, h => absurd rfl h)
    hA
  have hCo : va_Z "java/lang/String" "COMPACT_STRINGS" "Z" (.int 1) (fun q => s.heap.size ≤ q) s s.heap := va_Zof (hts (.laysStatic "java/lang/String" "COMPACT_STRINGS" "Z") (by decide +kernel)) (hts (.initialized "java/lang/String") (by decide +kernel)) (va_eqi (hfl (.eq (.static "java/lang/String" "COMPACT_STRINGS" "Z") (.int 1)) (by decide +kernel))) hA
  have hFm : va_Zq "jdk/internal/util/Preconditions" "SIOOBE_FORMATTER" "Ljava/util/function/BiFunction;" (fun q => s.heap.size ≤ q) s s.heap := va_Zqof (hts (.laysStatic "jdk/internal/util/Preconditions" "SIOOBE_FORMATTER" "Ljava/util/function/BiFunction;") (by decide +kernel)) (hts (.initialized "jdk/internal/util/Preconditions") (by decide +kernel)) (hfl (.isRef (.static "jdk/internal/util/Preconditions" "SIOOBE_FORMATTER" "Ljava/util/function/BiFunction;")) (by decide +kernel)) hA
  obtain ⟨fm, fl, hfm⟩ : ∃ fm fl : Nat, (fl = 0 ∧ va_Z "jdk/internal/util/Preconditions" "SIOOBE_FORMATTER" "Ljava/util/function/BiFunction;" .null (fun q => s.heap.size ≤ q) s s.heap) ∨ (fl ≠ 0 ∧ va_Z "jdk/internal/util/Preconditions" "SIOOBE_FORMATTER" "Ljava/util/function/BiFunction;" (.ref fm) (fun q => s.heap.size ≤ q) s s.heap) := by
    rcases hFm with h | ⟨t, h⟩
    · exact ⟨0, 0, Or.inl ⟨rfl, h⟩⟩
    · exact ⟨t, 1, Or.inr ⟨by decide, h⟩⟩
  refine ⟨((s.heap.size, s.heap, b, L, xs), (adK, fun i => if i = 10 then fm else if i = 11 then fl else adV i), (fun k => (kq k).1), (fun k => (kq k).2), fun k => if k = 10 then c10 else if k = 11 then c11 else if k = 12 then c12 else if k = 13 then c13 else c14), ⟨⟨fun k q hq => ?_, fun k q hq => ?_⟩, fun w hw' => ?_, ⟨va_AO.of o3, va_AO.of o5⟩, fun q hq => ?_, ⟨hX, hbl⟩, ?_, rfl, hCo, hfm⟩, rfl, rfl, rfl, rfl, rfl⟩
  · have hk : k < 10 := (List.getElem?_eq_some_iff.mp hq).1
    exact hkq k hk q.1 q.2.1 q.2.2 hq
  · match k, hq with
    | 0, hq => cases hq; exact ⟨a10, f10⟩
    | 1, hq => cases hq; exact ⟨a11, f11⟩
    | 2, hq => cases hq; exact ⟨a12, f12⟩
    | 3, hq => cases hq; exact ⟨a13, f13⟩
    | 4, hq => cases hq; exact ⟨a14, f14⟩
    | k + 5, hq => simp [zTys] at hq
  · have hb' : w.before #[Value.ref b] s = true := by
      rcases List.mem_append.mp hw' with h | h
      · exact hts _ (azXf_in w h)
      · exact hts _ (azXc_in w h)
    rcases azX_shape w hw' with ⟨a, i, x, n, d, hh, rfl⟩ | ⟨a, i, x, hh, rfl⟩
    · exact va_Nw.of rfl hb'
    · exact va_Nw.of rfl hb'
  · have h1 : (Cond.stringRef RX8 q.1 q.2.2).before #[Value.ref b] s = true := hts _ (azXs_in _ (azMap_mem (c := 8) (by decide) hq (List.mem_singleton_self _)))
    have h2 : q = (260, 0, "in") ∨ q = (262, 1, "if") ∨ q = (264, 2, "out") ∨ q = (266, 3, "empty") := by
      have : q ∈ [(260, 0, "in"), (262, 1, "if"), (264, 2, "out"), (266, 3, "empty")] := hq
      simpa using this
    rcases h2 with rfl | rfl | rfl | rfl
    · exact vk_R.of h1 (hT 0 (by decide))
    · exact vk_R.of h1 (hT 1 (by decide))
    · exact vk_R.of h1 (hT 2 (by decide))
    · exact vk_R.of h1 (hT 3 (by decide))
  · refine ⟨fun i hi => ?_, hS.2⟩
    have h := hS.1 i hi
    have e : (if i = 10 then fm else if i = 11 then fl else adV i) = adV i := by rw [if_neg (by omega), if_neg (by omega)]
    show _ ∧ _ ∧ va_OF _ _ _ (.ref (if i = 10 then fm else if i = 11 then fl else adV i)) _ _ _ _ ∧ va_T _ (if i = 10 then fm else if i = 11 then fl else adV i) _ _ _ _ _
    rw [e]
    exact h
/-! THE CLAIM OUT OF ONE WALK OF THE LAW'S BODY. Your part is whole_start (and what it stands on); all else here is the same for every law, but numbers. -/
def R_law : String := "TokenNetLaw"
def lw_P (b : Addr) (xs : List Int32) (args : Array Value) (s : State) : Prop := args = #[.ref b] ∧ s.IntsAt b xs ∧ xs.length ≤ 2048 ∧ (Jvm.Cond.and given_1 narrow_1).before args s = true
def lw_Q (_ : Array Value) (s : State) (o : Outcome) (t : State) : Prop := o = .returned (some (.int 1)) ∧ Framed s o t [] 600000 7302250
def lw_Z (below : List Frame) (a : Array Value) (s : State) : State → Prop := fun t => ∃ o, t.status = .running ∧ Ended t below o ∧ lw_Q a s o t
/-- the law's own end, with 1 on the stack, nothing written that was there before, its room as the claim has it -/
theorem lw_ret {p : Program} {l : Launch} {e : Env} {s : State} {m : MethodId} {below : List Frame} {meth : Method} {c : Code} {b : Nat} (hx : p.tables.exec = Jvm.exec) (hb : c.code = code) (hr : meth.sig.returnType = ret) (hlocks : meth.locks = false) {pc : Nat} {H : Heap} {ls : Array Slot} (hdg : decode code pc = .ok (.ireturn, 1)) : W p l e room_1 s m #[Value.ref b] below meth c H [] 600000 7302250 (lw_Z below #[Value.ref b] s) (F0 m pc ls [.int 1]) := by
  intro T hT X
  obtain ⟨fs, hret, hrun, hended, hW, hframe⟩ := X.leave (v := some (.int 1)) (hlocks := hlocks) (fun h => by rw [hr] at h; cases h)
  have hmeth' : T.vm.method? m = some meth := X.method'
  refine ⟨T.setFrames fs, ?_, .returned (some (.int 1)), hrun, hended, rfl, ⟨_, rfl⟩, hW, hframe⟩
  jvm_step X.here [X.here.top, hx, hb, hdg, hmeth', hr, ret, narrow_b1]
  (try refine ⟨rfl, ?_⟩); (try refine ⟨rfl, ?_⟩)
  first | (intro acts; rw [hret _ acts rfl rfl rfl]) | rw [hret _ _ rfl rfl rfl]
  exact Steps.refl _
/-- what holds at the law's entry: the machine, the code, the tables' words (any of lw_tbl by 'hts w (by decide +kernel)'), the script of L ints xs at the cell b, what the Statement gives of the start (any of its parts by flat_of_before) -/
def lw_At (p : Program) (s : State) (m : MethodId) (meth : Method) (c : Code) (b L : Nat) (xs : Nat → Int32) : Prop :=
  p.tables.exec = Jvm.exec ∧ c.code = code ∧ meth.sig.returnType = ret ∧ c.maxLocals = 4 ∧ s.vm.findClass R_law = some m.cls ∧ (∀ w ∈ lw_tbl, w.before #[Value.ref b] s = true) ∧ va_X b L xs s s.heap ∧ b < s.heap.size ∧ meth.locks = false ∧ (Jvm.Cond.and given_1 narrow_1).before #[Value.ref b] s = true
set_option maxHeartbeats 4000000 in
set_option maxRecDepth 100000 in
theorem whole_start_open (hlaw : azLaw) {p : Program} {e : Env} {s : State} {m : MethodId} {below : List Frame} {meth : Method} {c : Code} (l : Launch) {b L : Nat} {xs : Nat → Int32} (hL : L ≤ 2048) (C0 : lw_At p s m meth c b L xs) : W p l e room_1 s m #[Value.ref b] below meth c s.heap [] 0 0 (lw_Z below #[Value.ref b] s) (entryFrame m ([Value.ref b] : List Value).toArray 4) := by
  obtain ⟨hx, hb, hr, hml, hown, hts, hX, hbl, hlocks, hgv⟩ := id C0
  have hw : ∀ w ∈ azWords, w.before #[Value.ref b] s = true := fun w h => hts w (azWords_in w h).1
  obtain ⟨G, hK, e1, e2, e3, e4, e5⟩ := az_start hts hX hbl hgv
  obtain ⟨v, σ', ⟨rfl, hn, hz⟩, h1, h2, K⟩ := hlaw (zReal G l) (zReal_closed G l) L xs hL kL_law
  have hzb : zA G (azB + 10) = b := by
    unfold zA
    rw [if_neg (by omega), if_pos rfl, e5]
  have hR : zRel G (az0 L xs) s.heap := by
    refine ⟨by rw [e1]; rfl, fun a ha => absurd ha (Nat.not_lt_zero a), az0_old _ (by rw [e3, e4]), fun q _ => by rw [e2]⟩
  have hlv := zLv_env (G := G) (as := [.ref (azB + 10)]) (n := 4) (by decide)
  rw [show [Value.ref (azB + 10)].map (zVal G) = [Value.ref b] by show [Value.ref (zA G (azB + 10))] = _; rw [hzb]] at hlv
  rw [lg_entry_eq]
  have hwk := K (Nat.lt_of_le_of_lt hn (by decide)) rfl p e room_1 s m #[Value.ref b] below meth c s.heap [] 0 0 _ ⟨hx, hb, hr, hml, hown, hw, hlocks, fun h => (by cases h), kL_law⟩ hK hR hlv (fun _ h => by cases h) (by show 0 + (σ'.1.1 - 0) ≤ 600000; omega) (by show 0 + (σ'.1.2.1 - 0) ≤ 7302250; omega) (by decide) (by decide)
  intro T hT X
  obtain ⟨t, a1, o, b1, b2, ⟨b3, -⟩, L', b4, b5⟩ := hwk T hT X
  exact ⟨t, a1, o, b1, b2, b3, az_framed b4 (fun q hq => by rw [← e1]; exact b5 q hq) (by show 0 + (σ'.1.1 - 0) ≤ 600000; omega) (by show 0 + (σ'.1.2.1 - 0) ≤ 7302250; omega)⟩
end
section
/-! NUMBERS: the machine's ints that are natural numbers. -/
theorem nI_ad (a b : Nat) : nI a + nI b = nI (a + b) := (Int32.ofNat_add a b).symm
theorem nI_ml (a b : Nat) : nI a * nI b = nI (a * b) := (Int32.ofNat_mul a b).symm
theorem nI_lti {a b : Nat} (ha : a < 2 ^ 31) (hb : b < 2 ^ 31) : nI a < nI b ↔ a < b := by
  rw [Int32.lt_iff_toInt_lt, nI_toInt ha, nI_toInt hb]; omega
theorem nI_lei {a b : Nat} (ha : a < 2 ^ 31) (hb : b < 2 ^ 31) : nI a ≤ nI b ↔ a ≤ b := by
  rw [Int32.le_iff_toInt_le, nI_toInt ha, nI_toInt hb]; omega
theorem nI_eqi {a b : Nat} (ha : a < 2 ^ 31) (hb : b < 2 ^ 31) : nI a = nI b ↔ a = b := by
  rw [← Int32.toInt_inj, nI_toInt ha, nI_toInt hb]; omega
theorem nI_eq0 {a : Nat} (ha : a < 2 ^ 31) : nI a = 0 ↔ a = 0 := by
  rw [← nI_0, nI_eqi ha (by decide)]
theorem nI_nn {a : Nat} (ha : a < 2 ^ 31) : ¬ nI a < 0 := by
  rw [← nI_0, nI_lti ha (by decide)]; omega
theorem nI_0le {a : Nat} (ha : a < 2 ^ 31) : 0 ≤ nI a := by
  rw [← nI_0, nI_lei (by decide) ha]; omega
theorem nI_0lt {a : Nat} (ha : a < 2 ^ 31) : 0 < nI a ↔ 0 < a := by
  rw [← nI_0, nI_lti (by decide) ha]
theorem nI_le0 {a : Nat} (ha : a < 2 ^ 31) : nI a ≤ 0 ↔ a = 0 := by
  rw [← nI_0, nI_lei ha (by decide)]; omega
theorem nI_sb {a b : Nat} (h : b ≤ a) : nI a - nI b = nI (a - b) := by
  have e : nI a = nI (a - b) + nI b := by rw [nI_ad]; congr 1; omega
  rw [e]
  exact Int32.add_sub_cancel _ _
theorem nI_pd {a : Nat} (h : 0 < a) : nI a + -(nI 1) = nI (a - 1) := by
  rw [← Int32.sub_eq_add_neg, nI_sb h]
theorem zOf_some {α : Type} (x : α) (f : α → Prop) : zOf (some x) f = f x := rfl
theorem zOp_some {α : Type} (x : α) (f : α → Prop) (g : Prop) : zOp (some x) f g = f x := rfl
theorem zOp_none {α : Type} (f : α → Prop) (g : Prop) : zOp (none : Option α) f g = g := rfl
theorem kI_int (x : Int32) (f : Int32 → Prop) : kI (some (.int x)) f = f x := rfl
theorem kL_long (x : Int64) (f : Int64 → Prop) : kL (some (.long x)) f = f x := rfl
theorem kO_ref (x : Nat) (f : Nat → Prop) (g : Prop) : kO (some (.ref x)) f g = f x := rfl
theorem kO_null (f : Nat → Prop) (g : Prop) : kO (some .null) f g = g := rfl
theorem azUp_at {α : Type} (f : Nat → Nat → α) (a k b j : Nat) (v : α) : azUp f a k v b j = if b = a then (if j = k then v else f b j) else f b j := rfl
/-- an index below n, or none -/
def ix (x : Int32) (n : Nat) : Option Nat := if 0 ≤ x ∧ x < nI n then some x.toNatClampNeg else none
theorem ix_nI {k n : Nat} (hn : n < 2 ^ 31) (h : k < n) : ix (nI k) n = some k := by
  unfold ix
  rw [if_pos ⟨nI_0le (by omega), (nI_lti (by omega) hn).mpr h⟩, nI_clamp (by omega)]
theorem ix_cases (x : Int32) {n : Nat} (hn : n < 2 ^ 31) : (ix x n = none ∧ (x < 0 ∨ (¬ x < 0 ∧ nI n ≤ x))) ∨ ∃ k, k < n ∧ x = nI k ∧ ix x n = some k := by
  by_cases h0 : x < 0
  · left
    refine ⟨?_, Or.inl h0⟩
    unfold ix
    rw [if_neg (fun h => absurd h0 (Int32.not_lt.mpr h.1))]
  · obtain ⟨k, hk, rfl⟩ := nI_of h0
    by_cases h1 : k < n
    · exact Or.inr ⟨k, h1, rfl, ix_nI hn h1⟩
    · left
      refine ⟨?_, Or.inr ⟨h0, (nI_lei hn hk).mpr (by omega)⟩⟩
      unfold ix
      rw [if_neg (fun h => h1 ((nI_lti hk hn).mp h.2))]
theorem nlt_T {a b : Nat} (h : a < b) : (a < b) = True := eq_true h
theorem nlt_F {a b : Nat} (h : b ≤ a) : (a < b) = False := eq_false (by omega)
theorem nle_T {a b : Nat} (h : a ≤ b) : (a ≤ b) = True := eq_true h
theorem nle_F {a b : Nat} (h : b < a) : (a ≤ b) = False := eq_false (by omega)
theorem neq_F {a b : Nat} (h : a < b ∨ b < a) : (a = b) = False := eq_false (by omega)
theorem vpT {k n : Nat} (h : k < n) (h2 : n < 2 ^ 31) : vp_in (nI k) n = True := eq_true (vp_in_nI h h2)
theorem n01_0 : (nI 0 = 0) = True := eq_true nI_0
theorem n01_1 : (nI 1 = 1) = True := eq_true (by decide)
theorem nm1_0 : (-(nI 1) = 0) = False := eq_false (by decide)
end
section
/-! BLOCKS: Marking, JDK (written by wip/whole/blocks.py) -/
theorem BX3_count_0 {R : azP} (hR : azClosed R) {d n z : Nat} {kd : azK} {I : azI} {J : azJ} {F : azR} {Q : azQ} {a0 : Nat} {x1 : Int32}
    (h : ((x1 < 0 → Q (some (.int (nI 0))) ((n, z, kd), I, J, F)) ∧ (¬ (x1 < 0) → (((nI 10) ≤ x1 → Q (some (.int (nI 0))) ((n, z, kd), I, J, F)) ∧ (¬ ((nI 10) ≤ x1) → ((kd a0).1 = 3 ∧ zOf (F a0 0) fun b1 => (((kd b1).1 = 10 ∨ (kd b1).1 = 15) ∧ vp_in x1 (kd b1).2 ∧ Q (some (.int (I b1 x1.toNatClampNeg))) ((n, z, kd), I, J, F)))))))) :
    R d mX3_count 0 [.ref a0, .int x1] [] ((n, z, kd), I, J, F) Q := hR.go [] 12 h
set_option maxRecDepth 100000 in
theorem BX3_holds_0 {R : azP} (hR : azClosed R) {d n z : Nat} {kd : azK} {I : azI} {J : azJ} {F : azR} {Q : azQ} {a0 : Nat} {x1 x2 : Int32}
    (h : ((x1 < 0 → (((nI 0) = 0 ∨ (nI 0) = 1) ∧ Q (some (.int (nI 0))) ((n, z, kd), I, J, F))) ∧ (¬ (x1 < 0) → (((nI 10) ≤ x1 → (((nI 0) = 0 ∨ (nI 0) = 1) ∧ Q (some (.int (nI 0))) ((n, z, kd), I, J, F))) ∧ (¬ ((nI 10) ≤ x1) → ((x2 < 0 → (((nI 0) = 0 ∨ (nI 0) = 1) ∧ Q (some (.int (nI 0))) ((n, z, kd), I, J, F))) ∧ (¬ (x2 < 0) → (((nI 6) ≤ x2 → (((nI 0) = 0 ∨ (nI 0) = 1) ∧ Q (some (.int (nI 0))) ((n, z, kd), I, J, F))) ∧ (¬ ((nI 6) ≤ x2) → ((kd a0).1 = 3 ∧ zOf (F a0 0) fun b1 => (((kd b1).1 = 10 ∨ (kd b1).1 = 15) ∧ vp_in x1 (kd b1).2 ∧ (((I b1 x1.toNatClampNeg) ≤ x2 → (((nI 0) = 0 ∨ (nI 0) = 1) ∧ Q (some (.int (nI 0))) ((n, z, kd), I, J, F))) ∧ (¬ ((I b1 x1.toNatClampNeg) ≤ x2) → (((nI 1) = 0 ∨ (nI 1) = 1) ∧ Q (some (.int (nI 1))) ((n, z, kd), I, J, F))))))))))))))) :
    R d mX3_holds 0 [.ref a0, .int x1, .int x2] [] ((n, z, kd), I, J, F) Q := hR.go [] 20 h
theorem BX3_at_0 {R : azP} (hR : azClosed R) {d n z : Nat} {kd : azK} {I : azI} {J : azJ} {F : azR} {Q : azQ} {a0 : Nat} {x1 x2 : Int32}
    (h : ((kd a0).1 = 3 ∧ R d mX3_holds 0 [.ref a0, .int x1, .int x2] [] ((n, z, kd), I, J, F) fun v1 s2 => kI v1 fun r3 => ((r3 = 0 → Q (some (.int (-(nI 1)))) s2) ∧ (¬ (r3 = 0) → ((s2.1.2.2 a0).1 = 3 ∧ zOf (s2.2.2.2 a0 1) fun b4 => (((s2.1.2.2 b4).1 = 10 ∨ (s2.1.2.2 b4).1 = 15) ∧ vp_in ((x1 * (nI 6)) + x2) (s2.1.2.2 b4).2 ∧ Q (some (.int (s2.2.1 b4 (((x1 * (nI 6)) + x2).toNatClampNeg)))) s2)))))) :
    R (d + 1) mX3_at 0 [.ref a0, .int x1, .int x2] [] ((n, z, kd), I, J, F) Q := hR.go [] 16 h
set_option maxRecDepth 100000 in
theorem BX3_append_0 {R : azP} (hR : azClosed R) {d n z : Nat} {kd : azK} {I : azI} {J : azJ} {F : azR} {Q : azQ} {a0 : Nat} {x1 x2 : Int32}
    (h : (R d mX8_isPlace 0 [.int x1] [] ((n, z, kd), I, J, F) fun v1 s2 => kI v1 fun r3 => ((r3 = 0 → (((nI 0) = 0 ∨ (nI 0) = 1) ∧ Q (some (.int (nI 0))) s2)) ∧ (¬ (r3 = 0) → ((s2.1.2.2 a0).1 = 3 ∧ zOf (s2.2.2.2 a0 0) fun b4 => (((s2.1.2.2 b4).1 = 10 ∨ (s2.1.2.2 b4).1 = 15) ∧ vp_in x1 (s2.1.2.2 b4).2 ∧ (((s2.2.1 b4 x1.toNatClampNeg) < (nI 6) → ((s2.1.2.2 a0).1 = 3 ∧ zOf (s2.2.2.2 a0 1) fun b5 => ((s2.1.2.2 a0).1 = 3 ∧ zOf (s2.2.2.2 a0 0) fun b6 => (((s2.1.2.2 b6).1 = 10 ∨ (s2.1.2.2 b6).1 = 15) ∧ vp_in x1 (s2.1.2.2 b6).2 ∧ ((s2.1.2.2 b5).1 = 10 ∧ vp_in ((x1 * (nI 6)) + (s2.2.1 b6 x1.toNatClampNeg)) (s2.1.2.2 b5).2 ∧ ((s2.1.2.2 a0).1 = 3 ∧ zOf (s2.2.2.2 a0 0) fun b7 => (((s2.1.2.2 b7).1 = 10 ∨ (s2.1.2.2 b7).1 = 15) ∧ vp_in x1 (s2.1.2.2 b7).2 ∧ ((s2.1.2.2 b7).1 = 10 ∧ vp_in x1 (s2.1.2.2 b7).2 ∧ (((nI 1) = 0 ∨ (nI 1) = 1) ∧ Q (some (.int (nI 1))) ((s2.1), (azUp ((azUp s2.2.1 b5 (((x1 * (nI 6)) + (s2.2.1 b6 x1.toNatClampNeg)).toNatClampNeg) x2)) b7 x1.toNatClampNeg (((azUp s2.2.1 b5 (((x1 * (nI 6)) + (s2.2.1 b6 x1.toNatClampNeg)).toNatClampNeg) x2) b7 x1.toNatClampNeg) + (nI 1))), s2.2.2.1, s2.2.2.2)))))))))) ∧ (¬ ((s2.2.1 b4 x1.toNatClampNeg) < (nI 6)) → (((nI 0) = 0 ∨ (nI 0) = 1) ∧ Q (some (.int (nI 0))) s2))))))))) :
    R (d + 1) mX3_append 0 [.ref a0, .int x1, .int x2] [] ((n, z, kd), I, J, F) Q := hR.go [] 32 h
set_option maxRecDepth 100000 in
theorem BX3_remove_0 {R : azP} (hR : azClosed R) {d n z : Nat} {kd : azK} {I : azI} {J : azJ} {F : azR} {Q : azQ} {a0 : Nat} {x1 x2 : Int32}
    (h : ((kd a0).1 = 3 ∧ R d mX3_holds 0 [.ref a0, .int x1, .int x2] [] ((n, z, kd), I, J, F) fun v1 s2 => kI v1 fun r3 => ((¬ r3 = 0 → ((s2.1.2.2 a0).1 = 3 ∧ zOf (s2.2.2.2 a0 1) fun b4 => (((s2.1.2.2 b4).1 = 10 ∨ (s2.1.2.2 b4).1 = 15) ∧ vp_in ((x1 * (nI 6)) + x2) (s2.1.2.2 b4).2 ∧ ((s2.1.2.2 a0).1 = 3 ∧ zOf (s2.2.2.2 a0 0) fun b5 => (((s2.1.2.2 b5).1 = 10 ∨ (s2.1.2.2 b5).1 = 15) ∧ vp_in x1 (s2.1.2.2 b5).2 ∧ ((s2.1.2.2 b5).1 = 10 ∧ vp_in x1 (s2.1.2.2 b5).2 ∧ R (d + 1) mX3_remove 36 [.ref a0, .int x1, .int x2, .int (s2.2.1 b4 (((x1 * (nI 6)) + x2).toNatClampNeg)), .int x2] [] ((s2.1), (azUp s2.2.1 b5 x1.toNatClampNeg ((s2.2.1 b5 x1.toNatClampNeg) - (nI 1))), s2.2.2.1, s2.2.2.2) Q)))))) ∧ (¬ (¬ r3 = 0) → Q (some (.int (-(nI 1)))) s2)))) :
    R (d + 1) mX3_remove 0 [.ref a0, .int x1, .int x2, .retAddr 0, .retAddr 0] [] ((n, z, kd), I, J, F) Q := hR.go [36] 26 h
set_option maxRecDepth 100000 in
theorem BX3_remove_36 {R : azP} (hR : azClosed R) {d n z : Nat} {kd : azK} {I : azI} {J : azJ} {F : azR} {Q : azQ} {a0 : Nat} {x1 x2 x3 x4 : Int32}
    (h : ((kd a0).1 = 3 ∧ zOf (F a0 0) fun b1 => (((kd b1).1 = 10 ∨ (kd b1).1 = 15) ∧ vp_in x1 (kd b1).2 ∧ (((I b1 x1.toNatClampNeg) ≤ x4 → Q (some (.int x3)) ((n, z, kd), I, J, F)) ∧ (¬ ((I b1 x1.toNatClampNeg) ≤ x4) → ((kd a0).1 = 3 ∧ zOf (F a0 1) fun b2 => ((kd a0).1 = 3 ∧ zOf (F a0 1) fun b3 => (((kd b3).1 = 10 ∨ (kd b3).1 = 15) ∧ vp_in (((x1 * (nI 6)) + x4) + (nI 1)) (kd b3).2 ∧ ((kd b2).1 = 10 ∧ vp_in ((x1 * (nI 6)) + x4) (kd b2).2 ∧ R (d + 1) mX3_remove 36 [.ref a0, .int x1, .int x2, .int x3, .int (x4 + (nI 1))] [] ((n, z, kd), (azUp I b2 (((x1 * (nI 6)) + x4).toNatClampNeg) (I b3 ((((x1 * (nI 6)) + x4) + (nI 1)).toNatClampNeg))), J, F) Q))))))))) :
    R (d + 1) mX3_remove 36 [.ref a0, .int x1, .int x2, .int x3, .int x4] [] ((n, z, kd), I, J, F) Q := hR.go [36] 28 h
theorem BX3_wipe_0 {R : azP} (hR : azClosed R) {d n z : Nat} {kd : azK} {I : azI} {J : azJ} {F : azR} {Q : azQ} {a0 : Nat}
    (h : R d mX3_wipe 2 [.ref a0, .int (nI 0)] [] ((n, z, kd), I, J, F) Q) :
    R d mX3_wipe 0 [.ref a0, .retAddr 0] [] ((n, z, kd), I, J, F) Q := hR.go [2] 4 h
theorem BX3_wipe_2 {R : azP} (hR : azClosed R) {d n z : Nat} {kd : azK} {I : azI} {J : azJ} {F : azR} {Q : azQ} {a0 : Nat} {x1 : Int32}
    (h : (((nI 10) ≤ x1 → Q none ((n, z, kd), I, J, F)) ∧ (¬ ((nI 10) ≤ x1) → ((kd a0).1 = 3 ∧ zOf (F a0 0) fun b1 => ((kd b1).1 = 10 ∧ vp_in x1 (kd b1).2 ∧ R d mX3_wipe 2 [.ref a0, .int (x1 + (nI 1))] [] ((n, z, kd), (azUp I b1 x1.toNatClampNeg (nI 0)), J, F) Q))))) :
    R d mX3_wipe 2 [.ref a0, .int x1] [] ((n, z, kd), I, J, F) Q := hR.go [2] 12 h
theorem BX3_copy_0 {R : azP} (hR : azClosed R) {d n z : Nat} {kd : azK} {I : azI} {J : azJ} {F : azR} {Q : azQ} {a0 a1 : Nat}
    (h : R d mX3_copy 2 [.ref a0, .ref a1, .int (nI 0)] [] ((n, z, kd), I, J, F) Q) :
    R d mX3_copy 0 [.ref a0, .ref a1, .retAddr 0] [] ((n, z, kd), I, J, F) Q := hR.go [2, 28] 4 h
theorem BX3_copy_2 {R : azP} (hR : azClosed R) {d n z : Nat} {kd : azK} {I : azI} {J : azJ} {F : azR} {Q : azQ} {a0 a1 : Nat} {x2 : Int32}
    (h : (((nI 10) ≤ x2 → R d mX3_copy 28 [.ref a0, .ref a1, .int (nI 0)] [] ((n, z, kd), I, J, F) Q) ∧ (¬ ((nI 10) ≤ x2) → ((kd a0).1 = 3 ∧ zOf (F a0 0) fun b1 => ((kd a1).1 = 3 ∧ zOf (F a1 0) fun b2 => (((kd b2).1 = 10 ∨ (kd b2).1 = 15) ∧ vp_in x2 (kd b2).2 ∧ ((kd b1).1 = 10 ∧ vp_in x2 (kd b1).2 ∧ R d mX3_copy 2 [.ref a0, .ref a1, .int (x2 + (nI 1))] [] ((n, z, kd), (azUp I b1 x2.toNatClampNeg (I b2 x2.toNatClampNeg)), J, F) Q))))))) :
    R d mX3_copy 2 [.ref a0, .ref a1, .int x2] [] ((n, z, kd), I, J, F) Q := hR.go [2, 28] 15 h
theorem BX3_copy_28 {R : azP} (hR : azClosed R) {d n z : Nat} {kd : azK} {I : azI} {J : azJ} {F : azR} {Q : azQ} {a0 a1 : Nat} {x2 : Int32}
    (h : (((nI 60) ≤ x2 → Q none ((n, z, kd), I, J, F)) ∧ (¬ ((nI 60) ≤ x2) → ((kd a0).1 = 3 ∧ zOf (F a0 1) fun b1 => ((kd a1).1 = 3 ∧ zOf (F a1 1) fun b2 => (((kd b2).1 = 10 ∨ (kd b2).1 = 15) ∧ vp_in x2 (kd b2).2 ∧ ((kd b1).1 = 10 ∧ vp_in x2 (kd b1).2 ∧ R d mX3_copy 28 [.ref a0, .ref a1, .int (x2 + (nI 1))] [] ((n, z, kd), (azUp I b1 x2.toNatClampNeg (I b2 x2.toNatClampNeg)), J, F) Q))))))) :
    R d mX3_copy 28 [.ref a0, .ref a1, .int x2] [] ((n, z, kd), I, J, F) Q := hR.go [2, 28] 15 h
theorem BX3_isLike_0 {R : azP} (hR : azClosed R) {d n z : Nat} {kd : azK} {I : azI} {J : azJ} {F : azR} {Q : azQ} {a0 a1 : Nat}
    (h : R d mX3_isLike 2 [.ref a0, .ref a1, .int (nI 0), .retAddr 0] [] ((n, z, kd), I, J, F) Q) :
    R d mX3_isLike 0 [.ref a0, .ref a1, .retAddr 0, .retAddr 0] [] ((n, z, kd), I, J, F) Q := hR.go [2, 27] 4 h
theorem BX3_isLike_2 {R : azP} (hR : azClosed R) {d n z : Nat} {kd : azK} {I : azI} {J : azJ} {F : azR} {Q : azQ} {a0 a1 : Nat} {x2 : Int32} {w3 : Value}
    (h : (((nI 10) ≤ x2 → (((nI 1) = 0 ∨ (nI 1) = 1) ∧ Q (some (.int (nI 1))) ((n, z, kd), I, J, F))) ∧ (¬ ((nI 10) ≤ x2) → ((kd a0).1 = 3 ∧ zOf (F a0 0) fun b1 => (((kd b1).1 = 10 ∨ (kd b1).1 = 15) ∧ vp_in x2 (kd b1).2 ∧ ((kd a1).1 = 3 ∧ zOf (F a1 0) fun b2 => (((kd b2).1 = 10 ∨ (kd b2).1 = 15) ∧ vp_in x2 (kd b2).2 ∧ (((I b1 x2.toNatClampNeg) = (I b2 x2.toNatClampNeg) → R d mX3_isLike 27 [.ref a0, .ref a1, .int x2, .int (nI 0)] [] ((n, z, kd), I, J, F) Q) ∧ (¬ ((I b1 x2.toNatClampNeg) = (I b2 x2.toNatClampNeg)) → (((nI 0) = 0 ∨ (nI 0) = 1) ∧ Q (some (.int (nI 0))) ((n, z, kd), I, J, F))))))))))) :
    R d mX3_isLike 2 [.ref a0, .ref a1, .int x2, w3] [] ((n, z, kd), I, J, F) Q := hR.go [2, 27] 16 h
set_option maxRecDepth 100000 in
theorem BX3_isLike_27 {R : azP} (hR : azClosed R) {d n z : Nat} {kd : azK} {I : azI} {J : azJ} {F : azR} {Q : azQ} {a0 a1 : Nat} {x2 x3 : Int32}
    (h : ((kd a0).1 = 3 ∧ zOf (F a0 0) fun b1 => (((kd b1).1 = 10 ∨ (kd b1).1 = 15) ∧ vp_in x2 (kd b1).2 ∧ (((I b1 x2.toNatClampNeg) ≤ x3 → R d mX3_isLike 2 [.ref a0, .ref a1, .int (x2 + (nI 1)), .int x3] [] ((n, z, kd), I, J, F) Q) ∧ (¬ ((I b1 x2.toNatClampNeg) ≤ x3) → (((nI 6) ≤ x3 → R d mX3_isLike 2 [.ref a0, .ref a1, .int (x2 + (nI 1)), .int x3] [] ((n, z, kd), I, J, F) Q) ∧ (¬ ((nI 6) ≤ x3) → ((kd a0).1 = 3 ∧ zOf (F a0 1) fun b2 => (((kd b2).1 = 10 ∨ (kd b2).1 = 15) ∧ vp_in ((x2 * (nI 6)) + x3) (kd b2).2 ∧ ((kd a1).1 = 3 ∧ zOf (F a1 1) fun b3 => (((kd b3).1 = 10 ∨ (kd b3).1 = 15) ∧ vp_in ((x2 * (nI 6)) + x3) (kd b3).2 ∧ (((I b2 (((x2 * (nI 6)) + x3).toNatClampNeg)) = (I b3 (((x2 * (nI 6)) + x3).toNatClampNeg)) → R d mX3_isLike 27 [.ref a0, .ref a1, .int x2, .int (x3 + (nI 1))] [] ((n, z, kd), I, J, F) Q) ∧ (¬ ((I b2 (((x2 * (nI 6)) + x3).toNatClampNeg)) = (I b3 (((x2 * (nI 6)) + x3).toNatClampNeg))) → (((nI 0) = 0 ∨ (nI 0) = 1) ∧ Q (some (.int (nI 0))) ((n, z, kd), I, J, F))))))))))))))) :
    R d mX3_isLike 27 [.ref a0, .ref a1, .int x2, .int x3] [] ((n, z, kd), I, J, F) Q := hR.go [2, 27] 30 h
theorem BX3_total_0 {R : azP} (hR : azClosed R) {d n z : Nat} {kd : azK} {I : azI} {J : azJ} {F : azR} {Q : azQ} {a0 : Nat}
    (h : R d mX3_total 4 [.ref a0, .int (nI 0), .int (nI 0)] [] ((n, z, kd), I, J, F) Q) :
    R d mX3_total 0 [.ref a0, .retAddr 0, .retAddr 0] [] ((n, z, kd), I, J, F) Q := hR.go [4] 6 h
theorem BX3_total_4 {R : azP} (hR : azClosed R) {d n z : Nat} {kd : azK} {I : azI} {J : azJ} {F : azR} {Q : azQ} {a0 : Nat} {x1 x2 : Int32}
    (h : (((nI 10) ≤ x2 → Q (some (.int x1)) ((n, z, kd), I, J, F)) ∧ (¬ ((nI 10) ≤ x2) → ((kd a0).1 = 3 ∧ zOf (F a0 0) fun b1 => (((kd b1).1 = 10 ∨ (kd b1).1 = 15) ∧ vp_in x2 (kd b1).2 ∧ R d mX3_total 4 [.ref a0, .int (x1 + (I b1 x2.toNatClampNeg)), .int (x2 + (nI 1))] [] ((n, z, kd), I, J, F) Q))))) :
    R d mX3_total 4 [.ref a0, .int x1, .int x2] [] ((n, z, kd), I, J, F) Q := hR.go [4] 14 h
set_option maxRecDepth 100000 in
theorem BJ6_bitCount_0f7a4_0 {R : azP} (hR : azClosed R) {d n z : Nat} {kd : azK} {I : azI} {J : azJ} {F : azR} {Q : azQ} {x0 : Int32}
    (h : Q (some (.int ((((((((x0 - (((x0.toUInt32 >>> ((nI 1).toUInt32 &&& Int32.toUInt32 31)).toInt32) &&& ((1431655765 : Int32)))) &&& ((858993459 : Int32))) + ((((x0 - (((x0.toUInt32 >>> ((nI 1).toUInt32 &&& Int32.toUInt32 31)).toInt32) &&& ((1431655765 : Int32)))).toUInt32 >>> ((nI 2).toUInt32 &&& Int32.toUInt32 31)).toInt32) &&& ((858993459 : Int32)))) + (((((x0 - (((x0.toUInt32 >>> ((nI 1).toUInt32 &&& Int32.toUInt32 31)).toInt32) &&& ((1431655765 : Int32)))) &&& ((858993459 : Int32))) + ((((x0 - (((x0.toUInt32 >>> ((nI 1).toUInt32 &&& Int32.toUInt32 31)).toInt32) &&& ((1431655765 : Int32)))).toUInt32 >>> ((nI 2).toUInt32 &&& Int32.toUInt32 31)).toInt32) &&& ((858993459 : Int32)))).toUInt32 >>> ((nI 4).toUInt32 &&& Int32.toUInt32 31)).toInt32)) &&& ((252645135 : Int32))) + (((((((x0 - (((x0.toUInt32 >>> ((nI 1).toUInt32 &&& Int32.toUInt32 31)).toInt32) &&& ((1431655765 : Int32)))) &&& ((858993459 : Int32))) + ((((x0 - (((x0.toUInt32 >>> ((nI 1).toUInt32 &&& Int32.toUInt32 31)).toInt32) &&& ((1431655765 : Int32)))).toUInt32 >>> ((nI 2).toUInt32 &&& Int32.toUInt32 31)).toInt32) &&& ((858993459 : Int32)))) + (((((x0 - (((x0.toUInt32 >>> ((nI 1).toUInt32 &&& Int32.toUInt32 31)).toInt32) &&& ((1431655765 : Int32)))) &&& ((858993459 : Int32))) + ((((x0 - (((x0.toUInt32 >>> ((nI 1).toUInt32 &&& Int32.toUInt32 31)).toInt32) &&& ((1431655765 : Int32)))).toUInt32 >>> ((nI 2).toUInt32 &&& Int32.toUInt32 31)).toInt32) &&& ((858993459 : Int32)))).toUInt32 >>> ((nI 4).toUInt32 &&& Int32.toUInt32 31)).toInt32)) &&& ((252645135 : Int32))).toUInt32 >>> ((nI 8).toUInt32 &&& Int32.toUInt32 31)).toInt32)) + ((((((((x0 - (((x0.toUInt32 >>> ((nI 1).toUInt32 &&& Int32.toUInt32 31)).toInt32) &&& ((1431655765 : Int32)))) &&& ((858993459 : Int32))) + ((((x0 - (((x0.toUInt32 >>> ((nI 1).toUInt32 &&& Int32.toUInt32 31)).toInt32) &&& ((1431655765 : Int32)))).toUInt32 >>> ((nI 2).toUInt32 &&& Int32.toUInt32 31)).toInt32) &&& ((858993459 : Int32)))) + (((((x0 - (((x0.toUInt32 >>> ((nI 1).toUInt32 &&& Int32.toUInt32 31)).toInt32) &&& ((1431655765 : Int32)))) &&& ((858993459 : Int32))) + ((((x0 - (((x0.toUInt32 >>> ((nI 1).toUInt32 &&& Int32.toUInt32 31)).toInt32) &&& ((1431655765 : Int32)))).toUInt32 >>> ((nI 2).toUInt32 &&& Int32.toUInt32 31)).toInt32) &&& ((858993459 : Int32)))).toUInt32 >>> ((nI 4).toUInt32 &&& Int32.toUInt32 31)).toInt32)) &&& ((252645135 : Int32))) + (((((((x0 - (((x0.toUInt32 >>> ((nI 1).toUInt32 &&& Int32.toUInt32 31)).toInt32) &&& ((1431655765 : Int32)))) &&& ((858993459 : Int32))) + ((((x0 - (((x0.toUInt32 >>> ((nI 1).toUInt32 &&& Int32.toUInt32 31)).toInt32) &&& ((1431655765 : Int32)))).toUInt32 >>> ((nI 2).toUInt32 &&& Int32.toUInt32 31)).toInt32) &&& ((858993459 : Int32)))) + (((((x0 - (((x0.toUInt32 >>> ((nI 1).toUInt32 &&& Int32.toUInt32 31)).toInt32) &&& ((1431655765 : Int32)))) &&& ((858993459 : Int32))) + ((((x0 - (((x0.toUInt32 >>> ((nI 1).toUInt32 &&& Int32.toUInt32 31)).toInt32) &&& ((1431655765 : Int32)))).toUInt32 >>> ((nI 2).toUInt32 &&& Int32.toUInt32 31)).toInt32) &&& ((858993459 : Int32)))).toUInt32 >>> ((nI 4).toUInt32 &&& Int32.toUInt32 31)).toInt32)) &&& ((252645135 : Int32))).toUInt32 >>> ((nI 8).toUInt32 &&& Int32.toUInt32 31)).toInt32)).toUInt32 >>> ((nI 16).toUInt32 &&& Int32.toUInt32 31)).toInt32)) &&& (nI 63)))) ((n, z, kd), I, J, F)) :
    R d mJ6_bitCount_0f7a4 0 [.int x0] [] ((n, z, kd), I, J, F) Q := hR.go [] 43 h
theorem BJ9_floorMod_7cf53_0 {R : azP} (hR : azClosed R) {d n z : Nat} {kd : azK} {I : azI} {J : azJ} {F : azR} {Q : azQ} {x0 x1 : Int32}
    (h : ¬ x1 = 0 ∧ ((0 ≤ (x0 ^^^ x1) → Q (some (.int (x0 - x0 / x1 * x1))) ((n, z, kd), I, J, F)) ∧ (¬ (0 ≤ (x0 ^^^ x1)) → (((x0 - x0 / x1 * x1) = 0 → Q (some (.int (x0 - x0 / x1 * x1))) ((n, z, kd), I, J, F)) ∧ (¬ ((x0 - x0 / x1 * x1) = 0) → Q (some (.int ((x0 - x0 / x1 * x1) + x1))) ((n, z, kd), I, J, F)))))) :
    R d mJ9_floorMod_7cf53 0 [.int x0, .int x1, .retAddr 0] [] ((n, z, kd), I, J, F) Q := hR.go [] 15 h
theorem BJ9_abs_067f4_0 {R : azP} (hR : azClosed R) {d n z : Nat} {kd : azK} {I : azI} {J : azJ} {F : azR} {Q : azQ} {y0 : Int64}
    (h : ((0 ≤ (lg_cmp y0 (lN 0)) → Q (some (.long y0)) ((n, z, kd), I, J, F)) ∧ (¬ (0 ≤ (lg_cmp y0 (lN 0))) → Q (some (.long (-y0))) ((n, z, kd), I, J, F)))) :
    R d mJ9_abs_067f4 0 [.long y0, .retAddr 1] [] ((n, z, kd), I, J, F) Q := hR.go [] 9 h
theorem BJ9_max_7cf53_0 {R : azP} (hR : azClosed R) {d n z : Nat} {kd : azK} {I : azI} {J : azJ} {F : azR} {Q : azQ} {x0 x1 : Int32}
    (h : ((x0 < x1 → Q (some (.int x1)) ((n, z, kd), I, J, F)) ∧ (¬ (x0 < x1) → Q (some (.int x0)) ((n, z, kd), I, J, F)))) :
    R d mJ9_max_7cf53 0 [.int x0, .int x1] [] ((n, z, kd), I, J, F) Q := hR.go [] 7 h
theorem BJ9_min_7cf53_0 {R : azP} (hR : azClosed R) {d n z : Nat} {kd : azK} {I : azI} {J : azJ} {F : azR} {Q : azQ} {x0 x1 : Int32}
    (h : ((x1 < x0 → Q (some (.int x1)) ((n, z, kd), I, J, F)) ∧ (¬ (x1 < x0) → Q (some (.int x0)) ((n, z, kd), I, J, F)))) :
    R d mJ9_min_7cf53 0 [.int x0, .int x1] [] ((n, z, kd), I, J, F) Q := hR.go [] 7 h
theorem BJ0_length_8abf5_0 {R : azP} (hR : azClosed R) {d n z : Nat} {kd : azK} {I : azI} {J : azJ} {F : azR} {Q : azQ} {a0 : Nat}
    (h : ((kd a0).1 = 16 ∧ (((10 ≤ (kd (a0 + 20)).1 ∧ (kd (a0 + 20)).1 ≤ 15) ∨ (kd (a0 + 20)).1 = 17) ∧ ((kd a0).1 = 16 ∧ R d mJ0_coder_7d493 0 [.ref a0] [] ((n, z, kd), I, J, F) fun v1 s2 => kI v1 fun r3 => Q (some (.int ((nI (kd (a0 + 20)).2) >>> (r3 &&& 31)))) s2)))) :
    R (d + 1) mJ0_length_8abf5 0 [.ref a0] [] ((n, z, kd), I, J, F) Q := hR.go [] 8 h
theorem BJ0_charAt_5068e_0 {R : azP} (hR : azClosed R) {d n z : Nat} {kd : azK} {I : azI} {J : azJ} {F : azR} {Q : azQ} {a0 : Nat} {x1 : Int32}
    (h : ((kd a0).1 = 16 ∧ R d mJ0_isLatin1_aae02 0 [.ref a0] [] ((n, z, kd), I, J, F) fun v1 s2 => kI v1 fun r3 => ((r3 = 0 → False) ∧ (¬ (r3 = 0) → ((s2.1.2.2 a0).1 = 16 ∧ (R d mJ1_charAt_3b067 0 [.ref (a0 + 20), .int x1] [] s2 fun v4 s5 => kI v4 fun r6 => (narrow .char (.int r6) = .int r6 ∧ Q (some (.int r6)) s5))))))) :
    R (d + 1) mJ0_charAt_5068e 0 [.ref a0, .int x1] [] ((n, z, kd), I, J, F) Q := hR.go [] 9 h
theorem BJ0_coder_7d493_0 {R : azP} (hR : azClosed R) {d n z : Nat} {kd : azK} {I : azI} {J : azJ} {F : azR} {Q : azQ} {a0 : Nat}
    (h : (((nI 1) = 0 → (narrow .byte (.int (nI 1)) = .int (nI 1) ∧ Q (some (.int (nI 1))) ((n, z, kd), I, J, F))) ∧ (¬ ((nI 1) = 0) → ((kd a0).1 = 16 ∧ (narrow .byte (.int (nI 0)) = .int (nI 0) ∧ Q (some (.int (nI 0))) ((n, z, kd), I, J, F)))))) :
    R d mJ0_coder_7d493 0 [.ref a0] [] ((n, z, kd), I, J, F) Q := hR.go [] 7 h
theorem BJ0_isLatin1_aae02_0 {R : azP} (hR : azClosed R) {d n z : Nat} {kd : azK} {I : azI} {J : azJ} {F : azR} {Q : azQ} {a0 : Nat}
    (h : (((nI 1) = 0 → (((nI 0) = 0 ∨ (nI 0) = 1) ∧ Q (some (.int (nI 0))) ((n, z, kd), I, J, F))) ∧ (¬ ((nI 1) = 0) → ((kd a0).1 = 16 ∧ ((¬ (nI 0) = 0 → (((nI 0) = 0 ∨ (nI 0) = 1) ∧ Q (some (.int (nI 0))) ((n, z, kd), I, J, F))) ∧ (¬ (¬ (nI 0) = 0) → (((nI 1) = 0 ∨ (nI 1) = 1) ∧ Q (some (.int (nI 1))) ((n, z, kd), I, J, F)))))))) :
    R d mJ0_isLatin1_aae02 0 [.ref a0] [] ((n, z, kd), I, J, F) Q := hR.go [] 9 h
theorem BJ0_checkIndex_df160_0 {R : azP} (hR : azClosed R) {d n z : Nat} {kd : azK} {I : azI} {J : azJ} {F : azR} {Q : azQ} {x0 x1 : Int32}
    (h : ((R d mJ3_checkIndex_8e157 0 [.int x0, .int x1, .null] [] ((n, z, kd), I, J, F) fun v1 s2 => kI v1 fun r3 => Q none s2) ∧ (R d mJ3_checkIndex_8e157 0 [.int x0, .int x1, .ref (azB + 30)] [] ((n, z, kd), I, J, F) fun v4 s5 => kI v4 fun r6 => Q none s5))) :
    R (d + 1) mJ0_checkIndex_df160 0 [.int x0, .int x1] [] ((n, z, kd), I, J, F) Q := hR.go [] 7 h
theorem BJ1_charAt_3b067_0 {R : azP} (hR : azClosed R) {d n z : Nat} {kd : azK} {I : azI} {J : azJ} {F : azR} {Q : azQ} {a0 : Nat} {x1 : Int32}
    (h : (((10 ≤ (kd a0).1 ∧ (kd a0).1 ≤ 15) ∨ (kd a0).1 = 17) ∧ (R d mJ0_checkIndex_df160 0 [.int x1, .int (nI (kd a0).2)] [] ((n, z, kd), I, J, F) fun v1 s2 => v1 = none ∧ (((s2.1.2.2 a0).1 = 12 ∨ (s2.1.2.2 a0).1 = 17) ∧ vp_in x1 (s2.1.2.2 a0).2 ∧ (narrow .char (.int ((((s2.2.1 a0 x1.toNatClampNeg) &&& (nI 255)).toUInt32 % 65536).toInt32)) = .int ((((s2.2.1 a0 x1.toNatClampNeg) &&& (nI 255)).toUInt32 % 65536).toInt32) ∧ Q (some (.int ((((s2.2.1 a0 x1.toNatClampNeg) &&& (nI 255)).toUInt32 % 65536).toInt32))) s2))))) :
    R (d + 1) mJ1_charAt_3b067 0 [.ref a0, .int x1] [] ((n, z, kd), I, J, F) Q := hR.go [] 12 h
theorem BJ3_checkIndex_8e157_0 {R : azP} (hR : azClosed R) {d n z : Nat} {kd : azK} {I : azI} {J : azJ} {F : azR} {Q : azQ} {a2 : Nat} {x0 x1 : Int32}
    (h : ((x0 < 0 → False) ∧ (¬ (x0 < 0) → ((x0 < x1 → Q (some (.int x0)) ((n, z, kd), I, J, F)) ∧ (¬ (x0 < x1) → False))))) :
    R d mJ3_checkIndex_8e157 0 [.int x0, .int x1, .ref a2] [] ((n, z, kd), I, J, F) Q := hR.go [] 8 h
theorem BX8_isPlace_0 {R : azP} (hR : azClosed R) {d n z : Nat} {kd : azK} {I : azI} {J : azJ} {F : azR} {Q : azQ} {x0 : Int32}
    (h : ((x0 < 0 → (((nI 0) = 0 ∨ (nI 0) = 1) ∧ Q (some (.int (nI 0))) ((n, z, kd), I, J, F))) ∧ (¬ (x0 < 0) → (((nI 10) ≤ x0 → (((nI 0) = 0 ∨ (nI 0) = 1) ∧ Q (some (.int (nI 0))) ((n, z, kd), I, J, F))) ∧ (¬ ((nI 10) ≤ x0) → (((nI 1) = 0 ∨ (nI 1) = 1) ∧ Q (some (.int (nI 1))) ((n, z, kd), I, J, F))))))) :
    R d mX8_isPlace 0 [.int x0] [] ((n, z, kd), I, J, F) Q := hR.go [] 9 h
theorem BX8_isPart_0 {R : azP} (hR : azClosed R) {d n z : Nat} {kd : azK} {I : azI} {J : azJ} {F : azR} {Q : azQ} {x0 : Int32}
    (h : ((x0 < 0 → (((nI 0) = 0 ∨ (nI 0) = 1) ∧ Q (some (.int (nI 0))) ((n, z, kd), I, J, F))) ∧ (¬ (x0 < 0) → (((nI 10) ≤ x0 → (((nI 0) = 0 ∨ (nI 0) = 1) ∧ Q (some (.int (nI 0))) ((n, z, kd), I, J, F))) ∧ (¬ ((nI 10) ≤ x0) → (((nI 1) = 0 ∨ (nI 1) = 1) ∧ Q (some (.int (nI 1))) ((n, z, kd), I, J, F))))))) :
    R d mX8_isPart 0 [.int x0] [] ((n, z, kd), I, J, F) Q := hR.go [] 9 h
theorem BX8_isSet_0 {R : azP} (hR : azClosed R) {d n z : Nat} {kd : azK} {I : azI} {J : azJ} {F : azR} {Q : azQ} {x0 : Int32}
    (h : ((x0 < 0 → (((nI 0) = 0 ∨ (nI 0) = 1) ∧ Q (some (.int (nI 0))) ((n, z, kd), I, J, F))) ∧ (¬ (x0 < 0) → (((nI 1024) ≤ x0 → (((nI 0) = 0 ∨ (nI 0) = 1) ∧ Q (some (.int (nI 0))) ((n, z, kd), I, J, F))) ∧ (¬ ((nI 1024) ≤ x0) → (((nI 1) = 0 ∨ (nI 1) = 1) ∧ Q (some (.int (nI 1))) ((n, z, kd), I, J, F))))))) :
    R d mX8_isSet 0 [.int x0] [] ((n, z, kd), I, J, F) Q := hR.go [] 9 h
theorem BX8_isTimes_0 {R : azP} (hR : azClosed R) {d n z : Nat} {kd : azK} {I : azI} {J : azJ} {F : azR} {Q : azQ} {x0 : Int32}
    (h : ((x0 < (nI 1) → (((nI 0) = 0 ∨ (nI 0) = 1) ∧ Q (some (.int (nI 0))) ((n, z, kd), I, J, F))) ∧ (¬ (x0 < (nI 1)) → (((nI 200) < x0 → (((nI 0) = 0 ∨ (nI 0) = 1) ∧ Q (some (.int (nI 0))) ((n, z, kd), I, J, F))) ∧ (¬ ((nI 200) < x0) → (((nI 1) = 0 ∨ (nI 1) = 1) ∧ Q (some (.int (nI 1))) ((n, z, kd), I, J, F))))))) :
    R d mX8_isTimes 0 [.int x0] [] ((n, z, kd), I, J, F) Q := hR.go [] 10 h
theorem BX8_isReach_0 {R : azP} (hR : azClosed R) {d n z : Nat} {kd : azK} {I : azI} {J : azJ} {F : azR} {Q : azQ} {x0 : Int32}
    (h : ((x0 < (nI 1) → (((nI 0) = 0 ∨ (nI 0) = 1) ∧ Q (some (.int (nI 0))) ((n, z, kd), I, J, F))) ∧ (¬ (x0 < (nI 1)) → (((nI 60) < x0 → (((nI 0) = 0 ∨ (nI 0) = 1) ∧ Q (some (.int (nI 0))) ((n, z, kd), I, J, F))) ∧ (¬ ((nI 60) < x0) → (((nI 1) = 0 ∨ (nI 1) = 1) ∧ Q (some (.int (nI 1))) ((n, z, kd), I, J, F))))))) :
    R d mX8_isReach 0 [.int x0] [] ((n, z, kd), I, J, F) Q := hR.go [] 10 h
theorem BX8_isSide_0 {R : azP} (hR : azClosed R) {d n z : Nat} {kd : azK} {I : azI} {J : azJ} {F : azR} {Q : azQ} {x0 : Int32}
    (h : ((x0 = 0 → (((nI 1) = 0 ∨ (nI 1) = 1) ∧ Q (some (.int (nI 1))) ((n, z, kd), I, J, F))) ∧ (¬ (x0 = 0) → ((¬ x0 = (nI 1) → (((nI 0) = 0 ∨ (nI 0) = 1) ∧ Q (some (.int (nI 0))) ((n, z, kd), I, J, F))) ∧ (¬ (¬ x0 = (nI 1)) → (((nI 1) = 0 ∨ (nI 1) = 1) ∧ Q (some (.int (nI 1))) ((n, z, kd), I, J, F))))))) :
    R d mX8_isSide 0 [.int x0] [] ((n, z, kd), I, J, F) Q := hR.go [] 9 h
theorem BX8_isFigure_0 {R : azP} (hR : azClosed R) {d n z : Nat} {kd : azK} {I : azI} {J : azJ} {F : azR} {Q : azQ} {x0 : Int32}
    (h : ((x0 < (nI 48) → (((nI 0) = 0 ∨ (nI 0) = 1) ∧ Q (some (.int (nI 0))) ((n, z, kd), I, J, F))) ∧ (¬ (x0 < (nI 48)) → (((nI 57) < x0 → (((nI 0) = 0 ∨ (nI 0) = 1) ∧ Q (some (.int (nI 0))) ((n, z, kd), I, J, F))) ∧ (¬ ((nI 57) < x0) → (((nI 1) = 0 ∨ (nI 1) = 1) ∧ Q (some (.int (nI 1))) ((n, z, kd), I, J, F))))))) :
    R d mX8_isFigure 0 [.int x0] [] ((n, z, kd), I, J, F) Q := hR.go [] 10 h
theorem BX8_isName_0 {R : azP} (hR : azClosed R) {d n z : Nat} {kd : azK} {I : azI} {J : azJ} {F : azR} {Q : azQ} {x0 : Int32}
    (h : ((x0 < (nI 120) → (((nI 0) = 0 ∨ (nI 0) = 1) ∧ Q (some (.int (nI 0))) ((n, z, kd), I, J, F))) ∧ (¬ (x0 < (nI 120)) → (((nI 122) < x0 → (((nI 0) = 0 ∨ (nI 0) = 1) ∧ Q (some (.int (nI 0))) ((n, z, kd), I, J, F))) ∧ (¬ ((nI 122) < x0) → (((nI 1) = 0 ∨ (nI 1) = 1) ∧ Q (some (.int (nI 1))) ((n, z, kd), I, J, F))))))) :
    R d mX8_isName 0 [.int x0] [] ((n, z, kd), I, J, F) Q := hR.go [] 10 h
theorem BX8_wordOf_0 {R : azP} (hR : azClosed R) {d n z : Nat} {kd : azK} {I : azI} {J : azJ} {F : azR} {Q : azQ} {x0 : Int32}
    (h : ((x0.toInt < 0 ∨ 2 < x0.toInt → Q (some (.ref (azB + 3))) ((n, z, kd), I, J, F)) ∧ (x0.toInt = 0 → Q (some (.ref (azB + 0))) ((n, z, kd), I, J, F)) ∧ (x0.toInt = 0 + 1 → Q (some (.ref (azB + 1))) ((n, z, kd), I, J, F)) ∧ (x0.toInt = 0 + 1 + 1 → Q (some (.ref (azB + 2))) ((n, z, kd), I, J, F)) ∧ True)) :
    R d mX8_wordOf 0 [.int x0] [] ((n, z, kd), I, J, F) Q := hR.go [] 5 h
end
section
/-! BLOCKS: Rule (written by wip/whole/blocks.py) -/
theorem BX5_kind_0 {R : azP} (hR : azClosed R) {d n z : Nat} {kd : azK} {I : azI} {J : azJ} {F : azR} {Q : azQ} {a0 : Nat} {x1 : Int32}
    (h : ((x1 < 0 → Q (some (.int (-(nI 1)))) ((n, z, kd), I, J, F)) ∧ (¬ (x1 < 0) → (((nI 12) ≤ x1 → Q (some (.int (-(nI 1)))) ((n, z, kd), I, J, F)) ∧ (¬ ((nI 12) ≤ x1) → ((kd a0).1 = 5 ∧ zOf (F a0 6) fun b1 => (((kd b1).1 = 10 ∨ (kd b1).1 = 15) ∧ vp_in x1 (kd b1).2 ∧ Q (some (.int (I b1 x1.toNatClampNeg))) ((n, z, kd), I, J, F)))))))) :
    R d mX5_kind 0 [.ref a0, .int x1] [] ((n, z, kd), I, J, F) Q := hR.go [] 12 h
theorem BX5_place_0 {R : azP} (hR : azClosed R) {d n z : Nat} {kd : azK} {I : azI} {J : azJ} {F : azR} {Q : azQ} {a0 : Nat} {x1 : Int32}
    (h : ((x1 < 0 → Q (some (.int (-(nI 1)))) ((n, z, kd), I, J, F)) ∧ (¬ (x1 < 0) → (((nI 12) ≤ x1 → Q (some (.int (-(nI 1)))) ((n, z, kd), I, J, F)) ∧ (¬ ((nI 12) ≤ x1) → ((kd a0).1 = 5 ∧ zOf (F a0 7) fun b1 => (((kd b1).1 = 10 ∨ (kd b1).1 = 15) ∧ vp_in x1 (kd b1).2 ∧ Q (some (.int (I b1 x1.toNatClampNeg))) ((n, z, kd), I, J, F)))))))) :
    R d mX5_place 0 [.ref a0, .int x1] [] ((n, z, kd), I, J, F) Q := hR.go [] 12 h
theorem BX5_name_0 {R : azP} (hR : azClosed R) {d n z : Nat} {kd : azK} {I : azI} {J : azJ} {F : azR} {Q : azQ} {a0 : Nat} {x1 : Int32}
    (h : ((x1 < 0 → Q (some (.int (-(nI 1)))) ((n, z, kd), I, J, F)) ∧ (¬ (x1 < 0) → (((nI 12) ≤ x1 → Q (some (.int (-(nI 1)))) ((n, z, kd), I, J, F)) ∧ (¬ ((nI 12) ≤ x1) → ((kd a0).1 = 5 ∧ zOf (F a0 8) fun b1 => (((kd b1).1 = 10 ∨ (kd b1).1 = 15) ∧ vp_in x1 (kd b1).2 ∧ Q (some (.int (I b1 x1.toNatClampNeg))) ((n, z, kd), I, J, F)))))))) :
    R d mX5_name 0 [.ref a0, .int x1] [] ((n, z, kd), I, J, F) Q := hR.go [] 12 h
theorem BX5_begin_0 {R : azP} (hR : azClosed R) {d n z : Nat} {kd : azK} {I : azI} {J : azJ} {F : azR} {Q : azQ} {a0 : Nat} {x1 : Int32}
    (h : ((x1 < 0 → Q (some (.int (nI 0))) ((n, z, kd), I, J, F)) ∧ (¬ (x1 < 0) → (((nI 12) ≤ x1 → Q (some (.int (nI 0))) ((n, z, kd), I, J, F)) ∧ (¬ ((nI 12) ≤ x1) → ((kd a0).1 = 5 ∧ zOf (F a0 9) fun b1 => (((kd b1).1 = 10 ∨ (kd b1).1 = 15) ∧ vp_in x1 (kd b1).2 ∧ Q (some (.int (I b1 x1.toNatClampNeg))) ((n, z, kd), I, J, F)))))))) :
    R d mX5_begin 0 [.ref a0, .int x1] [] ((n, z, kd), I, J, F) Q := hR.go [] 12 h
theorem BX5_end_0 {R : azP} (hR : azClosed R) {d n z : Nat} {kd : azK} {I : azI} {J : azJ} {F : azR} {Q : azQ} {a0 : Nat} {x1 : Int32}
    (h : ((x1 < 0 → Q (some (.int (nI 0))) ((n, z, kd), I, J, F)) ∧ (¬ (x1 < 0) → (((nI 12) ≤ x1 → Q (some (.int (nI 0))) ((n, z, kd), I, J, F)) ∧ (¬ ((nI 12) ≤ x1) → ((kd a0).1 = 5 ∧ zOf (F a0 10) fun b1 => (((kd b1).1 = 10 ∨ (kd b1).1 = 15) ∧ vp_in x1 (kd b1).2 ∧ Q (some (.int (I b1 x1.toNatClampNeg))) ((n, z, kd), I, J, F)))))))) :
    R d mX5_end 0 [.ref a0, .int x1] [] ((n, z, kd), I, J, F) Q := hR.go [] 12 h
theorem BX5_takeClause_0 {R : azP} (hR : azClosed R) {d n z : Nat} {kd : azK} {I : azI} {J : azJ} {F : azR} {Q : azQ} {a0 : Nat} {x1 : Int32}
    (h : ((x1 < 0 → Q (some (.int (-(nI 1)))) ((n, z, kd), I, J, F)) ∧ (¬ (x1 < 0) → (((nI 3) ≤ x1 → Q (some (.int (-(nI 1)))) ((n, z, kd), I, J, F)) ∧ (¬ ((nI 3) ≤ x1) → ((kd a0).1 = 5 ∧ zOf (F a0 11) fun b1 => (((kd b1).1 = 10 ∨ (kd b1).1 = 15) ∧ vp_in x1 (kd b1).2 ∧ Q (some (.int (I b1 x1.toNatClampNeg))) ((n, z, kd), I, J, F)))))))) :
    R d mX5_takeClause 0 [.ref a0, .int x1] [] ((n, z, kd), I, J, F) Q := hR.go [] 12 h
theorem BX5_giveClause_0 {R : azP} (hR : azClosed R) {d n z : Nat} {kd : azK} {I : azI} {J : azJ} {F : azR} {Q : azQ} {a0 : Nat} {x1 : Int32}
    (h : ((x1 < 0 → Q (some (.int (-(nI 1)))) ((n, z, kd), I, J, F)) ∧ (¬ (x1 < 0) → (((nI 3) ≤ x1 → Q (some (.int (-(nI 1)))) ((n, z, kd), I, J, F)) ∧ (¬ ((nI 3) ≤ x1) → ((kd a0).1 = 5 ∧ zOf (F a0 12) fun b1 => (((kd b1).1 = 10 ∨ (kd b1).1 = 15) ∧ vp_in x1 (kd b1).2 ∧ Q (some (.int (I b1 x1.toNatClampNeg))) ((n, z, kd), I, J, F)))))))) :
    R d mX5_giveClause 0 [.ref a0, .int x1] [] ((n, z, kd), I, J, F) Q := hR.go [] 12 h
theorem BX5_item_0 {R : azP} (hR : azClosed R) {d n z : Nat} {kd : azK} {I : azI} {J : azJ} {F : azR} {Q : azQ} {a0 : Nat} {x1 : Int32}
    (h : ((x1 < 0 → Q (some (.int (nI 0))) ((n, z, kd), I, J, F)) ∧ (¬ (x1 < 0) → (((nI 80) ≤ x1 → Q (some (.int (nI 0))) ((n, z, kd), I, J, F)) ∧ (¬ ((nI 80) ≤ x1) → ((kd a0).1 = 5 ∧ zOf (F a0 13) fun b1 => (((kd b1).1 = 10 ∨ (kd b1).1 = 15) ∧ vp_in x1 (kd b1).2 ∧ Q (some (.int (I b1 x1.toNatClampNeg))) ((n, z, kd), I, J, F)))))))) :
    R d mX5_item 0 [.ref a0, .int x1] [] ((n, z, kd), I, J, F) Q := hR.go [] 12 h
theorem BX5_addItem_0 {R : azP} (hR : azClosed R) {d n z : Nat} {kd : azK} {I : azI} {J : azJ} {F : azR} {Q : azQ} {a0 : Nat} {x1 : Int32}
    (h : ((kd a0).1 = 5 ∧ (((nI 80) ≤ (I a0 5) → Q none ((n, z, kd), I, J, F)) ∧ (¬ ((nI 80) ≤ (I a0 5)) → ((kd a0).1 = 5 ∧ zOf (F a0 13) fun b1 => ((kd a0).1 = 5 ∧ ((kd b1).1 = 10 ∧ vp_in (I a0 5) (kd b1).2 ∧ ((kd a0).1 = 5 ∧ ((kd a0).1 = 5 ∧ Q none ((n, z, kd), (azUp ((azUp I b1 ((I a0 5).toNatClampNeg) x1)) a0 5 (((azUp I b1 ((I a0 5).toNatClampNeg) x1) a0 5) + (nI 1))), J, F)))))))))) :
    R d mX5_addItem 0 [.ref a0, .int x1] [] ((n, z, kd), I, J, F) Q := hR.go [] 18 h
set_option maxRecDepth 100000 in
theorem BX5_addTake_0 {R : azP} (hR : azClosed R) {d n z : Nat} {kd : azK} {I : azI} {J : azJ} {F : azR} {Q : azQ} {a0 : Nat} {x1 x2 : Int32}
    (h : ((kd a0).1 = 5 ∧ (((nI 3) ≤ (I a0 1) → Q none ((n, z, kd), I, J, F)) ∧ (¬ ((nI 3) ≤ (I a0 1)) → ((kd a0).1 = 5 ∧ ((kd a0).1 = 5 ∧ R d mX5_addClause 0 [.ref a0, .int (nI 0), .int x1, .int x2, .int (I a0 5)] [] ((n, z, kd), I, J, F) fun v1 s2 => kI v1 fun r3 => ((r3 = 0 → Q none s2) ∧ (¬ (r3 = 0) → ((s2.1.2.2 a0).1 = 5 ∧ zOf (s2.2.2.2 a0 11) fun b4 => ((s2.1.2.2 a0).1 = 5 ∧ ((s2.1.2.2 a0).1 = 5 ∧ ((s2.1.2.2 b4).1 = 10 ∧ vp_in (s2.2.1 a0 1) (s2.1.2.2 b4).2 ∧ ((s2.1.2.2 a0).1 = 5 ∧ ((s2.1.2.2 a0).1 = 5 ∧ Q none ((s2.1), (azUp ((azUp s2.2.1 b4 ((s2.2.1 a0 1).toNatClampNeg) ((s2.2.1 a0 0) - (nI 1)))) a0 1 (((azUp s2.2.1 b4 ((s2.2.1 a0 1).toNatClampNeg) ((s2.2.1 a0 0) - (nI 1))) a0 1) + (nI 1))), s2.2.2.1, s2.2.2.2))))))))))))))) :
    R (d + 1) mX5_addTake 0 [.ref a0, .int x1, .int x2] [] ((n, z, kd), I, J, F) Q := hR.go [] 29 h
theorem BX5_addCondition_0 {R : azP} (hR : azClosed R) {d n z : Nat} {kd : azK} {I : azI} {J : azJ} {F : azR} {Q : azQ} {a0 : Nat} {x1 x2 : Int32}
    (h : ((kd a0).1 = 5 ∧ R d mX5_addClause 0 [.ref a0, .int (nI 1), .int (-(nI 1)), .int (-(nI 1)), .int x1] [] ((n, z, kd), I, J, F) fun v1 s2 => kI v1 fun r3 => ((r3 = 0 → Q none s2) ∧ (¬ (r3 = 0) → ((s2.1.2.2 a0).1 = 5 ∧ ((s2.1.2.2 a0).1 = 5 ∧ Q none ((s2.1), (azUp s2.2.1 a0 3 ((s2.2.1 a0 3) + x2)), s2.2.2.1, s2.2.2.2))))))) :
    R (d + 1) mX5_addCondition 0 [.ref a0, .int x1, .int x2] [] ((n, z, kd), I, J, F) Q := hR.go [] 15 h
set_option maxRecDepth 100000 in
theorem BX5_addGive_0 {R : azP} (hR : azClosed R) {d n z : Nat} {kd : azK} {I : azI} {J : azJ} {F : azR} {Q : azQ} {a0 : Nat} {x1 x2 : Int32}
    (h : ((kd a0).1 = 5 ∧ (((nI 3) ≤ (I a0 2) → Q none ((n, z, kd), I, J, F)) ∧ (¬ ((nI 3) ≤ (I a0 2)) → ((kd a0).1 = 5 ∧ R d mX5_addClause 0 [.ref a0, .int (nI 2), .int x1, .int (-(nI 1)), .int x2] [] ((n, z, kd), I, J, F) fun v1 s2 => kI v1 fun r3 => ((r3 = 0 → Q none s2) ∧ (¬ (r3 = 0) → ((s2.1.2.2 a0).1 = 5 ∧ zOf (s2.2.2.2 a0 12) fun b4 => ((s2.1.2.2 a0).1 = 5 ∧ ((s2.1.2.2 a0).1 = 5 ∧ ((s2.1.2.2 b4).1 = 10 ∧ vp_in (s2.2.1 a0 2) (s2.1.2.2 b4).2 ∧ ((s2.1.2.2 a0).1 = 5 ∧ ((s2.1.2.2 a0).1 = 5 ∧ Q none ((s2.1), (azUp ((azUp s2.2.1 b4 ((s2.2.1 a0 2).toNatClampNeg) ((s2.2.1 a0 0) - (nI 1)))) a0 2 (((azUp s2.2.1 b4 ((s2.2.1 a0 2).toNatClampNeg) ((s2.2.1 a0 0) - (nI 1))) a0 2) + (nI 1))), s2.2.2.1, s2.2.2.2)))))))))))))) :
    R (d + 1) mX5_addGive 0 [.ref a0, .int x1, .int x2] [] ((n, z, kd), I, J, F) Q := hR.go [] 28 h
theorem BX5_addEmpty_0 {R : azP} (hR : azClosed R) {d n z : Nat} {kd : azK} {I : azI} {J : azJ} {F : azR} {Q : azQ} {a0 : Nat} {x1 : Int32}
    (h : (R d mX8_isPlace 0 [.int x1] [] ((n, z, kd), I, J, F) fun v1 s2 => kI v1 fun r3 => ((r3 = 0 → Q none s2) ∧ (¬ (r3 = 0) → ((s2.1.2.2 a0).1 = 5 ∧ ((s2.1.2.2 a0).1 = 5 ∧ R d mX5_addClause 0 [.ref a0, .int (nI 3), .int x1, .int (-(nI 1)), .int (s2.2.1 a0 5)] [] s2 fun v4 s5 => kI v4 fun r6 => ((r6 = 0 → Q none s5) ∧ (¬ (r6 = 0) → ((s5.1.2.2 a0).1 = 5 ∧ ((s5.1.2.2 a0).1 = 5 ∧ Q none ((s5.1), (azUp s5.2.1 a0 4 ((s5.2.1 a0 4) ||| ((nI 1) <<< (x1 &&& 31)))), s5.2.2.1, s5.2.2.2))))))))))) :
    R (d + 1) mX5_addEmpty 0 [.ref a0, .int x1] [] ((n, z, kd), I, J, F) Q := hR.go [] 21 h
set_option maxRecDepth 100000 in
theorem BX5_addClause_0 {R : azP} (hR : azClosed R) {d n z : Nat} {kd : azK} {I : azI} {J : azJ} {F : azR} {Q : azQ} {a0 : Nat} {x1 x2 x3 x4 : Int32}
    (h : ((kd a0).1 = 5 ∧ (((I a0 0) < (nI 12) → ((kd a0).1 = 5 ∧ zOf (F a0 6) fun b1 => ((kd a0).1 = 5 ∧ ((kd b1).1 = 10 ∧ vp_in (I a0 0) (kd b1).2 ∧ ((kd a0).1 = 5 ∧ zOf (F a0 7) fun b2 => ((kd a0).1 = 5 ∧ ((kd b2).1 = 10 ∧ vp_in ((azUp I b1 ((I a0 0).toNatClampNeg) x1) a0 0) (kd b2).2 ∧ ((kd a0).1 = 5 ∧ zOf (F a0 8) fun b3 => ((kd a0).1 = 5 ∧ ((kd b3).1 = 10 ∧ vp_in ((azUp ((azUp I b1 ((I a0 0).toNatClampNeg) x1)) b2 (((azUp I b1 ((I a0 0).toNatClampNeg) x1) a0 0).toNatClampNeg) x2) a0 0) (kd b3).2 ∧ ((kd a0).1 = 5 ∧ zOf (F a0 9) fun b4 => ((kd a0).1 = 5 ∧ ((kd b4).1 = 10 ∧ vp_in ((azUp ((azUp ((azUp I b1 ((I a0 0).toNatClampNeg) x1)) b2 (((azUp I b1 ((I a0 0).toNatClampNeg) x1) a0 0).toNatClampNeg) x2)) b3 (((azUp ((azUp I b1 ((I a0 0).toNatClampNeg) x1)) b2 (((azUp I b1 ((I a0 0).toNatClampNeg) x1) a0 0).toNatClampNeg) x2) a0 0).toNatClampNeg) x3) a0 0) (kd b4).2 ∧ ((kd a0).1 = 5 ∧ zOf (F a0 10) fun b5 => ((kd a0).1 = 5 ∧ ((kd a0).1 = 5 ∧ ((kd b5).1 = 10 ∧ vp_in ((azUp ((azUp ((azUp ((azUp I b1 ((I a0 0).toNatClampNeg) x1)) b2 (((azUp I b1 ((I a0 0).toNatClampNeg) x1) a0 0).toNatClampNeg) x2)) b3 (((azUp ((azUp I b1 ((I a0 0).toNatClampNeg) x1)) b2 (((azUp I b1 ((I a0 0).toNatClampNeg) x1) a0 0).toNatClampNeg) x2) a0 0).toNatClampNeg) x3)) b4 (((azUp ((azUp ((azUp I b1 ((I a0 0).toNatClampNeg) x1)) b2 (((azUp I b1 ((I a0 0).toNatClampNeg) x1) a0 0).toNatClampNeg) x2)) b3 (((azUp ((azUp I b1 ((I a0 0).toNatClampNeg) x1)) b2 (((azUp I b1 ((I a0 0).toNatClampNeg) x1) a0 0).toNatClampNeg) x2) a0 0).toNatClampNeg) x3) a0 0).toNatClampNeg) x4) a0 0) (kd b5).2 ∧ ((kd a0).1 = 5 ∧ ((kd a0).1 = 5 ∧ (((nI 1) = 0 ∨ (nI 1) = 1) ∧ Q (some (.int (nI 1))) ((n, z, kd), (azUp ((azUp ((azUp ((azUp ((azUp ((azUp I b1 ((I a0 0).toNatClampNeg) x1)) b2 (((azUp I b1 ((I a0 0).toNatClampNeg) x1) a0 0).toNatClampNeg) x2)) b3 (((azUp ((azUp I b1 ((I a0 0).toNatClampNeg) x1)) b2 (((azUp I b1 ((I a0 0).toNatClampNeg) x1) a0 0).toNatClampNeg) x2) a0 0).toNatClampNeg) x3)) b4 (((azUp ((azUp ((azUp I b1 ((I a0 0).toNatClampNeg) x1)) b2 (((azUp I b1 ((I a0 0).toNatClampNeg) x1) a0 0).toNatClampNeg) x2)) b3 (((azUp ((azUp I b1 ((I a0 0).toNatClampNeg) x1)) b2 (((azUp I b1 ((I a0 0).toNatClampNeg) x1) a0 0).toNatClampNeg) x2) a0 0).toNatClampNeg) x3) a0 0).toNatClampNeg) x4)) b5 (((azUp ((azUp ((azUp ((azUp I b1 ((I a0 0).toNatClampNeg) x1)) b2 (((azUp I b1 ((I a0 0).toNatClampNeg) x1) a0 0).toNatClampNeg) x2)) b3 (((azUp ((azUp I b1 ((I a0 0).toNatClampNeg) x1)) b2 (((azUp I b1 ((I a0 0).toNatClampNeg) x1) a0 0).toNatClampNeg) x2) a0 0).toNatClampNeg) x3)) b4 (((azUp ((azUp ((azUp I b1 ((I a0 0).toNatClampNeg) x1)) b2 (((azUp I b1 ((I a0 0).toNatClampNeg) x1) a0 0).toNatClampNeg) x2)) b3 (((azUp ((azUp I b1 ((I a0 0).toNatClampNeg) x1)) b2 (((azUp I b1 ((I a0 0).toNatClampNeg) x1) a0 0).toNatClampNeg) x2) a0 0).toNatClampNeg) x3) a0 0).toNatClampNeg) x4) a0 0).toNatClampNeg) ((azUp ((azUp ((azUp ((azUp I b1 ((I a0 0).toNatClampNeg) x1)) b2 (((azUp I b1 ((I a0 0).toNatClampNeg) x1) a0 0).toNatClampNeg) x2)) b3 (((azUp ((azUp I b1 ((I a0 0).toNatClampNeg) x1)) b2 (((azUp I b1 ((I a0 0).toNatClampNeg) x1) a0 0).toNatClampNeg) x2) a0 0).toNatClampNeg) x3)) b4 (((azUp ((azUp ((azUp I b1 ((I a0 0).toNatClampNeg) x1)) b2 (((azUp I b1 ((I a0 0).toNatClampNeg) x1) a0 0).toNatClampNeg) x2)) b3 (((azUp ((azUp I b1 ((I a0 0).toNatClampNeg) x1)) b2 (((azUp I b1 ((I a0 0).toNatClampNeg) x1) a0 0).toNatClampNeg) x2) a0 0).toNatClampNeg) x3) a0 0).toNatClampNeg) x4) a0 5))) a0 0 (((azUp ((azUp ((azUp ((azUp ((azUp I b1 ((I a0 0).toNatClampNeg) x1)) b2 (((azUp I b1 ((I a0 0).toNatClampNeg) x1) a0 0).toNatClampNeg) x2)) b3 (((azUp ((azUp I b1 ((I a0 0).toNatClampNeg) x1)) b2 (((azUp I b1 ((I a0 0).toNatClampNeg) x1) a0 0).toNatClampNeg) x2) a0 0).toNatClampNeg) x3)) b4 (((azUp ((azUp ((azUp I b1 ((I a0 0).toNatClampNeg) x1)) b2 (((azUp I b1 ((I a0 0).toNatClampNeg) x1) a0 0).toNatClampNeg) x2)) b3 (((azUp ((azUp I b1 ((I a0 0).toNatClampNeg) x1)) b2 (((azUp I b1 ((I a0 0).toNatClampNeg) x1) a0 0).toNatClampNeg) x2) a0 0).toNatClampNeg) x3) a0 0).toNatClampNeg) x4)) b5 (((azUp ((azUp ((azUp ((azUp I b1 ((I a0 0).toNatClampNeg) x1)) b2 (((azUp I b1 ((I a0 0).toNatClampNeg) x1) a0 0).toNatClampNeg) x2)) b3 (((azUp ((azUp I b1 ((I a0 0).toNatClampNeg) x1)) b2 (((azUp I b1 ((I a0 0).toNatClampNeg) x1) a0 0).toNatClampNeg) x2) a0 0).toNatClampNeg) x3)) b4 (((azUp ((azUp ((azUp I b1 ((I a0 0).toNatClampNeg) x1)) b2 (((azUp I b1 ((I a0 0).toNatClampNeg) x1) a0 0).toNatClampNeg) x2)) b3 (((azUp ((azUp I b1 ((I a0 0).toNatClampNeg) x1)) b2 (((azUp I b1 ((I a0 0).toNatClampNeg) x1) a0 0).toNatClampNeg) x2) a0 0).toNatClampNeg) x3) a0 0).toNatClampNeg) x4) a0 0).toNatClampNeg) ((azUp ((azUp ((azUp ((azUp I b1 ((I a0 0).toNatClampNeg) x1)) b2 (((azUp I b1 ((I a0 0).toNatClampNeg) x1) a0 0).toNatClampNeg) x2)) b3 (((azUp ((azUp I b1 ((I a0 0).toNatClampNeg) x1)) b2 (((azUp I b1 ((I a0 0).toNatClampNeg) x1) a0 0).toNatClampNeg) x2) a0 0).toNatClampNeg) x3)) b4 (((azUp ((azUp ((azUp I b1 ((I a0 0).toNatClampNeg) x1)) b2 (((azUp I b1 ((I a0 0).toNatClampNeg) x1) a0 0).toNatClampNeg) x2)) b3 (((azUp ((azUp I b1 ((I a0 0).toNatClampNeg) x1)) b2 (((azUp I b1 ((I a0 0).toNatClampNeg) x1) a0 0).toNatClampNeg) x2) a0 0).toNatClampNeg) x3) a0 0).toNatClampNeg) x4) a0 5)) a0 0) + (nI 1))), J, F))))))))))))))))))))) ∧ (¬ ((I a0 0) < (nI 12)) → (((nI 0) = 0 ∨ (nI 0) = 1) ∧ Q (some (.int (nI 0))) ((n, z, kd), I, J, F)))))) :
    R d mX5_addClause 0 [.ref a0, .int x1, .int x2, .int x3, .int x4] [] ((n, z, kd), I, J, F) Q := hR.go [] 44 h
theorem BX5_changeOf_0 {R : azP} (hR : azClosed R) {d n z : Nat} {kd : azK} {I : azI} {J : azJ} {F : azR} {Q : azQ} {a0 : Nat} {x1 : Int32}
    (h : R (d + 1) mX5_changeOf 4 [.ref a0, .int x1, .int (nI 0), .int (nI 0)] [] ((n, z, kd), I, J, F) Q) :
    R (d + 1) mX5_changeOf 0 [.ref a0, .int x1, .retAddr 0, .retAddr 0] [] ((n, z, kd), I, J, F) Q := hR.go [4, 33] 6 h
theorem BX5_changeOf_4 {R : azP} (hR : azClosed R) {d n z : Nat} {kd : azK} {I : azI} {J : azJ} {F : azR} {Q : azQ} {a0 : Nat} {x1 x2 x3 : Int32}
    (h : ((kd a0).1 = 5 ∧ (((I a0 0) ≤ x3 → Q (some (.int x2)) ((n, z, kd), I, J, F)) ∧ (¬ ((I a0 0) ≤ x3) → ((kd a0).1 = 5 ∧ R d mX5_place 0 [.ref a0, .int x3] [] ((n, z, kd), I, J, F) fun v1 s2 => kI v1 fun r3 => ((¬ r3 = x1 → R (d + 1) mX5_changeOf 33 [.ref a0, .int x1, .int x2, .int x3] [] s2 Q) ∧ (¬ (¬ r3 = x1) → ((s2.1.2.2 a0).1 = 5 ∧ R d mX5_kind 0 [.ref a0, .int x3] [] s2 fun v4 s5 => kI v4 fun r6 => ((¬ r6 = (nI 2) → R (d + 1) mX5_changeOf 33 [.ref a0, .int x1, .int x2, .int x3] [] s5 Q) ∧ (¬ (¬ r6 = (nI 2)) → R (d + 1) mX5_changeOf 33 [.ref a0, .int x1, .int (x2 + (nI 1)), .int x3] [] s5 Q)))))))))) :
    R (d + 1) mX5_changeOf 4 [.ref a0, .int x1, .int x2, .int x3] [] ((n, z, kd), I, J, F) Q := hR.go [4, 33] 17 h
theorem BX5_changeOf_33 {R : azP} (hR : azClosed R) {d n z : Nat} {kd : azK} {I : azI} {J : azJ} {F : azR} {Q : azQ} {a0 : Nat} {x1 x2 x3 : Int32}
    (h : ((kd a0).1 = 5 ∧ R d mX5_place 0 [.ref a0, .int x3] [] ((n, z, kd), I, J, F) fun v1 s2 => kI v1 fun r3 => ((¬ r3 = x1 → R (d + 1) mX5_changeOf 4 [.ref a0, .int x1, .int x2, .int (x3 + (nI 1))] [] s2 Q) ∧ (¬ (¬ r3 = x1) → ((s2.1.2.2 a0).1 = 5 ∧ R d mX5_kind 0 [.ref a0, .int x3] [] s2 fun v4 s5 => kI v4 fun r6 => ((¬ r6 = 0 → R (d + 1) mX5_changeOf 4 [.ref a0, .int x1, .int x2, .int (x3 + (nI 1))] [] s5 Q) ∧ (¬ (¬ r6 = 0) → R (d + 1) mX5_changeOf 4 [.ref a0, .int x1, .int (x2 + (-(nI 1))), .int (x3 + (nI 1))] [] s5 Q))))))) :
    R (d + 1) mX5_changeOf 33 [.ref a0, .int x1, .int x2, .int x3] [] ((n, z, kd), I, J, F) Q := hR.go [4, 33] 14 h
end
section
/-! BLOCKS: Firing (written by wip/whole/blocks.py) -/
theorem BX1_chosenFor_0 {R : azP} (hR : azClosed R) {d n z : Nat} {kd : azK} {I : azI} {J : azJ} {F : azR} {Q : azQ} {a0 : Nat} {x1 : Int32}
    (h : ((x1 < 0 → Q (some (.int (-(nI 1)))) ((n, z, kd), I, J, F)) ∧ (¬ (x1 < 0) → (((nI 3) ≤ x1 → Q (some (.int (-(nI 1)))) ((n, z, kd), I, J, F)) ∧ (¬ ((nI 3) ≤ x1) → ((kd a0).1 = 1 ∧ zOf (F a0 0) fun b1 => (((kd b1).1 = 10 ∨ (kd b1).1 = 15) ∧ vp_in x1 (kd b1).2 ∧ Q (some (.int (I b1 x1.toNatClampNeg))) ((n, z, kd), I, J, F)))))))) :
    R d mX1_chosenFor 0 [.ref a0, .int x1] [] ((n, z, kd), I, J, F) Q := hR.go [] 12 h
theorem BX1_countBindings_0 {R : azP} (hR : azClosed R) {d n z : Nat} {kd : azK} {I : azI} {J : azJ} {F : azR} {Q : azQ} {a0 a1 a2 : Nat}
    (h : ((kd a0).1 = 1 ∧ R d mX1_bindFrom 0 [.ref a0, .ref a1, .ref a2, .int (nI 0), .int (nI 0), .retAddr 0, .retAddr 0, .retAddr 0, .retAddr 0, .retAddr 0] [] ((n, z, kd), I, J, F) fun v1 s2 => kI v1 fun r3 => Q (some (.int r3)) s2)) :
    R (d + 1) mX1_countBindings 0 [.ref a0, .ref a1, .ref a2] [] ((n, z, kd), I, J, F) Q := hR.go [] 8 h
theorem BX1_bindFirst_0 {R : azP} (hR : azClosed R) {d n z : Nat} {kd : azK} {I : azI} {J : azJ} {F : azR} {Q : azQ} {a0 a1 a2 : Nat}
    (h : ((kd a0).1 = 1 ∧ R d mX1_bindFrom 0 [.ref a0, .ref a1, .ref a2, .int (nI 0), .int (nI 1), .retAddr 0, .retAddr 0, .retAddr 0, .retAddr 0, .retAddr 0] [] ((n, z, kd), I, J, F) fun v1 s2 => kI v1 fun r3 => ((r3 ≤ 0 → (((nI 0) = 0 ∨ (nI 0) = 1) ∧ Q (some (.int (nI 0))) s2)) ∧ (¬ (r3 ≤ 0) → (((nI 1) = 0 ∨ (nI 1) = 1) ∧ Q (some (.int (nI 1))) s2))))) :
    R (d + 1) mX1_bindFirst 0 [.ref a0, .ref a1, .ref a2] [] ((n, z, kd), I, J, F) Q := hR.go [] 11 h
theorem BX1_goes_0 {R : azP} (hR : azClosed R) {d n z : Nat} {kd : azK} {I : azI} {J : azJ} {F : azR} {Q : azQ} {a0 a1 a2 a3 : Nat}
    (h : ((kd a0).1 = 1 ∧ R d mX1_bindFrom 0 [.ref a0, .ref a1, .ref a2, .int (nI 0), .int (nI 1), .retAddr 0, .retAddr 0, .retAddr 0, .retAddr 0, .retAddr 0] [] ((n, z, kd), I, J, F) fun v1 s2 => kI v1 fun r3 => ((¬ r3 = 0 → ((s2.1.2.2 a0).1 = 1 ∧ R d mX1_copyLeft 0 [.ref a0, .ref a1, .ref a2, .ref a3, .retAddr 0, .retAddr 0] [] s2 fun v4 s5 => v4 = none ∧ R (d + 1) mX1_goes 27 [.ref a0, .ref a1, .ref a2, .ref a3, .int (nI 0), .retAddr 0, .retAddr 0] [] s5 Q)) ∧ (¬ (¬ r3 = 0) → (((nI 0) = 0 ∨ (nI 0) = 1) ∧ Q (some (.int (nI 0))) s2))))) :
    R (d + 1) mX1_goes 0 [.ref a0, .ref a1, .ref a2, .ref a3, .retAddr 0, .retAddr 0, .retAddr 0] [] ((n, z, kd), I, J, F) Q := hR.go [27] 18 h
set_option maxRecDepth 100000 in
theorem BX1_goes_27 {R : azP} (hR : azClosed R) {d n z : Nat} {kd : azK} {I : azI} {J : azJ} {F : azR} {Q : azQ} {a0 a1 a2 a3 : Nat} {x4 : Int32} {w5 w6 : Value}
    (h : ((kd a1).1 = 5 ∧ (((I a1 2) ≤ x4 → (((nI 1) = 0 ∨ (nI 1) = 1) ∧ Q (some (.int (nI 1))) ((n, z, kd), I, J, F))) ∧ (¬ ((I a1 2) ≤ x4) → ((kd a1).1 = 5 ∧ R d mX5_giveClause 0 [.ref a1, .int x4] [] ((n, z, kd), I, J, F) fun v1 s2 => kI v1 fun r3 => ((s2.1.2.2 a0).1 = 1 ∧ R d mX1_value 0 [.ref a0, .ref a1, .int r3, .retAddr 0, .retAddr 0, .retAddr 0, .retAddr 0] [] s2 fun v4 s5 => kI v4 fun r6 => (R d mJ9_floorMod_7cf53 0 [.int r6, .int (nI 100), .retAddr 0] [] s5 fun v7 s8 => kI v7 fun r9 => ((s8.1.2.2 a1).1 = 5 ∧ R d mX5_place 0 [.ref a1, .int r3] [] s8 fun v10 s11 => kI v10 fun r12 => ((s11.1.2.2 a3).1 = 3 ∧ R d mX3_append 0 [.ref a3, .int r12, .int r9] [] s11 fun v13 s14 => kI v13 fun r15 => ((¬ r15 = 0 → R (d + 1) mX1_goes 27 [.ref a0, .ref a1, .ref a2, .ref a3, .int (x4 + (nI 1)), .int r3, .int r9] [] s14 Q) ∧ (¬ (¬ r15 = 0) → (((nI 0) = 0 ∨ (nI 0) = 1) ∧ Q (some (.int (nI 0))) s14)))))))))))) :
    R (d + 1) mX1_goes 27 [.ref a0, .ref a1, .ref a2, .ref a3, .int x4, w5, w6] [] ((n, z, kd), I, J, F) Q := hR.go [27] 26 h
set_option maxRecDepth 100000 in
theorem BX1_bindFrom_0 {R : azP} (hR : azClosed R) {d n z : Nat} {kd : azK} {I : azI} {J : azJ} {F : azR} {Q : azQ} {a0 a1 a2 : Nat} {x3 x4 : Int32}
    (h : ((kd a1).1 = 5 ∧ (((I a1 1) ≤ x3 → ((kd a0).1 = 1 ∧ R d mX1_conditionsHold 0 [.ref a0, .ref a1, .retAddr 0] [] ((n, z, kd), I, J, F) fun v1 s2 => kI v1 fun r3 => ((r3 = 0 → Q (some (.int (nI 0))) s2) ∧ (¬ (r3 = 0) → Q (some (.int (nI 1))) s2)))) ∧ (¬ ((I a1 1) ≤ x3) → ((x3 < (nI 3) → ((kd a1).1 = 5 ∧ R d mX5_takeClause 0 [.ref a1, .int x3] [] ((n, z, kd), I, J, F) fun v4 s5 => kI v4 fun r6 => ((s5.1.2.2 a1).1 = 5 ∧ R d mX5_place 0 [.ref a1, .int r6] [] s5 fun v7 s8 => kI v7 fun r9 => ((s8.1.2.2 a1).1 = 5 ∧ R d mX5_name 0 [.ref a1, .int r6] [] s8 fun v10 s11 => kI v10 fun r12 => R (d + 1) mX1_bindFrom 56 [.ref a0, .ref a1, .ref a2, .int x3, .int x4, .int r6, .int r9, .int r12, .int (nI 0), .int (nI 0)] [] s11 Q)))) ∧ (¬ (x3 < (nI 3)) → ((kd a0).1 = 1 ∧ R d mX1_conditionsHold 0 [.ref a0, .ref a1, .retAddr 0] [] ((n, z, kd), I, J, F) fun v13 s14 => kI v13 fun r15 => ((r15 = 0 → Q (some (.int (nI 0))) s14) ∧ (¬ (r15 = 0) → Q (some (.int (nI 1))) s14))))))))) :
    R (d + 1) mX1_bindFrom 0 [.ref a0, .ref a1, .ref a2, .int x3, .int x4, .retAddr 0, .retAddr 0, .retAddr 0, .retAddr 0, .retAddr 0] [] ((n, z, kd), I, J, F) Q := hR.go [56] 25 h
set_option maxRecDepth 100000 in
theorem BX1_bindFrom_56 {R : azP} (hR : azClosed R) {d n z : Nat} {kd : azK} {I : azI} {J : azJ} {F : azR} {Q : azQ} {a0 a1 a2 : Nat} {x3 x4 x5 x6 x7 x8 x9 : Int32}
    (h : ((kd a2).1 = 3 ∧ R d mX3_count 0 [.ref a2, .int x6] [] ((n, z, kd), I, J, F) fun v1 s2 => kI v1 fun r3 => ((r3 ≤ x9 → Q (some (.int x8)) s2) ∧ (¬ (r3 ≤ x9) → ((x7 < 0 → R (d + 1) mX1_bindFrom 56 [.ref a0, .ref a1, .ref a2, .int x3, .int x4, .int x5, .int x6, .int x7, .int x8, .int (x9 + (nI 1))] [] s2 Q) ∧ (¬ (x7 < 0) → (((nI 3) ≤ x7 → R (d + 1) mX1_bindFrom 56 [.ref a0, .ref a1, .ref a2, .int x3, .int x4, .int x5, .int x6, .int x7, .int x8, .int (x9 + (nI 1))] [] s2 Q) ∧ (¬ ((nI 3) ≤ x7) → ((s2.1.2.2 a0).1 = 1 ∧ R d mX1_isFree 0 [.ref a0, .ref a1, .ref a2, .int x3, .int x9, .retAddr 0, .retAddr 0, .retAddr 0, .retAddr 0] [] s2 fun v4 s5 => kI v4 fun r6 => ((¬ r6 = 0 → ((s5.1.2.2 a0).1 = 1 ∧ zOf (s5.2.2.2 a0 0) fun b7 => ((s5.1.2.2 b7).1 = 10 ∧ vp_in x3 (s5.1.2.2 b7).2 ∧ ((s5.1.2.2 a0).1 = 1 ∧ zOf (s5.2.2.2 a0 1) fun b8 => ((s5.1.2.2 a2).1 = 3 ∧ R d mX3_at 0 [.ref a2, .int x6, .int x9] [] ((s5.1), (azUp s5.2.1 b7 x3.toNatClampNeg x9), s5.2.2.1, s5.2.2.2) fun v9 s10 => kI v9 fun r11 => ((s10.1.2.2 b8).1 = 10 ∧ vp_in x7 (s10.1.2.2 b8).2 ∧ ((s10.1.2.2 a0).1 = 1 ∧ R d mX1_bindFrom 0 [.ref a0, .ref a1, .ref a2, .int (x3 + (nI 1)), .int x4, .retAddr 0, .retAddr 0, .retAddr 0, .retAddr 0, .retAddr 0] [] ((s10.1), (azUp s10.2.1 b8 x7.toNatClampNeg r11), s10.2.2.1, s10.2.2.2) fun v12 s13 => kI v12 fun r14 => ((x4 = 0 → R (d + 1) mX1_bindFrom 56 [.ref a0, .ref a1, .ref a2, .int x3, .int x4, .int x5, .int x6, .int x7, .int (x8 + r14), .int (x9 + (nI 1))] [] s13 Q) ∧ (¬ (x4 = 0) → (((x8 + r14) ≤ 0 → R (d + 1) mX1_bindFrom 56 [.ref a0, .ref a1, .ref a2, .int x3, .int x4, .int x5, .int x6, .int x7, .int (x8 + r14), .int (x9 + (nI 1))] [] s13 Q) ∧ (¬ ((x8 + r14) ≤ 0) → Q (some (.int (x8 + r14))) s13))))))))))) ∧ (¬ (¬ r6 = 0) → R (d + 1) mX1_bindFrom 56 [.ref a0, .ref a1, .ref a2, .int x3, .int x4, .int x5, .int x6, .int x7, .int x8, .int (x9 + (nI 1))] [] s5 Q))))))))))) :
    R (d + 1) mX1_bindFrom 56 [.ref a0, .ref a1, .ref a2, .int x3, .int x4, .int x5, .int x6, .int x7, .int x8, .int x9] [] ((n, z, kd), I, J, F) Q := hR.go [56] 49 h
theorem BX1_isFree_0 {R : azP} (hR : azClosed R) {d n z : Nat} {kd : azK} {I : azI} {J : azJ} {F : azR} {Q : azQ} {a0 a1 a2 : Nat} {x3 x4 : Int32}
    (h : ((kd a1).1 = 5 ∧ R d mX5_takeClause 0 [.ref a1, .int x3] [] ((n, z, kd), I, J, F) fun v1 s2 => kI v1 fun r3 => ((s2.1.2.2 a1).1 = 5 ∧ R d mX5_place 0 [.ref a1, .int r3] [] s2 fun v4 s5 => kI v4 fun r6 => ((s5.1.2.2 a2).1 = 3 ∧ R d mX3_at 0 [.ref a2, .int r6, .int x4] [] s5 fun v7 s8 => kI v7 fun r9 => R (d + 1) mX1_isFree 24 [.ref a0, .ref a1, .ref a2, .int x3, .int x4, .int r3, .int r9, .int (nI 0), .retAddr 0] [] s8 Q)))) :
    R (d + 1) mX1_isFree 0 [.ref a0, .ref a1, .ref a2, .int x3, .int x4, .retAddr 0, .retAddr 0, .retAddr 0, .retAddr 0] [] ((n, z, kd), I, J, F) Q := hR.go [24, 73] 15 h
set_option maxRecDepth 100000 in
theorem BX1_isFree_24 {R : azP} (hR : azClosed R) {d n z : Nat} {kd : azK} {I : azI} {J : azJ} {F : azR} {Q : azQ} {a0 a1 a2 : Nat} {x3 x4 x5 x6 x7 : Int32} {w8 : Value}
    (h : ((x3 ≤ x7 → (((nI 1) = 0 ∨ (nI 1) = 1) ∧ Q (some (.int (nI 1))) ((n, z, kd), I, J, F))) ∧ (¬ (x3 ≤ x7) → (((nI 3) ≤ x7 → (((nI 1) = 0 ∨ (nI 1) = 1) ∧ Q (some (.int (nI 1))) ((n, z, kd), I, J, F))) ∧ (¬ ((nI 3) ≤ x7) → ((kd a1).1 = 5 ∧ R d mX5_takeClause 0 [.ref a1, .int x7] [] ((n, z, kd), I, J, F) fun v1 s2 => kI v1 fun r3 => ((s2.1.2.2 a1).1 = 5 ∧ R d mX5_place 0 [.ref a1, .int r3] [] s2 fun v4 s5 => kI v4 fun r6 => ((s5.1.2.2 a1).1 = 5 ∧ R d mX5_place 0 [.ref a1, .int x5] [] s5 fun v7 s8 => kI v7 fun r9 => ((¬ r6 = r9 → R (d + 1) mX1_isFree 73 [.ref a0, .ref a1, .ref a2, .int x3, .int x4, .int x5, .int x6, .int x7, .int r3] [] s8 Q) ∧ (¬ (¬ r6 = r9) → ((s8.1.2.2 a0).1 = 1 ∧ zOf (s8.2.2.2 a0 0) fun b10 => (((s8.1.2.2 b10).1 = 10 ∨ (s8.1.2.2 b10).1 = 15) ∧ vp_in x7 (s8.1.2.2 b10).2 ∧ ((¬ (s8.2.1 b10 x7.toNatClampNeg) = x4 → R (d + 1) mX1_isFree 73 [.ref a0, .ref a1, .ref a2, .int x3, .int x4, .int x5, .int x6, .int x7, .int r3] [] s8 Q) ∧ (¬ (¬ (s8.2.1 b10 x7.toNatClampNeg) = x4) → (((nI 0) = 0 ∨ (nI 0) = 1) ∧ Q (some (.int (nI 0))) s8))))))))))))))) :
    R (d + 1) mX1_isFree 24 [.ref a0, .ref a1, .ref a2, .int x3, .int x4, .int x5, .int x6, .int x7, w8] [] ((n, z, kd), I, J, F) Q := hR.go [24, 73] 26 h
set_option maxRecDepth 100000 in
theorem BX1_isFree_73 {R : azP} (hR : azClosed R) {d n z : Nat} {kd : azK} {I : azI} {J : azJ} {F : azR} {Q : azQ} {a0 a1 a2 : Nat} {x3 x4 x5 x6 x7 x8 : Int32}
    (h : ((kd a1).1 = 5 ∧ R d mX5_name 0 [.ref a1, .int x8] [] ((n, z, kd), I, J, F) fun v1 s2 => kI v1 fun r3 => ((s2.1.2.2 a1).1 = 5 ∧ R d mX5_name 0 [.ref a1, .int x5] [] s2 fun v4 s5 => kI v4 fun r6 => ((¬ r3 = r6 → R (d + 1) mX1_isFree 24 [.ref a0, .ref a1, .ref a2, .int x3, .int x4, .int x5, .int x6, .int (x7 + (nI 1)), .int x8] [] s5 Q) ∧ (¬ (¬ r3 = r6) → ((s5.1.2.2 a1).1 = 5 ∧ R d mX5_place 0 [.ref a1, .int x8] [] s5 fun v7 s8 => kI v7 fun r9 => ((s8.1.2.2 a0).1 = 1 ∧ zOf (s8.2.2.2 a0 0) fun b10 => (((s8.1.2.2 b10).1 = 10 ∨ (s8.1.2.2 b10).1 = 15) ∧ vp_in x7 (s8.1.2.2 b10).2 ∧ ((s8.1.2.2 a2).1 = 3 ∧ R d mX3_at 0 [.ref a2, .int r9, .int (s8.2.1 b10 x7.toNatClampNeg)] [] s8 fun v11 s12 => kI v11 fun r13 => ((r13 = x6 → R (d + 1) mX1_isFree 24 [.ref a0, .ref a1, .ref a2, .int x3, .int x4, .int x5, .int x6, .int (x7 + (nI 1)), .int x8] [] s12 Q) ∧ (¬ (r13 = x6) → (((nI 0) = 0 ∨ (nI 0) = 1) ∧ Q (some (.int (nI 0))) s12)))))))))))) :
    R (d + 1) mX1_isFree 73 [.ref a0, .ref a1, .ref a2, .int x3, .int x4, .int x5, .int x6, .int x7, .int x8] [] ((n, z, kd), I, J, F) Q := hR.go [24, 73] 22 h
theorem BX1_conditionsHold_0 {R : azP} (hR : azClosed R) {d n z : Nat} {kd : azK} {I : azI} {J : azJ} {F : azR} {Q : azQ} {a0 a1 : Nat}
    (h : R (d + 1) mX1_conditionsHold 2 [.ref a0, .ref a1, .int (nI 0)] [] ((n, z, kd), I, J, F) Q) :
    R (d + 1) mX1_conditionsHold 0 [.ref a0, .ref a1, .retAddr 0] [] ((n, z, kd), I, J, F) Q := hR.go [2] 4 h
set_option maxRecDepth 100000 in
theorem BX1_conditionsHold_2 {R : azP} (hR : azClosed R) {d n z : Nat} {kd : azK} {I : azI} {J : azJ} {F : azR} {Q : azQ} {a0 a1 : Nat} {x2 : Int32}
    (h : ((kd a1).1 = 5 ∧ (((I a1 0) ≤ x2 → (((nI 1) = 0 ∨ (nI 1) = 1) ∧ Q (some (.int (nI 1))) ((n, z, kd), I, J, F))) ∧ (¬ ((I a1 0) ≤ x2) → ((kd a1).1 = 5 ∧ R d mX5_kind 0 [.ref a1, .int x2] [] ((n, z, kd), I, J, F) fun v1 s2 => kI v1 fun r3 => ((¬ r3 = (nI 1) → R (d + 1) mX1_conditionsHold 2 [.ref a0, .ref a1, .int (x2 + (nI 1))] [] s2 Q) ∧ (¬ (¬ r3 = (nI 1)) → ((s2.1.2.2 a0).1 = 1 ∧ R d mX1_value 0 [.ref a0, .ref a1, .int x2, .retAddr 0, .retAddr 0, .retAddr 0, .retAddr 0] [] s2 fun v4 s5 => kI v4 fun r6 => ((¬ r6 = 0 → R (d + 1) mX1_conditionsHold 2 [.ref a0, .ref a1, .int (x2 + (nI 1))] [] s5 Q) ∧ (¬ (¬ r6 = 0) → (((nI 0) = 0 ∨ (nI 0) = 1) ∧ Q (some (.int (nI 0))) s5))))))))))) :
    R (d + 1) mX1_conditionsHold 2 [.ref a0, .ref a1, .int x2] [] ((n, z, kd), I, J, F) Q := hR.go [2] 18 h
theorem BX1_copyLeft_0 {R : azP} (hR : azClosed R) {d n z : Nat} {kd : azK} {I : azI} {J : azJ} {F : azR} {Q : azQ} {a0 a1 a2 a3 : Nat}
    (h : ((kd a3).1 = 3 ∧ R d mX3_wipe 0 [.ref a3, .retAddr 0] [] ((n, z, kd), I, J, F) fun v1 s2 => v1 = none ∧ R (d + 1) mX1_copyLeft 7 [.ref a0, .ref a1, .ref a2, .ref a3, .int (nI 0), .retAddr 0] [] s2 Q)) :
    R (d + 1) mX1_copyLeft 0 [.ref a0, .ref a1, .ref a2, .ref a3, .retAddr 0, .retAddr 0] [] ((n, z, kd), I, J, F) Q := hR.go [7, 33] 6 h
theorem BX1_copyLeft_7 {R : azP} (hR : azClosed R) {d n z : Nat} {kd : azK} {I : azI} {J : azJ} {F : azR} {Q : azQ} {a0 a1 a2 a3 : Nat} {x4 : Int32} {w5 : Value}
    (h : (((nI 10) ≤ x4 → Q none ((n, z, kd), I, J, F)) ∧ (¬ ((nI 10) ≤ x4) → ((kd a1).1 = 5 ∧ ((¬ (((I a1 4) >>> (x4 &&& 31)) &&& (nI 1)) = (nI 1) → R (d + 1) mX1_copyLeft 33 [.ref a0, .ref a1, .ref a2, .ref a3, .int x4, .int (nI 0)] [] ((n, z, kd), I, J, F) Q) ∧ (¬ (¬ (((I a1 4) >>> (x4 &&& 31)) &&& (nI 1)) = (nI 1)) → R (d + 1) mX1_copyLeft 7 [.ref a0, .ref a1, .ref a2, .ref a3, .int (x4 + (nI 1)), w5] [] ((n, z, kd), I, J, F) Q)))))) :
    R (d + 1) mX1_copyLeft 7 [.ref a0, .ref a1, .ref a2, .ref a3, .int x4, w5] [] ((n, z, kd), I, J, F) Q := hR.go [7, 33] 16 h
set_option maxRecDepth 100000 in
theorem BX1_copyLeft_33 {R : azP} (hR : azClosed R) {d n z : Nat} {kd : azK} {I : azI} {J : azJ} {F : azR} {Q : azQ} {a0 a1 a2 a3 : Nat} {x4 x5 : Int32}
    (h : ((kd a2).1 = 3 ∧ R d mX3_count 0 [.ref a2, .int x4] [] ((n, z, kd), I, J, F) fun v1 s2 => kI v1 fun r3 => ((r3 ≤ x5 → R (d + 1) mX1_copyLeft 7 [.ref a0, .ref a1, .ref a2, .ref a3, .int (x4 + (nI 1)), .int x5] [] s2 Q) ∧ (¬ (r3 ≤ x5) → ((s2.1.2.2 a0).1 = 1 ∧ R d mX1_isTaken 0 [.ref a0, .ref a1, .int x4, .int x5, .retAddr 0] [] s2 fun v4 s5 => kI v4 fun r6 => ((¬ r6 = 0 → R (d + 1) mX1_copyLeft 33 [.ref a0, .ref a1, .ref a2, .ref a3, .int x4, .int (x5 + (nI 1))] [] s5 Q) ∧ (¬ (¬ r6 = 0) → ((s5.1.2.2 a2).1 = 3 ∧ R d mX3_at 0 [.ref a2, .int x4, .int x5] [] s5 fun v7 s8 => kI v7 fun r9 => ((s8.1.2.2 a3).1 = 3 ∧ R d mX3_append 0 [.ref a3, .int x4, .int r9] [] s8 fun v10 s11 => kI v10 fun r12 => R (d + 1) mX1_copyLeft 33 [.ref a0, .ref a1, .ref a2, .ref a3, .int x4, .int (x5 + (nI 1))] [] s11 Q))))))))) :
    R (d + 1) mX1_copyLeft 33 [.ref a0, .ref a1, .ref a2, .ref a3, .int x4, .int x5] [] ((n, z, kd), I, J, F) Q := hR.go [7, 33] 23 h
theorem BX1_isTaken_0 {R : azP} (hR : azClosed R) {d n z : Nat} {kd : azK} {I : azI} {J : azJ} {F : azR} {Q : azQ} {a0 a1 : Nat} {x2 x3 : Int32}
    (h : R (d + 1) mX1_isTaken 3 [.ref a0, .ref a1, .int x2, .int x3, .int (nI 0)] [] ((n, z, kd), I, J, F) Q) :
    R (d + 1) mX1_isTaken 0 [.ref a0, .ref a1, .int x2, .int x3, .retAddr 0] [] ((n, z, kd), I, J, F) Q := hR.go [3] 4 h
set_option maxRecDepth 100000 in
theorem BX1_isTaken_3 {R : azP} (hR : azClosed R) {d n z : Nat} {kd : azK} {I : azI} {J : azJ} {F : azR} {Q : azQ} {a0 a1 : Nat} {x2 x3 x4 : Int32}
    (h : ((kd a1).1 = 5 ∧ (((I a1 1) ≤ x4 → (((nI 0) = 0 ∨ (nI 0) = 1) ∧ Q (some (.int (nI 0))) ((n, z, kd), I, J, F))) ∧ (¬ ((I a1 1) ≤ x4) → (((nI 3) ≤ x4 → (((nI 0) = 0 ∨ (nI 0) = 1) ∧ Q (some (.int (nI 0))) ((n, z, kd), I, J, F))) ∧ (¬ ((nI 3) ≤ x4) → ((kd a1).1 = 5 ∧ R d mX5_takeClause 0 [.ref a1, .int x4] [] ((n, z, kd), I, J, F) fun v1 s2 => kI v1 fun r3 => ((s2.1.2.2 a1).1 = 5 ∧ R d mX5_place 0 [.ref a1, .int r3] [] s2 fun v4 s5 => kI v4 fun r6 => ((¬ r6 = x2 → R (d + 1) mX1_isTaken 3 [.ref a0, .ref a1, .int x2, .int x3, .int (x4 + (nI 1))] [] s5 Q) ∧ (¬ (¬ r6 = x2) → ((s5.1.2.2 a0).1 = 1 ∧ zOf (s5.2.2.2 a0 0) fun b7 => (((s5.1.2.2 b7).1 = 10 ∨ (s5.1.2.2 b7).1 = 15) ∧ vp_in x4 (s5.1.2.2 b7).2 ∧ ((¬ (s5.2.1 b7 x4.toNatClampNeg) = x3 → R (d + 1) mX1_isTaken 3 [.ref a0, .ref a1, .int x2, .int x3, .int (x4 + (nI 1))] [] s5 Q) ∧ (¬ (¬ (s5.2.1 b7 x4.toNatClampNeg) = x3) → (((nI 1) = 0 ∨ (nI 1) = 1) ∧ Q (some (.int (nI 1))) s5))))))))))))))) :
    R (d + 1) mX1_isTaken 3 [.ref a0, .ref a1, .int x2, .int x3, .int x4] [] ((n, z, kd), I, J, F) Q := hR.go [3] 24 h
theorem BX1_value_0 {R : azP} (hR : azClosed R) {d n z : Nat} {kd : azK} {I : azI} {J : azJ} {F : azR} {Q : azQ} {a0 a1 : Nat} {x2 : Int32}
    (h : ((kd a1).1 = 5 ∧ R d mX5_begin 0 [.ref a1, .int x2] [] ((n, z, kd), I, J, F) fun v1 s2 => kI v1 fun r3 => R (d + 1) mX1_value 9 [.ref a0, .ref a1, .int x2, .int (nI 0), .int r3, .retAddr 0, .retAddr 0] [] s2 Q)) :
    R (d + 1) mX1_value 0 [.ref a0, .ref a1, .int x2, .retAddr 0, .retAddr 0, .retAddr 0, .retAddr 0] [] ((n, z, kd), I, J, F) Q := hR.go [9, 99] 8 h
set_option maxRecDepth 100000 in
theorem BX1_value_9 {R : azP} (hR : azClosed R) {d n z : Nat} {kd : azK} {I : azI} {J : azJ} {F : azR} {Q : azQ} {a0 a1 : Nat} {x2 x3 x4 : Int32} {w5 w6 : Value}
    (h : ((kd a1).1 = 5 ∧ R d mX5_end 0 [.ref a1, .int x2] [] ((n, z, kd), I, J, F) fun v1 s2 => kI v1 fun r3 => ((r3 ≤ x4 → ((s2.1.2.2 a0).1 = 1 ∧ zOf (s2.2.2.2 a0 2) fun b4 => (((s2.1.2.2 b4).1 = 10 ∨ (s2.1.2.2 b4).1 = 15) ∧ vp_in (nI 0) (s2.1.2.2 b4).2 ∧ Q (some (.int (s2.2.1 b4 ((nI 0).toNatClampNeg)))) s2))) ∧ (¬ (r3 ≤ x4) → ((s2.1.2.2 a1).1 = 5 ∧ R d mX5_item 0 [.ref a1, .int x4] [] s2 fun v5 s6 => kI v5 fun r7 => ((r7 < (nI 200) → (((nI 80) ≤ x3 → R (d + 1) mX1_value 9 [.ref a0, .ref a1, .int x2, .int x3, .int (x4 + (nI 1)), .int r7, w6] [] s6 Q) ∧ (¬ ((nI 80) ≤ x3) → ((r7 < (nI 100) → R (d + 1) mX1_value 99 [.ref a0, .ref a1, .int x2, .int x3, .int x4, .int r7, w6] [] s6 Q) ∧ (¬ (r7 < (nI 100)) → ((r7 < (nI 103) → ((s6.1.2.2 a0).1 = 1 ∧ zOf (s6.2.2.2 a0 2) fun b8 => (((nI 0) = 0 → ((s6.1.2.2 a0).1 = 1 ∧ zOf (s6.2.2.2 a0 1) fun b9 => (((s6.1.2.2 b9).1 = 10 ∨ (s6.1.2.2 b9).1 = 15) ∧ vp_in (r7 - (nI 100)) (s6.1.2.2 b9).2 ∧ ((s6.1.2.2 b8).1 = 10 ∧ vp_in x3 (s6.1.2.2 b8).2 ∧ R (d + 1) mX1_value 9 [.ref a0, .ref a1, .int x2, .int (x3 + (nI 1)), .int (x4 + (nI 1)), .int r7, .int (nI 0)] [] ((s6.1), (azUp s6.2.1 b8 x3.toNatClampNeg (s6.2.1 b9 ((r7 - (nI 100)).toNatClampNeg))), s6.2.2.1, s6.2.2.2) Q)))) ∧ (¬ ((nI 0) = 0) → ((s6.1.2.2 b8).1 = 10 ∧ vp_in x3 (s6.1.2.2 b8).2 ∧ R (d + 1) mX1_value 9 [.ref a0, .ref a1, .int x2, .int (x3 + (nI 1)), .int (x4 + (nI 1)), .int r7, .int (nI 0)] [] ((s6.1), (azUp s6.2.1 b8 x3.toNatClampNeg r7), s6.2.2.1, s6.2.2.2) Q))))) ∧ (¬ (r7 < (nI 103)) → R (d + 1) mX1_value 99 [.ref a0, .ref a1, .int x2, .int x3, .int x4, .int r7, w6] [] s6 Q))))))) ∧ (¬ (r7 < (nI 200)) → ((x3 < (nI 2) → R (d + 1) mX1_value 9 [.ref a0, .ref a1, .int x2, .int x3, .int (x4 + (nI 1)), .int r7, w6] [] s6 Q) ∧ (¬ (x3 < (nI 2)) → ((s6.1.2.2 a0).1 = 1 ∧ zOf (s6.2.2.2 a0 2) fun b10 => ((s6.1.2.2 a0).1 = 1 ∧ zOf (s6.2.2.2 a0 2) fun b11 => (((s6.1.2.2 b11).1 = 10 ∨ (s6.1.2.2 b11).1 = 15) ∧ vp_in (x3 - (nI 2)) (s6.1.2.2 b11).2 ∧ ((s6.1.2.2 a0).1 = 1 ∧ zOf (s6.2.2.2 a0 2) fun b12 => (((s6.1.2.2 b12).1 = 10 ∨ (s6.1.2.2 b12).1 = 15) ∧ vp_in (x3 - (nI 1)) (s6.1.2.2 b12).2 ∧ (R d mX1_result 0 [.int (r7 - (nI 200)), .int (s6.2.1 b11 ((x3 - (nI 2)).toNatClampNeg)), .int (s6.2.1 b12 ((x3 - (nI 1)).toNatClampNeg))] [] s6 fun v13 s14 => kI v13 fun r15 => ((s14.1.2.2 b10).1 = 10 ∧ vp_in (x3 - (nI 2)) (s14.1.2.2 b10).2 ∧ R (d + 1) mX1_value 9 [.ref a0, .ref a1, .int x2, .int (x3 + (-(nI 1))), .int (x4 + (nI 1)), .int r7, w6] [] ((s14.1), (azUp s14.2.1 b10 ((x3 - (nI 2)).toNatClampNeg) r15), s14.2.2.1, s14.2.2.2) Q)))))))))))))))) :
    R (d + 1) mX1_value 9 [.ref a0, .ref a1, .int x2, .int x3, .int x4, w5, w6] [] ((n, z, kd), I, J, F) Q := hR.go [9, 99] 43 h
set_option maxRecDepth 100000 in
theorem BX1_value_99 {R : azP} (hR : azClosed R) {d n z : Nat} {kd : azK} {I : azI} {J : azJ} {F : azR} {Q : azQ} {a0 a1 : Nat} {x2 x3 x4 x5 : Int32} {w6 : Value}
    (h : ((kd a0).1 = 1 ∧ zOf (F a0 2) fun b1 => (((nI 1) = 0 → ((kd a0).1 = 1 ∧ zOf (F a0 1) fun b2 => (((kd b2).1 = 10 ∨ (kd b2).1 = 15) ∧ vp_in (x5 - (nI 100)) (kd b2).2 ∧ ((kd b1).1 = 10 ∧ vp_in x3 (kd b1).2 ∧ R (d + 1) mX1_value 9 [.ref a0, .ref a1, .int x2, .int (x3 + (nI 1)), .int (x4 + (nI 1)), .int x5, .int (nI 1)] [] ((n, z, kd), (azUp I b1 x3.toNatClampNeg (I b2 ((x5 - (nI 100)).toNatClampNeg))), J, F) Q)))) ∧ (¬ ((nI 1) = 0) → ((kd b1).1 = 10 ∧ vp_in x3 (kd b1).2 ∧ R (d + 1) mX1_value 9 [.ref a0, .ref a1, .int x2, .int (x3 + (nI 1)), .int (x4 + (nI 1)), .int x5, .int (nI 1)] [] ((n, z, kd), (azUp I b1 x3.toNatClampNeg x5), J, F) Q))))) :
    R (d + 1) mX1_value 99 [.ref a0, .ref a1, .int x2, .int x3, .int x4, .int x5, w6] [] ((n, z, kd), I, J, F) Q := hR.go [9, 99] 20 h
set_option maxRecDepth 100000 in
theorem BX1_result_0 {R : azP} (hR : azClosed R) {d n z : Nat} {kd : azK} {I : azI} {J : azJ} {F : azR} {Q : azQ} {x0 x1 x2 : Int32}
    (h : ((x0.toInt = 42 → Q (some (.int (x1 * x2))) ((n, z, kd), I, J, F)) ∧ (¬ x0.toInt = 42 → ((x0.toInt = 43 → Q (some (.int (x1 + x2))) ((n, z, kd), I, J, F)) ∧ (¬ x0.toInt = 43 → ((x0.toInt = 45 → Q (some (.int (x1 - x2))) ((n, z, kd), I, J, F)) ∧ (¬ x0.toInt = 45 → ((x0.toInt = 60 → ((x2 ≤ x1 → Q (some (.int (nI 0))) ((n, z, kd), I, J, F)) ∧ (¬ (x2 ≤ x1) → Q (some (.int (nI 1))) ((n, z, kd), I, J, F)))) ∧ (¬ x0.toInt = 60 → ((x0.toInt = 61 → ((¬ x1 = x2 → Q (some (.int (nI 0))) ((n, z, kd), I, J, F)) ∧ (¬ (¬ x1 = x2) → Q (some (.int (nI 1))) ((n, z, kd), I, J, F)))) ∧ (¬ x0.toInt = 61 → ((x0.toInt = 62 → ((x1 ≤ x2 → Q (some (.int (nI 0))) ((n, z, kd), I, J, F)) ∧ (¬ (x1 ≤ x2) → Q (some (.int (nI 1))) ((n, z, kd), I, J, F)))) ∧ (¬ x0.toInt = 62 → Q (some (.int (x1 &&& x2))) ((n, z, kd), I, J, F)))))))))))))) :
    R d mX1_result 0 [.int x0, .int x1, .int x2] [] ((n, z, kd), I, J, F) Q := hR.go [] 9 h
end
section
/-! BLOCKS: Tape (written by wip/whole/blocks.py) -/
theorem BX6_append_0 {R : azP} (hR : azClosed R) {d n z : Nat} {kd : azK} {I : azI} {J : azJ} {F : azR} {Q : azQ} {a0 : Nat} {x1 : Int32}
    (h : ((kd a0).1 = 6 ∧ (((I a0 1) < (nI 80) → ((kd a0).1 = 6 ∧ zOf (F a0 0) fun b1 => ((kd a0).1 = 6 ∧ ((kd b1).1 = 10 ∧ vp_in (I a0 1) (kd b1).2 ∧ ((kd a0).1 = 6 ∧ ((kd a0).1 = 6 ∧ (((nI 1) = 0 ∨ (nI 1) = 1) ∧ Q (some (.int (nI 1))) ((n, z, kd), (azUp ((azUp I b1 ((I a0 1).toNatClampNeg) x1)) a0 1 (((azUp I b1 ((I a0 1).toNatClampNeg) x1) a0 1) + (nI 1))), J, F)))))))) ∧ (¬ ((I a0 1) < (nI 80)) → (((nI 0) = 0 ∨ (nI 0) = 1) ∧ Q (some (.int (nI 0))) ((n, z, kd), I, J, F)))))) :
    R d mX6_append 0 [.ref a0, .int x1] [] ((n, z, kd), I, J, F) Q := hR.go [] 19 h
theorem BX6_wipe_0 {R : azP} (hR : azClosed R) {d n z : Nat} {kd : azK} {I : azI} {J : azJ} {F : azR} {Q : azQ} {a0 : Nat}
    (h : ((kd a0).1 = 6 ∧ Q none ((n, z, kd), (azUp I a0 1 (nI 0)), J, F))) :
    R d mX6_wipe 0 [.ref a0] [] ((n, z, kd), I, J, F) Q := hR.go [] 5 h
theorem BX6_fail_0 {R : azP} (hR : azClosed R) {d n z : Nat} {kd : azK} {I : azI} {J : azJ} {F : azR} {Q : azQ} {a0 : Nat} {x1 : Int32}
    (h : ((kd a0).1 = 6 ∧ (((nI 0) = 0 ∨ (nI 0) = 1) ∧ Q (some (.int (nI 0))) ((n, z, kd), (azUp I a0 3 x1), J, F)))) :
    R d mX6_fail 0 [.ref a0, .int x1] [] ((n, z, kd), I, J, F) Q := hR.go [] 6 h
theorem BX6_peek_0 {R : azP} (hR : azClosed R) {d n z : Nat} {kd : azK} {I : azI} {J : azJ} {F : azR} {Q : azQ} {a0 : Nat}
    (h : ((kd a0).1 = 6 ∧ (((I a0 2) < 0 → Q (some (.int (nI 0))) ((n, z, kd), I, J, F)) ∧ (¬ ((I a0 2) < 0) → ((kd a0).1 = 6 ∧ ((kd a0).1 = 6 ∧ (((I a0 1) ≤ (I a0 2) → Q (some (.int (nI 0))) ((n, z, kd), I, J, F)) ∧ (¬ ((I a0 1) ≤ (I a0 2)) → ((kd a0).1 = 6 ∧ (((nI 80) ≤ (I a0 2) → Q (some (.int (nI 0))) ((n, z, kd), I, J, F)) ∧ (¬ ((nI 80) ≤ (I a0 2)) → ((kd a0).1 = 6 ∧ zOf (F a0 0) fun b1 => ((kd a0).1 = 6 ∧ (((kd b1).1 = 10 ∨ (kd b1).1 = 15) ∧ vp_in (I a0 2) (kd b1).2 ∧ Q (some (.int (I b1 ((I a0 2).toNatClampNeg)))) ((n, z, kd), I, J, F))))))))))))))) :
    R d mX6_peek 0 [.ref a0] [] ((n, z, kd), I, J, F) Q := hR.go [] 20 h
theorem BX6_byteAt_0 {R : azP} (hR : azClosed R) {d n z : Nat} {kd : azK} {I : azI} {J : azJ} {F : azR} {Q : azQ} {a0 : Nat} {x1 : Int32}
    (h : ((x1 < 0 → Q (some (.int (nI 0))) ((n, z, kd), I, J, F)) ∧ (¬ (x1 < 0) → ((kd a0).1 = 6 ∧ (((I a0 1) ≤ x1 → Q (some (.int (nI 0))) ((n, z, kd), I, J, F)) ∧ (¬ ((I a0 1) ≤ x1) → (((nI 80) ≤ x1 → Q (some (.int (nI 0))) ((n, z, kd), I, J, F)) ∧ (¬ ((nI 80) ≤ x1) → ((kd a0).1 = 6 ∧ zOf (F a0 0) fun b1 => (((kd b1).1 = 10 ∨ (kd b1).1 = 15) ∧ vp_in x1 (kd b1).2 ∧ Q (some (.int (I b1 x1.toNatClampNeg))) ((n, z, kd), I, J, F))))))))))) :
    R d mX6_byteAt 0 [.ref a0, .int x1] [] ((n, z, kd), I, J, F) Q := hR.go [] 16 h
theorem BX6_expect_0 {R : azP} (hR : azClosed R) {d n z : Nat} {kd : azK} {I : azI} {J : azJ} {F : azR} {Q : azQ} {a0 : Nat} {x1 : Int32}
    (h : ((kd a0).1 = 6 ∧ R d mX6_peek 0 [.ref a0] [] ((n, z, kd), I, J, F) fun v1 s2 => kI v1 fun r3 => ((r3 = x1 → ((s2.1.2.2 a0).1 = 6 ∧ ((s2.1.2.2 a0).1 = 6 ∧ (((nI 1) = 0 ∨ (nI 1) = 1) ∧ Q (some (.int (nI 1))) ((s2.1), (azUp s2.2.1 a0 2 ((s2.2.1 a0 2) + (nI 1))), s2.2.2.1, s2.2.2.2))))) ∧ (¬ (r3 = x1) → ((s2.1.2.2 a0).1 = 6 ∧ ((s2.1.2.2 a0).1 = 6 ∧ R d mX6_fail 0 [.ref a0, .int (s2.2.1 a0 2)] [] s2 fun v4 s5 => kI v4 fun r6 => ((r6 = 0 ∨ r6 = 1) ∧ Q (some (.int r6)) s5))))))) :
    R (d + 1) mX6_expect 0 [.ref a0, .int x1] [] ((n, z, kd), I, J, F) Q := hR.go [] 13 h
set_option maxRecDepth 100000 in
theorem BX6_readClause_0 {R : azP} (hR : azClosed R) {d n z : Nat} {kd : azK} {I : azI} {J : azJ} {F : azR} {Q : azQ} {a0 : Nat}
    (h : ((kd a0).1 = 6 ∧ ((kd a0).1 = 6 ∧ R d mX6_wordEnd 0 [.ref a0, .int (I a0 2), .retAddr 0, .retAddr 0] [] ((n, z, kd), I, J, F) fun v1 s2 => kI v1 fun r3 => ((s2.1.2.2 a0).1 = 6 ∧ R d mX6_kindOf 0 [.ref a0, .int (I a0 2), .int r3, .retAddr 0] [] s2 fun v4 s5 => kI v4 fun r6 => ((r6 = (-(nI 1)) → ((s5.1.2.2 a0).1 = 6 ∧ R d mX6_fail 0 [.ref a0, .int (I a0 2)] [] s5 fun v7 s8 => kI v7 fun r9 => ((r9 = 0 ∨ r9 = 1) ∧ Q (some (.int r9)) s8))) ∧ (¬ (r6 = (-(nI 1))) → ((s5.1.2.2 a0).1 = 6 ∧ R d mX6_isOneTooMany 0 [.ref a0, .int r6] [] s5 fun v10 s11 => kI v10 fun r12 => ((r12 = 0 → ((s11.1.2.2 a0).1 = 6 ∧ ((s11.1.2.2 a0).1 = 6 ∧ R d mX6_expect 0 [.ref a0, .int (nI 32)] [] ((s11.1), (azUp s11.2.1 a0 2 r3), s11.2.2.1, s11.2.2.2) fun v13 s14 => kI v13 fun r15 => ((¬ r15 = 0 → ((¬ r6 = (nI 1) → ((s14.1.2.2 a0).1 = 6 ∧ R d mX6_peek 0 [.ref a0] [] s14 fun v16 s17 => kI v16 fun r18 => (R d mX8_isFigure 0 [.int r18] [] s17 fun v19 s20 => kI v19 fun r21 => ((¬ r21 = 0 → ((s20.1.2.2 a0).1 = 6 ∧ R d mX6_peek 0 [.ref a0] [] s20 fun v22 s23 => kI v22 fun r24 => ((s23.1.2.2 a0).1 = 6 ∧ ((s23.1.2.2 a0).1 = 6 ∧ ((¬ r6 = (nI 3) → ((s23.1.2.2 a0).1 = 6 ∧ R d mX6_expect 0 [.ref a0, .int (nI 32)] [] ((s23.1), (azUp s23.2.1 a0 2 ((s23.2.1 a0 2) + (nI 1))), s23.2.2.1, s23.2.2.2) fun v25 s26 => kI v25 fun r27 => ((¬ r27 = 0 → ((¬ r6 = 0 → ((s26.1.2.2 a0).1 = 6 ∧ R d mX6_readOut 0 [.ref a0, .int (r24 - (nI 48)), .retAddr 0] [] s26 fun v28 s29 => kI v28 fun r30 => ((r30 = 0 ∨ r30 = 1) ∧ Q (some (.int r30)) s29))) ∧ (¬ (¬ r6 = 0) → ((s26.1.2.2 a0).1 = 6 ∧ R d mX6_readIn 0 [.ref a0, .int (r24 - (nI 48)), .retAddr 0] [] s26 fun v31 s32 => kI v31 fun r33 => ((r33 = 0 ∨ r33 = 1) ∧ Q (some (.int r33)) s32))))) ∧ (¬ (¬ r27 = 0) → (((nI 0) = 0 ∨ (nI 0) = 1) ∧ Q (some (.int (nI 0))) s26))))) ∧ (¬ (¬ r6 = (nI 3)) → ((s23.1.2.2 a0).1 = 6 ∧ zOf (s23.2.2.2 a0 5) fun b34 => ((s23.1.2.2 b34).1 = 5 ∧ R d mX5_addEmpty 0 [.ref b34, .int (r24 - (nI 48))] [] ((s23.1), (azUp s23.2.1 a0 2 ((s23.2.1 a0 2) + (nI 1))), s23.2.2.1, s23.2.2.2) fun v35 s36 => v35 = none ∧ (((nI 1) = 0 ∨ (nI 1) = 1) ∧ Q (some (.int (nI 1))) s36))))))))) ∧ (¬ (¬ r21 = 0) → ((s20.1.2.2 a0).1 = 6 ∧ ((s20.1.2.2 a0).1 = 6 ∧ R d mX6_fail 0 [.ref a0, .int (s20.2.1 a0 2)] [] s20 fun v37 s38 => kI v37 fun r39 => ((r39 = 0 ∨ r39 = 1) ∧ Q (some (.int r39)) s38)))))))) ∧ (¬ (¬ r6 = (nI 1)) → ((s14.1.2.2 a0).1 = 6 ∧ R d mX6_readIf 0 [.ref a0, .retAddr 0, .retAddr 0] [] s14 fun v40 s41 => kI v40 fun r42 => ((r42 = 0 ∨ r42 = 1) ∧ Q (some (.int r42)) s41))))) ∧ (¬ (¬ r15 = 0) → (((nI 0) = 0 ∨ (nI 0) = 1) ∧ Q (some (.int (nI 0))) s14)))))) ∧ (¬ (r12 = 0) → ((s11.1.2.2 a0).1 = 6 ∧ R d mX6_fail 0 [.ref a0, .int (I a0 2)] [] s11 fun v43 s44 => kI v43 fun r45 => ((r45 = 0 ∨ r45 = 1) ∧ Q (some (.int r45)) s44))))))))))) :
    R (d + 1) mX6_readClause 0 [.ref a0, .retAddr 0, .retAddr 0, .retAddr 0, .retAddr 0] [] ((n, z, kd), I, J, F) Q := hR.go [] 59 h
theorem BX6_wordEnd_0 {R : azP} (hR : azClosed R) {d n z : Nat} {kd : azK} {I : azI} {J : azJ} {F : azR} {Q : azQ} {a0 : Nat} {x1 : Int32}
    (h : R (d + 1) mX6_wordEnd 4 [.ref a0, .int x1, .int x1, .int (nI 0)] [] ((n, z, kd), I, J, F) Q) :
    R (d + 1) mX6_wordEnd 0 [.ref a0, .int x1, .retAddr 0, .retAddr 0] [] ((n, z, kd), I, J, F) Q := hR.go [4] 6 h
theorem BX6_wordEnd_4 {R : azP} (hR : azClosed R) {d n z : Nat} {kd : azK} {I : azI} {J : azJ} {F : azR} {Q : azQ} {a0 : Nat} {x1 x2 x3 : Int32}
    (h : (((nI 80) ≤ x3 → Q (some (.int x2)) ((n, z, kd), I, J, F)) ∧ (¬ ((nI 80) ≤ x3) → ((kd a0).1 = 6 ∧ R d mX6_byteAt 0 [.ref a0, .int x2] [] ((n, z, kd), I, J, F) fun v1 s2 => kI v1 fun r3 => ((r3 < (nI 97) → Q (some (.int x2)) s2) ∧ (¬ (r3 < (nI 97)) → ((s2.1.2.2 a0).1 = 6 ∧ R d mX6_byteAt 0 [.ref a0, .int x2] [] s2 fun v4 s5 => kI v4 fun r6 => ((r6 ≤ (nI 122) → R (d + 1) mX6_wordEnd 4 [.ref a0, .int x1, .int (x2 + (nI 1)), .int (x3 + (nI 1))] [] s5 Q) ∧ (¬ (r6 ≤ (nI 122)) → Q (some (.int x2)) s5))))))))) :
    R (d + 1) mX6_wordEnd 4 [.ref a0, .int x1, .int x2, .int x3] [] ((n, z, kd), I, J, F) Q := hR.go [4] 18 h
theorem BX6_kindOf_0 {R : azP} (hR : azClosed R) {d n z : Nat} {kd : azK} {I : azI} {J : azJ} {F : azR} {Q : azQ} {a0 : Nat} {x1 x2 : Int32}
    (h : R (d + 1) mX6_kindOf 2 [.ref a0, .int x1, .int x2, .int (nI 0)] [] ((n, z, kd), I, J, F) Q) :
    R (d + 1) mX6_kindOf 0 [.ref a0, .int x1, .int x2, .retAddr 0] [] ((n, z, kd), I, J, F) Q := hR.go [2] 4 h
set_option maxRecDepth 100000 in
theorem BX6_kindOf_2 {R : azP} (hR : azClosed R) {d n z : Nat} {kd : azK} {I : azI} {J : azJ} {F : azR} {Q : azQ} {a0 : Nat} {x1 x2 x3 : Int32}
    (h : (((nI 4) ≤ x3 → Q (some (.int (-(nI 1)))) ((n, z, kd), I, J, F)) ∧ (¬ ((nI 4) ≤ x3) → (R d mX8_wordOf 0 [.int x3] [] ((n, z, kd), I, J, F) fun v1 s2 => kO v1 (fun r3 => ((s2.1.2.2 a0).1 = 6 ∧ R d mX6_isWord 0 [.ref a0, .ref r3, .int x1, .int x2, .retAddr 0] [] s2 fun v7 s8 => kI v7 fun r9 => ((r9 = 0 → R (d + 1) mX6_kindOf 2 [.ref a0, .int x1, .int x2, .int (x3 + (nI 1))] [] s8 Q) ∧ (¬ (r9 = 0) → Q (some (.int x3)) s8)))) (((s2.1.2.2 a0).1 = 6 ∧ R d mX6_isWord 0 [.ref a0, .null, .int x1, .int x2, .retAddr 0] [] s2 fun v4 s5 => kI v4 fun r6 => ((r6 = 0 → R (d + 1) mX6_kindOf 2 [.ref a0, .int x1, .int x2, .int (x3 + (nI 1))] [] s5 Q) ∧ (¬ (r6 = 0) → Q (some (.int x3)) s5)))))))) :
    R (d + 1) mX6_kindOf 2 [.ref a0, .int x1, .int x2, .int x3] [] ((n, z, kd), I, J, F) Q := hR.go [2] 14 h
theorem BX6_isWord_0 {R : azP} (hR : azClosed R) {d n z : Nat} {kd : azK} {I : azI} {J : azJ} {F : azR} {Q : azQ} {a0 a1 : Nat} {x2 x3 : Int32}
    (h : ((kd a1).1 = 16 ∧ R d mJ0_length_8abf5 0 [.ref a1] [] ((n, z, kd), I, J, F) fun v1 s2 => kI v1 fun r3 => (((x3 - x2) = r3 → R (d + 1) mX6_isWord 15 [.ref a0, .ref a1, .int x2, .int x3, .int (nI 0)] [] s2 Q) ∧ (¬ ((x3 - x2) = r3) → (((nI 0) = 0 ∨ (nI 0) = 1) ∧ Q (some (.int (nI 0))) s2))))) :
    R (d + 1) mX6_isWord 0 [.ref a0, .ref a1, .int x2, .int x3, .retAddr 0] [] ((n, z, kd), I, J, F) Q := hR.go [15] 10 h
theorem BX6_isWord_15 {R : azP} (hR : azClosed R) {d n z : Nat} {kd : azK} {I : azI} {J : azJ} {F : azR} {Q : azQ} {a0 a1 : Nat} {x2 x3 x4 : Int32}
    (h : ((kd a1).1 = 16 ∧ R d mJ0_length_8abf5 0 [.ref a1] [] ((n, z, kd), I, J, F) fun v1 s2 => kI v1 fun r3 => ((r3 ≤ x4 → (((nI 1) = 0 ∨ (nI 1) = 1) ∧ Q (some (.int (nI 1))) s2)) ∧ (¬ (r3 ≤ x4) → ((s2.1.2.2 a0).1 = 6 ∧ R d mX6_byteAt 0 [.ref a0, .int (x2 + x4)] [] s2 fun v4 s5 => kI v4 fun r6 => ((s5.1.2.2 a1).1 = 16 ∧ R d mJ0_charAt_5068e 0 [.ref a1, .int x4] [] s5 fun v7 s8 => kI v7 fun r9 => ((r6 = r9 → R (d + 1) mX6_isWord 15 [.ref a0, .ref a1, .int x2, .int x3, .int (x4 + (nI 1))] [] s8 Q) ∧ (¬ (r6 = r9) → (((nI 0) = 0 ∨ (nI 0) = 1) ∧ Q (some (.int (nI 0))) s8))))))))) :
    R (d + 1) mX6_isWord 15 [.ref a0, .ref a1, .int x2, .int x3, .int x4] [] ((n, z, kd), I, J, F) Q := hR.go [15] 17 h
theorem BX6_isOneTooMany_0 {R : azP} (hR : azClosed R) {d n z : Nat} {kd : azK} {I : azI} {J : azJ} {F : azR} {Q : azQ} {a0 : Nat} {x1 : Int32}
    (h : ((¬ x1 = 0 → R d mX6_isOneTooMany 15 [.ref a0, .int x1] [] ((n, z, kd), I, J, F) Q) ∧ (¬ (¬ x1 = 0) → ((kd a0).1 = 6 ∧ zOf (F a0 5) fun b1 => ((kd b1).1 = 5 ∧ (((nI 3) ≤ (I b1 1) → (((nI 1) = 0 ∨ (nI 1) = 1) ∧ Q (some (.int (nI 1))) ((n, z, kd), I, J, F))) ∧ (¬ ((nI 3) ≤ (I b1 1)) → R d mX6_isOneTooMany 15 [.ref a0, .int x1] [] ((n, z, kd), I, J, F) Q))))))) :
    R d mX6_isOneTooMany 0 [.ref a0, .int x1] [] ((n, z, kd), I, J, F) Q := hR.go [15] 11 h
theorem BX6_isOneTooMany_15 {R : azP} (hR : azClosed R) {d n z : Nat} {kd : azK} {I : azI} {J : azJ} {F : azR} {Q : azQ} {a0 : Nat} {x1 : Int32}
    (h : ((¬ x1 = (nI 2) → (((nI 0) = 0 ∨ (nI 0) = 1) ∧ Q (some (.int (nI 0))) ((n, z, kd), I, J, F))) ∧ (¬ (¬ x1 = (nI 2)) → ((kd a0).1 = 6 ∧ zOf (F a0 5) fun b1 => ((kd b1).1 = 5 ∧ (((I b1 2) < (nI 3) → (((nI 0) = 0 ∨ (nI 0) = 1) ∧ Q (some (.int (nI 0))) ((n, z, kd), I, J, F))) ∧ (¬ ((I b1 2) < (nI 3)) → (((nI 1) = 0 ∨ (nI 1) = 1) ∧ Q (some (.int (nI 1))) ((n, z, kd), I, J, F))))))))) :
    R d mX6_isOneTooMany 15 [.ref a0, .int x1] [] ((n, z, kd), I, J, F) Q := hR.go [15] 12 h
set_option maxRecDepth 100000 in
theorem BX6_readIn_0 {R : azP} (hR : azClosed R) {d n z : Nat} {kd : azK} {I : azI} {J : azJ} {F : azR} {Q : azQ} {a0 : Nat} {x1 : Int32}
    (h : ((kd a0).1 = 6 ∧ R d mX6_peek 0 [.ref a0] [] ((n, z, kd), I, J, F) fun v1 s2 => kI v1 fun r3 => (R d mX8_isName 0 [.int r3] [] s2 fun v4 s5 => kI v4 fun r6 => ((¬ r6 = 0 → ((s5.1.2.2 a0).1 = 6 ∧ R d mX6_peek 0 [.ref a0] [] s5 fun v7 s8 => kI v7 fun r9 => ((s8.1.2.2 a0).1 = 6 ∧ ((s8.1.2.2 a0).1 = 6 ∧ ((s8.1.2.2 a0).1 = 6 ∧ ((s8.1.2.2 a0).1 = 6 ∧ ((s8.1.2.2 a0).1 = 6 ∧ zOf (s8.2.2.2 a0 5) fun b10 => ((s8.1.2.2 b10).1 = 5 ∧ R d mX5_addTake 0 [.ref b10, .int x1, .int (r9 - (nI 120))] [] ((s8.1), (azUp ((azUp s8.2.1 a0 2 ((s8.2.1 a0 2) + (nI 1)))) a0 4 (((azUp s8.2.1 a0 2 ((s8.2.1 a0 2) + (nI 1))) a0 4) ||| ((nI 1) <<< ((r9 - (nI 120)) &&& 31)))), s8.2.2.1, s8.2.2.2) fun v11 s12 => v11 = none ∧ (((nI 1) = 0 ∨ (nI 1) = 1) ∧ Q (some (.int (nI 1))) s12))))))))) ∧ (¬ (¬ r6 = 0) → ((s5.1.2.2 a0).1 = 6 ∧ ((s5.1.2.2 a0).1 = 6 ∧ R d mX6_fail 0 [.ref a0, .int (s5.2.1 a0 2)] [] s5 fun v13 s14 => kI v13 fun r15 => ((r15 = 0 ∨ r15 = 1) ∧ Q (some (.int r15)) s14)))))))) :
    R (d + 1) mX6_readIn 0 [.ref a0, .int x1, .retAddr 0] [] ((n, z, kd), I, J, F) Q := hR.go [] 31 h
theorem BX6_readOut_0 {R : azP} (hR : azClosed R) {d n z : Nat} {kd : azK} {I : azI} {J : azJ} {F : azR} {Q : azQ} {a0 : Nat} {x1 : Int32}
    (h : ((kd a0).1 = 6 ∧ zOf (F a0 5) fun b1 => ((kd b1).1 = 5 ∧ ((kd a0).1 = 6 ∧ R d mX6_readSum 0 [.ref a0, .int (nI 0), .retAddr 0, .retAddr 0, .retAddr 0, .retAddr 0] [] ((n, z, kd), I, J, F) fun v2 s3 => kI v2 fun r4 => ((¬ r4 = 0 → ((s3.1.2.2 a0).1 = 6 ∧ zOf (s3.2.2.2 a0 5) fun b5 => ((s3.1.2.2 b5).1 = 5 ∧ R d mX5_addGive 0 [.ref b5, .int x1, .int (I b1 5)] [] s3 fun v6 s7 => v6 = none ∧ (((nI 1) = 0 ∨ (nI 1) = 1) ∧ Q (some (.int (nI 1))) s7)))) ∧ (¬ (¬ r4 = 0) → (((nI 0) = 0 ∨ (nI 0) = 1) ∧ Q (some (.int (nI 0))) s3))))))) :
    R (d + 1) mX6_readOut 0 [.ref a0, .int x1, .retAddr 0] [] ((n, z, kd), I, J, F) Q := hR.go [] 16 h
theorem BX6_readIf_0 {R : azP} (hR : azClosed R) {d n z : Nat} {kd : azK} {I : azI} {J : azJ} {F : azR} {Q : azQ} {a0 : Nat}
    (h : ((kd a0).1 = 6 ∧ zOf (F a0 5) fun b1 => ((kd b1).1 = 5 ∧ R (d + 1) mX6_readIf 10 [.ref a0, .int (I b1 5), .int (nI 1)] [] ((n, z, kd), I, J, F) Q))) :
    R (d + 1) mX6_readIf 0 [.ref a0, .retAddr 0, .retAddr 0] [] ((n, z, kd), I, J, F) Q := hR.go [10, 40] 8 h
set_option maxRecDepth 100000 in
theorem BX6_readIf_10 {R : azP} (hR : azClosed R) {d n z : Nat} {kd : azK} {I : azI} {J : azJ} {F : azR} {Q : azQ} {a0 : Nat} {x1 x2 : Int32}
    (h : (((nI 80) ≤ x2 → ((kd a0).1 = 6 ∧ ((kd a0).1 = 6 ∧ R d mX6_fail 0 [.ref a0, .int (I a0 2)] [] ((n, z, kd), I, J, F) fun v1 s2 => kI v1 fun r3 => ((r3 = 0 ∨ r3 = 1) ∧ Q (some (.int r3)) s2)))) ∧ (¬ ((nI 80) ≤ x2) → ((kd a0).1 = 6 ∧ R d mX6_readComparison 0 [.ref a0, .retAddr 0] [] ((n, z, kd), I, J, F) fun v4 s5 => kI v4 fun r6 => ((¬ r6 = 0 → ((x2 ≤ (nI 1) → R (d + 1) mX6_readIf 40 [.ref a0, .int x1, .int x2] [] s5 Q) ∧ (¬ (x2 ≤ (nI 1)) → ((s5.1.2.2 a0).1 = 6 ∧ zOf (s5.2.2.2 a0 5) fun b7 => ((s5.1.2.2 b7).1 = 5 ∧ R d mX5_addItem 0 [.ref b7, .int (nI 238)] [] s5 fun v8 s9 => v8 = none ∧ R (d + 1) mX6_readIf 40 [.ref a0, .int x1, .int x2] [] s9 Q))))) ∧ (¬ (¬ r6 = 0) → (((nI 0) = 0 ∨ (nI 0) = 1) ∧ Q (some (.int (nI 0))) s5))))))) :
    R (d + 1) mX6_readIf 10 [.ref a0, .int x1, .int x2] [] ((n, z, kd), I, J, F) Q := hR.go [10, 40] 15 h
theorem BX6_readIf_40 {R : azP} (hR : azClosed R) {d n z : Nat} {kd : azK} {I : azI} {J : azJ} {F : azR} {Q : azQ} {a0 : Nat} {x1 x2 : Int32}
    (h : ((kd a0).1 = 6 ∧ R d mX6_peek 0 [.ref a0] [] ((n, z, kd), I, J, F) fun v1 s2 => kI v1 fun r3 => ((r3 = (nI 38) → ((s2.1.2.2 a0).1 = 6 ∧ ((s2.1.2.2 a0).1 = 6 ∧ R (d + 1) mX6_readIf 10 [.ref a0, .int x1, .int (x2 + (nI 1))] [] ((s2.1), (azUp s2.2.1 a0 2 ((s2.2.1 a0 2) + (nI 1))), s2.2.2.1, s2.2.2.2) Q))) ∧ (¬ (r3 = (nI 38)) → ((s2.1.2.2 a0).1 = 6 ∧ zOf (s2.2.2.2 a0 5) fun b4 => ((s2.1.2.2 b4).1 = 5 ∧ R d mX5_addCondition 0 [.ref b4, .int x1, .int x2] [] s2 fun v5 s6 => v5 = none ∧ (((nI 1) = 0 ∨ (nI 1) = 1) ∧ Q (some (.int (nI 1))) s6))))))) :
    R (d + 1) mX6_readIf 40 [.ref a0, .int x1, .int x2] [] ((n, z, kd), I, J, F) Q := hR.go [10, 40] 14 h
set_option maxRecDepth 100000 in
theorem BX6_readComparison_0 {R : azP} (hR : azClosed R) {d n z : Nat} {kd : azK} {I : azI} {J : azJ} {F : azR} {Q : azQ} {a0 : Nat}
    (h : ((kd a0).1 = 6 ∧ R d mX6_readSum 0 [.ref a0, .int (nI 0), .retAddr 0, .retAddr 0, .retAddr 0, .retAddr 0] [] ((n, z, kd), I, J, F) fun v1 s2 => kI v1 fun r3 => ((¬ r3 = 0 → ((s2.1.2.2 a0).1 = 6 ∧ R d mX6_peek 0 [.ref a0] [] s2 fun v4 s5 => kI v4 fun r6 => ((r6 = (nI 60) → R (d + 1) mX6_readComparison 42 [.ref a0, .int r6] [] s5 Q) ∧ (¬ (r6 = (nI 60)) → ((r6 = (nI 61) → R (d + 1) mX6_readComparison 42 [.ref a0, .int r6] [] s5 Q) ∧ (¬ (r6 = (nI 61)) → ((r6 = (nI 62) → R (d + 1) mX6_readComparison 42 [.ref a0, .int r6] [] s5 Q) ∧ (¬ (r6 = (nI 62)) → ((s5.1.2.2 a0).1 = 6 ∧ ((s5.1.2.2 a0).1 = 6 ∧ R d mX6_fail 0 [.ref a0, .int (s5.2.1 a0 2)] [] s5 fun v7 s8 => kI v7 fun r9 => ((r9 = 0 ∨ r9 = 1) ∧ Q (some (.int r9)) s8))))))))))) ∧ (¬ (¬ r3 = 0) → (((nI 0) = 0 ∨ (nI 0) = 1) ∧ Q (some (.int (nI 0))) s2))))) :
    R (d + 1) mX6_readComparison 0 [.ref a0, .retAddr 0] [] ((n, z, kd), I, J, F) Q := hR.go [42] 22 h
theorem BX6_readComparison_42 {R : azP} (hR : azClosed R) {d n z : Nat} {kd : azK} {I : azI} {J : azJ} {F : azR} {Q : azQ} {a0 : Nat} {x1 : Int32}
    (h : ((kd a0).1 = 6 ∧ ((kd a0).1 = 6 ∧ ((kd a0).1 = 6 ∧ R d mX6_readSum 0 [.ref a0, .int (nI 0), .retAddr 0, .retAddr 0, .retAddr 0, .retAddr 0] [] ((n, z, kd), (azUp I a0 2 ((I a0 2) + (nI 1))), J, F) fun v1 s2 => kI v1 fun r3 => ((¬ r3 = 0 → ((s2.1.2.2 a0).1 = 6 ∧ zOf (s2.2.2.2 a0 5) fun b4 => ((s2.1.2.2 b4).1 = 5 ∧ R d mX5_addItem 0 [.ref b4, .int ((nI 200) + x1)] [] s2 fun v5 s6 => v5 = none ∧ (((nI 1) = 0 ∨ (nI 1) = 1) ∧ Q (some (.int (nI 1))) s6)))) ∧ (¬ (¬ r3 = 0) → (((nI 0) = 0 ∨ (nI 0) = 1) ∧ Q (some (.int (nI 0))) s2))))))) :
    R (d + 1) mX6_readComparison 42 [.ref a0, .int x1] [] ((n, z, kd), I, J, F) Q := hR.go [42] 19 h
theorem BX6_readSum_0 {R : azP} (hR : azClosed R) {d n z : Nat} {kd : azK} {I : azI} {J : azJ} {F : azR} {Q : azQ} {a0 : Nat} {x1 : Int32}
    (h : R (d + 1) mX6_readSum 7 [.ref a0, .int x1, .int (nI 0), .int (nI 0), .int (nI 0), .retAddr 0] [] ((n, z, kd), I, J, F) Q) :
    R (d + 1) mX6_readSum 0 [.ref a0, .int x1, .retAddr 0, .retAddr 0, .retAddr 0, .retAddr 0] [] ((n, z, kd), I, J, F) Q := hR.go [7, 38, 77, 93] 8 h
set_option maxRecDepth 100000 in
theorem BX6_readSum_7 {R : azP} (hR : azClosed R) {d n z : Nat} {kd : azK} {I : azI} {J : azJ} {F : azR} {Q : azQ} {a0 : Nat} {x1 x2 x3 x4 : Int32} {w5 : Value}
    (h : (((nI 80) ≤ x4 → ((kd a0).1 = 6 ∧ ((kd a0).1 = 6 ∧ R d mX6_fail 0 [.ref a0, .int (I a0 2)] [] ((n, z, kd), I, J, F) fun v1 s2 => kI v1 fun r3 => ((r3 = 0 ∨ r3 = 1) ∧ Q (some (.int r3)) s2)))) ∧ (¬ ((nI 80) ≤ x4) → ((kd a0).1 = 6 ∧ R d mX6_readFactor 0 [.ref a0, .int x1, .retAddr 0, .retAddr 0] [] ((n, z, kd), I, J, F) fun v4 s5 => kI v4 fun r6 => ((¬ r6 = 0 → ((x3 = 0 → R (d + 1) mX6_readSum 38 [.ref a0, .int x1, .int x2, .int x3, .int x4, w5] [] s5 Q) ∧ (¬ (x3 = 0) → ((s5.1.2.2 a0).1 = 6 ∧ zOf (s5.2.2.2 a0 5) fun b7 => ((s5.1.2.2 b7).1 = 5 ∧ R d mX5_addItem 0 [.ref b7, .int (nI 242)] [] s5 fun v8 s9 => v8 = none ∧ R (d + 1) mX6_readSum 38 [.ref a0, .int x1, .int x2, .int x3, .int x4, w5] [] s9 Q))))) ∧ (¬ (¬ r6 = 0) → (((nI 0) = 0 ∨ (nI 0) = 1) ∧ Q (some (.int (nI 0))) s5))))))) :
    R (d + 1) mX6_readSum 7 [.ref a0, .int x1, .int x2, .int x3, .int x4, w5] [] ((n, z, kd), I, J, F) Q := hR.go [7, 38, 77, 93] 15 h
set_option maxRecDepth 100000 in
theorem BX6_readSum_38 {R : azP} (hR : azClosed R) {d n z : Nat} {kd : azK} {I : azI} {J : azJ} {F : azR} {Q : azQ} {a0 : Nat} {x1 x2 x3 x4 : Int32} {w5 : Value}
    (h : ((kd a0).1 = 6 ∧ R d mX6_peek 0 [.ref a0] [] ((n, z, kd), I, J, F) fun v1 s2 => kI v1 fun r3 => ((¬ r3 = (nI 42) → ((¬ (nI 0) = 0 → ((s2.1.2.2 a0).1 = 6 ∧ ((s2.1.2.2 a0).1 = 6 ∧ R (d + 1) mX6_readSum 7 [.ref a0, .int x1, .int x2, .int (nI 0), .int (x4 + (nI 1)), .int r3] [] ((s2.1), (azUp s2.2.1 a0 2 ((s2.2.1 a0 2) + (nI 1))), s2.2.2.1, s2.2.2.2) Q))) ∧ (¬ (¬ (nI 0) = 0) → ((x2 = 0 → R (d + 1) mX6_readSum 77 [.ref a0, .int x1, .int x2, .int (nI 0), .int x4, .int r3] [] s2 Q) ∧ (¬ (x2 = 0) → ((s2.1.2.2 a0).1 = 6 ∧ zOf (s2.2.2.2 a0 5) fun b4 => ((s2.1.2.2 b4).1 = 5 ∧ R d mX5_addItem 0 [.ref b4, .int ((nI 200) + x2)] [] s2 fun v5 s6 => v5 = none ∧ R (d + 1) mX6_readSum 77 [.ref a0, .int x1, .int x2, .int (nI 0), .int x4, .int r3] [] s6 Q))))))) ∧ (¬ (¬ r3 = (nI 42)) → ((¬ (nI 1) = 0 → ((s2.1.2.2 a0).1 = 6 ∧ ((s2.1.2.2 a0).1 = 6 ∧ R (d + 1) mX6_readSum 7 [.ref a0, .int x1, .int x2, .int (nI 1), .int (x4 + (nI 1)), .int r3] [] ((s2.1), (azUp s2.2.1 a0 2 ((s2.2.1 a0 2) + (nI 1))), s2.2.2.1, s2.2.2.2) Q))) ∧ (¬ (¬ (nI 1) = 0) → ((x2 = 0 → R (d + 1) mX6_readSum 77 [.ref a0, .int x1, .int x2, .int (nI 1), .int x4, .int r3] [] s2 Q) ∧ (¬ (x2 = 0) → ((s2.1.2.2 a0).1 = 6 ∧ zOf (s2.2.2.2 a0 5) fun b7 => ((s2.1.2.2 b7).1 = 5 ∧ R d mX5_addItem 0 [.ref b7, .int ((nI 200) + x2)] [] s2 fun v8 s9 => v8 = none ∧ R (d + 1) mX6_readSum 77 [.ref a0, .int x1, .int x2, .int (nI 1), .int x4, .int r3] [] s9 Q)))))))))) :
    R (d + 1) mX6_readSum 38 [.ref a0, .int x1, .int x2, .int x3, .int x4, w5] [] ((n, z, kd), I, J, F) Q := hR.go [7, 38, 77, 93] 21 h
theorem BX6_readSum_77 {R : azP} (hR : azClosed R) {d n z : Nat} {kd : azK} {I : azI} {J : azJ} {F : azR} {Q : azQ} {a0 : Nat} {x1 x2 x3 x4 x5 : Int32}
    (h : ((x5 = (nI 43) → R (d + 1) mX6_readSum 93 [.ref a0, .int x1, .int x2, .int x3, .int x4, .int x5] [] ((n, z, kd), I, J, F) Q) ∧ (¬ (x5 = (nI 43)) → ((x5 = (nI 45) → R (d + 1) mX6_readSum 93 [.ref a0, .int x1, .int x2, .int x3, .int x4, .int x5] [] ((n, z, kd), I, J, F) Q) ∧ (¬ (x5 = (nI 45)) → (((nI 1) = 0 ∨ (nI 1) = 1) ∧ Q (some (.int (nI 1))) ((n, z, kd), I, J, F))))))) :
    R (d + 1) mX6_readSum 77 [.ref a0, .int x1, .int x2, .int x3, .int x4, .int x5] [] ((n, z, kd), I, J, F) Q := hR.go [7, 38, 77, 93] 9 h
theorem BX6_readSum_93 {R : azP} (hR : azClosed R) {d n z : Nat} {kd : azK} {I : azI} {J : azJ} {F : azR} {Q : azQ} {a0 : Nat} {x1 x2 x3 x4 x5 : Int32}
    (h : ((kd a0).1 = 6 ∧ ((kd a0).1 = 6 ∧ R (d + 1) mX6_readSum 7 [.ref a0, .int x1, .int x5, .int x3, .int (x4 + (nI 1)), .int x5] [] ((n, z, kd), (azUp I a0 2 ((I a0 2) + (nI 1))), J, F) Q))) :
    R (d + 1) mX6_readSum 93 [.ref a0, .int x1, .int x2, .int x3, .int x4, .int x5] [] ((n, z, kd), I, J, F) Q := hR.go [7, 38, 77, 93] 12 h
set_option maxRecDepth 100000 in
theorem BX6_readFactor_0 {R : azP} (hR : azClosed R) {d n z : Nat} {kd : azK} {I : azI} {J : azJ} {F : azR} {Q : azQ} {a0 : Nat} {x1 : Int32}
    (h : ((kd a0).1 = 6 ∧ R d mX6_peek 0 [.ref a0] [] ((n, z, kd), I, J, F) fun v1 s2 => kI v1 fun r3 => (R d mX8_isFigure 0 [.int r3] [] s2 fun v4 s5 => kI v4 fun r6 => ((r6 = 0 → (R d mX8_isName 0 [.int r3] [] s5 fun v7 s8 => kI v7 fun r9 => ((r9 = 0 → R (d + 1) mX6_readFactor 118 [.ref a0, .int x1, .int r3, .retAddr 0] [] s8 Q) ∧ (¬ (r9 = 0) → ((s8.1.2.2 a0).1 = 6 ∧ ((¬ (((s8.2.1 a0 4) >>> ((r3 - (nI 120)) &&& 31)) &&& (nI 1)) = (nI 1) → R (d + 1) mX6_readFactor 118 [.ref a0, .int x1, .int r3, .retAddr 0] [] s8 Q) ∧ (¬ (¬ (((s8.2.1 a0 4) >>> ((r3 - (nI 120)) &&& 31)) &&& (nI 1)) = (nI 1)) → ((s8.1.2.2 a0).1 = 6 ∧ ((s8.1.2.2 a0).1 = 6 ∧ ((s8.1.2.2 a0).1 = 6 ∧ zOf (s8.2.2.2 a0 5) fun b10 => ((s8.1.2.2 b10).1 = 5 ∧ R d mX5_addItem 0 [.ref b10, .int (((nI 100) + r3) - (nI 120))] [] ((s8.1), (azUp s8.2.1 a0 2 ((s8.2.1 a0 2) + (nI 1))), s8.2.2.1, s8.2.2.2) fun v11 s12 => v11 = none ∧ (((nI 1) = 0 ∨ (nI 1) = 1) ∧ Q (some (.int (nI 1))) s12)))))))))))) ∧ (¬ (r6 = 0) → ((s5.1.2.2 a0).1 = 6 ∧ ((s5.1.2.2 a0).1 = 6 ∧ ((s5.1.2.2 a0).1 = 6 ∧ R d mX6_peek 0 [.ref a0] [] ((s5.1), (azUp s5.2.1 a0 2 ((s5.2.1 a0 2) + (nI 1))), s5.2.2.1, s5.2.2.2) fun v13 s14 => kI v13 fun r15 => (R d mX8_isFigure 0 [.int r15] [] s14 fun v16 s17 => kI v16 fun r18 => ((r18 = 0 → ((s17.1.2.2 a0).1 = 6 ∧ zOf (s17.2.2.2 a0 5) fun b19 => ((s17.1.2.2 b19).1 = 5 ∧ R d mX5_addItem 0 [.ref b19, .int (r3 - (nI 48))] [] s17 fun v20 s21 => v20 = none ∧ (((nI 1) = 0 ∨ (nI 1) = 1) ∧ Q (some (.int (nI 1))) s21)))) ∧ (¬ (r18 = 0) → ((s17.1.2.2 a0).1 = 6 ∧ R d mX6_peek 0 [.ref a0] [] s17 fun v22 s23 => kI v22 fun r24 => ((s23.1.2.2 a0).1 = 6 ∧ ((s23.1.2.2 a0).1 = 6 ∧ ((s23.1.2.2 a0).1 = 6 ∧ zOf (s23.2.2.2 a0 5) fun b25 => ((s23.1.2.2 b25).1 = 5 ∧ R d mX5_addItem 0 [.ref b25, .int ((((r3 - (nI 48)) * (nI 10)) + r24) - (nI 48))] [] ((s23.1), (azUp s23.2.1 a0 2 ((s23.2.1 a0 2) + (nI 1))), s23.2.2.1, s23.2.2.2) fun v26 s27 => v26 = none ∧ (((nI 1) = 0 ∨ (nI 1) = 1) ∧ Q (some (.int (nI 1))) s27))))))))))))))))) :
    R (d + 1) mX6_readFactor 0 [.ref a0, .int x1, .retAddr 0, .retAddr 0] [] ((n, z, kd), I, J, F) Q := hR.go [118] 42 h
set_option maxRecDepth 100000 in
theorem BX6_readFactor_118 {R : azP} (hR : azClosed R) {d n z : Nat} {kd : azK} {I : azI} {J : azJ} {F : azR} {Q : azQ} {a0 : Nat} {x1 x2 : Int32}
    (h : ((¬ x2 = (nI 40) → ((kd a0).1 = 6 ∧ ((kd a0).1 = 6 ∧ R d mX6_fail 0 [.ref a0, .int (I a0 2)] [] ((n, z, kd), I, J, F) fun v1 s2 => kI v1 fun r3 => ((r3 = 0 ∨ r3 = 1) ∧ Q (some (.int r3)) s2)))) ∧ (¬ (¬ x2 = (nI 40)) → ((x1 < (nI 5) → ((kd a0).1 = 6 ∧ ((kd a0).1 = 6 ∧ ((kd a0).1 = 6 ∧ R d mX6_readSum 0 [.ref a0, .int (x1 + (nI 1)), .retAddr 0, .retAddr 0, .retAddr 0, .retAddr 0] [] ((n, z, kd), (azUp I a0 2 ((I a0 2) + (nI 1))), J, F) fun v4 s5 => kI v4 fun r6 => ((¬ r6 = 0 → ((s5.1.2.2 a0).1 = 6 ∧ R d mX6_peek 0 [.ref a0] [] s5 fun v7 s8 => kI v7 fun r9 => ((r9 = (nI 41) → ((s8.1.2.2 a0).1 = 6 ∧ ((s8.1.2.2 a0).1 = 6 ∧ (((nI 1) = 0 ∨ (nI 1) = 1) ∧ Q (some (.int (nI 1))) ((s8.1), (azUp s8.2.1 a0 2 ((s8.2.1 a0 2) + (nI 1))), s8.2.2.1, s8.2.2.2))))) ∧ (¬ (r9 = (nI 41)) → ((s8.1.2.2 a0).1 = 6 ∧ ((s8.1.2.2 a0).1 = 6 ∧ R d mX6_fail 0 [.ref a0, .int (s8.2.1 a0 2)] [] s8 fun v10 s11 => kI v10 fun r12 => ((r12 = 0 ∨ r12 = 1) ∧ Q (some (.int r12)) s11))))))) ∧ (¬ (¬ r6 = 0) → (((nI 0) = 0 ∨ (nI 0) = 1) ∧ Q (some (.int (nI 0))) s5))))))) ∧ (¬ (x1 < (nI 5)) → ((kd a0).1 = 6 ∧ ((kd a0).1 = 6 ∧ R d mX6_fail 0 [.ref a0, .int (I a0 2)] [] ((n, z, kd), I, J, F) fun v13 s14 => kI v13 fun r15 => ((r15 = 0 ∨ r15 = 1) ∧ Q (some (.int r15)) s14)))))))) :
    R (d + 1) mX6_readFactor 118 [.ref a0, .int x1, .int x2, .retAddr 0] [] ((n, z, kd), I, J, F) Q := hR.go [118] 31 h
end
section
/-! BLOCKS: Paper (written by wip/whole/blocks.py) -/
theorem BX4_at_0 {R : azP} (hR : azClosed R) {d n z : Nat} {kd : azK} {I : azI} {J : azJ} {F : azR} {Q : azQ} {a0 : Nat} {x1 : Int32}
    (h : ((x1 < 0 → Q (some (.int (-(nI 1)))) ((n, z, kd), I, J, F)) ∧ (¬ (x1 < 0) → ((kd a0).1 = 4 ∧ (((I a0 3) ≤ x1 → Q (some (.int (-(nI 1)))) ((n, z, kd), I, J, F)) ∧ (¬ ((I a0 3) ≤ x1) → (((nI 256) ≤ x1 → Q (some (.int (-(nI 1)))) ((n, z, kd), I, J, F)) ∧ (¬ ((nI 256) ≤ x1) → ((kd a0).1 = 4 ∧ zOf (F a0 0) fun b1 => (((kd b1).1 = 10 ∨ (kd b1).1 = 15) ∧ vp_in x1 (kd b1).2 ∧ Q (some (.int (I b1 x1.toNatClampNeg))) ((n, z, kd), I, J, F))))))))))) :
    R d mX4_at 0 [.ref a0, .int x1] [] ((n, z, kd), I, J, F) Q := hR.go [] 16 h
theorem BX4_writeMarking_0 {R : azP} (hR : azClosed R) {d n z : Nat} {kd : azK} {I : azI} {J : azJ} {F : azR} {Q : azQ} {a0 a1 : Nat}
    (h : ((kd a0).1 = 4 ∧ R (d + 1) mX4_writeMarking 7 [.ref a0, .ref a1, .int (nI 0), .retAddr 0] [] ((n, z, kd), (azUp I a0 3 (nI 0)), J, F) Q)) :
    R (d + 1) mX4_writeMarking 0 [.ref a0, .ref a1, .retAddr 0, .retAddr 0] [] ((n, z, kd), I, J, F) Q := hR.go [7, 50] 7 h
set_option maxRecDepth 100000 in
theorem BX4_writeMarking_7 {R : azP} (hR : azClosed R) {d n z : Nat} {kd : azK} {I : azI} {J : azJ} {F : azR} {Q : azQ} {a0 a1 : Nat} {x2 : Int32} {w3 : Value}
    (h : (((nI 10) ≤ x2 → Q none ((n, z, kd), I, J, F)) ∧ (¬ ((nI 10) ≤ x2) → ((kd a1).1 = 3 ∧ R d mX3_count 0 [.ref a1, .int x2] [] ((n, z, kd), I, J, F) fun v1 s2 => kI v1 fun r3 => ((¬ r3 = 0 → ((s2.1.2.2 a0).1 = 4 ∧ (((s2.2.1 a0 3) ≤ 0 → ((s2.1.2.2 a0).1 = 4 ∧ R d mX4_write 0 [.ref a0, .int (nI 80)] [] s2 fun v4 s5 => v4 = none ∧ ((s5.1.2.2 a0).1 = 4 ∧ R d mX4_writeNumber 0 [.ref a0, .int x2] [] s5 fun v6 s7 => v6 = none ∧ R (d + 1) mX4_writeMarking 50 [.ref a0, .ref a1, .int x2, .int (nI 0)] [] s7 Q))) ∧ (¬ ((s2.2.1 a0 3) ≤ 0) → ((s2.1.2.2 a0).1 = 4 ∧ R d mX4_write 0 [.ref a0, .int (nI 32)] [] s2 fun v8 s9 => v8 = none ∧ ((s9.1.2.2 a0).1 = 4 ∧ R d mX4_write 0 [.ref a0, .int (nI 80)] [] s9 fun v10 s11 => v10 = none ∧ ((s11.1.2.2 a0).1 = 4 ∧ R d mX4_writeNumber 0 [.ref a0, .int x2] [] s11 fun v12 s13 => v12 = none ∧ R (d + 1) mX4_writeMarking 50 [.ref a0, .ref a1, .int x2, .int (nI 0)] [] s13 Q))))))) ∧ (¬ (¬ r3 = 0) → R (d + 1) mX4_writeMarking 7 [.ref a0, .ref a1, .int (x2 + (nI 1)), w3] [] s2 Q)))))) :
    R (d + 1) mX4_writeMarking 7 [.ref a0, .ref a1, .int x2, w3] [] ((n, z, kd), I, J, F) Q := hR.go [7, 50] 23 h
set_option maxRecDepth 100000 in
theorem BX4_writeMarking_50 {R : azP} (hR : azClosed R) {d n z : Nat} {kd : azK} {I : azI} {J : azJ} {F : azR} {Q : azQ} {a0 a1 : Nat} {x2 x3 : Int32}
    (h : ((kd a1).1 = 3 ∧ R d mX3_count 0 [.ref a1, .int x2] [] ((n, z, kd), I, J, F) fun v1 s2 => kI v1 fun r3 => ((r3 ≤ x3 → R (d + 1) mX4_writeMarking 7 [.ref a0, .ref a1, .int (x2 + (nI 1)), .int x3] [] s2 Q) ∧ (¬ (r3 ≤ x3) → ((¬ x3 = 0 → ((s2.1.2.2 a0).1 = 4 ∧ R d mX4_write 0 [.ref a0, .int (nI 44)] [] s2 fun v4 s5 => v4 = none ∧ ((s5.1.2.2 a1).1 = 3 ∧ R d mX3_at 0 [.ref a1, .int x2, .int x3] [] s5 fun v6 s7 => kI v6 fun r8 => ((s7.1.2.2 a0).1 = 4 ∧ R d mX4_writeNumber 0 [.ref a0, .int r8] [] s7 fun v9 s10 => v9 = none ∧ R (d + 1) mX4_writeMarking 50 [.ref a0, .ref a1, .int x2, .int (x3 + (nI 1))] [] s10 Q)))) ∧ (¬ (¬ x3 = 0) → ((s2.1.2.2 a0).1 = 4 ∧ R d mX4_write 0 [.ref a0, .int (nI 61)] [] s2 fun v11 s12 => v11 = none ∧ ((s12.1.2.2 a1).1 = 3 ∧ R d mX3_at 0 [.ref a1, .int x2, .int x3] [] s12 fun v13 s14 => kI v13 fun r15 => ((s14.1.2.2 a0).1 = 4 ∧ R d mX4_writeNumber 0 [.ref a0, .int r15] [] s14 fun v16 s17 => v16 = none ∧ R (d + 1) mX4_writeMarking 50 [.ref a0, .ref a1, .int x2, .int (x3 + (nI 1))] [] s17 Q))))))))) :
    R (d + 1) mX4_writeMarking 50 [.ref a0, .ref a1, .int x2, .int x3] [] ((n, z, kd), I, J, F) Q := hR.go [7, 50] 21 h
theorem BX4_writeRule_0 {R : azP} (hR : azClosed R) {d n z : Nat} {kd : azK} {I : azI} {J : azJ} {F : azR} {Q : azQ} {a0 a1 : Nat}
    (h : ((kd a0).1 = 4 ∧ R (d + 1) mX4_writeRule 7 [.ref a0, .ref a1, .int (nI 0)] [] ((n, z, kd), (azUp I a0 3 (nI 0)), J, F) Q)) :
    R (d + 1) mX4_writeRule 0 [.ref a0, .ref a1, .retAddr 0] [] ((n, z, kd), I, J, F) Q := hR.go [7] 7 h
theorem BX4_writeRule_7 {R : azP} (hR : azClosed R) {d n z : Nat} {kd : azK} {I : azI} {J : azJ} {F : azR} {Q : azQ} {a0 a1 : Nat} {x2 : Int32}
    (h : ((kd a1).1 = 5 ∧ (((I a1 0) ≤ x2 → Q none ((n, z, kd), I, J, F)) ∧ (¬ ((I a1 0) ≤ x2) → ((x2 ≤ 0 → ((kd a0).1 = 4 ∧ R d mX4_writeClause 0 [.ref a0, .ref a1, .int x2, .retAddr 0] [] ((n, z, kd), I, J, F) fun v1 s2 => v1 = none ∧ R (d + 1) mX4_writeRule 7 [.ref a0, .ref a1, .int (x2 + (nI 1))] [] s2 Q)) ∧ (¬ (x2 ≤ 0) → ((kd a0).1 = 4 ∧ R d mX4_write 0 [.ref a0, .int (nI 59)] [] ((n, z, kd), I, J, F) fun v3 s4 => v3 = none ∧ ((s4.1.2.2 a0).1 = 4 ∧ R d mX4_writeClause 0 [.ref a0, .ref a1, .int x2, .retAddr 0] [] s4 fun v5 s6 => v5 = none ∧ R (d + 1) mX4_writeRule 7 [.ref a0, .ref a1, .int (x2 + (nI 1))] [] s6 Q)))))))) :
    R (d + 1) mX4_writeRule 7 [.ref a0, .ref a1, .int x2] [] ((n, z, kd), I, J, F) Q := hR.go [7] 17 h
set_option maxRecDepth 100000 in
theorem BX4_writeClause_0 {R : azP} (hR : azClosed R) {d n z : Nat} {kd : azK} {I : azI} {J : azJ} {F : azR} {Q : azQ} {a0 a1 : Nat} {x2 : Int32}
    (h : ((kd a1).1 = 5 ∧ R d mX5_kind 0 [.ref a1, .int x2] [] ((n, z, kd), I, J, F) fun v1 s2 => kI v1 fun r3 => (R d mX8_wordOf 0 [.int r3] [] s2 fun v4 s5 => kO v4 (fun r6 => ((s5.1.2.2 a0).1 = 4 ∧ R d mX4_writeText 0 [.ref a0, .ref r6, .retAddr 0] [] s5 fun v16 s17 => v16 = none ∧ ((s17.1.2.2 a0).1 = 4 ∧ R d mX4_write 0 [.ref a0, .int (nI 32)] [] s17 fun v18 s19 => v18 = none ∧ ((r3 = (nI 1) → R (d + 1) mX4_writeClause 34 [.ref a0, .ref a1, .int x2, .int r3] [] s19 Q) ∧ (¬ (r3 = (nI 1)) → ((s19.1.2.2 a1).1 = 5 ∧ R d mX5_place 0 [.ref a1, .int x2] [] s19 fun v20 s21 => kI v20 fun r22 => ((s21.1.2.2 a0).1 = 4 ∧ R d mX4_writeNumber 0 [.ref a0, .int r22] [] s21 fun v23 s24 => v23 = none ∧ R (d + 1) mX4_writeClause 34 [.ref a0, .ref a1, .int x2, .int r3] [] s24 Q))))))) (((s5.1.2.2 a0).1 = 4 ∧ R d mX4_writeText 0 [.ref a0, .null, .retAddr 0] [] s5 fun v7 s8 => v7 = none ∧ ((s8.1.2.2 a0).1 = 4 ∧ R d mX4_write 0 [.ref a0, .int (nI 32)] [] s8 fun v9 s10 => v9 = none ∧ ((r3 = (nI 1) → R (d + 1) mX4_writeClause 34 [.ref a0, .ref a1, .int x2, .int r3] [] s10 Q) ∧ (¬ (r3 = (nI 1)) → ((s10.1.2.2 a1).1 = 5 ∧ R d mX5_place 0 [.ref a1, .int x2] [] s10 fun v11 s12 => kI v11 fun r13 => ((s12.1.2.2 a0).1 = 4 ∧ R d mX4_writeNumber 0 [.ref a0, .int r13] [] s12 fun v14 s15 => v14 = none ∧ R (d + 1) mX4_writeClause 34 [.ref a0, .ref a1, .int x2, .int r3] [] s15 Q)))))))))) :
    R (d + 1) mX4_writeClause 0 [.ref a0, .ref a1, .int x2, .retAddr 0] [] ((n, z, kd), I, J, F) Q := hR.go [34, 56, 67, 77] 21 h
theorem BX4_writeClause_34 {R : azP} (hR : azClosed R) {d n z : Nat} {kd : azK} {I : azI} {J : azJ} {F : azR} {Q : azQ} {a0 a1 : Nat} {x2 x3 : Int32}
    (h : ((¬ x3 = 0 → R (d + 1) mX4_writeClause 56 [.ref a0, .ref a1, .int x2, .int x3] [] ((n, z, kd), I, J, F) Q) ∧ (¬ (¬ x3 = 0) → ((kd a0).1 = 4 ∧ R d mX4_write 0 [.ref a0, .int (nI 32)] [] ((n, z, kd), I, J, F) fun v1 s2 => v1 = none ∧ ((s2.1.2.2 a1).1 = 5 ∧ R d mX5_name 0 [.ref a1, .int x2] [] s2 fun v3 s4 => kI v3 fun r5 => ((s4.1.2.2 a0).1 = 4 ∧ R d mX4_write 0 [.ref a0, .int ((nI 120) + r5)] [] s4 fun v6 s7 => v6 = none ∧ R (d + 1) mX4_writeClause 56 [.ref a0, .ref a1, .int x2, .int x3] [] s7 Q)))))) :
    R (d + 1) mX4_writeClause 34 [.ref a0, .ref a1, .int x2, .int x3] [] ((n, z, kd), I, J, F) Q := hR.go [34, 56, 67, 77] 14 h
theorem BX4_writeClause_56 {R : azP} (hR : azClosed R) {d n z : Nat} {kd : azK} {I : azI} {J : azJ} {F : azR} {Q : azQ} {a0 a1 : Nat} {x2 x3 : Int32}
    (h : ((¬ x3 = (nI 2) → R (d + 1) mX4_writeClause 67 [.ref a0, .ref a1, .int x2, .int x3] [] ((n, z, kd), I, J, F) Q) ∧ (¬ (¬ x3 = (nI 2)) → ((kd a0).1 = 4 ∧ R d mX4_write 0 [.ref a0, .int (nI 32)] [] ((n, z, kd), I, J, F) fun v1 s2 => v1 = none ∧ R (d + 1) mX4_writeClause 67 [.ref a0, .ref a1, .int x2, .int x3] [] s2 Q)))) :
    R (d + 1) mX4_writeClause 56 [.ref a0, .ref a1, .int x2, .int x3] [] ((n, z, kd), I, J, F) Q := hR.go [34, 56, 67, 77] 8 h
theorem BX4_writeClause_67 {R : azP} (hR : azClosed R) {d n z : Nat} {kd : azK} {I : azI} {J : azJ} {F : azR} {Q : azQ} {a0 a1 : Nat} {x2 x3 : Int32}
    (h : ((x3 = (nI 2) → R (d + 1) mX4_writeClause 77 [.ref a0, .ref a1, .int x2, .int x3] [] ((n, z, kd), I, J, F) Q) ∧ (¬ (x3 = (nI 2)) → ((¬ x3 = (nI 1) → Q none ((n, z, kd), I, J, F)) ∧ (¬ (¬ x3 = (nI 1)) → R (d + 1) mX4_writeClause 77 [.ref a0, .ref a1, .int x2, .int x3] [] ((n, z, kd), I, J, F) Q))))) :
    R (d + 1) mX4_writeClause 67 [.ref a0, .ref a1, .int x2, .int x3] [] ((n, z, kd), I, J, F) Q := hR.go [34, 56, 67, 77] 8 h
theorem BX4_writeClause_77 {R : azP} (hR : azClosed R) {d n z : Nat} {kd : azK} {I : azI} {J : azJ} {F : azR} {Q : azQ} {a0 a1 : Nat} {x2 x3 : Int32}
    (h : ((kd a1).1 = 5 ∧ R d mX5_begin 0 [.ref a1, .int x2] [] ((n, z, kd), I, J, F) fun v1 s2 => kI v1 fun r3 => ((s2.1.2.2 a1).1 = 5 ∧ R d mX5_end 0 [.ref a1, .int x2] [] s2 fun v4 s5 => kI v4 fun r6 => ((s5.1.2.2 a0).1 = 4 ∧ R d mX4_writeCode 0 [.ref a0, .ref a1, .int r3, .int r6, .retAddr 0, .retAddr 0, .retAddr 0] [] s5 fun v7 s8 => v7 = none ∧ Q none s8)))) :
    R (d + 1) mX4_writeClause 77 [.ref a0, .ref a1, .int x2, .int x3] [] ((n, z, kd), I, J, F) Q := hR.go [34, 56, 67, 77] 11 h
theorem BX4_writeCode_0 {R : azP} (hR : azClosed R) {d n z : Nat} {kd : azK} {I : azI} {J : azJ} {F : azR} {Q : azQ} {a0 a1 : Nat} {x2 x3 : Int32}
    (h : R (d + 1) mX4_writeCode 6 [.ref a0, .ref a1, .int x2, .int x3, .int (nI 0), .int x2, .retAddr 0] [] ((n, z, kd), I, J, F) Q) :
    R (d + 1) mX4_writeCode 0 [.ref a0, .ref a1, .int x2, .int x3, .retAddr 0, .retAddr 0, .retAddr 0] [] ((n, z, kd), I, J, F) Q := hR.go [6] 6 h
set_option maxRecDepth 100000 in
theorem BX4_writeCode_6 {R : azP} (hR : azClosed R) {d n z : Nat} {kd : azK} {I : azI} {J : azJ} {F : azR} {Q : azQ} {a0 a1 : Nat} {x2 x3 x4 x5 : Int32} {w6 : Value}
    (h : ((x3 ≤ x5 → Q none ((n, z, kd), I, J, F)) ∧ (¬ (x3 ≤ x5) → ((kd a1).1 = 5 ∧ R d mX5_item 0 [.ref a1, .int x5] [] ((n, z, kd), I, J, F) fun v1 s2 => kI v1 fun r3 => ((r3 < (nI 200) → (((nI 80) ≤ x4 → R (d + 1) mX4_writeCode 6 [.ref a0, .ref a1, .int x2, .int x3, .int x4, .int (x5 + (nI 1)), .int r3] [] s2 Q) ∧ (¬ ((nI 80) ≤ x4) → ((s2.1.2.2 a0).1 = 4 ∧ zOf (s2.2.2.2 a0 1) fun b4 => ((s2.1.2.2 a0).1 = 4 ∧ ((s2.1.2.2 b4).1 = 10 ∧ vp_in x4 (s2.1.2.2 b4).2 ∧ ((s2.1.2.2 a0).1 = 4 ∧ zOf (s2.2.2.2 a0 2) fun b5 => ((s2.1.2.2 b5).1 = 10 ∧ vp_in x4 (s2.1.2.2 b5).2 ∧ ((s2.1.2.2 a0).1 = 4 ∧ R d mX4_writeItem 0 [.ref a0, .int r3] [] ((s2.1), (azUp ((azUp s2.2.1 b4 x4.toNatClampNeg (s2.2.1 a0 3))) b5 x4.toNatClampNeg (nI 4)), s2.2.2.1, s2.2.2.2) fun v6 s7 => v6 = none ∧ R (d + 1) mX4_writeCode 6 [.ref a0, .ref a1, .int x2, .int x3, .int (x4 + (nI 1)), .int (x5 + (nI 1)), .int r3] [] s7 Q))))))))) ∧ (¬ (r3 < (nI 200)) → ((x4 < (nI 2) → R (d + 1) mX4_writeCode 6 [.ref a0, .ref a1, .int x2, .int x3, .int x4, .int (x5 + (nI 1)), .int r3] [] s2 Q) ∧ (¬ (x4 < (nI 2)) → ((s2.1.2.2 a0).1 = 4 ∧ R d mX4_joinPieces 0 [.ref a0, .int (x4 - (nI 2)), .int (x4 - (nI 1)), .int (r3 - (nI 200)), .retAddr 0] [] s2 fun v8 s9 => v8 = none ∧ R (d + 1) mX4_writeCode 6 [.ref a0, .ref a1, .int x2, .int x3, .int (x4 + (-(nI 1))), .int (x5 + (nI 1)), .int r3] [] s9 Q))))))))) :
    R (d + 1) mX4_writeCode 6 [.ref a0, .ref a1, .int x2, .int x3, .int x4, .int x5, w6] [] ((n, z, kd), I, J, F) Q := hR.go [6] 32 h
theorem BX4_writeItem_0 {R : azP} (hR : azClosed R) {d n z : Nat} {kd : azK} {I : azI} {J : azJ} {F : azR} {Q : azQ} {a0 : Nat} {x1 : Int32}
    (h : ((x1 < (nI 100) → ((kd a0).1 = 4 ∧ R d mX4_writeNumber 0 [.ref a0, .int x1] [] ((n, z, kd), I, J, F) fun v1 s2 => v1 = none ∧ Q none s2)) ∧ (¬ (x1 < (nI 100)) → ((kd a0).1 = 4 ∧ R d mX4_write 0 [.ref a0, .int (((nI 120) + x1) - (nI 100))] [] ((n, z, kd), I, J, F) fun v3 s4 => v3 = none ∧ Q none s4)))) :
    R (d + 1) mX4_writeItem 0 [.ref a0, .int x1] [] ((n, z, kd), I, J, F) Q := hR.go [] 13 h
set_option maxRecDepth 100000 in
theorem BX4_joinPieces_0 {R : azP} (hR : azClosed R) {d n z : Nat} {kd : azK} {I : azI} {J : azJ} {F : azR} {Q : azQ} {a0 : Nat} {x1 x2 x3 : Int32}
    (h : ((x1 < 0 → Q none ((n, z, kd), I, J, F)) ∧ (¬ (x1 < 0) → ((x2 < 0 → Q none ((n, z, kd), I, J, F)) ∧ (¬ (x2 < 0) → (((nI 80) ≤ x1 → Q none ((n, z, kd), I, J, F)) ∧ (¬ ((nI 80) ≤ x1) → ((x2 < (nI 80) → (R d mX4_holdOf 0 [.int x3] [] ((n, z, kd), I, J, F) fun v1 s2 => kI v1 fun r3 => ((s2.1.2.2 a0).1 = 4 ∧ zOf (s2.2.2.2 a0 2) fun b4 => (((s2.1.2.2 b4).1 = 10 ∨ (s2.1.2.2 b4).1 = 15) ∧ vp_in x2 (s2.1.2.2 b4).2 ∧ ((r3 < (s2.2.1 b4 x2.toNatClampNeg) → R (d + 1) mX4_joinPieces 56 [.ref a0, .int x1, .int x2, .int x3, .int r3] [] s2 Q) ∧ (¬ (r3 < (s2.2.1 b4 x2.toNatClampNeg)) → ((s2.1.2.2 a0).1 = 4 ∧ zOf (s2.2.2.2 a0 1) fun b5 => (((s2.1.2.2 b5).1 = 10 ∨ (s2.1.2.2 b5).1 = 15) ∧ vp_in x2 (s2.1.2.2 b5).2 ∧ ((s2.1.2.2 a0).1 = 4 ∧ R d mX4_insert 0 [.ref a0, .int (s2.2.1 b5 x2.toNatClampNeg), .int (nI 40), .retAddr 0] [] s2 fun v6 s7 => v6 = none ∧ ((s7.1.2.2 a0).1 = 4 ∧ R d mX4_write 0 [.ref a0, .int (nI 41)] [] s7 fun v8 s9 => v8 = none ∧ R (d + 1) mX4_joinPieces 56 [.ref a0, .int x1, .int x2, .int x3, .int r3] [] s9 Q)))))))))) ∧ (¬ (x2 < (nI 80)) → Q none ((n, z, kd), I, J, F)))))))))) :
    R (d + 1) mX4_joinPieces 0 [.ref a0, .int x1, .int x2, .int x3, .retAddr 0] [] ((n, z, kd), I, J, F) Q := hR.go [56] 31 h
set_option maxRecDepth 100000 in
theorem BX4_joinPieces_56 {R : azP} (hR : azClosed R) {d n z : Nat} {kd : azK} {I : azI} {J : azJ} {F : azR} {Q : azQ} {a0 : Nat} {x1 x2 x3 x4 : Int32}
    (h : ((kd a0).1 = 4 ∧ zOf (F a0 1) fun b1 => (((kd b1).1 = 10 ∨ (kd b1).1 = 15) ∧ vp_in x2 (kd b1).2 ∧ ((kd a0).1 = 4 ∧ R d mX4_insert 0 [.ref a0, .int (I b1 x2.toNatClampNeg), .int x3, .retAddr 0] [] ((n, z, kd), I, J, F) fun v2 s3 => v2 = none ∧ ((s3.1.2.2 a0).1 = 4 ∧ zOf (s3.2.2.2 a0 2) fun b4 => (((s3.1.2.2 b4).1 = 10 ∨ (s3.1.2.2 b4).1 = 15) ∧ vp_in x1 (s3.1.2.2 b4).2 ∧ ((x4 ≤ (s3.2.1 b4 x1.toNatClampNeg) → ((s3.1.2.2 a0).1 = 4 ∧ zOf (s3.2.2.2 a0 2) fun b5 => ((s3.1.2.2 b5).1 = 10 ∧ vp_in x1 (s3.1.2.2 b5).2 ∧ Q none ((s3.1), (azUp s3.2.1 b5 x1.toNatClampNeg x4), s3.2.2.1, s3.2.2.2)))) ∧ (¬ (x4 ≤ (s3.2.1 b4 x1.toNatClampNeg)) → ((s3.1.2.2 a0).1 = 4 ∧ zOf (s3.2.2.2 a0 1) fun b6 => (((s3.1.2.2 b6).1 = 10 ∨ (s3.1.2.2 b6).1 = 15) ∧ vp_in x2 (s3.1.2.2 b6).2 ∧ ((s3.1.2.2 a0).1 = 4 ∧ R d mX4_insert 0 [.ref a0, .int (s3.2.1 b6 x2.toNatClampNeg), .int (nI 41), .retAddr 0] [] s3 fun v7 s8 => v7 = none ∧ ((s8.1.2.2 a0).1 = 4 ∧ zOf (s8.2.2.2 a0 1) fun b9 => (((s8.1.2.2 b9).1 = 10 ∨ (s8.1.2.2 b9).1 = 15) ∧ vp_in x1 (s8.1.2.2 b9).2 ∧ ((s8.1.2.2 a0).1 = 4 ∧ R d mX4_insert 0 [.ref a0, .int (s8.2.1 b9 x1.toNatClampNeg), .int (nI 40), .retAddr 0] [] s8 fun v10 s11 => v10 = none ∧ ((s11.1.2.2 a0).1 = 4 ∧ zOf (s11.2.2.2 a0 2) fun b12 => ((s11.1.2.2 b12).1 = 10 ∧ vp_in x1 (s11.1.2.2 b12).2 ∧ Q none ((s11.1), (azUp s11.2.1 b12 x1.toNatClampNeg x4), s11.2.2.1, s11.2.2.2))))))))))))))))) :
    R (d + 1) mX4_joinPieces 56 [.ref a0, .int x1, .int x2, .int x3, .int x4] [] ((n, z, kd), I, J, F) Q := hR.go [56] 34 h
set_option maxRecDepth 100000 in
theorem BX4_holdOf_0 {R : azP} (hR : azClosed R) {d n z : Nat} {kd : azK} {I : azI} {J : azJ} {F : azR} {Q : azQ} {x0 : Int32}
    (h : ((x0.toInt < 38 ∨ 45 < x0.toInt → Q (some (.int (nI 1))) ((n, z, kd), I, J, F)) ∧ (x0.toInt = 38 → Q (some (.int (nI 0))) ((n, z, kd), I, J, F)) ∧ (x0.toInt = 38 + 1 → Q (some (.int (nI 1))) ((n, z, kd), I, J, F)) ∧ (x0.toInt = 38 + 1 + 1 → Q (some (.int (nI 1))) ((n, z, kd), I, J, F)) ∧ (x0.toInt = 38 + 1 + 1 + 1 → Q (some (.int (nI 1))) ((n, z, kd), I, J, F)) ∧ (x0.toInt = 38 + 1 + 1 + 1 + 1 → Q (some (.int (nI 3))) ((n, z, kd), I, J, F)) ∧ (x0.toInt = 38 + 1 + 1 + 1 + 1 + 1 → Q (some (.int (nI 2))) ((n, z, kd), I, J, F)) ∧ (x0.toInt = 38 + 1 + 1 + 1 + 1 + 1 + 1 → Q (some (.int (nI 1))) ((n, z, kd), I, J, F)) ∧ (x0.toInt = 38 + 1 + 1 + 1 + 1 + 1 + 1 + 1 → Q (some (.int (nI 2))) ((n, z, kd), I, J, F)) ∧ True)) :
    R d mX4_holdOf 0 [.int x0] [] ((n, z, kd), I, J, F) Q := hR.go [] 5 h
theorem BX4_write_0 {R : azP} (hR : azClosed R) {d n z : Nat} {kd : azK} {I : azI} {J : azJ} {F : azR} {Q : azQ} {a0 : Nat} {x1 : Int32}
    (h : ((kd a0).1 = 4 ∧ (((nI 256) ≤ (I a0 3) → Q none ((n, z, kd), I, J, F)) ∧ (¬ ((nI 256) ≤ (I a0 3)) → ((kd a0).1 = 4 ∧ zOf (F a0 0) fun b1 => ((kd a0).1 = 4 ∧ ((kd b1).1 = 10 ∧ vp_in (I a0 3) (kd b1).2 ∧ ((kd a0).1 = 4 ∧ ((kd a0).1 = 4 ∧ Q none ((n, z, kd), (azUp ((azUp I b1 ((I a0 3).toNatClampNeg) x1)) a0 3 (((azUp I b1 ((I a0 3).toNatClampNeg) x1) a0 3) + (nI 1))), J, F)))))))))) :
    R d mX4_write 0 [.ref a0, .int x1] [] ((n, z, kd), I, J, F) Q := hR.go [] 18 h
theorem BX4_insert_0 {R : azP} (hR : azClosed R) {d n z : Nat} {kd : azK} {I : azI} {J : azJ} {F : azR} {Q : azQ} {a0 : Nat} {x1 x2 : Int32}
    (h : ((x1 < 0 → Q none ((n, z, kd), I, J, F)) ∧ (¬ (x1 < 0) → ((kd a0).1 = 4 ∧ (((I a0 3) < x1 → Q none ((n, z, kd), I, J, F)) ∧ (¬ ((I a0 3) < x1) → ((kd a0).1 = 4 ∧ (((I a0 3) < (nI 256) → ((kd a0).1 = 4 ∧ R d mX4_insert 28 [.ref a0, .int x1, .int x2, .int (I a0 3)] [] ((n, z, kd), I, J, F) Q)) ∧ (¬ ((I a0 3) < (nI 256)) → Q none ((n, z, kd), I, J, F)))))))))) :
    R d mX4_insert 0 [.ref a0, .int x1, .int x2, .retAddr 0] [] ((n, z, kd), I, J, F) Q := hR.go [28] 15 h
theorem BX4_insert_28 {R : azP} (hR : azClosed R) {d n z : Nat} {kd : azK} {I : azI} {J : azJ} {F : azR} {Q : azQ} {a0 : Nat} {x1 x2 x3 : Int32}
    (h : ((x3 ≤ x1 → ((kd a0).1 = 4 ∧ zOf (F a0 0) fun b1 => ((kd b1).1 = 10 ∧ vp_in x1 (kd b1).2 ∧ ((kd a0).1 = 4 ∧ ((kd a0).1 = 4 ∧ Q none ((n, z, kd), (azUp ((azUp I b1 x1.toNatClampNeg x2)) a0 3 (((azUp I b1 x1.toNatClampNeg x2) a0 3) + (nI 1))), J, F)))))) ∧ (¬ (x3 ≤ x1) → ((kd a0).1 = 4 ∧ zOf (F a0 0) fun b2 => ((kd a0).1 = 4 ∧ zOf (F a0 0) fun b3 => (((kd b3).1 = 10 ∨ (kd b3).1 = 15) ∧ vp_in (x3 - (nI 1)) (kd b3).2 ∧ ((kd b2).1 = 10 ∧ vp_in x3 (kd b2).2 ∧ R d mX4_insert 28 [.ref a0, .int x1, .int x2, .int (x3 + (-(nI 1)))] [] ((n, z, kd), (azUp I b2 x3.toNatClampNeg (I b3 ((x3 - (nI 1)).toNatClampNeg))), J, F) Q))))))) :
    R d mX4_insert 28 [.ref a0, .int x1, .int x2, .int x3] [] ((n, z, kd), I, J, F) Q := hR.go [28] 17 h
theorem BX4_writeText_0 {R : azP} (hR : azClosed R) {d n z : Nat} {kd : azK} {I : azI} {J : azJ} {F : azR} {Q : azQ} {a0 a1 : Nat}
    (h : R (d + 1) mX4_writeText 2 [.ref a0, .ref a1, .int (nI 0)] [] ((n, z, kd), I, J, F) Q) :
    R (d + 1) mX4_writeText 0 [.ref a0, .ref a1, .retAddr 0] [] ((n, z, kd), I, J, F) Q := hR.go [2] 4 h
theorem BX4_writeText_2 {R : azP} (hR : azClosed R) {d n z : Nat} {kd : azK} {I : azI} {J : azJ} {F : azR} {Q : azQ} {a0 a1 : Nat} {x2 : Int32}
    (h : ((kd a1).1 = 16 ∧ R d mJ0_length_8abf5 0 [.ref a1] [] ((n, z, kd), I, J, F) fun v1 s2 => kI v1 fun r3 => ((r3 ≤ x2 → Q none s2) ∧ (¬ (r3 ≤ x2) → ((s2.1.2.2 a1).1 = 16 ∧ R d mJ0_charAt_5068e 0 [.ref a1, .int x2] [] s2 fun v4 s5 => kI v4 fun r6 => ((s5.1.2.2 a0).1 = 4 ∧ R d mX4_write 0 [.ref a0, .int r6] [] s5 fun v7 s8 => v7 = none ∧ R (d + 1) mX4_writeText 2 [.ref a0, .ref a1, .int (x2 + (nI 1))] [] s8 Q)))))) :
    R (d + 1) mX4_writeText 2 [.ref a0, .ref a1, .int x2] [] ((n, z, kd), I, J, F) Q := hR.go [2] 13 h
theorem BX4_writeNumber_0 {R : azP} (hR : azClosed R) {d n z : Nat} {kd : azK} {I : azI} {J : azJ} {F : azR} {Q : azQ} {a0 : Nat} {x1 : Int32}
    (h : ((x1 < (nI 10) → ¬ (nI 10) = 0 ∧ ((kd a0).1 = 4 ∧ R d mX4_write 0 [.ref a0, .int ((nI 48) + (x1 - x1 / (nI 10) * (nI 10)))] [] ((n, z, kd), I, J, F) fun v1 s2 => v1 = none ∧ Q none s2)) ∧ (¬ (x1 < (nI 10)) → ¬ (nI 10) = 0 ∧ ((kd a0).1 = 4 ∧ R d mX4_write 0 [.ref a0, .int ((nI 48) + (x1 / (nI 10)))] [] ((n, z, kd), I, J, F) fun v3 s4 => v3 = none ∧ ¬ (nI 10) = 0 ∧ ((s4.1.2.2 a0).1 = 4 ∧ R d mX4_write 0 [.ref a0, .int ((nI 48) + (x1 - x1 / (nI 10) * (nI 10)))] [] s4 fun v5 s6 => v5 = none ∧ Q none s6))))) :
    R (d + 1) mX4_writeNumber 0 [.ref a0, .int x1] [] ((n, z, kd), I, J, F) Q := hR.go [] 19 h
end
section
/-! BLOCKS: Walks, Image (written by wip/whole/blocks.py) -/
set_option maxRecDepth 100000 in
theorem BX7_search_0 {R : azP} (hR : azClosed R) {d n z : Nat} {kd : azK} {I : azI} {J : azJ} {F : azR} {Q : azQ} {a0 a1 a2 a3 : Nat}
    (h : ((kd a0).1 = 7 ∧ zOf (F a0 0) fun b1 => (((kd b1).1 = 13 ∨ (kd b1).1 = 14) ∧ vp_in (nI 0) (kd b1).2 ∧ zOp (F b1 ((nI 0).toNatClampNeg)) (fun b2 => ((kd b2).1 = 3 ∧ R d mX3_copy 0 [.ref b2, .ref a1, .retAddr 0] [] ((n, z, kd), I, J, F) fun v3 s4 => v3 = none ∧ ((s4.1.2.2 a0).1 = 7 ∧ zOf (s4.2.2.2 a0 2) fun b5 => ((s4.1.2.2 b5).1 = 10 ∧ vp_in (nI 0) (s4.1.2.2 b5).2 ∧ ((s4.1.2.2 a0).1 = 7 ∧ zOf (s4.2.2.2 a0 3) fun b6 => ((s4.1.2.2 b6).1 = 10 ∧ vp_in (nI 0) (s4.1.2.2 b6).2 ∧ ((s4.1.2.2 a0).1 = 7 ∧ R (d + 1) mX7_search 32 [.ref a0, .ref a1, .ref a2, .ref a3, .int (nI 0), .retAddr 0] [] ((s4.1), (azUp ((azUp ((azUp s4.2.1 b5 ((nI 0).toNatClampNeg) (-(nI 1)))) b6 ((nI 0).toNatClampNeg) (-(nI 1)))) a0 7 (nI 1)), s4.2.2.1, s4.2.2.2) Q))))))) (False)))) :
    R (d + 1) mX7_search 0 [.ref a0, .ref a1, .ref a2, .ref a3, .retAddr 0, .retAddr 0] [] ((n, z, kd), I, J, F) Q := hR.go [32, 59] 23 h
theorem BX7_search_32 {R : azP} (hR : azClosed R) {d n z : Nat} {kd : azK} {I : azI} {J : azJ} {F : azR} {Q : azQ} {a0 a1 a2 a3 : Nat} {x4 : Int32} {w5 : Value}
    (h : ((kd a0).1 = 7 ∧ (((I a0 7) ≤ x4 → Q none ((n, z, kd), I, J, F)) ∧ (¬ ((I a0 7) ≤ x4) → (((nI 60) ≤ x4 → Q none ((n, z, kd), I, J, F)) ∧ (¬ ((nI 60) ≤ x4) → ((kd a0).1 = 7 ∧ zOf (F a0 4) fun b1 => ((kd b1).1 = 10 ∧ vp_in x4 (kd b1).2 ∧ R (d + 1) mX7_search 59 [.ref a0, .ref a1, .ref a2, .ref a3, .int x4, .int (nI 0)] [] ((n, z, kd), (azUp I b1 x4.toNatClampNeg (nI 0)), J, F) Q)))))))) :
    R (d + 1) mX7_search 32 [.ref a0, .ref a1, .ref a2, .ref a3, .int x4, w5] [] ((n, z, kd), I, J, F) Q := hR.go [32, 59] 16 h
set_option maxRecDepth 100000 in
theorem BX7_search_59 {R : azP} (hR : azClosed R) {d n z : Nat} {kd : azK} {I : azI} {J : azJ} {F : azR} {Q : azQ} {a0 a1 a2 a3 : Nat} {x4 x5 : Int32}
    (h : (((nI 10) ≤ x5 → R (d + 1) mX7_search 32 [.ref a0, .ref a1, .ref a2, .ref a3, .int (x4 + (nI 1)), .int x5] [] ((n, z, kd), I, J, F) Q) ∧ (¬ ((nI 10) ≤ x5) → (((10 ≤ (kd a2).1 ∧ (kd a2).1 ≤ 15) ∨ (kd a2).1 = 17) ∧ (((nI (kd a2).2) ≤ x5 → R (d + 1) mX7_search 32 [.ref a0, .ref a1, .ref a2, .ref a3, .int (x4 + (nI 1)), .int x5] [] ((n, z, kd), I, J, F) Q) ∧ (¬ ((nI (kd a2).2) ≤ x5) → ((kd a0).1 = 7 ∧ zOf (F a0 5) fun b1 => ((kd b1).1 = 10 ∧ vp_in ((x4 * (nI 10)) + x5) (kd b1).2 ∧ (((kd a2).1 = 13 ∨ (kd a2).1 = 14) ∧ vp_in x5 (kd a2).2 ∧ zOp (F a2 x5.toNatClampNeg) (fun b2 => ((kd a0).1 = 7 ∧ zOf (F a0 0) fun b3 => (((kd b3).1 = 13 ∨ (kd b3).1 = 14) ∧ vp_in x4 (kd b3).2 ∧ zOp (F b3 x4.toNatClampNeg) (fun b4 => ((kd a0).1 = 7 ∧ zOf (F a0 1) fun b5 => ((kd a3).1 = 1 ∧ R d mX1_goes 0 [.ref a3, .ref b2, .ref b4, .ref b5, .retAddr 0, .retAddr 0, .retAddr 0] [] ((n, z, kd), (azUp I b1 (((x4 * (nI 10)) + x5).toNatClampNeg) (-(nI 1))), J, F) fun v6 s7 => kI v6 fun r8 => ((r8 = 0 → R (d + 1) mX7_search 59 [.ref a0, .ref a1, .ref a2, .ref a3, .int x4, .int (x5 + (nI 1))] [] s7 Q) ∧ (¬ (r8 = 0) → ((s7.1.2.2 a0).1 = 7 ∧ zOf (s7.2.2.2 a0 4) fun b9 => (((s7.1.2.2 b9).1 = 10 ∨ (s7.1.2.2 b9).1 = 15) ∧ vp_in x4 (s7.1.2.2 b9).2 ∧ ((s7.1.2.2 b9).1 = 10 ∧ vp_in x4 (s7.1.2.2 b9).2 ∧ ((s7.1.2.2 a0).1 = 7 ∧ zOf (s7.2.2.2 a0 5) fun b10 => ((s7.1.2.2 a0).1 = 7 ∧ R d mX7_numberOfNext 0 [.ref a0, .int x4, .int x5, .retAddr 0] [] ((s7.1), (azUp s7.2.1 b9 x4.toNatClampNeg ((s7.2.1 b9 x4.toNatClampNeg) ||| ((nI 1) <<< (x5 &&& 31)))), s7.2.2.1, s7.2.2.2) fun v11 s12 => kI v11 fun r13 => ((s12.1.2.2 b10).1 = 10 ∧ vp_in ((x4 * (nI 10)) + x5) (s12.1.2.2 b10).2 ∧ R (d + 1) mX7_search 59 [.ref a0, .ref a1, .ref a2, .ref a3, .int x4, .int (x5 + (nI 1))] [] ((s12.1), (azUp s12.2.1 b10 (((x4 * (nI 10)) + x5).toNatClampNeg) r13), s12.2.2.1, s12.2.2.2) Q))))))))))) (((kd a0).1 = 7 ∧ zOf (F a0 1) fun b14 => ((kd a3).1 = 1 ∧ R d mX1_goes 0 [.ref a3, .ref b2, .null, .ref b14, .retAddr 0, .retAddr 0, .retAddr 0] [] ((n, z, kd), (azUp I b1 (((x4 * (nI 10)) + x5).toNatClampNeg) (-(nI 1))), J, F) fun v15 s16 => kI v15 fun r17 => ((r17 = 0 → R (d + 1) mX7_search 59 [.ref a0, .ref a1, .ref a2, .ref a3, .int x4, .int (x5 + (nI 1))] [] s16 Q) ∧ (¬ (r17 = 0) → ((s16.1.2.2 a0).1 = 7 ∧ zOf (s16.2.2.2 a0 4) fun b18 => (((s16.1.2.2 b18).1 = 10 ∨ (s16.1.2.2 b18).1 = 15) ∧ vp_in x4 (s16.1.2.2 b18).2 ∧ ((s16.1.2.2 b18).1 = 10 ∧ vp_in x4 (s16.1.2.2 b18).2 ∧ ((s16.1.2.2 a0).1 = 7 ∧ zOf (s16.2.2.2 a0 5) fun b19 => ((s16.1.2.2 a0).1 = 7 ∧ R d mX7_numberOfNext 0 [.ref a0, .int x4, .int x5, .retAddr 0] [] ((s16.1), (azUp s16.2.1 b18 x4.toNatClampNeg ((s16.2.1 b18 x4.toNatClampNeg) ||| ((nI 1) <<< (x5 &&& 31)))), s16.2.2.1, s16.2.2.2) fun v20 s21 => kI v20 fun r22 => ((s21.1.2.2 b19).1 = 10 ∧ vp_in ((x4 * (nI 10)) + x5) (s21.1.2.2 b19).2 ∧ R (d + 1) mX7_search 59 [.ref a0, .ref a1, .ref a2, .ref a3, .int x4, .int (x5 + (nI 1))] [] ((s21.1), (azUp s21.2.1 b19 (((x4 * (nI 10)) + x5).toNatClampNeg) r22), s21.2.2.1, s21.2.2.2) Q)))))))))))))) (((kd a0).1 = 7 ∧ zOf (F a0 0) fun b23 => (((kd b23).1 = 13 ∨ (kd b23).1 = 14) ∧ vp_in x4 (kd b23).2 ∧ zOp (F b23 x4.toNatClampNeg) (fun b24 => ((kd a0).1 = 7 ∧ zOf (F a0 1) fun b25 => ((kd a3).1 = 1 ∧ R d mX1_goes 0 [.ref a3, .null, .ref b24, .ref b25, .retAddr 0, .retAddr 0, .retAddr 0] [] ((n, z, kd), (azUp I b1 (((x4 * (nI 10)) + x5).toNatClampNeg) (-(nI 1))), J, F) fun v26 s27 => kI v26 fun r28 => ((r28 = 0 → R (d + 1) mX7_search 59 [.ref a0, .ref a1, .ref a2, .ref a3, .int x4, .int (x5 + (nI 1))] [] s27 Q) ∧ (¬ (r28 = 0) → ((s27.1.2.2 a0).1 = 7 ∧ zOf (s27.2.2.2 a0 4) fun b29 => (((s27.1.2.2 b29).1 = 10 ∨ (s27.1.2.2 b29).1 = 15) ∧ vp_in x4 (s27.1.2.2 b29).2 ∧ ((s27.1.2.2 b29).1 = 10 ∧ vp_in x4 (s27.1.2.2 b29).2 ∧ ((s27.1.2.2 a0).1 = 7 ∧ zOf (s27.2.2.2 a0 5) fun b30 => ((s27.1.2.2 a0).1 = 7 ∧ R d mX7_numberOfNext 0 [.ref a0, .int x4, .int x5, .retAddr 0] [] ((s27.1), (azUp s27.2.1 b29 x4.toNatClampNeg ((s27.2.1 b29 x4.toNatClampNeg) ||| ((nI 1) <<< (x5 &&& 31)))), s27.2.2.1, s27.2.2.2) fun v31 s32 => kI v31 fun r33 => ((s32.1.2.2 b30).1 = 10 ∧ vp_in ((x4 * (nI 10)) + x5) (s32.1.2.2 b30).2 ∧ R (d + 1) mX7_search 59 [.ref a0, .ref a1, .ref a2, .ref a3, .int x4, .int (x5 + (nI 1))] [] ((s32.1), (azUp s32.2.1 b30 (((x4 * (nI 10)) + x5).toNatClampNeg) r33), s32.2.2.1, s32.2.2.2) Q))))))))))) (((kd a0).1 = 7 ∧ zOf (F a0 1) fun b34 => ((kd a3).1 = 1 ∧ R d mX1_goes 0 [.ref a3, .null, .null, .ref b34, .retAddr 0, .retAddr 0, .retAddr 0] [] ((n, z, kd), (azUp I b1 (((x4 * (nI 10)) + x5).toNatClampNeg) (-(nI 1))), J, F) fun v35 s36 => kI v35 fun r37 => ((r37 = 0 → R (d + 1) mX7_search 59 [.ref a0, .ref a1, .ref a2, .ref a3, .int x4, .int (x5 + (nI 1))] [] s36 Q) ∧ (¬ (r37 = 0) → ((s36.1.2.2 a0).1 = 7 ∧ zOf (s36.2.2.2 a0 4) fun b38 => (((s36.1.2.2 b38).1 = 10 ∨ (s36.1.2.2 b38).1 = 15) ∧ vp_in x4 (s36.1.2.2 b38).2 ∧ ((s36.1.2.2 b38).1 = 10 ∧ vp_in x4 (s36.1.2.2 b38).2 ∧ ((s36.1.2.2 a0).1 = 7 ∧ zOf (s36.2.2.2 a0 5) fun b39 => ((s36.1.2.2 a0).1 = 7 ∧ R d mX7_numberOfNext 0 [.ref a0, .int x4, .int x5, .retAddr 0] [] ((s36.1), (azUp s36.2.1 b38 x4.toNatClampNeg ((s36.2.1 b38 x4.toNatClampNeg) ||| ((nI 1) <<< (x5 &&& 31)))), s36.2.2.1, s36.2.2.2) fun v40 s41 => kI v40 fun r42 => ((s41.1.2.2 b39).1 = 10 ∧ vp_in ((x4 * (nI 10)) + x5) (s41.1.2.2 b39).2 ∧ R (d + 1) mX7_search 59 [.ref a0, .ref a1, .ref a2, .ref a3, .int x4, .int (x5 + (nI 1))] [] ((s41.1), (azUp s41.2.1 b39 (((x4 * (nI 10)) + x5).toNatClampNeg) r42), s41.2.2.1, s41.2.2.2) Q))))))))))))))))))))))) :
    R (d + 1) mX7_search 59 [.ref a0, .ref a1, .ref a2, .ref a3, .int x4, .int x5] [] ((n, z, kd), I, J, F) Q := hR.go [32, 59] 54 h
theorem BX7_numberOfNext_0 {R : azP} (hR : azClosed R) {d n z : Nat} {kd : azK} {I : azI} {J : azJ} {F : azR} {Q : azQ} {a0 : Nat} {x1 x2 : Int32}
    (h : R (d + 1) mX7_numberOfNext 2 [.ref a0, .int x1, .int x2, .int (nI 0)] [] ((n, z, kd), I, J, F) Q) :
    R (d + 1) mX7_numberOfNext 0 [.ref a0, .int x1, .int x2, .retAddr 0] [] ((n, z, kd), I, J, F) Q := hR.go [2, 40] 4 h
set_option maxRecDepth 100000 in
theorem BX7_numberOfNext_2 {R : azP} (hR : azClosed R) {d n z : Nat} {kd : azK} {I : azI} {J : azJ} {F : azR} {Q : azQ} {a0 : Nat} {x1 x2 x3 : Int32}
    (h : ((kd a0).1 = 7 ∧ (((I a0 7) ≤ x3 → R (d + 1) mX7_numberOfNext 40 [.ref a0, .int x1, .int x2, .int x3] [] ((n, z, kd), I, J, F) Q) ∧ (¬ ((I a0 7) ≤ x3) → (((nI 60) ≤ x3 → R (d + 1) mX7_numberOfNext 40 [.ref a0, .int x1, .int x2, .int x3] [] ((n, z, kd), I, J, F) Q) ∧ (¬ ((nI 60) ≤ x3) → ((kd a0).1 = 7 ∧ zOf (F a0 0) fun b1 => (((kd b1).1 = 13 ∨ (kd b1).1 = 14) ∧ vp_in x3 (kd b1).2 ∧ zOp (F b1 x3.toNatClampNeg) (fun b2 => ((kd a0).1 = 7 ∧ zOf (F a0 1) fun b3 => ((kd b2).1 = 3 ∧ R d mX3_isLike 0 [.ref b2, .ref b3, .retAddr 0, .retAddr 0] [] ((n, z, kd), I, J, F) fun v4 s5 => kI v4 fun r6 => ((r6 = 0 → R (d + 1) mX7_numberOfNext 2 [.ref a0, .int x1, .int x2, .int (x3 + (nI 1))] [] s5 Q) ∧ (¬ (r6 = 0) → Q (some (.int x3)) s5))))) (((kd a0).1 = 7 ∧ zOf (F a0 1) fun b7 => False)))))))))) :
    R (d + 1) mX7_numberOfNext 2 [.ref a0, .int x1, .int x2, .int x3] [] ((n, z, kd), I, J, F) Q := hR.go [2, 40] 19 h
set_option maxRecDepth 100000 in
theorem BX7_numberOfNext_40 {R : azP} (hR : azClosed R) {d n z : Nat} {kd : azK} {I : azI} {J : azJ} {F : azR} {Q : azQ} {a0 : Nat} {x1 x2 x3 : Int32}
    (h : ((kd a0).1 = 7 ∧ (((I a0 7) < (nI 60) → ((kd a0).1 = 7 ∧ zOf (F a0 0) fun b1 => ((kd a0).1 = 7 ∧ (((kd b1).1 = 13 ∨ (kd b1).1 = 14) ∧ vp_in (I a0 7) (kd b1).2 ∧ zOp (F b1 ((I a0 7).toNatClampNeg)) (fun b2 => ((kd a0).1 = 7 ∧ zOf (F a0 1) fun b3 => ((kd b2).1 = 3 ∧ R d mX3_copy 0 [.ref b2, .ref b3, .retAddr 0] [] ((n, z, kd), I, J, F) fun v4 s5 => v4 = none ∧ ((s5.1.2.2 a0).1 = 7 ∧ zOf (s5.2.2.2 a0 2) fun b6 => ((s5.1.2.2 a0).1 = 7 ∧ ((s5.1.2.2 b6).1 = 10 ∧ vp_in (s5.2.1 a0 7) (s5.1.2.2 b6).2 ∧ ((s5.1.2.2 a0).1 = 7 ∧ zOf (s5.2.2.2 a0 3) fun b7 => ((s5.1.2.2 a0).1 = 7 ∧ ((s5.1.2.2 b7).1 = 10 ∧ vp_in ((azUp s5.2.1 b6 ((s5.2.1 a0 7).toNatClampNeg) x1) a0 7) (s5.1.2.2 b7).2 ∧ ((s5.1.2.2 a0).1 = 7 ∧ ((s5.1.2.2 a0).1 = 7 ∧ ((s5.1.2.2 a0).1 = 7 ∧ Q (some (.int (((azUp ((azUp ((azUp s5.2.1 b6 ((s5.2.1 a0 7).toNatClampNeg) x1)) b7 (((azUp s5.2.1 b6 ((s5.2.1 a0 7).toNatClampNeg) x1) a0 7).toNatClampNeg) x2)) a0 7 (((azUp ((azUp s5.2.1 b6 ((s5.2.1 a0 7).toNatClampNeg) x1)) b7 (((azUp s5.2.1 b6 ((s5.2.1 a0 7).toNatClampNeg) x1) a0 7).toNatClampNeg) x2) a0 7) + (nI 1))) a0 7) - (nI 1)))) ((s5.1), (azUp ((azUp ((azUp s5.2.1 b6 ((s5.2.1 a0 7).toNatClampNeg) x1)) b7 (((azUp s5.2.1 b6 ((s5.2.1 a0 7).toNatClampNeg) x1) a0 7).toNatClampNeg) x2)) a0 7 (((azUp ((azUp s5.2.1 b6 ((s5.2.1 a0 7).toNatClampNeg) x1)) b7 (((azUp s5.2.1 b6 ((s5.2.1 a0 7).toNatClampNeg) x1) a0 7).toNatClampNeg) x2) a0 7) + (nI 1))), s5.2.2.1, s5.2.2.2))))))))))))) (((kd a0).1 = 7 ∧ zOf (F a0 1) fun b8 => False)))))) ∧ (¬ ((I a0 7) < (nI 60)) → Q (some (.int (-(nI 1)))) ((n, z, kd), I, J, F))))) :
    R (d + 1) mX7_numberOfNext 40 [.ref a0, .int x1, .int x2, .int x3] [] ((n, z, kd), I, J, F) Q := hR.go [2, 40] 36 h
theorem BX7_among_0 {R : azP} (hR : azClosed R) {d n z : Nat} {kd : azK} {I : azI} {J : azJ} {F : azR} {Q : azQ} {a0 : Nat} {x1 : Int32}
    (h : ((kd a0).1 = 7 ∧ (R d mJ9_min_7cf53 0 [.int (I a0 7), .int (nI 60)] [] ((n, z, kd), I, J, F) fun v1 s2 => kI v1 fun r3 => (R d mJ9_min_7cf53 0 [.int x1, .int r3] [] s2 fun v4 s5 => kI v4 fun r6 => Q (some (.int r6)) s5)))) :
    R (d + 1) mX7_among 0 [.ref a0, .int x1] [] ((n, z, kd), I, J, F) Q := hR.go [] 8 h
theorem BX7_countIn_0 {R : azP} (hR : azClosed R) {d n z : Nat} {kd : azK} {I : azI} {J : azJ} {F : azR} {Q : azQ} {a0 : Nat} {x1 x2 : Int32}
    (h : ((x1 < 0 → Q (some (.int (nI 0))) ((n, z, kd), I, J, F)) ∧ (¬ (x1 < 0) → ((kd a0).1 = 7 ∧ (((I a0 7) ≤ x1 → Q (some (.int (nI 0))) ((n, z, kd), I, J, F)) ∧ (¬ ((I a0 7) ≤ x1) → (((nI 60) ≤ x1 → Q (some (.int (nI 0))) ((n, z, kd), I, J, F)) ∧ (¬ ((nI 60) ≤ x1) → ((kd a0).1 = 7 ∧ zOf (F a0 0) fun b1 => (((kd b1).1 = 13 ∨ (kd b1).1 = 14) ∧ vp_in x1 (kd b1).2 ∧ zOp (F b1 x1.toNatClampNeg) (fun b2 => ((kd b2).1 = 3 ∧ R d mX3_count 0 [.ref b2, .int x2] [] ((n, z, kd), I, J, F) fun v3 s4 => kI v3 fun r5 => Q (some (.int r5)) s4)) (False))))))))))) :
    R (d + 1) mX7_countIn 0 [.ref a0, .int x1, .int x2] [] ((n, z, kd), I, J, F) Q := hR.go [] 18 h
theorem BX7_fullest_0 {R : azP} (hR : azClosed R) {d n z : Nat} {kd : azK} {I : azI} {J : azJ} {F : azR} {Q : azQ} {a0 : Nat} {x1 x2 : Int32}
    (h : R (d + 1) mX7_fullest 5 [.ref a0, .int x1, .int x2, .int (nI 0), .int (nI 0)] [] ((n, z, kd), I, J, F) Q) :
    R (d + 1) mX7_fullest 0 [.ref a0, .int x1, .int x2, .retAddr 0, .retAddr 0] [] ((n, z, kd), I, J, F) Q := hR.go [5] 6 h
theorem BX7_fullest_5 {R : azP} (hR : azClosed R) {d n z : Nat} {kd : azK} {I : azI} {J : azJ} {F : azR} {Q : azQ} {a0 : Nat} {x1 x2 x3 x4 : Int32}
    (h : ((kd a0).1 = 7 ∧ R d mX7_among 0 [.ref a0, .int x2] [] ((n, z, kd), I, J, F) fun v1 s2 => kI v1 fun r3 => ((r3 ≤ x4 → Q (some (.int x3)) s2) ∧ (¬ (r3 ≤ x4) → ((s2.1.2.2 a0).1 = 7 ∧ R d mX7_countIn 0 [.ref a0, .int x4, .int x1] [] s2 fun v4 s5 => kI v4 fun r6 => (R d mJ9_max_7cf53 0 [.int x3, .int r6] [] s5 fun v7 s8 => kI v7 fun r9 => R (d + 1) mX7_fullest 5 [.ref a0, .int x1, .int x2, .int r9, .int (x4 + (nI 1))] [] s8 Q)))))) :
    R (d + 1) mX7_fullest 5 [.ref a0, .int x1, .int x2, .int x3, .int x4] [] ((n, z, kd), I, J, F) Q := hR.go [5] 16 h
theorem BX7_ableSomewhere_0 {R : azP} (hR : azClosed R) {d n z : Nat} {kd : azK} {I : azI} {J : azJ} {F : azR} {Q : azQ} {a0 : Nat} {x1 : Int32}
    (h : R (d + 1) mX7_ableSomewhere 4 [.ref a0, .int x1, .int (nI 0), .int (nI 0)] [] ((n, z, kd), I, J, F) Q) :
    R (d + 1) mX7_ableSomewhere 0 [.ref a0, .int x1, .retAddr 0, .retAddr 0] [] ((n, z, kd), I, J, F) Q := hR.go [4] 6 h
theorem BX7_ableSomewhere_4 {R : azP} (hR : azClosed R) {d n z : Nat} {kd : azK} {I : azI} {J : azJ} {F : azR} {Q : azQ} {a0 : Nat} {x1 x2 x3 : Int32}
    (h : ((kd a0).1 = 7 ∧ R d mX7_among 0 [.ref a0, .int x1] [] ((n, z, kd), I, J, F) fun v1 s2 => kI v1 fun r3 => ((r3 ≤ x3 → Q (some (.int x2)) s2) ∧ (¬ (r3 ≤ x3) → ((s2.1.2.2 a0).1 = 7 ∧ zOf (s2.2.2.2 a0 4) fun b4 => (((s2.1.2.2 b4).1 = 10 ∨ (s2.1.2.2 b4).1 = 15) ∧ vp_in x3 (s2.1.2.2 b4).2 ∧ R (d + 1) mX7_ableSomewhere 4 [.ref a0, .int x1, .int (x2 ||| (s2.2.1 b4 x3.toNatClampNeg)), .int (x3 + (nI 1))] [] s2 Q)))))) :
    R (d + 1) mX7_ableSomewhere 4 [.ref a0, .int x1, .int x2, .int x3] [] ((n, z, kd), I, J, F) Q := hR.go [4] 16 h
theorem BX7_countEnds_0 {R : azP} (hR : azClosed R) {d n z : Nat} {kd : azK} {I : azI} {J : azJ} {F : azR} {Q : azQ} {a0 : Nat} {x1 : Int32}
    (h : R (d + 1) mX7_countEnds 4 [.ref a0, .int x1, .int (nI 0), .int (nI 0)] [] ((n, z, kd), I, J, F) Q) :
    R (d + 1) mX7_countEnds 0 [.ref a0, .int x1, .retAddr 0, .retAddr 0] [] ((n, z, kd), I, J, F) Q := hR.go [4] 6 h
theorem BX7_countEnds_4 {R : azP} (hR : azClosed R) {d n z : Nat} {kd : azK} {I : azI} {J : azJ} {F : azR} {Q : azQ} {a0 : Nat} {x1 x2 x3 : Int32}
    (h : ((kd a0).1 = 7 ∧ R d mX7_among 0 [.ref a0, .int x1] [] ((n, z, kd), I, J, F) fun v1 s2 => kI v1 fun r3 => ((r3 ≤ x3 → Q (some (.int x2)) s2) ∧ (¬ (r3 ≤ x3) → ((s2.1.2.2 a0).1 = 7 ∧ R d mX7_countIn 0 [.ref a0, .int x3, .int (nI 9)] [] s2 fun v4 s5 => kI v4 fun r6 => ((r6 ≤ 0 → R (d + 1) mX7_countEnds 4 [.ref a0, .int x1, .int x2, .int (x3 + (nI 1))] [] s5 Q) ∧ (¬ (r6 ≤ 0) → R (d + 1) mX7_countEnds 4 [.ref a0, .int x1, .int (x2 + (nI 1)), .int (x3 + (nI 1))] [] s5 Q))))))) :
    R (d + 1) mX7_countEnds 4 [.ref a0, .int x1, .int x2, .int x3] [] ((n, z, kd), I, J, F) Q := hR.go [4] 15 h
theorem BX7_firstStuck_0 {R : azP} (hR : azClosed R) {d n z : Nat} {kd : azK} {I : azI} {J : azJ} {F : azR} {Q : azQ} {a0 : Nat} {x1 : Int32}
    (h : ((kd a0).1 = 7 ∧ R d mX7_among 0 [.ref a0, .int x1] [] ((n, z, kd), I, J, F) fun v1 s2 => kI v1 fun r3 => R (d + 1) mX7_firstStuck 8 [.ref a0, .int x1, .int r3, .int (nI 0)] [] s2 Q)) :
    R (d + 1) mX7_firstStuck 0 [.ref a0, .int x1, .retAddr 0, .retAddr 0] [] ((n, z, kd), I, J, F) Q := hR.go [8, 42, 66] 8 h
set_option maxRecDepth 100000 in
theorem BX7_firstStuck_8 {R : azP} (hR : azClosed R) {d n z : Nat} {kd : azK} {I : azI} {J : azJ} {F : azR} {Q : azQ} {a0 : Nat} {x1 x2 x3 : Int32}
    (h : ((x2 ≤ x3 → R (d + 1) mX7_firstStuck 42 [.ref a0, .int x1, .int x2, .int (nI 0)] [] ((n, z, kd), I, J, F) Q) ∧ (¬ (x2 ≤ x3) → ((kd a0).1 = 7 ∧ zOf (F a0 6) fun b1 => ((kd a0).1 = 7 ∧ R d mX7_countIn 0 [.ref a0, .int x3, .int (nI 9)] [] ((n, z, kd), I, J, F) fun v2 s3 => kI v2 fun r4 => ((r4 ≤ 0 → ((s3.1.2.2 b1).1 = 12 ∧ vp_in x3 (s3.1.2.2 b1).2 ∧ ((nI 0) = 0 ∨ (nI 0) = 1) ∧ R (d + 1) mX7_firstStuck 8 [.ref a0, .int x1, .int x2, .int (x3 + (nI 1))] [] ((s3.1), (azUp s3.2.1 b1 x3.toNatClampNeg (nI 0)), s3.2.2.1, s3.2.2.2) Q)) ∧ (¬ (r4 ≤ 0) → ((s3.1.2.2 b1).1 = 12 ∧ vp_in x3 (s3.1.2.2 b1).2 ∧ ((nI 1) = 0 ∨ (nI 1) = 1) ∧ R (d + 1) mX7_firstStuck 8 [.ref a0, .int x1, .int x2, .int (x3 + (nI 1))] [] ((s3.1), (azUp s3.2.1 b1 x3.toNatClampNeg (nI 1)), s3.2.2.1, s3.2.2.2) Q)))))))) :
    R (d + 1) mX7_firstStuck 8 [.ref a0, .int x1, .int x2, .int x3] [] ((n, z, kd), I, J, F) Q := hR.go [8, 42, 66] 18 h
theorem BX7_firstStuck_42 {R : azP} (hR : azClosed R) {d n z : Nat} {kd : azK} {I : azI} {J : azJ} {F : azR} {Q : azQ} {a0 : Nat} {x1 x2 x3 : Int32}
    (h : ((x2 ≤ x3 → R (d + 1) mX7_firstStuck 66 [.ref a0, .int x1, .int x2, .int (nI 0)] [] ((n, z, kd), I, J, F) Q) ∧ (¬ (x2 ≤ x3) → ((kd a0).1 = 7 ∧ R d mX7_spreadEnding 0 [.ref a0, .int x2, .retAddr 0, .retAddr 0] [] ((n, z, kd), I, J, F) fun v1 s2 => kI v1 fun r3 => ((¬ r3 = 0 → R (d + 1) mX7_firstStuck 42 [.ref a0, .int x1, .int x2, .int (x3 + (nI 1))] [] s2 Q) ∧ (¬ (¬ r3 = 0) → R (d + 1) mX7_firstStuck 66 [.ref a0, .int x1, .int x2, .int (nI 0)] [] s2 Q)))))) :
    R (d + 1) mX7_firstStuck 42 [.ref a0, .int x1, .int x2, .int x3] [] ((n, z, kd), I, J, F) Q := hR.go [8, 42, 66] 12 h
theorem BX7_firstStuck_66 {R : azP} (hR : azClosed R) {d n z : Nat} {kd : azK} {I : azI} {J : azJ} {F : azR} {Q : azQ} {a0 : Nat} {x1 x2 x3 : Int32}
    (h : ((x2 ≤ x3 → Q (some (.int (-(nI 5)))) ((n, z, kd), I, J, F)) ∧ (¬ (x2 ≤ x3) → ((kd a0).1 = 7 ∧ zOf (F a0 6) fun b1 => (((kd b1).1 = 12 ∨ (kd b1).1 = 17) ∧ vp_in x3 (kd b1).2 ∧ ((¬ (I b1 x3.toNatClampNeg) = 0 → R (d + 1) mX7_firstStuck 66 [.ref a0, .int x1, .int x2, .int (x3 + (nI 1))] [] ((n, z, kd), I, J, F) Q) ∧ (¬ (¬ (I b1 x3.toNatClampNeg) = 0) → Q (some (.int x3)) ((n, z, kd), I, J, F)))))))) :
    R (d + 1) mX7_firstStuck 66 [.ref a0, .int x1, .int x2, .int x3] [] ((n, z, kd), I, J, F) Q := hR.go [8, 42, 66] 12 h
theorem BX7_spreadEnding_0 {R : azP} (hR : azClosed R) {d n z : Nat} {kd : azK} {I : azI} {J : azJ} {F : azR} {Q : azQ} {a0 : Nat} {x1 : Int32}
    (h : R (d + 1) mX7_spreadEnding 4 [.ref a0, .int x1, .int (nI 0), .int (nI 0)] [] ((n, z, kd), I, J, F) Q) :
    R (d + 1) mX7_spreadEnding 0 [.ref a0, .int x1, .retAddr 0, .retAddr 0] [] ((n, z, kd), I, J, F) Q := hR.go [4] 6 h
set_option maxRecDepth 100000 in
theorem BX7_spreadEnding_4 {R : azP} (hR : azClosed R) {d n z : Nat} {kd : azK} {I : azI} {J : azJ} {F : azR} {Q : azQ} {a0 : Nat} {x1 x2 x3 : Int32}
    (h : ((x1 ≤ x3 → ((x2 = 0 ∨ x2 = 1) ∧ Q (some (.int x2)) ((n, z, kd), I, J, F))) ∧ (¬ (x1 ≤ x3) → ((kd a0).1 = 7 ∧ zOf (F a0 6) fun b1 => (((kd b1).1 = 12 ∨ (kd b1).1 = 17) ∧ vp_in x3 (kd b1).2 ∧ ((¬ (I b1 x3.toNatClampNeg) = 0 → R (d + 1) mX7_spreadEnding 4 [.ref a0, .int x1, .int x2, .int (x3 + (nI 1))] [] ((n, z, kd), I, J, F) Q) ∧ (¬ (¬ (I b1 x3.toNatClampNeg) = 0) → ((kd a0).1 = 7 ∧ R d mX7_leadsToEnding 0 [.ref a0, .int x3, .int x1, .retAddr 0, .retAddr 0] [] ((n, z, kd), I, J, F) fun v2 s3 => kI v2 fun r4 => ((r4 = 0 → R (d + 1) mX7_spreadEnding 4 [.ref a0, .int x1, .int x2, .int (x3 + (nI 1))] [] s3 Q) ∧ (¬ (r4 = 0) → ((s3.1.2.2 a0).1 = 7 ∧ zOf (s3.2.2.2 a0 6) fun b5 => ((s3.1.2.2 b5).1 = 12 ∧ vp_in x3 (s3.1.2.2 b5).2 ∧ ((nI 1) = 0 ∨ (nI 1) = 1) ∧ R (d + 1) mX7_spreadEnding 4 [.ref a0, .int x1, .int (nI 1), .int (x3 + (nI 1))] [] ((s3.1), (azUp s3.2.1 b5 x3.toNatClampNeg (nI 1)), s3.2.2.1, s3.2.2.2) Q)))))))))))) :
    R (d + 1) mX7_spreadEnding 4 [.ref a0, .int x1, .int x2, .int x3] [] ((n, z, kd), I, J, F) Q := hR.go [4] 24 h
theorem BX7_leadsToEnding_0 {R : azP} (hR : azClosed R) {d n z : Nat} {kd : azK} {I : azI} {J : azJ} {F : azR} {Q : azQ} {a0 : Nat} {x1 x2 : Int32}
    (h : R d mX7_leadsToEnding 2 [.ref a0, .int x1, .int x2, .int (nI 0), .retAddr 0] [] ((n, z, kd), I, J, F) Q) :
    R d mX7_leadsToEnding 0 [.ref a0, .int x1, .int x2, .retAddr 0, .retAddr 0] [] ((n, z, kd), I, J, F) Q := hR.go [2] 4 h
set_option maxRecDepth 100000 in
theorem BX7_leadsToEnding_2 {R : azP} (hR : azClosed R) {d n z : Nat} {kd : azK} {I : azI} {J : azJ} {F : azR} {Q : azQ} {a0 : Nat} {x1 x2 x3 : Int32} {w4 : Value}
    (h : (((nI 10) ≤ x3 → (((nI 0) = 0 ∨ (nI 0) = 1) ∧ Q (some (.int (nI 0))) ((n, z, kd), I, J, F))) ∧ (¬ ((nI 10) ≤ x3) → ((kd a0).1 = 7 ∧ zOf (F a0 5) fun b1 => (((kd b1).1 = 10 ∨ (kd b1).1 = 15) ∧ vp_in ((x1 * (nI 10)) + x3) (kd b1).2 ∧ (((I b1 (((x1 * (nI 10)) + x3).toNatClampNeg)) < 0 → R d mX7_leadsToEnding 2 [.ref a0, .int x1, .int x2, .int (x3 + (nI 1)), .int (I b1 (((x1 * (nI 10)) + x3).toNatClampNeg))] [] ((n, z, kd), I, J, F) Q) ∧ (¬ ((I b1 (((x1 * (nI 10)) + x3).toNatClampNeg)) < 0) → ((x2 ≤ (I b1 (((x1 * (nI 10)) + x3).toNatClampNeg)) → R d mX7_leadsToEnding 2 [.ref a0, .int x1, .int x2, .int (x3 + (nI 1)), .int (I b1 (((x1 * (nI 10)) + x3).toNatClampNeg))] [] ((n, z, kd), I, J, F) Q) ∧ (¬ (x2 ≤ (I b1 (((x1 * (nI 10)) + x3).toNatClampNeg))) → ((kd a0).1 = 7 ∧ zOf (F a0 6) fun b2 => (((kd b2).1 = 12 ∨ (kd b2).1 = 17) ∧ vp_in (I b1 (((x1 * (nI 10)) + x3).toNatClampNeg)) (kd b2).2 ∧ (((I b2 ((I b1 (((x1 * (nI 10)) + x3).toNatClampNeg)).toNatClampNeg)) = 0 → R d mX7_leadsToEnding 2 [.ref a0, .int x1, .int x2, .int (x3 + (nI 1)), .int (I b1 (((x1 * (nI 10)) + x3).toNatClampNeg))] [] ((n, z, kd), I, J, F) Q) ∧ (¬ ((I b2 ((I b1 (((x1 * (nI 10)) + x3).toNatClampNeg)).toNatClampNeg)) = 0) → (((nI 1) = 0 ∨ (nI 1) = 1) ∧ Q (some (.int (nI 1))) ((n, z, kd), I, J, F))))))))))))))) :
    R d mX7_leadsToEnding 2 [.ref a0, .int x1, .int x2, .int x3, w4] [] ((n, z, kd), I, J, F) Q := hR.go [2] 26 h
theorem BX7_steps_0 {R : azP} (hR : azClosed R) {d n z : Nat} {kd : azK} {I : azI} {J : azJ} {F : azR} {Q : azQ} {a0 : Nat} {x1 : Int32}
    (h : R d mX7_steps 7 [.ref a0, .int x1, .int (nI 0), .int x1, .int (nI 0)] [] ((n, z, kd), I, J, F) Q) :
    R d mX7_steps 0 [.ref a0, .int x1, .retAddr 0, .retAddr 0, .retAddr 0] [] ((n, z, kd), I, J, F) Q := hR.go [7] 8 h
theorem BX7_steps_7 {R : azP} (hR : azClosed R) {d n z : Nat} {kd : azK} {I : azI} {J : azJ} {F : azR} {Q : azQ} {a0 : Nat} {x1 x2 x3 x4 : Int32}
    (h : (((nI 60) ≤ x4 → Q (some (.int x2)) ((n, z, kd), I, J, F)) ∧ (¬ ((nI 60) ≤ x4) → ((x3 ≤ 0 → Q (some (.int x2)) ((n, z, kd), I, J, F)) ∧ (¬ (x3 ≤ 0) → (((nI 60) ≤ x3 → Q (some (.int x2)) ((n, z, kd), I, J, F)) ∧ (¬ ((nI 60) ≤ x3) → ((kd a0).1 = 7 ∧ zOf (F a0 2) fun b1 => (((kd b1).1 = 10 ∨ (kd b1).1 = 15) ∧ vp_in x3 (kd b1).2 ∧ R d mX7_steps 7 [.ref a0, .int x1, .int (x2 + (nI 1)), .int (I b1 x3.toNatClampNeg), .int (x4 + (nI 1))] [] ((n, z, kd), I, J, F) Q))))))))) :
    R d mX7_steps 7 [.ref a0, .int x1, .int x2, .int x3, .int x4] [] ((n, z, kd), I, J, F) Q := hR.go [7] 18 h
theorem BX7_step_0 {R : azP} (hR : azClosed R) {d n z : Nat} {kd : azK} {I : azI} {J : azJ} {F : azR} {Q : azQ} {a0 : Nat} {x1 x2 : Int32}
    (h : R d mX7_step 5 [.ref a0, .int x1, .int x2, .int x1, .int (nI 0)] [] ((n, z, kd), I, J, F) Q) :
    R d mX7_step 0 [.ref a0, .int x1, .int x2, .retAddr 0, .retAddr 0] [] ((n, z, kd), I, J, F) Q := hR.go [5, 34] 6 h
theorem BX7_step_5 {R : azP} (hR : azClosed R) {d n z : Nat} {kd : azK} {I : azI} {J : azJ} {F : azR} {Q : azQ} {a0 : Nat} {x1 x2 x3 x4 : Int32}
    (h : ((x2 ≤ x4 → R d mX7_step 34 [.ref a0, .int x1, .int x2, .int x3, .int x4] [] ((n, z, kd), I, J, F) Q) ∧ (¬ (x2 ≤ x4) → ((x3 ≤ 0 → R d mX7_step 34 [.ref a0, .int x1, .int x2, .int x3, .int x4] [] ((n, z, kd), I, J, F) Q) ∧ (¬ (x3 ≤ 0) → (((nI 60) ≤ x3 → R d mX7_step 34 [.ref a0, .int x1, .int x2, .int x3, .int x4] [] ((n, z, kd), I, J, F) Q) ∧ (¬ ((nI 60) ≤ x3) → ((kd a0).1 = 7 ∧ zOf (F a0 2) fun b1 => (((kd b1).1 = 10 ∨ (kd b1).1 = 15) ∧ vp_in x3 (kd b1).2 ∧ R d mX7_step 5 [.ref a0, .int x1, .int x2, .int (I b1 x3.toNatClampNeg), .int (x4 + (nI 1))] [] ((n, z, kd), I, J, F) Q))))))))) :
    R d mX7_step 5 [.ref a0, .int x1, .int x2, .int x3, .int x4] [] ((n, z, kd), I, J, F) Q := hR.go [5, 34] 17 h
theorem BX7_step_34 {R : azP} (hR : azClosed R) {d n z : Nat} {kd : azK} {I : azI} {J : azJ} {F : azR} {Q : azQ} {a0 : Nat} {x1 x2 x3 x4 : Int32}
    (h : ((x3 ≤ 0 → Q (some (.int (-(nI 1)))) ((n, z, kd), I, J, F)) ∧ (¬ (x3 ≤ 0) → (((nI 60) ≤ x3 → Q (some (.int (-(nI 1)))) ((n, z, kd), I, J, F)) ∧ (¬ ((nI 60) ≤ x3) → ((kd a0).1 = 7 ∧ zOf (F a0 3) fun b1 => (((kd b1).1 = 10 ∨ (kd b1).1 = 15) ∧ vp_in x3 (kd b1).2 ∧ Q (some (.int (I b1 x3.toNatClampNeg))) ((n, z, kd), I, J, F)))))))) :
    R d mX7_step 34 [.ref a0, .int x1, .int x2, .int x3, .int x4] [] ((n, z, kd), I, J, F) Q := hR.go [5, 34] 12 h
theorem BX2_keep_0 {R : azP} (hR : azClosed R) {d n z : Nat} {kd : azK} {I : azI} {J : azJ} {F : azR} {Q : azQ} {a0 a1 a2 : Nat} {x3 : Int32}
    (h : ((kd a0).1 = 2 ∧ zOf (F a0 0) fun b1 => ((kd b1).1 = 3 ∧ R d mX3_copy 0 [.ref b1, .ref a1, .retAddr 0] [] ((n, z, kd), I, J, F) fun v2 s3 => v2 = none ∧ R (d + 1) mX2_keep 11 [.ref a0, .ref a1, .ref a2, .int x3, .int (nI 0)] [] s3 Q))) :
    R (d + 1) mX2_keep 0 [.ref a0, .ref a1, .ref a2, .int x3, .retAddr 0] [] ((n, z, kd), I, J, F) Q := hR.go [11] 8 h
set_option maxRecDepth 100000 in
theorem BX2_keep_11 {R : azP} (hR : azClosed R) {d n z : Nat} {kd : azK} {I : azI} {J : azJ} {F : azR} {Q : azQ} {a0 a1 a2 : Nat} {x3 x4 : Int32}
    (h : (((nI 10) ≤ x4 → ((kd a0).1 = 2 ∧ ((kd a0).1 = 2 ∧ ((nI 1) = 0 ∨ (nI 1) = 1) ∧ Q none ((n, z, kd), (azUp ((azUp I a0 2 x3)) a0 3 (nI 1)), J, F)))) ∧ (¬ ((nI 10) ≤ x4) → (((10 ≤ (kd a2).1 ∧ (kd a2).1 ≤ 15) ∨ (kd a2).1 = 17) ∧ (((nI (kd a2).2) ≤ x4 → ((kd a0).1 = 2 ∧ ((kd a0).1 = 2 ∧ ((nI 1) = 0 ∨ (nI 1) = 1) ∧ Q none ((n, z, kd), (azUp ((azUp I a0 2 x3)) a0 3 (nI 1)), J, F)))) ∧ (¬ ((nI (kd a2).2) ≤ x4) → ((kd a0).1 = 2 ∧ zOf (F a0 1) fun b1 => (((kd a2).1 = 13 ∨ (kd a2).1 = 14) ∧ vp_in x4 (kd a2).2 ∧ zOp (F a2 x4.toNatClampNeg) (fun b2 => ((((kd b1).1 = 13 ∧ (kd b2).1 = 3) ∨ ((kd b1).1 = 14 ∧ (kd b2).1 = 5)) ∧ vp_in x4 (kd b1).2 ∧ R (d + 1) mX2_keep 11 [.ref a0, .ref a1, .ref a2, .int x3, .int (x4 + (nI 1))] [] ((n, z, kd), I, J, (azUp F b1 x4.toNatClampNeg (some b2))) Q)) ((((kd b1).1 = 13 ∨ (kd b1).1 = 14) ∧ vp_in x4 (kd b1).2 ∧ R (d + 1) mX2_keep 11 [.ref a0, .ref a1, .ref a2, .int x3, .int (x4 + (nI 1))] [] ((n, z, kd), I, J, (azUp F b1 x4.toNatClampNeg none)) Q)))))))))) :
    R (d + 1) mX2_keep 11 [.ref a0, .ref a1, .ref a2, .int x3, .int x4] [] ((n, z, kd), I, J, F) Q := hR.go [11] 18 h
theorem BX2_giveBack_0 {R : azP} (hR : azClosed R) {d n z : Nat} {kd : azK} {I : azI} {J : azJ} {F : azR} {Q : azQ} {a0 a1 a2 : Nat}
    (h : ((kd a0).1 = 2 ∧ zOf (F a0 0) fun b1 => ((kd a1).1 = 3 ∧ R d mX3_copy 0 [.ref a1, .ref b1, .retAddr 0] [] ((n, z, kd), I, J, F) fun v2 s3 => v2 = none ∧ R (d + 1) mX2_giveBack 10 [.ref a0, .ref a1, .ref a2, .int (nI 0)] [] s3 Q))) :
    R (d + 1) mX2_giveBack 0 [.ref a0, .ref a1, .ref a2, .retAddr 0] [] ((n, z, kd), I, J, F) Q := hR.go [10] 8 h
set_option maxRecDepth 100000 in
theorem BX2_giveBack_10 {R : azP} (hR : azClosed R) {d n z : Nat} {kd : azK} {I : azI} {J : azJ} {F : azR} {Q : azQ} {a0 a1 a2 : Nat} {x3 : Int32}
    (h : (((nI 10) ≤ x3 → Q none ((n, z, kd), I, J, F)) ∧ (¬ ((nI 10) ≤ x3) → (((10 ≤ (kd a2).1 ∧ (kd a2).1 ≤ 15) ∨ (kd a2).1 = 17) ∧ (((nI (kd a2).2) ≤ x3 → Q none ((n, z, kd), I, J, F)) ∧ (¬ ((nI (kd a2).2) ≤ x3) → ((kd a0).1 = 2 ∧ zOf (F a0 1) fun b1 => (((kd b1).1 = 13 ∨ (kd b1).1 = 14) ∧ vp_in x3 (kd b1).2 ∧ zOp (F b1 x3.toNatClampNeg) (fun b2 => ((((kd a2).1 = 13 ∧ (kd b2).1 = 3) ∨ ((kd a2).1 = 14 ∧ (kd b2).1 = 5)) ∧ vp_in x3 (kd a2).2 ∧ R (d + 1) mX2_giveBack 10 [.ref a0, .ref a1, .ref a2, .int (x3 + (nI 1))] [] ((n, z, kd), I, J, (azUp F a2 x3.toNatClampNeg (some b2))) Q)) ((((kd a2).1 = 13 ∨ (kd a2).1 = 14) ∧ vp_in x3 (kd a2).2 ∧ R (d + 1) mX2_giveBack 10 [.ref a0, .ref a1, .ref a2, .int (x3 + (nI 1))] [] ((n, z, kd), I, J, (azUp F a2 x3.toNatClampNeg none)) Q)))))))))) :
    R (d + 1) mX2_giveBack 10 [.ref a0, .ref a1, .ref a2, .int x3] [] ((n, z, kd), I, J, F) Q := hR.go [10] 18 h
end
section
/-! BLOCKS: Balance (written by wip/whole/blocks.py) -/
theorem BX0_solve_0 {R : azP} (hR : azClosed R) {d n z : Nat} {kd : azK} {I : azI} {J : azJ} {F : azR} {Q : azQ} {a0 a1 : Nat}
    (h : R (d + 1) mX0_solve 2 [.ref a0, .ref a1, .int (nI 0), .retAddr 0, .retAddr 0] [] ((n, z, kd), I, J, F) Q) :
    R (d + 1) mX0_solve 0 [.ref a0, .ref a1, .retAddr 0, .retAddr 0, .retAddr 0] [] ((n, z, kd), I, J, F) Q := hR.go [2, 16, 67] 4 h
theorem BX0_solve_2 {R : azP} (hR : azClosed R) {d n z : Nat} {kd : azK} {I : azI} {J : azJ} {F : azR} {Q : azQ} {a0 a1 : Nat} {x2 : Int32} {w3 : Value}
    (h : (((nI 10) ≤ x2 → R (d + 1) mX0_solve 67 [.ref a0, .ref a1, .int (nI 0), .int (nI 0), .retAddr 0] [] ((n, z, kd), I, J, F) Q) ∧ (¬ ((nI 10) ≤ x2) → (((10 ≤ (kd a1).1 ∧ (kd a1).1 ≤ 15) ∨ (kd a1).1 = 17) ∧ (((nI (kd a1).2) ≤ x2 → R (d + 1) mX0_solve 67 [.ref a0, .ref a1, .int (nI 0), .int (nI 0), .retAddr 0] [] ((n, z, kd), I, J, F) Q) ∧ (¬ ((nI (kd a1).2) ≤ x2) → R (d + 1) mX0_solve 16 [.ref a0, .ref a1, .int x2, .int (nI 0), .retAddr 0] [] ((n, z, kd), I, J, F) Q)))))) :
    R (d + 1) mX0_solve 2 [.ref a0, .ref a1, .int x2, w3, .retAddr 0] [] ((n, z, kd), I, J, F) Q := hR.go [2, 16, 67] 13 h
set_option maxRecDepth 100000 in
theorem BX0_solve_16 {R : azP} (hR : azClosed R) {d n z : Nat} {kd : azK} {I : azI} {J : azJ} {F : azR} {Q : azQ} {a0 a1 : Nat} {x2 x3 : Int32}
    (h : (((nI 10) ≤ x3 → R (d + 1) mX0_solve 2 [.ref a0, .ref a1, .int (x2 + (nI 1)), .int x3, .retAddr 0] [] ((n, z, kd), I, J, F) Q) ∧ (¬ ((nI 10) ≤ x3) → ((kd a0).1 = 0 ∧ zOf (F a0 0) fun b1 => (((kd a1).1 = 13 ∨ (kd a1).1 = 14) ∧ vp_in x2 (kd a1).2 ∧ zOp (F a1 x2.toNatClampNeg) (fun b2 => (((kd a1).1 = 13 ∨ (kd a1).1 = 14) ∧ vp_in x2 (kd a1).2 ∧ zOp (F a1 x2.toNatClampNeg) (fun b3 => ((kd b3).1 = 5 ∧ R d mX5_changeOf 0 [.ref b3, .int x3, .retAddr 0, .retAddr 0] [] ((n, z, kd), I, J, F) fun v4 s5 => kI v4 fun r6 => ((s5.1.2.2 b1).1 = 11 ∧ vp_in ((x2 * (nI 10)) + x3) (s5.1.2.2 b1).2 ∧ R (d + 1) mX0_solve 16 [.ref a0, .ref a1, .int x2, .int (x3 + (nI 1)), .retAddr 0] [] ((s5.1), s5.2.1, (azUp s5.2.2.1 b1 (((x2 * (nI 10)) + x3).toNatClampNeg) r6.toInt64), s5.2.2.2) Q))) (False))) (((kd b1).1 = 11 ∧ vp_in ((x2 * (nI 10)) + x3) (kd b1).2 ∧ R (d + 1) mX0_solve 16 [.ref a0, .ref a1, .int x2, .int (x3 + (nI 1)), .retAddr 0] [] ((n, z, kd), I, (azUp J b1 (((x2 * (nI 10)) + x3).toNatClampNeg) (lN 0)), F) Q))))))) :
    R (d + 1) mX0_solve 16 [.ref a0, .ref a1, .int x2, .int x3, .retAddr 0] [] ((n, z, kd), I, J, F) Q := hR.go [2, 16, 67] 25 h
set_option maxRecDepth 100000 in
theorem BX0_solve_67 {R : azP} (hR : azClosed R) {d n z : Nat} {kd : azK} {I : azI} {J : azJ} {F : azR} {Q : azQ} {a0 a1 : Nat} {x2 x3 : Int32} {w4 : Value}
    (h : (((nI 10) ≤ x3 → Q none ((n, z, kd), I, J, F)) ∧ (¬ ((nI 10) ≤ x3) → ((kd a0).1 = 0 ∧ R d mX0_rowWith 0 [.ref a0, .int x3, .int x2, .retAddr 0] [] ((n, z, kd), I, J, F) fun v1 s2 => kI v1 fun r3 => ((s2.1.2.2 a0).1 = 0 ∧ zOf (s2.2.2.2 a0 1) fun b4 => ((s2.1.2.2 b4).1 = 10 ∧ vp_in x3 (s2.1.2.2 b4).2 ∧ ((¬ r3 = (-(nI 1)) → ((s2.1.2.2 a0).1 = 0 ∧ R d mX0_swapRows 0 [.ref a0, .int r3, .int x2, .retAddr 0, .retAddr 0, .retAddr 0] [] ((s2.1), (azUp s2.2.1 b4 x3.toNatClampNeg (-(nI 1))), s2.2.2.1, s2.2.2.2) fun v5 s6 => v5 = none ∧ ((s6.1.2.2 a0).1 = 0 ∧ R d mX0_clearOthers 0 [.ref a0, .int x2, .int x3, .retAddr 0] [] s6 fun v7 s8 => v7 = none ∧ ((s8.1.2.2 a0).1 = 0 ∧ zOf (s8.2.2.2 a0 1) fun b9 => ((s8.1.2.2 b9).1 = 10 ∧ vp_in x3 (s8.1.2.2 b9).2 ∧ R (d + 1) mX0_solve 67 [.ref a0, .ref a1, .int (x2 + (nI 1)), .int (x3 + (nI 1)), .int r3] [] ((s8.1), (azUp s8.2.1 b9 x3.toNatClampNeg x2), s8.2.2.1, s8.2.2.2) Q))))) ∧ (¬ (¬ r3 = (-(nI 1))) → R (d + 1) mX0_solve 67 [.ref a0, .ref a1, .int x2, .int (x3 + (nI 1)), .int r3] [] ((s2.1), (azUp s2.2.1 b4 x3.toNatClampNeg (-(nI 1))), s2.2.2.1, s2.2.2.2) Q)))))))) :
    R (d + 1) mX0_solve 67 [.ref a0, .ref a1, .int x2, .int x3, w4] [] ((n, z, kd), I, J, F) Q := hR.go [2, 16, 67] 34 h
theorem BX0_rowWith_0 {R : azP} (hR : azClosed R) {d n z : Nat} {kd : azK} {I : azI} {J : azJ} {F : azR} {Q : azQ} {a0 : Nat} {x1 x2 : Int32}
    (h : R d mX0_rowWith 2 [.ref a0, .int x1, .int x2, .int x2] [] ((n, z, kd), I, J, F) Q) :
    R d mX0_rowWith 0 [.ref a0, .int x1, .int x2, .retAddr 0] [] ((n, z, kd), I, J, F) Q := hR.go [2] 4 h
theorem BX0_rowWith_2 {R : azP} (hR : azClosed R) {d n z : Nat} {kd : azK} {I : azI} {J : azJ} {F : azR} {Q : azQ} {a0 : Nat} {x1 x2 x3 : Int32}
    (h : (((nI 10) ≤ x3 → Q (some (.int (-(nI 1)))) ((n, z, kd), I, J, F)) ∧ (¬ ((nI 10) ≤ x3) → ((kd a0).1 = 0 ∧ zOf (F a0 0) fun b1 => ((kd b1).1 = 11 ∧ vp_in ((x3 * (nI 10)) + x1) (kd b1).2 ∧ (((lg_cmp (J b1 (((x3 * (nI 10)) + x1).toNatClampNeg)) (lN 0)) = 0 → R d mX0_rowWith 2 [.ref a0, .int x1, .int x2, .int (x3 + (nI 1))] [] ((n, z, kd), I, J, F) Q) ∧ (¬ ((lg_cmp (J b1 (((x3 * (nI 10)) + x1).toNatClampNeg)) (lN 0)) = 0) → Q (some (.int x3)) ((n, z, kd), I, J, F)))))))) :
    R d mX0_rowWith 2 [.ref a0, .int x1, .int x2, .int x3] [] ((n, z, kd), I, J, F) Q := hR.go [2] 18 h
theorem BX0_swapRows_0 {R : azP} (hR : azClosed R) {d n z : Nat} {kd : azK} {I : azI} {J : azJ} {F : azR} {Q : azQ} {a0 : Nat} {x1 x2 : Int32}
    (h : R d mX0_swapRows 2 [.ref a0, .int x1, .int x2, .int (nI 0), .retAddr 0, .retAddr 0] [] ((n, z, kd), I, J, F) Q) :
    R d mX0_swapRows 0 [.ref a0, .int x1, .int x2, .retAddr 0, .retAddr 0, .retAddr 0] [] ((n, z, kd), I, J, F) Q := hR.go [2] 4 h
set_option maxRecDepth 100000 in
theorem BX0_swapRows_2 {R : azP} (hR : azClosed R) {d n z : Nat} {kd : azK} {I : azI} {J : azJ} {F : azR} {Q : azQ} {a0 : Nat} {x1 x2 x3 : Int32} {w4 w5 : Value}
    (h : (((nI 10) ≤ x3 → Q none ((n, z, kd), I, J, F)) ∧ (¬ ((nI 10) ≤ x3) → ((kd a0).1 = 0 ∧ zOf (F a0 0) fun b1 => ((kd b1).1 = 11 ∧ vp_in ((x1 * (nI 10)) + x3) (kd b1).2 ∧ ((kd a0).1 = 0 ∧ zOf (F a0 0) fun b2 => ((kd a0).1 = 0 ∧ zOf (F a0 0) fun b3 => ((kd b3).1 = 11 ∧ vp_in ((x2 * (nI 10)) + x3) (kd b3).2 ∧ ((kd b2).1 = 11 ∧ vp_in ((x1 * (nI 10)) + x3) (kd b2).2 ∧ ((kd a0).1 = 0 ∧ zOf (F a0 0) fun b4 => ((kd b4).1 = 11 ∧ vp_in ((x2 * (nI 10)) + x3) (kd b4).2 ∧ R d mX0_swapRows 2 [.ref a0, .int x1, .int x2, .int (x3 + (nI 1)), .long (J b1 (((x1 * (nI 10)) + x3).toNatClampNeg)), .retAddr 1] [] ((n, z, kd), I, (azUp ((azUp J b2 (((x1 * (nI 10)) + x3).toNatClampNeg) (J b3 (((x2 * (nI 10)) + x3).toNatClampNeg)))) b4 (((x2 * (nI 10)) + x3).toNatClampNeg) (J b1 (((x1 * (nI 10)) + x3).toNatClampNeg))), F) Q))))))))))) :
    R d mX0_swapRows 2 [.ref a0, .int x1, .int x2, .int x3, w4, w5] [] ((n, z, kd), I, J, F) Q := hR.go [2] 41 h
theorem BX0_clearOthers_0 {R : azP} (hR : azClosed R) {d n z : Nat} {kd : azK} {I : azI} {J : azJ} {F : azR} {Q : azQ} {a0 : Nat} {x1 x2 : Int32}
    (h : R (d + 1) mX0_clearOthers 2 [.ref a0, .int x1, .int x2, .int (nI 0)] [] ((n, z, kd), I, J, F) Q) :
    R (d + 1) mX0_clearOthers 0 [.ref a0, .int x1, .int x2, .retAddr 0] [] ((n, z, kd), I, J, F) Q := hR.go [2] 4 h
set_option maxRecDepth 100000 in
theorem BX0_clearOthers_2 {R : azP} (hR : azClosed R) {d n z : Nat} {kd : azK} {I : azI} {J : azJ} {F : azR} {Q : azQ} {a0 : Nat} {x1 x2 x3 : Int32}
    (h : (((nI 10) ≤ x3 → Q none ((n, z, kd), I, J, F)) ∧ (¬ ((nI 10) ≤ x3) → ((x3 = x1 → R (d + 1) mX0_clearOthers 2 [.ref a0, .int x1, .int x2, .int (x3 + (nI 1))] [] ((n, z, kd), I, J, F) Q) ∧ (¬ (x3 = x1) → ((kd a0).1 = 0 ∧ zOf (F a0 0) fun b1 => ((kd b1).1 = 11 ∧ vp_in ((x3 * (nI 10)) + x2) (kd b1).2 ∧ (((lg_cmp (J b1 (((x3 * (nI 10)) + x2).toNatClampNeg)) (lN 0)) = 0 → R (d + 1) mX0_clearOthers 2 [.ref a0, .int x1, .int x2, .int (x3 + (nI 1))] [] ((n, z, kd), I, J, F) Q) ∧ (¬ ((lg_cmp (J b1 (((x3 * (nI 10)) + x2).toNatClampNeg)) (lN 0)) = 0) → ((kd a0).1 = 0 ∧ R d mX0_clearRow 0 [.ref a0, .int x3, .int x1, .int x2, .retAddr 0, .retAddr 0, .retAddr 0, .retAddr 0, .retAddr 0] [] ((n, z, kd), I, J, F) fun v2 s3 => v2 = none ∧ ((s3.1.2.2 a0).1 = 0 ∧ R d mX0_shortenRow 0 [.ref a0, .int x3, .retAddr 0, .retAddr 0, .retAddr 0] [] s3 fun v4 s5 => v4 = none ∧ R (d + 1) mX0_clearOthers 2 [.ref a0, .int x1, .int x2, .int (x3 + (nI 1))] [] s5 Q))))))))))) :
    R (d + 1) mX0_clearOthers 2 [.ref a0, .int x1, .int x2, .int x3] [] ((n, z, kd), I, J, F) Q := hR.go [2] 29 h
theorem BX0_clearRow_0 {R : azP} (hR : azClosed R) {d n z : Nat} {kd : azK} {I : azI} {J : azJ} {F : azR} {Q : azQ} {a0 : Nat} {x1 x2 x3 : Int32}
    (h : ((kd a0).1 = 0 ∧ zOf (F a0 0) fun b1 => ((kd b1).1 = 11 ∧ vp_in ((x1 * (nI 10)) + x3) (kd b1).2 ∧ ((kd a0).1 = 0 ∧ zOf (F a0 0) fun b2 => ((kd b2).1 = 11 ∧ vp_in ((x2 * (nI 10)) + x3) (kd b2).2 ∧ R d mX0_clearRow 29 [.ref a0, .int x1, .int x2, .int x3, .long (J b1 (((x1 * (nI 10)) + x3).toNatClampNeg)), .retAddr 1, .long (J b2 (((x2 * (nI 10)) + x3).toNatClampNeg)), .retAddr 1, .int (nI 0)] [] ((n, z, kd), I, J, F) Q))))) :
    R d mX0_clearRow 0 [.ref a0, .int x1, .int x2, .int x3, .retAddr 0, .retAddr 0, .retAddr 0, .retAddr 0, .retAddr 0] [] ((n, z, kd), I, J, F) Q := hR.go [29] 22 h
set_option maxRecDepth 100000 in
theorem BX0_clearRow_29 {R : azP} (hR : azClosed R) {d n z : Nat} {kd : azK} {I : azI} {J : azJ} {F : azR} {Q : azQ} {a0 : Nat} {x1 x2 x3 x8 : Int32} {y4 y6 : Int64}
    (h : (((nI 10) ≤ x8 → Q none ((n, z, kd), I, J, F)) ∧ (¬ ((nI 10) ≤ x8) → ((kd a0).1 = 0 ∧ zOf (F a0 0) fun b1 => ((kd a0).1 = 0 ∧ zOf (F a0 0) fun b2 => ((kd b2).1 = 11 ∧ vp_in ((x1 * (nI 10)) + x8) (kd b2).2 ∧ ((kd a0).1 = 0 ∧ zOf (F a0 0) fun b3 => ((kd b3).1 = 11 ∧ vp_in ((x2 * (nI 10)) + x8) (kd b3).2 ∧ ((kd b1).1 = 11 ∧ vp_in ((x1 * (nI 10)) + x8) (kd b1).2 ∧ R d mX0_clearRow 29 [.ref a0, .int x1, .int x2, .int x3, .long y4, .retAddr 1, .long y6, .retAddr 1, .int (x8 + (nI 1))] [] ((n, z, kd), I, (azUp J b1 (((x1 * (nI 10)) + x8).toNatClampNeg) (((J b2 (((x1 * (nI 10)) + x8).toNatClampNeg)) * y6) - ((J b3 (((x2 * (nI 10)) + x8).toNatClampNeg)) * y4))), F) Q))))))))) :
    R d mX0_clearRow 29 [.ref a0, .int x1, .int x2, .int x3, .long y4, .retAddr 1, .long y6, .retAddr 1, .int x8] [] ((n, z, kd), I, J, F) Q := hR.go [29] 36 h
theorem BX0_shortenRow_0 {R : azP} (hR : azClosed R) {d n z : Nat} {kd : azK} {I : azI} {J : azJ} {F : azR} {Q : azQ} {a0 : Nat} {x1 : Int32}
    (h : R (d + 1) mX0_shortenRow 5 [.ref a0, .int x1, .long (lN 0), .retAddr 1, .int (nI 0)] [] ((n, z, kd), I, J, F) Q) :
    R (d + 1) mX0_shortenRow 0 [.ref a0, .int x1, .retAddr 0, .retAddr 0, .retAddr 0] [] ((n, z, kd), I, J, F) Q := hR.go [5, 45] 6 h
set_option maxRecDepth 100000 in
theorem BX0_shortenRow_5 {R : azP} (hR : azClosed R) {d n z : Nat} {kd : azK} {I : azI} {J : azJ} {F : azR} {Q : azQ} {a0 : Nat} {x1 x4 : Int32} {y2 : Int64}
    (h : (((nI 10) ≤ x4 → ((0 < (lg_cmp y2 (lN 1)) → R (d + 1) mX0_shortenRow 45 [.ref a0, .int x1, .long y2, .retAddr 1, .int (nI 0)] [] ((n, z, kd), I, J, F) Q) ∧ (¬ (0 < (lg_cmp y2 (lN 1))) → Q none ((n, z, kd), I, J, F)))) ∧ (¬ ((nI 10) ≤ x4) → ((kd a0).1 = 0 ∧ zOf (F a0 0) fun b1 => ((kd b1).1 = 11 ∧ vp_in ((x1 * (nI 10)) + x4) (kd b1).2 ∧ (R d mX0_commonDivisor 0 [.long y2, .retAddr 1, .long (J b1 (((x1 * (nI 10)) + x4).toNatClampNeg)), .retAddr 1, .retAddr 0, .retAddr 0, .retAddr 0, .retAddr 0, .retAddr 0, .retAddr 0, .retAddr 0] [] ((n, z, kd), I, J, F) fun v2 s3 => kL v2 fun r4 => R (d + 1) mX0_shortenRow 5 [.ref a0, .int x1, .long r4, .retAddr 1, .int (x4 + (nI 1))] [] s3 Q)))))) :
    R (d + 1) mX0_shortenRow 5 [.ref a0, .int x1, .long y2, .retAddr 1, .int x4] [] ((n, z, kd), I, J, F) Q := hR.go [5, 45] 18 h
theorem BX0_shortenRow_45 {R : azP} (hR : azClosed R) {d n z : Nat} {kd : azK} {I : azI} {J : azJ} {F : azR} {Q : azQ} {a0 : Nat} {x1 x4 : Int32} {y2 : Int64}
    (h : (((nI 10) ≤ x4 → Q none ((n, z, kd), I, J, F)) ∧ (¬ ((nI 10) ≤ x4) → ((kd a0).1 = 0 ∧ zOf (F a0 0) fun b1 => ((kd a0).1 = 0 ∧ zOf (F a0 0) fun b2 => ((kd b2).1 = 11 ∧ vp_in ((x1 * (nI 10)) + x4) (kd b2).2 ∧ ¬ y2 = 0 ∧ ((kd b1).1 = 11 ∧ vp_in ((x1 * (nI 10)) + x4) (kd b1).2 ∧ R (d + 1) mX0_shortenRow 45 [.ref a0, .int x1, .long y2, .retAddr 1, .int (x4 + (nI 1))] [] ((n, z, kd), I, (azUp J b1 (((x1 * (nI 10)) + x4).toNatClampNeg) ((J b2 (((x1 * (nI 10)) + x4).toNatClampNeg)) / y2)), F) Q))))))) :
    R (d + 1) mX0_shortenRow 45 [.ref a0, .int x1, .long y2, .retAddr 1, .int x4] [] ((n, z, kd), I, J, F) Q := hR.go [5, 45] 25 h
theorem BX0_commonDivisor_0 {R : azP} (hR : azClosed R) {d n z : Nat} {kd : azK} {I : azI} {J : azJ} {F : azR} {Q : azQ} {y0 y2 : Int64}
    (h : (R d mJ9_abs_067f4 0 [.long y0, .retAddr 1] [] ((n, z, kd), I, J, F) fun v1 s2 => kL v1 fun r3 => (R d mJ9_abs_067f4 0 [.long y2, .retAddr 1] [] s2 fun v4 s5 => kL v4 fun r6 => R (d + 1) mX0_commonDivisor 15 [.long y0, .retAddr 1, .long y2, .retAddr 1, .long r3, .retAddr 1, .long r6, .retAddr 1, .int (nI 0), .retAddr 0, .retAddr 0] [] s5 Q))) :
    R (d + 1) mX0_commonDivisor 0 [.long y0, .retAddr 1, .long y2, .retAddr 1, .retAddr 0, .retAddr 0, .retAddr 0, .retAddr 0, .retAddr 0, .retAddr 0, .retAddr 0] [] ((n, z, kd), I, J, F) Q := hR.go [15] 10 h
theorem BX0_commonDivisor_15 {R : azP} (hR : azClosed R) {d n z : Nat} {kd : azK} {I : azI} {J : azJ} {F : azR} {Q : azQ} {x8 : Int32} {y0 y2 y4 y6 : Int64} {w9 w10 : Value}
    (h : (((nI 200) ≤ x8 → Q (some (.long y4)) ((n, z, kd), I, J, F)) ∧ (¬ ((nI 200) ≤ x8) → (((lg_cmp y6 (lN 0)) = 0 → Q (some (.long y4)) ((n, z, kd), I, J, F)) ∧ (¬ ((lg_cmp y6 (lN 0)) = 0) → ¬ y6 = 0 ∧ R (d + 1) mX0_commonDivisor 15 [.long y0, .retAddr 1, .long y2, .retAddr 1, .long y6, .retAddr 1, .long (y4 - y4 / y6 * y6), .retAddr 1, .int (x8 + (nI 1)), .long (y4 - y4 / y6 * y6), .retAddr 1] [] ((n, z, kd), I, J, F) Q))))) :
    R (d + 1) mX0_commonDivisor 15 [.long y0, .retAddr 1, .long y2, .retAddr 1, .long y4, .retAddr 1, .long y6, .retAddr 1, .int x8, w9, w10] [] ((n, z, kd), I, J, F) Q := hR.go [15] 19 h
theorem BX0_count_0 {R : azP} (hR : azClosed R) {d n z : Nat} {kd : azK} {I : azI} {J : azJ} {F : azR} {Q : azQ} {a0 : Nat}
    (h : R d mX0_count 4 [.ref a0, .int (nI 0), .int (nI 0)] [] ((n, z, kd), I, J, F) Q) :
    R d mX0_count 0 [.ref a0, .retAddr 0, .retAddr 0] [] ((n, z, kd), I, J, F) Q := hR.go [4] 6 h
theorem BX0_count_4 {R : azP} (hR : azClosed R) {d n z : Nat} {kd : azK} {I : azI} {J : azJ} {F : azR} {Q : azQ} {a0 : Nat} {x1 x2 : Int32}
    (h : (((nI 10) ≤ x2 → Q (some (.int x1)) ((n, z, kd), I, J, F)) ∧ (¬ ((nI 10) ≤ x2) → ((kd a0).1 = 0 ∧ zOf (F a0 1) fun b1 => (((kd b1).1 = 10 ∨ (kd b1).1 = 15) ∧ vp_in x2 (kd b1).2 ∧ ((¬ (I b1 x2.toNatClampNeg) = (-(nI 1)) → R d mX0_count 4 [.ref a0, .int x1, .int (x2 + (nI 1))] [] ((n, z, kd), I, J, F) Q) ∧ (¬ (¬ (I b1 x2.toNatClampNeg) = (-(nI 1))) → R d mX0_count 4 [.ref a0, .int (x1 + (nI 1)), .int (x2 + (nI 1))] [] ((n, z, kd), I, J, F) Q))))))) :
    R d mX0_count 4 [.ref a0, .int x1, .int x2] [] ((n, z, kd), I, J, F) Q := hR.go [4] 14 h
theorem BX0_placeOf_0 {R : azP} (hR : azClosed R) {d n z : Nat} {kd : azK} {I : azI} {J : azJ} {F : azR} {Q : azQ} {a0 : Nat} {x1 : Int32}
    (h : R d mX0_placeOf 4 [.ref a0, .int x1, .int (nI 0), .int (nI 0)] [] ((n, z, kd), I, J, F) Q) :
    R d mX0_placeOf 0 [.ref a0, .int x1, .retAddr 0, .retAddr 0] [] ((n, z, kd), I, J, F) Q := hR.go [4] 6 h
theorem BX0_placeOf_4 {R : azP} (hR : azClosed R) {d n z : Nat} {kd : azK} {I : azI} {J : azJ} {F : azR} {Q : azQ} {a0 : Nat} {x1 x2 x3 : Int32}
    (h : (((nI 10) ≤ x3 → Q (some (.int (-(nI 1)))) ((n, z, kd), I, J, F)) ∧ (¬ ((nI 10) ≤ x3) → ((kd a0).1 = 0 ∧ zOf (F a0 1) fun b1 => (((kd b1).1 = 10 ∨ (kd b1).1 = 15) ∧ vp_in x3 (kd b1).2 ∧ (((I b1 x3.toNatClampNeg) = (-(nI 1)) → ((¬ x2 = x1 → R d mX0_placeOf 4 [.ref a0, .int x1, .int (x2 + (nI 1)), .int (x3 + (nI 1))] [] ((n, z, kd), I, J, F) Q) ∧ (¬ (¬ x2 = x1) → Q (some (.int x3)) ((n, z, kd), I, J, F)))) ∧ (¬ ((I b1 x3.toNatClampNeg) = (-(nI 1))) → R d mX0_placeOf 4 [.ref a0, .int x1, .int x2, .int (x3 + (nI 1))] [] ((n, z, kd), I, J, F) Q))))))) :
    R d mX0_placeOf 4 [.ref a0, .int x1, .int x2, .int x3] [] ((n, z, kd), I, J, F) Q := hR.go [4] 17 h
set_option maxRecDepth 100000 in
theorem BX0_weigh_0 {R : azP} (hR : azClosed R) {d n z : Nat} {kd : azK} {I : azI} {J : azJ} {F : azR} {Q : azQ} {a0 : Nat} {x1 x2 : Int32}
    (h : (R d mX8_isPlace 0 [.int x1] [] ((n, z, kd), I, J, F) fun v1 s2 => kI v1 fun r3 => ((r3 = 0 → ((s2.1.2.2 a0).1 = 0 ∧ R d mX0_setFraction 0 [.ref a0, .long (lN 0), .retAddr 1, .long (lN 1), .retAddr 1, .retAddr 0, .retAddr 0, .retAddr 0, .retAddr 0] [] s2 fun v4 s5 => v4 = none ∧ Q none s5)) ∧ (¬ (r3 = 0) → (R d mX8_isPlace 0 [.int x2] [] s2 fun v6 s7 => kI v6 fun r8 => ((¬ r8 = 0 → ((s7.1.2.2 a0).1 = 0 ∧ zOf (s7.2.2.2 a0 1) fun b9 => (((s7.1.2.2 b9).1 = 10 ∨ (s7.1.2.2 b9).1 = 15) ∧ vp_in x2 (s7.1.2.2 b9).2 ∧ (((s7.2.1 b9 x2.toNatClampNeg) < 0 → R (d + 1) mX0_weigh 38 [.ref a0, .int x1, .int x2, .int (s7.2.1 b9 x2.toNatClampNeg)] [] s7 Q) ∧ (¬ ((s7.2.1 b9 x2.toNatClampNeg) < 0) → (((s7.2.1 b9 x2.toNatClampNeg) < (nI 10) → ((s7.1.2.2 a0).1 = 0 ∧ zOf (s7.2.2.2 a0 0) fun b10 => ((s7.1.2.2 b10).1 = 11 ∧ vp_in (((s7.2.1 b9 x2.toNatClampNeg) * (nI 10)) + x1) (s7.1.2.2 b10).2 ∧ ((s7.1.2.2 a0).1 = 0 ∧ zOf (s7.2.2.2 a0 0) fun b11 => ((s7.1.2.2 b11).1 = 11 ∧ vp_in (((s7.2.1 b9 x2.toNatClampNeg) * (nI 10)) + x2) (s7.1.2.2 b11).2 ∧ ((s7.1.2.2 a0).1 = 0 ∧ R d mX0_setFraction 0 [.ref a0, .long (-(s7.2.2.1 b10 ((((s7.2.1 b9 x2.toNatClampNeg) * (nI 10)) + x1).toNatClampNeg))), .retAddr 1, .long (s7.2.2.1 b11 ((((s7.2.1 b9 x2.toNatClampNeg) * (nI 10)) + x2).toNatClampNeg)), .retAddr 1, .retAddr 0, .retAddr 0, .retAddr 0, .retAddr 0] [] s7 fun v12 s13 => v12 = none ∧ Q none s13)))))) ∧ (¬ ((s7.2.1 b9 x2.toNatClampNeg) < (nI 10)) → R (d + 1) mX0_weigh 38 [.ref a0, .int x1, .int x2, .int (s7.2.1 b9 x2.toNatClampNeg)] [] s7 Q))))))) ∧ (¬ (¬ r8 = 0) → ((s7.1.2.2 a0).1 = 0 ∧ R d mX0_setFraction 0 [.ref a0, .long (lN 0), .retAddr 1, .long (lN 1), .retAddr 1, .retAddr 0, .retAddr 0, .retAddr 0, .retAddr 0] [] s7 fun v14 s15 => v14 = none ∧ Q none s15)))))))) :
    R (d + 1) mX0_weigh 0 [.ref a0, .int x1, .int x2, .retAddr 0] [] ((n, z, kd), I, J, F) Q := hR.go [38] 37 h
theorem BX0_weigh_38 {R : azP} (hR : azClosed R) {d n z : Nat} {kd : azK} {I : azI} {J : azJ} {F : azR} {Q : azQ} {a0 : Nat} {x1 x2 x3 : Int32}
    (h : ((¬ x1 = x2 → ((kd a0).1 = 0 ∧ R d mX0_setFraction 0 [.ref a0, .long (lN 0), .retAddr 1, .long (lN 1), .retAddr 1, .retAddr 0, .retAddr 0, .retAddr 0, .retAddr 0] [] ((n, z, kd), I, J, F) fun v1 s2 => v1 = none ∧ Q none s2)) ∧ (¬ (¬ x1 = x2) → ((kd a0).1 = 0 ∧ R d mX0_setFraction 0 [.ref a0, .long (lN 1), .retAddr 1, .long (lN 1), .retAddr 1, .retAddr 0, .retAddr 0, .retAddr 0, .retAddr 0] [] ((n, z, kd), I, J, F) fun v3 s4 => v3 = none ∧ Q none s4)))) :
    R (d + 1) mX0_weigh 38 [.ref a0, .int x1, .int x2, .int x3] [] ((n, z, kd), I, J, F) Q := hR.go [38] 10 h
theorem BX0_addUp_0 {R : azP} (hR : azClosed R) {d n z : Nat} {kd : azK} {I : azI} {J : azJ} {F : azR} {Q : azQ} {a0 a2 : Nat} {x1 : Int32}
    (h : R (d + 1) mX0_addUp 8 [.ref a0, .int x1, .ref a2, .long (lN 0), .retAddr 1, .long (lN 1), .retAddr 1, .int (nI 0)] [] ((n, z, kd), I, J, F) Q) :
    R (d + 1) mX0_addUp 0 [.ref a0, .int x1, .ref a2, .retAddr 0, .retAddr 0, .retAddr 0, .retAddr 0, .retAddr 0] [] ((n, z, kd), I, J, F) Q := hR.go [8] 8 h
set_option maxRecDepth 100000 in
theorem BX0_addUp_8 {R : azP} (hR : azClosed R) {d n z : Nat} {kd : azK} {I : azI} {J : azJ} {F : azR} {Q : azQ} {a0 a2 : Nat} {x1 x7 : Int32} {y3 y5 : Int64}
    (h : (((nI 10) ≤ x7 → Q none ((n, z, kd), I, J, F)) ∧ (¬ ((nI 10) ≤ x7) → ((kd a0).1 = 0 ∧ R d mX0_weigh 0 [.ref a0, .int x1, .int x7, .retAddr 0] [] ((n, z, kd), I, J, F) fun v1 s2 => v1 = none ∧ ((s2.1.2.2 a0).1 = 0 ∧ ((s2.1.2.2 a0).1 = 0 ∧ ((s2.1.2.2 a2).1 = 3 ∧ R d mX3_count 0 [.ref a2, .int x7] [] s2 fun v3 s4 => kI v3 fun r5 => ((s4.1.2.2 a0).1 = 0 ∧ ((s4.1.2.2 a0).1 = 0 ∧ R d mX0_setFraction 0 [.ref a0, .long ((y3 * (s2.2.2.1 a0 3)) + (((s2.2.2.1 a0 2) * r5.toInt64) * y5)), .retAddr 1, .long (y5 * (s4.2.2.1 a0 3)), .retAddr 1, .retAddr 0, .retAddr 0, .retAddr 0, .retAddr 0] [] s4 fun v6 s7 => v6 = none ∧ ((s7.1.2.2 a0).1 = 0 ∧ ((s7.1.2.2 a0).1 = 0 ∧ R (d + 1) mX0_addUp 8 [.ref a0, .int x1, .ref a2, .long (s7.2.2.1 a0 2), .retAddr 1, .long (s7.2.2.1 a0 3), .retAddr 1, .int (x7 + (nI 1))] [] s7 Q))))))))))) :
    R (d + 1) mX0_addUp 8 [.ref a0, .int x1, .ref a2, .long y3, .retAddr 1, .long y5, .retAddr 1, .int x7] [] ((n, z, kd), I, J, F) Q := hR.go [8] 37 h
set_option maxRecDepth 100000 in
theorem BX0_setFraction_0 {R : azP} (hR : azClosed R) {d n z : Nat} {kd : azK} {I : azI} {J : azJ} {F : azR} {Q : azQ} {a0 : Nat} {y1 y3 : Int64}
    (h : (R d mX0_commonDivisor 0 [.long y1, .retAddr 1, .long y3, .retAddr 1, .retAddr 0, .retAddr 0, .retAddr 0, .retAddr 0, .retAddr 0, .retAddr 0, .retAddr 0] [] ((n, z, kd), I, J, F) fun v1 s2 => kL v1 fun r3 => (((lg_cmp r3 (lN 0)) = 0 → ((s2.1.2.2 a0).1 = 0 ∧ ((s2.1.2.2 a0).1 = 0 ∧ Q none ((s2.1), s2.2.1, (azUp ((azUp s2.2.2.1 a0 2 (lN 0))) a0 3 (lN 1)), s2.2.2.2)))) ∧ (¬ ((lg_cmp r3 (lN 0)) = 0) → ((¬ (lg_cmp y3 (lN 0)) = 0 → ((0 ≤ (lg_cmp y3 (lN 0)) → ¬ r3 = 0 ∧ ((s2.1.2.2 a0).1 = 0 ∧ ¬ r3 = 0 ∧ ((s2.1.2.2 a0).1 = 0 ∧ Q none ((s2.1), s2.2.1, (azUp ((azUp s2.2.2.1 a0 2 ((lN 1) * (y1 / r3)))) a0 3 ((lN 1) * (y3 / r3))), s2.2.2.2)))) ∧ (¬ (0 ≤ (lg_cmp y3 (lN 0))) → ¬ r3 = 0 ∧ ((s2.1.2.2 a0).1 = 0 ∧ ¬ r3 = 0 ∧ ((s2.1.2.2 a0).1 = 0 ∧ Q none ((s2.1), s2.2.1, (azUp ((azUp s2.2.2.1 a0 2 (((-1 : Int64)) * (y1 / r3)))) a0 3 (((-1 : Int64)) * (y3 / r3))), s2.2.2.2)))))) ∧ (¬ (¬ (lg_cmp y3 (lN 0)) = 0) → ((s2.1.2.2 a0).1 = 0 ∧ ((s2.1.2.2 a0).1 = 0 ∧ Q none ((s2.1), s2.2.1, (azUp ((azUp s2.2.2.1 a0 2 (lN 0))) a0 3 (lN 1)), s2.2.2.2))))))))) :
    R (d + 1) mX0_setFraction 0 [.ref a0, .long y1, .retAddr 1, .long y3, .retAddr 1, .retAddr 0, .retAddr 0, .retAddr 0, .retAddr 0] [] ((n, z, kd), I, J, F) Q := hR.go [] 35 h
end
section
/-! BLOCKS: TokenNet (written by wip/whole/blocks.py) -/
set_option maxRecDepth 100000 in
theorem BX8_put_0 {R : azP} (hR : azClosed R) {d n z : Nat} {kd : azK} {I : azI} {J : azJ} {F : azR} {Q : azQ} {a0 : Nat} {x1 x2 : Int32}
    (h : (R d mX8_isPlace 0 [.int x1] [] ((n, z, kd), I, J, F) fun v1 s2 => kI v1 fun r3 => ((¬ r3 = 0 → ((x2 < 0 → Q (some (.int (-(nI 2)))) s2) ∧ (¬ (x2 < 0) → ((x2 < (nI 100) → ((s2.1.2.2 a0).1 = 8 ∧ zOf (s2.2.2.2 a0 0) fun b4 => ((s2.1.2.2 b4).1 = 3 ∧ R d mX3_append 0 [.ref b4, .int x1, .int x2] [] s2 fun v5 s6 => kI v5 fun r7 => ((¬ r7 = 0 → ((s6.1.2.2 a0).1 = 8 ∧ ((nI 0) = 0 ∨ (nI 0) = 1) ∧ ((s6.1.2.2 a0).1 = 8 ∧ zOf (s6.2.2.2 a0 0) fun b8 => ((s6.1.2.2 b8).1 = 3 ∧ R d mX3_count 0 [.ref b8, .int x1] [] ((s6.1), (azUp s6.2.1 a0 11 (nI 0)), s6.2.2.1, s6.2.2.2) fun v9 s10 => kI v9 fun r11 => Q (some (.int r11)) s10)))) ∧ (¬ (¬ r7 = 0) → Q (some (.int (-(nI 4)))) s6))))) ∧ (¬ (x2 < (nI 100)) → Q (some (.int (-(nI 2)))) s2))))) ∧ (¬ (¬ r3 = 0) → Q (some (.int (-(nI 1)))) s2)))) :
    R (d + 1) mX8_put 0 [.ref a0, .int x1, .int x2] [] ((n, z, kd), I, J, F) Q := hR.go [] 23 h
theorem BX8_take_0 {R : azP} (hR : azClosed R) {d n z : Nat} {kd : azK} {I : azI} {J : azJ} {F : azR} {Q : azQ} {a0 : Nat} {x1 x2 : Int32}
    (h : ((kd a0).1 = 8 ∧ zOf (F a0 0) fun b1 => ((kd b1).1 = 3 ∧ R d mX3_holds 0 [.ref b1, .int x1, .int x2] [] ((n, z, kd), I, J, F) fun v2 s3 => kI v2 fun r4 => ((¬ r4 = 0 → ((s3.1.2.2 a0).1 = 8 ∧ ((nI 0) = 0 ∨ (nI 0) = 1) ∧ ((s3.1.2.2 a0).1 = 8 ∧ zOf (s3.2.2.2 a0 0) fun b5 => ((s3.1.2.2 b5).1 = 3 ∧ R d mX3_remove 0 [.ref b5, .int x1, .int x2, .retAddr 0, .retAddr 0] [] ((s3.1), (azUp s3.2.1 a0 11 (nI 0)), s3.2.2.1, s3.2.2.2) fun v6 s7 => kI v6 fun r8 => Q (some (.int r8)) s7)))) ∧ (¬ (¬ r4 = 0) → Q (some (.int (-(nI 1)))) s3))))) :
    R (d + 1) mX8_take 0 [.ref a0, .int x1, .int x2] [] ((n, z, kd), I, J, F) Q := hR.go [] 16 h
theorem BX8_token_0 {R : azP} (hR : azClosed R) {d n z : Nat} {kd : azK} {I : azI} {J : azJ} {F : azR} {Q : azQ} {a0 : Nat} {x1 x2 : Int32}
    (h : (R d mX8_isPlace 0 [.int x1] [] ((n, z, kd), I, J, F) fun v1 s2 => kI v1 fun r3 => ((¬ r3 = 0 → ((¬ x2 = (-(nI 1)) → ((s2.1.2.2 a0).1 = 8 ∧ zOf (s2.2.2.2 a0 0) fun b4 => ((s2.1.2.2 b4).1 = 3 ∧ R d mX3_at 0 [.ref b4, .int x1, .int x2] [] s2 fun v5 s6 => kI v5 fun r7 => Q (some (.int r7)) s6))) ∧ (¬ (¬ x2 = (-(nI 1))) → ((s2.1.2.2 a0).1 = 8 ∧ zOf (s2.2.2.2 a0 0) fun b8 => ((s2.1.2.2 b8).1 = 3 ∧ R d mX3_count 0 [.ref b8, .int x1] [] s2 fun v9 s10 => kI v9 fun r11 => Q (some (.int r11)) s10))))) ∧ (¬ (¬ r3 = 0) → Q (some (.int (-(nI 1)))) s2)))) :
    R (d + 1) mX8_token 0 [.ref a0, .int x1, .int x2] [] ((n, z, kd), I, J, F) Q := hR.go [] 13 h
theorem BX8_feed_0 {R : azP} (hR : azClosed R) {d n z : Nat} {kd : azK} {I : azI} {J : azJ} {F : azR} {Q : azQ} {a0 : Nat} {x1 : Int32}
    (h : ((x1 < (nI 1) → Q (some (.int (-(nI 2)))) ((n, z, kd), I, J, F)) ∧ (¬ (x1 < (nI 1)) → ((x1 ≤ (nI 127) → ((kd a0).1 = 8 ∧ zOf (F a0 4) fun b1 => ((kd b1).1 = 6 ∧ R d mX6_append 0 [.ref b1, .int x1] [] ((n, z, kd), I, J, F) fun v2 s3 => kI v2 fun r4 => ((r4 = 0 → Q (some (.int (-(nI 4)))) s3) ∧ (¬ (r4 = 0) → ((s3.1.2.2 a0).1 = 8 ∧ zOf (s3.2.2.2 a0 4) fun b5 => ((s3.1.2.2 b5).1 = 6 ∧ Q (some (.int (s3.2.1 b5 1))) s3))))))) ∧ (¬ (x1 ≤ (nI 127)) → Q (some (.int (-(nI 2)))) ((n, z, kd), I, J, F)))))) :
    R (d + 1) mX8_feed 0 [.ref a0, .int x1] [] ((n, z, kd), I, J, F) Q := hR.go [] 17 h
theorem BX8_clear_0 {R : azP} (hR : azClosed R) {d n z : Nat} {kd : azK} {I : azI} {J : azJ} {F : azR} {Q : azQ} {a0 : Nat}
    (h : ((kd a0).1 = 8 ∧ zOf (F a0 4) fun b1 => ((kd b1).1 = 6 ∧ ((kd a0).1 = 8 ∧ zOf (F a0 4) fun b2 => ((kd b2).1 = 6 ∧ R d mX6_wipe 0 [.ref b2] [] ((n, z, kd), I, J, F) fun v3 s4 => v3 = none ∧ Q (some (.int (I b1 1))) s4))))) :
    R (d + 1) mX8_clear 0 [.ref a0, .retAddr 0] [] ((n, z, kd), I, J, F) Q := hR.go [] 10 h
set_option maxRecDepth 100000 in
theorem BX8_rule_0 {R : azP} (hR : azClosed R) {d n z : Nat} {kd : azK} {I : azI} {J : azJ} {F : azR} {Q : azQ} {a0 : Nat} {x1 : Int32}
    (h : (R d mX8_isPart 0 [.int x1] [] ((n, z, kd), I, J, F) fun v1 s2 => kI v1 fun r3 => ((¬ r3 = 0 → ((s2.1.2.2 a0).1 = 8 ∧ zOf (s2.2.2.2 a0 4) fun b4 => ((s2.1.2.2 b4).1 = 6 ∧ R d mX6_read 0 [.ref b4, .retAddr 0] [] s2 fun v5 s6 => kO v5 (fun r7 => ((s6.1.2.2 a0).1 = 8 ∧ zOf (s6.2.2.2 a0 4) fun b12 => ((s6.1.2.2 b12).1 = 6 ∧ R d mX6_wipe 0 [.ref b12] [] s6 fun v13 s14 => v13 = none ∧ ((s14.1.2.2 a0).1 = 8 ∧ zOf (s14.2.2.2 a0 3) fun b15 => ((((s14.1.2.2 b15).1 = 13 ∧ (s14.1.2.2 r7).1 = 3) ∨ ((s14.1.2.2 b15).1 = 14 ∧ (s14.1.2.2 r7).1 = 5)) ∧ vp_in x1 (s14.1.2.2 b15).2 ∧ ((s14.1.2.2 a0).1 = 8 ∧ ((nI 0) = 0 ∨ (nI 0) = 1) ∧ ((s14.1.2.2 r7).1 = 5 ∧ Q (some (.int ((azUp s14.2.1 a0 11 (nI 0)) r7 0))) ((s14.1), (azUp s14.2.1 a0 11 (nI 0)), s14.2.2.1, (azUp s14.2.2.2 b15 x1.toNatClampNeg (some r7)))))))))) (((s6.1.2.2 a0).1 = 8 ∧ zOf (s6.2.2.2 a0 4) fun b8 => ((s6.1.2.2 b8).1 = 6 ∧ R d mX6_wipe 0 [.ref b8] [] s6 fun v9 s10 => v9 = none ∧ ((s10.1.2.2 a0).1 = 8 ∧ zOf (s10.2.2.2 a0 4) fun b11 => ((s10.1.2.2 b11).1 = 6 ∧ Q (some (.int ((-(nI 100)) - (s10.2.1 b11 3)))) s10)))))))) ∧ (¬ (¬ r3 = 0) → Q (some (.int (-(nI 1)))) s2)))) :
    R (d + 1) mX8_rule 0 [.ref a0, .int x1, .retAddr 0] [] ((n, z, kd), I, J, F) Q := hR.go [] 24 h
theorem BX8_drop_0 {R : azP} (hR : azClosed R) {d n z : Nat} {kd : azK} {I : azI} {J : azJ} {F : azR} {Q : azQ} {a0 : Nat} {x1 : Int32}
    (h : (R d mX8_isPart 0 [.int x1] [] ((n, z, kd), I, J, F) fun v1 s2 => kI v1 fun r3 => ((¬ r3 = 0 → ((s2.1.2.2 a0).1 = 8 ∧ zOf (s2.2.2.2 a0 3) fun b4 => (((s2.1.2.2 b4).1 = 13 ∨ (s2.1.2.2 b4).1 = 14) ∧ vp_in x1 (s2.1.2.2 b4).2 ∧ zOp (s2.2.2.2 b4 x1.toNatClampNeg) (fun b5 => ((s2.1.2.2 a0).1 = 8 ∧ zOf (s2.2.2.2 a0 3) fun b6 => (((s2.1.2.2 b6).1 = 13 ∨ (s2.1.2.2 b6).1 = 14) ∧ vp_in x1 (s2.1.2.2 b6).2 ∧ ((s2.1.2.2 a0).1 = 8 ∧ ((nI 0) = 0 ∨ (nI 0) = 1) ∧ Q (some (.int (nI 1))) ((s2.1), (azUp s2.2.1 a0 11 (nI 0)), s2.2.2.1, (azUp s2.2.2.2 b6 x1.toNatClampNeg none)))))) (Q (some (.int (-(nI 3)))) s2)))) ∧ (¬ (¬ r3 = 0) → Q (some (.int (-(nI 1)))) s2)))) :
    R (d + 1) mX8_drop 0 [.ref a0, .int x1] [] ((n, z, kd), I, J, F) Q := hR.go [] 19 h
set_option maxRecDepth 100000 in
theorem BX8_has_0 {R : azP} (hR : azClosed R) {d n z : Nat} {kd : azK} {I : azI} {J : azJ} {F : azR} {Q : azQ} {a0 : Nat} {x1 x2 : Int32}
    (h : (R d mX8_isPart 0 [.int x1] [] ((n, z, kd), I, J, F) fun v1 s2 => kI v1 fun r3 => ((r3 = 0 → Q (some (.int (-(nI 1)))) s2) ∧ (¬ (r3 = 0) → ((x2 < 0 → Q (some (.int (-(nI 1)))) s2) ∧ (¬ (x2 < 0) → ((x2 ≤ (nI 3) → ((s2.1.2.2 a0).1 = 8 ∧ zOf (s2.2.2.2 a0 3) fun b4 => (((s2.1.2.2 b4).1 = 13 ∨ (s2.1.2.2 b4).1 = 14) ∧ vp_in x1 (s2.1.2.2 b4).2 ∧ zOp (s2.2.2.2 b4 x1.toNatClampNeg) (fun b5 => ((x2.toInt < 0 ∨ 2 < x2.toInt → ((s2.1.2.2 b5).1 = 5 ∧ (R d mJ6_bitCount_0f7a4 0 [.int (s2.2.1 b5 4)] [] s2 fun v6 s7 => kI v6 fun r8 => Q (some (.int r8)) s7))) ∧ (x2.toInt = 0 → ((s2.1.2.2 b5).1 = 5 ∧ Q (some (.int (s2.2.1 b5 1))) s2)) ∧ (x2.toInt = 0 + 1 → ((s2.1.2.2 b5).1 = 5 ∧ Q (some (.int (s2.2.1 b5 3))) s2)) ∧ (x2.toInt = 0 + 1 + 1 → ((s2.1.2.2 b5).1 = 5 ∧ Q (some (.int (s2.2.1 b5 2))) s2)) ∧ True)) (Q (some (.int (-(nI 3)))) s2)))) ∧ (¬ (x2 ≤ (nI 3)) → Q (some (.int (-(nI 1)))) s2)))))))) :
    R (d + 1) mX8_has 0 [.ref a0, .int x1, .int x2, .retAddr 0] [] ((n, z, kd), I, J, F) Q := hR.go [] 22 h
set_option maxRecDepth 100000 in
theorem BX8_spell_0 {R : azP} (hR : azClosed R) {d n z : Nat} {kd : azK} {I : azI} {J : azJ} {F : azR} {Q : azQ} {a0 : Nat} {x1 : Int32}
    (h : (R d mX8_isPart 0 [.int x1] [] ((n, z, kd), I, J, F) fun v1 s2 => kI v1 fun r3 => ((¬ r3 = 0 → ((s2.1.2.2 a0).1 = 8 ∧ zOf (s2.2.2.2 a0 3) fun b4 => (((s2.1.2.2 b4).1 = 13 ∨ (s2.1.2.2 b4).1 = 14) ∧ vp_in x1 (s2.1.2.2 b4).2 ∧ zOp (s2.2.2.2 b4 x1.toNatClampNeg) (fun b5 => ((s2.1.2.2 a0).1 = 8 ∧ zOf (s2.2.2.2 a0 5) fun b6 => ((s2.1.2.2 a0).1 = 8 ∧ zOf (s2.2.2.2 a0 3) fun b7 => (((s2.1.2.2 b7).1 = 13 ∨ (s2.1.2.2 b7).1 = 14) ∧ vp_in x1 (s2.1.2.2 b7).2 ∧ zOp (s2.2.2.2 b7 x1.toNatClampNeg) (fun b8 => ((s2.1.2.2 b6).1 = 4 ∧ R d mX4_writeRule 0 [.ref b6, .ref b8, .retAddr 0] [] s2 fun v9 s10 => v9 = none ∧ ((s10.1.2.2 a0).1 = 8 ∧ zOf (s10.2.2.2 a0 5) fun b11 => ((s10.1.2.2 b11).1 = 4 ∧ Q (some (.int (s10.2.1 b11 3))) s10)))) (((s2.1.2.2 b6).1 = 4 ∧ R d mX4_writeRule 0 [.ref b6, .null, .retAddr 0] [] s2 fun v12 s13 => v12 = none ∧ ((s13.1.2.2 a0).1 = 8 ∧ zOf (s13.2.2.2 a0 5) fun b14 => ((s13.1.2.2 b14).1 = 4 ∧ Q (some (.int (s13.2.1 b14 3))) s13)))))))) (Q (some (.int (-(nI 3)))) s2)))) ∧ (¬ (¬ r3 = 0) → Q (some (.int (-(nI 1)))) s2)))) :
    R (d + 1) mX8_spell 0 [.ref a0, .int x1] [] ((n, z, kd), I, J, F) Q := hR.go [] 20 h
theorem BX8_line_0 {R : azP} (hR : azClosed R) {d n z : Nat} {kd : azK} {I : azI} {J : azJ} {F : azR} {Q : azQ} {a0 : Nat}
    (h : ((kd a0).1 = 8 ∧ zOf (F a0 5) fun b1 => ((kd a0).1 = 8 ∧ zOf (F a0 0) fun b2 => ((kd b1).1 = 4 ∧ R d mX4_writeMarking 0 [.ref b1, .ref b2, .retAddr 0, .retAddr 0] [] ((n, z, kd), I, J, F) fun v3 s4 => v3 = none ∧ ((s4.1.2.2 a0).1 = 8 ∧ zOf (s4.2.2.2 a0 5) fun b5 => ((s4.1.2.2 b5).1 = 4 ∧ Q (some (.int (s4.2.1 b5 3))) s4)))))) :
    R (d + 1) mX8_line 0 [.ref a0] [] ((n, z, kd), I, J, F) Q := hR.go [] 10 h
theorem BX8_paper_0 {R : azP} (hR : azClosed R) {d n z : Nat} {kd : azK} {I : azI} {J : azJ} {F : azR} {Q : azQ} {a0 : Nat} {x1 : Int32}
    (h : ((kd a0).1 = 8 ∧ zOf (F a0 5) fun b1 => ((kd b1).1 = 4 ∧ R d mX4_at 0 [.ref b1, .int x1] [] ((n, z, kd), I, J, F) fun v2 s3 => kI v2 fun r4 => Q (some (.int r4)) s3))) :
    R (d + 1) mX8_paper 0 [.ref a0, .int x1] [] ((n, z, kd), I, J, F) Q := hR.go [] 6 h
set_option maxRecDepth 100000 in
theorem BX8_can_0 {R : azP} (hR : azClosed R) {d n z : Nat} {kd : azK} {I : azI} {J : azJ} {F : azR} {Q : azQ} {a0 : Nat} {x1 : Int32}
    (h : (R d mX8_isPart 0 [.int x1] [] ((n, z, kd), I, J, F) fun v1 s2 => kI v1 fun r3 => ((¬ r3 = 0 → ((s2.1.2.2 a0).1 = 8 ∧ zOf (s2.2.2.2 a0 3) fun b4 => (((s2.1.2.2 b4).1 = 13 ∨ (s2.1.2.2 b4).1 = 14) ∧ vp_in x1 (s2.1.2.2 b4).2 ∧ zOp (s2.2.2.2 b4 x1.toNatClampNeg) (fun b5 => ((s2.1.2.2 a0).1 = 8 ∧ zOf (s2.2.2.2 a0 6) fun b6 => ((s2.1.2.2 a0).1 = 8 ∧ zOf (s2.2.2.2 a0 3) fun b7 => (((s2.1.2.2 b7).1 = 13 ∨ (s2.1.2.2 b7).1 = 14) ∧ vp_in x1 (s2.1.2.2 b7).2 ∧ zOp (s2.2.2.2 b7 x1.toNatClampNeg) (fun b8 => ((s2.1.2.2 a0).1 = 8 ∧ zOf (s2.2.2.2 a0 0) fun b9 => ((s2.1.2.2 a0).1 = 8 ∧ zOf (s2.2.2.2 a0 1) fun b10 => ((s2.1.2.2 b6).1 = 1 ∧ R d mX1_goes 0 [.ref b6, .ref b8, .ref b9, .ref b10, .retAddr 0, .retAddr 0, .retAddr 0] [] s2 fun v11 s12 => kI v11 fun r13 => ((r13 = 0 → Q (some (.int (nI 0))) s12) ∧ (¬ (r13 = 0) → Q (some (.int (nI 1))) s12)))))) (((s2.1.2.2 a0).1 = 8 ∧ zOf (s2.2.2.2 a0 0) fun b14 => ((s2.1.2.2 a0).1 = 8 ∧ zOf (s2.2.2.2 a0 1) fun b15 => ((s2.1.2.2 b6).1 = 1 ∧ R d mX1_goes 0 [.ref b6, .null, .ref b14, .ref b15, .retAddr 0, .retAddr 0, .retAddr 0] [] s2 fun v16 s17 => kI v16 fun r18 => ((r18 = 0 → Q (some (.int (nI 0))) s17) ∧ (¬ (r18 = 0) → Q (some (.int (nI 1))) s17)))))))))) (Q (some (.int (-(nI 3)))) s2)))) ∧ (¬ (¬ r3 = 0) → Q (some (.int (-(nI 1)))) s2)))) :
    R (d + 1) mX8_can 0 [.ref a0, .int x1] [] ((n, z, kd), I, J, F) Q := hR.go [] 24 h
set_option maxRecDepth 100000 in
theorem BX8_bound_0 {R : azP} (hR : azClosed R) {d n z : Nat} {kd : azK} {I : azI} {J : azJ} {F : azR} {Q : azQ} {a0 : Nat} {x1 x2 : Int32}
    (h : (R d mX8_isPart 0 [.int x1] [] ((n, z, kd), I, J, F) fun v1 s2 => kI v1 fun r3 => ((¬ r3 = 0 → ((s2.1.2.2 a0).1 = 8 ∧ zOf (s2.2.2.2 a0 3) fun b4 => (((s2.1.2.2 b4).1 = 13 ∨ (s2.1.2.2 b4).1 = 14) ∧ vp_in x1 (s2.1.2.2 b4).2 ∧ zOp (s2.2.2.2 b4 x1.toNatClampNeg) (fun b5 => ((x2 < 0 → Q (some (.int (-(nI 1)))) s2) ∧ (¬ (x2 < 0) → ((s2.1.2.2 b5).1 = 5 ∧ ((x2 < (s2.2.1 b5 1) → ((s2.1.2.2 a0).1 = 8 ∧ zOf (s2.2.2.2 a0 6) fun b6 => ((s2.1.2.2 a0).1 = 8 ∧ zOf (s2.2.2.2 a0 0) fun b7 => ((s2.1.2.2 b6).1 = 1 ∧ R d mX1_bindFirst 0 [.ref b6, .ref b5, .ref b7] [] s2 fun v8 s9 => kI v8 fun r10 => ((r10 = 0 → Q (some (.int (-(nI 5)))) s9) ∧ (¬ (r10 = 0) → ((s9.1.2.2 a0).1 = 8 ∧ zOf (s9.2.2.2 a0 6) fun b11 => ((s9.1.2.2 b11).1 = 1 ∧ R d mX1_chosenFor 0 [.ref b11, .int x2] [] s9 fun v12 s13 => kI v12 fun r14 => Q (some (.int r14)) s13)))))))) ∧ (¬ (x2 < (s2.2.1 b5 1)) → Q (some (.int (-(nI 1)))) s2)))))) (Q (some (.int (-(nI 3)))) s2)))) ∧ (¬ (¬ r3 = 0) → Q (some (.int (-(nI 1)))) s2)))) :
    R (d + 1) mX8_bound 0 [.ref a0, .int x1, .int x2, .retAddr 0] [] ((n, z, kd), I, J, F) Q := hR.go [] 30 h
set_option maxRecDepth 100000 in
theorem BX8_bindings_0 {R : azP} (hR : azClosed R) {d n z : Nat} {kd : azK} {I : azI} {J : azJ} {F : azR} {Q : azQ} {a0 : Nat} {x1 : Int32}
    (h : (R d mX8_isPart 0 [.int x1] [] ((n, z, kd), I, J, F) fun v1 s2 => kI v1 fun r3 => ((¬ r3 = 0 → ((s2.1.2.2 a0).1 = 8 ∧ zOf (s2.2.2.2 a0 3) fun b4 => (((s2.1.2.2 b4).1 = 13 ∨ (s2.1.2.2 b4).1 = 14) ∧ vp_in x1 (s2.1.2.2 b4).2 ∧ zOp (s2.2.2.2 b4 x1.toNatClampNeg) (fun b5 => ((s2.1.2.2 a0).1 = 8 ∧ zOf (s2.2.2.2 a0 6) fun b6 => ((s2.1.2.2 a0).1 = 8 ∧ zOf (s2.2.2.2 a0 3) fun b7 => (((s2.1.2.2 b7).1 = 13 ∨ (s2.1.2.2 b7).1 = 14) ∧ vp_in x1 (s2.1.2.2 b7).2 ∧ zOp (s2.2.2.2 b7 x1.toNatClampNeg) (fun b8 => ((s2.1.2.2 a0).1 = 8 ∧ zOf (s2.2.2.2 a0 0) fun b9 => ((s2.1.2.2 b6).1 = 1 ∧ R d mX1_countBindings 0 [.ref b6, .ref b8, .ref b9] [] s2 fun v10 s11 => kI v10 fun r12 => Q (some (.int r12)) s11))) (((s2.1.2.2 a0).1 = 8 ∧ zOf (s2.2.2.2 a0 0) fun b13 => ((s2.1.2.2 b6).1 = 1 ∧ R d mX1_countBindings 0 [.ref b6, .null, .ref b13] [] s2 fun v14 s15 => kI v14 fun r16 => Q (some (.int r16)) s15))))))) (Q (some (.int (-(nI 3)))) s2)))) ∧ (¬ (¬ r3 = 0) → Q (some (.int (-(nI 1)))) s2)))) :
    R (d + 1) mX8_bindings 0 [.ref a0, .int x1] [] ((n, z, kd), I, J, F) Q := hR.go [] 19 h
set_option maxRecDepth 100000 in
theorem BX8_go_0 {R : azP} (hR : azClosed R) {d n z : Nat} {kd : azK} {I : azI} {J : azJ} {F : azR} {Q : azQ} {a0 : Nat} {x1 : Int32}
    (h : (R d mX8_isPart 0 [.int x1] [] ((n, z, kd), I, J, F) fun v1 s2 => kI v1 fun r3 => ((¬ r3 = 0 → ((s2.1.2.2 a0).1 = 8 ∧ zOf (s2.2.2.2 a0 6) fun b4 => ((s2.1.2.2 a0).1 = 8 ∧ zOf (s2.2.2.2 a0 3) fun b5 => (((s2.1.2.2 b5).1 = 13 ∨ (s2.1.2.2 b5).1 = 14) ∧ vp_in x1 (s2.1.2.2 b5).2 ∧ zOp (s2.2.2.2 b5 x1.toNatClampNeg) (fun b6 => ((s2.1.2.2 a0).1 = 8 ∧ zOf (s2.2.2.2 a0 0) fun b7 => ((s2.1.2.2 a0).1 = 8 ∧ zOf (s2.2.2.2 a0 1) fun b8 => ((s2.1.2.2 b4).1 = 1 ∧ R d mX1_goes 0 [.ref b4, .ref b6, .ref b7, .ref b8, .retAddr 0, .retAddr 0, .retAddr 0] [] s2 fun v9 s10 => kI v9 fun r11 => ((¬ r11 = 0 → ((s10.1.2.2 a0).1 = 8 ∧ zOf (s10.2.2.2 a0 0) fun b12 => ((s10.1.2.2 a0).1 = 8 ∧ zOf (s10.2.2.2 a0 1) fun b13 => ((s10.1.2.2 b12).1 = 3 ∧ R d mX3_copy 0 [.ref b12, .ref b13, .retAddr 0] [] s10 fun v14 s15 => v14 = none ∧ ((s15.1.2.2 a0).1 = 8 ∧ ((nI 0) = 0 ∨ (nI 0) = 1) ∧ ((s15.1.2.2 a0).1 = 8 ∧ ((s15.1.2.2 a0).1 = 8 ∧ ((s15.1.2.2 a0).1 = 8 ∧ Q (some (.int ((azUp ((azUp s15.2.1 a0 11 (nI 0))) a0 10 (((azUp s15.2.1 a0 11 (nI 0)) a0 10) + (nI 1))) a0 10))) ((s15.1), (azUp ((azUp s15.2.1 a0 11 (nI 0))) a0 10 (((azUp s15.2.1 a0 11 (nI 0)) a0 10) + (nI 1))), s15.2.2.1, s15.2.2.2))))))))) ∧ (¬ (¬ r11 = 0) → Q (some (.int (-(nI 3)))) s10)))))) (((s2.1.2.2 a0).1 = 8 ∧ zOf (s2.2.2.2 a0 0) fun b16 => ((s2.1.2.2 a0).1 = 8 ∧ zOf (s2.2.2.2 a0 1) fun b17 => ((s2.1.2.2 b4).1 = 1 ∧ R d mX1_goes 0 [.ref b4, .null, .ref b16, .ref b17, .retAddr 0, .retAddr 0, .retAddr 0] [] s2 fun v18 s19 => kI v18 fun r20 => ((¬ r20 = 0 → ((s19.1.2.2 a0).1 = 8 ∧ zOf (s19.2.2.2 a0 0) fun b21 => ((s19.1.2.2 a0).1 = 8 ∧ zOf (s19.2.2.2 a0 1) fun b22 => ((s19.1.2.2 b21).1 = 3 ∧ R d mX3_copy 0 [.ref b21, .ref b22, .retAddr 0] [] s19 fun v23 s24 => v23 = none ∧ ((s24.1.2.2 a0).1 = 8 ∧ ((nI 0) = 0 ∨ (nI 0) = 1) ∧ ((s24.1.2.2 a0).1 = 8 ∧ ((s24.1.2.2 a0).1 = 8 ∧ ((s24.1.2.2 a0).1 = 8 ∧ Q (some (.int ((azUp ((azUp s24.2.1 a0 11 (nI 0))) a0 10 (((azUp s24.2.1 a0 11 (nI 0)) a0 10) + (nI 1))) a0 10))) ((s24.1), (azUp ((azUp s24.2.1 a0 11 (nI 0))) a0 10 (((azUp s24.2.1 a0 11 (nI 0)) a0 10) + (nI 1))), s24.2.2.1, s24.2.2.2))))))))) ∧ (¬ (¬ r20 = 0) → Q (some (.int (-(nI 3)))) s19)))))))))) ∧ (¬ (¬ r3 = 0) → Q (some (.int (-(nI 1)))) s2)))) :
    R (d + 1) mX8_go 0 [.ref a0, .int x1] [] ((n, z, kd), I, J, F) Q := hR.go [] 33 h
theorem BX8_all_0 {R : azP} (hR : azClosed R) {d n z : Nat} {kd : azK} {I : azI} {J : azJ} {F : azR} {Q : azQ} {a0 : Nat}
    (h : R (d + 1) mX8_all 4 [.ref a0, .int (nI 0), .int (nI 0)] [] ((n, z, kd), I, J, F) Q) :
    R (d + 1) mX8_all 0 [.ref a0, .retAddr 0, .retAddr 0] [] ((n, z, kd), I, J, F) Q := hR.go [4] 6 h
set_option maxRecDepth 100000 in
theorem BX8_all_4 {R : azP} (hR : azClosed R) {d n z : Nat} {kd : azK} {I : azI} {J : azJ} {F : azR} {Q : azQ} {a0 : Nat} {x1 x2 : Int32}
    (h : (((nI 10) ≤ x2 → Q (some (.int x1)) ((n, z, kd), I, J, F)) ∧ (¬ ((nI 10) ≤ x2) → ((kd a0).1 = 8 ∧ zOf (F a0 6) fun b1 => ((kd a0).1 = 8 ∧ zOf (F a0 3) fun b2 => (((kd b2).1 = 13 ∨ (kd b2).1 = 14) ∧ vp_in x2 (kd b2).2 ∧ zOp (F b2 x2.toNatClampNeg) (fun b3 => ((kd a0).1 = 8 ∧ zOf (F a0 0) fun b4 => ((kd a0).1 = 8 ∧ zOf (F a0 1) fun b5 => ((kd b1).1 = 1 ∧ R d mX1_goes 0 [.ref b1, .ref b3, .ref b4, .ref b5, .retAddr 0, .retAddr 0, .retAddr 0] [] ((n, z, kd), I, J, F) fun v6 s7 => kI v6 fun r8 => ((r8 = 0 → R (d + 1) mX8_all 4 [.ref a0, .int x1, .int (x2 + (nI 1))] [] s7 Q) ∧ (¬ (r8 = 0) → R (d + 1) mX8_all 4 [.ref a0, .int (x1 ||| ((nI 1) <<< (x2 &&& 31))), .int (x2 + (nI 1))] [] s7 Q)))))) (((kd a0).1 = 8 ∧ zOf (F a0 0) fun b9 => ((kd a0).1 = 8 ∧ zOf (F a0 1) fun b10 => ((kd b1).1 = 1 ∧ R d mX1_goes 0 [.ref b1, .null, .ref b9, .ref b10, .retAddr 0, .retAddr 0, .retAddr 0] [] ((n, z, kd), I, J, F) fun v11 s12 => kI v11 fun r13 => ((r13 = 0 → R (d + 1) mX8_all 4 [.ref a0, .int x1, .int (x2 + (nI 1))] [] s12 Q) ∧ (¬ (r13 = 0) → R (d + 1) mX8_all 4 [.ref a0, .int (x1 ||| ((nI 1) <<< (x2 &&& 31))), .int (x2 + (nI 1))] [] s12 Q)))))))))))) :
    R (d + 1) mX8_all 4 [.ref a0, .int x1, .int x2] [] ((n, z, kd), I, J, F) Q := hR.go [4] 25 h
theorem BX8_again_0 {R : azP} (hR : azClosed R) {d n z : Nat} {kd : azK} {I : azI} {J : azJ} {F : azR} {Q : azQ} {a0 : Nat} {x1 x2 : Int32}
    (h : (R d mX8_isSet 0 [.int x1] [] ((n, z, kd), I, J, F) fun v1 s2 => kI v1 fun r3 => ((r3 = 0 → Q (some (.int (-(nI 2)))) s2) ∧ (¬ (r3 = 0) → (R d mX8_isTimes 0 [.int x2] [] s2 fun v4 s5 => kI v4 fun r6 => ((¬ r6 = 0 → ((s5.1.2.2 a0).1 = 8 ∧ R d mX8_tryOut 0 [.ref a0, .int x1, .int x2, .retAddr 0, .retAddr 0] [] s5 fun v7 s8 => kI v7 fun r9 => Q (some (.int r9)) s8)) ∧ (¬ (¬ r6 = 0) → Q (some (.int (-(nI 2)))) s5))))))) :
    R (d + 1) mX8_again 0 [.ref a0, .int x1, .int x2] [] ((n, z, kd), I, J, F) Q := hR.go [] 12 h
set_option maxRecDepth 100000 in
theorem BX8_last_0 {R : azP} (hR : azClosed R) {d n z : Nat} {kd : azK} {I : azI} {J : azJ} {F : azR} {Q : azQ} {a0 : Nat} {x1 x2 x3 : Int32}
    (h : (R d mX8_isSet 0 [.int x1] [] ((n, z, kd), I, J, F) fun v1 s2 => kI v1 fun r3 => ((r3 = 0 → Q (some (.int (-(nI 2)))) s2) ∧ (¬ (r3 = 0) → (R d mX8_isTimes 0 [.int x2] [] s2 fun v4 s5 => kI v4 fun r6 => ((¬ r6 = 0 → (R d mX8_isPlace 0 [.int x3] [] s5 fun v7 s8 => kI v7 fun r9 => ((¬ r9 = 0 → ((s8.1.2.2 a0).1 = 8 ∧ R d mX8_tryOut 0 [.ref a0, .int x1, .int x2, .retAddr 0, .retAddr 0] [] s8 fun v10 s11 => kI v10 fun r12 => ((s11.1.2.2 a0).1 = 8 ∧ zOf (s11.2.2.2 a0 2) fun b13 => ((s11.1.2.2 b13).1 = 3 ∧ R d mX3_count 0 [.ref b13, .int x3] [] s11 fun v14 s15 => kI v14 fun r16 => ((¬ r16 = 0 → ((s15.1.2.2 a0).1 = 8 ∧ zOf (s15.2.2.2 a0 2) fun b17 => ((s15.1.2.2 b17).1 = 3 ∧ R d mX3_at 0 [.ref b17, .int x3, .int (r16 - (nI 1))] [] s15 fun v18 s19 => kI v18 fun r20 => Q (some (.int r20)) s19))) ∧ (¬ (¬ r16 = 0) → Q (some (.int (-(nI 5)))) s15)))))) ∧ (¬ (¬ r9 = 0) → Q (some (.int (-(nI 1)))) s8)))) ∧ (¬ (¬ r6 = 0) → Q (some (.int (-(nI 2)))) s5))))))) :
    R (d + 1) mX8_last 0 [.ref a0, .int x1, .int x2, .int x3, .retAddr 0] [] ((n, z, kd), I, J, F) Q := hR.go [] 30 h
theorem BX8_reach_0 {R : azP} (hR : azClosed R) {d n z : Nat} {kd : azK} {I : azI} {J : azJ} {F : azR} {Q : azQ} {a0 : Nat} {x1 : Int32}
    (h : (R d mX8_isReach 0 [.int x1] [] ((n, z, kd), I, J, F) fun v1 s2 => kI v1 fun r3 => ((r3 = 0 → Q (some (.int (-(nI 2)))) s2) ∧ (¬ (r3 = 0) → ((s2.1.2.2 a0).1 = 8 ∧ R d mX8_walksNow 0 [.ref a0] [] s2 fun v4 s5 => kO v4 (fun r6 => ((s5.1.2.2 r6).1 = 7 ∧ R d mX7_among 0 [.ref r6, .int x1] [] s5 fun v7 s8 => kI v7 fun r9 => Q (some (.int r9)) s8)) (False)))))) :
    R (d + 1) mX8_reach 0 [.ref a0, .int x1] [] ((n, z, kd), I, J, F) Q := hR.go [] 10 h
theorem BX8_most_0 {R : azP} (hR : azClosed R) {d n z : Nat} {kd : azK} {I : azI} {J : azJ} {F : azR} {Q : azQ} {a0 : Nat} {x1 x2 : Int32}
    (h : (R d mX8_isPlace 0 [.int x1] [] ((n, z, kd), I, J, F) fun v1 s2 => kI v1 fun r3 => ((¬ r3 = 0 → (R d mX8_isReach 0 [.int x2] [] s2 fun v4 s5 => kI v4 fun r6 => ((r6 = 0 → Q (some (.int (-(nI 2)))) s5) ∧ (¬ (r6 = 0) → ((s5.1.2.2 a0).1 = 8 ∧ R d mX8_walksNow 0 [.ref a0] [] s5 fun v7 s8 => kO v7 (fun r9 => ((s8.1.2.2 r9).1 = 7 ∧ R d mX7_fullest 0 [.ref r9, .int x1, .int x2, .retAddr 0, .retAddr 0] [] s8 fun v10 s11 => kI v10 fun r12 => Q (some (.int r12)) s11)) (False)))))) ∧ (¬ (¬ r3 = 0) → Q (some (.int (-(nI 1)))) s2)))) :
    R (d + 1) mX8_most 0 [.ref a0, .int x1, .int x2] [] ((n, z, kd), I, J, F) Q := hR.go [] 14 h
theorem BX8_dead_0 {R : azP} (hR : azClosed R) {d n z : Nat} {kd : azK} {I : azI} {J : azJ} {F : azR} {Q : azQ} {a0 : Nat} {x1 : Int32}
    (h : (R d mX8_isReach 0 [.int x1] [] ((n, z, kd), I, J, F) fun v1 s2 => kI v1 fun r3 => ((r3 = 0 → Q (some (.int (-(nI 2)))) s2) ∧ (¬ (r3 = 0) → ((s2.1.2.2 a0).1 = 8 ∧ R d mX8_rulesTold 0 [.ref a0, .retAddr 0, .retAddr 0] [] s2 fun v4 s5 => kI v4 fun r6 => ((s5.1.2.2 a0).1 = 8 ∧ R d mX8_walksNow 0 [.ref a0] [] s5 fun v7 s8 => kO v7 (fun r9 => ((s8.1.2.2 r9).1 = 7 ∧ R d mX7_ableSomewhere 0 [.ref r9, .int x1, .retAddr 0, .retAddr 0] [] s8 fun v10 s11 => kI v10 fun r12 => Q (some (.int (r6 &&& (r12 ^^^ (-(nI 1)))))) s11)) (False))))))) :
    R (d + 1) mX8_dead 0 [.ref a0, .int x1] [] ((n, z, kd), I, J, F) Q := hR.go [] 15 h
theorem BX8_ends_0 {R : azP} (hR : azClosed R) {d n z : Nat} {kd : azK} {I : azI} {J : azJ} {F : azR} {Q : azQ} {a0 : Nat} {x1 : Int32}
    (h : (R d mX8_isReach 0 [.int x1] [] ((n, z, kd), I, J, F) fun v1 s2 => kI v1 fun r3 => ((r3 = 0 → Q (some (.int (-(nI 2)))) s2) ∧ (¬ (r3 = 0) → ((s2.1.2.2 a0).1 = 8 ∧ R d mX8_walksNow 0 [.ref a0] [] s2 fun v4 s5 => kO v4 (fun r6 => ((s5.1.2.2 r6).1 = 7 ∧ R d mX7_countEnds 0 [.ref r6, .int x1, .retAddr 0, .retAddr 0] [] s5 fun v7 s8 => kI v7 fun r9 => Q (some (.int r9)) s8)) (False)))))) :
    R (d + 1) mX8_ends 0 [.ref a0, .int x1] [] ((n, z, kd), I, J, F) Q := hR.go [] 10 h
theorem BX8_stuck_0 {R : azP} (hR : azClosed R) {d n z : Nat} {kd : azK} {I : azI} {J : azJ} {F : azR} {Q : azQ} {a0 : Nat} {x1 : Int32}
    (h : (R d mX8_isReach 0 [.int x1] [] ((n, z, kd), I, J, F) fun v1 s2 => kI v1 fun r3 => ((r3 = 0 → Q (some (.int (-(nI 2)))) s2) ∧ (¬ (r3 = 0) → ((s2.1.2.2 a0).1 = 8 ∧ R d mX8_walksNow 0 [.ref a0] [] s2 fun v4 s5 => kO v4 (fun r6 => ((s5.1.2.2 r6).1 = 7 ∧ R d mX7_firstStuck 0 [.ref r6, .int x1, .retAddr 0, .retAddr 0] [] s5 fun v7 s8 => kI v7 fun r9 => Q (some (.int r9)) s8)) (False)))))) :
    R (d + 1) mX8_stuck 0 [.ref a0, .int x1] [] ((n, z, kd), I, J, F) Q := hR.go [] 10 h
set_option maxRecDepth 100000 in
theorem BX8_walk_0 {R : azP} (hR : azClosed R) {d n z : Nat} {kd : azK} {I : azI} {J : azJ} {F : azR} {Q : azQ} {a0 : Nat} {x1 x2 x3 : Int32}
    (h : (R d mX8_isReach 0 [.int x1] [] ((n, z, kd), I, J, F) fun v1 s2 => kI v1 fun r3 => ((¬ r3 = 0 → ((x2 < 0 → Q (some (.int (-(nI 1)))) s2) ∧ (¬ (x2 < 0) → ((s2.1.2.2 a0).1 = 8 ∧ R d mX8_walksNow 0 [.ref a0] [] s2 fun v4 s5 => kO v4 (fun r6 => ((s5.1.2.2 r6).1 = 7 ∧ R d mX7_among 0 [.ref r6, .int x1] [] s5 fun v7 s8 => kI v7 fun r9 => ((x2 < r9 → ((s8.1.2.2 a0).1 = 8 ∧ zOf (s8.2.2.2 a0 7) fun b10 => ((s8.1.2.2 b10).1 = 7 ∧ R d mX7_steps 0 [.ref b10, .int x2, .retAddr 0, .retAddr 0, .retAddr 0] [] s8 fun v11 s12 => kI v11 fun r13 => ((¬ x3 = (-(nI 1)) → ((x3 < 0 → Q (some (.int (-(nI 1)))) s12) ∧ (¬ (x3 < 0) → ((r13 ≤ x3 → Q (some (.int (-(nI 1)))) s12) ∧ (¬ (r13 ≤ x3) → ((s12.1.2.2 a0).1 = 8 ∧ zOf (s12.2.2.2 a0 7) fun b14 => ((s12.1.2.2 b14).1 = 7 ∧ R d mX7_step 0 [.ref b14, .int x2, .int ((r13 - (nI 1)) - x3), .retAddr 0, .retAddr 0] [] s12 fun v15 s16 => kI v15 fun r17 => Q (some (.int r17)) s16))))))) ∧ (¬ (¬ x3 = (-(nI 1))) → Q (some (.int r13)) s12))))) ∧ (¬ (x2 < r9) → Q (some (.int (-(nI 1)))) s8)))) (False))))) ∧ (¬ (¬ r3 = 0) → Q (some (.int (-(nI 2)))) s2)))) :
    R (d + 1) mX8_walk 0 [.ref a0, .int x1, .int x2, .int x3, .retAddr 0] [] ((n, z, kd), I, J, F) Q := hR.go [] 36 h
set_option maxRecDepth 100000 in
theorem BX8_held_0 {R : azP} (hR : azClosed R) {d n z : Nat} {kd : azK} {I : azI} {J : azJ} {F : azR} {Q : azQ} {a0 : Nat} {x1 x2 x3 : Int32}
    (h : (R d mX8_isReach 0 [.int x1] [] ((n, z, kd), I, J, F) fun v1 s2 => kI v1 fun r3 => ((¬ r3 = 0 → ((x2 < 0 → Q (some (.int (-(nI 1)))) s2) ∧ (¬ (x2 < 0) → ((s2.1.2.2 a0).1 = 8 ∧ R d mX8_walksNow 0 [.ref a0] [] s2 fun v4 s5 => kO v4 (fun r6 => ((s5.1.2.2 r6).1 = 7 ∧ R d mX7_among 0 [.ref r6, .int x1] [] s5 fun v7 s8 => kI v7 fun r9 => ((r9 ≤ x2 → Q (some (.int (-(nI 1)))) s8) ∧ (¬ (r9 ≤ x2) → (R d mX8_isPlace 0 [.int x3] [] s8 fun v10 s11 => kI v10 fun r12 => ((¬ r12 = 0 → ((s11.1.2.2 a0).1 = 8 ∧ zOf (s11.2.2.2 a0 7) fun b13 => ((s11.1.2.2 b13).1 = 7 ∧ R d mX7_countIn 0 [.ref b13, .int x2, .int x3] [] s11 fun v14 s15 => kI v14 fun r16 => Q (some (.int r16)) s15))) ∧ (¬ (¬ r12 = 0) → Q (some (.int (-(nI 1)))) s11))))))) (False))))) ∧ (¬ (¬ r3 = 0) → Q (some (.int (-(nI 2)))) s2)))) :
    R (d + 1) mX8_held 0 [.ref a0, .int x1, .int x2, .int x3] [] ((n, z, kd), I, J, F) Q := hR.go [] 21 h
set_option maxRecDepth 100000 in
theorem BX8_change_0 {R : azP} (hR : azClosed R) {d n z : Nat} {kd : azK} {I : azI} {J : azJ} {F : azR} {Q : azQ} {a0 : Nat} {x1 x2 : Int32}
    (h : (R d mX8_isPart 0 [.int x1] [] ((n, z, kd), I, J, F) fun v1 s2 => kI v1 fun r3 => ((r3 = 0 → Q (some (.int (-(nI 1)))) s2) ∧ (¬ (r3 = 0) → (R d mX8_isPlace 0 [.int x2] [] s2 fun v4 s5 => kI v4 fun r6 => ((¬ r6 = 0 → ((s5.1.2.2 a0).1 = 8 ∧ zOf (s5.2.2.2 a0 3) fun b7 => (((s5.1.2.2 b7).1 = 13 ∨ (s5.1.2.2 b7).1 = 14) ∧ vp_in x1 (s5.1.2.2 b7).2 ∧ zOp (s5.2.2.2 b7 x1.toNatClampNeg) (fun b8 => ((s5.1.2.2 a0).1 = 8 ∧ zOf (s5.2.2.2 a0 3) fun b9 => (((s5.1.2.2 b9).1 = 13 ∨ (s5.1.2.2 b9).1 = 14) ∧ vp_in x1 (s5.1.2.2 b9).2 ∧ zOp (s5.2.2.2 b9 x1.toNatClampNeg) (fun b10 => ((s5.1.2.2 b10).1 = 5 ∧ R d mX5_changeOf 0 [.ref b10, .int x2, .retAddr 0, .retAddr 0] [] s5 fun v11 s12 => kI v11 fun r13 => Q (some (.int r13)) s12)) (False)))) (Q (some (.int (-(nI 3)))) s5)))) ∧ (¬ (¬ r6 = 0) → Q (some (.int (-(nI 1)))) s5))))))) :
    R (d + 1) mX8_change 0 [.ref a0, .int x1, .int x2] [] ((n, z, kd), I, J, F) Q := hR.go [] 19 h
theorem BX8_invariants_0 {R : azP} (hR : azClosed R) {d n z : Nat} {kd : azK} {I : azI} {J : azJ} {F : azR} {Q : azQ} {a0 : Nat}
    (h : ((kd a0).1 = 8 ∧ zOf (F a0 8) fun b1 => ((kd a0).1 = 8 ∧ zOf (F a0 3) fun b2 => ((kd b1).1 = 0 ∧ R d mX0_solve 0 [.ref b1, .ref b2, .retAddr 0, .retAddr 0, .retAddr 0] [] ((n, z, kd), I, J, F) fun v3 s4 => v3 = none ∧ ((s4.1.2.2 a0).1 = 8 ∧ zOf (s4.2.2.2 a0 8) fun b5 => ((s4.1.2.2 b5).1 = 0 ∧ R d mX0_count 0 [.ref b5, .retAddr 0, .retAddr 0] [] s4 fun v6 s7 => kI v6 fun r8 => Q (some (.int r8)) s7)))))) :
    R (d + 1) mX8_invariants 0 [.ref a0] [] ((n, z, kd), I, J, F) Q := hR.go [] 10 h
set_option maxRecDepth 100000 in
theorem BX8_weight_0 {R : azP} (hR : azClosed R) {d n z : Nat} {kd : azK} {I : azI} {J : azJ} {F : azR} {Q : azQ} {a0 : Nat} {x1 x2 x3 : Int32}
    (h : ((kd a0).1 = 8 ∧ zOf (F a0 8) fun b1 => ((kd a0).1 = 8 ∧ zOf (F a0 3) fun b2 => ((kd b1).1 = 0 ∧ R d mX0_solve 0 [.ref b1, .ref b2, .retAddr 0, .retAddr 0, .retAddr 0] [] ((n, z, kd), I, J, F) fun v3 s4 => v3 = none ∧ ((s4.1.2.2 a0).1 = 8 ∧ zOf (s4.2.2.2 a0 8) fun b5 => ((s4.1.2.2 b5).1 = 0 ∧ R d mX0_placeOf 0 [.ref b5, .int x1, .retAddr 0, .retAddr 0] [] s4 fun v6 s7 => kI v6 fun r8 => ((r8 < 0 → Q (some (.long ((-9223372036854775808 : Int64)))) s7) ∧ (¬ (r8 < 0) → (R d mX8_isPlace 0 [.int x2] [] s7 fun v9 s10 => kI v9 fun r11 => ((r11 = 0 → Q (some (.long ((-9223372036854775808 : Int64)))) s10) ∧ (¬ (r11 = 0) → (R d mX8_isSide 0 [.int x3] [] s10 fun v12 s13 => kI v12 fun r14 => ((¬ r14 = 0 → ((s13.1.2.2 a0).1 = 8 ∧ zOf (s13.2.2.2 a0 8) fun b15 => ((s13.1.2.2 b15).1 = 0 ∧ R d mX0_weigh 0 [.ref b15, .int r8, .int x2, .retAddr 0] [] s13 fun v16 s17 => v16 = none ∧ ((¬ x3 = 0 → ((s17.1.2.2 a0).1 = 8 ∧ zOf (s17.2.2.2 a0 8) fun b18 => ((s17.1.2.2 b18).1 = 0 ∧ Q (some (.long (s17.2.2.1 b18 3))) s17))) ∧ (¬ (¬ x3 = 0) → ((s17.1.2.2 a0).1 = 8 ∧ zOf (s17.2.2.2 a0 8) fun b19 => ((s17.1.2.2 b19).1 = 0 ∧ Q (some (.long (s17.2.2.1 b19 2))) s17))))))) ∧ (¬ (¬ r14 = 0) → Q (some (.long ((-9223372036854775808 : Int64)))) s13)))))))))))))) :
    R (d + 1) mX8_weight 0 [.ref a0, .int x1, .int x2, .int x3, .retAddr 0] [] ((n, z, kd), I, J, F) Q := hR.go [] 31 h
set_option maxRecDepth 100000 in
theorem BX8_sum_0 {R : azP} (hR : azClosed R) {d n z : Nat} {kd : azK} {I : azI} {J : azJ} {F : azR} {Q : azQ} {a0 : Nat} {x1 x2 : Int32}
    (h : ((kd a0).1 = 8 ∧ zOf (F a0 8) fun b1 => ((kd a0).1 = 8 ∧ zOf (F a0 3) fun b2 => ((kd b1).1 = 0 ∧ R d mX0_solve 0 [.ref b1, .ref b2, .retAddr 0, .retAddr 0, .retAddr 0] [] ((n, z, kd), I, J, F) fun v3 s4 => v3 = none ∧ ((s4.1.2.2 a0).1 = 8 ∧ zOf (s4.2.2.2 a0 8) fun b5 => ((s4.1.2.2 b5).1 = 0 ∧ R d mX0_placeOf 0 [.ref b5, .int x1, .retAddr 0, .retAddr 0] [] s4 fun v6 s7 => kI v6 fun r8 => ((r8 < 0 → Q (some (.int (-(nI 1)))) s7) ∧ (¬ (r8 < 0) → (R d mX8_isSide 0 [.int x2] [] s7 fun v9 s10 => kI v9 fun r11 => ((¬ r11 = 0 → ((s10.1.2.2 a0).1 = 8 ∧ zOf (s10.2.2.2 a0 8) fun b12 => ((s10.1.2.2 a0).1 = 8 ∧ zOf (s10.2.2.2 a0 0) fun b13 => ((s10.1.2.2 b12).1 = 0 ∧ R d mX0_addUp 0 [.ref b12, .int r8, .ref b13, .retAddr 0, .retAddr 0, .retAddr 0, .retAddr 0, .retAddr 0] [] s10 fun v14 s15 => v14 = none ∧ ((¬ x2 = 0 → ((s15.1.2.2 a0).1 = 8 ∧ zOf (s15.2.2.2 a0 8) fun b16 => ((s15.1.2.2 b16).1 = 0 ∧ Q (some (.int ((s15.2.2.1 b16 3).toInt32))) s15))) ∧ (¬ (¬ x2 = 0) → ((s15.1.2.2 a0).1 = 8 ∧ zOf (s15.2.2.2 a0 8) fun b17 => ((s15.1.2.2 b17).1 = 0 ∧ Q (some (.int ((s15.2.2.1 b17 2).toInt32))) s15)))))))) ∧ (¬ (¬ r11 = 0) → Q (some (.int (-(nI 1)))) s10))))))))))) :
    R (d + 1) mX8_sum 0 [.ref a0, .int x1, .int x2, .retAddr 0] [] ((n, z, kd), I, J, F) Q := hR.go [] 30 h
set_option maxRecDepth 100000 in
theorem BX8_told_0 {R : azP} (hR : azClosed R) {d n z : Nat} {kd : azK} {I : azI} {J : azJ} {F : azR} {Q : azQ} {a0 : Nat} {x1 : Int32}
    (h : ((x1.toInt < 0 ∨ 4 < x1.toInt → Q (some (.int (-(nI 1)))) ((n, z, kd), I, J, F)) ∧ (x1.toInt = 0 → ((kd a0).1 = 8 ∧ zOf (F a0 0) fun b1 => ((kd b1).1 = 3 ∧ R d mX3_total 0 [.ref b1, .retAddr 0, .retAddr 0] [] ((n, z, kd), I, J, F) fun v2 s3 => kI v2 fun r4 => Q (some (.int r4)) s3))) ∧ (x1.toInt = 0 + 1 → ((kd a0).1 = 8 ∧ R d mX8_rulesTold 0 [.ref a0, .retAddr 0, .retAddr 0] [] ((n, z, kd), I, J, F) fun v5 s6 => kI v5 fun r7 => (R d mJ6_bitCount_0f7a4 0 [.int r7] [] s6 fun v8 s9 => kI v8 fun r10 => Q (some (.int r10)) s9))) ∧ (x1.toInt = 0 + 1 + 1 → ((kd a0).1 = 8 ∧ Q (some (.int (I a0 10))) ((n, z, kd), I, J, F))) ∧ (x1.toInt = 0 + 1 + 1 + 1 → ((kd a0).1 = 8 ∧ zOf (F a0 4) fun b11 => ((kd b11).1 = 6 ∧ Q (some (.int (I b11 1))) ((n, z, kd), I, J, F)))) ∧ (x1.toInt = 0 + 1 + 1 + 1 + 1 → ((kd a0).1 = 8 ∧ zOf (F a0 5) fun b12 => ((kd b12).1 = 4 ∧ Q (some (.int (I b12 3))) ((n, z, kd), I, J, F)))) ∧ True)) :
    R (d + 1) mX8_told 0 [.ref a0, .int x1] [] ((n, z, kd), I, J, F) Q := hR.go [] 7 h
theorem BX8_image_0 {R : azP} (hR : azClosed R) {d n z : Nat} {kd : azK} {I : azI} {J : azJ} {F : azR} {Q : azQ} {a0 : Nat}
    (h : ((kd a0).1 = 8 ∧ zOf (F a0 9) fun b1 => ((kd a0).1 = 8 ∧ zOf (F a0 0) fun b2 => ((kd a0).1 = 8 ∧ zOf (F a0 3) fun b3 => ((kd a0).1 = 8 ∧ ((kd b1).1 = 2 ∧ R d mX2_keep 0 [.ref b1, .ref b2, .ref b3, .int (I a0 10), .retAddr 0] [] ((n, z, kd), I, J, F) fun v4 s5 => v4 = none ∧ ((s5.1.2.2 a0).1 = 8 ∧ zOf (s5.2.2.2 a0 0) fun b6 => ((s5.1.2.2 b6).1 = 3 ∧ R d mX3_total 0 [.ref b6, .retAddr 0, .retAddr 0] [] s5 fun v7 s8 => kI v7 fun r9 => Q (some (.int r9)) s8)))))))) :
    R (d + 1) mX8_image 0 [.ref a0] [] ((n, z, kd), I, J, F) Q := hR.go [] 14 h
set_option maxRecDepth 100000 in
theorem BX8_undo_0 {R : azP} (hR : azClosed R) {d n z : Nat} {kd : azK} {I : azI} {J : azJ} {F : azR} {Q : azQ} {a0 : Nat}
    (h : ((kd a0).1 = 8 ∧ zOf (F a0 9) fun b1 => ((kd b1).1 = 2 ∧ ((¬ (I b1 3) = 0 → ((kd a0).1 = 8 ∧ zOf (F a0 9) fun b2 => ((kd a0).1 = 8 ∧ zOf (F a0 0) fun b3 => ((kd a0).1 = 8 ∧ zOf (F a0 3) fun b4 => ((kd b2).1 = 2 ∧ R d mX2_giveBack 0 [.ref b2, .ref b3, .ref b4, .retAddr 0] [] ((n, z, kd), I, J, F) fun v5 s6 => v5 = none ∧ ((s6.1.2.2 a0).1 = 8 ∧ zOf (s6.2.2.2 a0 9) fun b7 => ((s6.1.2.2 b7).1 = 2 ∧ ((s6.1.2.2 a0).1 = 8 ∧ ((s6.1.2.2 a0).1 = 8 ∧ ((nI 0) = 0 ∨ (nI 0) = 1) ∧ ((s6.1.2.2 a0).1 = 8 ∧ zOf (s6.2.2.2 a0 0) fun b8 => ((s6.1.2.2 b8).1 = 3 ∧ R d mX3_total 0 [.ref b8, .retAddr 0, .retAddr 0] [] ((s6.1), (azUp ((azUp s6.2.1 a0 10 (s6.2.1 b7 2))) a0 11 (nI 0)), s6.2.2.1, s6.2.2.2) fun v9 s10 => kI v9 fun r11 => Q (some (.int r11)) s10))))))))))) ∧ (¬ (¬ (I b1 3) = 0) → Q (some (.int (-(nI 3)))) ((n, z, kd), I, J, F)))))) :
    R (d + 1) mX8_undo 0 [.ref a0] [] ((n, z, kd), I, J, F) Q := hR.go [] 24 h
theorem BX8_rulesTold_0 {R : azP} (hR : azClosed R) {d n z : Nat} {kd : azK} {I : azI} {J : azJ} {F : azR} {Q : azQ} {a0 : Nat}
    (h : R d mX8_rulesTold 4 [.ref a0, .int (nI 0), .int (nI 0)] [] ((n, z, kd), I, J, F) Q) :
    R d mX8_rulesTold 0 [.ref a0, .retAddr 0, .retAddr 0] [] ((n, z, kd), I, J, F) Q := hR.go [4] 6 h
theorem BX8_rulesTold_4 {R : azP} (hR : azClosed R) {d n z : Nat} {kd : azK} {I : azI} {J : azJ} {F : azR} {Q : azQ} {a0 : Nat} {x1 x2 : Int32}
    (h : (((nI 10) ≤ x2 → Q (some (.int x1)) ((n, z, kd), I, J, F)) ∧ (¬ ((nI 10) ≤ x2) → ((kd a0).1 = 8 ∧ zOf (F a0 3) fun b1 => (((kd b1).1 = 13 ∨ (kd b1).1 = 14) ∧ vp_in x2 (kd b1).2 ∧ zOp (F b1 x2.toNatClampNeg) (fun b2 => R d mX8_rulesTold 4 [.ref a0, .int (x1 ||| ((nI 1) <<< (x2 &&& 31))), .int (x2 + (nI 1))] [] ((n, z, kd), I, J, F) Q) (R d mX8_rulesTold 4 [.ref a0, .int x1, .int (x2 + (nI 1))] [] ((n, z, kd), I, J, F) Q)))))) :
    R d mX8_rulesTold 4 [.ref a0, .int x1, .int x2] [] ((n, z, kd), I, J, F) Q := hR.go [4] 18 h
theorem BX8_tryOut_0 {R : azP} (hR : azClosed R) {d n z : Nat} {kd : azK} {I : azI} {J : azJ} {F : azR} {Q : azQ} {a0 : Nat} {x1 x2 : Int32}
    (h : ((kd a0).1 = 8 ∧ zOf (F a0 2) fun b1 => ((kd a0).1 = 8 ∧ zOf (F a0 0) fun b2 => ((kd b1).1 = 3 ∧ R d mX3_copy 0 [.ref b1, .ref b2, .retAddr 0] [] ((n, z, kd), I, J, F) fun v3 s4 => v3 = none ∧ R (d + 1) mX8_tryOut 16 [.ref a0, .int x1, .int x2, .int (nI 0), .int (nI 0)] [] s4 Q)))) :
    R (d + 1) mX8_tryOut 0 [.ref a0, .int x1, .int x2, .retAddr 0, .retAddr 0] [] ((n, z, kd), I, J, F) Q := hR.go [16] 11 h
theorem BX8_tryOut_16 {R : azP} (hR : azClosed R) {d n z : Nat} {kd : azK} {I : azI} {J : azJ} {F : azR} {Q : azQ} {a0 : Nat} {x1 x2 x3 x4 : Int32}
    (h : ((x2 ≤ x4 → Q (some (.int x3)) ((n, z, kd), I, J, F)) ∧ (¬ (x2 ≤ x4) → ((kd a0).1 = 8 ∧ R d mX8_tryOne 0 [.ref a0, .int x1, .retAddr 0] [] ((n, z, kd), I, J, F) fun v1 s2 => kI v1 fun r3 => ((¬ r3 = 0 → R (d + 1) mX8_tryOut 16 [.ref a0, .int x1, .int x2, .int (x3 + (nI 1)), .int (x4 + (nI 1))] [] s2 Q) ∧ (¬ (¬ r3 = 0) → Q (some (.int x3)) s2)))))) :
    R (d + 1) mX8_tryOut 16 [.ref a0, .int x1, .int x2, .int x3, .int x4] [] ((n, z, kd), I, J, F) Q := hR.go [16] 12 h
theorem BX8_tryOne_0 {R : azP} (hR : azClosed R) {d n z : Nat} {kd : azK} {I : azI} {J : azJ} {F : azR} {Q : azQ} {a0 : Nat} {x1 : Int32}
    (h : R (d + 1) mX8_tryOne 2 [.ref a0, .int x1, .int (nI 0)] [] ((n, z, kd), I, J, F) Q) :
    R (d + 1) mX8_tryOne 0 [.ref a0, .int x1, .retAddr 0] [] ((n, z, kd), I, J, F) Q := hR.go [2] 4 h
set_option maxRecDepth 100000 in
theorem BX8_tryOne_2 {R : azP} (hR : azClosed R) {d n z : Nat} {kd : azK} {I : azI} {J : azJ} {F : azR} {Q : azQ} {a0 : Nat} {x1 x2 : Int32}
    (h : (((nI 10) ≤ x2 → (((nI 0) = 0 ∨ (nI 0) = 1) ∧ Q (some (.int (nI 0))) ((n, z, kd), I, J, F))) ∧ (¬ ((nI 10) ≤ x2) → ((¬ ((x1 >>> (x2 &&& 31)) &&& (nI 1)) = (nI 1) → R (d + 1) mX8_tryOne 2 [.ref a0, .int x1, .int (x2 + (nI 1))] [] ((n, z, kd), I, J, F) Q) ∧ (¬ (¬ ((x1 >>> (x2 &&& 31)) &&& (nI 1)) = (nI 1)) → ((kd a0).1 = 8 ∧ zOf (F a0 6) fun b1 => ((kd a0).1 = 8 ∧ zOf (F a0 3) fun b2 => (((kd b2).1 = 13 ∨ (kd b2).1 = 14) ∧ vp_in x2 (kd b2).2 ∧ zOp (F b2 x2.toNatClampNeg) (fun b3 => ((kd a0).1 = 8 ∧ zOf (F a0 2) fun b4 => ((kd a0).1 = 8 ∧ zOf (F a0 1) fun b5 => ((kd b1).1 = 1 ∧ R d mX1_goes 0 [.ref b1, .ref b3, .ref b4, .ref b5, .retAddr 0, .retAddr 0, .retAddr 0] [] ((n, z, kd), I, J, F) fun v6 s7 => kI v6 fun r8 => ((r8 = 0 → R (d + 1) mX8_tryOne 2 [.ref a0, .int x1, .int (x2 + (nI 1))] [] s7 Q) ∧ (¬ (r8 = 0) → ((s7.1.2.2 a0).1 = 8 ∧ zOf (s7.2.2.2 a0 2) fun b9 => ((s7.1.2.2 a0).1 = 8 ∧ zOf (s7.2.2.2 a0 1) fun b10 => ((s7.1.2.2 b9).1 = 3 ∧ R d mX3_copy 0 [.ref b9, .ref b10, .retAddr 0] [] s7 fun v11 s12 => v11 = none ∧ (((nI 1) = 0 ∨ (nI 1) = 1) ∧ Q (some (.int (nI 1))) s12)))))))))) (((kd a0).1 = 8 ∧ zOf (F a0 2) fun b13 => ((kd a0).1 = 8 ∧ zOf (F a0 1) fun b14 => ((kd b1).1 = 1 ∧ R d mX1_goes 0 [.ref b1, .null, .ref b13, .ref b14, .retAddr 0, .retAddr 0, .retAddr 0] [] ((n, z, kd), I, J, F) fun v15 s16 => kI v15 fun r17 => ((r17 = 0 → R (d + 1) mX8_tryOne 2 [.ref a0, .int x1, .int (x2 + (nI 1))] [] s16 Q) ∧ (¬ (r17 = 0) → ((s16.1.2.2 a0).1 = 8 ∧ zOf (s16.2.2.2 a0 2) fun b18 => ((s16.1.2.2 a0).1 = 8 ∧ zOf (s16.2.2.2 a0 1) fun b19 => ((s16.1.2.2 b18).1 = 3 ∧ R d mX3_copy 0 [.ref b18, .ref b19, .retAddr 0] [] s16 fun v20 s21 => v20 = none ∧ (((nI 1) = 0 ∨ (nI 1) = 1) ∧ Q (some (.int (nI 1))) s21)))))))))))))))))) :
    R (d + 1) mX8_tryOne 2 [.ref a0, .int x1, .int x2] [] ((n, z, kd), I, J, F) Q := hR.go [2] 30 h
theorem BX8_walksNow_0 {R : azP} (hR : azClosed R) {d n z : Nat} {kd : azK} {I : azI} {J : azJ} {F : azR} {Q : azQ} {a0 : Nat}
    (h : ((kd a0).1 = 8 ∧ ((¬ (I a0 11) = 0 → ((kd a0).1 = 8 ∧ zOf (F a0 7) fun b1 => Q (some (.ref b1)) ((n, z, kd), I, J, F))) ∧ (¬ (¬ (I a0 11) = 0) → ((kd a0).1 = 8 ∧ zOf (F a0 7) fun b2 => ((kd a0).1 = 8 ∧ zOf (F a0 0) fun b3 => ((kd a0).1 = 8 ∧ zOf (F a0 3) fun b4 => ((kd a0).1 = 8 ∧ zOf (F a0 6) fun b5 => ((kd b2).1 = 7 ∧ R d mX7_search 0 [.ref b2, .ref b3, .ref b4, .ref b5, .retAddr 0, .retAddr 0] [] ((n, z, kd), I, J, F) fun v6 s7 => v6 = none ∧ ((s7.1.2.2 a0).1 = 8 ∧ ((nI 1) = 0 ∨ (nI 1) = 1) ∧ ((s7.1.2.2 a0).1 = 8 ∧ zOf (s7.2.2.2 a0 7) fun b8 => Q (some (.ref b8)) ((s7.1), (azUp s7.2.1 a0 11 (nI 1)), s7.2.2.1, s7.2.2.2)))))))))))) :
    R (d + 1) mX8_walksNow 0 [.ref a0] [] ((n, z, kd), I, J, F) Q := hR.go [] 19 h
end
section
/-! BLOCKS: the reference, first half (written by wip/whole/blocks.py) -/
theorem BX9_isIn_0 {R : azP} (hR : azClosed R) {d n z : Nat} {kd : azK} {I : azI} {J : azJ} {F : azR} {Q : azQ} {y0 y2 y4 : Int64}
    (h : (((lg_cmp y0 y2) < 0 → (((nI 0) = 0 ∨ (nI 0) = 1) ∧ Q (some (.int (nI 0))) ((n, z, kd), I, J, F))) ∧ (¬ ((lg_cmp y0 y2) < 0) → ((0 < (lg_cmp y0 y4) → (((nI 0) = 0 ∨ (nI 0) = 1) ∧ Q (some (.int (nI 0))) ((n, z, kd), I, J, F))) ∧ (¬ (0 < (lg_cmp y0 y4)) → (((nI 1) = 0 ∨ (nI 1) = 1) ∧ Q (some (.int (nI 1))) ((n, z, kd), I, J, F))))))) :
    R d mX9_isIn 0 [.long y0, .retAddr 1, .long y2, .retAddr 1, .long y4, .retAddr 1] [] ((n, z, kd), I, J, F) Q := hR.go [] 12 h
theorem BX9_isPlace_0 {R : azP} (hR : azClosed R) {d n z : Nat} {kd : azK} {I : azI} {J : azJ} {F : azR} {Q : azQ} {x0 : Int32}
    (h : (R d mX9_isIn 0 [.long x0.toInt64, .retAddr 1, .long (lN 0), .retAddr 1, .long ((9 : Int64)), .retAddr 1] [] ((n, z, kd), I, J, F) fun v1 s2 => kI v1 fun r3 => ((r3 = 0 ∨ r3 = 1) ∧ Q (some (.int r3)) s2))) :
    R (d + 1) mX9_isPlace 0 [.int x0] [] ((n, z, kd), I, J, F) Q := hR.go [] 7 h
theorem BX9_pours_0 {R : azP} (hR : azClosed R) {d n z : Nat} {kd : azK} {I : azI} {J : azJ} {F : azR} {Q : azQ} {a0 a2 : Nat} {x1 x3 x4 : Int32}
    (h : R d mX9_pours 3 [.ref a0, .int x1, .ref a2, .int x3, .int x4, .int (nI 0)] [] ((n, z, kd), I, J, F) Q) :
    R d mX9_pours 0 [.ref a0, .int x1, .ref a2, .int x3, .int x4, .retAddr 0] [] ((n, z, kd), I, J, F) Q := hR.go [3] 4 h
theorem BX9_pours_3 {R : azP} (hR : azClosed R) {d n z : Nat} {kd : azK} {I : azI} {J : azJ} {F : azR} {Q : azQ} {a0 a2 : Nat} {x1 x3 x4 x5 : Int32}
    (h : ((x4 ≤ x5 → Q none ((n, z, kd), I, J, F)) ∧ (¬ (x4 ≤ x5) → (((kd a0).1 = 10 ∨ (kd a0).1 = 15) ∧ vp_in (x1 + x5) (kd a0).2 ∧ ((kd a2).1 = 10 ∧ vp_in (x3 + x5) (kd a2).2 ∧ R d mX9_pours 3 [.ref a0, .int x1, .ref a2, .int x3, .int x4, .int (x5 + (nI 1))] [] ((n, z, kd), (azUp I a2 ((x3 + x5).toNatClampNeg) (I a0 ((x1 + x5).toNatClampNeg))), J, F) Q))))) :
    R d mX9_pours 3 [.ref a0, .int x1, .ref a2, .int x3, .int x4, .int x5] [] ((n, z, kd), I, J, F) Q := hR.go [3] 17 h
theorem BX9_at_0 {R : azP} (hR : azClosed R) {d n z : Nat} {kd : azK} {I : azI} {J : azJ} {F : azR} {Q : azQ} {x0 x1 : Int32}
    (h : Q (some (.int (((nI 10) + ((nI 6) * x0)) + x1))) ((n, z, kd), I, J, F)) :
    R d mX9_at 0 [.int x0, .int x1] [] ((n, z, kd), I, J, F) Q := hR.go [] 9 h
theorem BX9_removes_0 {R : azP} (hR : azClosed R) {d n z : Nat} {kd : azK} {I : azI} {J : azJ} {F : azR} {Q : azQ} {a0 : Nat} {x1 x2 : Int32}
    (h : R (d + 1) mX9_removes 2 [.ref a0, .int x1, .int x2, .int x2] [] ((n, z, kd), I, J, F) Q) :
    R (d + 1) mX9_removes 0 [.ref a0, .int x1, .int x2, .retAddr 0] [] ((n, z, kd), I, J, F) Q := hR.go [2] 4 h
set_option maxRecDepth 100000 in
theorem BX9_removes_2 {R : azP} (hR : azClosed R) {d n z : Nat} {kd : azK} {I : azI} {J : azJ} {F : azR} {Q : azQ} {a0 : Nat} {x1 x2 x3 : Int32}
    (h : (((nI 5) ≤ x3 → (R d mX9_at 0 [.int x1, .int (nI 5)] [] ((n, z, kd), I, J, F) fun v1 s2 => kI v1 fun r3 => ((s2.1.2.2 a0).1 = 10 ∧ vp_in r3 (s2.1.2.2 a0).2 ∧ (((s2.1.2.2 a0).1 = 10 ∨ (s2.1.2.2 a0).1 = 15) ∧ vp_in x1 (s2.1.2.2 a0).2 ∧ ((s2.1.2.2 a0).1 = 10 ∧ vp_in x1 (s2.1.2.2 a0).2 ∧ Q none ((s2.1), (azUp ((azUp s2.2.1 a0 r3.toNatClampNeg (nI 0))) a0 x1.toNatClampNeg (((azUp s2.2.1 a0 r3.toNatClampNeg (nI 0)) a0 x1.toNatClampNeg) - (nI 1))), s2.2.2.1, s2.2.2.2)))))) ∧ (¬ ((nI 5) ≤ x3) → (R d mX9_at 0 [.int x1, .int x3] [] ((n, z, kd), I, J, F) fun v4 s5 => kI v4 fun r6 => (R d mX9_at 0 [.int x1, .int (x3 + (nI 1))] [] s5 fun v7 s8 => kI v7 fun r9 => (((s8.1.2.2 a0).1 = 10 ∨ (s8.1.2.2 a0).1 = 15) ∧ vp_in r9 (s8.1.2.2 a0).2 ∧ ((s8.1.2.2 a0).1 = 10 ∧ vp_in r6 (s8.1.2.2 a0).2 ∧ R (d + 1) mX9_removes 2 [.ref a0, .int x1, .int x2, .int (x3 + (nI 1))] [] ((s8.1), (azUp s8.2.1 a0 r6.toNatClampNeg (s8.2.1 a0 r9.toNatClampNeg)), s8.2.2.1, s8.2.2.2) Q))))))) :
    R (d + 1) mX9_removes 2 [.ref a0, .int x1, .int x2, .int x3] [] ((n, z, kd), I, J, F) Q := hR.go [2] 19 h
set_option maxRecDepth 100000 in
theorem BX9_adds_0 {R : azP} (hR : azClosed R) {d n z : Nat} {kd : azK} {I : azI} {J : azJ} {F : azR} {Q : azQ} {a0 : Nat} {x1 x2 : Int32}
    (h : (((kd a0).1 = 10 ∨ (kd a0).1 = 15) ∧ vp_in x1 (kd a0).2 ∧ ((¬ (I a0 x1.toNatClampNeg) = (nI 6) → (((kd a0).1 = 10 ∨ (kd a0).1 = 15) ∧ vp_in x1 (kd a0).2 ∧ (R d mX9_at 0 [.int x1, .int (I a0 x1.toNatClampNeg)] [] ((n, z, kd), I, J, F) fun v1 s2 => kI v1 fun r3 => ((s2.1.2.2 a0).1 = 10 ∧ vp_in r3 (s2.1.2.2 a0).2 ∧ (((s2.1.2.2 a0).1 = 10 ∨ (s2.1.2.2 a0).1 = 15) ∧ vp_in x1 (s2.1.2.2 a0).2 ∧ ((s2.1.2.2 a0).1 = 10 ∧ vp_in x1 (s2.1.2.2 a0).2 ∧ (((nI 1) = 0 ∨ (nI 1) = 1) ∧ Q (some (.int (nI 1))) ((s2.1), (azUp ((azUp s2.2.1 a0 r3.toNatClampNeg x2)) a0 x1.toNatClampNeg (((azUp s2.2.1 a0 r3.toNatClampNeg x2) a0 x1.toNatClampNeg) + (nI 1))), s2.2.2.1, s2.2.2.2)))))))) ∧ (¬ (¬ (I a0 x1.toNatClampNeg) = (nI 6)) → (((nI 0) = 0 ∨ (nI 0) = 1) ∧ Q (some (.int (nI 0))) ((n, z, kd), I, J, F)))))) :
    R (d + 1) mX9_adds 0 [.ref a0, .int x1, .int x2] [] ((n, z, kd), I, J, F) Q := hR.go [] 23 h
set_option maxRecDepth 100000 in
theorem BX9_put_0 {R : azP} (hR : azClosed R) {d n z : Nat} {kd : azK} {I : azI} {J : azJ} {F : azR} {Q : azQ} {a0 : Nat} {x1 x2 : Int32}
    (h : (R d mX9_isPlace 0 [.int x1] [] ((n, z, kd), I, J, F) fun v1 s2 => kI v1 fun r3 => ((¬ r3 = 0 → (R d mX9_isIn 0 [.long x2.toInt64, .retAddr 1, .long (lN 0), .retAddr 1, .long ((99 : Int64)), .retAddr 1] [] s2 fun v4 s5 => kI v4 fun r6 => ((¬ r6 = 0 → ((s5.1.2.2 a0).1 = 9 ∧ zOf (s5.2.2.2 a0 0) fun b7 => (R d mX9_adds 0 [.ref b7, .int x1, .int x2] [] s5 fun v8 s9 => kI v8 fun r10 => ((r10 = 0 → Q (some (.int (-(nI 4)))) s9) ∧ (¬ (r10 = 0) → ((s9.1.2.2 a0).1 = 9 ∧ zOf (s9.2.2.2 a0 0) fun b11 => (((s9.1.2.2 b11).1 = 10 ∨ (s9.1.2.2 b11).1 = 15) ∧ vp_in x1 (s9.1.2.2 b11).2 ∧ Q (some (.int (s9.2.1 b11 x1.toNatClampNeg))) s9))))))) ∧ (¬ (¬ r6 = 0) → Q (some (.int (-(nI 2)))) s5)))) ∧ (¬ (¬ r3 = 0) → Q (some (.int (-(nI 1)))) s2)))) :
    R (d + 1) mX9_put 0 [.ref a0, .int x1, .int x2] [] ((n, z, kd), I, J, F) Q := hR.go [] 22 h
set_option maxRecDepth 100000 in
theorem BX9_take_0 {R : azP} (hR : azClosed R) {d n z : Nat} {kd : azK} {I : azI} {J : azJ} {F : azR} {Q : azQ} {a0 : Nat} {x1 x2 : Int32}
    (h : (R d mX9_isPlace 0 [.int x1] [] ((n, z, kd), I, J, F) fun v1 s2 => kI v1 fun r3 => ((r3 = 0 → Q (some (.int (-(nI 1)))) s2) ∧ (¬ (r3 = 0) → ((s2.1.2.2 a0).1 = 9 ∧ zOf (s2.2.2.2 a0 0) fun b4 => (((s2.1.2.2 b4).1 = 10 ∨ (s2.1.2.2 b4).1 = 15) ∧ vp_in x1 (s2.1.2.2 b4).2 ∧ (R d mX9_isIn 0 [.long x2.toInt64, .retAddr 1, .long (lN 0), .retAddr 1, .long (((s2.2.1 b4 x1.toNatClampNeg) - (nI 1)).toInt64), .retAddr 1] [] s2 fun v5 s6 => kI v5 fun r7 => ((¬ r7 = 0 → ((s6.1.2.2 a0).1 = 9 ∧ zOf (s6.2.2.2 a0 0) fun b8 => (R d mX9_at 0 [.int x1, .int x2] [] s6 fun v9 s10 => kI v9 fun r11 => (((s10.1.2.2 b8).1 = 10 ∨ (s10.1.2.2 b8).1 = 15) ∧ vp_in r11 (s10.1.2.2 b8).2 ∧ ((s10.1.2.2 a0).1 = 9 ∧ zOf (s10.2.2.2 a0 0) fun b12 => (R d mX9_removes 0 [.ref b12, .int x1, .int x2, .retAddr 0] [] s10 fun v13 s14 => v13 = none ∧ Q (some (.int (s10.2.1 b8 r11.toNatClampNeg))) s14)))))) ∧ (¬ (¬ r7 = 0) → Q (some (.int (-(nI 1)))) s6))))))))) :
    R (d + 1) mX9_take 0 [.ref a0, .int x1, .int x2, .retAddr 0] [] ((n, z, kd), I, J, F) Q := hR.go [] 30 h
set_option maxRecDepth 100000 in
theorem BX9_token_0 {R : azP} (hR : azClosed R) {d n z : Nat} {kd : azK} {I : azI} {J : azJ} {F : azR} {Q : azQ} {a0 : Nat} {x1 x2 : Int32}
    (h : (R d mX9_isPlace 0 [.int x1] [] ((n, z, kd), I, J, F) fun v1 s2 => kI v1 fun r3 => ((¬ r3 = 0 → ((¬ x2 = (-(nI 1)) → ((s2.1.2.2 a0).1 = 9 ∧ zOf (s2.2.2.2 a0 0) fun b4 => (((s2.1.2.2 b4).1 = 10 ∨ (s2.1.2.2 b4).1 = 15) ∧ vp_in x1 (s2.1.2.2 b4).2 ∧ (R d mX9_isIn 0 [.long x2.toInt64, .retAddr 1, .long (lN 0), .retAddr 1, .long (((s2.2.1 b4 x1.toNatClampNeg) - (nI 1)).toInt64), .retAddr 1] [] s2 fun v5 s6 => kI v5 fun r7 => ((r7 = 0 → Q (some (.int (-(nI 1)))) s6) ∧ (¬ (r7 = 0) → ((s6.1.2.2 a0).1 = 9 ∧ zOf (s6.2.2.2 a0 0) fun b8 => (R d mX9_at 0 [.int x1, .int x2] [] s6 fun v9 s10 => kI v9 fun r11 => (((s10.1.2.2 b8).1 = 10 ∨ (s10.1.2.2 b8).1 = 15) ∧ vp_in r11 (s10.1.2.2 b8).2 ∧ Q (some (.int (s10.2.1 b8 r11.toNatClampNeg))) s10))))))))) ∧ (¬ (¬ x2 = (-(nI 1))) → ((s2.1.2.2 a0).1 = 9 ∧ zOf (s2.2.2.2 a0 0) fun b12 => (((s2.1.2.2 b12).1 = 10 ∨ (s2.1.2.2 b12).1 = 15) ∧ vp_in x1 (s2.1.2.2 b12).2 ∧ Q (some (.int (s2.2.1 b12 x1.toNatClampNeg))) s2))))) ∧ (¬ (¬ r3 = 0) → Q (some (.int (-(nI 1)))) s2)))) :
    R (d + 1) mX9_token 0 [.ref a0, .int x1, .int x2] [] ((n, z, kd), I, J, F) Q := hR.go [] 27 h
set_option maxRecDepth 100000 in
theorem BX9_feed_0 {R : azP} (hR : azClosed R) {d n z : Nat} {kd : azK} {I : azI} {J : azJ} {F : azR} {Q : azQ} {a0 : Nat} {x1 : Int32}
    (h : (R d mX9_isIn 0 [.long x1.toInt64, .retAddr 1, .long (lN 1), .retAddr 1, .long ((127 : Int64)), .retAddr 1] [] ((n, z, kd), I, J, F) fun v1 s2 => kI v1 fun r3 => ((¬ r3 = 0 → ((s2.1.2.2 a0).1 = 9 ∧ ((¬ (s2.2.1 a0 8) = (nI 80) → ((s2.1.2.2 a0).1 = 9 ∧ zOf (s2.2.2.2 a0 7) fun b4 => ((s2.1.2.2 a0).1 = 9 ∧ ((s2.1.2.2 b4).1 = 10 ∧ vp_in (s2.2.1 a0 8) (s2.1.2.2 b4).2 ∧ ((s2.1.2.2 a0).1 = 9 ∧ ((s2.1.2.2 a0).1 = 9 ∧ ((s2.1.2.2 a0).1 = 9 ∧ Q (some (.int ((azUp ((azUp s2.2.1 b4 ((s2.2.1 a0 8).toNatClampNeg) x1)) a0 8 (((azUp s2.2.1 b4 ((s2.2.1 a0 8).toNatClampNeg) x1) a0 8) + (nI 1))) a0 8))) ((s2.1), (azUp ((azUp s2.2.1 b4 ((s2.2.1 a0 8).toNatClampNeg) x1)) a0 8 (((azUp s2.2.1 b4 ((s2.2.1 a0 8).toNatClampNeg) x1) a0 8) + (nI 1))), s2.2.2.1, s2.2.2.2)))))))) ∧ (¬ (¬ (s2.2.1 a0 8) = (nI 80)) → Q (some (.int (-(nI 4)))) s2)))) ∧ (¬ (¬ r3 = 0) → Q (some (.int (-(nI 2)))) s2)))) :
    R (d + 1) mX9_feed 0 [.ref a0, .int x1] [] ((n, z, kd), I, J, F) Q := hR.go [] 26 h
theorem BX9_clear_0 {R : azP} (hR : azClosed R) {d n z : Nat} {kd : azK} {I : azI} {J : azJ} {F : azR} {Q : azQ} {a0 : Nat}
    (h : ((kd a0).1 = 9 ∧ ((kd a0).1 = 9 ∧ Q (some (.int (I a0 8))) ((n, z, kd), (azUp I a0 8 (nI 0)), J, F)))) :
    R d mX9_clear 0 [.ref a0, .retAddr 0] [] ((n, z, kd), I, J, F) Q := hR.go [] 9 h
theorem BX9_peek_0 {R : azP} (hR : azClosed R) {d n z : Nat} {kd : azK} {I : azI} {J : azJ} {F : azR} {Q : azQ} {a0 : Nat}
    (h : ((kd a0).1 = 9 ∧ ((kd a0).1 = 9 ∧ (((I a0 10) ≤ (I a0 11) → Q (some (.int (nI 0))) ((n, z, kd), I, J, F)) ∧ (¬ ((I a0 10) ≤ (I a0 11)) → ((kd a0).1 = 9 ∧ zOf (F a0 9) fun b1 => ((kd a0).1 = 9 ∧ (((kd b1).1 = 10 ∨ (kd b1).1 = 15) ∧ vp_in (I a0 11) (kd b1).2 ∧ Q (some (.int (I b1 ((I a0 11).toNatClampNeg)))) ((n, z, kd), I, J, F))))))))) :
    R d mX9_peek 0 [.ref a0] [] ((n, z, kd), I, J, F) Q := hR.go [] 13 h
theorem BX9_wrong_0 {R : azP} (hR : azClosed R) {d n z : Nat} {kd : azK} {I : azI} {J : azJ} {F : azR} {Q : azQ} {a0 : Nat} {x1 : Int32}
    (h : ((kd a0).1 = 9 ∧ ((0 ≤ (I a0 12) → ((kd a0).1 = 9 ∧ ((kd a0).1 = 9 ∧ Q none ((n, z, kd), (azUp I a0 12 (I a0 12)), J, F)))) ∧ (¬ (0 ≤ (I a0 12)) → ((kd a0).1 = 9 ∧ Q none ((n, z, kd), (azUp I a0 12 x1), J, F)))))) :
    R d mX9_wrong 0 [.ref a0, .int x1] [] ((n, z, kd), I, J, F) Q := hR.go [] 9 h
theorem BX9_takes_0 {R : azP} (hR : azClosed R) {d n z : Nat} {kd : azK} {I : azI} {J : azJ} {F : azR} {Q : azQ} {a0 : Nat} {x1 : Int32}
    (h : ((kd a0).1 = 9 ∧ ((0 ≤ (I a0 12) → ((kd a0).1 = 9 ∧ ((kd a0).1 = 9 ∧ R d mX9_wrong 0 [.ref a0, .int (I a0 11)] [] ((n, z, kd), I, J, F) fun v1 s2 => v1 = none ∧ Q none s2))) ∧ (¬ (0 ≤ (I a0 12)) → ((kd a0).1 = 9 ∧ R d mX9_peek 0 [.ref a0] [] ((n, z, kd), I, J, F) fun v3 s4 => kI v3 fun r5 => ((¬ r5 = x1 → ((s4.1.2.2 a0).1 = 9 ∧ ((s4.1.2.2 a0).1 = 9 ∧ R d mX9_wrong 0 [.ref a0, .int (s4.2.1 a0 11)] [] s4 fun v6 s7 => v6 = none ∧ Q none s7))) ∧ (¬ (¬ r5 = x1) → ((s4.1.2.2 a0).1 = 9 ∧ ((s4.1.2.2 a0).1 = 9 ∧ Q none ((s4.1), (azUp s4.2.1 a0 11 ((s4.2.1 a0 11) + (nI 1))), s4.2.2.1, s4.2.2.2)))))))))) :
    R (d + 1) mX9_takes 0 [.ref a0, .int x1] [] ((n, z, kd), I, J, F) Q := hR.go [] 16 h
theorem BX9_isFigure_0 {R : azP} (hR : azClosed R) {d n z : Nat} {kd : azK} {I : azI} {J : azJ} {F : azR} {Q : azQ} {x0 : Int32}
    (h : ((x0 < (nI 48) → (((nI 0) = 0 ∨ (nI 0) = 1) ∧ Q (some (.int (nI 0))) ((n, z, kd), I, J, F))) ∧ (¬ (x0 < (nI 48)) → (((nI 57) < x0 → (((nI 0) = 0 ∨ (nI 0) = 1) ∧ Q (some (.int (nI 0))) ((n, z, kd), I, J, F))) ∧ (¬ ((nI 57) < x0) → (((nI 1) = 0 ∨ (nI 1) = 1) ∧ Q (some (.int (nI 1))) ((n, z, kd), I, J, F))))))) :
    R d mX9_isFigure 0 [.int x0] [] ((n, z, kd), I, J, F) Q := hR.go [] 10 h
set_option maxRecDepth 100000 in
theorem BX9_figure_0 {R : azP} (hR : azClosed R) {d n z : Nat} {kd : azK} {I : azI} {J : azJ} {F : azR} {Q : azQ} {a0 : Nat}
    (h : ((kd a0).1 = 9 ∧ R d mX9_peek 0 [.ref a0] [] ((n, z, kd), I, J, F) fun v1 s2 => kI v1 fun r3 => ((s2.1.2.2 a0).1 = 9 ∧ ((0 ≤ (s2.2.1 a0 12) → ((s2.1.2.2 a0).1 = 9 ∧ ((s2.1.2.2 a0).1 = 9 ∧ R d mX9_wrong 0 [.ref a0, .int (s2.2.1 a0 11)] [] s2 fun v4 s5 => v4 = none ∧ Q (some (.int (nI 0))) s5))) ∧ (¬ (0 ≤ (s2.2.1 a0 12)) → (R d mX9_isFigure 0 [.int r3] [] s2 fun v6 s7 => kI v6 fun r8 => ((¬ r8 = 0 → ((s7.1.2.2 a0).1 = 9 ∧ ((s7.1.2.2 a0).1 = 9 ∧ Q (some (.int (r3 - (nI 48)))) ((s7.1), (azUp s7.2.1 a0 11 ((s7.2.1 a0 11) + (nI 1))), s7.2.2.1, s7.2.2.2)))) ∧ (¬ (¬ r8 = 0) → ((s7.1.2.2 a0).1 = 9 ∧ ((s7.1.2.2 a0).1 = 9 ∧ R d mX9_wrong 0 [.ref a0, .int (s7.2.1 a0 11)] [] s7 fun v9 s10 => v9 = none ∧ Q (some (.int (nI 0))) s10)))))))))) :
    R (d + 1) mX9_figure 0 [.ref a0, .retAddr 0] [] ((n, z, kd), I, J, F) Q := hR.go [] 20 h
theorem BX9_expression_0 {R : azP} (hR : azClosed R) {d n z : Nat} {kd : azK} {I : azI} {J : azJ} {F : azR} {Q : azQ} {a0 : Nat}
    (h : ((kd a0).1 = 9 ∧ R d mX9_term 0 [.ref a0, .retAddr 0] [] ((n, z, kd), I, J, F) fun v1 s2 => kI v1 fun r3 => R (d + 1) mX9_expression 5 [.ref a0, .int r3, .retAddr 0, .retAddr 0] [] s2 Q)) :
    R (d + 1) mX9_expression 0 [.ref a0, .retAddr 0, .retAddr 0, .retAddr 0] [] ((n, z, kd), I, J, F) Q := hR.go [5, 30] 5 h
theorem BX9_expression_5 {R : azP} (hR : azClosed R) {d n z : Nat} {kd : azK} {I : azI} {J : azJ} {F : azR} {Q : azQ} {a0 : Nat} {x1 : Int32} {w2 w3 : Value}
    (h : ((kd a0).1 = 9 ∧ ((0 ≤ (I a0 12) → Q (some (.int x1)) ((n, z, kd), I, J, F)) ∧ (¬ (0 ≤ (I a0 12)) → ((kd a0).1 = 9 ∧ R d mX9_peek 0 [.ref a0] [] ((n, z, kd), I, J, F) fun v1 s2 => kI v1 fun r3 => ((r3 = (nI 43) → R (d + 1) mX9_expression 30 [.ref a0, .int x1, w2, w3] [] s2 Q) ∧ (¬ (r3 = (nI 43)) → ((s2.1.2.2 a0).1 = 9 ∧ R d mX9_peek 0 [.ref a0] [] s2 fun v4 s5 => kI v4 fun r6 => ((¬ r6 = (nI 45) → Q (some (.int x1)) s5) ∧ (¬ (¬ r6 = (nI 45)) → R (d + 1) mX9_expression 30 [.ref a0, .int x1, w2, w3] [] s5 Q)))))))))) :
    R (d + 1) mX9_expression 5 [.ref a0, .int x1, w2, w3] [] ((n, z, kd), I, J, F) Q := hR.go [5, 30] 14 h
set_option maxRecDepth 100000 in
theorem BX9_expression_30 {R : azP} (hR : azClosed R) {d n z : Nat} {kd : azK} {I : azI} {J : azJ} {F : azR} {Q : azQ} {a0 : Nat} {x1 : Int32} {w2 w3 : Value}
    (h : ((kd a0).1 = 9 ∧ R d mX9_peek 0 [.ref a0] [] ((n, z, kd), I, J, F) fun v1 s2 => kI v1 fun r3 => ((¬ r3 = (nI 43) → ((s2.1.2.2 a0).1 = 9 ∧ ((s2.1.2.2 a0).1 = 9 ∧ ((s2.1.2.2 a0).1 = 9 ∧ R d mX9_term 0 [.ref a0, .retAddr 0] [] ((s2.1), (azUp s2.2.1 a0 11 ((s2.2.1 a0 11) + (nI 1))), s2.2.2.1, s2.2.2.2) fun v4 s5 => kI v4 fun r6 => (((nI 0) = 0 → R (d + 1) mX9_expression 5 [.ref a0, .int (x1 - r6), .int (nI 0), .int r6] [] s5 Q) ∧ (¬ ((nI 0) = 0) → R (d + 1) mX9_expression 5 [.ref a0, .int (x1 + r6), .int (nI 0), .int r6] [] s5 Q)))))) ∧ (¬ (¬ r3 = (nI 43)) → ((s2.1.2.2 a0).1 = 9 ∧ ((s2.1.2.2 a0).1 = 9 ∧ ((s2.1.2.2 a0).1 = 9 ∧ R d mX9_term 0 [.ref a0, .retAddr 0] [] ((s2.1), (azUp s2.2.1 a0 11 ((s2.2.1 a0 11) + (nI 1))), s2.2.2.1, s2.2.2.2) fun v7 s8 => kI v7 fun r9 => (((nI 1) = 0 → R (d + 1) mX9_expression 5 [.ref a0, .int (x1 - r9), .int (nI 1), .int r9] [] s8 Q) ∧ (¬ ((nI 1) = 0) → R (d + 1) mX9_expression 5 [.ref a0, .int (x1 + r9), .int (nI 1), .int r9] [] s8 Q))))))))) :
    R (d + 1) mX9_expression 30 [.ref a0, .int x1, w2, w3] [] ((n, z, kd), I, J, F) Q := hR.go [5, 30] 26 h
theorem BX9_term_0 {R : azP} (hR : azClosed R) {d n z : Nat} {kd : azK} {I : azI} {J : azJ} {F : azR} {Q : azQ} {a0 : Nat}
    (h : ((kd a0).1 = 9 ∧ R d mX9_factor 0 [.ref a0, .retAddr 0, .retAddr 0] [] ((n, z, kd), I, J, F) fun v1 s2 => kI v1 fun r3 => R (d + 1) mX9_term 5 [.ref a0, .int r3] [] s2 Q)) :
    R (d + 1) mX9_term 0 [.ref a0, .retAddr 0] [] ((n, z, kd), I, J, F) Q := hR.go [5] 5 h
theorem BX9_term_5 {R : azP} (hR : azClosed R) {d n z : Nat} {kd : azK} {I : azI} {J : azJ} {F : azR} {Q : azQ} {a0 : Nat} {x1 : Int32}
    (h : ((kd a0).1 = 9 ∧ ((0 ≤ (I a0 12) → Q (some (.int x1)) ((n, z, kd), I, J, F)) ∧ (¬ (0 ≤ (I a0 12)) → ((kd a0).1 = 9 ∧ R d mX9_peek 0 [.ref a0] [] ((n, z, kd), I, J, F) fun v1 s2 => kI v1 fun r3 => ((¬ r3 = (nI 42) → Q (some (.int x1)) s2) ∧ (¬ (¬ r3 = (nI 42)) → ((s2.1.2.2 a0).1 = 9 ∧ ((s2.1.2.2 a0).1 = 9 ∧ ((s2.1.2.2 a0).1 = 9 ∧ R d mX9_factor 0 [.ref a0, .retAddr 0, .retAddr 0] [] ((s2.1), (azUp s2.2.1 a0 11 ((s2.2.1 a0 11) + (nI 1))), s2.2.2.1, s2.2.2.2) fun v4 s5 => kI v4 fun r6 => R (d + 1) mX9_term 5 [.ref a0, .int (x1 * r6)] [] s5 Q)))))))))) :
    R (d + 1) mX9_term 5 [.ref a0, .int x1] [] ((n, z, kd), I, J, F) Q := hR.go [5] 21 h
set_option maxRecDepth 100000 in
theorem BX9_factor_0 {R : azP} (hR : azClosed R) {d n z : Nat} {kd : azK} {I : azI} {J : azJ} {F : azR} {Q : azQ} {a0 : Nat}
    (h : ((kd a0).1 = 9 ∧ R d mX9_peek 0 [.ref a0] [] ((n, z, kd), I, J, F) fun v1 s2 => kI v1 fun r3 => ((s2.1.2.2 a0).1 = 9 ∧ (((s2.2.1 a0 12) < 0 → (R d mX9_isFigure 0 [.int r3] [] s2 fun v4 s5 => kI v4 fun r6 => ((r6 = 0 → ((r3 < (nI 120) → R (d + 1) mX9_factor 106 [.ref a0, .int r3, .retAddr 0] [] s5 Q) ∧ (¬ (r3 < (nI 120)) → (((nI 122) < r3 → R (d + 1) mX9_factor 106 [.ref a0, .int r3, .retAddr 0] [] s5 Q) ∧ (¬ ((nI 122) < r3) → ((s5.1.2.2 a0).1 = 9 ∧ ((¬ (((s5.2.1 a0 24) >>> ((r3 - (nI 120)) &&& 31)) &&& (nI 1)) = 0 → ((s5.1.2.2 a0).1 = 9 ∧ ((s5.1.2.2 a0).1 = 9 ∧ ((s5.1.2.2 a0).1 = 9 ∧ zOf (s5.2.2.2 a0 23) fun b7 => (((s5.1.2.2 b7).1 = 10 ∨ (s5.1.2.2 b7).1 = 15) ∧ vp_in (r3 - (nI 120)) (s5.1.2.2 b7).2 ∧ Q (some (.int ((azUp s5.2.1 a0 11 ((s5.2.1 a0 11) + (nI 1))) b7 ((r3 - (nI 120)).toNatClampNeg)))) ((s5.1), (azUp s5.2.1 a0 11 ((s5.2.1 a0 11) + (nI 1))), s5.2.2.1, s5.2.2.2)))))) ∧ (¬ (¬ (((s5.2.1 a0 24) >>> ((r3 - (nI 120)) &&& 31)) &&& (nI 1)) = 0) → ((s5.1.2.2 a0).1 = 9 ∧ ((s5.1.2.2 a0).1 = 9 ∧ R d mX9_wrong 0 [.ref a0, .int (s5.2.1 a0 11)] [] s5 fun v8 s9 => v8 = none ∧ Q (some (.int (nI 0))) s9)))))))))) ∧ (¬ (r6 = 0) → ((s5.1.2.2 a0).1 = 9 ∧ R d mX9_figure 0 [.ref a0, .retAddr 0] [] s5 fun v10 s11 => kI v10 fun r12 => ((s11.1.2.2 a0).1 = 9 ∧ R d mX9_peek 0 [.ref a0] [] s11 fun v13 s14 => kI v13 fun r15 => (R d mX9_isFigure 0 [.int r15] [] s14 fun v16 s17 => kI v16 fun r18 => ((r18 = 0 → Q (some (.int r12)) s17) ∧ (¬ (r18 = 0) → ((s17.1.2.2 a0).1 = 9 ∧ R d mX9_figure 0 [.ref a0, .retAddr 0] [] s17 fun v19 s20 => kI v19 fun r21 => Q (some (.int (((nI 10) * r12) + r21))) s20)))))))))) ∧ (¬ ((s2.2.1 a0 12) < 0) → Q (some (.int (nI 0))) s2))))) :
    R (d + 1) mX9_factor 0 [.ref a0, .retAddr 0, .retAddr 0] [] ((n, z, kd), I, J, F) Q := hR.go [106] 38 h
set_option maxRecDepth 100000 in
theorem BX9_factor_106 {R : azP} (hR : azClosed R) {d n z : Nat} {kd : azK} {I : azI} {J : azJ} {F : azR} {Q : azQ} {a0 : Nat} {x1 : Int32}
    (h : ((¬ x1 = (nI 40) → ((kd a0).1 = 9 ∧ ((kd a0).1 = 9 ∧ R d mX9_wrong 0 [.ref a0, .int (I a0 11)] [] ((n, z, kd), I, J, F) fun v1 s2 => v1 = none ∧ Q (some (.int (nI 0))) s2))) ∧ (¬ (¬ x1 = (nI 40)) → ((kd a0).1 = 9 ∧ ((¬ (I a0 25) = (nI 5) → ((kd a0).1 = 9 ∧ ((kd a0).1 = 9 ∧ ((kd a0).1 = 9 ∧ ((kd a0).1 = 9 ∧ ((kd a0).1 = 9 ∧ R d mX9_expression 0 [.ref a0, .retAddr 0, .retAddr 0, .retAddr 0] [] ((n, z, kd), (azUp ((azUp I a0 11 ((I a0 11) + (nI 1)))) a0 25 (((azUp I a0 11 ((I a0 11) + (nI 1))) a0 25) + (nI 1))), J, F) fun v3 s4 => kI v3 fun r5 => ((s4.1.2.2 a0).1 = 9 ∧ ((s4.1.2.2 a0).1 = 9 ∧ ((s4.1.2.2 a0).1 = 9 ∧ R d mX9_takes 0 [.ref a0, .int (nI 41)] [] ((s4.1), (azUp s4.2.1 a0 25 ((s4.2.1 a0 25) - (nI 1))), s4.2.2.1, s4.2.2.2) fun v6 s7 => v6 = none ∧ Q (some (.int r5)) s7))))))))) ∧ (¬ (¬ (I a0 25) = (nI 5)) → ((kd a0).1 = 9 ∧ ((kd a0).1 = 9 ∧ R d mX9_wrong 0 [.ref a0, .int (I a0 11)] [] ((n, z, kd), I, J, F) fun v8 s9 => v8 = none ∧ Q (some (.int (nI 0))) s9)))))))) :
    R (d + 1) mX9_factor 106 [.ref a0, .int x1, .retAddr 0] [] ((n, z, kd), I, J, F) Q := hR.go [106] 34 h
set_option maxRecDepth 100000 in
theorem BX9_compares_0 {R : azP} (hR : azClosed R) {d n z : Nat} {kd : azK} {I : azI} {J : azJ} {F : azR} {Q : azQ} {a0 : Nat}
    (h : ((kd a0).1 = 9 ∧ R d mX9_expression 0 [.ref a0, .retAddr 0, .retAddr 0, .retAddr 0] [] ((n, z, kd), I, J, F) fun v1 s2 => kI v1 fun r3 => ((s2.1.2.2 a0).1 = 9 ∧ R d mX9_peek 0 [.ref a0] [] s2 fun v4 s5 => kI v4 fun r6 => ((r6 = (nI 60) → R (d + 1) mX9_compares 36 [.ref a0, .int r3, .int r6, .retAddr 0] [] s5 Q) ∧ (¬ (r6 = (nI 60)) → ((r6 = (nI 61) → R (d + 1) mX9_compares 36 [.ref a0, .int r3, .int r6, .retAddr 0] [] s5 Q) ∧ (¬ (r6 = (nI 61)) → ((r6 = (nI 62) → R (d + 1) mX9_compares 36 [.ref a0, .int r3, .int r6, .retAddr 0] [] s5 Q) ∧ (¬ (r6 = (nI 62)) → ((s5.1.2.2 a0).1 = 9 ∧ ((s5.1.2.2 a0).1 = 9 ∧ R d mX9_wrong 0 [.ref a0, .int (s5.2.1 a0 11)] [] s5 fun v7 s8 => v7 = none ∧ R (d + 1) mX9_compares 36 [.ref a0, .int r3, .int r6, .retAddr 0] [] s8 Q))))))))))) :
    R (d + 1) mX9_compares 0 [.ref a0, .retAddr 0, .retAddr 0, .retAddr 0] [] ((n, z, kd), I, J, F) Q := hR.go [36] 21 h
set_option maxRecDepth 100000 in
theorem BX9_compares_36 {R : azP} (hR : azClosed R) {d n z : Nat} {kd : azK} {I : azI} {J : azJ} {F : azR} {Q : azQ} {a0 : Nat} {x1 x2 : Int32}
    (h : ((kd a0).1 = 9 ∧ ((kd a0).1 = 9 ∧ ((0 ≤ (I a0 12) → ((kd a0).1 = 9 ∧ ((kd a0).1 = 9 ∧ R d mX9_expression 0 [.ref a0, .retAddr 0, .retAddr 0, .retAddr 0] [] ((n, z, kd), (azUp I a0 11 ((I a0 11) + (nI 0))), J, F) fun v1 s2 => kI v1 fun r3 => ((¬ x2 = (nI 60) → ((¬ x2 = (nI 61) → ((x1 ≤ r3 → (((nI 0) = 0 ∨ (nI 0) = 1) ∧ Q (some (.int (nI 0))) s2)) ∧ (¬ (x1 ≤ r3) → (((nI 1) = 0 ∨ (nI 1) = 1) ∧ Q (some (.int (nI 1))) s2)))) ∧ (¬ (¬ x2 = (nI 61)) → ((¬ x1 = r3 → (((nI 0) = 0 ∨ (nI 0) = 1) ∧ Q (some (.int (nI 0))) s2)) ∧ (¬ (¬ x1 = r3) → (((nI 1) = 0 ∨ (nI 1) = 1) ∧ Q (some (.int (nI 1))) s2)))))) ∧ (¬ (¬ x2 = (nI 60)) → ((r3 ≤ x1 → (((nI 0) = 0 ∨ (nI 0) = 1) ∧ Q (some (.int (nI 0))) s2)) ∧ (¬ (r3 ≤ x1) → (((nI 1) = 0 ∨ (nI 1) = 1) ∧ Q (some (.int (nI 1))) s2)))))))) ∧ (¬ (0 ≤ (I a0 12)) → ((kd a0).1 = 9 ∧ ((kd a0).1 = 9 ∧ R d mX9_expression 0 [.ref a0, .retAddr 0, .retAddr 0, .retAddr 0] [] ((n, z, kd), (azUp I a0 11 ((I a0 11) + (nI 1))), J, F) fun v4 s5 => kI v4 fun r6 => ((¬ x2 = (nI 60) → ((¬ x2 = (nI 61) → ((x1 ≤ r6 → (((nI 0) = 0 ∨ (nI 0) = 1) ∧ Q (some (.int (nI 0))) s5)) ∧ (¬ (x1 ≤ r6) → (((nI 1) = 0 ∨ (nI 1) = 1) ∧ Q (some (.int (nI 1))) s5)))) ∧ (¬ (¬ x2 = (nI 61)) → ((¬ x1 = r6 → (((nI 0) = 0 ∨ (nI 0) = 1) ∧ Q (some (.int (nI 0))) s5)) ∧ (¬ (¬ x1 = r6) → (((nI 1) = 0 ∨ (nI 1) = 1) ∧ Q (some (.int (nI 1))) s5)))))) ∧ (¬ (¬ x2 = (nI 60)) → ((r6 ≤ x1 → (((nI 0) = 0 ∨ (nI 0) = 1) ∧ Q (some (.int (nI 0))) s5)) ∧ (¬ (r6 ≤ x1) → (((nI 1) = 0 ∨ (nI 1) = 1) ∧ Q (some (.int (nI 1))) s5)))))))))))) :
    R (d + 1) mX9_compares 36 [.ref a0, .int x1, .int x2, .retAddr 0] [] ((n, z, kd), I, J, F) Q := hR.go [36] 26 h
theorem BX9_word_0 {R : azP} (hR : azClosed R) {d n z : Nat} {kd : azK} {I : azI} {J : azJ} {F : azR} {Q : azQ} {a0 : Nat}
    (h : R (d + 1) mX9_word 4 [.ref a0, .int (nI 0), .int (nI 0)] [] ((n, z, kd), I, J, F) Q) :
    R (d + 1) mX9_word 0 [.ref a0, .retAddr 0, .retAddr 0] [] ((n, z, kd), I, J, F) Q := hR.go [4] 6 h
set_option maxRecDepth 100000 in
theorem BX9_word_4 {R : azP} (hR : azClosed R) {d n z : Nat} {kd : azK} {I : azI} {J : azJ} {F : azR} {Q : azQ} {a0 : Nat} {x1 x2 : Int32}
    (h : ((kd a0).1 = 9 ∧ R d mX9_peek 0 [.ref a0] [] ((n, z, kd), I, J, F) fun v1 s2 => kI v1 fun r3 => ((r3 < (nI 97) → Q (some (.int x1)) s2) ∧ (¬ (r3 < (nI 97)) → ((s2.1.2.2 a0).1 = 9 ∧ R d mX9_peek 0 [.ref a0] [] s2 fun v4 s5 => kI v4 fun r6 => (((nI 122) < r6 → Q (some (.int x1)) s5) ∧ (¬ ((nI 122) < r6) → (((nI 6) ≤ x2 → ((s5.1.2.2 a0).1 = 9 ∧ ((s5.1.2.2 a0).1 = 9 ∧ R (d + 1) mX9_word 4 [.ref a0, .int (-(nI 1)), .int (x2 + (nI 1))] [] ((s5.1), (azUp s5.2.1 a0 11 ((s5.2.1 a0 11) + (nI 1))), s5.2.2.1, s5.2.2.2) Q))) ∧ (¬ ((nI 6) ≤ x2) → ((s5.1.2.2 a0).1 = 9 ∧ R d mX9_peek 0 [.ref a0] [] s5 fun v7 s8 => kI v7 fun r9 => ((s8.1.2.2 a0).1 = 9 ∧ ((s8.1.2.2 a0).1 = 9 ∧ R (d + 1) mX9_word 4 [.ref a0, .int ((((x1 * (nI 27)) + r9) - (nI 97)) + (nI 1)), .int (x2 + (nI 1))] [] ((s8.1), (azUp s8.2.1 a0 11 ((s8.2.1 a0 11) + (nI 1))), s8.2.2.1, s8.2.2.2) Q)))))))))))) :
    R (d + 1) mX9_word 4 [.ref a0, .int x1, .int x2] [] ((n, z, kd), I, J, F) Q := hR.go [4] 33 h
set_option maxRecDepth 100000 in
theorem BX9_takeClause_0 {R : azP} (hR : azClosed R) {d n z : Nat} {kd : azK} {I : azI} {J : azJ} {F : azR} {Q : azQ} {a0 : Nat}
    (h : ((kd a0).1 = 9 ∧ zOf (F a0 14) fun b1 => ((kd a0).1 = 9 ∧ ((kd a0).1 = 9 ∧ R d mX9_figure 0 [.ref a0, .retAddr 0] [] ((n, z, kd), I, J, F) fun v2 s3 => kI v2 fun r4 => ((s3.1.2.2 b1).1 = 10 ∧ vp_in (I a0 13) (s3.1.2.2 b1).2 ∧ ((s3.1.2.2 a0).1 = 9 ∧ R d mX9_takes 0 [.ref a0, .int (nI 32)] [] ((s3.1), (azUp s3.2.1 b1 ((I a0 13).toNatClampNeg) r4), s3.2.2.1, s3.2.2.2) fun v5 s6 => v5 = none ∧ ((s6.1.2.2 a0).1 = 9 ∧ R d mX9_peek 0 [.ref a0] [] s6 fun v7 s8 => kI v7 fun r9 => ((s8.1.2.2 a0).1 = 9 ∧ ((0 ≤ (s8.2.1 a0 12) → ((s8.1.2.2 a0).1 = 9 ∧ ((s8.1.2.2 a0).1 = 9 ∧ R d mX9_wrong 0 [.ref a0, .int (s8.2.1 a0 11)] [] s8 fun v10 s11 => v10 = none ∧ Q none s11))) ∧ (¬ (0 ≤ (s8.2.1 a0 12)) → ((r9 < (nI 120) → ((s8.1.2.2 a0).1 = 9 ∧ ((s8.1.2.2 a0).1 = 9 ∧ R d mX9_wrong 0 [.ref a0, .int (s8.2.1 a0 11)] [] s8 fun v12 s13 => v12 = none ∧ Q none s13))) ∧ (¬ (r9 < (nI 120)) → ((r9 ≤ (nI 122) → ((s8.1.2.2 a0).1 = 9 ∧ ((s8.1.2.2 a0).1 = 9 ∧ ((s8.1.2.2 a0).1 = 9 ∧ zOf (s8.2.2.2 a0 15) fun b14 => ((s8.1.2.2 a0).1 = 9 ∧ ((s8.1.2.2 b14).1 = 10 ∧ vp_in ((azUp s8.2.1 a0 11 ((s8.2.1 a0 11) + (nI 1))) a0 13) (s8.1.2.2 b14).2 ∧ ((s8.1.2.2 a0).1 = 9 ∧ ((s8.1.2.2 a0).1 = 9 ∧ ((s8.1.2.2 a0).1 = 9 ∧ ((s8.1.2.2 a0).1 = 9 ∧ Q none ((s8.1), (azUp ((azUp ((azUp ((azUp s8.2.1 a0 11 ((s8.2.1 a0 11) + (nI 1)))) b14 (((azUp s8.2.1 a0 11 ((s8.2.1 a0 11) + (nI 1))) a0 13).toNatClampNeg) (r9 - (nI 120)))) a0 13 (((azUp ((azUp s8.2.1 a0 11 ((s8.2.1 a0 11) + (nI 1)))) b14 (((azUp s8.2.1 a0 11 ((s8.2.1 a0 11) + (nI 1))) a0 13).toNatClampNeg) (r9 - (nI 120))) a0 13) + (nI 1)))) a0 24 (((azUp ((azUp ((azUp s8.2.1 a0 11 ((s8.2.1 a0 11) + (nI 1)))) b14 (((azUp s8.2.1 a0 11 ((s8.2.1 a0 11) + (nI 1))) a0 13).toNatClampNeg) (r9 - (nI 120)))) a0 13 (((azUp ((azUp s8.2.1 a0 11 ((s8.2.1 a0 11) + (nI 1)))) b14 (((azUp s8.2.1 a0 11 ((s8.2.1 a0 11) + (nI 1))) a0 13).toNatClampNeg) (r9 - (nI 120))) a0 13) + (nI 1))) a0 24) ||| ((nI 1) <<< ((r9 - (nI 120)) &&& 31)))), s8.2.2.1, s8.2.2.2))))))))))) ∧ (¬ (r9 ≤ (nI 122)) → ((s8.1.2.2 a0).1 = 9 ∧ ((s8.1.2.2 a0).1 = 9 ∧ R d mX9_wrong 0 [.ref a0, .int (s8.2.1 a0 11)] [] s8 fun v15 s16 => v15 = none ∧ Q none s16)))))))))))))))) :
    R (d + 1) mX9_takeClause 0 [.ref a0, .retAddr 0] [] ((n, z, kd), I, J, F) Q := hR.go [] 54 h
set_option maxRecDepth 100000 in
theorem BX9_giveClause_0 {R : azP} (hR : azClosed R) {d n z : Nat} {kd : azK} {I : azI} {J : azJ} {F : azR} {Q : azQ} {a0 : Nat}
    (h : ((kd a0).1 = 9 ∧ zOf (F a0 17) fun b1 => ((kd a0).1 = 9 ∧ ((kd a0).1 = 9 ∧ R d mX9_figure 0 [.ref a0, .retAddr 0] [] ((n, z, kd), I, J, F) fun v2 s3 => kI v2 fun r4 => ((s3.1.2.2 b1).1 = 10 ∧ vp_in (I a0 16) (s3.1.2.2 b1).2 ∧ ((s3.1.2.2 a0).1 = 9 ∧ R d mX9_takes 0 [.ref a0, .int (nI 32)] [] ((s3.1), (azUp s3.2.1 b1 ((I a0 16).toNatClampNeg) r4), s3.2.2.1, s3.2.2.2) fun v5 s6 => v5 = none ∧ ((s6.1.2.2 a0).1 = 9 ∧ zOf (s6.2.2.2 a0 18) fun b7 => ((s6.1.2.2 a0).1 = 9 ∧ ((s6.1.2.2 a0).1 = 9 ∧ ((s6.1.2.2 b7).1 = 10 ∧ vp_in (s6.2.1 a0 16) (s6.1.2.2 b7).2 ∧ ((s6.1.2.2 a0).1 = 9 ∧ ((s6.1.2.2 a0).1 = 9 ∧ ((s6.1.2.2 a0).1 = 9 ∧ R d mX9_expression 0 [.ref a0, .retAddr 0, .retAddr 0, .retAddr 0] [] ((s6.1), (azUp ((azUp s6.2.1 b7 ((s6.2.1 a0 16).toNatClampNeg) (s6.2.1 a0 11))) a0 16 (((azUp s6.2.1 b7 ((s6.2.1 a0 16).toNatClampNeg) (s6.2.1 a0 11)) a0 16) + (nI 1))), s6.2.2.1, s6.2.2.2) fun v8 s9 => kI v8 fun r10 => Q none s9))))))))))))) :
    R (d + 1) mX9_giveClause 0 [.ref a0] [] ((n, z, kd), I, J, F) Q := hR.go [] 28 h
theorem BX9_conditionClause_0 {R : azP} (hR : azClosed R) {d n z : Nat} {kd : azK} {I : azI} {J : azJ} {F : azR} {Q : azQ} {a0 : Nat}
    (h : R (d + 1) mX9_conditionClause 2 [.ref a0, .int (nI 1)] [] ((n, z, kd), I, J, F) Q) :
    R (d + 1) mX9_conditionClause 0 [.ref a0, .retAddr 0] [] ((n, z, kd), I, J, F) Q := hR.go [2, 61] 4 h
set_option maxRecDepth 100000 in
theorem BX9_conditionClause_2 {R : azP} (hR : azClosed R) {d n z : Nat} {kd : azK} {I : azI} {J : azJ} {F : azR} {Q : azQ} {a0 : Nat} {x1 : Int32}
    (h : ((x1 = 0 → Q none ((n, z, kd), I, J, F)) ∧ (¬ (x1 = 0) → ((kd a0).1 = 9 ∧ ((0 ≤ (I a0 12) → Q none ((n, z, kd), I, J, F)) ∧ (¬ (0 ≤ (I a0 12)) → ((kd a0).1 = 9 ∧ zOf (F a0 20) fun b1 => ((kd a0).1 = 9 ∧ ((kd a0).1 = 9 ∧ ((kd b1).1 = 10 ∧ vp_in (I a0 19) (kd b1).2 ∧ ((kd a0).1 = 9 ∧ ((kd a0).1 = 9 ∧ ((kd a0).1 = 9 ∧ R d mX9_compares 0 [.ref a0, .retAddr 0, .retAddr 0, .retAddr 0] [] ((n, z, kd), (azUp ((azUp I b1 ((I a0 19).toNatClampNeg) (I a0 11))) a0 19 (((azUp I b1 ((I a0 19).toNatClampNeg) (I a0 11)) a0 19) + (nI 1))), J, F) fun v2 s3 => kI v2 fun r4 => ((s3.1.2.2 a0).1 = 9 ∧ ((0 ≤ (s3.2.1 a0 12) → R (d + 1) mX9_conditionClause 61 [.ref a0, .int x1] [] s3 Q) ∧ (¬ (0 ≤ (s3.2.1 a0 12)) → ((s3.1.2.2 a0).1 = 9 ∧ R d mX9_peek 0 [.ref a0] [] s3 fun v5 s6 => kI v5 fun r7 => ((¬ r7 = (nI 38) → R (d + 1) mX9_conditionClause 61 [.ref a0, .int x1] [] s6 Q) ∧ (¬ (¬ r7 = (nI 38)) → ((s6.1.2.2 a0).1 = 9 ∧ (((nI 1) = 0 → ((s6.1.2.2 a0).1 = 9 ∧ R (d + 1) mX9_conditionClause 2 [.ref a0, .int (nI 1)] [] ((s6.1), (azUp s6.2.1 a0 11 ((s6.2.1 a0 11) + (nI 0))), s6.2.2.1, s6.2.2.2) Q)) ∧ (¬ ((nI 1) = 0) → ((s6.1.2.2 a0).1 = 9 ∧ R (d + 1) mX9_conditionClause 2 [.ref a0, .int (nI 1)] [] ((s6.1), (azUp s6.2.1 a0 11 ((s6.2.1 a0 11) + (nI 1))), s6.2.2.1, s6.2.2.2) Q))))))))))))))))))))))) :
    R (d + 1) mX9_conditionClause 2 [.ref a0, .int x1] [] ((n, z, kd), I, J, F) Q := hR.go [2, 61] 43 h
theorem BX9_conditionClause_61 {R : azP} (hR : azClosed R) {d n z : Nat} {kd : azK} {I : azI} {J : azJ} {F : azR} {Q : azQ} {a0 : Nat} {x1 : Int32}
    (h : ((kd a0).1 = 9 ∧ (((nI 0) = 0 → ((kd a0).1 = 9 ∧ R (d + 1) mX9_conditionClause 2 [.ref a0, .int (nI 0)] [] ((n, z, kd), (azUp I a0 11 ((I a0 11) + (nI 0))), J, F) Q)) ∧ (¬ ((nI 0) = 0) → ((kd a0).1 = 9 ∧ R (d + 1) mX9_conditionClause 2 [.ref a0, .int (nI 0)] [] ((n, z, kd), (azUp I a0 11 ((I a0 11) + (nI 1))), J, F) Q))))) :
    R (d + 1) mX9_conditionClause 61 [.ref a0, .int x1] [] ((n, z, kd), I, J, F) Q := hR.go [2, 61] 14 h
set_option maxRecDepth 100000 in
theorem BX9_clause_0 {R : azP} (hR : azClosed R) {d n z : Nat} {kd : azK} {I : azI} {J : azJ} {F : azR} {Q : azQ} {a0 : Nat}
    (h : ((kd a0).1 = 9 ∧ ((kd a0).1 = 9 ∧ R d mX9_word 0 [.ref a0, .retAddr 0, .retAddr 0] [] ((n, z, kd), I, J, F) fun v1 s2 => kI v1 fun r3 => ((s2.1.2.2 a0).1 = 9 ∧ ((s2.1.2.2 a0).1 = 9 ∧ ((s2.1.2.2 a0).1 = 9 ∧ ((r3 = (nI 257) → R (d + 1) mX9_clause 52 [.ref a0, .int (I a0 11), .int r3] [] ((s2.1), (azUp ((azUp s2.2.1 a0 22 ((s2.2.1 a0 22) + (nI 1)))) a0 25 (nI 0)), s2.2.2.1, s2.2.2.2) Q) ∧ (¬ (r3 = (nI 257)) → ((r3 = (nI 249) → R (d + 1) mX9_clause 52 [.ref a0, .int (I a0 11), .int r3] [] ((s2.1), (azUp ((azUp s2.2.1 a0 22 ((s2.2.1 a0 22) + (nI 1)))) a0 25 (nI 0)), s2.2.2.1, s2.2.2.2) Q) ∧ (¬ (r3 = (nI 249)) → ((r3 = (nI 11522) → R (d + 1) mX9_clause 52 [.ref a0, .int (I a0 11), .int r3] [] ((s2.1), (azUp ((azUp s2.2.1 a0 22 ((s2.2.1 a0 22) + (nI 1)))) a0 25 (nI 0)), s2.2.2.1, s2.2.2.2) Q) ∧ (¬ (r3 = (nI 11522)) → ((¬ r3 = ((2925313 : Int32)) → ((s2.1.2.2 a0).1 = 9 ∧ R d mX9_wrong 0 [.ref a0, .int (I a0 11)] [] ((s2.1), (azUp ((azUp s2.2.1 a0 22 ((s2.2.1 a0 22) + (nI 1)))) a0 25 (nI 0)), s2.2.2.1, s2.2.2.2) fun v4 s5 => v4 = none ∧ Q none s5)) ∧ (¬ (¬ r3 = ((2925313 : Int32))) → R (d + 1) mX9_clause 52 [.ref a0, .int (I a0 11), .int r3] [] ((s2.1), (azUp ((azUp s2.2.1 a0 22 ((s2.2.1 a0 22) + (nI 1)))) a0 25 (nI 0)), s2.2.2.1, s2.2.2.2) Q)))))))))))))) :
    R (d + 1) mX9_clause 0 [.ref a0, .retAddr 0, .retAddr 0] [] ((n, z, kd), I, J, F) Q := hR.go [52, 67, 88] 32 h
theorem BX9_clause_52 {R : azP} (hR : azClosed R) {d n z : Nat} {kd : azK} {I : azI} {J : azJ} {F : azR} {Q : azQ} {a0 : Nat} {x1 x2 : Int32}
    (h : ((¬ x2 = (nI 257) → R (d + 1) mX9_clause 67 [.ref a0, .int x1, .int x2] [] ((n, z, kd), I, J, F) Q) ∧ (¬ (¬ x2 = (nI 257)) → ((kd a0).1 = 9 ∧ (((I a0 13) = (nI 3) → ((kd a0).1 = 9 ∧ R d mX9_wrong 0 [.ref a0, .int x1] [] ((n, z, kd), I, J, F) fun v1 s2 => v1 = none ∧ Q none s2)) ∧ (¬ ((I a0 13) = (nI 3)) → R (d + 1) mX9_clause 67 [.ref a0, .int x1, .int x2] [] ((n, z, kd), I, J, F) Q)))))) :
    R (d + 1) mX9_clause 52 [.ref a0, .int x1, .int x2] [] ((n, z, kd), I, J, F) Q := hR.go [52, 67, 88] 12 h
theorem BX9_clause_67 {R : azP} (hR : azClosed R) {d n z : Nat} {kd : azK} {I : azI} {J : azJ} {F : azR} {Q : azQ} {a0 : Nat} {x1 x2 : Int32}
    (h : ((¬ x2 = (nI 11522) → R (d + 1) mX9_clause 88 [.ref a0, .int x1, .int x2] [] ((n, z, kd), I, J, F) Q) ∧ (¬ (¬ x2 = (nI 11522)) → ((kd a0).1 = 9 ∧ ((¬ (I a0 16) = (nI 3) → R (d + 1) mX9_clause 88 [.ref a0, .int x1, .int x2] [] ((n, z, kd), I, J, F) Q) ∧ (¬ (¬ (I a0 16) = (nI 3)) → ((kd a0).1 = 9 ∧ R d mX9_wrong 0 [.ref a0, .int x1] [] ((n, z, kd), I, J, F) fun v1 s2 => v1 = none ∧ Q none s2))))))) :
    R (d + 1) mX9_clause 67 [.ref a0, .int x1, .int x2] [] ((n, z, kd), I, J, F) Q := hR.go [52, 67, 88] 12 h
set_option maxRecDepth 100000 in
theorem BX9_clause_88 {R : azP} (hR : azClosed R) {d n z : Nat} {kd : azK} {I : azI} {J : azJ} {F : azR} {Q : azQ} {a0 : Nat} {x1 x2 : Int32}
    (h : ((kd a0).1 = 9 ∧ R d mX9_takes 0 [.ref a0, .int (nI 32)] [] ((n, z, kd), I, J, F) fun v1 s2 => v1 = none ∧ ((s2.1.2.2 a0).1 = 9 ∧ (((s2.2.1 a0 12) < 0 → ((¬ x2 = (nI 257) → ((¬ x2 = (nI 11522) → ((¬ x2 = (nI 249) → ((s2.1.2.2 a0).1 = 9 ∧ ((s2.1.2.2 a0).1 = 9 ∧ R d mX9_figure 0 [.ref a0, .retAddr 0] [] s2 fun v3 s4 => kI v3 fun r5 => ((s4.1.2.2 a0).1 = 9 ∧ Q none ((s4.1), (azUp s4.2.1 a0 21 ((s2.2.1 a0 21) ||| ((nI 1) <<< (r5 &&& 31)))), s4.2.2.1, s4.2.2.2))))) ∧ (¬ (¬ x2 = (nI 249)) → ((s2.1.2.2 a0).1 = 9 ∧ R d mX9_conditionClause 0 [.ref a0, .retAddr 0] [] s2 fun v6 s7 => v6 = none ∧ Q none s7)))) ∧ (¬ (¬ x2 = (nI 11522)) → ((s2.1.2.2 a0).1 = 9 ∧ R d mX9_giveClause 0 [.ref a0] [] s2 fun v8 s9 => v8 = none ∧ Q none s9)))) ∧ (¬ (¬ x2 = (nI 257)) → ((s2.1.2.2 a0).1 = 9 ∧ R d mX9_takeClause 0 [.ref a0, .retAddr 0] [] s2 fun v10 s11 => v10 = none ∧ Q none s11)))) ∧ (¬ ((s2.2.1 a0 12) < 0) → Q none s2))))) :
    R (d + 1) mX9_clause 88 [.ref a0, .int x1, .int x2] [] ((n, z, kd), I, J, F) Q := hR.go [52, 67, 88] 26 h
theorem BX9_reads_0 {R : azP} (hR : azClosed R) {d n z : Nat} {kd : azK} {I : azI} {J : azJ} {F : azR} {Q : azQ} {a0 : Nat}
    (h : ((kd a0).1 = 9 ∧ ((kd a0).1 = 9 ∧ ((kd a0).1 = 9 ∧ ((kd a0).1 = 9 ∧ ((kd a0).1 = 9 ∧ ((kd a0).1 = 9 ∧ ((kd a0).1 = 9 ∧ ((kd a0).1 = 9 ∧ R (d + 1) mX9_reads 42 [.ref a0, .int (nI 1)] [] ((n, z, kd), (azUp ((azUp ((azUp ((azUp ((azUp ((azUp ((azUp ((azUp I a0 11 (nI 0))) a0 12 (-(nI 1)))) a0 13 (nI 0))) a0 16 (nI 0))) a0 19 (nI 0))) a0 21 (nI 0))) a0 22 (nI 0))) a0 24 (nI 0)), J, F) Q))))))))) :
    R (d + 1) mX9_reads 0 [.ref a0, .retAddr 0] [] ((n, z, kd), I, J, F) Q := hR.go [42, 77, 100, 126] 28 h
set_option maxRecDepth 100000 in
theorem BX9_reads_42 {R : azP} (hR : azClosed R) {d n z : Nat} {kd : azK} {I : azI} {J : azJ} {F : azR} {Q : azQ} {a0 : Nat} {x1 : Int32}
    (h : ((x1 = 0 → R (d + 1) mX9_reads 100 [.ref a0, .int x1] [] ((n, z, kd), I, J, F) Q) ∧ (¬ (x1 = 0) → ((kd a0).1 = 9 ∧ ((0 ≤ (I a0 12) → R (d + 1) mX9_reads 100 [.ref a0, .int x1] [] ((n, z, kd), I, J, F) Q) ∧ (¬ (0 ≤ (I a0 12)) → ((kd a0).1 = 9 ∧ R d mX9_clause 0 [.ref a0, .retAddr 0, .retAddr 0] [] ((n, z, kd), I, J, F) fun v1 s2 => v1 = none ∧ ((s2.1.2.2 a0).1 = 9 ∧ ((0 ≤ (s2.2.1 a0 12) → R (d + 1) mX9_reads 77 [.ref a0, .int x1] [] s2 Q) ∧ (¬ (0 ≤ (s2.2.1 a0 12)) → ((s2.1.2.2 a0).1 = 9 ∧ R d mX9_peek 0 [.ref a0] [] s2 fun v3 s4 => kI v3 fun r5 => ((¬ r5 = (nI 59) → R (d + 1) mX9_reads 77 [.ref a0, .int x1] [] s4 Q) ∧ (¬ (¬ r5 = (nI 59)) → ((s4.1.2.2 a0).1 = 9 ∧ (((nI 1) = 0 → ((s4.1.2.2 a0).1 = 9 ∧ R (d + 1) mX9_reads 42 [.ref a0, .int (nI 1)] [] ((s4.1), (azUp s4.2.1 a0 11 ((s4.2.1 a0 11) + (nI 0))), s4.2.2.1, s4.2.2.2) Q)) ∧ (¬ ((nI 1) = 0) → ((s4.1.2.2 a0).1 = 9 ∧ R (d + 1) mX9_reads 42 [.ref a0, .int (nI 1)] [] ((s4.1), (azUp s4.2.1 a0 11 ((s4.2.1 a0 11) + (nI 1))), s4.2.2.1, s4.2.2.2) Q))))))))))))))))) :
    R (d + 1) mX9_reads 42 [.ref a0, .int x1] [] ((n, z, kd), I, J, F) Q := hR.go [42, 77, 100, 126] 29 h
theorem BX9_reads_77 {R : azP} (hR : azClosed R) {d n z : Nat} {kd : azK} {I : azI} {J : azJ} {F : azR} {Q : azQ} {a0 : Nat} {x1 : Int32}
    (h : ((kd a0).1 = 9 ∧ (((nI 0) = 0 → ((kd a0).1 = 9 ∧ R (d + 1) mX9_reads 42 [.ref a0, .int (nI 0)] [] ((n, z, kd), (azUp I a0 11 ((I a0 11) + (nI 0))), J, F) Q)) ∧ (¬ ((nI 0) = 0) → ((kd a0).1 = 9 ∧ R (d + 1) mX9_reads 42 [.ref a0, .int (nI 0)] [] ((n, z, kd), (azUp I a0 11 ((I a0 11) + (nI 1))), J, F) Q))))) :
    R (d + 1) mX9_reads 77 [.ref a0, .int x1] [] ((n, z, kd), I, J, F) Q := hR.go [42, 77, 100, 126] 14 h
theorem BX9_reads_100 {R : azP} (hR : azClosed R) {d n z : Nat} {kd : azK} {I : azI} {J : azJ} {F : azR} {Q : azQ} {a0 : Nat} {x1 : Int32}
    (h : ((kd a0).1 = 9 ∧ ((0 ≤ (I a0 12) → R (d + 1) mX9_reads 126 [.ref a0, .int x1] [] ((n, z, kd), I, J, F) Q) ∧ (¬ (0 ≤ (I a0 12)) → ((kd a0).1 = 9 ∧ ((kd a0).1 = 9 ∧ (((I a0 10) ≤ (I a0 11) → R (d + 1) mX9_reads 126 [.ref a0, .int x1] [] ((n, z, kd), I, J, F) Q) ∧ (¬ ((I a0 10) ≤ (I a0 11)) → ((kd a0).1 = 9 ∧ ((kd a0).1 = 9 ∧ R d mX9_wrong 0 [.ref a0, .int (I a0 11)] [] ((n, z, kd), I, J, F) fun v1 s2 => v1 = none ∧ R (d + 1) mX9_reads 126 [.ref a0, .int x1] [] s2 Q)))))))))) :
    R (d + 1) mX9_reads 100 [.ref a0, .int x1] [] ((n, z, kd), I, J, F) Q := hR.go [42, 77, 100, 126] 14 h
theorem BX9_reads_126 {R : azP} (hR : azClosed R) {d n z : Nat} {kd : azK} {I : azI} {J : azJ} {F : azR} {Q : azQ} {a0 : Nat} {x1 : Int32}
    (h : ((kd a0).1 = 9 ∧ ((¬ (I a0 13) = 0 → ((kd a0).1 = 9 ∧ Q (some (.int (I a0 12))) ((n, z, kd), I, J, F))) ∧ (¬ (¬ (I a0 13) = 0) → ((kd a0).1 = 9 ∧ ((kd a0).1 = 9 ∧ R d mX9_wrong 0 [.ref a0, .int (I a0 10)] [] ((n, z, kd), I, J, F) fun v1 s2 => v1 = none ∧ ((s2.1.2.2 a0).1 = 9 ∧ Q (some (.int (s2.2.1 a0 12))) s2))))))) :
    R (d + 1) mX9_reads 126 [.ref a0, .int x1] [] ((n, z, kd), I, J, F) Q := hR.go [42, 77, 100, 126] 11 h
set_option maxRecDepth 100000 in
theorem BX9_readsRule_0 {R : azP} (hR : azClosed R) {d n z : Nat} {kd : azK} {I : azI} {J : azJ} {F : azR} {Q : azQ} {a0 : Nat} {x1 : Int32}
    (h : ((kd a0).1 = 9 ∧ zOf (F a0 2) fun b1 => (((kd b1).1 = 10 ∨ (kd b1).1 = 15) ∧ vp_in ((nI 81) * x1) (kd b1).2 ∧ ((kd a0).1 = 9 ∧ ((kd a0).1 = 9 ∧ zOf (F a0 2) fun b2 => ((kd a0).1 = 9 ∧ zOf (F a0 9) fun b3 => ((kd a0).1 = 9 ∧ (R d mX9_pours 0 [.ref b2, .int (((nI 81) * x1) + (nI 1)), .ref b3, .int (nI 0), .int ((azUp I a0 10 (I b1 (((nI 81) * x1).toNatClampNeg))) a0 10), .retAddr 0] [] ((n, z, kd), (azUp I a0 10 (I b1 (((nI 81) * x1).toNatClampNeg))), J, F) fun v4 s5 => v4 = none ∧ ((s5.1.2.2 a0).1 = 9 ∧ ((¬ (s5.2.1 a0 10) = 0 → ((s5.1.2.2 a0).1 = 9 ∧ R d mX9_reads 0 [.ref a0, .retAddr 0] [] s5 fun v6 s7 => kI v6 fun r8 => (((nI 1) = 0 ∨ (nI 1) = 1) ∧ Q (some (.int (nI 1))) s7))) ∧ (¬ (¬ (s5.2.1 a0 10) = 0) → (((nI 0) = 0 ∨ (nI 0) = 1) ∧ Q (some (.int (nI 0))) s5)))))))))))) :
    R (d + 1) mX9_readsRule 0 [.ref a0, .int x1] [] ((n, z, kd), I, J, F) Q := hR.go [] 30 h
set_option maxRecDepth 100000 in
theorem BX9_rule_0 {R : azP} (hR : azClosed R) {d n z : Nat} {kd : azK} {I : azI} {J : azJ} {F : azR} {Q : azQ} {a0 : Nat} {x1 : Int32}
    (h : (R d mX9_isPlace 0 [.int x1] [] ((n, z, kd), I, J, F) fun v1 s2 => kI v1 fun r3 => ((¬ r3 = 0 → ((s2.1.2.2 a0).1 = 9 ∧ ((s2.1.2.2 a0).1 = 9 ∧ ((s2.1.2.2 a0).1 = 9 ∧ zOf (s2.2.2.2 a0 7) fun b4 => ((s2.1.2.2 a0).1 = 9 ∧ zOf (s2.2.2.2 a0 9) fun b5 => ((s2.1.2.2 a0).1 = 9 ∧ (R d mX9_pours 0 [.ref b4, .int (nI 0), .ref b5, .int (nI 0), .int ((azUp s2.2.1 a0 10 (s2.2.1 a0 8)) a0 10), .retAddr 0] [] ((s2.1), (azUp s2.2.1 a0 10 (s2.2.1 a0 8)), s2.2.2.1, s2.2.2.2) fun v6 s7 => v6 = none ∧ ((s7.1.2.2 a0).1 = 9 ∧ ((s7.1.2.2 a0).1 = 9 ∧ R d mX9_reads 0 [.ref a0, .retAddr 0] [] ((s7.1), (azUp s7.2.1 a0 8 (nI 0)), s7.2.2.1, s7.2.2.2) fun v8 s9 => kI v8 fun r10 => ((r10 < 0 → ((s9.1.2.2 a0).1 = 9 ∧ zOf (s9.2.2.2 a0 2) fun b11 => ((s9.1.2.2 a0).1 = 9 ∧ ((s9.1.2.2 b11).1 = 10 ∧ vp_in ((nI 81) * x1) (s9.1.2.2 b11).2 ∧ ((s9.1.2.2 a0).1 = 9 ∧ zOf (s9.2.2.2 a0 9) fun b12 => ((s9.1.2.2 a0).1 = 9 ∧ zOf (s9.2.2.2 a0 2) fun b13 => ((s9.1.2.2 a0).1 = 9 ∧ (R d mX9_pours 0 [.ref b12, .int (nI 0), .ref b13, .int (((nI 81) * x1) + (nI 1)), .int ((azUp s9.2.1 b11 (((nI 81) * x1).toNatClampNeg) (s9.2.1 a0 10)) a0 10), .retAddr 0] [] ((s9.1), (azUp s9.2.1 b11 (((nI 81) * x1).toNatClampNeg) (s9.2.1 a0 10)), s9.2.2.1, s9.2.2.2) fun v14 s15 => v14 = none ∧ ((s15.1.2.2 a0).1 = 9 ∧ Q (some (.int (s15.2.1 a0 22))) s15))))))))) ∧ (¬ (r10 < 0) → ((s9.1.2.2 a0).1 = 9 ∧ Q (some (.int ((-(nI 100)) - (s9.2.1 a0 12)))) s9)))))))))))) ∧ (¬ (¬ r3 = 0) → Q (some (.int (-(nI 1)))) s2)))) :
    R (d + 1) mX9_rule 0 [.ref a0, .int x1] [] ((n, z, kd), I, J, F) Q := hR.go [] 47 h
theorem BX9_drop_0 {R : azP} (hR : azClosed R) {d n z : Nat} {kd : azK} {I : azI} {J : azJ} {F : azR} {Q : azQ} {a0 : Nat} {x1 : Int32}
    (h : (R d mX9_isPlace 0 [.int x1] [] ((n, z, kd), I, J, F) fun v1 s2 => kI v1 fun r3 => ((¬ r3 = 0 → ((s2.1.2.2 a0).1 = 9 ∧ zOf (s2.2.2.2 a0 2) fun b4 => (((s2.1.2.2 b4).1 = 10 ∨ (s2.1.2.2 b4).1 = 15) ∧ vp_in ((nI 81) * x1) (s2.1.2.2 b4).2 ∧ ((¬ (s2.2.1 b4 (((nI 81) * x1).toNatClampNeg)) = 0 → ((s2.1.2.2 a0).1 = 9 ∧ zOf (s2.2.2.2 a0 2) fun b5 => ((s2.1.2.2 b5).1 = 10 ∧ vp_in ((nI 81) * x1) (s2.1.2.2 b5).2 ∧ Q (some (.int (nI 1))) ((s2.1), (azUp s2.2.1 b5 (((nI 81) * x1).toNatClampNeg) (nI 0)), s2.2.2.1, s2.2.2.2)))) ∧ (¬ (¬ (s2.2.1 b4 (((nI 81) * x1).toNatClampNeg)) = 0) → Q (some (.int (-(nI 3)))) s2))))) ∧ (¬ (¬ r3 = 0) → Q (some (.int (-(nI 1)))) s2)))) :
    R (d + 1) mX9_drop 0 [.ref a0, .int x1] [] ((n, z, kd), I, J, F) Q := hR.go [] 20 h
theorem BX9_has_0 {R : azP} (hR : azClosed R) {d n z : Nat} {kd : azK} {I : azI} {J : azJ} {F : azR} {Q : azQ} {a0 : Nat} {x1 x2 : Int32}
    (h : (R d mX9_isPlace 0 [.int x1] [] ((n, z, kd), I, J, F) fun v1 s2 => kI v1 fun r3 => ((r3 = 0 → Q (some (.int (-(nI 1)))) s2) ∧ (¬ (r3 = 0) → (R d mX9_isIn 0 [.long x2.toInt64, .retAddr 1, .long (lN 0), .retAddr 1, .long ((3 : Int64)), .retAddr 1] [] s2 fun v4 s5 => kI v4 fun r6 => ((¬ r6 = 0 → ((s5.1.2.2 a0).1 = 9 ∧ R d mX9_readsRule 0 [.ref a0, .int x1] [] s5 fun v7 s8 => kI v7 fun r9 => ((¬ r9 = 0 → R (d + 1) mX9_has 37 [.ref a0, .int x1, .int x2, .int (nI 0), .int (nI 0)] [] s8 Q) ∧ (¬ (¬ r9 = 0) → Q (some (.int (-(nI 3)))) s8)))) ∧ (¬ (¬ r6 = 0) → Q (some (.int (-(nI 1)))) s5))))))) :
    R (d + 1) mX9_has 0 [.ref a0, .int x1, .int x2, .retAddr 0, .retAddr 0] [] ((n, z, kd), I, J, F) Q := hR.go [37] 19 h
theorem BX9_has_37 {R : azP} (hR : azClosed R) {d n z : Nat} {kd : azK} {I : azI} {J : azJ} {F : azR} {Q : azQ} {a0 : Nat} {x1 x2 x3 x4 : Int32}
    (h : (((nI 10) ≤ x4 → ((¬ x2 = 0 → ((¬ x2 = (nI 1) → ((¬ x2 = (nI 2) → Q (some (.int x3)) ((n, z, kd), I, J, F)) ∧ (¬ (¬ x2 = (nI 2)) → ((kd a0).1 = 9 ∧ Q (some (.int (I a0 16))) ((n, z, kd), I, J, F))))) ∧ (¬ (¬ x2 = (nI 1)) → ((kd a0).1 = 9 ∧ Q (some (.int (I a0 19))) ((n, z, kd), I, J, F))))) ∧ (¬ (¬ x2 = 0) → ((kd a0).1 = 9 ∧ Q (some (.int (I a0 13))) ((n, z, kd), I, J, F))))) ∧ (¬ ((nI 10) ≤ x4) → ((kd a0).1 = 9 ∧ R (d + 1) mX9_has 37 [.ref a0, .int x1, .int x2, .int (x3 + (((I a0 21) >>> (x4 &&& 31)) &&& (nI 1))), .int (x4 + (nI 1))] [] ((n, z, kd), I, J, F) Q)))) :
    R (d + 1) mX9_has 37 [.ref a0, .int x1, .int x2, .int x3, .int x4] [] ((n, z, kd), I, J, F) Q := hR.go [37] 16 h
theorem BX9_writes_0 {R : azP} (hR : azClosed R) {d n z : Nat} {kd : azK} {I : azI} {J : azJ} {F : azR} {Q : azQ} {a0 : Nat} {x1 : Int32}
    (h : ((kd a0).1 = 9 ∧ zOf (F a0 26) fun b1 => ((kd a0).1 = 9 ∧ ((kd b1).1 = 10 ∧ vp_in (I a0 27) (kd b1).2 ∧ ((kd a0).1 = 9 ∧ ((kd a0).1 = 9 ∧ Q none ((n, z, kd), (azUp ((azUp I b1 ((I a0 27).toNatClampNeg) x1)) a0 27 (((azUp I b1 ((I a0 27).toNatClampNeg) x1) a0 27) + (nI 1))), J, F))))))) :
    R d mX9_writes 0 [.ref a0, .int x1] [] ((n, z, kd), I, J, F) Q := hR.go [] 14 h
theorem BX9_sign_0 {R : azP} (hR : azClosed R) {d n z : Nat} {kd : azK} {I : azI} {J : azJ} {F : azR} {Q : azQ} {a0 : Nat} {x1 x2 : Int32}
    (h : R d mX9_sign 11 [.ref a0, .int x1, .int x2, .int (nI 0), .int (-(nI 1)), .int (-(nI 1)), .int x1, .retAddr 0] [] ((n, z, kd), I, J, F) Q) :
    R d mX9_sign 0 [.ref a0, .int x1, .int x2, .retAddr 0, .retAddr 0, .retAddr 0, .retAddr 0, .retAddr 0] [] ((n, z, kd), I, J, F) Q := hR.go [11, 70, 75] 10 h
set_option maxRecDepth 100000 in
theorem BX9_sign_11 {R : azP} (hR : azClosed R) {d n z : Nat} {kd : azK} {I : azI} {J : azJ} {F : azR} {Q : azQ} {a0 : Nat} {x1 x2 x3 x4 x5 x6 : Int32} {w7 : Value}
    (h : ((x2 ≤ x6 → ((x4 < 0 → Q (some (.int x5)) ((n, z, kd), I, J, F)) ∧ (¬ (x4 < 0) → Q (some (.int x4)) ((n, z, kd), I, J, F)))) ∧ (¬ (x2 ≤ x6) → ((kd a0).1 = 9 ∧ zOf (F a0 9) fun b1 => (((kd b1).1 = 10 ∨ (kd b1).1 = 15) ∧ vp_in x6 (kd b1).2 ∧ ((¬ (I b1 x6.toNatClampNeg) = (nI 40) → ((¬ (I b1 x6.toNatClampNeg) = (nI 41) → ((¬ (x3 + (nI 0)) = 0 → R d mX9_sign 75 [.ref a0, .int x1, .int x2, .int (x3 + (nI 0)), .int x4, .int x5, .int x6, .int (I b1 x6.toNatClampNeg)] [] ((n, z, kd), I, J, F) Q) ∧ (¬ (¬ (x3 + (nI 0)) = 0) → (((I b1 x6.toNatClampNeg) = (nI 43) → R d mX9_sign 70 [.ref a0, .int x1, .int x2, .int (x3 + (nI 0)), .int x4, .int x5, .int x6, .int (I b1 x6.toNatClampNeg)] [] ((n, z, kd), I, J, F) Q) ∧ (¬ ((I b1 x6.toNatClampNeg) = (nI 43)) → ((¬ (I b1 x6.toNatClampNeg) = (nI 45) → R d mX9_sign 75 [.ref a0, .int x1, .int x2, .int (x3 + (nI 0)), .int x4, .int x5, .int x6, .int (I b1 x6.toNatClampNeg)] [] ((n, z, kd), I, J, F) Q) ∧ (¬ (¬ (I b1 x6.toNatClampNeg) = (nI 45)) → R d mX9_sign 70 [.ref a0, .int x1, .int x2, .int (x3 + (nI 0)), .int x4, .int x5, .int x6, .int (I b1 x6.toNatClampNeg)] [] ((n, z, kd), I, J, F) Q))))))) ∧ (¬ (¬ (I b1 x6.toNatClampNeg) = (nI 41)) → ((¬ (x3 + (-(nI 1))) = 0 → R d mX9_sign 75 [.ref a0, .int x1, .int x2, .int (x3 + (-(nI 1))), .int x4, .int x5, .int x6, .int (I b1 x6.toNatClampNeg)] [] ((n, z, kd), I, J, F) Q) ∧ (¬ (¬ (x3 + (-(nI 1))) = 0) → (((I b1 x6.toNatClampNeg) = (nI 43) → R d mX9_sign 70 [.ref a0, .int x1, .int x2, .int (x3 + (-(nI 1))), .int x4, .int x5, .int x6, .int (I b1 x6.toNatClampNeg)] [] ((n, z, kd), I, J, F) Q) ∧ (¬ ((I b1 x6.toNatClampNeg) = (nI 43)) → ((¬ (I b1 x6.toNatClampNeg) = (nI 45) → R d mX9_sign 75 [.ref a0, .int x1, .int x2, .int (x3 + (-(nI 1))), .int x4, .int x5, .int x6, .int (I b1 x6.toNatClampNeg)] [] ((n, z, kd), I, J, F) Q) ∧ (¬ (¬ (I b1 x6.toNatClampNeg) = (nI 45)) → R d mX9_sign 70 [.ref a0, .int x1, .int x2, .int (x3 + (-(nI 1))), .int x4, .int x5, .int x6, .int (I b1 x6.toNatClampNeg)] [] ((n, z, kd), I, J, F) Q))))))))) ∧ (¬ (¬ (I b1 x6.toNatClampNeg) = (nI 40)) → ((¬ (x3 + (nI 1)) = 0 → R d mX9_sign 75 [.ref a0, .int x1, .int x2, .int (x3 + (nI 1)), .int x4, .int x5, .int x6, .int (I b1 x6.toNatClampNeg)] [] ((n, z, kd), I, J, F) Q) ∧ (¬ (¬ (x3 + (nI 1)) = 0) → (((I b1 x6.toNatClampNeg) = (nI 43) → R d mX9_sign 70 [.ref a0, .int x1, .int x2, .int (x3 + (nI 1)), .int x4, .int x5, .int x6, .int (I b1 x6.toNatClampNeg)] [] ((n, z, kd), I, J, F) Q) ∧ (¬ ((I b1 x6.toNatClampNeg) = (nI 43)) → ((¬ (I b1 x6.toNatClampNeg) = (nI 45) → R d mX9_sign 75 [.ref a0, .int x1, .int x2, .int (x3 + (nI 1)), .int x4, .int x5, .int x6, .int (I b1 x6.toNatClampNeg)] [] ((n, z, kd), I, J, F) Q) ∧ (¬ (¬ (I b1 x6.toNatClampNeg) = (nI 45)) → R d mX9_sign 70 [.ref a0, .int x1, .int x2, .int (x3 + (nI 1)), .int x4, .int x5, .int x6, .int (I b1 x6.toNatClampNeg)] [] ((n, z, kd), I, J, F) Q))))))))))))) :
    R d mX9_sign 11 [.ref a0, .int x1, .int x2, .int x3, .int x4, .int x5, .int x6, w7] [] ((n, z, kd), I, J, F) Q := hR.go [11, 70, 75] 29 h
theorem BX9_sign_70 {R : azP} (hR : azClosed R) {d n z : Nat} {kd : azK} {I : azI} {J : azJ} {F : azR} {Q : azQ} {a0 : Nat} {x1 x2 x3 x4 x5 x6 x7 : Int32}
    (h : ((¬ x3 = 0 → R d mX9_sign 11 [.ref a0, .int x1, .int x2, .int x3, .int x6, .int x5, .int (x6 + (nI 1)), .int x7] [] ((n, z, kd), I, J, F) Q) ∧ (¬ (¬ x3 = 0) → ((¬ x7 = (nI 42) → R d mX9_sign 11 [.ref a0, .int x1, .int x2, .int x3, .int x6, .int x5, .int (x6 + (nI 1)), .int x7] [] ((n, z, kd), I, J, F) Q) ∧ (¬ (¬ x7 = (nI 42)) → R d mX9_sign 11 [.ref a0, .int x1, .int x2, .int x3, .int x6, .int x6, .int (x6 + (nI 1)), .int x7] [] ((n, z, kd), I, J, F) Q))))) :
    R d mX9_sign 70 [.ref a0, .int x1, .int x2, .int x3, .int x4, .int x5, .int x6, .int x7] [] ((n, z, kd), I, J, F) Q := hR.go [11, 70, 75] 15 h
theorem BX9_sign_75 {R : azP} (hR : azClosed R) {d n z : Nat} {kd : azK} {I : azI} {J : azJ} {F : azR} {Q : azQ} {a0 : Nat} {x1 x2 x3 x4 x5 x6 x7 : Int32}
    (h : ((¬ x3 = 0 → R d mX9_sign 11 [.ref a0, .int x1, .int x2, .int x3, .int x4, .int x5, .int (x6 + (nI 1)), .int x7] [] ((n, z, kd), I, J, F) Q) ∧ (¬ (¬ x3 = 0) → ((¬ x7 = (nI 42) → R d mX9_sign 11 [.ref a0, .int x1, .int x2, .int x3, .int x4, .int x5, .int (x6 + (nI 1)), .int x7] [] ((n, z, kd), I, J, F) Q) ∧ (¬ (¬ x7 = (nI 42)) → R d mX9_sign 11 [.ref a0, .int x1, .int x2, .int x3, .int x4, .int x6, .int (x6 + (nI 1)), .int x7] [] ((n, z, kd), I, J, F) Q))))) :
    R d mX9_sign 75 [.ref a0, .int x1, .int x2, .int x3, .int x4, .int x5, .int x6, .int x7] [] ((n, z, kd), I, J, F) Q := hR.go [11, 70, 75] 14 h
theorem BX9_bare_0 {R : azP} (hR : azClosed R) {d n z : Nat} {kd : azK} {I : azI} {J : azJ} {F : azR} {Q : azQ} {a0 : Nat} {x1 x2 : Int32}
    (h : R (d + 1) mX9_bare 2 [.ref a0, .int x1, .int x2, .int x1] [] ((n, z, kd), I, J, F) Q) :
    R (d + 1) mX9_bare 0 [.ref a0, .int x1, .int x2, .retAddr 0] [] ((n, z, kd), I, J, F) Q := hR.go [2] 4 h
theorem BX9_bare_2 {R : azP} (hR : azClosed R) {d n z : Nat} {kd : azK} {I : azI} {J : azJ} {F : azR} {Q : azQ} {a0 : Nat} {x1 x2 x3 : Int32}
    (h : ((kd a0).1 = 9 ∧ zOf (F a0 9) fun b1 => (((kd b1).1 = 10 ∨ (kd b1).1 = 15) ∧ vp_in x3 (kd b1).2 ∧ ((¬ (I b1 x3.toNatClampNeg) = (nI 40) → Q (some (.int x3)) ((n, z, kd), I, J, F)) ∧ (¬ (¬ (I b1 x3.toNatClampNeg) = (nI 40)) → ((kd a0).1 = 9 ∧ R d mX9_sign 0 [.ref a0, .int x3, .int (x2 - (x3 - x1)), .retAddr 0, .retAddr 0, .retAddr 0, .retAddr 0, .retAddr 0] [] ((n, z, kd), I, J, F) fun v2 s3 => kI v2 fun r4 => ((0 ≤ r4 → Q (some (.int x3)) s3) ∧ (¬ (0 ≤ r4) → R (d + 1) mX9_bare 2 [.ref a0, .int x1, .int x2, .int (x3 + (nI 1))] [] s3 Q)))))))) :
    R (d + 1) mX9_bare 2 [.ref a0, .int x1, .int x2, .int x3] [] ((n, z, kd), I, J, F) Q := hR.go [2] 19 h
set_option maxRecDepth 100000 in
theorem BX9_looseness_0 {R : azP} (hR : azClosed R) {d n z : Nat} {kd : azK} {I : azI} {J : azJ} {F : azR} {Q : azQ} {a0 : Nat} {x1 x2 : Int32}
    (h : ((kd a0).1 = 9 ∧ R d mX9_bare 0 [.ref a0, .int x1, .int x2, .retAddr 0] [] ((n, z, kd), I, J, F) fun v1 s2 => kI v1 fun r3 => ((s2.1.2.2 a0).1 = 9 ∧ R d mX9_sign 0 [.ref a0, .int r3, .int (x2 - (r3 - x1)), .retAddr 0, .retAddr 0, .retAddr 0, .retAddr 0, .retAddr 0] [] s2 fun v4 s5 => kI v4 fun r6 => ((0 ≤ r6 → ((s5.1.2.2 a0).1 = 9 ∧ zOf (s5.2.2.2 a0 9) fun b7 => (((s5.1.2.2 b7).1 = 10 ∨ (s5.1.2.2 b7).1 = 15) ∧ vp_in r6 (s5.1.2.2 b7).2 ∧ ((¬ (s5.2.1 b7 r6.toNatClampNeg) = (nI 42) → Q (some (.int (nI 2))) s5) ∧ (¬ (¬ (s5.2.1 b7 r6.toNatClampNeg) = (nI 42)) → Q (some (.int (nI 1))) s5))))) ∧ (¬ (0 ≤ r6) → Q (some (.int (nI 0))) s5))))) :
    R (d + 1) mX9_looseness 0 [.ref a0, .int x1, .int x2, .retAddr 0, .retAddr 0] [] ((n, z, kd), I, J, F) Q := hR.go [] 26 h
set_option maxRecDepth 100000 in
theorem BX9_spells_0 {R : azP} (hR : azClosed R) {d n z : Nat} {kd : azK} {I : azI} {J : azJ} {F : azR} {Q : azQ} {a0 : Nat} {x1 x2 x3 : Int32}
    (h : ((kd a0).1 = 9 ∧ R d mX9_bare 0 [.ref a0, .int x1, .int x2, .retAddr 0] [] ((n, z, kd), I, J, F) fun v1 s2 => kI v1 fun r3 => ((s2.1.2.2 a0).1 = 9 ∧ R d mX9_looseness 0 [.ref a0, .int x1, .int x2, .retAddr 0, .retAddr 0] [] s2 fun v4 s5 => kI v4 fun r6 => ((r6 ≤ x3 → (((nI 0) = 0 → R (d + 1) mX9_spells 44 [.ref a0, .int x1, .int x2, .int x3, .int r3, .int (x2 - (r3 - x1)), .int (nI 0), .retAddr 0, .retAddr 0, .retAddr 0] [] s5 Q) ∧ (¬ ((nI 0) = 0) → ((s5.1.2.2 a0).1 = 9 ∧ R d mX9_writes 0 [.ref a0, .int (nI 40)] [] s5 fun v7 s8 => v7 = none ∧ R (d + 1) mX9_spells 44 [.ref a0, .int x1, .int x2, .int x3, .int r3, .int (x2 - (r3 - x1)), .int (nI 0), .retAddr 0, .retAddr 0, .retAddr 0] [] s8 Q)))) ∧ (¬ (r6 ≤ x3) → (((nI 1) = 0 → R (d + 1) mX9_spells 44 [.ref a0, .int x1, .int x2, .int x3, .int r3, .int (x2 - (r3 - x1)), .int (nI 1), .retAddr 0, .retAddr 0, .retAddr 0] [] s5 Q) ∧ (¬ ((nI 1) = 0) → ((s5.1.2.2 a0).1 = 9 ∧ R d mX9_writes 0 [.ref a0, .int (nI 40)] [] s5 fun v9 s10 => v9 = none ∧ R (d + 1) mX9_spells 44 [.ref a0, .int x1, .int x2, .int x3, .int r3, .int (x2 - (r3 - x1)), .int (nI 1), .retAddr 0, .retAddr 0, .retAddr 0] [] s10 Q)))))))) :
    R (d + 1) mX9_spells 0 [.ref a0, .int x1, .int x2, .int x3, .retAddr 0, .retAddr 0, .retAddr 0, .retAddr 0, .retAddr 0, .retAddr 0] [] ((n, z, kd), I, J, F) Q := hR.go [44, 152] 27 h
set_option maxRecDepth 100000 in
theorem BX9_spells_44 {R : azP} (hR : azClosed R) {d n z : Nat} {kd : azK} {I : azI} {J : azJ} {F : azR} {Q : azQ} {a0 : Nat} {x1 x2 x3 x4 x5 x6 : Int32}
    (h : ((kd a0).1 = 9 ∧ R d mX9_sign 0 [.ref a0, .int x4, .int x5, .retAddr 0, .retAddr 0, .retAddr 0, .retAddr 0, .retAddr 0] [] ((n, z, kd), I, J, F) fun v1 s2 => kI v1 fun r3 => ((r3 < 0 → ((¬ (x5 - x4) = (nI 2) → R (d + 1) mX9_spells 152 [.ref a0, .int x1, .int x2, .int x3, .int x4, .int x5, .int x6, .int r3, .int x4, .int x4] [] s2 Q) ∧ (¬ (¬ (x5 - x4) = (nI 2)) → ((s2.1.2.2 a0).1 = 9 ∧ zOf (s2.2.2.2 a0 9) fun b4 => (((s2.1.2.2 b4).1 = 10 ∨ (s2.1.2.2 b4).1 = 15) ∧ vp_in x4 (s2.1.2.2 b4).2 ∧ ((¬ (s2.2.1 b4 x4.toNatClampNeg) = (nI 48) → R (d + 1) mX9_spells 152 [.ref a0, .int x1, .int x2, .int x3, .int x4, .int x5, .int x6, .int r3, .int x4, .int x4] [] s2 Q) ∧ (¬ (¬ (s2.2.1 b4 x4.toNatClampNeg) = (nI 48)) → R (d + 1) mX9_spells 152 [.ref a0, .int x1, .int x2, .int x3, .int x4, .int x5, .int x6, .int r3, .int (x4 + (nI 1)), .int (x4 + (nI 1))] [] s2 Q))))))) ∧ (¬ (r3 < 0) → ((s2.1.2.2 a0).1 = 9 ∧ zOf (s2.2.2.2 a0 9) fun b5 => (((s2.1.2.2 b5).1 = 10 ∨ (s2.1.2.2 b5).1 = 15) ∧ vp_in r3 (s2.1.2.2 b5).2 ∧ ((¬ (s2.2.1 b5 r3.toNatClampNeg) = (nI 42) → ((s2.1.2.2 a0).1 = 9 ∧ R d mX9_spells 0 [.ref a0, .int x4, .int r3, .int (nI 2), .retAddr 0, .retAddr 0, .retAddr 0, .retAddr 0, .retAddr 0, .retAddr 0] [] s2 fun v6 s7 => v6 = none ∧ ((s7.1.2.2 a0).1 = 9 ∧ zOf (s7.2.2.2 a0 9) fun b8 => (((s7.1.2.2 b8).1 = 10 ∨ (s7.1.2.2 b8).1 = 15) ∧ vp_in r3 (s7.1.2.2 b8).2 ∧ ((s7.1.2.2 a0).1 = 9 ∧ R d mX9_writes 0 [.ref a0, .int (s7.2.1 b8 r3.toNatClampNeg)] [] s7 fun v9 s10 => v9 = none ∧ ((s10.1.2.2 a0).1 = 9 ∧ R d mX9_spells 0 [.ref a0, .int (r3 + (nI 1)), .int x5, .int ((nI 2) - (nI 1)), .retAddr 0, .retAddr 0, .retAddr 0, .retAddr 0, .retAddr 0, .retAddr 0] [] s10 fun v11 s12 => v11 = none ∧ ((x6 = 0 → Q none s12) ∧ (¬ (x6 = 0) → ((s12.1.2.2 a0).1 = 9 ∧ R d mX9_writes 0 [.ref a0, .int (nI 41)] [] s12 fun v13 s14 => v13 = none ∧ Q none s14))))))))) ∧ (¬ (¬ (s2.2.1 b5 r3.toNatClampNeg) = (nI 42)) → ((s2.1.2.2 a0).1 = 9 ∧ R d mX9_spells 0 [.ref a0, .int x4, .int r3, .int (nI 1), .retAddr 0, .retAddr 0, .retAddr 0, .retAddr 0, .retAddr 0, .retAddr 0] [] s2 fun v15 s16 => v15 = none ∧ ((s16.1.2.2 a0).1 = 9 ∧ zOf (s16.2.2.2 a0 9) fun b17 => (((s16.1.2.2 b17).1 = 10 ∨ (s16.1.2.2 b17).1 = 15) ∧ vp_in r3 (s16.1.2.2 b17).2 ∧ ((s16.1.2.2 a0).1 = 9 ∧ R d mX9_writes 0 [.ref a0, .int (s16.2.1 b17 r3.toNatClampNeg)] [] s16 fun v18 s19 => v18 = none ∧ ((s19.1.2.2 a0).1 = 9 ∧ R d mX9_spells 0 [.ref a0, .int (r3 + (nI 1)), .int x5, .int ((nI 1) - (nI 1)), .retAddr 0, .retAddr 0, .retAddr 0, .retAddr 0, .retAddr 0, .retAddr 0] [] s19 fun v20 s21 => v20 = none ∧ ((x6 = 0 → Q none s21) ∧ (¬ (x6 = 0) → ((s21.1.2.2 a0).1 = 9 ∧ R d mX9_writes 0 [.ref a0, .int (nI 41)] [] s21 fun v22 s23 => v22 = none ∧ Q none s23)))))))))))))))) :
    R (d + 1) mX9_spells 44 [.ref a0, .int x1, .int x2, .int x3, .int x4, .int x5, .int x6, .retAddr 0, .retAddr 0, .retAddr 0] [] ((n, z, kd), I, J, F) Q := hR.go [44, 152] 44 h
set_option maxRecDepth 100000 in
theorem BX9_spells_152 {R : azP} (hR : azClosed R) {d n z : Nat} {kd : azK} {I : azI} {J : azJ} {F : azR} {Q : azQ} {a0 : Nat} {x1 x2 x3 x4 x5 x6 x7 x8 x9 : Int32}
    (h : ((x5 ≤ x9 → ((x6 = 0 → Q none ((n, z, kd), I, J, F)) ∧ (¬ (x6 = 0) → ((kd a0).1 = 9 ∧ R d mX9_writes 0 [.ref a0, .int (nI 41)] [] ((n, z, kd), I, J, F) fun v1 s2 => v1 = none ∧ Q none s2)))) ∧ (¬ (x5 ≤ x9) → ((kd a0).1 = 9 ∧ zOf (F a0 9) fun b3 => (((kd b3).1 = 10 ∨ (kd b3).1 = 15) ∧ vp_in x9 (kd b3).2 ∧ ((kd a0).1 = 9 ∧ R d mX9_writes 0 [.ref a0, .int (I b3 x9.toNatClampNeg)] [] ((n, z, kd), I, J, F) fun v4 s5 => v4 = none ∧ R (d + 1) mX9_spells 152 [.ref a0, .int x1, .int x2, .int x3, .int x4, .int x5, .int x6, .int x7, .int x8, .int (x9 + (nI 1))] [] s5 Q)))))) :
    R (d + 1) mX9_spells 152 [.ref a0, .int x1, .int x2, .int x3, .int x4, .int x5, .int x6, .int x7, .int x8, .int x9] [] ((n, z, kd), I, J, F) Q := hR.go [44, 152] 13 h
theorem BX9_end_0 {R : azP} (hR : azClosed R) {d n z : Nat} {kd : azK} {I : azI} {J : azJ} {F : azR} {Q : azQ} {a0 : Nat} {x1 : Int32}
    (h : R d mX9_end 2 [.ref a0, .int x1, .int x1] [] ((n, z, kd), I, J, F) Q) :
    R d mX9_end 0 [.ref a0, .int x1, .retAddr 0] [] ((n, z, kd), I, J, F) Q := hR.go [2] 4 h
set_option maxRecDepth 100000 in
theorem BX9_end_2 {R : azP} (hR : azClosed R) {d n z : Nat} {kd : azK} {I : azI} {J : azJ} {F : azR} {Q : azQ} {a0 : Nat} {x1 x2 : Int32}
    (h : ((kd a0).1 = 9 ∧ (((I a0 10) ≤ x2 → Q (some (.int x2)) ((n, z, kd), I, J, F)) ∧ (¬ ((I a0 10) ≤ x2) → ((kd a0).1 = 9 ∧ zOf (F a0 9) fun b1 => (((kd b1).1 = 10 ∨ (kd b1).1 = 15) ∧ vp_in x2 (kd b1).2 ∧ (((I b1 x2.toNatClampNeg) = (nI 59) → Q (some (.int x2)) ((n, z, kd), I, J, F)) ∧ (¬ ((I b1 x2.toNatClampNeg) = (nI 59)) → ((kd a0).1 = 9 ∧ zOf (F a0 9) fun b2 => (((kd b2).1 = 10 ∨ (kd b2).1 = 15) ∧ vp_in x2 (kd b2).2 ∧ (((I b2 x2.toNatClampNeg) = (nI 38) → Q (some (.int x2)) ((n, z, kd), I, J, F)) ∧ (¬ ((I b2 x2.toNatClampNeg) = (nI 38)) → ((kd a0).1 = 9 ∧ zOf (F a0 9) fun b3 => (((kd b3).1 = 10 ∨ (kd b3).1 = 15) ∧ vp_in x2 (kd b3).2 ∧ (((I b3 x2.toNatClampNeg) = (nI 60) → Q (some (.int x2)) ((n, z, kd), I, J, F)) ∧ (¬ ((I b3 x2.toNatClampNeg) = (nI 60)) → ((kd a0).1 = 9 ∧ zOf (F a0 9) fun b4 => (((kd b4).1 = 10 ∨ (kd b4).1 = 15) ∧ vp_in x2 (kd b4).2 ∧ (((I b4 x2.toNatClampNeg) = (nI 61) → Q (some (.int x2)) ((n, z, kd), I, J, F)) ∧ (¬ ((I b4 x2.toNatClampNeg) = (nI 61)) → ((kd a0).1 = 9 ∧ zOf (F a0 9) fun b5 => (((kd b5).1 = 10 ∨ (kd b5).1 = 15) ∧ vp_in x2 (kd b5).2 ∧ (((I b5 x2.toNatClampNeg) = (nI 62) → Q (some (.int x2)) ((n, z, kd), I, J, F)) ∧ (¬ ((I b5 x2.toNatClampNeg) = (nI 62)) → R d mX9_end 2 [.ref a0, .int x1, .int (x2 + (nI 1))] [] ((n, z, kd), I, J, F) Q)))))))))))))))))))))))) :
    R d mX9_end 2 [.ref a0, .int x1, .int x2] [] ((n, z, kd), I, J, F) Q := hR.go [2] 38 h
theorem BX9_spell_0 {R : azP} (hR : azClosed R) {d n z : Nat} {kd : azK} {I : azI} {J : azJ} {F : azR} {Q : azQ} {a0 : Nat} {x1 : Int32}
    (h : (R d mX9_isPlace 0 [.int x1] [] ((n, z, kd), I, J, F) fun v1 s2 => kI v1 fun r3 => ((¬ r3 = 0 → ((s2.1.2.2 a0).1 = 9 ∧ R d mX9_readsRule 0 [.ref a0, .int x1] [] s2 fun v4 s5 => kI v4 fun r6 => ((¬ r6 = 0 → ((s5.1.2.2 a0).1 = 9 ∧ R (d + 1) mX9_spell 27 [.ref a0, .int x1, .int (nI 0), .retAddr 0, .retAddr 0, .retAddr 0, .retAddr 0] [] ((s5.1), (azUp s5.2.1 a0 27 (nI 0)), s5.2.2.1, s5.2.2.2) Q)) ∧ (¬ (¬ r6 = 0) → Q (some (.int (-(nI 3)))) s5)))) ∧ (¬ (¬ r3 = 0) → Q (some (.int (-(nI 1)))) s2)))) :
    R (d + 1) mX9_spell 0 [.ref a0, .int x1, .retAddr 0, .retAddr 0, .retAddr 0, .retAddr 0, .retAddr 0] [] ((n, z, kd), I, J, F) Q := hR.go [27, 80, 107, 138, 215, 255] 14 h
set_option maxRecDepth 100000 in
theorem BX9_spell_27 {R : azP} (hR : azClosed R) {d n z : Nat} {kd : azK} {I : azI} {J : azJ} {F : azR} {Q : azQ} {a0 : Nat} {x1 x2 : Int32} {w3 w4 w5 w6 : Value}
    (h : ((kd a0).1 = 9 ∧ (((I a0 10) ≤ x2 → ((kd a0).1 = 9 ∧ Q (some (.int (I a0 27))) ((n, z, kd), I, J, F))) ∧ (¬ ((I a0 10) ≤ x2) → ((kd a0).1 = 9 ∧ zOf (F a0 9) fun b1 => (((kd b1).1 = 10 ∨ (kd b1).1 = 15) ∧ vp_in x2 (kd b1).2 ∧ ((¬ (I b1 x2.toNatClampNeg) = (nI 111) → ((kd a0).1 = 9 ∧ zOf (F a0 9) fun b2 => (((kd b2).1 = 10 ∨ (kd b2).1 = 15) ∧ vp_in x2 (kd b2).2 ∧ ((¬ (I b2 x2.toNatClampNeg) = (nI 105) → R (d + 1) mX9_spell 80 [.ref a0, .int x1, .int x2, .int (nI 0), w4, w5, w6] [] ((n, z, kd), I, J, F) Q) ∧ (¬ (¬ (I b2 x2.toNatClampNeg) = (nI 105)) → ((kd a0).1 = 9 ∧ zOf (F a0 9) fun b3 => (((kd b3).1 = 10 ∨ (kd b3).1 = 15) ∧ vp_in (x2 + (nI 1)) (kd b3).2 ∧ ((¬ (I b3 ((x2 + (nI 1)).toNatClampNeg)) = (nI 102) → R (d + 1) mX9_spell 80 [.ref a0, .int x1, .int x2, .int (nI 0), w4, w5, w6] [] ((n, z, kd), I, J, F) Q) ∧ (¬ (¬ (I b3 ((x2 + (nI 1)).toNatClampNeg)) = (nI 102)) → (((nI 0) = 0 → (((nI 1) = 0 → R (d + 1) mX9_spell 107 [.ref a0, .int x1, .int x2, .int (nI 0), .int (nI 1), .int (nI 0), .int (nI 0)] [] ((n, z, kd), I, J, F) Q) ∧ (¬ ((nI 1) = 0) → R (d + 1) mX9_spell 107 [.ref a0, .int x1, .int x2, .int (nI 0), .int (nI 1), .int (nI 3), .int (nI 0)] [] ((n, z, kd), I, J, F) Q))) ∧ (¬ ((nI 0) = 0) → R (d + 1) mX9_spell 107 [.ref a0, .int x1, .int x2, .int (nI 0), .int (nI 1), .int (nI 6), .int (nI 0)] [] ((n, z, kd), I, J, F) Q))))))))))) ∧ (¬ (¬ (I b1 x2.toNatClampNeg) = (nI 111)) → ((kd a0).1 = 9 ∧ zOf (F a0 9) fun b4 => (((kd b4).1 = 10 ∨ (kd b4).1 = 15) ∧ vp_in x2 (kd b4).2 ∧ ((¬ (I b4 x2.toNatClampNeg) = (nI 105) → R (d + 1) mX9_spell 80 [.ref a0, .int x1, .int x2, .int (nI 1), w4, w5, w6] [] ((n, z, kd), I, J, F) Q) ∧ (¬ (¬ (I b4 x2.toNatClampNeg) = (nI 105)) → ((kd a0).1 = 9 ∧ zOf (F a0 9) fun b5 => (((kd b5).1 = 10 ∨ (kd b5).1 = 15) ∧ vp_in (x2 + (nI 1)) (kd b5).2 ∧ ((¬ (I b5 ((x2 + (nI 1)).toNatClampNeg)) = (nI 102) → R (d + 1) mX9_spell 80 [.ref a0, .int x1, .int x2, .int (nI 1), w4, w5, w6] [] ((n, z, kd), I, J, F) Q) ∧ (¬ (¬ (I b5 ((x2 + (nI 1)).toNatClampNeg)) = (nI 102)) → (((nI 1) = 0 → (((nI 1) = 0 → R (d + 1) mX9_spell 107 [.ref a0, .int x1, .int x2, .int (nI 1), .int (nI 1), .int (nI 0), .int (nI 0)] [] ((n, z, kd), I, J, F) Q) ∧ (¬ ((nI 1) = 0) → R (d + 1) mX9_spell 107 [.ref a0, .int x1, .int x2, .int (nI 1), .int (nI 1), .int (nI 3), .int (nI 0)] [] ((n, z, kd), I, J, F) Q))) ∧ (¬ ((nI 1) = 0) → R (d + 1) mX9_spell 107 [.ref a0, .int x1, .int x2, .int (nI 1), .int (nI 1), .int (nI 6), .int (nI 0)] [] ((n, z, kd), I, J, F) Q)))))))))))))))))) :
    R (d + 1) mX9_spell 27 [.ref a0, .int x1, .int x2, w3, w4, w5, w6] [] ((n, z, kd), I, J, F) Q := hR.go [27, 80, 107, 138, 215, 255] 41 h
theorem BX9_spell_80 {R : azP} (hR : azClosed R) {d n z : Nat} {kd : azK} {I : azI} {J : azJ} {F : azR} {Q : azQ} {a0 : Nat} {x1 x2 x3 : Int32} {w4 w5 w6 : Value}
    (h : ((x3 = 0 → (((nI 0) = 0 → R (d + 1) mX9_spell 107 [.ref a0, .int x1, .int x2, .int x3, .int (nI 0), .int (nI 0), .int (nI 0)] [] ((n, z, kd), I, J, F) Q) ∧ (¬ ((nI 0) = 0) → R (d + 1) mX9_spell 107 [.ref a0, .int x1, .int x2, .int x3, .int (nI 0), .int (nI 3), .int (nI 0)] [] ((n, z, kd), I, J, F) Q))) ∧ (¬ (x3 = 0) → R (d + 1) mX9_spell 107 [.ref a0, .int x1, .int x2, .int x3, .int (nI 0), .int (nI 6), .int (nI 0)] [] ((n, z, kd), I, J, F) Q))) :
    R (d + 1) mX9_spell 80 [.ref a0, .int x1, .int x2, .int x3, w4, w5, w6] [] ((n, z, kd), I, J, F) Q := hR.go [27, 80, 107, 138, 215, 255] 13 h
theorem BX9_spell_107 {R : azP} (hR : azClosed R) {d n z : Nat} {kd : azK} {I : azI} {J : azJ} {F : azR} {Q : azQ} {a0 : Nat} {x1 x2 x3 x4 x5 x6 : Int32}
    (h : ((x5 ≤ x6 → R (d + 1) mX9_spell 138 [.ref a0, .int x1, .int (x2 + x5), .int x3, .int x4, .int x5, .int x6] [] ((n, z, kd), I, J, F) Q) ∧ (¬ (x5 ≤ x6) → ((kd a0).1 = 9 ∧ zOf (F a0 9) fun b1 => (((kd b1).1 = 10 ∨ (kd b1).1 = 15) ∧ vp_in (x2 + x6) (kd b1).2 ∧ ((kd a0).1 = 9 ∧ R d mX9_writes 0 [.ref a0, .int (I b1 ((x2 + x6).toNatClampNeg))] [] ((n, z, kd), I, J, F) fun v2 s3 => v2 = none ∧ R (d + 1) mX9_spell 107 [.ref a0, .int x1, .int x2, .int x3, .int x4, .int x5, .int (x6 + (nI 1))] [] s3 Q)))))) :
    R (d + 1) mX9_spell 107 [.ref a0, .int x1, .int x2, .int x3, .int x4, .int x5, .int x6] [] ((n, z, kd), I, J, F) Q := hR.go [27, 80, 107, 138, 215, 255] 15 h
set_option maxRecDepth 100000 in
theorem BX9_spell_138 {R : azP} (hR : azClosed R) {d n z : Nat} {kd : azK} {I : azI} {J : azJ} {F : azR} {Q : azQ} {a0 : Nat} {x1 x2 x3 x4 x5 x6 : Int32}
    (h : ((x5 ≤ 0 → R (d + 1) mX9_spell 215 [.ref a0, .int x1, .int x2, .int x3, .int x4, .int x5, .int x6] [] ((n, z, kd), I, J, F) Q) ∧ (¬ (x5 ≤ 0) → ((kd a0).1 = 9 ∧ (((I a0 10) ≤ x2 → R (d + 1) mX9_spell 215 [.ref a0, .int x1, .int x2, .int x3, .int x4, .int x5, .int x6] [] ((n, z, kd), I, J, F) Q) ∧ (¬ ((I a0 10) ≤ x2) → ((kd a0).1 = 9 ∧ zOf (F a0 9) fun b1 => (((kd b1).1 = 10 ∨ (kd b1).1 = 15) ∧ vp_in x2 (kd b1).2 ∧ (((I b1 x2.toNatClampNeg) = (nI 59) → R (d + 1) mX9_spell 215 [.ref a0, .int x1, .int x2, .int x3, .int x4, .int x5, .int x6] [] ((n, z, kd), I, J, F) Q) ∧ (¬ ((I b1 x2.toNatClampNeg) = (nI 59)) → ((kd a0).1 = 9 ∧ R d mX9_end 0 [.ref a0, .int x2, .retAddr 0] [] ((n, z, kd), I, J, F) fun v2 s3 => kI v2 fun r4 => ((s3.1.2.2 a0).1 = 9 ∧ R d mX9_spells 0 [.ref a0, .int x2, .int r4, .int (nI 2), .retAddr 0, .retAddr 0, .retAddr 0, .retAddr 0, .retAddr 0, .retAddr 0] [] s3 fun v5 s6 => v5 = none ∧ ((s6.1.2.2 a0).1 = 9 ∧ (((s6.2.1 a0 10) ≤ r4 → R (d + 1) mX9_spell 138 [.ref a0, .int x1, .int r4, .int x3, .int x4, .int x5, .int r4] [] s6 Q) ∧ (¬ ((s6.2.1 a0 10) ≤ r4) → ((s6.1.2.2 a0).1 = 9 ∧ zOf (s6.2.2.2 a0 9) fun b7 => (((s6.1.2.2 b7).1 = 10 ∨ (s6.1.2.2 b7).1 = 15) ∧ vp_in r4 (s6.1.2.2 b7).2 ∧ (((s6.2.1 b7 r4.toNatClampNeg) = (nI 59) → R (d + 1) mX9_spell 138 [.ref a0, .int x1, .int r4, .int x3, .int x4, .int x5, .int r4] [] s6 Q) ∧ (¬ ((s6.2.1 b7 r4.toNatClampNeg) = (nI 59)) → ((s6.1.2.2 a0).1 = 9 ∧ zOf (s6.2.2.2 a0 9) fun b8 => (((s6.1.2.2 b8).1 = 10 ∨ (s6.1.2.2 b8).1 = 15) ∧ vp_in r4 (s6.1.2.2 b8).2 ∧ ((s6.1.2.2 a0).1 = 9 ∧ R d mX9_writes 0 [.ref a0, .int (s6.2.1 b8 r4.toNatClampNeg)] [] s6 fun v9 s10 => v9 = none ∧ R (d + 1) mX9_spell 138 [.ref a0, .int x1, .int (r4 + (nI 1)), .int x3, .int x4, .int x5, .int r4] [] s10 Q)))))))))))))))))))))) :
    R (d + 1) mX9_spell 138 [.ref a0, .int x1, .int x2, .int x3, .int x4, .int x5, .int x6] [] ((n, z, kd), I, J, F) Q := hR.go [27, 80, 107, 138, 215, 255] 43 h
set_option maxRecDepth 100000 in
theorem BX9_spell_215 {R : azP} (hR : azClosed R) {d n z : Nat} {kd : azK} {I : azI} {J : azJ} {F : azR} {Q : azQ} {a0 : Nat} {x1 x2 x3 x4 x5 x6 : Int32}
    (h : ((¬ x5 = 0 → R (d + 1) mX9_spell 255 [.ref a0, .int x1, .int x2, .int x3, .int x4, .int x5, .int x6] [] ((n, z, kd), I, J, F) Q) ∧ (¬ (¬ x5 = 0) → ((kd a0).1 = 9 ∧ (((I a0 10) ≤ x2 → R (d + 1) mX9_spell 255 [.ref a0, .int x1, .int x2, .int x3, .int x4, .int x5, .int x6] [] ((n, z, kd), I, J, F) Q) ∧ (¬ ((I a0 10) ≤ x2) → ((kd a0).1 = 9 ∧ zOf (F a0 9) fun b1 => (((kd b1).1 = 10 ∨ (kd b1).1 = 15) ∧ vp_in x2 (kd b1).2 ∧ (((I b1 x2.toNatClampNeg) = (nI 59) → R (d + 1) mX9_spell 255 [.ref a0, .int x1, .int x2, .int x3, .int x4, .int x5, .int x6] [] ((n, z, kd), I, J, F) Q) ∧ (¬ ((I b1 x2.toNatClampNeg) = (nI 59)) → ((kd a0).1 = 9 ∧ zOf (F a0 9) fun b2 => (((kd b2).1 = 10 ∨ (kd b2).1 = 15) ∧ vp_in x2 (kd b2).2 ∧ ((kd a0).1 = 9 ∧ R d mX9_writes 0 [.ref a0, .int (I b2 x2.toNatClampNeg)] [] ((n, z, kd), I, J, F) fun v3 s4 => v3 = none ∧ R (d + 1) mX9_spell 215 [.ref a0, .int x1, .int (x2 + (nI 1)), .int x3, .int x4, .int x5, .int x6] [] s4 Q))))))))))))) :
    R (d + 1) mX9_spell 215 [.ref a0, .int x1, .int x2, .int x3, .int x4, .int x5, .int x6] [] ((n, z, kd), I, J, F) Q := hR.go [27, 80, 107, 138, 215, 255] 22 h
theorem BX9_spell_255 {R : azP} (hR : azClosed R) {d n z : Nat} {kd : azK} {I : azI} {J : azJ} {F : azR} {Q : azQ} {a0 : Nat} {x1 x2 x3 x4 x5 x6 : Int32}
    (h : ((kd a0).1 = 9 ∧ (((I a0 10) ≤ x2 → R (d + 1) mX9_spell 27 [.ref a0, .int x1, .int x2, .int x3, .int x4, .int x5, .int x6] [] ((n, z, kd), I, J, F) Q) ∧ (¬ ((I a0 10) ≤ x2) → ((kd a0).1 = 9 ∧ R d mX9_writes 0 [.ref a0, .int (nI 59)] [] ((n, z, kd), I, J, F) fun v1 s2 => v1 = none ∧ R (d + 1) mX9_spell 27 [.ref a0, .int x1, .int (x2 + (nI 1)), .int x3, .int x4, .int x5, .int x6] [] s2 Q))))) :
    R (d + 1) mX9_spell 255 [.ref a0, .int x1, .int x2, .int x3, .int x4, .int x5, .int x6] [] ((n, z, kd), I, J, F) Q := hR.go [27, 80, 107, 138, 215, 255] 11 h
theorem BX9_writesNumber_0 {R : azP} (hR : azClosed R) {d n z : Nat} {kd : azK} {I : azI} {J : azJ} {F : azR} {Q : azQ} {a0 : Nat} {x1 : Int32}
    (h : ((x1 ≤ (nI 9) → ¬ (nI 10) = 0 ∧ ((kd a0).1 = 9 ∧ R d mX9_writes 0 [.ref a0, .int ((nI 48) + (x1 - x1 / (nI 10) * (nI 10)))] [] ((n, z, kd), I, J, F) fun v1 s2 => v1 = none ∧ Q none s2)) ∧ (¬ (x1 ≤ (nI 9)) → ¬ (nI 10) = 0 ∧ ((kd a0).1 = 9 ∧ R d mX9_writes 0 [.ref a0, .int ((nI 48) + (x1 / (nI 10)))] [] ((n, z, kd), I, J, F) fun v3 s4 => v3 = none ∧ ¬ (nI 10) = 0 ∧ ((s4.1.2.2 a0).1 = 9 ∧ R d mX9_writes 0 [.ref a0, .int ((nI 48) + (x1 - x1 / (nI 10) * (nI 10)))] [] s4 fun v5 s6 => v5 = none ∧ Q none s6))))) :
    R (d + 1) mX9_writesNumber 0 [.ref a0, .int x1] [] ((n, z, kd), I, J, F) Q := hR.go [] 19 h
theorem BX9_line_0 {R : azP} (hR : azClosed R) {d n z : Nat} {kd : azK} {I : azI} {J : azJ} {F : azR} {Q : azQ} {a0 : Nat}
    (h : ((kd a0).1 = 9 ∧ R (d + 1) mX9_line 7 [.ref a0, .int (nI 0), .retAddr 0] [] ((n, z, kd), (azUp I a0 27 (nI 0)), J, F) Q)) :
    R (d + 1) mX9_line 0 [.ref a0, .retAddr 0, .retAddr 0] [] ((n, z, kd), I, J, F) Q := hR.go [7, 35, 51] 7 h
set_option maxRecDepth 100000 in
theorem BX9_line_7 {R : azP} (hR : azClosed R) {d n z : Nat} {kd : azK} {I : azI} {J : azJ} {F : azR} {Q : azQ} {a0 : Nat} {x1 : Int32} {w2 : Value}
    (h : (((nI 10) ≤ x1 → ((kd a0).1 = 9 ∧ Q (some (.int (I a0 27))) ((n, z, kd), I, J, F))) ∧ (¬ ((nI 10) ≤ x1) → ((kd a0).1 = 9 ∧ zOf (F a0 0) fun b1 => (((kd b1).1 = 10 ∨ (kd b1).1 = 15) ∧ vp_in x1 (kd b1).2 ∧ (((I b1 x1.toNatClampNeg) ≤ 0 → R (d + 1) mX9_line 7 [.ref a0, .int (x1 + (nI 1)), w2] [] ((n, z, kd), I, J, F) Q) ∧ (¬ ((I b1 x1.toNatClampNeg) ≤ 0) → ((kd a0).1 = 9 ∧ (((I a0 27) ≤ 0 → R (d + 1) mX9_line 35 [.ref a0, .int x1, w2] [] ((n, z, kd), I, J, F) Q) ∧ (¬ ((I a0 27) ≤ 0) → ((kd a0).1 = 9 ∧ R d mX9_writes 0 [.ref a0, .int (nI 32)] [] ((n, z, kd), I, J, F) fun v2 s3 => v2 = none ∧ R (d + 1) mX9_line 35 [.ref a0, .int x1, w2] [] s3 Q))))))))))) :
    R (d + 1) mX9_line 7 [.ref a0, .int x1, w2] [] ((n, z, kd), I, J, F) Q := hR.go [7, 35, 51] 16 h
theorem BX9_line_35 {R : azP} (hR : azClosed R) {d n z : Nat} {kd : azK} {I : azI} {J : azJ} {F : azR} {Q : azQ} {a0 : Nat} {x1 : Int32} {w2 : Value}
    (h : ((kd a0).1 = 9 ∧ R d mX9_writes 0 [.ref a0, .int (nI 80)] [] ((n, z, kd), I, J, F) fun v1 s2 => v1 = none ∧ ((s2.1.2.2 a0).1 = 9 ∧ R d mX9_writes 0 [.ref a0, .int ((nI 48) + x1)] [] s2 fun v3 s4 => v3 = none ∧ R (d + 1) mX9_line 51 [.ref a0, .int x1, .int (nI 0)] [] s4 Q))) :
    R (d + 1) mX9_line 35 [.ref a0, .int x1, w2] [] ((n, z, kd), I, J, F) Q := hR.go [7, 35, 51] 12 h
set_option maxRecDepth 100000 in
theorem BX9_line_51 {R : azP} (hR : azClosed R) {d n z : Nat} {kd : azK} {I : azI} {J : azJ} {F : azR} {Q : azQ} {a0 : Nat} {x1 x2 : Int32}
    (h : ((kd a0).1 = 9 ∧ zOf (F a0 0) fun b1 => (((kd b1).1 = 10 ∨ (kd b1).1 = 15) ∧ vp_in x1 (kd b1).2 ∧ (((I b1 x1.toNatClampNeg) ≤ x2 → R (d + 1) mX9_line 7 [.ref a0, .int (x1 + (nI 1)), .int x2] [] ((n, z, kd), I, J, F) Q) ∧ (¬ ((I b1 x1.toNatClampNeg) ≤ x2) → ((¬ x2 = 0 → ((kd a0).1 = 9 ∧ R d mX9_writes 0 [.ref a0, .int (nI 44)] [] ((n, z, kd), I, J, F) fun v2 s3 => v2 = none ∧ ((s3.1.2.2 a0).1 = 9 ∧ zOf (s3.2.2.2 a0 0) fun b4 => (R d mX9_at 0 [.int x1, .int x2] [] s3 fun v5 s6 => kI v5 fun r7 => (((s6.1.2.2 b4).1 = 10 ∨ (s6.1.2.2 b4).1 = 15) ∧ vp_in r7 (s6.1.2.2 b4).2 ∧ ((s6.1.2.2 a0).1 = 9 ∧ R d mX9_writesNumber 0 [.ref a0, .int (s6.2.1 b4 r7.toNatClampNeg)] [] s6 fun v8 s9 => v8 = none ∧ R (d + 1) mX9_line 51 [.ref a0, .int x1, .int (x2 + (nI 1))] [] s9 Q)))))) ∧ (¬ (¬ x2 = 0) → ((kd a0).1 = 9 ∧ R d mX9_writes 0 [.ref a0, .int (nI 61)] [] ((n, z, kd), I, J, F) fun v10 s11 => v10 = none ∧ ((s11.1.2.2 a0).1 = 9 ∧ zOf (s11.2.2.2 a0 0) fun b12 => (R d mX9_at 0 [.int x1, .int x2] [] s11 fun v13 s14 => kI v13 fun r15 => (((s14.1.2.2 b12).1 = 10 ∨ (s14.1.2.2 b12).1 = 15) ∧ vp_in r15 (s14.1.2.2 b12).2 ∧ ((s14.1.2.2 a0).1 = 9 ∧ R d mX9_writesNumber 0 [.ref a0, .int (s14.2.1 b12 r15.toNatClampNeg)] [] s14 fun v16 s17 => v16 = none ∧ R (d + 1) mX9_line 51 [.ref a0, .int x1, .int (x2 + (nI 1))] [] s17 Q)))))))))))) :
    R (d + 1) mX9_line 51 [.ref a0, .int x1, .int x2] [] ((n, z, kd), I, J, F) Q := hR.go [7, 35, 51] 24 h
end
section
/-! BLOCKS: the reference, second half (written by wip/whole/blocks.py) -/
theorem BX9_paper_0 {R : azP} (hR : azClosed R) {d n z : Nat} {kd : azK} {I : azI} {J : azJ} {F : azR} {Q : azQ} {a0 : Nat} {x1 : Int32}
    (h : ((kd a0).1 = 9 ∧ (R d mX9_isIn 0 [.long x1.toInt64, .retAddr 1, .long (lN 0), .retAddr 1, .long (((I a0 27) - (nI 1)).toInt64), .retAddr 1] [] ((n, z, kd), I, J, F) fun v1 s2 => kI v1 fun r3 => ((r3 = 0 → Q (some (.int (-(nI 1)))) s2) ∧ (¬ (r3 = 0) → ((s2.1.2.2 a0).1 = 9 ∧ zOf (s2.2.2.2 a0 26) fun b4 => (((s2.1.2.2 b4).1 = 10 ∨ (s2.1.2.2 b4).1 = 15) ∧ vp_in x1 (s2.1.2.2 b4).2 ∧ Q (some (.int (s2.2.1 b4 x1.toNatClampNeg))) s2))))))) :
    R (d + 1) mX9_paper 0 [.ref a0, .int x1] [] ((n, z, kd), I, J, F) Q := hR.go [] 17 h
theorem BX9_isBinding_0 {R : azP} (hR : azClosed R) {d n z : Nat} {kd : azK} {I : azI} {J : azJ} {F : azR} {Q : azQ} {a0 a1 : Nat}
    (h : R (d + 1) mX9_isBinding 4 [.ref a0, .ref a1, .int (nI 0), .int (nI 0), .retAddr 0, .retAddr 0] [] ((n, z, kd), I, J, F) Q) :
    R (d + 1) mX9_isBinding 0 [.ref a0, .ref a1, .retAddr 0, .retAddr 0, .retAddr 0, .retAddr 0] [] ((n, z, kd), I, J, F) Q := hR.go [4, 34, 112, 147] 6 h
set_option maxRecDepth 100000 in
theorem BX9_isBinding_4 {R : azP} (hR : azClosed R) {d n z : Nat} {kd : azK} {I : azI} {J : azJ} {F : azR} {Q : azQ} {a0 a1 : Nat} {x2 x3 : Int32} {w4 w5 : Value}
    (h : ((kd a0).1 = 9 ∧ (((I a0 13) ≤ x3 → R (d + 1) mX9_isBinding 147 [.ref a0, .ref a1, .int x2, .int (nI 1), .int (nI 0), w5] [] ((n, z, kd), I, J, F) Q) ∧ (¬ ((I a0 13) ≤ x3) → ((kd a0).1 = 9 ∧ zOf (F a0 14) fun b1 => (((kd b1).1 = 10 ∨ (kd b1).1 = 15) ∧ vp_in x3 (kd b1).2 ∧ ((kd a0).1 = 9 ∧ zOf (F a0 28) fun b2 => (((kd b2).1 = 10 ∨ (kd b2).1 = 15) ∧ vp_in x3 (kd b2).2 ∧ (R d mX9_at 0 [.int (I b1 x3.toNatClampNeg), .int (I b2 x3.toNatClampNeg)] [] ((n, z, kd), I, J, F) fun v3 s4 => kI v3 fun r5 => (((s4.1.2.2 a1).1 = 10 ∨ (s4.1.2.2 a1).1 = 15) ∧ vp_in r5 (s4.1.2.2 a1).2 ∧ R (d + 1) mX9_isBinding 34 [.ref a0, .ref a1, .int x2, .int x3, .int (s4.2.1 a1 r5.toNatClampNeg), .int (nI 0)] [] s4 Q)))))))))) :
    R (d + 1) mX9_isBinding 4 [.ref a0, .ref a1, .int x2, .int x3, w4, w5] [] ((n, z, kd), I, J, F) Q := hR.go [4, 34, 112, 147] 20 h
set_option maxRecDepth 100000 in
theorem BX9_isBinding_34 {R : azP} (hR : azClosed R) {d n z : Nat} {kd : azK} {I : azI} {J : azJ} {F : azR} {Q : azQ} {a0 a1 : Nat} {x2 x3 x4 x5 : Int32}
    (h : ((x3 ≤ x5 → ((kd a0).1 = 9 ∧ zOf (F a0 15) fun b1 => (((kd b1).1 = 10 ∨ (kd b1).1 = 15) ∧ vp_in x3 (kd b1).2 ∧ ((¬ ((x2 >>> ((I b1 x3.toNatClampNeg) &&& 31)) &&& (nI 1)) = (nI 1) → R (d + 1) mX9_isBinding 112 [.ref a0, .ref a1, .int x2, .int x3, .int x4, .int x5] [] ((n, z, kd), I, J, F) Q) ∧ (¬ (¬ ((x2 >>> ((I b1 x3.toNatClampNeg) &&& 31)) &&& (nI 1)) = (nI 1)) → ((kd a0).1 = 9 ∧ zOf (F a0 23) fun b2 => ((kd a0).1 = 9 ∧ zOf (F a0 15) fun b3 => (((kd b3).1 = 10 ∨ (kd b3).1 = 15) ∧ vp_in x3 (kd b3).2 ∧ (((kd b2).1 = 10 ∨ (kd b2).1 = 15) ∧ vp_in (I b3 x3.toNatClampNeg) (kd b2).2 ∧ (((I b2 ((I b3 x3.toNatClampNeg).toNatClampNeg)) = x4 → R (d + 1) mX9_isBinding 112 [.ref a0, .ref a1, .int x2, .int x3, .int x4, .int x5] [] ((n, z, kd), I, J, F) Q) ∧ (¬ ((I b2 ((I b3 x3.toNatClampNeg).toNatClampNeg)) = x4) → (((nI 0) = 0 ∨ (nI 0) = 1) ∧ Q (some (.int (nI 0))) ((n, z, kd), I, J, F))))))))))))) ∧ (¬ (x3 ≤ x5) → ((kd a0).1 = 9 ∧ zOf (F a0 14) fun b4 => (((kd b4).1 = 10 ∨ (kd b4).1 = 15) ∧ vp_in x5 (kd b4).2 ∧ ((kd a0).1 = 9 ∧ zOf (F a0 14) fun b5 => (((kd b5).1 = 10 ∨ (kd b5).1 = 15) ∧ vp_in x3 (kd b5).2 ∧ ((¬ (I b4 x5.toNatClampNeg) = (I b5 x3.toNatClampNeg) → R (d + 1) mX9_isBinding 34 [.ref a0, .ref a1, .int x2, .int x3, .int x4, .int (x5 + (nI 1))] [] ((n, z, kd), I, J, F) Q) ∧ (¬ (¬ (I b4 x5.toNatClampNeg) = (I b5 x3.toNatClampNeg)) → ((kd a0).1 = 9 ∧ zOf (F a0 28) fun b6 => (((kd b6).1 = 10 ∨ (kd b6).1 = 15) ∧ vp_in x5 (kd b6).2 ∧ ((kd a0).1 = 9 ∧ zOf (F a0 28) fun b7 => (((kd b7).1 = 10 ∨ (kd b7).1 = 15) ∧ vp_in x3 (kd b7).2 ∧ ((¬ (I b6 x5.toNatClampNeg) = (I b7 x3.toNatClampNeg) → R (d + 1) mX9_isBinding 34 [.ref a0, .ref a1, .int x2, .int x3, .int x4, .int (x5 + (nI 1))] [] ((n, z, kd), I, J, F) Q) ∧ (¬ (¬ (I b6 x5.toNatClampNeg) = (I b7 x3.toNatClampNeg)) → (((nI 0) = 0 ∨ (nI 0) = 1) ∧ Q (some (.int (nI 0))) ((n, z, kd), I, J, F))))))))))))))))) :
    R (d + 1) mX9_isBinding 34 [.ref a0, .ref a1, .int x2, .int x3, .int x4, .int x5] [] ((n, z, kd), I, J, F) Q := hR.go [4, 34, 112, 147] 25 h
theorem BX9_isBinding_112 {R : azP} (hR : azClosed R) {d n z : Nat} {kd : azK} {I : azI} {J : azJ} {F : azR} {Q : azQ} {a0 a1 : Nat} {x2 x3 x4 x5 : Int32}
    (h : ((kd a0).1 = 9 ∧ zOf (F a0 15) fun b1 => (((kd b1).1 = 10 ∨ (kd b1).1 = 15) ∧ vp_in x3 (kd b1).2 ∧ ((kd a0).1 = 9 ∧ zOf (F a0 23) fun b2 => ((kd a0).1 = 9 ∧ zOf (F a0 15) fun b3 => (((kd b3).1 = 10 ∨ (kd b3).1 = 15) ∧ vp_in x3 (kd b3).2 ∧ ((kd b2).1 = 10 ∧ vp_in (I b3 x3.toNatClampNeg) (kd b2).2 ∧ R (d + 1) mX9_isBinding 4 [.ref a0, .ref a1, .int (x2 ||| ((nI 1) <<< ((I b1 x3.toNatClampNeg) &&& 31))), .int (x3 + (nI 1)), .int x4, .int x5] [] ((n, z, kd), (azUp I b2 ((I b3 x3.toNatClampNeg).toNatClampNeg) x4), J, F) Q))))))) :
    R (d + 1) mX9_isBinding 112 [.ref a0, .ref a1, .int x2, .int x3, .int x4, .int x5] [] ((n, z, kd), I, J, F) Q := hR.go [4, 34, 112, 147] 21 h
set_option maxRecDepth 100000 in
theorem BX9_isBinding_147 {R : azP} (hR : azClosed R) {d n z : Nat} {kd : azK} {I : azI} {J : azJ} {F : azR} {Q : azQ} {a0 a1 : Nat} {x2 x3 x4 : Int32} {w5 : Value}
    (h : ((kd a0).1 = 9 ∧ (((I a0 19) ≤ x4 → ((x3 = 0 ∨ x3 = 1) ∧ Q (some (.int x3)) ((n, z, kd), I, J, F))) ∧ (¬ ((I a0 19) ≤ x4) → ((x3 = 0 → ((x3 = 0 ∨ x3 = 1) ∧ Q (some (.int x3)) ((n, z, kd), I, J, F))) ∧ (¬ (x3 = 0) → ((kd a0).1 = 9 ∧ zOf (F a0 20) fun b1 => (((kd b1).1 = 10 ∨ (kd b1).1 = 15) ∧ vp_in x4 (kd b1).2 ∧ ((kd a0).1 = 9 ∧ ((kd a0).1 = 9 ∧ R d mX9_compares 0 [.ref a0, .retAddr 0, .retAddr 0, .retAddr 0] [] ((n, z, kd), (azUp I a0 11 (I b1 x4.toNatClampNeg)), J, F) fun v2 s3 => kI v2 fun r4 => R (d + 1) mX9_isBinding 147 [.ref a0, .ref a1, .int x2, .int r4, .int (x4 + (nI 1)), w5] [] s3 Q)))))))))) :
    R (d + 1) mX9_isBinding 147 [.ref a0, .ref a1, .int x2, .int x3, .int x4, w5] [] ((n, z, kd), I, J, F) Q := hR.go [4, 34, 112, 147] 19 h
theorem BX9_binds_0 {R : azP} (hR : azClosed R) {d n z : Nat} {kd : azK} {I : azI} {J : azJ} {F : azR} {Q : azQ} {a0 a1 : Nat} {x2 : Int32}
    (h : R (d + 1) mX9_binds 5 [.ref a0, .ref a1, .int x2, .int (nI 1), .int (nI 0), .retAddr 0, .retAddr 0, .retAddr 0] [] ((n, z, kd), I, J, F) Q) :
    R (d + 1) mX9_binds 0 [.ref a0, .ref a1, .int x2, .retAddr 0, .retAddr 0, .retAddr 0, .retAddr 0, .retAddr 0] [] ((n, z, kd), I, J, F) Q := hR.go [5, 38, 65, 120] 6 h
theorem BX9_binds_5 {R : azP} (hR : azClosed R) {d n z : Nat} {kd : azK} {I : azI} {J : azJ} {F : azR} {Q : azQ} {a0 a1 : Nat} {x2 x3 x4 : Int32}
    (h : ((kd a0).1 = 9 ∧ (((I a0 13) ≤ x4 → R (d + 1) mX9_binds 38 [.ref a0, .ref a1, .int x2, .int x3, .int (nI 0), .int (nI 0), .retAddr 0, .retAddr 0] [] ((n, z, kd), I, J, F) Q) ∧ (¬ ((I a0 13) ≤ x4) → ((kd a0).1 = 9 ∧ zOf (F a0 14) fun b1 => (((kd b1).1 = 10 ∨ (kd b1).1 = 15) ∧ vp_in x4 (kd b1).2 ∧ (((kd a1).1 = 10 ∨ (kd a1).1 = 15) ∧ vp_in (I b1 x4.toNatClampNeg) (kd a1).2 ∧ R (d + 1) mX9_binds 5 [.ref a0, .ref a1, .int x2, .int (x3 * (I a1 ((I b1 x4.toNatClampNeg).toNatClampNeg))), .int (x4 + (nI 1)), .retAddr 0, .retAddr 0, .retAddr 0] [] ((n, z, kd), I, J, F) Q))))))) :
    R (d + 1) mX9_binds 5 [.ref a0, .ref a1, .int x2, .int x3, .int x4, .retAddr 0, .retAddr 0, .retAddr 0] [] ((n, z, kd), I, J, F) Q := hR.go [5, 38, 65, 120] 17 h
theorem BX9_binds_38 {R : azP} (hR : azClosed R) {d n z : Nat} {kd : azK} {I : azI} {J : azJ} {F : azR} {Q : azQ} {a0 a1 : Nat} {x2 x3 x4 x5 : Int32} {w6 w7 : Value}
    (h : ((x3 ≤ x5 → Q (some (.int x4)) ((n, z, kd), I, J, F)) ∧ (¬ (x3 ≤ x5) → ((¬ x2 = 0 → ((kd a0).1 = 9 ∧ R (d + 1) mX9_binds 65 [.ref a0, .ref a1, .int x2, .int x3, .int x4, .int x5, .int x5, .int ((I a0 13) - (nI 1))] [] ((n, z, kd), I, J, F) Q)) ∧ (¬ (¬ x2 = 0) → ((¬ x4 = 0 → Q (some (.int x4)) ((n, z, kd), I, J, F)) ∧ (¬ (¬ x4 = 0) → ((kd a0).1 = 9 ∧ R (d + 1) mX9_binds 65 [.ref a0, .ref a1, .int x2, .int x3, .int x4, .int x5, .int x5, .int ((I a0 13) - (nI 1))] [] ((n, z, kd), I, J, F) Q)))))))) :
    R (d + 1) mX9_binds 38 [.ref a0, .ref a1, .int x2, .int x3, .int x4, .int x5, w6, w7] [] ((n, z, kd), I, J, F) Q := hR.go [5, 38, 65, 120] 16 h
set_option maxRecDepth 100000 in
theorem BX9_binds_65 {R : azP} (hR : azClosed R) {d n z : Nat} {kd : azK} {I : azI} {J : azJ} {F : azR} {Q : azQ} {a0 a1 : Nat} {x2 x3 x4 x5 x6 x7 : Int32}
    (h : ((x7 < 0 → ((kd a0).1 = 9 ∧ R d mX9_isBinding 0 [.ref a0, .ref a1, .retAddr 0, .retAddr 0, .retAddr 0, .retAddr 0] [] ((n, z, kd), I, J, F) fun v1 s2 => kI v1 fun r3 => ((r3 = 0 → R (d + 1) mX9_binds 38 [.ref a0, .ref a1, .int x2, .int x3, .int x4, .int (x5 + (nI 1)), .int x6, .int x7] [] s2 Q) ∧ (¬ (r3 = 0) → R (d + 1) mX9_binds 120 [.ref a0, .ref a1, .int x2, .int x3, .int x4, .int x5, .int x6, .int (nI 0)] [] s2 Q)))) ∧ (¬ (x7 < 0) → ((kd a0).1 = 9 ∧ zOf (F a0 28) fun b4 => ((kd a0).1 = 9 ∧ zOf (F a0 14) fun b5 => (((kd b5).1 = 10 ∨ (kd b5).1 = 15) ∧ vp_in x7 (kd b5).2 ∧ (((kd a1).1 = 10 ∨ (kd a1).1 = 15) ∧ vp_in (I b5 x7.toNatClampNeg) (kd a1).2 ∧ ¬ (I a1 ((I b5 x7.toNatClampNeg).toNatClampNeg)) = 0 ∧ ((kd b4).1 = 10 ∧ vp_in x7 (kd b4).2 ∧ ((kd a0).1 = 9 ∧ zOf (F a0 14) fun b6 => (((kd b6).1 = 10 ∨ (kd b6).1 = 15) ∧ vp_in x7 (kd b6).2 ∧ (((kd a1).1 = 10 ∨ (kd a1).1 = 15) ∧ vp_in ((azUp I b4 x7.toNatClampNeg (x6 - x6 / (I a1 ((I b5 x7.toNatClampNeg).toNatClampNeg)) * (I a1 ((I b5 x7.toNatClampNeg).toNatClampNeg)))) b6 x7.toNatClampNeg) (kd a1).2 ∧ ¬ ((azUp I b4 x7.toNatClampNeg (x6 - x6 / (I a1 ((I b5 x7.toNatClampNeg).toNatClampNeg)) * (I a1 ((I b5 x7.toNatClampNeg).toNatClampNeg)))) a1 (((azUp I b4 x7.toNatClampNeg (x6 - x6 / (I a1 ((I b5 x7.toNatClampNeg).toNatClampNeg)) * (I a1 ((I b5 x7.toNatClampNeg).toNatClampNeg)))) b6 x7.toNatClampNeg).toNatClampNeg)) = 0 ∧ R (d + 1) mX9_binds 65 [.ref a0, .ref a1, .int x2, .int x3, .int x4, .int x5, .int (x6 / ((azUp I b4 x7.toNatClampNeg (x6 - x6 / (I a1 ((I b5 x7.toNatClampNeg).toNatClampNeg)) * (I a1 ((I b5 x7.toNatClampNeg).toNatClampNeg)))) a1 (((azUp I b4 x7.toNatClampNeg (x6 - x6 / (I a1 ((I b5 x7.toNatClampNeg).toNatClampNeg)) * (I a1 ((I b5 x7.toNatClampNeg).toNatClampNeg)))) b6 x7.toNatClampNeg).toNatClampNeg))), .int (x7 + (-(nI 1)))] [] ((n, z, kd), (azUp I b4 x7.toNatClampNeg (x6 - x6 / (I a1 ((I b5 x7.toNatClampNeg).toNatClampNeg)) * (I a1 ((I b5 x7.toNatClampNeg).toNatClampNeg)))), J, F) Q))))))))))) :
    R (d + 1) mX9_binds 65 [.ref a0, .ref a1, .int x2, .int x3, .int x4, .int x5, .int x6, .int x7] [] ((n, z, kd), I, J, F) Q := hR.go [5, 38, 65, 120] 27 h
set_option maxRecDepth 100000 in
theorem BX9_binds_120 {R : azP} (hR : azClosed R) {d n z : Nat} {kd : azK} {I : azI} {J : azJ} {F : azR} {Q : azQ} {a0 a1 : Nat} {x2 x3 x4 x5 x6 x7 : Int32}
    (h : ((kd a0).1 = 9 ∧ (((I a0 13) ≤ x7 → R (d + 1) mX9_binds 38 [.ref a0, .ref a1, .int x2, .int x3, .int (x4 + (nI 1)), .int (x5 + (nI 1)), .int x6, .int x7] [] ((n, z, kd), I, J, F) Q) ∧ (¬ ((I a0 13) ≤ x7) → ((¬ x4 = 0 → R (d + 1) mX9_binds 38 [.ref a0, .ref a1, .int x2, .int x3, .int (x4 + (nI 1)), .int (x5 + (nI 1)), .int x6, .int x7] [] ((n, z, kd), I, J, F) Q) ∧ (¬ (¬ x4 = 0) → ((kd a0).1 = 9 ∧ zOf (F a0 29) fun b1 => ((kd a0).1 = 9 ∧ zOf (F a0 28) fun b2 => (((kd b2).1 = 10 ∨ (kd b2).1 = 15) ∧ vp_in x7 (kd b2).2 ∧ ((kd b1).1 = 10 ∧ vp_in x7 (kd b1).2 ∧ R (d + 1) mX9_binds 120 [.ref a0, .ref a1, .int x2, .int x3, .int x4, .int x5, .int x6, .int (x7 + (nI 1))] [] ((n, z, kd), (azUp I b1 x7.toNatClampNeg (I b2 x7.toNatClampNeg)), J, F) Q)))))))))) :
    R (d + 1) mX9_binds 120 [.ref a0, .ref a1, .int x2, .int x3, .int x4, .int x5, .int x6, .int x7] [] ((n, z, kd), I, J, F) Q := hR.go [5, 38, 65, 120] 18 h
theorem BX9_goes_0 {R : azP} (hR : azClosed R) {d n z : Nat} {kd : azK} {I : azI} {J : azJ} {F : azR} {Q : azQ} {a0 a2 : Nat} {x1 : Int32}
    (h : ((kd a0).1 = 9 ∧ R d mX9_readsRule 0 [.ref a0, .int x1] [] ((n, z, kd), I, J, F) fun v1 s2 => kI v1 fun r3 => ((r3 = 0 → (((nI 0) = 0 ∨ (nI 0) = 1) ∧ Q (some (.int (nI 0))) s2)) ∧ (¬ (r3 = 0) → ((s2.1.2.2 a0).1 = 9 ∧ R d mX9_binds 0 [.ref a0, .ref a2, .int (nI 0), .retAddr 0, .retAddr 0, .retAddr 0, .retAddr 0, .retAddr 0] [] s2 fun v4 s5 => kI v4 fun r6 => ((¬ r6 = 0 → R (d + 1) mX9_goes 21 [.ref a0, .int x1, .ref a2, .int (nI 0), .retAddr 0] [] s5 Q) ∧ (¬ (¬ r6 = 0) → (((nI 0) = 0 ∨ (nI 0) = 1) ∧ Q (some (.int (nI 0))) s5)))))))) :
    R (d + 1) mX9_goes 0 [.ref a0, .int x1, .ref a2, .retAddr 0, .retAddr 0] [] ((n, z, kd), I, J, F) Q := hR.go [21, 77, 114, 123, 192] 13 h
set_option maxRecDepth 100000 in
theorem BX9_goes_21 {R : azP} (hR : azClosed R) {d n z : Nat} {kd : azK} {I : azI} {J : azJ} {F : azR} {Q : azQ} {a0 a2 : Nat} {x1 x3 : Int32}
    (h : ((kd a0).1 = 9 ∧ (((I a0 13) ≤ x3 → ((kd a0).1 = 9 ∧ zOf (F a0 30) fun b1 => (R d mX9_pours 0 [.ref a2, .int (nI 0), .ref b1, .int (nI 0), .int (nI 70), .retAddr 0] [] ((n, z, kd), I, J, F) fun v2 s3 => v2 = none ∧ R (d + 1) mX9_goes 77 [.ref a0, .int x1, .ref a2, .int (nI 0), .retAddr 0] [] s3 Q))) ∧ (¬ ((I a0 13) ≤ x3) → ((kd a0).1 = 9 ∧ zOf (F a0 23) fun b4 => ((kd a0).1 = 9 ∧ zOf (F a0 15) fun b5 => (((kd b5).1 = 10 ∨ (kd b5).1 = 15) ∧ vp_in x3 (kd b5).2 ∧ ((kd a0).1 = 9 ∧ zOf (F a0 14) fun b6 => (((kd b6).1 = 10 ∨ (kd b6).1 = 15) ∧ vp_in x3 (kd b6).2 ∧ ((kd a0).1 = 9 ∧ zOf (F a0 29) fun b7 => (((kd b7).1 = 10 ∨ (kd b7).1 = 15) ∧ vp_in x3 (kd b7).2 ∧ (R d mX9_at 0 [.int (I b6 x3.toNatClampNeg), .int (I b7 x3.toNatClampNeg)] [] ((n, z, kd), I, J, F) fun v8 s9 => kI v8 fun r10 => (((s9.1.2.2 a2).1 = 10 ∨ (s9.1.2.2 a2).1 = 15) ∧ vp_in r10 (s9.1.2.2 a2).2 ∧ ((s9.1.2.2 b4).1 = 10 ∧ vp_in (I b5 x3.toNatClampNeg) (s9.1.2.2 b4).2 ∧ R (d + 1) mX9_goes 21 [.ref a0, .int x1, .ref a2, .int (x3 + (nI 1)), .retAddr 0] [] ((s9.1), (azUp s9.2.1 b4 ((I b5 x3.toNatClampNeg).toNatClampNeg) (s9.2.1 a2 r10.toNatClampNeg)), s9.2.2.1, s9.2.2.2) Q)))))))))))))) :
    R (d + 1) mX9_goes 21 [.ref a0, .int x1, .ref a2, .int x3, .retAddr 0] [] ((n, z, kd), I, J, F) Q := hR.go [21, 77, 114, 123, 192] 26 h
set_option maxRecDepth 100000 in
theorem BX9_goes_77 {R : azP} (hR : azClosed R) {d n z : Nat} {kd : azK} {I : azI} {J : azJ} {F : azR} {Q : azQ} {a0 a2 : Nat} {x1 x3 : Int32}
    (h : ((kd a0).1 = 9 ∧ (((I a0 13) ≤ x3 → R (d + 1) mX9_goes 114 [.ref a0, .int x1, .ref a2, .int (nI 0), .retAddr 0] [] ((n, z, kd), I, J, F) Q) ∧ (¬ ((I a0 13) ≤ x3) → ((kd a0).1 = 9 ∧ zOf (F a0 30) fun b1 => ((kd a0).1 = 9 ∧ zOf (F a0 14) fun b2 => (((kd b2).1 = 10 ∨ (kd b2).1 = 15) ∧ vp_in x3 (kd b2).2 ∧ ((kd a0).1 = 9 ∧ zOf (F a0 29) fun b3 => (((kd b3).1 = 10 ∨ (kd b3).1 = 15) ∧ vp_in x3 (kd b3).2 ∧ (R d mX9_at 0 [.int (I b2 x3.toNatClampNeg), .int (I b3 x3.toNatClampNeg)] [] ((n, z, kd), I, J, F) fun v4 s5 => kI v4 fun r6 => ((s5.1.2.2 b1).1 = 10 ∧ vp_in r6 (s5.1.2.2 b1).2 ∧ R (d + 1) mX9_goes 77 [.ref a0, .int x1, .ref a2, .int (x3 + (nI 1)), .retAddr 0] [] ((s5.1), (azUp s5.2.1 b1 r6.toNatClampNeg (-(nI 1))), s5.2.2.1, s5.2.2.2) Q))))))))))) :
    R (d + 1) mX9_goes 77 [.ref a0, .int x1, .ref a2, .int x3, .retAddr 0] [] ((n, z, kd), I, J, F) Q := hR.go [21, 77, 114, 123, 192] 21 h
theorem BX9_goes_114 {R : azP} (hR : azClosed R) {d n z : Nat} {kd : azK} {I : azI} {J : azJ} {F : azR} {Q : azQ} {a0 a2 : Nat} {x1 x3 : Int32} {w4 : Value}
    (h : (((nI 10) ≤ x3 → R (d + 1) mX9_goes 192 [.ref a0, .int x1, .ref a2, .int (nI 1), .int (nI 0)] [] ((n, z, kd), I, J, F) Q) ∧ (¬ ((nI 10) ≤ x3) → R (d + 1) mX9_goes 123 [.ref a0, .int x1, .ref a2, .int x3, .int (nI 5)] [] ((n, z, kd), I, J, F) Q))) :
    R (d + 1) mX9_goes 114 [.ref a0, .int x1, .ref a2, .int x3, w4] [] ((n, z, kd), I, J, F) Q := hR.go [21, 77, 114, 123, 192] 9 h
set_option maxRecDepth 100000 in
theorem BX9_goes_123 {R : azP} (hR : azClosed R) {d n z : Nat} {kd : azK} {I : azI} {J : azJ} {F : azR} {Q : azQ} {a0 a2 : Nat} {x1 x3 x4 : Int32}
    (h : ((x4 < 0 → R (d + 1) mX9_goes 114 [.ref a0, .int x1, .ref a2, .int (x3 + (nI 1)), .int x4] [] ((n, z, kd), I, J, F) Q) ∧ (¬ (x4 < 0) → ((kd a0).1 = 9 ∧ zOf (F a0 30) fun b1 => (R d mX9_at 0 [.int x3, .int x4] [] ((n, z, kd), I, J, F) fun v2 s3 => kI v2 fun r4 => (((s3.1.2.2 b1).1 = 10 ∨ (s3.1.2.2 b1).1 = 15) ∧ vp_in r4 (s3.1.2.2 b1).2 ∧ (((s3.2.1 b1 r4.toNatClampNeg) < 0 → ((s3.1.2.2 a0).1 = 9 ∧ zOf (s3.2.2.2 a0 30) fun b5 => (R d mX9_removes 0 [.ref b5, .int x3, .int x4, .retAddr 0] [] s3 fun v6 s7 => v6 = none ∧ R (d + 1) mX9_goes 123 [.ref a0, .int x1, .ref a2, .int x3, .int (x4 + (-(nI 1)))] [] s7 Q))) ∧ (¬ ((s3.2.1 b1 r4.toNatClampNeg) < 0) → ((s3.1.2.2 a0).1 = 9 ∧ ((¬ (((s3.2.1 a0 21) >>> (x3 &&& 31)) &&& (nI 1)) = (nI 1) → R (d + 1) mX9_goes 123 [.ref a0, .int x1, .ref a2, .int x3, .int (x4 + (-(nI 1)))] [] s3 Q) ∧ (¬ (¬ (((s3.2.1 a0 21) >>> (x3 &&& 31)) &&& (nI 1)) = (nI 1)) → ((s3.1.2.2 a0).1 = 9 ∧ zOf (s3.2.2.2 a0 30) fun b8 => (((s3.1.2.2 b8).1 = 10 ∨ (s3.1.2.2 b8).1 = 15) ∧ vp_in x3 (s3.1.2.2 b8).2 ∧ (((s3.2.1 b8 x3.toNatClampNeg) ≤ x4 → R (d + 1) mX9_goes 123 [.ref a0, .int x1, .ref a2, .int x3, .int (x4 + (-(nI 1)))] [] s3 Q) ∧ (¬ ((s3.2.1 b8 x3.toNatClampNeg) ≤ x4) → ((s3.1.2.2 a0).1 = 9 ∧ zOf (s3.2.2.2 a0 30) fun b9 => (R d mX9_removes 0 [.ref b9, .int x3, .int x4, .retAddr 0] [] s3 fun v10 s11 => v10 = none ∧ R (d + 1) mX9_goes 123 [.ref a0, .int x1, .ref a2, .int x3, .int (x4 + (-(nI 1)))] [] s11 Q))))))))))))))))) :
    R (d + 1) mX9_goes 123 [.ref a0, .int x1, .ref a2, .int x3, .int x4] [] ((n, z, kd), I, J, F) Q := hR.go [21, 77, 114, 123, 192] 32 h
set_option maxRecDepth 100000 in
theorem BX9_goes_192 {R : azP} (hR : azClosed R) {d n z : Nat} {kd : azK} {I : azI} {J : azJ} {F : azR} {Q : azQ} {a0 a2 : Nat} {x1 x3 x4 : Int32}
    (h : ((kd a0).1 = 9 ∧ (((I a0 16) ≤ x4 → ((x3 = 0 ∨ x3 = 1) ∧ Q (some (.int x3)) ((n, z, kd), I, J, F))) ∧ (¬ ((I a0 16) ≤ x4) → ((kd a0).1 = 9 ∧ zOf (F a0 18) fun b1 => (((kd b1).1 = 10 ∨ (kd b1).1 = 15) ∧ vp_in x4 (kd b1).2 ∧ ((kd a0).1 = 9 ∧ ((x3 = 0 → R (d + 1) mX9_goes 192 [.ref a0, .int x1, .ref a2, .int (nI 0), .int (x4 + (nI 1))] [] ((n, z, kd), (azUp I a0 11 (I b1 x4.toNatClampNeg)), J, F) Q) ∧ (¬ (x3 = 0) → ((kd a0).1 = 9 ∧ zOf (F a0 30) fun b2 => ((kd a0).1 = 9 ∧ zOf (F a0 17) fun b3 => (((kd b3).1 = 10 ∨ (kd b3).1 = 15) ∧ vp_in x4 (kd b3).2 ∧ ((kd a0).1 = 9 ∧ R d mX9_expression 0 [.ref a0, .retAddr 0, .retAddr 0, .retAddr 0] [] ((n, z, kd), (azUp I a0 11 (I b1 x4.toNatClampNeg)), J, F) fun v4 s5 => kI v4 fun r6 => ¬ (nI 100) = 0 ∧ ¬ (nI 100) = 0 ∧ (R d mX9_adds 0 [.ref b2, .int ((azUp I a0 11 (I b1 x4.toNatClampNeg)) b3 x4.toNatClampNeg), .int (((r6 - r6 / (nI 100) * (nI 100)) + (nI 100)) - ((r6 - r6 / (nI 100) * (nI 100)) + (nI 100)) / (nI 100) * (nI 100))] [] s5 fun v7 s8 => kI v7 fun r9 => ((r9 = 0 → R (d + 1) mX9_goes 192 [.ref a0, .int x1, .ref a2, .int (nI 0), .int (x4 + (nI 1))] [] s8 Q) ∧ (¬ (r9 = 0) → R (d + 1) mX9_goes 192 [.ref a0, .int x1, .ref a2, .int (nI 1), .int (x4 + (nI 1))] [] s8 Q)))))))))))))))) :
    R (d + 1) mX9_goes 192 [.ref a0, .int x1, .ref a2, .int x3, .int x4] [] ((n, z, kd), I, J, F) Q := hR.go [21, 77, 114, 123, 192] 35 h
set_option maxRecDepth 100000 in
theorem BX9_can_0 {R : azP} (hR : azClosed R) {d n z : Nat} {kd : azK} {I : azI} {J : azJ} {F : azR} {Q : azQ} {a0 : Nat} {x1 : Int32}
    (h : (R d mX9_isPlace 0 [.int x1] [] ((n, z, kd), I, J, F) fun v1 s2 => kI v1 fun r3 => ((¬ r3 = 0 → ((s2.1.2.2 a0).1 = 9 ∧ zOf (s2.2.2.2 a0 2) fun b4 => (((s2.1.2.2 b4).1 = 10 ∨ (s2.1.2.2 b4).1 = 15) ∧ vp_in ((nI 81) * x1) (s2.1.2.2 b4).2 ∧ ((¬ (s2.2.1 b4 (((nI 81) * x1).toNatClampNeg)) = 0 → ((s2.1.2.2 a0).1 = 9 ∧ zOf (s2.2.2.2 a0 0) fun b5 => ((s2.1.2.2 a0).1 = 9 ∧ R d mX9_goes 0 [.ref a0, .int x1, .ref b5, .retAddr 0, .retAddr 0] [] s2 fun v6 s7 => kI v6 fun r8 => ((r8 = 0 → Q (some (.int (nI 0))) s7) ∧ (¬ (r8 = 0) → Q (some (.int (nI 1))) s7))))) ∧ (¬ (¬ (s2.2.1 b4 (((nI 81) * x1).toNatClampNeg)) = 0) → Q (some (.int (-(nI 3)))) s2))))) ∧ (¬ (¬ r3 = 0) → Q (some (.int (-(nI 1)))) s2)))) :
    R (d + 1) mX9_can 0 [.ref a0, .int x1] [] ((n, z, kd), I, J, F) Q := hR.go [] 20 h
set_option maxRecDepth 100000 in
theorem BX9_bound_0 {R : azP} (hR : azClosed R) {d n z : Nat} {kd : azK} {I : azI} {J : azJ} {F : azR} {Q : azQ} {a0 : Nat} {x1 x2 : Int32}
    (h : (R d mX9_isPlace 0 [.int x1] [] ((n, z, kd), I, J, F) fun v1 s2 => kI v1 fun r3 => ((¬ r3 = 0 → ((s2.1.2.2 a0).1 = 9 ∧ R d mX9_readsRule 0 [.ref a0, .int x1] [] s2 fun v4 s5 => kI v4 fun r6 => ((¬ r6 = 0 → ((s5.1.2.2 a0).1 = 9 ∧ (R d mX9_isIn 0 [.long x2.toInt64, .retAddr 1, .long (lN 0), .retAddr 1, .long (((s5.2.1 a0 13) - (nI 1)).toInt64), .retAddr 1] [] s5 fun v7 s8 => kI v7 fun r9 => ((¬ r9 = 0 → ((s8.1.2.2 a0).1 = 9 ∧ zOf (s8.2.2.2 a0 0) fun b10 => ((s8.1.2.2 a0).1 = 9 ∧ R d mX9_binds 0 [.ref a0, .ref b10, .int (nI 0), .retAddr 0, .retAddr 0, .retAddr 0, .retAddr 0, .retAddr 0] [] s8 fun v11 s12 => kI v11 fun r13 => ((¬ r13 = 0 → ((s12.1.2.2 a0).1 = 9 ∧ zOf (s12.2.2.2 a0 29) fun b14 => (((s12.1.2.2 b14).1 = 10 ∨ (s12.1.2.2 b14).1 = 15) ∧ vp_in x2 (s12.1.2.2 b14).2 ∧ Q (some (.int (s12.2.1 b14 x2.toNatClampNeg))) s12))) ∧ (¬ (¬ r13 = 0) → Q (some (.int (-(nI 5)))) s12))))) ∧ (¬ (¬ r9 = 0) → Q (some (.int (-(nI 1)))) s8))))) ∧ (¬ (¬ r6 = 0) → Q (some (.int (-(nI 3)))) s5)))) ∧ (¬ (¬ r3 = 0) → Q (some (.int (-(nI 1)))) s2)))) :
    R (d + 1) mX9_bound 0 [.ref a0, .int x1, .int x2] [] ((n, z, kd), I, J, F) Q := hR.go [] 29 h
theorem BX9_bindings_0 {R : azP} (hR : azClosed R) {d n z : Nat} {kd : azK} {I : azI} {J : azJ} {F : azR} {Q : azQ} {a0 : Nat} {x1 : Int32}
    (h : (R d mX9_isPlace 0 [.int x1] [] ((n, z, kd), I, J, F) fun v1 s2 => kI v1 fun r3 => ((¬ r3 = 0 → ((s2.1.2.2 a0).1 = 9 ∧ R d mX9_readsRule 0 [.ref a0, .int x1] [] s2 fun v4 s5 => kI v4 fun r6 => ((r6 = 0 → Q (some (.int (-(nI 3)))) s5) ∧ (¬ (r6 = 0) → ((s5.1.2.2 a0).1 = 9 ∧ zOf (s5.2.2.2 a0 0) fun b7 => ((s5.1.2.2 a0).1 = 9 ∧ R d mX9_binds 0 [.ref a0, .ref b7, .int (nI 1), .retAddr 0, .retAddr 0, .retAddr 0, .retAddr 0, .retAddr 0] [] s5 fun v8 s9 => kI v8 fun r10 => Q (some (.int r10)) s9)))))) ∧ (¬ (¬ r3 = 0) → Q (some (.int (-(nI 1)))) s2)))) :
    R (d + 1) mX9_bindings 0 [.ref a0, .int x1] [] ((n, z, kd), I, J, F) Q := hR.go [] 15 h
set_option maxRecDepth 100000 in
theorem BX9_go_0 {R : azP} (hR : azClosed R) {d n z : Nat} {kd : azK} {I : azI} {J : azJ} {F : azR} {Q : azQ} {a0 : Nat} {x1 : Int32}
    (h : (R d mX9_isPlace 0 [.int x1] [] ((n, z, kd), I, J, F) fun v1 s2 => kI v1 fun r3 => ((¬ r3 = 0 → ((s2.1.2.2 a0).1 = 9 ∧ zOf (s2.2.2.2 a0 0) fun b4 => ((s2.1.2.2 a0).1 = 9 ∧ R d mX9_goes 0 [.ref a0, .int x1, .ref b4, .retAddr 0, .retAddr 0] [] s2 fun v5 s6 => kI v5 fun r7 => ((¬ r7 = 0 → ((s6.1.2.2 a0).1 = 9 ∧ zOf (s6.2.2.2 a0 30) fun b8 => ((s6.1.2.2 a0).1 = 9 ∧ zOf (s6.2.2.2 a0 0) fun b9 => (R d mX9_pours 0 [.ref b8, .int (nI 0), .ref b9, .int (nI 0), .int (nI 70), .retAddr 0] [] s6 fun v10 s11 => v10 = none ∧ ((s11.1.2.2 a0).1 = 9 ∧ ((s11.1.2.2 a0).1 = 9 ∧ ((s11.1.2.2 a0).1 = 9 ∧ Q (some (.int ((azUp s11.2.1 a0 4 ((s11.2.1 a0 4) + (nI 1))) a0 4))) ((s11.1), (azUp s11.2.1 a0 4 ((s11.2.1 a0 4) + (nI 1))), s11.2.2.1, s11.2.2.2)))))))) ∧ (¬ (¬ r7 = 0) → Q (some (.int (-(nI 3)))) s6))))) ∧ (¬ (¬ r3 = 0) → Q (some (.int (-(nI 1)))) s2)))) :
    R (d + 1) mX9_go 0 [.ref a0, .int x1] [] ((n, z, kd), I, J, F) Q := hR.go [] 27 h
theorem BX9_all_0 {R : azP} (hR : azClosed R) {d n z : Nat} {kd : azK} {I : azI} {J : azJ} {F : azR} {Q : azQ} {a0 : Nat}
    (h : R (d + 1) mX9_all 4 [.ref a0, .int (nI 0), .int (nI 0)] [] ((n, z, kd), I, J, F) Q) :
    R (d + 1) mX9_all 0 [.ref a0, .retAddr 0, .retAddr 0] [] ((n, z, kd), I, J, F) Q := hR.go [4] 6 h
theorem BX9_all_4 {R : azP} (hR : azClosed R) {d n z : Nat} {kd : azK} {I : azI} {J : azJ} {F : azR} {Q : azQ} {a0 : Nat} {x1 x2 : Int32}
    (h : (((nI 10) ≤ x2 → Q (some (.int x1)) ((n, z, kd), I, J, F)) ∧ (¬ ((nI 10) ≤ x2) → ((kd a0).1 = 9 ∧ zOf (F a0 0) fun b1 => ((kd a0).1 = 9 ∧ R d mX9_goes 0 [.ref a0, .int x2, .ref b1, .retAddr 0, .retAddr 0] [] ((n, z, kd), I, J, F) fun v2 s3 => kI v2 fun r4 => ((r4 = 0 → R (d + 1) mX9_all 4 [.ref a0, .int (x1 ||| (nI 0)), .int (x2 + (nI 1))] [] s3 Q) ∧ (¬ (r4 = 0) → R (d + 1) mX9_all 4 [.ref a0, .int (x1 ||| ((nI 1) <<< (x2 &&& 31))), .int (x2 + (nI 1))] [] s3 Q))))))) :
    R (d + 1) mX9_all 4 [.ref a0, .int x1, .int x2] [] ((n, z, kd), I, J, F) Q := hR.go [4] 20 h
theorem BX9_repeats_0 {R : azP} (hR : azClosed R) {d n z : Nat} {kd : azK} {I : azI} {J : azJ} {F : azR} {Q : azQ} {a0 : Nat} {x1 x2 : Int32}
    (h : ((kd a0).1 = 9 ∧ zOf (F a0 0) fun b1 => ((kd a0).1 = 9 ∧ zOf (F a0 31) fun b2 => (R d mX9_pours 0 [.ref b1, .int (nI 0), .ref b2, .int (nI 0), .int (nI 70), .retAddr 0] [] ((n, z, kd), I, J, F) fun v3 s4 => v3 = none ∧ R (d + 1) mX9_repeats 20 [.ref a0, .int x1, .int x2, .int (nI 0), .int (nI 1), .retAddr 0] [] s4 Q)))) :
    R (d + 1) mX9_repeats 0 [.ref a0, .int x1, .int x2, .retAddr 0, .retAddr 0, .retAddr 0] [] ((n, z, kd), I, J, F) Q := hR.go [20, 36, 84] 14 h
theorem BX9_repeats_20 {R : azP} (hR : azClosed R) {d n z : Nat} {kd : azK} {I : azI} {J : azJ} {F : azR} {Q : azQ} {a0 : Nat} {x1 x2 x3 x4 : Int32} {w5 : Value}
    (h : ((x4 = 0 → Q (some (.int x3)) ((n, z, kd), I, J, F)) ∧ (¬ (x4 = 0) → ((x2 ≤ x3 → Q (some (.int x3)) ((n, z, kd), I, J, F)) ∧ (¬ (x2 ≤ x3) → R (d + 1) mX9_repeats 36 [.ref a0, .int x1, .int x2, .int x3, .int (nI 0), .int (nI 0)] [] ((n, z, kd), I, J, F) Q))))) :
    R (d + 1) mX9_repeats 20 [.ref a0, .int x1, .int x2, .int x3, .int x4, w5] [] ((n, z, kd), I, J, F) Q := hR.go [20, 36, 84] 11 h
set_option maxRecDepth 100000 in
theorem BX9_repeats_36 {R : azP} (hR : azClosed R) {d n z : Nat} {kd : azK} {I : azI} {J : azJ} {F : azR} {Q : azQ} {a0 : Nat} {x1 x2 x3 x4 x5 : Int32}
    (h : (((nI 10) ≤ x5 → R (d + 1) mX9_repeats 84 [.ref a0, .int x1, .int x2, .int x3, .int x4, .int x5] [] ((n, z, kd), I, J, F) Q) ∧ (¬ ((nI 10) ≤ x5) → ((¬ x4 = 0 → R (d + 1) mX9_repeats 84 [.ref a0, .int x1, .int x2, .int x3, .int x4, .int x5] [] ((n, z, kd), I, J, F) Q) ∧ (¬ (¬ x4 = 0) → ((¬ ((x1 >>> (x5 &&& 31)) &&& (nI 1)) = (nI 1) → R (d + 1) mX9_repeats 36 [.ref a0, .int x1, .int x2, .int x3, .int (nI 0), .int (x5 + (nI 1))] [] ((n, z, kd), I, J, F) Q) ∧ (¬ (¬ ((x1 >>> (x5 &&& 31)) &&& (nI 1)) = (nI 1)) → ((kd a0).1 = 9 ∧ zOf (F a0 31) fun b1 => ((kd a0).1 = 9 ∧ R d mX9_goes 0 [.ref a0, .int x5, .ref b1, .retAddr 0, .retAddr 0] [] ((n, z, kd), I, J, F) fun v2 s3 => kI v2 fun r4 => ((r4 = 0 → R (d + 1) mX9_repeats 36 [.ref a0, .int x1, .int x2, .int x3, .int (nI 0), .int (x5 + (nI 1))] [] s3 Q) ∧ (¬ (r4 = 0) → R (d + 1) mX9_repeats 36 [.ref a0, .int x1, .int x2, .int x3, .int (nI 1), .int (x5 + (nI 1))] [] s3 Q))))))))))) :
    R (d + 1) mX9_repeats 36 [.ref a0, .int x1, .int x2, .int x3, .int x4, .int x5] [] ((n, z, kd), I, J, F) Q := hR.go [20, 36, 84] 25 h
theorem BX9_repeats_84 {R : azP} (hR : azClosed R) {d n z : Nat} {kd : azK} {I : azI} {J : azJ} {F : azR} {Q : azQ} {a0 : Nat} {x1 x2 x3 x4 x5 : Int32}
    (h : ((x4 = 0 → R (d + 1) mX9_repeats 20 [.ref a0, .int x1, .int x2, .int x3, .int x4, .int x5] [] ((n, z, kd), I, J, F) Q) ∧ (¬ (x4 = 0) → ((kd a0).1 = 9 ∧ zOf (F a0 30) fun b1 => ((kd a0).1 = 9 ∧ zOf (F a0 31) fun b2 => (R d mX9_pours 0 [.ref b1, .int (nI 0), .ref b2, .int (nI 0), .int (nI 70), .retAddr 0] [] ((n, z, kd), I, J, F) fun v3 s4 => v3 = none ∧ R (d + 1) mX9_repeats 20 [.ref a0, .int x1, .int x2, .int (x3 + (nI 1)), .int x4, .int x5] [] s4 Q)))))) :
    R (d + 1) mX9_repeats 84 [.ref a0, .int x1, .int x2, .int x3, .int x4, .int x5] [] ((n, z, kd), I, J, F) Q := hR.go [20, 36, 84] 14 h
theorem BX9_isRepeat_0 {R : azP} (hR : azClosed R) {d n z : Nat} {kd : azK} {I : azI} {J : azJ} {F : azR} {Q : azQ} {x0 x1 : Int32}
    (h : (R d mX9_isIn 0 [.long x0.toInt64, .retAddr 1, .long (lN 0), .retAddr 1, .long ((1023 : Int64)), .retAddr 1] [] ((n, z, kd), I, J, F) fun v1 s2 => kI v1 fun r3 => ((r3 = 0 → (((nI 0) = 0 ∨ (nI 0) = 1) ∧ Q (some (.int (nI 0))) s2)) ∧ (¬ (r3 = 0) → (R d mX9_isIn 0 [.long x1.toInt64, .retAddr 1, .long (lN 1), .retAddr 1, .long ((200 : Int64)), .retAddr 1] [] s2 fun v4 s5 => kI v4 fun r6 => ((r6 = 0 → (((nI 0) = 0 ∨ (nI 0) = 1) ∧ Q (some (.int (nI 0))) s5)) ∧ (¬ (r6 = 0) → (((nI 1) = 0 ∨ (nI 1) = 1) ∧ Q (some (.int (nI 1))) s5)))))))) :
    R (d + 1) mX9_isRepeat 0 [.int x0, .int x1] [] ((n, z, kd), I, J, F) Q := hR.go [] 16 h
theorem BX9_again_0 {R : azP} (hR : azClosed R) {d n z : Nat} {kd : azK} {I : azI} {J : azJ} {F : azR} {Q : azQ} {a0 : Nat} {x1 x2 : Int32}
    (h : (R d mX9_isRepeat 0 [.int x1, .int x2] [] ((n, z, kd), I, J, F) fun v1 s2 => kI v1 fun r3 => ((r3 = 0 → Q (some (.int (-(nI 2)))) s2) ∧ (¬ (r3 = 0) → ((s2.1.2.2 a0).1 = 9 ∧ R d mX9_repeats 0 [.ref a0, .int x1, .int x2, .retAddr 0, .retAddr 0, .retAddr 0] [] s2 fun v4 s5 => kI v4 fun r6 => Q (some (.int r6)) s5))))) :
    R (d + 1) mX9_again 0 [.ref a0, .int x1, .int x2] [] ((n, z, kd), I, J, F) Q := hR.go [] 11 h
set_option maxRecDepth 100000 in
theorem BX9_last_0 {R : azP} (hR : azClosed R) {d n z : Nat} {kd : azK} {I : azI} {J : azJ} {F : azR} {Q : azQ} {a0 : Nat} {x1 x2 x3 : Int32}
    (h : (R d mX9_isRepeat 0 [.int x1, .int x2] [] ((n, z, kd), I, J, F) fun v1 s2 => kI v1 fun r3 => ((¬ r3 = 0 → (R d mX9_isPlace 0 [.int x3] [] s2 fun v4 s5 => kI v4 fun r6 => ((¬ r6 = 0 → ((s5.1.2.2 a0).1 = 9 ∧ R d mX9_repeats 0 [.ref a0, .int x1, .int x2, .retAddr 0, .retAddr 0, .retAddr 0] [] s5 fun v7 s8 => kI v7 fun r9 => ((s8.1.2.2 a0).1 = 9 ∧ zOf (s8.2.2.2 a0 31) fun b10 => (((s8.1.2.2 b10).1 = 10 ∨ (s8.1.2.2 b10).1 = 15) ∧ vp_in x3 (s8.1.2.2 b10).2 ∧ ((¬ (s8.2.1 b10 x3.toNatClampNeg) = 0 → ((s8.1.2.2 a0).1 = 9 ∧ zOf (s8.2.2.2 a0 31) fun b11 => ((s8.1.2.2 a0).1 = 9 ∧ zOf (s8.2.2.2 a0 31) fun b12 => (((s8.1.2.2 b12).1 = 10 ∨ (s8.1.2.2 b12).1 = 15) ∧ vp_in x3 (s8.1.2.2 b12).2 ∧ (R d mX9_at 0 [.int x3, .int ((s8.2.1 b12 x3.toNatClampNeg) - (nI 1))] [] s8 fun v13 s14 => kI v13 fun r15 => (((s14.1.2.2 b11).1 = 10 ∨ (s14.1.2.2 b11).1 = 15) ∧ vp_in r15 (s14.1.2.2 b11).2 ∧ Q (some (.int (s14.2.1 b11 r15.toNatClampNeg))) s14)))))) ∧ (¬ (¬ (s8.2.1 b10 x3.toNatClampNeg) = 0) → Q (some (.int (-(nI 5)))) s8)))))) ∧ (¬ (¬ r6 = 0) → Q (some (.int (-(nI 1)))) s5)))) ∧ (¬ (¬ r3 = 0) → Q (some (.int (-(nI 2)))) s2)))) :
    R (d + 1) mX9_last 0 [.ref a0, .int x1, .int x2, .int x3] [] ((n, z, kd), I, J, F) Q := hR.go [] 30 h
theorem BX9_placeOf_0 {R : azP} (hR : azClosed R) {d n z : Nat} {kd : azK} {I : azI} {J : azJ} {F : azR} {Q : azQ} {a0 a1 : Nat}
    (h : R d mX9_placeOf 2 [.ref a0, .ref a1, .int (nI 0), .retAddr 0, .retAddr 0] [] ((n, z, kd), I, J, F) Q) :
    R d mX9_placeOf 0 [.ref a0, .ref a1, .retAddr 0, .retAddr 0, .retAddr 0] [] ((n, z, kd), I, J, F) Q := hR.go [2, 15] 4 h
theorem BX9_placeOf_2 {R : azP} (hR : azClosed R) {d n z : Nat} {kd : azK} {I : azI} {J : azJ} {F : azR} {Q : azQ} {a0 a1 : Nat} {x2 : Int32} {w3 w4 : Value}
    (h : ((kd a0).1 = 9 ∧ (((I a0 32) ≤ x2 → Q (some (.int (-(nI 1)))) ((n, z, kd), I, J, F)) ∧ (¬ ((I a0 32) ≤ x2) → R d mX9_placeOf 15 [.ref a0, .ref a1, .int x2, .int (nI 1), .int (nI 0)] [] ((n, z, kd), I, J, F) Q)))) :
    R d mX9_placeOf 2 [.ref a0, .ref a1, .int x2, w3, w4] [] ((n, z, kd), I, J, F) Q := hR.go [2, 15] 10 h
set_option maxRecDepth 100000 in
theorem BX9_placeOf_15 {R : azP} (hR : azClosed R) {d n z : Nat} {kd : azK} {I : azI} {J : azJ} {F : azR} {Q : azQ} {a0 a1 : Nat} {x2 x3 x4 : Int32}
    (h : (((nI 70) ≤ x4 → ((x3 = 0 → R d mX9_placeOf 2 [.ref a0, .ref a1, .int (x2 + (nI 1)), .int x3, .int x4] [] ((n, z, kd), I, J, F) Q) ∧ (¬ (x3 = 0) → Q (some (.int x2)) ((n, z, kd), I, J, F)))) ∧ (¬ ((nI 70) ≤ x4) → ((x3 = 0 → ((x3 = 0 → R d mX9_placeOf 2 [.ref a0, .ref a1, .int (x2 + (nI 1)), .int x3, .int x4] [] ((n, z, kd), I, J, F) Q) ∧ (¬ (x3 = 0) → Q (some (.int x2)) ((n, z, kd), I, J, F)))) ∧ (¬ (x3 = 0) → ((kd a0).1 = 9 ∧ zOf (F a0 33) fun b1 => (((kd b1).1 = 10 ∨ (kd b1).1 = 15) ∧ vp_in (((nI 70) * x2) + x4) (kd b1).2 ∧ (((kd a1).1 = 10 ∨ (kd a1).1 = 15) ∧ vp_in x4 (kd a1).2 ∧ ((¬ (I b1 ((((nI 70) * x2) + x4).toNatClampNeg)) = (I a1 x4.toNatClampNeg) → R d mX9_placeOf 15 [.ref a0, .ref a1, .int x2, .int (nI 0), .int (x4 + (nI 1))] [] ((n, z, kd), I, J, F) Q) ∧ (¬ (¬ (I b1 ((((nI 70) * x2) + x4).toNatClampNeg)) = (I a1 x4.toNatClampNeg)) → R d mX9_placeOf 15 [.ref a0, .ref a1, .int x2, .int (nI 1), .int (x4 + (nI 1))] [] ((n, z, kd), I, J, F) Q)))))))))) :
    R d mX9_placeOf 15 [.ref a0, .ref a1, .int x2, .int x3, .int x4] [] ((n, z, kd), I, J, F) Q := hR.go [2, 15] 24 h
set_option maxRecDepth 100000 in
theorem BX9_finds_0 {R : azP} (hR : azClosed R) {d n z : Nat} {kd : azK} {I : azI} {J : azJ} {F : azR} {Q : azQ} {a0 : Nat} {x1 : Int32}
    (h : (R d mX9_isIn 0 [.long x1.toInt64, .retAddr 1, .long (lN 1), .retAddr 1, .long ((60 : Int64)), .retAddr 1] [] ((n, z, kd), I, J, F) fun v1 s2 => kI v1 fun r3 => ((¬ r3 = 0 → ((s2.1.2.2 a0).1 = 9 ∧ ((s2.1.2.2 a0).1 = 9 ∧ zOf (s2.2.2.2 a0 0) fun b4 => ((s2.1.2.2 a0).1 = 9 ∧ zOf (s2.2.2.2 a0 33) fun b5 => (R d mX9_pours 0 [.ref b4, .int (nI 0), .ref b5, .int (nI 0), .int (nI 70), .retAddr 0] [] ((s2.1), (azUp s2.2.1 a0 32 (nI 1)), s2.2.2.1, s2.2.2.2) fun v6 s7 => v6 = none ∧ R (d + 1) mX9_finds 36 [.ref a0, .int x1, .int (nI 0), .retAddr 0, .retAddr 0] [] s7 Q))))) ∧ (¬ (¬ r3 = 0) → (((nI 0) = 0 ∨ (nI 0) = 1) ∧ Q (some (.int (nI 0))) s2))))) :
    R (d + 1) mX9_finds 0 [.ref a0, .int x1, .retAddr 0, .retAddr 0, .retAddr 0] [] ((n, z, kd), I, J, F) Q := hR.go [36, 46, 166] 21 h
theorem BX9_finds_36 {R : azP} (hR : azClosed R) {d n z : Nat} {kd : azK} {I : azI} {J : azJ} {F : azR} {Q : azQ} {a0 : Nat} {x1 x2 : Int32} {w3 w4 : Value}
    (h : ((kd a0).1 = 9 ∧ (((I a0 32) ≤ x2 → (((nI 1) = 0 ∨ (nI 1) = 1) ∧ Q (some (.int (nI 1))) ((n, z, kd), I, J, F))) ∧ (¬ ((I a0 32) ≤ x2) → R (d + 1) mX9_finds 46 [.ref a0, .int x1, .int x2, .int (nI 0), w4] [] ((n, z, kd), I, J, F) Q)))) :
    R (d + 1) mX9_finds 36 [.ref a0, .int x1, .int x2, w3, w4] [] ((n, z, kd), I, J, F) Q := hR.go [36, 46, 166] 8 h
set_option maxRecDepth 100000 in
theorem BX9_finds_46 {R : azP} (hR : azClosed R) {d n z : Nat} {kd : azK} {I : azI} {J : azJ} {F : azR} {Q : azQ} {a0 : Nat} {x1 x2 x3 : Int32} {w4 : Value}
    (h : (((nI 10) ≤ x3 → R (d + 1) mX9_finds 36 [.ref a0, .int x1, .int (x2 + (nI 1)), .int x3, w4] [] ((n, z, kd), I, J, F) Q) ∧ (¬ ((nI 10) ≤ x3) → ((kd a0).1 = 9 ∧ zOf (F a0 33) fun b1 => ((kd a0).1 = 9 ∧ zOf (F a0 37) fun b2 => (R d mX9_pours 0 [.ref b1, .int ((nI 70) * x2), .ref b2, .int (nI 0), .int (nI 70), .retAddr 0] [] ((n, z, kd), I, J, F) fun v3 s4 => v3 = none ∧ ((s4.1.2.2 a0).1 = 9 ∧ zOf (s4.2.2.2 a0 37) fun b5 => ((s4.1.2.2 a0).1 = 9 ∧ R d mX9_goes 0 [.ref a0, .int x3, .ref b5, .retAddr 0, .retAddr 0] [] s4 fun v6 s7 => kI v6 fun r8 => ((r8 = 0 → R (d + 1) mX9_finds 166 [.ref a0, .int x1, .int x2, .int x3, .int (-(nI 2))] [] s7 Q) ∧ (¬ (r8 = 0) → ((s7.1.2.2 a0).1 = 9 ∧ zOf (s7.2.2.2 a0 30) fun b9 => ((s7.1.2.2 a0).1 = 9 ∧ R d mX9_placeOf 0 [.ref a0, .ref b9, .retAddr 0, .retAddr 0, .retAddr 0] [] s7 fun v10 s11 => kI v10 fun r12 => ((0 ≤ r12 → R (d + 1) mX9_finds 166 [.ref a0, .int x1, .int x2, .int x3, .int r12] [] s11 Q) ∧ (¬ (0 ≤ r12) → ((s11.1.2.2 a0).1 = 9 ∧ ((x1 ≤ (s11.2.1 a0 32) → R (d + 1) mX9_finds 166 [.ref a0, .int x1, .int x2, .int x3, .int r12] [] s11 Q) ∧ (¬ (x1 ≤ (s11.2.1 a0 32)) → ((s11.1.2.2 a0).1 = 9 ∧ ((s11.1.2.2 a0).1 = 9 ∧ zOf (s11.2.2.2 a0 30) fun b13 => ((s11.1.2.2 a0).1 = 9 ∧ zOf (s11.2.2.2 a0 33) fun b14 => ((s11.1.2.2 a0).1 = 9 ∧ (R d mX9_pours 0 [.ref b13, .int (nI 0), .ref b14, .int ((nI 70) * (s11.2.1 a0 32)), .int (nI 70), .retAddr 0] [] s11 fun v15 s16 => v15 = none ∧ ((s16.1.2.2 a0).1 = 9 ∧ zOf (s16.2.2.2 a0 34) fun b17 => ((s16.1.2.2 a0).1 = 9 ∧ ((s16.1.2.2 b17).1 = 10 ∧ vp_in (s16.2.1 a0 32) (s16.1.2.2 b17).2 ∧ ((s16.1.2.2 a0).1 = 9 ∧ zOf (s16.2.2.2 a0 35) fun b18 => ((s16.1.2.2 a0).1 = 9 ∧ ((s16.1.2.2 b18).1 = 10 ∧ vp_in ((azUp s16.2.1 b17 ((s16.2.1 a0 32).toNatClampNeg) x3) a0 32) (s16.1.2.2 b18).2 ∧ ((s16.1.2.2 a0).1 = 9 ∧ ((s16.1.2.2 a0).1 = 9 ∧ R (d + 1) mX9_finds 166 [.ref a0, .int x1, .int x2, .int x3, .int (s11.2.1 a0 32)] [] ((s16.1), (azUp ((azUp ((azUp s16.2.1 b17 ((s16.2.1 a0 32).toNatClampNeg) x3)) b18 (((azUp s16.2.1 b17 ((s16.2.1 a0 32).toNatClampNeg) x3) a0 32).toNatClampNeg) x2)) a0 32 (((azUp ((azUp s16.2.1 b17 ((s16.2.1 a0 32).toNatClampNeg) x3)) b18 (((azUp s16.2.1 b17 ((s16.2.1 a0 32).toNatClampNeg) x3) a0 32).toNatClampNeg) x2) a0 32) + (nI 1))), s16.2.2.1, s16.2.2.2) Q)))))))))))))))))))))))))))))) :
    R (d + 1) mX9_finds 46 [.ref a0, .int x1, .int x2, .int x3, w4] [] ((n, z, kd), I, J, F) Q := hR.go [36, 46, 166] 66 h
theorem BX9_finds_166 {R : azP} (hR : azClosed R) {d n z : Nat} {kd : azK} {I : azI} {J : azJ} {F : azR} {Q : azQ} {a0 : Nat} {x1 x2 x3 x4 : Int32}
    (h : ((kd a0).1 = 9 ∧ zOf (F a0 36) fun b1 => ((kd b1).1 = 10 ∧ vp_in (((nI 10) * x2) + x3) (kd b1).2 ∧ R (d + 1) mX9_finds 46 [.ref a0, .int x1, .int x2, .int (x3 + (nI 1)), .int x4] [] ((n, z, kd), (azUp I b1 ((((nI 10) * x2) + x3).toNatClampNeg) x4), J, F) Q))) :
    R (d + 1) mX9_finds 166 [.ref a0, .int x1, .int x2, .int x3, .int x4] [] ((n, z, kd), I, J, F) Q := hR.go [36, 46, 166] 13 h
theorem BX9_reach_0 {R : azP} (hR : azClosed R) {d n z : Nat} {kd : azK} {I : azI} {J : azJ} {F : azR} {Q : azQ} {a0 : Nat} {x1 : Int32}
    (h : ((kd a0).1 = 9 ∧ R d mX9_finds 0 [.ref a0, .int x1, .retAddr 0, .retAddr 0, .retAddr 0] [] ((n, z, kd), I, J, F) fun v1 s2 => kI v1 fun r3 => ((r3 = 0 → Q (some (.int (-(nI 2)))) s2) ∧ (¬ (r3 = 0) → ((s2.1.2.2 a0).1 = 9 ∧ Q (some (.int (s2.2.1 a0 32))) s2))))) :
    R (d + 1) mX9_reach 0 [.ref a0, .int x1] [] ((n, z, kd), I, J, F) Q := hR.go [] 9 h
theorem BX9_most_0 {R : azP} (hR : azClosed R) {d n z : Nat} {kd : azK} {I : azI} {J : azJ} {F : azR} {Q : azQ} {a0 : Nat} {x1 x2 : Int32}
    (h : (R d mX9_isPlace 0 [.int x1] [] ((n, z, kd), I, J, F) fun v1 s2 => kI v1 fun r3 => ((¬ r3 = 0 → ((s2.1.2.2 a0).1 = 9 ∧ R d mX9_finds 0 [.ref a0, .int x2, .retAddr 0, .retAddr 0, .retAddr 0] [] s2 fun v4 s5 => kI v4 fun r6 => ((¬ r6 = 0 → R (d + 1) mX9_most 25 [.ref a0, .int x1, .int x2, .int (nI 0), .int (nI 0)] [] s5 Q) ∧ (¬ (¬ r6 = 0) → Q (some (.int (-(nI 2)))) s5)))) ∧ (¬ (¬ r3 = 0) → Q (some (.int (-(nI 1)))) s2)))) :
    R (d + 1) mX9_most 0 [.ref a0, .int x1, .int x2, .retAddr 0, .retAddr 0] [] ((n, z, kd), I, J, F) Q := hR.go [25] 13 h
theorem BX9_most_25 {R : azP} (hR : azClosed R) {d n z : Nat} {kd : azK} {I : azI} {J : azJ} {F : azR} {Q : azQ} {a0 : Nat} {x1 x2 x3 x4 : Int32}
    (h : ((kd a0).1 = 9 ∧ (((I a0 32) ≤ x4 → Q (some (.int x3)) ((n, z, kd), I, J, F)) ∧ (¬ ((I a0 32) ≤ x4) → ((kd a0).1 = 9 ∧ zOf (F a0 33) fun b1 => (((kd b1).1 = 10 ∨ (kd b1).1 = 15) ∧ vp_in (((nI 70) * x4) + x1) (kd b1).2 ∧ (R d mJ9_max_7cf53 0 [.int x3, .int (I b1 ((((nI 70) * x4) + x1).toNatClampNeg))] [] ((n, z, kd), I, J, F) fun v2 s3 => kI v2 fun r4 => R (d + 1) mX9_most 25 [.ref a0, .int x1, .int x2, .int r4, .int (x4 + (nI 1))] [] s3 Q))))))) :
    R (d + 1) mX9_most 25 [.ref a0, .int x1, .int x2, .int x3, .int x4] [] ((n, z, kd), I, J, F) Q := hR.go [25] 19 h
theorem BX9_dead_0 {R : azP} (hR : azClosed R) {d n z : Nat} {kd : azK} {I : azI} {J : azJ} {F : azR} {Q : azQ} {a0 : Nat} {x1 : Int32}
    (h : ((kd a0).1 = 9 ∧ R d mX9_finds 0 [.ref a0, .int x1, .retAddr 0, .retAddr 0, .retAddr 0] [] ((n, z, kd), I, J, F) fun v1 s2 => kI v1 fun r3 => ((¬ r3 = 0 → R (d + 1) mX9_dead 15 [.ref a0, .int x1, .int (nI 0), .int (nI 0), .retAddr 0, .retAddr 0] [] s2 Q) ∧ (¬ (¬ r3 = 0) → Q (some (.int (-(nI 2)))) s2)))) :
    R (d + 1) mX9_dead 0 [.ref a0, .int x1, .retAddr 0, .retAddr 0, .retAddr 0, .retAddr 0] [] ((n, z, kd), I, J, F) Q := hR.go [15, 43] 10 h
theorem BX9_dead_15 {R : azP} (hR : azClosed R) {d n z : Nat} {kd : azK} {I : azI} {J : azJ} {F : azR} {Q : azQ} {a0 : Nat} {x1 x2 x3 : Int32} {w4 w5 : Value}
    (h : (((nI 10) ≤ x3 → Q (some (.int x2)) ((n, z, kd), I, J, F)) ∧ (¬ ((nI 10) ≤ x3) → ((kd a0).1 = 9 ∧ zOf (F a0 2) fun b1 => (((kd b1).1 = 10 ∨ (kd b1).1 = 15) ∧ vp_in ((nI 81) * x3) (kd b1).2 ∧ ((¬ (I b1 (((nI 81) * x3).toNatClampNeg)) = 0 → R (d + 1) mX9_dead 43 [.ref a0, .int x1, .int x2, .int x3, .int (nI 0), .int (nI 0)] [] ((n, z, kd), I, J, F) Q) ∧ (¬ (¬ (I b1 (((nI 81) * x3).toNatClampNeg)) = 0) → R (d + 1) mX9_dead 43 [.ref a0, .int x1, .int x2, .int x3, .int (nI 1), .int (nI 0)] [] ((n, z, kd), I, J, F) Q))))))) :
    R (d + 1) mX9_dead 15 [.ref a0, .int x1, .int x2, .int x3, w4, w5] [] ((n, z, kd), I, J, F) Q := hR.go [15, 43] 17 h
set_option maxRecDepth 100000 in
theorem BX9_dead_43 {R : azP} (hR : azClosed R) {d n z : Nat} {kd : azK} {I : azI} {J : azJ} {F : azR} {Q : azQ} {a0 : Nat} {x1 x2 x3 x4 x5 : Int32}
    (h : ((kd a0).1 = 9 ∧ (((I a0 32) ≤ x5 → ((x4 = 0 → R (d + 1) mX9_dead 15 [.ref a0, .int x1, .int (x2 ||| ((nI 1) <<< (x3 &&& 31))), .int (x3 + (nI 1)), .int x4, .int x5] [] ((n, z, kd), I, J, F) Q) ∧ (¬ (x4 = 0) → R (d + 1) mX9_dead 15 [.ref a0, .int x1, .int (x2 ||| (nI 0)), .int (x3 + (nI 1)), .int x4, .int x5] [] ((n, z, kd), I, J, F) Q))) ∧ (¬ ((I a0 32) ≤ x5) → ((¬ x4 = 0 → R (d + 1) mX9_dead 43 [.ref a0, .int x1, .int x2, .int x3, .int (nI 1), .int (x5 + (nI 1))] [] ((n, z, kd), I, J, F) Q) ∧ (¬ (¬ x4 = 0) → ((kd a0).1 = 9 ∧ zOf (F a0 36) fun b1 => (((kd b1).1 = 10 ∨ (kd b1).1 = 15) ∧ vp_in (((nI 10) * x5) + x3) (kd b1).2 ∧ (((I b1 ((((nI 10) * x5) + x3).toNatClampNeg)) ≤ (-(nI 2)) → R (d + 1) mX9_dead 43 [.ref a0, .int x1, .int x2, .int x3, .int (nI 0), .int (x5 + (nI 1))] [] ((n, z, kd), I, J, F) Q) ∧ (¬ ((I b1 ((((nI 10) * x5) + x3).toNatClampNeg)) ≤ (-(nI 2))) → R (d + 1) mX9_dead 43 [.ref a0, .int x1, .int x2, .int x3, .int (nI 1), .int (x5 + (nI 1))] [] ((n, z, kd), I, J, F) Q)))))))))) :
    R (d + 1) mX9_dead 43 [.ref a0, .int x1, .int x2, .int x3, .int x4, .int x5] [] ((n, z, kd), I, J, F) Q := hR.go [15, 43] 23 h
theorem BX9_isEnd_0 {R : azP} (hR : azClosed R) {d n z : Nat} {kd : azK} {I : azI} {J : azJ} {F : azR} {Q : azQ} {a0 : Nat} {x1 : Int32}
    (h : ((kd a0).1 = 9 ∧ zOf (F a0 33) fun b1 => (((kd b1).1 = 10 ∨ (kd b1).1 = 15) ∧ vp_in (((nI 70) * x1) + (nI 9)) (kd b1).2 ∧ (((I b1 ((((nI 70) * x1) + (nI 9)).toNatClampNeg)) ≤ 0 → (((nI 0) = 0 ∨ (nI 0) = 1) ∧ Q (some (.int (nI 0))) ((n, z, kd), I, J, F))) ∧ (¬ ((I b1 ((((nI 70) * x1) + (nI 9)).toNatClampNeg)) ≤ 0) → (((nI 1) = 0 ∨ (nI 1) = 1) ∧ Q (some (.int (nI 1))) ((n, z, kd), I, J, F))))))) :
    R d mX9_isEnd 0 [.ref a0, .int x1] [] ((n, z, kd), I, J, F) Q := hR.go [] 13 h
theorem BX9_ends_0 {R : azP} (hR : azClosed R) {d n z : Nat} {kd : azK} {I : azI} {J : azJ} {F : azR} {Q : azQ} {a0 : Nat} {x1 : Int32}
    (h : ((kd a0).1 = 9 ∧ R d mX9_finds 0 [.ref a0, .int x1, .retAddr 0, .retAddr 0, .retAddr 0] [] ((n, z, kd), I, J, F) fun v1 s2 => kI v1 fun r3 => ((¬ r3 = 0 → R (d + 1) mX9_ends 15 [.ref a0, .int x1, .int (nI 0), .int (nI 0)] [] s2 Q) ∧ (¬ (¬ r3 = 0) → Q (some (.int (-(nI 2)))) s2)))) :
    R (d + 1) mX9_ends 0 [.ref a0, .int x1, .retAddr 0, .retAddr 0] [] ((n, z, kd), I, J, F) Q := hR.go [15] 10 h
theorem BX9_ends_15 {R : azP} (hR : azClosed R) {d n z : Nat} {kd : azK} {I : azI} {J : azJ} {F : azR} {Q : azQ} {a0 : Nat} {x1 x2 x3 : Int32}
    (h : ((kd a0).1 = 9 ∧ (((I a0 32) ≤ x3 → Q (some (.int x2)) ((n, z, kd), I, J, F)) ∧ (¬ ((I a0 32) ≤ x3) → ((kd a0).1 = 9 ∧ R d mX9_isEnd 0 [.ref a0, .int x3] [] ((n, z, kd), I, J, F) fun v1 s2 => kI v1 fun r3 => ((r3 = 0 → R (d + 1) mX9_ends 15 [.ref a0, .int x1, .int (x2 + (nI 0)), .int (x3 + (nI 1))] [] s2 Q) ∧ (¬ (r3 = 0) → R (d + 1) mX9_ends 15 [.ref a0, .int x1, .int (x2 + (nI 1)), .int (x3 + (nI 1))] [] s2 Q))))))) :
    R (d + 1) mX9_ends 15 [.ref a0, .int x1, .int x2, .int x3] [] ((n, z, kd), I, J, F) Q := hR.go [15] 17 h
theorem BX9_stuck_0 {R : azP} (hR : azClosed R) {d n z : Nat} {kd : azK} {I : azI} {J : azJ} {F : azR} {Q : azQ} {a0 : Nat} {x1 : Int32}
    (h : ((kd a0).1 = 9 ∧ R d mX9_finds 0 [.ref a0, .int x1, .retAddr 0, .retAddr 0, .retAddr 0] [] ((n, z, kd), I, J, F) fun v1 s2 => kI v1 fun r3 => ((¬ r3 = 0 → R (d + 1) mX9_stuck 13 [.ref a0, .int x1, .int (nI 0), .retAddr 0] [] s2 Q) ∧ (¬ (¬ r3 = 0) → Q (some (.int (-(nI 2)))) s2)))) :
    R (d + 1) mX9_stuck 0 [.ref a0, .int x1, .retAddr 0, .retAddr 0] [] ((n, z, kd), I, J, F) Q := hR.go [13, 40, 50, 124] 8 h
theorem BX9_stuck_13 {R : azP} (hR : azClosed R) {d n z : Nat} {kd : azK} {I : azI} {J : azJ} {F : azR} {Q : azQ} {a0 : Nat} {x1 x2 : Int32}
    (h : ((kd a0).1 = 9 ∧ (((I a0 32) ≤ x2 → R (d + 1) mX9_stuck 40 [.ref a0, .int x1, .int (nI 0), .retAddr 0] [] ((n, z, kd), I, J, F) Q) ∧ (¬ ((I a0 32) ≤ x2) → ((kd a0).1 = 9 ∧ zOf (F a0 38) fun b1 => ((kd a0).1 = 9 ∧ R d mX9_isEnd 0 [.ref a0, .int x2] [] ((n, z, kd), I, J, F) fun v2 s3 => kI v2 fun r4 => ((s3.1.2.2 b1).1 = 12 ∧ vp_in x2 (s3.1.2.2 b1).2 ∧ (r4 = 0 ∨ r4 = 1) ∧ R (d + 1) mX9_stuck 13 [.ref a0, .int x1, .int (x2 + (nI 1)), .retAddr 0] [] ((s3.1), (azUp s3.2.1 b1 x2.toNatClampNeg r4), s3.2.2.1, s3.2.2.2) Q))))))) :
    R (d + 1) mX9_stuck 13 [.ref a0, .int x1, .int x2, .retAddr 0] [] ((n, z, kd), I, J, F) Q := hR.go [13, 40, 50, 124] 15 h
theorem BX9_stuck_40 {R : azP} (hR : azClosed R) {d n z : Nat} {kd : azK} {I : azI} {J : azJ} {F : azR} {Q : azQ} {a0 : Nat} {x1 x2 : Int32} {w3 : Value}
    (h : ((kd a0).1 = 9 ∧ (((I a0 32) ≤ x2 → R (d + 1) mX9_stuck 124 [.ref a0, .int x1, .int (nI 0), w3] [] ((n, z, kd), I, J, F) Q) ∧ (¬ ((I a0 32) ≤ x2) → R (d + 1) mX9_stuck 50 [.ref a0, .int x1, .int x2, .int (nI 0)] [] ((n, z, kd), I, J, F) Q)))) :
    R (d + 1) mX9_stuck 40 [.ref a0, .int x1, .int x2, w3] [] ((n, z, kd), I, J, F) Q := hR.go [13, 40, 50, 124] 8 h
set_option maxRecDepth 100000 in
theorem BX9_stuck_50 {R : azP} (hR : azClosed R) {d n z : Nat} {kd : azK} {I : azI} {J : azJ} {F : azR} {Q : azQ} {a0 : Nat} {x1 x2 x3 : Int32}
    (h : ((kd a0).1 = 9 ∧ ((((nI 10) * (I a0 32)) ≤ x3 → R (d + 1) mX9_stuck 40 [.ref a0, .int x1, .int (x2 + (nI 1)), .int x3] [] ((n, z, kd), I, J, F) Q) ∧ (¬ (((nI 10) * (I a0 32)) ≤ x3) → ((kd a0).1 = 9 ∧ zOf (F a0 38) fun b1 => ¬ (nI 10) = 0 ∧ ((kd a0).1 = 9 ∧ zOf (F a0 38) fun b2 => ¬ (nI 10) = 0 ∧ (((kd b2).1 = 12 ∨ (kd b2).1 = 17) ∧ vp_in (x3 / (nI 10)) (kd b2).2 ∧ ((¬ (I b2 ((x3 / (nI 10)).toNatClampNeg)) = 0 → ((kd b1).1 = 12 ∧ vp_in (x3 / (nI 10)) (kd b1).2 ∧ ((nI 1) = 0 ∨ (nI 1) = 1) ∧ R (d + 1) mX9_stuck 50 [.ref a0, .int x1, .int x2, .int (x3 + (nI 1))] [] ((n, z, kd), (azUp I b1 ((x3 / (nI 10)).toNatClampNeg) (nI 1)), J, F) Q)) ∧ (¬ (¬ (I b2 ((x3 / (nI 10)).toNatClampNeg)) = 0) → ((kd a0).1 = 9 ∧ zOf (F a0 36) fun b3 => (((kd b3).1 = 10 ∨ (kd b3).1 = 15) ∧ vp_in x3 (kd b3).2 ∧ (((I b3 x3.toNatClampNeg) < 0 → ((kd b1).1 = 12 ∧ vp_in (x3 / (nI 10)) (kd b1).2 ∧ ((nI 0) = 0 ∨ (nI 0) = 1) ∧ R (d + 1) mX9_stuck 50 [.ref a0, .int x1, .int x2, .int (x3 + (nI 1))] [] ((n, z, kd), (azUp I b1 ((x3 / (nI 10)).toNatClampNeg) (nI 0)), J, F) Q)) ∧ (¬ ((I b3 x3.toNatClampNeg) < 0) → ((kd a0).1 = 9 ∧ zOf (F a0 38) fun b4 => ((kd a0).1 = 9 ∧ zOf (F a0 36) fun b5 => (((kd b5).1 = 10 ∨ (kd b5).1 = 15) ∧ vp_in x3 (kd b5).2 ∧ (((kd b4).1 = 12 ∨ (kd b4).1 = 17) ∧ vp_in (I b5 x3.toNatClampNeg) (kd b4).2 ∧ (((I b4 ((I b5 x3.toNatClampNeg).toNatClampNeg)) = 0 → ((kd b1).1 = 12 ∧ vp_in (x3 / (nI 10)) (kd b1).2 ∧ ((nI 0) = 0 ∨ (nI 0) = 1) ∧ R (d + 1) mX9_stuck 50 [.ref a0, .int x1, .int x2, .int (x3 + (nI 1))] [] ((n, z, kd), (azUp I b1 ((x3 / (nI 10)).toNatClampNeg) (nI 0)), J, F) Q)) ∧ (¬ ((I b4 ((I b5 x3.toNatClampNeg).toNatClampNeg)) = 0) → ((kd b1).1 = 12 ∧ vp_in (x3 / (nI 10)) (kd b1).2 ∧ ((nI 1) = 0 ∨ (nI 1) = 1) ∧ R (d + 1) mX9_stuck 50 [.ref a0, .int x1, .int x2, .int (x3 + (nI 1))] [] ((n, z, kd), (azUp I b1 ((x3 / (nI 10)).toNatClampNeg) (nI 1)), J, F) Q)))))))))))))))))))) :
    R (d + 1) mX9_stuck 50 [.ref a0, .int x1, .int x2, .int x3] [] ((n, z, kd), I, J, F) Q := hR.go [13, 40, 50, 124] 38 h
theorem BX9_stuck_124 {R : azP} (hR : azClosed R) {d n z : Nat} {kd : azK} {I : azI} {J : azJ} {F : azR} {Q : azQ} {a0 : Nat} {x1 x2 : Int32} {w3 : Value}
    (h : ((kd a0).1 = 9 ∧ (((I a0 32) ≤ x2 → Q (some (.int (-(nI 5)))) ((n, z, kd), I, J, F)) ∧ (¬ ((I a0 32) ≤ x2) → ((kd a0).1 = 9 ∧ zOf (F a0 38) fun b1 => (((kd b1).1 = 12 ∨ (kd b1).1 = 17) ∧ vp_in x2 (kd b1).2 ∧ ((¬ (I b1 x2.toNatClampNeg) = 0 → R (d + 1) mX9_stuck 124 [.ref a0, .int x1, .int (x2 + (nI 1)), w3] [] ((n, z, kd), I, J, F) Q) ∧ (¬ (¬ (I b1 x2.toNatClampNeg) = 0) → Q (some (.int x2)) ((n, z, kd), I, J, F))))))))) :
    R (d + 1) mX9_stuck 124 [.ref a0, .int x1, .int x2, w3] [] ((n, z, kd), I, J, F) Q := hR.go [13, 40, 50, 124] 13 h
theorem BX9_walk_0 {R : azP} (hR : azClosed R) {d n z : Nat} {kd : azK} {I : azI} {J : azJ} {F : azR} {Q : azQ} {a0 : Nat} {x1 x2 x3 : Int32}
    (h : ((kd a0).1 = 9 ∧ R d mX9_finds 0 [.ref a0, .int x1, .retAddr 0, .retAddr 0, .retAddr 0] [] ((n, z, kd), I, J, F) fun v1 s2 => kI v1 fun r3 => ((¬ r3 = 0 → ((s2.1.2.2 a0).1 = 9 ∧ (R d mX9_isIn 0 [.long x2.toInt64, .retAddr 1, .long (lN 0), .retAddr 1, .long (((s2.2.1 a0 32) - (nI 1)).toInt64), .retAddr 1] [] s2 fun v4 s5 => kI v4 fun r6 => ((¬ r6 = 0 → R (d + 1) mX9_walk 35 [.ref a0, .int x1, .int x2, .int x3, .int (nI 0), .int x2, .retAddr 0] [] s5 Q) ∧ (¬ (¬ r6 = 0) → Q (some (.int (-(nI 1)))) s5))))) ∧ (¬ (¬ r3 = 0) → Q (some (.int (-(nI 2)))) s2)))) :
    R (d + 1) mX9_walk 0 [.ref a0, .int x1, .int x2, .int x3, .retAddr 0, .retAddr 0, .retAddr 0] [] ((n, z, kd), I, J, F) Q := hR.go [35, 95] 20 h
set_option maxRecDepth 100000 in
theorem BX9_walk_35 {R : azP} (hR : azClosed R) {d n z : Nat} {kd : azK} {I : azI} {J : azJ} {F : azR} {Q : azQ} {a0 : Nat} {x1 x2 x3 x4 x5 : Int32}
    (h : ((x5 ≤ 0 → ((x3 = (-(nI 1)) → ((¬ x3 = (-(nI 1)) → Q (some (.int (-(nI 1)))) ((n, z, kd), I, J, F)) ∧ (¬ (¬ x3 = (-(nI 1))) → Q (some (.int x4)) ((n, z, kd), I, J, F)))) ∧ (¬ (x3 = (-(nI 1))) → (R d mX9_isIn 0 [.long x3.toInt64, .retAddr 1, .long (lN 0), .retAddr 1, .long ((x4 - (nI 1)).toInt64), .retAddr 1] [] ((n, z, kd), I, J, F) fun v1 s2 => kI v1 fun r3 => ((¬ r3 = 0 → R (d + 1) mX9_walk 95 [.ref a0, .int x1, .int x2, .int x3, .int x4, .int x2, .int (x4 - (nI 1))] [] s2 Q) ∧ (¬ (¬ r3 = 0) → ((¬ x3 = (-(nI 1)) → Q (some (.int (-(nI 1)))) s2) ∧ (¬ (¬ x3 = (-(nI 1))) → Q (some (.int x4)) s2)))))))) ∧ (¬ (x5 ≤ 0) → ((kd a0).1 = 9 ∧ zOf (F a0 35) fun b4 => (((kd b4).1 = 10 ∨ (kd b4).1 = 15) ∧ vp_in x5 (kd b4).2 ∧ R (d + 1) mX9_walk 35 [.ref a0, .int x1, .int x2, .int x3, .int (x4 + (nI 1)), .int (I b4 x5.toNatClampNeg), .retAddr 0] [] ((n, z, kd), I, J, F) Q))))) :
    R (d + 1) mX9_walk 35 [.ref a0, .int x1, .int x2, .int x3, .int x4, .int x5, .retAddr 0] [] ((n, z, kd), I, J, F) Q := hR.go [35, 95] 22 h
theorem BX9_walk_95 {R : azP} (hR : azClosed R) {d n z : Nat} {kd : azK} {I : azI} {J : azJ} {F : azR} {Q : azQ} {a0 : Nat} {x1 x2 x3 x4 x5 x6 : Int32}
    (h : ((x6 ≤ x3 → ((kd a0).1 = 9 ∧ zOf (F a0 34) fun b1 => (((kd b1).1 = 10 ∨ (kd b1).1 = 15) ∧ vp_in x5 (kd b1).2 ∧ Q (some (.int (I b1 x5.toNatClampNeg))) ((n, z, kd), I, J, F)))) ∧ (¬ (x6 ≤ x3) → ((kd a0).1 = 9 ∧ zOf (F a0 35) fun b2 => (((kd b2).1 = 10 ∨ (kd b2).1 = 15) ∧ vp_in x5 (kd b2).2 ∧ R (d + 1) mX9_walk 95 [.ref a0, .int x1, .int x2, .int x3, .int x4, .int (I b2 x5.toNatClampNeg), .int (x6 + (-(nI 1)))] [] ((n, z, kd), I, J, F) Q))))) :
    R (d + 1) mX9_walk 95 [.ref a0, .int x1, .int x2, .int x3, .int x4, .int x5, .int x6] [] ((n, z, kd), I, J, F) Q := hR.go [35, 95] 12 h
set_option maxRecDepth 100000 in
theorem BX9_held_0 {R : azP} (hR : azClosed R) {d n z : Nat} {kd : azK} {I : azI} {J : azJ} {F : azR} {Q : azQ} {a0 : Nat} {x1 x2 x3 : Int32}
    (h : ((kd a0).1 = 9 ∧ R d mX9_finds 0 [.ref a0, .int x1, .retAddr 0, .retAddr 0, .retAddr 0] [] ((n, z, kd), I, J, F) fun v1 s2 => kI v1 fun r3 => ((¬ r3 = 0 → ((s2.1.2.2 a0).1 = 9 ∧ (R d mX9_isIn 0 [.long x2.toInt64, .retAddr 1, .long (lN 0), .retAddr 1, .long (((s2.2.1 a0 32) - (nI 1)).toInt64), .retAddr 1] [] s2 fun v4 s5 => kI v4 fun r6 => ((r6 = 0 → Q (some (.int (-(nI 1)))) s5) ∧ (¬ (r6 = 0) → (R d mX9_isPlace 0 [.int x3] [] s5 fun v7 s8 => kI v7 fun r9 => ((r9 = 0 → Q (some (.int (-(nI 1)))) s8) ∧ (¬ (r9 = 0) → ((s8.1.2.2 a0).1 = 9 ∧ zOf (s8.2.2.2 a0 33) fun b10 => (((s8.1.2.2 b10).1 = 10 ∨ (s8.1.2.2 b10).1 = 15) ∧ vp_in (((nI 70) * x2) + x3) (s8.1.2.2 b10).2 ∧ Q (some (.int (s8.2.1 b10 ((((nI 70) * x2) + x3).toNatClampNeg)))) s8)))))))))) ∧ (¬ (¬ r3 = 0) → Q (some (.int (-(nI 2)))) s2)))) :
    R (d + 1) mX9_held 0 [.ref a0, .int x1, .int x2, .int x3] [] ((n, z, kd), I, J, F) Q := hR.go [] 28 h
theorem BX9_changeOf_0 {R : azP} (hR : azClosed R) {d n z : Nat} {kd : azK} {I : azI} {J : azJ} {F : azR} {Q : azQ} {a0 : Nat} {x1 : Int32}
    (h : R d mX9_changeOf 4 [.ref a0, .int x1, .int (nI 0), .int (nI 0)] [] ((n, z, kd), I, J, F) Q) :
    R d mX9_changeOf 0 [.ref a0, .int x1, .retAddr 0, .retAddr 0] [] ((n, z, kd), I, J, F) Q := hR.go [4, 38] 6 h
theorem BX9_changeOf_4 {R : azP} (hR : azClosed R) {d n z : Nat} {kd : azK} {I : azI} {J : azJ} {F : azR} {Q : azQ} {a0 : Nat} {x1 x2 x3 : Int32}
    (h : ((kd a0).1 = 9 ∧ (((I a0 16) ≤ x3 → R d mX9_changeOf 38 [.ref a0, .int x1, .int x2, .int (nI 0)] [] ((n, z, kd), I, J, F) Q) ∧ (¬ ((I a0 16) ≤ x3) → ((kd a0).1 = 9 ∧ zOf (F a0 17) fun b1 => (((kd b1).1 = 10 ∨ (kd b1).1 = 15) ∧ vp_in x3 (kd b1).2 ∧ ((¬ (I b1 x3.toNatClampNeg) = x1 → R d mX9_changeOf 4 [.ref a0, .int x1, .int (x2 + (nI 0)), .int (x3 + (nI 1))] [] ((n, z, kd), I, J, F) Q) ∧ (¬ (¬ (I b1 x3.toNatClampNeg) = x1) → R d mX9_changeOf 4 [.ref a0, .int x1, .int (x2 + (nI 1)), .int (x3 + (nI 1))] [] ((n, z, kd), I, J, F) Q)))))))) :
    R d mX9_changeOf 4 [.ref a0, .int x1, .int x2, .int x3] [] ((n, z, kd), I, J, F) Q := hR.go [4, 38] 19 h
theorem BX9_changeOf_38 {R : azP} (hR : azClosed R) {d n z : Nat} {kd : azK} {I : azI} {J : azJ} {F : azR} {Q : azQ} {a0 : Nat} {x1 x2 x3 : Int32}
    (h : ((kd a0).1 = 9 ∧ (((I a0 13) ≤ x3 → Q (some (.int x2)) ((n, z, kd), I, J, F)) ∧ (¬ ((I a0 13) ≤ x3) → ((kd a0).1 = 9 ∧ zOf (F a0 14) fun b1 => (((kd b1).1 = 10 ∨ (kd b1).1 = 15) ∧ vp_in x3 (kd b1).2 ∧ ((¬ (I b1 x3.toNatClampNeg) = x1 → R d mX9_changeOf 38 [.ref a0, .int x1, .int (x2 - (nI 0)), .int (x3 + (nI 1))] [] ((n, z, kd), I, J, F) Q) ∧ (¬ (¬ (I b1 x3.toNatClampNeg) = x1) → R d mX9_changeOf 38 [.ref a0, .int x1, .int (x2 - (nI 1)), .int (x3 + (nI 1))] [] ((n, z, kd), I, J, F) Q)))))))) :
    R d mX9_changeOf 38 [.ref a0, .int x1, .int x2, .int x3] [] ((n, z, kd), I, J, F) Q := hR.go [4, 38] 19 h
theorem BX9_change_0 {R : azP} (hR : azClosed R) {d n z : Nat} {kd : azK} {I : azI} {J : azJ} {F : azR} {Q : azQ} {a0 : Nat} {x1 x2 : Int32}
    (h : (R d mX9_isPlace 0 [.int x1] [] ((n, z, kd), I, J, F) fun v1 s2 => kI v1 fun r3 => ((r3 = 0 → Q (some (.int (-(nI 1)))) s2) ∧ (¬ (r3 = 0) → (R d mX9_isPlace 0 [.int x2] [] s2 fun v4 s5 => kI v4 fun r6 => ((¬ r6 = 0 → ((s5.1.2.2 a0).1 = 9 ∧ R d mX9_readsRule 0 [.ref a0, .int x1] [] s5 fun v7 s8 => kI v7 fun r9 => ((r9 = 0 → Q (some (.int (-(nI 3)))) s8) ∧ (¬ (r9 = 0) → ((s8.1.2.2 a0).1 = 9 ∧ R d mX9_changeOf 0 [.ref a0, .int x2, .retAddr 0, .retAddr 0] [] s8 fun v10 s11 => kI v10 fun r12 => Q (some (.int r12)) s11))))) ∧ (¬ (¬ r6 = 0) → Q (some (.int (-(nI 1)))) s5))))))) :
    R (d + 1) mX9_change 0 [.ref a0, .int x1, .int x2] [] ((n, z, kd), I, J, F) Q := hR.go [] 16 h
set_option maxRecDepth 100000 in
theorem BX9_gcd_0 {R : azP} (hR : azClosed R) {d n z : Nat} {kd : azK} {I : azI} {J : azJ} {F : azR} {Q : azQ} {y0 y2 : Int64}
    (h : ((0 ≤ (lg_cmp y0 (lN 0)) → ((0 ≤ (lg_cmp y2 (lN 0)) → R d mX9_gcd 28 [.long y0, .retAddr 1, .long y2, .retAddr 1, .long y0, .retAddr 1, .long y2, .retAddr 1, .retAddr 0, .retAddr 0] [] ((n, z, kd), I, J, F) Q) ∧ (¬ (0 ≤ (lg_cmp y2 (lN 0))) → R d mX9_gcd 28 [.long y0, .retAddr 1, .long y2, .retAddr 1, .long y0, .retAddr 1, .long (-y2), .retAddr 1, .retAddr 0, .retAddr 0] [] ((n, z, kd), I, J, F) Q))) ∧ (¬ (0 ≤ (lg_cmp y0 (lN 0))) → ((0 ≤ (lg_cmp y2 (lN 0)) → R d mX9_gcd 28 [.long y0, .retAddr 1, .long y2, .retAddr 1, .long (-y0), .retAddr 1, .long y2, .retAddr 1, .retAddr 0, .retAddr 0] [] ((n, z, kd), I, J, F) Q) ∧ (¬ (0 ≤ (lg_cmp y2 (lN 0))) → R d mX9_gcd 28 [.long y0, .retAddr 1, .long y2, .retAddr 1, .long (-y0), .retAddr 1, .long (-y2), .retAddr 1, .retAddr 0, .retAddr 0] [] ((n, z, kd), I, J, F) Q))))) :
    R d mX9_gcd 0 [.long y0, .retAddr 1, .long y2, .retAddr 1, .retAddr 0, .retAddr 0, .retAddr 0, .retAddr 0, .retAddr 0, .retAddr 0] [] ((n, z, kd), I, J, F) Q := hR.go [28] 18 h
theorem BX9_gcd_28 {R : azP} (hR : azClosed R) {d n z : Nat} {kd : azK} {I : azI} {J : azJ} {F : azR} {Q : azQ} {y0 y2 y4 y6 : Int64} {w8 w9 : Value}
    (h : (((lg_cmp y6 (lN 0)) = 0 → Q (some (.long y4)) ((n, z, kd), I, J, F)) ∧ (¬ ((lg_cmp y6 (lN 0)) = 0) → ¬ y6 = 0 ∧ R d mX9_gcd 28 [.long y0, .retAddr 1, .long y2, .retAddr 1, .long y6, .retAddr 1, .long (y4 - y4 / y6 * y6), .retAddr 1, .long (y4 - y4 / y6 * y6), .retAddr 1] [] ((n, z, kd), I, J, F) Q))) :
    R d mX9_gcd 28 [.long y0, .retAddr 1, .long y2, .retAddr 1, .long y4, .retAddr 1, .long y6, .retAddr 1, w8, w9] [] ((n, z, kd), I, J, F) Q := hR.go [28] 15 h
set_option maxRecDepth 100000 in
theorem BX9_sets_0 {R : azP} (hR : azClosed R) {d n z : Nat} {kd : azK} {I : azI} {J : azJ} {F : azR} {Q : azQ} {a0 : Nat} {x1 : Int32} {y2 y4 : Int64}
    (h : (R d mX9_gcd 0 [.long y2, .retAddr 1, .long y4, .retAddr 1, .retAddr 0, .retAddr 0, .retAddr 0, .retAddr 0, .retAddr 0, .retAddr 0] [] ((n, z, kd), I, J, F) fun v1 s2 => kL v1 fun r3 => ((0 ≤ (lg_cmp y4 (lN 0)) → ((s2.1.2.2 a0).1 = 9 ∧ zOf (s2.2.2.2 a0 39) fun b4 => ¬ r3 = 0 ∧ ((s2.1.2.2 b4).1 = 11 ∧ vp_in x1 (s2.1.2.2 b4).2 ∧ ((s2.1.2.2 a0).1 = 9 ∧ zOf (s2.2.2.2 a0 40) fun b5 => ¬ r3 = 0 ∧ ((s2.1.2.2 b5).1 = 11 ∧ vp_in x1 (s2.1.2.2 b5).2 ∧ Q none ((s2.1), s2.2.1, (azUp ((azUp s2.2.2.1 b4 x1.toNatClampNeg (((lN 1) * y2) / r3))) b5 x1.toNatClampNeg (((lN 1) * y4) / r3)), s2.2.2.2)))))) ∧ (¬ (0 ≤ (lg_cmp y4 (lN 0))) → ((s2.1.2.2 a0).1 = 9 ∧ zOf (s2.2.2.2 a0 39) fun b6 => ¬ r3 = 0 ∧ ((s2.1.2.2 b6).1 = 11 ∧ vp_in x1 (s2.1.2.2 b6).2 ∧ ((s2.1.2.2 a0).1 = 9 ∧ zOf (s2.2.2.2 a0 40) fun b7 => ¬ r3 = 0 ∧ ((s2.1.2.2 b7).1 = 11 ∧ vp_in x1 (s2.1.2.2 b7).2 ∧ Q none ((s2.1), s2.2.1, (azUp ((azUp s2.2.2.1 b6 x1.toNatClampNeg ((((-1 : Int64)) * y2) / r3))) b7 x1.toNatClampNeg ((((-1 : Int64)) * y4) / r3)), s2.2.2.2))))))))) :
    R (d + 1) mX9_sets 0 [.ref a0, .int x1, .long y2, .retAddr 1, .long y4, .retAddr 1, .retAddr 0, .retAddr 0, .retAddr 0, .retAddr 0] [] ((n, z, kd), I, J, F) Q := hR.go [] 31 h
theorem BX9_less_0 {R : azP} (hR : azClosed R) {d n z : Nat} {kd : azK} {I : azI} {J : azJ} {F : azR} {Q : azQ} {a0 : Nat} {x1 x2 : Int32} {y3 y5 : Int64}
    (h : R (d + 1) mX9_less 3 [.ref a0, .int x1, .int x2, .long y3, .retAddr 1, .long y5, .retAddr 1, .int (nI 0), .retAddr 0, .retAddr 0, .retAddr 0, .retAddr 0, .retAddr 0, .retAddr 0] [] ((n, z, kd), I, J, F) Q) :
    R (d + 1) mX9_less 0 [.ref a0, .int x1, .int x2, .long y3, .retAddr 1, .long y5, .retAddr 1, .retAddr 0, .retAddr 0, .retAddr 0, .retAddr 0, .retAddr 0, .retAddr 0, .retAddr 0] [] ((n, z, kd), I, J, F) Q := hR.go [3] 4 h
set_option maxRecDepth 100000 in
theorem BX9_less_3 {R : azP} (hR : azClosed R) {d n z : Nat} {kd : azK} {I : azI} {J : azJ} {F : azR} {Q : azQ} {a0 : Nat} {x1 x2 x7 : Int32} {y3 y5 : Int64} {w8 w9 w10 w11 w12 w13 : Value}
    (h : (((nI 10) ≤ x7 → Q none ((n, z, kd), I, J, F)) ∧ (¬ ((nI 10) ≤ x7) → ((kd a0).1 = 9 ∧ zOf (F a0 39) fun b1 => ((kd b1).1 = 11 ∧ vp_in (((nI 10) * x2) + x7) (kd b1).2 ∧ ((kd a0).1 = 9 ∧ zOf (F a0 40) fun b2 => ((kd b2).1 = 11 ∧ vp_in (((nI 10) * x2) + x7) (kd b2).2 ∧ ((kd a0).1 = 9 ∧ zOf (F a0 39) fun b3 => ((kd b3).1 = 11 ∧ vp_in (((nI 10) * x1) + x7) (kd b3).2 ∧ ((kd a0).1 = 9 ∧ zOf (F a0 40) fun b4 => ((kd b4).1 = 11 ∧ vp_in (((nI 10) * x1) + x7) (kd b4).2 ∧ ((kd a0).1 = 9 ∧ zOf (F a0 40) fun b5 => ((kd b5).1 = 11 ∧ vp_in (((nI 10) * x1) + x7) (kd b5).2 ∧ ((kd a0).1 = 9 ∧ R d mX9_sets 0 [.ref a0, .int (((nI 10) * x1) + x7), .long (((J b3 ((((nI 10) * x1) + x7).toNatClampNeg)) * ((J b2 ((((nI 10) * x2) + x7).toNatClampNeg)) * y5)) - (((J b1 ((((nI 10) * x2) + x7).toNatClampNeg)) * y3) * (J b4 ((((nI 10) * x1) + x7).toNatClampNeg)))), .retAddr 1, .long ((J b5 ((((nI 10) * x1) + x7).toNatClampNeg)) * ((J b2 ((((nI 10) * x2) + x7).toNatClampNeg)) * y5)), .retAddr 1, .retAddr 0, .retAddr 0, .retAddr 0, .retAddr 0] [] ((n, z, kd), I, J, F) fun v6 s7 => v6 = none ∧ R (d + 1) mX9_less 3 [.ref a0, .int x1, .int x2, .long y3, .retAddr 1, .long y5, .retAddr 1, .int (x7 + (nI 1)), .int (((nI 10) * x1) + x7), .int (((nI 10) * x2) + x7), .long ((J b1 ((((nI 10) * x2) + x7).toNatClampNeg)) * y3), .retAddr 1, .long ((J b2 ((((nI 10) * x2) + x7).toNatClampNeg)) * y5), .retAddr 1] [] s7 Q)))))))))))))) :
    R (d + 1) mX9_less 3 [.ref a0, .int x1, .int x2, .long y3, .retAddr 1, .long y5, .retAddr 1, .int x7, w8, w9, w10, w11, w12, w13] [] ((n, z, kd), I, J, F) Q := hR.go [3] 55 h
theorem BX9_swaps_0 {R : azP} (hR : azClosed R) {d n z : Nat} {kd : azK} {I : azI} {J : azJ} {F : azR} {Q : azQ} {a0 : Nat} {x1 x2 : Int32}
    (h : R d mX9_swaps 2 [.ref a0, .int x1, .int x2, .int (nI 0), .retAddr 0, .retAddr 0, .retAddr 0, .retAddr 0] [] ((n, z, kd), I, J, F) Q) :
    R d mX9_swaps 0 [.ref a0, .int x1, .int x2, .retAddr 0, .retAddr 0, .retAddr 0, .retAddr 0, .retAddr 0] [] ((n, z, kd), I, J, F) Q := hR.go [2] 4 h
set_option maxRecDepth 100000 in
theorem BX9_swaps_2 {R : azP} (hR : azClosed R) {d n z : Nat} {kd : azK} {I : azI} {J : azJ} {F : azR} {Q : azQ} {a0 : Nat} {x1 x2 x3 : Int32} {w4 w5 w6 w7 : Value}
    (h : (((nI 10) ≤ x3 → Q none ((n, z, kd), I, J, F)) ∧ (¬ ((nI 10) ≤ x3) → ((kd a0).1 = 9 ∧ zOf (F a0 39) fun b1 => ((kd b1).1 = 11 ∧ vp_in (((nI 10) * x1) + x3) (kd b1).2 ∧ ((kd a0).1 = 9 ∧ zOf (F a0 40) fun b2 => ((kd b2).1 = 11 ∧ vp_in (((nI 10) * x1) + x3) (kd b2).2 ∧ ((kd a0).1 = 9 ∧ zOf (F a0 39) fun b3 => ((kd a0).1 = 9 ∧ zOf (F a0 39) fun b4 => ((kd b4).1 = 11 ∧ vp_in (((nI 10) * x2) + x3) (kd b4).2 ∧ ((kd b3).1 = 11 ∧ vp_in (((nI 10) * x1) + x3) (kd b3).2 ∧ ((kd a0).1 = 9 ∧ zOf (F a0 40) fun b5 => ((kd a0).1 = 9 ∧ zOf (F a0 40) fun b6 => ((kd b6).1 = 11 ∧ vp_in (((nI 10) * x2) + x3) (kd b6).2 ∧ ((kd b5).1 = 11 ∧ vp_in (((nI 10) * x1) + x3) (kd b5).2 ∧ ((kd a0).1 = 9 ∧ zOf (F a0 39) fun b7 => ((kd b7).1 = 11 ∧ vp_in (((nI 10) * x2) + x3) (kd b7).2 ∧ ((kd a0).1 = 9 ∧ zOf (F a0 40) fun b8 => ((kd b8).1 = 11 ∧ vp_in (((nI 10) * x2) + x3) (kd b8).2 ∧ R d mX9_swaps 2 [.ref a0, .int x1, .int x2, .int (x3 + (nI 1)), .long (J b1 ((((nI 10) * x1) + x3).toNatClampNeg)), .retAddr 1, .long (J b2 ((((nI 10) * x1) + x3).toNatClampNeg)), .retAddr 1] [] ((n, z, kd), I, (azUp ((azUp ((azUp ((azUp J b3 ((((nI 10) * x1) + x3).toNatClampNeg) (J b4 ((((nI 10) * x2) + x3).toNatClampNeg)))) b5 ((((nI 10) * x1) + x3).toNatClampNeg) ((azUp J b3 ((((nI 10) * x1) + x3).toNatClampNeg) (J b4 ((((nI 10) * x2) + x3).toNatClampNeg))) b6 ((((nI 10) * x2) + x3).toNatClampNeg)))) b7 ((((nI 10) * x2) + x3).toNatClampNeg) (J b1 ((((nI 10) * x1) + x3).toNatClampNeg)))) b8 ((((nI 10) * x2) + x3).toNatClampNeg) (J b2 ((((nI 10) * x1) + x3).toNatClampNeg))), F) Q))))))))))))))))))) :
    R d mX9_swaps 2 [.ref a0, .int x1, .int x2, .int x3, w4, w5, w6, w7] [] ((n, z, kd), I, J, F) Q := hR.go [2] 75 h
theorem BX9_reduces_0 {R : azP} (hR : azClosed R) {d n z : Nat} {kd : azK} {I : azI} {J : azJ} {F : azR} {Q : azQ} {a0 : Nat}
    (h : R (d + 1) mX9_reduces 4 [.ref a0, .int (nI 0), .int (nI 0), .retAddr 0, .retAddr 0, .retAddr 0, .retAddr 0, .retAddr 0, .retAddr 0, .retAddr 0] [] ((n, z, kd), I, J, F) Q) :
    R (d + 1) mX9_reduces 0 [.ref a0, .retAddr 0, .retAddr 0, .retAddr 0, .retAddr 0, .retAddr 0, .retAddr 0, .retAddr 0, .retAddr 0, .retAddr 0] [] ((n, z, kd), I, J, F) Q := hR.go [4, 20, 82, 93, 120, 192, 246] 6 h
set_option maxRecDepth 100000 in
theorem BX9_reduces_4 {R : azP} (hR : azClosed R) {d n z : Nat} {kd : azK} {I : azI} {J : azJ} {F : azR} {Q : azQ} {a0 : Nat} {x1 x2 : Int32} {w3 : Value}
    (h : (((nI 10) ≤ x2 → ((kd a0).1 = 9 ∧ ((kd a0).1 = 9 ∧ R (d + 1) mX9_reduces 82 [.ref a0, .int x1, .int (nI 0), w3, .retAddr 0, .retAddr 0, .retAddr 0, .retAddr 0, .retAddr 0, .retAddr 0] [] ((n, z, kd), (azUp ((azUp I a0 44 (nI 0))) a0 42 (nI 0)), J, F) Q))) ∧ (¬ ((nI 10) ≤ x2) → ((kd a0).1 = 9 ∧ R d mX9_readsRule 0 [.ref a0, .int x2] [] ((n, z, kd), I, J, F) fun v1 s2 => kI v1 fun r3 => ((r3 = 0 → R (d + 1) mX9_reduces 4 [.ref a0, .int x1, .int (x2 + (nI 1)), w3, .retAddr 0, .retAddr 0, .retAddr 0, .retAddr 0, .retAddr 0, .retAddr 0] [] s2 Q) ∧ (¬ (r3 = 0) → R (d + 1) mX9_reduces 20 [.ref a0, .int x1, .int x2, .int (nI 0), .retAddr 0, .retAddr 0, .retAddr 0, .retAddr 0, .retAddr 0, .retAddr 0] [] s2 Q)))))) :
    R (d + 1) mX9_reduces 4 [.ref a0, .int x1, .int x2, w3, .retAddr 0, .retAddr 0, .retAddr 0, .retAddr 0, .retAddr 0, .retAddr 0] [] ((n, z, kd), I, J, F) Q := hR.go [4, 20, 82, 93, 120, 192, 246] 13 h
set_option maxRecDepth 100000 in
theorem BX9_reduces_20 {R : azP} (hR : azClosed R) {d n z : Nat} {kd : azK} {I : azI} {J : azJ} {F : azR} {Q : azQ} {a0 : Nat} {x1 x2 x3 : Int32}
    (h : (((nI 10) ≤ x3 → R (d + 1) mX9_reduces 4 [.ref a0, .int (x1 + (nI 1)), .int (x2 + (nI 1)), .int x3, .retAddr 0, .retAddr 0, .retAddr 0, .retAddr 0, .retAddr 0, .retAddr 0] [] ((n, z, kd), I, J, F) Q) ∧ (¬ ((nI 10) ≤ x3) → ((kd a0).1 = 9 ∧ zOf (F a0 39) fun b1 => ((kd a0).1 = 9 ∧ R d mX9_changeOf 0 [.ref a0, .int x3, .retAddr 0, .retAddr 0] [] ((n, z, kd), I, J, F) fun v2 s3 => kI v2 fun r4 => ((s3.1.2.2 b1).1 = 11 ∧ vp_in (((nI 10) * x1) + x3) (s3.1.2.2 b1).2 ∧ ((s3.1.2.2 a0).1 = 9 ∧ zOf (s3.2.2.2 a0 40) fun b5 => ((s3.1.2.2 b5).1 = 11 ∧ vp_in (((nI 10) * x1) + x3) (s3.1.2.2 b5).2 ∧ R (d + 1) mX9_reduces 20 [.ref a0, .int x1, .int x2, .int (x3 + (nI 1)), .retAddr 0, .retAddr 0, .retAddr 0, .retAddr 0, .retAddr 0, .retAddr 0] [] ((s3.1), s3.2.1, (azUp ((azUp s3.2.2.1 b1 ((((nI 10) * x1) + x3).toNatClampNeg) r4.toInt64)) b5 ((((nI 10) * x1) + x3).toNatClampNeg) (lN 1)), s3.2.2.2) Q)))))))) :
    R (d + 1) mX9_reduces 20 [.ref a0, .int x1, .int x2, .int x3, .retAddr 0, .retAddr 0, .retAddr 0, .retAddr 0, .retAddr 0, .retAddr 0] [] ((n, z, kd), I, J, F) Q := hR.go [4, 20, 82, 93, 120, 192, 246] 28 h
theorem BX9_reduces_82 {R : azP} (hR : azClosed R) {d n z : Nat} {kd : azK} {I : azI} {J : azJ} {F : azR} {Q : azQ} {a0 : Nat} {x1 x2 : Int32} {w3 w4 w5 w6 w7 w8 w9 : Value}
    (h : (((nI 10) ≤ x2 → Q none ((n, z, kd), I, J, F)) ∧ (¬ ((nI 10) ≤ x2) → ((kd a0).1 = 9 ∧ R (d + 1) mX9_reduces 93 [.ref a0, .int x1, .int x2, .int (I a0 44), w4, w5, w6, w7, w8, w9] [] ((n, z, kd), I, J, F) Q)))) :
    R (d + 1) mX9_reduces 82 [.ref a0, .int x1, .int x2, w3, w4, w5, w6, w7, w8, w9] [] ((n, z, kd), I, J, F) Q := hR.go [4, 20, 82, 93, 120, 192, 246] 8 h
set_option maxRecDepth 100000 in
theorem BX9_reduces_93 {R : azP} (hR : azClosed R) {d n z : Nat} {kd : azK} {I : azI} {J : azJ} {F : azR} {Q : azQ} {a0 : Nat} {x1 x2 x3 : Int32} {w4 w5 w6 w7 w8 w9 : Value}
    (h : ((x1 ≤ x3 → R (d + 1) mX9_reduces 120 [.ref a0, .int x1, .int x2, .int x3, w4, w5, w6, w7, w8, w9] [] ((n, z, kd), I, J, F) Q) ∧ (¬ (x1 ≤ x3) → ((kd a0).1 = 9 ∧ zOf (F a0 39) fun b1 => ((kd b1).1 = 11 ∧ vp_in (((nI 10) * x3) + x2) (kd b1).2 ∧ ((¬ (lg_cmp (J b1 ((((nI 10) * x3) + x2).toNatClampNeg)) (lN 0)) = 0 → R (d + 1) mX9_reduces 120 [.ref a0, .int x1, .int x2, .int x3, w4, w5, w6, w7, w8, w9] [] ((n, z, kd), I, J, F) Q) ∧ (¬ (¬ (lg_cmp (J b1 ((((nI 10) * x3) + x2).toNatClampNeg)) (lN 0)) = 0) → R (d + 1) mX9_reduces 93 [.ref a0, .int x1, .int x2, .int (x3 + (nI 1)), w4, w5, w6, w7, w8, w9] [] ((n, z, kd), I, J, F) Q))))))) :
    R (d + 1) mX9_reduces 93 [.ref a0, .int x1, .int x2, .int x3, w4, w5, w6, w7, w8, w9] [] ((n, z, kd), I, J, F) Q := hR.go [4, 20, 82, 93, 120, 192, 246] 18 h
set_option maxRecDepth 100000 in
theorem BX9_reduces_120 {R : azP} (hR : azClosed R) {d n z : Nat} {kd : azK} {I : azI} {J : azJ} {F : azR} {Q : azQ} {a0 : Nat} {x1 x2 x3 : Int32} {w4 w5 w6 w7 w8 w9 : Value}
    (h : ((¬ x3 = x1 → ((kd a0).1 = 9 ∧ ((kd a0).1 = 9 ∧ R d mX9_swaps 0 [.ref a0, .int (I a0 44), .int x3, .retAddr 0, .retAddr 0, .retAddr 0, .retAddr 0, .retAddr 0] [] ((n, z, kd), I, J, F) fun v1 s2 => v1 = none ∧ ((s2.1.2.2 a0).1 = 9 ∧ zOf (s2.2.2.2 a0 39) fun b3 => ((s2.1.2.2 a0).1 = 9 ∧ ((s2.1.2.2 b3).1 = 11 ∧ vp_in (((nI 10) * (s2.2.1 a0 44)) + x2) (s2.1.2.2 b3).2 ∧ ((s2.1.2.2 a0).1 = 9 ∧ zOf (s2.2.2.2 a0 40) fun b4 => ((s2.1.2.2 a0).1 = 9 ∧ ((s2.1.2.2 b4).1 = 11 ∧ vp_in (((nI 10) * (s2.2.1 a0 44)) + x2) (s2.1.2.2 b4).2 ∧ R (d + 1) mX9_reduces 192 [.ref a0, .int x1, .int x2, .int x3, .long (s2.2.2.1 b3 ((((nI 10) * (s2.2.1 a0 44)) + x2).toNatClampNeg)), .retAddr 1, .long (s2.2.2.1 b4 ((((nI 10) * (s2.2.1 a0 44)) + x2).toNatClampNeg)), .retAddr 1, .int (nI 0), w9] [] s2 Q))))))))) ∧ (¬ (¬ x3 = x1) → ((kd a0).1 = 9 ∧ zOf (F a0 41) fun b5 => ((kd a0).1 = 9 ∧ ((kd b5).1 = 10 ∧ vp_in (I a0 42) (kd b5).2 ∧ ((kd a0).1 = 9 ∧ ((kd a0).1 = 9 ∧ R (d + 1) mX9_reduces 82 [.ref a0, .int x1, .int (x2 + (nI 1)), .int x3, w4, w5, w6, w7, w8, w9] [] ((n, z, kd), (azUp ((azUp I b5 ((I a0 42).toNatClampNeg) x2)) a0 42 (((azUp I b5 ((I a0 42).toNatClampNeg) x2) a0 42) + (nI 1))), J, F) Q)))))))) :
    R (d + 1) mX9_reduces 120 [.ref a0, .int x1, .int x2, .int x3, w4, w5, w6, w7, w8, w9] [] ((n, z, kd), I, J, F) Q := hR.go [4, 20, 82, 93, 120, 192, 246] 32 h
set_option maxRecDepth 100000 in
theorem BX9_reduces_192 {R : azP} (hR : azClosed R) {d n z : Nat} {kd : azK} {I : azI} {J : azJ} {F : azR} {Q : azQ} {a0 : Nat} {x1 x2 x3 x8 : Int32} {y4 y6 : Int64} {w9 : Value}
    (h : (((nI 10) ≤ x8 → R (d + 1) mX9_reduces 246 [.ref a0, .int x1, .int x2, .int x3, .long y4, .retAddr 1, .long y6, .retAddr 1, .int (nI 0), w9] [] ((n, z, kd), I, J, F) Q) ∧ (¬ ((nI 10) ≤ x8) → ((kd a0).1 = 9 ∧ ((kd a0).1 = 9 ∧ zOf (F a0 39) fun b1 => ((kd b1).1 = 11 ∧ vp_in (((nI 10) * (I a0 44)) + x8) (kd b1).2 ∧ ((kd a0).1 = 9 ∧ zOf (F a0 40) fun b2 => ((kd b2).1 = 11 ∧ vp_in (((nI 10) * (I a0 44)) + x8) (kd b2).2 ∧ ((kd a0).1 = 9 ∧ R d mX9_sets 0 [.ref a0, .int (((nI 10) * (I a0 44)) + x8), .long ((J b1 ((((nI 10) * (I a0 44)) + x8).toNatClampNeg)) * y6), .retAddr 1, .long ((J b2 ((((nI 10) * (I a0 44)) + x8).toNatClampNeg)) * y4), .retAddr 1, .retAddr 0, .retAddr 0, .retAddr 0, .retAddr 0] [] ((n, z, kd), I, J, F) fun v3 s4 => v3 = none ∧ R (d + 1) mX9_reduces 192 [.ref a0, .int x1, .int x2, .int x3, .long y4, .retAddr 1, .long y6, .retAddr 1, .int (x8 + (nI 1)), .int (((nI 10) * (I a0 44)) + x8)] [] s4 Q))))))))) :
    R (d + 1) mX9_reduces 192 [.ref a0, .int x1, .int x2, .int x3, .long y4, .retAddr 1, .long y6, .retAddr 1, .int x8, w9] [] ((n, z, kd), I, J, F) Q := hR.go [4, 20, 82, 93, 120, 192, 246] 29 h
set_option maxRecDepth 100000 in
theorem BX9_reduces_246 {R : azP} (hR : azClosed R) {d n z : Nat} {kd : azK} {I : azI} {J : azJ} {F : azR} {Q : azQ} {a0 : Nat} {x1 x2 x3 x8 : Int32} {y4 y6 : Int64} {w9 : Value}
    (h : ((x1 ≤ x8 → ((kd a0).1 = 9 ∧ zOf (F a0 43) fun b1 => ((kd a0).1 = 9 ∧ ((kd b1).1 = 10 ∧ vp_in (I a0 44) (kd b1).2 ∧ ((kd a0).1 = 9 ∧ ((kd a0).1 = 9 ∧ R (d + 1) mX9_reduces 82 [.ref a0, .int x1, .int (x2 + (nI 1)), .int x3, .long y4, .retAddr 1, .long y6, .retAddr 1, .int x8, w9] [] ((n, z, kd), (azUp ((azUp I b1 ((I a0 44).toNatClampNeg) x2)) a0 44 (((azUp I b1 ((I a0 44).toNatClampNeg) x2) a0 44) + (nI 1))), J, F) Q)))))) ∧ (¬ (x1 ≤ x8) → ((kd a0).1 = 9 ∧ ((x8 = (I a0 44) → R (d + 1) mX9_reduces 246 [.ref a0, .int x1, .int x2, .int x3, .long y4, .retAddr 1, .long y6, .retAddr 1, .int (x8 + (nI 1)), w9] [] ((n, z, kd), I, J, F) Q) ∧ (¬ (x8 = (I a0 44)) → ((kd a0).1 = 9 ∧ ((kd a0).1 = 9 ∧ zOf (F a0 39) fun b2 => ((kd b2).1 = 11 ∧ vp_in (((nI 10) * x8) + x2) (kd b2).2 ∧ ((kd a0).1 = 9 ∧ zOf (F a0 40) fun b3 => ((kd b3).1 = 11 ∧ vp_in (((nI 10) * x8) + x2) (kd b3).2 ∧ ((kd a0).1 = 9 ∧ R d mX9_less 0 [.ref a0, .int x8, .int (I a0 44), .long (J b2 ((((nI 10) * x8) + x2).toNatClampNeg)), .retAddr 1, .long (J b3 ((((nI 10) * x8) + x2).toNatClampNeg)), .retAddr 1, .retAddr 0, .retAddr 0, .retAddr 0, .retAddr 0, .retAddr 0, .retAddr 0, .retAddr 0] [] ((n, z, kd), I, J, F) fun v4 s5 => v4 = none ∧ R (d + 1) mX9_reduces 246 [.ref a0, .int x1, .int x2, .int x3, .long y4, .retAddr 1, .long y6, .retAddr 1, .int (x8 + (nI 1)), w9] [] s5 Q)))))))))))) :
    R (d + 1) mX9_reduces 246 [.ref a0, .int x1, .int x2, .int x3, .long y4, .retAddr 1, .long y6, .retAddr 1, .int x8, w9] [] ((n, z, kd), I, J, F) Q := hR.go [4, 20, 82, 93, 120, 192, 246] 32 h
theorem BX9_invariants_0 {R : azP} (hR : azClosed R) {d n z : Nat} {kd : azK} {I : azI} {J : azJ} {F : azR} {Q : azQ} {a0 : Nat}
    (h : ((kd a0).1 = 9 ∧ R d mX9_reduces 0 [.ref a0, .retAddr 0, .retAddr 0, .retAddr 0, .retAddr 0, .retAddr 0, .retAddr 0, .retAddr 0, .retAddr 0, .retAddr 0] [] ((n, z, kd), I, J, F) fun v1 s2 => v1 = none ∧ ((s2.1.2.2 a0).1 = 9 ∧ Q (some (.int (s2.2.1 a0 42))) s2))) :
    R (d + 1) mX9_invariants 0 [.ref a0] [] ((n, z, kd), I, J, F) Q := hR.go [] 6 h
theorem BX9_weighs_0 {R : azP} (hR : azClosed R) {d n z : Nat} {kd : azK} {I : azI} {J : azJ} {F : azR} {Q : azQ} {a0 : Nat} {x1 x2 : Int32}
    (h : ((kd a0).1 = 9 ∧ zOf (F a0 41) fun b1 => (((kd b1).1 = 10 ∨ (kd b1).1 = 15) ∧ vp_in x1 (kd b1).2 ∧ ((¬ x2 = (I b1 x1.toNatClampNeg) → ((kd a0).1 = 9 ∧ ((kd a0).1 = 9 ∧ R d mX9_weighs 26 [.ref a0, .int x1, .int x2, .int (nI 0)] [] ((n, z, kd), I, (azUp ((azUp J a0 45 (lN 0))) a0 46 (lN 1)), F) Q))) ∧ (¬ (¬ x2 = (I b1 x1.toNatClampNeg)) → ((kd a0).1 = 9 ∧ ((kd a0).1 = 9 ∧ R d mX9_weighs 26 [.ref a0, .int x1, .int x2, .int (nI 0)] [] ((n, z, kd), I, (azUp ((azUp J a0 45 (lN 1))) a0 46 (lN 1)), F) Q))))))) :
    R d mX9_weighs 0 [.ref a0, .int x1, .int x2, .retAddr 0] [] ((n, z, kd), I, J, F) Q := hR.go [26] 17 h
set_option maxRecDepth 100000 in
theorem BX9_weighs_26 {R : azP} (hR : azClosed R) {d n z : Nat} {kd : azK} {I : azI} {J : azJ} {F : azR} {Q : azQ} {a0 : Nat} {x1 x2 x3 : Int32}
    (h : ((kd a0).1 = 9 ∧ (((I a0 44) ≤ x3 → Q none ((n, z, kd), I, J, F)) ∧ (¬ ((I a0 44) ≤ x3) → ((kd a0).1 = 9 ∧ zOf (F a0 43) fun b1 => (((kd b1).1 = 10 ∨ (kd b1).1 = 15) ∧ vp_in x3 (kd b1).2 ∧ ((¬ (I b1 x3.toNatClampNeg) = x2 → R d mX9_weighs 26 [.ref a0, .int x1, .int x2, .int (x3 + (nI 1))] [] ((n, z, kd), I, J, F) Q) ∧ (¬ (¬ (I b1 x3.toNatClampNeg) = x2) → ((kd a0).1 = 9 ∧ zOf (F a0 39) fun b2 => ((kd a0).1 = 9 ∧ zOf (F a0 41) fun b3 => (((kd b3).1 = 10 ∨ (kd b3).1 = 15) ∧ vp_in x1 (kd b3).2 ∧ ((kd b2).1 = 11 ∧ vp_in (((nI 10) * x3) + (I b3 x1.toNatClampNeg)) (kd b2).2 ∧ ((kd a0).1 = 9 ∧ ((kd a0).1 = 9 ∧ zOf (F a0 40) fun b4 => ((kd a0).1 = 9 ∧ zOf (F a0 41) fun b5 => (((kd b5).1 = 10 ∨ (kd b5).1 = 15) ∧ vp_in x1 (kd b5).2 ∧ ((kd b4).1 = 11 ∧ vp_in (((nI 10) * x3) + (I b5 x1.toNatClampNeg)) (kd b4).2 ∧ ((kd a0).1 = 9 ∧ R d mX9_weighs 26 [.ref a0, .int x1, .int x2, .int (x3 + (nI 1))] [] ((n, z, kd), I, (azUp ((azUp J a0 45 (-(J b2 ((((nI 10) * x3) + (I b3 x1.toNatClampNeg)).toNatClampNeg))))) a0 46 ((azUp J a0 45 (-(J b2 ((((nI 10) * x3) + (I b3 x1.toNatClampNeg)).toNatClampNeg)))) b4 ((((nI 10) * x3) + (I b5 x1.toNatClampNeg)).toNatClampNeg))), F) Q)))))))))))))))))) :
    R d mX9_weighs 26 [.ref a0, .int x1, .int x2, .int x3] [] ((n, z, kd), I, J, F) Q := hR.go [26] 41 h
set_option maxRecDepth 100000 in
theorem BX9_weight_0 {R : azP} (hR : azClosed R) {d n z : Nat} {kd : azK} {I : azI} {J : azJ} {F : azR} {Q : azQ} {a0 : Nat} {x1 x2 x3 : Int32}
    (h : ((kd a0).1 = 9 ∧ R d mX9_reduces 0 [.ref a0, .retAddr 0, .retAddr 0, .retAddr 0, .retAddr 0, .retAddr 0, .retAddr 0, .retAddr 0, .retAddr 0, .retAddr 0] [] ((n, z, kd), I, J, F) fun v1 s2 => v1 = none ∧ ((s2.1.2.2 a0).1 = 9 ∧ (R d mX9_isIn 0 [.long x1.toInt64, .retAddr 1, .long (lN 0), .retAddr 1, .long (((s2.2.1 a0 42) - (nI 1)).toInt64), .retAddr 1] [] s2 fun v3 s4 => kI v3 fun r5 => ((r5 = 0 → Q (some (.long ((-9223372036854775808 : Int64)))) s4) ∧ (¬ (r5 = 0) → (R d mX9_isPlace 0 [.int x2] [] s4 fun v6 s7 => kI v6 fun r8 => ((r8 = 0 → Q (some (.long ((-9223372036854775808 : Int64)))) s7) ∧ (¬ (r8 = 0) → (R d mX9_isIn 0 [.long x3.toInt64, .retAddr 1, .long (lN 0), .retAddr 1, .long (lN 1), .retAddr 1] [] s7 fun v9 s10 => kI v9 fun r11 => ((¬ r11 = 0 → ((s10.1.2.2 a0).1 = 9 ∧ R d mX9_weighs 0 [.ref a0, .int x1, .int x2, .retAddr 0] [] s10 fun v12 s13 => v12 = none ∧ ((¬ x3 = 0 → ((s13.1.2.2 a0).1 = 9 ∧ Q (some (.long (s13.2.2.1 a0 46))) s13)) ∧ (¬ (¬ x3 = 0) → ((s13.1.2.2 a0).1 = 9 ∧ Q (some (.long (s13.2.2.1 a0 45))) s13))))) ∧ (¬ (¬ r11 = 0) → Q (some (.long ((-9223372036854775808 : Int64)))) s10)))))))))))) :
    R (d + 1) mX9_weight 0 [.ref a0, .int x1, .int x2, .int x3] [] ((n, z, kd), I, J, F) Q := hR.go [] 32 h
set_option maxRecDepth 100000 in
theorem BX9_sum_0 {R : azP} (hR : azClosed R) {d n z : Nat} {kd : azK} {I : azI} {J : azJ} {F : azR} {Q : azQ} {a0 : Nat} {x1 x2 : Int32}
    (h : ((kd a0).1 = 9 ∧ R d mX9_reduces 0 [.ref a0, .retAddr 0, .retAddr 0, .retAddr 0, .retAddr 0, .retAddr 0, .retAddr 0, .retAddr 0, .retAddr 0, .retAddr 0] [] ((n, z, kd), I, J, F) fun v1 s2 => v1 = none ∧ ((s2.1.2.2 a0).1 = 9 ∧ (R d mX9_isIn 0 [.long x1.toInt64, .retAddr 1, .long (lN 0), .retAddr 1, .long (((s2.2.1 a0 42) - (nI 1)).toInt64), .retAddr 1] [] s2 fun v3 s4 => kI v3 fun r5 => ((r5 = 0 → Q (some (.int (-(nI 1)))) s4) ∧ (¬ (r5 = 0) → (R d mX9_isIn 0 [.long x2.toInt64, .retAddr 1, .long (lN 0), .retAddr 1, .long (lN 1), .retAddr 1] [] s4 fun v6 s7 => kI v6 fun r8 => ((¬ r8 = 0 → R (d + 1) mX9_sum 40 [.ref a0, .int x1, .int x2, .long (lN 0), .retAddr 1, .long (lN 1), .retAddr 1, .int (nI 0), .retAddr 0, .retAddr 0] [] s7 Q) ∧ (¬ (¬ r8 = 0) → Q (some (.int (-(nI 1)))) s7))))))))) :
    R (d + 1) mX9_sum 0 [.ref a0, .int x1, .int x2, .retAddr 0, .retAddr 0, .retAddr 0, .retAddr 0, .retAddr 0, .retAddr 0, .retAddr 0] [] ((n, z, kd), I, J, F) Q := hR.go [40] 26 h
set_option maxRecDepth 100000 in
theorem BX9_sum_40 {R : azP} (hR : azClosed R) {d n z : Nat} {kd : azK} {I : azI} {J : azJ} {F : azR} {Q : azQ} {a0 : Nat} {x1 x2 x7 : Int32} {y3 y5 : Int64} {w8 w9 : Value}
    (h : (((nI 10) ≤ x7 → ((¬ x2 = 0 → Q (some (.int y5.toInt32)) ((n, z, kd), I, J, F)) ∧ (¬ (¬ x2 = 0) → Q (some (.int y3.toInt32)) ((n, z, kd), I, J, F)))) ∧ (¬ ((nI 10) ≤ x7) → ((kd a0).1 = 9 ∧ R d mX9_weighs 0 [.ref a0, .int x1, .int x7, .retAddr 0] [] ((n, z, kd), I, J, F) fun v1 s2 => v1 = none ∧ ((s2.1.2.2 a0).1 = 9 ∧ ((s2.1.2.2 a0).1 = 9 ∧ ((s2.1.2.2 a0).1 = 9 ∧ zOf (s2.2.2.2 a0 0) fun b3 => (((s2.1.2.2 b3).1 = 10 ∨ (s2.1.2.2 b3).1 = 15) ∧ vp_in x7 (s2.1.2.2 b3).2 ∧ ((s2.1.2.2 a0).1 = 9 ∧ (R d mX9_gcd 0 [.long ((y3 * (s2.2.2.1 a0 46)) + (((s2.2.2.1 a0 45) * ((s2.2.1 b3 x7.toNatClampNeg).toInt64)) * y5)), .retAddr 1, .long (y5 * (s2.2.2.1 a0 46)), .retAddr 1, .retAddr 0, .retAddr 0, .retAddr 0, .retAddr 0, .retAddr 0, .retAddr 0] [] s2 fun v4 s5 => kL v4 fun r6 => ¬ r6 = 0 ∧ ¬ r6 = 0 ∧ R (d + 1) mX9_sum 40 [.ref a0, .int x1, .int x2, .long (((y3 * (s2.2.2.1 a0 46)) + (((s2.2.2.1 a0 45) * ((s2.2.1 b3 x7.toNatClampNeg).toInt64)) * y5)) / r6), .retAddr 1, .long ((y5 * (s2.2.2.1 a0 46)) / r6), .retAddr 1, .int (x7 + (nI 1)), .long r6, .retAddr 1] [] s5 Q)))))))))) :
    R (d + 1) mX9_sum 40 [.ref a0, .int x1, .int x2, .long y3, .retAddr 1, .long y5, .retAddr 1, .int x7, w8, w9] [] ((n, z, kd), I, J, F) Q := hR.go [40] 44 h
theorem BX9_tokens_0 {R : azP} (hR : azClosed R) {d n z : Nat} {kd : azK} {I : azI} {J : azJ} {F : azR} {Q : azQ} {a0 : Nat}
    (h : R d mX9_tokens 4 [.ref a0, .int (nI 0), .int (nI 0)] [] ((n, z, kd), I, J, F) Q) :
    R d mX9_tokens 0 [.ref a0, .retAddr 0, .retAddr 0] [] ((n, z, kd), I, J, F) Q := hR.go [4] 6 h
theorem BX9_tokens_4 {R : azP} (hR : azClosed R) {d n z : Nat} {kd : azK} {I : azI} {J : azJ} {F : azR} {Q : azQ} {a0 : Nat} {x1 x2 : Int32}
    (h : (((nI 10) ≤ x2 → Q (some (.int x1)) ((n, z, kd), I, J, F)) ∧ (¬ ((nI 10) ≤ x2) → ((kd a0).1 = 9 ∧ zOf (F a0 0) fun b1 => (((kd b1).1 = 10 ∨ (kd b1).1 = 15) ∧ vp_in x2 (kd b1).2 ∧ R d mX9_tokens 4 [.ref a0, .int (x1 + (I b1 x2.toNatClampNeg)), .int (x2 + (nI 1))] [] ((n, z, kd), I, J, F) Q))))) :
    R d mX9_tokens 4 [.ref a0, .int x1, .int x2] [] ((n, z, kd), I, J, F) Q := hR.go [4] 14 h
set_option maxRecDepth 100000 in
theorem BX9_told_0 {R : azP} (hR : azClosed R) {d n z : Nat} {kd : azK} {I : azI} {J : azJ} {F : azR} {Q : azQ} {a0 : Nat} {x1 : Int32}
    (h : ((x1.toInt < 0 ∨ 4 < x1.toInt → Q (some (.int (-(nI 1)))) ((n, z, kd), I, J, F)) ∧ (x1.toInt = 0 → ((kd a0).1 = 9 ∧ R d mX9_tokens 0 [.ref a0, .retAddr 0, .retAddr 0] [] ((n, z, kd), I, J, F) fun v1 s2 => kI v1 fun r3 => Q (some (.int r3)) s2)) ∧ (x1.toInt = 0 + 1 → R (d + 1) mX9_told 45 [.ref a0, .int x1, .int (nI 0), .int (nI 0)] [] ((n, z, kd), I, J, F) Q) ∧ (x1.toInt = 0 + 1 + 1 → ((kd a0).1 = 9 ∧ Q (some (.int (I a0 4))) ((n, z, kd), I, J, F))) ∧ (x1.toInt = 0 + 1 + 1 + 1 → ((kd a0).1 = 9 ∧ Q (some (.int (I a0 8))) ((n, z, kd), I, J, F))) ∧ (x1.toInt = 0 + 1 + 1 + 1 + 1 → ((kd a0).1 = 9 ∧ Q (some (.int (I a0 27))) ((n, z, kd), I, J, F))) ∧ True)) :
    R (d + 1) mX9_told 0 [.ref a0, .int x1, .retAddr 0, .retAddr 0] [] ((n, z, kd), I, J, F) Q := hR.go [45] 8 h
theorem BX9_told_45 {R : azP} (hR : azClosed R) {d n z : Nat} {kd : azK} {I : azI} {J : azJ} {F : azR} {Q : azQ} {a0 : Nat} {x1 x2 x3 : Int32}
    (h : (((nI 10) ≤ x3 → Q (some (.int x2)) ((n, z, kd), I, J, F)) ∧ (¬ ((nI 10) ≤ x3) → ((kd a0).1 = 9 ∧ zOf (F a0 2) fun b1 => (((kd b1).1 = 10 ∨ (kd b1).1 = 15) ∧ vp_in ((nI 81) * x3) (kd b1).2 ∧ (((I b1 (((nI 81) * x3).toNatClampNeg)) ≤ 0 → R (d + 1) mX9_told 45 [.ref a0, .int x1, .int (x2 + (nI 0)), .int (x3 + (nI 1))] [] ((n, z, kd), I, J, F) Q) ∧ (¬ ((I b1 (((nI 81) * x3).toNatClampNeg)) ≤ 0) → R (d + 1) mX9_told 45 [.ref a0, .int x1, .int (x2 + (nI 1)), .int (x3 + (nI 1))] [] ((n, z, kd), I, J, F) Q))))))) :
    R (d + 1) mX9_told 45 [.ref a0, .int x1, .int x2, .int x3] [] ((n, z, kd), I, J, F) Q := hR.go [45] 19 h
set_option maxRecDepth 100000 in
theorem BX9_image_0 {R : azP} (hR : azClosed R) {d n z : Nat} {kd : azK} {I : azI} {J : azJ} {F : azR} {Q : azQ} {a0 : Nat}
    (h : ((kd a0).1 = 9 ∧ zOf (F a0 0) fun b1 => ((kd a0).1 = 9 ∧ zOf (F a0 1) fun b2 => (R d mX9_pours 0 [.ref b1, .int (nI 0), .ref b2, .int (nI 0), .int (nI 70), .retAddr 0] [] ((n, z, kd), I, J, F) fun v3 s4 => v3 = none ∧ ((s4.1.2.2 a0).1 = 9 ∧ zOf (s4.2.2.2 a0 2) fun b5 => ((s4.1.2.2 a0).1 = 9 ∧ zOf (s4.2.2.2 a0 3) fun b6 => (R d mX9_pours 0 [.ref b5, .int (nI 0), .ref b6, .int (nI 0), .int (nI 810), .retAddr 0] [] s4 fun v7 s8 => v7 = none ∧ ((s8.1.2.2 a0).1 = 9 ∧ ((s8.1.2.2 a0).1 = 9 ∧ ((s8.1.2.2 a0).1 = 9 ∧ ((nI 1) = 0 ∨ (nI 1) = 1) ∧ ((s8.1.2.2 a0).1 = 9 ∧ R d mX9_tokens 0 [.ref a0, .retAddr 0, .retAddr 0] [] ((s8.1), (azUp ((azUp s8.2.1 a0 5 (s8.2.1 a0 4))) a0 6 (nI 1)), s8.2.2.1, s8.2.2.2) fun v9 s10 => kI v9 fun r11 => Q (some (.int r11)) s10))))))))))) :
    R (d + 1) mX9_image 0 [.ref a0] [] ((n, z, kd), I, J, F) Q := hR.go [] 27 h
set_option maxRecDepth 100000 in
theorem BX9_undo_0 {R : azP} (hR : azClosed R) {d n z : Nat} {kd : azK} {I : azI} {J : azJ} {F : azR} {Q : azQ} {a0 : Nat}
    (h : ((kd a0).1 = 9 ∧ ((¬ (I a0 6) = 0 → ((kd a0).1 = 9 ∧ zOf (F a0 1) fun b1 => ((kd a0).1 = 9 ∧ zOf (F a0 0) fun b2 => (R d mX9_pours 0 [.ref b1, .int (nI 0), .ref b2, .int (nI 0), .int (nI 70), .retAddr 0] [] ((n, z, kd), I, J, F) fun v3 s4 => v3 = none ∧ ((s4.1.2.2 a0).1 = 9 ∧ zOf (s4.2.2.2 a0 3) fun b5 => ((s4.1.2.2 a0).1 = 9 ∧ zOf (s4.2.2.2 a0 2) fun b6 => (R d mX9_pours 0 [.ref b5, .int (nI 0), .ref b6, .int (nI 0), .int (nI 810), .retAddr 0] [] s4 fun v7 s8 => v7 = none ∧ ((s8.1.2.2 a0).1 = 9 ∧ ((s8.1.2.2 a0).1 = 9 ∧ ((s8.1.2.2 a0).1 = 9 ∧ R d mX9_tokens 0 [.ref a0, .retAddr 0, .retAddr 0] [] ((s8.1), (azUp s8.2.1 a0 4 (s8.2.1 a0 5)), s8.2.2.1, s8.2.2.2) fun v9 s10 => kI v9 fun r11 => Q (some (.int r11)) s10)))))))))) ∧ (¬ (¬ (I a0 6) = 0) → Q (some (.int (-(nI 3)))) ((n, z, kd), I, J, F))))) :
    R (d + 1) mX9_undo 0 [.ref a0] [] ((n, z, kd), I, J, F) Q := hR.go [] 27 h
end
section
/-! SPECS: Marking. -/
def MkOk (kd : azK) (F : azR) (a : Nat) : Prop := kd a = (3, 2) ∧ kd (a + 1) = (10, 10) ∧ kd (a + 2) = (10, 60) ∧ F a 0 = some (a + 1) ∧ F a 1 = some (a + 2)
/-- a marking in the class: how many tokens, and which -/
def cM (I : azI) (a : Nat) (m : Nat → List Nat) : Prop := ∀ p, p < 10 → I (a + 1) p = nI (m p).length ∧ ∀ j, j < (m p).length → I (a + 2) (p * 6 + j) = nI ((m p).getD j 0)
def mOK (m : Nat → List Nat) : Prop := (∀ p, (m p).length ≤ 6 ∧ ∀ t ∈ m p, t < 100) ∧ ∀ p, 10 ≤ p → m p = []
section S3
variable {R : azP} {d n z : Nat} {kd : azK} {I : azI} {J : azJ} {F : azR} {Q : azQ} {a : Nat} {m : Nat → List Nat}
/-- what a place is: 1 or 0 -/
def isP (x : Int32) (k : Nat) : Int32 := match ix x k with
  | none => nI 0
  | some _ => nI 1
theorem S_isPlace (hR : azClosed R) {x : Int32} {σ : azS} (h : Q (some (.int (isP x 10))) σ) : R d mX8_isPlace 0 [.int x] [] σ Q := by
  obtain ⟨⟨n, z, kd⟩, I, J, F⟩ := σ
  refine BX8_isPlace_0 hR ?_
  unfold isP at h
  rcases ix_cases x (n := 10) (by decide) with ⟨e, c | ⟨c0, c⟩⟩ | ⟨k, hk, rfl, e⟩
  · rw [e] at h; simp (disch := omega) only [nI_ad, nI_ml, nI_lti, nI_lei, nI_eqi, nI_nn, nI_0le, nI_eq0, nI_0lt, nI_le0, nI_clamp, nI_pd, nI_sb, zOf_some, zOp_some, zOp_none, kI_int, kL_long, kO_ref, kO_null, nlt_T, nlt_F, nle_T, nle_F, neq_F, vpT, azUp_at, if_true, if_false, true_and, and_true, true_implies, false_implies, implies_true, not_true_eq_false, not_false_eq_true, true_or, or_true, false_or, or_false, and_false, false_and, eq_self, n01_0, n01_1, nm1_0, c]; exact h
  · rw [e] at h; simp (disch := omega) only [nI_ad, nI_ml, nI_lti, nI_lei, nI_eqi, nI_nn, nI_0le, nI_eq0, nI_0lt, nI_le0, nI_clamp, nI_pd, nI_sb, zOf_some, zOp_some, zOp_none, kI_int, kL_long, kO_ref, kO_null, nlt_T, nlt_F, nle_T, nle_F, neq_F, vpT, azUp_at, if_true, if_false, true_and, and_true, true_implies, false_implies, implies_true, not_true_eq_false, not_false_eq_true, true_or, or_true, false_or, or_false, and_false, false_and, eq_self, n01_0, n01_1, nm1_0, c0, c]; exact h
  · rw [e] at h; simp (disch := omega) only [nI_ad, nI_ml, nI_lti, nI_lei, nI_eqi, nI_nn, nI_0le, nI_eq0, nI_0lt, nI_le0, nI_clamp, nI_pd, nI_sb, zOf_some, zOp_some, zOp_none, kI_int, kL_long, kO_ref, kO_null, nlt_T, nlt_F, nle_T, nle_F, neq_F, vpT, azUp_at, if_true, if_false, true_and, and_true, true_implies, false_implies, implies_true, not_true_eq_false, not_false_eq_true, true_or, or_true, false_or, or_false, and_false, false_and, eq_self, n01_0, n01_1, nm1_0]; exact h
theorem S_count (hR : azClosed R) (hM : MkOk kd F a) (hm : cM I a m) {p : Nat} (hp : p < 10) (h : Q (some (.int (nI (m p).length))) ((n, z, kd), I, J, F)) : R d mX3_count 0 [.ref a, .int (nI p)] [] ((n, z, kd), I, J, F) Q := by
  obtain ⟨k0, k1, k2, f0, f1⟩ := hM
  refine BX3_count_0 hR ?_
  simp (disch := omega) only [nI_ad, nI_ml, nI_lti, nI_lei, nI_eqi, nI_nn, nI_0le, nI_eq0, nI_0lt, nI_le0, nI_clamp, nI_pd, nI_sb, zOf_some, zOp_some, zOp_none, kI_int, kL_long, kO_ref, kO_null, nlt_T, nlt_F, nle_T, nle_F, neq_F, vpT, azUp_at, if_true, if_false, true_and, and_true, true_implies, false_implies, implies_true, not_true_eq_false, not_false_eq_true, true_or, or_true, false_or, or_false, and_false, false_and, eq_self, n01_0, n01_1, nm1_0, k0, k1, f0, (hm p hp).1]
  exact h
/-- holds(place, i), of any two ints -/
def hold (m : Nat → List Nat) (x y : Int32) : Int32 := match ix x 10 with
  | none => nI 0
  | some p => match ix y (m p).length with
    | none => nI 0
    | some _ => nI 1
theorem S_holds (hR : azClosed R) (hM : MkOk kd F a) (hm : cM I a m) (hv : mOK m) {x y : Int32} (h : Q (some (.int (hold m x y))) ((n, z, kd), I, J, F)) : R d mX3_holds 0 [.ref a, .int x, .int y] [] ((n, z, kd), I, J, F) Q := by
  obtain ⟨k0, k1, k2, f0, f1⟩ := hM
  refine BX3_holds_0 hR ?_
  unfold hold at h
  rcases ix_cases x (n := 10) (by decide) with ⟨e, c | ⟨c0, c⟩⟩ | ⟨p, hp, rfl, e⟩
  · rw [e] at h; simp (disch := omega) only [nI_ad, nI_ml, nI_lti, nI_lei, nI_eqi, nI_nn, nI_0le, nI_eq0, nI_0lt, nI_le0, nI_clamp, nI_pd, nI_sb, zOf_some, zOp_some, zOp_none, kI_int, kL_long, kO_ref, kO_null, nlt_T, nlt_F, nle_T, nle_F, neq_F, vpT, azUp_at, if_true, if_false, true_and, and_true, true_implies, false_implies, implies_true, not_true_eq_false, not_false_eq_true, true_or, or_true, false_or, or_false, and_false, false_and, eq_self, n01_0, n01_1, nm1_0, c]; exact h
  · rw [e] at h; simp (disch := omega) only [nI_ad, nI_ml, nI_lti, nI_lei, nI_eqi, nI_nn, nI_0le, nI_eq0, nI_0lt, nI_le0, nI_clamp, nI_pd, nI_sb, zOf_some, zOp_some, zOp_none, kI_int, kL_long, kO_ref, kO_null, nlt_T, nlt_F, nle_T, nle_F, neq_F, vpT, azUp_at, if_true, if_false, true_and, and_true, true_implies, false_implies, implies_true, not_true_eq_false, not_false_eq_true, true_or, or_true, false_or, or_false, and_false, false_and, eq_self, n01_0, n01_1, nm1_0, c0, c]; exact h
  · have hl := (hv.1 p).1
    rw [e] at h
    dsimp only at h
    simp (disch := omega) only [nI_ad, nI_ml, nI_lti, nI_lei, nI_eqi, nI_nn, nI_0le, nI_eq0, nI_0lt, nI_le0, nI_clamp, nI_pd, nI_sb, zOf_some, zOp_some, zOp_none, kI_int, kL_long, kO_ref, kO_null, nlt_T, nlt_F, nle_T, nle_F, neq_F, vpT, azUp_at, if_true, if_false, true_and, and_true, true_implies, false_implies, implies_true, not_true_eq_false, not_false_eq_true, true_or, or_true, false_or, or_false, and_false, false_and, eq_self, n01_0, n01_1, nm1_0, k0, k1, f0, (hm p hp).1]
    rcases ix_cases y (n := (m p).length) (by omega) with ⟨e, c | ⟨c0, c⟩⟩ | ⟨j, hj, rfl, e⟩
    · rw [e] at h; simp (disch := omega) only [nI_ad, nI_ml, nI_lti, nI_lei, nI_eqi, nI_nn, nI_0le, nI_eq0, nI_0lt, nI_le0, nI_clamp, nI_pd, nI_sb, zOf_some, zOp_some, zOp_none, kI_int, kL_long, kO_ref, kO_null, nlt_T, nlt_F, nle_T, nle_F, neq_F, vpT, azUp_at, if_true, if_false, true_and, and_true, true_implies, false_implies, implies_true, not_true_eq_false, not_false_eq_true, true_or, or_true, false_or, or_false, and_false, false_and, eq_self, n01_0, n01_1, nm1_0, c]; exact h
    · rw [e] at h; simp (disch := omega) only [nI_ad, nI_ml, nI_lti, nI_lei, nI_eqi, nI_nn, nI_0le, nI_eq0, nI_0lt, nI_le0, nI_clamp, nI_pd, nI_sb, zOf_some, zOp_some, zOp_none, kI_int, kL_long, kO_ref, kO_null, nlt_T, nlt_F, nle_T, nle_F, neq_F, vpT, azUp_at, if_true, if_false, true_and, and_true, true_implies, false_implies, implies_true, not_true_eq_false, not_false_eq_true, true_or, or_true, false_or, or_false, and_false, false_and, eq_self, n01_0, n01_1, nm1_0, c0, c]; exact ⟨fun _ => h, fun _ => h⟩
    · rw [e] at h; simp (disch := omega) only [nI_ad, nI_ml, nI_lti, nI_lei, nI_eqi, nI_nn, nI_0le, nI_eq0, nI_0lt, nI_le0, nI_clamp, nI_pd, nI_sb, zOf_some, zOp_some, zOp_none, kI_int, kL_long, kO_ref, kO_null, nlt_T, nlt_F, nle_T, nle_F, neq_F, vpT, azUp_at, if_true, if_false, true_and, and_true, true_implies, false_implies, implies_true, not_true_eq_false, not_false_eq_true, true_or, or_true, false_or, or_false, and_false, false_and, eq_self, n01_0, n01_1, nm1_0]; exact h
/-- at(place, i): the token, -1 -/
def atS (m : Nat → List Nat) (x y : Int32) : Int32 := match ix x 10 with
  | none => -(nI 1)
  | some p => match ix y (m p).length with
    | none => -(nI 1)
    | some j => nI ((m p).getD j 0)
theorem S_at (hR : azClosed R) (hM : MkOk kd F a) (hm : cM I a m) (hv : mOK m) {x y : Int32} (h : Q (some (.int (atS m x y))) ((n, z, kd), I, J, F)) : R (d + 1) mX3_at 0 [.ref a, .int x, .int y] [] ((n, z, kd), I, J, F) Q := by
  have hM' := hM
  obtain ⟨k0, k1, k2, f0, f1⟩ := hM
  refine BX3_at_0 hR ⟨by rw [k0], S_holds hR hM' hm hv ?_⟩
  unfold atS at h
  unfold hold
  rcases ix_cases x (n := 10) (by decide) with ⟨e, c⟩ | ⟨p, hp, rfl, e⟩
  · rw [e] at h ⊢; simp (disch := omega) only [nI_ad, nI_ml, nI_lti, nI_lei, nI_eqi, nI_nn, nI_0le, nI_eq0, nI_0lt, nI_le0, nI_clamp, nI_pd, nI_sb, zOf_some, zOp_some, zOp_none, kI_int, kL_long, kO_ref, kO_null, nlt_T, nlt_F, nle_T, nle_F, neq_F, vpT, azUp_at, if_true, if_false, true_and, and_true, true_implies, false_implies, implies_true, not_true_eq_false, not_false_eq_true, true_or, or_true, false_or, or_false, and_false, false_and, eq_self, n01_0, n01_1, nm1_0]; exact h
  · have hl := (hv.1 p).1
    rw [e] at h ⊢
    dsimp only at h ⊢
    rcases ix_cases y (n := (m p).length) (by omega) with ⟨e, c⟩ | ⟨j, hj, rfl, e⟩
    · rw [e] at h ⊢; simp (disch := omega) only [nI_ad, nI_ml, nI_lti, nI_lei, nI_eqi, nI_nn, nI_0le, nI_eq0, nI_0lt, nI_le0, nI_clamp, nI_pd, nI_sb, zOf_some, zOp_some, zOp_none, kI_int, kL_long, kO_ref, kO_null, nlt_T, nlt_F, nle_T, nle_F, neq_F, vpT, azUp_at, if_true, if_false, true_and, and_true, true_implies, false_implies, implies_true, not_true_eq_false, not_false_eq_true, true_or, or_true, false_or, or_false, and_false, false_and, eq_self, n01_0, n01_1, nm1_0]; exact h
    · rw [e] at h ⊢; simp (disch := omega) only [nI_ad, nI_ml, nI_lti, nI_lei, nI_eqi, nI_nn, nI_0le, nI_eq0, nI_0lt, nI_le0, nI_clamp, nI_pd, nI_sb, zOf_some, zOp_some, zOp_none, kI_int, kL_long, kO_ref, kO_null, nlt_T, nlt_F, nle_T, nle_F, neq_F, vpT, azUp_at, if_true, if_false, true_and, and_true, true_implies, false_implies, implies_true, not_true_eq_false, not_false_eq_true, true_or, or_true, false_or, or_false, and_false, false_and, eq_self, n01_0, n01_1, nm1_0, k0, f1, k2, (hm p hp).2 j hj]; exact h
end S3
end
section
/-! SPECS: Marking, what changes it. -/
/-- one place of a marking is another list -/
def mUp (m : Nat → List Nat) (p : Nat) (l : List Nat) : Nat → List Nat := fun q => if q = p then l else m q
def mTot (m : Nat → List Nat) : Nat := ((List.range 10).map fun p => (m p).length).sum
/-- how many tokens stand in the places ahead of p -/
def mTo (m : Nat → List Nat) : Nat → Nat
  | 0 => 0
  | p + 1 => mTo m p + (m p).length
def mNil : Nat → List Nat := fun _ => []
def mEq (m m' : Nat → List Nat) : Bool := (List.range 10).all fun p => m p == m' p
theorem azUp_nb {I : azI} {a b k : Nat} {v : Int32} (h : b ≠ a) : azUp I a k v b = I b := by funext j; simp [azUp, h]
theorem azUp_nk {I : azI} {a k j : Nat} {v : Int32} (h : j ≠ k) : azUp I a k v a j = I a j := by simp [azUp, h]
theorem azUp_s {I : azI} {a k : Nat} {v : Int32} : azUp I a k v a k = v := by simp [azUp]
theorem mOK.up {m : Nat → List Nat} (h : mOK m) {p : Nat} {l : List Nat} (hp : p < 10) (hl : l.length ≤ 6) (ht : ∀ t ∈ l, t < 100) : mOK (mUp m p l) := by
  refine ⟨fun q => ?_, fun q hq => ?_⟩
  · unfold mUp
    by_cases e : q = p
    · rw [if_pos e]; exact ⟨hl, ht⟩
    · rw [if_neg e]; exact h.1 q
  · unfold mUp
    rw [if_neg (by omega)]
    exact h.2 q hq
theorem mOK.nil : mOK mNil := ⟨fun _ => ⟨Nat.zero_le _, fun t h => absurd h List.not_mem_nil⟩, fun _ _ => rfl⟩
theorem cM.keep {I I' : azI} {a : Nat} {m : Nat → List Nat} (h : cM I a m) (h1 : I' (a + 1) = I (a + 1)) (h2 : I' (a + 2) = I (a + 2)) : cM I' a m := fun p hp => by rw [h1, h2]; exact h p hp
section S3
variable {R : azP} {d n z : Nat} {kd : azK} {I : azI} {J : azJ} {F : azR} {Q : azQ} {a b : Nat} {m : Nat → List Nat}
theorem S_append (hR : azClosed R) (hM : MkOk kd F a) (hm : cM I a m) (hv : mOK m) {p t : Nat} (hp : p < 10) (h0 : 6 ≤ (m p).length → Q (some (.int (nI 0))) ((n, z, kd), I, J, F)) (h1 : (m p).length < 6 → ∀ I', cM I' a (mUp m p (m p ++ [t])) → (∀ b, b ≠ a + 1 → b ≠ a + 2 → I' b = I b) → Q (some (.int (nI 1))) ((n, z, kd), I', J, F)) : R (d + 1) mX3_append 0 [.ref a, .int (nI p), .int (nI t)] [] ((n, z, kd), I, J, F) Q := by
  obtain ⟨k0, k1, k2, f0, f1⟩ := hM
  refine BX3_append_0 hR (S_isPlace hR ?_)
  have hl := (hv.1 p).1
  unfold isP
  rw [ix_nI (by decide) hp]
  dsimp only
  simp (disch := omega) only [nI_ad, nI_ml, nI_lti, nI_lei, nI_eqi, nI_nn, nI_0le, nI_eq0, nI_0lt, nI_le0, nI_clamp, nI_pd, nI_sb, zOf_some, zOp_some, zOp_none, kI_int, kL_long, kO_ref, kO_null, nlt_T, nlt_F, nle_T, nle_F, neq_F, vpT, azUp_at, if_true, if_false, true_and, and_true, true_implies, false_implies, implies_true, not_true_eq_false, not_false_eq_true, true_or, or_true, false_or, or_false, and_false, false_and, eq_self, n01_0, n01_1, nm1_0, k0, k1, k2, f0, f1, (hm p hp).1]
  by_cases hc : (m p).length < 6
  · simp (disch := omega) only [nI_ad, nI_ml, nI_lti, nI_lei, nI_eqi, nI_nn, nI_0le, nI_eq0, nI_0lt, nI_le0, nI_clamp, nI_pd, nI_sb, zOf_some, zOp_some, zOp_none, kI_int, kL_long, kO_ref, kO_null, nlt_T, nlt_F, nle_T, nle_F, neq_F, vpT, azUp_at, if_true, if_false, true_and, and_true, true_implies, false_implies, implies_true, not_true_eq_false, not_false_eq_true, true_or, or_true, false_or, or_false, and_false, false_and, eq_self, n01_0, n01_1, nm1_0, hc]
    refine h1 hc _ (fun q hq => ⟨?_, fun j hj => ?_⟩) (fun b hb1 hb2 => ?_)
    · by_cases eq : q = p
      · subst eq
        simp [mUp, azUp, nI_ad, (hm q hq).1]
      · rw [azUp_nk eq, azUp_nb (by omega), (hm q hq).1]
        simp [mUp, eq]
    · rw [azUp_nb (by omega)]
      by_cases eq : q = p
      · subst eq
        simp only [mUp, if_true, List.length_append, List.length_cons, List.length_nil] at hj ⊢
        by_cases ej : j = (m q).length
        · subst ej
          rw [azUp_s]
          simp
        · rw [azUp_nk (by omega), (hm q hq).2 j (by omega)]
          simp only [List.getD_eq_getElem?_getD]
          rw [List.getElem?_append_left (by omega)]
      · simp only [mUp, if_neg eq] at hj ⊢
        have := (hv.1 q).1
        rw [azUp_nk (by omega)]
        exact (hm q hq).2 j hj
    · rw [azUp_nb hb1, azUp_nb hb2]
  · simp (disch := omega) only [nI_ad, nI_ml, nI_lti, nI_lei, nI_eqi, nI_nn, nI_0le, nI_eq0, nI_0lt, nI_le0, nI_clamp, nI_pd, nI_sb, zOf_some, zOp_some, zOp_none, kI_int, kL_long, kO_ref, kO_null, nlt_T, nlt_F, nle_T, nle_F, neq_F, vpT, azUp_at, if_true, if_false, true_and, and_true, true_implies, false_implies, implies_true, not_true_eq_false, not_false_eq_true, true_or, or_true, false_or, or_false, and_false, false_and, eq_self, n01_0, n01_1, nm1_0]
    exact h0 (by omega)
theorem L_wipe (hR : azClosed R) (hM : MkOk kd F a) {I0 : azI} (hQ : ∀ I', (∀ p, p < 10 → I' (a + 1) p = nI 0) → (∀ b, b ≠ a + 1 → I' b = I0 b) → Q none ((n, z, kd), I', J, F)) : ∀ (r k : Nat) (I : azI), r + k = 10 → (∀ p, p < k → I (a + 1) p = nI 0) → (∀ b, b ≠ a + 1 → I b = I0 b) → R d mX3_wipe 2 [.ref a, .int (nI k)] [] ((n, z, kd), I, J, F) Q := by
  obtain ⟨k0, k1, k2, f0, f1⟩ := hM
  intro r
  induction r with
  | zero =>
    intro k I hk h1 h2
    obtain rfl : k = 10 := by omega
    refine BX3_wipe_2 hR ?_
    simp (disch := omega) only [nI_ad, nI_ml, nI_lti, nI_lei, nI_eqi, nI_nn, nI_0le, nI_eq0, nI_0lt, nI_le0, nI_clamp, nI_pd, nI_sb, zOf_some, zOp_some, zOp_none, kI_int, kL_long, kO_ref, kO_null, nlt_T, nlt_F, nle_T, nle_F, neq_F, vpT, azUp_at, if_true, if_false, true_and, and_true, true_implies, false_implies, implies_true, not_true_eq_false, not_false_eq_true, true_or, or_true, false_or, or_false, and_false, false_and, eq_self, n01_0, n01_1, nm1_0]
    exact hQ I h1 h2
  | succ r ih =>
    intro k I hk h1 h2
    refine BX3_wipe_2 hR ?_
    simp (disch := omega) only [nI_ad, nI_ml, nI_lti, nI_lei, nI_eqi, nI_nn, nI_0le, nI_eq0, nI_0lt, nI_le0, nI_clamp, nI_pd, nI_sb, zOf_some, zOp_some, zOp_none, kI_int, kL_long, kO_ref, kO_null, nlt_T, nlt_F, nle_T, nle_F, neq_F, vpT, azUp_at, if_true, if_false, true_and, and_true, true_implies, false_implies, implies_true, not_true_eq_false, not_false_eq_true, true_or, or_true, false_or, or_false, and_false, false_and, eq_self, n01_0, n01_1, nm1_0, k0, f0, k1]
    refine ih (k + 1) _ (by omega) (fun p hp => ?_) (fun b hb => ?_)
    · by_cases e : p = k
      · subst e; exact azUp_s
      · rw [azUp_nk e]; exact h1 p (by omega)
    · rw [azUp_nb hb]; exact h2 b hb
theorem S_wipe (hR : azClosed R) (hM : MkOk kd F a) (h : ∀ I', cM I' a mNil → (∀ b, b ≠ a + 1 → I' b = I b) → Q none ((n, z, kd), I', J, F)) : R d mX3_wipe 0 [.ref a, .retAddr 0] [] ((n, z, kd), I, J, F) Q := by
  refine BX3_wipe_0 hR (L_wipe hR hM (I0 := I) (fun I' h1 h2 => h I' (fun p hp => ⟨h1 p hp, fun j hj => absurd hj (Nat.not_lt_zero j)⟩) h2) 10 0 I rfl (fun p hp => absurd hp (Nat.not_lt_zero p)) (fun _ _ => rfl))
theorem L_copy1 (hR : azClosed R) (hM : MkOk kd F a) (hN : MkOk kd F b) (hab : a + 1 ≠ b + 1) {I0 : azI} (hQ : ∀ I', (∀ p, p < 10 → I' (a + 1) p = I0 (b + 1) p) → (∀ c, c ≠ a + 1 → I' c = I0 c) → R d mX3_copy 28 [.ref a, .ref b, .int (nI 0)] [] ((n, z, kd), I', J, F) Q) : ∀ (r k : Nat) (I : azI), r + k = 10 → (∀ p, p < k → I (a + 1) p = I0 (b + 1) p) → (∀ c, c ≠ a + 1 → I c = I0 c) → R d mX3_copy 2 [.ref a, .ref b, .int (nI k)] [] ((n, z, kd), I, J, F) Q := by
  obtain ⟨k0, k1, k2, f0, f1⟩ := hM
  obtain ⟨l0, l1, l2, g0, g1⟩ := hN
  intro r
  induction r with
  | zero =>
    intro k I hk h1 h2
    obtain rfl : k = 10 := by omega
    refine BX3_copy_2 hR ?_
    simp (disch := omega) only [nI_ad, nI_ml, nI_lti, nI_lei, nI_eqi, nI_nn, nI_0le, nI_eq0, nI_0lt, nI_le0, nI_clamp, nI_pd, nI_sb, zOf_some, zOp_some, zOp_none, kI_int, kL_long, kO_ref, kO_null, nlt_T, nlt_F, nle_T, nle_F, neq_F, vpT, azUp_at, if_true, if_false, true_and, and_true, true_implies, false_implies, implies_true, not_true_eq_false, not_false_eq_true, true_or, or_true, false_or, or_false, and_false, false_and, eq_self, n01_0, n01_1, nm1_0]
    exact hQ I h1 h2
  | succ r ih =>
    intro k I hk h1 h2
    refine BX3_copy_2 hR ?_
    simp (disch := omega) only [nI_ad, nI_ml, nI_lti, nI_lei, nI_eqi, nI_nn, nI_0le, nI_eq0, nI_0lt, nI_le0, nI_clamp, nI_pd, nI_sb, zOf_some, zOp_some, zOp_none, kI_int, kL_long, kO_ref, kO_null, nlt_T, nlt_F, nle_T, nle_F, neq_F, vpT, azUp_at, if_true, if_false, true_and, and_true, true_implies, false_implies, implies_true, not_true_eq_false, not_false_eq_true, true_or, or_true, false_or, or_false, and_false, false_and, eq_self, n01_0, n01_1, nm1_0, k0, f0, k1, l0, g0, l1]
    refine ih (k + 1) _ (by omega) (fun p hp => ?_) (fun c hc => ?_)
    · by_cases e : p = k
      · subst e
        rw [azUp_s, h2 _ (Ne.symm hab)]
      · rw [azUp_nk e]; exact h1 p (by omega)
    · rw [azUp_nb hc]; exact h2 c hc
theorem L_copy2 (hR : azClosed R) (hM : MkOk kd F a) (hN : MkOk kd F b) (hab : a + 2 ≠ b + 2) {I0 : azI} (hQ : ∀ I', (∀ p, p < 60 → I' (a + 2) p = I0 (b + 2) p) → (∀ c, c ≠ a + 2 → I' c = I0 c) → Q none ((n, z, kd), I', J, F)) : ∀ (r k : Nat) (I : azI), r + k = 60 → (∀ p, p < k → I (a + 2) p = I0 (b + 2) p) → (∀ c, c ≠ a + 2 → I c = I0 c) → R d mX3_copy 28 [.ref a, .ref b, .int (nI k)] [] ((n, z, kd), I, J, F) Q := by
  obtain ⟨k0, k1, k2, f0, f1⟩ := hM
  obtain ⟨l0, l1, l2, g0, g1⟩ := hN
  intro r
  induction r with
  | zero =>
    intro k I hk h1 h2
    obtain rfl : k = 60 := by omega
    refine BX3_copy_28 hR ?_
    simp (disch := omega) only [nI_ad, nI_ml, nI_lti, nI_lei, nI_eqi, nI_nn, nI_0le, nI_eq0, nI_0lt, nI_le0, nI_clamp, nI_pd, nI_sb, zOf_some, zOp_some, zOp_none, kI_int, kL_long, kO_ref, kO_null, nlt_T, nlt_F, nle_T, nle_F, neq_F, vpT, azUp_at, if_true, if_false, true_and, and_true, true_implies, false_implies, implies_true, not_true_eq_false, not_false_eq_true, true_or, or_true, false_or, or_false, and_false, false_and, eq_self, n01_0, n01_1, nm1_0]
    exact hQ I h1 h2
  | succ r ih =>
    intro k I hk h1 h2
    refine BX3_copy_28 hR ?_
    simp (disch := omega) only [nI_ad, nI_ml, nI_lti, nI_lei, nI_eqi, nI_nn, nI_0le, nI_eq0, nI_0lt, nI_le0, nI_clamp, nI_pd, nI_sb, zOf_some, zOp_some, zOp_none, kI_int, kL_long, kO_ref, kO_null, nlt_T, nlt_F, nle_T, nle_F, neq_F, vpT, azUp_at, if_true, if_false, true_and, and_true, true_implies, false_implies, implies_true, not_true_eq_false, not_false_eq_true, true_or, or_true, false_or, or_false, and_false, false_and, eq_self, n01_0, n01_1, nm1_0, k0, f1, k2, l0, g1, l2]
    refine ih (k + 1) _ (by omega) (fun p hp => ?_) (fun c hc => ?_)
    · by_cases e : p = k
      · subst e
        rw [azUp_s, h2 _ (Ne.symm hab)]
      · rw [azUp_nk e]; exact h1 p (by omega)
    · rw [azUp_nb hc]; exact h2 c hc
/-- a becomes as b is; they may not overlap -/
theorem S_copy (hR : azClosed R) (hM : MkOk kd F a) (hN : MkOk kd F b) (hab : a + 2 < b ∨ b + 2 < a) (hm : cM I b m) (hv : mOK m) (h : ∀ I', cM I' a m → (∀ c, c ≠ a + 1 → c ≠ a + 2 → I' c = I c) → Q none ((n, z, kd), I', J, F)) : R d mX3_copy 0 [.ref a, .ref b, .retAddr 0] [] ((n, z, kd), I, J, F) Q := by
  refine BX3_copy_0 hR (L_copy1 hR hM hN (by omega) (I0 := I) (fun I1 h1 h2 => ?_) 10 0 I rfl (fun p hp => absurd hp (Nat.not_lt_zero p)) (fun _ _ => rfl))
  refine L_copy2 hR hM hN (by omega) (I0 := I1) (fun I' h3 h4 => ?_) 60 0 I1 rfl (fun p hp => absurd hp (Nat.not_lt_zero p)) (fun _ _ => rfl)
  refine h I' (fun p hp => ⟨?_, fun j hj => ?_⟩) (fun c hc1 hc2 => ?_)
  · rw [h4 _ (by omega), h1 p hp]; exact (hm p hp).1
  · have := (hv.1 p).1
    rw [h3 _ (by omega), h2 _ (by omega)]
    exact (hm p hp).2 j hj
  · rw [h4 c hc2, h2 c hc1]
theorem mTo_le {m : Nat → List Nat} (hv : mOK m) : ∀ p, mTo m p ≤ 6 * p
  | 0 => Nat.le_refl _
  | p + 1 => by
    have h1 := mTo_le hv p
    have h2 := (hv.1 p).1
    unfold mTo
    omega
theorem L_total (hR : azClosed R) (hM : MkOk kd F a) (hm : cM I a m) (h : Q (some (.int (nI (mTo m 10)))) ((n, z, kd), I, J, F)) : ∀ (r k : Nat), r + k = 10 → R d mX3_total 4 [.ref a, .int (nI (mTo m k)), .int (nI k)] [] ((n, z, kd), I, J, F) Q := by
  obtain ⟨k0, k1, k2, f0, f1⟩ := hM
  intro r
  induction r with
  | zero =>
    intro k hk
    obtain rfl : k = 10 := by omega
    refine BX3_total_4 hR ?_
    simp (disch := omega) only [nI_ad, nI_ml, nI_lti, nI_lei, nI_eqi, nI_nn, nI_0le, nI_eq0, nI_0lt, nI_le0, nI_clamp, nI_pd, nI_sb, zOf_some, zOp_some, zOp_none, kI_int, kL_long, kO_ref, kO_null, nlt_T, nlt_F, nle_T, nle_F, neq_F, vpT, azUp_at, if_true, if_false, true_and, and_true, true_implies, false_implies, implies_true, not_true_eq_false, not_false_eq_true, true_or, or_true, false_or, or_false, and_false, false_and, eq_self, n01_0, n01_1, nm1_0]
    exact h
  | succ r ih =>
    intro k hk
    refine BX3_total_4 hR ?_
    simp (disch := omega) only [nI_ad, nI_ml, nI_lti, nI_lei, nI_eqi, nI_nn, nI_0le, nI_eq0, nI_0lt, nI_le0, nI_clamp, nI_pd, nI_sb, zOf_some, zOp_some, zOp_none, kI_int, kL_long, kO_ref, kO_null, nlt_T, nlt_F, nle_T, nle_F, neq_F, vpT, azUp_at, if_true, if_false, true_and, and_true, true_implies, false_implies, implies_true, not_true_eq_false, not_false_eq_true, true_or, or_true, false_or, or_false, and_false, false_and, eq_self, n01_0, n01_1, nm1_0, k0, f0, k1, (hm k (by omega)).1]
    exact ih (k + 1) (by omega)
theorem S_total (hR : azClosed R) (hM : MkOk kd F a) (hm : cM I a m) (h : Q (some (.int (nI (mTo m 10)))) ((n, z, kd), I, J, F)) : R d mX3_total 0 [.ref a, .retAddr 0, .retAddr 0] [] ((n, z, kd), I, J, F) Q :=
  BX3_total_0 hR (L_total hR hM hm h 10 0 rfl)
/-- the tokens behind the one that goes move up -/
theorem L_remove (hR : azClosed R) (hM : MkOk kd F a) {I0 : azI} {p c : Nat} {x2 x3 : Int32} (hp : p < 10) (hc : c < 6) (j : Nat) (hQ : ∀ I', I' (a + 1) = I0 (a + 1) → (∀ b, b ≠ a + 1 → b ≠ a + 2 → I' b = I0 b) → (∀ i, I' (a + 2) i = if p * 6 + j ≤ i ∧ i < p * 6 + c then I0 (a + 2) (i + 1) else I0 (a + 2) i) → Q (some (.int x3)) ((n, z, kd), I', J, F)) (h0 : I0 (a + 1) p = nI c) : ∀ (r k : Nat) (I : azI), r + k = c → j ≤ k → I (a + 1) = I0 (a + 1) → (∀ b, b ≠ a + 1 → b ≠ a + 2 → I b = I0 b) → (∀ i, I (a + 2) i = if p * 6 + j ≤ i ∧ i < p * 6 + k then I0 (a + 2) (i + 1) else I0 (a + 2) i) → R (d + 1) mX3_remove 36 [.ref a, .int (nI p), .int x2, .int x3, .int (nI k)] [] ((n, z, kd), I, J, F) Q := by
  obtain ⟨k0, k1, k2, f0, f1⟩ := hM
  intro r
  induction r with
  | zero =>
    intro k I hk hjk h1 h2 h3
    obtain rfl : k = c := by omega
    refine BX3_remove_36 hR ?_
    simp (disch := omega) only [nI_ad, nI_ml, nI_lti, nI_lei, nI_eqi, nI_nn, nI_0le, nI_eq0, nI_0lt, nI_le0, nI_clamp, nI_pd, nI_sb, zOf_some, zOp_some, zOp_none, kI_int, kL_long, kO_ref, kO_null, nlt_T, nlt_F, nle_T, nle_F, neq_F, vpT, azUp_at, if_true, if_false, true_and, and_true, true_implies, false_implies, implies_true, not_true_eq_false, not_false_eq_true, true_or, or_true, false_or, or_false, and_false, false_and, eq_self, n01_0, n01_1, nm1_0, k0, f0, k1, h1, h0]
    exact hQ I h1 h2 h3
  | succ r ih =>
    intro k I hk hjk h1 h2 h3
    refine BX3_remove_36 hR ?_
    simp (disch := omega) only [nI_ad, nI_ml, nI_lti, nI_lei, nI_eqi, nI_nn, nI_0le, nI_eq0, nI_0lt, nI_le0, nI_clamp, nI_pd, nI_sb, zOf_some, zOp_some, zOp_none, kI_int, kL_long, kO_ref, kO_null, nlt_T, nlt_F, nle_T, nle_F, neq_F, vpT, azUp_at, if_true, if_false, true_and, and_true, true_implies, false_implies, implies_true, not_true_eq_false, not_false_eq_true, true_or, or_true, false_or, or_false, and_false, false_and, eq_self, n01_0, n01_1, nm1_0, k0, f0, k1, h1, h0, f1, k2]
    refine ih (k + 1) _ (by omega) (by omega) (by rw [azUp_nb (by omega)]; exact h1) (fun b hb1 hb2 => by rw [azUp_nb hb2]; exact h2 b hb1 hb2) (fun i => ?_)
    by_cases e : i = p * 6 + k
    · subst e
      rw [azUp_s, h3, if_neg (by omega), if_pos (by omega)]
    · rw [azUp_nk e, h3 i]
      by_cases e2 : p * 6 + j ≤ i ∧ i < p * 6 + k
      · rw [if_pos e2, if_pos (by omega)]
      · rw [if_neg e2, if_neg (by omega)]
theorem S_remove (hR : azClosed R) (hM : MkOk kd F a) (hm : cM I a m) (hv : mOK m) {p j : Nat} (hp : p < 10) (hj : j < (m p).length) (h : ∀ I', cM I' a (mUp m p ((m p).eraseIdx j)) → (∀ b, b ≠ a + 1 → b ≠ a + 2 → I' b = I b) → Q (some (.int (nI ((m p).getD j 0)))) ((n, z, kd), I', J, F)) : R (d + 1) mX3_remove 0 [.ref a, .int (nI p), .int (nI j), .retAddr 0, .retAddr 0] [] ((n, z, kd), I, J, F) Q := by
  have hM' := hM
  obtain ⟨k0, k1, k2, f0, f1⟩ := hM
  have hl := (hv.1 p).1
  refine BX3_remove_0 hR ⟨by rw [k0], S_holds hR hM' hm hv ?_⟩
  unfold hold
  rw [ix_nI (by decide) hp]
  dsimp only
  rw [ix_nI (by omega) hj]
  dsimp only
  simp (disch := omega) only [nI_ad, nI_ml, nI_lti, nI_lei, nI_eqi, nI_nn, nI_0le, nI_eq0, nI_0lt, nI_le0, nI_clamp, nI_pd, nI_sb, zOf_some, zOp_some, zOp_none, kI_int, kL_long, kO_ref, kO_null, nlt_T, nlt_F, nle_T, nle_F, neq_F, vpT, azUp_at, if_true, if_false, true_and, and_true, true_implies, false_implies, implies_true, not_true_eq_false, not_false_eq_true, true_or, or_true, false_or, or_false, and_false, false_and, eq_self, n01_0, n01_1, nm1_0, k0, f0, k1, f1, k2, (hm p hp).1, (hm p hp).2 j hj]
  refine L_remove hR hM' (I0 := azUp I (a + 1) p (nI ((m p).length - 1))) (c := (m p).length - 1) hp (by omega) j (fun I' h1 h2 h3 => ?_) azUp_s ((m p).length - 1 - j) j _ (by omega) (Nat.le_refl _) rfl (fun _ _ _ => rfl) (fun i => by rw [if_neg (by omega)])
  refine h I' (fun q hq => ⟨?_, fun i hi => ?_⟩) (fun b hb1 hb2 => by rw [h2 b hb1 hb2, azUp_nb hb1])
  · rw [h1]
    unfold mUp
    by_cases e : q = p
    · subst e
      rw [azUp_s, if_pos rfl, List.length_eraseIdx, if_pos hj]
    · rw [azUp_nk e, if_neg e]
      exact (hm q hq).1
  · rw [h3]
    unfold mUp at hi ⊢
    have hq6 := (hv.1 q).1
    rw [azUp_nb (by omega)]
    by_cases e : q = p
    · subst e
      rw [if_pos rfl] at hi ⊢
      rw [List.length_eraseIdx, if_pos hj] at hi
      by_cases e2 : j ≤ i
      · rw [if_pos (by omega), show q * 6 + i + 1 = q * 6 + (i + 1) by omega, (hm q hq).2 (i + 1) (by omega)]
        simp only [List.getD_eq_getElem?_getD]
        rw [List.getElem?_eraseIdx_of_ge e2]
      · rw [if_neg (by omega), (hm q hq).2 i (by omega)]
        simp only [List.getD_eq_getElem?_getD]
        rw [List.getElem?_eraseIdx_of_lt (by omega)]
    · rw [if_neg e] at hi ⊢
      rw [if_neg (by omega)]
      exact (hm q hq).2 i hi
theorem mEq_iff {m m' : Nat → List Nat} : mEq m m' = true ↔ ∀ p, p < 10 → m p = m' p := by
  unfold mEq
  rw [List.all_eq_true]
  constructor
  · intro h p hp
    exact eq_of_beq (h p (List.mem_range.mpr hp))
  · intro h p hp
    exact beq_iff_eq.mpr (h p (List.mem_range.mp hp))
theorem mEq_no {m m' : Nat → List Nat} {p : Nat} (hp : p < 10) (h : m p ≠ m' p) : mEq m m' = false := by
  cases e : mEq m m' with
  | false => rfl
  | true => exact absurd (mEq_iff.mp e p hp) h
theorem getD_mem {l : List Nat} {j : Nat} (h : j < l.length) : l.getD j 0 ∈ l := by
  rw [List.getD_eq_getElem?_getD, List.getElem?_eq_getElem h]
  exact List.getElem_mem h
theorem L_like2 (hR : azClosed R) (hM : MkOk kd F a) (hN : MkOk kd F b) {m' : Nat → List Nat} (hm : cM I a m) (hv : mOK m) (hm' : cM I b m') (hv' : mOK m') {k : Nat} (hk : k < 10) (hlen : (m k).length = (m' k).length) (h : mEq m m' = false → Q (some (.int (nI 0))) ((n, z, kd), I, J, F)) (hnext : m k = m' k → R d mX3_isLike 2 [.ref a, .ref b, .int (nI (k + 1)), .int (nI (m k).length)] [] ((n, z, kd), I, J, F) Q) : ∀ (r i : Nat), r + i = (m k).length → (∀ j, j < i → (m k).getD j 0 = (m' k).getD j 0) → R d mX3_isLike 27 [.ref a, .ref b, .int (nI k), .int (nI i)] [] ((n, z, kd), I, J, F) Q := by
  obtain ⟨k0, k1, k2, f0, f1⟩ := hM
  obtain ⟨l0, l1, l2, g0, g1⟩ := hN
  have hl := (hv.1 k).1
  intro r
  induction r with
  | zero =>
    intro i hi hj
    obtain rfl : i = (m k).length := by omega
    refine BX3_isLike_27 hR ?_
    simp (disch := omega) only [nI_ad, nI_ml, nI_lti, nI_lei, nI_eqi, nI_nn, nI_0le, nI_eq0, nI_0lt, nI_le0, nI_clamp, nI_pd, nI_sb, zOf_some, zOp_some, zOp_none, kI_int, kL_long, kO_ref, kO_null, nlt_T, nlt_F, nle_T, nle_F, neq_F, vpT, azUp_at, if_true, if_false, true_and, and_true, true_implies, false_implies, implies_true, not_true_eq_false, not_false_eq_true, true_or, or_true, false_or, or_false, and_false, false_and, eq_self, n01_0, n01_1, nm1_0, k0, f0, k1, (hm k hk).1]
    refine hnext (List.ext_getElem hlen (fun j h1 h2 => ?_))
    have := hj j h1
    rw [List.getD_eq_getElem?_getD, List.getD_eq_getElem?_getD, List.getElem?_eq_getElem h1, List.getElem?_eq_getElem h2] at this
    exact this
  | succ r ih =>
    intro i hi hj
    refine BX3_isLike_27 hR ?_
    have t1 := (hv.1 k).2 _ (getD_mem (l := m k) (j := i) (by omega))
    have t2 := (hv'.1 k).2 _ (getD_mem (l := m' k) (j := i) (by omega))
    simp (disch := omega) only [nI_ad, nI_ml, nI_lti, nI_lei, nI_eqi, nI_nn, nI_0le, nI_eq0, nI_0lt, nI_le0, nI_clamp, nI_pd, nI_sb, zOf_some, zOp_some, zOp_none, kI_int, kL_long, kO_ref, kO_null, nlt_T, nlt_F, nle_T, nle_F, neq_F, vpT, azUp_at, if_true, if_false, true_and, and_true, true_implies, false_implies, implies_true, not_true_eq_false, not_false_eq_true, true_or, or_true, false_or, or_false, and_false, false_and, eq_self, n01_0, n01_1, nm1_0, k0, f0, k1, (hm k hk).1, f1, k2, l0, g1, l2, (hm k hk).2 i (by omega), (hm' k hk).2 i (by omega)]
    refine ⟨fun e => ih (i + 1) (by omega) (fun j hj' => ?_), fun e => h (mEq_no hk (fun q => e (by rw [q])))⟩
    by_cases ej : j = i
    · subst ej; exact e
    · exact hj j (by omega)
theorem L_like (hR : azClosed R) (hM : MkOk kd F a) (hN : MkOk kd F b) {m' : Nat → List Nat} (hm : cM I a m) (hv : mOK m) (hm' : cM I b m') (hv' : mOK m') (h : Q (some (.int (if mEq m m' then nI 1 else nI 0))) ((n, z, kd), I, J, F)) : ∀ (r k : Nat) (w : Value), r + k = 10 → (∀ p, p < k → m p = m' p) → R d mX3_isLike 2 [.ref a, .ref b, .int (nI k), w] [] ((n, z, kd), I, J, F) Q := by
  have hM' := hM
  have hN' := hN
  obtain ⟨k0, k1, k2, f0, f1⟩ := hM
  obtain ⟨l0, l1, l2, g0, g1⟩ := hN
  intro r
  induction r with
  | zero =>
    intro k w hk hp
    obtain rfl : k = 10 := by omega
    refine BX3_isLike_2 hR ?_
    rw [mEq_iff.mpr hp] at h
    simp (disch := omega) only [nI_ad, nI_ml, nI_lti, nI_lei, nI_eqi, nI_nn, nI_0le, nI_eq0, nI_0lt, nI_le0, nI_clamp, nI_pd, nI_sb, zOf_some, zOp_some, zOp_none, kI_int, kL_long, kO_ref, kO_null, nlt_T, nlt_F, nle_T, nle_F, neq_F, vpT, azUp_at, if_true, if_false, true_and, and_true, true_implies, false_implies, implies_true, not_true_eq_false, not_false_eq_true, true_or, or_true, false_or, or_false, and_false, false_and, eq_self, n01_0, n01_1, nm1_0]
    exact h
  | succ r ih =>
    intro k w hk hp
    have hk10 : k < 10 := by omega
    refine BX3_isLike_2 hR ?_
    have h1 := (hv.1 k).1
    have h2 := (hv'.1 k).1
    simp (disch := omega) only [nI_ad, nI_ml, nI_lti, nI_lei, nI_eqi, nI_nn, nI_0le, nI_eq0, nI_0lt, nI_le0, nI_clamp, nI_pd, nI_sb, zOf_some, zOp_some, zOp_none, kI_int, kL_long, kO_ref, kO_null, nlt_T, nlt_F, nle_T, nle_F, neq_F, vpT, azUp_at, if_true, if_false, true_and, and_true, true_implies, false_implies, implies_true, not_true_eq_false, not_false_eq_true, true_or, or_true, false_or, or_false, and_false, false_and, eq_self, n01_0, n01_1, nm1_0, k0, f0, k1, (hm k hk10).1, l0, g0, l1, (hm' k hk10).1]
    have hno : mEq m m' = false → Q (some (.int (nI 0))) ((n, z, kd), I, J, F) := fun e => by rw [e] at h; exact h
    refine ⟨fun e => L_like2 hR hM' hN' hm hv hm' hv' hk10 e hno (fun q => ih (k + 1) _ (by omega) (fun p hp' => ?_)) (m k).length 0 rfl (fun j hj => absurd hj (Nat.not_lt_zero j)), fun e => hno (mEq_no hk10 (fun q => e (by rw [q])))⟩
    by_cases ep : p = k
    · subst ep; exact q
    · exact hp p (by omega)
theorem S_like (hR : azClosed R) (hM : MkOk kd F a) (hN : MkOk kd F b) {m' : Nat → List Nat} (hm : cM I a m) (hv : mOK m) (hm' : cM I b m') (hv' : mOK m') (h : Q (some (.int (if mEq m m' then nI 1 else nI 0))) ((n, z, kd), I, J, F)) : R d mX3_isLike 0 [.ref a, .ref b, .retAddr 0, .retAddr 0] [] ((n, z, kd), I, J, F) Q :=
  BX3_isLike_0 hR (L_like hR hM hN hm hv hm' hv' h 10 0 _ rfl (fun p hp => absurd hp (Nat.not_lt_zero p)))
end S3
end
section
/-! SPECS: Rule. Rules as trees, and how a rule lies in the class. -/
/-- an expression: a number or (from 100 on) a name, or a sign (its byte) between two -/
abbrev Ex := Lean.RArray Nat
/-- its code: both sides, then the sign -/
def exPost : Ex → List Nat
  | .leaf n => [n]
  | .branch s a b => exPost a ++ exPost b ++ [200 + s]
/-- a clause: its kind (0 in, 1 if, 2 out, 3 empty), place, name, expressions (of an if: its comparisons) -/
abbrev Cls := Nat × Nat × Nat × List Ex
def exCode : List Ex → List Nat
  | [] => []
  | a :: l => exPost (l.foldl (Lean.RArray.branch 38) a)
def cPl (c : Cls) : Int32 := if c.1 = 1 then -(nI 1) else nI c.2.1
def cW (c : Cls) : Int32 := if c.1 = 0 then nI c.2.2.1 else -(nI 1)
def cCode (c : Cls) : List Nat := exCode c.2.2.2
def cMany (c : Cls) : Nat := if c.1 = 1 then c.2.2.2.length else 0
def cBit (c : Cls) : Nat := if c.1 = 3 then 2 ^ c.2.1 else 0
def rCode (cs : List Cls) : List Nat := cs.flatMap cCode
def rMany (cs : List Cls) : Nat := (cs.map cMany).sum
def rBits : List Cls → Nat
  | [] => 0
  | c :: cs => cBit c ||| rBits cs
/-- where the clauses of a kind stand -/
def rIdx (k o : Nat) : List Cls → List Nat
  | [] => []
  | c :: cs => if c.1 = k then o :: rIdx k (o + 1) cs else rIdx k (o + 1) cs
def rBegs (o : Nat) : List Cls → List Int32
  | [] => []
  | c :: cs => nI o :: rBegs (o + (cCode c).length) cs
def rEnds (o : Nat) : List Cls → List Int32
  | [] => []
  | c :: cs => nI (o + (cCode c).length) :: rEnds (o + (cCode c).length) cs
theorem rCode_add (cs : List Cls) (c : Cls) : rCode (cs ++ [c]) = rCode cs ++ cCode c := by simp [rCode]
theorem rMany_add (cs : List Cls) (c : Cls) : rMany (cs ++ [c]) = rMany cs + cMany c := by simp [rMany]
theorem rBits_add (cs : List Cls) (c : Cls) : rBits (cs ++ [c]) = rBits cs ||| cBit c := by
  induction cs with
  | nil => simp [rBits]
  | cons a cs ih => simp only [List.cons_append, rBits, ih, Nat.or_assoc]
theorem rIdx_add (k o : Nat) (cs : List Cls) (c : Cls) : rIdx k o (cs ++ [c]) = rIdx k o cs ++ if c.1 = k then [o + cs.length] else [] := by
  induction cs generalizing o with
  | nil => simp [rIdx]
  | cons a cs ih =>
    simp only [List.cons_append, rIdx, ih, List.length_cons]
    have : o + 1 + cs.length = o + (cs.length + 1) := by omega
    rw [this]
    by_cases e : a.1 = k
    · rw [if_pos e, if_pos e]; rfl
    · rw [if_neg e, if_neg e]
theorem rBegs_add (o : Nat) (cs : List Cls) (c : Cls) : rBegs o (cs ++ [c]) = rBegs o cs ++ [nI (o + (rCode cs).length)] := by
  induction cs generalizing o with
  | nil => simp [rBegs, rCode]
  | cons a cs ih => simp only [List.cons_append, rBegs, ih, rCode, List.flatMap_cons, List.length_append, Nat.add_assoc]
theorem rEnds_add (o : Nat) (cs : List Cls) (c : Cls) : rEnds o (cs ++ [c]) = rEnds o cs ++ [nI (o + (rCode cs).length + (cCode c).length)] := by
  induction cs generalizing o with
  | nil => simp [rEnds, rCode]
  | cons a cs ih => simp only [List.cons_append, rEnds, ih, rCode, List.flatMap_cons, List.length_append, Nat.add_assoc]
theorem rBegs_len (o : Nat) (cs : List Cls) : (rBegs o cs).length = cs.length := by
  induction cs generalizing o with
  | nil => rfl
  | cons a cs ih => simp [rBegs, ih]
theorem rEnds_len (o : Nat) (cs : List Cls) : (rEnds o cs).length = cs.length := by
  induction cs generalizing o with
  | nil => rfl
  | cons a cs ih => simp [rEnds, ih]
/-- a row's first values are a list -/
def lst (f : Nat → Int32) (l : List Int32) : Prop := ∀ i, i < l.length → f i = l.getD i 0
theorem lst.add {f : Nat → Int32} {l : List Int32} (h : lst f l) {g : Nat → Int32} {v : Int32} (h1 : g l.length = v) (h2 : ∀ i, i ≠ l.length → g i = f i) : lst g (l ++ [v]) := by
  intro i hi
  rw [List.length_append, List.length_cons, List.length_nil] at hi
  by_cases e : i = l.length
  · subst e; rw [h1]; simp
  · rw [h2 i e, h i (by omega)]
    simp only [List.getD_eq_getElem?_getD]
    rw [List.getElem?_append_left (by omega)]
theorem lst.get {f : Nat → Int32} {l : List Nat} (h : lst f (l.map nI)) {i : Nat} (hi : i < l.length) : f i = nI (l.getD i 0) := by
  rw [h i (by rw [List.length_map]; exact hi)]
  simp [List.getD_eq_getElem?_getD, hi]
theorem lst.of {f g : Nat → Int32} {l : List Int32} (h : lst f l) (e : g = f) : lst g l := e ▸ h
def RuOk (kd : azK) (F : azR) (r : Nat) : Prop := (kd r).1 = 5 ∧ kd (r + 1) = (10, 12) ∧ kd (r + 2) = (10, 12) ∧ kd (r + 3) = (10, 12) ∧ kd (r + 4) = (10, 12) ∧ kd (r + 5) = (10, 12) ∧ kd (r + 6) = (10, 3) ∧ kd (r + 7) = (10, 3) ∧ kd (r + 8) = (10, 80) ∧ F r 6 = some (r + 1) ∧ F r 7 = some (r + 2) ∧ F r 8 = some (r + 3) ∧ F r 9 = some (r + 4) ∧ F r 10 = some (r + 5) ∧ F r 11 = some (r + 6) ∧ F r 12 = some (r + 7) ∧ F r 13 = some (r + 8)
/-- a rule in the class: its clauses, and code of a clause that is not whole yet -/
def cR (I : azI) (r : Nat) (cs : List Cls) (pd : List Nat) : Prop :=
  I r 0 = nI cs.length ∧ I r 1 = nI (rIdx 0 0 cs).length ∧ I r 2 = nI (rIdx 2 0 cs).length ∧ I r 3 = nI (rMany cs) ∧ I r 4 = nI (rBits cs) ∧ I r 5 = nI (rCode cs ++ pd).length ∧
  lst (I (r + 1)) (cs.map fun c => nI c.1) ∧ lst (I (r + 2)) (cs.map cPl) ∧ lst (I (r + 3)) (cs.map cW) ∧ lst (I (r + 4)) (rBegs 0 cs) ∧ lst (I (r + 5)) (rEnds 0 cs) ∧
  lst (I (r + 6)) ((rIdx 0 0 cs).map nI) ∧ lst (I (r + 7)) ((rIdx 2 0 cs).map nI) ∧ lst (I (r + 8)) ((rCode cs ++ pd).map nI)
theorem cR.keep {I I' : azI} {r : Nat} {cs : List Cls} {pd : List Nat} (h : cR I r cs pd) (hf : ∀ b, r ≤ b → b ≤ r + 8 → I' b = I b) : cR I' r cs pd := by
  unfold cR at h ⊢
  rw [hf r (by omega) (by omega), hf (r + 1) (by omega) (by omega), hf (r + 2) (by omega) (by omega), hf (r + 3) (by omega) (by omega), hf (r + 4) (by omega) (by omega), hf (r + 5) (by omega) (by omega), hf (r + 6) (by omega) (by omega), hf (r + 7) (by omega) (by omega), hf (r + 8) (by omega) (by omega)]
  exact h
section S5
variable {R : azP} {d n z : Nat} {kd : azK} {I : azI} {J : azJ} {F : azR} {Q : azQ} {r k : Nat} {cs : List Cls} {pd : List Nat}
theorem S_kind (hR : azClosed R) (hM : RuOk kd F r) (hk : k < 12) (h : Q (some (.int (I (r + 1) k))) ((n, z, kd), I, J, F)) : R d mX5_kind 0 [.ref r, .int (nI k)] [] ((n, z, kd), I, J, F) Q := by
  obtain ⟨k0, k1, k2, k3, k4, k5, k6, k7, k8, f6, f7, f8, f9, f10, f11, f12, f13⟩ := hM
  refine BX5_kind_0 hR ?_
  simp (disch := omega) only [nI_ad, nI_ml, nI_lti, nI_lei, nI_eqi, nI_nn, nI_0le, nI_eq0, nI_0lt, nI_le0, nI_clamp, nI_pd, nI_sb, zOf_some, zOp_some, zOp_none, kI_int, kL_long, kO_ref, kO_null, nlt_T, nlt_F, nle_T, nle_F, neq_F, vpT, azUp_at, if_true, if_false, true_and, and_true, true_implies, false_implies, implies_true, not_true_eq_false, not_false_eq_true, true_or, or_true, false_or, or_false, and_false, false_and, eq_self, n01_0, n01_1, nm1_0, k0, k1, f6]
  exact h
theorem S_place (hR : azClosed R) (hM : RuOk kd F r) (hk : k < 12) (h : Q (some (.int (I (r + 2) k))) ((n, z, kd), I, J, F)) : R d mX5_place 0 [.ref r, .int (nI k)] [] ((n, z, kd), I, J, F) Q := by
  obtain ⟨k0, k1, k2, k3, k4, k5, k6, k7, k8, f6, f7, f8, f9, f10, f11, f12, f13⟩ := hM
  refine BX5_place_0 hR ?_
  simp (disch := omega) only [nI_ad, nI_ml, nI_lti, nI_lei, nI_eqi, nI_nn, nI_0le, nI_eq0, nI_0lt, nI_le0, nI_clamp, nI_pd, nI_sb, zOf_some, zOp_some, zOp_none, kI_int, kL_long, kO_ref, kO_null, nlt_T, nlt_F, nle_T, nle_F, neq_F, vpT, azUp_at, if_true, if_false, true_and, and_true, true_implies, false_implies, implies_true, not_true_eq_false, not_false_eq_true, true_or, or_true, false_or, or_false, and_false, false_and, eq_self, n01_0, n01_1, nm1_0, k0, k2, f7]
  exact h
theorem S_name (hR : azClosed R) (hM : RuOk kd F r) (hk : k < 12) (h : Q (some (.int (I (r + 3) k))) ((n, z, kd), I, J, F)) : R d mX5_name 0 [.ref r, .int (nI k)] [] ((n, z, kd), I, J, F) Q := by
  obtain ⟨k0, k1, k2, k3, k4, k5, k6, k7, k8, f6, f7, f8, f9, f10, f11, f12, f13⟩ := hM
  refine BX5_name_0 hR ?_
  simp (disch := omega) only [nI_ad, nI_ml, nI_lti, nI_lei, nI_eqi, nI_nn, nI_0le, nI_eq0, nI_0lt, nI_le0, nI_clamp, nI_pd, nI_sb, zOf_some, zOp_some, zOp_none, kI_int, kL_long, kO_ref, kO_null, nlt_T, nlt_F, nle_T, nle_F, neq_F, vpT, azUp_at, if_true, if_false, true_and, and_true, true_implies, false_implies, implies_true, not_true_eq_false, not_false_eq_true, true_or, or_true, false_or, or_false, and_false, false_and, eq_self, n01_0, n01_1, nm1_0, k0, k3, f8]
  exact h
theorem S_begin (hR : azClosed R) (hM : RuOk kd F r) (hk : k < 12) (h : Q (some (.int (I (r + 4) k))) ((n, z, kd), I, J, F)) : R d mX5_begin 0 [.ref r, .int (nI k)] [] ((n, z, kd), I, J, F) Q := by
  obtain ⟨k0, k1, k2, k3, k4, k5, k6, k7, k8, f6, f7, f8, f9, f10, f11, f12, f13⟩ := hM
  refine BX5_begin_0 hR ?_
  simp (disch := omega) only [nI_ad, nI_ml, nI_lti, nI_lei, nI_eqi, nI_nn, nI_0le, nI_eq0, nI_0lt, nI_le0, nI_clamp, nI_pd, nI_sb, zOf_some, zOp_some, zOp_none, kI_int, kL_long, kO_ref, kO_null, nlt_T, nlt_F, nle_T, nle_F, neq_F, vpT, azUp_at, if_true, if_false, true_and, and_true, true_implies, false_implies, implies_true, not_true_eq_false, not_false_eq_true, true_or, or_true, false_or, or_false, and_false, false_and, eq_self, n01_0, n01_1, nm1_0, k0, k4, f9]
  exact h
theorem S_end (hR : azClosed R) (hM : RuOk kd F r) (hk : k < 12) (h : Q (some (.int (I (r + 5) k))) ((n, z, kd), I, J, F)) : R d mX5_end 0 [.ref r, .int (nI k)] [] ((n, z, kd), I, J, F) Q := by
  obtain ⟨k0, k1, k2, k3, k4, k5, k6, k7, k8, f6, f7, f8, f9, f10, f11, f12, f13⟩ := hM
  refine BX5_end_0 hR ?_
  simp (disch := omega) only [nI_ad, nI_ml, nI_lti, nI_lei, nI_eqi, nI_nn, nI_0le, nI_eq0, nI_0lt, nI_le0, nI_clamp, nI_pd, nI_sb, zOf_some, zOp_some, zOp_none, kI_int, kL_long, kO_ref, kO_null, nlt_T, nlt_F, nle_T, nle_F, neq_F, vpT, azUp_at, if_true, if_false, true_and, and_true, true_implies, false_implies, implies_true, not_true_eq_false, not_false_eq_true, true_or, or_true, false_or, or_false, and_false, false_and, eq_self, n01_0, n01_1, nm1_0, k0, k5, f10]
  exact h
theorem S_takeClause (hR : azClosed R) (hM : RuOk kd F r) (hk : k < 3) (h : Q (some (.int (I (r + 6) k))) ((n, z, kd), I, J, F)) : R d mX5_takeClause 0 [.ref r, .int (nI k)] [] ((n, z, kd), I, J, F) Q := by
  obtain ⟨k0, k1, k2, k3, k4, k5, k6, k7, k8, f6, f7, f8, f9, f10, f11, f12, f13⟩ := hM
  refine BX5_takeClause_0 hR ?_
  simp (disch := omega) only [nI_ad, nI_ml, nI_lti, nI_lei, nI_eqi, nI_nn, nI_0le, nI_eq0, nI_0lt, nI_le0, nI_clamp, nI_pd, nI_sb, zOf_some, zOp_some, zOp_none, kI_int, kL_long, kO_ref, kO_null, nlt_T, nlt_F, nle_T, nle_F, neq_F, vpT, azUp_at, if_true, if_false, true_and, and_true, true_implies, false_implies, implies_true, not_true_eq_false, not_false_eq_true, true_or, or_true, false_or, or_false, and_false, false_and, eq_self, n01_0, n01_1, nm1_0, k0, k6, f11]
  exact h
theorem S_giveClause (hR : azClosed R) (hM : RuOk kd F r) (hk : k < 3) (h : Q (some (.int (I (r + 7) k))) ((n, z, kd), I, J, F)) : R d mX5_giveClause 0 [.ref r, .int (nI k)] [] ((n, z, kd), I, J, F) Q := by
  obtain ⟨k0, k1, k2, k3, k4, k5, k6, k7, k8, f6, f7, f8, f9, f10, f11, f12, f13⟩ := hM
  refine BX5_giveClause_0 hR ?_
  simp (disch := omega) only [nI_ad, nI_ml, nI_lti, nI_lei, nI_eqi, nI_nn, nI_0le, nI_eq0, nI_0lt, nI_le0, nI_clamp, nI_pd, nI_sb, zOf_some, zOp_some, zOp_none, kI_int, kL_long, kO_ref, kO_null, nlt_T, nlt_F, nle_T, nle_F, neq_F, vpT, azUp_at, if_true, if_false, true_and, and_true, true_implies, false_implies, implies_true, not_true_eq_false, not_false_eq_true, true_or, or_true, false_or, or_false, and_false, false_and, eq_self, n01_0, n01_1, nm1_0, k0, k7, f12]
  exact h
theorem S_item (hR : azClosed R) (hM : RuOk kd F r) (hk : k < 80) (h : Q (some (.int (I (r + 8) k))) ((n, z, kd), I, J, F)) : R d mX5_item 0 [.ref r, .int (nI k)] [] ((n, z, kd), I, J, F) Q := by
  obtain ⟨k0, k1, k2, k3, k4, k5, k6, k7, k8, f6, f7, f8, f9, f10, f11, f12, f13⟩ := hM
  refine BX5_item_0 hR ?_
  simp (disch := omega) only [nI_ad, nI_ml, nI_lti, nI_lei, nI_eqi, nI_nn, nI_0le, nI_eq0, nI_0lt, nI_le0, nI_clamp, nI_pd, nI_sb, zOf_some, zOp_some, zOp_none, kI_int, kL_long, kO_ref, kO_null, nlt_T, nlt_F, nle_T, nle_F, neq_F, vpT, azUp_at, if_true, if_false, true_and, and_true, true_implies, false_implies, implies_true, not_true_eq_false, not_false_eq_true, true_or, or_true, false_or, or_false, and_false, false_and, eq_self, n01_0, n01_1, nm1_0, k0, k8, f13]
  exact h
theorem S_addItem (hR : azClosed R) (hM : RuOk kd F r) (hc : cR I r cs pd) {x : Nat} (hl : (rCode cs ++ pd).length < 80) (h : ∀ I', cR I' r cs (pd ++ [x]) → (∀ b, b < r ∨ r + 8 < b → I' b = I b) → Q none ((n, z, kd), I', J, F)) : R d mX5_addItem 0 [.ref r, .int (nI x)] [] ((n, z, kd), I, J, F) Q := by
  obtain ⟨k0, k1, k2, k3, k4, k5, k6, k7, k8, f6, f7, f8, f9, f10, f11, f12, f13⟩ := hM
  refine BX5_addItem_0 hR ?_
  obtain ⟨cn, ct, cg, cc, ce, cl, cks, cps, cws, cbs, ces, cts, cgs, cco⟩ := hc
  simp (disch := omega) only [nI_ad, nI_ml, nI_lti, nI_lei, nI_eqi, nI_nn, nI_0le, nI_eq0, nI_0lt, nI_le0, nI_clamp, nI_pd, nI_sb, zOf_some, zOp_some, zOp_none, kI_int, kL_long, kO_ref, kO_null, nlt_T, nlt_F, nle_T, nle_F, neq_F, vpT, azUp_at, if_true, if_false, true_and, and_true, true_implies, false_implies, implies_true, not_true_eq_false, not_false_eq_true, true_or, or_true, false_or, or_false, and_false, false_and, eq_self, n01_0, n01_1, nm1_0, k0, k8, f13, cl, @azUp_nb _ (r + 8) r]
  refine h _ ⟨?_, ?_, ?_, ?_, ?_, ?_, ?_, ?_, ?_, ?_, ?_, ?_, ?_, ?_⟩ ?_
  · rw [azUp_nk (by omega), azUp_nb (by omega)]; exact cn
  · rw [azUp_nk (by omega), azUp_nb (by omega)]; exact ct
  · rw [azUp_nk (by omega), azUp_nb (by omega)]; exact cg
  · rw [azUp_nk (by omega), azUp_nb (by omega)]; exact cc
  · rw [azUp_nk (by omega), azUp_nb (by omega)]; exact ce
  · rw [azUp_s, ← List.append_assoc, List.length_append (as := rCode cs ++ pd)]; rfl
  · rw [azUp_nb (by omega), azUp_nb (by omega)]; exact cks
  · rw [azUp_nb (by omega), azUp_nb (by omega)]; exact cps
  · rw [azUp_nb (by omega), azUp_nb (by omega)]; exact cws
  · rw [azUp_nb (by omega), azUp_nb (by omega)]; exact cbs
  · rw [azUp_nb (by omega), azUp_nb (by omega)]; exact ces
  · rw [azUp_nb (by omega), azUp_nb (by omega)]; exact cts
  · rw [azUp_nb (by omega), azUp_nb (by omega)]; exact cgs
  · rw [azUp_nb (by omega), ← List.append_assoc, List.map_append]
    refine cco.add ?_ ?_
    · rw [List.length_map, azUp_s]
    · intro i hi
      rw [List.length_map] at hi
      rw [azUp_nk hi]
  · intro b hb
    rw [azUp_nb (by omega), azUp_nb (by omega)]
end S5
end
section
/-! SPECS: Rule, a clause more. -/
section S5
variable {R : azP} {d n z : Nat} {kd : azK} {I : azI} {J : azJ} {F : azR} {Q : azQ} {r k : Nat} {cs : List Cls} {pd : List Nat}
/-- what addClause makes of the memory -/
def acI (I : azI) (r k : Nat) (x1 x2 x3 x4 x5 : Int32) : azI := azUp (azUp (azUp (azUp (azUp (azUp I (r + 1) k x1) (r + 2) k x2) (r + 3) k x3) (r + 4) k x4) (r + 5) k x5) r 0 (nI (k + 1))
theorem acI_0 {x1 x2 x3 x4 x5 : Int32} : acI I r k x1 x2 x3 x4 x5 r 0 = nI (k + 1) := azUp_s
theorem acI_r {x1 x2 x3 x4 x5 : Int32} {j : Nat} (h : j ≠ 0) : acI I r k x1 x2 x3 x4 x5 r j = I r j := by
  unfold acI
  rw [azUp_nk h, azUp_nb (by omega), azUp_nb (by omega), azUp_nb (by omega), azUp_nb (by omega), azUp_nb (by omega)]
theorem acI_b {x1 x2 x3 x4 x5 : Int32} {b : Nat} (h : b < r ∨ r + 5 < b) : acI I r k x1 x2 x3 x4 x5 b = I b := by
  unfold acI
  rw [azUp_nb (by omega), azUp_nb (by omega), azUp_nb (by omega), azUp_nb (by omega), azUp_nb (by omega), azUp_nb (by omega)]
theorem acI_1 {x1 x2 x3 x4 x5 : Int32} {j : Nat} : acI I r k x1 x2 x3 x4 x5 (r + 1) j = if j = k then x1 else I (r + 1) j := by simp [acI, azUp]
theorem acI_2 {x1 x2 x3 x4 x5 : Int32} {j : Nat} : acI I r k x1 x2 x3 x4 x5 (r + 2) j = if j = k then x2 else I (r + 2) j := by simp [acI, azUp]
theorem acI_3 {x1 x2 x3 x4 x5 : Int32} {j : Nat} : acI I r k x1 x2 x3 x4 x5 (r + 3) j = if j = k then x3 else I (r + 3) j := by simp [acI, azUp]
theorem acI_4 {x1 x2 x3 x4 x5 : Int32} {j : Nat} : acI I r k x1 x2 x3 x4 x5 (r + 4) j = if j = k then x4 else I (r + 4) j := by simp [acI, azUp]
theorem acI_5 {x1 x2 x3 x4 x5 : Int32} {j : Nat} : acI I r k x1 x2 x3 x4 x5 (r + 5) j = if j = k then x5 else I (r + 5) j := by simp [acI, azUp]
theorem S_addClause (hR : azClosed R) (hM : RuOk kd F r) (hk : k < 12) (h0 : I r 0 = nI k) {x1 x2 x3 x4 : Int32} (h : Q (some (.int (nI 1))) ((n, z, kd), acI I r k x1 x2 x3 x4 (I r 5), J, F)) : R d mX5_addClause 0 [.ref r, .int x1, .int x2, .int x3, .int x4] [] ((n, z, kd), I, J, F) Q := by
  obtain ⟨k0, k1, k2, k3, k4, k5, k6, k7, k8, f6, f7, f8, f9, f10, f11, f12, f13⟩ := hM
  refine BX5_addClause_0 hR ?_
  have e1 : r ≠ r + 1 := by omega
  have e2 : r ≠ r + 2 := by omega
  have e3 : r ≠ r + 3 := by omega
  have e4 : r ≠ r + 4 := by omega
  have e5 : r ≠ r + 5 := by omega
  simp (disch := omega) only [k0, k1, k2, k3, k4, k5, f6, f7, f8, f9, f10, zOf_some, azUp_nb e1, azUp_nb e2, azUp_nb e3, azUp_nb e4, azUp_nb e5, h0, nI_clamp, vpT, nI_ad, nI_lti, nlt_T, true_and, true_implies, not_true_eq_false, false_implies, and_true, n01_1, or_true]
  exact h
theorem cR.adds {c : Cls} (h : cR I r cs pd) (hp : pd = cCode c) {I' : azI} (e0 : I' r 0 = nI (cs.length + 1)) (e1 : I' r 1 = nI (rIdx 0 0 (cs ++ [c])).length) (e2 : I' r 2 = nI (rIdx 2 0 (cs ++ [c])).length) (e3 : I' r 3 = nI (rMany (cs ++ [c]))) (e4 : I' r 4 = nI (rBits (cs ++ [c]))) (e5 : I' r 5 = I r 5)
    (a1 : I' (r + 1) = acI I r cs.length (nI c.1) (cPl c) (cW c) (nI (rCode cs).length) (I r 5) (r + 1)) (a2 : I' (r + 2) = acI I r cs.length (nI c.1) (cPl c) (cW c) (nI (rCode cs).length) (I r 5) (r + 2)) (a3 : I' (r + 3) = acI I r cs.length (nI c.1) (cPl c) (cW c) (nI (rCode cs).length) (I r 5) (r + 3)) (a4 : I' (r + 4) = acI I r cs.length (nI c.1) (cPl c) (cW c) (nI (rCode cs).length) (I r 5) (r + 4)) (a5 : I' (r + 5) = acI I r cs.length (nI c.1) (cPl c) (cW c) (nI (rCode cs).length) (I r 5) (r + 5))
    (a6 : lst (I' (r + 6)) ((rIdx 0 0 (cs ++ [c])).map nI)) (a7 : lst (I' (r + 7)) ((rIdx 2 0 (cs ++ [c])).map nI)) (a8 : I' (r + 8) = I (r + 8)) : cR I' r (cs ++ [c]) [] := by
  obtain ⟨cn, ct, cg, cc, ce, cl, cks, cps, cws, cbs, ces, cts, cgs, cco⟩ := h
  subst hp
  refine ⟨?_, e1, e2, e3, e4, ?_, ?_, ?_, ?_, ?_, ?_, a6, a7, ?_⟩
  · rw [e0, List.length_append]; rfl
  · rw [e5, cl, rCode_add, List.append_nil]
  · rw [a1, List.map_append]
    refine cks.add ?_ (fun i hi => ?_)
    · rw [acI_1, List.length_map, if_pos rfl]
    · rw [List.length_map] at hi
      rw [acI_1, if_neg hi]
  · rw [a2, List.map_append]
    refine cps.add ?_ (fun i hi => ?_)
    · rw [acI_2, List.length_map, if_pos rfl]
    · rw [List.length_map] at hi
      rw [acI_2, if_neg hi]
  · rw [a3, List.map_append]
    refine cws.add ?_ (fun i hi => ?_)
    · rw [acI_3, List.length_map, if_pos rfl]
    · rw [List.length_map] at hi
      rw [acI_3, if_neg hi]
  · rw [a4, rBegs_add, Nat.zero_add]
    refine cbs.add ?_ (fun i hi => ?_)
    · rw [acI_4, rBegs_len, if_pos rfl]
    · rw [rBegs_len] at hi
      rw [acI_4, if_neg hi]
  · rw [a5, rEnds_add, Nat.zero_add]
    refine ces.add ?_ (fun i hi => ?_)
    · rw [acI_5, rEnds_len, if_pos rfl, cl, List.length_append]
    · rw [rEnds_len] at hi
      rw [acI_5, if_neg hi]
  · rw [a8, rCode_add, List.append_nil]; exact cco
theorem S_addTake (hR : azClosed R) (hM : RuOk kd F r) (hc : cR I r cs []) {p w : Nat} (hk : cs.length < 12) (ht : (rIdx 0 0 cs).length < 3) (h : ∀ I', cR I' r (cs ++ [(0, p, w, [])]) [] → (∀ b, b < r ∨ r + 8 < b → I' b = I b) → Q none ((n, z, kd), I', J, F)) : R (d + 1) mX5_addTake 0 [.ref r, .int (nI p), .int (nI w)] [] ((n, z, kd), I, J, F) Q := by
  have hM' := hM
  have hc' := hc
  obtain ⟨k0, k1, k2, k3, k4, k5, k6, k7, k8, f6, f7, f8, f9, f10, f11, f12, f13⟩ := hM
  obtain ⟨cn, ct, cg, cc, ce, cl, cks, cps, cws, cbs, ces, cts, cgs, cco⟩ := hc
  refine BX5_addTake_0 hR ?_
  simp (disch := omega) only [nI_ad, nI_ml, nI_lti, nI_lei, nI_eqi, nI_nn, nI_0le, nI_eq0, nI_0lt, nI_le0, nI_clamp, nI_pd, nI_sb, zOf_some, zOp_some, zOp_none, kI_int, kL_long, kO_ref, kO_null, nlt_T, nlt_F, nle_T, nle_F, neq_F, vpT, azUp_at, if_true, if_false, true_and, and_true, true_implies, false_implies, implies_true, not_true_eq_false, not_false_eq_true, true_or, or_true, false_or, or_false, and_false, false_and, eq_self, n01_0, n01_1, nm1_0, k0, ct]
  refine S_addClause hR hM' hk cn ?_
  have g1 : acI I r cs.length (nI 0) (nI p) (nI w) (I r 5) (I r 5) r 1 = nI (rIdx 0 0 cs).length := by rw [acI_r (by omega), ct]
  simp (disch := omega) only [nI_ad, nI_ml, nI_lti, nI_lei, nI_eqi, nI_nn, nI_0le, nI_eq0, nI_0lt, nI_le0, nI_clamp, nI_pd, nI_sb, zOf_some, zOp_some, zOp_none, kI_int, kL_long, kO_ref, kO_null, nlt_T, nlt_F, nle_T, nle_F, neq_F, vpT, azUp_at, if_true, if_false, true_and, and_true, true_implies, false_implies, implies_true, not_true_eq_false, not_false_eq_true, true_or, or_true, false_or, or_false, and_false, false_and, eq_self, n01_0, n01_1, nm1_0, k0, f11, k6, g1, acI_0, @azUp_nb _ (r + 6) r, Nat.add_sub_cancel]
  have i0 : rIdx 0 0 (cs ++ [((0, p, w, []) : Cls)]) = rIdx 0 0 cs ++ [cs.length] := by rw [rIdx_add, if_pos rfl, Nat.zero_add]
  have i2 : rIdx 2 0 (cs ++ [((0, p, w, []) : Cls)]) = rIdx 2 0 cs := by rw [rIdx_add, if_neg (fun h => Nat.noConfusion h), List.append_nil]
  have eb : I r 5 = nI (rCode cs).length := by rw [cl, List.append_nil]
  refine h _ (hc'.adds (c := ((0, p, w, []) : Cls)) rfl ?_ ?_ ?_ ?_ ?_ ?_ ?_ ?_ ?_ ?_ ?_ ?_ ?_ ?_) ?_
  · rw [azUp_nk (by omega), azUp_nb (by omega), acI_0]
  · rw [azUp_s, i0, List.length_append]; rfl
  · rw [azUp_nk (by omega), azUp_nb (by omega), acI_r (by omega), cg, i2]
  · rw [azUp_nk (by omega), azUp_nb (by omega), acI_r (by omega), cc, rMany_add]; rfl
  · rw [azUp_nk (by omega), azUp_nb (by omega), acI_r (by omega), ce, rBits_add]
    congr 1
    exact (Nat.or_zero _).symm
  · rw [azUp_nk (by omega), azUp_nb (by omega), acI_r (by omega)]
  · rw [azUp_nb (by omega), azUp_nb (by omega), ← eb]; rfl
  · rw [azUp_nb (by omega), azUp_nb (by omega), ← eb]; rfl
  · rw [azUp_nb (by omega), azUp_nb (by omega), ← eb]; rfl
  · rw [azUp_nb (by omega), azUp_nb (by omega), ← eb]; rfl
  · rw [azUp_nb (by omega), azUp_nb (by omega), ← eb]; rfl
  · rw [i0, List.map_append]
    refine cts.add ?_ (fun i hi => ?_)
    · rw [azUp_nb (by omega), List.length_map, azUp_s]
    · rw [List.length_map] at hi
      rw [azUp_nb (by omega), azUp_nk hi, acI_b (by omega)]
  · rw [i2, azUp_nb (by omega), azUp_nb (by omega), acI_b (by omega)]
    exact cgs
  · rw [azUp_nb (by omega), azUp_nb (by omega), acI_b (by omega)]
  · intro b hb
    rw [azUp_nb (by omega), azUp_nb (by omega), acI_b (by omega)]
end S5
end
section
/-! SPECS: Rule, the other clauses; changeOf. -/
section S5
variable {R : azP} {d n z : Nat} {kd : azK} {I : azI} {J : azJ} {F : azR} {Q : azQ} {r k : Nat} {cs : List Cls} {pd : List Nat}
theorem S_addGive (hR : azClosed R) (hM : RuOk kd F r) {p : Nat} {e : Ex} (hc : cR I r cs (exPost e)) (hk : cs.length < 12) (ht : (rIdx 2 0 cs).length < 3) (h : ∀ I', cR I' r (cs ++ [(2, p, 0, [e])]) [] → (∀ b, b < r ∨ r + 8 < b → I' b = I b) → Q none ((n, z, kd), I', J, F)) : R (d + 1) mX5_addGive 0 [.ref r, .int (nI p), .int (nI (rCode cs).length)] [] ((n, z, kd), I, J, F) Q := by
  have hM' := hM
  have hc' := hc
  obtain ⟨k0, k1, k2, k3, k4, k5, k6, k7, k8, f6, f7, f8, f9, f10, f11, f12, f13⟩ := hM
  obtain ⟨cn, ct, cg, cc, ce, cl, cks, cps, cws, cbs, ces, cts, cgs, cco⟩ := hc
  refine BX5_addGive_0 hR ?_
  simp (disch := omega) only [nI_ad, nI_ml, nI_lti, nI_lei, nI_eqi, nI_nn, nI_0le, nI_eq0, nI_0lt, nI_le0, nI_clamp, nI_pd, nI_sb, zOf_some, zOp_some, zOp_none, kI_int, kL_long, kO_ref, kO_null, nlt_T, nlt_F, nle_T, nle_F, neq_F, vpT, azUp_at, if_true, if_false, true_and, and_true, true_implies, false_implies, implies_true, not_true_eq_false, not_false_eq_true, true_or, or_true, false_or, or_false, and_false, false_and, eq_self, n01_0, n01_1, nm1_0, k0, cg]
  refine S_addClause hR hM' hk cn ?_
  have g1 : acI I r cs.length (nI 2) (nI p) (-(nI 1)) (nI (rCode cs).length) (I r 5) r 2 = nI (rIdx 2 0 cs).length := by rw [acI_r (by omega), cg]
  simp (disch := omega) only [nI_ad, nI_ml, nI_lti, nI_lei, nI_eqi, nI_nn, nI_0le, nI_eq0, nI_0lt, nI_le0, nI_clamp, nI_pd, nI_sb, zOf_some, zOp_some, zOp_none, kI_int, kL_long, kO_ref, kO_null, nlt_T, nlt_F, nle_T, nle_F, neq_F, vpT, azUp_at, if_true, if_false, true_and, and_true, true_implies, false_implies, implies_true, not_true_eq_false, not_false_eq_true, true_or, or_true, false_or, or_false, and_false, false_and, eq_self, n01_0, n01_1, nm1_0, k0, f12, k7, g1, acI_0, @azUp_nb _ (r + 7) r, Nat.add_sub_cancel]
  have i0 : rIdx 2 0 (cs ++ [((2, p, 0, [e]) : Cls)]) = rIdx 2 0 cs ++ [cs.length] := by rw [rIdx_add, if_pos rfl, Nat.zero_add]
  have i2 : rIdx 0 0 (cs ++ [((2, p, 0, [e]) : Cls)]) = rIdx 0 0 cs := by rw [rIdx_add, if_neg (fun h => Nat.noConfusion h), List.append_nil]
  refine h _ (hc'.adds (c := ((2, p, 0, [e]) : Cls)) rfl ?_ ?_ ?_ ?_ ?_ ?_ ?_ ?_ ?_ ?_ ?_ ?_ ?_ ?_) ?_
  · rw [azUp_nk (by omega), azUp_nb (by omega), acI_0]
  · rw [azUp_nk (by omega), azUp_nb (by omega), acI_r (by omega), ct, i2]
  · rw [azUp_s, i0, List.length_append]; rfl
  · rw [azUp_nk (by omega), azUp_nb (by omega), acI_r (by omega), cc, rMany_add]; rfl
  · rw [azUp_nk (by omega), azUp_nb (by omega), acI_r (by omega), ce, rBits_add]
    congr 1
    exact (Nat.or_zero _).symm
  · rw [azUp_nk (by omega), azUp_nb (by omega), acI_r (by omega)]
  · rw [azUp_nb (by omega), azUp_nb (by omega)]; rfl
  · rw [azUp_nb (by omega), azUp_nb (by omega)]; rfl
  · rw [azUp_nb (by omega), azUp_nb (by omega)]; rfl
  · rw [azUp_nb (by omega), azUp_nb (by omega)]; rfl
  · rw [azUp_nb (by omega), azUp_nb (by omega)]; rfl
  · rw [i2, azUp_nb (by omega), azUp_nb (by omega), acI_b (by omega)]
    exact cts
  · rw [i0, List.map_append]
    refine cgs.add ?_ (fun i hi => ?_)
    · rw [azUp_nb (by omega), List.length_map, azUp_s]
    · rw [List.length_map] at hi
      rw [azUp_nb (by omega), azUp_nk hi, acI_b (by omega)]
  · rw [azUp_nb (by omega), azUp_nb (by omega), acI_b (by omega)]
  · intro b hb
    rw [azUp_nb (by omega), azUp_nb (by omega), acI_b (by omega)]
theorem S_addCondition (hR : azClosed R) (hM : RuOk kd F r) {l : List Ex} (hc : cR I r cs (exCode l)) (hk : cs.length < 12) (h : ∀ I', cR I' r (cs ++ [(1, 0, 0, l)]) [] → (∀ b, b < r ∨ r + 8 < b → I' b = I b) → Q none ((n, z, kd), I', J, F)) : R (d + 1) mX5_addCondition 0 [.ref r, .int (nI (rCode cs).length), .int (nI l.length)] [] ((n, z, kd), I, J, F) Q := by
  have hM' := hM
  have hc' := hc
  obtain ⟨k0, k1, k2, k3, k4, k5, k6, k7, k8, f6, f7, f8, f9, f10, f11, f12, f13⟩ := hM
  obtain ⟨cn, ct, cg, cc, ce, cl, cks, cps, cws, cbs, ces, cts, cgs, cco⟩ := hc
  refine BX5_addCondition_0 hR ?_
  simp (disch := omega) only [nI_ad, nI_ml, nI_lti, nI_lei, nI_eqi, nI_nn, nI_0le, nI_eq0, nI_0lt, nI_le0, nI_clamp, nI_pd, nI_sb, zOf_some, zOp_some, zOp_none, kI_int, kL_long, kO_ref, kO_null, nlt_T, nlt_F, nle_T, nle_F, neq_F, vpT, azUp_at, if_true, if_false, true_and, and_true, true_implies, false_implies, implies_true, not_true_eq_false, not_false_eq_true, true_or, or_true, false_or, or_false, and_false, false_and, eq_self, n01_0, n01_1, nm1_0, k0]
  refine S_addClause hR hM' hk cn ?_
  have g1 : acI I r cs.length (nI 1) (-(nI 1)) (-(nI 1)) (nI (rCode cs).length) (I r 5) r 3 = nI (rMany cs) := by rw [acI_r (by omega), cc]
  simp (disch := omega) only [nI_ad, nI_ml, nI_lti, nI_lei, nI_eqi, nI_nn, nI_0le, nI_eq0, nI_0lt, nI_le0, nI_clamp, nI_pd, nI_sb, zOf_some, zOp_some, zOp_none, kI_int, kL_long, kO_ref, kO_null, nlt_T, nlt_F, nle_T, nle_F, neq_F, vpT, azUp_at, if_true, if_false, true_and, and_true, true_implies, false_implies, implies_true, not_true_eq_false, not_false_eq_true, true_or, or_true, false_or, or_false, and_false, false_and, eq_self, n01_0, n01_1, nm1_0, k0, g1]
  have i0 : rIdx 2 0 (cs ++ [((1, 0, 0, l) : Cls)]) = rIdx 2 0 cs := by rw [rIdx_add, if_neg (fun h => by have h : (1 : Nat) = 2 := h; omega), List.append_nil]
  have i2 : rIdx 0 0 (cs ++ [((1, 0, 0, l) : Cls)]) = rIdx 0 0 cs := by rw [rIdx_add, if_neg (fun h => Nat.noConfusion h), List.append_nil]
  refine h _ (hc'.adds (c := ((1, 0, 0, l) : Cls)) rfl ?_ ?_ ?_ ?_ ?_ ?_ ?_ ?_ ?_ ?_ ?_ ?_ ?_ ?_) ?_
  · rw [azUp_nk (by omega), acI_0]
  · rw [azUp_nk (by omega), acI_r (by omega), ct, i2]
  · rw [azUp_nk (by omega), acI_r (by omega), cg, i0]
  · rw [azUp_s, rMany_add]; rfl
  · rw [azUp_nk (by omega), acI_r (by omega), ce, rBits_add]
    congr 1
    exact (Nat.or_zero _).symm
  · rw [azUp_nk (by omega), acI_r (by omega)]
  · rw [azUp_nb (by omega)]; rfl
  · rw [azUp_nb (by omega)]; rfl
  · rw [azUp_nb (by omega)]; rfl
  · rw [azUp_nb (by omega)]; rfl
  · rw [azUp_nb (by omega)]; rfl
  · rw [i2, azUp_nb (by omega), acI_b (by omega)]
    exact cts
  · rw [i0, azUp_nb (by omega), acI_b (by omega)]
    exact cgs
  · rw [azUp_nb (by omega), acI_b (by omega)]
  · intro b hb
    rw [azUp_nb (by omega), acI_b (by omega)]
theorem nI_or (a b : Nat) : nI a ||| nI b = nI (a ||| b) := by
  rw [← Int32.toBitVec_inj, Int32.toBitVec_or]
  exact BitVec.ofNat_or.symm
theorem nI_bit {p : Nat} (hp : p < 10) : nI 1 <<< (nI p &&& 31) = nI (2 ^ p) := by
  revert p
  decide
theorem S_addEmpty (hR : azClosed R) (hM : RuOk kd F r) {p : Nat} (hp : p < 10) (hc : cR I r cs []) (hk : cs.length < 12) (h : ∀ I', cR I' r (cs ++ [(3, p, 0, [])]) [] → (∀ b, b < r ∨ r + 8 < b → I' b = I b) → Q none ((n, z, kd), I', J, F)) : R (d + 1) mX5_addEmpty 0 [.ref r, .int (nI p)] [] ((n, z, kd), I, J, F) Q := by
  have hM' := hM
  have hc' := hc
  obtain ⟨k0, k1, k2, k3, k4, k5, k6, k7, k8, f6, f7, f8, f9, f10, f11, f12, f13⟩ := hM
  obtain ⟨cn, ct, cg, cc, ce, cl, cks, cps, cws, cbs, ces, cts, cgs, cco⟩ := hc
  refine BX5_addEmpty_0 hR (S_isPlace hR ?_)
  unfold isP
  rw [ix_nI (by decide) hp]
  dsimp only
  simp (disch := omega) only [nI_ad, nI_ml, nI_lti, nI_lei, nI_eqi, nI_nn, nI_0le, nI_eq0, nI_0lt, nI_le0, nI_clamp, nI_pd, nI_sb, zOf_some, zOp_some, zOp_none, kI_int, kL_long, kO_ref, kO_null, nlt_T, nlt_F, nle_T, nle_F, neq_F, vpT, azUp_at, if_true, if_false, true_and, and_true, true_implies, false_implies, implies_true, not_true_eq_false, not_false_eq_true, true_or, or_true, false_or, or_false, and_false, false_and, eq_self, n01_0, n01_1, nm1_0, k0]
  refine S_addClause hR hM' hk cn ?_
  have g1 : acI I r cs.length (nI 3) (nI p) (-(nI 1)) (I r 5) (I r 5) r 4 = nI (rBits cs) := by rw [acI_r (by omega), ce]
  have eb : I r 5 = nI (rCode cs).length := by rw [cl, List.append_nil]
  simp (disch := omega) only [nI_ad, nI_ml, nI_lti, nI_lei, nI_eqi, nI_nn, nI_0le, nI_eq0, nI_0lt, nI_le0, nI_clamp, nI_pd, nI_sb, zOf_some, zOp_some, zOp_none, kI_int, kL_long, kO_ref, kO_null, nlt_T, nlt_F, nle_T, nle_F, neq_F, vpT, azUp_at, if_true, if_false, true_and, and_true, true_implies, false_implies, implies_true, not_true_eq_false, not_false_eq_true, true_or, or_true, false_or, or_false, and_false, false_and, eq_self, n01_0, n01_1, nm1_0, k0, g1, nI_bit, nI_or]
  have i0 : rIdx 2 0 (cs ++ [((3, p, 0, []) : Cls)]) = rIdx 2 0 cs := by rw [rIdx_add, if_neg (fun h => by have h : (3 : Nat) = 2 := h; omega), List.append_nil]
  have i2 : rIdx 0 0 (cs ++ [((3, p, 0, []) : Cls)]) = rIdx 0 0 cs := by rw [rIdx_add, if_neg (fun h => Nat.noConfusion h), List.append_nil]
  refine h _ (hc'.adds (c := ((3, p, 0, []) : Cls)) rfl ?_ ?_ ?_ ?_ ?_ ?_ ?_ ?_ ?_ ?_ ?_ ?_ ?_ ?_) ?_
  · rw [azUp_nk (by omega), acI_0]
  · rw [azUp_nk (by omega), acI_r (by omega), ct, i2]
  · rw [azUp_nk (by omega), acI_r (by omega), cg, i0]
  · rw [azUp_nk (by omega), acI_r (by omega), cc, rMany_add]; rfl
  · rw [azUp_s, rBits_add]; rfl
  · rw [azUp_nk (by omega), acI_r (by omega)]
  · rw [azUp_nb (by omega), ← eb]; rfl
  · rw [azUp_nb (by omega), ← eb]; rfl
  · rw [azUp_nb (by omega), ← eb]; rfl
  · rw [azUp_nb (by omega), ← eb]; rfl
  · rw [azUp_nb (by omega), ← eb]; rfl
  · rw [i2, azUp_nb (by omega), acI_b (by omega)]
    exact cts
  · rw [i0, azUp_nb (by omega), acI_b (by omega)]
    exact cgs
  · rw [azUp_nb (by omega), acI_b (by omega)]
  · intro b hb
    rw [azUp_nb (by omega), acI_b (by omega)]
end S5
end
