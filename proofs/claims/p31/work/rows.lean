section
-- ===== PART A: goes FIRST, ahead of the names: the tables' words, and 'selects' of the private methods out of them =====
/-- a private method of a class that the tables say can be made, by its rows of tables_1 -/
def lw_okq (q : MethodName × Nat) : Prop := (q.1.cls ≠ "java/lang/invoke/MethodHandle" ∧ q.1.cls ≠ "java/lang/invoke/VarHandle") ∧ Cond.instantiable q.1.cls q.2 ∈ tables_1 ∧ Cond.privateMethod q.1 ∈ tables_1 ∧ Cond.instanceMethod q.1 ∈ tables_1
theorem lw_p0 : lw_okq (⟨"LinkElection$History", "bringBack", "(LLinkElection$Data;)Z"⟩, 3) := ⟨⟨by decide +kernel, by decide +kernel⟩, List.mem_of_getElem? (i := 263) (by decide +kernel), List.mem_of_getElem? (i := 323) (by decide +kernel), List.mem_of_getElem? (i := 324) (by decide +kernel)⟩
theorem lw_p1 : lw_okq (⟨"LinkElection$Data", "copyFrom", "(LLinkElection$Data;)V"⟩, 5) := ⟨⟨by decide +kernel, by decide +kernel⟩, List.mem_of_getElem? (i := 83) (by decide +kernel), List.mem_of_getElem? (i := 327) (by decide +kernel), List.mem_of_getElem? (i := 328) (by decide +kernel)⟩
theorem lw_p2 : lw_okq (⟨"LinkElection$Library", "copyFrom", "(LLinkElection$Library;)V"⟩, 6) := ⟨⟨by decide +kernel, by decide +kernel⟩, List.mem_of_getElem? (i := 104) (by decide +kernel), List.mem_of_getElem? (i := 331) (by decide +kernel), List.mem_of_getElem? (i := 332) (by decide +kernel)⟩
theorem lw_p3 : lw_okq (⟨"LinkElection$Election", "count", "(LLinkElection$Data;)V"⟩, 7) := ⟨⟨by decide +kernel, by decide +kernel⟩, List.mem_of_getElem? (i := 213) (by decide +kernel), List.mem_of_getElem? (i := 338) (by decide +kernel), List.mem_of_getElem? (i := 339) (by decide +kernel)⟩
theorem lw_p4 : lw_okq (⟨"LinkElection$Library", "isLoaded", "()Z"⟩, 6) := ⟨⟨by decide +kernel, by decide +kernel⟩, List.mem_of_getElem? (i := 104) (by decide +kernel), List.mem_of_getElem? (i := 342) (by decide +kernel), List.mem_of_getElem? (i := 343) (by decide +kernel)⟩
theorem lw_p5 : lw_okq (⟨"LinkElection$Data", "weightOf", "(I)I"⟩, 5) := ⟨⟨by decide +kernel, by decide +kernel⟩, List.mem_of_getElem? (i := 83) (by decide +kernel), List.mem_of_getElem? (i := 346) (by decide +kernel), List.mem_of_getElem? (i := 347) (by decide +kernel)⟩
theorem lw_p6 : lw_okq (⟨"LinkElection$Library", "countOffers", "()I"⟩, 6) := ⟨⟨by decide +kernel, by decide +kernel⟩, List.mem_of_getElem? (i := 104) (by decide +kernel), List.mem_of_getElem? (i := 350) (by decide +kernel), List.mem_of_getElem? (i := 351) (by decide +kernel)⟩
theorem lw_p7 : lw_okq (⟨"LinkElection$Library", "hasOffer", "(I)Z"⟩, 6) := ⟨⟨by decide +kernel, by decide +kernel⟩, List.mem_of_getElem? (i := 104) (by decide +kernel), List.mem_of_getElem? (i := 354) (by decide +kernel), List.mem_of_getElem? (i := 355) (by decide +kernel)⟩
theorem lw_p8 : lw_okq (⟨"LinkElection$Data", "friendsOf", "(I)I"⟩, 5) := ⟨⟨by decide +kernel, by decide +kernel⟩, List.mem_of_getElem? (i := 83) (by decide +kernel), List.mem_of_getElem? (i := 358) (by decide +kernel), List.mem_of_getElem? (i := 359) (by decide +kernel)⟩
theorem lw_p9 : lw_okq (⟨"LinkElection$Library", "prefers", "(I)Z"⟩, 6) := ⟨⟨by decide +kernel, by decide +kernel⟩, List.mem_of_getElem? (i := 104) (by decide +kernel), List.mem_of_getElem? (i := 363) (by decide +kernel), List.mem_of_getElem? (i := 364) (by decide +kernel)⟩
theorem lw_p10 : lw_okq (⟨"LinkElection$Weight", "valueOf", "(IIII)I"⟩, 2) := ⟨⟨by decide +kernel, by decide +kernel⟩, List.mem_of_getElem? (i := 91) (by decide +kernel), List.mem_of_getElem? (i := 367) (by decide +kernel), List.mem_of_getElem? (i := 368) (by decide +kernel)⟩
theorem lw_p11 : lw_okq (⟨"LinkElection$Election", "countCandidates", "(LLinkElection$Data;I)V"⟩, 7) := ⟨⟨by decide +kernel, by decide +kernel⟩, List.mem_of_getElem? (i := 213) (by decide +kernel), List.mem_of_getElem? (i := 388) (by decide +kernel), List.mem_of_getElem? (i := 389) (by decide +kernel)⟩
theorem lw_p12 : lw_okq (⟨"LinkElection$Data", "isCandidate", "(II)Z"⟩, 5) := ⟨⟨by decide +kernel, by decide +kernel⟩, List.mem_of_getElem? (i := 83) (by decide +kernel), List.mem_of_getElem? (i := 392) (by decide +kernel), List.mem_of_getElem? (i := 393) (by decide +kernel)⟩
theorem lw_p13 : lw_okq (⟨"LinkElection$Election", "countVotes", "(LLinkElection$Data;I)V"⟩, 7) := ⟨⟨by decide +kernel, by decide +kernel⟩, List.mem_of_getElem? (i := 213) (by decide +kernel), List.mem_of_getElem? (i := 400) (by decide +kernel), List.mem_of_getElem? (i := 401) (by decide +kernel)⟩
theorem lw_p14 : lw_okq (⟨"LinkElection$Election", "countWinner", "(LLinkElection$Data;I)V"⟩, 7) := ⟨⟨by decide +kernel, by decide +kernel⟩, List.mem_of_getElem? (i := 213) (by decide +kernel), List.mem_of_getElem? (i := 408) (by decide +kernel), List.mem_of_getElem? (i := 409) (by decide +kernel)⟩
theorem lw_p15 : lw_okq (⟨"LinkElection$Election", "isAhead", "(LLinkElection$Data;III)Z"⟩, 7) := ⟨⟨by decide +kernel, by decide +kernel⟩, List.mem_of_getElem? (i := 213) (by decide +kernel), List.mem_of_getElem? (i := 412) (by decide +kernel), List.mem_of_getElem? (i := 413) (by decide +kernel)⟩
def lw_privs_1 : List (MethodName × Nat) := [(⟨"LinkElection$History", "bringBack", "(LLinkElection$Data;)Z"⟩, 3), (⟨"LinkElection$Data", "copyFrom", "(LLinkElection$Data;)V"⟩, 5), (⟨"LinkElection$Library", "copyFrom", "(LLinkElection$Library;)V"⟩, 6), (⟨"LinkElection$Election", "count", "(LLinkElection$Data;)V"⟩, 7), (⟨"LinkElection$Library", "isLoaded", "()Z"⟩, 6), (⟨"LinkElection$Data", "weightOf", "(I)I"⟩, 5), (⟨"LinkElection$Library", "countOffers", "()I"⟩, 6), (⟨"LinkElection$Library", "hasOffer", "(I)Z"⟩, 6), (⟨"LinkElection$Data", "friendsOf", "(I)I"⟩, 5), (⟨"LinkElection$Library", "prefers", "(I)Z"⟩, 6), (⟨"LinkElection$Weight", "valueOf", "(IIII)I"⟩, 2), (⟨"LinkElection$Election", "countCandidates", "(LLinkElection$Data;I)V"⟩, 7), (⟨"LinkElection$Data", "isCandidate", "(II)Z"⟩, 5), (⟨"LinkElection$Election", "countVotes", "(LLinkElection$Data;I)V"⟩, 7), (⟨"LinkElection$Election", "countWinner", "(LLinkElection$Data;I)V"⟩, 7), (⟨"LinkElection$Election", "isAhead", "(LLinkElection$Data;III)Z"⟩, 7)]
theorem lw_r1 : ∀ q ∈ lw_privs_1, lw_okq q := List.forall_mem_cons.mpr ⟨lw_p0, List.forall_mem_cons.mpr ⟨lw_p1, List.forall_mem_cons.mpr ⟨lw_p2, List.forall_mem_cons.mpr ⟨lw_p3, List.forall_mem_cons.mpr ⟨lw_p4, List.forall_mem_cons.mpr ⟨lw_p5, List.forall_mem_cons.mpr ⟨lw_p6, List.forall_mem_cons.mpr ⟨lw_p7, List.forall_mem_cons.mpr ⟨lw_p8, List.forall_mem_cons.mpr ⟨lw_p9, List.forall_mem_cons.mpr ⟨lw_p10, List.forall_mem_cons.mpr ⟨lw_p11, List.forall_mem_cons.mpr ⟨lw_p12, List.forall_mem_cons.mpr ⟨lw_p13, List.forall_mem_cons.mpr ⟨lw_p14, List.forall_mem_cons.mpr ⟨lw_p15, fun _ h => absurd h List.not_mem_nil⟩⟩⟩⟩⟩⟩⟩⟩⟩⟩⟩⟩⟩⟩⟩⟩
theorem lw_p16 : lw_okq (⟨"LinkElection$Election", "countMargin", "(LLinkElection$Data;I)V"⟩, 7) := ⟨⟨by decide +kernel, by decide +kernel⟩, List.mem_of_getElem? (i := 213) (by decide +kernel), List.mem_of_getElem? (i := 416) (by decide +kernel), List.mem_of_getElem? (i := 417) (by decide +kernel)⟩
theorem lw_p17 : lw_okq (⟨"LinkElection$Election", "countBindings", "(LLinkElection$Data;I)V"⟩, 7) := ⟨⟨by decide +kernel, by decide +kernel⟩, List.mem_of_getElem? (i := 213) (by decide +kernel), List.mem_of_getElem? (i := 423) (by decide +kernel), List.mem_of_getElem? (i := 424) (by decide +kernel)⟩
theorem lw_p18 : lw_okq (⟨"LinkElection$Election", "isLargeEnough", "(IIII)Z"⟩, 7) := ⟨⟨by decide +kernel, by decide +kernel⟩, List.mem_of_getElem? (i := 213) (by decide +kernel), List.mem_of_getElem? (i := 427) (by decide +kernel), List.mem_of_getElem? (i := 428) (by decide +kernel)⟩
theorem lw_p19 : lw_okq (⟨"java/lang/Throwable", "fillInStackTrace", "(I)Ljava/lang/Throwable;"⟩, 6) := ⟨⟨by decide +kernel, by decide +kernel⟩, List.mem_of_getElem? (i := 624) (by decide +kernel), List.mem_of_getElem? (i := 622) (by decide +kernel), List.mem_of_getElem? (i := 623) (by decide +kernel)⟩
theorem lw_p20 : lw_okq (⟨"LinkElection$SetupReader", "readText", "([BI)Z"⟩, 11) := ⟨⟨by decide +kernel, by decide +kernel⟩, List.mem_of_getElem? (i := 41) (by decide +kernel), List.mem_of_getElem? (i := 653) (by decide +kernel), List.mem_of_getElem? (i := 654) (by decide +kernel)⟩
theorem lw_p21 : lw_okq (⟨"LinkElection$Data", "clear", "()V"⟩, 5) := ⟨⟨by decide +kernel, by decide +kernel⟩, List.mem_of_getElem? (i := 83) (by decide +kernel), List.mem_of_getElem? (i := 657) (by decide +kernel), List.mem_of_getElem? (i := 658) (by decide +kernel)⟩
theorem lw_p22 : lw_okq (⟨"LinkElection$SetupReader", "addCode", "(I)V"⟩, 11) := ⟨⟨by decide +kernel, by decide +kernel⟩, List.mem_of_getElem? (i := 41) (by decide +kernel), List.mem_of_getElem? (i := 661) (by decide +kernel), List.mem_of_getElem? (i := 662) (by decide +kernel)⟩
theorem lw_p23 : lw_okq (⟨"LinkElection$Tokens", "startText", "([BI)V"⟩, 8) := ⟨⟨by decide +kernel, by decide +kernel⟩, List.mem_of_getElem? (i := 47) (by decide +kernel), List.mem_of_getElem? (i := 665) (by decide +kernel), List.mem_of_getElem? (i := 666) (by decide +kernel)⟩
theorem lw_p24 : lw_okq (⟨"LinkElection$Tokens", "advance", "()V"⟩, 8) := ⟨⟨by decide +kernel, by decide +kernel⟩, List.mem_of_getElem? (i := 47) (by decide +kernel), List.mem_of_getElem? (i := 673) (by decide +kernel), List.mem_of_getElem? (i := 674) (by decide +kernel)⟩
theorem lw_p25 : lw_okq (⟨"LinkElection$Tokens", "runOf", "(CC)I"⟩, 8) := ⟨⟨by decide +kernel, by decide +kernel⟩, List.mem_of_getElem? (i := 47) (by decide +kernel), List.mem_of_getElem? (i := 677) (by decide +kernel), List.mem_of_getElem? (i := 678) (by decide +kernel)⟩
theorem lw_p26 : lw_okq (⟨"LinkElection$Tokens", "takeWord", "(I)V"⟩, 8) := ⟨⟨by decide +kernel, by decide +kernel⟩, List.mem_of_getElem? (i := 47) (by decide +kernel), List.mem_of_getElem? (i := 681) (by decide +kernel), List.mem_of_getElem? (i := 682) (by decide +kernel)⟩
theorem lw_p27 : lw_okq (⟨"LinkElection$Tokens", "takeNumber", "(I)V"⟩, 8) := ⟨⟨by decide +kernel, by decide +kernel⟩, List.mem_of_getElem? (i := 47) (by decide +kernel), List.mem_of_getElem? (i := 685) (by decide +kernel), List.mem_of_getElem? (i := 686) (by decide +kernel)⟩
theorem lw_p28 : lw_okq (⟨"LinkElection$SetupReader", "readKeyword", "(Ljava/lang/String;)Z"⟩, 11) := ⟨⟨by decide +kernel, by decide +kernel⟩, List.mem_of_getElem? (i := 41) (by decide +kernel), List.mem_of_getElem? (i := 691) (by decide +kernel), List.mem_of_getElem? (i := 692) (by decide +kernel)⟩
theorem lw_p29 : lw_okq (⟨"LinkElection$Tokens", "isWord", "(Ljava/lang/String;)Z"⟩, 8) := ⟨⟨by decide +kernel, by decide +kernel⟩, List.mem_of_getElem? (i := 47) (by decide +kernel), List.mem_of_getElem? (i := 695) (by decide +kernel), List.mem_of_getElem? (i := 696) (by decide +kernel)⟩
theorem lw_p30 : lw_okq (⟨"LinkElection$SetupReader", "syntaxError", "()Z"⟩, 11) := ⟨⟨by decide +kernel, by decide +kernel⟩, List.mem_of_getElem? (i := 41) (by decide +kernel), List.mem_of_getElem? (i := 750) (by decide +kernel), List.mem_of_getElem? (i := 751) (by decide +kernel)⟩
theorem lw_p31 : lw_okq (⟨"LinkElection$SetupReader", "error", "(I)Z"⟩, 11) := ⟨⟨by decide +kernel, by decide +kernel⟩, List.mem_of_getElem? (i := 41) (by decide +kernel), List.mem_of_getElem? (i := 754) (by decide +kernel), List.mem_of_getElem? (i := 755) (by decide +kernel)⟩
def lw_privs_2 : List (MethodName × Nat) := [(⟨"LinkElection$Election", "countMargin", "(LLinkElection$Data;I)V"⟩, 7), (⟨"LinkElection$Election", "countBindings", "(LLinkElection$Data;I)V"⟩, 7), (⟨"LinkElection$Election", "isLargeEnough", "(IIII)Z"⟩, 7), (⟨"java/lang/Throwable", "fillInStackTrace", "(I)Ljava/lang/Throwable;"⟩, 6), (⟨"LinkElection$SetupReader", "readText", "([BI)Z"⟩, 11), (⟨"LinkElection$Data", "clear", "()V"⟩, 5), (⟨"LinkElection$SetupReader", "addCode", "(I)V"⟩, 11), (⟨"LinkElection$Tokens", "startText", "([BI)V"⟩, 8), (⟨"LinkElection$Tokens", "advance", "()V"⟩, 8), (⟨"LinkElection$Tokens", "runOf", "(CC)I"⟩, 8), (⟨"LinkElection$Tokens", "takeWord", "(I)V"⟩, 8), (⟨"LinkElection$Tokens", "takeNumber", "(I)V"⟩, 8), (⟨"LinkElection$SetupReader", "readKeyword", "(Ljava/lang/String;)Z"⟩, 11), (⟨"LinkElection$Tokens", "isWord", "(Ljava/lang/String;)Z"⟩, 8), (⟨"LinkElection$SetupReader", "syntaxError", "()Z"⟩, 11), (⟨"LinkElection$SetupReader", "error", "(I)Z"⟩, 11)]
theorem lw_r2 : ∀ q ∈ lw_privs_2, lw_okq q := List.forall_mem_cons.mpr ⟨lw_p16, List.forall_mem_cons.mpr ⟨lw_p17, List.forall_mem_cons.mpr ⟨lw_p18, List.forall_mem_cons.mpr ⟨lw_p19, List.forall_mem_cons.mpr ⟨lw_p20, List.forall_mem_cons.mpr ⟨lw_p21, List.forall_mem_cons.mpr ⟨lw_p22, List.forall_mem_cons.mpr ⟨lw_p23, List.forall_mem_cons.mpr ⟨lw_p24, List.forall_mem_cons.mpr ⟨lw_p25, List.forall_mem_cons.mpr ⟨lw_p26, List.forall_mem_cons.mpr ⟨lw_p27, List.forall_mem_cons.mpr ⟨lw_p28, List.forall_mem_cons.mpr ⟨lw_p29, List.forall_mem_cons.mpr ⟨lw_p30, List.forall_mem_cons.mpr ⟨lw_p31, fun _ h => absurd h List.not_mem_nil⟩⟩⟩⟩⟩⟩⟩⟩⟩⟩⟩⟩⟩⟩⟩⟩
theorem lw_p32 : lw_okq (⟨"LinkElection$SetupReader", "readSign", "(C)Z"⟩, 11) := ⟨⟨by decide +kernel, by decide +kernel⟩, List.mem_of_getElem? (i := 41) (by decide +kernel), List.mem_of_getElem? (i := 759) (by decide +kernel), List.mem_of_getElem? (i := 760) (by decide +kernel)⟩
theorem lw_p33 : lw_okq (⟨"LinkElection$Tokens", "isSign", "(C)Z"⟩, 8) := ⟨⟨by decide +kernel, by decide +kernel⟩, List.mem_of_getElem? (i := 47) (by decide +kernel), List.mem_of_getElem? (i := 763) (by decide +kernel), List.mem_of_getElem? (i := 764) (by decide +kernel)⟩
theorem lw_p34 : lw_okq (⟨"LinkElection$SetupReader", "readStatement", "()Z"⟩, 11) := ⟨⟨by decide +kernel, by decide +kernel⟩, List.mem_of_getElem? (i := 41) (by decide +kernel), List.mem_of_getElem? (i := 767) (by decide +kernel), List.mem_of_getElem? (i := 768) (by decide +kernel)⟩
theorem lw_p35 : lw_okq (⟨"LinkElection$SetupReader", "readNewName", "()Z"⟩, 11) := ⟨⟨by decide +kernel, by decide +kernel⟩, List.mem_of_getElem? (i := 41) (by decide +kernel), List.mem_of_getElem? (i := 772) (by decide +kernel), List.mem_of_getElem? (i := 773) (by decide +kernel)⟩
theorem lw_p36 : lw_okq (⟨"LinkElection$SetupReader", "readNewWord", "([JI)Z"⟩, 11) := ⟨⟨by decide +kernel, by decide +kernel⟩, List.mem_of_getElem? (i := 41) (by decide +kernel), List.mem_of_getElem? (i := 776) (by decide +kernel), List.mem_of_getElem? (i := 777) (by decide +kernel)⟩
theorem lw_p37 : lw_okq (⟨"LinkElection$SetupReader", "indexOfWord", "([JI)I"⟩, 11) := ⟨⟨by decide +kernel, by decide +kernel⟩, List.mem_of_getElem? (i := 41) (by decide +kernel), List.mem_of_getElem? (i := 780) (by decide +kernel), List.mem_of_getElem? (i := 781) (by decide +kernel)⟩
theorem lw_p38 : lw_okq (⟨"LinkElection$SetupReader", "readNewLibrary", "()Z"⟩, 11) := ⟨⟨by decide +kernel, by decide +kernel⟩, List.mem_of_getElem? (i := 41) (by decide +kernel), List.mem_of_getElem? (i := 785) (by decide +kernel), List.mem_of_getElem? (i := 786) (by decide +kernel)⟩
theorem lw_p39 : lw_okq (⟨"LinkElection$SetupReader", "readNumber", "(I)Z"⟩, 11) := ⟨⟨by decide +kernel, by decide +kernel⟩, List.mem_of_getElem? (i := 41) (by decide +kernel), List.mem_of_getElem? (i := 789) (by decide +kernel), List.mem_of_getElem? (i := 790) (by decide +kernel)⟩
theorem lw_p40 : lw_okq (⟨"LinkElection$Library", "startAs", "(II)V"⟩, 6) := ⟨⟨by decide +kernel, by decide +kernel⟩, List.mem_of_getElem? (i := 104) (by decide +kernel), List.mem_of_getElem? (i := 793) (by decide +kernel), List.mem_of_getElem? (i := 794) (by decide +kernel)⟩
theorem lw_p41 : lw_okq (⟨"LinkElection$SetupReader", "readOffer", "()Z"⟩, 11) := ⟨⟨by decide +kernel, by decide +kernel⟩, List.mem_of_getElem? (i := 41) (by decide +kernel), List.mem_of_getElem? (i := 802) (by decide +kernel), List.mem_of_getElem? (i := 803) (by decide +kernel)⟩
theorem lw_p42 : lw_okq (⟨"LinkElection$SetupReader", "findLibrary", "()Z"⟩, 11) := ⟨⟨by decide +kernel, by decide +kernel⟩, List.mem_of_getElem? (i := 41) (by decide +kernel), List.mem_of_getElem? (i := 806) (by decide +kernel), List.mem_of_getElem? (i := 807) (by decide +kernel)⟩
theorem lw_p43 : lw_okq (⟨"LinkElection$SetupReader", "findWord", "([JI)Z"⟩, 11) := ⟨⟨by decide +kernel, by decide +kernel⟩, List.mem_of_getElem? (i := 41) (by decide +kernel), List.mem_of_getElem? (i := 810) (by decide +kernel), List.mem_of_getElem? (i := 811) (by decide +kernel)⟩
theorem lw_p44 : lw_okq (⟨"LinkElection$SetupReader", "findName", "()Z"⟩, 11) := ⟨⟨by decide +kernel, by decide +kernel⟩, List.mem_of_getElem? (i := 41) (by decide +kernel), List.mem_of_getElem? (i := 814) (by decide +kernel), List.mem_of_getElem? (i := 815) (by decide +kernel)⟩
theorem lw_p45 : lw_okq (⟨"LinkElection$SetupReader", "readPrefer", "()Z"⟩, 11) := ⟨⟨by decide +kernel, by decide +kernel⟩, List.mem_of_getElem? (i := 41) (by decide +kernel), List.mem_of_getElem? (i := 821) (by decide +kernel), List.mem_of_getElem? (i := 822) (by decide +kernel)⟩
theorem lw_p46 : lw_okq (⟨"LinkElection$Library", "addPreference", "(I)V"⟩, 6) := ⟨⟨by decide +kernel, by decide +kernel⟩, List.mem_of_getElem? (i := 104) (by decide +kernel), List.mem_of_getElem? (i := 826) (by decide +kernel), List.mem_of_getElem? (i := 827) (by decide +kernel)⟩
theorem lw_p47 : lw_okq (⟨"LinkElection$SetupReader", "readShare", "()Z"⟩, 11) := ⟨⟨by decide +kernel, by decide +kernel⟩, List.mem_of_getElem? (i := 41) (by decide +kernel), List.mem_of_getElem? (i := 831) (by decide +kernel), List.mem_of_getElem? (i := 832) (by decide +kernel)⟩
def lw_privs_3 : List (MethodName × Nat) := [(⟨"LinkElection$SetupReader", "readSign", "(C)Z"⟩, 11), (⟨"LinkElection$Tokens", "isSign", "(C)Z"⟩, 8), (⟨"LinkElection$SetupReader", "readStatement", "()Z"⟩, 11), (⟨"LinkElection$SetupReader", "readNewName", "()Z"⟩, 11), (⟨"LinkElection$SetupReader", "readNewWord", "([JI)Z"⟩, 11), (⟨"LinkElection$SetupReader", "indexOfWord", "([JI)I"⟩, 11), (⟨"LinkElection$SetupReader", "readNewLibrary", "()Z"⟩, 11), (⟨"LinkElection$SetupReader", "readNumber", "(I)Z"⟩, 11), (⟨"LinkElection$Library", "startAs", "(II)V"⟩, 6), (⟨"LinkElection$SetupReader", "readOffer", "()Z"⟩, 11), (⟨"LinkElection$SetupReader", "findLibrary", "()Z"⟩, 11), (⟨"LinkElection$SetupReader", "findWord", "([JI)Z"⟩, 11), (⟨"LinkElection$SetupReader", "findName", "()Z"⟩, 11), (⟨"LinkElection$SetupReader", "readPrefer", "()Z"⟩, 11), (⟨"LinkElection$Library", "addPreference", "(I)V"⟩, 6), (⟨"LinkElection$SetupReader", "readShare", "()Z"⟩, 11)]
theorem lw_r3 : ∀ q ∈ lw_privs_3, lw_okq q := List.forall_mem_cons.mpr ⟨lw_p32, List.forall_mem_cons.mpr ⟨lw_p33, List.forall_mem_cons.mpr ⟨lw_p34, List.forall_mem_cons.mpr ⟨lw_p35, List.forall_mem_cons.mpr ⟨lw_p36, List.forall_mem_cons.mpr ⟨lw_p37, List.forall_mem_cons.mpr ⟨lw_p38, List.forall_mem_cons.mpr ⟨lw_p39, List.forall_mem_cons.mpr ⟨lw_p40, List.forall_mem_cons.mpr ⟨lw_p41, List.forall_mem_cons.mpr ⟨lw_p42, List.forall_mem_cons.mpr ⟨lw_p43, List.forall_mem_cons.mpr ⟨lw_p44, List.forall_mem_cons.mpr ⟨lw_p45, List.forall_mem_cons.mpr ⟨lw_p46, List.forall_mem_cons.mpr ⟨lw_p47, fun _ h => absurd h List.not_mem_nil⟩⟩⟩⟩⟩⟩⟩⟩⟩⟩⟩⟩⟩⟩⟩⟩
theorem lw_p48 : lw_okq (⟨"LinkElection$SetupReader", "readWeight", "()Z"⟩, 11) := ⟨⟨by decide +kernel, by decide +kernel⟩, List.mem_of_getElem? (i := 41) (by decide +kernel), List.mem_of_getElem? (i := 836) (by decide +kernel), List.mem_of_getElem? (i := 837) (by decide +kernel)⟩
theorem lw_p49 : lw_okq (⟨"LinkElection$SetupReader", "readSum", "(I)Z"⟩, 11) := ⟨⟨by decide +kernel, by decide +kernel⟩, List.mem_of_getElem? (i := 41) (by decide +kernel), List.mem_of_getElem? (i := 840) (by decide +kernel), List.mem_of_getElem? (i := 841) (by decide +kernel)⟩
theorem lw_p50 : lw_okq (⟨"LinkElection$SetupReader", "readTerm", "(I)Z"⟩, 11) := ⟨⟨by decide +kernel, by decide +kernel⟩, List.mem_of_getElem? (i := 41) (by decide +kernel), List.mem_of_getElem? (i := 844) (by decide +kernel), List.mem_of_getElem? (i := 845) (by decide +kernel)⟩
theorem lw_p51 : lw_okq (⟨"LinkElection$SetupReader", "readFactor", "(I)Z"⟩, 11) := ⟨⟨by decide +kernel, by decide +kernel⟩, List.mem_of_getElem? (i := 41) (by decide +kernel), List.mem_of_getElem? (i := 848) (by decide +kernel), List.mem_of_getElem? (i := 849) (by decide +kernel)⟩
theorem lw_p52 : lw_okq (⟨"LinkElection$SetupReader", "quantityCode", "()I"⟩, 11) := ⟨⟨by decide +kernel, by decide +kernel⟩, List.mem_of_getElem? (i := 41) (by decide +kernel), List.mem_of_getElem? (i := 852) (by decide +kernel), List.mem_of_getElem? (i := 853) (by decide +kernel)⟩
theorem lw_p53 : lw_okq (⟨"LinkElection", "beginChange", "()V"⟩, 9) := ⟨⟨by decide +kernel, by decide +kernel⟩, List.mem_of_getElem? (i := 33) (by decide +kernel), List.mem_of_getElem? (i := 869) (by decide +kernel), List.mem_of_getElem? (i := 870) (by decide +kernel)⟩
theorem lw_p54 : lw_okq (⟨"LinkElection$History", "keep", "(LLinkElection$Data;)V"⟩, 3) := ⟨⟨by decide +kernel, by decide +kernel⟩, List.mem_of_getElem? (i := 263) (by decide +kernel), List.mem_of_getElem? (i := 873) (by decide +kernel), List.mem_of_getElem? (i := 874) (by decide +kernel)⟩
theorem lw_p55 : lw_okq (⟨"LinkElection", "requireName", "(I)V"⟩, 9) := ⟨⟨by decide +kernel, by decide +kernel⟩, List.mem_of_getElem? (i := 33) (by decide +kernel), List.mem_of_getElem? (i := 888) (by decide +kernel), List.mem_of_getElem? (i := 889) (by decide +kernel)⟩
theorem lw_p56 : lw_okq (⟨"LinkElection", "requireLibrary", "(I)V"⟩, 9) := ⟨⟨by decide +kernel, by decide +kernel⟩, List.mem_of_getElem? (i := 33) (by decide +kernel), List.mem_of_getElem? (i := 925) (by decide +kernel), List.mem_of_getElem? (i := 926) (by decide +kernel)⟩
theorem lw_p57 : lw_okq (⟨"LinkElection$Route", "follow", "(LLinkElection$Data;LLinkElection$Election;II)V"⟩, 3) := ⟨⟨by decide +kernel, by decide +kernel⟩, List.mem_of_getElem? (i := 246) (by decide +kernel), List.mem_of_getElem? (i := 930) (by decide +kernel), List.mem_of_getElem? (i := 931) (by decide +kernel)⟩
theorem lw_p58 : lw_okq (⟨"LinkElection$Data", "takeOut", "(I)V"⟩, 5) := ⟨⟨by decide +kernel, by decide +kernel⟩, List.mem_of_getElem? (i := 83) (by decide +kernel), List.mem_of_getElem? (i := 960) (by decide +kernel), List.mem_of_getElem? (i := 961) (by decide +kernel)⟩
theorem lw_p59 : lw_okq (⟨"LinkElection", "changedBindingsOfAll", "()I"⟩, 9) := ⟨⟨by decide +kernel, by decide +kernel⟩, List.mem_of_getElem? (i := 33) (by decide +kernel), List.mem_of_getElem? (i := 964) (by decide +kernel), List.mem_of_getElem? (i := 965) (by decide +kernel)⟩
theorem lw_p60 : lw_okq (⟨"LinkElection", "changedBindings", "(I)I"⟩, 9) := ⟨⟨by decide +kernel, by decide +kernel⟩, List.mem_of_getElem? (i := 33) (by decide +kernel), List.mem_of_getElem? (i := 968) (by decide +kernel), List.mem_of_getElem? (i := 969) (by decide +kernel)⟩
theorem lw_p61 : lw_okq (⟨"LinkElection$Data", "takeIn", "(I)V"⟩, 5) := ⟨⟨by decide +kernel, by decide +kernel⟩, List.mem_of_getElem? (i := 83) (by decide +kernel), List.mem_of_getElem? (i := 981) (by decide +kernel), List.mem_of_getElem? (i := 982) (by decide +kernel)⟩
theorem lw_p62 : lw_okq (⟨"LinkElection", "changeOffer", "(III)I"⟩, 9) := ⟨⟨by decide +kernel, by decide +kernel⟩, List.mem_of_getElem? (i := 33) (by decide +kernel), List.mem_of_getElem? (i := 993) (by decide +kernel), List.mem_of_getElem? (i := 994) (by decide +kernel)⟩
theorem lw_p63 : lw_okq (⟨"LinkElection", "putBytes", "(I)V"⟩, 9) := ⟨⟨by decide +kernel, by decide +kernel⟩, List.mem_of_getElem? (i := 33) (by decide +kernel), List.mem_of_getElem? (i := 1058) (by decide +kernel), List.mem_of_getElem? (i := 1059) (by decide +kernel)⟩
def lw_privs_4 : List (MethodName × Nat) := [(⟨"LinkElection$SetupReader", "readWeight", "()Z"⟩, 11), (⟨"LinkElection$SetupReader", "readSum", "(I)Z"⟩, 11), (⟨"LinkElection$SetupReader", "readTerm", "(I)Z"⟩, 11), (⟨"LinkElection$SetupReader", "readFactor", "(I)Z"⟩, 11), (⟨"LinkElection$SetupReader", "quantityCode", "()I"⟩, 11), (⟨"LinkElection", "beginChange", "()V"⟩, 9), (⟨"LinkElection$History", "keep", "(LLinkElection$Data;)V"⟩, 3), (⟨"LinkElection", "requireName", "(I)V"⟩, 9), (⟨"LinkElection", "requireLibrary", "(I)V"⟩, 9), (⟨"LinkElection$Route", "follow", "(LLinkElection$Data;LLinkElection$Election;II)V"⟩, 3), (⟨"LinkElection$Data", "takeOut", "(I)V"⟩, 5), (⟨"LinkElection", "changedBindingsOfAll", "()I"⟩, 9), (⟨"LinkElection", "changedBindings", "(I)I"⟩, 9), (⟨"LinkElection$Data", "takeIn", "(I)V"⟩, 5), (⟨"LinkElection", "changeOffer", "(III)I"⟩, 9), (⟨"LinkElection", "putBytes", "(I)V"⟩, 9)]
theorem lw_r4 : ∀ q ∈ lw_privs_4, lw_okq q := List.forall_mem_cons.mpr ⟨lw_p48, List.forall_mem_cons.mpr ⟨lw_p49, List.forall_mem_cons.mpr ⟨lw_p50, List.forall_mem_cons.mpr ⟨lw_p51, List.forall_mem_cons.mpr ⟨lw_p52, List.forall_mem_cons.mpr ⟨lw_p53, List.forall_mem_cons.mpr ⟨lw_p54, List.forall_mem_cons.mpr ⟨lw_p55, List.forall_mem_cons.mpr ⟨lw_p56, List.forall_mem_cons.mpr ⟨lw_p57, List.forall_mem_cons.mpr ⟨lw_p58, List.forall_mem_cons.mpr ⟨lw_p59, List.forall_mem_cons.mpr ⟨lw_p60, List.forall_mem_cons.mpr ⟨lw_p61, List.forall_mem_cons.mpr ⟨lw_p62, List.forall_mem_cons.mpr ⟨lw_p63, fun _ h => absurd h List.not_mem_nil⟩⟩⟩⟩⟩⟩⟩⟩⟩⟩⟩⟩⟩⟩⟩⟩
def lw_privs : List (MethodName × Nat) := lw_privs_1 ++ (lw_privs_2 ++ (lw_privs_3 ++ (lw_privs_4)))
def lw_tbl : List Cond := k2_sels lw_privs ++ tables_1
theorem lw_privs_ok : ∀ q ∈ lw_privs, lw_okq q := by
  show ∀ q ∈ lw_privs_1 ++ (lw_privs_2 ++ (lw_privs_3 ++ (lw_privs_4))), lw_okq q
  exact List.forall_mem_append.mpr ⟨lw_r1, List.forall_mem_append.mpr ⟨lw_r2, List.forall_mem_append.mpr ⟨lw_r3, lw_r4⟩⟩⟩
/-! ===== BEGIN words of one list among another's, by their places ===== -/
theorem goodIn_r {big : List Cond} (ws : List Cond) (ps : List Nat) (hp : ws = ps.filterMap (fun i => big[i]?)) (h : ws.all goodWord = true) : GoodIn big ws := by
  intro w hw
  have h1 := List.all_eq_true.mp h w hw
  rw [hp] at hw
  obtain ⟨i, -, hi⟩ := List.mem_filterMap.mp hw
  have hm : w ∈ big := by first | exact List.mem_of_getElem? hi | exact List.getElem?_mem hi
  exact ⟨hm, good_of_word h1⟩
theorem goodIn_app {big a b : List Cond} (ha : GoodIn big a) (hb : GoodIn big b) : GoodIn big (a ++ b) := fun w h => (List.mem_append.mp h).elim (ha w) (hb w)
theorem goodIn_ca {big a b : List Cond} {c : Cond} (ha : GoodIn big (c :: a)) (hb : GoodIn big b) : GoodIn big (c :: (a ++ b)) := fun w h => (List.mem_cons.mp h).elim (fun e => ha w (List.mem_cons.mpr (Or.inl e))) (fun h => (List.mem_append.mp h).elim (fun h => ha w (List.mem_cons.mpr (Or.inr h))) (hb w))
theorem goodIn_sub {big ws : List Cond} (hm : ∀ w ∈ ws, w ∈ big) (h : ws.all goodWord = true) : GoodIn big ws := fun w hw => ⟨hm w hw, good_of_word (List.all_eq_true.mp h w hw)⟩
/-! ===== END ===== -/


/-! ===== BEGIN exceptions that leave a method, and their catching by the caller (launches without stack traces) ===== -/
section VXA
/-! The laws vx_back, vx_callV, vx_callS, vx_callSW, vx_throw0, vx_throwS follow proofs of the library, with one case more: JvmDerived/Free/Laws.lean (Back.of_free), Shelf42/LK1.lean (callV, callS), Shelf/KitTraced.lean (throwNew0V, throwNewS). -/
/-- where a method has thrown q: the class by its name, the cell, what was written, the world -/
def vx_T (XC : String → State → State → Prop) (st : State) (q : Addr) (t : State) (mc ms : Nat) (free : Addr → Prop) : Prop :=
  ∃ (E : String) (ce : Cell) (L : List Loc), XC E st t ∧ t.heap[q]? = some ce ∧ ce.vm = .none ∧ st.vm.findClass E = some ce.cls ∧ st.WarmedH t.vm ∧ st.sameButNew ({ t with vm := st.vm } : State) L mc ms ∧ ∀ z ∈ L, free z.base
def vx_Q (Qc : Array Value → State → Outcome → State → Prop) (XC : String → State → State → Prop) (mc ms : Nat) (free : Addr → Prop) : Array Value → State → Outcome → State → Prop := fun a st o t =>
  (Qc a st o t ∧ ∃ L, FrameEnd st o t L mc ms ∧ ∀ q ∈ L, free q.base) ∨ ∃ q, o = .threw q ∧ vx_T XC st q t mc ms free
/-- a callee that returns or throws -/
def vx_Met (l : Launch) (y : MethodName) (ws : List Cond) (rm : Room) (Pc : Array Value → State → Prop) (Qc : Array Value → State → Outcome → State → Prop) (XC : String → State → State → Prop) (mc ms : Nat) (free : Addr → Prop) : Prop :=
  MetFree l y (headSpec ws rm) Pc (fun _ _ _ _ _ => True) (vx_Q Qc XC mc ms free)
def vx_Post (XC : String → State → State → Prop) (mc ms : Nat) (free : Addr → Prop) : Pt → Array Value → Addr → Pt → Prop := fun A a q B =>
  ∃ (g : JFrame) (mk : MethodId) (t : State) (L : List Loc) (E : String) (ce : Cell), B.U.heap = t.heap ∧ B.U.vm = t.vm ∧ XC E (A.U.calling g mk a) t ∧ t.heap[q]? = some ce ∧ ce.vm = .none ∧ A.U.vm.findClass E = some ce.cls ∧ B.locs = A.locs ++ L ∧ (∀ z ∈ L, free z.base) ∧ B.cells = A.cells + mc ∧ B.slots = A.slots + ms
def vx_Back (l : Launch) (R : Room) (p : Program) (e : Env) (below : List Frame) (s : State) (sargs : Array Value) (y : MethodName) (len W9 : Nat)
    (Pre : Pt → Array Value → Prop) (Post : Pt → Array Value → Option Value → Pt → Prop) (PostX : Pt → Array Value → Addr → Pt → Prop) : Prop :=
  ∀ (m : MethodId) (meth : Method) (c : Code) (A : Pt) (g : JFrame) (ig : Instr) (mk : MethodId) (a : Array Value),
    Stand p l e R s m sargs below meth c A.U A.locs A.cells A.slots → g.method = m → g.locals.size = c.maxLocals → decode c.code g.pc = .ok (ig, len) →
    2 * g.monitorRoom + (g.stack.map fun v => v.category).sum ≤ W9 → A.U.methodNamed? y = some mk → Pre A a →
    (∃ (v : Option Value) (B : Pt), Stand p l e R s m sargs below meth c B.U B.locs B.cells B.slots ∧ Post A a v B ∧
      Steps p.tables e below (doInvoke e (A.U.setTop g) [] mk a).1 (B.U.setTop { g with pc := g.pc + len, stack := v.toList ++ g.stack })) ∨
    (∃ (q : Addr) (B : Pt), Stand p l e R s m sargs below meth c B.U B.locs B.cells B.slots ∧ PostX A a q B ∧
      Steps p.tables e below (doInvoke e (A.U.setTop g) [] mk a).1 ((B.U.setTop g).pushFrame (.throwing q)))
section Payer
variable {l : Launch} {R : Room} {p : Program} {e : Env} {below : List Frame} {s : State} {sargs : Array Value} {y : MethodName} {len W9 : Nat}
theorem vx_back {ws : List Cond} {rm : Room} {Pc : Array Value → State → Prop} {Qc : Array Value → State → Outcome → State → Prop} {XC : String → State → State → Prop} {mc ms : Nat} {free : Addr → Prop} {bytes : ByteArray} {maxL : Nat} {ret : Option FieldType}
    (hM : vx_Met l y ws rm Pc Qc XC mc ms free) (hblind : FrameBlind Pc) (hrc : rm.cells = mc) (hrs : rm.slots = ms)
    (hframes : rm.frames + 1 ≤ R.frames) (hlocals : W9 + (maxL + 11) + rm.locals ≤ R.locals)
    (hws : ∀ w ∈ ws, ∀ a' U, s.WarmedH U.vm → w.before a' U = true) (hcode : Cond.code y bytes maxL ret ∈ ws) (hinit : ∀ a' U, s.WarmedH U.vm → (Cond.initialized y.cls).before a' U = true) :
    vx_Back l R p e below s sargs y len W9 (PreOf R mc ms Pc) (PostOf Qc mc ms free) (vx_Post XC mc ms free) := by
  intro m meth c A g ig mk a X hg hsize hdg hW hn hp
  have h1 : (headSpec ws rm).pre.before a A.U = true := atoms_intro fun w hw => hws w hw _ _ X.warmed
  have h2 : (Cond.code y bytes maxL ret).before a A.U = true := hws _ hcode _ _ X.warmed
  have h3 : (Cond.initialized y.cls).before a A.U = true := hinit _ _ X.warmed
  have h4 : A.cells + (headSpec ws rm).room.cells ≤ R.cells := by rw [show (headSpec ws rm).room.cells = mc from hrc]; exact hp.1
  have h5 : A.slots + (headSpec ws rm).room.slots ≤ R.slots := by rw [show (headSpec ws rm).room.slots = ms from hrs]; exact hp.2.1
  have hPc : Pc a (A.U.calling g mk a) := hblind _ _ _ _ hp.2.2
  obtain ⟨U, Ls, c0, s0⟩ := A
  dsimp only [Pt.U, Pt.locs, Pt.cells, Pt.slots] at h1 h2 h3 h4 h5 X hn hPc ⊢
  obtain ⟨methY, cY, hmY, hcY, -, hlY, -, -, -, -⟩ := Cond.code_spec hn h2
  obtain ⟨kY, hkY, -⟩ := className_of_methodNamed hn
  have hinitY : kY.init = .initialized := Cond.initialized_spec (findClass_of_methodNamed hn) hkY h3
  have h : At U g.method c below := by rw [hg]; exact X.here
  have hlocals9 : W9 + (maxL + 11) + (headSpec ws rm).room.locals ≤ R.locals := hlocals
  have happ : (headSpec ws rm).appliesLoose y e.platform (U.calling g mk a) = true :=
    Spec.appliesLoose_calling (g := g) h hdg hn hkY hinitY
      (X.room_calling (g := g) (R' := (headSpec ws rm).room) hsize hmY hcY hframes (by rw [hlY]; omega) h4 h5) h1
  obtain ⟨mid, hmid⟩ := h.above
  have hfr : (U.setTop g).frames = (.java g :: mid) ++ below := by rw [State.frames_setTop' g h.top, hmid]; rfl
  obtain ⟨o, s₂, hsteps, -, hend, hq⟩ := Steps.callFree hM p X.admits X.cas X.clock (acts := []) hfr happ hPc trivial
  have hq' : vx_Q Qc XC mc ms free a (U.calling g mk a) o s₂ := hq
  rw [State.frames_setTop' g h.top] at hend
  obtain ⟨g₀, hg0⟩ := Option.isSome_iff_exists.mp h.top
  obtain ⟨r, hr⟩ := State.topJava?_eq_some.mp hg0
  have hr' : (({ U with heap := s₂.heap, slotsUsed := s₂.slotsUsed } : State).setVm s₂.vm).frames = .java g₀ :: r := hr
  rcases hq' with ⟨hqc, L, hfe, hL⟩ | ⟨q, rfl, E, ce, L, hx, hce, hcv, hcl, hW₂, hsm, hL⟩
  · obtain ⟨⟨v, rfl⟩, hW₂, e2, q2, q3, q4, q5, q6⟩ := id hfe
    have e3 : s₂ = ({ (U.calling g mk a).setFrames s₂.frames with heap := s₂.heap, slotsUsed := s₂.slotsUsed } : State).setVm s₂.vm := by
      have : s₂ = ({ s₂ with vm := (U.calling g mk a).vm } : State).setVm s₂.vm := rfl
      rw [e2] at this
      exact this
    obtain ⟨c₂, i₂, len₂, hc₂, hd₂, hf₂⟩ := hend
    have hW' : U.WarmedH s₂.vm := hW₂
    have hcc : c₂ = c := by
      have h1 : s₂.code? g.method = U.code? g.method := by
        rw [State.code?_eq, State.code?_eq, hW'.alike.method?]
      exact Option.some.inj (hc₂.symm.trans (h1.trans h.code))
    subst hcc
    have hlen : len₂ = len := by rw [hdg] at hd₂; cases hd₂; rfl
    subst hlen
    have hs₂ : s₂ = (({ U with heap := s₂.heap, slotsUsed := s₂.slotsUsed } : State).setVm s₂.vm).setTop { g with pc := g.pc + len₂, stack := v.toList ++ g.stack } := by
      refine e3.trans ?_
      rw [hf₂, State.calling_eq h.top, State.setFrames_setFrames, State.setTop_of_frames _ hr', hr]
      rfl
    have hsame : U.sameButNew ({ U with heap := s₂.heap, slotsUsed := s₂.slotsUsed } : State) L mc ms := by
      refine ⟨?_, q2, q3, q4, q5, q6⟩
      obtain ⟨t, ht, -⟩ := State.frames_cons hr
      show ({ U with heap := s₂.heap, slotsUsed := s₂.slotsUsed } : State) = { U.setFrames U.frames with heap := s₂.heap, slotsUsed := s₂.slotsUsed }
      rw [State.setFrames_self ht]
    subst hg
    refine Or.inl ⟨v, ⟨(({ U with heap := s₂.heap, slotsUsed := s₂.slotsUsed } : State).setVm s₂.vm), Ls ++ L, c0 + mc, s0 + ms⟩,
      ⟨X.admits, X.cas, X.clock, X.frames, X.room, X.hears, X.method, X.code, (X.here.setHeapUsed s₂.heap s₂.slotsUsed).setVm hW'.alike, X.tail, State.WarmedH.trans X.warmed hW', X.limits, X.bytes, X.same.trans (hsame.setVm s.vm)⟩,
      ⟨g, mk, s₂, L, rfl, rfl, hqc, rfl, hL, rfl, rfl⟩, ?_⟩
    show Steps p.tables e below _ ((({ U with heap := s₂.heap, slotsUsed := s₂.slotsUsed } : State).setVm s₂.vm).setTop { g with pc := g.pc + len₂, stack := v.toList ++ g.stack })
    rw [← hs₂]
    exact hsteps
  · obtain ⟨e2, q2, q3, q4, q5, q6⟩ := id hsm
    have e3 : s₂ = ({ (U.calling g mk a).setFrames s₂.frames with heap := s₂.heap, slotsUsed := s₂.slotsUsed } : State).setVm s₂.vm := by
      have : s₂ = ({ s₂ with vm := (U.calling g mk a).vm } : State).setVm s₂.vm := rfl
      rw [e2] at this
      exact this
    have hf₂ : s₂.frames = .throwing q :: .java g :: U.frames.tail := hend
    have hW' : U.WarmedH s₂.vm := hW₂
    have hs₂ : s₂ = ((({ U with heap := s₂.heap, slotsUsed := s₂.slotsUsed } : State).setVm s₂.vm).setTop g).pushFrame (.throwing q) := by
      refine e3.trans ?_
      rw [hf₂, State.calling_eq h.top, State.setFrames_setFrames, State.pushFrame, State.frames_setTop _ hr', State.setTop_of_frames _ hr', State.setFrames_setFrames, hr]
      rfl
    have hsame : U.sameButNew ({ U with heap := s₂.heap, slotsUsed := s₂.slotsUsed } : State) L mc ms := by
      refine ⟨?_, q2, q3, q4, q5, q6⟩
      obtain ⟨t, ht, -⟩ := State.frames_cons hr
      show ({ U with heap := s₂.heap, slotsUsed := s₂.slotsUsed } : State) = { U.setFrames U.frames with heap := s₂.heap, slotsUsed := s₂.slotsUsed }
      rw [State.setFrames_self ht]
    subst hg
    refine Or.inr ⟨q, ⟨(({ U with heap := s₂.heap, slotsUsed := s₂.slotsUsed } : State).setVm s₂.vm), Ls ++ L, c0 + mc, s0 + ms⟩,
      ⟨X.admits, X.cas, X.clock, X.frames, X.room, X.hears, X.method, X.code, (X.here.setHeapUsed s₂.heap s₂.slotsUsed).setVm hW'.alike, X.tail, State.WarmedH.trans X.warmed hW', X.limits, X.bytes, X.same.trans (hsame.setVm s.vm)⟩,
      ⟨g, mk, s₂, L, E, ce, rfl, rfl, hx, hce, hcv, hcl, rfl, hL, rfl, rfl⟩, ?_⟩
    show Steps p.tables e below _ (((({ U with heap := s₂.heap, slotsUsed := s₂.slotsUsed } : State).setVm s₂.vm).setTop g).pushFrame (.throwing q))
    rw [← hs₂]
    exact hsteps
end Payer
section Calls
variable {p : Program} {l : Launch} {e : Env} {R : Room} {s : State} {m : MethodId} {args : Array Value} {below : List Frame} {meth : Method} {c : Code} {T : State} {locs : List Loc} {cells slots : Nat}
theorem vx_callV (X : Stand p l e R s m args below meth c T locs cells slots) (hexec : p.tables.exec = Jvm.exec) {own C : String} {index : Nat} {y : MethodName} {bytes : ByteArray} {maxL : Nat} {ret : Option FieldType}
    (hown : s.vm.findClass own = some m.cls) (hlink : (Cond.methodLink own index y).before args s = true) (hinst : (Cond.instanceMethod y).before args s = true) (hsel : (Cond.selects C y y).before args s = true)
    (hcode : (Cond.code y bytes maxL ret).before args s = true) (hy : y.cls ≠ "java/lang/invoke/MethodHandle" ∧ y.cls ≠ "java/lang/invoke/VarHandle")
    {W9 : Nat} {Pre : Pt → Array Value → Prop} {Post : Pt → Array Value → Option Value → Pt → Prop} {PostX : Pt → Array Value → Addr → Pt → Prop} (hK : vx_Back l R p e below s args y 3 W9 Pre Post PostX)
    {b : Addr} {cellB : Cell} (hcell : T.heap[b]? = some cellB) (hobj : cellB.vm.isStatics = false) (hcls : s.vm.findClass C = some cellB.cls)
    {g : JFrame} (hg : g.method = m) (hsize : g.locals.size = c.maxLocals) {argsL rest : List Value} (hlen : ∀ sig, parseMethodDescriptor y.desc = some sig → argsL.length = sig.parameters.length)
    (hstack : g.stack = argsL.reverse ++ .ref b :: rest) (hW : 2 * g.monitorRoom + (rest.map fun v => v.category).sum ≤ W9) (hdg : decode c.code g.pc = .ok (.invokevirtual index, 3))
    (hpre : ∀ vm₁, s.WarmedH vm₁ → Pre ⟨T.setVm vm₁, locs, cells, slots⟩ (Value.ref b :: argsL).toArray) :
    (∃ (v : Option Value) (vm₁ : Vm) (B : Pt), s.WarmedH vm₁ ∧ Stand p l e R s m args below meth c B.U B.locs B.cells B.slots ∧ Post ⟨T.setVm vm₁, locs, cells, slots⟩ (Value.ref b :: argsL).toArray v B ∧
      ∀ target, Steps p.tables e below (B.U.setTop { g with pc := g.pc + 3, stack := v.toList ++ rest }) target → Steps p.tables e below (T.setTop g) target) ∨
    (∃ (q : Addr) (vm₁ : Vm) (B : Pt), s.WarmedH vm₁ ∧ Stand p l e R s m args below meth c B.U B.locs B.cells B.slots ∧ PostX ⟨T.setVm vm₁, locs, cells, slots⟩ (Value.ref b :: argsL).toArray q B ∧
      Steps p.tables e below (T.setTop g) ((B.U.setTop { g with stack := rest }).pushFrame (.throwing q))) := by
  obtain ⟨mk, methM, hnamed, hmethM, hstM, habM⟩ := Cond.instanceMethod_spec hinst
  obtain ⟨methM', cM, hmethM', -, -, -, -, -, -, hsigM⟩ := Cond.code_spec hnamed hcode
  cases hmethM.symm.trans hmethM'
  obtain ⟨c2, r2, m2, q1, q2, q3, q4, kP, hkP, hkPi⟩ := Cond.selects_spec hsel
  cases hcls.symm.trans q1
  cases (State.methodFound?_of_named hnamed hy).symm.trans q2
  cases hnamed.symm.trans q3
  have hselP : selectMethod e.platform s.vm cellB.cls mk = .method mk := by rw [Launch.admits_selectMethod X.admits]; exact q4
  obtain ⟨vm₁, X₁, hstep₁⟩ := X.invokevirtual hexec hown hlink hnamed hmethM hstM hkP hkPi hy (a := b) (cell := cellB) hcell
    (fun z h => by rw [h] at hobj; cases hobj) hselP hmethM habM hkP hkPi (g := g) hg (argsL := argsL) (rest := rest) (hlen _ hsigM) hstack hdg
  rcases hK m meth c ⟨T.setVm vm₁, locs, cells, slots⟩ { g with stack := rest } (.invokevirtual index) mk (Value.ref b :: argsL).toArray X₁ hg hsize hdg hW (X₁.named hnamed) (hpre vm₁ X₁.warmed) with ⟨v, B, X', hpost, hsteps⟩ | ⟨q, B, X', hpost, hsteps⟩
  · exact Or.inl ⟨v, vm₁, B, X₁.warmed, X', hpost, fun target h => hstep₁ _ fun acts => by rw [doInvoke_state]; exact hsteps.trans h⟩
  · exact Or.inr ⟨q, vm₁, B, X₁.warmed, X', hpost, hstep₁ _ fun acts => by rw [doInvoke_state]; exact hsteps⟩
theorem vx_callS (X : Stand p l e R s m args below meth c T locs cells slots) (hexec : p.tables.exec = Jvm.exec) {own : String} {index : Nat} {y : MethodName} {bytes : ByteArray} {maxL : Nat} {ret : Option FieldType}
    (hown : s.vm.findClass own = some m.cls) (hlink : (Cond.methodLink own index y).before args s = true) (hstat : (Cond.static y).before args s = true) (hinit : (Cond.initialized y.cls).before args s = true)
    (hcode : (Cond.code y bytes maxL ret).before args s = true) (hy : y.cls ≠ "java/lang/invoke/MethodHandle" ∧ y.cls ≠ "java/lang/invoke/VarHandle")
    {W9 : Nat} {Pre : Pt → Array Value → Prop} {Post : Pt → Array Value → Option Value → Pt → Prop} {PostX : Pt → Array Value → Addr → Pt → Prop} (hK : vx_Back l R p e below s args y 3 W9 Pre Post PostX)
    {g : JFrame} (hg : g.method = m) (hsize : g.locals.size = c.maxLocals) {argsL rest : List Value} (hlen : ∀ sig, parseMethodDescriptor y.desc = some sig → argsL.length = sig.parameters.length)
    (hstack : g.stack = argsL.reverse ++ rest) (hW : 2 * g.monitorRoom + (rest.map fun v => v.category).sum ≤ W9) (hdg : decode c.code g.pc = .ok (.invokestatic index, 3))
    (hpre : ∀ vm₁, s.WarmedH vm₁ → Pre ⟨T.setVm vm₁, locs, cells, slots⟩ argsL.toArray) :
    (∃ (v : Option Value) (vm₁ : Vm) (B : Pt), s.WarmedH vm₁ ∧ Stand p l e R s m args below meth c B.U B.locs B.cells B.slots ∧ Post ⟨T.setVm vm₁, locs, cells, slots⟩ argsL.toArray v B ∧
      ∀ target, Steps p.tables e below (B.U.setTop { g with pc := g.pc + 3, stack := v.toList ++ rest }) target → Steps p.tables e below (T.setTop g) target) ∨
    (∃ (q : Addr) (vm₁ : Vm) (B : Pt), s.WarmedH vm₁ ∧ Stand p l e R s m args below meth c B.U B.locs B.cells B.slots ∧ PostX ⟨T.setVm vm₁, locs, cells, slots⟩ argsL.toArray q B ∧
      Steps p.tables e below (T.setTop g) ((B.U.setTop { g with stack := rest }).pushFrame (.throwing q))) := by
  obtain ⟨mk, hnamed⟩ := Cond.code_named hcode
  obtain ⟨methM, cM, hmethM, -, -, -, -, -, -, hsigM⟩ := Cond.code_spec hnamed hcode
  have hstatic : methM.isStatic = true := Cond.static_spec hnamed hmethM hstat
  obtain ⟨kP, hkP, -⟩ := className_of_methodNamed hnamed
  have hinitP : kP.init = .initialized := Cond.initialized_spec (findClass_of_methodNamed hnamed) hkP hinit
  obtain ⟨vm₁, X₁, hstep₁⟩ := X.invokestatic hexec hown hlink hnamed hmethM hstatic hkP hinitP hy (g := g) hg (argsL := argsL) (rest := rest) (hlen _ hsigM) hstack hdg
  rcases hK m meth c ⟨T.setVm vm₁, locs, cells, slots⟩ { g with stack := rest } (.invokestatic index) mk argsL.toArray X₁ hg hsize hdg hW (X₁.named hnamed) (hpre vm₁ X₁.warmed) with ⟨v, B, X', hpost, hsteps⟩ | ⟨q, B, X', hpost, hsteps⟩
  · exact Or.inl ⟨v, vm₁, B, X₁.warmed, X', hpost, fun target h => hstep₁ _ fun acts => by rw [doInvoke_state]; exact hsteps.trans h⟩
  · exact Or.inr ⟨q, vm₁, B, X₁.warmed, X', hpost, hstep₁ _ fun acts => by rw [doInvoke_state]; exact hsteps⟩
end Calls
theorem vx_cls {s : State} {T : State} {vm₁ : Vm} {E : String} {k : ClassId} (hW : s.WarmedH vm₁) (h : (T.setVm vm₁).vm.findClass E = some k) : s.vm.findClass E = some k := by
  have h1 : vm₁.findClass E = some k := h
  rw [hW.alike.findClass] at h1
  exact h1
/-- the method's frame g, with q thrown over it -/
def vx_W (p : Program) (l : Launch) (e : Env) (R : Room) (s : State) (m : MethodId) (args : Array Value) (below : List Frame) (meth : Method) (c : Code) (H : Heap) (locs : List Loc) (cells slots : Nat) (Q : State → Prop) (g : JFrame) (q : Addr) : Prop :=
  ∀ T : State, T.heap = H → Stand p l e R s m args below meth c T locs cells slots → ∃ t, Steps p.tables e below ((T.setTop g).pushFrame (.throwing q)) t ∧ Q t
def vx_Run (p : Program) (l : Launch) (e : Env) (R : Room) (s : State) (m : MethodId) (args : Array Value) (below : List Frame) (meth : Method) (c : Code) (H : Heap) (locs : List Loc) (cells slots mc ms : Nat) (g : JFrame) (rest : List Value) (Qa : State → Outcome → State → Prop) (XC : String → State → State → Prop) (free : Addr → Prop) : Prop :=
  ∀ T : State, T.heap = H → Stand p l e R s m args below meth c T locs cells slots →
    (∃ (v : Option Value) (st₀ t T' : State) (L : List Loc), st₀.heap = H ∧ Stand p l e R s m args below meth c T' (locs ++ L) (cells + mc) (slots + ms) ∧ (∀ q ∈ L, free q.base) ∧ T'.heap = t.heap ∧ T'.vm = t.vm ∧ Qa st₀ (.returned v) t ∧
      Goes p e below T g T' { g with pc := g.pc + 3, stack := v.toList ++ rest }) ∨
    (∃ (q : Addr) (st₀ t T' : State) (L : List Loc) (E : String) (ce : Cell), st₀.heap = H ∧ Stand p l e R s m args below meth c T' (locs ++ L) (cells + mc) (slots + ms) ∧ (∀ z ∈ L, free z.base) ∧ T'.heap = t.heap ∧ T'.vm = t.vm ∧ XC E st₀ t ∧ t.heap[q]? = some ce ∧ ce.vm = .none ∧ s.vm.findClass E = some ce.cls ∧
      Steps p.tables e below (T.setTop g) ((T'.setTop { g with stack := rest }).pushFrame (.throwing q)))
def vx_X {S : Type} (px : S → Prop) (B : String → S → State → Prop) (A : Nat → Prop) : String → State → State → Prop := fun E st t => ∃ u : S, px u ∧ B E u t ∧ va_F A st t
section Runs
variable {p : Program} {l : Launch} {e : Env} {R : Room} {s : State} {m : MethodId} {args : Array Value} {below : List Frame} {meth : Method} {c : Code} {H : Heap} {locs : List Loc} {cells slots : Nat}
variable {y : MethodName} {bytes cc : ByteArray} {maxL nL mc ms n index : Nat} {ret : Option FieldType} {ws : List Cond} {rm : Room} {Pc : Array Value → State → Prop} {Qc : Array Value → State → Outcome → State → Prop} {XC : String → State → State → Prop} {free : Addr → Prop} {Ts : List Cond} {own C : String} {b : Addr} {As rest : List Value} {g : JFrame}
theorem vx_callBack (cb : CallB R s args own index y bytes maxL ret ws rm mc ms n) (hM : vx_Met l y ws rm Pc Qc XC mc ms free) (hbl : FrameBlind Pc) : vx_Back l R p e below s args y 3 8 (PreOf R mc ms Pc) (PostOf Qc mc ms free) (vx_Post XC mc ms free) := by
  obtain ⟨hrc, hrs, hfr, hlo, hws, hcw, -, hini, -⟩ := cb
  exact vx_back (bytes := bytes) (maxL := maxL) (ret := ret) hM hbl hrc hrs hfr hlo hws hcw (fun a' U hW => word_at hW (Or.inl (by first | rfl | simp [Cond.onTables, Cond.keeps, Cond.steady])) hini)
theorem vx_runV (S : CallFix p m c cc nL s args Ts own) (hM : vx_Met l y ws rm Pc Qc XC mc ms free) (cw : CallW R s args own C index y bytes maxL ret ws rm mc ms n) (hp : PreV s H C b Pc As)
    (hg : g.method = m) (hn : As.length = n) (hsize : g.locals.size = nL) (hstack : g.stack = As.reverse ++ .ref b :: rest) (hW : 2 * g.monitorRoom + (rest.map fun v => v.category).sum ≤ 8) (hdg : decode cc g.pc = .ok (.invokevirtual index, 3)) (hf : cells + mc ≤ R.cells ∧ slots + ms ≤ R.slots) :
    vx_Run p l e R s m args below meth c H locs cells slots mc ms g rest (Qc (Value.ref b :: As).toArray) XC free := by
  have hK : vx_Back l R p e below s args y 3 8 (PreOf R mc ms Pc) (PostOf Qc mc ms free) (vx_Post XC mc ms free) := vx_callBack cw.1 hM hp.1
  obtain ⟨⟨-, -, -, -, -, -, hcode, -, hy, hlen, hl⟩, hin, hse⟩ := cw
  obtain ⟨hx, hb, hml, ho, -⟩ := S
  obtain ⟨-, ⟨cellB, hcB, hoB, hclB⟩, hPc⟩ := hp
  intro T hT X
  rcases vx_callV X hx (C := C) (bytes := bytes) (maxL := maxL) (ret := ret) ho hl hin hse hcode hy hK (by rw [hT]; exact hcB) hoB hclB hg (hsize.trans hml.symm) (argsL := As) (rest := rest) (fun sig h => hn.trans (hlen sig h)) hstack hW (by rw [hb]; exact hdg)
    (fun vm₁ hW₁ => ⟨hf.1, hf.2, hPc (T.setVm vm₁) hT hW₁⟩) with ⟨v, vm₁, ⟨U', l2, c2, s2⟩, hW₁, X', ⟨g', mk, t, L, e1, e2, hq, h1, hL, h2, h3⟩, st⟩ | ⟨q, vm₁, ⟨U', l2, c2, s2⟩, hW₁, X', ⟨g', mk, t, L, E, ce, e1, e2, hq, hce, hcv, hcl, h1, hL, h2, h3⟩, st⟩
  · dsimp only [Pt.U, Pt.locs, Pt.cells, Pt.slots] at X' e1 e2 h1 h2 h3 st
    subst h1; subst h2; subst h3
    exact Or.inl ⟨v, (T.setVm vm₁).calling g' mk (Value.ref b :: As).toArray, t, U', L, hT, X', hL, e1, e2, hq, st⟩
  · dsimp only [Pt.U, Pt.locs, Pt.cells, Pt.slots] at X' e1 e2 h1 h2 h3 st hcl
    subst h1; subst h2; subst h3
    exact Or.inr ⟨q, (T.setVm vm₁).calling g' mk (Value.ref b :: As).toArray, t, U', L, E, ce, hT, X', hL, e1, e2, hq, hce, hcv, vx_cls hW₁ hcl, st⟩
theorem vx_runS (S : CallFix p m c cc nL s args Ts own) (hM : vx_Met l y ws rm Pc Qc XC mc ms free) (cw : CallB R s args own index y bytes maxL ret ws rm mc ms n ∧ (Cond.static y).before args s = true) (hp : PreS s H Pc As)
    (hg : g.method = m) (hn : As.length = n) (hsize : g.locals.size = nL) (hstack : g.stack = As.reverse ++ rest) (hW : 2 * g.monitorRoom + (rest.map fun v => v.category).sum ≤ 8) (hdg : decode cc g.pc = .ok (.invokestatic index, 3)) (hf : cells + mc ≤ R.cells ∧ slots + ms ≤ R.slots) :
    vx_Run p l e R s m args below meth c H locs cells slots mc ms g rest (Qc As.toArray) XC free := by
  have hK : vx_Back l R p e below s args y 3 8 (PreOf R mc ms Pc) (PostOf Qc mc ms free) (vx_Post XC mc ms free) := vx_callBack cw.1 hM hp.1
  obtain ⟨⟨-, -, -, -, -, -, hcode, hini, hy, hlen, hl⟩, hstt⟩ := cw
  obtain ⟨hx, hb, hml, ho, -⟩ := S
  intro T hT X
  rcases vx_callS X hx (bytes := bytes) (maxL := maxL) (ret := ret) ho hl hstt hini hcode hy hK hg (hsize.trans hml.symm) (argsL := As) (rest := rest) (fun sig h => hn.trans (hlen sig h)) hstack hW (by rw [hb]; exact hdg)
    (fun vm₁ hW₁ => ⟨hf.1, hf.2, hp.2 (T.setVm vm₁) hT hW₁⟩) with ⟨v, vm₁, ⟨U', l2, c2, s2⟩, hW₁, X', ⟨g', mk, t, L, e1, e2, hq, h1, hL, h2, h3⟩, st⟩ | ⟨q, vm₁, ⟨U', l2, c2, s2⟩, hW₁, X', ⟨g', mk, t, L, E, ce, e1, e2, hq, hce, hcv, hcl, h1, hL, h2, h3⟩, st⟩
  · dsimp only [Pt.U, Pt.locs, Pt.cells, Pt.slots] at X' e1 e2 h1 h2 h3 st
    subst h1; subst h2; subst h3
    exact Or.inl ⟨v, (T.setVm vm₁).calling g' mk As.toArray, t, U', L, hT, X', hL, e1, e2, hq, st⟩
  · dsimp only [Pt.U, Pt.locs, Pt.cells, Pt.slots] at X' e1 e2 h1 h2 h3 st hcl
    subst h1; subst h2; subst h3
    exact Or.inr ⟨q, (T.setVm vm₁).calling g' mk As.toArray, t, U', L, E, ce, hT, X', hL, e1, e2, hq, hce, hcv, vx_cls hW₁ hcl, st⟩
end Runs
section Rows
variable {p : Program} {l : Launch} {e : Env} {R : Room} {s : State} {m : MethodId} {args : Array Value} {below : List Frame} {meth : Method} {c : Code} {H : Heap} {locs : List Loc} {cells slots : Nat} {Q : State → Prop}
variable {mc ms : Nat} {free : Addr → Prop} {A0 A1 : Nat → Prop} {H0 : Heap} {a : Array Value} {pc : Nat} {ls : Array Slot} {st0 rest : List Value}
theorem vx_keep {st₀ t T' : State} {L : List Loc} (h0 : st₀.heap = H) (e1 : T'.heap = t.heap) (hS : va_S A0 H0 H locs) (hA : ∀ q, q < H.size → A1 q → A0 q) (hf : ∀ q, free q → A0 q) (hL : ∀ q ∈ L, free q.base) (hF : va_F A1 st₀ t) :
    H.size ≤ T'.heap.size ∧ (∀ q : Nat, q < H.size → ¬ A1 q → T'.heap[q]? = H[q]?) ∧ va_S A0 H0 T'.heap (locs ++ L) := by
  obtain ⟨hz, hk⟩ := hF
  rw [h0] at hz hk
  exact ⟨by rw [e1]; exact hz, fun q h1 h2 => by rw [e1]; exact hk q h1 h2,
    ⟨Nat.le_trans hS.1 (by rw [e1]; exact hz), fun q h1 h2 => by rw [e1, hk q (Nat.lt_of_lt_of_le h1 hS.1) (fun z => h2 (hA q (Nat.lt_of_lt_of_le h1 hS.1) z))]; exact hS.2.1 q h1 h2, fun q hq => by
      rcases List.mem_append.mp hq with h | h
      · exact hS.2.2 q h
      · exact hf _ (hL q h)⟩⟩
theorem vx_calli {S SX : Type} {post : Int32 → S → Prop} {px : SX → Prop} {B : S → State → Prop} {BX : String → SX → State → Prop} {AX : Nat → Prop} (hr : vx_Run p l e R s m args below meth c H locs cells slots mc ms (F0 m pc ls st0) rest (va_Qi post B A1 a) (vx_X px BX AX) free) (hS : va_S A0 H0 H locs) (hA : ∀ q, q < H.size → A1 q → A0 q) (hf : ∀ q, free q → A0 q) (hAX : ∀ q, q < H.size → AX q → A0 q)
    (kx : ∀ (E : String) (ce : Cell) (q9 : Addr) (u : SX) (t : State) (H1 : Heap) (locs1 : List Loc), t.heap = H1 → s.vm.Alike t.vm → px u → BX E u t → H.size ≤ H1.size → (∀ q : Nat, q < H.size → ¬ AX q → H1[q]? = H[q]?) → va_S A0 H0 H1 locs1 → H1[q9]? = some ce → ce.vm = .none → s.vm.findClass E = some ce.cls → vx_W p l e R s m args below meth c H1 locs1 (cells + mc) (slots + ms) Q (F0 m pc ls rest) q9)
    (kk : ∀ (r : Int32) (u : S) (t : State) (H1 : Heap) (locs1 : List Loc), t.heap = H1 → s.vm.Alike t.vm → post r u → B u t → H.size ≤ H1.size → (∀ q : Nat, q < H.size → ¬ A1 q → H1[q]? = H[q]?) → va_S A0 H0 H1 locs1 → W p l e R s m args below meth c H1 locs1 (cells + mc) (slots + ms) Q (F0 m (pc + 3) ls (.int r :: rest))) : W p l e R s m args below meth c H locs cells slots Q (F0 m pc ls st0) := by
  intro T hT X
  rcases hr T hT X with ⟨v, st₀, t, T', L, h0, X', hL, e1, e2, ⟨⟨r, u, hv, hp, hb⟩, hF⟩, st⟩ | ⟨q, st₀, t, T', L, E, ce, h0, X', hL, e1, e2, ⟨u, hp, hb, hF⟩, hce, hcv, hcl, st⟩
  · cases hv
    obtain ⟨k1, k2, k3⟩ := vx_keep h0 e1 hS hA hf hL hF
    obtain ⟨t2, a1, b1⟩ := kk r u t T'.heap (locs ++ L) e1.symm (by rw [← e2]; exact X'.warmed.alike) hp hb k1 k2 k3 T' rfl X'
    exact ⟨t2, st t2 a1, b1⟩
  · obtain ⟨k1, k2, k3⟩ := vx_keep h0 e1 hS hAX hf hL hF
    obtain ⟨t2, a1, b1⟩ := kx E ce q u t T'.heap (locs ++ L) e1.symm (by rw [← e2]; exact X'.warmed.alike) hp hb k1 k2 k3 (by rw [e1]; exact hce) hcv hcl T' rfl X'
    exact ⟨t2, st.trans a1, b1⟩
theorem vx_calll {S SX : Type} {post : Int64 → S → Prop} {px : SX → Prop} {B : S → State → Prop} {BX : String → SX → State → Prop} {AX : Nat → Prop} (hr : vx_Run p l e R s m args below meth c H locs cells slots mc ms (F0 m pc ls st0) rest (va_Ql post B A1 a) (vx_X px BX AX) free) (hS : va_S A0 H0 H locs) (hA : ∀ q, q < H.size → A1 q → A0 q) (hf : ∀ q, free q → A0 q) (hAX : ∀ q, q < H.size → AX q → A0 q)
    (kx : ∀ (E : String) (ce : Cell) (q9 : Addr) (u : SX) (t : State) (H1 : Heap) (locs1 : List Loc), t.heap = H1 → s.vm.Alike t.vm → px u → BX E u t → H.size ≤ H1.size → (∀ q : Nat, q < H.size → ¬ AX q → H1[q]? = H[q]?) → va_S A0 H0 H1 locs1 → H1[q9]? = some ce → ce.vm = .none → s.vm.findClass E = some ce.cls → vx_W p l e R s m args below meth c H1 locs1 (cells + mc) (slots + ms) Q (F0 m pc ls rest) q9)
    (kk : ∀ (r : Int64) (u : S) (t : State) (H1 : Heap) (locs1 : List Loc), t.heap = H1 → s.vm.Alike t.vm → post r u → B u t → H.size ≤ H1.size → (∀ q : Nat, q < H.size → ¬ A1 q → H1[q]? = H[q]?) → va_S A0 H0 H1 locs1 → W p l e R s m args below meth c H1 locs1 (cells + mc) (slots + ms) Q (F0 m (pc + 3) ls (.long r :: rest))) : W p l e R s m args below meth c H locs cells slots Q (F0 m pc ls st0) := by
  intro T hT X
  rcases hr T hT X with ⟨v, st₀, t, T', L, h0, X', hL, e1, e2, ⟨⟨r, u, hv, hp, hb⟩, hF⟩, st⟩ | ⟨q, st₀, t, T', L, E, ce, h0, X', hL, e1, e2, ⟨u, hp, hb, hF⟩, hce, hcv, hcl, st⟩
  · cases hv
    obtain ⟨k1, k2, k3⟩ := vx_keep h0 e1 hS hA hf hL hF
    obtain ⟨t2, a1, b1⟩ := kk r u t T'.heap (locs ++ L) e1.symm (by rw [← e2]; exact X'.warmed.alike) hp hb k1 k2 k3 T' rfl X'
    exact ⟨t2, st t2 a1, b1⟩
  · obtain ⟨k1, k2, k3⟩ := vx_keep h0 e1 hS hAX hf hL hF
    obtain ⟨t2, a1, b1⟩ := kx E ce q u t T'.heap (locs ++ L) e1.symm (by rw [← e2]; exact X'.warmed.alike) hp hb k1 k2 k3 (by rw [e1]; exact hce) hcv hcl T' rfl X'
    exact ⟨t2, st.trans a1, b1⟩
theorem vx_callf {S SX : Type} {post : UInt32 → S → Prop} {px : SX → Prop} {B : S → State → Prop} {BX : String → SX → State → Prop} {AX : Nat → Prop} (hr : vx_Run p l e R s m args below meth c H locs cells slots mc ms (F0 m pc ls st0) rest (va_Qf post B A1 a) (vx_X px BX AX) free) (hS : va_S A0 H0 H locs) (hA : ∀ q, q < H.size → A1 q → A0 q) (hf : ∀ q, free q → A0 q) (hAX : ∀ q, q < H.size → AX q → A0 q)
    (kx : ∀ (E : String) (ce : Cell) (q9 : Addr) (u : SX) (t : State) (H1 : Heap) (locs1 : List Loc), t.heap = H1 → s.vm.Alike t.vm → px u → BX E u t → H.size ≤ H1.size → (∀ q : Nat, q < H.size → ¬ AX q → H1[q]? = H[q]?) → va_S A0 H0 H1 locs1 → H1[q9]? = some ce → ce.vm = .none → s.vm.findClass E = some ce.cls → vx_W p l e R s m args below meth c H1 locs1 (cells + mc) (slots + ms) Q (F0 m pc ls rest) q9)
    (kk : ∀ (r : UInt32) (u : S) (t : State) (H1 : Heap) (locs1 : List Loc), t.heap = H1 → s.vm.Alike t.vm → post r u → B u t → H.size ≤ H1.size → (∀ q : Nat, q < H.size → ¬ A1 q → H1[q]? = H[q]?) → va_S A0 H0 H1 locs1 → W p l e R s m args below meth c H1 locs1 (cells + mc) (slots + ms) Q (F0 m (pc + 3) ls (.float r :: rest))) : W p l e R s m args below meth c H locs cells slots Q (F0 m pc ls st0) := by
  intro T hT X
  rcases hr T hT X with ⟨v, st₀, t, T', L, h0, X', hL, e1, e2, ⟨⟨r, u, hv, hp, hb⟩, hF⟩, st⟩ | ⟨q, st₀, t, T', L, E, ce, h0, X', hL, e1, e2, ⟨u, hp, hb, hF⟩, hce, hcv, hcl, st⟩
  · cases hv
    obtain ⟨k1, k2, k3⟩ := vx_keep h0 e1 hS hA hf hL hF
    obtain ⟨t2, a1, b1⟩ := kk r u t T'.heap (locs ++ L) e1.symm (by rw [← e2]; exact X'.warmed.alike) hp hb k1 k2 k3 T' rfl X'
    exact ⟨t2, st t2 a1, b1⟩
  · obtain ⟨k1, k2, k3⟩ := vx_keep h0 e1 hS hAX hf hL hF
    obtain ⟨t2, a1, b1⟩ := kx E ce q u t T'.heap (locs ++ L) e1.symm (by rw [← e2]; exact X'.warmed.alike) hp hb k1 k2 k3 (by rw [e1]; exact hce) hcv hcl T' rfl X'
    exact ⟨t2, st.trans a1, b1⟩
theorem vx_calld {S SX : Type} {post : UInt64 → S → Prop} {px : SX → Prop} {B : S → State → Prop} {BX : String → SX → State → Prop} {AX : Nat → Prop} (hr : vx_Run p l e R s m args below meth c H locs cells slots mc ms (F0 m pc ls st0) rest (va_Qd post B A1 a) (vx_X px BX AX) free) (hS : va_S A0 H0 H locs) (hA : ∀ q, q < H.size → A1 q → A0 q) (hf : ∀ q, free q → A0 q) (hAX : ∀ q, q < H.size → AX q → A0 q)
    (kx : ∀ (E : String) (ce : Cell) (q9 : Addr) (u : SX) (t : State) (H1 : Heap) (locs1 : List Loc), t.heap = H1 → s.vm.Alike t.vm → px u → BX E u t → H.size ≤ H1.size → (∀ q : Nat, q < H.size → ¬ AX q → H1[q]? = H[q]?) → va_S A0 H0 H1 locs1 → H1[q9]? = some ce → ce.vm = .none → s.vm.findClass E = some ce.cls → vx_W p l e R s m args below meth c H1 locs1 (cells + mc) (slots + ms) Q (F0 m pc ls rest) q9)
    (kk : ∀ (r : UInt64) (u : S) (t : State) (H1 : Heap) (locs1 : List Loc), t.heap = H1 → s.vm.Alike t.vm → post r u → B u t → H.size ≤ H1.size → (∀ q : Nat, q < H.size → ¬ A1 q → H1[q]? = H[q]?) → va_S A0 H0 H1 locs1 → W p l e R s m args below meth c H1 locs1 (cells + mc) (slots + ms) Q (F0 m (pc + 3) ls (.double r :: rest))) : W p l e R s m args below meth c H locs cells slots Q (F0 m pc ls st0) := by
  intro T hT X
  rcases hr T hT X with ⟨v, st₀, t, T', L, h0, X', hL, e1, e2, ⟨⟨r, u, hv, hp, hb⟩, hF⟩, st⟩ | ⟨q, st₀, t, T', L, E, ce, h0, X', hL, e1, e2, ⟨u, hp, hb, hF⟩, hce, hcv, hcl, st⟩
  · cases hv
    obtain ⟨k1, k2, k3⟩ := vx_keep h0 e1 hS hA hf hL hF
    obtain ⟨t2, a1, b1⟩ := kk r u t T'.heap (locs ++ L) e1.symm (by rw [← e2]; exact X'.warmed.alike) hp hb k1 k2 k3 T' rfl X'
    exact ⟨t2, st t2 a1, b1⟩
  · obtain ⟨k1, k2, k3⟩ := vx_keep h0 e1 hS hAX hf hL hF
    obtain ⟨t2, a1, b1⟩ := kx E ce q u t T'.heap (locs ++ L) e1.symm (by rw [← e2]; exact X'.warmed.alike) hp hb k1 k2 k3 (by rw [e1]; exact hce) hcv hcl T' rfl X'
    exact ⟨t2, st.trans a1, b1⟩
theorem vx_callv {S SX : Type} {post : S → Prop} {px : SX → Prop} {B : S → State → Prop} {BX : String → SX → State → Prop} {AX : Nat → Prop} (hr : vx_Run p l e R s m args below meth c H locs cells slots mc ms (F0 m pc ls st0) rest (va_Qv post B A1 a) (vx_X px BX AX) free) (hS : va_S A0 H0 H locs) (hA : ∀ q, q < H.size → A1 q → A0 q) (hf : ∀ q, free q → A0 q) (hAX : ∀ q, q < H.size → AX q → A0 q)
    (kx : ∀ (E : String) (ce : Cell) (q9 : Addr) (u : SX) (t : State) (H1 : Heap) (locs1 : List Loc), t.heap = H1 → s.vm.Alike t.vm → px u → BX E u t → H.size ≤ H1.size → (∀ q : Nat, q < H.size → ¬ AX q → H1[q]? = H[q]?) → va_S A0 H0 H1 locs1 → H1[q9]? = some ce → ce.vm = .none → s.vm.findClass E = some ce.cls → vx_W p l e R s m args below meth c H1 locs1 (cells + mc) (slots + ms) Q (F0 m pc ls rest) q9)
    (kk : ∀ (u : S) (t : State) (H1 : Heap) (locs1 : List Loc), t.heap = H1 → s.vm.Alike t.vm → post u → B u t → H.size ≤ H1.size → (∀ q : Nat, q < H.size → ¬ A1 q → H1[q]? = H[q]?) → va_S A0 H0 H1 locs1 → W p l e R s m args below meth c H1 locs1 (cells + mc) (slots + ms) Q (F0 m (pc + 3) ls (rest))) : W p l e R s m args below meth c H locs cells slots Q (F0 m pc ls st0) := by
  intro T hT X
  rcases hr T hT X with ⟨v, st₀, t, T', L, h0, X', hL, e1, e2, ⟨⟨u, hv, hp, hb⟩, hF⟩, st⟩ | ⟨q, st₀, t, T', L, E, ce, h0, X', hL, e1, e2, ⟨u, hp, hb, hF⟩, hce, hcv, hcl, st⟩
  · cases hv
    obtain ⟨k1, k2, k3⟩ := vx_keep h0 e1 hS hA hf hL hF
    obtain ⟨t2, a1, b1⟩ := kk u t T'.heap (locs ++ L) e1.symm (by rw [← e2]; exact X'.warmed.alike) hp hb k1 k2 k3 T' rfl X'
    exact ⟨t2, st t2 a1, b1⟩
  · obtain ⟨k1, k2, k3⟩ := vx_keep h0 e1 hS hAX hf hL hF
    obtain ⟨t2, a1, b1⟩ := kx E ce q u t T'.heap (locs ++ L) e1.symm (by rw [← e2]; exact X'.warmed.alike) hp hb k1 k2 k3 (by rw [e1]; exact hce) hcv hcl T' rfl X'
    exact ⟨t2, st.trans a1, b1⟩
/-- caught by the row x of this method's table; the rows ahead don't take it -/
theorem vx_catch {own name : String} {E : String} {ce : Cell} {q : Addr} (hown : s.vm.findClass own = some m.cls) (pre : List ExceptionTableEntry) (x : ExceptionTableEntry) (suf : List ExceptionTableEntry) (hsplit : c.exceptionTable.toList = pre ++ x :: suf)
    (hpass : ∀ z ∈ pre, covers z pc = false ∨ (z.catchType ≠ 0 ∧ ∃ nm : String, (Cond.classLink own z.catchType nm).before args s = true ∧ va_Nc E nm s)) (hx : covers x pc = true) (h0 : x.catchType ≠ 0)
    (hlink : (Cond.classLink own x.catchType name).before args s = true) (hcast : (Cond.castable E name).before args s = true) (hcell : H[q]? = some ce) (hv : ce.vm = .none) (hcl : s.vm.findClass E = some ce.cls)
    (kk : W p l e R s m args below meth c H locs cells slots Q (F0 m x.handlerPc ls [.ref q])) : vx_W p l e R s m args below meth c H locs cells slots Q (F0 m pc ls rest) q := by
  intro T hT X
  have hpl : e.platform.magicAccessors = ({} : Platform).magicAccessors := by rw [X.admits.platform]
  obtain ⟨c3, c4, hc3, hc4, hasg⟩ := Cond.castable_spec hcast
  cases Option.some.inj (hc3.symm.trans hcl)
  obtain ⟨c5, hc5, hcl5⟩ := Cond.classLink_spec hown hlink e.platform hpl
  cases Option.some.inj (hc4.symm.trans hc5)
  obtain ⟨vm', X', st⟩ := X.thenCaughtThrough q (g := F0 m pc ls rest) rfl (Steps.refl _) (by rw [hT]; exact hcell) (by rw [hv]; rfl) (by obtain ⟨k9, h9, -⟩ := Vm.findClass_spec hcl; exact ⟨k9, h9⟩) pre x suf hsplit
    (fun z hz => by
      rcases hpass z hz with h | ⟨hz0, nm, hl1, hn1⟩
      · exact Or.inl h
      · obtain ⟨c6, hc6, hcl6⟩ := Cond.classLink_spec hown hl1 e.platform hpl
        obtain ⟨a8, b8, h1, h2, h3⟩ := hn1
        cases Option.some.inj (h1.symm.trans hcl)
        cases Option.some.inj (h2.symm.trans hc6)
        exact Or.inr ⟨hz0, _, hcl6, h3⟩) hx (Or.inr ⟨h0, c4, hcl5, hasg⟩)
  obtain ⟨t, a1, b1⟩ := kk (T.setVm vm') hT X'
  exact ⟨t, st.trans a1, b1⟩
end Rows
section Ends
variable {p : Program} {l : Launch} {e : Env} {R : Room} {s : State} {m : MethodId} {args : Array Value} {below : List Frame} {meth : Method} {c : Code} {H : Heap} {locs : List Loc} {cells slots : Nat} {Q : State → Prop}
variable {mc ms : Nat} {free : Addr → Prop} {A0 A1 : Nat → Prop} {H0 : Heap} {a : Array Value} {ls : Array Slot} {st0 rest : List Value}
variable {Qc : Array Value → State → Outcome → State → Prop} {XC : String → State → State → Prop}
/-- what a body that may throw owes at its end -/
def vx_MQ (below : List Frame) (Qc : Array Value → State → Outcome → State → Prop) (XC : String → State → State → Prop) (a : Array Value) (s : State) (mc ms : Nat) (free : Addr → Prop) : State → Prop := fun t =>
  ∃ o, t.status = .running ∧ Ended t below o ∧ vx_Q Qc XC mc ms free a s o t
theorem vx_ret {g : JFrame} {mc ms : Nat} (k : W p l e R s m args below meth c H locs cells slots (MQ below Qc args s mc ms free) g) : W p l e R s m args below meth c H locs cells slots (vx_MQ below Qc XC args s mc ms free) g := by
  intro T hT X
  obtain ⟨t, a1, o, b1, b2, b3, b4⟩ := k T hT X
  exact ⟨t, a1, o, b1, b2, Or.inl ⟨b3, b4⟩⟩
/-- not caught here: it goes on to the caller -/
theorem vx_widen {g : JFrame} {q : Addr} {k n : Nat} (h1 : cells ≤ k) (h2 : slots ≤ n) (kk : vx_W p l e R s m args below meth c H locs k n Q g q) : vx_W p l e R s m args below meth c H locs cells slots Q g q := fun T hT X => kk T hT (stand_widen X h1 h2)
theorem vx_out {pc : Nat} {E : String} {ce : Cell} {q : Addr} {mc ms : Nat} (hout : ∀ x ∈ c.exceptionTable.toList, covers x pc = false) (hlocks : meth.locks = false) (hcell : H[q]? = some ce) (hv : ce.vm = .none) (hcl : s.vm.findClass E = some ce.cls)
    (hx : ∀ t : State, t.heap = H → s.vm.Alike t.vm → XC E s t) (hf : ∀ z ∈ locs, free z.base) (hc : cells ≤ mc) (hs : slots ≤ ms) :
    vx_W p l e R s m args below meth c H locs cells slots (vx_MQ below Qc XC args s mc ms free) (F0 m pc ls rest) q := by
  intro T hT X
  obtain ⟨st1, hrun, hend, hW, hsm⟩ := X.leaveThrown q (g := F0 m pc ls rest) rfl rfl rfl hout hlocks
  have hcell9 : (T.setFrames (.throwing q :: below)).heap[q]? = some ce := by
    show T.heap[q]? = some ce
    rw [hT]; exact hcell
  exact ⟨_, st1, .threw q, hrun, hend, Or.inr ⟨q, rfl, E, ce, locs, hx _ hT hW.alike, hcell9, hv, hcl, hW, hsm.mono hc hs, hf⟩⟩
theorem vx_frame {U : State} {k n : Nat} (h : s.sameButNew ({ U with vm := s.vm } : State) locs k n) : s.heap.size ≤ U.heap.size ∧ ∀ q : Nat, q < s.heap.size → (∀ z ∈ locs, z.base ≠ q) → U.heap[q]? = s.heap[q]? := by
  obtain ⟨-, h2, -, -, -, h6⟩ := h
  refine ⟨h2, fun q hq hz => ?_⟩
  obtain ⟨c9, e1, e2, e3, e4⟩ := h6 q _ (Array.getElem?_eq_getElem hq)
  have hs : c9.slots = (s.heap[q]).slots := Array.ext_getElem? fun i => e4 i fun hm => hz _ hm rfl
  have h9 : c9 = s.heap[q] := by
    rw [hs] at e2
    exact e2
  have e5 : U.heap[q]? = some c9 := e1
  rw [e5, h9, Array.getElem?_eq_getElem hq]
/-- the words of a throw but the four that speak of the heap -/
def vx_no (w : Cond) : Bool := decide (w ≠ .isRef (.static Bundle.tN "UNASSIGNED_STACK" Bundle.steD)) && decide (w ≠ .isRef (.static Bundle.tN "SUPPRESSED_SENTINEL" Bundle.listD)) && decide (w ≠ .laysStatic Bundle.tN "UNASSIGNED_STACK" Bundle.steD) && decide (w ≠ .laysStatic Bundle.tN "SUPPRESSED_SENTINEL" Bundle.listD)
def vx_at0 (own : String) (ic : Nat) (X : String) (names : List String) : List Cond := (Bundle.ownAtoms0 own ic X names).filter vx_no
def vx_atS (own : String) (ic : Nat) (X : String) (names : List String) : List Cond := (Bundle.ownAtoms own ic X names).filter vx_no
/-- a word that the tables alone decide, or a good one -/
def vx_ot (w : Cond) : Bool := w.onTables || goodWord w
theorem vx_ot_at {args a' : Array Value} {s U : State} {w : Cond} (hW : s.WarmedH U.vm) (hvm : s.vm = U.vm) (hg : vx_ot w = true) (h : w.before args s = true) : w.before a' U = true := by
  simp only [vx_ot, Bool.or_eq_true] at hg
  rcases hg with hg | hg
  · exact va_tabs hg hvm h
  · exact word_at hW (good_of_word hg) h
/-- a list's words: the good ones out of the method's own list, the others by premises of their own -/
theorem vx_hat {args : Array Value} {s : State} {L B : List Cond} (h1 : ∀ w ∈ L.filter goodWord, w.before args s = true) (h2 : ∀ w ∈ L.filter (fun w => !goodWord w), w ∈ B) (h3 : ∀ w ∈ B, w.before args s = true) : ∀ w ∈ L, w.before args s = true := by
  intro w hw
  by_cases g : goodWord w = true
  · exact h1 w (List.mem_filter.mpr ⟨hw, g⟩)
  · refine h3 w (h2 w (List.mem_filter.mpr ⟨hw, ?_⟩))
    show (!goodWord w) = true
    cases hgw : goodWord w
    · rfl
    · exact absurd hgw g
theorem vx_c {args : Array Value} {s : State} {w : Cond} {B : List Cond} (h : w.before args s = true) (t : ∀ w ∈ B, w.before args s = true) : ∀ w' ∈ w :: B, w'.before args s = true := fun w' h' => (List.mem_cons.mp h').elim (fun e => by rw [e]; exact h) (t w')
theorem vx_n {args : Array Value} {s : State} : ∀ w ∈ ([] : List Cond), w.before args s = true := fun _ h => nomatch h
theorem vx_own {args : Array Value} {s : State} {L : List Cond} (h1 : ∀ w ∈ L.filter vx_no, w.before args s = true)
    (hU : (Cond.isRef (.static Bundle.tN "UNASSIGNED_STACK" Bundle.steD)).before args s = true) (hN : (Cond.isRef (.static Bundle.tN "SUPPRESSED_SENTINEL" Bundle.listD)).before args s = true)
    (lU : (Cond.laysStatic Bundle.tN "UNASSIGNED_STACK" Bundle.steD).before args s = true) (lN : (Cond.laysStatic Bundle.tN "SUPPRESSED_SENTINEL" Bundle.listD).before args s = true) : ∀ w ∈ L, w.before args s = true := by
  intro w hw
  by_cases e1 : w = .isRef (.static Bundle.tN "UNASSIGNED_STACK" Bundle.steD)
  · rw [e1]; exact hU
  · by_cases e2 : w = .isRef (.static Bundle.tN "SUPPRESSED_SENTINEL" Bundle.listD)
    · rw [e2]; exact hN
    · by_cases e3 : w = .laysStatic Bundle.tN "UNASSIGNED_STACK" Bundle.steD
      · rw [e3]; exact lU
      · by_cases e4 : w = .laysStatic Bundle.tN "SUPPRESSED_SENTINEL" Bundle.listD
        · rw [e4]; exact lN
        · exact h1 w (List.mem_filter.mpr ⟨hw, by unfold vx_no; rw [decide_eq_true e1, decide_eq_true e2, decide_eq_true e3, decide_eq_true e4]; rfl⟩)
/-- where a static field lies, its class's statics cell in H -/
def vx_L (C n d : String) (A : Nat → Prop) (U : State) (H : Heap) : Prop := ∃ (c : ClassId) (k : Class) (i : Nat) (f : Field) (a : Nat) (cell : Cell), U.vm.findClass C = some c ∧ U.fieldFound? C n d = some (c, k, i, f) ∧ f.isStatic = true ∧ k.statics = some a ∧ H[a]? = some cell ∧ cell.vm.isStatics = true ∧ cell.cls = c ∧ f.slot < cell.slots.size ∧ k.staticTypes[f.slot]? = some f.type ∧ ¬ A a
theorem vx_L.moved {C n d : String} {A : Nat → Prop} {u U : State} {H : Heap} (hvm : u.vm.Alike U.vm) (h : vx_L C n d A u H) : vx_L C n d A U H := by
  obtain ⟨c, k, i, f, a, cell, h1, h2, h3, h4, h5, h6, h7, h8, h9, h10⟩ := h
  obtain ⟨k', hi', he⟩ := State.fieldFound?_setVm hvm h2
  exact ⟨c, k', i, f, a, cell, by rw [hvm.findClass]; exact h1, hi', h3, by rw [he]; exact h4, h5, h6, h7, h8, by rw [he]; exact h9, h10⟩
theorem vx_L.kept {C n d : String} {A : Nat → Prop} {U : State} {H H1 : Heap} (h : vx_L C n d A U H) (hq : ∀ a : Nat, a < H.size → ¬ A a → H1[a]? = H[a]?) : vx_L C n d A U H1 := by
  obtain ⟨c, k, i, f, a, cell, h1, h2, h3, h4, h5, h6, h7, h8, h9, h10⟩ := h
  exact ⟨c, k, i, f, a, cell, h1, h2, h3, h4, by rw [hq a (Array.getElem?_eq_some_iff.mp h5).1 h10]; exact h5, h6, h7, h8, h9, h10⟩
theorem vx_L.narrow {C n d : String} {A B : Nat → Prop} {U : State} {H : Heap} (h : vx_L C n d A U H) (hAB : ∀ q, B q → A q) : vx_L C n d B U H := by
  obtain ⟨c, k, i, f, a, cell, h1, h2, h3, h4, h5, h6, h7, h8, h9, h10⟩ := h
  exact ⟨c, k, i, f, a, cell, h1, h2, h3, h4, h5, h6, h7, h8, h9, fun z => h10 (hAB _ z)⟩
theorem vx_L.word {C n d : String} {A : Nat → Prop} {s : State} {args : Array Value} (h : vx_L C n d A s s.heap) : (Cond.laysStatic C n d).before args s = true := by
  obtain ⟨c, k, i, f, a, cell, h1, h2, h3, h4, h5, h6, h7, h8, h9, -⟩ := h
  show (Cond.laysStatic C n d).holds args s none s [] = true
  exact Cond.laysStatic_of h1 h2 h3 h4 h5 h6 h7 h8 h9
/-- .. and what it holds: null or some reference -/
def vx_Zq (C n d : String) (A : Nat → Prop) (U : State) (H : Heap) : Prop := va_Zq C n d A U H ∧ vx_L C n d A U H
theorem vx_Zq.moved {C n d : String} {A : Nat → Prop} {u U : State} {H : Heap} (hvm : u.vm.Alike U.vm) (h : vx_Zq C n d A u H) : vx_Zq C n d A U H := ⟨va_Zq.moved hvm h.1, vx_L.moved hvm h.2⟩
theorem vx_Zq.kept {C n d : String} {A : Nat → Prop} {U : State} {H H1 : Heap} (h : vx_Zq C n d A U H) (hq : ∀ a : Nat, a < H.size → ¬ A a → H1[a]? = H[a]?) : vx_Zq C n d A U H1 := ⟨va_Zq.kept h.1 hq, vx_L.kept h.2 hq⟩
theorem vx_Zq.narrow {C n d : String} {A B : Nat → Prop} {U : State} {H : Heap} (h : vx_Zq C n d A U H) (hAB : ∀ q, B q → A q) : vx_Zq C n d B U H := ⟨va_Zq.narrow h.1 hAB, vx_L.narrow h.2 hAB⟩
theorem vx_Zqof {args : Array Value} {s : State} {C n d : String} {A : Nat → Prop} (hl : (Cond.laysStatic C n d).before args s = true) (hini : (Cond.initialized C).before args s = true) (h : (Cond.isRef (.static C n d)).before args s = true) (hA : ∀ a : Nat, a < s.heap.size → ¬ A a) : vx_Zq C n d A s s.heap := by
  refine ⟨va_Zqof hl hini h hA, ?_⟩
  obtain ⟨c, k, i, f, a, cell, h1, h2, h3, h4, h5, h6, h7, h8, h9⟩ := Cond.laysStatic_spec hl
  exact ⟨c, k, i, f, a, cell, h1, h2, h3, h4, h5, h6, h7, h8, h9, hA a (Array.getElem?_eq_some_iff.mp h5).1⟩
theorem vx_isRef {C n d : String} {v : Value} {A : Nat → Prop} {s : State} {args : Array Value} (h : va_Z C n d v A s s.heap) (hv : v.isRef = true) : (Cond.isRef (.static C n d)).before args s = true := by
  obtain ⟨cf, kf, fi, f, a, cell, h1, h2, h3, h4, h5, h6, h7, -⟩ := h
  have he : (Term.static C n d).eval args s none [] s = some v := by
    simp [Term.eval, State.fieldNamed?, h1, h2, h4, h5, h6, h7]
  simp only [Cond.before, Cond.holds, Cond.value, he]
  cases v <;> simp_all [Value.isRef]
theorem vx_isRefq {C n d : String} {A : Nat → Prop} {s : State} {args : Array Value} (h : va_Zq C n d A s s.heap) : (Cond.isRef (.static C n d)).before args s = true := by
  rcases h with h | ⟨t, h⟩
  · exact vx_isRef h rfl
  · exact vx_isRef h rfl
/-- the same frame, seen from here: as if the method were called anew in this heap -/
theorem vx_rebase {T : State} (X : Stand p l e R s m args below meth c T locs cells slots) {R' : Room} (hf : R'.frames ≤ R.frames) (hl : R'.locals ≤ R.locals) (hc : cells + R'.cells ≤ R.cells) (hs : slots + R'.slots ≤ R.slots) :
    Stand p l e R' ((T.setVm s.vm).setFrames (.invoking m args :: below)) m args below meth c T [] 0 0 := by
  have htop : (T.setVm s.vm).topJava?.isSome := X.here.top
  have hF : ((T.setVm s.vm).setFrames (.invoking m args :: below)).frames = .invoking m args :: below := State.frames_setFrames _ (State.cur_lt_of_top htop)
  obtain ⟨g₀, hg0⟩ := Option.isSome_iff_exists.mp htop
  obtain ⟨r, hr⟩ := State.topJava?_eq_some.mp hg0
  have hl9 : e.platform.stackLimits (T.setVm s.vm).me = e.platform.stackLimits s.me := X.limits
  have hb9 : (T.setVm s.vm).me.stackBytes = s.me.stackBytes := X.bytes
  refine ⟨X.admits, X.cas, X.clock, hF, ?_, X.hears, X.method, X.code, X.here, X.tail, X.warmed, ?_, ?_, ?_⟩
  · have h := X.room
    have hU : ((T.setVm s.vm).setFrames (.invoking m args :: below)).localsInUse = s.localsInUse := by
      rw [State.localsInUse_invoking hF (meth := meth) (c := c) X.method X.code, State.localsInUse_invoking X.frames X.method X.code]
    simp only [State.hasRoom, Bool.and_eq_true, decide_eq_true_eq] at h ⊢
    obtain ⟨⟨⟨⟨h1, h2, h3, h4, h5, h6⟩, h7⟩, h8⟩, h9⟩ := h
    rw [X.frames, List.length_cons] at h2 h3
    have q1 := X.heapSize
    have q2 := X.used
    simp only [hF, hU, List.length_cons, State.stackLimits_setFrames, State.stackBytes_setFrames, hl9, hb9]
    refine ⟨⟨⟨⟨by omega, by omega, by omega, by omega, by omega, h6⟩, ?_⟩, ?_⟩, X.book⟩
    · show T.heap.size + R'.cells ≤ e.platform.maxCells
      omega
    · show T.slotsUsed + R'.slots ≤ e.platform.maxSlots
      omega
  · rw [State.stackLimits_setFrames]; rfl
  · rw [State.stackBytes_setFrames]; rfl
  · refine ⟨?_, Nat.le_refl _, Nat.le_refl _, ?_, ?_, fun a c9 h9 => ⟨c9, h9, rfl, rfl, fun _ _ => rfl⟩⟩
    · obtain ⟨t, ht, -⟩ := State.frames_cons hr
      show T.setVm s.vm = { ((T.setVm s.vm).setFrames (.invoking m args :: below)).setFrames (T.setVm s.vm).frames with heap := T.heap, slotsUsed := T.slotsUsed }
      rw [State.setFrames_setFrames, State.setFrames_self ht]
      rfl
    · show T.slotsUsed = T.slotsUsed + ((T.heap.toList.drop T.heap.size).map (·.slots.size)).sum
      rw [List.drop_eq_nil_of_le (Nat.le_of_eq Array.length_toList)]
      rfl
    · show ((T.heap.toList.drop T.heap.size).map (·.slots.size)).sum ≤ 0
      rw [List.drop_eq_nil_of_le (Nat.le_of_eq Array.length_toList)]
      exact Nat.le_refl _
/-- 'throw new E()': new; dup; invokespecial; athrow -/
theorem vx_throw0 {cc : ByteArray} {pc : Nat} (hexec : p.tables.exec = Jvm.exec) (hb : c.code = cc) (hl : l.stackTraces = false) {own cls : String} {names : List String} {ik ic mc ms : Nat} {A : Nat → Prop}
    (hown : s.vm.findClass own = some m.cls) (hcls : Bundle.fit cls = true) (hnames : ∀ n ∈ names, Bundle.fit n = true)
    (hk : (Cond.classLink own ik cls).before args s = true) (hini : (Cond.initialized cls).before args s = true) (hat : ∀ w ∈ vx_at0 own ic cls names, w.before args s = true)
    (hgood : ∀ w ∈ Cond.classLink own ik cls :: Cond.initialized cls :: vx_at0 own ic cls names, vx_ot w = true)
    (hU : vx_Zq Bundle.tN "UNASSIGNED_STACK" Bundle.steD A s s.heap) (hN : vx_Zq Bundle.tN "SUPPRESSED_SENTINEL" Bundle.listD A s s.heap) (hS : va_S A s.heap H locs) (hsize : ls.size = c.maxLocals)
    (d0 : decode cc pc = .ok (.new ik, 3)) (d3 : decode cc (pc + 3) = .ok (.dup, 1)) (d4 : decode cc (pc + 4) = .ok (.invokespecial ic, 3)) (d7 : decode cc (pc + 7) = .ok (.athrow, 1))
    (hout : ∀ x ∈ c.exceptionTable.toList, covers x (pc + 7) = false)
    (hRframes : names.length + 3 < R.frames) (hRlocals : (rest.map fun v => v.category).sum + (13 * (names.length + 1) + 42) ≤ R.locals) (hRcells : cells + 1 ≤ R.cells) (hRslots : slots + 6 ≤ R.slots) (hlocks : meth.locks = false)
    (hx : ∀ t : State, s.vm.Alike t.vm → H.size ≤ t.heap.size → (∀ q : Nat, q < H.size → t.heap[q]? = H[q]?) → XC cls s t)
    (hf : ∀ z ∈ locs, free z.base) (hc : cells + 1 ≤ mc) (hs : slots + 6 ≤ ms) :
    W p l e R s m args below meth c H locs cells slots (vx_MQ below Qc XC args s mc ms free) (F0 m pc ls rest) := by
  intro T hT X
  have htr : e.platform.stackTraces = false := (show e.platform.stackTraces = l.stackTraces by rw [X.admits.platform]).trans hl
  have Y := vx_rebase X (R' := { frames := R.frames, locals := R.locals, cells := 1, slots := 6 }) (Nat.le_refl _) (Nat.le_refl _) hRcells hRslots
  obtain ⟨s', hA⟩ : ∃ z, z = (T.setVm s.vm).setFrames (.invoking m args :: below) := ⟨_, rfl⟩
  rw [← hA] at Y
  have hvm : s'.vm = s.vm := by rw [hA]; rfl
  have hhp : s'.heap = H := by rw [hA]; exact hT
  have hW0 : s.WarmedH s'.vm := by rw [hvm]; exact State.WarmedH.refl s
  have hat' : ∀ w ∈ vx_at0 own ic cls names, w.before args s' = true := fun w hw => vx_ot_at hW0 hvm.symm (hgood w (List.mem_cons_of_mem _ (List.mem_cons_of_mem _ hw))) (hat w hw)
  have hk' : (Cond.classLink own ik cls).before args s' = true := vx_ot_at hW0 hvm.symm (hgood _ List.mem_cons_self) hk
  have hini' : (Cond.initialized cls).before args s' = true := vx_ot_at hW0 hvm.symm (hgood _ (List.mem_cons_of_mem _ List.mem_cons_self)) hini
  have hU' : vx_Zq Bundle.tN "UNASSIGNED_STACK" Bundle.steD A s' s'.heap := by rw [hhp]; exact vx_Zq.moved hW0.alike (hU.kept hS.2.1)
  have hN' : vx_Zq Bundle.tN "SUPPRESSED_SENTINEL" Bundle.listD A s' s'.heap := by rw [hhp]; exact vx_Zq.moved hW0.alike (hN.kept hS.2.1)
  have h : ∀ w ∈ Bundle.ownAtoms0 own ic cls names, w.before args s' = true := vx_own hat' (vx_isRefq hU'.1) (vx_isRefq hN'.1) hU'.2.word hN'.2.word
  have hown' : s'.vm.findClass own = some m.cls := by rw [hvm]; exact hown
  have hins : (Cond.instantiable cls 6).before args s' = true := h _ (by simp [Bundle.ownAtoms0])
  obtain ⟨vm₁, cX, kX, hfX, hkX, -, -, X₁, st1⟩ := Y.newCold hexec (own := own) (C := cls) (index := ik) (n := 6) hown' hk' hins hini'
    (g := F0 m pc ls rest) rfl (by rw [hb]; exact d0) (Nat.le_refl _) (Nat.le_refl _)
  generalize hT1 : (T.setVm vm₁).pushCell { cls := cX, slots := kX.instanceTypes.map defaultValue, vm := .none } = T1 at X₁ st1
  have hcat : (Value.ref T.heap.size).category = 1 := rfl
  have hcellA : T1.heap[T.heap.size]? = some (freshCell cX kX) := by rw [← hT1]; exact State.heap_pushCell_size _ _
  have d3' : decode c.code (pc + 3) = .ok (.dup, 1) := by rw [hb]; exact d3
  obtain ⟨U, hsteps, hrun, hend, hW, hsame, ce, hce, hO⟩ := X₁.ctorThrow0 hexec htr (own := own) (cls := cls) (names := names) (ic := ic) hown' hcls hnames h (fun x hx => nomatch hx) hfX hkX hcellA (by rw [hhp, hT]; exact Nat.le_refl _)
    (g := { method := m, pc := pc + 4, locals := ls, stack := .ref T.heap.size :: .ref T.heap.size :: rest, locked := none }) rfl hsize rfl rfl (rest := rest) rfl
    (by rw [hb]; exact d4) (by rw [hb]; exact d7) hout hRframes (by simp only [List.map_cons, List.sum_cons, hcat]; omega) hlocks
  obtain ⟨f1, f2⟩ := vx_frame hsame
  rw [hhp] at f1 f2
  have hWs : s.WarmedH U.vm := State.WarmedH.trans hW0 hW
  have hcl : s.vm.findClass cls = some ce.cls := by
    have h9 := hO.cls
    rw [hvm] at h9
    exact h9
  have hall : s.sameButNew ({ U with vm := s.vm } : State) locs mc ms := by
    subst hA
    obtain ⟨e1, e2⟩ := hsame
    rw [State.setFrames_setFrames] at e1
    have h2 : (T.setVm s.vm).sameButNew ({ U with vm := s.vm } : State) [] (0 + 1) (0 + 6) := ⟨e1, e2⟩
    have h3 := X.same.trans h2
    rw [List.append_nil] at h3
    exact h3.mono hc hs
  refine ⟨U, ?_, .threw T.heap.size, hrun, hend, Or.inr ⟨T.heap.size, rfl, cls, ce, locs, hx U hWs.alike f1 (fun q hq => f2 q hq (fun z hz => nomatch hz)), hce, hO.vm, hcl, hWs, hall, hf⟩⟩
  refine st1 _ ?_
  show Steps p.tables e below (T1.setTop { method := m, pc := pc + 3, locals := ls, stack := .ref T.heap.size :: rest, locked := none }) _
  jvm_step X₁.here [X₁.here.top, hexec, d3', Value.category]
  exact hsteps
/-- 'throw new E("text")': new; dup; ldc; invokespecial; athrow -/
theorem vx_throwS {cc : ByteArray} {pc : Nat} (hexec : p.tables.exec = Jvm.exec) (hb : c.code = cc) (hl : l.stackTraces = false) {own cls text : String} {names : List String} {ik is ic mc ms sa : Nat} {A : Nat → Prop}
    (hown : s.vm.findClass own = some m.cls) (hcls : Bundle.fit cls = true) (hnames : ∀ n ∈ names, Bundle.fit n = true)
    (hk : (Cond.classLink own ik cls).before args s = true) (hini : (Cond.initialized cls).before args s = true) (hstr : vk_R own is text sa s) (hat : ∀ w ∈ vx_atS own ic cls names, w.before args s = true)
    (hgood : ∀ w ∈ Cond.classLink own ik cls :: Cond.initialized cls :: vx_atS own ic cls names, vx_ot w = true)
    (hU : vx_Zq Bundle.tN "UNASSIGNED_STACK" Bundle.steD A s s.heap) (hN : vx_Zq Bundle.tN "SUPPRESSED_SENTINEL" Bundle.listD A s s.heap) (hS : va_S A s.heap H locs) (hsize : ls.size = c.maxLocals)
    (d0 : decode cc pc = .ok (.new ik, 3)) (d3 : decode cc (pc + 3) = .ok (.dup, 1)) (d4 : decode cc (pc + 4) = .ok (.ldc is, 2)) (d6 : decode cc (pc + 6) = .ok (.invokespecial ic, 3)) (d9 : decode cc (pc + 9) = .ok (.athrow, 1))
    (hout : ∀ x ∈ c.exceptionTable.toList, covers x (pc + 9) = false)
    (hRframes : names.length + 3 < R.frames) (hRlocals : (rest.map fun v => v.category).sum + (13 * (names.length + 1) + 43) ≤ R.locals) (hRcells : cells + 1 ≤ R.cells) (hRslots : slots + 6 ≤ R.slots) (hlocks : meth.locks = false)
    (hx : ∀ t : State, s.vm.Alike t.vm → H.size ≤ t.heap.size → (∀ q : Nat, q < H.size → t.heap[q]? = H[q]?) → XC cls s t)
    (hf : ∀ z ∈ locs, free z.base) (hc : cells + 1 ≤ mc) (hs : slots + 6 ≤ ms) :
    W p l e R s m args below meth c H locs cells slots (vx_MQ below Qc XC args s mc ms free) (F0 m pc ls rest) := by
  intro T hT X
  have htr : e.platform.stackTraces = false := (show e.platform.stackTraces = l.stackTraces by rw [X.admits.platform]).trans hl
  have Y := vx_rebase X (R' := { frames := R.frames, locals := R.locals, cells := 1, slots := 6 }) (Nat.le_refl _) (Nat.le_refl _) hRcells hRslots
  obtain ⟨s', hA⟩ : ∃ z, z = (T.setVm s.vm).setFrames (.invoking m args :: below) := ⟨_, rfl⟩
  rw [← hA] at Y
  have hvm : s'.vm = s.vm := by rw [hA]; rfl
  have hhp : s'.heap = H := by rw [hA]; exact hT
  have hW0 : s.WarmedH s'.vm := by rw [hvm]; exact State.WarmedH.refl s
  have hat' : ∀ w ∈ vx_atS own ic cls names, w.before args s' = true := fun w hw => vx_ot_at hW0 hvm.symm (hgood w (List.mem_cons_of_mem _ (List.mem_cons_of_mem _ hw))) (hat w hw)
  have hk' : (Cond.classLink own ik cls).before args s' = true := vx_ot_at hW0 hvm.symm (hgood _ List.mem_cons_self) hk
  have hini' : (Cond.initialized cls).before args s' = true := vx_ot_at hW0 hvm.symm (hgood _ (List.mem_cons_of_mem _ List.mem_cons_self)) hini
  have hU' : vx_Zq Bundle.tN "UNASSIGNED_STACK" Bundle.steD A s' s'.heap := by rw [hhp]; exact vx_Zq.moved hW0.alike (hU.kept hS.2.1)
  have hN' : vx_Zq Bundle.tN "SUPPRESSED_SENTINEL" Bundle.listD A s' s'.heap := by rw [hhp]; exact vx_Zq.moved hW0.alike (hN.kept hS.2.1)
  have h : ∀ w ∈ Bundle.ownAtoms own ic cls names, w.before args s' = true := vx_own hat' (vx_isRefq hU'.1) (vx_isRefq hN'.1) hU'.2.word hN'.2.word
  have hown' : s'.vm.findClass own = some m.cls := by rw [hvm]; exact hown
  have hins : (Cond.instantiable cls 6).before args s' = true := h _ (by simp [Bundle.ownAtoms])
  obtain ⟨vm₁, cX, kX, hfX, hkX, -, -, X₁, st1⟩ := Y.newCold hexec (own := own) (C := cls) (index := ik) (n := 6) hown' hk' hins hini'
    (g := F0 m pc ls rest) rfl (by rw [hb]; exact d0) (Nat.le_refl _) (Nat.le_refl _)
  generalize hT1 : (T.setVm vm₁).pushCell { cls := cX, slots := kX.instanceTypes.map defaultValue, vm := .none } = T1 at X₁ st1
  have hcat : (Value.ref T.heap.size).category = 1 := rfl
  have hcellA : T1.heap[T.heap.size]? = some (freshCell cX kX) := by rw [← hT1]; exact State.heap_pushCell_size _ _
  have d3' : decode c.code (pc + 3) = .ok (.dup, 1) := by rw [hb]; exact d3
  have d4' : decode c.code (pc + 4) = .ok (.ldc is, 2) := by rw [hb]; exact d4
  have hstr' : vk_R own is text sa s' := vk_R.warm hW0 hstr
  obtain ⟨U, hsteps, hrun, hend, hW, hsame, ce, hce, hO⟩ := X₁.ctorThrowS hexec htr (own := own) (cls := cls) (names := names) (ic := ic) hown' hcls hnames h (fun x hx => nomatch hx) hfX hkX hcellA (by rw [hhp, hT]; exact Nat.le_refl _) (msg := .ref sa) rfl
    (g := { method := m, pc := pc + 6, locals := ls, stack := .ref sa :: .ref T.heap.size :: .ref T.heap.size :: rest, locked := none }) rfl hsize rfl rfl (rest := rest) rfl
    (by rw [hb]; exact d6) (by rw [hb]; exact d9) hout hRframes (by simp only [List.map_cons, List.sum_cons, hcat]; omega) hlocks
  obtain ⟨f1, f2⟩ := vx_frame hsame
  rw [hhp] at f1 f2
  have hWs : s.WarmedH U.vm := State.WarmedH.trans hW0 hW
  have hcl : s.vm.findClass cls = some ce.cls := by
    have h9 := hO.cls
    rw [hvm] at h9
    exact h9
  have hall : s.sameButNew ({ U with vm := s.vm } : State) locs mc ms := by
    subst hA
    obtain ⟨e1, e2⟩ := hsame
    rw [State.setFrames_setFrames] at e1
    have h2 : (T.setVm s.vm).sameButNew ({ U with vm := s.vm } : State) [] (0 + 1) (0 + 6) := ⟨e1, e2⟩
    have h3 := X.same.trans h2
    rw [List.append_nil] at h3
    exact h3.mono hc hs
  refine ⟨U, ?_, .threw T.heap.size, hrun, hend, Or.inr ⟨T.heap.size, rfl, cls, ce, locs, hx U hWs.alike f1 (fun q hq => f2 q hq (fun z hz => nomatch hz)), hce, hO.vm, hcl, hWs, hall, hf⟩⟩
  refine st1 _ ?_
  show Steps p.tables e below (T1.setTop { method := m, pc := pc + 3, locals := ls, stack := .ref T.heap.size :: rest, locked := none }) _
  jvm_step X₁.here [X₁.here.top, hexec, d3', Value.category]
  exact X₁.ldcString hexec (own := own) (text := text) (index := is) (a := sa) hown' hstr'.1 hstr'.2
    (g := { method := m, pc := pc + 4, locals := ls, stack := .ref T.heap.size :: .ref T.heap.size :: rest, locked := none }) rfl d4' _ hsteps
/-- 'throw new E("text")', the text by a wide index -/
theorem vx_throwSW {cc : ByteArray} {pc : Nat} (hexec : p.tables.exec = Jvm.exec) (hb : c.code = cc) (hl : l.stackTraces = false) {own cls text : String} {names : List String} {ik is ic mc ms sa : Nat} {A : Nat → Prop}
    (hown : s.vm.findClass own = some m.cls) (hcls : Bundle.fit cls = true) (hnames : ∀ n ∈ names, Bundle.fit n = true)
    (hk : (Cond.classLink own ik cls).before args s = true) (hini : (Cond.initialized cls).before args s = true) (hstr : vk_R own is text sa s) (hat : ∀ w ∈ vx_atS own ic cls names, w.before args s = true)
    (hgood : ∀ w ∈ Cond.classLink own ik cls :: Cond.initialized cls :: vx_atS own ic cls names, vx_ot w = true)
    (hU : vx_Zq Bundle.tN "UNASSIGNED_STACK" Bundle.steD A s s.heap) (hN : vx_Zq Bundle.tN "SUPPRESSED_SENTINEL" Bundle.listD A s s.heap) (hS : va_S A s.heap H locs) (hsize : ls.size = c.maxLocals)
    (d0 : decode cc pc = .ok (.new ik, 3)) (d3 : decode cc (pc + 3) = .ok (.dup, 1)) (d4 : decode cc (pc + 4) = .ok (.ldc_w is, 3)) (d7 : decode cc (pc + 7) = .ok (.invokespecial ic, 3)) (d10 : decode cc (pc + 10) = .ok (.athrow, 1))
    (hout : ∀ x ∈ c.exceptionTable.toList, covers x (pc + 10) = false)
    (hRframes : names.length + 3 < R.frames) (hRlocals : (rest.map fun v => v.category).sum + (13 * (names.length + 1) + 43) ≤ R.locals) (hRcells : cells + 1 ≤ R.cells) (hRslots : slots + 6 ≤ R.slots) (hlocks : meth.locks = false)
    (hx : ∀ t : State, s.vm.Alike t.vm → H.size ≤ t.heap.size → (∀ q : Nat, q < H.size → t.heap[q]? = H[q]?) → XC cls s t)
    (hf : ∀ z ∈ locs, free z.base) (hc : cells + 1 ≤ mc) (hs : slots + 6 ≤ ms) :
    W p l e R s m args below meth c H locs cells slots (vx_MQ below Qc XC args s mc ms free) (F0 m pc ls rest) := by
  intro T hT X
  have htr : e.platform.stackTraces = false := (show e.platform.stackTraces = l.stackTraces by rw [X.admits.platform]).trans hl
  have Y := vx_rebase X (R' := { frames := R.frames, locals := R.locals, cells := 1, slots := 6 }) (Nat.le_refl _) (Nat.le_refl _) hRcells hRslots
  obtain ⟨s', hA⟩ : ∃ z, z = (T.setVm s.vm).setFrames (.invoking m args :: below) := ⟨_, rfl⟩
  rw [← hA] at Y
  have hvm : s'.vm = s.vm := by rw [hA]; rfl
  have hhp : s'.heap = H := by rw [hA]; exact hT
  have hW0 : s.WarmedH s'.vm := by rw [hvm]; exact State.WarmedH.refl s
  have hat' : ∀ w ∈ vx_atS own ic cls names, w.before args s' = true := fun w hw => vx_ot_at hW0 hvm.symm (hgood w (List.mem_cons_of_mem _ (List.mem_cons_of_mem _ hw))) (hat w hw)
  have hk' : (Cond.classLink own ik cls).before args s' = true := vx_ot_at hW0 hvm.symm (hgood _ List.mem_cons_self) hk
  have hini' : (Cond.initialized cls).before args s' = true := vx_ot_at hW0 hvm.symm (hgood _ (List.mem_cons_of_mem _ List.mem_cons_self)) hini
  have hU' : vx_Zq Bundle.tN "UNASSIGNED_STACK" Bundle.steD A s' s'.heap := by rw [hhp]; exact vx_Zq.moved hW0.alike (hU.kept hS.2.1)
  have hN' : vx_Zq Bundle.tN "SUPPRESSED_SENTINEL" Bundle.listD A s' s'.heap := by rw [hhp]; exact vx_Zq.moved hW0.alike (hN.kept hS.2.1)
  have h : ∀ w ∈ Bundle.ownAtoms own ic cls names, w.before args s' = true := vx_own hat' (vx_isRefq hU'.1) (vx_isRefq hN'.1) hU'.2.word hN'.2.word
  have hown' : s'.vm.findClass own = some m.cls := by rw [hvm]; exact hown
  have hins : (Cond.instantiable cls 6).before args s' = true := h _ (by simp [Bundle.ownAtoms])
  obtain ⟨vm₁, cX, kX, hfX, hkX, -, -, X₁, st1⟩ := Y.newCold hexec (own := own) (C := cls) (index := ik) (n := 6) hown' hk' hins hini'
    (g := F0 m pc ls rest) rfl (by rw [hb]; exact d0) (Nat.le_refl _) (Nat.le_refl _)
  generalize hT1 : (T.setVm vm₁).pushCell { cls := cX, slots := kX.instanceTypes.map defaultValue, vm := .none } = T1 at X₁ st1
  have hcat : (Value.ref T.heap.size).category = 1 := rfl
  have hcellA : T1.heap[T.heap.size]? = some (freshCell cX kX) := by rw [← hT1]; exact State.heap_pushCell_size _ _
  have d3' : decode c.code (pc + 3) = .ok (.dup, 1) := by rw [hb]; exact d3
  have d4' : decode c.code (pc + 4) = .ok (.ldc_w is, 3) := by rw [hb]; exact d4
  have hstr' : vk_R own is text sa s' := vk_R.warm hW0 hstr
  obtain ⟨U, hsteps, hrun, hend, hW, hsame, ce, hce, hO⟩ := X₁.ctorThrowS hexec htr (own := own) (cls := cls) (names := names) (ic := ic) hown' hcls hnames h (fun x hx => nomatch hx) hfX hkX hcellA (by rw [hhp, hT]; exact Nat.le_refl _) (msg := .ref sa) rfl
    (g := { method := m, pc := pc + 7, locals := ls, stack := .ref sa :: .ref T.heap.size :: .ref T.heap.size :: rest, locked := none }) rfl hsize rfl rfl (rest := rest) rfl
    (by rw [hb]; exact d7) (by rw [hb]; exact d10) hout hRframes (by simp only [List.map_cons, List.sum_cons, hcat]; omega) hlocks
  obtain ⟨f1, f2⟩ := vx_frame hsame
  rw [hhp] at f1 f2
  have hWs : s.WarmedH U.vm := State.WarmedH.trans hW0 hW
  have hcl : s.vm.findClass cls = some ce.cls := by
    have h9 := hO.cls
    rw [hvm] at h9
    exact h9
  have hall : s.sameButNew ({ U with vm := s.vm } : State) locs mc ms := by
    subst hA
    obtain ⟨e1, e2⟩ := hsame
    rw [State.setFrames_setFrames] at e1
    have h2 : (T.setVm s.vm).sameButNew ({ U with vm := s.vm } : State) [] (0 + 1) (0 + 6) := ⟨e1, e2⟩
    have h3 := X.same.trans h2
    rw [List.append_nil] at h3
    exact h3.mono hc hs
  refine ⟨U, ?_, .threw T.heap.size, hrun, hend, Or.inr ⟨T.heap.size, rfl, cls, ce, locs, hx U hWs.alike f1 (fun q hq => f2 q hq (fun z hz => nomatch hz)), hce, hO.vm, hcl, hWs, hall, hf⟩⟩
  refine st1 _ ?_
  show Steps p.tables e below (T1.setTop { method := m, pc := pc + 3, locals := ls, stack := .ref T.heap.size :: rest, locked := none }) _
  jvm_step X₁.here [X₁.here.top, hexec, d3', Value.category]
  exact X₁.ldcStringW hexec (own := own) (text := text) (index := is) (a := sa) hown' hstr'.1 hstr'.2
    (g := { method := m, pc := pc + 4, locals := ls, stack := .ref T.heap.size :: .ref T.heap.size :: rest, locked := none }) rfl d4' _ hsteps
end Ends
section Bodies
variable {l : Launch}
theorem vx_ofW {y : MethodName} {ws ws' : List Cond} {rm : Room} {Pc : Array Value → State → Prop} {Qc : Array Value → State → Outcome → State → Prop} {XC : String → State → State → Prop} {mc ms : Nat} {free : Addr → Prop} {cc : ByteArray} {maxL : Nat} {ret : Option FieldType}
    (hy : plainName y.cls = true) (hw : ws = Cond.code y cc maxL ret :: ws')
    (body : ∀ p e s m args below meth c s₁, BodyLoose p l y (headSpec ws rm) cc maxL ret e s m args below meth c s₁ → c.maxLocals = maxL → (∀ x ∈ c.exceptionTable.toList, False) → Pc args s →
      W p l e (headSpec ws rm).room s m args below meth c s.heap [] 0 0 (vx_MQ below Qc XC args s mc ms free) (entryFrame m args maxL)) : vx_Met l y ws rm Pc Qc XC mc ms free := by
  refine MetFree.of_bodyS (code := cc) (maxLocals := maxL) (ret := ret) hy ?_ ?_
  · intro args s m h hn
    obtain ⟨meth, c, h1, h2, h3, h4, h5, h6, -, -⟩ := Cond.code_spec hn (atoms_spec (ws := ws) h _ (by rw [hw]; exact List.mem_cons_self))
    exact ⟨meth, c, h1, h2, h3, h4, h5, h6⟩
  · intro p e s m args below meth c s₁ B hml hP _
    have hh0 : s₁.heap = s.heap := by rw [B.state]; rfl
    have ht : ∀ x ∈ c.exceptionTable.toList, False := by
      obtain ⟨meth9, c9, h1, h2, -, -, -, -, h7, -⟩ := Cond.code_spec B.named (atoms_spec (ws := ws) B.pre _ (by rw [hw]; exact List.mem_cons_self))
      cases Option.some.inj (h1.symm.trans B.method)
      cases Option.some.inj (h2.symm.trans (Stand.of_body B).code)
      intro x hx
      rw [Array.isEmpty_iff.mp h7] at hx
      cases hx
    obtain ⟨t, a1, o, b1, b2, b3⟩ := body p e s m args below meth c s₁ B hml ht hP s₁ hh0 (Stand.of_body B)
    exact ⟨t, o, a1, b1, b2, b3⟩
/-- the table of a body with handlers -/
theorem vx_table {p : Program} {x y : MethodName} {S : Spec} {cc bytes : ByteArray} {maxL maxL' : Nat} {ret ret' : Option FieldType} {e : Env} {s s₁ : State} {m : MethodId} {args : Array Value} {below : List Frame} {meth : Method} {c : Code} {hh : List (Nat × Nat × Nat × Nat)}
    (B : BodyLoose p l y S cc maxL ret e s m args below meth c s₁) (h : (Cond.codeWith y bytes maxL' ret' hh).before args s = true) : c.exceptionTable.toList = tableOf hh := by
  obtain ⟨m9, meth9, c9, hn9, h1, h2, -, -, h6, -⟩ := Cond.codeWith_spec h
  cases Option.some.inj (hn9.symm.trans B.named)
  cases Option.some.inj (h1.symm.trans B.method)
  cases Option.some.inj (h2.symm.trans (Stand.of_body B).code)
  rw [← h6, table_eq]
end Bodies
end VXA
/-! ===== END ===== -/
/-! ===== BEGIN a static call of a method with an exception table ===== -/
section VXS
variable {p : Program} {l : Launch} {e : Env} {R : Room} {s : State} {m : MethodId} {args : Array Value} {below : List Frame} {meth : Method} {c : Code} {T : State} {H : Heap} {locs : List Loc} {cells slots : Nat}
abbrev vx_CSW (R : Room) (s : State) (args : Array Value) (own : String) (index : Nat) (y : MethodName) (bytes : ByteArray) (maxL : Nat) (ret : Option FieldType) (hh : List (Nat × Nat × Nat × Nat)) (ws : List Cond) (rm : Room) (mc ms n : Nat) : Prop :=
  (rm.cells = mc ∧ rm.slots = ms ∧ rm.frames + 1 ≤ R.frames ∧ 8 + (maxL + 11) + rm.locals ≤ R.locals ∧ (∀ w ∈ ws, ∀ (a' : Array Value) (U : State), s.WarmedH U.vm → w.before a' U = true) ∧ Cond.codeWith y bytes maxL ret hh ∈ ws) ∧
  (Cond.codeWith y bytes maxL ret hh).before args s = true ∧ (Cond.initialized y.cls).before args s = true ∧ (y.cls ≠ "java/lang/invoke/MethodHandle" ∧ y.cls ≠ "java/lang/invoke/VarHandle") ∧
  (∀ sig, parseMethodDescriptor y.desc = some sig → n = sig.parameters.length) ∧ (Cond.methodLink own index y).before args s = true ∧ (Cond.static y).before args s = true
theorem vx_cwSW {own : String} {index maxL mc ms : Nat} {y : MethodName} {bytes : ByteArray} {ret : Option FieldType} {hh : List (Nat × Nat × Nat × Nat)} {Ts ws ws' : List Cond} {rm : Room} (n : Nat) (ht : ∀ w ∈ Ts, w.before args s = true) (hT : GoodIn Ts (va_wsS own index y ws)) (hw : ws = Cond.codeWith y bytes maxL ret hh :: ws') (hrc : rm.cells = mc) (hrs : rm.slots = ms)
    (hd : y.cls ≠ "java/lang/invoke/MethodHandle" ∧ y.cls ≠ "java/lang/invoke/VarHandle" ∧ (parseMethodDescriptor y.desc).map (fun d => d.parameters.length) = some n) (hR : rm.frames + 1 ≤ R.frames ∧ 8 + (maxL + 11) + rm.locals ≤ R.locals) :
    vx_CSW R s args own index y bytes maxL ret hh ws rm mc ms n := by
  have ok : ∀ w ∈ va_wsS own index y ws, w.before args s = true := fun w h => ht w (hT w h).1
  have hG : GoodIn Ts ws := fun w h => hT w (by unfold va_wsS; exact List.mem_append_right _ h)
  have hc : Cond.codeWith y bytes maxL ret hh ∈ ws := by rw [hw]; exact List.mem_cons_self
  refine ⟨⟨hrc, hrs, hR.1, hR.2, pay_in ht hG, hc⟩, ht _ (hG _ hc).1, ok _ (by simp [va_wsS]), ⟨hd.1, hd.2.1⟩, fun sig h => ?_, ok _ (by simp [va_wsS]), ok _ (by simp [va_wsS])⟩
  have h2 := hd.2.2
  rw [h] at h2
  exact (Option.some.inj h2).symm
theorem vx_callSW (X : Stand p l e R s m args below meth c T locs cells slots) (hexec : p.tables.exec = Jvm.exec) {own : String} {index : Nat} {y : MethodName} {bytes : ByteArray} {maxL : Nat} {ret : Option FieldType} {hh : List (Nat × Nat × Nat × Nat)}
    (hown : s.vm.findClass own = some m.cls) (hlink : (Cond.methodLink own index y).before args s = true) (hstat : (Cond.static y).before args s = true) (hinit : (Cond.initialized y.cls).before args s = true)
    (hcode : (Cond.codeWith y bytes maxL ret hh).before args s = true) (hy : y.cls ≠ "java/lang/invoke/MethodHandle" ∧ y.cls ≠ "java/lang/invoke/VarHandle")
    {W9 : Nat} {Pre : Pt → Array Value → Prop} {Post : Pt → Array Value → Option Value → Pt → Prop} (hK : Back l R p e below s args y 3 W9 Pre Post)
    {g : JFrame} (hg : g.method = m) (hsize : g.locals.size = c.maxLocals) {argsL rest : List Value} (hlen : ∀ sig, parseMethodDescriptor y.desc = some sig → argsL.length = sig.parameters.length)
    (hstack : g.stack = argsL.reverse ++ rest) (hW : 2 * g.monitorRoom + (rest.map fun v => v.category).sum ≤ W9) (hdg : decode c.code g.pc = .ok (.invokestatic index, 3))
    (hpre : ∀ vm₁, s.WarmedH vm₁ → Pre ⟨T.setVm vm₁, locs, cells, slots⟩ argsL.toArray) :
    ∃ (v : Option Value) (vm₁ : Vm) (B : Pt), s.WarmedH vm₁ ∧ Stand p l e R s m args below meth c B.U B.locs B.cells B.slots ∧ Post ⟨T.setVm vm₁, locs, cells, slots⟩ argsL.toArray v B ∧
      ∀ target, Steps p.tables e below (B.U.setTop { g with pc := g.pc + 3, stack := v.toList ++ rest }) target → Steps p.tables e below (T.setTop g) target := by
  obtain ⟨mk, methM, cM, hnamed, hmethM, -, -, -, -, -, -, hsigM⟩ := Cond.codeWith_spec hcode
  have hstatic : methM.isStatic = true := Cond.static_spec hnamed hmethM hstat
  obtain ⟨kP, hkP, -⟩ := className_of_methodNamed hnamed
  have hinitP : kP.init = .initialized := Cond.initialized_spec (findClass_of_methodNamed hnamed) hkP hinit
  obtain ⟨vm₁, X₁, hstep₁⟩ := X.invokestatic hexec hown hlink hnamed hmethM hstatic hkP hinitP hy (g := g) hg (argsL := argsL) (rest := rest) (hlen _ hsigM) hstack hdg
  obtain ⟨v, B, X', hpost, hsteps⟩ := hK m meth c ⟨T.setVm vm₁, locs, cells, slots⟩ { g with stack := rest } (.invokestatic index) mk argsL.toArray X₁ hg hsize hdg hW (X₁.named hnamed) (hpre vm₁ X₁.warmed)
  exact ⟨v, vm₁, B, X₁.warmed, X', hpost, fun target h => hstep₁ _ fun acts => by rw [doInvoke_state]; exact hsteps.trans h⟩
theorem vx_runSW {y : MethodName} {bytes cc : ByteArray} {maxL nL mc ms n index : Nat} {ret : Option FieldType} {hh : List (Nat × Nat × Nat × Nat)} {ws : List Cond} {rm : Room} {Pc : Array Value → State → Prop} {Qc : Array Value → State → Outcome → State → Prop} {free : Addr → Prop} {Ts : List Cond} {own : String} {As rest : List Value} {g : JFrame}
    (S : CallFix p m c cc nL s args Ts own) (hM : Met l y ws rm Pc Qc mc ms free) (cw : vx_CSW R s args own index y bytes maxL ret hh ws rm mc ms n) (hp : PreS s H Pc As)
    (hg : g.method = m) (hn : As.length = n) (hsize : g.locals.size = nL) (hstack : g.stack = As.reverse ++ rest) (hW : 2 * g.monitorRoom + (rest.map fun v => v.category).sum ≤ 8) (hdg : decode cc g.pc = .ok (.invokestatic index, 3)) (hf : cells + mc ≤ R.cells ∧ slots + ms ≤ R.slots) :
    va_Run p l e R s m args below meth c H locs cells slots mc ms g rest (Qc As.toArray) (free) := by
  obtain ⟨⟨hrc, hrs, hfr, hlo, hws, hcw⟩, hcode, hini, hy, hlen, hl, hstt⟩ := cw
  have hK : Back l R p e below s args y 3 8 (PreOf R mc ms Pc) (PostOf Qc mc ms free) := va_backW (hh := hh) (bytes := bytes) (maxL := maxL) (ret := ret) hM hp.1 hrc hrs hfr hlo hws hcw (fun a' U hW => word_at hW (Or.inl (by first | rfl | simp [Cond.onTables, Cond.keeps, Cond.steady])) hini)
  obtain ⟨hx, hb, hml, ho, -⟩ := S
  intro T hT X
  obtain ⟨v, vm₁, ⟨U', l2, c2, s2⟩, hW₁, X', ⟨g', mk, t, L, e1, e2, hq, h1, hL, h2, h3⟩, st⟩ := vx_callSW X hx (hh := hh) (bytes := bytes) (maxL := maxL) (ret := ret) ho hl hstt hini hcode hy hK hg (hsize.trans hml.symm) (argsL := As) (rest := rest) (fun sig h => hn.trans (hlen sig h)) hstack hW (by rw [hb]; exact hdg)
    (fun vm₁ hW₁ => ⟨hf.1, hf.2, hp.2 (T.setVm vm₁) hT hW₁⟩)
  dsimp only [Pt.U, Pt.locs, Pt.cells, Pt.slots] at X' e1 e2 h1 h2 h3 st
  subst h1; subst h2; subst h3
  exact ⟨v, (T.setVm vm₁).calling g' mk As.toArray, t, U', L, hT, X', hL, e1, e2, hq, st⟩
/-- not caught here, past rows that name other classes: it goes on to the caller -/
theorem vx_outP {p : Program} {l : Launch} {e : Env} {R : Room} {s : State} {m : MethodId} {args : Array Value} {below : List Frame} {meth : Method} {c : Code} {H : Heap} {locs : List Loc} {cells slots : Nat} {free : Addr → Prop} {ls : Array Slot} {rest : List Value} {Qc : Array Value → State → Outcome → State → Prop} {XC : String → State → State → Prop}
    {pc : Nat} {own E : String} {ce : Cell} {q : Addr} {mc ms : Nat} (hown : s.vm.findClass own = some m.cls) (hlocks : meth.locks = false)
    (hpass : ∀ z ∈ c.exceptionTable.toList, covers z pc = false ∨ (z.catchType ≠ 0 ∧ ∃ nm : String, (Cond.classLink own z.catchType nm).before args s = true ∧ va_Nc E nm s)) (hcell : H[q]? = some ce) (hv : ce.vm = .none) (hcl : s.vm.findClass E = some ce.cls)
    (hx : ∀ t : State, t.heap = H → s.vm.Alike t.vm → XC E s t) (hf : ∀ z ∈ locs, free z.base) (hc : cells ≤ mc) (hs : slots ≤ ms) :
    vx_W p l e R s m args below meth c H locs cells slots (vx_MQ below Qc XC args s mc ms free) (F0 m pc ls rest) q := by
  intro T hT X
  have hpl : e.platform.magicAccessors = ({} : Platform).magicAccessors := by rw [X.admits.platform]
  obtain ⟨vm', hW', X', st⟩ := X.outThrough hlocks q (g := F0 m pc ls rest) rfl rfl rfl (cell := ce) (by rw [hT]; exact hcell) (by rw [hv]; rfl)
    (by obtain ⟨k9, h9, -⟩ := Vm.findClass_spec hcl; exact ⟨k9, h9⟩) (fun z hz => by
      rcases hpass z hz with h | ⟨hz0, nm, hl1, hn1⟩
      · exact Or.inl h
      · obtain ⟨c6, hc6, hcl6⟩ := Cond.classLink_spec hown hl1 e.platform hpl
        obtain ⟨a8, b8, h1, h2, h3⟩ := hn1
        cases Option.some.inj (h1.symm.trans hcl)
        cases Option.some.inj (h2.symm.trans hc6)
        exact Or.inr ⟨hz0, _, hcl6, h3⟩)
  obtain ⟨g₀, hfr⟩ := X'.frames_eq
  have hcell9 : ((T.setVm vm').setFrames (.throwing q :: below)).heap[q]? = some ce := by
    show T.heap[q]? = some ce
    rw [hT]; exact hcell
  have hend : Ended ((T.setVm vm').setFrames (.throwing q :: below)) below (.threw q) := State.frames_setFrames _ (State.cur_lt_of_frames hfr)
  refine ⟨(T.setVm vm').setFrames (.throwing q :: below), ?_, .threw q, X'.here.running, hend, Or.inr ⟨q, rfl, E, ce, locs, hx _ hT (X'.ends _).1.alike, hcell9, hv, hcl, (X'.ends _).1, (X'.ends _).2.mono hc hs, hf⟩⟩
  rw [X.pushThrowing_eq]
  exact st
/-- a thing of a world lies in the heap -/
theorem vx_lt {D : va_G} {cl : List vw_C} {ws : va_W} {H1 : Heap} (h : va_P D cl ws H1) {k : Nat} {q : Nat × va_E} (hk : ws[k]? = some q) : q.1 < H1.size := (h k q hk).lt
end VXS
/-! ===== END ===== -/
/-! ===== BEGIN methods with a table of their own: called by a name, returning or throwing ===== -/
section VXH
/-! vx_backW, vx_callVX, vx_callSX, vx_callVW, vx_runVW, vx_runVX, vx_runSX, vx_ofWH follow the same proofs as their sisters above (Free/Laws.lean, Shelf42/LK1.lean); vx_outP calls Shelf42/NT130.lean (outThrough). -/
section
variable {l : Launch} {R : Room} {p : Program} {e : Env} {below : List Frame} {s : State} {sargs : Array Value} {y : MethodName} {len W9 : Nat}
theorem vx_backW {ws : List Cond} {rm : Room} {Pc : Array Value → State → Prop} {Qc : Array Value → State → Outcome → State → Prop} {XC : String → State → State → Prop} {mc ms : Nat} {free : Addr → Prop} {bytes : ByteArray} {maxL : Nat} {ret : Option FieldType} {hh : List (Nat × Nat × Nat × Nat)}
    (hM : vx_Met l y ws rm Pc Qc XC mc ms free) (hblind : FrameBlind Pc) (hrc : rm.cells = mc) (hrs : rm.slots = ms)
    (hframes : rm.frames + 1 ≤ R.frames) (hlocals : W9 + (maxL + 11) + rm.locals ≤ R.locals)
    (hws : ∀ w ∈ ws, ∀ a' U, s.WarmedH U.vm → w.before a' U = true) (hcode : Cond.codeWith y bytes maxL ret hh ∈ ws) (hinit : ∀ a' U, s.WarmedH U.vm → (Cond.initialized y.cls).before a' U = true) :
    vx_Back l R p e below s sargs y len W9 (PreOf R mc ms Pc) (PostOf Qc mc ms free) (vx_Post XC mc ms free) := by
  intro m meth c A g ig mk a X hg hsize hdg hW hn hp
  have h1 : (headSpec ws rm).pre.before a A.U = true := atoms_intro fun w hw => hws w hw _ _ X.warmed
  have h2 : (Cond.codeWith y bytes maxL ret hh).before a A.U = true := hws _ hcode _ _ X.warmed
  have h3 : (Cond.initialized y.cls).before a A.U = true := hinit _ _ X.warmed
  have h4 : A.cells + (headSpec ws rm).room.cells ≤ R.cells := by rw [show (headSpec ws rm).room.cells = mc from hrc]; exact hp.1
  have h5 : A.slots + (headSpec ws rm).room.slots ≤ R.slots := by rw [show (headSpec ws rm).room.slots = ms from hrs]; exact hp.2.1
  have hPc : Pc a (A.U.calling g mk a) := hblind _ _ _ _ hp.2.2
  obtain ⟨U, Ls, c0, s0⟩ := A
  dsimp only [Pt.U, Pt.locs, Pt.cells, Pt.slots] at h1 h2 h3 h4 h5 X hn hPc ⊢
  obtain ⟨m9, methY, cY, hn9, hmY, hcY, -, hlY, -⟩ := Cond.codeWith_spec h2
  cases Option.some.inj (hn9.symm.trans hn)
  obtain ⟨kY, hkY, -⟩ := className_of_methodNamed hn
  have hinitY : kY.init = .initialized := Cond.initialized_spec (findClass_of_methodNamed hn) hkY h3
  have h : At U g.method c below := by rw [hg]; exact X.here
  have hlocals9 : W9 + (maxL + 11) + (headSpec ws rm).room.locals ≤ R.locals := hlocals
  have happ : (headSpec ws rm).appliesLoose y e.platform (U.calling g mk a) = true :=
    Spec.appliesLoose_calling (g := g) h hdg hn hkY hinitY
      (X.room_calling (g := g) (R' := (headSpec ws rm).room) hsize hmY hcY hframes (by rw [hlY]; omega) h4 h5) h1
  obtain ⟨mid, hmid⟩ := h.above
  have hfr : (U.setTop g).frames = (.java g :: mid) ++ below := by rw [State.frames_setTop' g h.top, hmid]; rfl
  obtain ⟨o, s₂, hsteps, -, hend, hq⟩ := Steps.callFree hM p X.admits X.cas X.clock (acts := []) hfr happ hPc trivial
  have hq' : vx_Q Qc XC mc ms free a (U.calling g mk a) o s₂ := hq
  rw [State.frames_setTop' g h.top] at hend
  obtain ⟨g₀, hg0⟩ := Option.isSome_iff_exists.mp h.top
  obtain ⟨r, hr⟩ := State.topJava?_eq_some.mp hg0
  have hr' : (({ U with heap := s₂.heap, slotsUsed := s₂.slotsUsed } : State).setVm s₂.vm).frames = .java g₀ :: r := hr
  rcases hq' with ⟨hqc, L, hfe, hL⟩ | ⟨q, rfl, E, ce, L, hx, hce, hcv, hcl, hW₂, hsm, hL⟩
  · obtain ⟨⟨v, rfl⟩, hW₂, e2, q2, q3, q4, q5, q6⟩ := id hfe
    have e3 : s₂ = ({ (U.calling g mk a).setFrames s₂.frames with heap := s₂.heap, slotsUsed := s₂.slotsUsed } : State).setVm s₂.vm := by
      have : s₂ = ({ s₂ with vm := (U.calling g mk a).vm } : State).setVm s₂.vm := rfl
      rw [e2] at this
      exact this
    obtain ⟨c₂, i₂, len₂, hc₂, hd₂, hf₂⟩ := hend
    have hW' : U.WarmedH s₂.vm := hW₂
    have hcc : c₂ = c := by
      have h1 : s₂.code? g.method = U.code? g.method := by
        rw [State.code?_eq, State.code?_eq, hW'.alike.method?]
      exact Option.some.inj (hc₂.symm.trans (h1.trans h.code))
    subst hcc
    have hlen : len₂ = len := by rw [hdg] at hd₂; cases hd₂; rfl
    subst hlen
    have hs₂ : s₂ = (({ U with heap := s₂.heap, slotsUsed := s₂.slotsUsed } : State).setVm s₂.vm).setTop { g with pc := g.pc + len₂, stack := v.toList ++ g.stack } := by
      refine e3.trans ?_
      rw [hf₂, State.calling_eq h.top, State.setFrames_setFrames, State.setTop_of_frames _ hr', hr]
      rfl
    have hsame : U.sameButNew ({ U with heap := s₂.heap, slotsUsed := s₂.slotsUsed } : State) L mc ms := by
      refine ⟨?_, q2, q3, q4, q5, q6⟩
      obtain ⟨t, ht, -⟩ := State.frames_cons hr
      show ({ U with heap := s₂.heap, slotsUsed := s₂.slotsUsed } : State) = { U.setFrames U.frames with heap := s₂.heap, slotsUsed := s₂.slotsUsed }
      rw [State.setFrames_self ht]
    subst hg
    refine Or.inl ⟨v, ⟨(({ U with heap := s₂.heap, slotsUsed := s₂.slotsUsed } : State).setVm s₂.vm), Ls ++ L, c0 + mc, s0 + ms⟩,
      ⟨X.admits, X.cas, X.clock, X.frames, X.room, X.hears, X.method, X.code, (X.here.setHeapUsed s₂.heap s₂.slotsUsed).setVm hW'.alike, X.tail, State.WarmedH.trans X.warmed hW', X.limits, X.bytes, X.same.trans (hsame.setVm s.vm)⟩,
      ⟨g, mk, s₂, L, rfl, rfl, hqc, rfl, hL, rfl, rfl⟩, ?_⟩
    show Steps p.tables e below _ ((({ U with heap := s₂.heap, slotsUsed := s₂.slotsUsed } : State).setVm s₂.vm).setTop { g with pc := g.pc + len₂, stack := v.toList ++ g.stack })
    rw [← hs₂]
    exact hsteps
  · obtain ⟨e2, q2, q3, q4, q5, q6⟩ := id hsm
    have e3 : s₂ = ({ (U.calling g mk a).setFrames s₂.frames with heap := s₂.heap, slotsUsed := s₂.slotsUsed } : State).setVm s₂.vm := by
      have : s₂ = ({ s₂ with vm := (U.calling g mk a).vm } : State).setVm s₂.vm := rfl
      rw [e2] at this
      exact this
    have hf₂ : s₂.frames = .throwing q :: .java g :: U.frames.tail := hend
    have hW' : U.WarmedH s₂.vm := hW₂
    have hs₂ : s₂ = ((({ U with heap := s₂.heap, slotsUsed := s₂.slotsUsed } : State).setVm s₂.vm).setTop g).pushFrame (.throwing q) := by
      refine e3.trans ?_
      rw [hf₂, State.calling_eq h.top, State.setFrames_setFrames, State.pushFrame, State.frames_setTop _ hr', State.setTop_of_frames _ hr', State.setFrames_setFrames, hr]
      rfl
    have hsame : U.sameButNew ({ U with heap := s₂.heap, slotsUsed := s₂.slotsUsed } : State) L mc ms := by
      refine ⟨?_, q2, q3, q4, q5, q6⟩
      obtain ⟨t, ht, -⟩ := State.frames_cons hr
      show ({ U with heap := s₂.heap, slotsUsed := s₂.slotsUsed } : State) = { U.setFrames U.frames with heap := s₂.heap, slotsUsed := s₂.slotsUsed }
      rw [State.setFrames_self ht]
    subst hg
    refine Or.inr ⟨q, ⟨(({ U with heap := s₂.heap, slotsUsed := s₂.slotsUsed } : State).setVm s₂.vm), Ls ++ L, c0 + mc, s0 + ms⟩,
      ⟨X.admits, X.cas, X.clock, X.frames, X.room, X.hears, X.method, X.code, (X.here.setHeapUsed s₂.heap s₂.slotsUsed).setVm hW'.alike, X.tail, State.WarmedH.trans X.warmed hW', X.limits, X.bytes, X.same.trans (hsame.setVm s.vm)⟩,
      ⟨g, mk, s₂, L, E, ce, rfl, rfl, hx, hce, hcv, hcl, rfl, hL, rfl, rfl⟩, ?_⟩
    show Steps p.tables e below _ (((({ U with heap := s₂.heap, slotsUsed := s₂.slotsUsed } : State).setVm s₂.vm).setTop g).pushFrame (.throwing q))
    rw [← hs₂]
    exact hsteps
end
variable {p : Program} {l : Launch} {e : Env} {R : Room} {s : State} {m : MethodId} {args : Array Value} {below : List Frame} {meth : Method} {c : Code} {T : State} {H : Heap} {locs : List Loc} {cells slots : Nat}
theorem vx_callVX (X : Stand p l e R s m args below meth c T locs cells slots) (hexec : p.tables.exec = Jvm.exec) {own C : String} {index : Nat} {y : MethodName} {bytes : ByteArray} {maxL : Nat} {ret : Option FieldType} {hh : List (Nat × Nat × Nat × Nat)}
    (hown : s.vm.findClass own = some m.cls) (hlink : (Cond.methodLink own index y).before args s = true) (hinst : (Cond.instanceMethod y).before args s = true) (hsel : (Cond.selects C y y).before args s = true)
    (hcode : (Cond.codeWith y bytes maxL ret hh).before args s = true) (hy : y.cls ≠ "java/lang/invoke/MethodHandle" ∧ y.cls ≠ "java/lang/invoke/VarHandle")
    {W9 : Nat} {Pre : Pt → Array Value → Prop} {Post : Pt → Array Value → Option Value → Pt → Prop} {PostX : Pt → Array Value → Addr → Pt → Prop} (hK : vx_Back l R p e below s args y 3 W9 Pre Post PostX)
    {b : Addr} {cellB : Cell} (hcell : T.heap[b]? = some cellB) (hobj : cellB.vm.isStatics = false) (hcls : s.vm.findClass C = some cellB.cls)
    {g : JFrame} (hg : g.method = m) (hsize : g.locals.size = c.maxLocals) {argsL rest : List Value} (hlen : ∀ sig, parseMethodDescriptor y.desc = some sig → argsL.length = sig.parameters.length)
    (hstack : g.stack = argsL.reverse ++ .ref b :: rest) (hW : 2 * g.monitorRoom + (rest.map fun v => v.category).sum ≤ W9) (hdg : decode c.code g.pc = .ok (.invokevirtual index, 3))
    (hpre : ∀ vm₁, s.WarmedH vm₁ → Pre ⟨T.setVm vm₁, locs, cells, slots⟩ (Value.ref b :: argsL).toArray) :
    (∃ (v : Option Value) (vm₁ : Vm) (B : Pt), s.WarmedH vm₁ ∧ Stand p l e R s m args below meth c B.U B.locs B.cells B.slots ∧ Post ⟨T.setVm vm₁, locs, cells, slots⟩ (Value.ref b :: argsL).toArray v B ∧
      ∀ target, Steps p.tables e below (B.U.setTop { g with pc := g.pc + 3, stack := v.toList ++ rest }) target → Steps p.tables e below (T.setTop g) target) ∨
    (∃ (q : Addr) (vm₁ : Vm) (B : Pt), s.WarmedH vm₁ ∧ Stand p l e R s m args below meth c B.U B.locs B.cells B.slots ∧ PostX ⟨T.setVm vm₁, locs, cells, slots⟩ (Value.ref b :: argsL).toArray q B ∧
      Steps p.tables e below (T.setTop g) ((B.U.setTop { g with stack := rest }).pushFrame (.throwing q))) := by
  obtain ⟨mk, methM, hnamed, hmethM, hstM, habM⟩ := Cond.instanceMethod_spec hinst
  obtain ⟨m8, methM', cM, hn8, hmethM', -, -, -, -, -, -, hsigM⟩ := Cond.codeWith_spec hcode
  cases Option.some.inj (hn8.symm.trans hnamed)
  cases hmethM.symm.trans hmethM'
  obtain ⟨c2, r2, m2, q1, q2, q3, q4, kP, hkP, hkPi⟩ := Cond.selects_spec hsel
  cases hcls.symm.trans q1
  cases (State.methodFound?_of_named hnamed hy).symm.trans q2
  cases hnamed.symm.trans q3
  have hselP : selectMethod e.platform s.vm cellB.cls mk = .method mk := by rw [Launch.admits_selectMethod X.admits]; exact q4
  obtain ⟨vm₁, X₁, hstep₁⟩ := X.invokevirtual hexec hown hlink hnamed hmethM hstM hkP hkPi hy (a := b) (cell := cellB) hcell
    (fun z h => by rw [h] at hobj; cases hobj) hselP hmethM habM hkP hkPi (g := g) hg (argsL := argsL) (rest := rest) (hlen _ hsigM) hstack hdg
  rcases hK m meth c ⟨T.setVm vm₁, locs, cells, slots⟩ { g with stack := rest } (.invokevirtual index) mk (Value.ref b :: argsL).toArray X₁ hg hsize hdg hW (X₁.named hnamed) (hpre vm₁ X₁.warmed) with ⟨v, B, X', hpost, hsteps⟩ | ⟨q, B, X', hpost, hsteps⟩
  · exact Or.inl ⟨v, vm₁, B, X₁.warmed, X', hpost, fun target h => hstep₁ _ fun acts => by rw [doInvoke_state]; exact hsteps.trans h⟩
  · exact Or.inr ⟨q, vm₁, B, X₁.warmed, X', hpost, hstep₁ _ fun acts => by rw [doInvoke_state]; exact hsteps⟩
theorem vx_callSX (X : Stand p l e R s m args below meth c T locs cells slots) (hexec : p.tables.exec = Jvm.exec) {own : String} {index : Nat} {y : MethodName} {bytes : ByteArray} {maxL : Nat} {ret : Option FieldType} {hh : List (Nat × Nat × Nat × Nat)}
    (hown : s.vm.findClass own = some m.cls) (hlink : (Cond.methodLink own index y).before args s = true) (hstat : (Cond.static y).before args s = true) (hinit : (Cond.initialized y.cls).before args s = true)
    (hcode : (Cond.codeWith y bytes maxL ret hh).before args s = true) (hy : y.cls ≠ "java/lang/invoke/MethodHandle" ∧ y.cls ≠ "java/lang/invoke/VarHandle")
    {W9 : Nat} {Pre : Pt → Array Value → Prop} {Post : Pt → Array Value → Option Value → Pt → Prop} {PostX : Pt → Array Value → Addr → Pt → Prop} (hK : vx_Back l R p e below s args y 3 W9 Pre Post PostX)
    {g : JFrame} (hg : g.method = m) (hsize : g.locals.size = c.maxLocals) {argsL rest : List Value} (hlen : ∀ sig, parseMethodDescriptor y.desc = some sig → argsL.length = sig.parameters.length)
    (hstack : g.stack = argsL.reverse ++ rest) (hW : 2 * g.monitorRoom + (rest.map fun v => v.category).sum ≤ W9) (hdg : decode c.code g.pc = .ok (.invokestatic index, 3))
    (hpre : ∀ vm₁, s.WarmedH vm₁ → Pre ⟨T.setVm vm₁, locs, cells, slots⟩ argsL.toArray) :
    (∃ (v : Option Value) (vm₁ : Vm) (B : Pt), s.WarmedH vm₁ ∧ Stand p l e R s m args below meth c B.U B.locs B.cells B.slots ∧ Post ⟨T.setVm vm₁, locs, cells, slots⟩ argsL.toArray v B ∧
      ∀ target, Steps p.tables e below (B.U.setTop { g with pc := g.pc + 3, stack := v.toList ++ rest }) target → Steps p.tables e below (T.setTop g) target) ∨
    (∃ (q : Addr) (vm₁ : Vm) (B : Pt), s.WarmedH vm₁ ∧ Stand p l e R s m args below meth c B.U B.locs B.cells B.slots ∧ PostX ⟨T.setVm vm₁, locs, cells, slots⟩ argsL.toArray q B ∧
      Steps p.tables e below (T.setTop g) ((B.U.setTop { g with stack := rest }).pushFrame (.throwing q))) := by
  obtain ⟨mk, methM, cM, hnamed, hmethM, -, -, -, -, -, -, hsigM⟩ := Cond.codeWith_spec hcode
  have hstatic : methM.isStatic = true := Cond.static_spec hnamed hmethM hstat
  obtain ⟨kP, hkP, -⟩ := className_of_methodNamed hnamed
  have hinitP : kP.init = .initialized := Cond.initialized_spec (findClass_of_methodNamed hnamed) hkP hinit
  obtain ⟨vm₁, X₁, hstep₁⟩ := X.invokestatic hexec hown hlink hnamed hmethM hstatic hkP hinitP hy (g := g) hg (argsL := argsL) (rest := rest) (hlen _ hsigM) hstack hdg
  rcases hK m meth c ⟨T.setVm vm₁, locs, cells, slots⟩ { g with stack := rest } (.invokestatic index) mk argsL.toArray X₁ hg hsize hdg hW (X₁.named hnamed) (hpre vm₁ X₁.warmed) with ⟨v, B, X', hpost, hsteps⟩ | ⟨q, B, X', hpost, hsteps⟩
  · exact Or.inl ⟨v, vm₁, B, X₁.warmed, X', hpost, fun target h => hstep₁ _ fun acts => by rw [doInvoke_state]; exact hsteps.trans h⟩
  · exact Or.inr ⟨q, vm₁, B, X₁.warmed, X', hpost, hstep₁ _ fun acts => by rw [doInvoke_state]; exact hsteps⟩
theorem vx_callVW (X : Stand p l e R s m args below meth c T locs cells slots) (hexec : p.tables.exec = Jvm.exec) {own C : String} {index : Nat} {y : MethodName} {bytes : ByteArray} {maxL : Nat} {ret : Option FieldType} {hh : List (Nat × Nat × Nat × Nat)}
    (hown : s.vm.findClass own = some m.cls) (hlink : (Cond.methodLink own index y).before args s = true) (hinst : (Cond.instanceMethod y).before args s = true) (hsel : (Cond.selects C y y).before args s = true)
    (hcode : (Cond.codeWith y bytes maxL ret hh).before args s = true) (hy : y.cls ≠ "java/lang/invoke/MethodHandle" ∧ y.cls ≠ "java/lang/invoke/VarHandle")
    {W9 : Nat} {Pre : Pt → Array Value → Prop} {Post : Pt → Array Value → Option Value → Pt → Prop} (hK : Back l R p e below s args y 3 W9 Pre Post)
    {b : Addr} {cellB : Cell} (hcell : T.heap[b]? = some cellB) (hobj : cellB.vm.isStatics = false) (hcls : s.vm.findClass C = some cellB.cls)
    {g : JFrame} (hg : g.method = m) (hsize : g.locals.size = c.maxLocals) {argsL rest : List Value} (hlen : ∀ sig, parseMethodDescriptor y.desc = some sig → argsL.length = sig.parameters.length)
    (hstack : g.stack = argsL.reverse ++ .ref b :: rest) (hW : 2 * g.monitorRoom + (rest.map fun v => v.category).sum ≤ W9) (hdg : decode c.code g.pc = .ok (.invokevirtual index, 3))
    (hpre : ∀ vm₁, s.WarmedH vm₁ → Pre ⟨T.setVm vm₁, locs, cells, slots⟩ (Value.ref b :: argsL).toArray) :
    ∃ (v : Option Value) (vm₁ : Vm) (B : Pt), s.WarmedH vm₁ ∧ Stand p l e R s m args below meth c B.U B.locs B.cells B.slots ∧ Post ⟨T.setVm vm₁, locs, cells, slots⟩ (Value.ref b :: argsL).toArray v B ∧
      ∀ target, Steps p.tables e below (B.U.setTop { g with pc := g.pc + 3, stack := v.toList ++ rest }) target → Steps p.tables e below (T.setTop g) target := by
  obtain ⟨mk, methM, hnamed, hmethM, hstM, habM⟩ := Cond.instanceMethod_spec hinst
  obtain ⟨m8, methM', cM, hn8, hmethM', -, -, -, -, -, -, hsigM⟩ := Cond.codeWith_spec hcode
  cases Option.some.inj (hn8.symm.trans hnamed)
  cases hmethM.symm.trans hmethM'
  obtain ⟨c2, r2, m2, q1, q2, q3, q4, kP, hkP, hkPi⟩ := Cond.selects_spec hsel
  cases hcls.symm.trans q1
  cases (State.methodFound?_of_named hnamed hy).symm.trans q2
  cases hnamed.symm.trans q3
  have hselP : selectMethod e.platform s.vm cellB.cls mk = .method mk := by rw [Launch.admits_selectMethod X.admits]; exact q4
  obtain ⟨vm₁, X₁, hstep₁⟩ := X.invokevirtual hexec hown hlink hnamed hmethM hstM hkP hkPi hy (a := b) (cell := cellB) hcell
    (fun z h => by rw [h] at hobj; cases hobj) hselP hmethM habM hkP hkPi (g := g) hg (argsL := argsL) (rest := rest) (hlen _ hsigM) hstack hdg
  obtain ⟨v, B, X', hpost, hsteps⟩ := hK m meth c ⟨T.setVm vm₁, locs, cells, slots⟩ { g with stack := rest } (.invokevirtual index) mk (Value.ref b :: argsL).toArray X₁ hg hsize hdg hW (X₁.named hnamed) (hpre vm₁ X₁.warmed)
  exact ⟨v, vm₁, B, X₁.warmed, X', hpost, fun target h => hstep₁ _ fun acts => by rw [doInvoke_state]; exact hsteps.trans h⟩
abbrev vx_CVW (R : Room) (s : State) (args : Array Value) (own C : String) (index : Nat) (y : MethodName) (bytes : ByteArray) (maxL : Nat) (ret : Option FieldType) (hh : List (Nat × Nat × Nat × Nat)) (ws : List Cond) (rm : Room) (mc ms n : Nat) : Prop :=
  (rm.cells = mc ∧ rm.slots = ms ∧ rm.frames + 1 ≤ R.frames ∧ 8 + (maxL + 11) + rm.locals ≤ R.locals ∧ (∀ w ∈ ws, ∀ (a' : Array Value) (U : State), s.WarmedH U.vm → w.before a' U = true) ∧ Cond.codeWith y bytes maxL ret hh ∈ ws) ∧
  (Cond.codeWith y bytes maxL ret hh).before args s = true ∧ (Cond.initialized y.cls).before args s = true ∧ (y.cls ≠ "java/lang/invoke/MethodHandle" ∧ y.cls ≠ "java/lang/invoke/VarHandle") ∧
  (∀ sig, parseMethodDescriptor y.desc = some sig → n = sig.parameters.length) ∧ (Cond.methodLink own index y).before args s = true ∧ (Cond.instanceMethod y).before args s = true ∧ (Cond.selects C y y).before args s = true
theorem vx_cwVW {own C : String} {index maxL mc ms : Nat} {y : MethodName} {bytes : ByteArray} {ret : Option FieldType} {hh : List (Nat × Nat × Nat × Nat)} {Ts ws ws' : List Cond} {rm : Room} (n : Nat) (ht : ∀ w ∈ Ts, w.before args s = true) (hT : GoodIn Ts (wsV own index C y ws)) (hw : ws = Cond.codeWith y bytes maxL ret hh :: ws') (hrc : rm.cells = mc) (hrs : rm.slots = ms)
    (hd : y.cls = C ∧ y.cls ≠ "java/lang/invoke/MethodHandle" ∧ y.cls ≠ "java/lang/invoke/VarHandle" ∧ (parseMethodDescriptor y.desc).map (fun d => d.parameters.length) = some n) (hR : rm.frames + 1 ≤ R.frames ∧ 8 + (maxL + 11) + rm.locals ≤ R.locals) :
    vx_CVW R s args own C index y bytes maxL ret hh ws rm mc ms n := by
  obtain ⟨hC, hd⟩ := hd
  subst hC
  have ok : ∀ w ∈ wsV own index y.cls y ws, w.before args s = true := fun w h => ht w (hT w h).1
  have hG : GoodIn Ts ws := fun w h => hT w (by unfold wsV; exact List.mem_append_right _ h)
  have hc : Cond.codeWith y bytes maxL ret hh ∈ ws := by rw [hw]; exact List.mem_cons_self
  refine ⟨⟨hrc, hrs, hR.1, hR.2, pay_in ht hG, hc⟩, ht _ (hG _ hc).1, ok _ (by simp [wsV]), ⟨hd.1, hd.2.1⟩, fun sig h => ?_, ok _ (by simp [wsV]), ok _ (by simp [wsV]), ok _ (by simp [wsV])⟩
  have h2 := hd.2.2
  rw [h] at h2
  exact (Option.some.inj h2).symm
theorem vx_runVW {y : MethodName} {bytes cc : ByteArray} {maxL nL mc ms n index : Nat} {ret : Option FieldType} {hh : List (Nat × Nat × Nat × Nat)} {ws : List Cond} {rm : Room} {Pc : Array Value → State → Prop} {Qc : Array Value → State → Outcome → State → Prop} {free : Addr → Prop} {Ts : List Cond} {own C : String} {b : Addr} {As rest : List Value} {g : JFrame}
    (S : CallFix p m c cc nL s args Ts own) (hM : Met l y ws rm Pc Qc mc ms free) (cw : vx_CVW R s args own C index y bytes maxL ret hh ws rm mc ms n) (hp : PreV s H C b Pc As)
    (hg : g.method = m) (hn : As.length = n) (hsize : g.locals.size = nL) (hstack : g.stack = As.reverse ++ .ref b :: rest) (hW : 2 * g.monitorRoom + (rest.map fun v => v.category).sum ≤ 8) (hdg : decode cc g.pc = .ok (.invokevirtual index, 3)) (hf : cells + mc ≤ R.cells ∧ slots + ms ≤ R.slots) :
    va_Run p l e R s m args below meth c H locs cells slots mc ms g rest (Qc (Value.ref b :: As).toArray) free := by
  obtain ⟨⟨hrc, hrs, hfr, hlo, hws, hcw⟩, hcode, hini, hy, hlen, hl, hin, hse⟩ := cw
  have hK : Back l R p e below s args y 3 8 (PreOf R mc ms Pc) (PostOf Qc mc ms free) := va_backW (hh := hh) (bytes := bytes) (maxL := maxL) (ret := ret) hM hp.1 hrc hrs hfr hlo hws hcw (fun a' U hW => word_at hW (Or.inl (by first | rfl | simp [Cond.onTables, Cond.keeps, Cond.steady])) hini)
  obtain ⟨hx, hb, hml, ho, -⟩ := S
  obtain ⟨-, ⟨cellB, hcB, hoB, hclB⟩, hPc⟩ := hp
  intro T hT X
  obtain ⟨v, vm₁, ⟨U', l2, c2, s2⟩, hW₁, X', ⟨g', mk, t, L, e1, e2, hq, h1, hL, h2, h3⟩, st⟩ := vx_callVW X hx (C := C) (hh := hh) (bytes := bytes) (maxL := maxL) (ret := ret) ho hl hin hse hcode hy hK (by rw [hT]; exact hcB) hoB hclB hg (hsize.trans hml.symm) (argsL := As) (rest := rest) (fun sig h => hn.trans (hlen sig h)) hstack hW (by rw [hb]; exact hdg)
    (fun vm₁ hW₁ => ⟨hf.1, hf.2, hPc (T.setVm vm₁) hT hW₁⟩)
  dsimp only [Pt.U, Pt.locs, Pt.cells, Pt.slots] at X' e1 e2 h1 h2 h3 st
  subst h1; subst h2; subst h3
  exact ⟨v, (T.setVm vm₁).calling g' mk (Value.ref b :: As).toArray, t, U', L, hT, X', hL, e1, e2, hq, st⟩
section
variable {y : MethodName} {bytes cc : ByteArray} {maxL nL mc ms n index : Nat} {ret : Option FieldType} {ws : List Cond} {rm : Room} {Pc : Array Value → State → Prop} {Qc : Array Value → State → Outcome → State → Prop} {XC : String → State → State → Prop} {free : Addr → Prop} {Ts : List Cond} {own C : String} {b : Addr} {As rest : List Value} {g : JFrame}
theorem vx_runVX {hh : List (Nat × Nat × Nat × Nat)} (S : CallFix p m c cc nL s args Ts own) (hM : vx_Met l y ws rm Pc Qc XC mc ms free) (cw : vx_CVW R s args own C index y bytes maxL ret hh ws rm mc ms n) (hp : PreV s H C b Pc As)
    (hg : g.method = m) (hn : As.length = n) (hsize : g.locals.size = nL) (hstack : g.stack = As.reverse ++ .ref b :: rest) (hW : 2 * g.monitorRoom + (rest.map fun v => v.category).sum ≤ 8) (hdg : decode cc g.pc = .ok (.invokevirtual index, 3)) (hf : cells + mc ≤ R.cells ∧ slots + ms ≤ R.slots) :
    vx_Run p l e R s m args below meth c H locs cells slots mc ms g rest (Qc (Value.ref b :: As).toArray) XC free := by
  obtain ⟨⟨hrc, hrs, hfr, hlo, hws, hcw⟩, hcode, hini, hy, hlen, hl, hin, hse⟩ := cw
  have hK : vx_Back l R p e below s args y 3 8 (PreOf R mc ms Pc) (PostOf Qc mc ms free) (vx_Post XC mc ms free) := vx_backW (hh := hh) (bytes := bytes) (maxL := maxL) (ret := ret) hM hp.1 hrc hrs hfr hlo hws hcw (fun a' U hW => word_at hW (Or.inl (by first | rfl | simp [Cond.onTables, Cond.keeps, Cond.steady])) hini)
  obtain ⟨hx, hb, hml, ho, -⟩ := S
  obtain ⟨-, ⟨cellB, hcB, hoB, hclB⟩, hPc⟩ := hp
  intro T hT X
  rcases vx_callVX X hx (C := C) (hh := hh) (bytes := bytes) (maxL := maxL) (ret := ret) ho hl hin hse hcode hy hK (by rw [hT]; exact hcB) hoB hclB hg (hsize.trans hml.symm) (argsL := As) (rest := rest) (fun sig h => hn.trans (hlen sig h)) hstack hW (by rw [hb]; exact hdg)
    (fun vm₁ hW₁ => ⟨hf.1, hf.2, hPc (T.setVm vm₁) hT hW₁⟩) with ⟨v, vm₁, ⟨U', l2, c2, s2⟩, hW₁, X', ⟨g', mk, t, L, e1, e2, hq, h1, hL, h2, h3⟩, st⟩ | ⟨q, vm₁, ⟨U', l2, c2, s2⟩, hW₁, X', ⟨g', mk, t, L, E, ce, e1, e2, hq, hce, hcv, hcl, h1, hL, h2, h3⟩, st⟩
  · dsimp only [Pt.U, Pt.locs, Pt.cells, Pt.slots] at X' e1 e2 h1 h2 h3 st
    subst h1; subst h2; subst h3
    exact Or.inl ⟨v, (T.setVm vm₁).calling g' mk (Value.ref b :: As).toArray, t, U', L, hT, X', hL, e1, e2, hq, st⟩
  · dsimp only [Pt.U, Pt.locs, Pt.cells, Pt.slots] at X' e1 e2 h1 h2 h3 st hcl
    subst h1; subst h2; subst h3
    exact Or.inr ⟨q, (T.setVm vm₁).calling g' mk (Value.ref b :: As).toArray, t, U', L, E, ce, hT, X', hL, e1, e2, hq, hce, hcv, vx_cls hW₁ hcl, st⟩
theorem vx_runSX {hh : List (Nat × Nat × Nat × Nat)} (S : CallFix p m c cc nL s args Ts own) (hM : vx_Met l y ws rm Pc Qc XC mc ms free) (cw : vx_CSW R s args own index y bytes maxL ret hh ws rm mc ms n) (hp : PreS s H Pc As)
    (hg : g.method = m) (hn : As.length = n) (hsize : g.locals.size = nL) (hstack : g.stack = As.reverse ++ rest) (hW : 2 * g.monitorRoom + (rest.map fun v => v.category).sum ≤ 8) (hdg : decode cc g.pc = .ok (.invokestatic index, 3)) (hf : cells + mc ≤ R.cells ∧ slots + ms ≤ R.slots) :
    vx_Run p l e R s m args below meth c H locs cells slots mc ms g rest (Qc As.toArray) XC free := by
  obtain ⟨⟨hrc, hrs, hfr, hlo, hws, hcw⟩, hcode, hini, hy, hlen, hl, hstt⟩ := cw
  have hK : vx_Back l R p e below s args y 3 8 (PreOf R mc ms Pc) (PostOf Qc mc ms free) (vx_Post XC mc ms free) := vx_backW (hh := hh) (bytes := bytes) (maxL := maxL) (ret := ret) hM hp.1 hrc hrs hfr hlo hws hcw (fun a' U hW => word_at hW (Or.inl (by first | rfl | simp [Cond.onTables, Cond.keeps, Cond.steady])) hini)
  obtain ⟨hx, hb, hml, ho, -⟩ := S
  intro T hT X
  rcases vx_callSX X hx (hh := hh) (bytes := bytes) (maxL := maxL) (ret := ret) ho hl hstt hini hcode hy hK hg (hsize.trans hml.symm) (argsL := As) (rest := rest) (fun sig h => hn.trans (hlen sig h)) hstack hW (by rw [hb]; exact hdg)
    (fun vm₁ hW₁ => ⟨hf.1, hf.2, hp.2 (T.setVm vm₁) hT hW₁⟩) with ⟨v, vm₁, ⟨U', l2, c2, s2⟩, hW₁, X', ⟨g', mk, t, L, e1, e2, hq, h1, hL, h2, h3⟩, st⟩ | ⟨q, vm₁, ⟨U', l2, c2, s2⟩, hW₁, X', ⟨g', mk, t, L, E, ce, e1, e2, hq, hce, hcv, hcl, h1, hL, h2, h3⟩, st⟩
  · dsimp only [Pt.U, Pt.locs, Pt.cells, Pt.slots] at X' e1 e2 h1 h2 h3 st
    subst h1; subst h2; subst h3
    exact Or.inl ⟨v, (T.setVm vm₁).calling g' mk As.toArray, t, U', L, hT, X', hL, e1, e2, hq, st⟩
  · dsimp only [Pt.U, Pt.locs, Pt.cells, Pt.slots] at X' e1 e2 h1 h2 h3 st hcl
    subst h1; subst h2; subst h3
    exact Or.inr ⟨q, (T.setVm vm₁).calling g' mk As.toArray, t, U', L, E, ce, hT, X', hL, e1, e2, hq, hce, hcv, vx_cls hW₁ hcl, st⟩
end
end VXH
theorem vx_ofWH {l : Launch} {y : MethodName} {ws ws' : List Cond} {rm : Room} {Pc : Array Value → State → Prop} {Qc : Array Value → State → Outcome → State → Prop} {XC : String → State → State → Prop} {mc ms : Nat} {free : Addr → Prop} {cc : ByteArray} {maxL : Nat} {ret : Option FieldType} {hh : List (Nat × Nat × Nat × Nat)}
    (hy : plainName y.cls = true) (hw : ws = Cond.codeWith y cc maxL ret hh :: ws')
    (body : ∀ p e s m args below meth c s₁, BodyLoose p l y (headSpec ws rm) cc maxL ret e s m args below meth c s₁ → c.maxLocals = maxL → Pc args s →
      W p l e (headSpec ws rm).room s m args below meth c s.heap [] 0 0 (vx_MQ below Qc XC args s mc ms free) (entryFrame m args maxL)) : vx_Met l y ws rm Pc Qc XC mc ms free := by
  refine MetFree.of_bodyS (code := cc) (maxLocals := maxL) (ret := ret) hy ?_ ?_
  · intro args s m h hn
    obtain ⟨m9, meth, c, hn9, h1, h2, h3, h4, -, h5, h6, -⟩ := Cond.codeWith_spec (atoms_spec (ws := ws) h _ (by rw [hw]; exact List.mem_cons_self))
    cases hn.symm.trans hn9
    exact ⟨meth, c, h1, h2, h3, h4, h5, h6⟩
  · intro p e s m args below meth c s₁ B hml hP _
    have hh0 : s₁.heap = s.heap := by rw [B.state]; rfl
    obtain ⟨t, a1, o, b1, b2, b3⟩ := body p e s m args below meth c s₁ B hml hP s₁ hh0 (Stand.of_body B)
    exact ⟨t, o, a1, b1, b2, b3⟩
/-! ===== END ===== -/

def RX0 : String := "LinkElection$Data"
def TX0 : u_T := fun k => match k with
  | 0 => ("LinkElection$Data", "rows", "[LLinkElection$Library;", true)
  | 1 => ("LinkElection$Data", "libraryCount", "I", false)
  | 2 => ("LinkElection$Data", "nameCount", "I", false)
  | 3 => ("LinkElection$Data", "share", "I", false)
  | _ => ("LinkElection$Data", "weight", "LLinkElection$Weight;", false)
def tyX0 : Nat → FieldType := fun k => match k with
  | 0 => .array (.object "LinkElection$Library")
  | 1 => .int
  | 2 => .int
  | 3 => .int
  | _ => .object "LinkElection$Weight"
abbrev wsX00 : List Cond := u_ws RX0 TX0 5
theorem nmX0 : ∀ a, a < 5 → ∀ b, b < 5 → a ≠ b → (TX0 a).2.1 ≠ (TX0 b).2.1 := by decide +kernel
theorem tyX0_ok : ∀ k, k < 5 → parseFieldDescriptor (TX0 k).2.2.1 = some (tyX0 k) := by decide +kernel
abbrev cX0_init : ByteArray := prog_2_method_1_code
def yX0_init : MethodName := ⟨RX0, "<init>", "()V"⟩
abbrev cX0_clear : ByteArray := prog_2_method_2_code
def yX0_clear : MethodName := ⟨RX0, "clear", "()V"⟩
abbrev cX0_copyFrom : ByteArray := prog_2_method_3_code
def yX0_copyFrom : MethodName := ⟨RX0, "copyFrom", "(LLinkElection$Data;)V"⟩
abbrev cX0_isCandidate : ByteArray := prog_2_method_4_code
def yX0_isCandidate : MethodName := ⟨RX0, "isCandidate", "(II)Z"⟩
abbrev cX0_takeOut : ByteArray := prog_2_method_5_code
def yX0_takeOut : MethodName := ⟨RX0, "takeOut", "(I)V"⟩
abbrev cX0_takeIn : ByteArray := prog_2_method_6_code
def yX0_takeIn : MethodName := ⟨RX0, "takeIn", "(I)V"⟩
abbrev cX0_friendsOf : ByteArray := prog_2_method_7_code
def yX0_friendsOf : MethodName := ⟨RX0, "friendsOf", "(I)I"⟩
abbrev cX0_weightOf : ByteArray := prog_2_method_8_code
def yX0_weightOf : MethodName := ⟨RX0, "weightOf", "(I)I"⟩
def RX1 : String := "LinkElection$Election"
def TX1 : u_T := fun k => match k with
  | 0 => ("LinkElection$Election", "weights", "[I", true)
  | 1 => ("LinkElection$Election", "candidateCounts", "[I", true)
  | 2 => ("LinkElection$Election", "winners", "[I", true)
  | 3 => ("LinkElection$Election", "margins", "[I", true)
  | 4 => ("LinkElection$Election", "votes", "[I", true)
  | 5 => ("LinkElection$Election", "supports", "[I", true)
  | _ => ("LinkElection$Election", "bindings", "[I", true)
def tyX1 : Nat → FieldType := fun k => match k with
  | 0 => .array .int
  | 1 => .array .int
  | 2 => .array .int
  | 3 => .array .int
  | 4 => .array .int
  | 5 => .array .int
  | _ => .array .int
abbrev wsX10 : List Cond := u_ws RX1 TX1 7
theorem nmX1 : ∀ a, a < 7 → ∀ b, b < 7 → a ≠ b → (TX1 a).2.1 ≠ (TX1 b).2.1 := by decide +kernel
theorem tyX1_ok : ∀ k, k < 7 → parseFieldDescriptor (TX1 k).2.2.1 = some (tyX1 k) := by decide +kernel
abbrev cX1_init : ByteArray := prog_3_method_1_code
def yX1_init : MethodName := ⟨RX1, "<init>", "()V"⟩
abbrev cX1_count : ByteArray := prog_3_method_2_code
def yX1_count : MethodName := ⟨RX1, "count", "(LLinkElection$Data;)V"⟩
abbrev cX1_countCandidates : ByteArray := prog_3_method_3_code
def yX1_countCandidates : MethodName := ⟨RX1, "countCandidates", "(LLinkElection$Data;I)V"⟩
abbrev cX1_countVotes : ByteArray := prog_3_method_4_code
def yX1_countVotes : MethodName := ⟨RX1, "countVotes", "(LLinkElection$Data;I)V"⟩
abbrev cX1_choiceOf : ByteArray := prog_3_method_5_code
def yX1_choiceOf : MethodName := ⟨RX1, "choiceOf", "(LLinkElection$Data;II)I"⟩
abbrev cX1_countWinner : ByteArray := prog_3_method_6_code
def yX1_countWinner : MethodName := ⟨RX1, "countWinner", "(LLinkElection$Data;I)V"⟩
abbrev cX1_isAhead : ByteArray := prog_3_method_7_code
def yX1_isAhead : MethodName := ⟨RX1, "isAhead", "(LLinkElection$Data;III)Z"⟩
abbrev cX1_countMargin : ByteArray := prog_3_method_8_code
def yX1_countMargin : MethodName := ⟨RX1, "countMargin", "(LLinkElection$Data;I)V"⟩
abbrev cX1_countBindings : ByteArray := prog_3_method_9_code
def yX1_countBindings : MethodName := ⟨RX1, "countBindings", "(LLinkElection$Data;I)V"⟩
abbrev cX1_isLargeEnough : ByteArray := prog_3_method_10_code
def yX1_isLargeEnough : MethodName := ⟨RX1, "isLargeEnough", "(IIII)Z"⟩
def RX2 : String := "LinkElection$History"
def TX2 : u_T := fun k => match k with
  | 0 => ("LinkElection$History", "kept", "[LLinkElection$Data;", true)
  | 1 => ("LinkElection$History", "next", "I", false)
  | _ => ("LinkElection$History", "size", "I", false)
def tyX2 : Nat → FieldType := fun k => match k with
  | 0 => .array (.object "LinkElection$Data")
  | 1 => .int
  | _ => .int
abbrev wsX20 : List Cond := u_ws RX2 TX2 3
theorem nmX2 : ∀ a, a < 3 → ∀ b, b < 3 → a ≠ b → (TX2 a).2.1 ≠ (TX2 b).2.1 := by decide +kernel
theorem tyX2_ok : ∀ k, k < 3 → parseFieldDescriptor (TX2 k).2.2.1 = some (tyX2 k) := by decide +kernel
abbrev cX2_init : ByteArray := prog_4_method_1_code
def yX2_init : MethodName := ⟨RX2, "<init>", "()V"⟩
abbrev cX2_keep : ByteArray := prog_4_method_2_code
def yX2_keep : MethodName := ⟨RX2, "keep", "(LLinkElection$Data;)V"⟩
abbrev cX2_bringBack : ByteArray := prog_4_method_3_code
def yX2_bringBack : MethodName := ⟨RX2, "bringBack", "(LLinkElection$Data;)Z"⟩
def RX3 : String := "LinkElection$Library"
def TX3 : u_T := fun k => match k with
  | 0 => ("LinkElection$Library", "trust", "I", false)
  | 1 => ("LinkElection$Library", "keeps", "Z", false)
  | 2 => ("LinkElection$Library", "rank", "I", false)
  | 3 => ("LinkElection$Library", "offers", "[I", true)
  | 4 => ("LinkElection$Library", "preferences", "[I", true)
  | _ => ("LinkElection$Library", "preferenceCount", "I", false)
def tyX3 : Nat → FieldType := fun k => match k with
  | 0 => .int
  | 1 => .boolean
  | 2 => .int
  | 3 => .array .int
  | 4 => .array .int
  | _ => .int
abbrev wsX30 : List Cond := u_ws RX3 TX3 6
theorem nmX3 : ∀ a, a < 6 → ∀ b, b < 6 → a ≠ b → (TX3 a).2.1 ≠ (TX3 b).2.1 := by decide +kernel
theorem tyX3_ok : ∀ k, k < 6 → parseFieldDescriptor (TX3 k).2.2.1 = some (tyX3 k) := by decide +kernel
abbrev cX3_init : ByteArray := prog_5_method_1_code
def yX3_init : MethodName := ⟨RX3, "<init>", "()V"⟩
abbrev cX3_startAs : ByteArray := prog_5_method_2_code
def yX3_startAs : MethodName := ⟨RX3, "startAs", "(II)V"⟩
abbrev cX3_copyFrom : ByteArray := prog_5_method_3_code
def yX3_copyFrom : MethodName := ⟨RX3, "copyFrom", "(LLinkElection$Library;)V"⟩
abbrev cX3_isLoaded : ByteArray := prog_5_method_4_code
def yX3_isLoaded : MethodName := ⟨RX3, "isLoaded", "()Z"⟩
abbrev cX3_hasOffer : ByteArray := prog_5_method_5_code
def yX3_hasOffer : MethodName := ⟨RX3, "hasOffer", "(I)Z"⟩
abbrev cX3_countOffers : ByteArray := prog_5_method_6_code
def yX3_countOffers : MethodName := ⟨RX3, "countOffers", "()I"⟩
abbrev cX3_prefers : ByteArray := prog_5_method_7_code
def yX3_prefers : MethodName := ⟨RX3, "prefers", "(I)Z"⟩
abbrev cX3_addPreference : ByteArray := prog_5_method_8_code
def yX3_addPreference : MethodName := ⟨RX3, "addPreference", "(I)V"⟩
def RX4 : String := "LinkElection$Route"
def TX4 : u_T := fun k => match k with
  | 0 => ("LinkElection$Route", "visited", "[I", true)
  | 1 => ("LinkElection$Route", "result", "I", false)
  | _ => ("LinkElection$Route", "length", "I", false)
def tyX4 : Nat → FieldType := fun k => match k with
  | 0 => .array .int
  | 1 => .int
  | _ => .int
abbrev wsX40 : List Cond := u_ws RX4 TX4 3
theorem nmX4 : ∀ a, a < 3 → ∀ b, b < 3 → a ≠ b → (TX4 a).2.1 ≠ (TX4 b).2.1 := by decide +kernel
theorem tyX4_ok : ∀ k, k < 3 → parseFieldDescriptor (TX4 k).2.2.1 = some (tyX4 k) := by decide +kernel
abbrev cX4_init : ByteArray := prog_6_method_1_code
def yX4_init : MethodName := ⟨RX4, "<init>", "()V"⟩
abbrev cX4_follow : ByteArray := prog_6_method_2_code
def yX4_follow : MethodName := ⟨RX4, "follow", "(LLinkElection$Data;LLinkElection$Election;II)V"⟩
def RX5 : String := "LinkElection$SetupReader"
def TX5 : u_T := fun k => match k with
  | 0 => ("LinkElection$SetupReader", "tokens", "LLinkElection$Tokens;", true)
  | 1 => ("LinkElection$SetupReader", "draft", "LLinkElection$Data;", true)
  | 2 => ("LinkElection$SetupReader", "libraryWords", "[J", true)
  | 3 => ("LinkElection$SetupReader", "nameWords", "[J", true)
  | 4 => ("LinkElection$SetupReader", "code", "[I", true)
  | 5 => ("LinkElection$SetupReader", "codeLength", "I", false)
  | 6 => ("LinkElection$SetupReader", "shareTold", "Z", false)
  | 7 => ("LinkElection$SetupReader", "weightTold", "Z", false)
  | 8 => ("LinkElection$SetupReader", "found", "I", false)
  | 9 => ("LinkElection$SetupReader", "errorCode", "I", false)
  | _ => ("LinkElection$SetupReader", "errorPlace", "I", false)
def tyX5 : Nat → FieldType := fun k => match k with
  | 0 => .object "LinkElection$Tokens"
  | 1 => .object "LinkElection$Data"
  | 2 => .array .long
  | 3 => .array .long
  | 4 => .array .int
  | 5 => .int
  | 6 => .boolean
  | 7 => .boolean
  | 8 => .int
  | 9 => .int
  | _ => .int
abbrev wsX50 : List Cond := u_ws RX5 TX5 11
theorem nmX5 : ∀ a, a < 11 → ∀ b, b < 11 → a ≠ b → (TX5 a).2.1 ≠ (TX5 b).2.1 := by decide +kernel
theorem tyX5_ok : ∀ k, k < 11 → parseFieldDescriptor (TX5 k).2.2.1 = some (tyX5 k) := by decide +kernel
abbrev cX5_init : ByteArray := prog_7_method_1_code
def yX5_init : MethodName := ⟨RX5, "<init>", "()V"⟩
abbrev cX5_readText : ByteArray := prog_7_method_2_code
def yX5_readText : MethodName := ⟨RX5, "readText", "([BI)Z"⟩
abbrev cX5_readStatement : ByteArray := prog_7_method_3_code
def yX5_readStatement : MethodName := ⟨RX5, "readStatement", "()Z"⟩
abbrev cX5_readNewName : ByteArray := prog_7_method_4_code
def yX5_readNewName : MethodName := ⟨RX5, "readNewName", "()Z"⟩
abbrev cX5_readNewLibrary : ByteArray := prog_7_method_5_code
def yX5_readNewLibrary : MethodName := ⟨RX5, "readNewLibrary", "()Z"⟩
abbrev cX5_readOffer : ByteArray := prog_7_method_6_code
def yX5_readOffer : MethodName := ⟨RX5, "readOffer", "()Z"⟩
abbrev cX5_readPrefer : ByteArray := prog_7_method_7_code
def yX5_readPrefer : MethodName := ⟨RX5, "readPrefer", "()Z"⟩
abbrev cX5_readShare : ByteArray := prog_7_method_8_code
def yX5_readShare : MethodName := ⟨RX5, "readShare", "()Z"⟩
abbrev cX5_readWeight : ByteArray := prog_7_method_9_code
def yX5_readWeight : MethodName := ⟨RX5, "readWeight", "()Z"⟩
abbrev cX5_readSum : ByteArray := prog_7_method_10_code
def yX5_readSum : MethodName := ⟨RX5, "readSum", "(I)Z"⟩
abbrev cX5_readTerm : ByteArray := prog_7_method_11_code
def yX5_readTerm : MethodName := ⟨RX5, "readTerm", "(I)Z"⟩
abbrev cX5_readFactor : ByteArray := prog_7_method_12_code
def yX5_readFactor : MethodName := ⟨RX5, "readFactor", "(I)Z"⟩
abbrev cX5_quantityCode : ByteArray := prog_7_method_13_code
def yX5_quantityCode : MethodName := ⟨RX5, "quantityCode", "()I"⟩
abbrev cX5_addCode : ByteArray := prog_7_method_14_code
def yX5_addCode : MethodName := ⟨RX5, "addCode", "(I)V"⟩
abbrev cX5_readKeyword : ByteArray := prog_7_method_15_code
def yX5_readKeyword : MethodName := ⟨RX5, "readKeyword", "(Ljava/lang/String;)Z"⟩
abbrev cX5_readSign : ByteArray := prog_7_method_16_code
def yX5_readSign : MethodName := ⟨RX5, "readSign", "(C)Z"⟩
abbrev cX5_readNumber : ByteArray := prog_7_method_17_code
def yX5_readNumber : MethodName := ⟨RX5, "readNumber", "(I)Z"⟩
abbrev cX5_readNewWord : ByteArray := prog_7_method_18_code
def yX5_readNewWord : MethodName := ⟨RX5, "readNewWord", "([JI)Z"⟩
abbrev cX5_findLibrary : ByteArray := prog_7_method_19_code
def yX5_findLibrary : MethodName := ⟨RX5, "findLibrary", "()Z"⟩
abbrev cX5_findName : ByteArray := prog_7_method_20_code
def yX5_findName : MethodName := ⟨RX5, "findName", "()Z"⟩
abbrev cX5_findWord : ByteArray := prog_7_method_21_code
def yX5_findWord : MethodName := ⟨RX5, "findWord", "([JI)Z"⟩
abbrev cX5_indexOfWord : ByteArray := prog_7_method_22_code
def yX5_indexOfWord : MethodName := ⟨RX5, "indexOfWord", "([JI)I"⟩
abbrev cX5_syntaxError : ByteArray := prog_7_method_23_code
def yX5_syntaxError : MethodName := ⟨RX5, "syntaxError", "()Z"⟩
abbrev cX5_error : ByteArray := prog_7_method_24_code
def yX5_error : MethodName := ⟨RX5, "error", "(I)Z"⟩
def RX6 : String := "LinkElection$Tokens"
def TX6 : u_T := fun k => match k with
  | 0 => ("LinkElection$Tokens", "text", "[B", true)
  | 1 => ("LinkElection$Tokens", "length", "I", false)
  | 2 => ("LinkElection$Tokens", "position", "I", false)
  | 3 => ("LinkElection$Tokens", "kind", "I", false)
  | 4 => ("LinkElection$Tokens", "start", "I", false)
  | 5 => ("LinkElection$Tokens", "word", "J", false)
  | 6 => ("LinkElection$Tokens", "number", "I", false)
  | _ => ("LinkElection$Tokens", "sign", "I", false)
def tyX6 : Nat → FieldType := fun k => match k with
  | 0 => .array .byte
  | 1 => .int
  | 2 => .int
  | 3 => .int
  | 4 => .int
  | 5 => .long
  | 6 => .int
  | _ => .int
abbrev wsX60 : List Cond := u_ws RX6 TX6 8
theorem nmX6 : ∀ a, a < 8 → ∀ b, b < 8 → a ≠ b → (TX6 a).2.1 ≠ (TX6 b).2.1 := by decide +kernel
theorem tyX6_ok : ∀ k, k < 8 → parseFieldDescriptor (TX6 k).2.2.1 = some (tyX6 k) := by decide +kernel
abbrev cX6_init : ByteArray := prog_8_method_1_code
def yX6_init : MethodName := ⟨RX6, "<init>", "()V"⟩
abbrev cX6_startText : ByteArray := prog_8_method_2_code
def yX6_startText : MethodName := ⟨RX6, "startText", "([BI)V"⟩
abbrev cX6_advance : ByteArray := prog_8_method_3_code
def yX6_advance : MethodName := ⟨RX6, "advance", "()V"⟩
abbrev cX6_runOf : ByteArray := prog_8_method_4_code
def yX6_runOf : MethodName := ⟨RX6, "runOf", "(CC)I"⟩
abbrev cX6_takeWord : ByteArray := prog_8_method_5_code
def yX6_takeWord : MethodName := ⟨RX6, "takeWord", "(I)V"⟩
abbrev cX6_takeNumber : ByteArray := prog_8_method_6_code
def yX6_takeNumber : MethodName := ⟨RX6, "takeNumber", "(I)V"⟩
abbrev cX6_isSign : ByteArray := prog_8_method_7_code
def yX6_isSign : MethodName := ⟨RX6, "isSign", "(C)Z"⟩
abbrev cX6_isWord : ByteArray := prog_8_method_8_code
def yX6_isWord : MethodName := ⟨RX6, "isWord", "(Ljava/lang/String;)Z"⟩
abbrev cX6_packed : ByteArray := prog_8_method_9_code
def yX6_packed : MethodName := ⟨RX6, "packed", "(Ljava/lang/String;)J"⟩
def RX7 : String := "LinkElection$Weight"
def TX7 : u_T := fun k => match k with
  | 0 => ("LinkElection$Weight", "code", "[I", true)
  | _ => ("LinkElection$Weight", "stack", "[I", true)
def tyX7 : Nat → FieldType := fun k => match k with
  | 0 => .array .int
  | _ => .array .int
abbrev wsX70 : List Cond := u_ws RX7 TX7 2
theorem nmX7 : ∀ a, a < 2 → ∀ b, b < 2 → a ≠ b → (TX7 a).2.1 ≠ (TX7 b).2.1 := by decide +kernel
theorem tyX7_ok : ∀ k, k < 2 → parseFieldDescriptor (TX7 k).2.2.1 = some (tyX7 k) := by decide +kernel
abbrev cX7_init : ByteArray := prog_9_method_1_code
def yX7_init : MethodName := ⟨RX7, "<init>", "([I)V"⟩
abbrev cX7_valueOf : ByteArray := prog_9_method_2_code
def yX7_valueOf : MethodName := ⟨RX7, "valueOf", "(IIII)I"⟩
abbrev cX7_factorValue : ByteArray := prog_9_method_3_code
def yX7_factorValue : MethodName := ⟨RX7, "factorValue", "(IIIII)I"⟩
abbrev cX7_operate : ByteArray := prog_9_method_4_code
def yX7_operate : MethodName := ⟨RX7, "operate", "(IJJ)I"⟩
abbrev cX7_limited : ByteArray := prog_9_method_5_code
def yX7_limited : MethodName := ⟨RX7, "limited", "(JII)I"⟩
def RX8 : String := "LinkElection"
def TX8 : u_T := fun k => match k with
  | 0 => ("LinkElection", "buffer", "[B", true)
  | 1 => ("LinkElection", "buffered", "I", false)
  | 2 => ("LinkElection", "errorPlace", "I", false)
  | 3 => ("LinkElection", "reader", "LLinkElection$SetupReader;", true)
  | 4 => ("LinkElection", "data", "LLinkElection$Data;", true)
  | 5 => ("LinkElection", "election", "LLinkElection$Election;", true)
  | 6 => ("LinkElection", "route", "LLinkElection$Route;", true)
  | 7 => ("LinkElection", "history", "LLinkElection$History;", true)
  | _ => ("LinkElection", "bindingsBefore", "[I", true)
def tyX8 : Nat → FieldType := fun k => match k with
  | 0 => .array .byte
  | 1 => .int
  | 2 => .int
  | 3 => .object "LinkElection$SetupReader"
  | 4 => .object "LinkElection$Data"
  | 5 => .object "LinkElection$Election"
  | 6 => .object "LinkElection$Route"
  | 7 => .object "LinkElection$History"
  | _ => .array .int
abbrev wsX80 : List Cond := u_ws RX8 TX8 9
theorem nmX8 : ∀ a, a < 9 → ∀ b, b < 9 → a ≠ b → (TX8 a).2.1 ≠ (TX8 b).2.1 := by decide +kernel
theorem tyX8_ok : ∀ k, k < 9 → parseFieldDescriptor (TX8 k).2.2.1 = some (tyX8 k) := by decide +kernel
abbrev cX8_init : ByteArray := prog_1_method_1_code
def yX8_init : MethodName := ⟨RX8, "<init>", "()V"⟩
abbrev cX8_append : ByteArray := prog_1_method_2_code
def yX8_append : MethodName := ⟨RX8, "append", "(IIIII)I"⟩
abbrev cX8_load : ByteArray := prog_1_method_3_code
def yX8_load : MethodName := ⟨RX8, "load", "(I)I"⟩
abbrev cX8_errorOffset : ByteArray := prog_1_method_4_code
def yX8_errorOffset : MethodName := ⟨RX8, "errorOffset", "()I"⟩
abbrev cX8_libraries : ByteArray := prog_1_method_5_code
def yX8_libraries : MethodName := ⟨RX8, "libraries", "()I"⟩
abbrev cX8_names : ByteArray := prog_1_method_6_code
def yX8_names : MethodName := ⟨RX8, "names", "()I"⟩
abbrev cX8_share : ByteArray := prog_1_method_7_code
def yX8_share : MethodName := ⟨RX8, "share", "()I"⟩
abbrev cX8_library : ByteArray := prog_1_method_8_code
def yX8_library : MethodName := ⟨RX8, "library", "(II)I"⟩
abbrev cX8_offer : ByteArray := prog_1_method_9_code
def yX8_offer : MethodName := ⟨RX8, "offer", "(II)I"⟩
abbrev cX8_candidates : ByteArray := prog_1_method_10_code
def yX8_candidates : MethodName := ⟨RX8, "candidates", "(I)I"⟩
abbrev cX8_winner : ByteArray := prog_1_method_13_code
def yX8_winner : MethodName := ⟨RX8, "winner", "(I)I"⟩
abbrev cX8_binding : ByteArray := prog_1_method_15_code
def yX8_binding : MethodName := ⟨RX8, "binding", "(II)I"⟩
abbrev cX8_minority : ByteArray := prog_1_method_16_code
def yX8_minority : MethodName := ⟨RX8, "minority", "(I)I"⟩
abbrev cX8_call : ByteArray := prog_1_method_17_code
def yX8_call : MethodName := ⟨RX8, "call", "(II)I"⟩
abbrev cX8_unload : ByteArray := prog_1_method_20_code
def yX8_unload : MethodName := ⟨RX8, "unload", "(I)I"⟩
abbrev cX8_reload : ByteArray := prog_1_method_21_code
def yX8_reload : MethodName := ⟨RX8, "reload", "(I)I"⟩
abbrev cX8_offerValue : ByteArray := prog_1_method_22_code
def yX8_offerValue : MethodName := ⟨RX8, "offerValue", "(III)I"⟩
abbrev cX8_offerForward : ByteArray := prog_1_method_23_code
def yX8_offerForward : MethodName := ⟨RX8, "offerForward", "(III)I"⟩
abbrev cX8_withdraw : ByteArray := prog_1_method_24_code
def yX8_withdraw : MethodName := ⟨RX8, "withdraw", "(II)I"⟩
abbrev cX8_setTrust : ByteArray := prog_1_method_25_code
def yX8_setTrust : MethodName := ⟨RX8, "setTrust", "(II)I"⟩
abbrev cX8_setKeeps : ByteArray := prog_1_method_26_code
def yX8_setKeeps : MethodName := ⟨RX8, "setKeeps", "(IZ)I"⟩
abbrev cX8_setShare : ByteArray := prog_1_method_27_code
def yX8_setShare : MethodName := ⟨RX8, "setShare", "(I)I"⟩
abbrev cX8_undo : ByteArray := prog_1_method_28_code
def yX8_undo : MethodName := ⟨RX8, "undo", "()I"⟩
abbrev cX8_checksum : ByteArray := prog_1_method_29_code
def yX8_checksum : MethodName := ⟨RX8, "checksum", "()J"⟩
abbrev cX8_requireLibrary : ByteArray := prog_1_method_30_code
def yX8_requireLibrary : MethodName := ⟨RX8, "requireLibrary", "(I)V"⟩
abbrev cX8_requireName : ByteArray := prog_1_method_31_code
def yX8_requireName : MethodName := ⟨RX8, "requireName", "(I)V"⟩
abbrev cX8_cellOf : ByteArray := prog_1_method_32_code
def yX8_cellOf : MethodName := ⟨RX8, "cellOf", "(II)I"⟩
abbrev cX8_putBytes : ByteArray := prog_1_method_33_code
def yX8_putBytes : MethodName := ⟨RX8, "putBytes", "(I)V"⟩
abbrev cX8_beginChange : ByteArray := prog_1_method_34_code
def yX8_beginChange : MethodName := ⟨RX8, "beginChange", "()V"⟩
abbrev cX8_changeOffer : ByteArray := prog_1_method_35_code
def yX8_changeOffer : MethodName := ⟨RX8, "changeOffer", "(III)I"⟩
abbrev cX8_changedBindings : ByteArray := prog_1_method_36_code
def yX8_changedBindings : MethodName := ⟨RX8, "changedBindings", "(I)I"⟩
abbrev cX8_changedBindingsOfAll : ByteArray := prog_1_method_37_code
def yX8_changedBindingsOfAll : MethodName := ⟨RX8, "changedBindingsOfAll", "()I"⟩
def RX9 : String := "LinkElectionLaw$Library"
def TX9 : u_T := fun k => match k with
  | 0 => ("LinkElectionLaw$Library", "trust", "I", false)
  | 1 => ("LinkElectionLaw$Library", "keeps", "Z", false)
  | 2 => ("LinkElectionLaw$Library", "prefers", "[I", false)
  | _ => ("LinkElectionLaw$Library", "offers", "[I", false)
def tyX9 : Nat → FieldType := fun k => match k with
  | 0 => .int
  | 1 => .boolean
  | 2 => .array .int
  | _ => .array .int
abbrev wsX90 : List Cond := u_ws RX9 TX9 4
theorem nmX9 : ∀ a, a < 4 → ∀ b, b < 4 → a ≠ b → (TX9 a).2.1 ≠ (TX9 b).2.1 := by decide +kernel
theorem tyX9_ok : ∀ k, k < 4 → parseFieldDescriptor (TX9 k).2.2.1 = some (tyX9 k) := by decide +kernel
abbrev cX9_init : ByteArray := prog_11_method_1_code
def yX9_init : MethodName := ⟨RX9, "<init>", "()V"⟩
abbrev cX9_copy : ByteArray := prog_11_method_2_code
def yX9_copy : MethodName := ⟨RX9, "copy", "()LLinkElectionLaw$Library;"⟩
abbrev cX9_offered : ByteArray := prog_11_method_3_code
def yX9_offered : MethodName := ⟨RX9, "offered", "()I"⟩
def RX10 : String := "LinkElectionLaw$Linker"
def TX10 : u_T := fun k => match k with
  | 0 => ("LinkElectionLaw$Linker", "names", "I", false)
  | 1 => ("LinkElectionLaw$Linker", "share", "I", false)
  | 2 => ("LinkElectionLaw$Linker", "all", "[LLinkElectionLaw$Library;", false)
  | 3 => ("LinkElectionLaw$Linker", "loaded", "[I", false)
  | _ => ("LinkElectionLaw$Linker", "term", "LLinkElectionLaw$Node;", false)
def tyX10 : Nat → FieldType := fun k => match k with
  | 0 => .int
  | 1 => .int
  | 2 => .array (.object "LinkElectionLaw$Library")
  | 3 => .array .int
  | _ => .object "LinkElectionLaw$Node"
abbrev wsX100 : List Cond := u_ws RX10 TX10 5
theorem nmX10 : ∀ a, a < 5 → ∀ b, b < 5 → a ≠ b → (TX10 a).2.1 ≠ (TX10 b).2.1 := by decide +kernel
theorem tyX10_ok : ∀ k, k < 5 → parseFieldDescriptor (TX10 k).2.2.1 = some (tyX10 k) := by decide +kernel
abbrev cX10_init : ByteArray := prog_12_method_1_code
def yX10_init : MethodName := ⟨RX10, "<init>", "()V"⟩
abbrev cX10_copy : ByteArray := prog_12_method_2_code
def yX10_copy : MethodName := ⟨RX10, "copy", "()LLinkElectionLaw$Linker;"⟩
abbrev cX10_rank : ByteArray := prog_12_method_3_code
def yX10_rank : MethodName := ⟨RX10, "rank", "(I)I"⟩
abbrev cX10_weight : ByteArray := prog_12_method_4_code
def yX10_weight : MethodName := ⟨RX10, "weight", "(I)I"⟩
abbrev cX10_isCandidate : ByteArray := prog_12_method_5_code
def yX10_isCandidate : MethodName := ⟨RX10, "isCandidate", "(II)Z"⟩
abbrev cX10_vote : ByteArray := prog_12_method_6_code
def yX10_vote : MethodName := ⟨RX10, "vote", "(II)I"⟩
abbrev cX10_support : ByteArray := prog_12_method_7_code
def yX10_support : MethodName := ⟨RX10, "support", "(II)I"⟩
abbrev cX10_winner : ByteArray := prog_12_method_8_code
def yX10_winner : MethodName := ⟨RX10, "winner", "(I)I"⟩
abbrev cX10_binding : ByteArray := prog_12_method_10_code
def yX10_binding : MethodName := ⟨RX10, "binding", "(II)I"⟩
abbrev cX10_bindings : ByteArray := prog_12_method_11_code
def yX10_bindings : MethodName := ⟨RX10, "bindings", "()[[I"⟩
abbrev cX10_call : ByteArray := prog_12_method_12_code
def yX10_call : MethodName := ⟨RX10, "call", "([[III)[I"⟩
abbrev cX10_changed : ByteArray := prog_12_method_13_code
def yX10_changed : MethodName := ⟨RX10, "changed", "([[II)I"⟩
abbrev cX10_told : ByteArray := prog_12_method_14_code
def yX10_told : MethodName := ⟨RX10, "told", "(II)I"⟩
abbrev cX10_sum : ByteArray := prog_12_method_15_code
def yX10_sum : MethodName := ⟨RX10, "sum", "()J"⟩
def RX11 : String := "LinkElectionLaw$Node"
def TX11 : u_T := fun k => match k with
  | 0 => ("LinkElectionLaw$Node", "kind", "I", false)
  | 1 => ("LinkElectionLaw$Node", "number", "I", false)
  | 2 => ("LinkElectionLaw$Node", "left", "LLinkElectionLaw$Node;", false)
  | _ => ("LinkElectionLaw$Node", "right", "LLinkElectionLaw$Node;", false)
def tyX11 : Nat → FieldType := fun k => match k with
  | 0 => .int
  | 1 => .int
  | 2 => .object "LinkElectionLaw$Node"
  | _ => .object "LinkElectionLaw$Node"
abbrev wsX110 : List Cond := u_ws RX11 TX11 4
theorem nmX11 : ∀ a, a < 4 → ∀ b, b < 4 → a ≠ b → (TX11 a).2.1 ≠ (TX11 b).2.1 := by decide +kernel
theorem tyX11_ok : ∀ k, k < 4 → parseFieldDescriptor (TX11 k).2.2.1 = some (tyX11 k) := by decide +kernel
abbrev cX11_init : ByteArray := prog_13_method_1_code
def yX11_init : MethodName := ⟨RX11, "<init>", "()V"⟩
abbrev cX11_random : ByteArray := prog_13_method_2_code
def yX11_random : MethodName := ⟨RX11, "random", "(LLinkElectionLaw$Random;I)LLinkElectionLaw$Node;"⟩
abbrev cX11_text : ByteArray := prog_13_method_3_code
def yX11_text : MethodName := ⟨RX11, "text", "(I)Ljava/lang/String;"⟩
abbrev cX11_value : ByteArray := prog_13_method_4_code
def yX11_value : MethodName := ⟨RX11, "value", "([J)J"⟩
def RX12 : String := "LinkElectionLaw$Random"
def TX12 : u_T := fun k => match k with
  | _ => ("LinkElectionLaw$Random", "seed", "I", false)
def tyX12 : Nat → FieldType := fun k => match k with
  | _ => .int
abbrev wsX120 : List Cond := u_ws RX12 TX12 1
theorem nmX12 : ∀ a, a < 1 → ∀ b, b < 1 → a ≠ b → (TX12 a).2.1 ≠ (TX12 b).2.1 := by decide +kernel
theorem tyX12_ok : ∀ k, k < 1 → parseFieldDescriptor (TX12 k).2.2.1 = some (tyX12 k) := by decide +kernel
abbrev cX12_init : ByteArray := prog_14_method_1_code
def yX12_init : MethodName := ⟨RX12, "<init>", "(I)V"⟩
abbrev cX12_below : ByteArray := prog_14_method_2_code
def yX12_below : MethodName := ⟨RX12, "below", "(I)I"⟩
def RX13 : String := "LinkElectionModel"
def TX13 : u_T := fun k => match k with
  | _ => ("", "", "", false)
def tyX13 : Nat → FieldType := fun k => match k with
  | _ => .int
abbrev wsX130 : List Cond := u_ws RX13 TX13 0
theorem nmX13 : ∀ a, a < 0 → ∀ b, b < 0 → a ≠ b → (TX13 a).2.1 ≠ (TX13 b).2.1 := by decide +kernel
theorem tyX13_ok : ∀ k, k < 0 → parseFieldDescriptor (TX13 k).2.2.1 = some (tyX13 k) := by decide +kernel
def RJx145de : String := "java/io/Serializable"
def TJx145de : u_T := fun k => match k with
  | _ => ("", "", "", false)
def tyJx145de : Nat → FieldType := fun k => match k with
  | _ => .int
abbrev wsJx145de0 : List Cond := u_ws RJx145de TJx145de 0
theorem nmJx145de : ∀ a, a < 0 → ∀ b, b < 0 → a ≠ b → (TJx145de a).2.1 ≠ (TJx145de b).2.1 := by decide +kernel
theorem tyJx145de_ok : ∀ k, k < 0 → parseFieldDescriptor (TJx145de k).2.2.1 = some (tyJx145de k) := by decide +kernel
def RJ5 : String := "java/lang/AbstractStringBuilder"
def TJ5 : u_T := fun k => match k with
  | _ => ("", "", "", false)
def tyJ5 : Nat → FieldType := fun k => match k with
  | _ => .int
abbrev wsJ50 : List Cond := u_ws RJ5 TJ5 0
theorem nmJ5 : ∀ a, a < 0 → ∀ b, b < 0 → a ≠ b → (TJ5 a).2.1 ≠ (TJ5 b).2.1 := by decide +kernel
theorem tyJ5_ok : ∀ k, k < 0 → parseFieldDescriptor (TJ5 k).2.2.1 = some (tyJ5 k) := by decide +kernel
abbrev cJ5_init_d00df : ByteArray := prog_16_method_2_code
def yJ5_init_d00df : MethodName := ⟨RJ5, "<init>", "(I)V"⟩
abbrev cJ5_length_8abf5 : ByteArray := prog_16_method_6_code
def yJ5_length_8abf5 : MethodName := ⟨RJ5, "length", "()I"⟩
abbrev cJ5_ensureCapacityInternal_d00df : ByteArray := prog_16_method_9_code
def yJ5_ensureCapacityInternal_d00df : MethodName := ⟨RJ5, "ensureCapacityInternal", "(I)V"⟩
abbrev cJ5_newCapacity_0f7a4 : ByteArray := prog_16_method_10_code
def yJ5_newCapacity_0f7a4 : MethodName := ⟨RJ5, "newCapacity", "(I)I"⟩
abbrev cJ5_inflate_da8c8 : ByteArray := prog_16_method_11_code
def yJ5_inflate_da8c8 : MethodName := ⟨RJ5, "inflate", "()V"⟩
abbrev cJ5_append_cf1ce : ByteArray := prog_16_method_22_code
def yJ5_append_cf1ce : MethodName := ⟨RJ5, "append", "(Ljava/lang/String;)Ljava/lang/AbstractStringBuilder;"⟩
abbrev cJ5_appendNull_278bc : ByteArray := prog_16_method_26_code
def yJ5_appendNull_278bc : MethodName := ⟨RJ5, "appendNull", "()Ljava/lang/AbstractStringBuilder;"⟩
abbrev cJ5_append_3fe6f : ByteArray := prog_16_method_31_code
def yJ5_append_3fe6f : MethodName := ⟨RJ5, "append", "(C)Ljava/lang/AbstractStringBuilder;"⟩
abbrev cJ5_append_c97b9 : ByteArray := prog_16_method_32_code
def yJ5_append_c97b9 : MethodName := ⟨RJ5, "append", "(I)Ljava/lang/AbstractStringBuilder;"⟩
abbrev cJ5_getValue_6d5f1 : ByteArray := prog_16_method_64_code
def yJ5_getValue_6d5f1 : MethodName := ⟨RJ5, "getValue", "()[B"⟩
abbrev cJ5_isLatin1_aae02 : ByteArray := prog_16_method_68_code
def yJ5_isLatin1_aae02 : MethodName := ⟨RJ5, "isLatin1", "()Z"⟩
abbrev cJ5_inflateIfNeededFor_a7421 : ByteArray := prog_16_method_71_code
def yJ5_inflateIfNeededFor_a7421 : MethodName := ⟨RJ5, "inflateIfNeededFor", "(Ljava/lang/String;)V"⟩
abbrev cJ5_putStringAt_47b60 : ByteArray := prog_16_method_73_code
def yJ5_putStringAt_47b60 : MethodName := ⟨RJ5, "putStringAt", "(ILjava/lang/String;)V"⟩
def RJx2cfe8 : String := "java/lang/Appendable"
def TJx2cfe8 : u_T := fun k => match k with
  | _ => ("", "", "", false)
def tyJx2cfe8 : Nat → FieldType := fun k => match k with
  | _ => .int
abbrev wsJx2cfe80 : List Cond := u_ws RJx2cfe8 TJx2cfe8 0
theorem nmJx2cfe8 : ∀ a, a < 0 → ∀ b, b < 0 → a ≠ b → (TJx2cfe8 a).2.1 ≠ (TJx2cfe8 b).2.1 := by decide +kernel
theorem tyJx2cfe8_ok : ∀ k, k < 0 → parseFieldDescriptor (TJx2cfe8 k).2.2.1 = some (tyJx2cfe8 k) := by decide +kernel
def RJx9f9b0 : String := "java/lang/CharSequence"
def TJx9f9b0 : u_T := fun k => match k with
  | _ => ("", "", "", false)
def tyJx9f9b0 : Nat → FieldType := fun k => match k with
  | _ => .int
abbrev wsJx9f9b00 : List Cond := u_ws RJx9f9b0 TJx9f9b0 0
theorem nmJx9f9b0 : ∀ a, a < 0 → ∀ b, b < 0 → a ≠ b → (TJx9f9b0 a).2.1 ≠ (TJx9f9b0 b).2.1 := by decide +kernel
theorem tyJx9f9b0_ok : ∀ k, k < 0 → parseFieldDescriptor (TJx9f9b0 k).2.2.1 = some (tyJx9f9b0 k) := by decide +kernel
def RJx8e188 : String := "java/lang/Cloneable"
def TJx8e188 : u_T := fun k => match k with
  | _ => ("", "", "", false)
def tyJx8e188 : Nat → FieldType := fun k => match k with
  | _ => .int
abbrev wsJx8e1880 : List Cond := u_ws RJx8e188 TJx8e188 0
theorem nmJx8e188 : ∀ a, a < 0 → ∀ b, b < 0 → a ≠ b → (TJx8e188 a).2.1 ≠ (TJx8e188 b).2.1 := by decide +kernel
theorem tyJx8e188_ok : ∀ k, k < 0 → parseFieldDescriptor (TJx8e188 k).2.2.1 = some (tyJx8e188 k) := by decide +kernel
def RJxb160c : String := "java/lang/Comparable"
def TJxb160c : u_T := fun k => match k with
  | _ => ("", "", "", false)
def tyJxb160c : Nat → FieldType := fun k => match k with
  | _ => .int
abbrev wsJxb160c0 : List Cond := u_ws RJxb160c TJxb160c 0
theorem nmJxb160c : ∀ a, a < 0 → ∀ b, b < 0 → a ≠ b → (TJxb160c a).2.1 ≠ (TJxb160c b).2.1 := by decide +kernel
theorem tyJxb160c_ok : ∀ k, k < 0 → parseFieldDescriptor (TJxb160c k).2.2.1 = some (tyJxb160c k) := by decide +kernel
def RJ6 : String := "java/lang/Integer"
def TJ6 : u_T := fun k => match k with
  | _ => ("", "", "", false)
def tyJ6 : Nat → FieldType := fun k => match k with
  | _ => .int
abbrev wsJ60 : List Cond := u_ws RJ6 TJ6 0
theorem nmJ6 : ∀ a, a < 0 → ∀ b, b < 0 → a ≠ b → (TJ6 a).2.1 ≠ (TJ6 b).2.1 := by decide +kernel
theorem tyJ6_ok : ∀ k, k < 0 → parseFieldDescriptor (TJ6 k).2.2.1 = some (tyJ6 k) := by decide +kernel
abbrev cJ6_getChars_ba4f3 : ByteArray := prog_22_method_12_code
def yJ6_getChars_ba4f3 : MethodName := ⟨RJ6, "getChars", "(II[B)I"⟩
abbrev cJ6_stringSize_0f7a4 : ByteArray := prog_22_method_13_code
def yJ6_stringSize_0f7a4 : MethodName := ⟨RJ6, "stringSize", "(I)I"⟩
def RJ9 : String := "java/lang/Math"
def TJ9 : u_T := fun k => match k with
  | _ => ("", "", "", false)
def tyJ9 : Nat → FieldType := fun k => match k with
  | _ => .int
abbrev wsJ90 : List Cond := u_ws RJ9 TJ9 0
theorem nmJ9 : ∀ a, a < 0 → ∀ b, b < 0 → a ≠ b → (TJ9 a).2.1 ≠ (TJ9 b).2.1 := by decide +kernel
theorem tyJ9_ok : ∀ k, k < 0 → parseFieldDescriptor (TJ9 k).2.2.1 = some (tyJ9 k) := by decide +kernel
abbrev cJ9_max_7cf53 : ByteArray := prog_23_method_65_code
def yJ9_max_7cf53 : MethodName := ⟨RJ9, "max", "(II)I"⟩
abbrev cJ9_max_f86c9 : ByteArray := prog_23_method_66_code
def yJ9_max_f86c9 : MethodName := ⟨RJ9, "max", "(JJ)J"⟩
abbrev cJ9_min_7cf53 : ByteArray := prog_23_method_69_code
def yJ9_min_7cf53 : MethodName := ⟨RJ9, "min", "(II)I"⟩
abbrev cJ9_min_f86c9 : ByteArray := prog_23_method_70_code
def yJ9_min_f86c9 : MethodName := ⟨RJ9, "min", "(JJ)J"⟩
def RJxd2413 : String := "java/lang/Number"
def TJxd2413 : u_T := fun k => match k with
  | _ => ("", "", "", false)
def tyJxd2413 : Nat → FieldType := fun k => match k with
  | _ => .int
abbrev wsJxd24130 : List Cond := u_ws RJxd2413 TJxd2413 0
theorem nmJxd2413 : ∀ a, a < 0 → ∀ b, b < 0 → a ≠ b → (TJxd2413 a).2.1 ≠ (TJxd2413 b).2.1 := by decide +kernel
theorem tyJxd2413_ok : ∀ k, k < 0 → parseFieldDescriptor (TJxd2413 k).2.2.1 = some (tyJxd2413 k) := by decide +kernel
def RJ0 : String := "java/lang/String"
def TJ0 : u_T := fun k => match k with
  | 0 => ("java/lang/String", "value", "[B", true)
  | 1 => ("java/lang/String", "coder", "B", true)
  | 2 => ("java/lang/String", "hash", "I", false)
  | _ => ("java/lang/String", "hashIsZero", "Z", false)
def tyJ0 : Nat → FieldType := fun k => match k with
  | 0 => .array .byte
  | 1 => .byte
  | 2 => .int
  | _ => .boolean
abbrev wsJ00 : List Cond := u_ws RJ0 TJ0 4
theorem nmJ0 : ∀ a, a < 4 → ∀ b, b < 4 → a ≠ b → (TJ0 a).2.1 ≠ (TJ0 b).2.1 := by decide +kernel
theorem tyJ0_ok : ∀ k, k < 4 → parseFieldDescriptor (TJ0 k).2.2.1 = some (tyJ0 k) := by decide +kernel
abbrev cJ0_init_81219 : ByteArray := prog_26_method_53_code
def yJ0_init_81219 : MethodName := ⟨RJ0, "<init>", "(Ljava/lang/StringBuilder;)V"⟩
abbrev cJ0_length_8abf5 : ByteArray := prog_26_method_54_code
def yJ0_length_8abf5 : MethodName := ⟨RJ0, "length", "()I"⟩
abbrev cJ0_charAt_5068e : ByteArray := prog_26_method_56_code
def yJ0_charAt_5068e : MethodName := ⟨RJ0, "charAt", "(I)C"⟩
abbrev cJ0_getBytes_840e7 : ByteArray := prog_26_method_147_code
def yJ0_getBytes_840e7 : MethodName := ⟨RJ0, "getBytes", "([BIB)V"⟩
abbrev cJ0_init_db425 : ByteArray := prog_26_method_150_code
def yJ0_init_db425 : MethodName := ⟨RJ0, "<init>", "(Ljava/lang/AbstractStringBuilder;Ljava/lang/Void;)V"⟩
abbrev cJ0_coder_7d493 : ByteArray := prog_26_method_152_code
def yJ0_coder_7d493 : MethodName := ⟨RJ0, "coder", "()B"⟩
abbrev cJ0_isLatin1_aae02 : ByteArray := prog_26_method_154_code
def yJ0_isLatin1_aae02 : MethodName := ⟨RJ0, "isLatin1", "()Z"⟩
abbrev cJ0_checkIndex_df160 : ByteArray := prog_26_method_155_code
def yJ0_checkIndex_df160 : MethodName := ⟨RJ0, "checkIndex", "(II)V"⟩
abbrev cJ0_checkBoundsOffCount_cabcc : ByteArray := prog_26_method_157_code
def yJ0_checkBoundsOffCount_cabcc : MethodName := ⟨RJ0, "checkBoundsOffCount", "(III)I"⟩
abbrev cJ0_checkBoundsBeginEnd_23922 : ByteArray := prog_26_method_158_code
def yJ0_checkBoundsBeginEnd_23922 : MethodName := ⟨RJ0, "checkBoundsBeginEnd", "(III)V"⟩
def RJ4 : String := "java/lang/StringBuilder"
def TJ4 : u_T := fun k => match k with
  | 0 => ("java/lang/AbstractStringBuilder", "value", "[B", false)
  | 1 => ("java/lang/AbstractStringBuilder", "coder", "B", false)
  | 2 => ("java/lang/AbstractStringBuilder", "maybeLatin1", "Z", false)
  | _ => ("java/lang/AbstractStringBuilder", "count", "I", false)
def tyJ4 : Nat → FieldType := fun k => match k with
  | 0 => .array .byte
  | 1 => .byte
  | 2 => .boolean
  | _ => .int
abbrev wsJ40 : List Cond := u_ws RJ4 TJ4 4
theorem nmJ4 : ∀ a, a < 4 → ∀ b, b < 4 → a ≠ b → (TJ4 a).2.1 ≠ (TJ4 b).2.1 := by decide +kernel
theorem tyJ4_ok : ∀ k, k < 4 → parseFieldDescriptor (TJ4 k).2.2.1 = some (tyJ4 k) := by decide +kernel
abbrev cJ4_init_da8c8 : ByteArray := prog_27_method_1_code
def yJ4_init_da8c8 : MethodName := ⟨RJ4, "<init>", "()V"⟩
abbrev cJ4_append_15ec4 : ByteArray := prog_27_method_7_code
def yJ4_append_15ec4 : MethodName := ⟨RJ4, "append", "(Ljava/lang/String;)Ljava/lang/StringBuilder;"⟩
abbrev cJ4_append_cf468 : ByteArray := prog_27_method_14_code
def yJ4_append_cf468 : MethodName := ⟨RJ4, "append", "(C)Ljava/lang/StringBuilder;"⟩
abbrev cJ4_append_bf812 : ByteArray := prog_27_method_15_code
def yJ4_append_bf812 : MethodName := ⟨RJ4, "append", "(I)Ljava/lang/StringBuilder;"⟩
abbrev cJ4_toString_0e30d : ByteArray := prog_27_method_42_code
def yJ4_toString_0e30d : MethodName := ⟨RJ4, "toString", "()Ljava/lang/String;"⟩
abbrev cJ4_length_8abf5 : ByteArray := prog_27_method_93_code
def yJ4_length_8abf5 : MethodName := ⟨RJ4, "length", "()I"⟩
def RJ1 : String := "java/lang/StringLatin1"
def TJ1 : u_T := fun k => match k with
  | _ => ("", "", "", false)
def tyJ1 : Nat → FieldType := fun k => match k with
  | _ => .int
abbrev wsJ10 : List Cond := u_ws RJ1 TJ1 0
theorem nmJ1 : ∀ a, a < 0 → ∀ b, b < 0 → a ≠ b → (TJ1 a).2.1 ≠ (TJ1 b).2.1 := by decide +kernel
theorem tyJ1_ok : ∀ k, k < 0 → parseFieldDescriptor (TJ1 k).2.2.1 = some (tyJ1 k) := by decide +kernel
abbrev cJ1_charAt_3b067 : ByteArray := prog_28_method_2_code
def yJ1_charAt_3b067 : MethodName := ⟨RJ1, "charAt", "([BI)C"⟩
abbrev cJ1_canEncode_fc78d : ByteArray := prog_28_method_3_code
def yJ1_canEncode_fc78d : MethodName := ⟨RJ1, "canEncode", "(C)Z"⟩
abbrev cJ1_inflate_0e8fd : ByteArray := prog_28_method_50_code
def yJ1_inflate_0e8fd : MethodName := ⟨RJ1, "inflate", "([BI[BII)V"⟩
def RJ2 : String := "java/lang/StringUTF16"
def TJ2 : u_T := fun k => match k with
  | _ => ("", "", "", false)
def tyJ2 : Nat → FieldType := fun k => match k with
  | _ => .int
abbrev wsJ20 : List Cond := u_ws RJ2 TJ2 0
theorem nmJ2 : ∀ a, a < 0 → ∀ b, b < 0 → a ≠ b → (TJ2 a).2.1 ≠ (TJ2 b).2.1 := by decide +kernel
theorem tyJ2_ok : ∀ k, k < 0 → parseFieldDescriptor (TJ2 k).2.2.1 = some (tyJ2 k) := by decide +kernel
abbrev cJ2_newBytesFor_77867 : ByteArray := prog_29_method_2_code
def yJ2_newBytesFor_77867 : MethodName := ⟨RJ2, "newBytesFor", "(I)[B"⟩
abbrev cJ2_newBytesLength_0f7a4 : ByteArray := prog_29_method_3_code
def yJ2_newBytesLength_0f7a4 : MethodName := ⟨RJ2, "newBytesLength", "(I)I"⟩
abbrev cJ2_putChar_b72d1 : ByteArray := prog_29_method_4_code
def yJ2_putChar_b72d1 : MethodName := ⟨RJ2, "putChar", "([BII)V"⟩
abbrev cJ2_getChar_3b067 : ByteArray := prog_29_method_5_code
def yJ2_getChar_3b067 : MethodName := ⟨RJ2, "getChar", "([BI)C"⟩
abbrev cJ2_length_9d52b : ByteArray := prog_29_method_6_code
def yJ2_length_9d52b : MethodName := ⟨RJ2, "length", "([B)I"⟩
abbrev cJ2_coderFromArrayLen_85cad : ByteArray := prog_29_method_15_code
def yJ2_coderFromArrayLen_85cad : MethodName := ⟨RJ2, "coderFromArrayLen", "([BI)B"⟩
abbrev cJ2_compress_39247 : ByteArray := prog_29_method_17_code
def yJ2_compress_39247 : MethodName := ⟨RJ2, "compress", "([BII)[B"⟩
abbrev cJ2_compress_5af95 : ByteArray := prog_29_method_22_code
def yJ2_compress_5af95 : MethodName := ⟨RJ2, "compress", "([BI[BII)I"⟩
abbrev cJ2_putCharSB_b72d1 : ByteArray := prog_29_method_71_code
def yJ2_putCharSB_b72d1 : MethodName := ⟨RJ2, "putCharSB", "([BII)V"⟩
abbrev cJ2_getChars_46870 : ByteArray := prog_29_method_77_code
def yJ2_getChars_46870 : MethodName := ⟨RJ2, "getChars", "(III[B)I"⟩
abbrev cJ2_putCharsAt_cd4e5 : ByteArray := prog_29_method_81_code
def yJ2_putCharsAt_cd4e5 : MethodName := ⟨RJ2, "putCharsAt", "([BICCCC)I"⟩
abbrev cJ2_charAt_3b067 : ByteArray := prog_29_method_83_code
def yJ2_charAt_3b067 : MethodName := ⟨RJ2, "charAt", "([BI)C"⟩
abbrev cJ2_inflate_0e8fd : ByteArray := prog_29_method_86_code
def yJ2_inflate_0e8fd : MethodName := ⟨RJ2, "inflate", "([BI[BII)V"⟩
abbrev cJ2_getChars_ba4f3 : ByteArray := prog_29_method_89_code
def yJ2_getChars_ba4f3 : MethodName := ⟨RJ2, "getChars", "(II[B)I"⟩
abbrev cJ2_checkIndex_2214a : ByteArray := prog_29_method_91_code
def yJ2_checkIndex_2214a : MethodName := ⟨RJ2, "checkIndex", "(I[B)V"⟩
abbrev cJ2_checkBoundsBeginEnd_d044e : ByteArray := prog_29_method_93_code
def yJ2_checkBoundsBeginEnd_d044e : MethodName := ⟨RJ2, "checkBoundsBeginEnd", "(II[B)V"⟩
abbrev cJ2_checkBoundsOffCount_d044e : ByteArray := prog_29_method_94_code
def yJ2_checkBoundsOffCount_d044e : MethodName := ⟨RJ2, "checkBoundsOffCount", "(II[B)V"⟩
def RJ10 : String := "java/lang/System"
def TJ10 : u_T := fun k => match k with
  | _ => ("", "", "", false)
def tyJ10 : Nat → FieldType := fun k => match k with
  | _ => .int
abbrev wsJ100 : List Cond := u_ws RJ10 TJ10 0
theorem nmJ10 : ∀ a, a < 0 → ∀ b, b < 0 → a ≠ b → (TJ10 a).2.1 ≠ (TJ10 b).2.1 := by decide +kernel
theorem tyJ10_ok : ∀ k, k < 0 → parseFieldDescriptor (TJ10 k).2.2.1 = some (tyJ10 k) := by decide +kernel
def RJxfd54e : String := "java/lang/constant/Constable"
def TJxfd54e : u_T := fun k => match k with
  | _ => ("", "", "", false)
def tyJxfd54e : Nat → FieldType := fun k => match k with
  | _ => .int
abbrev wsJxfd54e0 : List Cond := u_ws RJxfd54e TJxfd54e 0
theorem nmJxfd54e : ∀ a, a < 0 → ∀ b, b < 0 → a ≠ b → (TJxfd54e a).2.1 ≠ (TJxfd54e b).2.1 := by decide +kernel
theorem tyJxfd54e_ok : ∀ k, k < 0 → parseFieldDescriptor (TJxfd54e k).2.2.1 = some (tyJxfd54e k) := by decide +kernel
def RJx3cf43 : String := "java/lang/constant/ConstantDesc"
def TJx3cf43 : u_T := fun k => match k with
  | _ => ("", "", "", false)
def tyJx3cf43 : Nat → FieldType := fun k => match k with
  | _ => .int
abbrev wsJx3cf430 : List Cond := u_ws RJx3cf43 TJx3cf43 0
theorem nmJx3cf43 : ∀ a, a < 0 → ∀ b, b < 0 → a ≠ b → (TJx3cf43 a).2.1 ≠ (TJx3cf43 b).2.1 := by decide +kernel
theorem tyJx3cf43_ok : ∀ k, k < 0 → parseFieldDescriptor (TJx3cf43 k).2.2.1 = some (tyJx3cf43 k) := by decide +kernel
def RJ7 : String := "java/util/Arrays"
def TJ7 : u_T := fun k => match k with
  | _ => ("", "", "", false)
def tyJ7 : Nat → FieldType := fun k => match k with
  | _ => .int
abbrev wsJ70 : List Cond := u_ws RJ7 TJ7 0
theorem nmJ7 : ∀ a, a < 0 → ∀ b, b < 0 → a ≠ b → (TJ7 a).2.1 ≠ (TJ7 b).2.1 := by decide +kernel
theorem tyJ7_ok : ∀ k, k < 0 → parseFieldDescriptor (TJ7 k).2.2.1 = some (tyJ7 k) := by decide +kernel
abbrev cJ7_fill_53178 : ByteArray := prog_32_method_103_code
def yJ7_fill_53178 : MethodName := ⟨RJ7, "fill", "([II)V"⟩
abbrev cJ7_copyOf_9075b : ByteArray := prog_32_method_121_code
def yJ7_copyOf_9075b : MethodName := ⟨RJ7, "copyOf", "([BI)[B"⟩
abbrev cJ7_copyOf_59c91 : ByteArray := prog_32_method_123_code
def yJ7_copyOf_59c91 : MethodName := ⟨RJ7, "copyOf", "([II)[I"⟩
abbrev cJ7_checkLength_df160 : ByteArray := prog_32_method_131_code
def yJ7_checkLength_df160 : MethodName := ⟨RJ7, "checkLength", "(II)V"⟩
abbrev cJ7_copyOfRange_39247 : ByteArray := prog_32_method_132_code
def yJ7_copyOfRange_39247 : MethodName := ⟨RJ7, "copyOfRange", "([BII)[B"⟩
abbrev cJ7_copyOfRangeByte_39247 : ByteArray := prog_32_method_133_code
def yJ7_copyOfRangeByte_39247 : MethodName := ⟨RJ7, "copyOfRangeByte", "([BII)[B"⟩
def RJ8 : String := "jdk/internal/util/ArraysSupport"
def TJ8 : u_T := fun k => match k with
  | _ => ("", "", "", false)
def tyJ8 : Nat → FieldType := fun k => match k with
  | _ => .int
abbrev wsJ80 : List Cond := u_ws RJ8 TJ8 0
theorem nmJ8 : ∀ a, a < 0 → ∀ b, b < 0 → a ≠ b → (TJ8 a).2.1 ≠ (TJ8 b).2.1 := by decide +kernel
theorem tyJ8_ok : ∀ k, k < 0 → parseFieldDescriptor (TJ8 k).2.2.1 = some (tyJ8 k) := by decide +kernel
abbrev cJ8_newLength_cabcc : ByteArray := prog_33_method_27_code
def yJ8_newLength_cabcc : MethodName := ⟨RJ8, "newLength", "(III)I"⟩
abbrev cJ8_hugeLength_7cf53 : ByteArray := prog_33_method_28_code
def yJ8_hugeLength_7cf53 : MethodName := ⟨RJ8, "hugeLength", "(II)I"⟩
def RJ3 : String := "jdk/internal/util/Preconditions"
def TJ3 : u_T := fun k => match k with
  | _ => ("", "", "", false)
def tyJ3 : Nat → FieldType := fun k => match k with
  | _ => .int
abbrev wsJ30 : List Cond := u_ws RJ3 TJ3 0
theorem nmJ3 : ∀ a, a < 0 → ∀ b, b < 0 → a ≠ b → (TJ3 a).2.1 ≠ (TJ3 b).2.1 := by decide +kernel
theorem tyJ3_ok : ∀ k, k < 0 → parseFieldDescriptor (TJ3 k).2.2.1 = some (tyJ3 k) := by decide +kernel
abbrev cJ3_checkIndex_8e157 : ByteArray := prog_34_method_11_code
def yJ3_checkIndex_8e157 : MethodName := ⟨RJ3, "checkIndex", "(IILjava/util/function/BiFunction;)I"⟩
abbrev cJ3_checkFromToIndex_8c36e : ByteArray := prog_34_method_12_code
def yJ3_checkFromToIndex_8c36e : MethodName := ⟨RJ3, "checkFromToIndex", "(IIILjava/util/function/BiFunction;)I"⟩
abbrev cJ3_checkFromIndexSize_8c36e : ByteArray := prog_34_method_13_code
def yJ3_checkFromIndexSize_8c36e : MethodName := ⟨RJ3, "checkFromIndexSize", "(IIILjava/util/function/BiFunction;)I"⟩
def RL : String := "LinkElectionLaw"
abbrev cL_put : ByteArray := method_2_code
def yL_put : MethodName := ⟨RL, "put", "(LLinkElection;[II)V"⟩
abbrev cL_flush : ByteArray := method_3_code
def yL_flush : MethodName := ⟨RL, "flush", "(LLinkElection;[I)V"⟩
abbrev cL_loadText : ByteArray := method_4_code
def yL_loadText : MethodName := ⟨RL, "loadText", "(LLinkElection;[I)I"⟩
abbrev cL_write : ByteArray := method_5_code
def yL_write : MethodName := ⟨RL, "write", "(LLinkElection;[ILjava/lang/String;)V"⟩
abbrev cL_writeNumber : ByteArray := method_6_code
def yL_writeNumber : MethodName := ⟨RL, "writeNumber", "(LLinkElection;[II)V"⟩
abbrev cL_load : ByteArray := method_7_code
def yL_load : MethodName := ⟨RL, "load", "(LLinkElection;I)I"⟩
abbrev cL_library : ByteArray := method_8_code
def yL_library : MethodName := ⟨RL, "library", "(LLinkElection;II)I"⟩
abbrev cL_offer : ByteArray := method_9_code
def yL_offer : MethodName := ⟨RL, "offer", "(LLinkElection;II)I"⟩
abbrev cL_candidates : ByteArray := method_10_code
def yL_candidates : MethodName := ⟨RL, "candidates", "(LLinkElection;I)I"⟩
abbrev cL_winner : ByteArray := method_13_code
def yL_winner : MethodName := ⟨RL, "winner", "(LLinkElection;I)I"⟩
abbrev cL_binding : ByteArray := method_15_code
def yL_binding : MethodName := ⟨RL, "binding", "(LLinkElection;II)I"⟩
abbrev cL_minority : ByteArray := method_16_code
def yL_minority : MethodName := ⟨RL, "minority", "(LLinkElection;I)I"⟩
abbrev cL_call : ByteArray := method_17_code
def yL_call : MethodName := ⟨RL, "call", "(LLinkElection;II)I"⟩
abbrev cL_unload : ByteArray := method_20_code
def yL_unload : MethodName := ⟨RL, "unload", "(LLinkElection;I)I"⟩
abbrev cL_reload : ByteArray := method_21_code
def yL_reload : MethodName := ⟨RL, "reload", "(LLinkElection;I)I"⟩
abbrev cL_offerValue : ByteArray := method_22_code
def yL_offerValue : MethodName := ⟨RL, "offerValue", "(LLinkElection;III)I"⟩
abbrev cL_offerForward : ByteArray := method_23_code
def yL_offerForward : MethodName := ⟨RL, "offerForward", "(LLinkElection;III)I"⟩
abbrev cL_withdraw : ByteArray := method_24_code
def yL_withdraw : MethodName := ⟨RL, "withdraw", "(LLinkElection;II)I"⟩
abbrev cL_setTrust : ByteArray := method_25_code
def yL_setTrust : MethodName := ⟨RL, "setTrust", "(LLinkElection;II)I"⟩
abbrev cL_setKeeps : ByteArray := method_26_code
def yL_setKeeps : MethodName := ⟨RL, "setKeeps", "(LLinkElection;IZ)I"⟩
abbrev cL_setShare : ByteArray := method_27_code
def yL_setShare : MethodName := ⟨RL, "setShare", "(LLinkElection;I)I"⟩
abbrev cL_with : ByteArray := method_28_code
def yL_with : MethodName := ⟨RL, "with", "([II)[I"⟩
abbrev cL_has : ByteArray := method_29_code
def yL_has : MethodName := ⟨RL, "has", "([II)Z"⟩
abbrev cL_wordOf : ByteArray := method_30_code
def yL_wordOf : MethodName := ⟨RL, "wordOf", "(IZ)Ljava/lang/String;"⟩
abbrev cL_randomLinker : ByteArray := method_31_code
def yL_randomLinker : MethodName := ⟨RL, "randomLinker", "(LLinkElection;[ILLinkElectionLaw$Random;II)LLinkElectionLaw$Linker;"⟩
abbrev cL_agrees : ByteArray := method_32_code
def yL_agrees : MethodName := ⟨RL, "agrees", "(LLinkElection;LLinkElectionLaw$Linker;)Z"⟩
abbrev cL_law : ByteArray := code
def yL_law : MethodName := ⟨RL, "law", "([I)Z"⟩
abbrev vwCl : List vw_C := [(RX0, TX0, 5), (RX1, TX1, 7), (RX2, TX2, 3), (RX3, TX3, 6), (RX4, TX4, 3), (RX5, TX5, 11), (RX6, TX6, 8), (RX7, TX7, 2), (RX8, TX8, 9), (RX9, TX9, 4), (RX0, TX0, 5), (RX0, TX0, 5), (RX0, TX0, 5), (RX0, TX0, 5), (RX0, TX0, 5), (RX0, TX0, 5), (RX10, TX10, 5), (RX11, TX11, 4), (RX12, TX12, 1), (RJ0, TJ0, 4), (RJ4, TJ4, 4)]
end
section
theorem dJ5_init_d00df_0 : decode cJ5_init_d00df 0 = .ok (.aload_n 0, 1) := by decide +kernel
theorem dJ5_init_d00df_1 : decode cJ5_init_d00df 1 = .ok (.invokespecial 3, 3) := by decide +kernel
theorem dJ5_init_d00df_4 : decode cJ5_init_d00df 4 = .ok (.getstatic 18, 3) := by decide +kernel
theorem dJ5_init_d00df_7 : decode cJ5_init_d00df 7 = .ok (.ifCond .eq 18, 3) := by decide +kernel
theorem dJ5_init_d00df_10 : decode cJ5_init_d00df 10 = .ok (.aload_n 0, 1) := by decide +kernel
theorem dJ5_init_d00df_11 : decode cJ5_init_d00df 11 = .ok (.iload_n 1, 1) := by decide +kernel
theorem dJ5_init_d00df_12 : decode cJ5_init_d00df 12 = .ok (.newarray .byte, 2) := by decide +kernel
theorem dJ5_init_d00df_14 : decode cJ5_init_d00df 14 = .ok (.putfield 15, 3) := by decide +kernel
theorem dJ5_init_d00df_17 : decode cJ5_init_d00df 17 = .ok (.aload_n 0, 1) := by decide +kernel
theorem dJ5_init_d00df_18 : decode cJ5_init_d00df 18 = .ok (.iconst 0, 1) := by decide +kernel
theorem dJ5_init_d00df_19 : decode cJ5_init_d00df 19 = .ok (.putfield 22, 3) := by decide +kernel
theorem dJ5_init_d00df_22 : decode cJ5_init_d00df 22 = .ok (.goto 16, 3) := by decide +kernel
theorem dJ5_init_d00df_25 : decode cJ5_init_d00df 25 = .ok (.aload_n 0, 1) := by decide +kernel
theorem dJ5_init_d00df_26 : decode cJ5_init_d00df 26 = .ok (.iload_n 1, 1) := by decide +kernel
theorem dJ5_init_d00df_27 : decode cJ5_init_d00df 27 = .ok (.invokestatic 26, 3) := by decide +kernel
theorem dJ5_init_d00df_30 : decode cJ5_init_d00df 30 = .ok (.putfield 15, 3) := by decide +kernel
theorem dJ5_init_d00df_33 : decode cJ5_init_d00df 33 = .ok (.aload_n 0, 1) := by decide +kernel
theorem dJ5_init_d00df_34 : decode cJ5_init_d00df 34 = .ok (.iconst 1, 1) := by decide +kernel
theorem dJ5_init_d00df_35 : decode cJ5_init_d00df 35 = .ok (.putfield 22, 3) := by decide +kernel
theorem dJ5_init_d00df_38 : decode cJ5_init_d00df 38 = .ok (.return_, 1) := by decide +kernel
theorem dJ5_length_8abf5_0 : decode cJ5_length_8abf5 0 = .ok (.aload_n 0, 1) := by decide +kernel
theorem dJ5_length_8abf5_1 : decode cJ5_length_8abf5 1 = .ok (.getfield 79, 3) := by decide +kernel
theorem dJ5_length_8abf5_4 : decode cJ5_length_8abf5 4 = .ok (.ireturn, 1) := by decide +kernel
theorem dJ5_ensureCapacityInternal_d00df_0 : decode cJ5_ensureCapacityInternal_d00df 0 = .ok (.aload_n 0, 1) := by decide +kernel
theorem dJ5_ensureCapacityInternal_d00df_1 : decode cJ5_ensureCapacityInternal_d00df 1 = .ok (.getfield 15, 3) := by decide +kernel
theorem dJ5_ensureCapacityInternal_d00df_4 : decode cJ5_ensureCapacityInternal_d00df 4 = .ok (.arraylength, 1) := by decide +kernel
theorem dJ5_ensureCapacityInternal_d00df_5 : decode cJ5_ensureCapacityInternal_d00df 5 = .ok (.aload_n 0, 1) := by decide +kernel
theorem dJ5_ensureCapacityInternal_d00df_6 : decode cJ5_ensureCapacityInternal_d00df 6 = .ok (.getfield 22, 3) := by decide +kernel
theorem dJ5_ensureCapacityInternal_d00df_9 : decode cJ5_ensureCapacityInternal_d00df 9 = .ok (.ishr, 1) := by decide +kernel
theorem dJ5_ensureCapacityInternal_d00df_10 : decode cJ5_ensureCapacityInternal_d00df 10 = .ok (.istore_n 2, 1) := by decide +kernel
theorem dJ5_ensureCapacityInternal_d00df_11 : decode cJ5_ensureCapacityInternal_d00df 11 = .ok (.iload_n 1, 1) := by decide +kernel
theorem dJ5_ensureCapacityInternal_d00df_12 : decode cJ5_ensureCapacityInternal_d00df 12 = .ok (.iload_n 2, 1) := by decide +kernel
theorem dJ5_ensureCapacityInternal_d00df_13 : decode cJ5_ensureCapacityInternal_d00df 13 = .ok (.isub, 1) := by decide +kernel
theorem dJ5_ensureCapacityInternal_d00df_14 : decode cJ5_ensureCapacityInternal_d00df 14 = .ok (.ifCond .le 24, 3) := by decide +kernel
theorem dJ5_ensureCapacityInternal_d00df_17 : decode cJ5_ensureCapacityInternal_d00df 17 = .ok (.aload_n 0, 1) := by decide +kernel
theorem dJ5_ensureCapacityInternal_d00df_18 : decode cJ5_ensureCapacityInternal_d00df 18 = .ok (.aload_n 0, 1) := by decide +kernel
theorem dJ5_ensureCapacityInternal_d00df_19 : decode cJ5_ensureCapacityInternal_d00df 19 = .ok (.getfield 15, 3) := by decide +kernel
theorem dJ5_ensureCapacityInternal_d00df_22 : decode cJ5_ensureCapacityInternal_d00df 22 = .ok (.aload_n 0, 1) := by decide +kernel
theorem dJ5_ensureCapacityInternal_d00df_23 : decode cJ5_ensureCapacityInternal_d00df 23 = .ok (.iload_n 1, 1) := by decide +kernel
theorem dJ5_ensureCapacityInternal_d00df_24 : decode cJ5_ensureCapacityInternal_d00df 24 = .ok (.invokevirtual 104, 3) := by decide +kernel
theorem dJ5_ensureCapacityInternal_d00df_27 : decode cJ5_ensureCapacityInternal_d00df 27 = .ok (.aload_n 0, 1) := by decide +kernel
theorem dJ5_ensureCapacityInternal_d00df_28 : decode cJ5_ensureCapacityInternal_d00df 28 = .ok (.getfield 22, 3) := by decide +kernel
theorem dJ5_ensureCapacityInternal_d00df_31 : decode cJ5_ensureCapacityInternal_d00df 31 = .ok (.ishl, 1) := by decide +kernel
theorem dJ5_ensureCapacityInternal_d00df_32 : decode cJ5_ensureCapacityInternal_d00df 32 = .ok (.invokestatic 108, 3) := by decide +kernel
theorem dJ5_ensureCapacityInternal_d00df_35 : decode cJ5_ensureCapacityInternal_d00df 35 = .ok (.putfield 15, 3) := by decide +kernel
theorem dJ5_ensureCapacityInternal_d00df_38 : decode cJ5_ensureCapacityInternal_d00df 38 = .ok (.return_, 1) := by decide +kernel
theorem dJ5_newCapacity_0f7a4_0 : decode cJ5_newCapacity_0f7a4 0 = .ok (.aload_n 0, 1) := by decide +kernel
theorem dJ5_newCapacity_0f7a4_1 : decode cJ5_newCapacity_0f7a4 1 = .ok (.getfield 15, 3) := by decide +kernel
theorem dJ5_newCapacity_0f7a4_4 : decode cJ5_newCapacity_0f7a4 4 = .ok (.arraylength, 1) := by decide +kernel
theorem dJ5_newCapacity_0f7a4_5 : decode cJ5_newCapacity_0f7a4 5 = .ok (.istore_n 2, 1) := by decide +kernel
theorem dJ5_newCapacity_0f7a4_6 : decode cJ5_newCapacity_0f7a4 6 = .ok (.iload_n 1, 1) := by decide +kernel
theorem dJ5_newCapacity_0f7a4_7 : decode cJ5_newCapacity_0f7a4 7 = .ok (.aload_n 0, 1) := by decide +kernel
theorem dJ5_newCapacity_0f7a4_8 : decode cJ5_newCapacity_0f7a4 8 = .ok (.getfield 22, 3) := by decide +kernel
theorem dJ5_newCapacity_0f7a4_11 : decode cJ5_newCapacity_0f7a4 11 = .ok (.ishl, 1) := by decide +kernel
theorem dJ5_newCapacity_0f7a4_12 : decode cJ5_newCapacity_0f7a4 12 = .ok (.istore_n 3, 1) := by decide +kernel
theorem dJ5_newCapacity_0f7a4_13 : decode cJ5_newCapacity_0f7a4 13 = .ok (.iload_n 3, 1) := by decide +kernel
theorem dJ5_newCapacity_0f7a4_14 : decode cJ5_newCapacity_0f7a4 14 = .ok (.iload_n 2, 1) := by decide +kernel
theorem dJ5_newCapacity_0f7a4_15 : decode cJ5_newCapacity_0f7a4 15 = .ok (.isub, 1) := by decide +kernel
theorem dJ5_newCapacity_0f7a4_16 : decode cJ5_newCapacity_0f7a4 16 = .ok (.istore 4, 2) := by decide +kernel
theorem dJ5_newCapacity_0f7a4_18 : decode cJ5_newCapacity_0f7a4 18 = .ok (.iload_n 2, 1) := by decide +kernel
theorem dJ5_newCapacity_0f7a4_19 : decode cJ5_newCapacity_0f7a4 19 = .ok (.iload 4, 2) := by decide +kernel
theorem dJ5_newCapacity_0f7a4_21 : decode cJ5_newCapacity_0f7a4 21 = .ok (.iload_n 2, 1) := by decide +kernel
theorem dJ5_newCapacity_0f7a4_22 : decode cJ5_newCapacity_0f7a4 22 = .ok (.iconst 2, 1) := by decide +kernel
theorem dJ5_newCapacity_0f7a4_23 : decode cJ5_newCapacity_0f7a4 23 = .ok (.aload_n 0, 1) := by decide +kernel
theorem dJ5_newCapacity_0f7a4_24 : decode cJ5_newCapacity_0f7a4 24 = .ok (.getfield 22, 3) := by decide +kernel
theorem dJ5_newCapacity_0f7a4_27 : decode cJ5_newCapacity_0f7a4 27 = .ok (.ishl, 1) := by decide +kernel
theorem dJ5_newCapacity_0f7a4_28 : decode cJ5_newCapacity_0f7a4 28 = .ok (.iadd, 1) := by decide +kernel
theorem dJ5_newCapacity_0f7a4_29 : decode cJ5_newCapacity_0f7a4 29 = .ok (.invokestatic 114, 3) := by decide +kernel
theorem dJ5_newCapacity_0f7a4_32 : decode cJ5_newCapacity_0f7a4 32 = .ok (.istore 5, 2) := by decide +kernel
theorem dJ5_newCapacity_0f7a4_34 : decode cJ5_newCapacity_0f7a4 34 = .ok (.iload 5, 2) := by decide +kernel
theorem dJ5_newCapacity_0f7a4_36 : decode cJ5_newCapacity_0f7a4 36 = .ok (.ldc 39, 2) := by decide +kernel
theorem dJ5_newCapacity_0f7a4_38 : decode cJ5_newCapacity_0f7a4 38 = .ok (.if_icmp .ne 13, 3) := by decide +kernel
theorem dJ5_newCapacity_0f7a4_41 : decode cJ5_newCapacity_0f7a4 41 = .ok (.new 120, 3) := by decide +kernel
theorem dJ5_newCapacity_0f7a4_44 : decode cJ5_newCapacity_0f7a4 44 = .ok (.dup, 1) := by decide +kernel
theorem dJ5_newCapacity_0f7a4_45 : decode cJ5_newCapacity_0f7a4 45 = .ok (.ldc 122, 2) := by decide +kernel
theorem dJ5_newCapacity_0f7a4_47 : decode cJ5_newCapacity_0f7a4 47 = .ok (.invokespecial 124, 3) := by decide +kernel
theorem dJ5_newCapacity_0f7a4_50 : decode cJ5_newCapacity_0f7a4 50 = .ok (.athrow, 1) := by decide +kernel
theorem dJ5_newCapacity_0f7a4_51 : decode cJ5_newCapacity_0f7a4 51 = .ok (.iload 5, 2) := by decide +kernel
theorem dJ5_newCapacity_0f7a4_53 : decode cJ5_newCapacity_0f7a4 53 = .ok (.aload_n 0, 1) := by decide +kernel
theorem dJ5_newCapacity_0f7a4_54 : decode cJ5_newCapacity_0f7a4 54 = .ok (.getfield 22, 3) := by decide +kernel
theorem dJ5_newCapacity_0f7a4_57 : decode cJ5_newCapacity_0f7a4 57 = .ok (.ishr, 1) := by decide +kernel
theorem dJ5_newCapacity_0f7a4_58 : decode cJ5_newCapacity_0f7a4 58 = .ok (.ireturn, 1) := by decide +kernel
theorem dJ5_inflate_da8c8_0 : decode cJ5_inflate_da8c8 0 = .ok (.aload_n 0, 1) := by decide +kernel
theorem dJ5_inflate_da8c8_1 : decode cJ5_inflate_da8c8 1 = .ok (.invokevirtual 83, 3) := by decide +kernel
theorem dJ5_inflate_da8c8_4 : decode cJ5_inflate_da8c8 4 = .ok (.ifCond .ne 4, 3) := by decide +kernel
theorem dJ5_inflate_da8c8_7 : decode cJ5_inflate_da8c8 7 = .ok (.return_, 1) := by decide +kernel
theorem dJ5_inflate_da8c8_8 : decode cJ5_inflate_da8c8 8 = .ok (.aload_n 0, 1) := by decide +kernel
theorem dJ5_inflate_da8c8_9 : decode cJ5_inflate_da8c8 9 = .ok (.getfield 15, 3) := by decide +kernel
theorem dJ5_inflate_da8c8_12 : decode cJ5_inflate_da8c8 12 = .ok (.arraylength, 1) := by decide +kernel
theorem dJ5_inflate_da8c8_13 : decode cJ5_inflate_da8c8 13 = .ok (.invokestatic 26, 3) := by decide +kernel
theorem dJ5_inflate_da8c8_16 : decode cJ5_inflate_da8c8 16 = .ok (.astore_n 1, 1) := by decide +kernel
theorem dJ5_inflate_da8c8_17 : decode cJ5_inflate_da8c8 17 = .ok (.aload_n 0, 1) := by decide +kernel
theorem dJ5_inflate_da8c8_18 : decode cJ5_inflate_da8c8 18 = .ok (.getfield 15, 3) := by decide +kernel
theorem dJ5_inflate_da8c8_21 : decode cJ5_inflate_da8c8 21 = .ok (.iconst 0, 1) := by decide +kernel
theorem dJ5_inflate_da8c8_22 : decode cJ5_inflate_da8c8 22 = .ok (.aload_n 1, 1) := by decide +kernel
theorem dJ5_inflate_da8c8_23 : decode cJ5_inflate_da8c8 23 = .ok (.iconst 0, 1) := by decide +kernel
theorem dJ5_inflate_da8c8_24 : decode cJ5_inflate_da8c8 24 = .ok (.aload_n 0, 1) := by decide +kernel
theorem dJ5_inflate_da8c8_25 : decode cJ5_inflate_da8c8 25 = .ok (.getfield 79, 3) := by decide +kernel
theorem dJ5_inflate_da8c8_28 : decode cJ5_inflate_da8c8 28 = .ok (.invokestatic 125, 3) := by decide +kernel
theorem dJ5_inflate_da8c8_31 : decode cJ5_inflate_da8c8 31 = .ok (.aload_n 0, 1) := by decide +kernel
theorem dJ5_inflate_da8c8_32 : decode cJ5_inflate_da8c8 32 = .ok (.aload_n 1, 1) := by decide +kernel
theorem dJ5_inflate_da8c8_33 : decode cJ5_inflate_da8c8 33 = .ok (.putfield 15, 3) := by decide +kernel
theorem dJ5_inflate_da8c8_36 : decode cJ5_inflate_da8c8 36 = .ok (.aload_n 0, 1) := by decide +kernel
theorem dJ5_inflate_da8c8_37 : decode cJ5_inflate_da8c8 37 = .ok (.iconst 1, 1) := by decide +kernel
theorem dJ5_inflate_da8c8_38 : decode cJ5_inflate_da8c8 38 = .ok (.putfield 22, 3) := by decide +kernel
theorem dJ5_inflate_da8c8_41 : decode cJ5_inflate_da8c8 41 = .ok (.return_, 1) := by decide +kernel
theorem dJ5_append_cf1ce_0 : decode cJ5_append_cf1ce 0 = .ok (.aload_n 1, 1) := by decide +kernel
theorem dJ5_append_cf1ce_1 : decode cJ5_append_cf1ce 1 = .ok (.ifnonnull 8, 3) := by decide +kernel
theorem dJ5_append_cf1ce_4 : decode cJ5_append_cf1ce 4 = .ok (.aload_n 0, 1) := by decide +kernel
theorem dJ5_append_cf1ce_5 : decode cJ5_append_cf1ce 5 = .ok (.invokevirtual 204, 3) := by decide +kernel
theorem dJ5_append_cf1ce_8 : decode cJ5_append_cf1ce 8 = .ok (.areturn, 1) := by decide +kernel
theorem dJ5_append_cf1ce_9 : decode cJ5_append_cf1ce 9 = .ok (.aload_n 1, 1) := by decide +kernel
theorem dJ5_append_cf1ce_10 : decode cJ5_append_cf1ce 10 = .ok (.invokevirtual 32, 3) := by decide +kernel
theorem dJ5_append_cf1ce_13 : decode cJ5_append_cf1ce 13 = .ok (.istore_n 2, 1) := by decide +kernel
theorem dJ5_append_cf1ce_14 : decode cJ5_append_cf1ce 14 = .ok (.aload_n 0, 1) := by decide +kernel
theorem dJ5_append_cf1ce_15 : decode cJ5_append_cf1ce 15 = .ok (.aload_n 0, 1) := by decide +kernel
theorem dJ5_append_cf1ce_16 : decode cJ5_append_cf1ce 16 = .ok (.getfield 79, 3) := by decide +kernel
theorem dJ5_append_cf1ce_19 : decode cJ5_append_cf1ce 19 = .ok (.iload_n 2, 1) := by decide +kernel
theorem dJ5_append_cf1ce_20 : decode cJ5_append_cf1ce 20 = .ok (.iadd, 1) := by decide +kernel
theorem dJ5_append_cf1ce_21 : decode cJ5_append_cf1ce 21 = .ok (.invokevirtual 100, 3) := by decide +kernel
theorem dJ5_append_cf1ce_24 : decode cJ5_append_cf1ce 24 = .ok (.aload_n 0, 1) := by decide +kernel
theorem dJ5_append_cf1ce_25 : decode cJ5_append_cf1ce 25 = .ok (.aload_n 0, 1) := by decide +kernel
theorem dJ5_append_cf1ce_26 : decode cJ5_append_cf1ce 26 = .ok (.getfield 79, 3) := by decide +kernel
theorem dJ5_append_cf1ce_29 : decode cJ5_append_cf1ce 29 = .ok (.aload_n 1, 1) := by decide +kernel
theorem dJ5_append_cf1ce_30 : decode cJ5_append_cf1ce 30 = .ok (.invokevirtual 208, 3) := by decide +kernel
theorem dJ5_append_cf1ce_33 : decode cJ5_append_cf1ce 33 = .ok (.aload_n 0, 1) := by decide +kernel
theorem dJ5_append_cf1ce_34 : decode cJ5_append_cf1ce 34 = .ok (.dup, 1) := by decide +kernel
theorem dJ5_append_cf1ce_35 : decode cJ5_append_cf1ce 35 = .ok (.getfield 79, 3) := by decide +kernel
theorem dJ5_append_cf1ce_38 : decode cJ5_append_cf1ce 38 = .ok (.iload_n 2, 1) := by decide +kernel
theorem dJ5_append_cf1ce_39 : decode cJ5_append_cf1ce 39 = .ok (.iadd, 1) := by decide +kernel
theorem dJ5_append_cf1ce_40 : decode cJ5_append_cf1ce 40 = .ok (.putfield 79, 3) := by decide +kernel
theorem dJ5_append_cf1ce_43 : decode cJ5_append_cf1ce 43 = .ok (.aload_n 0, 1) := by decide +kernel
theorem dJ5_append_cf1ce_44 : decode cJ5_append_cf1ce 44 = .ok (.areturn, 1) := by decide +kernel
theorem dJ5_appendNull_278bc_0 : decode cJ5_appendNull_278bc 0 = .ok (.aload_n 0, 1) := by decide +kernel
theorem dJ5_appendNull_278bc_1 : decode cJ5_appendNull_278bc 1 = .ok (.aload_n 0, 1) := by decide +kernel
theorem dJ5_appendNull_278bc_2 : decode cJ5_appendNull_278bc 2 = .ok (.getfield 79, 3) := by decide +kernel
theorem dJ5_appendNull_278bc_5 : decode cJ5_appendNull_278bc 5 = .ok (.iconst 4, 1) := by decide +kernel
theorem dJ5_appendNull_278bc_6 : decode cJ5_appendNull_278bc 6 = .ok (.iadd, 1) := by decide +kernel
theorem dJ5_appendNull_278bc_7 : decode cJ5_appendNull_278bc 7 = .ok (.invokevirtual 100, 3) := by decide +kernel
theorem dJ5_appendNull_278bc_10 : decode cJ5_appendNull_278bc 10 = .ok (.aload_n 0, 1) := by decide +kernel
theorem dJ5_appendNull_278bc_11 : decode cJ5_appendNull_278bc 11 = .ok (.getfield 79, 3) := by decide +kernel
theorem dJ5_appendNull_278bc_14 : decode cJ5_appendNull_278bc 14 = .ok (.istore_n 1, 1) := by decide +kernel
theorem dJ5_appendNull_278bc_15 : decode cJ5_appendNull_278bc 15 = .ok (.aload_n 0, 1) := by decide +kernel
theorem dJ5_appendNull_278bc_16 : decode cJ5_appendNull_278bc 16 = .ok (.getfield 15, 3) := by decide +kernel
theorem dJ5_appendNull_278bc_19 : decode cJ5_appendNull_278bc 19 = .ok (.astore_n 2, 1) := by decide +kernel
theorem dJ5_appendNull_278bc_20 : decode cJ5_appendNull_278bc 20 = .ok (.aload_n 0, 1) := by decide +kernel
theorem dJ5_appendNull_278bc_21 : decode cJ5_appendNull_278bc 21 = .ok (.invokevirtual 83, 3) := by decide +kernel
theorem dJ5_appendNull_278bc_24 : decode cJ5_appendNull_278bc 24 = .ok (.ifCond .eq 38, 3) := by decide +kernel
theorem dJ5_appendNull_278bc_27 : decode cJ5_appendNull_278bc 27 = .ok (.aload_n 2, 1) := by decide +kernel
theorem dJ5_appendNull_278bc_28 : decode cJ5_appendNull_278bc 28 = .ok (.iload_n 1, 1) := by decide +kernel
theorem dJ5_appendNull_278bc_29 : decode cJ5_appendNull_278bc 29 = .ok (.iinc 1 1, 3) := by decide +kernel
theorem dJ5_appendNull_278bc_32 : decode cJ5_appendNull_278bc 32 = .ok (.bipush 110, 2) := by decide +kernel
theorem dJ5_appendNull_278bc_34 : decode cJ5_appendNull_278bc 34 = .ok (.bastore, 1) := by decide +kernel
theorem dJ5_appendNull_278bc_35 : decode cJ5_appendNull_278bc 35 = .ok (.aload_n 2, 1) := by decide +kernel
theorem dJ5_appendNull_278bc_36 : decode cJ5_appendNull_278bc 36 = .ok (.iload_n 1, 1) := by decide +kernel
theorem dJ5_appendNull_278bc_37 : decode cJ5_appendNull_278bc 37 = .ok (.iinc 1 1, 3) := by decide +kernel
theorem dJ5_appendNull_278bc_40 : decode cJ5_appendNull_278bc 40 = .ok (.bipush 117, 2) := by decide +kernel
theorem dJ5_appendNull_278bc_42 : decode cJ5_appendNull_278bc 42 = .ok (.bastore, 1) := by decide +kernel
theorem dJ5_appendNull_278bc_43 : decode cJ5_appendNull_278bc 43 = .ok (.aload_n 2, 1) := by decide +kernel
theorem dJ5_appendNull_278bc_44 : decode cJ5_appendNull_278bc 44 = .ok (.iload_n 1, 1) := by decide +kernel
theorem dJ5_appendNull_278bc_45 : decode cJ5_appendNull_278bc 45 = .ok (.iinc 1 1, 3) := by decide +kernel
theorem dJ5_appendNull_278bc_48 : decode cJ5_appendNull_278bc 48 = .ok (.bipush 108, 2) := by decide +kernel
theorem dJ5_appendNull_278bc_50 : decode cJ5_appendNull_278bc 50 = .ok (.bastore, 1) := by decide +kernel
theorem dJ5_appendNull_278bc_51 : decode cJ5_appendNull_278bc 51 = .ok (.aload_n 2, 1) := by decide +kernel
theorem dJ5_appendNull_278bc_52 : decode cJ5_appendNull_278bc 52 = .ok (.iload_n 1, 1) := by decide +kernel
theorem dJ5_appendNull_278bc_53 : decode cJ5_appendNull_278bc 53 = .ok (.iinc 1 1, 3) := by decide +kernel
theorem dJ5_appendNull_278bc_56 : decode cJ5_appendNull_278bc 56 = .ok (.bipush 108, 2) := by decide +kernel
theorem dJ5_appendNull_278bc_58 : decode cJ5_appendNull_278bc 58 = .ok (.bastore, 1) := by decide +kernel
theorem dJ5_appendNull_278bc_59 : decode cJ5_appendNull_278bc 59 = .ok (.goto 17, 3) := by decide +kernel
theorem dJ5_appendNull_278bc_62 : decode cJ5_appendNull_278bc 62 = .ok (.aload_n 2, 1) := by decide +kernel
theorem dJ5_appendNull_278bc_63 : decode cJ5_appendNull_278bc 63 = .ok (.iload_n 1, 1) := by decide +kernel
theorem dJ5_appendNull_278bc_64 : decode cJ5_appendNull_278bc 64 = .ok (.bipush 110, 2) := by decide +kernel
theorem dJ5_appendNull_278bc_66 : decode cJ5_appendNull_278bc 66 = .ok (.bipush 117, 2) := by decide +kernel
theorem dJ5_appendNull_278bc_68 : decode cJ5_appendNull_278bc 68 = .ok (.bipush 108, 2) := by decide +kernel
theorem dJ5_appendNull_278bc_70 : decode cJ5_appendNull_278bc 70 = .ok (.bipush 108, 2) := by decide +kernel
theorem dJ5_appendNull_278bc_72 : decode cJ5_appendNull_278bc 72 = .ok (.invokestatic 226, 3) := by decide +kernel
theorem dJ5_appendNull_278bc_75 : decode cJ5_appendNull_278bc 75 = .ok (.istore_n 1, 1) := by decide +kernel
theorem dJ5_appendNull_278bc_76 : decode cJ5_appendNull_278bc 76 = .ok (.aload_n 0, 1) := by decide +kernel
theorem dJ5_appendNull_278bc_77 : decode cJ5_appendNull_278bc 77 = .ok (.iload_n 1, 1) := by decide +kernel
theorem dJ5_appendNull_278bc_78 : decode cJ5_appendNull_278bc 78 = .ok (.putfield 79, 3) := by decide +kernel
theorem dJ5_appendNull_278bc_81 : decode cJ5_appendNull_278bc 81 = .ok (.aload_n 0, 1) := by decide +kernel
theorem dJ5_appendNull_278bc_82 : decode cJ5_appendNull_278bc 82 = .ok (.areturn, 1) := by decide +kernel
theorem dJ5_append_3fe6f_0 : decode cJ5_append_3fe6f 0 = .ok (.aload_n 0, 1) := by decide +kernel
theorem dJ5_append_3fe6f_1 : decode cJ5_append_3fe6f 1 = .ok (.aload_n 0, 1) := by decide +kernel
theorem dJ5_append_3fe6f_2 : decode cJ5_append_3fe6f 2 = .ok (.getfield 79, 3) := by decide +kernel
theorem dJ5_append_3fe6f_5 : decode cJ5_append_3fe6f 5 = .ok (.iconst 1, 1) := by decide +kernel
theorem dJ5_append_3fe6f_6 : decode cJ5_append_3fe6f 6 = .ok (.iadd, 1) := by decide +kernel
theorem dJ5_append_3fe6f_7 : decode cJ5_append_3fe6f 7 = .ok (.invokevirtual 100, 3) := by decide +kernel
theorem dJ5_append_3fe6f_10 : decode cJ5_append_3fe6f 10 = .ok (.aload_n 0, 1) := by decide +kernel
theorem dJ5_append_3fe6f_11 : decode cJ5_append_3fe6f 11 = .ok (.invokevirtual 83, 3) := by decide +kernel
theorem dJ5_append_3fe6f_14 : decode cJ5_append_3fe6f 14 = .ok (.ifCond .eq 31, 3) := by decide +kernel
theorem dJ5_append_3fe6f_17 : decode cJ5_append_3fe6f 17 = .ok (.iload_n 1, 1) := by decide +kernel
theorem dJ5_append_3fe6f_18 : decode cJ5_append_3fe6f 18 = .ok (.invokestatic 191, 3) := by decide +kernel
theorem dJ5_append_3fe6f_21 : decode cJ5_append_3fe6f 21 = .ok (.ifCond .eq 24, 3) := by decide +kernel
theorem dJ5_append_3fe6f_24 : decode cJ5_append_3fe6f 24 = .ok (.aload_n 0, 1) := by decide +kernel
theorem dJ5_append_3fe6f_25 : decode cJ5_append_3fe6f 25 = .ok (.getfield 15, 3) := by decide +kernel
theorem dJ5_append_3fe6f_28 : decode cJ5_append_3fe6f 28 = .ok (.aload_n 0, 1) := by decide +kernel
theorem dJ5_append_3fe6f_29 : decode cJ5_append_3fe6f 29 = .ok (.dup, 1) := by decide +kernel
theorem dJ5_append_3fe6f_30 : decode cJ5_append_3fe6f 30 = .ok (.getfield 79, 3) := by decide +kernel
theorem dJ5_append_3fe6f_33 : decode cJ5_append_3fe6f 33 = .ok (.dup_x1, 1) := by decide +kernel
theorem dJ5_append_3fe6f_34 : decode cJ5_append_3fe6f 34 = .ok (.iconst 1, 1) := by decide +kernel
theorem dJ5_append_3fe6f_35 : decode cJ5_append_3fe6f 35 = .ok (.iadd, 1) := by decide +kernel
theorem dJ5_append_3fe6f_36 : decode cJ5_append_3fe6f 36 = .ok (.putfield 79, 3) := by decide +kernel
theorem dJ5_append_3fe6f_39 : decode cJ5_append_3fe6f 39 = .ok (.iload_n 1, 1) := by decide +kernel
theorem dJ5_append_3fe6f_40 : decode cJ5_append_3fe6f 40 = .ok (.i2b, 1) := by decide +kernel
theorem dJ5_append_3fe6f_41 : decode cJ5_append_3fe6f 41 = .ok (.bastore, 1) := by decide +kernel
theorem dJ5_append_3fe6f_42 : decode cJ5_append_3fe6f 42 = .ok (.goto 33, 3) := by decide +kernel
theorem dJ5_append_3fe6f_45 : decode cJ5_append_3fe6f 45 = .ok (.aload_n 0, 1) := by decide +kernel
theorem dJ5_append_3fe6f_46 : decode cJ5_append_3fe6f 46 = .ok (.invokevirtual 83, 3) := by decide +kernel
theorem dJ5_append_3fe6f_49 : decode cJ5_append_3fe6f 49 = .ok (.ifCond .eq 7, 3) := by decide +kernel
theorem dJ5_append_3fe6f_52 : decode cJ5_append_3fe6f 52 = .ok (.aload_n 0, 1) := by decide +kernel
theorem dJ5_append_3fe6f_53 : decode cJ5_append_3fe6f 53 = .ok (.invokevirtual 195, 3) := by decide +kernel
theorem dJ5_append_3fe6f_56 : decode cJ5_append_3fe6f 56 = .ok (.aload_n 0, 1) := by decide +kernel
theorem dJ5_append_3fe6f_57 : decode cJ5_append_3fe6f 57 = .ok (.getfield 15, 3) := by decide +kernel
theorem dJ5_append_3fe6f_60 : decode cJ5_append_3fe6f 60 = .ok (.aload_n 0, 1) := by decide +kernel
theorem dJ5_append_3fe6f_61 : decode cJ5_append_3fe6f 61 = .ok (.dup, 1) := by decide +kernel
theorem dJ5_append_3fe6f_62 : decode cJ5_append_3fe6f 62 = .ok (.getfield 79, 3) := by decide +kernel
theorem dJ5_append_3fe6f_65 : decode cJ5_append_3fe6f 65 = .ok (.dup_x1, 1) := by decide +kernel
theorem dJ5_append_3fe6f_66 : decode cJ5_append_3fe6f 66 = .ok (.iconst 1, 1) := by decide +kernel
theorem dJ5_append_3fe6f_67 : decode cJ5_append_3fe6f 67 = .ok (.iadd, 1) := by decide +kernel
theorem dJ5_append_3fe6f_68 : decode cJ5_append_3fe6f 68 = .ok (.putfield 79, 3) := by decide +kernel
theorem dJ5_append_3fe6f_71 : decode cJ5_append_3fe6f 71 = .ok (.iload_n 1, 1) := by decide +kernel
theorem dJ5_append_3fe6f_72 : decode cJ5_append_3fe6f 72 = .ok (.invokestatic 197, 3) := by decide +kernel
theorem dJ5_append_3fe6f_75 : decode cJ5_append_3fe6f 75 = .ok (.aload_n 0, 1) := by decide +kernel
theorem dJ5_append_3fe6f_76 : decode cJ5_append_3fe6f 76 = .ok (.areturn, 1) := by decide +kernel
theorem dJ5_append_c97b9_0 : decode cJ5_append_c97b9 0 = .ok (.aload_n 0, 1) := by decide +kernel
theorem dJ5_append_c97b9_1 : decode cJ5_append_c97b9 1 = .ok (.getfield 79, 3) := by decide +kernel
theorem dJ5_append_c97b9_4 : decode cJ5_append_c97b9 4 = .ok (.istore_n 2, 1) := by decide +kernel
theorem dJ5_append_c97b9_5 : decode cJ5_append_c97b9 5 = .ok (.iload_n 2, 1) := by decide +kernel
theorem dJ5_append_c97b9_6 : decode cJ5_append_c97b9 6 = .ok (.iload_n 1, 1) := by decide +kernel
theorem dJ5_append_c97b9_7 : decode cJ5_append_c97b9 7 = .ok (.invokestatic 245, 3) := by decide +kernel
theorem dJ5_append_c97b9_10 : decode cJ5_append_c97b9 10 = .ok (.iadd, 1) := by decide +kernel
theorem dJ5_append_c97b9_11 : decode cJ5_append_c97b9 11 = .ok (.istore_n 3, 1) := by decide +kernel
theorem dJ5_append_c97b9_12 : decode cJ5_append_c97b9 12 = .ok (.aload_n 0, 1) := by decide +kernel
theorem dJ5_append_c97b9_13 : decode cJ5_append_c97b9 13 = .ok (.iload_n 3, 1) := by decide +kernel
theorem dJ5_append_c97b9_14 : decode cJ5_append_c97b9 14 = .ok (.invokevirtual 100, 3) := by decide +kernel
theorem dJ5_append_c97b9_17 : decode cJ5_append_c97b9 17 = .ok (.aload_n 0, 1) := by decide +kernel
theorem dJ5_append_c97b9_18 : decode cJ5_append_c97b9 18 = .ok (.invokevirtual 83, 3) := by decide +kernel
theorem dJ5_append_c97b9_21 : decode cJ5_append_c97b9 21 = .ok (.ifCond .eq 16, 3) := by decide +kernel
theorem dJ5_append_c97b9_24 : decode cJ5_append_c97b9 24 = .ok (.iload_n 1, 1) := by decide +kernel
theorem dJ5_append_c97b9_25 : decode cJ5_append_c97b9 25 = .ok (.iload_n 3, 1) := by decide +kernel
theorem dJ5_append_c97b9_26 : decode cJ5_append_c97b9 26 = .ok (.aload_n 0, 1) := by decide +kernel
theorem dJ5_append_c97b9_27 : decode cJ5_append_c97b9 27 = .ok (.getfield 15, 3) := by decide +kernel
theorem dJ5_append_c97b9_30 : decode cJ5_append_c97b9 30 = .ok (.invokestatic 248, 3) := by decide +kernel
theorem dJ5_append_c97b9_33 : decode cJ5_append_c97b9 33 = .ok (.pop, 1) := by decide +kernel
theorem dJ5_append_c97b9_34 : decode cJ5_append_c97b9 34 = .ok (.goto 14, 3) := by decide +kernel
theorem dJ5_append_c97b9_37 : decode cJ5_append_c97b9 37 = .ok (.iload_n 1, 1) := by decide +kernel
theorem dJ5_append_c97b9_38 : decode cJ5_append_c97b9 38 = .ok (.iload_n 2, 1) := by decide +kernel
theorem dJ5_append_c97b9_39 : decode cJ5_append_c97b9 39 = .ok (.iload_n 3, 1) := by decide +kernel
theorem dJ5_append_c97b9_40 : decode cJ5_append_c97b9 40 = .ok (.aload_n 0, 1) := by decide +kernel
theorem dJ5_append_c97b9_41 : decode cJ5_append_c97b9 41 = .ok (.getfield 15, 3) := by decide +kernel
theorem dJ5_append_c97b9_44 : decode cJ5_append_c97b9 44 = .ok (.invokestatic 251, 3) := by decide +kernel
theorem dJ5_append_c97b9_47 : decode cJ5_append_c97b9 47 = .ok (.pop, 1) := by decide +kernel
theorem dJ5_append_c97b9_48 : decode cJ5_append_c97b9 48 = .ok (.aload_n 0, 1) := by decide +kernel
theorem dJ5_append_c97b9_49 : decode cJ5_append_c97b9 49 = .ok (.iload_n 3, 1) := by decide +kernel
theorem dJ5_append_c97b9_50 : decode cJ5_append_c97b9 50 = .ok (.putfield 79, 3) := by decide +kernel
theorem dJ5_append_c97b9_53 : decode cJ5_append_c97b9 53 = .ok (.aload_n 0, 1) := by decide +kernel
theorem dJ5_append_c97b9_54 : decode cJ5_append_c97b9 54 = .ok (.areturn, 1) := by decide +kernel
theorem dJ5_getValue_6d5f1_0 : decode cJ5_getValue_6d5f1 0 = .ok (.aload_n 0, 1) := by decide +kernel
theorem dJ5_getValue_6d5f1_1 : decode cJ5_getValue_6d5f1 1 = .ok (.getfield 15, 3) := by decide +kernel
theorem dJ5_getValue_6d5f1_4 : decode cJ5_getValue_6d5f1 4 = .ok (.areturn, 1) := by decide +kernel
theorem dJ5_isLatin1_aae02_0 : decode cJ5_isLatin1_aae02 0 = .ok (.getstatic 18, 3) := by decide +kernel
theorem dJ5_isLatin1_aae02_3 : decode cJ5_isLatin1_aae02 3 = .ok (.ifCond .eq 14, 3) := by decide +kernel
theorem dJ5_isLatin1_aae02_6 : decode cJ5_isLatin1_aae02 6 = .ok (.aload_n 0, 1) := by decide +kernel
theorem dJ5_isLatin1_aae02_7 : decode cJ5_isLatin1_aae02 7 = .ok (.getfield 22, 3) := by decide +kernel
theorem dJ5_isLatin1_aae02_10 : decode cJ5_isLatin1_aae02 10 = .ok (.ifCond .ne 7, 3) := by decide +kernel
theorem dJ5_isLatin1_aae02_13 : decode cJ5_isLatin1_aae02 13 = .ok (.iconst 1, 1) := by decide +kernel
theorem dJ5_isLatin1_aae02_14 : decode cJ5_isLatin1_aae02 14 = .ok (.goto 4, 3) := by decide +kernel
theorem dJ5_isLatin1_aae02_17 : decode cJ5_isLatin1_aae02 17 = .ok (.iconst 0, 1) := by decide +kernel
theorem dJ5_isLatin1_aae02_18 : decode cJ5_isLatin1_aae02 18 = .ok (.ireturn, 1) := by decide +kernel
theorem dJ5_inflateIfNeededFor_a7421_0 : decode cJ5_inflateIfNeededFor_a7421 0 = .ok (.getstatic 18, 3) := by decide +kernel
theorem dJ5_inflateIfNeededFor_a7421_3 : decode cJ5_inflateIfNeededFor_a7421 3 = .ok (.ifCond .eq 18, 3) := by decide +kernel
theorem dJ5_inflateIfNeededFor_a7421_6 : decode cJ5_inflateIfNeededFor_a7421 6 = .ok (.aload_n 0, 1) := by decide +kernel
theorem dJ5_inflateIfNeededFor_a7421_7 : decode cJ5_inflateIfNeededFor_a7421 7 = .ok (.getfield 22, 3) := by decide +kernel
theorem dJ5_inflateIfNeededFor_a7421_10 : decode cJ5_inflateIfNeededFor_a7421 10 = .ok (.aload_n 1, 1) := by decide +kernel
theorem dJ5_inflateIfNeededFor_a7421_11 : decode cJ5_inflateIfNeededFor_a7421 11 = .ok (.invokevirtual 40, 3) := by decide +kernel
theorem dJ5_inflateIfNeededFor_a7421_14 : decode cJ5_inflateIfNeededFor_a7421 14 = .ok (.if_icmp .eq 7, 3) := by decide +kernel
theorem dJ5_inflateIfNeededFor_a7421_17 : decode cJ5_inflateIfNeededFor_a7421 17 = .ok (.aload_n 0, 1) := by decide +kernel
theorem dJ5_inflateIfNeededFor_a7421_18 : decode cJ5_inflateIfNeededFor_a7421 18 = .ok (.invokevirtual 195, 3) := by decide +kernel
theorem dJ5_inflateIfNeededFor_a7421_21 : decode cJ5_inflateIfNeededFor_a7421 21 = .ok (.return_, 1) := by decide +kernel
theorem dJ5_putStringAt_47b60_0 : decode cJ5_putStringAt_47b60 0 = .ok (.aload_n 0, 1) := by decide +kernel
theorem dJ5_putStringAt_47b60_1 : decode cJ5_putStringAt_47b60 1 = .ok (.aload_n 2, 1) := by decide +kernel
theorem dJ5_putStringAt_47b60_2 : decode cJ5_putStringAt_47b60 2 = .ok (.invokevirtual 397, 3) := by decide +kernel
theorem dJ5_putStringAt_47b60_5 : decode cJ5_putStringAt_47b60 5 = .ok (.aload_n 2, 1) := by decide +kernel
theorem dJ5_putStringAt_47b60_6 : decode cJ5_putStringAt_47b60 6 = .ok (.aload_n 0, 1) := by decide +kernel
theorem dJ5_putStringAt_47b60_7 : decode cJ5_putStringAt_47b60 7 = .ok (.getfield 15, 3) := by decide +kernel
theorem dJ5_putStringAt_47b60_10 : decode cJ5_putStringAt_47b60 10 = .ok (.iload_n 1, 1) := by decide +kernel
theorem dJ5_putStringAt_47b60_11 : decode cJ5_putStringAt_47b60 11 = .ok (.aload_n 0, 1) := by decide +kernel
theorem dJ5_putStringAt_47b60_12 : decode cJ5_putStringAt_47b60 12 = .ok (.getfield 22, 3) := by decide +kernel
theorem dJ5_putStringAt_47b60_15 : decode cJ5_putStringAt_47b60 15 = .ok (.invokevirtual 399, 3) := by decide +kernel
theorem dJ5_putStringAt_47b60_18 : decode cJ5_putStringAt_47b60 18 = .ok (.return_, 1) := by decide +kernel
theorem dJ6_getChars_ba4f3_0 : decode cJ6_getChars_ba4f3 0 = .ok (.iload_n 1, 1) := by decide +kernel
theorem dJ6_getChars_ba4f3_1 : decode cJ6_getChars_ba4f3 1 = .ok (.istore 5, 2) := by decide +kernel
theorem dJ6_getChars_ba4f3_3 : decode cJ6_getChars_ba4f3 3 = .ok (.iload_n 0, 1) := by decide +kernel
theorem dJ6_getChars_ba4f3_4 : decode cJ6_getChars_ba4f3 4 = .ok (.ifCond .ge 7, 3) := by decide +kernel
theorem dJ6_getChars_ba4f3_7 : decode cJ6_getChars_ba4f3 7 = .ok (.iconst 1, 1) := by decide +kernel
theorem dJ6_getChars_ba4f3_8 : decode cJ6_getChars_ba4f3 8 = .ok (.goto 4, 3) := by decide +kernel
theorem dJ6_getChars_ba4f3_11 : decode cJ6_getChars_ba4f3 11 = .ok (.iconst 0, 1) := by decide +kernel
theorem dJ6_getChars_ba4f3_12 : decode cJ6_getChars_ba4f3 12 = .ok (.istore 6, 2) := by decide +kernel
theorem dJ6_getChars_ba4f3_14 : decode cJ6_getChars_ba4f3 14 = .ok (.iload 6, 2) := by decide +kernel
theorem dJ6_getChars_ba4f3_16 : decode cJ6_getChars_ba4f3 16 = .ok (.ifCond .ne 6, 3) := by decide +kernel
theorem dJ6_getChars_ba4f3_19 : decode cJ6_getChars_ba4f3 19 = .ok (.iload_n 0, 1) := by decide +kernel
theorem dJ6_getChars_ba4f3_20 : decode cJ6_getChars_ba4f3 20 = .ok (.ineg, 1) := by decide +kernel
theorem dJ6_getChars_ba4f3_21 : decode cJ6_getChars_ba4f3 21 = .ok (.istore_n 0, 1) := by decide +kernel
theorem dJ6_getChars_ba4f3_22 : decode cJ6_getChars_ba4f3 22 = .ok (.iload_n 0, 1) := by decide +kernel
theorem dJ6_getChars_ba4f3_23 : decode cJ6_getChars_ba4f3 23 = .ok (.bipush (-100), 2) := by decide +kernel
theorem dJ6_getChars_ba4f3_25 : decode cJ6_getChars_ba4f3 25 = .ok (.if_icmp .gt 47, 3) := by decide +kernel
theorem dJ6_getChars_ba4f3_28 : decode cJ6_getChars_ba4f3 28 = .ok (.iload_n 0, 1) := by decide +kernel
theorem dJ6_getChars_ba4f3_29 : decode cJ6_getChars_ba4f3 29 = .ok (.bipush 100, 2) := by decide +kernel
theorem dJ6_getChars_ba4f3_31 : decode cJ6_getChars_ba4f3 31 = .ok (.idiv, 1) := by decide +kernel
theorem dJ6_getChars_ba4f3_32 : decode cJ6_getChars_ba4f3 32 = .ok (.istore_n 3, 1) := by decide +kernel
theorem dJ6_getChars_ba4f3_33 : decode cJ6_getChars_ba4f3 33 = .ok (.iload_n 3, 1) := by decide +kernel
theorem dJ6_getChars_ba4f3_34 : decode cJ6_getChars_ba4f3 34 = .ok (.bipush 100, 2) := by decide +kernel
theorem dJ6_getChars_ba4f3_36 : decode cJ6_getChars_ba4f3 36 = .ok (.imul, 1) := by decide +kernel
theorem dJ6_getChars_ba4f3_37 : decode cJ6_getChars_ba4f3 37 = .ok (.iload_n 0, 1) := by decide +kernel
theorem dJ6_getChars_ba4f3_38 : decode cJ6_getChars_ba4f3 38 = .ok (.isub, 1) := by decide +kernel
theorem dJ6_getChars_ba4f3_39 : decode cJ6_getChars_ba4f3 39 = .ok (.istore 4, 2) := by decide +kernel
theorem dJ6_getChars_ba4f3_41 : decode cJ6_getChars_ba4f3 41 = .ok (.iload_n 3, 1) := by decide +kernel
theorem dJ6_getChars_ba4f3_42 : decode cJ6_getChars_ba4f3 42 = .ok (.istore_n 0, 1) := by decide +kernel
theorem dJ6_getChars_ba4f3_43 : decode cJ6_getChars_ba4f3 43 = .ok (.aload_n 2, 1) := by decide +kernel
theorem dJ6_getChars_ba4f3_44 : decode cJ6_getChars_ba4f3 44 = .ok (.iinc 5 (-1), 3) := by decide +kernel
theorem dJ6_getChars_ba4f3_47 : decode cJ6_getChars_ba4f3 47 = .ok (.iload 5, 2) := by decide +kernel
theorem dJ6_getChars_ba4f3_49 : decode cJ6_getChars_ba4f3 49 = .ok (.getstatic 83, 3) := by decide +kernel
theorem dJ6_getChars_ba4f3_52 : decode cJ6_getChars_ba4f3 52 = .ok (.iload 4, 2) := by decide +kernel
theorem dJ6_getChars_ba4f3_54 : decode cJ6_getChars_ba4f3 54 = .ok (.baload, 1) := by decide +kernel
theorem dJ6_getChars_ba4f3_55 : decode cJ6_getChars_ba4f3 55 = .ok (.bastore, 1) := by decide +kernel
theorem dJ6_getChars_ba4f3_56 : decode cJ6_getChars_ba4f3 56 = .ok (.aload_n 2, 1) := by decide +kernel
theorem dJ6_getChars_ba4f3_57 : decode cJ6_getChars_ba4f3 57 = .ok (.iinc 5 (-1), 3) := by decide +kernel
theorem dJ6_getChars_ba4f3_60 : decode cJ6_getChars_ba4f3 60 = .ok (.iload 5, 2) := by decide +kernel
theorem dJ6_getChars_ba4f3_62 : decode cJ6_getChars_ba4f3 62 = .ok (.getstatic 87, 3) := by decide +kernel
theorem dJ6_getChars_ba4f3_65 : decode cJ6_getChars_ba4f3 65 = .ok (.iload 4, 2) := by decide +kernel
theorem dJ6_getChars_ba4f3_67 : decode cJ6_getChars_ba4f3 67 = .ok (.baload, 1) := by decide +kernel
theorem dJ6_getChars_ba4f3_68 : decode cJ6_getChars_ba4f3 68 = .ok (.bastore, 1) := by decide +kernel
theorem dJ6_getChars_ba4f3_69 : decode cJ6_getChars_ba4f3 69 = .ok (.goto (-47), 3) := by decide +kernel
theorem dJ6_getChars_ba4f3_72 : decode cJ6_getChars_ba4f3 72 = .ok (.aload_n 2, 1) := by decide +kernel
theorem dJ6_getChars_ba4f3_73 : decode cJ6_getChars_ba4f3 73 = .ok (.iinc 5 (-1), 3) := by decide +kernel
theorem dJ6_getChars_ba4f3_76 : decode cJ6_getChars_ba4f3 76 = .ok (.iload 5, 2) := by decide +kernel
theorem dJ6_getChars_ba4f3_78 : decode cJ6_getChars_ba4f3 78 = .ok (.getstatic 83, 3) := by decide +kernel
theorem dJ6_getChars_ba4f3_81 : decode cJ6_getChars_ba4f3 81 = .ok (.iload_n 0, 1) := by decide +kernel
theorem dJ6_getChars_ba4f3_82 : decode cJ6_getChars_ba4f3 82 = .ok (.ineg, 1) := by decide +kernel
theorem dJ6_getChars_ba4f3_83 : decode cJ6_getChars_ba4f3 83 = .ok (.baload, 1) := by decide +kernel
theorem dJ6_getChars_ba4f3_84 : decode cJ6_getChars_ba4f3 84 = .ok (.bastore, 1) := by decide +kernel
theorem dJ6_getChars_ba4f3_85 : decode cJ6_getChars_ba4f3 85 = .ok (.iload_n 0, 1) := by decide +kernel
theorem dJ6_getChars_ba4f3_86 : decode cJ6_getChars_ba4f3 86 = .ok (.bipush (-9), 2) := by decide +kernel
theorem dJ6_getChars_ba4f3_88 : decode cJ6_getChars_ba4f3 88 = .ok (.if_icmp .ge 16, 3) := by decide +kernel
theorem dJ6_getChars_ba4f3_91 : decode cJ6_getChars_ba4f3 91 = .ok (.aload_n 2, 1) := by decide +kernel
theorem dJ6_getChars_ba4f3_92 : decode cJ6_getChars_ba4f3 92 = .ok (.iinc 5 (-1), 3) := by decide +kernel
theorem dJ6_getChars_ba4f3_95 : decode cJ6_getChars_ba4f3 95 = .ok (.iload 5, 2) := by decide +kernel
theorem dJ6_getChars_ba4f3_97 : decode cJ6_getChars_ba4f3 97 = .ok (.getstatic 87, 3) := by decide +kernel
theorem dJ6_getChars_ba4f3_100 : decode cJ6_getChars_ba4f3 100 = .ok (.iload_n 0, 1) := by decide +kernel
theorem dJ6_getChars_ba4f3_101 : decode cJ6_getChars_ba4f3 101 = .ok (.ineg, 1) := by decide +kernel
theorem dJ6_getChars_ba4f3_102 : decode cJ6_getChars_ba4f3 102 = .ok (.baload, 1) := by decide +kernel
theorem dJ6_getChars_ba4f3_103 : decode cJ6_getChars_ba4f3 103 = .ok (.bastore, 1) := by decide +kernel
theorem dJ6_getChars_ba4f3_104 : decode cJ6_getChars_ba4f3 104 = .ok (.iload 6, 2) := by decide +kernel
theorem dJ6_getChars_ba4f3_106 : decode cJ6_getChars_ba4f3 106 = .ok (.ifCond .eq 12, 3) := by decide +kernel
theorem dJ6_getChars_ba4f3_109 : decode cJ6_getChars_ba4f3 109 = .ok (.aload_n 2, 1) := by decide +kernel
theorem dJ6_getChars_ba4f3_110 : decode cJ6_getChars_ba4f3 110 = .ok (.iinc 5 (-1), 3) := by decide +kernel
theorem dJ6_getChars_ba4f3_113 : decode cJ6_getChars_ba4f3 113 = .ok (.iload 5, 2) := by decide +kernel
theorem dJ6_getChars_ba4f3_115 : decode cJ6_getChars_ba4f3 115 = .ok (.bipush 45, 2) := by decide +kernel
theorem dJ6_getChars_ba4f3_117 : decode cJ6_getChars_ba4f3 117 = .ok (.bastore, 1) := by decide +kernel
theorem dJ6_getChars_ba4f3_118 : decode cJ6_getChars_ba4f3 118 = .ok (.iload 5, 2) := by decide +kernel
theorem dJ6_getChars_ba4f3_120 : decode cJ6_getChars_ba4f3 120 = .ok (.ireturn, 1) := by decide +kernel
theorem dJ6_stringSize_0f7a4_0 : decode cJ6_stringSize_0f7a4 0 = .ok (.iconst 1, 1) := by decide +kernel
theorem dJ6_stringSize_0f7a4_1 : decode cJ6_stringSize_0f7a4 1 = .ok (.istore_n 1, 1) := by decide +kernel
theorem dJ6_stringSize_0f7a4_2 : decode cJ6_stringSize_0f7a4 2 = .ok (.iload_n 0, 1) := by decide +kernel
theorem dJ6_stringSize_0f7a4_3 : decode cJ6_stringSize_0f7a4 3 = .ok (.ifCond .lt 8, 3) := by decide +kernel
theorem dJ6_stringSize_0f7a4_6 : decode cJ6_stringSize_0f7a4 6 = .ok (.iconst 0, 1) := by decide +kernel
theorem dJ6_stringSize_0f7a4_7 : decode cJ6_stringSize_0f7a4 7 = .ok (.istore_n 1, 1) := by decide +kernel
theorem dJ6_stringSize_0f7a4_8 : decode cJ6_stringSize_0f7a4 8 = .ok (.iload_n 0, 1) := by decide +kernel
theorem dJ6_stringSize_0f7a4_9 : decode cJ6_stringSize_0f7a4 9 = .ok (.ineg, 1) := by decide +kernel
theorem dJ6_stringSize_0f7a4_10 : decode cJ6_stringSize_0f7a4 10 = .ok (.istore_n 0, 1) := by decide +kernel
theorem dJ6_stringSize_0f7a4_11 : decode cJ6_stringSize_0f7a4 11 = .ok (.bipush (-10), 2) := by decide +kernel
theorem dJ6_stringSize_0f7a4_13 : decode cJ6_stringSize_0f7a4 13 = .ok (.istore_n 2, 1) := by decide +kernel
theorem dJ6_stringSize_0f7a4_14 : decode cJ6_stringSize_0f7a4 14 = .ok (.iconst 1, 1) := by decide +kernel
theorem dJ6_stringSize_0f7a4_15 : decode cJ6_stringSize_0f7a4 15 = .ok (.istore_n 3, 1) := by decide +kernel
theorem dJ6_stringSize_0f7a4_16 : decode cJ6_stringSize_0f7a4 16 = .ok (.iload_n 3, 1) := by decide +kernel
theorem dJ6_stringSize_0f7a4_17 : decode cJ6_stringSize_0f7a4 17 = .ok (.bipush 10, 2) := by decide +kernel
theorem dJ6_stringSize_0f7a4_19 : decode cJ6_stringSize_0f7a4 19 = .ok (.if_icmp .ge 23, 3) := by decide +kernel
theorem dJ6_stringSize_0f7a4_22 : decode cJ6_stringSize_0f7a4 22 = .ok (.iload_n 0, 1) := by decide +kernel
theorem dJ6_stringSize_0f7a4_23 : decode cJ6_stringSize_0f7a4 23 = .ok (.iload_n 2, 1) := by decide +kernel
theorem dJ6_stringSize_0f7a4_24 : decode cJ6_stringSize_0f7a4 24 = .ok (.if_icmp .le 7, 3) := by decide +kernel
theorem dJ6_stringSize_0f7a4_27 : decode cJ6_stringSize_0f7a4 27 = .ok (.iload_n 3, 1) := by decide +kernel
theorem dJ6_stringSize_0f7a4_28 : decode cJ6_stringSize_0f7a4 28 = .ok (.iload_n 1, 1) := by decide +kernel
theorem dJ6_stringSize_0f7a4_29 : decode cJ6_stringSize_0f7a4 29 = .ok (.iadd, 1) := by decide +kernel
theorem dJ6_stringSize_0f7a4_30 : decode cJ6_stringSize_0f7a4 30 = .ok (.ireturn, 1) := by decide +kernel
theorem dJ6_stringSize_0f7a4_31 : decode cJ6_stringSize_0f7a4 31 = .ok (.bipush 10, 2) := by decide +kernel
theorem dJ6_stringSize_0f7a4_33 : decode cJ6_stringSize_0f7a4 33 = .ok (.iload_n 2, 1) := by decide +kernel
theorem dJ6_stringSize_0f7a4_34 : decode cJ6_stringSize_0f7a4 34 = .ok (.imul, 1) := by decide +kernel
theorem dJ6_stringSize_0f7a4_35 : decode cJ6_stringSize_0f7a4 35 = .ok (.istore_n 2, 1) := by decide +kernel
theorem dJ6_stringSize_0f7a4_36 : decode cJ6_stringSize_0f7a4 36 = .ok (.iinc 3 1, 3) := by decide +kernel
theorem dJ6_stringSize_0f7a4_39 : decode cJ6_stringSize_0f7a4 39 = .ok (.goto (-23), 3) := by decide +kernel
theorem dJ6_stringSize_0f7a4_42 : decode cJ6_stringSize_0f7a4 42 = .ok (.bipush 10, 2) := by decide +kernel
theorem dJ6_stringSize_0f7a4_44 : decode cJ6_stringSize_0f7a4 44 = .ok (.iload_n 1, 1) := by decide +kernel
theorem dJ6_stringSize_0f7a4_45 : decode cJ6_stringSize_0f7a4 45 = .ok (.iadd, 1) := by decide +kernel
theorem dJ6_stringSize_0f7a4_46 : decode cJ6_stringSize_0f7a4 46 = .ok (.ireturn, 1) := by decide +kernel
theorem dJ9_max_7cf53_0 : decode cJ9_max_7cf53 0 = .ok (.iload_n 0, 1) := by decide +kernel
theorem dJ9_max_7cf53_1 : decode cJ9_max_7cf53 1 = .ok (.iload_n 1, 1) := by decide +kernel
theorem dJ9_max_7cf53_2 : decode cJ9_max_7cf53 2 = .ok (.if_icmp .lt 7, 3) := by decide +kernel
theorem dJ9_max_7cf53_5 : decode cJ9_max_7cf53 5 = .ok (.iload_n 0, 1) := by decide +kernel
theorem dJ9_max_7cf53_6 : decode cJ9_max_7cf53 6 = .ok (.goto 4, 3) := by decide +kernel
theorem dJ9_max_7cf53_9 : decode cJ9_max_7cf53 9 = .ok (.iload_n 1, 1) := by decide +kernel
theorem dJ9_max_7cf53_10 : decode cJ9_max_7cf53 10 = .ok (.ireturn, 1) := by decide +kernel
theorem dJ9_max_f86c9_0 : decode cJ9_max_f86c9 0 = .ok (.lload_n 0, 1) := by decide +kernel
theorem dJ9_max_f86c9_1 : decode cJ9_max_f86c9 1 = .ok (.lload_n 2, 1) := by decide +kernel
theorem dJ9_max_f86c9_2 : decode cJ9_max_f86c9 2 = .ok (.lcmp, 1) := by decide +kernel
theorem dJ9_max_f86c9_3 : decode cJ9_max_f86c9 3 = .ok (.ifCond .lt 7, 3) := by decide +kernel
theorem dJ9_max_f86c9_6 : decode cJ9_max_f86c9 6 = .ok (.lload_n 0, 1) := by decide +kernel
theorem dJ9_max_f86c9_7 : decode cJ9_max_f86c9 7 = .ok (.goto 4, 3) := by decide +kernel
theorem dJ9_max_f86c9_10 : decode cJ9_max_f86c9 10 = .ok (.lload_n 2, 1) := by decide +kernel
theorem dJ9_max_f86c9_11 : decode cJ9_max_f86c9 11 = .ok (.lreturn, 1) := by decide +kernel
theorem dJ9_min_7cf53_0 : decode cJ9_min_7cf53 0 = .ok (.iload_n 0, 1) := by decide +kernel
theorem dJ9_min_7cf53_1 : decode cJ9_min_7cf53 1 = .ok (.iload_n 1, 1) := by decide +kernel
theorem dJ9_min_7cf53_2 : decode cJ9_min_7cf53 2 = .ok (.if_icmp .gt 7, 3) := by decide +kernel
theorem dJ9_min_7cf53_5 : decode cJ9_min_7cf53 5 = .ok (.iload_n 0, 1) := by decide +kernel
theorem dJ9_min_7cf53_6 : decode cJ9_min_7cf53 6 = .ok (.goto 4, 3) := by decide +kernel
theorem dJ9_min_7cf53_9 : decode cJ9_min_7cf53 9 = .ok (.iload_n 1, 1) := by decide +kernel
theorem dJ9_min_7cf53_10 : decode cJ9_min_7cf53 10 = .ok (.ireturn, 1) := by decide +kernel
theorem dJ9_min_f86c9_0 : decode cJ9_min_f86c9 0 = .ok (.lload_n 0, 1) := by decide +kernel
theorem dJ9_min_f86c9_1 : decode cJ9_min_f86c9 1 = .ok (.lload_n 2, 1) := by decide +kernel
theorem dJ9_min_f86c9_2 : decode cJ9_min_f86c9 2 = .ok (.lcmp, 1) := by decide +kernel
theorem dJ9_min_f86c9_3 : decode cJ9_min_f86c9 3 = .ok (.ifCond .gt 7, 3) := by decide +kernel
theorem dJ9_min_f86c9_6 : decode cJ9_min_f86c9 6 = .ok (.lload_n 0, 1) := by decide +kernel
theorem dJ9_min_f86c9_7 : decode cJ9_min_f86c9 7 = .ok (.goto 4, 3) := by decide +kernel
theorem dJ9_min_f86c9_10 : decode cJ9_min_f86c9 10 = .ok (.lload_n 2, 1) := by decide +kernel
theorem dJ9_min_f86c9_11 : decode cJ9_min_f86c9 11 = .ok (.lreturn, 1) := by decide +kernel
theorem dJ0_init_81219_0 : decode cJ0_init_81219 0 = .ok (.aload_n 0, 1) := by decide +kernel
theorem dJ0_init_81219_1 : decode cJ0_init_81219 1 = .ok (.aload_n 1, 1) := by decide +kernel
theorem dJ0_init_81219_2 : decode cJ0_init_81219 2 = .ok (.aconst_null, 1) := by decide +kernel
theorem dJ0_init_81219_3 : decode cJ0_init_81219 3 = .ok (.invokespecial 489, 3) := by decide +kernel
theorem dJ0_init_81219_6 : decode cJ0_init_81219 6 = .ok (.return_, 1) := by decide +kernel
theorem dJ0_length_8abf5_0 : decode cJ0_length_8abf5 0 = .ok (.aload_n 0, 1) := by decide +kernel
theorem dJ0_length_8abf5_1 : decode cJ0_length_8abf5 1 = .ok (.getfield 9, 3) := by decide +kernel
theorem dJ0_length_8abf5_4 : decode cJ0_length_8abf5 4 = .ok (.arraylength, 1) := by decide +kernel
theorem dJ0_length_8abf5_5 : decode cJ0_length_8abf5 5 = .ok (.aload_n 0, 1) := by decide +kernel
theorem dJ0_length_8abf5_6 : decode cJ0_length_8abf5 6 = .ok (.invokevirtual 335, 3) := by decide +kernel
theorem dJ0_length_8abf5_9 : decode cJ0_length_8abf5 9 = .ok (.ishr, 1) := by decide +kernel
theorem dJ0_length_8abf5_10 : decode cJ0_length_8abf5 10 = .ok (.ireturn, 1) := by decide +kernel
theorem dJ0_charAt_5068e_0 : decode cJ0_charAt_5068e 0 = .ok (.aload_n 0, 1) := by decide +kernel
theorem dJ0_charAt_5068e_1 : decode cJ0_charAt_5068e 1 = .ok (.invokevirtual 492, 3) := by decide +kernel
theorem dJ0_charAt_5068e_4 : decode cJ0_charAt_5068e 4 = .ok (.ifCond .eq 12, 3) := by decide +kernel
theorem dJ0_charAt_5068e_7 : decode cJ0_charAt_5068e 7 = .ok (.aload_n 0, 1) := by decide +kernel
theorem dJ0_charAt_5068e_8 : decode cJ0_charAt_5068e 8 = .ok (.getfield 9, 3) := by decide +kernel
theorem dJ0_charAt_5068e_11 : decode cJ0_charAt_5068e 11 = .ok (.iload_n 1, 1) := by decide +kernel
theorem dJ0_charAt_5068e_12 : decode cJ0_charAt_5068e 12 = .ok (.invokestatic 495, 3) := by decide +kernel
theorem dJ0_charAt_5068e_15 : decode cJ0_charAt_5068e 15 = .ok (.ireturn, 1) := by decide +kernel
theorem dJ0_charAt_5068e_16 : decode cJ0_charAt_5068e 16 = .ok (.aload_n 0, 1) := by decide +kernel
theorem dJ0_charAt_5068e_17 : decode cJ0_charAt_5068e 17 = .ok (.getfield 9, 3) := by decide +kernel
theorem dJ0_charAt_5068e_20 : decode cJ0_charAt_5068e 20 = .ok (.iload_n 1, 1) := by decide +kernel
theorem dJ0_charAt_5068e_21 : decode cJ0_charAt_5068e 21 = .ok (.invokestatic 498, 3) := by decide +kernel
theorem dJ0_charAt_5068e_24 : decode cJ0_charAt_5068e 24 = .ok (.ireturn, 1) := by decide +kernel
theorem dJ0_getBytes_840e7_0 : decode cJ0_getBytes_840e7 0 = .ok (.aload_n 0, 1) := by decide +kernel
theorem dJ0_getBytes_840e7_1 : decode cJ0_getBytes_840e7 1 = .ok (.invokevirtual 335, 3) := by decide +kernel
theorem dJ0_getBytes_840e7_4 : decode cJ0_getBytes_840e7 4 = .ok (.iload_n 3, 1) := by decide +kernel
theorem dJ0_getBytes_840e7_5 : decode cJ0_getBytes_840e7 5 = .ok (.if_icmp .ne 23, 3) := by decide +kernel
theorem dJ0_getBytes_840e7_8 : decode cJ0_getBytes_840e7 8 = .ok (.aload_n 0, 1) := by decide +kernel
theorem dJ0_getBytes_840e7_9 : decode cJ0_getBytes_840e7 9 = .ok (.getfield 9, 3) := by decide +kernel
theorem dJ0_getBytes_840e7_12 : decode cJ0_getBytes_840e7 12 = .ok (.iconst 0, 1) := by decide +kernel
theorem dJ0_getBytes_840e7_13 : decode cJ0_getBytes_840e7 13 = .ok (.aload_n 1, 1) := by decide +kernel
theorem dJ0_getBytes_840e7_14 : decode cJ0_getBytes_840e7 14 = .ok (.iload_n 2, 1) := by decide +kernel
theorem dJ0_getBytes_840e7_15 : decode cJ0_getBytes_840e7 15 = .ok (.iload_n 3, 1) := by decide +kernel
theorem dJ0_getBytes_840e7_16 : decode cJ0_getBytes_840e7 16 = .ok (.ishl, 1) := by decide +kernel
theorem dJ0_getBytes_840e7_17 : decode cJ0_getBytes_840e7 17 = .ok (.aload_n 0, 1) := by decide +kernel
theorem dJ0_getBytes_840e7_18 : decode cJ0_getBytes_840e7 18 = .ok (.getfield 9, 3) := by decide +kernel
theorem dJ0_getBytes_840e7_21 : decode cJ0_getBytes_840e7 21 = .ok (.arraylength, 1) := by decide +kernel
theorem dJ0_getBytes_840e7_22 : decode cJ0_getBytes_840e7 22 = .ok (.invokestatic 212, 3) := by decide +kernel
theorem dJ0_getBytes_840e7_25 : decode cJ0_getBytes_840e7 25 = .ok (.goto 18, 3) := by decide +kernel
theorem dJ0_getBytes_840e7_28 : decode cJ0_getBytes_840e7 28 = .ok (.aload_n 0, 1) := by decide +kernel
theorem dJ0_getBytes_840e7_29 : decode cJ0_getBytes_840e7 29 = .ok (.getfield 9, 3) := by decide +kernel
theorem dJ0_getBytes_840e7_32 : decode cJ0_getBytes_840e7 32 = .ok (.iconst 0, 1) := by decide +kernel
theorem dJ0_getBytes_840e7_33 : decode cJ0_getBytes_840e7 33 = .ok (.aload_n 1, 1) := by decide +kernel
theorem dJ0_getBytes_840e7_34 : decode cJ0_getBytes_840e7 34 = .ok (.iload_n 2, 1) := by decide +kernel
theorem dJ0_getBytes_840e7_35 : decode cJ0_getBytes_840e7 35 = .ok (.aload_n 0, 1) := by decide +kernel
theorem dJ0_getBytes_840e7_36 : decode cJ0_getBytes_840e7 36 = .ok (.getfield 9, 3) := by decide +kernel
theorem dJ0_getBytes_840e7_39 : decode cJ0_getBytes_840e7 39 = .ok (.arraylength, 1) := by decide +kernel
theorem dJ0_getBytes_840e7_40 : decode cJ0_getBytes_840e7 40 = .ok (.invokestatic 106, 3) := by decide +kernel
theorem dJ0_getBytes_840e7_43 : decode cJ0_getBytes_840e7 43 = .ok (.return_, 1) := by decide +kernel
theorem dJ0_init_db425_0 : decode cJ0_init_db425 0 = .ok (.aload_n 0, 1) := by decide +kernel
theorem dJ0_init_db425_1 : decode cJ0_init_db425 1 = .ok (.invokespecial 1, 3) := by decide +kernel
theorem dJ0_init_db425_4 : decode cJ0_init_db425 4 = .ok (.aload_n 1, 1) := by decide +kernel
theorem dJ0_init_db425_5 : decode cJ0_init_db425 5 = .ok (.invokevirtual 552, 3) := by decide +kernel
theorem dJ0_init_db425_8 : decode cJ0_init_db425 8 = .ok (.astore_n 3, 1) := by decide +kernel
theorem dJ0_init_db425_9 : decode cJ0_init_db425 9 = .ok (.aload_n 1, 1) := by decide +kernel
theorem dJ0_init_db425_10 : decode cJ0_init_db425 10 = .ok (.invokevirtual 549, 3) := by decide +kernel
theorem dJ0_init_db425_13 : decode cJ0_init_db425 13 = .ok (.istore 4, 2) := by decide +kernel
theorem dJ0_init_db425_15 : decode cJ0_init_db425 15 = .ok (.aload_n 1, 1) := by decide +kernel
theorem dJ0_init_db425_16 : decode cJ0_init_db425 16 = .ok (.invokevirtual 1047, 3) := by decide +kernel
theorem dJ0_init_db425_19 : decode cJ0_init_db425 19 = .ok (.ifCond .eq 22, 3) := by decide +kernel
theorem dJ0_init_db425_22 : decode cJ0_init_db425 22 = .ok (.aload_n 0, 1) := by decide +kernel
theorem dJ0_init_db425_23 : decode cJ0_init_db425 23 = .ok (.iconst 0, 1) := by decide +kernel
theorem dJ0_init_db425_24 : decode cJ0_init_db425 24 = .ok (.putfield 15, 3) := by decide +kernel
theorem dJ0_init_db425_27 : decode cJ0_init_db425 27 = .ok (.aload_n 0, 1) := by decide +kernel
theorem dJ0_init_db425_28 : decode cJ0_init_db425 28 = .ok (.aload_n 3, 1) := by decide +kernel
theorem dJ0_init_db425_29 : decode cJ0_init_db425 29 = .ok (.iconst 0, 1) := by decide +kernel
theorem dJ0_init_db425_30 : decode cJ0_init_db425 30 = .ok (.iload 4, 2) := by decide +kernel
theorem dJ0_init_db425_32 : decode cJ0_init_db425 32 = .ok (.invokestatic 54, 3) := by decide +kernel
theorem dJ0_init_db425_35 : decode cJ0_init_db425 35 = .ok (.putfield 9, 3) := by decide +kernel
theorem dJ0_init_db425_38 : decode cJ0_init_db425 38 = .ok (.goto 59, 3) := by decide +kernel
theorem dJ0_init_db425_41 : decode cJ0_init_db425 41 = .ok (.getstatic 38, 3) := by decide +kernel
theorem dJ0_init_db425_44 : decode cJ0_init_db425 44 = .ok (.ifCond .eq 35, 3) := by decide +kernel
theorem dJ0_init_db425_47 : decode cJ0_init_db425 47 = .ok (.aload_n 1, 1) := by decide +kernel
theorem dJ0_init_db425_48 : decode cJ0_init_db425 48 = .ok (.getfield 1048, 3) := by decide +kernel
theorem dJ0_init_db425_51 : decode cJ0_init_db425 51 = .ok (.ifCond .eq 28, 3) := by decide +kernel
theorem dJ0_init_db425_54 : decode cJ0_init_db425 54 = .ok (.aload_n 0, 1) := by decide +kernel
theorem dJ0_init_db425_55 : decode cJ0_init_db425 55 = .ok (.aload_n 3, 1) := by decide +kernel
theorem dJ0_init_db425_56 : decode cJ0_init_db425 56 = .ok (.iconst 0, 1) := by decide +kernel
theorem dJ0_init_db425_57 : decode cJ0_init_db425 57 = .ok (.iload 4, 2) := by decide +kernel
theorem dJ0_init_db425_59 : decode cJ0_init_db425 59 = .ok (.invokestatic 1051, 3) := by decide +kernel
theorem dJ0_init_db425_62 : decode cJ0_init_db425 62 = .ok (.putfield 9, 3) := by decide +kernel
theorem dJ0_init_db425_65 : decode cJ0_init_db425 65 = .ok (.aload_n 0, 1) := by decide +kernel
theorem dJ0_init_db425_66 : decode cJ0_init_db425 66 = .ok (.aload_n 0, 1) := by decide +kernel
theorem dJ0_init_db425_67 : decode cJ0_init_db425 67 = .ok (.getfield 9, 3) := by decide +kernel
theorem dJ0_init_db425_70 : decode cJ0_init_db425 70 = .ok (.iload 4, 2) := by decide +kernel
theorem dJ0_init_db425_72 : decode cJ0_init_db425 72 = .ok (.invokestatic 47, 3) := by decide +kernel
theorem dJ0_init_db425_75 : decode cJ0_init_db425 75 = .ok (.putfield 15, 3) := by decide +kernel
theorem dJ0_init_db425_78 : decode cJ0_init_db425 78 = .ok (.return_, 1) := by decide +kernel
theorem dJ0_init_db425_79 : decode cJ0_init_db425 79 = .ok (.aload_n 0, 1) := by decide +kernel
theorem dJ0_init_db425_80 : decode cJ0_init_db425 80 = .ok (.iconst 1, 1) := by decide +kernel
theorem dJ0_init_db425_81 : decode cJ0_init_db425 81 = .ok (.putfield 15, 3) := by decide +kernel
theorem dJ0_init_db425_84 : decode cJ0_init_db425 84 = .ok (.aload_n 0, 1) := by decide +kernel
theorem dJ0_init_db425_85 : decode cJ0_init_db425 85 = .ok (.aload_n 3, 1) := by decide +kernel
theorem dJ0_init_db425_86 : decode cJ0_init_db425 86 = .ok (.iconst 0, 1) := by decide +kernel
theorem dJ0_init_db425_87 : decode cJ0_init_db425 87 = .ok (.iload 4, 2) := by decide +kernel
theorem dJ0_init_db425_89 : decode cJ0_init_db425 89 = .ok (.iconst 1, 1) := by decide +kernel
theorem dJ0_init_db425_90 : decode cJ0_init_db425 90 = .ok (.ishl, 1) := by decide +kernel
theorem dJ0_init_db425_91 : decode cJ0_init_db425 91 = .ok (.invokestatic 54, 3) := by decide +kernel
theorem dJ0_init_db425_94 : decode cJ0_init_db425 94 = .ok (.putfield 9, 3) := by decide +kernel
theorem dJ0_init_db425_97 : decode cJ0_init_db425 97 = .ok (.return_, 1) := by decide +kernel
theorem dJ0_coder_7d493_0 : decode cJ0_coder_7d493 0 = .ok (.getstatic 38, 3) := by decide +kernel
theorem dJ0_coder_7d493_3 : decode cJ0_coder_7d493 3 = .ok (.ifCond .eq 10, 3) := by decide +kernel
theorem dJ0_coder_7d493_6 : decode cJ0_coder_7d493 6 = .ok (.aload_n 0, 1) := by decide +kernel
theorem dJ0_coder_7d493_7 : decode cJ0_coder_7d493 7 = .ok (.getfield 15, 3) := by decide +kernel
theorem dJ0_coder_7d493_10 : decode cJ0_coder_7d493 10 = .ok (.goto 4, 3) := by decide +kernel
theorem dJ0_coder_7d493_13 : decode cJ0_coder_7d493 13 = .ok (.iconst 1, 1) := by decide +kernel
theorem dJ0_coder_7d493_14 : decode cJ0_coder_7d493 14 = .ok (.ireturn, 1) := by decide +kernel
theorem dJ0_isLatin1_aae02_0 : decode cJ0_isLatin1_aae02 0 = .ok (.getstatic 38, 3) := by decide +kernel
theorem dJ0_isLatin1_aae02_3 : decode cJ0_isLatin1_aae02 3 = .ok (.ifCond .eq 14, 3) := by decide +kernel
theorem dJ0_isLatin1_aae02_6 : decode cJ0_isLatin1_aae02 6 = .ok (.aload_n 0, 1) := by decide +kernel
theorem dJ0_isLatin1_aae02_7 : decode cJ0_isLatin1_aae02 7 = .ok (.getfield 15, 3) := by decide +kernel
theorem dJ0_isLatin1_aae02_10 : decode cJ0_isLatin1_aae02 10 = .ok (.ifCond .ne 7, 3) := by decide +kernel
theorem dJ0_isLatin1_aae02_13 : decode cJ0_isLatin1_aae02 13 = .ok (.iconst 1, 1) := by decide +kernel
theorem dJ0_isLatin1_aae02_14 : decode cJ0_isLatin1_aae02 14 = .ok (.goto 4, 3) := by decide +kernel
theorem dJ0_isLatin1_aae02_17 : decode cJ0_isLatin1_aae02 17 = .ok (.iconst 0, 1) := by decide +kernel
theorem dJ0_isLatin1_aae02_18 : decode cJ0_isLatin1_aae02 18 = .ok (.ireturn, 1) := by decide +kernel
theorem dJ0_checkIndex_df160_0 : decode cJ0_checkIndex_df160 0 = .ok (.iload_n 0, 1) := by decide +kernel
theorem dJ0_checkIndex_df160_1 : decode cJ0_checkIndex_df160 1 = .ok (.iload_n 1, 1) := by decide +kernel
theorem dJ0_checkIndex_df160_2 : decode cJ0_checkIndex_df160 2 = .ok (.getstatic 1053, 3) := by decide +kernel
theorem dJ0_checkIndex_df160_5 : decode cJ0_checkIndex_df160 5 = .ok (.invokestatic 1059, 3) := by decide +kernel
theorem dJ0_checkIndex_df160_8 : decode cJ0_checkIndex_df160 8 = .ok (.pop, 1) := by decide +kernel
theorem dJ0_checkIndex_df160_9 : decode cJ0_checkIndex_df160 9 = .ok (.return_, 1) := by decide +kernel
theorem dJ0_checkBoundsOffCount_cabcc_0 : decode cJ0_checkBoundsOffCount_cabcc 0 = .ok (.iload_n 0, 1) := by decide +kernel
theorem dJ0_checkBoundsOffCount_cabcc_1 : decode cJ0_checkBoundsOffCount_cabcc 1 = .ok (.iload_n 1, 1) := by decide +kernel
theorem dJ0_checkBoundsOffCount_cabcc_2 : decode cJ0_checkBoundsOffCount_cabcc 2 = .ok (.iload_n 2, 1) := by decide +kernel
theorem dJ0_checkBoundsOffCount_cabcc_3 : decode cJ0_checkBoundsOffCount_cabcc 3 = .ok (.getstatic 1053, 3) := by decide +kernel
theorem dJ0_checkBoundsOffCount_cabcc_6 : decode cJ0_checkBoundsOffCount_cabcc 6 = .ok (.invokestatic 1065, 3) := by decide +kernel
theorem dJ0_checkBoundsOffCount_cabcc_9 : decode cJ0_checkBoundsOffCount_cabcc 9 = .ok (.ireturn, 1) := by decide +kernel
theorem dJ0_checkBoundsBeginEnd_23922_0 : decode cJ0_checkBoundsBeginEnd_23922 0 = .ok (.iload_n 0, 1) := by decide +kernel
theorem dJ0_checkBoundsBeginEnd_23922_1 : decode cJ0_checkBoundsBeginEnd_23922 1 = .ok (.iload_n 1, 1) := by decide +kernel
theorem dJ0_checkBoundsBeginEnd_23922_2 : decode cJ0_checkBoundsBeginEnd_23922 2 = .ok (.iload_n 2, 1) := by decide +kernel
theorem dJ0_checkBoundsBeginEnd_23922_3 : decode cJ0_checkBoundsBeginEnd_23922 3 = .ok (.getstatic 1053, 3) := by decide +kernel
theorem dJ0_checkBoundsBeginEnd_23922_6 : decode cJ0_checkBoundsBeginEnd_23922 6 = .ok (.invokestatic 1062, 3) := by decide +kernel
theorem dJ0_checkBoundsBeginEnd_23922_9 : decode cJ0_checkBoundsBeginEnd_23922 9 = .ok (.pop, 1) := by decide +kernel
theorem dJ0_checkBoundsBeginEnd_23922_10 : decode cJ0_checkBoundsBeginEnd_23922 10 = .ok (.return_, 1) := by decide +kernel
theorem dJ4_init_da8c8_0 : decode cJ4_init_da8c8 0 = .ok (.aload_n 0, 1) := by decide +kernel
theorem dJ4_init_da8c8_1 : decode cJ4_init_da8c8 1 = .ok (.bipush 16, 2) := by decide +kernel
theorem dJ4_init_da8c8_3 : decode cJ4_init_da8c8 3 = .ok (.invokespecial 1, 3) := by decide +kernel
theorem dJ4_init_da8c8_6 : decode cJ4_init_da8c8 6 = .ok (.return_, 1) := by decide +kernel
theorem dJ4_append_15ec4_0 : decode cJ4_append_15ec4 0 = .ok (.aload_n 0, 1) := by decide +kernel
theorem dJ4_append_15ec4_1 : decode cJ4_append_15ec4 1 = .ok (.aload_n 1, 1) := by decide +kernel
theorem dJ4_append_15ec4_2 : decode cJ4_append_15ec4 2 = .ok (.invokespecial 29, 3) := by decide +kernel
theorem dJ4_append_15ec4_5 : decode cJ4_append_15ec4 5 = .ok (.pop, 1) := by decide +kernel
theorem dJ4_append_15ec4_6 : decode cJ4_append_15ec4 6 = .ok (.aload_n 0, 1) := by decide +kernel
theorem dJ4_append_15ec4_7 : decode cJ4_append_15ec4 7 = .ok (.areturn, 1) := by decide +kernel
theorem dJ4_append_cf468_0 : decode cJ4_append_cf468 0 = .ok (.aload_n 0, 1) := by decide +kernel
theorem dJ4_append_cf468_1 : decode cJ4_append_cf468 1 = .ok (.iload_n 1, 1) := by decide +kernel
theorem dJ4_append_cf468_2 : decode cJ4_append_cf468 2 = .ok (.invokespecial 50, 3) := by decide +kernel
theorem dJ4_append_cf468_5 : decode cJ4_append_cf468 5 = .ok (.pop, 1) := by decide +kernel
theorem dJ4_append_cf468_6 : decode cJ4_append_cf468 6 = .ok (.aload_n 0, 1) := by decide +kernel
theorem dJ4_append_cf468_7 : decode cJ4_append_cf468 7 = .ok (.areturn, 1) := by decide +kernel
theorem dJ4_append_bf812_0 : decode cJ4_append_bf812 0 = .ok (.aload_n 0, 1) := by decide +kernel
theorem dJ4_append_bf812_1 : decode cJ4_append_bf812 1 = .ok (.iload_n 1, 1) := by decide +kernel
theorem dJ4_append_bf812_2 : decode cJ4_append_bf812 2 = .ok (.invokespecial 53, 3) := by decide +kernel
theorem dJ4_append_bf812_5 : decode cJ4_append_bf812 5 = .ok (.pop, 1) := by decide +kernel
theorem dJ4_append_bf812_6 : decode cJ4_append_bf812 6 = .ok (.aload_n 0, 1) := by decide +kernel
theorem dJ4_append_bf812_7 : decode cJ4_append_bf812 7 = .ok (.areturn, 1) := by decide +kernel
theorem dJ4_toString_0e30d_0 : decode cJ4_toString_0e30d 0 = .ok (.new 18, 3) := by decide +kernel
theorem dJ4_toString_0e30d_3 : decode cJ4_toString_0e30d 3 = .ok (.dup, 1) := by decide +kernel
theorem dJ4_toString_0e30d_4 : decode cJ4_toString_0e30d 4 = .ok (.aload_n 0, 1) := by decide +kernel
theorem dJ4_toString_0e30d_5 : decode cJ4_toString_0e30d 5 = .ok (.invokespecial 137, 3) := by decide +kernel
theorem dJ4_toString_0e30d_8 : decode cJ4_toString_0e30d 8 = .ok (.areturn, 1) := by decide +kernel
theorem dJ4_length_8abf5_0 : decode cJ4_length_8abf5 0 = .ok (.aload_n 0, 1) := by decide +kernel
theorem dJ4_length_8abf5_1 : decode cJ4_length_8abf5 1 = .ok (.invokespecial 343, 3) := by decide +kernel
theorem dJ4_length_8abf5_4 : decode cJ4_length_8abf5 4 = .ok (.ireturn, 1) := by decide +kernel
theorem dJ1_charAt_3b067_0 : decode cJ1_charAt_3b067 0 = .ok (.iload_n 1, 1) := by decide +kernel
theorem dJ1_charAt_3b067_1 : decode cJ1_charAt_3b067 1 = .ok (.aload_n 0, 1) := by decide +kernel
theorem dJ1_charAt_3b067_2 : decode cJ1_charAt_3b067 2 = .ok (.arraylength, 1) := by decide +kernel
theorem dJ1_charAt_3b067_3 : decode cJ1_charAt_3b067 3 = .ok (.invokestatic 9, 3) := by decide +kernel
theorem dJ1_charAt_3b067_6 : decode cJ1_charAt_3b067 6 = .ok (.aload_n 0, 1) := by decide +kernel
theorem dJ1_charAt_3b067_7 : decode cJ1_charAt_3b067 7 = .ok (.iload_n 1, 1) := by decide +kernel
theorem dJ1_charAt_3b067_8 : decode cJ1_charAt_3b067 8 = .ok (.baload, 1) := by decide +kernel
theorem dJ1_charAt_3b067_9 : decode cJ1_charAt_3b067 9 = .ok (.sipush 255, 3) := by decide +kernel
theorem dJ1_charAt_3b067_12 : decode cJ1_charAt_3b067 12 = .ok (.iand, 1) := by decide +kernel
theorem dJ1_charAt_3b067_13 : decode cJ1_charAt_3b067 13 = .ok (.i2c, 1) := by decide +kernel
theorem dJ1_charAt_3b067_14 : decode cJ1_charAt_3b067 14 = .ok (.ireturn, 1) := by decide +kernel
theorem dJ1_canEncode_fc78d_0 : decode cJ1_canEncode_fc78d 0 = .ok (.iload_n 0, 1) := by decide +kernel
theorem dJ1_canEncode_fc78d_1 : decode cJ1_canEncode_fc78d 1 = .ok (.sipush 255, 3) := by decide +kernel
theorem dJ1_canEncode_fc78d_4 : decode cJ1_canEncode_fc78d 4 = .ok (.if_icmp .gt 7, 3) := by decide +kernel
theorem dJ1_canEncode_fc78d_7 : decode cJ1_canEncode_fc78d 7 = .ok (.iconst 1, 1) := by decide +kernel
theorem dJ1_canEncode_fc78d_8 : decode cJ1_canEncode_fc78d 8 = .ok (.goto 4, 3) := by decide +kernel
theorem dJ1_canEncode_fc78d_11 : decode cJ1_canEncode_fc78d 11 = .ok (.iconst 0, 1) := by decide +kernel
theorem dJ1_canEncode_fc78d_12 : decode cJ1_canEncode_fc78d 12 = .ok (.ireturn, 1) := by decide +kernel
theorem dJ1_inflate_0e8fd_0 : decode cJ1_inflate_0e8fd 0 = .ok (.aload_n 0, 1) := by decide +kernel
theorem dJ1_inflate_0e8fd_1 : decode cJ1_inflate_0e8fd 1 = .ok (.iload_n 1, 1) := by decide +kernel
theorem dJ1_inflate_0e8fd_2 : decode cJ1_inflate_0e8fd 2 = .ok (.aload_n 2, 1) := by decide +kernel
theorem dJ1_inflate_0e8fd_3 : decode cJ1_inflate_0e8fd 3 = .ok (.iload_n 3, 1) := by decide +kernel
theorem dJ1_inflate_0e8fd_4 : decode cJ1_inflate_0e8fd 4 = .ok (.iload 4, 2) := by decide +kernel
theorem dJ1_inflate_0e8fd_6 : decode cJ1_inflate_0e8fd 6 = .ok (.invokestatic 240, 3) := by decide +kernel
theorem dJ1_inflate_0e8fd_9 : decode cJ1_inflate_0e8fd 9 = .ok (.return_, 1) := by decide +kernel
theorem dJ2_newBytesFor_77867_0 : decode cJ2_newBytesFor_77867 0 = .ok (.iload_n 0, 1) := by decide +kernel
theorem dJ2_newBytesFor_77867_1 : decode cJ2_newBytesFor_77867 1 = .ok (.invokestatic 11, 3) := by decide +kernel
theorem dJ2_newBytesFor_77867_4 : decode cJ2_newBytesFor_77867 4 = .ok (.newarray .byte, 2) := by decide +kernel
theorem dJ2_newBytesFor_77867_6 : decode cJ2_newBytesFor_77867 6 = .ok (.areturn, 1) := by decide +kernel
theorem dJ2_newBytesLength_0f7a4_0 : decode cJ2_newBytesLength_0f7a4 0 = .ok (.iload_n 0, 1) := by decide +kernel
theorem dJ2_newBytesLength_0f7a4_1 : decode cJ2_newBytesLength_0f7a4 1 = .ok (.ifCond .ge 11, 3) := by decide +kernel
theorem dJ2_newBytesLength_0f7a4_4 : decode cJ2_newBytesLength_0f7a4 4 = .ok (.new 17, 3) := by decide +kernel
theorem dJ2_newBytesLength_0f7a4_7 : decode cJ2_newBytesLength_0f7a4 7 = .ok (.dup, 1) := by decide +kernel
theorem dJ2_newBytesLength_0f7a4_8 : decode cJ2_newBytesLength_0f7a4 8 = .ok (.invokespecial 19, 3) := by decide +kernel
theorem dJ2_newBytesLength_0f7a4_11 : decode cJ2_newBytesLength_0f7a4 11 = .ok (.athrow, 1) := by decide +kernel
theorem dJ2_newBytesLength_0f7a4_12 : decode cJ2_newBytesLength_0f7a4 12 = .ok (.iload_n 0, 1) := by decide +kernel
theorem dJ2_newBytesLength_0f7a4_13 : decode cJ2_newBytesLength_0f7a4 13 = .ok (.ldc 20, 2) := by decide +kernel
theorem dJ2_newBytesLength_0f7a4_15 : decode cJ2_newBytesLength_0f7a4 15 = .ok (.if_icmp .lt 40, 3) := by decide +kernel
theorem dJ2_newBytesLength_0f7a4_18 : decode cJ2_newBytesLength_0f7a4 18 = .ok (.new 21, 3) := by decide +kernel
theorem dJ2_newBytesLength_0f7a4_21 : decode cJ2_newBytesLength_0f7a4 21 = .ok (.dup, 1) := by decide +kernel
theorem dJ2_newBytesLength_0f7a4_22 : decode cJ2_newBytesLength_0f7a4 22 = .ok (.new 23, 3) := by decide +kernel
theorem dJ2_newBytesLength_0f7a4_25 : decode cJ2_newBytesLength_0f7a4 25 = .ok (.dup, 1) := by decide +kernel
theorem dJ2_newBytesLength_0f7a4_26 : decode cJ2_newBytesLength_0f7a4 26 = .ok (.invokespecial 25, 3) := by decide +kernel
theorem dJ2_newBytesLength_0f7a4_29 : decode cJ2_newBytesLength_0f7a4 29 = .ok (.ldc 26, 2) := by decide +kernel
theorem dJ2_newBytesLength_0f7a4_31 : decode cJ2_newBytesLength_0f7a4 31 = .ok (.invokevirtual 28, 3) := by decide +kernel
theorem dJ2_newBytesLength_0f7a4_34 : decode cJ2_newBytesLength_0f7a4 34 = .ok (.iload_n 0, 1) := by decide +kernel
theorem dJ2_newBytesLength_0f7a4_35 : decode cJ2_newBytesLength_0f7a4 35 = .ok (.invokevirtual 32, 3) := by decide +kernel
theorem dJ2_newBytesLength_0f7a4_38 : decode cJ2_newBytesLength_0f7a4 38 = .ok (.ldc 35, 2) := by decide +kernel
theorem dJ2_newBytesLength_0f7a4_40 : decode cJ2_newBytesLength_0f7a4 40 = .ok (.invokevirtual 28, 3) := by decide +kernel
theorem dJ2_newBytesLength_0f7a4_43 : decode cJ2_newBytesLength_0f7a4 43 = .ok (.ldc 20, 2) := by decide +kernel
theorem dJ2_newBytesLength_0f7a4_45 : decode cJ2_newBytesLength_0f7a4 45 = .ok (.invokevirtual 32, 3) := by decide +kernel
theorem dJ2_newBytesLength_0f7a4_48 : decode cJ2_newBytesLength_0f7a4 48 = .ok (.invokevirtual 37, 3) := by decide +kernel
theorem dJ2_newBytesLength_0f7a4_51 : decode cJ2_newBytesLength_0f7a4 51 = .ok (.invokespecial 41, 3) := by decide +kernel
theorem dJ2_newBytesLength_0f7a4_54 : decode cJ2_newBytesLength_0f7a4 54 = .ok (.athrow, 1) := by decide +kernel
theorem dJ2_newBytesLength_0f7a4_55 : decode cJ2_newBytesLength_0f7a4 55 = .ok (.iload_n 0, 1) := by decide +kernel
theorem dJ2_newBytesLength_0f7a4_56 : decode cJ2_newBytesLength_0f7a4 56 = .ok (.iconst 1, 1) := by decide +kernel
theorem dJ2_newBytesLength_0f7a4_57 : decode cJ2_newBytesLength_0f7a4 57 = .ok (.ishl, 1) := by decide +kernel
theorem dJ2_newBytesLength_0f7a4_58 : decode cJ2_newBytesLength_0f7a4 58 = .ok (.ireturn, 1) := by decide +kernel
theorem dJ2_putChar_b72d1_0 : decode cJ2_putChar_b72d1 0 = .ok (.getstatic 44, 3) := by decide +kernel
theorem dJ2_putChar_b72d1_3 : decode cJ2_putChar_b72d1 3 = .ok (.ifCond .ne 25, 3) := by decide +kernel
theorem dJ2_putChar_b72d1_6 : decode cJ2_putChar_b72d1 6 = .ok (.iload_n 1, 1) := by decide +kernel
theorem dJ2_putChar_b72d1_7 : decode cJ2_putChar_b72d1 7 = .ok (.ifCond .lt 11, 3) := by decide +kernel
theorem dJ2_putChar_b72d1_10 : decode cJ2_putChar_b72d1 10 = .ok (.iload_n 1, 1) := by decide +kernel
theorem dJ2_putChar_b72d1_11 : decode cJ2_putChar_b72d1 11 = .ok (.aload_n 0, 1) := by decide +kernel
theorem dJ2_putChar_b72d1_12 : decode cJ2_putChar_b72d1 12 = .ok (.invokestatic 48, 3) := by decide +kernel
theorem dJ2_putChar_b72d1_15 : decode cJ2_putChar_b72d1 15 = .ok (.if_icmp .lt 13, 3) := by decide +kernel
theorem dJ2_putChar_b72d1_18 : decode cJ2_putChar_b72d1 18 = .ok (.new 52, 3) := by decide +kernel
theorem dJ2_putChar_b72d1_21 : decode cJ2_putChar_b72d1 21 = .ok (.dup, 1) := by decide +kernel
theorem dJ2_putChar_b72d1_22 : decode cJ2_putChar_b72d1 22 = .ok (.ldc 54, 2) := by decide +kernel
theorem dJ2_putChar_b72d1_24 : decode cJ2_putChar_b72d1 24 = .ok (.invokespecial 56, 3) := by decide +kernel
theorem dJ2_putChar_b72d1_27 : decode cJ2_putChar_b72d1 27 = .ok (.athrow, 1) := by decide +kernel
theorem dJ2_putChar_b72d1_28 : decode cJ2_putChar_b72d1 28 = .ok (.iload_n 1, 1) := by decide +kernel
theorem dJ2_putChar_b72d1_29 : decode cJ2_putChar_b72d1 29 = .ok (.iconst 1, 1) := by decide +kernel
theorem dJ2_putChar_b72d1_30 : decode cJ2_putChar_b72d1 30 = .ok (.ishl, 1) := by decide +kernel
theorem dJ2_putChar_b72d1_31 : decode cJ2_putChar_b72d1 31 = .ok (.istore_n 1, 1) := by decide +kernel
theorem dJ2_putChar_b72d1_32 : decode cJ2_putChar_b72d1 32 = .ok (.aload_n 0, 1) := by decide +kernel
theorem dJ2_putChar_b72d1_33 : decode cJ2_putChar_b72d1 33 = .ok (.iload_n 1, 1) := by decide +kernel
theorem dJ2_putChar_b72d1_34 : decode cJ2_putChar_b72d1 34 = .ok (.iinc 1 1, 3) := by decide +kernel
theorem dJ2_putChar_b72d1_37 : decode cJ2_putChar_b72d1 37 = .ok (.iload_n 2, 1) := by decide +kernel
theorem dJ2_putChar_b72d1_38 : decode cJ2_putChar_b72d1 38 = .ok (.getstatic 59, 3) := by decide +kernel
theorem dJ2_putChar_b72d1_41 : decode cJ2_putChar_b72d1 41 = .ok (.ishr, 1) := by decide +kernel
theorem dJ2_putChar_b72d1_42 : decode cJ2_putChar_b72d1 42 = .ok (.i2b, 1) := by decide +kernel
theorem dJ2_putChar_b72d1_43 : decode cJ2_putChar_b72d1 43 = .ok (.bastore, 1) := by decide +kernel
theorem dJ2_putChar_b72d1_44 : decode cJ2_putChar_b72d1 44 = .ok (.aload_n 0, 1) := by decide +kernel
theorem dJ2_putChar_b72d1_45 : decode cJ2_putChar_b72d1 45 = .ok (.iload_n 1, 1) := by decide +kernel
theorem dJ2_putChar_b72d1_46 : decode cJ2_putChar_b72d1 46 = .ok (.iload_n 2, 1) := by decide +kernel
theorem dJ2_putChar_b72d1_47 : decode cJ2_putChar_b72d1 47 = .ok (.getstatic 63, 3) := by decide +kernel
theorem dJ2_putChar_b72d1_50 : decode cJ2_putChar_b72d1 50 = .ok (.ishr, 1) := by decide +kernel
theorem dJ2_putChar_b72d1_51 : decode cJ2_putChar_b72d1 51 = .ok (.i2b, 1) := by decide +kernel
theorem dJ2_putChar_b72d1_52 : decode cJ2_putChar_b72d1 52 = .ok (.bastore, 1) := by decide +kernel
theorem dJ2_putChar_b72d1_53 : decode cJ2_putChar_b72d1 53 = .ok (.return_, 1) := by decide +kernel
theorem dJ2_getChar_3b067_0 : decode cJ2_getChar_3b067 0 = .ok (.getstatic 44, 3) := by decide +kernel
theorem dJ2_getChar_3b067_3 : decode cJ2_getChar_3b067 3 = .ok (.ifCond .ne 25, 3) := by decide +kernel
theorem dJ2_getChar_3b067_6 : decode cJ2_getChar_3b067 6 = .ok (.iload_n 1, 1) := by decide +kernel
theorem dJ2_getChar_3b067_7 : decode cJ2_getChar_3b067 7 = .ok (.ifCond .lt 11, 3) := by decide +kernel
theorem dJ2_getChar_3b067_10 : decode cJ2_getChar_3b067 10 = .ok (.iload_n 1, 1) := by decide +kernel
theorem dJ2_getChar_3b067_11 : decode cJ2_getChar_3b067 11 = .ok (.aload_n 0, 1) := by decide +kernel
theorem dJ2_getChar_3b067_12 : decode cJ2_getChar_3b067 12 = .ok (.invokestatic 48, 3) := by decide +kernel
theorem dJ2_getChar_3b067_15 : decode cJ2_getChar_3b067 15 = .ok (.if_icmp .lt 13, 3) := by decide +kernel
theorem dJ2_getChar_3b067_18 : decode cJ2_getChar_3b067 18 = .ok (.new 52, 3) := by decide +kernel
theorem dJ2_getChar_3b067_21 : decode cJ2_getChar_3b067 21 = .ok (.dup, 1) := by decide +kernel
theorem dJ2_getChar_3b067_22 : decode cJ2_getChar_3b067 22 = .ok (.ldc 54, 2) := by decide +kernel
theorem dJ2_getChar_3b067_24 : decode cJ2_getChar_3b067 24 = .ok (.invokespecial 56, 3) := by decide +kernel
theorem dJ2_getChar_3b067_27 : decode cJ2_getChar_3b067 27 = .ok (.athrow, 1) := by decide +kernel
theorem dJ2_getChar_3b067_28 : decode cJ2_getChar_3b067 28 = .ok (.iload_n 1, 1) := by decide +kernel
theorem dJ2_getChar_3b067_29 : decode cJ2_getChar_3b067 29 = .ok (.iconst 1, 1) := by decide +kernel
theorem dJ2_getChar_3b067_30 : decode cJ2_getChar_3b067 30 = .ok (.ishl, 1) := by decide +kernel
theorem dJ2_getChar_3b067_31 : decode cJ2_getChar_3b067 31 = .ok (.istore_n 1, 1) := by decide +kernel
theorem dJ2_getChar_3b067_32 : decode cJ2_getChar_3b067 32 = .ok (.aload_n 0, 1) := by decide +kernel
theorem dJ2_getChar_3b067_33 : decode cJ2_getChar_3b067 33 = .ok (.iload_n 1, 1) := by decide +kernel
theorem dJ2_getChar_3b067_34 : decode cJ2_getChar_3b067 34 = .ok (.iinc 1 1, 3) := by decide +kernel
theorem dJ2_getChar_3b067_37 : decode cJ2_getChar_3b067 37 = .ok (.baload, 1) := by decide +kernel
theorem dJ2_getChar_3b067_38 : decode cJ2_getChar_3b067 38 = .ok (.sipush 255, 3) := by decide +kernel
theorem dJ2_getChar_3b067_41 : decode cJ2_getChar_3b067 41 = .ok (.iand, 1) := by decide +kernel
theorem dJ2_getChar_3b067_42 : decode cJ2_getChar_3b067 42 = .ok (.getstatic 59, 3) := by decide +kernel
theorem dJ2_getChar_3b067_45 : decode cJ2_getChar_3b067 45 = .ok (.ishl, 1) := by decide +kernel
theorem dJ2_getChar_3b067_46 : decode cJ2_getChar_3b067 46 = .ok (.aload_n 0, 1) := by decide +kernel
theorem dJ2_getChar_3b067_47 : decode cJ2_getChar_3b067 47 = .ok (.iload_n 1, 1) := by decide +kernel
theorem dJ2_getChar_3b067_48 : decode cJ2_getChar_3b067 48 = .ok (.baload, 1) := by decide +kernel
theorem dJ2_getChar_3b067_49 : decode cJ2_getChar_3b067 49 = .ok (.sipush 255, 3) := by decide +kernel
theorem dJ2_getChar_3b067_52 : decode cJ2_getChar_3b067 52 = .ok (.iand, 1) := by decide +kernel
theorem dJ2_getChar_3b067_53 : decode cJ2_getChar_3b067 53 = .ok (.getstatic 63, 3) := by decide +kernel
theorem dJ2_getChar_3b067_56 : decode cJ2_getChar_3b067 56 = .ok (.ishl, 1) := by decide +kernel
theorem dJ2_getChar_3b067_57 : decode cJ2_getChar_3b067 57 = .ok (.ior, 1) := by decide +kernel
theorem dJ2_getChar_3b067_58 : decode cJ2_getChar_3b067 58 = .ok (.i2c, 1) := by decide +kernel
theorem dJ2_getChar_3b067_59 : decode cJ2_getChar_3b067 59 = .ok (.ireturn, 1) := by decide +kernel
theorem dJ2_length_9d52b_0 : decode cJ2_length_9d52b 0 = .ok (.aload_n 0, 1) := by decide +kernel
theorem dJ2_length_9d52b_1 : decode cJ2_length_9d52b 1 = .ok (.arraylength, 1) := by decide +kernel
theorem dJ2_length_9d52b_2 : decode cJ2_length_9d52b 2 = .ok (.iconst 1, 1) := by decide +kernel
theorem dJ2_length_9d52b_3 : decode cJ2_length_9d52b 3 = .ok (.ishr, 1) := by decide +kernel
theorem dJ2_length_9d52b_4 : decode cJ2_length_9d52b 4 = .ok (.ireturn, 1) := by decide +kernel
theorem dJ2_coderFromArrayLen_85cad_0 : decode cJ2_coderFromArrayLen_85cad 0 = .ok (.iload_n 1, 1) := by decide +kernel
theorem dJ2_coderFromArrayLen_85cad_1 : decode cJ2_coderFromArrayLen_85cad 1 = .ok (.aload_n 0, 1) := by decide +kernel
theorem dJ2_coderFromArrayLen_85cad_2 : decode cJ2_coderFromArrayLen_85cad 2 = .ok (.arraylength, 1) := by decide +kernel
theorem dJ2_coderFromArrayLen_85cad_3 : decode cJ2_coderFromArrayLen_85cad 3 = .ok (.isub, 1) := by decide +kernel
theorem dJ2_coderFromArrayLen_85cad_4 : decode cJ2_coderFromArrayLen_85cad 4 = .ok (.bipush 31, 2) := by decide +kernel
theorem dJ2_coderFromArrayLen_85cad_6 : decode cJ2_coderFromArrayLen_85cad 6 = .ok (.iushr, 1) := by decide +kernel
theorem dJ2_coderFromArrayLen_85cad_7 : decode cJ2_coderFromArrayLen_85cad 7 = .ok (.i2b, 1) := by decide +kernel
theorem dJ2_coderFromArrayLen_85cad_8 : decode cJ2_coderFromArrayLen_85cad 8 = .ok (.ireturn, 1) := by decide +kernel
theorem dJ2_compress_39247_0 : decode cJ2_compress_39247 0 = .ok (.iload_n 2, 1) := by decide +kernel
theorem dJ2_compress_39247_1 : decode cJ2_compress_39247 1 = .ok (.newarray .byte, 2) := by decide +kernel
theorem dJ2_compress_39247_3 : decode cJ2_compress_39247 3 = .ok (.astore_n 3, 1) := by decide +kernel
theorem dJ2_compress_39247_4 : decode cJ2_compress_39247 4 = .ok (.aload_n 0, 1) := by decide +kernel
theorem dJ2_compress_39247_5 : decode cJ2_compress_39247 5 = .ok (.iload_n 1, 1) := by decide +kernel
theorem dJ2_compress_39247_6 : decode cJ2_compress_39247 6 = .ok (.aload_n 3, 1) := by decide +kernel
theorem dJ2_compress_39247_7 : decode cJ2_compress_39247 7 = .ok (.iconst 0, 1) := by decide +kernel
theorem dJ2_compress_39247_8 : decode cJ2_compress_39247 8 = .ok (.iload_n 2, 1) := by decide +kernel
theorem dJ2_compress_39247_9 : decode cJ2_compress_39247 9 = .ok (.invokestatic 123, 3) := by decide +kernel
theorem dJ2_compress_39247_12 : decode cJ2_compress_39247 12 = .ok (.istore 4, 2) := by decide +kernel
theorem dJ2_compress_39247_14 : decode cJ2_compress_39247 14 = .ok (.iload 4, 2) := by decide +kernel
theorem dJ2_compress_39247_16 : decode cJ2_compress_39247 16 = .ok (.iload_n 2, 1) := by decide +kernel
theorem dJ2_compress_39247_17 : decode cJ2_compress_39247 17 = .ok (.if_icmp .eq 47, 3) := by decide +kernel
theorem dJ2_compress_39247_20 : decode cJ2_compress_39247 20 = .ok (.aload_n 0, 1) := by decide +kernel
theorem dJ2_compress_39247_21 : decode cJ2_compress_39247 21 = .ok (.iload_n 1, 1) := by decide +kernel
theorem dJ2_compress_39247_22 : decode cJ2_compress_39247 22 = .ok (.iconst 1, 1) := by decide +kernel
theorem dJ2_compress_39247_23 : decode cJ2_compress_39247 23 = .ok (.ishl, 1) := by decide +kernel
theorem dJ2_compress_39247_24 : decode cJ2_compress_39247 24 = .ok (.iload_n 1, 1) := by decide +kernel
theorem dJ2_compress_39247_25 : decode cJ2_compress_39247 25 = .ok (.iload_n 2, 1) := by decide +kernel
theorem dJ2_compress_39247_26 : decode cJ2_compress_39247 26 = .ok (.iadd, 1) := by decide +kernel
theorem dJ2_compress_39247_27 : decode cJ2_compress_39247 27 = .ok (.invokestatic 11, 3) := by decide +kernel
theorem dJ2_compress_39247_30 : decode cJ2_compress_39247 30 = .ok (.invokestatic 126, 3) := by decide +kernel
theorem dJ2_compress_39247_33 : decode cJ2_compress_39247 33 = .ok (.astore 5, 2) := by decide +kernel
theorem dJ2_compress_39247_35 : decode cJ2_compress_39247 35 = .ok (.aload 5, 2) := by decide +kernel
theorem dJ2_compress_39247_37 : decode cJ2_compress_39247 37 = .ok (.iload 4, 2) := by decide +kernel
theorem dJ2_compress_39247_39 : decode cJ2_compress_39247 39 = .ok (.invokestatic 71, 3) := by decide +kernel
theorem dJ2_compress_39247_42 : decode cJ2_compress_39247 42 = .ok (.sipush 255, 3) := by decide +kernel
theorem dJ2_compress_39247_45 : decode cJ2_compress_39247 45 = .ok (.if_icmp .gt 16, 3) := by decide +kernel
theorem dJ2_compress_39247_48 : decode cJ2_compress_39247 48 = .ok (.aload 5, 2) := by decide +kernel
theorem dJ2_compress_39247_50 : decode cJ2_compress_39247 50 = .ok (.iconst 0, 1) := by decide +kernel
theorem dJ2_compress_39247_51 : decode cJ2_compress_39247 51 = .ok (.aload_n 3, 1) := by decide +kernel
theorem dJ2_compress_39247_52 : decode cJ2_compress_39247 52 = .ok (.iconst 0, 1) := by decide +kernel
theorem dJ2_compress_39247_53 : decode cJ2_compress_39247 53 = .ok (.iload_n 2, 1) := by decide +kernel
theorem dJ2_compress_39247_54 : decode cJ2_compress_39247 54 = .ok (.invokestatic 123, 3) := by decide +kernel
theorem dJ2_compress_39247_57 : decode cJ2_compress_39247 57 = .ok (.iload_n 2, 1) := by decide +kernel
theorem dJ2_compress_39247_58 : decode cJ2_compress_39247 58 = .ok (.if_icmp .eq 6, 3) := by decide +kernel
theorem dJ2_compress_39247_61 : decode cJ2_compress_39247 61 = .ok (.aload 5, 2) := by decide +kernel
theorem dJ2_compress_39247_63 : decode cJ2_compress_39247 63 = .ok (.areturn, 1) := by decide +kernel
theorem dJ2_compress_39247_64 : decode cJ2_compress_39247 64 = .ok (.aload_n 3, 1) := by decide +kernel
theorem dJ2_compress_39247_65 : decode cJ2_compress_39247 65 = .ok (.areturn, 1) := by decide +kernel
theorem dJ2_compress_5af95_0 : decode cJ2_compress_5af95 0 = .ok (.iload_n 1, 1) := by decide +kernel
theorem dJ2_compress_5af95_1 : decode cJ2_compress_5af95 1 = .ok (.iload 4, 2) := by decide +kernel
theorem dJ2_compress_5af95_3 : decode cJ2_compress_5af95 3 = .ok (.aload_n 0, 1) := by decide +kernel
theorem dJ2_compress_5af95_4 : decode cJ2_compress_5af95 4 = .ok (.invokestatic 173, 3) := by decide +kernel
theorem dJ2_compress_5af95_7 : decode cJ2_compress_5af95 7 = .ok (.iconst 0, 1) := by decide +kernel
theorem dJ2_compress_5af95_8 : decode cJ2_compress_5af95 8 = .ok (.istore 5, 2) := by decide +kernel
theorem dJ2_compress_5af95_10 : decode cJ2_compress_5af95 10 = .ok (.iload 5, 2) := by decide +kernel
theorem dJ2_compress_5af95_12 : decode cJ2_compress_5af95 12 = .ok (.iload 4, 2) := by decide +kernel
theorem dJ2_compress_5af95_14 : decode cJ2_compress_5af95 14 = .ok (.if_icmp .ge 39, 3) := by decide +kernel
theorem dJ2_compress_5af95_17 : decode cJ2_compress_5af95 17 = .ok (.aload_n 0, 1) := by decide +kernel
theorem dJ2_compress_5af95_18 : decode cJ2_compress_5af95 18 = .ok (.iload_n 1, 1) := by decide +kernel
theorem dJ2_compress_5af95_19 : decode cJ2_compress_5af95 19 = .ok (.invokestatic 71, 3) := by decide +kernel
theorem dJ2_compress_5af95_22 : decode cJ2_compress_5af95 22 = .ok (.istore 6, 2) := by decide +kernel
theorem dJ2_compress_5af95_24 : decode cJ2_compress_5af95 24 = .ok (.iload 6, 2) := by decide +kernel
theorem dJ2_compress_5af95_26 : decode cJ2_compress_5af95 26 = .ok (.sipush 255, 3) := by decide +kernel
theorem dJ2_compress_5af95_29 : decode cJ2_compress_5af95 29 = .ok (.if_icmp .le 6, 3) := by decide +kernel
theorem dJ2_compress_5af95_32 : decode cJ2_compress_5af95 32 = .ok (.iload 5, 2) := by decide +kernel
theorem dJ2_compress_5af95_34 : decode cJ2_compress_5af95 34 = .ok (.ireturn, 1) := by decide +kernel
theorem dJ2_compress_5af95_35 : decode cJ2_compress_5af95 35 = .ok (.aload_n 2, 1) := by decide +kernel
theorem dJ2_compress_5af95_36 : decode cJ2_compress_5af95 36 = .ok (.iload_n 3, 1) := by decide +kernel
theorem dJ2_compress_5af95_37 : decode cJ2_compress_5af95 37 = .ok (.iload 6, 2) := by decide +kernel
theorem dJ2_compress_5af95_39 : decode cJ2_compress_5af95 39 = .ok (.i2b, 1) := by decide +kernel
theorem dJ2_compress_5af95_40 : decode cJ2_compress_5af95 40 = .ok (.bastore, 1) := by decide +kernel
theorem dJ2_compress_5af95_41 : decode cJ2_compress_5af95 41 = .ok (.iinc 1 1, 3) := by decide +kernel
theorem dJ2_compress_5af95_44 : decode cJ2_compress_5af95 44 = .ok (.iinc 3 1, 3) := by decide +kernel
theorem dJ2_compress_5af95_47 : decode cJ2_compress_5af95 47 = .ok (.iinc 5 1, 3) := by decide +kernel
theorem dJ2_compress_5af95_50 : decode cJ2_compress_5af95 50 = .ok (.goto (-40), 3) := by decide +kernel
theorem dJ2_compress_5af95_53 : decode cJ2_compress_5af95 53 = .ok (.iload 4, 2) := by decide +kernel
theorem dJ2_compress_5af95_55 : decode cJ2_compress_5af95 55 = .ok (.ireturn, 1) := by decide +kernel
theorem dJ2_putCharSB_b72d1_0 : decode cJ2_putCharSB_b72d1 0 = .ok (.iload_n 1, 1) := by decide +kernel
theorem dJ2_putCharSB_b72d1_1 : decode cJ2_putCharSB_b72d1 1 = .ok (.aload_n 0, 1) := by decide +kernel
theorem dJ2_putCharSB_b72d1_2 : decode cJ2_putCharSB_b72d1 2 = .ok (.invokestatic 67, 3) := by decide +kernel
theorem dJ2_putCharSB_b72d1_5 : decode cJ2_putCharSB_b72d1 5 = .ok (.aload_n 0, 1) := by decide +kernel
theorem dJ2_putCharSB_b72d1_6 : decode cJ2_putCharSB_b72d1 6 = .ok (.iload_n 1, 1) := by decide +kernel
theorem dJ2_putCharSB_b72d1_7 : decode cJ2_putCharSB_b72d1 7 = .ok (.iload_n 2, 1) := by decide +kernel
theorem dJ2_putCharSB_b72d1_8 : decode cJ2_putCharSB_b72d1 8 = .ok (.invokestatic 111, 3) := by decide +kernel
theorem dJ2_putCharSB_b72d1_11 : decode cJ2_putCharSB_b72d1 11 = .ok (.return_, 1) := by decide +kernel
theorem dJ2_getChars_46870_0 : decode cJ2_getChars_46870 0 = .ok (.iload_n 1, 1) := by decide +kernel
theorem dJ2_getChars_46870_1 : decode cJ2_getChars_46870 1 = .ok (.iload_n 2, 1) := by decide +kernel
theorem dJ2_getChars_46870_2 : decode cJ2_getChars_46870 2 = .ok (.aload_n 3, 1) := by decide +kernel
theorem dJ2_getChars_46870_3 : decode cJ2_getChars_46870 3 = .ok (.invokestatic 96, 3) := by decide +kernel
theorem dJ2_getChars_46870_6 : decode cJ2_getChars_46870 6 = .ok (.iload_n 0, 1) := by decide +kernel
theorem dJ2_getChars_46870_7 : decode cJ2_getChars_46870 7 = .ok (.iload_n 2, 1) := by decide +kernel
theorem dJ2_getChars_46870_8 : decode cJ2_getChars_46870 8 = .ok (.aload_n 3, 1) := by decide +kernel
theorem dJ2_getChars_46870_9 : decode cJ2_getChars_46870 9 = .ok (.invokestatic 393, 3) := by decide +kernel
theorem dJ2_getChars_46870_12 : decode cJ2_getChars_46870 12 = .ok (.istore 4, 2) := by decide +kernel
theorem dJ2_getChars_46870_14 : decode cJ2_getChars_46870 14 = .ok (.getstatic 44, 3) := by decide +kernel
theorem dJ2_getChars_46870_17 : decode cJ2_getChars_46870 17 = .ok (.ifCond .ne 17, 3) := by decide +kernel
theorem dJ2_getChars_46870_20 : decode cJ2_getChars_46870 20 = .ok (.iload_n 1, 1) := by decide +kernel
theorem dJ2_getChars_46870_21 : decode cJ2_getChars_46870 21 = .ok (.iload 4, 2) := by decide +kernel
theorem dJ2_getChars_46870_23 : decode cJ2_getChars_46870 23 = .ok (.if_icmp .eq 11, 3) := by decide +kernel
theorem dJ2_getChars_46870_26 : decode cJ2_getChars_46870 26 = .ok (.new 52, 3) := by decide +kernel
theorem dJ2_getChars_46870_29 : decode cJ2_getChars_46870 29 = .ok (.dup, 1) := by decide +kernel
theorem dJ2_getChars_46870_30 : decode cJ2_getChars_46870 30 = .ok (.invokespecial 66, 3) := by decide +kernel
theorem dJ2_getChars_46870_33 : decode cJ2_getChars_46870 33 = .ok (.athrow, 1) := by decide +kernel
theorem dJ2_getChars_46870_34 : decode cJ2_getChars_46870 34 = .ok (.iload 4, 2) := by decide +kernel
theorem dJ2_getChars_46870_36 : decode cJ2_getChars_46870 36 = .ok (.ireturn, 1) := by decide +kernel
theorem dJ2_putCharsAt_cd4e5_0 : decode cJ2_putCharsAt_cd4e5 0 = .ok (.iload_n 1, 1) := by decide +kernel
theorem dJ2_putCharsAt_cd4e5_1 : decode cJ2_putCharsAt_cd4e5 1 = .ok (.iconst 4, 1) := by decide +kernel
theorem dJ2_putCharsAt_cd4e5_2 : decode cJ2_putCharsAt_cd4e5 2 = .ok (.iadd, 1) := by decide +kernel
theorem dJ2_putCharsAt_cd4e5_3 : decode cJ2_putCharsAt_cd4e5 3 = .ok (.istore 6, 2) := by decide +kernel
theorem dJ2_putCharsAt_cd4e5_5 : decode cJ2_putCharsAt_cd4e5 5 = .ok (.iload_n 1, 1) := by decide +kernel
theorem dJ2_putCharsAt_cd4e5_6 : decode cJ2_putCharsAt_cd4e5 6 = .ok (.iload 6, 2) := by decide +kernel
theorem dJ2_putCharsAt_cd4e5_8 : decode cJ2_putCharsAt_cd4e5 8 = .ok (.aload_n 0, 1) := by decide +kernel
theorem dJ2_putCharsAt_cd4e5_9 : decode cJ2_putCharsAt_cd4e5 9 = .ok (.invokestatic 96, 3) := by decide +kernel
theorem dJ2_putCharsAt_cd4e5_12 : decode cJ2_putCharsAt_cd4e5 12 = .ok (.aload_n 0, 1) := by decide +kernel
theorem dJ2_putCharsAt_cd4e5_13 : decode cJ2_putCharsAt_cd4e5 13 = .ok (.iload_n 1, 1) := by decide +kernel
theorem dJ2_putCharsAt_cd4e5_14 : decode cJ2_putCharsAt_cd4e5 14 = .ok (.iinc 1 1, 3) := by decide +kernel
theorem dJ2_putCharsAt_cd4e5_17 : decode cJ2_putCharsAt_cd4e5 17 = .ok (.iload_n 2, 1) := by decide +kernel
theorem dJ2_putCharsAt_cd4e5_18 : decode cJ2_putCharsAt_cd4e5 18 = .ok (.invokestatic 111, 3) := by decide +kernel
theorem dJ2_putCharsAt_cd4e5_21 : decode cJ2_putCharsAt_cd4e5 21 = .ok (.aload_n 0, 1) := by decide +kernel
theorem dJ2_putCharsAt_cd4e5_22 : decode cJ2_putCharsAt_cd4e5 22 = .ok (.iload_n 1, 1) := by decide +kernel
theorem dJ2_putCharsAt_cd4e5_23 : decode cJ2_putCharsAt_cd4e5 23 = .ok (.iinc 1 1, 3) := by decide +kernel
theorem dJ2_putCharsAt_cd4e5_26 : decode cJ2_putCharsAt_cd4e5 26 = .ok (.iload_n 3, 1) := by decide +kernel
theorem dJ2_putCharsAt_cd4e5_27 : decode cJ2_putCharsAt_cd4e5 27 = .ok (.invokestatic 111, 3) := by decide +kernel
theorem dJ2_putCharsAt_cd4e5_30 : decode cJ2_putCharsAt_cd4e5 30 = .ok (.aload_n 0, 1) := by decide +kernel
theorem dJ2_putCharsAt_cd4e5_31 : decode cJ2_putCharsAt_cd4e5 31 = .ok (.iload_n 1, 1) := by decide +kernel
theorem dJ2_putCharsAt_cd4e5_32 : decode cJ2_putCharsAt_cd4e5 32 = .ok (.iinc 1 1, 3) := by decide +kernel
theorem dJ2_putCharsAt_cd4e5_35 : decode cJ2_putCharsAt_cd4e5 35 = .ok (.iload 4, 2) := by decide +kernel
theorem dJ2_putCharsAt_cd4e5_37 : decode cJ2_putCharsAt_cd4e5 37 = .ok (.invokestatic 111, 3) := by decide +kernel
theorem dJ2_putCharsAt_cd4e5_40 : decode cJ2_putCharsAt_cd4e5 40 = .ok (.aload_n 0, 1) := by decide +kernel
theorem dJ2_putCharsAt_cd4e5_41 : decode cJ2_putCharsAt_cd4e5 41 = .ok (.iload_n 1, 1) := by decide +kernel
theorem dJ2_putCharsAt_cd4e5_42 : decode cJ2_putCharsAt_cd4e5 42 = .ok (.iinc 1 1, 3) := by decide +kernel
theorem dJ2_putCharsAt_cd4e5_45 : decode cJ2_putCharsAt_cd4e5 45 = .ok (.iload 5, 2) := by decide +kernel
theorem dJ2_putCharsAt_cd4e5_47 : decode cJ2_putCharsAt_cd4e5 47 = .ok (.invokestatic 111, 3) := by decide +kernel
theorem dJ2_putCharsAt_cd4e5_50 : decode cJ2_putCharsAt_cd4e5 50 = .ok (.getstatic 44, 3) := by decide +kernel
theorem dJ2_putCharsAt_cd4e5_53 : decode cJ2_putCharsAt_cd4e5 53 = .ok (.ifCond .ne 17, 3) := by decide +kernel
theorem dJ2_putCharsAt_cd4e5_56 : decode cJ2_putCharsAt_cd4e5 56 = .ok (.iload_n 1, 1) := by decide +kernel
theorem dJ2_putCharsAt_cd4e5_57 : decode cJ2_putCharsAt_cd4e5 57 = .ok (.iload 6, 2) := by decide +kernel
theorem dJ2_putCharsAt_cd4e5_59 : decode cJ2_putCharsAt_cd4e5 59 = .ok (.if_icmp .eq 11, 3) := by decide +kernel
theorem dJ2_putCharsAt_cd4e5_62 : decode cJ2_putCharsAt_cd4e5 62 = .ok (.new 52, 3) := by decide +kernel
theorem dJ2_putCharsAt_cd4e5_65 : decode cJ2_putCharsAt_cd4e5 65 = .ok (.dup, 1) := by decide +kernel
theorem dJ2_putCharsAt_cd4e5_66 : decode cJ2_putCharsAt_cd4e5 66 = .ok (.invokespecial 66, 3) := by decide +kernel
theorem dJ2_putCharsAt_cd4e5_69 : decode cJ2_putCharsAt_cd4e5 69 = .ok (.athrow, 1) := by decide +kernel
theorem dJ2_putCharsAt_cd4e5_70 : decode cJ2_putCharsAt_cd4e5 70 = .ok (.iload 6, 2) := by decide +kernel
theorem dJ2_putCharsAt_cd4e5_72 : decode cJ2_putCharsAt_cd4e5 72 = .ok (.ireturn, 1) := by decide +kernel
theorem dJ2_charAt_3b067_0 : decode cJ2_charAt_3b067 0 = .ok (.iload_n 1, 1) := by decide +kernel
theorem dJ2_charAt_3b067_1 : decode cJ2_charAt_3b067 1 = .ok (.aload_n 0, 1) := by decide +kernel
theorem dJ2_charAt_3b067_2 : decode cJ2_charAt_3b067 2 = .ok (.invokestatic 67, 3) := by decide +kernel
theorem dJ2_charAt_3b067_5 : decode cJ2_charAt_3b067 5 = .ok (.aload_n 0, 1) := by decide +kernel
theorem dJ2_charAt_3b067_6 : decode cJ2_charAt_3b067 6 = .ok (.iload_n 1, 1) := by decide +kernel
theorem dJ2_charAt_3b067_7 : decode cJ2_charAt_3b067 7 = .ok (.invokestatic 71, 3) := by decide +kernel
theorem dJ2_charAt_3b067_10 : decode cJ2_charAt_3b067 10 = .ok (.ireturn, 1) := by decide +kernel
theorem dJ2_inflate_0e8fd_0 : decode cJ2_inflate_0e8fd 0 = .ok (.iload_n 3, 1) := by decide +kernel
theorem dJ2_inflate_0e8fd_1 : decode cJ2_inflate_0e8fd 1 = .ok (.iload 4, 2) := by decide +kernel
theorem dJ2_inflate_0e8fd_3 : decode cJ2_inflate_0e8fd 3 = .ok (.aload_n 2, 1) := by decide +kernel
theorem dJ2_inflate_0e8fd_4 : decode cJ2_inflate_0e8fd 4 = .ok (.invokestatic 173, 3) := by decide +kernel
theorem dJ2_inflate_0e8fd_7 : decode cJ2_inflate_0e8fd 7 = .ok (.iconst 0, 1) := by decide +kernel
theorem dJ2_inflate_0e8fd_8 : decode cJ2_inflate_0e8fd 8 = .ok (.istore 5, 2) := by decide +kernel
theorem dJ2_inflate_0e8fd_10 : decode cJ2_inflate_0e8fd 10 = .ok (.iload 5, 2) := by decide +kernel
theorem dJ2_inflate_0e8fd_12 : decode cJ2_inflate_0e8fd 12 = .ok (.iload 4, 2) := by decide +kernel
theorem dJ2_inflate_0e8fd_14 : decode cJ2_inflate_0e8fd 14 = .ok (.if_icmp .ge 27, 3) := by decide +kernel
theorem dJ2_inflate_0e8fd_17 : decode cJ2_inflate_0e8fd 17 = .ok (.aload_n 2, 1) := by decide +kernel
theorem dJ2_inflate_0e8fd_18 : decode cJ2_inflate_0e8fd 18 = .ok (.iload_n 3, 1) := by decide +kernel
theorem dJ2_inflate_0e8fd_19 : decode cJ2_inflate_0e8fd 19 = .ok (.iinc 3 1, 3) := by decide +kernel
theorem dJ2_inflate_0e8fd_22 : decode cJ2_inflate_0e8fd 22 = .ok (.aload_n 0, 1) := by decide +kernel
theorem dJ2_inflate_0e8fd_23 : decode cJ2_inflate_0e8fd 23 = .ok (.iload_n 1, 1) := by decide +kernel
theorem dJ2_inflate_0e8fd_24 : decode cJ2_inflate_0e8fd 24 = .ok (.iinc 1 1, 3) := by decide +kernel
theorem dJ2_inflate_0e8fd_27 : decode cJ2_inflate_0e8fd 27 = .ok (.baload, 1) := by decide +kernel
theorem dJ2_inflate_0e8fd_28 : decode cJ2_inflate_0e8fd 28 = .ok (.sipush 255, 3) := by decide +kernel
theorem dJ2_inflate_0e8fd_31 : decode cJ2_inflate_0e8fd 31 = .ok (.iand, 1) := by decide +kernel
theorem dJ2_inflate_0e8fd_32 : decode cJ2_inflate_0e8fd 32 = .ok (.invokestatic 111, 3) := by decide +kernel
theorem dJ2_inflate_0e8fd_35 : decode cJ2_inflate_0e8fd 35 = .ok (.iinc 5 1, 3) := by decide +kernel
theorem dJ2_inflate_0e8fd_38 : decode cJ2_inflate_0e8fd 38 = .ok (.goto (-28), 3) := by decide +kernel
theorem dJ2_inflate_0e8fd_41 : decode cJ2_inflate_0e8fd 41 = .ok (.return_, 1) := by decide +kernel
theorem dJ2_getChars_ba4f3_0 : decode cJ2_getChars_ba4f3 0 = .ok (.iload_n 1, 1) := by decide +kernel
theorem dJ2_getChars_ba4f3_1 : decode cJ2_getChars_ba4f3 1 = .ok (.istore 5, 2) := by decide +kernel
theorem dJ2_getChars_ba4f3_3 : decode cJ2_getChars_ba4f3 3 = .ok (.iload_n 0, 1) := by decide +kernel
theorem dJ2_getChars_ba4f3_4 : decode cJ2_getChars_ba4f3 4 = .ok (.ifCond .ge 7, 3) := by decide +kernel
theorem dJ2_getChars_ba4f3_7 : decode cJ2_getChars_ba4f3 7 = .ok (.iconst 1, 1) := by decide +kernel
theorem dJ2_getChars_ba4f3_8 : decode cJ2_getChars_ba4f3 8 = .ok (.goto 4, 3) := by decide +kernel
theorem dJ2_getChars_ba4f3_11 : decode cJ2_getChars_ba4f3 11 = .ok (.iconst 0, 1) := by decide +kernel
theorem dJ2_getChars_ba4f3_12 : decode cJ2_getChars_ba4f3 12 = .ok (.istore 6, 2) := by decide +kernel
theorem dJ2_getChars_ba4f3_14 : decode cJ2_getChars_ba4f3 14 = .ok (.iload 6, 2) := by decide +kernel
theorem dJ2_getChars_ba4f3_16 : decode cJ2_getChars_ba4f3 16 = .ok (.ifCond .ne 6, 3) := by decide +kernel
theorem dJ2_getChars_ba4f3_19 : decode cJ2_getChars_ba4f3 19 = .ok (.iload_n 0, 1) := by decide +kernel
theorem dJ2_getChars_ba4f3_20 : decode cJ2_getChars_ba4f3 20 = .ok (.ineg, 1) := by decide +kernel
theorem dJ2_getChars_ba4f3_21 : decode cJ2_getChars_ba4f3 21 = .ok (.istore_n 0, 1) := by decide +kernel
theorem dJ2_getChars_ba4f3_22 : decode cJ2_getChars_ba4f3 22 = .ok (.iload_n 0, 1) := by decide +kernel
theorem dJ2_getChars_ba4f3_23 : decode cJ2_getChars_ba4f3 23 = .ok (.bipush (-100), 2) := by decide +kernel
theorem dJ2_getChars_ba4f3_25 : decode cJ2_getChars_ba4f3 25 = .ok (.if_icmp .gt 51, 3) := by decide +kernel
theorem dJ2_getChars_ba4f3_28 : decode cJ2_getChars_ba4f3 28 = .ok (.iload_n 0, 1) := by decide +kernel
theorem dJ2_getChars_ba4f3_29 : decode cJ2_getChars_ba4f3 29 = .ok (.bipush 100, 2) := by decide +kernel
theorem dJ2_getChars_ba4f3_31 : decode cJ2_getChars_ba4f3 31 = .ok (.idiv, 1) := by decide +kernel
theorem dJ2_getChars_ba4f3_32 : decode cJ2_getChars_ba4f3 32 = .ok (.istore_n 3, 1) := by decide +kernel
theorem dJ2_getChars_ba4f3_33 : decode cJ2_getChars_ba4f3 33 = .ok (.iload_n 3, 1) := by decide +kernel
theorem dJ2_getChars_ba4f3_34 : decode cJ2_getChars_ba4f3 34 = .ok (.bipush 100, 2) := by decide +kernel
theorem dJ2_getChars_ba4f3_36 : decode cJ2_getChars_ba4f3 36 = .ok (.imul, 1) := by decide +kernel
theorem dJ2_getChars_ba4f3_37 : decode cJ2_getChars_ba4f3 37 = .ok (.iload_n 0, 1) := by decide +kernel
theorem dJ2_getChars_ba4f3_38 : decode cJ2_getChars_ba4f3 38 = .ok (.isub, 1) := by decide +kernel
theorem dJ2_getChars_ba4f3_39 : decode cJ2_getChars_ba4f3 39 = .ok (.istore 4, 2) := by decide +kernel
theorem dJ2_getChars_ba4f3_41 : decode cJ2_getChars_ba4f3 41 = .ok (.iload_n 3, 1) := by decide +kernel
theorem dJ2_getChars_ba4f3_42 : decode cJ2_getChars_ba4f3 42 = .ok (.istore_n 0, 1) := by decide +kernel
theorem dJ2_getChars_ba4f3_43 : decode cJ2_getChars_ba4f3 43 = .ok (.aload_n 2, 1) := by decide +kernel
theorem dJ2_getChars_ba4f3_44 : decode cJ2_getChars_ba4f3 44 = .ok (.iinc 5 (-1), 3) := by decide +kernel
theorem dJ2_getChars_ba4f3_47 : decode cJ2_getChars_ba4f3 47 = .ok (.iload 5, 2) := by decide +kernel
theorem dJ2_getChars_ba4f3_49 : decode cJ2_getChars_ba4f3 49 = .ok (.getstatic 403, 3) := by decide +kernel
theorem dJ2_getChars_ba4f3_52 : decode cJ2_getChars_ba4f3 52 = .ok (.iload 4, 2) := by decide +kernel
theorem dJ2_getChars_ba4f3_54 : decode cJ2_getChars_ba4f3 54 = .ok (.baload, 1) := by decide +kernel
theorem dJ2_getChars_ba4f3_55 : decode cJ2_getChars_ba4f3 55 = .ok (.invokestatic 111, 3) := by decide +kernel
theorem dJ2_getChars_ba4f3_58 : decode cJ2_getChars_ba4f3 58 = .ok (.aload_n 2, 1) := by decide +kernel
theorem dJ2_getChars_ba4f3_59 : decode cJ2_getChars_ba4f3 59 = .ok (.iinc 5 (-1), 3) := by decide +kernel
theorem dJ2_getChars_ba4f3_62 : decode cJ2_getChars_ba4f3 62 = .ok (.iload 5, 2) := by decide +kernel
theorem dJ2_getChars_ba4f3_64 : decode cJ2_getChars_ba4f3 64 = .ok (.getstatic 407, 3) := by decide +kernel
theorem dJ2_getChars_ba4f3_67 : decode cJ2_getChars_ba4f3 67 = .ok (.iload 4, 2) := by decide +kernel
theorem dJ2_getChars_ba4f3_69 : decode cJ2_getChars_ba4f3 69 = .ok (.baload, 1) := by decide +kernel
theorem dJ2_getChars_ba4f3_70 : decode cJ2_getChars_ba4f3 70 = .ok (.invokestatic 111, 3) := by decide +kernel
theorem dJ2_getChars_ba4f3_73 : decode cJ2_getChars_ba4f3 73 = .ok (.goto (-51), 3) := by decide +kernel
theorem dJ2_getChars_ba4f3_76 : decode cJ2_getChars_ba4f3 76 = .ok (.aload_n 2, 1) := by decide +kernel
theorem dJ2_getChars_ba4f3_77 : decode cJ2_getChars_ba4f3 77 = .ok (.iinc 5 (-1), 3) := by decide +kernel
theorem dJ2_getChars_ba4f3_80 : decode cJ2_getChars_ba4f3 80 = .ok (.iload 5, 2) := by decide +kernel
theorem dJ2_getChars_ba4f3_82 : decode cJ2_getChars_ba4f3 82 = .ok (.getstatic 403, 3) := by decide +kernel
theorem dJ2_getChars_ba4f3_85 : decode cJ2_getChars_ba4f3 85 = .ok (.iload_n 0, 1) := by decide +kernel
theorem dJ2_getChars_ba4f3_86 : decode cJ2_getChars_ba4f3 86 = .ok (.ineg, 1) := by decide +kernel
theorem dJ2_getChars_ba4f3_87 : decode cJ2_getChars_ba4f3 87 = .ok (.baload, 1) := by decide +kernel
theorem dJ2_getChars_ba4f3_88 : decode cJ2_getChars_ba4f3 88 = .ok (.invokestatic 111, 3) := by decide +kernel
theorem dJ2_getChars_ba4f3_91 : decode cJ2_getChars_ba4f3 91 = .ok (.iload_n 0, 1) := by decide +kernel
theorem dJ2_getChars_ba4f3_92 : decode cJ2_getChars_ba4f3 92 = .ok (.bipush (-9), 2) := by decide +kernel
theorem dJ2_getChars_ba4f3_94 : decode cJ2_getChars_ba4f3 94 = .ok (.if_icmp .ge 18, 3) := by decide +kernel
theorem dJ2_getChars_ba4f3_97 : decode cJ2_getChars_ba4f3 97 = .ok (.aload_n 2, 1) := by decide +kernel
theorem dJ2_getChars_ba4f3_98 : decode cJ2_getChars_ba4f3 98 = .ok (.iinc 5 (-1), 3) := by decide +kernel
theorem dJ2_getChars_ba4f3_101 : decode cJ2_getChars_ba4f3 101 = .ok (.iload 5, 2) := by decide +kernel
theorem dJ2_getChars_ba4f3_103 : decode cJ2_getChars_ba4f3 103 = .ok (.getstatic 407, 3) := by decide +kernel
theorem dJ2_getChars_ba4f3_106 : decode cJ2_getChars_ba4f3 106 = .ok (.iload_n 0, 1) := by decide +kernel
theorem dJ2_getChars_ba4f3_107 : decode cJ2_getChars_ba4f3 107 = .ok (.ineg, 1) := by decide +kernel
theorem dJ2_getChars_ba4f3_108 : decode cJ2_getChars_ba4f3 108 = .ok (.baload, 1) := by decide +kernel
theorem dJ2_getChars_ba4f3_109 : decode cJ2_getChars_ba4f3 109 = .ok (.invokestatic 111, 3) := by decide +kernel
theorem dJ2_getChars_ba4f3_112 : decode cJ2_getChars_ba4f3 112 = .ok (.iload 6, 2) := by decide +kernel
theorem dJ2_getChars_ba4f3_114 : decode cJ2_getChars_ba4f3 114 = .ok (.ifCond .eq 14, 3) := by decide +kernel
theorem dJ2_getChars_ba4f3_117 : decode cJ2_getChars_ba4f3 117 = .ok (.aload_n 2, 1) := by decide +kernel
theorem dJ2_getChars_ba4f3_118 : decode cJ2_getChars_ba4f3 118 = .ok (.iinc 5 (-1), 3) := by decide +kernel
theorem dJ2_getChars_ba4f3_121 : decode cJ2_getChars_ba4f3 121 = .ok (.iload 5, 2) := by decide +kernel
theorem dJ2_getChars_ba4f3_123 : decode cJ2_getChars_ba4f3 123 = .ok (.bipush 45, 2) := by decide +kernel
theorem dJ2_getChars_ba4f3_125 : decode cJ2_getChars_ba4f3 125 = .ok (.invokestatic 111, 3) := by decide +kernel
theorem dJ2_getChars_ba4f3_128 : decode cJ2_getChars_ba4f3 128 = .ok (.iload 5, 2) := by decide +kernel
theorem dJ2_getChars_ba4f3_130 : decode cJ2_getChars_ba4f3 130 = .ok (.ireturn, 1) := by decide +kernel
theorem dJ2_checkIndex_2214a_0 : decode cJ2_checkIndex_2214a 0 = .ok (.iload_n 0, 1) := by decide +kernel
theorem dJ2_checkIndex_2214a_1 : decode cJ2_checkIndex_2214a 1 = .ok (.aload_n 1, 1) := by decide +kernel
theorem dJ2_checkIndex_2214a_2 : decode cJ2_checkIndex_2214a 2 = .ok (.invokestatic 48, 3) := by decide +kernel
theorem dJ2_checkIndex_2214a_5 : decode cJ2_checkIndex_2214a 5 = .ok (.invokestatic 414, 3) := by decide +kernel
theorem dJ2_checkIndex_2214a_8 : decode cJ2_checkIndex_2214a 8 = .ok (.return_, 1) := by decide +kernel
theorem dJ2_checkBoundsBeginEnd_d044e_0 : decode cJ2_checkBoundsBeginEnd_d044e 0 = .ok (.iload_n 0, 1) := by decide +kernel
theorem dJ2_checkBoundsBeginEnd_d044e_1 : decode cJ2_checkBoundsBeginEnd_d044e 1 = .ok (.iload_n 1, 1) := by decide +kernel
theorem dJ2_checkBoundsBeginEnd_d044e_2 : decode cJ2_checkBoundsBeginEnd_d044e 2 = .ok (.aload_n 2, 1) := by decide +kernel
theorem dJ2_checkBoundsBeginEnd_d044e_3 : decode cJ2_checkBoundsBeginEnd_d044e 3 = .ok (.invokestatic 48, 3) := by decide +kernel
theorem dJ2_checkBoundsBeginEnd_d044e_6 : decode cJ2_checkBoundsBeginEnd_d044e 6 = .ok (.invokestatic 241, 3) := by decide +kernel
theorem dJ2_checkBoundsBeginEnd_d044e_9 : decode cJ2_checkBoundsBeginEnd_d044e 9 = .ok (.return_, 1) := by decide +kernel
theorem dJ2_checkBoundsOffCount_d044e_0 : decode cJ2_checkBoundsOffCount_d044e 0 = .ok (.iload_n 0, 1) := by decide +kernel
theorem dJ2_checkBoundsOffCount_d044e_1 : decode cJ2_checkBoundsOffCount_d044e 1 = .ok (.iload_n 1, 1) := by decide +kernel
theorem dJ2_checkBoundsOffCount_d044e_2 : decode cJ2_checkBoundsOffCount_d044e 2 = .ok (.aload_n 2, 1) := by decide +kernel
theorem dJ2_checkBoundsOffCount_d044e_3 : decode cJ2_checkBoundsOffCount_d044e 3 = .ok (.invokestatic 48, 3) := by decide +kernel
theorem dJ2_checkBoundsOffCount_d044e_6 : decode cJ2_checkBoundsOffCount_d044e 6 = .ok (.invokestatic 419, 3) := by decide +kernel
theorem dJ2_checkBoundsOffCount_d044e_9 : decode cJ2_checkBoundsOffCount_d044e 9 = .ok (.pop, 1) := by decide +kernel
theorem dJ2_checkBoundsOffCount_d044e_10 : decode cJ2_checkBoundsOffCount_d044e 10 = .ok (.return_, 1) := by decide +kernel
theorem dJ7_fill_53178_0 : decode cJ7_fill_53178 0 = .ok (.iconst 0, 1) := by decide +kernel
theorem dJ7_fill_53178_1 : decode cJ7_fill_53178 1 = .ok (.istore_n 2, 1) := by decide +kernel
theorem dJ7_fill_53178_2 : decode cJ7_fill_53178 2 = .ok (.aload_n 0, 1) := by decide +kernel
theorem dJ7_fill_53178_3 : decode cJ7_fill_53178 3 = .ok (.arraylength, 1) := by decide +kernel
theorem dJ7_fill_53178_4 : decode cJ7_fill_53178 4 = .ok (.istore_n 3, 1) := by decide +kernel
theorem dJ7_fill_53178_5 : decode cJ7_fill_53178 5 = .ok (.iload_n 2, 1) := by decide +kernel
theorem dJ7_fill_53178_6 : decode cJ7_fill_53178 6 = .ok (.iload_n 3, 1) := by decide +kernel
theorem dJ7_fill_53178_7 : decode cJ7_fill_53178 7 = .ok (.if_icmp .ge 13, 3) := by decide +kernel
theorem dJ7_fill_53178_10 : decode cJ7_fill_53178 10 = .ok (.aload_n 0, 1) := by decide +kernel
theorem dJ7_fill_53178_11 : decode cJ7_fill_53178 11 = .ok (.iload_n 2, 1) := by decide +kernel
theorem dJ7_fill_53178_12 : decode cJ7_fill_53178 12 = .ok (.iload_n 1, 1) := by decide +kernel
theorem dJ7_fill_53178_13 : decode cJ7_fill_53178 13 = .ok (.iastore, 1) := by decide +kernel
theorem dJ7_fill_53178_14 : decode cJ7_fill_53178 14 = .ok (.iinc 2 1, 3) := by decide +kernel
theorem dJ7_fill_53178_17 : decode cJ7_fill_53178 17 = .ok (.goto (-12), 3) := by decide +kernel
theorem dJ7_fill_53178_20 : decode cJ7_fill_53178 20 = .ok (.return_, 1) := by decide +kernel
theorem dJ7_copyOf_9075b_0 : decode cJ7_copyOf_9075b 0 = .ok (.iload_n 1, 1) := by decide +kernel
theorem dJ7_copyOf_9075b_1 : decode cJ7_copyOf_9075b 1 = .ok (.aload_n 0, 1) := by decide +kernel
theorem dJ7_copyOf_9075b_2 : decode cJ7_copyOf_9075b 2 = .ok (.arraylength, 1) := by decide +kernel
theorem dJ7_copyOf_9075b_3 : decode cJ7_copyOf_9075b 3 = .ok (.if_icmp .ne 11, 3) := by decide +kernel
theorem dJ7_copyOf_9075b_6 : decode cJ7_copyOf_9075b 6 = .ok (.aload_n 0, 1) := by decide +kernel
theorem dJ7_copyOf_9075b_7 : decode cJ7_copyOf_9075b 7 = .ok (.invokevirtual 310, 3) := by decide +kernel
theorem dJ7_copyOf_9075b_10 : decode cJ7_copyOf_9075b 10 = .ok (.checkcast 311, 3) := by decide +kernel
theorem dJ7_copyOf_9075b_13 : decode cJ7_copyOf_9075b 13 = .ok (.areturn, 1) := by decide +kernel
theorem dJ7_copyOf_9075b_14 : decode cJ7_copyOf_9075b 14 = .ok (.iload_n 1, 1) := by decide +kernel
theorem dJ7_copyOf_9075b_15 : decode cJ7_copyOf_9075b 15 = .ok (.newarray .byte, 2) := by decide +kernel
theorem dJ7_copyOf_9075b_17 : decode cJ7_copyOf_9075b 17 = .ok (.astore_n 2, 1) := by decide +kernel
theorem dJ7_copyOf_9075b_18 : decode cJ7_copyOf_9075b 18 = .ok (.aload_n 0, 1) := by decide +kernel
theorem dJ7_copyOf_9075b_19 : decode cJ7_copyOf_9075b 19 = .ok (.iconst 0, 1) := by decide +kernel
theorem dJ7_copyOf_9075b_20 : decode cJ7_copyOf_9075b 20 = .ok (.aload_n 2, 1) := by decide +kernel
theorem dJ7_copyOf_9075b_21 : decode cJ7_copyOf_9075b 21 = .ok (.iconst 0, 1) := by decide +kernel
theorem dJ7_copyOf_9075b_22 : decode cJ7_copyOf_9075b 22 = .ok (.aload_n 0, 1) := by decide +kernel
theorem dJ7_copyOf_9075b_23 : decode cJ7_copyOf_9075b 23 = .ok (.arraylength, 1) := by decide +kernel
theorem dJ7_copyOf_9075b_24 : decode cJ7_copyOf_9075b 24 = .ok (.iload_n 1, 1) := by decide +kernel
theorem dJ7_copyOf_9075b_25 : decode cJ7_copyOf_9075b 25 = .ok (.invokestatic 304, 3) := by decide +kernel
theorem dJ7_copyOf_9075b_28 : decode cJ7_copyOf_9075b 28 = .ok (.invokestatic 150, 3) := by decide +kernel
theorem dJ7_copyOf_9075b_31 : decode cJ7_copyOf_9075b 31 = .ok (.aload_n 2, 1) := by decide +kernel
theorem dJ7_copyOf_9075b_32 : decode cJ7_copyOf_9075b 32 = .ok (.areturn, 1) := by decide +kernel
theorem dJ7_copyOf_59c91_0 : decode cJ7_copyOf_59c91 0 = .ok (.iload_n 1, 1) := by decide +kernel
theorem dJ7_copyOf_59c91_1 : decode cJ7_copyOf_59c91 1 = .ok (.aload_n 0, 1) := by decide +kernel
theorem dJ7_copyOf_59c91_2 : decode cJ7_copyOf_59c91 2 = .ok (.arraylength, 1) := by decide +kernel
theorem dJ7_copyOf_59c91_3 : decode cJ7_copyOf_59c91 3 = .ok (.if_icmp .ne 11, 3) := by decide +kernel
theorem dJ7_copyOf_59c91_6 : decode cJ7_copyOf_59c91 6 = .ok (.aload_n 0, 1) := by decide +kernel
theorem dJ7_copyOf_59c91_7 : decode cJ7_copyOf_59c91 7 = .ok (.invokevirtual 316, 3) := by decide +kernel
theorem dJ7_copyOf_59c91_10 : decode cJ7_copyOf_59c91 10 = .ok (.checkcast 317, 3) := by decide +kernel
theorem dJ7_copyOf_59c91_13 : decode cJ7_copyOf_59c91 13 = .ok (.areturn, 1) := by decide +kernel
theorem dJ7_copyOf_59c91_14 : decode cJ7_copyOf_59c91 14 = .ok (.iload_n 1, 1) := by decide +kernel
theorem dJ7_copyOf_59c91_15 : decode cJ7_copyOf_59c91 15 = .ok (.newarray .int, 2) := by decide +kernel
theorem dJ7_copyOf_59c91_17 : decode cJ7_copyOf_59c91 17 = .ok (.astore_n 2, 1) := by decide +kernel
theorem dJ7_copyOf_59c91_18 : decode cJ7_copyOf_59c91 18 = .ok (.aload_n 0, 1) := by decide +kernel
theorem dJ7_copyOf_59c91_19 : decode cJ7_copyOf_59c91 19 = .ok (.iconst 0, 1) := by decide +kernel
theorem dJ7_copyOf_59c91_20 : decode cJ7_copyOf_59c91 20 = .ok (.aload_n 2, 1) := by decide +kernel
theorem dJ7_copyOf_59c91_21 : decode cJ7_copyOf_59c91 21 = .ok (.iconst 0, 1) := by decide +kernel
theorem dJ7_copyOf_59c91_22 : decode cJ7_copyOf_59c91 22 = .ok (.aload_n 0, 1) := by decide +kernel
theorem dJ7_copyOf_59c91_23 : decode cJ7_copyOf_59c91 23 = .ok (.arraylength, 1) := by decide +kernel
theorem dJ7_copyOf_59c91_24 : decode cJ7_copyOf_59c91 24 = .ok (.iload_n 1, 1) := by decide +kernel
theorem dJ7_copyOf_59c91_25 : decode cJ7_copyOf_59c91 25 = .ok (.invokestatic 304, 3) := by decide +kernel
theorem dJ7_copyOf_59c91_28 : decode cJ7_copyOf_59c91 28 = .ok (.invokestatic 150, 3) := by decide +kernel
theorem dJ7_copyOf_59c91_31 : decode cJ7_copyOf_59c91 31 = .ok (.aload_n 2, 1) := by decide +kernel
theorem dJ7_copyOf_59c91_32 : decode cJ7_copyOf_59c91 32 = .ok (.areturn, 1) := by decide +kernel
theorem dJ7_checkLength_df160_0 : decode cJ7_checkLength_df160 0 = .ok (.iload_n 1, 1) := by decide +kernel
theorem dJ7_checkLength_df160_1 : decode cJ7_checkLength_df160 1 = .ok (.iload_n 0, 1) := by decide +kernel
theorem dJ7_checkLength_df160_2 : decode cJ7_checkLength_df160 2 = .ok (.if_icmp .ge 35, 3) := by decide +kernel
theorem dJ7_checkLength_df160_5 : decode cJ7_checkLength_df160 5 = .ok (.new 43, 3) := by decide +kernel
theorem dJ7_checkLength_df160_8 : decode cJ7_checkLength_df160 8 = .ok (.dup, 1) := by decide +kernel
theorem dJ7_checkLength_df160_9 : decode cJ7_checkLength_df160 9 = .ok (.new 45, 3) := by decide +kernel
theorem dJ7_checkLength_df160_12 : decode cJ7_checkLength_df160 12 = .ok (.dup, 1) := by decide +kernel
theorem dJ7_checkLength_df160_13 : decode cJ7_checkLength_df160 13 = .ok (.invokespecial 47, 3) := by decide +kernel
theorem dJ7_checkLength_df160_16 : decode cJ7_checkLength_df160 16 = .ok (.iload_n 0, 1) := by decide +kernel
theorem dJ7_checkLength_df160_17 : decode cJ7_checkLength_df160 17 = .ok (.invokevirtual 54, 3) := by decide +kernel
theorem dJ7_checkLength_df160_20 : decode cJ7_checkLength_df160 20 = .ok (.ldc_w 337, 3) := by decide +kernel
theorem dJ7_checkLength_df160_23 : decode cJ7_checkLength_df160 23 = .ok (.invokevirtual 50, 3) := by decide +kernel
theorem dJ7_checkLength_df160_26 : decode cJ7_checkLength_df160 26 = .ok (.iload_n 1, 1) := by decide +kernel
theorem dJ7_checkLength_df160_27 : decode cJ7_checkLength_df160 27 = .ok (.invokevirtual 54, 3) := by decide +kernel
theorem dJ7_checkLength_df160_30 : decode cJ7_checkLength_df160 30 = .ok (.invokevirtual 61, 3) := by decide +kernel
theorem dJ7_checkLength_df160_33 : decode cJ7_checkLength_df160 33 = .ok (.invokespecial 65, 3) := by decide +kernel
theorem dJ7_checkLength_df160_36 : decode cJ7_checkLength_df160 36 = .ok (.athrow, 1) := by decide +kernel
theorem dJ7_checkLength_df160_37 : decode cJ7_checkLength_df160 37 = .ok (.return_, 1) := by decide +kernel
theorem dJ7_copyOfRange_39247_0 : decode cJ7_copyOfRange_39247 0 = .ok (.iload_n 1, 1) := by decide +kernel
theorem dJ7_copyOfRange_39247_1 : decode cJ7_copyOfRange_39247 1 = .ok (.ifCond .ne 9, 3) := by decide +kernel
theorem dJ7_copyOfRange_39247_4 : decode cJ7_copyOfRange_39247 4 = .ok (.iload_n 2, 1) := by decide +kernel
theorem dJ7_copyOfRange_39247_5 : decode cJ7_copyOfRange_39247 5 = .ok (.aload_n 0, 1) := by decide +kernel
theorem dJ7_copyOfRange_39247_6 : decode cJ7_copyOfRange_39247 6 = .ok (.arraylength, 1) := by decide +kernel
theorem dJ7_copyOfRange_39247_7 : decode cJ7_copyOfRange_39247 7 = .ok (.if_icmp .eq 10, 3) := by decide +kernel
theorem dJ7_copyOfRange_39247_10 : decode cJ7_copyOfRange_39247 10 = .ok (.aload_n 0, 1) := by decide +kernel
theorem dJ7_copyOfRange_39247_11 : decode cJ7_copyOfRange_39247 11 = .ok (.iload_n 1, 1) := by decide +kernel
theorem dJ7_copyOfRange_39247_12 : decode cJ7_copyOfRange_39247 12 = .ok (.iload_n 2, 1) := by decide +kernel
theorem dJ7_copyOfRange_39247_13 : decode cJ7_copyOfRange_39247 13 = .ok (.invokestatic 339, 3) := by decide +kernel
theorem dJ7_copyOfRange_39247_16 : decode cJ7_copyOfRange_39247 16 = .ok (.areturn, 1) := by decide +kernel
theorem dJ7_copyOfRange_39247_17 : decode cJ7_copyOfRange_39247 17 = .ok (.aload_n 0, 1) := by decide +kernel
theorem dJ7_copyOfRange_39247_18 : decode cJ7_copyOfRange_39247 18 = .ok (.invokevirtual 310, 3) := by decide +kernel
theorem dJ7_copyOfRange_39247_21 : decode cJ7_copyOfRange_39247 21 = .ok (.checkcast 311, 3) := by decide +kernel
theorem dJ7_copyOfRange_39247_24 : decode cJ7_copyOfRange_39247 24 = .ok (.areturn, 1) := by decide +kernel
theorem dJ7_copyOfRangeByte_39247_0 : decode cJ7_copyOfRangeByte_39247 0 = .ok (.iload_n 1, 1) := by decide +kernel
theorem dJ7_copyOfRangeByte_39247_1 : decode cJ7_copyOfRangeByte_39247 1 = .ok (.iload_n 2, 1) := by decide +kernel
theorem dJ7_copyOfRangeByte_39247_2 : decode cJ7_copyOfRangeByte_39247 2 = .ok (.invokestatic 343, 3) := by decide +kernel
theorem dJ7_copyOfRangeByte_39247_5 : decode cJ7_copyOfRangeByte_39247 5 = .ok (.iload_n 2, 1) := by decide +kernel
theorem dJ7_copyOfRangeByte_39247_6 : decode cJ7_copyOfRangeByte_39247 6 = .ok (.iload_n 1, 1) := by decide +kernel
theorem dJ7_copyOfRangeByte_39247_7 : decode cJ7_copyOfRangeByte_39247 7 = .ok (.isub, 1) := by decide +kernel
theorem dJ7_copyOfRangeByte_39247_8 : decode cJ7_copyOfRangeByte_39247 8 = .ok (.istore_n 3, 1) := by decide +kernel
theorem dJ7_copyOfRangeByte_39247_9 : decode cJ7_copyOfRangeByte_39247 9 = .ok (.iload_n 3, 1) := by decide +kernel
theorem dJ7_copyOfRangeByte_39247_10 : decode cJ7_copyOfRangeByte_39247 10 = .ok (.newarray .byte, 2) := by decide +kernel
theorem dJ7_copyOfRangeByte_39247_12 : decode cJ7_copyOfRangeByte_39247 12 = .ok (.astore 4, 2) := by decide +kernel
theorem dJ7_copyOfRangeByte_39247_14 : decode cJ7_copyOfRangeByte_39247 14 = .ok (.aload_n 0, 1) := by decide +kernel
theorem dJ7_copyOfRangeByte_39247_15 : decode cJ7_copyOfRangeByte_39247 15 = .ok (.iload_n 1, 1) := by decide +kernel
theorem dJ7_copyOfRangeByte_39247_16 : decode cJ7_copyOfRangeByte_39247 16 = .ok (.aload 4, 2) := by decide +kernel
theorem dJ7_copyOfRangeByte_39247_18 : decode cJ7_copyOfRangeByte_39247 18 = .ok (.iconst 0, 1) := by decide +kernel
theorem dJ7_copyOfRangeByte_39247_19 : decode cJ7_copyOfRangeByte_39247 19 = .ok (.aload_n 0, 1) := by decide +kernel
theorem dJ7_copyOfRangeByte_39247_20 : decode cJ7_copyOfRangeByte_39247 20 = .ok (.arraylength, 1) := by decide +kernel
theorem dJ7_copyOfRangeByte_39247_21 : decode cJ7_copyOfRangeByte_39247 21 = .ok (.iload_n 1, 1) := by decide +kernel
theorem dJ7_copyOfRangeByte_39247_22 : decode cJ7_copyOfRangeByte_39247 22 = .ok (.isub, 1) := by decide +kernel
theorem dJ7_copyOfRangeByte_39247_23 : decode cJ7_copyOfRangeByte_39247 23 = .ok (.iload_n 3, 1) := by decide +kernel
theorem dJ7_copyOfRangeByte_39247_24 : decode cJ7_copyOfRangeByte_39247 24 = .ok (.invokestatic 304, 3) := by decide +kernel
theorem dJ7_copyOfRangeByte_39247_27 : decode cJ7_copyOfRangeByte_39247 27 = .ok (.invokestatic 150, 3) := by decide +kernel
theorem dJ7_copyOfRangeByte_39247_30 : decode cJ7_copyOfRangeByte_39247 30 = .ok (.aload 4, 2) := by decide +kernel
theorem dJ7_copyOfRangeByte_39247_32 : decode cJ7_copyOfRangeByte_39247 32 = .ok (.areturn, 1) := by decide +kernel
theorem dJ8_newLength_cabcc_0 : decode cJ8_newLength_cabcc 0 = .ok (.iload_n 0, 1) := by decide +kernel
theorem dJ8_newLength_cabcc_1 : decode cJ8_newLength_cabcc 1 = .ok (.iload_n 1, 1) := by decide +kernel
theorem dJ8_newLength_cabcc_2 : decode cJ8_newLength_cabcc 2 = .ok (.iload_n 2, 1) := by decide +kernel
theorem dJ8_newLength_cabcc_3 : decode cJ8_newLength_cabcc 3 = .ok (.invokestatic 194, 3) := by decide +kernel
theorem dJ8_newLength_cabcc_6 : decode cJ8_newLength_cabcc 6 = .ok (.iadd, 1) := by decide +kernel
theorem dJ8_newLength_cabcc_7 : decode cJ8_newLength_cabcc 7 = .ok (.istore_n 3, 1) := by decide +kernel
theorem dJ8_newLength_cabcc_8 : decode cJ8_newLength_cabcc 8 = .ok (.iconst 0, 1) := by decide +kernel
theorem dJ8_newLength_cabcc_9 : decode cJ8_newLength_cabcc 9 = .ok (.iload_n 3, 1) := by decide +kernel
theorem dJ8_newLength_cabcc_10 : decode cJ8_newLength_cabcc 10 = .ok (.if_icmp .ge 11, 3) := by decide +kernel
theorem dJ8_newLength_cabcc_13 : decode cJ8_newLength_cabcc 13 = .ok (.iload_n 3, 1) := by decide +kernel
theorem dJ8_newLength_cabcc_14 : decode cJ8_newLength_cabcc 14 = .ok (.ldc 200, 2) := by decide +kernel
theorem dJ8_newLength_cabcc_16 : decode cJ8_newLength_cabcc 16 = .ok (.if_icmp .gt 5, 3) := by decide +kernel
theorem dJ8_newLength_cabcc_19 : decode cJ8_newLength_cabcc 19 = .ok (.iload_n 3, 1) := by decide +kernel
theorem dJ8_newLength_cabcc_20 : decode cJ8_newLength_cabcc 20 = .ok (.ireturn, 1) := by decide +kernel
theorem dJ8_newLength_cabcc_21 : decode cJ8_newLength_cabcc 21 = .ok (.iload_n 0, 1) := by decide +kernel
theorem dJ8_newLength_cabcc_22 : decode cJ8_newLength_cabcc 22 = .ok (.iload_n 1, 1) := by decide +kernel
theorem dJ8_newLength_cabcc_23 : decode cJ8_newLength_cabcc 23 = .ok (.invokestatic 201, 3) := by decide +kernel
theorem dJ8_newLength_cabcc_26 : decode cJ8_newLength_cabcc 26 = .ok (.ireturn, 1) := by decide +kernel
theorem dJ8_hugeLength_7cf53_0 : decode cJ8_hugeLength_7cf53 0 = .ok (.iload_n 0, 1) := by decide +kernel
theorem dJ8_hugeLength_7cf53_1 : decode cJ8_hugeLength_7cf53 1 = .ok (.iload_n 1, 1) := by decide +kernel
theorem dJ8_hugeLength_7cf53_2 : decode cJ8_hugeLength_7cf53 2 = .ok (.iadd, 1) := by decide +kernel
theorem dJ8_hugeLength_7cf53_3 : decode cJ8_hugeLength_7cf53 3 = .ok (.istore_n 2, 1) := by decide +kernel
theorem dJ8_hugeLength_7cf53_4 : decode cJ8_hugeLength_7cf53 4 = .ok (.iload_n 2, 1) := by decide +kernel
theorem dJ8_hugeLength_7cf53_5 : decode cJ8_hugeLength_7cf53 5 = .ok (.ifCond .ge 44, 3) := by decide +kernel
theorem dJ8_hugeLength_7cf53_8 : decode cJ8_hugeLength_7cf53 8 = .ok (.new 204, 3) := by decide +kernel
theorem dJ8_hugeLength_7cf53_11 : decode cJ8_hugeLength_7cf53 11 = .ok (.dup, 1) := by decide +kernel
theorem dJ8_hugeLength_7cf53_12 : decode cJ8_hugeLength_7cf53 12 = .ok (.new 89, 3) := by decide +kernel
theorem dJ8_hugeLength_7cf53_15 : decode cJ8_hugeLength_7cf53 15 = .ok (.dup, 1) := by decide +kernel
theorem dJ8_hugeLength_7cf53_16 : decode cJ8_hugeLength_7cf53 16 = .ok (.invokespecial 91, 3) := by decide +kernel
theorem dJ8_hugeLength_7cf53_19 : decode cJ8_hugeLength_7cf53 19 = .ok (.ldc 206, 2) := by decide +kernel
theorem dJ8_hugeLength_7cf53_21 : decode cJ8_hugeLength_7cf53 21 = .ok (.invokevirtual 94, 3) := by decide +kernel
theorem dJ8_hugeLength_7cf53_24 : decode cJ8_hugeLength_7cf53 24 = .ok (.iload_n 0, 1) := by decide +kernel
theorem dJ8_hugeLength_7cf53_25 : decode cJ8_hugeLength_7cf53 25 = .ok (.invokevirtual 98, 3) := by decide +kernel
theorem dJ8_hugeLength_7cf53_28 : decode cJ8_hugeLength_7cf53 28 = .ok (.ldc 208, 2) := by decide +kernel
theorem dJ8_hugeLength_7cf53_30 : decode cJ8_hugeLength_7cf53 30 = .ok (.invokevirtual 94, 3) := by decide +kernel
theorem dJ8_hugeLength_7cf53_33 : decode cJ8_hugeLength_7cf53 33 = .ok (.iload_n 1, 1) := by decide +kernel
theorem dJ8_hugeLength_7cf53_34 : decode cJ8_hugeLength_7cf53 34 = .ok (.invokevirtual 98, 3) := by decide +kernel
theorem dJ8_hugeLength_7cf53_37 : decode cJ8_hugeLength_7cf53 37 = .ok (.ldc 210, 2) := by decide +kernel
theorem dJ8_hugeLength_7cf53_39 : decode cJ8_hugeLength_7cf53 39 = .ok (.invokevirtual 94, 3) := by decide +kernel
theorem dJ8_hugeLength_7cf53_42 : decode cJ8_hugeLength_7cf53 42 = .ok (.invokevirtual 101, 3) := by decide +kernel
theorem dJ8_hugeLength_7cf53_45 : decode cJ8_hugeLength_7cf53 45 = .ok (.invokespecial 212, 3) := by decide +kernel
theorem dJ8_hugeLength_7cf53_48 : decode cJ8_hugeLength_7cf53 48 = .ok (.athrow, 1) := by decide +kernel
theorem dJ8_hugeLength_7cf53_49 : decode cJ8_hugeLength_7cf53 49 = .ok (.iload_n 2, 1) := by decide +kernel
theorem dJ8_hugeLength_7cf53_50 : decode cJ8_hugeLength_7cf53 50 = .ok (.ldc 200, 2) := by decide +kernel
theorem dJ8_hugeLength_7cf53_52 : decode cJ8_hugeLength_7cf53 52 = .ok (.if_icmp .gt 6, 3) := by decide +kernel
theorem dJ8_hugeLength_7cf53_55 : decode cJ8_hugeLength_7cf53 55 = .ok (.ldc 200, 2) := by decide +kernel
theorem dJ8_hugeLength_7cf53_57 : decode cJ8_hugeLength_7cf53 57 = .ok (.ireturn, 1) := by decide +kernel
theorem dJ8_hugeLength_7cf53_58 : decode cJ8_hugeLength_7cf53 58 = .ok (.iload_n 2, 1) := by decide +kernel
theorem dJ8_hugeLength_7cf53_59 : decode cJ8_hugeLength_7cf53 59 = .ok (.ireturn, 1) := by decide +kernel
theorem dJ3_checkIndex_8e157_0 : decode cJ3_checkIndex_8e157 0 = .ok (.iload_n 0, 1) := by decide +kernel
theorem dJ3_checkIndex_8e157_1 : decode cJ3_checkIndex_8e157 1 = .ok (.ifCond .lt 8, 3) := by decide +kernel
theorem dJ3_checkIndex_8e157_4 : decode cJ3_checkIndex_8e157 4 = .ok (.iload_n 0, 1) := by decide +kernel
theorem dJ3_checkIndex_8e157_5 : decode cJ3_checkIndex_8e157 5 = .ok (.iload_n 1, 1) := by decide +kernel
theorem dJ3_checkIndex_8e157_6 : decode cJ3_checkIndex_8e157 6 = .ok (.if_icmp .lt 10, 3) := by decide +kernel
theorem dJ3_checkIndex_8e157_9 : decode cJ3_checkIndex_8e157 9 = .ok (.aload_n 2, 1) := by decide +kernel
theorem dJ3_checkIndex_8e157_10 : decode cJ3_checkIndex_8e157 10 = .ok (.iload_n 0, 1) := by decide +kernel
theorem dJ3_checkIndex_8e157_11 : decode cJ3_checkIndex_8e157 11 = .ok (.iload_n 1, 1) := by decide +kernel
theorem dJ3_checkIndex_8e157_12 : decode cJ3_checkIndex_8e157 12 = .ok (.invokestatic 95, 3) := by decide +kernel
theorem dJ3_checkIndex_8e157_15 : decode cJ3_checkIndex_8e157 15 = .ok (.athrow, 1) := by decide +kernel
theorem dJ3_checkIndex_8e157_16 : decode cJ3_checkIndex_8e157 16 = .ok (.iload_n 0, 1) := by decide +kernel
theorem dJ3_checkIndex_8e157_17 : decode cJ3_checkIndex_8e157 17 = .ok (.ireturn, 1) := by decide +kernel
theorem dJ3_checkFromToIndex_8c36e_0 : decode cJ3_checkFromToIndex_8c36e 0 = .ok (.iload_n 0, 1) := by decide +kernel
theorem dJ3_checkFromToIndex_8c36e_1 : decode cJ3_checkFromToIndex_8c36e 1 = .ok (.ifCond .lt 13, 3) := by decide +kernel
theorem dJ3_checkFromToIndex_8c36e_4 : decode cJ3_checkFromToIndex_8c36e 4 = .ok (.iload_n 0, 1) := by decide +kernel
theorem dJ3_checkFromToIndex_8c36e_5 : decode cJ3_checkFromToIndex_8c36e 5 = .ok (.iload_n 1, 1) := by decide +kernel
theorem dJ3_checkFromToIndex_8c36e_6 : decode cJ3_checkFromToIndex_8c36e 6 = .ok (.if_icmp .gt 8, 3) := by decide +kernel
theorem dJ3_checkFromToIndex_8c36e_9 : decode cJ3_checkFromToIndex_8c36e 9 = .ok (.iload_n 1, 1) := by decide +kernel
theorem dJ3_checkFromToIndex_8c36e_10 : decode cJ3_checkFromToIndex_8c36e 10 = .ok (.iload_n 2, 1) := by decide +kernel
theorem dJ3_checkFromToIndex_8c36e_11 : decode cJ3_checkFromToIndex_8c36e 11 = .ok (.if_icmp .le 11, 3) := by decide +kernel
theorem dJ3_checkFromToIndex_8c36e_14 : decode cJ3_checkFromToIndex_8c36e 14 = .ok (.aload_n 3, 1) := by decide +kernel
theorem dJ3_checkFromToIndex_8c36e_15 : decode cJ3_checkFromToIndex_8c36e 15 = .ok (.iload_n 0, 1) := by decide +kernel
theorem dJ3_checkFromToIndex_8c36e_16 : decode cJ3_checkFromToIndex_8c36e 16 = .ok (.iload_n 1, 1) := by decide +kernel
theorem dJ3_checkFromToIndex_8c36e_17 : decode cJ3_checkFromToIndex_8c36e 17 = .ok (.iload_n 2, 1) := by decide +kernel
theorem dJ3_checkFromToIndex_8c36e_18 : decode cJ3_checkFromToIndex_8c36e 18 = .ok (.invokestatic 99, 3) := by decide +kernel
theorem dJ3_checkFromToIndex_8c36e_21 : decode cJ3_checkFromToIndex_8c36e 21 = .ok (.athrow, 1) := by decide +kernel
theorem dJ3_checkFromToIndex_8c36e_22 : decode cJ3_checkFromToIndex_8c36e 22 = .ok (.iload_n 0, 1) := by decide +kernel
theorem dJ3_checkFromToIndex_8c36e_23 : decode cJ3_checkFromToIndex_8c36e 23 = .ok (.ireturn, 1) := by decide +kernel
theorem dJ3_checkFromIndexSize_8c36e_0 : decode cJ3_checkFromIndexSize_8c36e 0 = .ok (.iload_n 2, 1) := by decide +kernel
theorem dJ3_checkFromIndexSize_8c36e_1 : decode cJ3_checkFromIndexSize_8c36e 1 = .ok (.iload_n 0, 1) := by decide +kernel
theorem dJ3_checkFromIndexSize_8c36e_2 : decode cJ3_checkFromIndexSize_8c36e 2 = .ok (.ior, 1) := by decide +kernel
theorem dJ3_checkFromIndexSize_8c36e_3 : decode cJ3_checkFromIndexSize_8c36e 3 = .ok (.iload_n 1, 1) := by decide +kernel
theorem dJ3_checkFromIndexSize_8c36e_4 : decode cJ3_checkFromIndexSize_8c36e 4 = .ok (.ior, 1) := by decide +kernel
theorem dJ3_checkFromIndexSize_8c36e_5 : decode cJ3_checkFromIndexSize_8c36e 5 = .ok (.ifCond .lt 10, 3) := by decide +kernel
theorem dJ3_checkFromIndexSize_8c36e_8 : decode cJ3_checkFromIndexSize_8c36e 8 = .ok (.iload_n 1, 1) := by decide +kernel
theorem dJ3_checkFromIndexSize_8c36e_9 : decode cJ3_checkFromIndexSize_8c36e 9 = .ok (.iload_n 2, 1) := by decide +kernel
theorem dJ3_checkFromIndexSize_8c36e_10 : decode cJ3_checkFromIndexSize_8c36e 10 = .ok (.iload_n 0, 1) := by decide +kernel
theorem dJ3_checkFromIndexSize_8c36e_11 : decode cJ3_checkFromIndexSize_8c36e 11 = .ok (.isub, 1) := by decide +kernel
theorem dJ3_checkFromIndexSize_8c36e_12 : decode cJ3_checkFromIndexSize_8c36e 12 = .ok (.if_icmp .le 11, 3) := by decide +kernel
theorem dJ3_checkFromIndexSize_8c36e_15 : decode cJ3_checkFromIndexSize_8c36e 15 = .ok (.aload_n 3, 1) := by decide +kernel
theorem dJ3_checkFromIndexSize_8c36e_16 : decode cJ3_checkFromIndexSize_8c36e 16 = .ok (.iload_n 0, 1) := by decide +kernel
theorem dJ3_checkFromIndexSize_8c36e_17 : decode cJ3_checkFromIndexSize_8c36e 17 = .ok (.iload_n 1, 1) := by decide +kernel
theorem dJ3_checkFromIndexSize_8c36e_18 : decode cJ3_checkFromIndexSize_8c36e 18 = .ok (.iload_n 2, 1) := by decide +kernel
theorem dJ3_checkFromIndexSize_8c36e_19 : decode cJ3_checkFromIndexSize_8c36e 19 = .ok (.invokestatic 103, 3) := by decide +kernel
theorem dJ3_checkFromIndexSize_8c36e_22 : decode cJ3_checkFromIndexSize_8c36e 22 = .ok (.athrow, 1) := by decide +kernel
theorem dJ3_checkFromIndexSize_8c36e_23 : decode cJ3_checkFromIndexSize_8c36e 23 = .ok (.iload_n 0, 1) := by decide +kernel
theorem dJ3_checkFromIndexSize_8c36e_24 : decode cJ3_checkFromIndexSize_8c36e 24 = .ok (.ireturn, 1) := by decide +kernel
end
section
theorem dL_put_0 : decode cL_put 0 = .ok (.aload_n 1, 1) := by decide +kernel
theorem dL_put_1 : decode cL_put 1 = .ok (.iconst 1, 1) := by decide +kernel
theorem dL_put_2 : decode cL_put 2 = .ok (.aload_n 1, 1) := by decide +kernel
theorem dL_put_3 : decode cL_put 3 = .ok (.iconst 0, 1) := by decide +kernel
theorem dL_put_4 : decode cL_put 4 = .ok (.iaload, 1) := by decide +kernel
theorem dL_put_5 : decode cL_put 5 = .ok (.bipush 20, 2) := by decide +kernel
theorem dL_put_7 : decode cL_put 7 = .ok (.irem, 1) := by decide +kernel
theorem dL_put_8 : decode cL_put 8 = .ok (.iconst 4, 1) := by decide +kernel
theorem dL_put_9 : decode cL_put 9 = .ok (.idiv, 1) := by decide +kernel
theorem dL_put_10 : decode cL_put 10 = .ok (.iadd, 1) := by decide +kernel
theorem dL_put_11 : decode cL_put 11 = .ok (.dup2, 1) := by decide +kernel
theorem dL_put_12 : decode cL_put 12 = .ok (.iaload, 1) := by decide +kernel
theorem dL_put_13 : decode cL_put 13 = .ok (.iload_n 2, 1) := by decide +kernel
theorem dL_put_14 : decode cL_put 14 = .ok (.bipush 24, 2) := by decide +kernel
theorem dL_put_16 : decode cL_put 16 = .ok (.bipush 8, 2) := by decide +kernel
theorem dL_put_18 : decode cL_put 18 = .ok (.aload_n 1, 1) := by decide +kernel
theorem dL_put_19 : decode cL_put 19 = .ok (.iconst 0, 1) := by decide +kernel
theorem dL_put_20 : decode cL_put 20 = .ok (.iaload, 1) := by decide +kernel
theorem dL_put_21 : decode cL_put 21 = .ok (.iconst 4, 1) := by decide +kernel
theorem dL_put_22 : decode cL_put 22 = .ok (.irem, 1) := by decide +kernel
theorem dL_put_23 : decode cL_put 23 = .ok (.imul, 1) := by decide +kernel
theorem dL_put_24 : decode cL_put 24 = .ok (.isub, 1) := by decide +kernel
theorem dL_put_25 : decode cL_put 25 = .ok (.ishl, 1) := by decide +kernel
theorem dL_put_26 : decode cL_put 26 = .ok (.ior, 1) := by decide +kernel
theorem dL_put_27 : decode cL_put 27 = .ok (.iastore, 1) := by decide +kernel
theorem dL_put_28 : decode cL_put 28 = .ok (.aload_n 1, 1) := by decide +kernel
theorem dL_put_29 : decode cL_put 29 = .ok (.iconst 0, 1) := by decide +kernel
theorem dL_put_30 : decode cL_put 30 = .ok (.dup2, 1) := by decide +kernel
theorem dL_put_31 : decode cL_put 31 = .ok (.iaload, 1) := by decide +kernel
theorem dL_put_32 : decode cL_put 32 = .ok (.iconst 1, 1) := by decide +kernel
theorem dL_put_33 : decode cL_put 33 = .ok (.iadd, 1) := by decide +kernel
theorem dL_put_34 : decode cL_put 34 = .ok (.iastore, 1) := by decide +kernel
theorem dL_put_35 : decode cL_put 35 = .ok (.aload_n 1, 1) := by decide +kernel
theorem dL_put_36 : decode cL_put 36 = .ok (.iconst 0, 1) := by decide +kernel
theorem dL_put_37 : decode cL_put 37 = .ok (.iaload, 1) := by decide +kernel
theorem dL_put_38 : decode cL_put 38 = .ok (.bipush 20, 2) := by decide +kernel
theorem dL_put_40 : decode cL_put 40 = .ok (.irem, 1) := by decide +kernel
theorem dL_put_41 : decode cL_put 41 = .ok (.ifCond .ne 8, 3) := by decide +kernel
theorem dL_put_44 : decode cL_put 44 = .ok (.aload_n 0, 1) := by decide +kernel
theorem dL_put_45 : decode cL_put 45 = .ok (.aload_n 1, 1) := by decide +kernel
theorem dL_put_46 : decode cL_put 46 = .ok (.invokestatic 7, 3) := by decide +kernel
theorem dL_put_49 : decode cL_put 49 = .ok (.return_, 1) := by decide +kernel
theorem dL_flush_0 : decode cL_flush 0 = .ok (.aload_n 0, 1) := by decide +kernel
theorem dL_flush_1 : decode cL_flush 1 = .ok (.aload_n 1, 1) := by decide +kernel
theorem dL_flush_2 : decode cL_flush 2 = .ok (.iconst 1, 1) := by decide +kernel
theorem dL_flush_3 : decode cL_flush 3 = .ok (.iaload, 1) := by decide +kernel
theorem dL_flush_4 : decode cL_flush 4 = .ok (.aload_n 1, 1) := by decide +kernel
theorem dL_flush_5 : decode cL_flush 5 = .ok (.iconst 2, 1) := by decide +kernel
theorem dL_flush_6 : decode cL_flush 6 = .ok (.iaload, 1) := by decide +kernel
theorem dL_flush_7 : decode cL_flush 7 = .ok (.aload_n 1, 1) := by decide +kernel
theorem dL_flush_8 : decode cL_flush 8 = .ok (.iconst 3, 1) := by decide +kernel
theorem dL_flush_9 : decode cL_flush 9 = .ok (.iaload, 1) := by decide +kernel
theorem dL_flush_10 : decode cL_flush 10 = .ok (.aload_n 1, 1) := by decide +kernel
theorem dL_flush_11 : decode cL_flush 11 = .ok (.iconst 4, 1) := by decide +kernel
theorem dL_flush_12 : decode cL_flush 12 = .ok (.iaload, 1) := by decide +kernel
theorem dL_flush_13 : decode cL_flush 13 = .ok (.aload_n 1, 1) := by decide +kernel
theorem dL_flush_14 : decode cL_flush 14 = .ok (.iconst 5, 1) := by decide +kernel
theorem dL_flush_15 : decode cL_flush 15 = .ok (.iaload, 1) := by decide +kernel
theorem dL_flush_16 : decode cL_flush 16 = .ok (.invokevirtual 13, 3) := by decide +kernel
theorem dL_flush_19 : decode cL_flush 19 = .ok (.pop, 1) := by decide +kernel
theorem dL_flush_20 : decode cL_flush 20 = .ok (.iconst 1, 1) := by decide +kernel
theorem dL_flush_21 : decode cL_flush 21 = .ok (.istore_n 2, 1) := by decide +kernel
theorem dL_flush_22 : decode cL_flush 22 = .ok (.iload_n 2, 1) := by decide +kernel
theorem dL_flush_23 : decode cL_flush 23 = .ok (.bipush 6, 2) := by decide +kernel
theorem dL_flush_25 : decode cL_flush 25 = .ok (.if_icmp .ge 13, 3) := by decide +kernel
theorem dL_flush_28 : decode cL_flush 28 = .ok (.aload_n 1, 1) := by decide +kernel
theorem dL_flush_29 : decode cL_flush 29 = .ok (.iload_n 2, 1) := by decide +kernel
theorem dL_flush_30 : decode cL_flush 30 = .ok (.iconst 0, 1) := by decide +kernel
theorem dL_flush_31 : decode cL_flush 31 = .ok (.iastore, 1) := by decide +kernel
theorem dL_flush_32 : decode cL_flush 32 = .ok (.iinc 2 1, 3) := by decide +kernel
theorem dL_flush_35 : decode cL_flush 35 = .ok (.goto (-13), 3) := by decide +kernel
theorem dL_flush_38 : decode cL_flush 38 = .ok (.return_, 1) := by decide +kernel
theorem dL_loadText_0 : decode cL_loadText 0 = .ok (.aload_n 1, 1) := by decide +kernel
theorem dL_loadText_1 : decode cL_loadText 1 = .ok (.iconst 0, 1) := by decide +kernel
theorem dL_loadText_2 : decode cL_loadText 2 = .ok (.iaload, 1) := by decide +kernel
theorem dL_loadText_3 : decode cL_loadText 3 = .ok (.istore_n 2, 1) := by decide +kernel
theorem dL_loadText_4 : decode cL_loadText 4 = .ok (.iload_n 2, 1) := by decide +kernel
theorem dL_loadText_5 : decode cL_loadText 5 = .ok (.bipush 20, 2) := by decide +kernel
theorem dL_loadText_7 : decode cL_loadText 7 = .ok (.irem, 1) := by decide +kernel
theorem dL_loadText_8 : decode cL_loadText 8 = .ok (.ifCond .le 8, 3) := by decide +kernel
theorem dL_loadText_11 : decode cL_loadText 11 = .ok (.aload_n 0, 1) := by decide +kernel
theorem dL_loadText_12 : decode cL_loadText 12 = .ok (.aload_n 1, 1) := by decide +kernel
theorem dL_loadText_13 : decode cL_loadText 13 = .ok (.invokestatic 7, 3) := by decide +kernel
theorem dL_loadText_16 : decode cL_loadText 16 = .ok (.aload_n 1, 1) := by decide +kernel
theorem dL_loadText_17 : decode cL_loadText 17 = .ok (.iconst 0, 1) := by decide +kernel
theorem dL_loadText_18 : decode cL_loadText 18 = .ok (.iconst 0, 1) := by decide +kernel
theorem dL_loadText_19 : decode cL_loadText 19 = .ok (.iastore, 1) := by decide +kernel
theorem dL_loadText_20 : decode cL_loadText 20 = .ok (.aload_n 0, 1) := by decide +kernel
theorem dL_loadText_21 : decode cL_loadText 21 = .ok (.iload_n 2, 1) := by decide +kernel
theorem dL_loadText_22 : decode cL_loadText 22 = .ok (.invokestatic 19, 3) := by decide +kernel
theorem dL_loadText_25 : decode cL_loadText 25 = .ok (.ireturn, 1) := by decide +kernel
theorem dL_write_0 : decode cL_write 0 = .ok (.iconst 0, 1) := by decide +kernel
theorem dL_write_1 : decode cL_write 1 = .ok (.istore_n 3, 1) := by decide +kernel
theorem dL_write_2 : decode cL_write 2 = .ok (.iload_n 3, 1) := by decide +kernel
theorem dL_write_3 : decode cL_write 3 = .ok (.aload_n 2, 1) := by decide +kernel
theorem dL_write_4 : decode cL_write 4 = .ok (.invokevirtual 23, 3) := by decide +kernel
theorem dL_write_7 : decode cL_write 7 = .ok (.if_icmp .ge 19, 3) := by decide +kernel
theorem dL_write_10 : decode cL_write 10 = .ok (.aload_n 0, 1) := by decide +kernel
theorem dL_write_11 : decode cL_write 11 = .ok (.aload_n 1, 1) := by decide +kernel
theorem dL_write_12 : decode cL_write 12 = .ok (.aload_n 2, 1) := by decide +kernel
theorem dL_write_13 : decode cL_write 13 = .ok (.iload_n 3, 1) := by decide +kernel
theorem dL_write_14 : decode cL_write 14 = .ok (.invokevirtual 29, 3) := by decide +kernel
theorem dL_write_17 : decode cL_write 17 = .ok (.invokestatic 33, 3) := by decide +kernel
theorem dL_write_20 : decode cL_write 20 = .ok (.iinc 3 1, 3) := by decide +kernel
theorem dL_write_23 : decode cL_write 23 = .ok (.goto (-21), 3) := by decide +kernel
theorem dL_write_26 : decode cL_write 26 = .ok (.return_, 1) := by decide +kernel
theorem dL_writeNumber_0 : decode cL_writeNumber 0 = .ok (.iconst 1, 1) := by decide +kernel
theorem dL_writeNumber_1 : decode cL_writeNumber 1 = .ok (.istore_n 3, 1) := by decide +kernel
theorem dL_writeNumber_2 : decode cL_writeNumber 2 = .ok (.iload_n 3, 1) := by decide +kernel
theorem dL_writeNumber_3 : decode cL_writeNumber 3 = .ok (.iload_n 2, 1) := by decide +kernel
theorem dL_writeNumber_4 : decode cL_writeNumber 4 = .ok (.bipush 10, 2) := by decide +kernel
theorem dL_writeNumber_6 : decode cL_writeNumber 6 = .ok (.idiv, 1) := by decide +kernel
theorem dL_writeNumber_7 : decode cL_writeNumber 7 = .ok (.if_icmp .gt 11, 3) := by decide +kernel
theorem dL_writeNumber_10 : decode cL_writeNumber 10 = .ok (.iload_n 3, 1) := by decide +kernel
theorem dL_writeNumber_11 : decode cL_writeNumber 11 = .ok (.bipush 10, 2) := by decide +kernel
theorem dL_writeNumber_13 : decode cL_writeNumber 13 = .ok (.imul, 1) := by decide +kernel
theorem dL_writeNumber_14 : decode cL_writeNumber 14 = .ok (.istore_n 3, 1) := by decide +kernel
theorem dL_writeNumber_15 : decode cL_writeNumber 15 = .ok (.goto (-13), 3) := by decide +kernel
theorem dL_writeNumber_18 : decode cL_writeNumber 18 = .ok (.iload_n 3, 1) := by decide +kernel
theorem dL_writeNumber_19 : decode cL_writeNumber 19 = .ok (.ifCond .le 25, 3) := by decide +kernel
theorem dL_writeNumber_22 : decode cL_writeNumber 22 = .ok (.aload_n 0, 1) := by decide +kernel
theorem dL_writeNumber_23 : decode cL_writeNumber 23 = .ok (.aload_n 1, 1) := by decide +kernel
theorem dL_writeNumber_24 : decode cL_writeNumber 24 = .ok (.bipush 48, 2) := by decide +kernel
theorem dL_writeNumber_26 : decode cL_writeNumber 26 = .ok (.iload_n 2, 1) := by decide +kernel
theorem dL_writeNumber_27 : decode cL_writeNumber 27 = .ok (.iload_n 3, 1) := by decide +kernel
theorem dL_writeNumber_28 : decode cL_writeNumber 28 = .ok (.idiv, 1) := by decide +kernel
theorem dL_writeNumber_29 : decode cL_writeNumber 29 = .ok (.bipush 10, 2) := by decide +kernel
theorem dL_writeNumber_31 : decode cL_writeNumber 31 = .ok (.irem, 1) := by decide +kernel
theorem dL_writeNumber_32 : decode cL_writeNumber 32 = .ok (.iadd, 1) := by decide +kernel
theorem dL_writeNumber_33 : decode cL_writeNumber 33 = .ok (.invokestatic 33, 3) := by decide +kernel
theorem dL_writeNumber_36 : decode cL_writeNumber 36 = .ok (.iload_n 3, 1) := by decide +kernel
theorem dL_writeNumber_37 : decode cL_writeNumber 37 = .ok (.bipush 10, 2) := by decide +kernel
theorem dL_writeNumber_39 : decode cL_writeNumber 39 = .ok (.idiv, 1) := by decide +kernel
theorem dL_writeNumber_40 : decode cL_writeNumber 40 = .ok (.istore_n 3, 1) := by decide +kernel
theorem dL_writeNumber_41 : decode cL_writeNumber 41 = .ok (.goto (-23), 3) := by decide +kernel
theorem dL_writeNumber_44 : decode cL_writeNumber 44 = .ok (.return_, 1) := by decide +kernel
theorem dL_load_0 : decode cL_load 0 = .ok (.aload_n 0, 1) := by decide +kernel
theorem dL_load_1 : decode cL_load 1 = .ok (.iload_n 1, 1) := by decide +kernel
theorem dL_load_2 : decode cL_load 2 = .ok (.invokevirtual 37, 3) := by decide +kernel
theorem dL_load_5 : decode cL_load 5 = .ok (.ireturn, 1) := by decide +kernel
theorem dL_load_6 : decode cL_load 6 = .ok (.astore_n 2, 1) := by decide +kernel
theorem dL_load_7 : decode cL_load 7 = .ok (.ldc 42, 2) := by decide +kernel
theorem dL_load_9 : decode cL_load 9 = .ok (.ireturn, 1) := by decide +kernel
theorem dL_library_0 : decode cL_library 0 = .ok (.aload_n 0, 1) := by decide +kernel
theorem dL_library_1 : decode cL_library 1 = .ok (.iload_n 1, 1) := by decide +kernel
theorem dL_library_2 : decode cL_library 2 = .ok (.iload_n 2, 1) := by decide +kernel
theorem dL_library_3 : decode cL_library 3 = .ok (.invokevirtual 43, 3) := by decide +kernel
theorem dL_library_6 : decode cL_library 6 = .ok (.ireturn, 1) := by decide +kernel
theorem dL_library_7 : decode cL_library 7 = .ok (.astore_n 3, 1) := by decide +kernel
theorem dL_library_8 : decode cL_library 8 = .ok (.ldc 49, 2) := by decide +kernel
theorem dL_library_10 : decode cL_library 10 = .ok (.ireturn, 1) := by decide +kernel
theorem dL_library_11 : decode cL_library 11 = .ok (.astore_n 3, 1) := by decide +kernel
theorem dL_library_12 : decode cL_library 12 = .ok (.ldc 42, 2) := by decide +kernel
theorem dL_library_14 : decode cL_library 14 = .ok (.ireturn, 1) := by decide +kernel
theorem dL_offer_0 : decode cL_offer 0 = .ok (.aload_n 0, 1) := by decide +kernel
theorem dL_offer_1 : decode cL_offer 1 = .ok (.iload_n 1, 1) := by decide +kernel
theorem dL_offer_2 : decode cL_offer 2 = .ok (.iload_n 2, 1) := by decide +kernel
theorem dL_offer_3 : decode cL_offer 3 = .ok (.invokevirtual 50, 3) := by decide +kernel
theorem dL_offer_6 : decode cL_offer 6 = .ok (.ireturn, 1) := by decide +kernel
theorem dL_offer_7 : decode cL_offer 7 = .ok (.astore_n 3, 1) := by decide +kernel
theorem dL_offer_8 : decode cL_offer 8 = .ok (.ldc 49, 2) := by decide +kernel
theorem dL_offer_10 : decode cL_offer 10 = .ok (.ireturn, 1) := by decide +kernel
theorem dL_candidates_0 : decode cL_candidates 0 = .ok (.aload_n 0, 1) := by decide +kernel
theorem dL_candidates_1 : decode cL_candidates 1 = .ok (.iload_n 1, 1) := by decide +kernel
theorem dL_candidates_2 : decode cL_candidates 2 = .ok (.invokevirtual 53, 3) := by decide +kernel
theorem dL_candidates_5 : decode cL_candidates 5 = .ok (.ireturn, 1) := by decide +kernel
theorem dL_candidates_6 : decode cL_candidates 6 = .ok (.astore_n 2, 1) := by decide +kernel
theorem dL_candidates_7 : decode cL_candidates 7 = .ok (.ldc 49, 2) := by decide +kernel
theorem dL_candidates_9 : decode cL_candidates 9 = .ok (.ireturn, 1) := by decide +kernel
theorem dL_winner_0 : decode cL_winner 0 = .ok (.aload_n 0, 1) := by decide +kernel
theorem dL_winner_1 : decode cL_winner 1 = .ok (.iload_n 1, 1) := by decide +kernel
theorem dL_winner_2 : decode cL_winner 2 = .ok (.invokevirtual 62, 3) := by decide +kernel
theorem dL_winner_5 : decode cL_winner 5 = .ok (.ireturn, 1) := by decide +kernel
theorem dL_winner_6 : decode cL_winner 6 = .ok (.astore_n 2, 1) := by decide +kernel
theorem dL_winner_7 : decode cL_winner 7 = .ok (.ldc 49, 2) := by decide +kernel
theorem dL_winner_9 : decode cL_winner 9 = .ok (.ireturn, 1) := by decide +kernel
theorem dL_binding_0 : decode cL_binding 0 = .ok (.aload_n 0, 1) := by decide +kernel
theorem dL_binding_1 : decode cL_binding 1 = .ok (.iload_n 1, 1) := by decide +kernel
theorem dL_binding_2 : decode cL_binding 2 = .ok (.iload_n 2, 1) := by decide +kernel
theorem dL_binding_3 : decode cL_binding 3 = .ok (.invokevirtual 68, 3) := by decide +kernel
theorem dL_binding_6 : decode cL_binding 6 = .ok (.ireturn, 1) := by decide +kernel
theorem dL_binding_7 : decode cL_binding 7 = .ok (.astore_n 3, 1) := by decide +kernel
theorem dL_binding_8 : decode cL_binding 8 = .ok (.ldc 49, 2) := by decide +kernel
theorem dL_binding_10 : decode cL_binding 10 = .ok (.ireturn, 1) := by decide +kernel
theorem dL_minority_0 : decode cL_minority 0 = .ok (.aload_n 0, 1) := by decide +kernel
theorem dL_minority_1 : decode cL_minority 1 = .ok (.iload_n 1, 1) := by decide +kernel
theorem dL_minority_2 : decode cL_minority 2 = .ok (.invokevirtual 71, 3) := by decide +kernel
theorem dL_minority_5 : decode cL_minority 5 = .ok (.ireturn, 1) := by decide +kernel
theorem dL_minority_6 : decode cL_minority 6 = .ok (.astore_n 2, 1) := by decide +kernel
theorem dL_minority_7 : decode cL_minority 7 = .ok (.ldc 49, 2) := by decide +kernel
theorem dL_minority_9 : decode cL_minority 9 = .ok (.ireturn, 1) := by decide +kernel
theorem dL_call_0 : decode cL_call 0 = .ok (.aload_n 0, 1) := by decide +kernel
theorem dL_call_1 : decode cL_call 1 = .ok (.iload_n 1, 1) := by decide +kernel
theorem dL_call_2 : decode cL_call 2 = .ok (.iload_n 2, 1) := by decide +kernel
theorem dL_call_3 : decode cL_call 3 = .ok (.invokevirtual 74, 3) := by decide +kernel
theorem dL_call_6 : decode cL_call 6 = .ok (.ireturn, 1) := by decide +kernel
theorem dL_call_7 : decode cL_call 7 = .ok (.astore_n 3, 1) := by decide +kernel
theorem dL_call_8 : decode cL_call 8 = .ok (.ldc 49, 2) := by decide +kernel
theorem dL_call_10 : decode cL_call 10 = .ok (.ireturn, 1) := by decide +kernel
theorem dL_unload_0 : decode cL_unload 0 = .ok (.aload_n 0, 1) := by decide +kernel
theorem dL_unload_1 : decode cL_unload 1 = .ok (.iload_n 1, 1) := by decide +kernel
theorem dL_unload_2 : decode cL_unload 2 = .ok (.invokevirtual 83, 3) := by decide +kernel
theorem dL_unload_5 : decode cL_unload 5 = .ok (.ireturn, 1) := by decide +kernel
theorem dL_unload_6 : decode cL_unload 6 = .ok (.astore_n 2, 1) := by decide +kernel
theorem dL_unload_7 : decode cL_unload 7 = .ok (.ldc 49, 2) := by decide +kernel
theorem dL_unload_9 : decode cL_unload 9 = .ok (.ireturn, 1) := by decide +kernel
theorem dL_unload_10 : decode cL_unload 10 = .ok (.astore_n 2, 1) := by decide +kernel
theorem dL_unload_11 : decode cL_unload 11 = .ok (.ldc 88, 2) := by decide +kernel
theorem dL_unload_13 : decode cL_unload 13 = .ok (.ireturn, 1) := by decide +kernel
theorem dL_reload_0 : decode cL_reload 0 = .ok (.aload_n 0, 1) := by decide +kernel
theorem dL_reload_1 : decode cL_reload 1 = .ok (.iload_n 1, 1) := by decide +kernel
theorem dL_reload_2 : decode cL_reload 2 = .ok (.invokevirtual 89, 3) := by decide +kernel
theorem dL_reload_5 : decode cL_reload 5 = .ok (.ireturn, 1) := by decide +kernel
theorem dL_reload_6 : decode cL_reload 6 = .ok (.astore_n 2, 1) := by decide +kernel
theorem dL_reload_7 : decode cL_reload 7 = .ok (.ldc 49, 2) := by decide +kernel
theorem dL_reload_9 : decode cL_reload 9 = .ok (.ireturn, 1) := by decide +kernel
theorem dL_reload_10 : decode cL_reload 10 = .ok (.astore_n 2, 1) := by decide +kernel
theorem dL_reload_11 : decode cL_reload 11 = .ok (.ldc 88, 2) := by decide +kernel
theorem dL_reload_13 : decode cL_reload 13 = .ok (.ireturn, 1) := by decide +kernel
theorem dL_offerValue_0 : decode cL_offerValue 0 = .ok (.aload_n 0, 1) := by decide +kernel
theorem dL_offerValue_1 : decode cL_offerValue 1 = .ok (.iload_n 1, 1) := by decide +kernel
theorem dL_offerValue_2 : decode cL_offerValue 2 = .ok (.iload_n 2, 1) := by decide +kernel
theorem dL_offerValue_3 : decode cL_offerValue 3 = .ok (.iload_n 3, 1) := by decide +kernel
theorem dL_offerValue_4 : decode cL_offerValue 4 = .ok (.invokevirtual 92, 3) := by decide +kernel
theorem dL_offerValue_7 : decode cL_offerValue 7 = .ok (.ireturn, 1) := by decide +kernel
theorem dL_offerValue_8 : decode cL_offerValue 8 = .ok (.astore 4, 2) := by decide +kernel
theorem dL_offerValue_10 : decode cL_offerValue 10 = .ok (.ldc 49, 2) := by decide +kernel
theorem dL_offerValue_12 : decode cL_offerValue 12 = .ok (.ireturn, 1) := by decide +kernel
theorem dL_offerValue_13 : decode cL_offerValue 13 = .ok (.astore 4, 2) := by decide +kernel
theorem dL_offerValue_15 : decode cL_offerValue 15 = .ok (.ldc 42, 2) := by decide +kernel
theorem dL_offerValue_17 : decode cL_offerValue 17 = .ok (.ireturn, 1) := by decide +kernel
theorem dL_offerForward_0 : decode cL_offerForward 0 = .ok (.aload_n 0, 1) := by decide +kernel
theorem dL_offerForward_1 : decode cL_offerForward 1 = .ok (.iload_n 1, 1) := by decide +kernel
theorem dL_offerForward_2 : decode cL_offerForward 2 = .ok (.iload_n 2, 1) := by decide +kernel
theorem dL_offerForward_3 : decode cL_offerForward 3 = .ok (.iload_n 3, 1) := by decide +kernel
theorem dL_offerForward_4 : decode cL_offerForward 4 = .ok (.invokevirtual 96, 3) := by decide +kernel
theorem dL_offerForward_7 : decode cL_offerForward 7 = .ok (.ireturn, 1) := by decide +kernel
theorem dL_offerForward_8 : decode cL_offerForward 8 = .ok (.astore 4, 2) := by decide +kernel
theorem dL_offerForward_10 : decode cL_offerForward 10 = .ok (.ldc 49, 2) := by decide +kernel
theorem dL_offerForward_12 : decode cL_offerForward 12 = .ok (.ireturn, 1) := by decide +kernel
theorem dL_withdraw_0 : decode cL_withdraw 0 = .ok (.aload_n 0, 1) := by decide +kernel
theorem dL_withdraw_1 : decode cL_withdraw 1 = .ok (.iload_n 1, 1) := by decide +kernel
theorem dL_withdraw_2 : decode cL_withdraw 2 = .ok (.iload_n 2, 1) := by decide +kernel
theorem dL_withdraw_3 : decode cL_withdraw 3 = .ok (.invokevirtual 99, 3) := by decide +kernel
theorem dL_withdraw_6 : decode cL_withdraw 6 = .ok (.ireturn, 1) := by decide +kernel
theorem dL_withdraw_7 : decode cL_withdraw 7 = .ok (.astore_n 3, 1) := by decide +kernel
theorem dL_withdraw_8 : decode cL_withdraw 8 = .ok (.ldc 49, 2) := by decide +kernel
theorem dL_withdraw_10 : decode cL_withdraw 10 = .ok (.ireturn, 1) := by decide +kernel
theorem dL_withdraw_11 : decode cL_withdraw 11 = .ok (.astore_n 3, 1) := by decide +kernel
theorem dL_withdraw_12 : decode cL_withdraw 12 = .ok (.ldc 88, 2) := by decide +kernel
theorem dL_withdraw_14 : decode cL_withdraw 14 = .ok (.ireturn, 1) := by decide +kernel
theorem dL_setTrust_0 : decode cL_setTrust 0 = .ok (.aload_n 0, 1) := by decide +kernel
theorem dL_setTrust_1 : decode cL_setTrust 1 = .ok (.iload_n 1, 1) := by decide +kernel
theorem dL_setTrust_2 : decode cL_setTrust 2 = .ok (.iload_n 2, 1) := by decide +kernel
theorem dL_setTrust_3 : decode cL_setTrust 3 = .ok (.invokevirtual 102, 3) := by decide +kernel
theorem dL_setTrust_6 : decode cL_setTrust 6 = .ok (.ireturn, 1) := by decide +kernel
theorem dL_setTrust_7 : decode cL_setTrust 7 = .ok (.astore_n 3, 1) := by decide +kernel
theorem dL_setTrust_8 : decode cL_setTrust 8 = .ok (.ldc 49, 2) := by decide +kernel
theorem dL_setTrust_10 : decode cL_setTrust 10 = .ok (.ireturn, 1) := by decide +kernel
theorem dL_setTrust_11 : decode cL_setTrust 11 = .ok (.astore_n 3, 1) := by decide +kernel
theorem dL_setTrust_12 : decode cL_setTrust 12 = .ok (.ldc 42, 2) := by decide +kernel
theorem dL_setTrust_14 : decode cL_setTrust 14 = .ok (.ireturn, 1) := by decide +kernel
theorem dL_setKeeps_0 : decode cL_setKeeps 0 = .ok (.aload_n 0, 1) := by decide +kernel
theorem dL_setKeeps_1 : decode cL_setKeeps 1 = .ok (.iload_n 1, 1) := by decide +kernel
theorem dL_setKeeps_2 : decode cL_setKeeps 2 = .ok (.iload_n 2, 1) := by decide +kernel
theorem dL_setKeeps_3 : decode cL_setKeeps 3 = .ok (.invokevirtual 105, 3) := by decide +kernel
theorem dL_setKeeps_6 : decode cL_setKeeps 6 = .ok (.ireturn, 1) := by decide +kernel
theorem dL_setKeeps_7 : decode cL_setKeeps 7 = .ok (.astore_n 3, 1) := by decide +kernel
theorem dL_setKeeps_8 : decode cL_setKeeps 8 = .ok (.ldc 49, 2) := by decide +kernel
theorem dL_setKeeps_10 : decode cL_setKeeps 10 = .ok (.ireturn, 1) := by decide +kernel
theorem dL_setShare_0 : decode cL_setShare 0 = .ok (.aload_n 0, 1) := by decide +kernel
theorem dL_setShare_1 : decode cL_setShare 1 = .ok (.iload_n 1, 1) := by decide +kernel
theorem dL_setShare_2 : decode cL_setShare 2 = .ok (.invokevirtual 109, 3) := by decide +kernel
theorem dL_setShare_5 : decode cL_setShare 5 = .ok (.ireturn, 1) := by decide +kernel
theorem dL_setShare_6 : decode cL_setShare 6 = .ok (.astore_n 2, 1) := by decide +kernel
theorem dL_setShare_7 : decode cL_setShare 7 = .ok (.ldc 42, 2) := by decide +kernel
theorem dL_setShare_9 : decode cL_setShare 9 = .ok (.ireturn, 1) := by decide +kernel
theorem dL_with_0 : decode cL_with 0 = .ok (.aload_n 0, 1) := by decide +kernel
theorem dL_with_1 : decode cL_with 1 = .ok (.arraylength, 1) := by decide +kernel
theorem dL_with_2 : decode cL_with 2 = .ok (.iconst 1, 1) := by decide +kernel
theorem dL_with_3 : decode cL_with 3 = .ok (.iadd, 1) := by decide +kernel
theorem dL_with_4 : decode cL_with 4 = .ok (.newarray .int, 2) := by decide +kernel
theorem dL_with_6 : decode cL_with 6 = .ok (.astore_n 2, 1) := by decide +kernel
theorem dL_with_7 : decode cL_with 7 = .ok (.iconst 0, 1) := by decide +kernel
theorem dL_with_8 : decode cL_with 8 = .ok (.istore_n 3, 1) := by decide +kernel
theorem dL_with_9 : decode cL_with 9 = .ok (.iload_n 3, 1) := by decide +kernel
theorem dL_with_10 : decode cL_with 10 = .ok (.aload_n 0, 1) := by decide +kernel
theorem dL_with_11 : decode cL_with 11 = .ok (.arraylength, 1) := by decide +kernel
theorem dL_with_12 : decode cL_with 12 = .ok (.if_icmp .ge 15, 3) := by decide +kernel
theorem dL_with_15 : decode cL_with 15 = .ok (.aload_n 2, 1) := by decide +kernel
theorem dL_with_16 : decode cL_with 16 = .ok (.iload_n 3, 1) := by decide +kernel
theorem dL_with_17 : decode cL_with 17 = .ok (.aload_n 0, 1) := by decide +kernel
theorem dL_with_18 : decode cL_with 18 = .ok (.iload_n 3, 1) := by decide +kernel
theorem dL_with_19 : decode cL_with 19 = .ok (.iaload, 1) := by decide +kernel
theorem dL_with_20 : decode cL_with 20 = .ok (.iastore, 1) := by decide +kernel
theorem dL_with_21 : decode cL_with 21 = .ok (.iinc 3 1, 3) := by decide +kernel
theorem dL_with_24 : decode cL_with 24 = .ok (.goto (-15), 3) := by decide +kernel
theorem dL_with_27 : decode cL_with 27 = .ok (.aload_n 2, 1) := by decide +kernel
theorem dL_with_28 : decode cL_with 28 = .ok (.aload_n 0, 1) := by decide +kernel
theorem dL_with_29 : decode cL_with 29 = .ok (.arraylength, 1) := by decide +kernel
theorem dL_with_30 : decode cL_with 30 = .ok (.iload_n 1, 1) := by decide +kernel
theorem dL_with_31 : decode cL_with 31 = .ok (.iastore, 1) := by decide +kernel
theorem dL_with_32 : decode cL_with 32 = .ok (.aload_n 2, 1) := by decide +kernel
theorem dL_with_33 : decode cL_with 33 = .ok (.areturn, 1) := by decide +kernel
theorem dL_has_0 : decode cL_has 0 = .ok (.iconst 0, 1) := by decide +kernel
theorem dL_has_1 : decode cL_has 1 = .ok (.istore_n 2, 1) := by decide +kernel
theorem dL_has_2 : decode cL_has 2 = .ok (.aload_n 0, 1) := by decide +kernel
theorem dL_has_3 : decode cL_has 3 = .ok (.astore_n 3, 1) := by decide +kernel
theorem dL_has_4 : decode cL_has 4 = .ok (.aload_n 3, 1) := by decide +kernel
theorem dL_has_5 : decode cL_has 5 = .ok (.arraylength, 1) := by decide +kernel
theorem dL_has_6 : decode cL_has 6 = .ok (.istore 4, 2) := by decide +kernel
theorem dL_has_8 : decode cL_has 8 = .ok (.iconst 0, 1) := by decide +kernel
theorem dL_has_9 : decode cL_has 9 = .ok (.istore 5, 2) := by decide +kernel
theorem dL_has_11 : decode cL_has 11 = .ok (.iload 5, 2) := by decide +kernel
theorem dL_has_13 : decode cL_has 13 = .ok (.iload 4, 2) := by decide +kernel
theorem dL_has_15 : decode cL_has 15 = .ok (.if_icmp .ge 29, 3) := by decide +kernel
theorem dL_has_18 : decode cL_has 18 = .ok (.aload_n 3, 1) := by decide +kernel
theorem dL_has_19 : decode cL_has 19 = .ok (.iload 5, 2) := by decide +kernel
theorem dL_has_21 : decode cL_has 21 = .ok (.iaload, 1) := by decide +kernel
theorem dL_has_22 : decode cL_has 22 = .ok (.istore 6, 2) := by decide +kernel
theorem dL_has_24 : decode cL_has 24 = .ok (.iload_n 2, 1) := by decide +kernel
theorem dL_has_25 : decode cL_has 25 = .ok (.iload 6, 2) := by decide +kernel
theorem dL_has_27 : decode cL_has 27 = .ok (.iload_n 1, 1) := by decide +kernel
theorem dL_has_28 : decode cL_has 28 = .ok (.if_icmp .ne 7, 3) := by decide +kernel
theorem dL_has_31 : decode cL_has 31 = .ok (.iconst 1, 1) := by decide +kernel
theorem dL_has_32 : decode cL_has 32 = .ok (.goto 4, 3) := by decide +kernel
theorem dL_has_35 : decode cL_has 35 = .ok (.iconst 0, 1) := by decide +kernel
theorem dL_has_36 : decode cL_has 36 = .ok (.ior, 1) := by decide +kernel
theorem dL_has_37 : decode cL_has 37 = .ok (.istore_n 2, 1) := by decide +kernel
theorem dL_has_38 : decode cL_has 38 = .ok (.iinc 5 1, 3) := by decide +kernel
theorem dL_has_41 : decode cL_has 41 = .ok (.goto (-30), 3) := by decide +kernel
theorem dL_has_44 : decode cL_has 44 = .ok (.iload_n 2, 1) := by decide +kernel
theorem dL_has_45 : decode cL_has 45 = .ok (.ireturn, 1) := by decide +kernel
theorem dL_wordOf_0 : decode cL_wordOf 0 = .ok (.iload_n 1, 1) := by decide +kernel
theorem dL_wordOf_1 : decode cL_wordOf 1 = .ok (.ifCond .eq 38, 3) := by decide +kernel
theorem dL_wordOf_4 : decode cL_wordOf 4 = .ok (.iload_n 0, 1) := by decide +kernel
theorem dL_wordOf_5 : decode cL_wordOf 5 = .ok (.ifCond .ne 8, 3) := by decide +kernel
theorem dL_wordOf_8 : decode cL_wordOf 8 = .ok (.ldc 112, 2) := by decide +kernel
theorem dL_wordOf_10 : decode cL_wordOf 10 = .ok (.goto 62, 3) := by decide +kernel
theorem dL_wordOf_13 : decode cL_wordOf 13 = .ok (.new 114, 3) := by decide +kernel
theorem dL_wordOf_16 : decode cL_wordOf 16 = .ok (.dup, 1) := by decide +kernel
theorem dL_wordOf_17 : decode cL_wordOf 17 = .ok (.invokespecial 116, 3) := by decide +kernel
theorem dL_wordOf_20 : decode cL_wordOf 20 = .ok (.ldc 117, 2) := by decide +kernel
theorem dL_wordOf_22 : decode cL_wordOf 22 = .ok (.invokevirtual 119, 3) := by decide +kernel
theorem dL_wordOf_25 : decode cL_wordOf 25 = .ok (.bipush 97, 2) := by decide +kernel
theorem dL_wordOf_27 : decode cL_wordOf 27 = .ok (.iload_n 0, 1) := by decide +kernel
theorem dL_wordOf_28 : decode cL_wordOf 28 = .ok (.iadd, 1) := by decide +kernel
theorem dL_wordOf_29 : decode cL_wordOf 29 = .ok (.i2c, 1) := by decide +kernel
theorem dL_wordOf_30 : decode cL_wordOf 30 = .ok (.invokevirtual 122, 3) := by decide +kernel
theorem dL_wordOf_33 : decode cL_wordOf 33 = .ok (.invokevirtual 125, 3) := by decide +kernel
theorem dL_wordOf_36 : decode cL_wordOf 36 = .ok (.goto 36, 3) := by decide +kernel
theorem dL_wordOf_39 : decode cL_wordOf 39 = .ok (.iload_n 0, 1) := by decide +kernel
theorem dL_wordOf_40 : decode cL_wordOf 40 = .ok (.iconst 1, 1) := by decide +kernel
theorem dL_wordOf_41 : decode cL_wordOf 41 = .ok (.if_icmp .ne 8, 3) := by decide +kernel
theorem dL_wordOf_44 : decode cL_wordOf 44 = .ok (.ldc 129, 2) := by decide +kernel
theorem dL_wordOf_46 : decode cL_wordOf 46 = .ok (.goto 26, 3) := by decide +kernel
theorem dL_wordOf_49 : decode cL_wordOf 49 = .ok (.new 114, 3) := by decide +kernel
theorem dL_wordOf_52 : decode cL_wordOf 52 = .ok (.dup, 1) := by decide +kernel
theorem dL_wordOf_53 : decode cL_wordOf 53 = .ok (.invokespecial 116, 3) := by decide +kernel
theorem dL_wordOf_56 : decode cL_wordOf 56 = .ok (.ldc 131, 2) := by decide +kernel
theorem dL_wordOf_58 : decode cL_wordOf 58 = .ok (.invokevirtual 119, 3) := by decide +kernel
theorem dL_wordOf_61 : decode cL_wordOf 61 = .ok (.bipush 97, 2) := by decide +kernel
theorem dL_wordOf_63 : decode cL_wordOf 63 = .ok (.iload_n 0, 1) := by decide +kernel
theorem dL_wordOf_64 : decode cL_wordOf 64 = .ok (.iadd, 1) := by decide +kernel
theorem dL_wordOf_65 : decode cL_wordOf 65 = .ok (.i2c, 1) := by decide +kernel
theorem dL_wordOf_66 : decode cL_wordOf 66 = .ok (.invokevirtual 122, 3) := by decide +kernel
theorem dL_wordOf_69 : decode cL_wordOf 69 = .ok (.invokevirtual 125, 3) := by decide +kernel
theorem dL_wordOf_72 : decode cL_wordOf 72 = .ok (.areturn, 1) := by decide +kernel
theorem dL_randomLinker_0 : decode cL_randomLinker 0 = .ok (.new 133, 3) := by decide +kernel
theorem dL_randomLinker_3 : decode cL_randomLinker 3 = .ok (.dup, 1) := by decide +kernel
theorem dL_randomLinker_4 : decode cL_randomLinker 4 = .ok (.invokespecial 135, 3) := by decide +kernel
theorem dL_randomLinker_7 : decode cL_randomLinker 7 = .ok (.astore 5, 2) := by decide +kernel
theorem dL_randomLinker_9 : decode cL_randomLinker 9 = .ok (.aload 5, 2) := by decide +kernel
theorem dL_randomLinker_11 : decode cL_randomLinker 11 = .ok (.aload_n 2, 1) := by decide +kernel
theorem dL_randomLinker_12 : decode cL_randomLinker 12 = .ok (.iload_n 3, 1) := by decide +kernel
theorem dL_randomLinker_13 : decode cL_randomLinker 13 = .ok (.iconst 1, 1) := by decide +kernel
theorem dL_randomLinker_14 : decode cL_randomLinker 14 = .ok (.iadd, 1) := by decide +kernel
theorem dL_randomLinker_15 : decode cL_randomLinker 15 = .ok (.invokevirtual 136, 3) := by decide +kernel
theorem dL_randomLinker_18 : decode cL_randomLinker 18 = .ok (.putfield 141, 3) := by decide +kernel
theorem dL_randomLinker_21 : decode cL_randomLinker 21 = .ok (.aload_n 0, 1) := by decide +kernel
theorem dL_randomLinker_22 : decode cL_randomLinker 22 = .ok (.aload_n 1, 1) := by decide +kernel
theorem dL_randomLinker_23 : decode cL_randomLinker 23 = .ok (.ldc 145, 2) := by decide +kernel
theorem dL_randomLinker_25 : decode cL_randomLinker 25 = .ok (.invokestatic 147, 3) := by decide +kernel
theorem dL_randomLinker_28 : decode cL_randomLinker 28 = .ok (.iconst 0, 1) := by decide +kernel
theorem dL_randomLinker_29 : decode cL_randomLinker 29 = .ok (.istore 6, 2) := by decide +kernel
theorem dL_randomLinker_31 : decode cL_randomLinker 31 = .ok (.iload 6, 2) := by decide +kernel
theorem dL_randomLinker_33 : decode cL_randomLinker 33 = .ok (.aload 5, 2) := by decide +kernel
theorem dL_randomLinker_35 : decode cL_randomLinker 35 = .ok (.getfield 141, 3) := by decide +kernel
theorem dL_randomLinker_38 : decode cL_randomLinker 38 = .ok (.if_icmp .ge 34, 3) := by decide +kernel
theorem dL_randomLinker_41 : decode cL_randomLinker 41 = .ok (.aload_n 0, 1) := by decide +kernel
theorem dL_randomLinker_42 : decode cL_randomLinker 42 = .ok (.aload_n 1, 1) := by decide +kernel
theorem dL_randomLinker_43 : decode cL_randomLinker 43 = .ok (.ldc 151, 2) := by decide +kernel
theorem dL_randomLinker_45 : decode cL_randomLinker 45 = .ok (.invokestatic 147, 3) := by decide +kernel
theorem dL_randomLinker_48 : decode cL_randomLinker 48 = .ok (.aload_n 0, 1) := by decide +kernel
theorem dL_randomLinker_49 : decode cL_randomLinker 49 = .ok (.aload_n 1, 1) := by decide +kernel
theorem dL_randomLinker_50 : decode cL_randomLinker 50 = .ok (.iload 6, 2) := by decide +kernel
theorem dL_randomLinker_52 : decode cL_randomLinker 52 = .ok (.iconst 1, 1) := by decide +kernel
theorem dL_randomLinker_53 : decode cL_randomLinker 53 = .ok (.invokestatic 153, 3) := by decide +kernel
theorem dL_randomLinker_56 : decode cL_randomLinker 56 = .ok (.invokestatic 147, 3) := by decide +kernel
theorem dL_randomLinker_59 : decode cL_randomLinker 59 = .ok (.aload_n 0, 1) := by decide +kernel
theorem dL_randomLinker_60 : decode cL_randomLinker 60 = .ok (.aload_n 1, 1) := by decide +kernel
theorem dL_randomLinker_61 : decode cL_randomLinker 61 = .ok (.ldc 157, 2) := by decide +kernel
theorem dL_randomLinker_63 : decode cL_randomLinker 63 = .ok (.invokestatic 147, 3) := by decide +kernel
theorem dL_randomLinker_66 : decode cL_randomLinker 66 = .ok (.iinc 6 1, 3) := by decide +kernel
theorem dL_randomLinker_69 : decode cL_randomLinker 69 = .ok (.goto (-38), 3) := by decide +kernel
theorem dL_randomLinker_72 : decode cL_randomLinker 72 = .ok (.aload_n 2, 1) := by decide +kernel
theorem dL_randomLinker_73 : decode cL_randomLinker 73 = .ok (.iload 4, 2) := by decide +kernel
theorem dL_randomLinker_75 : decode cL_randomLinker 75 = .ok (.iconst 1, 1) := by decide +kernel
theorem dL_randomLinker_76 : decode cL_randomLinker 76 = .ok (.iadd, 1) := by decide +kernel
theorem dL_randomLinker_77 : decode cL_randomLinker 77 = .ok (.invokevirtual 136, 3) := by decide +kernel
theorem dL_randomLinker_80 : decode cL_randomLinker 80 = .ok (.istore 6, 2) := by decide +kernel
theorem dL_randomLinker_82 : decode cL_randomLinker 82 = .ok (.aload 5, 2) := by decide +kernel
theorem dL_randomLinker_84 : decode cL_randomLinker 84 = .ok (.iload 6, 2) := by decide +kernel
theorem dL_randomLinker_86 : decode cL_randomLinker 86 = .ok (.anewarray 159, 3) := by decide +kernel
theorem dL_randomLinker_89 : decode cL_randomLinker 89 = .ok (.putfield 161, 3) := by decide +kernel
theorem dL_randomLinker_92 : decode cL_randomLinker 92 = .ok (.iconst 0, 1) := by decide +kernel
theorem dL_randomLinker_93 : decode cL_randomLinker 93 = .ok (.istore 7, 2) := by decide +kernel
theorem dL_randomLinker_95 : decode cL_randomLinker 95 = .ok (.iload 7, 2) := by decide +kernel
theorem dL_randomLinker_97 : decode cL_randomLinker 97 = .ok (.iload 6, 2) := by decide +kernel
theorem dL_randomLinker_99 : decode cL_randomLinker 99 = .ok (.if_icmp .ge 194, 3) := by decide +kernel
theorem dL_randomLinker_102 : decode cL_randomLinker 102 = .ok (.new 159, 3) := by decide +kernel
theorem dL_randomLinker_105 : decode cL_randomLinker 105 = .ok (.dup, 1) := by decide +kernel
theorem dL_randomLinker_106 : decode cL_randomLinker 106 = .ok (.invokespecial 165, 3) := by decide +kernel
theorem dL_randomLinker_109 : decode cL_randomLinker 109 = .ok (.astore 8, 2) := by decide +kernel
theorem dL_randomLinker_111 : decode cL_randomLinker 111 = .ok (.aload 8, 2) := by decide +kernel
theorem dL_randomLinker_113 : decode cL_randomLinker 113 = .ok (.aload_n 2, 1) := by decide +kernel
theorem dL_randomLinker_114 : decode cL_randomLinker 114 = .ok (.aload_n 2, 1) := by decide +kernel
theorem dL_randomLinker_115 : decode cL_randomLinker 115 = .ok (.iconst 3, 1) := by decide +kernel
theorem dL_randomLinker_116 : decode cL_randomLinker 116 = .ok (.invokevirtual 136, 3) := by decide +kernel
theorem dL_randomLinker_119 : decode cL_randomLinker 119 = .ok (.ifCond .ne 9, 3) := by decide +kernel
theorem dL_randomLinker_122 : decode cL_randomLinker 122 = .ok (.sipush 1000, 3) := by decide +kernel
theorem dL_randomLinker_125 : decode cL_randomLinker 125 = .ok (.goto 5, 3) := by decide +kernel
theorem dL_randomLinker_128 : decode cL_randomLinker 128 = .ok (.bipush 6, 2) := by decide +kernel
theorem dL_randomLinker_130 : decode cL_randomLinker 130 = .ok (.invokevirtual 136, 3) := by decide +kernel
theorem dL_randomLinker_133 : decode cL_randomLinker 133 = .ok (.putfield 166, 3) := by decide +kernel
theorem dL_randomLinker_136 : decode cL_randomLinker 136 = .ok (.aload 8, 2) := by decide +kernel
theorem dL_randomLinker_138 : decode cL_randomLinker 138 = .ok (.aload_n 2, 1) := by decide +kernel
theorem dL_randomLinker_139 : decode cL_randomLinker 139 = .ok (.iconst 2, 1) := by decide +kernel
theorem dL_randomLinker_140 : decode cL_randomLinker 140 = .ok (.invokevirtual 136, 3) := by decide +kernel
theorem dL_randomLinker_143 : decode cL_randomLinker 143 = .ok (.ifCond .ne 7, 3) := by decide +kernel
theorem dL_randomLinker_146 : decode cL_randomLinker 146 = .ok (.iconst 1, 1) := by decide +kernel
theorem dL_randomLinker_147 : decode cL_randomLinker 147 = .ok (.goto 4, 3) := by decide +kernel
theorem dL_randomLinker_150 : decode cL_randomLinker 150 = .ok (.iconst 0, 1) := by decide +kernel
theorem dL_randomLinker_151 : decode cL_randomLinker 151 = .ok (.putfield 169, 3) := by decide +kernel
theorem dL_randomLinker_154 : decode cL_randomLinker 154 = .ok (.aload 8, 2) := by decide +kernel
theorem dL_randomLinker_156 : decode cL_randomLinker 156 = .ok (.aload 5, 2) := by decide +kernel
theorem dL_randomLinker_158 : decode cL_randomLinker 158 = .ok (.getfield 141, 3) := by decide +kernel
theorem dL_randomLinker_161 : decode cL_randomLinker 161 = .ok (.newarray .int, 2) := by decide +kernel
theorem dL_randomLinker_163 : decode cL_randomLinker 163 = .ok (.putfield 172, 3) := by decide +kernel
theorem dL_randomLinker_166 : decode cL_randomLinker 166 = .ok (.iconst 0, 1) := by decide +kernel
theorem dL_randomLinker_167 : decode cL_randomLinker 167 = .ok (.istore 9, 2) := by decide +kernel
theorem dL_randomLinker_169 : decode cL_randomLinker 169 = .ok (.iload 9, 2) := by decide +kernel
theorem dL_randomLinker_171 : decode cL_randomLinker 171 = .ok (.aload 5, 2) := by decide +kernel
theorem dL_randomLinker_173 : decode cL_randomLinker 173 = .ok (.getfield 141, 3) := by decide +kernel
theorem dL_randomLinker_176 : decode cL_randomLinker 176 = .ok (.if_icmp .ge 18, 3) := by decide +kernel
theorem dL_randomLinker_179 : decode cL_randomLinker 179 = .ok (.aload 8, 2) := by decide +kernel
theorem dL_randomLinker_181 : decode cL_randomLinker 181 = .ok (.getfield 172, 3) := by decide +kernel
theorem dL_randomLinker_184 : decode cL_randomLinker 184 = .ok (.iload 9, 2) := by decide +kernel
theorem dL_randomLinker_186 : decode cL_randomLinker 186 = .ok (.iconst (-1), 1) := by decide +kernel
theorem dL_randomLinker_187 : decode cL_randomLinker 187 = .ok (.iastore, 1) := by decide +kernel
theorem dL_randomLinker_188 : decode cL_randomLinker 188 = .ok (.iinc 9 1, 3) := by decide +kernel
theorem dL_randomLinker_191 : decode cL_randomLinker 191 = .ok (.goto (-22), 3) := by decide +kernel
theorem dL_randomLinker_194 : decode cL_randomLinker 194 = .ok (.aload_n 0, 1) := by decide +kernel
theorem dL_randomLinker_195 : decode cL_randomLinker 195 = .ok (.aload_n 1, 1) := by decide +kernel
theorem dL_randomLinker_196 : decode cL_randomLinker 196 = .ok (.ldc 176, 2) := by decide +kernel
theorem dL_randomLinker_198 : decode cL_randomLinker 198 = .ok (.invokestatic 147, 3) := by decide +kernel
theorem dL_randomLinker_201 : decode cL_randomLinker 201 = .ok (.aload_n 0, 1) := by decide +kernel
theorem dL_randomLinker_202 : decode cL_randomLinker 202 = .ok (.aload_n 1, 1) := by decide +kernel
theorem dL_randomLinker_203 : decode cL_randomLinker 203 = .ok (.iload 7, 2) := by decide +kernel
theorem dL_randomLinker_205 : decode cL_randomLinker 205 = .ok (.iconst 0, 1) := by decide +kernel
theorem dL_randomLinker_206 : decode cL_randomLinker 206 = .ok (.invokestatic 153, 3) := by decide +kernel
theorem dL_randomLinker_209 : decode cL_randomLinker 209 = .ok (.invokestatic 147, 3) := by decide +kernel
theorem dL_randomLinker_212 : decode cL_randomLinker 212 = .ok (.aload_n 0, 1) := by decide +kernel
theorem dL_randomLinker_213 : decode cL_randomLinker 213 = .ok (.aload_n 1, 1) := by decide +kernel
theorem dL_randomLinker_214 : decode cL_randomLinker 214 = .ok (.aload_n 2, 1) := by decide +kernel
theorem dL_randomLinker_215 : decode cL_randomLinker 215 = .ok (.iconst 2, 1) := by decide +kernel
theorem dL_randomLinker_216 : decode cL_randomLinker 216 = .ok (.invokevirtual 136, 3) := by decide +kernel
theorem dL_randomLinker_219 : decode cL_randomLinker 219 = .ok (.ifCond .ne 8, 3) := by decide +kernel
theorem dL_randomLinker_222 : decode cL_randomLinker 222 = .ok (.ldc 178, 2) := by decide +kernel
theorem dL_randomLinker_224 : decode cL_randomLinker 224 = .ok (.goto 5, 3) := by decide +kernel
theorem dL_randomLinker_227 : decode cL_randomLinker 227 = .ok (.ldc 180, 2) := by decide +kernel
theorem dL_randomLinker_229 : decode cL_randomLinker 229 = .ok (.invokestatic 147, 3) := by decide +kernel
theorem dL_randomLinker_232 : decode cL_randomLinker 232 = .ok (.aload_n 0, 1) := by decide +kernel
theorem dL_randomLinker_233 : decode cL_randomLinker 233 = .ok (.aload_n 1, 1) := by decide +kernel
theorem dL_randomLinker_234 : decode cL_randomLinker 234 = .ok (.aload 8, 2) := by decide +kernel
theorem dL_randomLinker_236 : decode cL_randomLinker 236 = .ok (.getfield 166, 3) := by decide +kernel
theorem dL_randomLinker_239 : decode cL_randomLinker 239 = .ok (.invokestatic 182, 3) := by decide +kernel
theorem dL_randomLinker_242 : decode cL_randomLinker 242 = .ok (.aload_n 0, 1) := by decide +kernel
theorem dL_randomLinker_243 : decode cL_randomLinker 243 = .ok (.aload_n 1, 1) := by decide +kernel
theorem dL_randomLinker_244 : decode cL_randomLinker 244 = .ok (.aload 8, 2) := by decide +kernel
theorem dL_randomLinker_246 : decode cL_randomLinker 246 = .ok (.getfield 169, 3) := by decide +kernel
theorem dL_randomLinker_249 : decode cL_randomLinker 249 = .ok (.ifCond .eq 8, 3) := by decide +kernel
theorem dL_randomLinker_252 : decode cL_randomLinker 252 = .ok (.ldc 185, 2) := by decide +kernel
theorem dL_randomLinker_254 : decode cL_randomLinker 254 = .ok (.goto 5, 3) := by decide +kernel
theorem dL_randomLinker_257 : decode cL_randomLinker 257 = .ok (.ldc 157, 2) := by decide +kernel
theorem dL_randomLinker_259 : decode cL_randomLinker 259 = .ok (.invokestatic 147, 3) := by decide +kernel
theorem dL_randomLinker_262 : decode cL_randomLinker 262 = .ok (.aload 5, 2) := by decide +kernel
theorem dL_randomLinker_264 : decode cL_randomLinker 264 = .ok (.getfield 161, 3) := by decide +kernel
theorem dL_randomLinker_267 : decode cL_randomLinker 267 = .ok (.iload 7, 2) := by decide +kernel
theorem dL_randomLinker_269 : decode cL_randomLinker 269 = .ok (.aload 8, 2) := by decide +kernel
theorem dL_randomLinker_271 : decode cL_randomLinker 271 = .ok (.aastore, 1) := by decide +kernel
theorem dL_randomLinker_272 : decode cL_randomLinker 272 = .ok (.aload 5, 2) := by decide +kernel
theorem dL_randomLinker_274 : decode cL_randomLinker 274 = .ok (.aload 5, 2) := by decide +kernel
theorem dL_randomLinker_276 : decode cL_randomLinker 276 = .ok (.getfield 187, 3) := by decide +kernel
theorem dL_randomLinker_279 : decode cL_randomLinker 279 = .ok (.iload 7, 2) := by decide +kernel
theorem dL_randomLinker_281 : decode cL_randomLinker 281 = .ok (.invokestatic 190, 3) := by decide +kernel
theorem dL_randomLinker_284 : decode cL_randomLinker 284 = .ok (.putfield 187, 3) := by decide +kernel
theorem dL_randomLinker_287 : decode cL_randomLinker 287 = .ok (.iinc 7 1, 3) := by decide +kernel
theorem dL_randomLinker_290 : decode cL_randomLinker 290 = .ok (.goto (-195), 3) := by decide +kernel
theorem dL_randomLinker_293 : decode cL_randomLinker 293 = .ok (.aload_n 2, 1) := by decide +kernel
theorem dL_randomLinker_294 : decode cL_randomLinker 294 = .ok (.bipush 9, 2) := by decide +kernel
theorem dL_randomLinker_296 : decode cL_randomLinker 296 = .ok (.invokevirtual 136, 3) := by decide +kernel
theorem dL_randomLinker_299 : decode cL_randomLinker 299 = .ok (.istore 7, 2) := by decide +kernel
theorem dL_randomLinker_301 : decode cL_randomLinker 301 = .ok (.iload 7, 2) := by decide +kernel
theorem dL_randomLinker_303 : decode cL_randomLinker 303 = .ok (.ifCond .le 196, 3) := by decide +kernel
theorem dL_randomLinker_306 : decode cL_randomLinker 306 = .ok (.iload 6, 2) := by decide +kernel
theorem dL_randomLinker_308 : decode cL_randomLinker 308 = .ok (.ifCond .le 191, 3) := by decide +kernel
theorem dL_randomLinker_311 : decode cL_randomLinker 311 = .ok (.aload 5, 2) := by decide +kernel
theorem dL_randomLinker_313 : decode cL_randomLinker 313 = .ok (.getfield 141, 3) := by decide +kernel
theorem dL_randomLinker_316 : decode cL_randomLinker 316 = .ok (.ifCond .le 183, 3) := by decide +kernel
theorem dL_randomLinker_319 : decode cL_randomLinker 319 = .ok (.aload_n 2, 1) := by decide +kernel
theorem dL_randomLinker_320 : decode cL_randomLinker 320 = .ok (.iload 6, 2) := by decide +kernel
theorem dL_randomLinker_322 : decode cL_randomLinker 322 = .ok (.invokevirtual 136, 3) := by decide +kernel
theorem dL_randomLinker_325 : decode cL_randomLinker 325 = .ok (.istore 8, 2) := by decide +kernel
theorem dL_randomLinker_327 : decode cL_randomLinker 327 = .ok (.aload_n 2, 1) := by decide +kernel
theorem dL_randomLinker_328 : decode cL_randomLinker 328 = .ok (.aload 5, 2) := by decide +kernel
theorem dL_randomLinker_330 : decode cL_randomLinker 330 = .ok (.getfield 141, 3) := by decide +kernel
theorem dL_randomLinker_333 : decode cL_randomLinker 333 = .ok (.invokevirtual 136, 3) := by decide +kernel
theorem dL_randomLinker_336 : decode cL_randomLinker 336 = .ok (.istore 9, 2) := by decide +kernel
theorem dL_randomLinker_338 : decode cL_randomLinker 338 = .ok (.aload 5, 2) := by decide +kernel
theorem dL_randomLinker_340 : decode cL_randomLinker 340 = .ok (.getfield 161, 3) := by decide +kernel
theorem dL_randomLinker_343 : decode cL_randomLinker 343 = .ok (.iload 8, 2) := by decide +kernel
theorem dL_randomLinker_345 : decode cL_randomLinker 345 = .ok (.aaload, 1) := by decide +kernel
theorem dL_randomLinker_346 : decode cL_randomLinker 346 = .ok (.getfield 172, 3) := by decide +kernel
theorem dL_randomLinker_349 : decode cL_randomLinker 349 = .ok (.iload 9, 2) := by decide +kernel
theorem dL_randomLinker_351 : decode cL_randomLinker 351 = .ok (.iaload, 1) := by decide +kernel
theorem dL_randomLinker_352 : decode cL_randomLinker 352 = .ok (.iconst (-1), 1) := by decide +kernel
theorem dL_randomLinker_353 : decode cL_randomLinker 353 = .ok (.if_icmp .eq 6, 3) := by decide +kernel
theorem dL_randomLinker_356 : decode cL_randomLinker 356 = .ok (.goto 137, 3) := by decide +kernel
theorem dL_randomLinker_359 : decode cL_randomLinker 359 = .ok (.aload_n 2, 1) := by decide +kernel
theorem dL_randomLinker_360 : decode cL_randomLinker 360 = .ok (.iconst 2, 1) := by decide +kernel
theorem dL_randomLinker_361 : decode cL_randomLinker 361 = .ok (.invokevirtual 136, 3) := by decide +kernel
theorem dL_randomLinker_364 : decode cL_randomLinker 364 = .ok (.ifCond .ne 13, 3) := by decide +kernel
theorem dL_randomLinker_367 : decode cL_randomLinker 367 = .ok (.aload_n 2, 1) := by decide +kernel
theorem dL_randomLinker_368 : decode cL_randomLinker 368 = .ok (.sipush 10000, 3) := by decide +kernel
theorem dL_randomLinker_371 : decode cL_randomLinker 371 = .ok (.invokevirtual 136, 3) := by decide +kernel
theorem dL_randomLinker_374 : decode cL_randomLinker 374 = .ok (.goto 15, 3) := by decide +kernel
theorem dL_randomLinker_377 : decode cL_randomLinker 377 = .ok (.bipush (-2), 2) := by decide +kernel
theorem dL_randomLinker_379 : decode cL_randomLinker 379 = .ok (.aload_n 2, 1) := by decide +kernel
theorem dL_randomLinker_380 : decode cL_randomLinker 380 = .ok (.aload 5, 2) := by decide +kernel
theorem dL_randomLinker_382 : decode cL_randomLinker 382 = .ok (.getfield 141, 3) := by decide +kernel
theorem dL_randomLinker_385 : decode cL_randomLinker 385 = .ok (.invokevirtual 136, 3) := by decide +kernel
theorem dL_randomLinker_388 : decode cL_randomLinker 388 = .ok (.isub, 1) := by decide +kernel
theorem dL_randomLinker_389 : decode cL_randomLinker 389 = .ok (.istore 10, 2) := by decide +kernel
theorem dL_randomLinker_391 : decode cL_randomLinker 391 = .ok (.aload 5, 2) := by decide +kernel
theorem dL_randomLinker_393 : decode cL_randomLinker 393 = .ok (.getfield 161, 3) := by decide +kernel
theorem dL_randomLinker_396 : decode cL_randomLinker 396 = .ok (.iload 8, 2) := by decide +kernel
theorem dL_randomLinker_398 : decode cL_randomLinker 398 = .ok (.aaload, 1) := by decide +kernel
theorem dL_randomLinker_399 : decode cL_randomLinker 399 = .ok (.getfield 172, 3) := by decide +kernel
theorem dL_randomLinker_402 : decode cL_randomLinker 402 = .ok (.iload 9, 2) := by decide +kernel
theorem dL_randomLinker_404 : decode cL_randomLinker 404 = .ok (.iload 10, 2) := by decide +kernel
theorem dL_randomLinker_406 : decode cL_randomLinker 406 = .ok (.iastore, 1) := by decide +kernel
theorem dL_randomLinker_407 : decode cL_randomLinker 407 = .ok (.aload_n 0, 1) := by decide +kernel
theorem dL_randomLinker_408 : decode cL_randomLinker 408 = .ok (.aload_n 1, 1) := by decide +kernel
theorem dL_randomLinker_409 : decode cL_randomLinker 409 = .ok (.ldc 194, 2) := by decide +kernel
theorem dL_randomLinker_411 : decode cL_randomLinker 411 = .ok (.invokestatic 147, 3) := by decide +kernel
theorem dL_randomLinker_414 : decode cL_randomLinker 414 = .ok (.aload_n 0, 1) := by decide +kernel
theorem dL_randomLinker_415 : decode cL_randomLinker 415 = .ok (.aload_n 1, 1) := by decide +kernel
theorem dL_randomLinker_416 : decode cL_randomLinker 416 = .ok (.iload 8, 2) := by decide +kernel
theorem dL_randomLinker_418 : decode cL_randomLinker 418 = .ok (.iconst 0, 1) := by decide +kernel
theorem dL_randomLinker_419 : decode cL_randomLinker 419 = .ok (.invokestatic 153, 3) := by decide +kernel
theorem dL_randomLinker_422 : decode cL_randomLinker 422 = .ok (.invokestatic 147, 3) := by decide +kernel
theorem dL_randomLinker_425 : decode cL_randomLinker 425 = .ok (.aload_n 0, 1) := by decide +kernel
theorem dL_randomLinker_426 : decode cL_randomLinker 426 = .ok (.aload_n 1, 1) := by decide +kernel
theorem dL_randomLinker_427 : decode cL_randomLinker 427 = .ok (.ldc 178, 2) := by decide +kernel
theorem dL_randomLinker_429 : decode cL_randomLinker 429 = .ok (.invokestatic 147, 3) := by decide +kernel
theorem dL_randomLinker_432 : decode cL_randomLinker 432 = .ok (.aload_n 0, 1) := by decide +kernel
theorem dL_randomLinker_433 : decode cL_randomLinker 433 = .ok (.aload_n 1, 1) := by decide +kernel
theorem dL_randomLinker_434 : decode cL_randomLinker 434 = .ok (.iload 9, 2) := by decide +kernel
theorem dL_randomLinker_436 : decode cL_randomLinker 436 = .ok (.iconst 1, 1) := by decide +kernel
theorem dL_randomLinker_437 : decode cL_randomLinker 437 = .ok (.invokestatic 153, 3) := by decide +kernel
theorem dL_randomLinker_440 : decode cL_randomLinker 440 = .ok (.invokestatic 147, 3) := by decide +kernel
theorem dL_randomLinker_443 : decode cL_randomLinker 443 = .ok (.aload_n 0, 1) := by decide +kernel
theorem dL_randomLinker_444 : decode cL_randomLinker 444 = .ok (.aload_n 1, 1) := by decide +kernel
theorem dL_randomLinker_445 : decode cL_randomLinker 445 = .ok (.ldc 178, 2) := by decide +kernel
theorem dL_randomLinker_447 : decode cL_randomLinker 447 = .ok (.invokestatic 147, 3) := by decide +kernel
theorem dL_randomLinker_450 : decode cL_randomLinker 450 = .ok (.iload 10, 2) := by decide +kernel
theorem dL_randomLinker_452 : decode cL_randomLinker 452 = .ok (.ifCond .ge 27, 3) := by decide +kernel
theorem dL_randomLinker_455 : decode cL_randomLinker 455 = .ok (.aload_n 0, 1) := by decide +kernel
theorem dL_randomLinker_456 : decode cL_randomLinker 456 = .ok (.aload_n 1, 1) := by decide +kernel
theorem dL_randomLinker_457 : decode cL_randomLinker 457 = .ok (.ldc 196, 2) := by decide +kernel
theorem dL_randomLinker_459 : decode cL_randomLinker 459 = .ok (.invokestatic 147, 3) := by decide +kernel
theorem dL_randomLinker_462 : decode cL_randomLinker 462 = .ok (.aload_n 0, 1) := by decide +kernel
theorem dL_randomLinker_463 : decode cL_randomLinker 463 = .ok (.aload_n 1, 1) := by decide +kernel
theorem dL_randomLinker_464 : decode cL_randomLinker 464 = .ok (.bipush (-2), 2) := by decide +kernel
theorem dL_randomLinker_466 : decode cL_randomLinker 466 = .ok (.iload 10, 2) := by decide +kernel
theorem dL_randomLinker_468 : decode cL_randomLinker 468 = .ok (.isub, 1) := by decide +kernel
theorem dL_randomLinker_469 : decode cL_randomLinker 469 = .ok (.iconst 1, 1) := by decide +kernel
theorem dL_randomLinker_470 : decode cL_randomLinker 470 = .ok (.invokestatic 153, 3) := by decide +kernel
theorem dL_randomLinker_473 : decode cL_randomLinker 473 = .ok (.invokestatic 147, 3) := by decide +kernel
theorem dL_randomLinker_476 : decode cL_randomLinker 476 = .ok (.goto 10, 3) := by decide +kernel
theorem dL_randomLinker_479 : decode cL_randomLinker 479 = .ok (.aload_n 0, 1) := by decide +kernel
theorem dL_randomLinker_480 : decode cL_randomLinker 480 = .ok (.aload_n 1, 1) := by decide +kernel
theorem dL_randomLinker_481 : decode cL_randomLinker 481 = .ok (.iload 10, 2) := by decide +kernel
theorem dL_randomLinker_483 : decode cL_randomLinker 483 = .ok (.invokestatic 182, 3) := by decide +kernel
theorem dL_randomLinker_486 : decode cL_randomLinker 486 = .ok (.aload_n 0, 1) := by decide +kernel
theorem dL_randomLinker_487 : decode cL_randomLinker 487 = .ok (.aload_n 1, 1) := by decide +kernel
theorem dL_randomLinker_488 : decode cL_randomLinker 488 = .ok (.ldc 157, 2) := by decide +kernel
theorem dL_randomLinker_490 : decode cL_randomLinker 490 = .ok (.invokestatic 147, 3) := by decide +kernel
theorem dL_randomLinker_493 : decode cL_randomLinker 493 = .ok (.iinc 7 (-1), 3) := by decide +kernel
theorem dL_randomLinker_496 : decode cL_randomLinker 496 = .ok (.goto (-195), 3) := by decide +kernel
theorem dL_randomLinker_499 : decode cL_randomLinker 499 = .ok (.aload_n 2, 1) := by decide +kernel
theorem dL_randomLinker_500 : decode cL_randomLinker 500 = .ok (.bipush 8, 2) := by decide +kernel
theorem dL_randomLinker_502 : decode cL_randomLinker 502 = .ok (.invokevirtual 136, 3) := by decide +kernel
theorem dL_randomLinker_505 : decode cL_randomLinker 505 = .ok (.istore 7, 2) := by decide +kernel
theorem dL_randomLinker_507 : decode cL_randomLinker 507 = .ok (.iload 7, 2) := by decide +kernel
theorem dL_randomLinker_509 : decode cL_randomLinker 509 = .ok (.ifCond .le 130, 3) := by decide +kernel
theorem dL_randomLinker_512 : decode cL_randomLinker 512 = .ok (.iload 6, 2) := by decide +kernel
theorem dL_randomLinker_514 : decode cL_randomLinker 514 = .ok (.iconst 1, 1) := by decide +kernel
theorem dL_randomLinker_515 : decode cL_randomLinker 515 = .ok (.if_icmp .le 124, 3) := by decide +kernel
theorem dL_randomLinker_518 : decode cL_randomLinker 518 = .ok (.aload_n 2, 1) := by decide +kernel
theorem dL_randomLinker_519 : decode cL_randomLinker 519 = .ok (.iload 6, 2) := by decide +kernel
theorem dL_randomLinker_521 : decode cL_randomLinker 521 = .ok (.invokevirtual 136, 3) := by decide +kernel
theorem dL_randomLinker_524 : decode cL_randomLinker 524 = .ok (.istore 8, 2) := by decide +kernel
theorem dL_randomLinker_526 : decode cL_randomLinker 526 = .ok (.aload_n 2, 1) := by decide +kernel
theorem dL_randomLinker_527 : decode cL_randomLinker 527 = .ok (.iload 6, 2) := by decide +kernel
theorem dL_randomLinker_529 : decode cL_randomLinker 529 = .ok (.invokevirtual 136, 3) := by decide +kernel
theorem dL_randomLinker_532 : decode cL_randomLinker 532 = .ok (.istore 9, 2) := by decide +kernel
theorem dL_randomLinker_534 : decode cL_randomLinker 534 = .ok (.iload 8, 2) := by decide +kernel
theorem dL_randomLinker_536 : decode cL_randomLinker 536 = .ok (.iload 9, 2) := by decide +kernel
theorem dL_randomLinker_538 : decode cL_randomLinker 538 = .ok (.if_icmp .eq 95, 3) := by decide +kernel
theorem dL_randomLinker_541 : decode cL_randomLinker 541 = .ok (.aload 5, 2) := by decide +kernel
theorem dL_randomLinker_543 : decode cL_randomLinker 543 = .ok (.getfield 161, 3) := by decide +kernel
theorem dL_randomLinker_546 : decode cL_randomLinker 546 = .ok (.iload 8, 2) := by decide +kernel
theorem dL_randomLinker_548 : decode cL_randomLinker 548 = .ok (.aaload, 1) := by decide +kernel
theorem dL_randomLinker_549 : decode cL_randomLinker 549 = .ok (.getfield 198, 3) := by decide +kernel
theorem dL_randomLinker_552 : decode cL_randomLinker 552 = .ok (.iload 9, 2) := by decide +kernel
theorem dL_randomLinker_554 : decode cL_randomLinker 554 = .ok (.invokestatic 201, 3) := by decide +kernel
theorem dL_randomLinker_557 : decode cL_randomLinker 557 = .ok (.ifCond .eq 6, 3) := by decide +kernel
theorem dL_randomLinker_560 : decode cL_randomLinker 560 = .ok (.goto 73, 3) := by decide +kernel
theorem dL_randomLinker_563 : decode cL_randomLinker 563 = .ok (.aload 5, 2) := by decide +kernel
theorem dL_randomLinker_565 : decode cL_randomLinker 565 = .ok (.getfield 161, 3) := by decide +kernel
theorem dL_randomLinker_568 : decode cL_randomLinker 568 = .ok (.iload 8, 2) := by decide +kernel
theorem dL_randomLinker_570 : decode cL_randomLinker 570 = .ok (.aaload, 1) := by decide +kernel
theorem dL_randomLinker_571 : decode cL_randomLinker 571 = .ok (.aload 5, 2) := by decide +kernel
theorem dL_randomLinker_573 : decode cL_randomLinker 573 = .ok (.getfield 161, 3) := by decide +kernel
theorem dL_randomLinker_576 : decode cL_randomLinker 576 = .ok (.iload 8, 2) := by decide +kernel
theorem dL_randomLinker_578 : decode cL_randomLinker 578 = .ok (.aaload, 1) := by decide +kernel
theorem dL_randomLinker_579 : decode cL_randomLinker 579 = .ok (.getfield 198, 3) := by decide +kernel
theorem dL_randomLinker_582 : decode cL_randomLinker 582 = .ok (.iload 9, 2) := by decide +kernel
theorem dL_randomLinker_584 : decode cL_randomLinker 584 = .ok (.invokestatic 190, 3) := by decide +kernel
theorem dL_randomLinker_587 : decode cL_randomLinker 587 = .ok (.putfield 198, 3) := by decide +kernel
theorem dL_randomLinker_590 : decode cL_randomLinker 590 = .ok (.aload_n 0, 1) := by decide +kernel
theorem dL_randomLinker_591 : decode cL_randomLinker 591 = .ok (.aload_n 1, 1) := by decide +kernel
theorem dL_randomLinker_592 : decode cL_randomLinker 592 = .ok (.ldc 205, 2) := by decide +kernel
theorem dL_randomLinker_594 : decode cL_randomLinker 594 = .ok (.invokestatic 147, 3) := by decide +kernel
theorem dL_randomLinker_597 : decode cL_randomLinker 597 = .ok (.aload_n 0, 1) := by decide +kernel
theorem dL_randomLinker_598 : decode cL_randomLinker 598 = .ok (.aload_n 1, 1) := by decide +kernel
theorem dL_randomLinker_599 : decode cL_randomLinker 599 = .ok (.iload 8, 2) := by decide +kernel
theorem dL_randomLinker_601 : decode cL_randomLinker 601 = .ok (.iconst 0, 1) := by decide +kernel
theorem dL_randomLinker_602 : decode cL_randomLinker 602 = .ok (.invokestatic 153, 3) := by decide +kernel
theorem dL_randomLinker_605 : decode cL_randomLinker 605 = .ok (.invokestatic 147, 3) := by decide +kernel
theorem dL_randomLinker_608 : decode cL_randomLinker 608 = .ok (.aload_n 0, 1) := by decide +kernel
theorem dL_randomLinker_609 : decode cL_randomLinker 609 = .ok (.aload_n 1, 1) := by decide +kernel
theorem dL_randomLinker_610 : decode cL_randomLinker 610 = .ok (.ldc 178, 2) := by decide +kernel
theorem dL_randomLinker_612 : decode cL_randomLinker 612 = .ok (.invokestatic 147, 3) := by decide +kernel
theorem dL_randomLinker_615 : decode cL_randomLinker 615 = .ok (.aload_n 0, 1) := by decide +kernel
theorem dL_randomLinker_616 : decode cL_randomLinker 616 = .ok (.aload_n 1, 1) := by decide +kernel
theorem dL_randomLinker_617 : decode cL_randomLinker 617 = .ok (.iload 9, 2) := by decide +kernel
theorem dL_randomLinker_619 : decode cL_randomLinker 619 = .ok (.iconst 0, 1) := by decide +kernel
theorem dL_randomLinker_620 : decode cL_randomLinker 620 = .ok (.invokestatic 153, 3) := by decide +kernel
theorem dL_randomLinker_623 : decode cL_randomLinker 623 = .ok (.invokestatic 147, 3) := by decide +kernel
theorem dL_randomLinker_626 : decode cL_randomLinker 626 = .ok (.aload_n 0, 1) := by decide +kernel
theorem dL_randomLinker_627 : decode cL_randomLinker 627 = .ok (.aload_n 1, 1) := by decide +kernel
theorem dL_randomLinker_628 : decode cL_randomLinker 628 = .ok (.ldc 207, 2) := by decide +kernel
theorem dL_randomLinker_630 : decode cL_randomLinker 630 = .ok (.invokestatic 147, 3) := by decide +kernel
theorem dL_randomLinker_633 : decode cL_randomLinker 633 = .ok (.iinc 7 (-1), 3) := by decide +kernel
theorem dL_randomLinker_636 : decode cL_randomLinker 636 = .ok (.goto (-129), 3) := by decide +kernel
theorem dL_randomLinker_639 : decode cL_randomLinker 639 = .ok (.aload_n 2, 1) := by decide +kernel
theorem dL_randomLinker_640 : decode cL_randomLinker 640 = .ok (.iconst 2, 1) := by decide +kernel
theorem dL_randomLinker_641 : decode cL_randomLinker 641 = .ok (.invokevirtual 136, 3) := by decide +kernel
theorem dL_randomLinker_644 : decode cL_randomLinker 644 = .ok (.ifCond .ne 38, 3) := by decide +kernel
theorem dL_randomLinker_647 : decode cL_randomLinker 647 = .ok (.aload 5, 2) := by decide +kernel
theorem dL_randomLinker_649 : decode cL_randomLinker 649 = .ok (.aload_n 2, 1) := by decide +kernel
theorem dL_randomLinker_650 : decode cL_randomLinker 650 = .ok (.bipush 101, 2) := by decide +kernel
theorem dL_randomLinker_652 : decode cL_randomLinker 652 = .ok (.invokevirtual 136, 3) := by decide +kernel
theorem dL_randomLinker_655 : decode cL_randomLinker 655 = .ok (.putfield 209, 3) := by decide +kernel
theorem dL_randomLinker_658 : decode cL_randomLinker 658 = .ok (.aload_n 0, 1) := by decide +kernel
theorem dL_randomLinker_659 : decode cL_randomLinker 659 = .ok (.aload_n 1, 1) := by decide +kernel
theorem dL_randomLinker_660 : decode cL_randomLinker 660 = .ok (.ldc 212, 2) := by decide +kernel
theorem dL_randomLinker_662 : decode cL_randomLinker 662 = .ok (.invokestatic 147, 3) := by decide +kernel
theorem dL_randomLinker_665 : decode cL_randomLinker 665 = .ok (.aload_n 0, 1) := by decide +kernel
theorem dL_randomLinker_666 : decode cL_randomLinker 666 = .ok (.aload_n 1, 1) := by decide +kernel
theorem dL_randomLinker_667 : decode cL_randomLinker 667 = .ok (.aload 5, 2) := by decide +kernel
theorem dL_randomLinker_669 : decode cL_randomLinker 669 = .ok (.getfield 209, 3) := by decide +kernel
theorem dL_randomLinker_672 : decode cL_randomLinker 672 = .ok (.invokestatic 182, 3) := by decide +kernel
theorem dL_randomLinker_675 : decode cL_randomLinker 675 = .ok (.aload_n 0, 1) := by decide +kernel
theorem dL_randomLinker_676 : decode cL_randomLinker 676 = .ok (.aload_n 1, 1) := by decide +kernel
theorem dL_randomLinker_677 : decode cL_randomLinker 677 = .ok (.ldc 157, 2) := by decide +kernel
theorem dL_randomLinker_679 : decode cL_randomLinker 679 = .ok (.invokestatic 147, 3) := by decide +kernel
theorem dL_randomLinker_682 : decode cL_randomLinker 682 = .ok (.aload_n 2, 1) := by decide +kernel
theorem dL_randomLinker_683 : decode cL_randomLinker 683 = .ok (.iconst 2, 1) := by decide +kernel
theorem dL_randomLinker_684 : decode cL_randomLinker 684 = .ok (.invokevirtual 136, 3) := by decide +kernel
theorem dL_randomLinker_687 : decode cL_randomLinker 687 = .ok (.ifCond .ne 45, 3) := by decide +kernel
theorem dL_randomLinker_690 : decode cL_randomLinker 690 = .ok (.aload 5, 2) := by decide +kernel
theorem dL_randomLinker_692 : decode cL_randomLinker 692 = .ok (.aload_n 2, 1) := by decide +kernel
theorem dL_randomLinker_693 : decode cL_randomLinker 693 = .ok (.aload_n 2, 1) := by decide +kernel
theorem dL_randomLinker_694 : decode cL_randomLinker 694 = .ok (.iconst 3, 1) := by decide +kernel
theorem dL_randomLinker_695 : decode cL_randomLinker 695 = .ok (.invokevirtual 136, 3) := by decide +kernel
theorem dL_randomLinker_698 : decode cL_randomLinker 698 = .ok (.invokestatic 214, 3) := by decide +kernel
theorem dL_randomLinker_701 : decode cL_randomLinker 701 = .ok (.putfield 220, 3) := by decide +kernel
theorem dL_randomLinker_704 : decode cL_randomLinker 704 = .ok (.aload_n 0, 1) := by decide +kernel
theorem dL_randomLinker_705 : decode cL_randomLinker 705 = .ok (.aload_n 1, 1) := by decide +kernel
theorem dL_randomLinker_706 : decode cL_randomLinker 706 = .ok (.ldc 224, 2) := by decide +kernel
theorem dL_randomLinker_708 : decode cL_randomLinker 708 = .ok (.invokestatic 147, 3) := by decide +kernel
theorem dL_randomLinker_711 : decode cL_randomLinker 711 = .ok (.aload_n 0, 1) := by decide +kernel
theorem dL_randomLinker_712 : decode cL_randomLinker 712 = .ok (.aload_n 1, 1) := by decide +kernel
theorem dL_randomLinker_713 : decode cL_randomLinker 713 = .ok (.aload 5, 2) := by decide +kernel
theorem dL_randomLinker_715 : decode cL_randomLinker 715 = .ok (.getfield 220, 3) := by decide +kernel
theorem dL_randomLinker_718 : decode cL_randomLinker 718 = .ok (.iconst 0, 1) := by decide +kernel
theorem dL_randomLinker_719 : decode cL_randomLinker 719 = .ok (.invokevirtual 226, 3) := by decide +kernel
theorem dL_randomLinker_722 : decode cL_randomLinker 722 = .ok (.invokestatic 147, 3) := by decide +kernel
theorem dL_randomLinker_725 : decode cL_randomLinker 725 = .ok (.aload_n 0, 1) := by decide +kernel
theorem dL_randomLinker_726 : decode cL_randomLinker 726 = .ok (.aload_n 1, 1) := by decide +kernel
theorem dL_randomLinker_727 : decode cL_randomLinker 727 = .ok (.ldc 157, 2) := by decide +kernel
theorem dL_randomLinker_729 : decode cL_randomLinker 729 = .ok (.invokestatic 147, 3) := by decide +kernel
theorem dL_randomLinker_732 : decode cL_randomLinker 732 = .ok (.aload_n 0, 1) := by decide +kernel
theorem dL_randomLinker_733 : decode cL_randomLinker 733 = .ok (.aload_n 1, 1) := by decide +kernel
theorem dL_randomLinker_734 : decode cL_randomLinker 734 = .ok (.invokestatic 230, 3) := by decide +kernel
theorem dL_randomLinker_737 : decode cL_randomLinker 737 = .ok (.iload 6, 2) := by decide +kernel
theorem dL_randomLinker_739 : decode cL_randomLinker 739 = .ok (.if_icmp .ne 8, 3) := by decide +kernel
theorem dL_randomLinker_742 : decode cL_randomLinker 742 = .ok (.aload 5, 2) := by decide +kernel
theorem dL_randomLinker_744 : decode cL_randomLinker 744 = .ok (.goto 4, 3) := by decide +kernel
theorem dL_randomLinker_747 : decode cL_randomLinker 747 = .ok (.aconst_null, 1) := by decide +kernel
theorem dL_randomLinker_748 : decode cL_randomLinker 748 = .ok (.areturn, 1) := by decide +kernel
theorem dL_agrees_0 : decode cL_agrees 0 = .ok (.aload_n 0, 1) := by decide +kernel
theorem dL_agrees_1 : decode cL_agrees 1 = .ok (.invokevirtual 234, 3) := by decide +kernel
theorem dL_agrees_4 : decode cL_agrees 4 = .ok (.aload_n 1, 1) := by decide +kernel
theorem dL_agrees_5 : decode cL_agrees 5 = .ok (.getfield 161, 3) := by decide +kernel
theorem dL_agrees_8 : decode cL_agrees 8 = .ok (.arraylength, 1) := by decide +kernel
theorem dL_agrees_9 : decode cL_agrees 9 = .ok (.if_icmp .ne 41, 3) := by decide +kernel
theorem dL_agrees_12 : decode cL_agrees 12 = .ok (.aload_n 0, 1) := by decide +kernel
theorem dL_agrees_13 : decode cL_agrees 13 = .ok (.invokevirtual 237, 3) := by decide +kernel
theorem dL_agrees_16 : decode cL_agrees 16 = .ok (.aload_n 1, 1) := by decide +kernel
theorem dL_agrees_17 : decode cL_agrees 17 = .ok (.getfield 141, 3) := by decide +kernel
theorem dL_agrees_20 : decode cL_agrees 20 = .ok (.if_icmp .ne 30, 3) := by decide +kernel
theorem dL_agrees_23 : decode cL_agrees 23 = .ok (.aload_n 0, 1) := by decide +kernel
theorem dL_agrees_24 : decode cL_agrees 24 = .ok (.invokevirtual 239, 3) := by decide +kernel
theorem dL_agrees_27 : decode cL_agrees 27 = .ok (.aload_n 1, 1) := by decide +kernel
theorem dL_agrees_28 : decode cL_agrees 28 = .ok (.getfield 209, 3) := by decide +kernel
theorem dL_agrees_31 : decode cL_agrees 31 = .ok (.if_icmp .ne 19, 3) := by decide +kernel
theorem dL_agrees_34 : decode cL_agrees 34 = .ok (.aload_n 0, 1) := by decide +kernel
theorem dL_agrees_35 : decode cL_agrees 35 = .ok (.invokevirtual 241, 3) := by decide +kernel
theorem dL_agrees_38 : decode cL_agrees 38 = .ok (.aload_n 1, 1) := by decide +kernel
theorem dL_agrees_39 : decode cL_agrees 39 = .ok (.invokevirtual 245, 3) := by decide +kernel
theorem dL_agrees_42 : decode cL_agrees 42 = .ok (.lcmp, 1) := by decide +kernel
theorem dL_agrees_43 : decode cL_agrees 43 = .ok (.ifCond .ne 7, 3) := by decide +kernel
theorem dL_agrees_46 : decode cL_agrees 46 = .ok (.iconst 1, 1) := by decide +kernel
theorem dL_agrees_47 : decode cL_agrees 47 = .ok (.goto 4, 3) := by decide +kernel
theorem dL_agrees_50 : decode cL_agrees 50 = .ok (.iconst 0, 1) := by decide +kernel
theorem dL_agrees_51 : decode cL_agrees 51 = .ok (.istore_n 2, 1) := by decide +kernel
theorem dL_agrees_52 : decode cL_agrees 52 = .ok (.aload_n 1, 1) := by decide +kernel
theorem dL_agrees_53 : decode cL_agrees 53 = .ok (.invokevirtual 248, 3) := by decide +kernel
theorem dL_agrees_56 : decode cL_agrees 56 = .ok (.astore_n 3, 1) := by decide +kernel
theorem dL_agrees_57 : decode cL_agrees 57 = .ok (.iconst 0, 1) := by decide +kernel
theorem dL_agrees_58 : decode cL_agrees 58 = .ok (.istore 4, 2) := by decide +kernel
theorem dL_agrees_60 : decode cL_agrees 60 = .ok (.iload 4, 2) := by decide +kernel
theorem dL_agrees_62 : decode cL_agrees 62 = .ok (.aload_n 1, 1) := by decide +kernel
theorem dL_agrees_63 : decode cL_agrees 63 = .ok (.getfield 161, 3) := by decide +kernel
theorem dL_agrees_66 : decode cL_agrees 66 = .ok (.arraylength, 1) := by decide +kernel
theorem dL_agrees_67 : decode cL_agrees 67 = .ok (.if_icmp .ge 128, 3) := by decide +kernel
theorem dL_agrees_70 : decode cL_agrees 70 = .ok (.iload_n 2, 1) := by decide +kernel
theorem dL_agrees_71 : decode cL_agrees 71 = .ok (.ifCond .eq 124, 3) := by decide +kernel
theorem dL_agrees_74 : decode cL_agrees 74 = .ok (.iconst 0, 1) := by decide +kernel
theorem dL_agrees_75 : decode cL_agrees 75 = .ok (.istore 5, 2) := by decide +kernel
theorem dL_agrees_77 : decode cL_agrees 77 = .ok (.iload 5, 2) := by decide +kernel
theorem dL_agrees_79 : decode cL_agrees 79 = .ok (.bipush 6, 2) := by decide +kernel
theorem dL_agrees_81 : decode cL_agrees 81 = .ok (.if_icmp .ge 38, 3) := by decide +kernel
theorem dL_agrees_84 : decode cL_agrees 84 = .ok (.iload_n 2, 1) := by decide +kernel
theorem dL_agrees_85 : decode cL_agrees 85 = .ok (.ifCond .eq 34, 3) := by decide +kernel
theorem dL_agrees_88 : decode cL_agrees 88 = .ok (.aload_n 0, 1) := by decide +kernel
theorem dL_agrees_89 : decode cL_agrees 89 = .ok (.iload 4, 2) := by decide +kernel
theorem dL_agrees_91 : decode cL_agrees 91 = .ok (.iload 5, 2) := by decide +kernel
theorem dL_agrees_93 : decode cL_agrees 93 = .ok (.invokestatic 252, 3) := by decide +kernel
theorem dL_agrees_96 : decode cL_agrees 96 = .ok (.aload_n 1, 1) := by decide +kernel
theorem dL_agrees_97 : decode cL_agrees 97 = .ok (.iload 4, 2) := by decide +kernel
theorem dL_agrees_99 : decode cL_agrees 99 = .ok (.iload 5, 2) := by decide +kernel
theorem dL_agrees_101 : decode cL_agrees 101 = .ok (.invokevirtual 255, 3) := by decide +kernel
theorem dL_agrees_104 : decode cL_agrees 104 = .ok (.if_icmp .ne 7, 3) := by decide +kernel
theorem dL_agrees_107 : decode cL_agrees 107 = .ok (.iconst 1, 1) := by decide +kernel
theorem dL_agrees_108 : decode cL_agrees 108 = .ok (.goto 4, 3) := by decide +kernel
theorem dL_agrees_111 : decode cL_agrees 111 = .ok (.iconst 0, 1) := by decide +kernel
theorem dL_agrees_112 : decode cL_agrees 112 = .ok (.istore_n 2, 1) := by decide +kernel
theorem dL_agrees_113 : decode cL_agrees 113 = .ok (.iinc 5 1, 3) := by decide +kernel
theorem dL_agrees_116 : decode cL_agrees 116 = .ok (.goto (-39), 3) := by decide +kernel
theorem dL_agrees_119 : decode cL_agrees 119 = .ok (.iconst 0, 1) := by decide +kernel
theorem dL_agrees_120 : decode cL_agrees 120 = .ok (.istore 5, 2) := by decide +kernel
theorem dL_agrees_122 : decode cL_agrees 122 = .ok (.iload 5, 2) := by decide +kernel
theorem dL_agrees_124 : decode cL_agrees 124 = .ok (.aload_n 1, 1) := by decide +kernel
theorem dL_agrees_125 : decode cL_agrees 125 = .ok (.getfield 141, 3) := by decide +kernel
theorem dL_agrees_128 : decode cL_agrees 128 = .ok (.if_icmp .ge 61, 3) := by decide +kernel
theorem dL_agrees_131 : decode cL_agrees 131 = .ok (.iload_n 2, 1) := by decide +kernel
theorem dL_agrees_132 : decode cL_agrees 132 = .ok (.ifCond .eq 57, 3) := by decide +kernel
theorem dL_agrees_135 : decode cL_agrees 135 = .ok (.aload_n 0, 1) := by decide +kernel
theorem dL_agrees_136 : decode cL_agrees 136 = .ok (.iload 4, 2) := by decide +kernel
theorem dL_agrees_138 : decode cL_agrees 138 = .ok (.iload 5, 2) := by decide +kernel
theorem dL_agrees_140 : decode cL_agrees 140 = .ok (.invokestatic 258, 3) := by decide +kernel
theorem dL_agrees_143 : decode cL_agrees 143 = .ok (.aload_n 1, 1) := by decide +kernel
theorem dL_agrees_144 : decode cL_agrees 144 = .ok (.getfield 161, 3) := by decide +kernel
theorem dL_agrees_147 : decode cL_agrees 147 = .ok (.iload 4, 2) := by decide +kernel
theorem dL_agrees_149 : decode cL_agrees 149 = .ok (.aaload, 1) := by decide +kernel
theorem dL_agrees_150 : decode cL_agrees 150 = .ok (.getfield 172, 3) := by decide +kernel
theorem dL_agrees_153 : decode cL_agrees 153 = .ok (.iload 5, 2) := by decide +kernel
theorem dL_agrees_155 : decode cL_agrees 155 = .ok (.iaload, 1) := by decide +kernel
theorem dL_agrees_156 : decode cL_agrees 156 = .ok (.if_icmp .ne 25, 3) := by decide +kernel
theorem dL_agrees_159 : decode cL_agrees 159 = .ok (.aload_n 0, 1) := by decide +kernel
theorem dL_agrees_160 : decode cL_agrees 160 = .ok (.iload 4, 2) := by decide +kernel
theorem dL_agrees_162 : decode cL_agrees 162 = .ok (.iload 5, 2) := by decide +kernel
theorem dL_agrees_164 : decode cL_agrees 164 = .ok (.invokestatic 260, 3) := by decide +kernel
theorem dL_agrees_167 : decode cL_agrees 167 = .ok (.aload_n 3, 1) := by decide +kernel
theorem dL_agrees_168 : decode cL_agrees 168 = .ok (.iload 4, 2) := by decide +kernel
theorem dL_agrees_170 : decode cL_agrees 170 = .ok (.aaload, 1) := by decide +kernel
theorem dL_agrees_171 : decode cL_agrees 171 = .ok (.iload 5, 2) := by decide +kernel
theorem dL_agrees_173 : decode cL_agrees 173 = .ok (.iaload, 1) := by decide +kernel
theorem dL_agrees_174 : decode cL_agrees 174 = .ok (.if_icmp .ne 7, 3) := by decide +kernel
theorem dL_agrees_177 : decode cL_agrees 177 = .ok (.iconst 1, 1) := by decide +kernel
theorem dL_agrees_178 : decode cL_agrees 178 = .ok (.goto 4, 3) := by decide +kernel
theorem dL_agrees_181 : decode cL_agrees 181 = .ok (.iconst 0, 1) := by decide +kernel
theorem dL_agrees_182 : decode cL_agrees 182 = .ok (.istore_n 2, 1) := by decide +kernel
theorem dL_agrees_183 : decode cL_agrees 183 = .ok (.iinc 5 1, 3) := by decide +kernel
theorem dL_agrees_186 : decode cL_agrees 186 = .ok (.goto (-64), 3) := by decide +kernel
theorem dL_agrees_189 : decode cL_agrees 189 = .ok (.iinc 4 1, 3) := by decide +kernel
theorem dL_agrees_192 : decode cL_agrees 192 = .ok (.goto (-132), 3) := by decide +kernel
theorem dL_agrees_195 : decode cL_agrees 195 = .ok (.iload_n 2, 1) := by decide +kernel
theorem dL_agrees_196 : decode cL_agrees 196 = .ok (.ifCond .eq 35, 3) := by decide +kernel
theorem dL_agrees_199 : decode cL_agrees 199 = .ok (.aload_n 0, 1) := by decide +kernel
theorem dL_agrees_200 : decode cL_agrees 200 = .ok (.aload_n 1, 1) := by decide +kernel
theorem dL_agrees_201 : decode cL_agrees 201 = .ok (.getfield 161, 3) := by decide +kernel
theorem dL_agrees_204 : decode cL_agrees 204 = .ok (.arraylength, 1) := by decide +kernel
theorem dL_agrees_205 : decode cL_agrees 205 = .ok (.iconst 0, 1) := by decide +kernel
theorem dL_agrees_206 : decode cL_agrees 206 = .ok (.invokestatic 252, 3) := by decide +kernel
theorem dL_agrees_209 : decode cL_agrees 209 = .ok (.ldc 49, 2) := by decide +kernel
theorem dL_agrees_211 : decode cL_agrees 211 = .ok (.if_icmp .ne 20, 3) := by decide +kernel
theorem dL_agrees_214 : decode cL_agrees 214 = .ok (.aload_n 0, 1) := by decide +kernel
theorem dL_agrees_215 : decode cL_agrees 215 = .ok (.aload_n 1, 1) := by decide +kernel
theorem dL_agrees_216 : decode cL_agrees 216 = .ok (.getfield 141, 3) := by decide +kernel
theorem dL_agrees_219 : decode cL_agrees 219 = .ok (.invokestatic 262, 3) := by decide +kernel
theorem dL_agrees_222 : decode cL_agrees 222 = .ok (.ldc 49, 2) := by decide +kernel
theorem dL_agrees_224 : decode cL_agrees 224 = .ok (.if_icmp .ne 7, 3) := by decide +kernel
theorem dL_agrees_227 : decode cL_agrees 227 = .ok (.iconst 1, 1) := by decide +kernel
theorem dL_agrees_228 : decode cL_agrees 228 = .ok (.goto 4, 3) := by decide +kernel
theorem dL_agrees_231 : decode cL_agrees 231 = .ok (.iconst 0, 1) := by decide +kernel
theorem dL_agrees_232 : decode cL_agrees 232 = .ok (.ireturn, 1) := by decide +kernel
theorem dL_law_0 : decode cL_law 0 = .ok (.iconst 1, 1) := by decide +kernel
theorem dL_law_1 : decode cL_law 1 = .ok (.istore_n 1, 1) := by decide +kernel
theorem dL_law_2 : decode cL_law 2 = .ok (.iconst 0, 1) := by decide +kernel
theorem dL_law_3 : decode cL_law 3 = .ok (.istore_n 2, 1) := by decide +kernel
theorem dL_law_4 : decode cL_law 4 = .ok (.iload_n 2, 1) := by decide +kernel
theorem dL_law_5 : decode cL_law 5 = .ok (.aload_n 0, 1) := by decide +kernel
theorem dL_law_6 : decode cL_law 6 = .ok (.arraylength, 1) := by decide +kernel
theorem dL_law_7 : decode cL_law 7 = .ok (.if_icmp .ge 1310, 3) := by decide +kernel
theorem dL_law_10 : decode cL_law 10 = .ok (.iload_n 2, 1) := by decide +kernel
theorem dL_law_11 : decode cL_law 11 = .ok (.iconst 2, 1) := by decide +kernel
theorem dL_law_12 : decode cL_law 12 = .ok (.if_icmp .ge 1305, 3) := by decide +kernel
theorem dL_law_15 : decode cL_law 15 = .ok (.iload_n 1, 1) := by decide +kernel
theorem dL_law_16 : decode cL_law 16 = .ok (.ifCond .eq 1301, 3) := by decide +kernel
theorem dL_law_19 : decode cL_law 19 = .ok (.new 14, 3) := by decide +kernel
theorem dL_law_22 : decode cL_law 22 = .ok (.dup, 1) := by decide +kernel
theorem dL_law_23 : decode cL_law 23 = .ok (.invokespecial 264, 3) := by decide +kernel
theorem dL_law_26 : decode cL_law 26 = .ok (.astore_n 3, 1) := by decide +kernel
theorem dL_law_27 : decode cL_law 27 = .ok (.bipush 8, 2) := by decide +kernel
theorem dL_law_29 : decode cL_law 29 = .ok (.newarray .int, 2) := by decide +kernel
theorem dL_law_31 : decode cL_law 31 = .ok (.astore 4, 2) := by decide +kernel
theorem dL_law_33 : decode cL_law 33 = .ok (.new 137, 3) := by decide +kernel
theorem dL_law_36 : decode cL_law 36 = .ok (.dup, 1) := by decide +kernel
theorem dL_law_37 : decode cL_law 37 = .ok (.aload_n 0, 1) := by decide +kernel
theorem dL_law_38 : decode cL_law 38 = .ok (.iload_n 2, 1) := by decide +kernel
theorem dL_law_39 : decode cL_law 39 = .ok (.iaload, 1) := by decide +kernel
theorem dL_law_40 : decode cL_law 40 = .ok (.invokespecial 265, 3) := by decide +kernel
theorem dL_law_43 : decode cL_law 43 = .ok (.astore 5, 2) := by decide +kernel
theorem dL_law_45 : decode cL_law 45 = .ok (.aload_n 3, 1) := by decide +kernel
theorem dL_law_46 : decode cL_law 46 = .ok (.new 133, 3) := by decide +kernel
theorem dL_law_49 : decode cL_law 49 = .ok (.dup, 1) := by decide +kernel
theorem dL_law_50 : decode cL_law 50 = .ok (.invokespecial 135, 3) := by decide +kernel
theorem dL_law_53 : decode cL_law 53 = .ok (.invokestatic 268, 3) := by decide +kernel
theorem dL_law_56 : decode cL_law 56 = .ok (.ifCond .eq 83, 3) := by decide +kernel
theorem dL_law_59 : decode cL_law 59 = .ok (.aload_n 3, 1) := by decide +kernel
theorem dL_law_60 : decode cL_law 60 = .ok (.invokevirtual 272, 3) := by decide +kernel
theorem dL_law_63 : decode cL_law 63 = .ok (.iconst (-1), 1) := by decide +kernel
theorem dL_law_64 : decode cL_law 64 = .ok (.if_icmp .ne 75, 3) := by decide +kernel
theorem dL_law_67 : decode cL_law 67 = .ok (.aload_n 3, 1) := by decide +kernel
theorem dL_law_68 : decode cL_law 68 = .ok (.invokevirtual 275, 3) := by decide +kernel
theorem dL_law_71 : decode cL_law 71 = .ok (.iconst (-1), 1) := by decide +kernel
theorem dL_law_72 : decode cL_law 72 = .ok (.if_icmp .ne 67, 3) := by decide +kernel
theorem dL_law_75 : decode cL_law 75 = .ok (.aload_n 3, 1) := by decide +kernel
theorem dL_law_76 : decode cL_law 76 = .ok (.iconst 0, 1) := by decide +kernel
theorem dL_law_77 : decode cL_law 77 = .ok (.invokestatic 278, 3) := by decide +kernel
theorem dL_law_80 : decode cL_law 80 = .ok (.ldc 49, 2) := by decide +kernel
theorem dL_law_82 : decode cL_law 82 = .ok (.if_icmp .ne 57, 3) := by decide +kernel
theorem dL_law_85 : decode cL_law 85 = .ok (.aload_n 3, 1) := by decide +kernel
theorem dL_law_86 : decode cL_law 86 = .ok (.iconst 0, 1) := by decide +kernel
theorem dL_law_87 : decode cL_law 87 = .ok (.iconst 0, 1) := by decide +kernel
theorem dL_law_88 : decode cL_law 88 = .ok (.sipush 10000, 3) := by decide +kernel
theorem dL_law_91 : decode cL_law 91 = .ok (.invokestatic 280, 3) := by decide +kernel
theorem dL_law_94 : decode cL_law 94 = .ok (.ldc 49, 2) := by decide +kernel
theorem dL_law_96 : decode cL_law 96 = .ok (.if_icmp .ne 43, 3) := by decide +kernel
theorem dL_law_99 : decode cL_law 99 = .ok (.aload_n 3, 1) := by decide +kernel
theorem dL_law_100 : decode cL_law 100 = .ok (.bipush 101, 2) := by decide +kernel
theorem dL_law_102 : decode cL_law 102 = .ok (.invokestatic 283, 3) := by decide +kernel
theorem dL_law_105 : decode cL_law 105 = .ok (.ldc 42, 2) := by decide +kernel
theorem dL_law_107 : decode cL_law 107 = .ok (.if_icmp .ne 32, 3) := by decide +kernel
theorem dL_law_110 : decode cL_law 110 = .ok (.aload_n 3, 1) := by decide +kernel
theorem dL_law_111 : decode cL_law 111 = .ok (.bipush 100, 2) := by decide +kernel
theorem dL_law_113 : decode cL_law 113 = .ok (.invokestatic 283, 3) := by decide +kernel
theorem dL_law_116 : decode cL_law 116 = .ok (.ifCond .ne 23, 3) := by decide +kernel
theorem dL_law_119 : decode cL_law 119 = .ok (.aload_n 3, 1) := by decide +kernel
theorem dL_law_120 : decode cL_law 120 = .ok (.invokevirtual 239, 3) := by decide +kernel
theorem dL_law_123 : decode cL_law 123 = .ok (.bipush 100, 2) := by decide +kernel
theorem dL_law_125 : decode cL_law 125 = .ok (.if_icmp .ne 14, 3) := by decide +kernel
theorem dL_law_128 : decode cL_law 128 = .ok (.aload_n 3, 1) := by decide +kernel
theorem dL_law_129 : decode cL_law 129 = .ok (.invokevirtual 275, 3) := by decide +kernel
theorem dL_law_132 : decode cL_law 132 = .ok (.ifCond .ne 7, 3) := by decide +kernel
theorem dL_law_135 : decode cL_law 135 = .ok (.iconst 1, 1) := by decide +kernel
theorem dL_law_136 : decode cL_law 136 = .ok (.goto 4, 3) := by decide +kernel
theorem dL_law_139 : decode cL_law 139 = .ok (.iconst 0, 1) := by decide +kernel
theorem dL_law_140 : decode cL_law 140 = .ok (.istore_n 1, 1) := by decide +kernel
theorem dL_law_141 : decode cL_law 141 = .ok (.aload_n 3, 1) := by decide +kernel
theorem dL_law_142 : decode cL_law 142 = .ok (.aload 4, 2) := by decide +kernel
theorem dL_law_144 : decode cL_law 144 = .ok (.aload 5, 2) := by decide +kernel
theorem dL_law_146 : decode cL_law 146 = .ok (.iconst 4, 1) := by decide +kernel
theorem dL_law_147 : decode cL_law 147 = .ok (.iconst 5, 1) := by decide +kernel
theorem dL_law_148 : decode cL_law 148 = .ok (.invokestatic 285, 3) := by decide +kernel
theorem dL_law_151 : decode cL_law 151 = .ok (.astore 6, 2) := by decide +kernel
theorem dL_law_153 : decode cL_law 153 = .ok (.aload 6, 2) := by decide +kernel
theorem dL_law_155 : decode cL_law 155 = .ok (.ifnonnull 5, 3) := by decide +kernel
theorem dL_law_158 : decode cL_law 158 = .ok (.iconst 0, 1) := by decide +kernel
theorem dL_law_159 : decode cL_law 159 = .ok (.ireturn, 1) := by decide +kernel
theorem dL_law_160 : decode cL_law 160 = .ok (.iload_n 1, 1) := by decide +kernel
theorem dL_law_161 : decode cL_law 161 = .ok (.ifCond .eq 16, 3) := by decide +kernel
theorem dL_law_164 : decode cL_law 164 = .ok (.aload_n 3, 1) := by decide +kernel
theorem dL_law_165 : decode cL_law 165 = .ok (.aload 6, 2) := by decide +kernel
theorem dL_law_167 : decode cL_law 167 = .ok (.invokestatic 268, 3) := by decide +kernel
theorem dL_law_170 : decode cL_law 170 = .ok (.ifCond .eq 7, 3) := by decide +kernel
theorem dL_law_173 : decode cL_law 173 = .ok (.iconst 1, 1) := by decide +kernel
theorem dL_law_174 : decode cL_law 174 = .ok (.goto 4, 3) := by decide +kernel
theorem dL_law_177 : decode cL_law 177 = .ok (.iconst 0, 1) := by decide +kernel
theorem dL_law_178 : decode cL_law 178 = .ok (.istore_n 1, 1) := by decide +kernel
theorem dL_law_179 : decode cL_law 179 = .ok (.bipush 9, 2) := by decide +kernel
theorem dL_law_181 : decode cL_law 181 = .ok (.anewarray 133, 3) := by decide +kernel
theorem dL_law_184 : decode cL_law 184 = .ok (.astore 7, 2) := by decide +kernel
theorem dL_law_186 : decode cL_law 186 = .ok (.iconst 0, 1) := by decide +kernel
theorem dL_law_187 : decode cL_law 187 = .ok (.istore 8, 2) := by decide +kernel
theorem dL_law_189 : decode cL_law 189 = .ok (.iconst 0, 1) := by decide +kernel
theorem dL_law_190 : decode cL_law 190 = .ok (.istore 9, 2) := by decide +kernel
theorem dL_law_192 : decode cL_law 192 = .ok (.iload 9, 2) := by decide +kernel
theorem dL_law_194 : decode cL_law 194 = .ok (.bipush 35, 2) := by decide +kernel
theorem dL_law_196 : decode cL_law 196 = .ok (.if_icmp .ge 999, 3) := by decide +kernel
theorem dL_law_199 : decode cL_law 199 = .ok (.iload_n 1, 1) := by decide +kernel
theorem dL_law_200 : decode cL_law 200 = .ok (.ifCond .eq 995, 3) := by decide +kernel
theorem dL_law_203 : decode cL_law 203 = .ok (.aload 6, 2) := by decide +kernel
theorem dL_law_205 : decode cL_law 205 = .ok (.invokevirtual 289, 3) := by decide +kernel
theorem dL_law_208 : decode cL_law 208 = .ok (.astore 10, 2) := by decide +kernel
theorem dL_law_210 : decode cL_law 210 = .ok (.aload 6, 2) := by decide +kernel
theorem dL_law_212 : decode cL_law 212 = .ok (.invokevirtual 248, 3) := by decide +kernel
theorem dL_law_215 : decode cL_law 215 = .ok (.astore 11, 2) := by decide +kernel
theorem dL_law_217 : decode cL_law 217 = .ok (.iconst 1, 1) := by decide +kernel
theorem dL_law_218 : decode cL_law 218 = .ok (.istore 12, 2) := by decide +kernel
theorem dL_law_220 : decode cL_law 220 = .ok (.ldc 49, 2) := by decide +kernel
theorem dL_law_222 : decode cL_law 222 = .ok (.istore 13, 2) := by decide +kernel
theorem dL_law_224 : decode cL_law 224 = .ok (.aload 6, 2) := by decide +kernel
theorem dL_law_226 : decode cL_law 226 = .ok (.getfield 161, 3) := by decide +kernel
theorem dL_law_229 : decode cL_law 229 = .ok (.arraylength, 1) := by decide +kernel
theorem dL_law_230 : decode cL_law 230 = .ok (.istore 14, 2) := by decide +kernel
theorem dL_law_232 : decode cL_law 232 = .ok (.aload 5, 2) := by decide +kernel
theorem dL_law_234 : decode cL_law 234 = .ok (.iload 14, 2) := by decide +kernel
theorem dL_law_236 : decode cL_law 236 = .ok (.aload 5, 2) := by decide +kernel
theorem dL_law_238 : decode cL_law 238 = .ok (.bipush 12, 2) := by decide +kernel
theorem dL_law_240 : decode cL_law 240 = .ok (.invokevirtual 136, 3) := by decide +kernel
theorem dL_law_243 : decode cL_law 243 = .ok (.ifCond .eq 8, 3) := by decide +kernel
theorem dL_law_246 : decode cL_law 246 = .ok (.iload 14, 2) := by decide +kernel
theorem dL_law_248 : decode cL_law 248 = .ok (.ifCond .ne 7, 3) := by decide +kernel
theorem dL_law_251 : decode cL_law 251 = .ok (.iconst 1, 1) := by decide +kernel
theorem dL_law_252 : decode cL_law 252 = .ok (.goto 4, 3) := by decide +kernel
theorem dL_law_255 : decode cL_law 255 = .ok (.iconst 0, 1) := by decide +kernel
theorem dL_law_256 : decode cL_law 256 = .ok (.iadd, 1) := by decide +kernel
theorem dL_law_257 : decode cL_law 257 = .ok (.invokevirtual 136, 3) := by decide +kernel
theorem dL_law_260 : decode cL_law 260 = .ok (.istore 15, 2) := by decide +kernel
theorem dL_law_262 : decode cL_law 262 = .ok (.aload 5, 2) := by decide +kernel
theorem dL_law_264 : decode cL_law 264 = .ok (.aload 6, 2) := by decide +kernel
theorem dL_law_266 : decode cL_law 266 = .ok (.getfield 141, 3) := by decide +kernel
theorem dL_law_269 : decode cL_law 269 = .ok (.aload 5, 2) := by decide +kernel
theorem dL_law_271 : decode cL_law 271 = .ok (.bipush 12, 2) := by decide +kernel
theorem dL_law_273 : decode cL_law 273 = .ok (.invokevirtual 136, 3) := by decide +kernel
theorem dL_law_276 : decode cL_law 276 = .ok (.ifCond .eq 11, 3) := by decide +kernel
theorem dL_law_279 : decode cL_law 279 = .ok (.aload 6, 2) := by decide +kernel
theorem dL_law_281 : decode cL_law 281 = .ok (.getfield 141, 3) := by decide +kernel
theorem dL_law_284 : decode cL_law 284 = .ok (.ifCond .ne 7, 3) := by decide +kernel
theorem dL_law_287 : decode cL_law 287 = .ok (.iconst 1, 1) := by decide +kernel
theorem dL_law_288 : decode cL_law 288 = .ok (.goto 4, 3) := by decide +kernel
theorem dL_law_291 : decode cL_law 291 = .ok (.iconst 0, 1) := by decide +kernel
theorem dL_law_292 : decode cL_law 292 = .ok (.iadd, 1) := by decide +kernel
theorem dL_law_293 : decode cL_law 293 = .ok (.invokevirtual 136, 3) := by decide +kernel
theorem dL_law_296 : decode cL_law 296 = .ok (.istore 16, 2) := by decide +kernel
theorem dL_law_298 : decode cL_law 298 = .ok (.iload 15, 2) := by decide +kernel
theorem dL_law_300 : decode cL_law 300 = .ok (.iload 14, 2) := by decide +kernel
theorem dL_law_302 : decode cL_law 302 = .ok (.if_icmp .ge 7, 3) := by decide +kernel
theorem dL_law_305 : decode cL_law 305 = .ok (.iconst 1, 1) := by decide +kernel
theorem dL_law_306 : decode cL_law 306 = .ok (.goto 4, 3) := by decide +kernel
theorem dL_law_309 : decode cL_law 309 = .ok (.iconst 0, 1) := by decide +kernel
theorem dL_law_310 : decode cL_law 310 = .ok (.istore 17, 2) := by decide +kernel
theorem dL_law_312 : decode cL_law 312 = .ok (.iload 17, 2) := by decide +kernel
theorem dL_law_314 : decode cL_law 314 = .ok (.ifCond .eq 17, 3) := by decide +kernel
theorem dL_law_317 : decode cL_law 317 = .ok (.iload 16, 2) := by decide +kernel
theorem dL_law_319 : decode cL_law 319 = .ok (.aload 6, 2) := by decide +kernel
theorem dL_law_321 : decode cL_law 321 = .ok (.getfield 141, 3) := by decide +kernel
theorem dL_law_324 : decode cL_law 324 = .ok (.if_icmp .ge 7, 3) := by decide +kernel
theorem dL_law_327 : decode cL_law 327 = .ok (.iconst 1, 1) := by decide +kernel
theorem dL_law_328 : decode cL_law 328 = .ok (.goto 4, 3) := by decide +kernel
theorem dL_law_331 : decode cL_law 331 = .ok (.iconst 0, 1) := by decide +kernel
theorem dL_law_332 : decode cL_law 332 = .ok (.istore 18, 2) := by decide +kernel
theorem dL_law_334 : decode cL_law 334 = .ok (.iload 17, 2) := by decide +kernel
theorem dL_law_336 : decode cL_law 336 = .ok (.ifCond .eq 14, 3) := by decide +kernel
theorem dL_law_339 : decode cL_law 339 = .ok (.aload 6, 2) := by decide +kernel
theorem dL_law_341 : decode cL_law 341 = .ok (.getfield 161, 3) := by decide +kernel
theorem dL_law_344 : decode cL_law 344 = .ok (.iload 15, 2) := by decide +kernel
theorem dL_law_346 : decode cL_law 346 = .ok (.aaload, 1) := by decide +kernel
theorem dL_law_347 : decode cL_law 347 = .ok (.goto 4, 3) := by decide +kernel
theorem dL_law_350 : decode cL_law 350 = .ok (.aconst_null, 1) := by decide +kernel
theorem dL_law_351 : decode cL_law 351 = .ok (.astore 19, 2) := by decide +kernel
theorem dL_law_353 : decode cL_law 353 = .ok (.aload 5, 2) := by decide +kernel
theorem dL_law_355 : decode cL_law 355 = .ok (.bipush 9, 2) := by decide +kernel
theorem dL_law_357 : decode cL_law 357 = .ok (.invokevirtual 136, 3) := by decide +kernel
theorem dL_law_360 : decode cL_law 360 = .ok (.tableswitch 690 0 6 #[44, 131, 195, 296, 374, 374, 561], 44) := by decide +kernel
theorem dL_law_404 : decode cL_law 404 = .ok (.aload 5, 2) := by decide +kernel
theorem dL_law_406 : decode cL_law 406 = .ok (.aload 5, 2) := by decide +kernel
theorem dL_law_408 : decode cL_law 408 = .ok (.bipush 9, 2) := by decide +kernel
theorem dL_law_410 : decode cL_law 410 = .ok (.invokevirtual 136, 3) := by decide +kernel
theorem dL_law_413 : decode cL_law 413 = .ok (.ifCond .ne 9, 3) := by decide +kernel
theorem dL_law_416 : decode cL_law 416 = .ok (.sipush 200, 3) := by decide +kernel
theorem dL_law_419 : decode cL_law 419 = .ok (.goto 5, 3) := by decide +kernel
theorem dL_law_422 : decode cL_law 422 = .ok (.bipush 101, 2) := by decide +kernel
theorem dL_law_424 : decode cL_law 424 = .ok (.invokevirtual 136, 3) := by decide +kernel
theorem dL_law_427 : decode cL_law 427 = .ok (.istore 20, 2) := by decide +kernel
theorem dL_law_429 : decode cL_law 429 = .ok (.iload 20, 2) := by decide +kernel
theorem dL_law_431 : decode cL_law 431 = .ok (.bipush 101, 2) := by decide +kernel
theorem dL_law_433 : decode cL_law 433 = .ok (.if_icmp .ge 7, 3) := by decide +kernel
theorem dL_law_436 : decode cL_law 436 = .ok (.iconst 1, 1) := by decide +kernel
theorem dL_law_437 : decode cL_law 437 = .ok (.goto 4, 3) := by decide +kernel
theorem dL_law_440 : decode cL_law 440 = .ok (.iconst 0, 1) := by decide +kernel
theorem dL_law_441 : decode cL_law 441 = .ok (.istore 12, 2) := by decide +kernel
theorem dL_law_443 : decode cL_law 443 = .ok (.iload 12, 2) := by decide +kernel
theorem dL_law_445 : decode cL_law 445 = .ok (.ifCond .eq 10, 3) := by decide +kernel
theorem dL_law_448 : decode cL_law 448 = .ok (.aload 6, 2) := by decide +kernel
theorem dL_law_450 : decode cL_law 450 = .ok (.iload 20, 2) := by decide +kernel
theorem dL_law_452 : decode cL_law 452 = .ok (.putfield 209, 3) := by decide +kernel
theorem dL_law_455 : decode cL_law 455 = .ok (.aload_n 3, 1) := by decide +kernel
theorem dL_law_456 : decode cL_law 456 = .ok (.iload 20, 2) := by decide +kernel
theorem dL_law_458 : decode cL_law 458 = .ok (.invokestatic 283, 3) := by decide +kernel
theorem dL_law_461 : decode cL_law 461 = .ok (.iload 12, 2) := by decide +kernel
theorem dL_law_463 : decode cL_law 463 = .ok (.ifCond .eq 14, 3) := by decide +kernel
theorem dL_law_466 : decode cL_law 466 = .ok (.aload 6, 2) := by decide +kernel
theorem dL_law_468 : decode cL_law 468 = .ok (.aload 11, 2) := by decide +kernel
theorem dL_law_470 : decode cL_law 470 = .ok (.iconst (-1), 1) := by decide +kernel
theorem dL_law_471 : decode cL_law 471 = .ok (.invokevirtual 293, 3) := by decide +kernel
theorem dL_law_474 : decode cL_law 474 = .ok (.goto 5, 3) := by decide +kernel
theorem dL_law_477 : decode cL_law 477 = .ok (.ldc 42, 2) := by decide +kernel
theorem dL_law_479 : decode cL_law 479 = .ok (.if_icmp .ne 7, 3) := by decide +kernel
theorem dL_law_482 : decode cL_law 482 = .ok (.iconst 1, 1) := by decide +kernel
theorem dL_law_483 : decode cL_law 483 = .ok (.goto 4, 3) := by decide +kernel
theorem dL_law_486 : decode cL_law 486 = .ok (.iconst 0, 1) := by decide +kernel
theorem dL_law_487 : decode cL_law 487 = .ok (.istore_n 1, 1) := by decide +kernel
theorem dL_law_488 : decode cL_law 488 = .ok (.goto 641, 3) := by decide +kernel
theorem dL_law_491 : decode cL_law 491 = .ok (.aload 5, 2) := by decide +kernel
theorem dL_law_493 : decode cL_law 493 = .ok (.iconst 2, 1) := by decide +kernel
theorem dL_law_494 : decode cL_law 494 = .ok (.invokevirtual 136, 3) := by decide +kernel
theorem dL_law_497 : decode cL_law 497 = .ok (.ifCond .ne 7, 3) := by decide +kernel
theorem dL_law_500 : decode cL_law 500 = .ok (.iconst 1, 1) := by decide +kernel
theorem dL_law_501 : decode cL_law 501 = .ok (.goto 4, 3) := by decide +kernel
theorem dL_law_504 : decode cL_law 504 = .ok (.iconst 0, 1) := by decide +kernel
theorem dL_law_505 : decode cL_law 505 = .ok (.istore 21, 2) := by decide +kernel
theorem dL_law_507 : decode cL_law 507 = .ok (.iload 17, 2) := by decide +kernel
theorem dL_law_509 : decode cL_law 509 = .ok (.istore 12, 2) := by decide +kernel
theorem dL_law_511 : decode cL_law 511 = .ok (.iload 17, 2) := by decide +kernel
theorem dL_law_513 : decode cL_law 513 = .ok (.ifCond .eq 20, 3) := by decide +kernel
theorem dL_law_516 : decode cL_law 516 = .ok (.aload 19, 2) := by decide +kernel
theorem dL_law_518 : decode cL_law 518 = .ok (.iload 21, 2) := by decide +kernel
theorem dL_law_520 : decode cL_law 520 = .ok (.putfield 169, 3) := by decide +kernel
theorem dL_law_523 : decode cL_law 523 = .ok (.aload 6, 2) := by decide +kernel
theorem dL_law_525 : decode cL_law 525 = .ok (.aload 11, 2) := by decide +kernel
theorem dL_law_527 : decode cL_law 527 = .ok (.iconst (-1), 1) := by decide +kernel
theorem dL_law_528 : decode cL_law 528 = .ok (.invokevirtual 293, 3) := by decide +kernel
theorem dL_law_531 : decode cL_law 531 = .ok (.istore 13, 2) := by decide +kernel
theorem dL_law_533 : decode cL_law 533 = .ok (.aload_n 3, 1) := by decide +kernel
theorem dL_law_534 : decode cL_law 534 = .ok (.iload 15, 2) := by decide +kernel
theorem dL_law_536 : decode cL_law 536 = .ok (.iload 21, 2) := by decide +kernel
theorem dL_law_538 : decode cL_law 538 = .ok (.invokestatic 297, 3) := by decide +kernel
theorem dL_law_541 : decode cL_law 541 = .ok (.iload 13, 2) := by decide +kernel
theorem dL_law_543 : decode cL_law 543 = .ok (.if_icmp .ne 7, 3) := by decide +kernel
theorem dL_law_546 : decode cL_law 546 = .ok (.iconst 1, 1) := by decide +kernel
theorem dL_law_547 : decode cL_law 547 = .ok (.goto 4, 3) := by decide +kernel
theorem dL_law_550 : decode cL_law 550 = .ok (.iconst 0, 1) := by decide +kernel
theorem dL_law_551 : decode cL_law 551 = .ok (.istore_n 1, 1) := by decide +kernel
theorem dL_law_552 : decode cL_law 552 = .ok (.goto 577, 3) := by decide +kernel
theorem dL_law_555 : decode cL_law 555 = .ok (.aload 5, 2) := by decide +kernel
theorem dL_law_557 : decode cL_law 557 = .ok (.aload 5, 2) := by decide +kernel
theorem dL_law_559 : decode cL_law 559 = .ok (.bipush 9, 2) := by decide +kernel
theorem dL_law_561 : decode cL_law 561 = .ok (.invokevirtual 136, 3) := by decide +kernel
theorem dL_law_564 : decode cL_law 564 = .ok (.ifCond .ne 9, 3) := by decide +kernel
theorem dL_law_567 : decode cL_law 567 = .ok (.sipush 1003, 3) := by decide +kernel
theorem dL_law_570 : decode cL_law 570 = .ok (.goto 5, 3) := by decide +kernel
theorem dL_law_573 : decode cL_law 573 = .ok (.bipush 12, 2) := by decide +kernel
theorem dL_law_575 : decode cL_law 575 = .ok (.invokevirtual 136, 3) := by decide +kernel
theorem dL_law_578 : decode cL_law 578 = .ok (.istore 22, 2) := by decide +kernel
theorem dL_law_580 : decode cL_law 580 = .ok (.iload 17, 2) := by decide +kernel
theorem dL_law_582 : decode cL_law 582 = .ok (.ifCond .eq 15, 3) := by decide +kernel
theorem dL_law_585 : decode cL_law 585 = .ok (.iload 22, 2) := by decide +kernel
theorem dL_law_587 : decode cL_law 587 = .ok (.sipush 1000, 3) := by decide +kernel
theorem dL_law_590 : decode cL_law 590 = .ok (.if_icmp .ge 7, 3) := by decide +kernel
theorem dL_law_593 : decode cL_law 593 = .ok (.iconst 1, 1) := by decide +kernel
theorem dL_law_594 : decode cL_law 594 = .ok (.goto 4, 3) := by decide +kernel
theorem dL_law_597 : decode cL_law 597 = .ok (.iconst 0, 1) := by decide +kernel
theorem dL_law_598 : decode cL_law 598 = .ok (.istore 12, 2) := by decide +kernel
theorem dL_law_600 : decode cL_law 600 = .ok (.iload 17, 2) := by decide +kernel
theorem dL_law_602 : decode cL_law 602 = .ok (.ifCond .eq 20, 3) := by decide +kernel
theorem dL_law_605 : decode cL_law 605 = .ok (.iload 12, 2) := by decide +kernel
theorem dL_law_607 : decode cL_law 607 = .ok (.ifCond .eq 11, 3) := by decide +kernel
theorem dL_law_610 : decode cL_law 610 = .ok (.aload 19, 2) := by decide +kernel
theorem dL_law_612 : decode cL_law 612 = .ok (.getfield 166, 3) := by decide +kernel
theorem dL_law_615 : decode cL_law 615 = .ok (.goto 5, 3) := by decide +kernel
theorem dL_law_618 : decode cL_law 618 = .ok (.ldc 42, 2) := by decide +kernel
theorem dL_law_620 : decode cL_law 620 = .ok (.istore 13, 2) := by decide +kernel
theorem dL_law_622 : decode cL_law 622 = .ok (.iload 12, 2) := by decide +kernel
theorem dL_law_624 : decode cL_law 624 = .ok (.ifCond .eq 10, 3) := by decide +kernel
theorem dL_law_627 : decode cL_law 627 = .ok (.aload 19, 2) := by decide +kernel
theorem dL_law_629 : decode cL_law 629 = .ok (.iload 22, 2) := by decide +kernel
theorem dL_law_631 : decode cL_law 631 = .ok (.putfield 166, 3) := by decide +kernel
theorem dL_law_634 : decode cL_law 634 = .ok (.aload_n 3, 1) := by decide +kernel
theorem dL_law_635 : decode cL_law 635 = .ok (.iload 15, 2) := by decide +kernel
theorem dL_law_637 : decode cL_law 637 = .ok (.iload 22, 2) := by decide +kernel
theorem dL_law_639 : decode cL_law 639 = .ok (.invokestatic 300, 3) := by decide +kernel
theorem dL_law_642 : decode cL_law 642 = .ok (.iload 13, 2) := by decide +kernel
theorem dL_law_644 : decode cL_law 644 = .ok (.if_icmp .ne 7, 3) := by decide +kernel
theorem dL_law_647 : decode cL_law 647 = .ok (.iconst 1, 1) := by decide +kernel
theorem dL_law_648 : decode cL_law 648 = .ok (.goto 4, 3) := by decide +kernel
theorem dL_law_651 : decode cL_law 651 = .ok (.iconst 0, 1) := by decide +kernel
theorem dL_law_652 : decode cL_law 652 = .ok (.istore_n 1, 1) := by decide +kernel
theorem dL_law_653 : decode cL_law 653 = .ok (.goto 476, 3) := by decide +kernel
theorem dL_law_656 : decode cL_law 656 = .ok (.iload 18, 2) := by decide +kernel
theorem dL_law_658 : decode cL_law 658 = .ok (.ifCond .eq 19, 3) := by decide +kernel
theorem dL_law_661 : decode cL_law 661 = .ok (.aload 19, 2) := by decide +kernel
theorem dL_law_663 : decode cL_law 663 = .ok (.getfield 172, 3) := by decide +kernel
theorem dL_law_666 : decode cL_law 666 = .ok (.iload 16, 2) := by decide +kernel
theorem dL_law_668 : decode cL_law 668 = .ok (.iaload, 1) := by decide +kernel
theorem dL_law_669 : decode cL_law 669 = .ok (.iconst (-1), 1) := by decide +kernel
theorem dL_law_670 : decode cL_law 670 = .ok (.if_icmp .eq 7, 3) := by decide +kernel
theorem dL_law_673 : decode cL_law 673 = .ok (.iconst 1, 1) := by decide +kernel
theorem dL_law_674 : decode cL_law 674 = .ok (.goto 4, 3) := by decide +kernel
theorem dL_law_677 : decode cL_law 677 = .ok (.iconst 0, 1) := by decide +kernel
theorem dL_law_678 : decode cL_law 678 = .ok (.istore 12, 2) := by decide +kernel
theorem dL_law_680 : decode cL_law 680 = .ok (.iload 18, 2) := by decide +kernel
theorem dL_law_682 : decode cL_law 682 = .ok (.ifCond .eq 7, 3) := by decide +kernel
theorem dL_law_685 : decode cL_law 685 = .ok (.ldc 88, 2) := by decide +kernel
theorem dL_law_687 : decode cL_law 687 = .ok (.istore 13, 2) := by decide +kernel
theorem dL_law_689 : decode cL_law 689 = .ok (.iload 12, 2) := by decide +kernel
theorem dL_law_691 : decode cL_law 691 = .ok (.ifCond .eq 21, 3) := by decide +kernel
theorem dL_law_694 : decode cL_law 694 = .ok (.aload 19, 2) := by decide +kernel
theorem dL_law_696 : decode cL_law 696 = .ok (.getfield 172, 3) := by decide +kernel
theorem dL_law_699 : decode cL_law 699 = .ok (.iload 16, 2) := by decide +kernel
theorem dL_law_701 : decode cL_law 701 = .ok (.iconst (-1), 1) := by decide +kernel
theorem dL_law_702 : decode cL_law 702 = .ok (.iastore, 1) := by decide +kernel
theorem dL_law_703 : decode cL_law 703 = .ok (.aload 6, 2) := by decide +kernel
theorem dL_law_705 : decode cL_law 705 = .ok (.iload 16, 2) := by decide +kernel
theorem dL_law_707 : decode cL_law 707 = .ok (.invokevirtual 302, 3) := by decide +kernel
theorem dL_law_710 : decode cL_law 710 = .ok (.istore 13, 2) := by decide +kernel
theorem dL_law_712 : decode cL_law 712 = .ok (.aload_n 3, 1) := by decide +kernel
theorem dL_law_713 : decode cL_law 713 = .ok (.iload 15, 2) := by decide +kernel
theorem dL_law_715 : decode cL_law 715 = .ok (.iload 16, 2) := by decide +kernel
theorem dL_law_717 : decode cL_law 717 = .ok (.invokestatic 303, 3) := by decide +kernel
theorem dL_law_720 : decode cL_law 720 = .ok (.iload 13, 2) := by decide +kernel
theorem dL_law_722 : decode cL_law 722 = .ok (.if_icmp .ne 7, 3) := by decide +kernel
theorem dL_law_725 : decode cL_law 725 = .ok (.iconst 1, 1) := by decide +kernel
theorem dL_law_726 : decode cL_law 726 = .ok (.goto 4, 3) := by decide +kernel
theorem dL_law_729 : decode cL_law 729 = .ok (.iconst 0, 1) := by decide +kernel
theorem dL_law_730 : decode cL_law 730 = .ok (.istore_n 1, 1) := by decide +kernel
theorem dL_law_731 : decode cL_law 731 = .ok (.goto 398, 3) := by decide +kernel
theorem dL_law_734 : decode cL_law 734 = .ok (.aload 5, 2) := by decide +kernel
theorem dL_law_736 : decode cL_law 736 = .ok (.aload 6, 2) := by decide +kernel
theorem dL_law_738 : decode cL_law 738 = .ok (.getfield 141, 3) := by decide +kernel
theorem dL_law_741 : decode cL_law 741 = .ok (.iconst 1, 1) := by decide +kernel
theorem dL_law_742 : decode cL_law 742 = .ok (.iadd, 1) := by decide +kernel
theorem dL_law_743 : decode cL_law 743 = .ok (.invokevirtual 136, 3) := by decide +kernel
theorem dL_law_746 : decode cL_law 746 = .ok (.istore 23, 2) := by decide +kernel
theorem dL_law_748 : decode cL_law 748 = .ok (.aload 5, 2) := by decide +kernel
theorem dL_law_750 : decode cL_law 750 = .ok (.iconst 2, 1) := by decide +kernel
theorem dL_law_751 : decode cL_law 751 = .ok (.invokevirtual 136, 3) := by decide +kernel
theorem dL_law_754 : decode cL_law 754 = .ok (.ifCond .ne 7, 3) := by decide +kernel
theorem dL_law_757 : decode cL_law 757 = .ok (.iconst 1, 1) := by decide +kernel
theorem dL_law_758 : decode cL_law 758 = .ok (.goto 4, 3) := by decide +kernel
theorem dL_law_761 : decode cL_law 761 = .ok (.iconst 0, 1) := by decide +kernel
theorem dL_law_762 : decode cL_law 762 = .ok (.istore 24, 2) := by decide +kernel
theorem dL_law_764 : decode cL_law 764 = .ok (.aload 5, 2) := by decide +kernel
theorem dL_law_766 : decode cL_law 766 = .ok (.aload 5, 2) := by decide +kernel
theorem dL_law_768 : decode cL_law 768 = .ok (.bipush 9, 2) := by decide +kernel
theorem dL_law_770 : decode cL_law 770 = .ok (.invokevirtual 136, 3) := by decide +kernel
theorem dL_law_773 : decode cL_law 773 = .ok (.ifCond .ne 9, 3) := by decide +kernel
theorem dL_law_776 : decode cL_law 776 = .ok (.sipush 12000, 3) := by decide +kernel
theorem dL_law_779 : decode cL_law 779 = .ok (.goto 6, 3) := by decide +kernel
theorem dL_law_782 : decode cL_law 782 = .ok (.sipush 10000, 3) := by decide +kernel
theorem dL_law_785 : decode cL_law 785 = .ok (.invokevirtual 136, 3) := by decide +kernel
theorem dL_law_788 : decode cL_law 788 = .ok (.istore 25, 2) := by decide +kernel
theorem dL_law_790 : decode cL_law 790 = .ok (.iload 18, 2) := by decide +kernel
theorem dL_law_792 : decode cL_law 792 = .ok (.ifCond .eq 33, 3) := by decide +kernel
theorem dL_law_795 : decode cL_law 795 = .ok (.iload 24, 2) := by decide +kernel
theorem dL_law_797 : decode cL_law 797 = .ok (.ifCond .eq 16, 3) := by decide +kernel
theorem dL_law_800 : decode cL_law 800 = .ok (.iload 23, 2) := by decide +kernel
theorem dL_law_802 : decode cL_law 802 = .ok (.aload 6, 2) := by decide +kernel
theorem dL_law_804 : decode cL_law 804 = .ok (.getfield 141, 3) := by decide +kernel
theorem dL_law_807 : decode cL_law 807 = .ok (.if_icmp .ge 18, 3) := by decide +kernel
theorem dL_law_810 : decode cL_law 810 = .ok (.goto 11, 3) := by decide +kernel
theorem dL_law_813 : decode cL_law 813 = .ok (.iload 25, 2) := by decide +kernel
theorem dL_law_815 : decode cL_law 815 = .ok (.sipush 10000, 3) := by decide +kernel
theorem dL_law_818 : decode cL_law 818 = .ok (.if_icmp .ge 7, 3) := by decide +kernel
theorem dL_law_821 : decode cL_law 821 = .ok (.iconst 1, 1) := by decide +kernel
theorem dL_law_822 : decode cL_law 822 = .ok (.goto 4, 3) := by decide +kernel
theorem dL_law_825 : decode cL_law 825 = .ok (.iconst 0, 1) := by decide +kernel
theorem dL_law_826 : decode cL_law 826 = .ok (.istore 12, 2) := by decide +kernel
theorem dL_law_828 : decode cL_law 828 = .ok (.iload 18, 2) := by decide +kernel
theorem dL_law_830 : decode cL_law 830 = .ok (.ifCond .eq 12, 3) := by decide +kernel
theorem dL_law_833 : decode cL_law 833 = .ok (.iload 24, 2) := by decide +kernel
theorem dL_law_835 : decode cL_law 835 = .ok (.ifCond .ne 7, 3) := by decide +kernel
theorem dL_law_838 : decode cL_law 838 = .ok (.ldc 42, 2) := by decide +kernel
theorem dL_law_840 : decode cL_law 840 = .ok (.istore 13, 2) := by decide +kernel
theorem dL_law_842 : decode cL_law 842 = .ok (.iload 12, 2) := by decide +kernel
theorem dL_law_844 : decode cL_law 844 = .ok (.ifCond .eq 35, 3) := by decide +kernel
theorem dL_law_847 : decode cL_law 847 = .ok (.aload 19, 2) := by decide +kernel
theorem dL_law_849 : decode cL_law 849 = .ok (.getfield 172, 3) := by decide +kernel
theorem dL_law_852 : decode cL_law 852 = .ok (.iload 16, 2) := by decide +kernel
theorem dL_law_854 : decode cL_law 854 = .ok (.iload 24, 2) := by decide +kernel
theorem dL_law_856 : decode cL_law 856 = .ok (.ifCond .eq 11, 3) := by decide +kernel
theorem dL_law_859 : decode cL_law 859 = .ok (.bipush (-2), 2) := by decide +kernel
theorem dL_law_861 : decode cL_law 861 = .ok (.iload 23, 2) := by decide +kernel
theorem dL_law_863 : decode cL_law 863 = .ok (.isub, 1) := by decide +kernel
theorem dL_law_864 : decode cL_law 864 = .ok (.goto 5, 3) := by decide +kernel
theorem dL_law_867 : decode cL_law 867 = .ok (.iload 25, 2) := by decide +kernel
theorem dL_law_869 : decode cL_law 869 = .ok (.iastore, 1) := by decide +kernel
theorem dL_law_870 : decode cL_law 870 = .ok (.aload 6, 2) := by decide +kernel
theorem dL_law_872 : decode cL_law 872 = .ok (.iload 16, 2) := by decide +kernel
theorem dL_law_874 : decode cL_law 874 = .ok (.invokevirtual 302, 3) := by decide +kernel
theorem dL_law_877 : decode cL_law 877 = .ok (.istore 13, 2) := by decide +kernel
theorem dL_law_879 : decode cL_law 879 = .ok (.iload 24, 2) := by decide +kernel
theorem dL_law_881 : decode cL_law 881 = .ok (.ifCond .eq 16, 3) := by decide +kernel
theorem dL_law_884 : decode cL_law 884 = .ok (.aload_n 3, 1) := by decide +kernel
theorem dL_law_885 : decode cL_law 885 = .ok (.iload 15, 2) := by decide +kernel
theorem dL_law_887 : decode cL_law 887 = .ok (.iload 16, 2) := by decide +kernel
theorem dL_law_889 : decode cL_law 889 = .ok (.iload 23, 2) := by decide +kernel
theorem dL_law_891 : decode cL_law 891 = .ok (.invokestatic 305, 3) := by decide +kernel
theorem dL_law_894 : decode cL_law 894 = .ok (.goto 13, 3) := by decide +kernel
theorem dL_law_897 : decode cL_law 897 = .ok (.aload_n 3, 1) := by decide +kernel
theorem dL_law_898 : decode cL_law 898 = .ok (.iload 15, 2) := by decide +kernel
theorem dL_law_900 : decode cL_law 900 = .ok (.iload 16, 2) := by decide +kernel
theorem dL_law_902 : decode cL_law 902 = .ok (.iload 25, 2) := by decide +kernel
theorem dL_law_904 : decode cL_law 904 = .ok (.invokestatic 280, 3) := by decide +kernel
theorem dL_law_907 : decode cL_law 907 = .ok (.iload 13, 2) := by decide +kernel
theorem dL_law_909 : decode cL_law 909 = .ok (.if_icmp .ne 7, 3) := by decide +kernel
theorem dL_law_912 : decode cL_law 912 = .ok (.iconst 1, 1) := by decide +kernel
theorem dL_law_913 : decode cL_law 913 = .ok (.goto 4, 3) := by decide +kernel
theorem dL_law_916 : decode cL_law 916 = .ok (.iconst 0, 1) := by decide +kernel
theorem dL_law_917 : decode cL_law 917 = .ok (.istore_n 1, 1) := by decide +kernel
theorem dL_law_918 : decode cL_law 918 = .ok (.goto 211, 3) := by decide +kernel
theorem dL_law_921 : decode cL_law 921 = .ok (.iload 17, 2) := by decide +kernel
theorem dL_law_923 : decode cL_law 923 = .ok (.ifCond .eq 17, 3) := by decide +kernel
theorem dL_law_926 : decode cL_law 926 = .ok (.aload 6, 2) := by decide +kernel
theorem dL_law_928 : decode cL_law 928 = .ok (.iload 15, 2) := by decide +kernel
theorem dL_law_930 : decode cL_law 930 = .ok (.invokevirtual 307, 3) := by decide +kernel
theorem dL_law_933 : decode cL_law 933 = .ok (.ifCond .lt 7, 3) := by decide +kernel
theorem dL_law_936 : decode cL_law 936 = .ok (.iconst 1, 1) := by decide +kernel
theorem dL_law_937 : decode cL_law 937 = .ok (.goto 4, 3) := by decide +kernel
theorem dL_law_940 : decode cL_law 940 = .ok (.iconst 0, 1) := by decide +kernel
theorem dL_law_941 : decode cL_law 941 = .ok (.istore 12, 2) := by decide +kernel
theorem dL_law_943 : decode cL_law 943 = .ok (.iload 17, 2) := by decide +kernel
theorem dL_law_945 : decode cL_law 945 = .ok (.ifCond .eq 7, 3) := by decide +kernel
theorem dL_law_948 : decode cL_law 948 = .ok (.ldc 88, 2) := by decide +kernel
theorem dL_law_950 : decode cL_law 950 = .ok (.istore 13, 2) := by decide +kernel
theorem dL_law_952 : decode cL_law 952 = .ok (.iload 12, 2) := by decide +kernel
theorem dL_law_954 : decode cL_law 954 = .ok (.ifCond .eq 76, 3) := by decide +kernel
theorem dL_law_957 : decode cL_law 957 = .ok (.iconst 0, 1) := by decide +kernel
theorem dL_law_958 : decode cL_law 958 = .ok (.newarray .int, 2) := by decide +kernel
theorem dL_law_960 : decode cL_law 960 = .ok (.astore 26, 2) := by decide +kernel
theorem dL_law_962 : decode cL_law 962 = .ok (.aload 6, 2) := by decide +kernel
theorem dL_law_964 : decode cL_law 964 = .ok (.getfield 187, 3) := by decide +kernel
theorem dL_law_967 : decode cL_law 967 = .ok (.astore 27, 2) := by decide +kernel
theorem dL_law_969 : decode cL_law 969 = .ok (.aload 27, 2) := by decide +kernel
theorem dL_law_971 : decode cL_law 971 = .ok (.arraylength, 1) := by decide +kernel
theorem dL_law_972 : decode cL_law 972 = .ok (.istore 28, 2) := by decide +kernel
theorem dL_law_974 : decode cL_law 974 = .ok (.iconst 0, 1) := by decide +kernel
theorem dL_law_975 : decode cL_law 975 = .ok (.istore 29, 2) := by decide +kernel
theorem dL_law_977 : decode cL_law 977 = .ok (.iload 29, 2) := by decide +kernel
theorem dL_law_979 : decode cL_law 979 = .ok (.iload 28, 2) := by decide +kernel
theorem dL_law_981 : decode cL_law 981 = .ok (.if_icmp .ge 32, 3) := by decide +kernel
theorem dL_law_984 : decode cL_law 984 = .ok (.aload 27, 2) := by decide +kernel
theorem dL_law_986 : decode cL_law 986 = .ok (.iload 29, 2) := by decide +kernel
theorem dL_law_988 : decode cL_law 988 = .ok (.iaload, 1) := by decide +kernel
theorem dL_law_989 : decode cL_law 989 = .ok (.istore 30, 2) := by decide +kernel
theorem dL_law_991 : decode cL_law 991 = .ok (.iload 30, 2) := by decide +kernel
theorem dL_law_993 : decode cL_law 993 = .ok (.iload 15, 2) := by decide +kernel
theorem dL_law_995 : decode cL_law 995 = .ok (.if_icmp .eq 12, 3) := by decide +kernel
theorem dL_law_998 : decode cL_law 998 = .ok (.aload 26, 2) := by decide +kernel
theorem dL_law_1000 : decode cL_law 1000 = .ok (.iload 30, 2) := by decide +kernel
theorem dL_law_1002 : decode cL_law 1002 = .ok (.invokestatic 190, 3) := by decide +kernel
theorem dL_law_1005 : decode cL_law 1005 = .ok (.astore 26, 2) := by decide +kernel
theorem dL_law_1007 : decode cL_law 1007 = .ok (.iinc 29 1, 3) := by decide +kernel
theorem dL_law_1010 : decode cL_law 1010 = .ok (.goto (-33), 3) := by decide +kernel
theorem dL_law_1013 : decode cL_law 1013 = .ok (.aload 6, 2) := by decide +kernel
theorem dL_law_1015 : decode cL_law 1015 = .ok (.aload 26, 2) := by decide +kernel
theorem dL_law_1017 : decode cL_law 1017 = .ok (.putfield 187, 3) := by decide +kernel
theorem dL_law_1020 : decode cL_law 1020 = .ok (.aload 6, 2) := by decide +kernel
theorem dL_law_1022 : decode cL_law 1022 = .ok (.aload 11, 2) := by decide +kernel
theorem dL_law_1024 : decode cL_law 1024 = .ok (.iconst (-1), 1) := by decide +kernel
theorem dL_law_1025 : decode cL_law 1025 = .ok (.invokevirtual 293, 3) := by decide +kernel
theorem dL_law_1028 : decode cL_law 1028 = .ok (.istore 13, 2) := by decide +kernel
theorem dL_law_1030 : decode cL_law 1030 = .ok (.aload_n 3, 1) := by decide +kernel
theorem dL_law_1031 : decode cL_law 1031 = .ok (.iload 15, 2) := by decide +kernel
theorem dL_law_1033 : decode cL_law 1033 = .ok (.invokestatic 278, 3) := by decide +kernel
theorem dL_law_1036 : decode cL_law 1036 = .ok (.iload 13, 2) := by decide +kernel
theorem dL_law_1038 : decode cL_law 1038 = .ok (.if_icmp .ne 7, 3) := by decide +kernel
theorem dL_law_1041 : decode cL_law 1041 = .ok (.iconst 1, 1) := by decide +kernel
theorem dL_law_1042 : decode cL_law 1042 = .ok (.goto 4, 3) := by decide +kernel
theorem dL_law_1045 : decode cL_law 1045 = .ok (.iconst 0, 1) := by decide +kernel
theorem dL_law_1046 : decode cL_law 1046 = .ok (.istore_n 1, 1) := by decide +kernel
theorem dL_law_1047 : decode cL_law 1047 = .ok (.goto 82, 3) := by decide +kernel
theorem dL_law_1050 : decode cL_law 1050 = .ok (.iload 17, 2) := by decide +kernel
theorem dL_law_1052 : decode cL_law 1052 = .ok (.ifCond .eq 17, 3) := by decide +kernel
theorem dL_law_1055 : decode cL_law 1055 = .ok (.aload 6, 2) := by decide +kernel
theorem dL_law_1057 : decode cL_law 1057 = .ok (.iload 15, 2) := by decide +kernel
theorem dL_law_1059 : decode cL_law 1059 = .ok (.invokevirtual 307, 3) := by decide +kernel
theorem dL_law_1062 : decode cL_law 1062 = .ok (.ifCond .ge 7, 3) := by decide +kernel
theorem dL_law_1065 : decode cL_law 1065 = .ok (.iconst 1, 1) := by decide +kernel
theorem dL_law_1066 : decode cL_law 1066 = .ok (.goto 4, 3) := by decide +kernel
theorem dL_law_1069 : decode cL_law 1069 = .ok (.iconst 0, 1) := by decide +kernel
theorem dL_law_1070 : decode cL_law 1070 = .ok (.istore 12, 2) := by decide +kernel
theorem dL_law_1072 : decode cL_law 1072 = .ok (.iload 17, 2) := by decide +kernel
theorem dL_law_1074 : decode cL_law 1074 = .ok (.ifCond .eq 7, 3) := by decide +kernel
theorem dL_law_1077 : decode cL_law 1077 = .ok (.ldc 88, 2) := by decide +kernel
theorem dL_law_1079 : decode cL_law 1079 = .ok (.istore 13, 2) := by decide +kernel
theorem dL_law_1081 : decode cL_law 1081 = .ok (.iload 12, 2) := by decide +kernel
theorem dL_law_1083 : decode cL_law 1083 = .ok (.ifCond .eq 29, 3) := by decide +kernel
theorem dL_law_1086 : decode cL_law 1086 = .ok (.aload 6, 2) := by decide +kernel
theorem dL_law_1088 : decode cL_law 1088 = .ok (.aload 6, 2) := by decide +kernel
theorem dL_law_1090 : decode cL_law 1090 = .ok (.getfield 187, 3) := by decide +kernel
theorem dL_law_1093 : decode cL_law 1093 = .ok (.iload 15, 2) := by decide +kernel
theorem dL_law_1095 : decode cL_law 1095 = .ok (.invokestatic 190, 3) := by decide +kernel
theorem dL_law_1098 : decode cL_law 1098 = .ok (.putfield 187, 3) := by decide +kernel
theorem dL_law_1101 : decode cL_law 1101 = .ok (.aload 6, 2) := by decide +kernel
theorem dL_law_1103 : decode cL_law 1103 = .ok (.aload 11, 2) := by decide +kernel
theorem dL_law_1105 : decode cL_law 1105 = .ok (.iload 15, 2) := by decide +kernel
theorem dL_law_1107 : decode cL_law 1107 = .ok (.invokevirtual 293, 3) := by decide +kernel
theorem dL_law_1110 : decode cL_law 1110 = .ok (.istore 13, 2) := by decide +kernel
theorem dL_law_1112 : decode cL_law 1112 = .ok (.aload_n 3, 1) := by decide +kernel
theorem dL_law_1113 : decode cL_law 1113 = .ok (.iload 15, 2) := by decide +kernel
theorem dL_law_1115 : decode cL_law 1115 = .ok (.invokestatic 310, 3) := by decide +kernel
theorem dL_law_1118 : decode cL_law 1118 = .ok (.iload 13, 2) := by decide +kernel
theorem dL_law_1120 : decode cL_law 1120 = .ok (.if_icmp .ne 7, 3) := by decide +kernel
theorem dL_law_1123 : decode cL_law 1123 = .ok (.iconst 1, 1) := by decide +kernel
theorem dL_law_1124 : decode cL_law 1124 = .ok (.goto 4, 3) := by decide +kernel
theorem dL_law_1127 : decode cL_law 1127 = .ok (.iconst 0, 1) := by decide +kernel
theorem dL_law_1128 : decode cL_law 1128 = .ok (.istore_n 1, 1) := by decide +kernel
theorem dL_law_1129 : decode cL_law 1129 = .ok (.iload 12, 2) := by decide +kernel
theorem dL_law_1131 : decode cL_law 1131 = .ok (.ifCond .eq 39, 3) := by decide +kernel
theorem dL_law_1134 : decode cL_law 1134 = .ok (.bipush 8, 2) := by decide +kernel
theorem dL_law_1136 : decode cL_law 1136 = .ok (.istore 20, 2) := by decide +kernel
theorem dL_law_1138 : decode cL_law 1138 = .ok (.iload 20, 2) := by decide +kernel
theorem dL_law_1140 : decode cL_law 1140 = .ok (.ifCond .le 21, 3) := by decide +kernel
theorem dL_law_1143 : decode cL_law 1143 = .ok (.aload 7, 2) := by decide +kernel
theorem dL_law_1145 : decode cL_law 1145 = .ok (.iload 20, 2) := by decide +kernel
theorem dL_law_1147 : decode cL_law 1147 = .ok (.aload 7, 2) := by decide +kernel
theorem dL_law_1149 : decode cL_law 1149 = .ok (.iload 20, 2) := by decide +kernel
theorem dL_law_1151 : decode cL_law 1151 = .ok (.iconst 1, 1) := by decide +kernel
theorem dL_law_1152 : decode cL_law 1152 = .ok (.isub, 1) := by decide +kernel
theorem dL_law_1153 : decode cL_law 1153 = .ok (.aaload, 1) := by decide +kernel
theorem dL_law_1154 : decode cL_law 1154 = .ok (.aastore, 1) := by decide +kernel
theorem dL_law_1155 : decode cL_law 1155 = .ok (.iinc 20 (-1), 3) := by decide +kernel
theorem dL_law_1158 : decode cL_law 1158 = .ok (.goto (-20), 3) := by decide +kernel
theorem dL_law_1161 : decode cL_law 1161 = .ok (.aload 7, 2) := by decide +kernel
theorem dL_law_1163 : decode cL_law 1163 = .ok (.iconst 0, 1) := by decide +kernel
theorem dL_law_1164 : decode cL_law 1164 = .ok (.aload 10, 2) := by decide +kernel
theorem dL_law_1166 : decode cL_law 1166 = .ok (.aastore, 1) := by decide +kernel
theorem dL_law_1167 : decode cL_law 1167 = .ok (.iinc 8 1, 3) := by decide +kernel
theorem dL_law_1170 : decode cL_law 1170 = .ok (.iload_n 1, 1) := by decide +kernel
theorem dL_law_1171 : decode cL_law 1171 = .ok (.ifCond .eq 16, 3) := by decide +kernel
theorem dL_law_1174 : decode cL_law 1174 = .ok (.aload_n 3, 1) := by decide +kernel
theorem dL_law_1175 : decode cL_law 1175 = .ok (.aload 6, 2) := by decide +kernel
theorem dL_law_1177 : decode cL_law 1177 = .ok (.invokestatic 268, 3) := by decide +kernel
theorem dL_law_1180 : decode cL_law 1180 = .ok (.ifCond .eq 7, 3) := by decide +kernel
theorem dL_law_1183 : decode cL_law 1183 = .ok (.iconst 1, 1) := by decide +kernel
theorem dL_law_1184 : decode cL_law 1184 = .ok (.goto 4, 3) := by decide +kernel
theorem dL_law_1187 : decode cL_law 1187 = .ok (.iconst 0, 1) := by decide +kernel
theorem dL_law_1188 : decode cL_law 1188 = .ok (.istore_n 1, 1) := by decide +kernel
theorem dL_law_1189 : decode cL_law 1189 = .ok (.iinc 9 1, 3) := by decide +kernel
theorem dL_law_1192 : decode cL_law 1192 = .ok (.goto (-1000), 3) := by decide +kernel
theorem dL_law_1195 : decode cL_law 1195 = .ok (.iconst 0, 1) := by decide +kernel
theorem dL_law_1196 : decode cL_law 1196 = .ok (.istore 9, 2) := by decide +kernel
theorem dL_law_1198 : decode cL_law 1198 = .ok (.iload 9, 2) := by decide +kernel
theorem dL_law_1200 : decode cL_law 1200 = .ok (.bipush 8, 2) := by decide +kernel
theorem dL_law_1202 : decode cL_law 1202 = .ok (.if_icmp .ge 45, 3) := by decide +kernel
theorem dL_law_1205 : decode cL_law 1205 = .ok (.iload 9, 2) := by decide +kernel
theorem dL_law_1207 : decode cL_law 1207 = .ok (.iload 8, 2) := by decide +kernel
theorem dL_law_1209 : decode cL_law 1209 = .ok (.if_icmp .ge 38, 3) := by decide +kernel
theorem dL_law_1212 : decode cL_law 1212 = .ok (.iload_n 1, 1) := by decide +kernel
theorem dL_law_1213 : decode cL_law 1213 = .ok (.ifCond .eq 34, 3) := by decide +kernel
theorem dL_law_1216 : decode cL_law 1216 = .ok (.aload_n 3, 1) := by decide +kernel
theorem dL_law_1217 : decode cL_law 1217 = .ok (.invokevirtual 275, 3) := by decide +kernel
theorem dL_law_1220 : decode cL_law 1220 = .ok (.ifCond .lt 19, 3) := by decide +kernel
theorem dL_law_1223 : decode cL_law 1223 = .ok (.aload_n 3, 1) := by decide +kernel
theorem dL_law_1224 : decode cL_law 1224 = .ok (.aload 7, 2) := by decide +kernel
theorem dL_law_1226 : decode cL_law 1226 = .ok (.iload 9, 2) := by decide +kernel
theorem dL_law_1228 : decode cL_law 1228 = .ok (.aaload, 1) := by decide +kernel
theorem dL_law_1229 : decode cL_law 1229 = .ok (.invokestatic 268, 3) := by decide +kernel
theorem dL_law_1232 : decode cL_law 1232 = .ok (.ifCond .eq 7, 3) := by decide +kernel
theorem dL_law_1235 : decode cL_law 1235 = .ok (.iconst 1, 1) := by decide +kernel
theorem dL_law_1236 : decode cL_law 1236 = .ok (.goto 4, 3) := by decide +kernel
theorem dL_law_1239 : decode cL_law 1239 = .ok (.iconst 0, 1) := by decide +kernel
theorem dL_law_1240 : decode cL_law 1240 = .ok (.istore_n 1, 1) := by decide +kernel
theorem dL_law_1241 : decode cL_law 1241 = .ok (.iinc 9 1, 3) := by decide +kernel
theorem dL_law_1244 : decode cL_law 1244 = .ok (.goto (-46), 3) := by decide +kernel
theorem dL_law_1247 : decode cL_law 1247 = .ok (.iload_n 1, 1) := by decide +kernel
theorem dL_law_1248 : decode cL_law 1248 = .ok (.ifCond .eq 61, 3) := by decide +kernel
theorem dL_law_1251 : decode cL_law 1251 = .ok (.aload_n 3, 1) := by decide +kernel
theorem dL_law_1252 : decode cL_law 1252 = .ok (.iconst 1, 1) := by decide +kernel
theorem dL_law_1253 : decode cL_law 1253 = .ok (.invokestatic 19, 3) := by decide +kernel
theorem dL_law_1256 : decode cL_law 1256 = .ok (.ldc 42, 2) := by decide +kernel
theorem dL_law_1258 : decode cL_law 1258 = .ok (.if_icmp .ne 51, 3) := by decide +kernel
theorem dL_law_1261 : decode cL_law 1261 = .ok (.aload_n 3, 1) := by decide +kernel
theorem dL_law_1262 : decode cL_law 1262 = .ok (.iconst (-1), 1) := by decide +kernel
theorem dL_law_1263 : decode cL_law 1263 = .ok (.iconst (-1), 1) := by decide +kernel
theorem dL_law_1264 : decode cL_law 1264 = .ok (.invokestatic 300, 3) := by decide +kernel
theorem dL_law_1267 : decode cL_law 1267 = .ok (.ldc 49, 2) := by decide +kernel
theorem dL_law_1269 : decode cL_law 1269 = .ok (.if_icmp .ne 40, 3) := by decide +kernel
theorem dL_law_1272 : decode cL_law 1272 = .ok (.aload_n 3, 1) := by decide +kernel
theorem dL_law_1273 : decode cL_law 1273 = .ok (.iconst 0, 1) := by decide +kernel
theorem dL_law_1274 : decode cL_law 1274 = .ok (.bipush 12, 2) := by decide +kernel
theorem dL_law_1276 : decode cL_law 1276 = .ok (.invokestatic 312, 3) := by decide +kernel
theorem dL_law_1279 : decode cL_law 1279 = .ok (.ldc 49, 2) := by decide +kernel
theorem dL_law_1281 : decode cL_law 1281 = .ok (.if_icmp .ne 28, 3) := by decide +kernel
theorem dL_law_1284 : decode cL_law 1284 = .ok (.aload_n 3, 1) := by decide +kernel
theorem dL_law_1285 : decode cL_law 1285 = .ok (.iconst (-1), 1) := by decide +kernel
theorem dL_law_1286 : decode cL_law 1286 = .ok (.invokestatic 314, 3) := by decide +kernel
theorem dL_law_1289 : decode cL_law 1289 = .ok (.ldc 49, 2) := by decide +kernel
theorem dL_law_1291 : decode cL_law 1291 = .ok (.if_icmp .ne 18, 3) := by decide +kernel
theorem dL_law_1294 : decode cL_law 1294 = .ok (.aload_n 3, 1) := by decide +kernel
theorem dL_law_1295 : decode cL_law 1295 = .ok (.bipush 12, 2) := by decide +kernel
theorem dL_law_1297 : decode cL_law 1297 = .ok (.invokestatic 316, 3) := by decide +kernel
theorem dL_law_1300 : decode cL_law 1300 = .ok (.ldc 49, 2) := by decide +kernel
theorem dL_law_1302 : decode cL_law 1302 = .ok (.if_icmp .ne 7, 3) := by decide +kernel
theorem dL_law_1305 : decode cL_law 1305 = .ok (.iconst 1, 1) := by decide +kernel
theorem dL_law_1306 : decode cL_law 1306 = .ok (.goto 4, 3) := by decide +kernel
theorem dL_law_1309 : decode cL_law 1309 = .ok (.iconst 0, 1) := by decide +kernel
theorem dL_law_1310 : decode cL_law 1310 = .ok (.istore_n 1, 1) := by decide +kernel
theorem dL_law_1311 : decode cL_law 1311 = .ok (.iinc 2 1, 3) := by decide +kernel
theorem dL_law_1314 : decode cL_law 1314 = .ok (.goto (-1310), 3) := by decide +kernel
theorem dL_law_1317 : decode cL_law 1317 = .ok (.iload_n 1, 1) := by decide +kernel
theorem dL_law_1318 : decode cL_law 1318 = .ok (.ireturn, 1) := by decide +kernel
end
section
theorem dX0_init_0 : decode cX0_init 0 = .ok (.aload_n 0, 1) := by decide +kernel
theorem dX0_init_1 : decode cX0_init 1 = .ok (.invokespecial 3, 3) := by decide +kernel
theorem dX0_init_4 : decode cX0_init 4 = .ok (.aload_n 0, 1) := by decide +kernel
theorem dX0_init_5 : decode cX0_init 5 = .ok (.bipush 8, 2) := by decide +kernel
theorem dX0_init_7 : decode cX0_init 7 = .ok (.anewarray 9, 3) := by decide +kernel
theorem dX0_init_10 : decode cX0_init 10 = .ok (.putfield 11, 3) := by decide +kernel
theorem dX0_init_13 : decode cX0_init 13 = .ok (.aload_n 0, 1) := by decide +kernel
theorem dX0_init_14 : decode cX0_init 14 = .ok (.iconst 0, 1) := by decide +kernel
theorem dX0_init_15 : decode cX0_init 15 = .ok (.putfield 17, 3) := by decide +kernel
theorem dX0_init_18 : decode cX0_init 18 = .ok (.aload_n 0, 1) := by decide +kernel
theorem dX0_init_19 : decode cX0_init 19 = .ok (.iconst 0, 1) := by decide +kernel
theorem dX0_init_20 : decode cX0_init 20 = .ok (.putfield 21, 3) := by decide +kernel
theorem dX0_init_23 : decode cX0_init 23 = .ok (.aload_n 0, 1) := by decide +kernel
theorem dX0_init_24 : decode cX0_init 24 = .ok (.bipush 50, 2) := by decide +kernel
theorem dX0_init_26 : decode cX0_init 26 = .ok (.putfield 24, 3) := by decide +kernel
theorem dX0_init_29 : decode cX0_init 29 = .ok (.aload_n 0, 1) := by decide +kernel
theorem dX0_init_30 : decode cX0_init 30 = .ok (.new 27, 3) := by decide +kernel
theorem dX0_init_33 : decode cX0_init 33 = .ok (.dup, 1) := by decide +kernel
theorem dX0_init_34 : decode cX0_init 34 = .ok (.iconst 1, 1) := by decide +kernel
theorem dX0_init_35 : decode cX0_init 35 = .ok (.newarray .int, 2) := by decide +kernel
theorem dX0_init_37 : decode cX0_init 37 = .ok (.dup, 1) := by decide +kernel
theorem dX0_init_38 : decode cX0_init 38 = .ok (.iconst 0, 1) := by decide +kernel
theorem dX0_init_39 : decode cX0_init 39 = .ok (.iconst (-1), 1) := by decide +kernel
theorem dX0_init_40 : decode cX0_init 40 = .ok (.iastore, 1) := by decide +kernel
theorem dX0_init_41 : decode cX0_init 41 = .ok (.invokespecial 29, 3) := by decide +kernel
theorem dX0_init_44 : decode cX0_init 44 = .ok (.putfield 32, 3) := by decide +kernel
theorem dX0_init_47 : decode cX0_init 47 = .ok (.iconst 0, 1) := by decide +kernel
theorem dX0_init_48 : decode cX0_init 48 = .ok (.istore_n 1, 1) := by decide +kernel
theorem dX0_init_49 : decode cX0_init 49 = .ok (.iload_n 1, 1) := by decide +kernel
theorem dX0_init_50 : decode cX0_init 50 = .ok (.bipush 8, 2) := by decide +kernel
theorem dX0_init_52 : decode cX0_init 52 = .ok (.if_icmp .ge 22, 3) := by decide +kernel
theorem dX0_init_55 : decode cX0_init 55 = .ok (.aload_n 0, 1) := by decide +kernel
theorem dX0_init_56 : decode cX0_init 56 = .ok (.getfield 11, 3) := by decide +kernel
theorem dX0_init_59 : decode cX0_init 59 = .ok (.iload_n 1, 1) := by decide +kernel
theorem dX0_init_60 : decode cX0_init 60 = .ok (.new 9, 3) := by decide +kernel
theorem dX0_init_63 : decode cX0_init 63 = .ok (.dup, 1) := by decide +kernel
theorem dX0_init_64 : decode cX0_init 64 = .ok (.invokespecial 36, 3) := by decide +kernel
theorem dX0_init_67 : decode cX0_init 67 = .ok (.aastore, 1) := by decide +kernel
theorem dX0_init_68 : decode cX0_init 68 = .ok (.iinc 1 1, 3) := by decide +kernel
theorem dX0_init_71 : decode cX0_init 71 = .ok (.goto (-22), 3) := by decide +kernel
theorem dX0_init_74 : decode cX0_init 74 = .ok (.return_, 1) := by decide +kernel
theorem dX0_clear_0 : decode cX0_clear 0 = .ok (.aload_n 0, 1) := by decide +kernel
theorem dX0_clear_1 : decode cX0_clear 1 = .ok (.iconst 0, 1) := by decide +kernel
theorem dX0_clear_2 : decode cX0_clear 2 = .ok (.putfield 17, 3) := by decide +kernel
theorem dX0_clear_5 : decode cX0_clear 5 = .ok (.aload_n 0, 1) := by decide +kernel
theorem dX0_clear_6 : decode cX0_clear 6 = .ok (.iconst 0, 1) := by decide +kernel
theorem dX0_clear_7 : decode cX0_clear 7 = .ok (.putfield 21, 3) := by decide +kernel
theorem dX0_clear_10 : decode cX0_clear 10 = .ok (.aload_n 0, 1) := by decide +kernel
theorem dX0_clear_11 : decode cX0_clear 11 = .ok (.bipush 50, 2) := by decide +kernel
theorem dX0_clear_13 : decode cX0_clear 13 = .ok (.putfield 24, 3) := by decide +kernel
theorem dX0_clear_16 : decode cX0_clear 16 = .ok (.return_, 1) := by decide +kernel
theorem dX0_copyFrom_0 : decode cX0_copyFrom 0 = .ok (.aload_n 0, 1) := by decide +kernel
theorem dX0_copyFrom_1 : decode cX0_copyFrom 1 = .ok (.aload_n 1, 1) := by decide +kernel
theorem dX0_copyFrom_2 : decode cX0_copyFrom 2 = .ok (.getfield 17, 3) := by decide +kernel
theorem dX0_copyFrom_5 : decode cX0_copyFrom 5 = .ok (.putfield 17, 3) := by decide +kernel
theorem dX0_copyFrom_8 : decode cX0_copyFrom 8 = .ok (.aload_n 0, 1) := by decide +kernel
theorem dX0_copyFrom_9 : decode cX0_copyFrom 9 = .ok (.aload_n 1, 1) := by decide +kernel
theorem dX0_copyFrom_10 : decode cX0_copyFrom 10 = .ok (.getfield 21, 3) := by decide +kernel
theorem dX0_copyFrom_13 : decode cX0_copyFrom 13 = .ok (.putfield 21, 3) := by decide +kernel
theorem dX0_copyFrom_16 : decode cX0_copyFrom 16 = .ok (.aload_n 0, 1) := by decide +kernel
theorem dX0_copyFrom_17 : decode cX0_copyFrom 17 = .ok (.aload_n 1, 1) := by decide +kernel
theorem dX0_copyFrom_18 : decode cX0_copyFrom 18 = .ok (.getfield 24, 3) := by decide +kernel
theorem dX0_copyFrom_21 : decode cX0_copyFrom 21 = .ok (.putfield 24, 3) := by decide +kernel
theorem dX0_copyFrom_24 : decode cX0_copyFrom 24 = .ok (.aload_n 0, 1) := by decide +kernel
theorem dX0_copyFrom_25 : decode cX0_copyFrom 25 = .ok (.aload_n 1, 1) := by decide +kernel
theorem dX0_copyFrom_26 : decode cX0_copyFrom 26 = .ok (.getfield 32, 3) := by decide +kernel
theorem dX0_copyFrom_29 : decode cX0_copyFrom 29 = .ok (.putfield 32, 3) := by decide +kernel
theorem dX0_copyFrom_32 : decode cX0_copyFrom 32 = .ok (.iconst 0, 1) := by decide +kernel
theorem dX0_copyFrom_33 : decode cX0_copyFrom 33 = .ok (.istore_n 2, 1) := by decide +kernel
theorem dX0_copyFrom_34 : decode cX0_copyFrom 34 = .ok (.iload_n 2, 1) := by decide +kernel
theorem dX0_copyFrom_35 : decode cX0_copyFrom 35 = .ok (.bipush 8, 2) := by decide +kernel
theorem dX0_copyFrom_37 : decode cX0_copyFrom 37 = .ok (.if_icmp .ge 24, 3) := by decide +kernel
theorem dX0_copyFrom_40 : decode cX0_copyFrom 40 = .ok (.aload_n 0, 1) := by decide +kernel
theorem dX0_copyFrom_41 : decode cX0_copyFrom 41 = .ok (.getfield 11, 3) := by decide +kernel
theorem dX0_copyFrom_44 : decode cX0_copyFrom 44 = .ok (.iload_n 2, 1) := by decide +kernel
theorem dX0_copyFrom_45 : decode cX0_copyFrom 45 = .ok (.aaload, 1) := by decide +kernel
theorem dX0_copyFrom_46 : decode cX0_copyFrom 46 = .ok (.aload_n 1, 1) := by decide +kernel
theorem dX0_copyFrom_47 : decode cX0_copyFrom 47 = .ok (.getfield 11, 3) := by decide +kernel
theorem dX0_copyFrom_50 : decode cX0_copyFrom 50 = .ok (.iload_n 2, 1) := by decide +kernel
theorem dX0_copyFrom_51 : decode cX0_copyFrom 51 = .ok (.aaload, 1) := by decide +kernel
theorem dX0_copyFrom_52 : decode cX0_copyFrom 52 = .ok (.invokevirtual 37, 3) := by decide +kernel
theorem dX0_copyFrom_55 : decode cX0_copyFrom 55 = .ok (.iinc 2 1, 3) := by decide +kernel
theorem dX0_copyFrom_58 : decode cX0_copyFrom 58 = .ok (.goto (-24), 3) := by decide +kernel
theorem dX0_copyFrom_61 : decode cX0_copyFrom 61 = .ok (.return_, 1) := by decide +kernel
theorem dX0_isCandidate_0 : decode cX0_isCandidate 0 = .ok (.aload_n 0, 1) := by decide +kernel
theorem dX0_isCandidate_1 : decode cX0_isCandidate 1 = .ok (.getfield 11, 3) := by decide +kernel
theorem dX0_isCandidate_4 : decode cX0_isCandidate 4 = .ok (.iload_n 1, 1) := by decide +kernel
theorem dX0_isCandidate_5 : decode cX0_isCandidate 5 = .ok (.aaload, 1) := by decide +kernel
theorem dX0_isCandidate_6 : decode cX0_isCandidate 6 = .ok (.invokevirtual 41, 3) := by decide +kernel
theorem dX0_isCandidate_9 : decode cX0_isCandidate 9 = .ok (.ifCond .eq 20, 3) := by decide +kernel
theorem dX0_isCandidate_12 : decode cX0_isCandidate 12 = .ok (.aload_n 0, 1) := by decide +kernel
theorem dX0_isCandidate_13 : decode cX0_isCandidate 13 = .ok (.getfield 11, 3) := by decide +kernel
theorem dX0_isCandidate_16 : decode cX0_isCandidate 16 = .ok (.iload_n 1, 1) := by decide +kernel
theorem dX0_isCandidate_17 : decode cX0_isCandidate 17 = .ok (.aaload, 1) := by decide +kernel
theorem dX0_isCandidate_18 : decode cX0_isCandidate 18 = .ok (.iload_n 2, 1) := by decide +kernel
theorem dX0_isCandidate_19 : decode cX0_isCandidate 19 = .ok (.invokevirtual 45, 3) := by decide +kernel
theorem dX0_isCandidate_22 : decode cX0_isCandidate 22 = .ok (.ifCond .eq 7, 3) := by decide +kernel
theorem dX0_isCandidate_25 : decode cX0_isCandidate 25 = .ok (.iconst 1, 1) := by decide +kernel
theorem dX0_isCandidate_26 : decode cX0_isCandidate 26 = .ok (.goto 4, 3) := by decide +kernel
theorem dX0_isCandidate_29 : decode cX0_isCandidate 29 = .ok (.iconst 0, 1) := by decide +kernel
theorem dX0_isCandidate_30 : decode cX0_isCandidate 30 = .ok (.ireturn, 1) := by decide +kernel
theorem dX0_takeOut_0 : decode cX0_takeOut 0 = .ok (.aload_n 0, 1) := by decide +kernel
theorem dX0_takeOut_1 : decode cX0_takeOut 1 = .ok (.getfield 11, 3) := by decide +kernel
theorem dX0_takeOut_4 : decode cX0_takeOut 4 = .ok (.iload_n 1, 1) := by decide +kernel
theorem dX0_takeOut_5 : decode cX0_takeOut 5 = .ok (.aaload, 1) := by decide +kernel
theorem dX0_takeOut_6 : decode cX0_takeOut 6 = .ok (.getfield 49, 3) := by decide +kernel
theorem dX0_takeOut_9 : decode cX0_takeOut 9 = .ok (.istore_n 2, 1) := by decide +kernel
theorem dX0_takeOut_10 : decode cX0_takeOut 10 = .ok (.aload_n 0, 1) := by decide +kernel
theorem dX0_takeOut_11 : decode cX0_takeOut 11 = .ok (.getfield 11, 3) := by decide +kernel
theorem dX0_takeOut_14 : decode cX0_takeOut 14 = .ok (.iload_n 1, 1) := by decide +kernel
theorem dX0_takeOut_15 : decode cX0_takeOut 15 = .ok (.aaload, 1) := by decide +kernel
theorem dX0_takeOut_16 : decode cX0_takeOut 16 = .ok (.iconst (-1), 1) := by decide +kernel
theorem dX0_takeOut_17 : decode cX0_takeOut 17 = .ok (.putfield 49, 3) := by decide +kernel
theorem dX0_takeOut_20 : decode cX0_takeOut 20 = .ok (.iconst 0, 1) := by decide +kernel
theorem dX0_takeOut_21 : decode cX0_takeOut 21 = .ok (.istore_n 3, 1) := by decide +kernel
theorem dX0_takeOut_22 : decode cX0_takeOut 22 = .ok (.iload_n 3, 1) := by decide +kernel
theorem dX0_takeOut_23 : decode cX0_takeOut 23 = .ok (.aload_n 0, 1) := by decide +kernel
theorem dX0_takeOut_24 : decode cX0_takeOut 24 = .ok (.getfield 17, 3) := by decide +kernel
theorem dX0_takeOut_27 : decode cX0_takeOut 27 = .ok (.if_icmp .ge 37, 3) := by decide +kernel
theorem dX0_takeOut_30 : decode cX0_takeOut 30 = .ok (.aload_n 0, 1) := by decide +kernel
theorem dX0_takeOut_31 : decode cX0_takeOut 31 = .ok (.getfield 11, 3) := by decide +kernel
theorem dX0_takeOut_34 : decode cX0_takeOut 34 = .ok (.iload_n 3, 1) := by decide +kernel
theorem dX0_takeOut_35 : decode cX0_takeOut 35 = .ok (.aaload, 1) := by decide +kernel
theorem dX0_takeOut_36 : decode cX0_takeOut 36 = .ok (.getfield 49, 3) := by decide +kernel
theorem dX0_takeOut_39 : decode cX0_takeOut 39 = .ok (.iload_n 2, 1) := by decide +kernel
theorem dX0_takeOut_40 : decode cX0_takeOut 40 = .ok (.if_icmp .le 18, 3) := by decide +kernel
theorem dX0_takeOut_43 : decode cX0_takeOut 43 = .ok (.aload_n 0, 1) := by decide +kernel
theorem dX0_takeOut_44 : decode cX0_takeOut 44 = .ok (.getfield 11, 3) := by decide +kernel
theorem dX0_takeOut_47 : decode cX0_takeOut 47 = .ok (.iload_n 3, 1) := by decide +kernel
theorem dX0_takeOut_48 : decode cX0_takeOut 48 = .ok (.aaload, 1) := by decide +kernel
theorem dX0_takeOut_49 : decode cX0_takeOut 49 = .ok (.dup, 1) := by decide +kernel
theorem dX0_takeOut_50 : decode cX0_takeOut 50 = .ok (.getfield 49, 3) := by decide +kernel
theorem dX0_takeOut_53 : decode cX0_takeOut 53 = .ok (.iconst 1, 1) := by decide +kernel
theorem dX0_takeOut_54 : decode cX0_takeOut 54 = .ok (.isub, 1) := by decide +kernel
theorem dX0_takeOut_55 : decode cX0_takeOut 55 = .ok (.putfield 49, 3) := by decide +kernel
theorem dX0_takeOut_58 : decode cX0_takeOut 58 = .ok (.iinc 3 1, 3) := by decide +kernel
theorem dX0_takeOut_61 : decode cX0_takeOut 61 = .ok (.goto (-39), 3) := by decide +kernel
theorem dX0_takeOut_64 : decode cX0_takeOut 64 = .ok (.return_, 1) := by decide +kernel
theorem dX0_takeIn_0 : decode cX0_takeIn 0 = .ok (.iconst 0, 1) := by decide +kernel
theorem dX0_takeIn_1 : decode cX0_takeIn 1 = .ok (.istore_n 2, 1) := by decide +kernel
theorem dX0_takeIn_2 : decode cX0_takeIn 2 = .ok (.iconst 0, 1) := by decide +kernel
theorem dX0_takeIn_3 : decode cX0_takeIn 3 = .ok (.istore_n 3, 1) := by decide +kernel
theorem dX0_takeIn_4 : decode cX0_takeIn 4 = .ok (.iload_n 3, 1) := by decide +kernel
theorem dX0_takeIn_5 : decode cX0_takeIn 5 = .ok (.aload_n 0, 1) := by decide +kernel
theorem dX0_takeIn_6 : decode cX0_takeIn 6 = .ok (.getfield 17, 3) := by decide +kernel
theorem dX0_takeIn_9 : decode cX0_takeIn 9 = .ok (.if_icmp .ge 24, 3) := by decide +kernel
theorem dX0_takeIn_12 : decode cX0_takeIn 12 = .ok (.aload_n 0, 1) := by decide +kernel
theorem dX0_takeIn_13 : decode cX0_takeIn 13 = .ok (.getfield 11, 3) := by decide +kernel
theorem dX0_takeIn_16 : decode cX0_takeIn 16 = .ok (.iload_n 3, 1) := by decide +kernel
theorem dX0_takeIn_17 : decode cX0_takeIn 17 = .ok (.aaload, 1) := by decide +kernel
theorem dX0_takeIn_18 : decode cX0_takeIn 18 = .ok (.invokevirtual 41, 3) := by decide +kernel
theorem dX0_takeIn_21 : decode cX0_takeIn 21 = .ok (.ifCond .eq 6, 3) := by decide +kernel
theorem dX0_takeIn_24 : decode cX0_takeIn 24 = .ok (.iinc 2 1, 3) := by decide +kernel
theorem dX0_takeIn_27 : decode cX0_takeIn 27 = .ok (.iinc 3 1, 3) := by decide +kernel
theorem dX0_takeIn_30 : decode cX0_takeIn 30 = .ok (.goto (-26), 3) := by decide +kernel
theorem dX0_takeIn_33 : decode cX0_takeIn 33 = .ok (.aload_n 0, 1) := by decide +kernel
theorem dX0_takeIn_34 : decode cX0_takeIn 34 = .ok (.getfield 11, 3) := by decide +kernel
theorem dX0_takeIn_37 : decode cX0_takeIn 37 = .ok (.iload_n 1, 1) := by decide +kernel
theorem dX0_takeIn_38 : decode cX0_takeIn 38 = .ok (.aaload, 1) := by decide +kernel
theorem dX0_takeIn_39 : decode cX0_takeIn 39 = .ok (.iload_n 2, 1) := by decide +kernel
theorem dX0_takeIn_40 : decode cX0_takeIn 40 = .ok (.putfield 49, 3) := by decide +kernel
theorem dX0_takeIn_43 : decode cX0_takeIn 43 = .ok (.return_, 1) := by decide +kernel
theorem dX0_friendsOf_0 : decode cX0_friendsOf 0 = .ok (.iconst 0, 1) := by decide +kernel
theorem dX0_friendsOf_1 : decode cX0_friendsOf 1 = .ok (.istore_n 2, 1) := by decide +kernel
theorem dX0_friendsOf_2 : decode cX0_friendsOf 2 = .ok (.iconst 0, 1) := by decide +kernel
theorem dX0_friendsOf_3 : decode cX0_friendsOf 3 = .ok (.istore_n 3, 1) := by decide +kernel
theorem dX0_friendsOf_4 : decode cX0_friendsOf 4 = .ok (.iload_n 3, 1) := by decide +kernel
theorem dX0_friendsOf_5 : decode cX0_friendsOf 5 = .ok (.aload_n 0, 1) := by decide +kernel
theorem dX0_friendsOf_6 : decode cX0_friendsOf 6 = .ok (.getfield 17, 3) := by decide +kernel
theorem dX0_friendsOf_9 : decode cX0_friendsOf 9 = .ok (.if_icmp .ge 37, 3) := by decide +kernel
theorem dX0_friendsOf_12 : decode cX0_friendsOf 12 = .ok (.aload_n 0, 1) := by decide +kernel
theorem dX0_friendsOf_13 : decode cX0_friendsOf 13 = .ok (.getfield 11, 3) := by decide +kernel
theorem dX0_friendsOf_16 : decode cX0_friendsOf 16 = .ok (.iload_n 3, 1) := by decide +kernel
theorem dX0_friendsOf_17 : decode cX0_friendsOf 17 = .ok (.aaload, 1) := by decide +kernel
theorem dX0_friendsOf_18 : decode cX0_friendsOf 18 = .ok (.invokevirtual 41, 3) := by decide +kernel
theorem dX0_friendsOf_21 : decode cX0_friendsOf 21 = .ok (.ifCond .eq 19, 3) := by decide +kernel
theorem dX0_friendsOf_24 : decode cX0_friendsOf 24 = .ok (.aload_n 0, 1) := by decide +kernel
theorem dX0_friendsOf_25 : decode cX0_friendsOf 25 = .ok (.getfield 11, 3) := by decide +kernel
theorem dX0_friendsOf_28 : decode cX0_friendsOf 28 = .ok (.iload_n 3, 1) := by decide +kernel
theorem dX0_friendsOf_29 : decode cX0_friendsOf 29 = .ok (.aaload, 1) := by decide +kernel
theorem dX0_friendsOf_30 : decode cX0_friendsOf 30 = .ok (.iload_n 1, 1) := by decide +kernel
theorem dX0_friendsOf_31 : decode cX0_friendsOf 31 = .ok (.invokevirtual 52, 3) := by decide +kernel
theorem dX0_friendsOf_34 : decode cX0_friendsOf 34 = .ok (.ifCond .eq 6, 3) := by decide +kernel
theorem dX0_friendsOf_37 : decode cX0_friendsOf 37 = .ok (.iinc 2 1, 3) := by decide +kernel
theorem dX0_friendsOf_40 : decode cX0_friendsOf 40 = .ok (.iinc 3 1, 3) := by decide +kernel
theorem dX0_friendsOf_43 : decode cX0_friendsOf 43 = .ok (.goto (-39), 3) := by decide +kernel
theorem dX0_friendsOf_46 : decode cX0_friendsOf 46 = .ok (.iload_n 2, 1) := by decide +kernel
theorem dX0_friendsOf_47 : decode cX0_friendsOf 47 = .ok (.ireturn, 1) := by decide +kernel
theorem dX0_weightOf_0 : decode cX0_weightOf 0 = .ok (.aload_n 0, 1) := by decide +kernel
theorem dX0_weightOf_1 : decode cX0_weightOf 1 = .ok (.getfield 11, 3) := by decide +kernel
theorem dX0_weightOf_4 : decode cX0_weightOf 4 = .ok (.iload_n 1, 1) := by decide +kernel
theorem dX0_weightOf_5 : decode cX0_weightOf 5 = .ok (.aaload, 1) := by decide +kernel
theorem dX0_weightOf_6 : decode cX0_weightOf 6 = .ok (.astore_n 2, 1) := by decide +kernel
theorem dX0_weightOf_7 : decode cX0_weightOf 7 = .ok (.aload_n 0, 1) := by decide +kernel
theorem dX0_weightOf_8 : decode cX0_weightOf 8 = .ok (.getfield 32, 3) := by decide +kernel
theorem dX0_weightOf_11 : decode cX0_weightOf 11 = .ok (.aload_n 2, 1) := by decide +kernel
theorem dX0_weightOf_12 : decode cX0_weightOf 12 = .ok (.getfield 55, 3) := by decide +kernel
theorem dX0_weightOf_15 : decode cX0_weightOf 15 = .ok (.aload_n 2, 1) := by decide +kernel
theorem dX0_weightOf_16 : decode cX0_weightOf 16 = .ok (.getfield 49, 3) := by decide +kernel
theorem dX0_weightOf_19 : decode cX0_weightOf 19 = .ok (.aload_n 2, 1) := by decide +kernel
theorem dX0_weightOf_20 : decode cX0_weightOf 20 = .ok (.invokevirtual 58, 3) := by decide +kernel
theorem dX0_weightOf_23 : decode cX0_weightOf 23 = .ok (.aload_n 0, 1) := by decide +kernel
theorem dX0_weightOf_24 : decode cX0_weightOf 24 = .ok (.iload_n 1, 1) := by decide +kernel
theorem dX0_weightOf_25 : decode cX0_weightOf 25 = .ok (.invokevirtual 62, 3) := by decide +kernel
theorem dX0_weightOf_28 : decode cX0_weightOf 28 = .ok (.invokevirtual 66, 3) := by decide +kernel
theorem dX0_weightOf_31 : decode cX0_weightOf 31 = .ok (.ireturn, 1) := by decide +kernel
end
section
theorem dX1_init_0 : decode cX1_init 0 = .ok (.aload_n 0, 1) := by decide +kernel
theorem dX1_init_1 : decode cX1_init 1 = .ok (.invokespecial 3, 3) := by decide +kernel
theorem dX1_init_4 : decode cX1_init 4 = .ok (.aload_n 0, 1) := by decide +kernel
theorem dX1_init_5 : decode cX1_init 5 = .ok (.bipush 8, 2) := by decide +kernel
theorem dX1_init_7 : decode cX1_init 7 = .ok (.newarray .int, 2) := by decide +kernel
theorem dX1_init_9 : decode cX1_init 9 = .ok (.putfield 9, 3) := by decide +kernel
theorem dX1_init_12 : decode cX1_init 12 = .ok (.aload_n 0, 1) := by decide +kernel
theorem dX1_init_13 : decode cX1_init 13 = .ok (.bipush 12, 2) := by decide +kernel
theorem dX1_init_15 : decode cX1_init 15 = .ok (.newarray .int, 2) := by decide +kernel
theorem dX1_init_17 : decode cX1_init 17 = .ok (.putfield 15, 3) := by decide +kernel
theorem dX1_init_20 : decode cX1_init 20 = .ok (.aload_n 0, 1) := by decide +kernel
theorem dX1_init_21 : decode cX1_init 21 = .ok (.bipush 12, 2) := by decide +kernel
theorem dX1_init_23 : decode cX1_init 23 = .ok (.newarray .int, 2) := by decide +kernel
theorem dX1_init_25 : decode cX1_init 25 = .ok (.putfield 18, 3) := by decide +kernel
theorem dX1_init_28 : decode cX1_init 28 = .ok (.aload_n 0, 1) := by decide +kernel
theorem dX1_init_29 : decode cX1_init 29 = .ok (.bipush 12, 2) := by decide +kernel
theorem dX1_init_31 : decode cX1_init 31 = .ok (.newarray .int, 2) := by decide +kernel
theorem dX1_init_33 : decode cX1_init 33 = .ok (.putfield 21, 3) := by decide +kernel
theorem dX1_init_36 : decode cX1_init 36 = .ok (.aload_n 0, 1) := by decide +kernel
theorem dX1_init_37 : decode cX1_init 37 = .ok (.bipush 96, 2) := by decide +kernel
theorem dX1_init_39 : decode cX1_init 39 = .ok (.newarray .int, 2) := by decide +kernel
theorem dX1_init_41 : decode cX1_init 41 = .ok (.putfield 24, 3) := by decide +kernel
theorem dX1_init_44 : decode cX1_init 44 = .ok (.aload_n 0, 1) := by decide +kernel
theorem dX1_init_45 : decode cX1_init 45 = .ok (.bipush 96, 2) := by decide +kernel
theorem dX1_init_47 : decode cX1_init 47 = .ok (.newarray .int, 2) := by decide +kernel
theorem dX1_init_49 : decode cX1_init 49 = .ok (.putfield 27, 3) := by decide +kernel
theorem dX1_init_52 : decode cX1_init 52 = .ok (.aload_n 0, 1) := by decide +kernel
theorem dX1_init_53 : decode cX1_init 53 = .ok (.bipush 96, 2) := by decide +kernel
theorem dX1_init_55 : decode cX1_init 55 = .ok (.newarray .int, 2) := by decide +kernel
theorem dX1_init_57 : decode cX1_init 57 = .ok (.putfield 30, 3) := by decide +kernel
theorem dX1_init_60 : decode cX1_init 60 = .ok (.return_, 1) := by decide +kernel
theorem dX1_count_0 : decode cX1_count 0 = .ok (.iconst 0, 1) := by decide +kernel
theorem dX1_count_1 : decode cX1_count 1 = .ok (.istore_n 2, 1) := by decide +kernel
theorem dX1_count_2 : decode cX1_count 2 = .ok (.iload_n 2, 1) := by decide +kernel
theorem dX1_count_3 : decode cX1_count 3 = .ok (.aload_n 1, 1) := by decide +kernel
theorem dX1_count_4 : decode cX1_count 4 = .ok (.getfield 33, 3) := by decide +kernel
theorem dX1_count_7 : decode cX1_count 7 = .ok (.if_icmp .ge 36, 3) := by decide +kernel
theorem dX1_count_10 : decode cX1_count 10 = .ok (.aload_n 0, 1) := by decide +kernel
theorem dX1_count_11 : decode cX1_count 11 = .ok (.getfield 9, 3) := by decide +kernel
theorem dX1_count_14 : decode cX1_count 14 = .ok (.iload_n 2, 1) := by decide +kernel
theorem dX1_count_15 : decode cX1_count 15 = .ok (.aload_n 1, 1) := by decide +kernel
theorem dX1_count_16 : decode cX1_count 16 = .ok (.getfield 39, 3) := by decide +kernel
theorem dX1_count_19 : decode cX1_count 19 = .ok (.iload_n 2, 1) := by decide +kernel
theorem dX1_count_20 : decode cX1_count 20 = .ok (.aaload, 1) := by decide +kernel
theorem dX1_count_21 : decode cX1_count 21 = .ok (.invokevirtual 43, 3) := by decide +kernel
theorem dX1_count_24 : decode cX1_count 24 = .ok (.ifCond .eq 11, 3) := by decide +kernel
theorem dX1_count_27 : decode cX1_count 27 = .ok (.aload_n 1, 1) := by decide +kernel
theorem dX1_count_28 : decode cX1_count 28 = .ok (.iload_n 2, 1) := by decide +kernel
theorem dX1_count_29 : decode cX1_count 29 = .ok (.invokevirtual 49, 3) := by decide +kernel
theorem dX1_count_32 : decode cX1_count 32 = .ok (.goto 4, 3) := by decide +kernel
theorem dX1_count_35 : decode cX1_count 35 = .ok (.iconst (-1), 1) := by decide +kernel
theorem dX1_count_36 : decode cX1_count 36 = .ok (.iastore, 1) := by decide +kernel
theorem dX1_count_37 : decode cX1_count 37 = .ok (.iinc 2 1, 3) := by decide +kernel
theorem dX1_count_40 : decode cX1_count 40 = .ok (.goto (-38), 3) := by decide +kernel
theorem dX1_count_43 : decode cX1_count 43 = .ok (.iconst 0, 1) := by decide +kernel
theorem dX1_count_44 : decode cX1_count 44 = .ok (.istore_n 2, 1) := by decide +kernel
theorem dX1_count_45 : decode cX1_count 45 = .ok (.iload_n 2, 1) := by decide +kernel
theorem dX1_count_46 : decode cX1_count 46 = .ok (.aload_n 1, 1) := by decide +kernel
theorem dX1_count_47 : decode cX1_count 47 = .ok (.getfield 53, 3) := by decide +kernel
theorem dX1_count_50 : decode cX1_count 50 = .ok (.if_icmp .ge 39, 3) := by decide +kernel
theorem dX1_count_53 : decode cX1_count 53 = .ok (.aload_n 0, 1) := by decide +kernel
theorem dX1_count_54 : decode cX1_count 54 = .ok (.aload_n 1, 1) := by decide +kernel
theorem dX1_count_55 : decode cX1_count 55 = .ok (.iload_n 2, 1) := by decide +kernel
theorem dX1_count_56 : decode cX1_count 56 = .ok (.invokevirtual 56, 3) := by decide +kernel
theorem dX1_count_59 : decode cX1_count 59 = .ok (.aload_n 0, 1) := by decide +kernel
theorem dX1_count_60 : decode cX1_count 60 = .ok (.aload_n 1, 1) := by decide +kernel
theorem dX1_count_61 : decode cX1_count 61 = .ok (.iload_n 2, 1) := by decide +kernel
theorem dX1_count_62 : decode cX1_count 62 = .ok (.invokevirtual 60, 3) := by decide +kernel
theorem dX1_count_65 : decode cX1_count 65 = .ok (.aload_n 0, 1) := by decide +kernel
theorem dX1_count_66 : decode cX1_count 66 = .ok (.aload_n 1, 1) := by decide +kernel
theorem dX1_count_67 : decode cX1_count 67 = .ok (.iload_n 2, 1) := by decide +kernel
theorem dX1_count_68 : decode cX1_count 68 = .ok (.invokevirtual 63, 3) := by decide +kernel
theorem dX1_count_71 : decode cX1_count 71 = .ok (.aload_n 0, 1) := by decide +kernel
theorem dX1_count_72 : decode cX1_count 72 = .ok (.aload_n 1, 1) := by decide +kernel
theorem dX1_count_73 : decode cX1_count 73 = .ok (.iload_n 2, 1) := by decide +kernel
theorem dX1_count_74 : decode cX1_count 74 = .ok (.invokevirtual 66, 3) := by decide +kernel
theorem dX1_count_77 : decode cX1_count 77 = .ok (.aload_n 0, 1) := by decide +kernel
theorem dX1_count_78 : decode cX1_count 78 = .ok (.aload_n 1, 1) := by decide +kernel
theorem dX1_count_79 : decode cX1_count 79 = .ok (.iload_n 2, 1) := by decide +kernel
theorem dX1_count_80 : decode cX1_count 80 = .ok (.invokevirtual 69, 3) := by decide +kernel
theorem dX1_count_83 : decode cX1_count 83 = .ok (.iinc 2 1, 3) := by decide +kernel
theorem dX1_count_86 : decode cX1_count 86 = .ok (.goto (-41), 3) := by decide +kernel
theorem dX1_count_89 : decode cX1_count 89 = .ok (.return_, 1) := by decide +kernel
theorem dX1_countCandidates_0 : decode cX1_countCandidates 0 = .ok (.aload_n 0, 1) := by decide +kernel
theorem dX1_countCandidates_1 : decode cX1_countCandidates 1 = .ok (.getfield 15, 3) := by decide +kernel
theorem dX1_countCandidates_4 : decode cX1_countCandidates 4 = .ok (.iload_n 2, 1) := by decide +kernel
theorem dX1_countCandidates_5 : decode cX1_countCandidates 5 = .ok (.iconst 0, 1) := by decide +kernel
theorem dX1_countCandidates_6 : decode cX1_countCandidates 6 = .ok (.iastore, 1) := by decide +kernel
theorem dX1_countCandidates_7 : decode cX1_countCandidates 7 = .ok (.iconst 0, 1) := by decide +kernel
theorem dX1_countCandidates_8 : decode cX1_countCandidates 8 = .ok (.istore_n 3, 1) := by decide +kernel
theorem dX1_countCandidates_9 : decode cX1_countCandidates 9 = .ok (.iload_n 3, 1) := by decide +kernel
theorem dX1_countCandidates_10 : decode cX1_countCandidates 10 = .ok (.aload_n 1, 1) := by decide +kernel
theorem dX1_countCandidates_11 : decode cX1_countCandidates 11 = .ok (.getfield 33, 3) := by decide +kernel
theorem dX1_countCandidates_14 : decode cX1_countCandidates 14 = .ok (.if_icmp .ge 52, 3) := by decide +kernel
theorem dX1_countCandidates_17 : decode cX1_countCandidates 17 = .ok (.aload_n 1, 1) := by decide +kernel
theorem dX1_countCandidates_18 : decode cX1_countCandidates 18 = .ok (.iload_n 3, 1) := by decide +kernel
theorem dX1_countCandidates_19 : decode cX1_countCandidates 19 = .ok (.iload_n 2, 1) := by decide +kernel
theorem dX1_countCandidates_20 : decode cX1_countCandidates 20 = .ok (.invokevirtual 72, 3) := by decide +kernel
theorem dX1_countCandidates_23 : decode cX1_countCandidates 23 = .ok (.istore 4, 2) := by decide +kernel
theorem dX1_countCandidates_25 : decode cX1_countCandidates 25 = .ok (.aload_n 0, 1) := by decide +kernel
theorem dX1_countCandidates_26 : decode cX1_countCandidates 26 = .ok (.getfield 27, 3) := by decide +kernel
theorem dX1_countCandidates_29 : decode cX1_countCandidates 29 = .ok (.iload_n 3, 1) := by decide +kernel
theorem dX1_countCandidates_30 : decode cX1_countCandidates 30 = .ok (.iload_n 2, 1) := by decide +kernel
theorem dX1_countCandidates_31 : decode cX1_countCandidates 31 = .ok (.invokestatic 76, 3) := by decide +kernel
theorem dX1_countCandidates_34 : decode cX1_countCandidates 34 = .ok (.iload 4, 2) := by decide +kernel
theorem dX1_countCandidates_36 : decode cX1_countCandidates 36 = .ok (.ifCond .eq 7, 3) := by decide +kernel
theorem dX1_countCandidates_39 : decode cX1_countCandidates 39 = .ok (.iconst 0, 1) := by decide +kernel
theorem dX1_countCandidates_40 : decode cX1_countCandidates 40 = .ok (.goto 4, 3) := by decide +kernel
theorem dX1_countCandidates_43 : decode cX1_countCandidates 43 = .ok (.iconst (-1), 1) := by decide +kernel
theorem dX1_countCandidates_44 : decode cX1_countCandidates 44 = .ok (.iastore, 1) := by decide +kernel
theorem dX1_countCandidates_45 : decode cX1_countCandidates 45 = .ok (.iload 4, 2) := by decide +kernel
theorem dX1_countCandidates_47 : decode cX1_countCandidates 47 = .ok (.ifCond .eq 13, 3) := by decide +kernel
theorem dX1_countCandidates_50 : decode cX1_countCandidates 50 = .ok (.aload_n 0, 1) := by decide +kernel
theorem dX1_countCandidates_51 : decode cX1_countCandidates 51 = .ok (.getfield 15, 3) := by decide +kernel
theorem dX1_countCandidates_54 : decode cX1_countCandidates 54 = .ok (.iload_n 2, 1) := by decide +kernel
theorem dX1_countCandidates_55 : decode cX1_countCandidates 55 = .ok (.dup2, 1) := by decide +kernel
theorem dX1_countCandidates_56 : decode cX1_countCandidates 56 = .ok (.iaload, 1) := by decide +kernel
theorem dX1_countCandidates_57 : decode cX1_countCandidates 57 = .ok (.iconst 1, 1) := by decide +kernel
theorem dX1_countCandidates_58 : decode cX1_countCandidates 58 = .ok (.iadd, 1) := by decide +kernel
theorem dX1_countCandidates_59 : decode cX1_countCandidates 59 = .ok (.iastore, 1) := by decide +kernel
theorem dX1_countCandidates_60 : decode cX1_countCandidates 60 = .ok (.iinc 3 1, 3) := by decide +kernel
theorem dX1_countCandidates_63 : decode cX1_countCandidates 63 = .ok (.goto (-54), 3) := by decide +kernel
theorem dX1_countCandidates_66 : decode cX1_countCandidates 66 = .ok (.return_, 1) := by decide +kernel
theorem dX1_countVotes_0 : decode cX1_countVotes 0 = .ok (.iconst 0, 1) := by decide +kernel
theorem dX1_countVotes_1 : decode cX1_countVotes 1 = .ok (.istore_n 3, 1) := by decide +kernel
theorem dX1_countVotes_2 : decode cX1_countVotes 2 = .ok (.iload_n 3, 1) := by decide +kernel
theorem dX1_countVotes_3 : decode cX1_countVotes 3 = .ok (.aload_n 1, 1) := by decide +kernel
theorem dX1_countVotes_4 : decode cX1_countVotes 4 = .ok (.getfield 33, 3) := by decide +kernel
theorem dX1_countVotes_7 : decode cX1_countVotes 7 = .ok (.if_icmp .ge 55, 3) := by decide +kernel
theorem dX1_countVotes_10 : decode cX1_countVotes 10 = .ok (.aload_n 1, 1) := by decide +kernel
theorem dX1_countVotes_11 : decode cX1_countVotes 11 = .ok (.iload_n 3, 1) := by decide +kernel
theorem dX1_countVotes_12 : decode cX1_countVotes 12 = .ok (.iload_n 2, 1) := by decide +kernel
theorem dX1_countVotes_13 : decode cX1_countVotes 13 = .ok (.invokestatic 80, 3) := by decide +kernel
theorem dX1_countVotes_16 : decode cX1_countVotes 16 = .ok (.istore 4, 2) := by decide +kernel
theorem dX1_countVotes_18 : decode cX1_countVotes 18 = .ok (.aload_n 0, 1) := by decide +kernel
theorem dX1_countVotes_19 : decode cX1_countVotes 19 = .ok (.getfield 24, 3) := by decide +kernel
theorem dX1_countVotes_22 : decode cX1_countVotes 22 = .ok (.iload_n 3, 1) := by decide +kernel
theorem dX1_countVotes_23 : decode cX1_countVotes 23 = .ok (.iload_n 2, 1) := by decide +kernel
theorem dX1_countVotes_24 : decode cX1_countVotes 24 = .ok (.invokestatic 76, 3) := by decide +kernel
theorem dX1_countVotes_27 : decode cX1_countVotes 27 = .ok (.iload 4, 2) := by decide +kernel
theorem dX1_countVotes_29 : decode cX1_countVotes 29 = .ok (.iastore, 1) := by decide +kernel
theorem dX1_countVotes_30 : decode cX1_countVotes 30 = .ok (.iload 4, 2) := by decide +kernel
theorem dX1_countVotes_32 : decode cX1_countVotes 32 = .ok (.iconst (-1), 1) := by decide +kernel
theorem dX1_countVotes_33 : decode cX1_countVotes 33 = .ok (.if_icmp .eq 23, 3) := by decide +kernel
theorem dX1_countVotes_36 : decode cX1_countVotes 36 = .ok (.aload_n 0, 1) := by decide +kernel
theorem dX1_countVotes_37 : decode cX1_countVotes 37 = .ok (.getfield 27, 3) := by decide +kernel
theorem dX1_countVotes_40 : decode cX1_countVotes 40 = .ok (.iload 4, 2) := by decide +kernel
theorem dX1_countVotes_42 : decode cX1_countVotes 42 = .ok (.iload_n 2, 1) := by decide +kernel
theorem dX1_countVotes_43 : decode cX1_countVotes 43 = .ok (.invokestatic 76, 3) := by decide +kernel
theorem dX1_countVotes_46 : decode cX1_countVotes 46 = .ok (.dup2, 1) := by decide +kernel
theorem dX1_countVotes_47 : decode cX1_countVotes 47 = .ok (.iaload, 1) := by decide +kernel
theorem dX1_countVotes_48 : decode cX1_countVotes 48 = .ok (.aload_n 0, 1) := by decide +kernel
theorem dX1_countVotes_49 : decode cX1_countVotes 49 = .ok (.getfield 9, 3) := by decide +kernel
theorem dX1_countVotes_52 : decode cX1_countVotes 52 = .ok (.iload_n 3, 1) := by decide +kernel
theorem dX1_countVotes_53 : decode cX1_countVotes 53 = .ok (.iaload, 1) := by decide +kernel
theorem dX1_countVotes_54 : decode cX1_countVotes 54 = .ok (.iadd, 1) := by decide +kernel
theorem dX1_countVotes_55 : decode cX1_countVotes 55 = .ok (.iastore, 1) := by decide +kernel
theorem dX1_countVotes_56 : decode cX1_countVotes 56 = .ok (.iinc 3 1, 3) := by decide +kernel
theorem dX1_countVotes_59 : decode cX1_countVotes 59 = .ok (.goto (-57), 3) := by decide +kernel
theorem dX1_countVotes_62 : decode cX1_countVotes 62 = .ok (.return_, 1) := by decide +kernel
theorem dX1_choiceOf_0 : decode cX1_choiceOf 0 = .ok (.aload_n 0, 1) := by decide +kernel
theorem dX1_choiceOf_1 : decode cX1_choiceOf 1 = .ok (.getfield 39, 3) := by decide +kernel
theorem dX1_choiceOf_4 : decode cX1_choiceOf 4 = .ok (.iload_n 1, 1) := by decide +kernel
theorem dX1_choiceOf_5 : decode cX1_choiceOf 5 = .ok (.aaload, 1) := by decide +kernel
theorem dX1_choiceOf_6 : decode cX1_choiceOf 6 = .ok (.astore_n 3, 1) := by decide +kernel
theorem dX1_choiceOf_7 : decode cX1_choiceOf 7 = .ok (.aload_n 3, 1) := by decide +kernel
theorem dX1_choiceOf_8 : decode cX1_choiceOf 8 = .ok (.invokevirtual 43, 3) := by decide +kernel
theorem dX1_choiceOf_11 : decode cX1_choiceOf 11 = .ok (.ifCond .ne 5, 3) := by decide +kernel
theorem dX1_choiceOf_14 : decode cX1_choiceOf 14 = .ok (.iconst (-1), 1) := by decide +kernel
theorem dX1_choiceOf_15 : decode cX1_choiceOf 15 = .ok (.ireturn, 1) := by decide +kernel
theorem dX1_choiceOf_16 : decode cX1_choiceOf 16 = .ok (.aload_n 3, 1) := by decide +kernel
theorem dX1_choiceOf_17 : decode cX1_choiceOf 17 = .ok (.iload_n 2, 1) := by decide +kernel
theorem dX1_choiceOf_18 : decode cX1_choiceOf 18 = .ok (.invokevirtual 84, 3) := by decide +kernel
theorem dX1_choiceOf_21 : decode cX1_choiceOf 21 = .ok (.ifCond .eq 5, 3) := by decide +kernel
theorem dX1_choiceOf_24 : decode cX1_choiceOf 24 = .ok (.iload_n 1, 1) := by decide +kernel
theorem dX1_choiceOf_25 : decode cX1_choiceOf 25 = .ok (.ireturn, 1) := by decide +kernel
theorem dX1_choiceOf_26 : decode cX1_choiceOf 26 = .ok (.iconst 0, 1) := by decide +kernel
theorem dX1_choiceOf_27 : decode cX1_choiceOf 27 = .ok (.istore 4, 2) := by decide +kernel
theorem dX1_choiceOf_29 : decode cX1_choiceOf 29 = .ok (.iload 4, 2) := by decide +kernel
theorem dX1_choiceOf_31 : decode cX1_choiceOf 31 = .ok (.aload_n 3, 1) := by decide +kernel
theorem dX1_choiceOf_32 : decode cX1_choiceOf 32 = .ok (.getfield 88, 3) := by decide +kernel
theorem dX1_choiceOf_35 : decode cX1_choiceOf 35 = .ok (.if_icmp .ge 32, 3) := by decide +kernel
theorem dX1_choiceOf_38 : decode cX1_choiceOf 38 = .ok (.aload_n 0, 1) := by decide +kernel
theorem dX1_choiceOf_39 : decode cX1_choiceOf 39 = .ok (.aload_n 3, 1) := by decide +kernel
theorem dX1_choiceOf_40 : decode cX1_choiceOf 40 = .ok (.getfield 91, 3) := by decide +kernel
theorem dX1_choiceOf_43 : decode cX1_choiceOf 43 = .ok (.iload 4, 2) := by decide +kernel
theorem dX1_choiceOf_45 : decode cX1_choiceOf 45 = .ok (.iaload, 1) := by decide +kernel
theorem dX1_choiceOf_46 : decode cX1_choiceOf 46 = .ok (.iload_n 2, 1) := by decide +kernel
theorem dX1_choiceOf_47 : decode cX1_choiceOf 47 = .ok (.invokevirtual 72, 3) := by decide +kernel
theorem dX1_choiceOf_50 : decode cX1_choiceOf 50 = .ok (.ifCond .eq 11, 3) := by decide +kernel
theorem dX1_choiceOf_53 : decode cX1_choiceOf 53 = .ok (.aload_n 3, 1) := by decide +kernel
theorem dX1_choiceOf_54 : decode cX1_choiceOf 54 = .ok (.getfield 91, 3) := by decide +kernel
theorem dX1_choiceOf_57 : decode cX1_choiceOf 57 = .ok (.iload 4, 2) := by decide +kernel
theorem dX1_choiceOf_59 : decode cX1_choiceOf 59 = .ok (.iaload, 1) := by decide +kernel
theorem dX1_choiceOf_60 : decode cX1_choiceOf 60 = .ok (.ireturn, 1) := by decide +kernel
theorem dX1_choiceOf_61 : decode cX1_choiceOf 61 = .ok (.iinc 4 1, 3) := by decide +kernel
theorem dX1_choiceOf_64 : decode cX1_choiceOf 64 = .ok (.goto (-35), 3) := by decide +kernel
theorem dX1_choiceOf_67 : decode cX1_choiceOf 67 = .ok (.iconst (-1), 1) := by decide +kernel
theorem dX1_choiceOf_68 : decode cX1_choiceOf 68 = .ok (.ireturn, 1) := by decide +kernel
theorem dX1_countWinner_0 : decode cX1_countWinner 0 = .ok (.iconst (-1), 1) := by decide +kernel
theorem dX1_countWinner_1 : decode cX1_countWinner 1 = .ok (.istore_n 3, 1) := by decide +kernel
theorem dX1_countWinner_2 : decode cX1_countWinner 2 = .ok (.iconst 0, 1) := by decide +kernel
theorem dX1_countWinner_3 : decode cX1_countWinner 3 = .ok (.istore 4, 2) := by decide +kernel
theorem dX1_countWinner_5 : decode cX1_countWinner 5 = .ok (.iload 4, 2) := by decide +kernel
theorem dX1_countWinner_7 : decode cX1_countWinner 7 = .ok (.aload_n 1, 1) := by decide +kernel
theorem dX1_countWinner_8 : decode cX1_countWinner 8 = .ok (.getfield 33, 3) := by decide +kernel
theorem dX1_countWinner_11 : decode cX1_countWinner 11 = .ok (.if_icmp .ge 39, 3) := by decide +kernel
theorem dX1_countWinner_14 : decode cX1_countWinner 14 = .ok (.aload_n 1, 1) := by decide +kernel
theorem dX1_countWinner_15 : decode cX1_countWinner 15 = .ok (.iload 4, 2) := by decide +kernel
theorem dX1_countWinner_17 : decode cX1_countWinner 17 = .ok (.iload_n 2, 1) := by decide +kernel
theorem dX1_countWinner_18 : decode cX1_countWinner 18 = .ok (.invokevirtual 72, 3) := by decide +kernel
theorem dX1_countWinner_21 : decode cX1_countWinner 21 = .ok (.ifCond .eq 23, 3) := by decide +kernel
theorem dX1_countWinner_24 : decode cX1_countWinner 24 = .ok (.iload_n 3, 1) := by decide +kernel
theorem dX1_countWinner_25 : decode cX1_countWinner 25 = .ok (.iconst (-1), 1) := by decide +kernel
theorem dX1_countWinner_26 : decode cX1_countWinner 26 = .ok (.if_icmp .eq 15, 3) := by decide +kernel
theorem dX1_countWinner_29 : decode cX1_countWinner 29 = .ok (.aload_n 0, 1) := by decide +kernel
theorem dX1_countWinner_30 : decode cX1_countWinner 30 = .ok (.aload_n 1, 1) := by decide +kernel
theorem dX1_countWinner_31 : decode cX1_countWinner 31 = .ok (.iload 4, 2) := by decide +kernel
theorem dX1_countWinner_33 : decode cX1_countWinner 33 = .ok (.iload_n 3, 1) := by decide +kernel
theorem dX1_countWinner_34 : decode cX1_countWinner 34 = .ok (.iload_n 2, 1) := by decide +kernel
theorem dX1_countWinner_35 : decode cX1_countWinner 35 = .ok (.invokevirtual 94, 3) := by decide +kernel
theorem dX1_countWinner_38 : decode cX1_countWinner 38 = .ok (.ifCond .eq 6, 3) := by decide +kernel
theorem dX1_countWinner_41 : decode cX1_countWinner 41 = .ok (.iload 4, 2) := by decide +kernel
theorem dX1_countWinner_43 : decode cX1_countWinner 43 = .ok (.istore_n 3, 1) := by decide +kernel
theorem dX1_countWinner_44 : decode cX1_countWinner 44 = .ok (.iinc 4 1, 3) := by decide +kernel
theorem dX1_countWinner_47 : decode cX1_countWinner 47 = .ok (.goto (-42), 3) := by decide +kernel
theorem dX1_countWinner_50 : decode cX1_countWinner 50 = .ok (.aload_n 0, 1) := by decide +kernel
theorem dX1_countWinner_51 : decode cX1_countWinner 51 = .ok (.getfield 18, 3) := by decide +kernel
theorem dX1_countWinner_54 : decode cX1_countWinner 54 = .ok (.iload_n 2, 1) := by decide +kernel
theorem dX1_countWinner_55 : decode cX1_countWinner 55 = .ok (.iload_n 3, 1) := by decide +kernel
theorem dX1_countWinner_56 : decode cX1_countWinner 56 = .ok (.iastore, 1) := by decide +kernel
theorem dX1_countWinner_57 : decode cX1_countWinner 57 = .ok (.return_, 1) := by decide +kernel
theorem dX1_isAhead_0 : decode cX1_isAhead 0 = .ok (.aload_n 0, 1) := by decide +kernel
theorem dX1_isAhead_1 : decode cX1_isAhead 1 = .ok (.getfield 27, 3) := by decide +kernel
theorem dX1_isAhead_4 : decode cX1_isAhead 4 = .ok (.iload_n 2, 1) := by decide +kernel
theorem dX1_isAhead_5 : decode cX1_isAhead 5 = .ok (.iload 4, 2) := by decide +kernel
theorem dX1_isAhead_7 : decode cX1_isAhead 7 = .ok (.invokestatic 76, 3) := by decide +kernel
theorem dX1_isAhead_10 : decode cX1_isAhead 10 = .ok (.iaload, 1) := by decide +kernel
theorem dX1_isAhead_11 : decode cX1_isAhead 11 = .ok (.istore 5, 2) := by decide +kernel
theorem dX1_isAhead_13 : decode cX1_isAhead 13 = .ok (.aload_n 0, 1) := by decide +kernel
theorem dX1_isAhead_14 : decode cX1_isAhead 14 = .ok (.getfield 27, 3) := by decide +kernel
theorem dX1_isAhead_17 : decode cX1_isAhead 17 = .ok (.iload_n 3, 1) := by decide +kernel
theorem dX1_isAhead_18 : decode cX1_isAhead 18 = .ok (.iload 4, 2) := by decide +kernel
theorem dX1_isAhead_20 : decode cX1_isAhead 20 = .ok (.invokestatic 76, 3) := by decide +kernel
theorem dX1_isAhead_23 : decode cX1_isAhead 23 = .ok (.iaload, 1) := by decide +kernel
theorem dX1_isAhead_24 : decode cX1_isAhead 24 = .ok (.istore 6, 2) := by decide +kernel
theorem dX1_isAhead_26 : decode cX1_isAhead 26 = .ok (.iload 5, 2) := by decide +kernel
theorem dX1_isAhead_28 : decode cX1_isAhead 28 = .ok (.iload 6, 2) := by decide +kernel
theorem dX1_isAhead_30 : decode cX1_isAhead 30 = .ok (.if_icmp .eq 16, 3) := by decide +kernel
theorem dX1_isAhead_33 : decode cX1_isAhead 33 = .ok (.iload 5, 2) := by decide +kernel
theorem dX1_isAhead_35 : decode cX1_isAhead 35 = .ok (.iload 6, 2) := by decide +kernel
theorem dX1_isAhead_37 : decode cX1_isAhead 37 = .ok (.if_icmp .le 7, 3) := by decide +kernel
theorem dX1_isAhead_40 : decode cX1_isAhead 40 = .ok (.iconst 1, 1) := by decide +kernel
theorem dX1_isAhead_41 : decode cX1_isAhead 41 = .ok (.goto 4, 3) := by decide +kernel
theorem dX1_isAhead_44 : decode cX1_isAhead 44 = .ok (.iconst 0, 1) := by decide +kernel
theorem dX1_isAhead_45 : decode cX1_isAhead 45 = .ok (.ireturn, 1) := by decide +kernel
theorem dX1_isAhead_46 : decode cX1_isAhead 46 = .ok (.aload_n 1, 1) := by decide +kernel
theorem dX1_isAhead_47 : decode cX1_isAhead 47 = .ok (.getfield 39, 3) := by decide +kernel
theorem dX1_isAhead_50 : decode cX1_isAhead 50 = .ok (.iload_n 2, 1) := by decide +kernel
theorem dX1_isAhead_51 : decode cX1_isAhead 51 = .ok (.aaload, 1) := by decide +kernel
theorem dX1_isAhead_52 : decode cX1_isAhead 52 = .ok (.getfield 98, 3) := by decide +kernel
theorem dX1_isAhead_55 : decode cX1_isAhead 55 = .ok (.aload_n 1, 1) := by decide +kernel
theorem dX1_isAhead_56 : decode cX1_isAhead 56 = .ok (.getfield 39, 3) := by decide +kernel
theorem dX1_isAhead_59 : decode cX1_isAhead 59 = .ok (.iload_n 3, 1) := by decide +kernel
theorem dX1_isAhead_60 : decode cX1_isAhead 60 = .ok (.aaload, 1) := by decide +kernel
theorem dX1_isAhead_61 : decode cX1_isAhead 61 = .ok (.getfield 98, 3) := by decide +kernel
theorem dX1_isAhead_64 : decode cX1_isAhead 64 = .ok (.if_icmp .ge 7, 3) := by decide +kernel
theorem dX1_isAhead_67 : decode cX1_isAhead 67 = .ok (.iconst 1, 1) := by decide +kernel
theorem dX1_isAhead_68 : decode cX1_isAhead 68 = .ok (.goto 4, 3) := by decide +kernel
theorem dX1_isAhead_71 : decode cX1_isAhead 71 = .ok (.iconst 0, 1) := by decide +kernel
theorem dX1_isAhead_72 : decode cX1_isAhead 72 = .ok (.ireturn, 1) := by decide +kernel
theorem dX1_countMargin_0 : decode cX1_countMargin 0 = .ok (.aload_n 0, 1) := by decide +kernel
theorem dX1_countMargin_1 : decode cX1_countMargin 1 = .ok (.getfield 18, 3) := by decide +kernel
theorem dX1_countMargin_4 : decode cX1_countMargin 4 = .ok (.iload_n 2, 1) := by decide +kernel
theorem dX1_countMargin_5 : decode cX1_countMargin 5 = .ok (.iaload, 1) := by decide +kernel
theorem dX1_countMargin_6 : decode cX1_countMargin 6 = .ok (.istore_n 3, 1) := by decide +kernel
theorem dX1_countMargin_7 : decode cX1_countMargin 7 = .ok (.iload_n 3, 1) := by decide +kernel
theorem dX1_countMargin_8 : decode cX1_countMargin 8 = .ok (.iconst (-1), 1) := by decide +kernel
theorem dX1_countMargin_9 : decode cX1_countMargin 9 = .ok (.if_icmp .ne 11, 3) := by decide +kernel
theorem dX1_countMargin_12 : decode cX1_countMargin 12 = .ok (.aload_n 0, 1) := by decide +kernel
theorem dX1_countMargin_13 : decode cX1_countMargin 13 = .ok (.getfield 21, 3) := by decide +kernel
theorem dX1_countMargin_16 : decode cX1_countMargin 16 = .ok (.iload_n 2, 1) := by decide +kernel
theorem dX1_countMargin_17 : decode cX1_countMargin 17 = .ok (.iconst (-1), 1) := by decide +kernel
theorem dX1_countMargin_18 : decode cX1_countMargin 18 = .ok (.iastore, 1) := by decide +kernel
theorem dX1_countMargin_19 : decode cX1_countMargin 19 = .ok (.return_, 1) := by decide +kernel
theorem dX1_countMargin_20 : decode cX1_countMargin 20 = .ok (.iconst 0, 1) := by decide +kernel
theorem dX1_countMargin_21 : decode cX1_countMargin 21 = .ok (.istore 4, 2) := by decide +kernel
theorem dX1_countMargin_23 : decode cX1_countMargin 23 = .ok (.iconst 0, 1) := by decide +kernel
theorem dX1_countMargin_24 : decode cX1_countMargin 24 = .ok (.istore 5, 2) := by decide +kernel
theorem dX1_countMargin_26 : decode cX1_countMargin 26 = .ok (.iload 5, 2) := by decide +kernel
theorem dX1_countMargin_28 : decode cX1_countMargin 28 = .ok (.aload_n 1, 1) := by decide +kernel
theorem dX1_countMargin_29 : decode cX1_countMargin 29 = .ok (.getfield 33, 3) := by decide +kernel
theorem dX1_countMargin_32 : decode cX1_countMargin 32 = .ok (.if_icmp .ge 33, 3) := by decide +kernel
theorem dX1_countMargin_35 : decode cX1_countMargin 35 = .ok (.iload 5, 2) := by decide +kernel
theorem dX1_countMargin_37 : decode cX1_countMargin 37 = .ok (.iload_n 3, 1) := by decide +kernel
theorem dX1_countMargin_38 : decode cX1_countMargin 38 = .ok (.if_icmp .eq 21, 3) := by decide +kernel
theorem dX1_countMargin_41 : decode cX1_countMargin 41 = .ok (.iload 4, 2) := by decide +kernel
theorem dX1_countMargin_43 : decode cX1_countMargin 43 = .ok (.aload_n 0, 1) := by decide +kernel
theorem dX1_countMargin_44 : decode cX1_countMargin 44 = .ok (.getfield 27, 3) := by decide +kernel
theorem dX1_countMargin_47 : decode cX1_countMargin 47 = .ok (.iload 5, 2) := by decide +kernel
theorem dX1_countMargin_49 : decode cX1_countMargin 49 = .ok (.iload_n 2, 1) := by decide +kernel
theorem dX1_countMargin_50 : decode cX1_countMargin 50 = .ok (.invokestatic 76, 3) := by decide +kernel
theorem dX1_countMargin_53 : decode cX1_countMargin 53 = .ok (.iaload, 1) := by decide +kernel
theorem dX1_countMargin_54 : decode cX1_countMargin 54 = .ok (.invokestatic 101, 3) := by decide +kernel
theorem dX1_countMargin_57 : decode cX1_countMargin 57 = .ok (.istore 4, 2) := by decide +kernel
theorem dX1_countMargin_59 : decode cX1_countMargin 59 = .ok (.iinc 5 1, 3) := by decide +kernel
theorem dX1_countMargin_62 : decode cX1_countMargin 62 = .ok (.goto (-36), 3) := by decide +kernel
theorem dX1_countMargin_65 : decode cX1_countMargin 65 = .ok (.aload_n 0, 1) := by decide +kernel
theorem dX1_countMargin_66 : decode cX1_countMargin 66 = .ok (.getfield 21, 3) := by decide +kernel
theorem dX1_countMargin_69 : decode cX1_countMargin 69 = .ok (.iload_n 2, 1) := by decide +kernel
theorem dX1_countMargin_70 : decode cX1_countMargin 70 = .ok (.aload_n 0, 1) := by decide +kernel
theorem dX1_countMargin_71 : decode cX1_countMargin 71 = .ok (.getfield 27, 3) := by decide +kernel
theorem dX1_countMargin_74 : decode cX1_countMargin 74 = .ok (.iload_n 3, 1) := by decide +kernel
theorem dX1_countMargin_75 : decode cX1_countMargin 75 = .ok (.iload_n 2, 1) := by decide +kernel
theorem dX1_countMargin_76 : decode cX1_countMargin 76 = .ok (.invokestatic 76, 3) := by decide +kernel
theorem dX1_countMargin_79 : decode cX1_countMargin 79 = .ok (.iaload, 1) := by decide +kernel
theorem dX1_countMargin_80 : decode cX1_countMargin 80 = .ok (.iload 4, 2) := by decide +kernel
theorem dX1_countMargin_82 : decode cX1_countMargin 82 = .ok (.isub, 1) := by decide +kernel
theorem dX1_countMargin_83 : decode cX1_countMargin 83 = .ok (.iastore, 1) := by decide +kernel
theorem dX1_countMargin_84 : decode cX1_countMargin 84 = .ok (.return_, 1) := by decide +kernel
theorem dX1_countBindings_0 : decode cX1_countBindings 0 = .ok (.iconst 0, 1) := by decide +kernel
theorem dX1_countBindings_1 : decode cX1_countBindings 1 = .ok (.istore_n 3, 1) := by decide +kernel
theorem dX1_countBindings_2 : decode cX1_countBindings 2 = .ok (.iconst 0, 1) := by decide +kernel
theorem dX1_countBindings_3 : decode cX1_countBindings 3 = .ok (.istore 4, 2) := by decide +kernel
theorem dX1_countBindings_5 : decode cX1_countBindings 5 = .ok (.iload 4, 2) := by decide +kernel
theorem dX1_countBindings_7 : decode cX1_countBindings 7 = .ok (.aload_n 1, 1) := by decide +kernel
theorem dX1_countBindings_8 : decode cX1_countBindings 8 = .ok (.getfield 33, 3) := by decide +kernel
theorem dX1_countBindings_11 : decode cX1_countBindings 11 = .ok (.if_icmp .ge 27, 3) := by decide +kernel
theorem dX1_countBindings_14 : decode cX1_countBindings 14 = .ok (.iload_n 3, 1) := by decide +kernel
theorem dX1_countBindings_15 : decode cX1_countBindings 15 = .ok (.iconst 0, 1) := by decide +kernel
theorem dX1_countBindings_16 : decode cX1_countBindings 16 = .ok (.aload_n 0, 1) := by decide +kernel
theorem dX1_countBindings_17 : decode cX1_countBindings 17 = .ok (.getfield 27, 3) := by decide +kernel
theorem dX1_countBindings_20 : decode cX1_countBindings 20 = .ok (.iload 4, 2) := by decide +kernel
theorem dX1_countBindings_22 : decode cX1_countBindings 22 = .ok (.iload_n 2, 1) := by decide +kernel
theorem dX1_countBindings_23 : decode cX1_countBindings 23 = .ok (.invokestatic 76, 3) := by decide +kernel
theorem dX1_countBindings_26 : decode cX1_countBindings 26 = .ok (.iaload, 1) := by decide +kernel
theorem dX1_countBindings_27 : decode cX1_countBindings 27 = .ok (.invokestatic 101, 3) := by decide +kernel
theorem dX1_countBindings_30 : decode cX1_countBindings 30 = .ok (.iadd, 1) := by decide +kernel
theorem dX1_countBindings_31 : decode cX1_countBindings 31 = .ok (.istore_n 3, 1) := by decide +kernel
theorem dX1_countBindings_32 : decode cX1_countBindings 32 = .ok (.iinc 4 1, 3) := by decide +kernel
theorem dX1_countBindings_35 : decode cX1_countBindings 35 = .ok (.goto (-30), 3) := by decide +kernel
theorem dX1_countBindings_38 : decode cX1_countBindings 38 = .ok (.iconst 0, 1) := by decide +kernel
theorem dX1_countBindings_39 : decode cX1_countBindings 39 = .ok (.istore 4, 2) := by decide +kernel
theorem dX1_countBindings_41 : decode cX1_countBindings 41 = .ok (.iload 4, 2) := by decide +kernel
theorem dX1_countBindings_43 : decode cX1_countBindings 43 = .ok (.aload_n 1, 1) := by decide +kernel
theorem dX1_countBindings_44 : decode cX1_countBindings 44 = .ok (.getfield 33, 3) := by decide +kernel
theorem dX1_countBindings_47 : decode cX1_countBindings 47 = .ok (.if_icmp .ge 104, 3) := by decide +kernel
theorem dX1_countBindings_50 : decode cX1_countBindings 50 = .ok (.iload 4, 2) := by decide +kernel
theorem dX1_countBindings_52 : decode cX1_countBindings 52 = .ok (.iload_n 2, 1) := by decide +kernel
theorem dX1_countBindings_53 : decode cX1_countBindings 53 = .ok (.invokestatic 76, 3) := by decide +kernel
theorem dX1_countBindings_56 : decode cX1_countBindings 56 = .ok (.istore 5, 2) := by decide +kernel
theorem dX1_countBindings_58 : decode cX1_countBindings 58 = .ok (.aload_n 1, 1) := by decide +kernel
theorem dX1_countBindings_59 : decode cX1_countBindings 59 = .ok (.getfield 39, 3) := by decide +kernel
theorem dX1_countBindings_62 : decode cX1_countBindings 62 = .ok (.iload 4, 2) := by decide +kernel
theorem dX1_countBindings_64 : decode cX1_countBindings 64 = .ok (.aaload, 1) := by decide +kernel
theorem dX1_countBindings_65 : decode cX1_countBindings 65 = .ok (.invokevirtual 43, 3) := by decide +kernel
theorem dX1_countBindings_68 : decode cX1_countBindings 68 = .ok (.ifCond .ne 14, 3) := by decide +kernel
theorem dX1_countBindings_71 : decode cX1_countBindings 71 = .ok (.aload_n 0, 1) := by decide +kernel
theorem dX1_countBindings_72 : decode cX1_countBindings 72 = .ok (.getfield 30, 3) := by decide +kernel
theorem dX1_countBindings_75 : decode cX1_countBindings 75 = .ok (.iload 5, 2) := by decide +kernel
theorem dX1_countBindings_77 : decode cX1_countBindings 77 = .ok (.iconst (-1), 1) := by decide +kernel
theorem dX1_countBindings_78 : decode cX1_countBindings 78 = .ok (.iastore, 1) := by decide +kernel
theorem dX1_countBindings_79 : decode cX1_countBindings 79 = .ok (.goto 66, 3) := by decide +kernel
theorem dX1_countBindings_82 : decode cX1_countBindings 82 = .ok (.aload_n 1, 1) := by decide +kernel
theorem dX1_countBindings_83 : decode cX1_countBindings 83 = .ok (.getfield 39, 3) := by decide +kernel
theorem dX1_countBindings_86 : decode cX1_countBindings 86 = .ok (.iload 4, 2) := by decide +kernel
theorem dX1_countBindings_88 : decode cX1_countBindings 88 = .ok (.aaload, 1) := by decide +kernel
theorem dX1_countBindings_89 : decode cX1_countBindings 89 = .ok (.getfield 106, 3) := by decide +kernel
theorem dX1_countBindings_92 : decode cX1_countBindings 92 = .ok (.ifCond .eq 40, 3) := by decide +kernel
theorem dX1_countBindings_95 : decode cX1_countBindings 95 = .ok (.aload_n 0, 1) := by decide +kernel
theorem dX1_countBindings_96 : decode cX1_countBindings 96 = .ok (.aload_n 0, 1) := by decide +kernel
theorem dX1_countBindings_97 : decode cX1_countBindings 97 = .ok (.getfield 24, 3) := by decide +kernel
theorem dX1_countBindings_100 : decode cX1_countBindings 100 = .ok (.iload 5, 2) := by decide +kernel
theorem dX1_countBindings_102 : decode cX1_countBindings 102 = .ok (.iaload, 1) := by decide +kernel
theorem dX1_countBindings_103 : decode cX1_countBindings 103 = .ok (.iload_n 2, 1) := by decide +kernel
theorem dX1_countBindings_104 : decode cX1_countBindings 104 = .ok (.aload_n 1, 1) := by decide +kernel
theorem dX1_countBindings_105 : decode cX1_countBindings 105 = .ok (.getfield 110, 3) := by decide +kernel
theorem dX1_countBindings_108 : decode cX1_countBindings 108 = .ok (.iload_n 3, 1) := by decide +kernel
theorem dX1_countBindings_109 : decode cX1_countBindings 109 = .ok (.invokevirtual 113, 3) := by decide +kernel
theorem dX1_countBindings_112 : decode cX1_countBindings 112 = .ok (.ifCond .eq 20, 3) := by decide +kernel
theorem dX1_countBindings_115 : decode cX1_countBindings 115 = .ok (.aload_n 0, 1) := by decide +kernel
theorem dX1_countBindings_116 : decode cX1_countBindings 116 = .ok (.getfield 30, 3) := by decide +kernel
theorem dX1_countBindings_119 : decode cX1_countBindings 119 = .ok (.iload 5, 2) := by decide +kernel
theorem dX1_countBindings_121 : decode cX1_countBindings 121 = .ok (.aload_n 0, 1) := by decide +kernel
theorem dX1_countBindings_122 : decode cX1_countBindings 122 = .ok (.getfield 24, 3) := by decide +kernel
theorem dX1_countBindings_125 : decode cX1_countBindings 125 = .ok (.iload 5, 2) := by decide +kernel
theorem dX1_countBindings_127 : decode cX1_countBindings 127 = .ok (.iaload, 1) := by decide +kernel
theorem dX1_countBindings_128 : decode cX1_countBindings 128 = .ok (.iastore, 1) := by decide +kernel
theorem dX1_countBindings_129 : decode cX1_countBindings 129 = .ok (.goto 16, 3) := by decide +kernel
theorem dX1_countBindings_132 : decode cX1_countBindings 132 = .ok (.aload_n 0, 1) := by decide +kernel
theorem dX1_countBindings_133 : decode cX1_countBindings 133 = .ok (.getfield 30, 3) := by decide +kernel
theorem dX1_countBindings_136 : decode cX1_countBindings 136 = .ok (.iload 5, 2) := by decide +kernel
theorem dX1_countBindings_138 : decode cX1_countBindings 138 = .ok (.aload_n 0, 1) := by decide +kernel
theorem dX1_countBindings_139 : decode cX1_countBindings 139 = .ok (.getfield 18, 3) := by decide +kernel
theorem dX1_countBindings_142 : decode cX1_countBindings 142 = .ok (.iload_n 2, 1) := by decide +kernel
theorem dX1_countBindings_143 : decode cX1_countBindings 143 = .ok (.iaload, 1) := by decide +kernel
theorem dX1_countBindings_144 : decode cX1_countBindings 144 = .ok (.iastore, 1) := by decide +kernel
theorem dX1_countBindings_145 : decode cX1_countBindings 145 = .ok (.iinc 4 1, 3) := by decide +kernel
theorem dX1_countBindings_148 : decode cX1_countBindings 148 = .ok (.goto (-107), 3) := by decide +kernel
theorem dX1_countBindings_151 : decode cX1_countBindings 151 = .ok (.return_, 1) := by decide +kernel
theorem dX1_isLargeEnough_0 : decode cX1_isLargeEnough 0 = .ok (.iload_n 1, 1) := by decide +kernel
theorem dX1_isLargeEnough_1 : decode cX1_isLargeEnough 1 = .ok (.iconst (-1), 1) := by decide +kernel
theorem dX1_isLargeEnough_2 : decode cX1_isLargeEnough 2 = .ok (.if_icmp .eq 27, 3) := by decide +kernel
theorem dX1_isLargeEnough_5 : decode cX1_isLargeEnough 5 = .ok (.bipush 100, 2) := by decide +kernel
theorem dX1_isLargeEnough_7 : decode cX1_isLargeEnough 7 = .ok (.aload_n 0, 1) := by decide +kernel
theorem dX1_isLargeEnough_8 : decode cX1_isLargeEnough 8 = .ok (.getfield 27, 3) := by decide +kernel
theorem dX1_isLargeEnough_11 : decode cX1_isLargeEnough 11 = .ok (.iload_n 1, 1) := by decide +kernel
theorem dX1_isLargeEnough_12 : decode cX1_isLargeEnough 12 = .ok (.iload_n 2, 1) := by decide +kernel
theorem dX1_isLargeEnough_13 : decode cX1_isLargeEnough 13 = .ok (.invokestatic 76, 3) := by decide +kernel
theorem dX1_isLargeEnough_16 : decode cX1_isLargeEnough 16 = .ok (.iaload, 1) := by decide +kernel
theorem dX1_isLargeEnough_17 : decode cX1_isLargeEnough 17 = .ok (.imul, 1) := by decide +kernel
theorem dX1_isLargeEnough_18 : decode cX1_isLargeEnough 18 = .ok (.iload_n 3, 1) := by decide +kernel
theorem dX1_isLargeEnough_19 : decode cX1_isLargeEnough 19 = .ok (.iload 4, 2) := by decide +kernel
theorem dX1_isLargeEnough_21 : decode cX1_isLargeEnough 21 = .ok (.imul, 1) := by decide +kernel
theorem dX1_isLargeEnough_22 : decode cX1_isLargeEnough 22 = .ok (.if_icmp .lt 7, 3) := by decide +kernel
theorem dX1_isLargeEnough_25 : decode cX1_isLargeEnough 25 = .ok (.iconst 1, 1) := by decide +kernel
theorem dX1_isLargeEnough_26 : decode cX1_isLargeEnough 26 = .ok (.goto 4, 3) := by decide +kernel
theorem dX1_isLargeEnough_29 : decode cX1_isLargeEnough 29 = .ok (.iconst 0, 1) := by decide +kernel
theorem dX1_isLargeEnough_30 : decode cX1_isLargeEnough 30 = .ok (.ireturn, 1) := by decide +kernel
end
section
theorem dX10_init_0 : decode cX10_init 0 = .ok (.aload_n 0, 1) := by decide +kernel
theorem dX10_init_1 : decode cX10_init 1 = .ok (.invokespecial 1, 3) := by decide +kernel
theorem dX10_init_4 : decode cX10_init 4 = .ok (.aload_n 0, 1) := by decide +kernel
theorem dX10_init_5 : decode cX10_init 5 = .ok (.bipush 50, 2) := by decide +kernel
theorem dX10_init_7 : decode cX10_init 7 = .ok (.putfield 7, 3) := by decide +kernel
theorem dX10_init_10 : decode cX10_init 10 = .ok (.aload_n 0, 1) := by decide +kernel
theorem dX10_init_11 : decode cX10_init 11 = .ok (.iconst 0, 1) := by decide +kernel
theorem dX10_init_12 : decode cX10_init 12 = .ok (.anewarray 13, 3) := by decide +kernel
theorem dX10_init_15 : decode cX10_init 15 = .ok (.putfield 15, 3) := by decide +kernel
theorem dX10_init_18 : decode cX10_init 18 = .ok (.aload_n 0, 1) := by decide +kernel
theorem dX10_init_19 : decode cX10_init 19 = .ok (.iconst 0, 1) := by decide +kernel
theorem dX10_init_20 : decode cX10_init 20 = .ok (.newarray .int, 2) := by decide +kernel
theorem dX10_init_22 : decode cX10_init 22 = .ok (.putfield 19, 3) := by decide +kernel
theorem dX10_init_25 : decode cX10_init 25 = .ok (.return_, 1) := by decide +kernel
theorem dX10_copy_0 : decode cX10_copy 0 = .ok (.new 8, 3) := by decide +kernel
theorem dX10_copy_3 : decode cX10_copy 3 = .ok (.dup, 1) := by decide +kernel
theorem dX10_copy_4 : decode cX10_copy 4 = .ok (.invokespecial 23, 3) := by decide +kernel
theorem dX10_copy_7 : decode cX10_copy 7 = .ok (.astore_n 1, 1) := by decide +kernel
theorem dX10_copy_8 : decode cX10_copy 8 = .ok (.aload_n 1, 1) := by decide +kernel
theorem dX10_copy_9 : decode cX10_copy 9 = .ok (.aload_n 0, 1) := by decide +kernel
theorem dX10_copy_10 : decode cX10_copy 10 = .ok (.getfield 24, 3) := by decide +kernel
theorem dX10_copy_13 : decode cX10_copy 13 = .ok (.putfield 24, 3) := by decide +kernel
theorem dX10_copy_16 : decode cX10_copy 16 = .ok (.aload_n 1, 1) := by decide +kernel
theorem dX10_copy_17 : decode cX10_copy 17 = .ok (.aload_n 0, 1) := by decide +kernel
theorem dX10_copy_18 : decode cX10_copy 18 = .ok (.getfield 7, 3) := by decide +kernel
theorem dX10_copy_21 : decode cX10_copy 21 = .ok (.putfield 7, 3) := by decide +kernel
theorem dX10_copy_24 : decode cX10_copy 24 = .ok (.aload_n 1, 1) := by decide +kernel
theorem dX10_copy_25 : decode cX10_copy 25 = .ok (.aload_n 0, 1) := by decide +kernel
theorem dX10_copy_26 : decode cX10_copy 26 = .ok (.getfield 15, 3) := by decide +kernel
theorem dX10_copy_29 : decode cX10_copy 29 = .ok (.arraylength, 1) := by decide +kernel
theorem dX10_copy_30 : decode cX10_copy 30 = .ok (.anewarray 13, 3) := by decide +kernel
theorem dX10_copy_33 : decode cX10_copy 33 = .ok (.putfield 15, 3) := by decide +kernel
theorem dX10_copy_36 : decode cX10_copy 36 = .ok (.iconst 0, 1) := by decide +kernel
theorem dX10_copy_37 : decode cX10_copy 37 = .ok (.istore_n 2, 1) := by decide +kernel
theorem dX10_copy_38 : decode cX10_copy 38 = .ok (.iload_n 2, 1) := by decide +kernel
theorem dX10_copy_39 : decode cX10_copy 39 = .ok (.aload_n 0, 1) := by decide +kernel
theorem dX10_copy_40 : decode cX10_copy 40 = .ok (.getfield 15, 3) := by decide +kernel
theorem dX10_copy_43 : decode cX10_copy 43 = .ok (.arraylength, 1) := by decide +kernel
theorem dX10_copy_44 : decode cX10_copy 44 = .ok (.if_icmp .ge 24, 3) := by decide +kernel
theorem dX10_copy_47 : decode cX10_copy 47 = .ok (.aload_n 1, 1) := by decide +kernel
theorem dX10_copy_48 : decode cX10_copy 48 = .ok (.getfield 15, 3) := by decide +kernel
theorem dX10_copy_51 : decode cX10_copy 51 = .ok (.iload_n 2, 1) := by decide +kernel
theorem dX10_copy_52 : decode cX10_copy 52 = .ok (.aload_n 0, 1) := by decide +kernel
theorem dX10_copy_53 : decode cX10_copy 53 = .ok (.getfield 15, 3) := by decide +kernel
theorem dX10_copy_56 : decode cX10_copy 56 = .ok (.iload_n 2, 1) := by decide +kernel
theorem dX10_copy_57 : decode cX10_copy 57 = .ok (.aaload, 1) := by decide +kernel
theorem dX10_copy_58 : decode cX10_copy 58 = .ok (.invokevirtual 27, 3) := by decide +kernel
theorem dX10_copy_61 : decode cX10_copy 61 = .ok (.aastore, 1) := by decide +kernel
theorem dX10_copy_62 : decode cX10_copy 62 = .ok (.iinc 2 1, 3) := by decide +kernel
theorem dX10_copy_65 : decode cX10_copy 65 = .ok (.goto (-27), 3) := by decide +kernel
theorem dX10_copy_68 : decode cX10_copy 68 = .ok (.aload_n 1, 1) := by decide +kernel
theorem dX10_copy_69 : decode cX10_copy 69 = .ok (.aload_n 0, 1) := by decide +kernel
theorem dX10_copy_70 : decode cX10_copy 70 = .ok (.getfield 19, 3) := by decide +kernel
theorem dX10_copy_73 : decode cX10_copy 73 = .ok (.putfield 19, 3) := by decide +kernel
theorem dX10_copy_76 : decode cX10_copy 76 = .ok (.aload_n 1, 1) := by decide +kernel
theorem dX10_copy_77 : decode cX10_copy 77 = .ok (.aload_n 0, 1) := by decide +kernel
theorem dX10_copy_78 : decode cX10_copy 78 = .ok (.getfield 31, 3) := by decide +kernel
theorem dX10_copy_81 : decode cX10_copy 81 = .ok (.putfield 31, 3) := by decide +kernel
theorem dX10_copy_84 : decode cX10_copy 84 = .ok (.aload_n 1, 1) := by decide +kernel
theorem dX10_copy_85 : decode cX10_copy 85 = .ok (.areturn, 1) := by decide +kernel
theorem dX10_rank_0 : decode cX10_rank 0 = .ok (.iconst 0, 1) := by decide +kernel
theorem dX10_rank_1 : decode cX10_rank 1 = .ok (.istore_n 2, 1) := by decide +kernel
theorem dX10_rank_2 : decode cX10_rank 2 = .ok (.iload_n 2, 1) := by decide +kernel
theorem dX10_rank_3 : decode cX10_rank 3 = .ok (.aload_n 0, 1) := by decide +kernel
theorem dX10_rank_4 : decode cX10_rank 4 = .ok (.getfield 19, 3) := by decide +kernel
theorem dX10_rank_7 : decode cX10_rank 7 = .ok (.arraylength, 1) := by decide +kernel
theorem dX10_rank_8 : decode cX10_rank 8 = .ok (.if_icmp .ge 21, 3) := by decide +kernel
theorem dX10_rank_11 : decode cX10_rank 11 = .ok (.aload_n 0, 1) := by decide +kernel
theorem dX10_rank_12 : decode cX10_rank 12 = .ok (.getfield 19, 3) := by decide +kernel
theorem dX10_rank_15 : decode cX10_rank 15 = .ok (.iload_n 2, 1) := by decide +kernel
theorem dX10_rank_16 : decode cX10_rank 16 = .ok (.iaload, 1) := by decide +kernel
theorem dX10_rank_17 : decode cX10_rank 17 = .ok (.iload_n 1, 1) := by decide +kernel
theorem dX10_rank_18 : decode cX10_rank 18 = .ok (.if_icmp .ne 5, 3) := by decide +kernel
theorem dX10_rank_21 : decode cX10_rank 21 = .ok (.iload_n 2, 1) := by decide +kernel
theorem dX10_rank_22 : decode cX10_rank 22 = .ok (.ireturn, 1) := by decide +kernel
theorem dX10_rank_23 : decode cX10_rank 23 = .ok (.iinc 2 1, 3) := by decide +kernel
theorem dX10_rank_26 : decode cX10_rank 26 = .ok (.goto (-24), 3) := by decide +kernel
theorem dX10_rank_29 : decode cX10_rank 29 = .ok (.iconst (-1), 1) := by decide +kernel
theorem dX10_rank_30 : decode cX10_rank 30 = .ok (.ireturn, 1) := by decide +kernel
theorem dX10_weight_0 : decode cX10_weight 0 = .ok (.aload_n 0, 1) := by decide +kernel
theorem dX10_weight_1 : decode cX10_weight 1 = .ok (.iload_n 1, 1) := by decide +kernel
theorem dX10_weight_2 : decode cX10_weight 2 = .ok (.invokevirtual 35, 3) := by decide +kernel
theorem dX10_weight_5 : decode cX10_weight 5 = .ok (.ifCond .ge 5, 3) := by decide +kernel
theorem dX10_weight_8 : decode cX10_weight 8 = .ok (.iconst (-1), 1) := by decide +kernel
theorem dX10_weight_9 : decode cX10_weight 9 = .ok (.ireturn, 1) := by decide +kernel
theorem dX10_weight_10 : decode cX10_weight 10 = .ok (.iconst 0, 1) := by decide +kernel
theorem dX10_weight_11 : decode cX10_weight 11 = .ok (.istore_n 2, 1) := by decide +kernel
theorem dX10_weight_12 : decode cX10_weight 12 = .ok (.aload_n 0, 1) := by decide +kernel
theorem dX10_weight_13 : decode cX10_weight 13 = .ok (.getfield 19, 3) := by decide +kernel
theorem dX10_weight_16 : decode cX10_weight 16 = .ok (.astore_n 3, 1) := by decide +kernel
theorem dX10_weight_17 : decode cX10_weight 17 = .ok (.aload_n 3, 1) := by decide +kernel
theorem dX10_weight_18 : decode cX10_weight 18 = .ok (.arraylength, 1) := by decide +kernel
theorem dX10_weight_19 : decode cX10_weight 19 = .ok (.istore 4, 2) := by decide +kernel
theorem dX10_weight_21 : decode cX10_weight 21 = .ok (.iconst 0, 1) := by decide +kernel
theorem dX10_weight_22 : decode cX10_weight 22 = .ok (.istore 5, 2) := by decide +kernel
theorem dX10_weight_24 : decode cX10_weight 24 = .ok (.iload 5, 2) := by decide +kernel
theorem dX10_weight_26 : decode cX10_weight 26 = .ok (.iload 4, 2) := by decide +kernel
theorem dX10_weight_28 : decode cX10_weight 28 = .ok (.if_icmp .ge 35, 3) := by decide +kernel
theorem dX10_weight_31 : decode cX10_weight 31 = .ok (.aload_n 3, 1) := by decide +kernel
theorem dX10_weight_32 : decode cX10_weight 32 = .ok (.iload 5, 2) := by decide +kernel
theorem dX10_weight_34 : decode cX10_weight 34 = .ok (.iaload, 1) := by decide +kernel
theorem dX10_weight_35 : decode cX10_weight 35 = .ok (.istore 6, 2) := by decide +kernel
theorem dX10_weight_37 : decode cX10_weight 37 = .ok (.aload_n 0, 1) := by decide +kernel
theorem dX10_weight_38 : decode cX10_weight 38 = .ok (.getfield 15, 3) := by decide +kernel
theorem dX10_weight_41 : decode cX10_weight 41 = .ok (.iload 6, 2) := by decide +kernel
theorem dX10_weight_43 : decode cX10_weight 43 = .ok (.aaload, 1) := by decide +kernel
theorem dX10_weight_44 : decode cX10_weight 44 = .ok (.getfield 39, 3) := by decide +kernel
theorem dX10_weight_47 : decode cX10_weight 47 = .ok (.iload_n 1, 1) := by decide +kernel
theorem dX10_weight_48 : decode cX10_weight 48 = .ok (.invokestatic 42, 3) := by decide +kernel
theorem dX10_weight_51 : decode cX10_weight 51 = .ok (.ifCond .eq 6, 3) := by decide +kernel
theorem dX10_weight_54 : decode cX10_weight 54 = .ok (.iinc 2 1, 3) := by decide +kernel
theorem dX10_weight_57 : decode cX10_weight 57 = .ok (.iinc 5 1, 3) := by decide +kernel
theorem dX10_weight_60 : decode cX10_weight 60 = .ok (.goto (-36), 3) := by decide +kernel
theorem dX10_weight_63 : decode cX10_weight 63 = .ok (.aload_n 0, 1) := by decide +kernel
theorem dX10_weight_64 : decode cX10_weight 64 = .ok (.getfield 15, 3) := by decide +kernel
theorem dX10_weight_67 : decode cX10_weight 67 = .ok (.iload_n 1, 1) := by decide +kernel
theorem dX10_weight_68 : decode cX10_weight 68 = .ok (.aaload, 1) := by decide +kernel
theorem dX10_weight_69 : decode cX10_weight 69 = .ok (.astore_n 3, 1) := by decide +kernel
theorem dX10_weight_70 : decode cX10_weight 70 = .ok (.aload_n 0, 1) := by decide +kernel
theorem dX10_weight_71 : decode cX10_weight 71 = .ok (.getfield 31, 3) := by decide +kernel
theorem dX10_weight_74 : decode cX10_weight 74 = .ok (.ifnonnull 11, 3) := by decide +kernel
theorem dX10_weight_77 : decode cX10_weight 77 = .ok (.aload_n 3, 1) := by decide +kernel
theorem dX10_weight_78 : decode cX10_weight 78 = .ok (.getfield 48, 3) := by decide +kernel
theorem dX10_weight_81 : decode cX10_weight 81 = .ok (.i2l, 1) := by decide +kernel
theorem dX10_weight_82 : decode cX10_weight 82 = .ok (.goto 43, 3) := by decide +kernel
theorem dX10_weight_85 : decode cX10_weight 85 = .ok (.aload_n 0, 1) := by decide +kernel
theorem dX10_weight_86 : decode cX10_weight 86 = .ok (.getfield 31, 3) := by decide +kernel
theorem dX10_weight_89 : decode cX10_weight 89 = .ok (.iconst 4, 1) := by decide +kernel
theorem dX10_weight_90 : decode cX10_weight 90 = .ok (.newarray .long, 2) := by decide +kernel
theorem dX10_weight_92 : decode cX10_weight 92 = .ok (.dup, 1) := by decide +kernel
theorem dX10_weight_93 : decode cX10_weight 93 = .ok (.iconst 0, 1) := by decide +kernel
theorem dX10_weight_94 : decode cX10_weight 94 = .ok (.aload_n 3, 1) := by decide +kernel
theorem dX10_weight_95 : decode cX10_weight 95 = .ok (.getfield 48, 3) := by decide +kernel
theorem dX10_weight_98 : decode cX10_weight 98 = .ok (.i2l, 1) := by decide +kernel
theorem dX10_weight_99 : decode cX10_weight 99 = .ok (.lastore, 1) := by decide +kernel
theorem dX10_weight_100 : decode cX10_weight 100 = .ok (.dup, 1) := by decide +kernel
theorem dX10_weight_101 : decode cX10_weight 101 = .ok (.iconst 1, 1) := by decide +kernel
theorem dX10_weight_102 : decode cX10_weight 102 = .ok (.aload_n 0, 1) := by decide +kernel
theorem dX10_weight_103 : decode cX10_weight 103 = .ok (.iload_n 1, 1) := by decide +kernel
theorem dX10_weight_104 : decode cX10_weight 104 = .ok (.invokevirtual 35, 3) := by decide +kernel
theorem dX10_weight_107 : decode cX10_weight 107 = .ok (.i2l, 1) := by decide +kernel
theorem dX10_weight_108 : decode cX10_weight 108 = .ok (.lastore, 1) := by decide +kernel
theorem dX10_weight_109 : decode cX10_weight 109 = .ok (.dup, 1) := by decide +kernel
theorem dX10_weight_110 : decode cX10_weight 110 = .ok (.iconst 2, 1) := by decide +kernel
theorem dX10_weight_111 : decode cX10_weight 111 = .ok (.aload_n 3, 1) := by decide +kernel
theorem dX10_weight_112 : decode cX10_weight 112 = .ok (.invokevirtual 51, 3) := by decide +kernel
theorem dX10_weight_115 : decode cX10_weight 115 = .ok (.i2l, 1) := by decide +kernel
theorem dX10_weight_116 : decode cX10_weight 116 = .ok (.lastore, 1) := by decide +kernel
theorem dX10_weight_117 : decode cX10_weight 117 = .ok (.dup, 1) := by decide +kernel
theorem dX10_weight_118 : decode cX10_weight 118 = .ok (.iconst 3, 1) := by decide +kernel
theorem dX10_weight_119 : decode cX10_weight 119 = .ok (.iload_n 2, 1) := by decide +kernel
theorem dX10_weight_120 : decode cX10_weight 120 = .ok (.i2l, 1) := by decide +kernel
theorem dX10_weight_121 : decode cX10_weight 121 = .ok (.lastore, 1) := by decide +kernel
theorem dX10_weight_122 : decode cX10_weight 122 = .ok (.invokevirtual 55, 3) := by decide +kernel
theorem dX10_weight_125 : decode cX10_weight 125 = .ok (.lstore 4, 2) := by decide +kernel
theorem dX10_weight_127 : decode cX10_weight 127 = .ok (.lconst 0, 1) := by decide +kernel
theorem dX10_weight_128 : decode cX10_weight 128 = .ok (.ldc2_w 61, 3) := by decide +kernel
theorem dX10_weight_131 : decode cX10_weight 131 = .ok (.lload 4, 2) := by decide +kernel
theorem dX10_weight_133 : decode cX10_weight 133 = .ok (.invokestatic 63, 3) := by decide +kernel
theorem dX10_weight_136 : decode cX10_weight 136 = .ok (.invokestatic 69, 3) := by decide +kernel
theorem dX10_weight_139 : decode cX10_weight 139 = .ok (.l2i, 1) := by decide +kernel
theorem dX10_weight_140 : decode cX10_weight 140 = .ok (.ireturn, 1) := by decide +kernel
theorem dX10_isCandidate_0 : decode cX10_isCandidate 0 = .ok (.aload_n 0, 1) := by decide +kernel
theorem dX10_isCandidate_1 : decode cX10_isCandidate 1 = .ok (.iload_n 1, 1) := by decide +kernel
theorem dX10_isCandidate_2 : decode cX10_isCandidate 2 = .ok (.invokevirtual 35, 3) := by decide +kernel
theorem dX10_isCandidate_5 : decode cX10_isCandidate 5 = .ok (.ifCond .lt 22, 3) := by decide +kernel
theorem dX10_isCandidate_8 : decode cX10_isCandidate 8 = .ok (.aload_n 0, 1) := by decide +kernel
theorem dX10_isCandidate_9 : decode cX10_isCandidate 9 = .ok (.getfield 15, 3) := by decide +kernel
theorem dX10_isCandidate_12 : decode cX10_isCandidate 12 = .ok (.iload_n 1, 1) := by decide +kernel
theorem dX10_isCandidate_13 : decode cX10_isCandidate 13 = .ok (.aaload, 1) := by decide +kernel
theorem dX10_isCandidate_14 : decode cX10_isCandidate 14 = .ok (.getfield 72, 3) := by decide +kernel
theorem dX10_isCandidate_17 : decode cX10_isCandidate 17 = .ok (.iload_n 2, 1) := by decide +kernel
theorem dX10_isCandidate_18 : decode cX10_isCandidate 18 = .ok (.iaload, 1) := by decide +kernel
theorem dX10_isCandidate_19 : decode cX10_isCandidate 19 = .ok (.iconst (-1), 1) := by decide +kernel
theorem dX10_isCandidate_20 : decode cX10_isCandidate 20 = .ok (.if_icmp .eq 7, 3) := by decide +kernel
theorem dX10_isCandidate_23 : decode cX10_isCandidate 23 = .ok (.iconst 1, 1) := by decide +kernel
theorem dX10_isCandidate_24 : decode cX10_isCandidate 24 = .ok (.goto 4, 3) := by decide +kernel
theorem dX10_isCandidate_27 : decode cX10_isCandidate 27 = .ok (.iconst 0, 1) := by decide +kernel
theorem dX10_isCandidate_28 : decode cX10_isCandidate 28 = .ok (.ireturn, 1) := by decide +kernel
theorem dX10_vote_0 : decode cX10_vote 0 = .ok (.aload_n 0, 1) := by decide +kernel
theorem dX10_vote_1 : decode cX10_vote 1 = .ok (.iload_n 1, 1) := by decide +kernel
theorem dX10_vote_2 : decode cX10_vote 2 = .ok (.invokevirtual 35, 3) := by decide +kernel
theorem dX10_vote_5 : decode cX10_vote 5 = .ok (.ifCond .ge 5, 3) := by decide +kernel
theorem dX10_vote_8 : decode cX10_vote 8 = .ok (.iconst (-1), 1) := by decide +kernel
theorem dX10_vote_9 : decode cX10_vote 9 = .ok (.ireturn, 1) := by decide +kernel
theorem dX10_vote_10 : decode cX10_vote 10 = .ok (.aload_n 0, 1) := by decide +kernel
theorem dX10_vote_11 : decode cX10_vote 11 = .ok (.iload_n 1, 1) := by decide +kernel
theorem dX10_vote_12 : decode cX10_vote 12 = .ok (.iload_n 2, 1) := by decide +kernel
theorem dX10_vote_13 : decode cX10_vote 13 = .ok (.invokevirtual 75, 3) := by decide +kernel
theorem dX10_vote_16 : decode cX10_vote 16 = .ok (.ifCond .eq 5, 3) := by decide +kernel
theorem dX10_vote_19 : decode cX10_vote 19 = .ok (.iload_n 1, 1) := by decide +kernel
theorem dX10_vote_20 : decode cX10_vote 20 = .ok (.ireturn, 1) := by decide +kernel
theorem dX10_vote_21 : decode cX10_vote 21 = .ok (.aload_n 0, 1) := by decide +kernel
theorem dX10_vote_22 : decode cX10_vote 22 = .ok (.getfield 15, 3) := by decide +kernel
theorem dX10_vote_25 : decode cX10_vote 25 = .ok (.iload_n 1, 1) := by decide +kernel
theorem dX10_vote_26 : decode cX10_vote 26 = .ok (.aaload, 1) := by decide +kernel
theorem dX10_vote_27 : decode cX10_vote 27 = .ok (.getfield 39, 3) := by decide +kernel
theorem dX10_vote_30 : decode cX10_vote 30 = .ok (.astore_n 3, 1) := by decide +kernel
theorem dX10_vote_31 : decode cX10_vote 31 = .ok (.aload_n 3, 1) := by decide +kernel
theorem dX10_vote_32 : decode cX10_vote 32 = .ok (.arraylength, 1) := by decide +kernel
theorem dX10_vote_33 : decode cX10_vote 33 = .ok (.istore 4, 2) := by decide +kernel
theorem dX10_vote_35 : decode cX10_vote 35 = .ok (.iconst 0, 1) := by decide +kernel
theorem dX10_vote_36 : decode cX10_vote 36 = .ok (.istore 5, 2) := by decide +kernel
theorem dX10_vote_38 : decode cX10_vote 38 = .ok (.iload 5, 2) := by decide +kernel
theorem dX10_vote_40 : decode cX10_vote 40 = .ok (.iload 4, 2) := by decide +kernel
theorem dX10_vote_42 : decode cX10_vote 42 = .ok (.if_icmp .ge 28, 3) := by decide +kernel
theorem dX10_vote_45 : decode cX10_vote 45 = .ok (.aload_n 3, 1) := by decide +kernel
theorem dX10_vote_46 : decode cX10_vote 46 = .ok (.iload 5, 2) := by decide +kernel
theorem dX10_vote_48 : decode cX10_vote 48 = .ok (.iaload, 1) := by decide +kernel
theorem dX10_vote_49 : decode cX10_vote 49 = .ok (.istore 6, 2) := by decide +kernel
theorem dX10_vote_51 : decode cX10_vote 51 = .ok (.aload_n 0, 1) := by decide +kernel
theorem dX10_vote_52 : decode cX10_vote 52 = .ok (.iload 6, 2) := by decide +kernel
theorem dX10_vote_54 : decode cX10_vote 54 = .ok (.iload_n 2, 1) := by decide +kernel
theorem dX10_vote_55 : decode cX10_vote 55 = .ok (.invokevirtual 75, 3) := by decide +kernel
theorem dX10_vote_58 : decode cX10_vote 58 = .ok (.ifCond .eq 6, 3) := by decide +kernel
theorem dX10_vote_61 : decode cX10_vote 61 = .ok (.iload 6, 2) := by decide +kernel
theorem dX10_vote_63 : decode cX10_vote 63 = .ok (.ireturn, 1) := by decide +kernel
theorem dX10_vote_64 : decode cX10_vote 64 = .ok (.iinc 5 1, 3) := by decide +kernel
theorem dX10_vote_67 : decode cX10_vote 67 = .ok (.goto (-29), 3) := by decide +kernel
theorem dX10_vote_70 : decode cX10_vote 70 = .ok (.iconst (-1), 1) := by decide +kernel
theorem dX10_vote_71 : decode cX10_vote 71 = .ok (.ireturn, 1) := by decide +kernel
theorem dX10_support_0 : decode cX10_support 0 = .ok (.iconst 0, 1) := by decide +kernel
theorem dX10_support_1 : decode cX10_support 1 = .ok (.istore_n 3, 1) := by decide +kernel
theorem dX10_support_2 : decode cX10_support 2 = .ok (.aload_n 0, 1) := by decide +kernel
theorem dX10_support_3 : decode cX10_support 3 = .ok (.getfield 19, 3) := by decide +kernel
theorem dX10_support_6 : decode cX10_support 6 = .ok (.astore 4, 2) := by decide +kernel
theorem dX10_support_8 : decode cX10_support 8 = .ok (.aload 4, 2) := by decide +kernel
theorem dX10_support_10 : decode cX10_support 10 = .ok (.arraylength, 1) := by decide +kernel
theorem dX10_support_11 : decode cX10_support 11 = .ok (.istore 5, 2) := by decide +kernel
theorem dX10_support_13 : decode cX10_support 13 = .ok (.iconst 0, 1) := by decide +kernel
theorem dX10_support_14 : decode cX10_support 14 = .ok (.istore 6, 2) := by decide +kernel
theorem dX10_support_16 : decode cX10_support 16 = .ok (.iload 6, 2) := by decide +kernel
theorem dX10_support_18 : decode cX10_support 18 = .ok (.iload 5, 2) := by decide +kernel
theorem dX10_support_20 : decode cX10_support 20 = .ok (.if_icmp .ge 36, 3) := by decide +kernel
theorem dX10_support_23 : decode cX10_support 23 = .ok (.aload 4, 2) := by decide +kernel
theorem dX10_support_25 : decode cX10_support 25 = .ok (.iload 6, 2) := by decide +kernel
theorem dX10_support_27 : decode cX10_support 27 = .ok (.iaload, 1) := by decide +kernel
theorem dX10_support_28 : decode cX10_support 28 = .ok (.istore 7, 2) := by decide +kernel
theorem dX10_support_30 : decode cX10_support 30 = .ok (.aload_n 0, 1) := by decide +kernel
theorem dX10_support_31 : decode cX10_support 31 = .ok (.iload 7, 2) := by decide +kernel
theorem dX10_support_33 : decode cX10_support 33 = .ok (.iload_n 2, 1) := by decide +kernel
theorem dX10_support_34 : decode cX10_support 34 = .ok (.invokevirtual 79, 3) := by decide +kernel
theorem dX10_support_37 : decode cX10_support 37 = .ok (.iload_n 1, 1) := by decide +kernel
theorem dX10_support_38 : decode cX10_support 38 = .ok (.if_icmp .ne 12, 3) := by decide +kernel
theorem dX10_support_41 : decode cX10_support 41 = .ok (.iload_n 3, 1) := by decide +kernel
theorem dX10_support_42 : decode cX10_support 42 = .ok (.aload_n 0, 1) := by decide +kernel
theorem dX10_support_43 : decode cX10_support 43 = .ok (.iload 7, 2) := by decide +kernel
theorem dX10_support_45 : decode cX10_support 45 = .ok (.invokevirtual 83, 3) := by decide +kernel
theorem dX10_support_48 : decode cX10_support 48 = .ok (.iadd, 1) := by decide +kernel
theorem dX10_support_49 : decode cX10_support 49 = .ok (.istore_n 3, 1) := by decide +kernel
theorem dX10_support_50 : decode cX10_support 50 = .ok (.iinc 6 1, 3) := by decide +kernel
theorem dX10_support_53 : decode cX10_support 53 = .ok (.goto (-37), 3) := by decide +kernel
theorem dX10_support_56 : decode cX10_support 56 = .ok (.iload_n 3, 1) := by decide +kernel
theorem dX10_support_57 : decode cX10_support 57 = .ok (.ireturn, 1) := by decide +kernel
theorem dX10_winner_0 : decode cX10_winner 0 = .ok (.iconst (-1), 1) := by decide +kernel
theorem dX10_winner_1 : decode cX10_winner 1 = .ok (.istore_n 2, 1) := by decide +kernel
theorem dX10_winner_2 : decode cX10_winner 2 = .ok (.aload_n 0, 1) := by decide +kernel
theorem dX10_winner_3 : decode cX10_winner 3 = .ok (.getfield 19, 3) := by decide +kernel
theorem dX10_winner_6 : decode cX10_winner 6 = .ok (.astore_n 3, 1) := by decide +kernel
theorem dX10_winner_7 : decode cX10_winner 7 = .ok (.aload_n 3, 1) := by decide +kernel
theorem dX10_winner_8 : decode cX10_winner 8 = .ok (.arraylength, 1) := by decide +kernel
theorem dX10_winner_9 : decode cX10_winner 9 = .ok (.istore 4, 2) := by decide +kernel
theorem dX10_winner_11 : decode cX10_winner 11 = .ok (.iconst 0, 1) := by decide +kernel
theorem dX10_winner_12 : decode cX10_winner 12 = .ok (.istore 5, 2) := by decide +kernel
theorem dX10_winner_14 : decode cX10_winner 14 = .ok (.iload 5, 2) := by decide +kernel
theorem dX10_winner_16 : decode cX10_winner 16 = .ok (.iload 4, 2) := by decide +kernel
theorem dX10_winner_18 : decode cX10_winner 18 = .ok (.if_icmp .ge 48, 3) := by decide +kernel
theorem dX10_winner_21 : decode cX10_winner 21 = .ok (.aload_n 3, 1) := by decide +kernel
theorem dX10_winner_22 : decode cX10_winner 22 = .ok (.iload 5, 2) := by decide +kernel
theorem dX10_winner_24 : decode cX10_winner 24 = .ok (.iaload, 1) := by decide +kernel
theorem dX10_winner_25 : decode cX10_winner 25 = .ok (.istore 6, 2) := by decide +kernel
theorem dX10_winner_27 : decode cX10_winner 27 = .ok (.aload_n 0, 1) := by decide +kernel
theorem dX10_winner_28 : decode cX10_winner 28 = .ok (.iload 6, 2) := by decide +kernel
theorem dX10_winner_30 : decode cX10_winner 30 = .ok (.iload_n 1, 1) := by decide +kernel
theorem dX10_winner_31 : decode cX10_winner 31 = .ok (.invokevirtual 75, 3) := by decide +kernel
theorem dX10_winner_34 : decode cX10_winner 34 = .ok (.ifCond .eq 26, 3) := by decide +kernel
theorem dX10_winner_37 : decode cX10_winner 37 = .ok (.iload_n 2, 1) := by decide +kernel
theorem dX10_winner_38 : decode cX10_winner 38 = .ok (.ifCond .lt 19, 3) := by decide +kernel
theorem dX10_winner_41 : decode cX10_winner 41 = .ok (.aload_n 0, 1) := by decide +kernel
theorem dX10_winner_42 : decode cX10_winner 42 = .ok (.iload 6, 2) := by decide +kernel
theorem dX10_winner_44 : decode cX10_winner 44 = .ok (.iload_n 1, 1) := by decide +kernel
theorem dX10_winner_45 : decode cX10_winner 45 = .ok (.invokevirtual 86, 3) := by decide +kernel
theorem dX10_winner_48 : decode cX10_winner 48 = .ok (.aload_n 0, 1) := by decide +kernel
theorem dX10_winner_49 : decode cX10_winner 49 = .ok (.iload_n 2, 1) := by decide +kernel
theorem dX10_winner_50 : decode cX10_winner 50 = .ok (.iload_n 1, 1) := by decide +kernel
theorem dX10_winner_51 : decode cX10_winner 51 = .ok (.invokevirtual 86, 3) := by decide +kernel
theorem dX10_winner_54 : decode cX10_winner 54 = .ok (.if_icmp .le 6, 3) := by decide +kernel
theorem dX10_winner_57 : decode cX10_winner 57 = .ok (.iload 6, 2) := by decide +kernel
theorem dX10_winner_59 : decode cX10_winner 59 = .ok (.istore_n 2, 1) := by decide +kernel
theorem dX10_winner_60 : decode cX10_winner 60 = .ok (.iinc 5 1, 3) := by decide +kernel
theorem dX10_winner_63 : decode cX10_winner 63 = .ok (.goto (-49), 3) := by decide +kernel
theorem dX10_winner_66 : decode cX10_winner 66 = .ok (.iload_n 2, 1) := by decide +kernel
theorem dX10_winner_67 : decode cX10_winner 67 = .ok (.ireturn, 1) := by decide +kernel
theorem dX10_binding_0 : decode cX10_binding 0 = .ok (.aload_n 0, 1) := by decide +kernel
theorem dX10_binding_1 : decode cX10_binding 1 = .ok (.iload_n 1, 1) := by decide +kernel
theorem dX10_binding_2 : decode cX10_binding 2 = .ok (.invokevirtual 35, 3) := by decide +kernel
theorem dX10_binding_5 : decode cX10_binding 5 = .ok (.ifCond .ge 5, 3) := by decide +kernel
theorem dX10_binding_8 : decode cX10_binding 8 = .ok (.iconst (-1), 1) := by decide +kernel
theorem dX10_binding_9 : decode cX10_binding 9 = .ok (.ireturn, 1) := by decide +kernel
theorem dX10_binding_10 : decode cX10_binding 10 = .ok (.iconst 0, 1) := by decide +kernel
theorem dX10_binding_11 : decode cX10_binding 11 = .ok (.istore_n 3, 1) := by decide +kernel
theorem dX10_binding_12 : decode cX10_binding 12 = .ok (.aload_n 0, 1) := by decide +kernel
theorem dX10_binding_13 : decode cX10_binding 13 = .ok (.getfield 19, 3) := by decide +kernel
theorem dX10_binding_16 : decode cX10_binding 16 = .ok (.astore 4, 2) := by decide +kernel
theorem dX10_binding_18 : decode cX10_binding 18 = .ok (.aload 4, 2) := by decide +kernel
theorem dX10_binding_20 : decode cX10_binding 20 = .ok (.arraylength, 1) := by decide +kernel
theorem dX10_binding_21 : decode cX10_binding 21 = .ok (.istore 5, 2) := by decide +kernel
theorem dX10_binding_23 : decode cX10_binding 23 = .ok (.iconst 0, 1) := by decide +kernel
theorem dX10_binding_24 : decode cX10_binding 24 = .ok (.istore 6, 2) := by decide +kernel
theorem dX10_binding_26 : decode cX10_binding 26 = .ok (.iload 6, 2) := by decide +kernel
theorem dX10_binding_28 : decode cX10_binding 28 = .ok (.iload 5, 2) := by decide +kernel
theorem dX10_binding_30 : decode cX10_binding 30 = .ok (.if_icmp .ge 36, 3) := by decide +kernel
theorem dX10_binding_33 : decode cX10_binding 33 = .ok (.aload 4, 2) := by decide +kernel
theorem dX10_binding_35 : decode cX10_binding 35 = .ok (.iload 6, 2) := by decide +kernel
theorem dX10_binding_37 : decode cX10_binding 37 = .ok (.iaload, 1) := by decide +kernel
theorem dX10_binding_38 : decode cX10_binding 38 = .ok (.istore 7, 2) := by decide +kernel
theorem dX10_binding_40 : decode cX10_binding 40 = .ok (.aload_n 0, 1) := by decide +kernel
theorem dX10_binding_41 : decode cX10_binding 41 = .ok (.iload 7, 2) := by decide +kernel
theorem dX10_binding_43 : decode cX10_binding 43 = .ok (.iload_n 2, 1) := by decide +kernel
theorem dX10_binding_44 : decode cX10_binding 44 = .ok (.invokevirtual 75, 3) := by decide +kernel
theorem dX10_binding_47 : decode cX10_binding 47 = .ok (.ifCond .eq 13, 3) := by decide +kernel
theorem dX10_binding_50 : decode cX10_binding 50 = .ok (.iload_n 3, 1) := by decide +kernel
theorem dX10_binding_51 : decode cX10_binding 51 = .ok (.aload_n 0, 1) := by decide +kernel
theorem dX10_binding_52 : decode cX10_binding 52 = .ok (.iload 7, 2) := by decide +kernel
theorem dX10_binding_54 : decode cX10_binding 54 = .ok (.iload_n 2, 1) := by decide +kernel
theorem dX10_binding_55 : decode cX10_binding 55 = .ok (.invokevirtual 86, 3) := by decide +kernel
theorem dX10_binding_58 : decode cX10_binding 58 = .ok (.iadd, 1) := by decide +kernel
theorem dX10_binding_59 : decode cX10_binding 59 = .ok (.istore_n 3, 1) := by decide +kernel
theorem dX10_binding_60 : decode cX10_binding 60 = .ok (.iinc 6 1, 3) := by decide +kernel
theorem dX10_binding_63 : decode cX10_binding 63 = .ok (.goto (-37), 3) := by decide +kernel
theorem dX10_binding_66 : decode cX10_binding 66 = .ok (.aload_n 0, 1) := by decide +kernel
theorem dX10_binding_67 : decode cX10_binding 67 = .ok (.iload_n 1, 1) := by decide +kernel
theorem dX10_binding_68 : decode cX10_binding 68 = .ok (.iload_n 2, 1) := by decide +kernel
theorem dX10_binding_69 : decode cX10_binding 69 = .ok (.invokevirtual 79, 3) := by decide +kernel
theorem dX10_binding_72 : decode cX10_binding 72 = .ok (.istore 4, 2) := by decide +kernel
theorem dX10_binding_74 : decode cX10_binding 74 = .ok (.aload_n 0, 1) := by decide +kernel
theorem dX10_binding_75 : decode cX10_binding 75 = .ok (.getfield 15, 3) := by decide +kernel
theorem dX10_binding_78 : decode cX10_binding 78 = .ok (.iload_n 1, 1) := by decide +kernel
theorem dX10_binding_79 : decode cX10_binding 79 = .ok (.aaload, 1) := by decide +kernel
theorem dX10_binding_80 : decode cX10_binding 80 = .ok (.getfield 94, 3) := by decide +kernel
theorem dX10_binding_83 : decode cX10_binding 83 = .ok (.ifCond .eq 32, 3) := by decide +kernel
theorem dX10_binding_86 : decode cX10_binding 86 = .ok (.iload 4, 2) := by decide +kernel
theorem dX10_binding_88 : decode cX10_binding 88 = .ok (.ifCond .lt 27, 3) := by decide +kernel
theorem dX10_binding_91 : decode cX10_binding 91 = .ok (.bipush 100, 2) := by decide +kernel
theorem dX10_binding_93 : decode cX10_binding 93 = .ok (.aload_n 0, 1) := by decide +kernel
theorem dX10_binding_94 : decode cX10_binding 94 = .ok (.iload 4, 2) := by decide +kernel
theorem dX10_binding_96 : decode cX10_binding 96 = .ok (.iload_n 2, 1) := by decide +kernel
theorem dX10_binding_97 : decode cX10_binding 97 = .ok (.invokevirtual 86, 3) := by decide +kernel
theorem dX10_binding_100 : decode cX10_binding 100 = .ok (.imul, 1) := by decide +kernel
theorem dX10_binding_101 : decode cX10_binding 101 = .ok (.aload_n 0, 1) := by decide +kernel
theorem dX10_binding_102 : decode cX10_binding 102 = .ok (.getfield 7, 3) := by decide +kernel
theorem dX10_binding_105 : decode cX10_binding 105 = .ok (.iload_n 3, 1) := by decide +kernel
theorem dX10_binding_106 : decode cX10_binding 106 = .ok (.imul, 1) := by decide +kernel
theorem dX10_binding_107 : decode cX10_binding 107 = .ok (.if_icmp .lt 8, 3) := by decide +kernel
theorem dX10_binding_110 : decode cX10_binding 110 = .ok (.iload 4, 2) := by decide +kernel
theorem dX10_binding_112 : decode cX10_binding 112 = .ok (.goto 8, 3) := by decide +kernel
theorem dX10_binding_115 : decode cX10_binding 115 = .ok (.aload_n 0, 1) := by decide +kernel
theorem dX10_binding_116 : decode cX10_binding 116 = .ok (.iload_n 2, 1) := by decide +kernel
theorem dX10_binding_117 : decode cX10_binding 117 = .ok (.invokevirtual 89, 3) := by decide +kernel
theorem dX10_binding_120 : decode cX10_binding 120 = .ok (.ireturn, 1) := by decide +kernel
theorem dX10_bindings_0 : decode cX10_bindings 0 = .ok (.aload_n 0, 1) := by decide +kernel
theorem dX10_bindings_1 : decode cX10_bindings 1 = .ok (.getfield 15, 3) := by decide +kernel
theorem dX10_bindings_4 : decode cX10_bindings 4 = .ok (.arraylength, 1) := by decide +kernel
theorem dX10_bindings_5 : decode cX10_bindings 5 = .ok (.aload_n 0, 1) := by decide +kernel
theorem dX10_bindings_6 : decode cX10_bindings 6 = .ok (.getfield 24, 3) := by decide +kernel
theorem dX10_bindings_9 : decode cX10_bindings 9 = .ok (.multianewarray 98 2, 4) := by decide +kernel
theorem dX10_bindings_13 : decode cX10_bindings 13 = .ok (.astore_n 1, 1) := by decide +kernel
theorem dX10_bindings_14 : decode cX10_bindings 14 = .ok (.iconst 0, 1) := by decide +kernel
theorem dX10_bindings_15 : decode cX10_bindings 15 = .ok (.istore_n 2, 1) := by decide +kernel
theorem dX10_bindings_16 : decode cX10_bindings 16 = .ok (.iload_n 2, 1) := by decide +kernel
theorem dX10_bindings_17 : decode cX10_bindings 17 = .ok (.aload_n 0, 1) := by decide +kernel
theorem dX10_bindings_18 : decode cX10_bindings 18 = .ok (.getfield 15, 3) := by decide +kernel
theorem dX10_bindings_21 : decode cX10_bindings 21 = .ok (.arraylength, 1) := by decide +kernel
theorem dX10_bindings_22 : decode cX10_bindings 22 = .ok (.if_icmp .ge 36, 3) := by decide +kernel
theorem dX10_bindings_25 : decode cX10_bindings 25 = .ok (.iconst 0, 1) := by decide +kernel
theorem dX10_bindings_26 : decode cX10_bindings 26 = .ok (.istore_n 3, 1) := by decide +kernel
theorem dX10_bindings_27 : decode cX10_bindings 27 = .ok (.iload_n 3, 1) := by decide +kernel
theorem dX10_bindings_28 : decode cX10_bindings 28 = .ok (.aload_n 0, 1) := by decide +kernel
theorem dX10_bindings_29 : decode cX10_bindings 29 = .ok (.getfield 24, 3) := by decide +kernel
theorem dX10_bindings_32 : decode cX10_bindings 32 = .ok (.if_icmp .ge 20, 3) := by decide +kernel
theorem dX10_bindings_35 : decode cX10_bindings 35 = .ok (.aload_n 1, 1) := by decide +kernel
theorem dX10_bindings_36 : decode cX10_bindings 36 = .ok (.iload_n 2, 1) := by decide +kernel
theorem dX10_bindings_37 : decode cX10_bindings 37 = .ok (.aaload, 1) := by decide +kernel
theorem dX10_bindings_38 : decode cX10_bindings 38 = .ok (.iload_n 3, 1) := by decide +kernel
theorem dX10_bindings_39 : decode cX10_bindings 39 = .ok (.aload_n 0, 1) := by decide +kernel
theorem dX10_bindings_40 : decode cX10_bindings 40 = .ok (.iload_n 2, 1) := by decide +kernel
theorem dX10_bindings_41 : decode cX10_bindings 41 = .ok (.iload_n 3, 1) := by decide +kernel
theorem dX10_bindings_42 : decode cX10_bindings 42 = .ok (.invokevirtual 100, 3) := by decide +kernel
theorem dX10_bindings_45 : decode cX10_bindings 45 = .ok (.iastore, 1) := by decide +kernel
theorem dX10_bindings_46 : decode cX10_bindings 46 = .ok (.iinc 3 1, 3) := by decide +kernel
theorem dX10_bindings_49 : decode cX10_bindings 49 = .ok (.goto (-22), 3) := by decide +kernel
theorem dX10_bindings_52 : decode cX10_bindings 52 = .ok (.iinc 2 1, 3) := by decide +kernel
theorem dX10_bindings_55 : decode cX10_bindings 55 = .ok (.goto (-39), 3) := by decide +kernel
theorem dX10_bindings_58 : decode cX10_bindings 58 = .ok (.aload_n 1, 1) := by decide +kernel
theorem dX10_bindings_59 : decode cX10_bindings 59 = .ok (.areturn, 1) := by decide +kernel
theorem dX10_call_0 : decode cX10_call 0 = .ok (.iconst 0, 1) := by decide +kernel
theorem dX10_call_1 : decode cX10_call 1 = .ok (.newarray .int, 2) := by decide +kernel
theorem dX10_call_3 : decode cX10_call 3 = .ok (.astore 4, 2) := by decide +kernel
theorem dX10_call_5 : decode cX10_call 5 = .ok (.iload_n 2, 1) := by decide +kernel
theorem dX10_call_6 : decode cX10_call 6 = .ok (.istore 5, 2) := by decide +kernel
theorem dX10_call_8 : decode cX10_call 8 = .ok (.iload_n 3, 1) := by decide +kernel
theorem dX10_call_9 : decode cX10_call 9 = .ok (.istore 6, 2) := by decide +kernel
theorem dX10_call_11 : decode cX10_call 11 = .ok (.iconst 0, 1) := by decide +kernel
theorem dX10_call_12 : decode cX10_call 12 = .ok (.istore 7, 2) := by decide +kernel
theorem dX10_call_14 : decode cX10_call 14 = .ok (.aload 4, 2) := by decide +kernel
theorem dX10_call_16 : decode cX10_call 16 = .ok (.bipush 100, 2) := by decide +kernel
theorem dX10_call_18 : decode cX10_call 18 = .ok (.iload 5, 2) := by decide +kernel
theorem dX10_call_20 : decode cX10_call 20 = .ok (.imul, 1) := by decide +kernel
theorem dX10_call_21 : decode cX10_call 21 = .ok (.iload 6, 2) := by decide +kernel
theorem dX10_call_23 : decode cX10_call 23 = .ok (.iadd, 1) := by decide +kernel
theorem dX10_call_24 : decode cX10_call 24 = .ok (.invokestatic 42, 3) := by decide +kernel
theorem dX10_call_27 : decode cX10_call 27 = .ok (.ifCond .ne 96, 3) := by decide +kernel
theorem dX10_call_30 : decode cX10_call 30 = .ok (.aload 4, 2) := by decide +kernel
theorem dX10_call_32 : decode cX10_call 32 = .ok (.bipush 100, 2) := by decide +kernel
theorem dX10_call_34 : decode cX10_call 34 = .ok (.iload 5, 2) := by decide +kernel
theorem dX10_call_36 : decode cX10_call 36 = .ok (.imul, 1) := by decide +kernel
theorem dX10_call_37 : decode cX10_call 37 = .ok (.iload 6, 2) := by decide +kernel
theorem dX10_call_39 : decode cX10_call 39 = .ok (.iadd, 1) := by decide +kernel
theorem dX10_call_40 : decode cX10_call 40 = .ok (.invokestatic 103, 3) := by decide +kernel
theorem dX10_call_43 : decode cX10_call 43 = .ok (.astore 4, 2) := by decide +kernel
theorem dX10_call_45 : decode cX10_call 45 = .ok (.aload_n 1, 1) := by decide +kernel
theorem dX10_call_46 : decode cX10_call 46 = .ok (.iload 5, 2) := by decide +kernel
theorem dX10_call_48 : decode cX10_call 48 = .ok (.aaload, 1) := by decide +kernel
theorem dX10_call_49 : decode cX10_call 49 = .ok (.iload 6, 2) := by decide +kernel
theorem dX10_call_51 : decode cX10_call 51 = .ok (.iaload, 1) := by decide +kernel
theorem dX10_call_52 : decode cX10_call 52 = .ok (.istore 8, 2) := by decide +kernel
theorem dX10_call_54 : decode cX10_call 54 = .ok (.iload 8, 2) := by decide +kernel
theorem dX10_call_56 : decode cX10_call 56 = .ok (.ifCond .ge 16, 3) := by decide +kernel
theorem dX10_call_59 : decode cX10_call 59 = .ok (.iconst 2, 1) := by decide +kernel
theorem dX10_call_60 : decode cX10_call 60 = .ok (.newarray .int, 2) := by decide +kernel
theorem dX10_call_62 : decode cX10_call 62 = .ok (.dup, 1) := by decide +kernel
theorem dX10_call_63 : decode cX10_call 63 = .ok (.iconst 0, 1) := by decide +kernel
theorem dX10_call_64 : decode cX10_call 64 = .ok (.iconst (-1), 1) := by decide +kernel
theorem dX10_call_65 : decode cX10_call 65 = .ok (.iastore, 1) := by decide +kernel
theorem dX10_call_66 : decode cX10_call 66 = .ok (.dup, 1) := by decide +kernel
theorem dX10_call_67 : decode cX10_call 67 = .ok (.iconst 1, 1) := by decide +kernel
theorem dX10_call_68 : decode cX10_call 68 = .ok (.iload 7, 2) := by decide +kernel
theorem dX10_call_70 : decode cX10_call 70 = .ok (.iastore, 1) := by decide +kernel
theorem dX10_call_71 : decode cX10_call 71 = .ok (.areturn, 1) := by decide +kernel
theorem dX10_call_72 : decode cX10_call 72 = .ok (.iinc 7 1, 3) := by decide +kernel
theorem dX10_call_75 : decode cX10_call 75 = .ok (.aload_n 0, 1) := by decide +kernel
theorem dX10_call_76 : decode cX10_call 76 = .ok (.getfield 15, 3) := by decide +kernel
theorem dX10_call_79 : decode cX10_call 79 = .ok (.iload 8, 2) := by decide +kernel
theorem dX10_call_81 : decode cX10_call 81 = .ok (.aaload, 1) := by decide +kernel
theorem dX10_call_82 : decode cX10_call 82 = .ok (.getfield 72, 3) := by decide +kernel
theorem dX10_call_85 : decode cX10_call 85 = .ok (.iload 6, 2) := by decide +kernel
theorem dX10_call_87 : decode cX10_call 87 = .ok (.iaload, 1) := by decide +kernel
theorem dX10_call_88 : decode cX10_call 88 = .ok (.istore 9, 2) := by decide +kernel
theorem dX10_call_90 : decode cX10_call 90 = .ok (.iload 9, 2) := by decide +kernel
theorem dX10_call_92 : decode cX10_call 92 = .ok (.ifCond .lt 17, 3) := by decide +kernel
theorem dX10_call_95 : decode cX10_call 95 = .ok (.iconst 2, 1) := by decide +kernel
theorem dX10_call_96 : decode cX10_call 96 = .ok (.newarray .int, 2) := by decide +kernel
theorem dX10_call_98 : decode cX10_call 98 = .ok (.dup, 1) := by decide +kernel
theorem dX10_call_99 : decode cX10_call 99 = .ok (.iconst 0, 1) := by decide +kernel
theorem dX10_call_100 : decode cX10_call 100 = .ok (.iload 9, 2) := by decide +kernel
theorem dX10_call_102 : decode cX10_call 102 = .ok (.iastore, 1) := by decide +kernel
theorem dX10_call_103 : decode cX10_call 103 = .ok (.dup, 1) := by decide +kernel
theorem dX10_call_104 : decode cX10_call 104 = .ok (.iconst 1, 1) := by decide +kernel
theorem dX10_call_105 : decode cX10_call 105 = .ok (.iload 7, 2) := by decide +kernel
theorem dX10_call_107 : decode cX10_call 107 = .ok (.iastore, 1) := by decide +kernel
theorem dX10_call_108 : decode cX10_call 108 = .ok (.areturn, 1) := by decide +kernel
theorem dX10_call_109 : decode cX10_call 109 = .ok (.iload 8, 2) := by decide +kernel
theorem dX10_call_111 : decode cX10_call 111 = .ok (.istore 5, 2) := by decide +kernel
theorem dX10_call_113 : decode cX10_call 113 = .ok (.bipush (-2), 2) := by decide +kernel
theorem dX10_call_115 : decode cX10_call 115 = .ok (.iload 9, 2) := by decide +kernel
theorem dX10_call_117 : decode cX10_call 117 = .ok (.isub, 1) := by decide +kernel
theorem dX10_call_118 : decode cX10_call 118 = .ok (.istore 6, 2) := by decide +kernel
theorem dX10_call_120 : decode cX10_call 120 = .ok (.goto (-106), 3) := by decide +kernel
theorem dX10_call_123 : decode cX10_call 123 = .ok (.iconst 2, 1) := by decide +kernel
theorem dX10_call_124 : decode cX10_call 124 = .ok (.newarray .int, 2) := by decide +kernel
theorem dX10_call_126 : decode cX10_call 126 = .ok (.dup, 1) := by decide +kernel
theorem dX10_call_127 : decode cX10_call 127 = .ok (.iconst 0, 1) := by decide +kernel
theorem dX10_call_128 : decode cX10_call 128 = .ok (.bipush (-2), 2) := by decide +kernel
theorem dX10_call_130 : decode cX10_call 130 = .ok (.iastore, 1) := by decide +kernel
theorem dX10_call_131 : decode cX10_call 131 = .ok (.dup, 1) := by decide +kernel
theorem dX10_call_132 : decode cX10_call 132 = .ok (.iconst 1, 1) := by decide +kernel
theorem dX10_call_133 : decode cX10_call 133 = .ok (.iload 7, 2) := by decide +kernel
theorem dX10_call_135 : decode cX10_call 135 = .ok (.iastore, 1) := by decide +kernel
theorem dX10_call_136 : decode cX10_call 136 = .ok (.areturn, 1) := by decide +kernel
theorem dX10_changed_0 : decode cX10_changed 0 = .ok (.iconst 0, 1) := by decide +kernel
theorem dX10_changed_1 : decode cX10_changed 1 = .ok (.istore_n 3, 1) := by decide +kernel
theorem dX10_changed_2 : decode cX10_changed 2 = .ok (.aload_n 0, 1) := by decide +kernel
theorem dX10_changed_3 : decode cX10_changed 3 = .ok (.getfield 19, 3) := by decide +kernel
theorem dX10_changed_6 : decode cX10_changed 6 = .ok (.astore 4, 2) := by decide +kernel
theorem dX10_changed_8 : decode cX10_changed 8 = .ok (.aload 4, 2) := by decide +kernel
theorem dX10_changed_10 : decode cX10_changed 10 = .ok (.arraylength, 1) := by decide +kernel
theorem dX10_changed_11 : decode cX10_changed 11 = .ok (.istore 5, 2) := by decide +kernel
theorem dX10_changed_13 : decode cX10_changed 13 = .ok (.iconst 0, 1) := by decide +kernel
theorem dX10_changed_14 : decode cX10_changed 14 = .ok (.istore 6, 2) := by decide +kernel
theorem dX10_changed_16 : decode cX10_changed 16 = .ok (.iload 6, 2) := by decide +kernel
theorem dX10_changed_18 : decode cX10_changed 18 = .ok (.iload 5, 2) := by decide +kernel
theorem dX10_changed_20 : decode cX10_changed 20 = .ok (.if_icmp .ge 61, 3) := by decide +kernel
theorem dX10_changed_23 : decode cX10_changed 23 = .ok (.aload 4, 2) := by decide +kernel
theorem dX10_changed_25 : decode cX10_changed 25 = .ok (.iload 6, 2) := by decide +kernel
theorem dX10_changed_27 : decode cX10_changed 27 = .ok (.iaload, 1) := by decide +kernel
theorem dX10_changed_28 : decode cX10_changed 28 = .ok (.istore 7, 2) := by decide +kernel
theorem dX10_changed_30 : decode cX10_changed 30 = .ok (.iconst 0, 1) := by decide +kernel
theorem dX10_changed_31 : decode cX10_changed 31 = .ok (.istore 8, 2) := by decide +kernel
theorem dX10_changed_33 : decode cX10_changed 33 = .ok (.iload 8, 2) := by decide +kernel
theorem dX10_changed_35 : decode cX10_changed 35 = .ok (.aload_n 0, 1) := by decide +kernel
theorem dX10_changed_36 : decode cX10_changed 36 = .ok (.getfield 24, 3) := by decide +kernel
theorem dX10_changed_39 : decode cX10_changed 39 = .ok (.if_icmp .ge 36, 3) := by decide +kernel
theorem dX10_changed_42 : decode cX10_changed 42 = .ok (.iload 7, 2) := by decide +kernel
theorem dX10_changed_44 : decode cX10_changed 44 = .ok (.iload_n 2, 1) := by decide +kernel
theorem dX10_changed_45 : decode cX10_changed 45 = .ok (.if_icmp .eq 30, 3) := by decide +kernel
theorem dX10_changed_48 : decode cX10_changed 48 = .ok (.aload_n 0, 1) := by decide +kernel
theorem dX10_changed_49 : decode cX10_changed 49 = .ok (.iload 7, 2) := by decide +kernel
theorem dX10_changed_51 : decode cX10_changed 51 = .ok (.iload 8, 2) := by decide +kernel
theorem dX10_changed_53 : decode cX10_changed 53 = .ok (.invokevirtual 100, 3) := by decide +kernel
theorem dX10_changed_56 : decode cX10_changed 56 = .ok (.aload_n 1, 1) := by decide +kernel
theorem dX10_changed_57 : decode cX10_changed 57 = .ok (.iload 7, 2) := by decide +kernel
theorem dX10_changed_59 : decode cX10_changed 59 = .ok (.aaload, 1) := by decide +kernel
theorem dX10_changed_60 : decode cX10_changed 60 = .ok (.iload 8, 2) := by decide +kernel
theorem dX10_changed_62 : decode cX10_changed 62 = .ok (.iaload, 1) := by decide +kernel
theorem dX10_changed_63 : decode cX10_changed 63 = .ok (.if_icmp .eq 6, 3) := by decide +kernel
theorem dX10_changed_66 : decode cX10_changed 66 = .ok (.iinc 3 1, 3) := by decide +kernel
theorem dX10_changed_69 : decode cX10_changed 69 = .ok (.iinc 8 1, 3) := by decide +kernel
theorem dX10_changed_72 : decode cX10_changed 72 = .ok (.goto (-39), 3) := by decide +kernel
theorem dX10_changed_75 : decode cX10_changed 75 = .ok (.iinc 6 1, 3) := by decide +kernel
theorem dX10_changed_78 : decode cX10_changed 78 = .ok (.goto (-62), 3) := by decide +kernel
theorem dX10_changed_81 : decode cX10_changed 81 = .ok (.iload_n 3, 1) := by decide +kernel
theorem dX10_changed_82 : decode cX10_changed 82 = .ok (.ireturn, 1) := by decide +kernel
theorem dX10_told_0 : decode cX10_told 0 = .ok (.aload_n 0, 1) := by decide +kernel
theorem dX10_told_1 : decode cX10_told 1 = .ok (.getfield 15, 3) := by decide +kernel
theorem dX10_told_4 : decode cX10_told 4 = .ok (.iload_n 1, 1) := by decide +kernel
theorem dX10_told_5 : decode cX10_told 5 = .ok (.aaload, 1) := by decide +kernel
theorem dX10_told_6 : decode cX10_told 6 = .ok (.astore_n 3, 1) := by decide +kernel
theorem dX10_told_7 : decode cX10_told 7 = .ok (.iload_n 2, 1) := by decide +kernel
theorem dX10_told_8 : decode cX10_told 8 = .ok (.ifCond .ne 10, 3) := by decide +kernel
theorem dX10_told_11 : decode cX10_told 11 = .ok (.aload_n 3, 1) := by decide +kernel
theorem dX10_told_12 : decode cX10_told 12 = .ok (.getfield 48, 3) := by decide +kernel
theorem dX10_told_15 : decode cX10_told 15 = .ok (.goto 66, 3) := by decide +kernel
theorem dX10_told_18 : decode cX10_told 18 = .ok (.iload_n 2, 1) := by decide +kernel
theorem dX10_told_19 : decode cX10_told 19 = .ok (.iconst 1, 1) := by decide +kernel
theorem dX10_told_20 : decode cX10_told 20 = .ok (.if_icmp .ne 18, 3) := by decide +kernel
theorem dX10_told_23 : decode cX10_told 23 = .ok (.aload_n 3, 1) := by decide +kernel
theorem dX10_told_24 : decode cX10_told 24 = .ok (.getfield 94, 3) := by decide +kernel
theorem dX10_told_27 : decode cX10_told 27 = .ok (.ifCond .eq 7, 3) := by decide +kernel
theorem dX10_told_30 : decode cX10_told 30 = .ok (.iconst 1, 1) := by decide +kernel
theorem dX10_told_31 : decode cX10_told 31 = .ok (.goto 50, 3) := by decide +kernel
theorem dX10_told_34 : decode cX10_told 34 = .ok (.iconst 0, 1) := by decide +kernel
theorem dX10_told_35 : decode cX10_told 35 = .ok (.goto 46, 3) := by decide +kernel
theorem dX10_told_38 : decode cX10_told 38 = .ok (.iload_n 2, 1) := by decide +kernel
theorem dX10_told_39 : decode cX10_told 39 = .ok (.iconst 2, 1) := by decide +kernel
theorem dX10_told_40 : decode cX10_told 40 = .ok (.if_icmp .ne 11, 3) := by decide +kernel
theorem dX10_told_43 : decode cX10_told 43 = .ok (.aload_n 0, 1) := by decide +kernel
theorem dX10_told_44 : decode cX10_told 44 = .ok (.iload_n 1, 1) := by decide +kernel
theorem dX10_told_45 : decode cX10_told 45 = .ok (.invokevirtual 35, 3) := by decide +kernel
theorem dX10_told_48 : decode cX10_told 48 = .ok (.goto 33, 3) := by decide +kernel
theorem dX10_told_51 : decode cX10_told 51 = .ok (.iload_n 2, 1) := by decide +kernel
theorem dX10_told_52 : decode cX10_told 52 = .ok (.iconst 3, 1) := by decide +kernel
theorem dX10_told_53 : decode cX10_told 53 = .ok (.if_icmp .ne 10, 3) := by decide +kernel
theorem dX10_told_56 : decode cX10_told 56 = .ok (.aload_n 3, 1) := by decide +kernel
theorem dX10_told_57 : decode cX10_told 57 = .ok (.invokevirtual 51, 3) := by decide +kernel
theorem dX10_told_60 : decode cX10_told 60 = .ok (.goto 21, 3) := by decide +kernel
theorem dX10_told_63 : decode cX10_told 63 = .ok (.iload_n 2, 1) := by decide +kernel
theorem dX10_told_64 : decode cX10_told 64 = .ok (.iconst 4, 1) := by decide +kernel
theorem dX10_told_65 : decode cX10_told 65 = .ok (.if_icmp .ne 11, 3) := by decide +kernel
theorem dX10_told_68 : decode cX10_told 68 = .ok (.aload_n 3, 1) := by decide +kernel
theorem dX10_told_69 : decode cX10_told 69 = .ok (.getfield 39, 3) := by decide +kernel
theorem dX10_told_72 : decode cX10_told 72 = .ok (.arraylength, 1) := by decide +kernel
theorem dX10_told_73 : decode cX10_told 73 = .ok (.goto 8, 3) := by decide +kernel
theorem dX10_told_76 : decode cX10_told 76 = .ok (.aload_n 0, 1) := by decide +kernel
theorem dX10_told_77 : decode cX10_told 77 = .ok (.iload_n 1, 1) := by decide +kernel
theorem dX10_told_78 : decode cX10_told 78 = .ok (.invokevirtual 83, 3) := by decide +kernel
theorem dX10_told_81 : decode cX10_told 81 = .ok (.ireturn, 1) := by decide +kernel
theorem dX10_sum_0 : decode cX10_sum 0 = .ok (.aload_n 0, 1) := by decide +kernel
theorem dX10_sum_1 : decode cX10_sum 1 = .ok (.invokevirtual 107, 3) := by decide +kernel
theorem dX10_sum_4 : decode cX10_sum 4 = .ok (.astore_n 1, 1) := by decide +kernel
theorem dX10_sum_5 : decode cX10_sum 5 = .ok (.aload_n 0, 1) := by decide +kernel
theorem dX10_sum_6 : decode cX10_sum 6 = .ok (.getfield 7, 3) := by decide +kernel
theorem dX10_sum_9 : decode cX10_sum 9 = .ok (.i2l, 1) := by decide +kernel
theorem dX10_sum_10 : decode cX10_sum 10 = .ok (.lstore_n 2, 1) := by decide +kernel
theorem dX10_sum_11 : decode cX10_sum 11 = .ok (.iconst 0, 1) := by decide +kernel
theorem dX10_sum_12 : decode cX10_sum 12 = .ok (.istore 4, 2) := by decide +kernel
theorem dX10_sum_14 : decode cX10_sum 14 = .ok (.iload 4, 2) := by decide +kernel
theorem dX10_sum_16 : decode cX10_sum 16 = .ok (.aload_n 0, 1) := by decide +kernel
theorem dX10_sum_17 : decode cX10_sum 17 = .ok (.getfield 15, 3) := by decide +kernel
theorem dX10_sum_20 : decode cX10_sum 20 = .ok (.arraylength, 1) := by decide +kernel
theorem dX10_sum_21 : decode cX10_sum 21 = .ok (.if_icmp .ge 110, 3) := by decide +kernel
theorem dX10_sum_24 : decode cX10_sum 24 = .ok (.iconst 0, 1) := by decide +kernel
theorem dX10_sum_25 : decode cX10_sum 25 = .ok (.istore 5, 2) := by decide +kernel
theorem dX10_sum_27 : decode cX10_sum 27 = .ok (.iload 5, 2) := by decide +kernel
theorem dX10_sum_29 : decode cX10_sum 29 = .ok (.bipush 6, 2) := by decide +kernel
theorem dX10_sum_31 : decode cX10_sum 31 = .ok (.if_icmp .ge 25, 3) := by decide +kernel
theorem dX10_sum_34 : decode cX10_sum 34 = .ok (.ldc2_w 111, 3) := by decide +kernel
theorem dX10_sum_37 : decode cX10_sum 37 = .ok (.lload_n 2, 1) := by decide +kernel
theorem dX10_sum_38 : decode cX10_sum 38 = .ok (.lmul, 1) := by decide +kernel
theorem dX10_sum_39 : decode cX10_sum 39 = .ok (.aload_n 0, 1) := by decide +kernel
theorem dX10_sum_40 : decode cX10_sum 40 = .ok (.iload 4, 2) := by decide +kernel
theorem dX10_sum_42 : decode cX10_sum 42 = .ok (.iload 5, 2) := by decide +kernel
theorem dX10_sum_44 : decode cX10_sum 44 = .ok (.invokevirtual 113, 3) := by decide +kernel
theorem dX10_sum_47 : decode cX10_sum 47 = .ok (.i2l, 1) := by decide +kernel
theorem dX10_sum_48 : decode cX10_sum 48 = .ok (.ladd, 1) := by decide +kernel
theorem dX10_sum_49 : decode cX10_sum 49 = .ok (.lstore_n 2, 1) := by decide +kernel
theorem dX10_sum_50 : decode cX10_sum 50 = .ok (.iinc 5 1, 3) := by decide +kernel
theorem dX10_sum_53 : decode cX10_sum 53 = .ok (.goto (-26), 3) := by decide +kernel
theorem dX10_sum_56 : decode cX10_sum 56 = .ok (.iconst 0, 1) := by decide +kernel
theorem dX10_sum_57 : decode cX10_sum 57 = .ok (.istore 5, 2) := by decide +kernel
theorem dX10_sum_59 : decode cX10_sum 59 = .ok (.iload 5, 2) := by decide +kernel
theorem dX10_sum_61 : decode cX10_sum 61 = .ok (.aload_n 0, 1) := by decide +kernel
theorem dX10_sum_62 : decode cX10_sum 62 = .ok (.getfield 24, 3) := by decide +kernel
theorem dX10_sum_65 : decode cX10_sum 65 = .ok (.if_icmp .ge 60, 3) := by decide +kernel
theorem dX10_sum_68 : decode cX10_sum 68 = .ok (.ldc2_w 111, 3) := by decide +kernel
theorem dX10_sum_71 : decode cX10_sum 71 = .ok (.ldc2_w 111, 3) := by decide +kernel
theorem dX10_sum_74 : decode cX10_sum 74 = .ok (.ldc2_w 111, 3) := by decide +kernel
theorem dX10_sum_77 : decode cX10_sum 77 = .ok (.lload_n 2, 1) := by decide +kernel
theorem dX10_sum_78 : decode cX10_sum 78 = .ok (.lmul, 1) := by decide +kernel
theorem dX10_sum_79 : decode cX10_sum 79 = .ok (.aload_n 0, 1) := by decide +kernel
theorem dX10_sum_80 : decode cX10_sum 80 = .ok (.getfield 15, 3) := by decide +kernel
theorem dX10_sum_83 : decode cX10_sum 83 = .ok (.iload 4, 2) := by decide +kernel
theorem dX10_sum_85 : decode cX10_sum 85 = .ok (.aaload, 1) := by decide +kernel
theorem dX10_sum_86 : decode cX10_sum 86 = .ok (.getfield 72, 3) := by decide +kernel
theorem dX10_sum_89 : decode cX10_sum 89 = .ok (.iload 5, 2) := by decide +kernel
theorem dX10_sum_91 : decode cX10_sum 91 = .ok (.iaload, 1) := by decide +kernel
theorem dX10_sum_92 : decode cX10_sum 92 = .ok (.i2l, 1) := by decide +kernel
theorem dX10_sum_93 : decode cX10_sum 93 = .ok (.ladd, 1) := by decide +kernel
theorem dX10_sum_94 : decode cX10_sum 94 = .ok (.lmul, 1) := by decide +kernel
theorem dX10_sum_95 : decode cX10_sum 95 = .ok (.aload_n 1, 1) := by decide +kernel
theorem dX10_sum_96 : decode cX10_sum 96 = .ok (.iload 4, 2) := by decide +kernel
theorem dX10_sum_98 : decode cX10_sum 98 = .ok (.aaload, 1) := by decide +kernel
theorem dX10_sum_99 : decode cX10_sum 99 = .ok (.iload 5, 2) := by decide +kernel
theorem dX10_sum_101 : decode cX10_sum 101 = .ok (.iaload, 1) := by decide +kernel
theorem dX10_sum_102 : decode cX10_sum 102 = .ok (.i2l, 1) := by decide +kernel
theorem dX10_sum_103 : decode cX10_sum 103 = .ok (.ladd, 1) := by decide +kernel
theorem dX10_sum_104 : decode cX10_sum 104 = .ok (.lmul, 1) := by decide +kernel
theorem dX10_sum_105 : decode cX10_sum 105 = .ok (.aload_n 0, 1) := by decide +kernel
theorem dX10_sum_106 : decode cX10_sum 106 = .ok (.aload_n 1, 1) := by decide +kernel
theorem dX10_sum_107 : decode cX10_sum 107 = .ok (.iload 4, 2) := by decide +kernel
theorem dX10_sum_109 : decode cX10_sum 109 = .ok (.iload 5, 2) := by decide +kernel
theorem dX10_sum_111 : decode cX10_sum 111 = .ok (.invokevirtual 116, 3) := by decide +kernel
theorem dX10_sum_114 : decode cX10_sum 114 = .ok (.iconst 0, 1) := by decide +kernel
theorem dX10_sum_115 : decode cX10_sum 115 = .ok (.iaload, 1) := by decide +kernel
theorem dX10_sum_116 : decode cX10_sum 116 = .ok (.i2l, 1) := by decide +kernel
theorem dX10_sum_117 : decode cX10_sum 117 = .ok (.ladd, 1) := by decide +kernel
theorem dX10_sum_118 : decode cX10_sum 118 = .ok (.lstore_n 2, 1) := by decide +kernel
theorem dX10_sum_119 : decode cX10_sum 119 = .ok (.iinc 5 1, 3) := by decide +kernel
theorem dX10_sum_122 : decode cX10_sum 122 = .ok (.goto (-63), 3) := by decide +kernel
theorem dX10_sum_125 : decode cX10_sum 125 = .ok (.iinc 4 1, 3) := by decide +kernel
theorem dX10_sum_128 : decode cX10_sum 128 = .ok (.goto (-114), 3) := by decide +kernel
theorem dX10_sum_131 : decode cX10_sum 131 = .ok (.lload_n 2, 1) := by decide +kernel
theorem dX10_sum_132 : decode cX10_sum 132 = .ok (.lreturn, 1) := by decide +kernel
end
section
theorem dX11_init_0 : decode cX11_init 0 = .ok (.aload_n 0, 1) := by decide +kernel
theorem dX11_init_1 : decode cX11_init 1 = .ok (.invokespecial 1, 3) := by decide +kernel
theorem dX11_init_4 : decode cX11_init 4 = .ok (.return_, 1) := by decide +kernel
theorem dX11_random_0 : decode cX11_random 0 = .ok (.new 7, 3) := by decide +kernel
theorem dX11_random_3 : decode cX11_random 3 = .ok (.dup, 1) := by decide +kernel
theorem dX11_random_4 : decode cX11_random 4 = .ok (.invokespecial 9, 3) := by decide +kernel
theorem dX11_random_7 : decode cX11_random 7 = .ok (.astore_n 2, 1) := by decide +kernel
theorem dX11_random_8 : decode cX11_random 8 = .ok (.aload_n 2, 1) := by decide +kernel
theorem dX11_random_9 : decode cX11_random 9 = .ok (.iload_n 1, 1) := by decide +kernel
theorem dX11_random_10 : decode cX11_random 10 = .ok (.ifCond .ne 11, 3) := by decide +kernel
theorem dX11_random_13 : decode cX11_random 13 = .ok (.aload_n 0, 1) := by decide +kernel
theorem dX11_random_14 : decode cX11_random 14 = .ok (.iconst 2, 1) := by decide +kernel
theorem dX11_random_15 : decode cX11_random 15 = .ok (.invokevirtual 10, 3) := by decide +kernel
theorem dX11_random_18 : decode cX11_random 18 = .ok (.goto 9, 3) := by decide +kernel
theorem dX11_random_21 : decode cX11_random 21 = .ok (.aload_n 0, 1) := by decide +kernel
theorem dX11_random_22 : decode cX11_random 22 = .ok (.bipush 6, 2) := by decide +kernel
theorem dX11_random_24 : decode cX11_random 24 = .ok (.invokevirtual 10, 3) := by decide +kernel
theorem dX11_random_27 : decode cX11_random 27 = .ok (.putfield 16, 3) := by decide +kernel
theorem dX11_random_30 : decode cX11_random 30 = .ok (.aload_n 2, 1) := by decide +kernel
theorem dX11_random_31 : decode cX11_random 31 = .ok (.aload_n 2, 1) := by decide +kernel
theorem dX11_random_32 : decode cX11_random 32 = .ok (.getfield 16, 3) := by decide +kernel
theorem dX11_random_35 : decode cX11_random 35 = .ok (.ifCond .ne 27, 3) := by decide +kernel
theorem dX11_random_38 : decode cX11_random 38 = .ok (.aload_n 0, 1) := by decide +kernel
theorem dX11_random_39 : decode cX11_random 39 = .ok (.aload_n 0, 1) := by decide +kernel
theorem dX11_random_40 : decode cX11_random 40 = .ok (.bipush 8, 2) := by decide +kernel
theorem dX11_random_42 : decode cX11_random 42 = .ok (.invokevirtual 10, 3) := by decide +kernel
theorem dX11_random_45 : decode cX11_random 45 = .ok (.ifCond .ne 9, 3) := by decide +kernel
theorem dX11_random_48 : decode cX11_random 48 = .ok (.sipush 10000, 3) := by decide +kernel
theorem dX11_random_51 : decode cX11_random 51 = .ok (.goto 5, 3) := by decide +kernel
theorem dX11_random_54 : decode cX11_random 54 = .ok (.bipush 9, 2) := by decide +kernel
theorem dX11_random_56 : decode cX11_random 56 = .ok (.invokevirtual 10, 3) := by decide +kernel
theorem dX11_random_59 : decode cX11_random 59 = .ok (.goto 8, 3) := by decide +kernel
theorem dX11_random_62 : decode cX11_random 62 = .ok (.aload_n 0, 1) := by decide +kernel
theorem dX11_random_63 : decode cX11_random 63 = .ok (.iconst 4, 1) := by decide +kernel
theorem dX11_random_64 : decode cX11_random 64 = .ok (.invokevirtual 10, 3) := by decide +kernel
theorem dX11_random_67 : decode cX11_random 67 = .ok (.putfield 20, 3) := by decide +kernel
theorem dX11_random_70 : decode cX11_random 70 = .ok (.aload_n 2, 1) := by decide +kernel
theorem dX11_random_71 : decode cX11_random 71 = .ok (.getfield 16, 3) := by decide +kernel
theorem dX11_random_74 : decode cX11_random 74 = .ok (.iconst 1, 1) := by decide +kernel
theorem dX11_random_75 : decode cX11_random 75 = .ok (.if_icmp .le 25, 3) := by decide +kernel
theorem dX11_random_78 : decode cX11_random 78 = .ok (.aload_n 2, 1) := by decide +kernel
theorem dX11_random_79 : decode cX11_random 79 = .ok (.aload_n 0, 1) := by decide +kernel
theorem dX11_random_80 : decode cX11_random 80 = .ok (.iload_n 1, 1) := by decide +kernel
theorem dX11_random_81 : decode cX11_random 81 = .ok (.iconst 1, 1) := by decide +kernel
theorem dX11_random_82 : decode cX11_random 82 = .ok (.isub, 1) := by decide +kernel
theorem dX11_random_83 : decode cX11_random 83 = .ok (.invokestatic 23, 3) := by decide +kernel
theorem dX11_random_86 : decode cX11_random 86 = .ok (.putfield 27, 3) := by decide +kernel
theorem dX11_random_89 : decode cX11_random 89 = .ok (.aload_n 2, 1) := by decide +kernel
theorem dX11_random_90 : decode cX11_random 90 = .ok (.aload_n 0, 1) := by decide +kernel
theorem dX11_random_91 : decode cX11_random 91 = .ok (.iload_n 1, 1) := by decide +kernel
theorem dX11_random_92 : decode cX11_random 92 = .ok (.iconst 1, 1) := by decide +kernel
theorem dX11_random_93 : decode cX11_random 93 = .ok (.isub, 1) := by decide +kernel
theorem dX11_random_94 : decode cX11_random 94 = .ok (.invokestatic 23, 3) := by decide +kernel
theorem dX11_random_97 : decode cX11_random 97 = .ok (.putfield 31, 3) := by decide +kernel
theorem dX11_random_100 : decode cX11_random 100 = .ok (.aload_n 2, 1) := by decide +kernel
theorem dX11_random_101 : decode cX11_random 101 = .ok (.areturn, 1) := by decide +kernel
theorem dX11_text_0 : decode cX11_text 0 = .ok (.aload_n 0, 1) := by decide +kernel
theorem dX11_text_1 : decode cX11_text 1 = .ok (.getfield 16, 3) := by decide +kernel
theorem dX11_text_4 : decode cX11_text 4 = .ok (.ifCond .ne 26, 3) := by decide +kernel
theorem dX11_text_7 : decode cX11_text 7 = .ok (.new 34, 3) := by decide +kernel
theorem dX11_text_10 : decode cX11_text 10 = .ok (.dup, 1) := by decide +kernel
theorem dX11_text_11 : decode cX11_text 11 = .ok (.invokespecial 36, 3) := by decide +kernel
theorem dX11_text_14 : decode cX11_text 14 = .ok (.ldc 37, 2) := by decide +kernel
theorem dX11_text_16 : decode cX11_text 16 = .ok (.invokevirtual 39, 3) := by decide +kernel
theorem dX11_text_19 : decode cX11_text 19 = .ok (.aload_n 0, 1) := by decide +kernel
theorem dX11_text_20 : decode cX11_text 20 = .ok (.getfield 20, 3) := by decide +kernel
theorem dX11_text_23 : decode cX11_text 23 = .ok (.invokevirtual 43, 3) := by decide +kernel
theorem dX11_text_26 : decode cX11_text 26 = .ok (.invokevirtual 46, 3) := by decide +kernel
theorem dX11_text_29 : decode cX11_text 29 = .ok (.areturn, 1) := by decide +kernel
theorem dX11_text_30 : decode cX11_text 30 = .ok (.aload_n 0, 1) := by decide +kernel
theorem dX11_text_31 : decode cX11_text 31 = .ok (.getfield 16, 3) := by decide +kernel
theorem dX11_text_34 : decode cX11_text 34 = .ok (.iconst 1, 1) := by decide +kernel
theorem dX11_text_35 : decode cX11_text 35 = .ok (.if_icmp .ne 12, 3) := by decide +kernel
theorem dX11_text_38 : decode cX11_text 38 = .ok (.getstatic 50, 3) := by decide +kernel
theorem dX11_text_41 : decode cX11_text 41 = .ok (.aload_n 0, 1) := by decide +kernel
theorem dX11_text_42 : decode cX11_text 42 = .ok (.getfield 20, 3) := by decide +kernel
theorem dX11_text_45 : decode cX11_text 45 = .ok (.aaload, 1) := by decide +kernel
theorem dX11_text_46 : decode cX11_text 46 = .ok (.areturn, 1) := by decide +kernel
theorem dX11_text_47 : decode cX11_text 47 = .ok (.aload_n 0, 1) := by decide +kernel
theorem dX11_text_48 : decode cX11_text 48 = .ok (.getfield 16, 3) := by decide +kernel
theorem dX11_text_51 : decode cX11_text 51 = .ok (.iconst 4, 1) := by decide +kernel
theorem dX11_text_52 : decode cX11_text 52 = .ok (.if_icmp .ge 7, 3) := by decide +kernel
theorem dX11_text_55 : decode cX11_text 55 = .ok (.iconst 1, 1) := by decide +kernel
theorem dX11_text_56 : decode cX11_text 56 = .ok (.goto 4, 3) := by decide +kernel
theorem dX11_text_59 : decode cX11_text 59 = .ok (.iconst 2, 1) := by decide +kernel
theorem dX11_text_60 : decode cX11_text 60 = .ok (.istore_n 2, 1) := by decide +kernel
theorem dX11_text_61 : decode cX11_text 61 = .ok (.new 34, 3) := by decide +kernel
theorem dX11_text_64 : decode cX11_text 64 = .ok (.dup, 1) := by decide +kernel
theorem dX11_text_65 : decode cX11_text 65 = .ok (.invokespecial 36, 3) := by decide +kernel
theorem dX11_text_68 : decode cX11_text 68 = .ok (.aload_n 0, 1) := by decide +kernel
theorem dX11_text_69 : decode cX11_text 69 = .ok (.getfield 27, 3) := by decide +kernel
theorem dX11_text_72 : decode cX11_text 72 = .ok (.iload_n 2, 1) := by decide +kernel
theorem dX11_text_73 : decode cX11_text 73 = .ok (.invokevirtual 56, 3) := by decide +kernel
theorem dX11_text_76 : decode cX11_text 76 = .ok (.invokevirtual 39, 3) := by decide +kernel
theorem dX11_text_79 : decode cX11_text 79 = .ok (.aload_n 0, 1) := by decide +kernel
theorem dX11_text_80 : decode cX11_text 80 = .ok (.getfield 16, 3) := by decide +kernel
theorem dX11_text_83 : decode cX11_text 83 = .ok (.iconst 2, 1) := by decide +kernel
theorem dX11_text_84 : decode cX11_text 84 = .ok (.if_icmp .ne 8, 3) := by decide +kernel
theorem dX11_text_87 : decode cX11_text 87 = .ok (.ldc 60, 2) := by decide +kernel
theorem dX11_text_89 : decode cX11_text 89 = .ok (.goto 31, 3) := by decide +kernel
theorem dX11_text_92 : decode cX11_text 92 = .ok (.aload_n 0, 1) := by decide +kernel
theorem dX11_text_93 : decode cX11_text 93 = .ok (.getfield 16, 3) := by decide +kernel
theorem dX11_text_96 : decode cX11_text 96 = .ok (.iconst 3, 1) := by decide +kernel
theorem dX11_text_97 : decode cX11_text 97 = .ok (.if_icmp .ne 8, 3) := by decide +kernel
theorem dX11_text_100 : decode cX11_text 100 = .ok (.ldc 62, 2) := by decide +kernel
theorem dX11_text_102 : decode cX11_text 102 = .ok (.goto 18, 3) := by decide +kernel
theorem dX11_text_105 : decode cX11_text 105 = .ok (.aload_n 0, 1) := by decide +kernel
theorem dX11_text_106 : decode cX11_text 106 = .ok (.getfield 16, 3) := by decide +kernel
theorem dX11_text_109 : decode cX11_text 109 = .ok (.iconst 4, 1) := by decide +kernel
theorem dX11_text_110 : decode cX11_text 110 = .ok (.if_icmp .ne 8, 3) := by decide +kernel
theorem dX11_text_113 : decode cX11_text 113 = .ok (.ldc 64, 2) := by decide +kernel
theorem dX11_text_115 : decode cX11_text 115 = .ok (.goto 5, 3) := by decide +kernel
theorem dX11_text_118 : decode cX11_text 118 = .ok (.ldc 66, 2) := by decide +kernel
theorem dX11_text_120 : decode cX11_text 120 = .ok (.invokevirtual 39, 3) := by decide +kernel
theorem dX11_text_123 : decode cX11_text 123 = .ok (.aload_n 0, 1) := by decide +kernel
theorem dX11_text_124 : decode cX11_text 124 = .ok (.getfield 31, 3) := by decide +kernel
theorem dX11_text_127 : decode cX11_text 127 = .ok (.iload_n 2, 1) := by decide +kernel
theorem dX11_text_128 : decode cX11_text 128 = .ok (.iconst 1, 1) := by decide +kernel
theorem dX11_text_129 : decode cX11_text 129 = .ok (.iadd, 1) := by decide +kernel
theorem dX11_text_130 : decode cX11_text 130 = .ok (.invokevirtual 56, 3) := by decide +kernel
theorem dX11_text_133 : decode cX11_text 133 = .ok (.invokevirtual 39, 3) := by decide +kernel
theorem dX11_text_136 : decode cX11_text 136 = .ok (.invokevirtual 46, 3) := by decide +kernel
theorem dX11_text_139 : decode cX11_text 139 = .ok (.astore_n 3, 1) := by decide +kernel
theorem dX11_text_140 : decode cX11_text 140 = .ok (.iload_n 2, 1) := by decide +kernel
theorem dX11_text_141 : decode cX11_text 141 = .ok (.iload_n 1, 1) := by decide +kernel
theorem dX11_text_142 : decode cX11_text 142 = .ok (.if_icmp .ge 30, 3) := by decide +kernel
theorem dX11_text_145 : decode cX11_text 145 = .ok (.new 34, 3) := by decide +kernel
theorem dX11_text_148 : decode cX11_text 148 = .ok (.dup, 1) := by decide +kernel
theorem dX11_text_149 : decode cX11_text 149 = .ok (.invokespecial 36, 3) := by decide +kernel
theorem dX11_text_152 : decode cX11_text 152 = .ok (.ldc 68, 2) := by decide +kernel
theorem dX11_text_154 : decode cX11_text 154 = .ok (.invokevirtual 39, 3) := by decide +kernel
theorem dX11_text_157 : decode cX11_text 157 = .ok (.aload_n 3, 1) := by decide +kernel
theorem dX11_text_158 : decode cX11_text 158 = .ok (.invokevirtual 39, 3) := by decide +kernel
theorem dX11_text_161 : decode cX11_text 161 = .ok (.ldc 70, 2) := by decide +kernel
theorem dX11_text_163 : decode cX11_text 163 = .ok (.invokevirtual 39, 3) := by decide +kernel
theorem dX11_text_166 : decode cX11_text 166 = .ok (.invokevirtual 46, 3) := by decide +kernel
theorem dX11_text_169 : decode cX11_text 169 = .ok (.goto 4, 3) := by decide +kernel
theorem dX11_text_172 : decode cX11_text 172 = .ok (.aload_n 3, 1) := by decide +kernel
theorem dX11_text_173 : decode cX11_text 173 = .ok (.areturn, 1) := by decide +kernel
theorem dX11_value_0 : decode cX11_value 0 = .ok (.aload_n 0, 1) := by decide +kernel
theorem dX11_value_1 : decode cX11_value 1 = .ok (.getfield 16, 3) := by decide +kernel
theorem dX11_value_4 : decode cX11_value 4 = .ok (.iconst 2, 1) := by decide +kernel
theorem dX11_value_5 : decode cX11_value 5 = .ok (.if_icmp .ge 25, 3) := by decide +kernel
theorem dX11_value_8 : decode cX11_value 8 = .ok (.aload_n 0, 1) := by decide +kernel
theorem dX11_value_9 : decode cX11_value 9 = .ok (.getfield 16, 3) := by decide +kernel
theorem dX11_value_12 : decode cX11_value 12 = .ok (.ifCond .ne 11, 3) := by decide +kernel
theorem dX11_value_15 : decode cX11_value 15 = .ok (.aload_n 0, 1) := by decide +kernel
theorem dX11_value_16 : decode cX11_value 16 = .ok (.getfield 20, 3) := by decide +kernel
theorem dX11_value_19 : decode cX11_value 19 = .ok (.i2l, 1) := by decide +kernel
theorem dX11_value_20 : decode cX11_value 20 = .ok (.goto 9, 3) := by decide +kernel
theorem dX11_value_23 : decode cX11_value 23 = .ok (.aload_n 1, 1) := by decide +kernel
theorem dX11_value_24 : decode cX11_value 24 = .ok (.aload_n 0, 1) := by decide +kernel
theorem dX11_value_25 : decode cX11_value 25 = .ok (.getfield 20, 3) := by decide +kernel
theorem dX11_value_28 : decode cX11_value 28 = .ok (.laload, 1) := by decide +kernel
theorem dX11_value_29 : decode cX11_value 29 = .ok (.lreturn, 1) := by decide +kernel
theorem dX11_value_30 : decode cX11_value 30 = .ok (.aload_n 0, 1) := by decide +kernel
theorem dX11_value_31 : decode cX11_value 31 = .ok (.getfield 27, 3) := by decide +kernel
theorem dX11_value_34 : decode cX11_value 34 = .ok (.aload_n 1, 1) := by decide +kernel
theorem dX11_value_35 : decode cX11_value 35 = .ok (.invokevirtual 72, 3) := by decide +kernel
theorem dX11_value_38 : decode cX11_value 38 = .ok (.lstore_n 2, 1) := by decide +kernel
theorem dX11_value_39 : decode cX11_value 39 = .ok (.aload_n 0, 1) := by decide +kernel
theorem dX11_value_40 : decode cX11_value 40 = .ok (.getfield 31, 3) := by decide +kernel
theorem dX11_value_43 : decode cX11_value 43 = .ok (.aload_n 1, 1) := by decide +kernel
theorem dX11_value_44 : decode cX11_value 44 = .ok (.invokevirtual 72, 3) := by decide +kernel
theorem dX11_value_47 : decode cX11_value 47 = .ok (.lstore 4, 2) := by decide +kernel
theorem dX11_value_49 : decode cX11_value 49 = .ok (.aload_n 0, 1) := by decide +kernel
theorem dX11_value_50 : decode cX11_value 50 = .ok (.getfield 16, 3) := by decide +kernel
theorem dX11_value_53 : decode cX11_value 53 = .ok (.iconst 2, 1) := by decide +kernel
theorem dX11_value_54 : decode cX11_value 54 = .ok (.if_icmp .ne 10, 3) := by decide +kernel
theorem dX11_value_57 : decode cX11_value 57 = .ok (.lload_n 2, 1) := by decide +kernel
theorem dX11_value_58 : decode cX11_value 58 = .ok (.lload 4, 2) := by decide +kernel
theorem dX11_value_60 : decode cX11_value 60 = .ok (.ladd, 1) := by decide +kernel
theorem dX11_value_61 : decode cX11_value 61 = .ok (.goto 48, 3) := by decide +kernel
theorem dX11_value_64 : decode cX11_value 64 = .ok (.aload_n 0, 1) := by decide +kernel
theorem dX11_value_65 : decode cX11_value 65 = .ok (.getfield 16, 3) := by decide +kernel
theorem dX11_value_68 : decode cX11_value 68 = .ok (.iconst 3, 1) := by decide +kernel
theorem dX11_value_69 : decode cX11_value 69 = .ok (.if_icmp .ne 10, 3) := by decide +kernel
theorem dX11_value_72 : decode cX11_value 72 = .ok (.lload_n 2, 1) := by decide +kernel
theorem dX11_value_73 : decode cX11_value 73 = .ok (.lload 4, 2) := by decide +kernel
theorem dX11_value_75 : decode cX11_value 75 = .ok (.lsub, 1) := by decide +kernel
theorem dX11_value_76 : decode cX11_value 76 = .ok (.goto 33, 3) := by decide +kernel
theorem dX11_value_79 : decode cX11_value 79 = .ok (.aload_n 0, 1) := by decide +kernel
theorem dX11_value_80 : decode cX11_value 80 = .ok (.getfield 16, 3) := by decide +kernel
theorem dX11_value_83 : decode cX11_value 83 = .ok (.iconst 4, 1) := by decide +kernel
theorem dX11_value_84 : decode cX11_value 84 = .ok (.if_icmp .ne 10, 3) := by decide +kernel
theorem dX11_value_87 : decode cX11_value 87 = .ok (.lload_n 2, 1) := by decide +kernel
theorem dX11_value_88 : decode cX11_value 88 = .ok (.lload 4, 2) := by decide +kernel
theorem dX11_value_90 : decode cX11_value 90 = .ok (.lmul, 1) := by decide +kernel
theorem dX11_value_91 : decode cX11_value 91 = .ok (.goto 18, 3) := by decide +kernel
theorem dX11_value_94 : decode cX11_value 94 = .ok (.lload 4, 2) := by decide +kernel
theorem dX11_value_96 : decode cX11_value 96 = .ok (.lconst 0, 1) := by decide +kernel
theorem dX11_value_97 : decode cX11_value 97 = .ok (.lcmp, 1) := by decide +kernel
theorem dX11_value_98 : decode cX11_value 98 = .ok (.ifCond .ne 7, 3) := by decide +kernel
theorem dX11_value_101 : decode cX11_value 101 = .ok (.lconst 0, 1) := by decide +kernel
theorem dX11_value_102 : decode cX11_value 102 = .ok (.goto 7, 3) := by decide +kernel
theorem dX11_value_105 : decode cX11_value 105 = .ok (.lload_n 2, 1) := by decide +kernel
theorem dX11_value_106 : decode cX11_value 106 = .ok (.lload 4, 2) := by decide +kernel
theorem dX11_value_108 : decode cX11_value 108 = .ok (.ldiv, 1) := by decide +kernel
theorem dX11_value_109 : decode cX11_value 109 = .ok (.lstore 6, 2) := by decide +kernel
theorem dX11_value_111 : decode cX11_value 111 = .ok (.ldc2_w 76, 3) := by decide +kernel
theorem dX11_value_114 : decode cX11_value 114 = .ok (.ldc2_w 78, 3) := by decide +kernel
theorem dX11_value_117 : decode cX11_value 117 = .ok (.lload 6, 2) := by decide +kernel
theorem dX11_value_119 : decode cX11_value 119 = .ok (.invokestatic 80, 3) := by decide +kernel
theorem dX11_value_122 : decode cX11_value 122 = .ok (.invokestatic 86, 3) := by decide +kernel
theorem dX11_value_125 : decode cX11_value 125 = .ok (.lreturn, 1) := by decide +kernel
end
section
theorem dX12_init_0 : decode cX12_init 0 = .ok (.aload_n 0, 1) := by decide +kernel
theorem dX12_init_1 : decode cX12_init 1 = .ok (.invokespecial 1, 3) := by decide +kernel
theorem dX12_init_4 : decode cX12_init 4 = .ok (.aload_n 0, 1) := by decide +kernel
theorem dX12_init_5 : decode cX12_init 5 = .ok (.iload_n 1, 1) := by decide +kernel
theorem dX12_init_6 : decode cX12_init 6 = .ok (.putfield 7, 3) := by decide +kernel
theorem dX12_init_9 : decode cX12_init 9 = .ok (.return_, 1) := by decide +kernel
theorem dX12_below_0 : decode cX12_below 0 = .ok (.aload_n 0, 1) := by decide +kernel
theorem dX12_below_1 : decode cX12_below 1 = .ok (.ldc 13, 2) := by decide +kernel
theorem dX12_below_3 : decode cX12_below 3 = .ok (.aload_n 0, 1) := by decide +kernel
theorem dX12_below_4 : decode cX12_below 4 = .ok (.getfield 7, 3) := by decide +kernel
theorem dX12_below_7 : decode cX12_below 7 = .ok (.imul, 1) := by decide +kernel
theorem dX12_below_8 : decode cX12_below 8 = .ok (.sipush 12345, 3) := by decide +kernel
theorem dX12_below_11 : decode cX12_below 11 = .ok (.iadd, 1) := by decide +kernel
theorem dX12_below_12 : decode cX12_below 12 = .ok (.putfield 7, 3) := by decide +kernel
theorem dX12_below_15 : decode cX12_below 15 = .ok (.aload_n 0, 1) := by decide +kernel
theorem dX12_below_16 : decode cX12_below 16 = .ok (.getfield 7, 3) := by decide +kernel
theorem dX12_below_19 : decode cX12_below 19 = .ok (.bipush 16, 2) := by decide +kernel
theorem dX12_below_21 : decode cX12_below 21 = .ok (.iushr, 1) := by decide +kernel
theorem dX12_below_22 : decode cX12_below 22 = .ok (.iload_n 1, 1) := by decide +kernel
theorem dX12_below_23 : decode cX12_below 23 = .ok (.irem, 1) := by decide +kernel
theorem dX12_below_24 : decode cX12_below 24 = .ok (.ireturn, 1) := by decide +kernel
end
section
theorem dX2_init_0 : decode cX2_init 0 = .ok (.aload_n 0, 1) := by decide +kernel
theorem dX2_init_1 : decode cX2_init 1 = .ok (.invokespecial 3, 3) := by decide +kernel
theorem dX2_init_4 : decode cX2_init 4 = .ok (.aload_n 0, 1) := by decide +kernel
theorem dX2_init_5 : decode cX2_init 5 = .ok (.bipush 8, 2) := by decide +kernel
theorem dX2_init_7 : decode cX2_init 7 = .ok (.anewarray 9, 3) := by decide +kernel
theorem dX2_init_10 : decode cX2_init 10 = .ok (.putfield 11, 3) := by decide +kernel
theorem dX2_init_13 : decode cX2_init 13 = .ok (.aload_n 0, 1) := by decide +kernel
theorem dX2_init_14 : decode cX2_init 14 = .ok (.iconst 0, 1) := by decide +kernel
theorem dX2_init_15 : decode cX2_init 15 = .ok (.putfield 17, 3) := by decide +kernel
theorem dX2_init_18 : decode cX2_init 18 = .ok (.aload_n 0, 1) := by decide +kernel
theorem dX2_init_19 : decode cX2_init 19 = .ok (.iconst 0, 1) := by decide +kernel
theorem dX2_init_20 : decode cX2_init 20 = .ok (.putfield 21, 3) := by decide +kernel
theorem dX2_init_23 : decode cX2_init 23 = .ok (.iconst 0, 1) := by decide +kernel
theorem dX2_init_24 : decode cX2_init 24 = .ok (.istore_n 1, 1) := by decide +kernel
theorem dX2_init_25 : decode cX2_init 25 = .ok (.iload_n 1, 1) := by decide +kernel
theorem dX2_init_26 : decode cX2_init 26 = .ok (.bipush 8, 2) := by decide +kernel
theorem dX2_init_28 : decode cX2_init 28 = .ok (.if_icmp .ge 22, 3) := by decide +kernel
theorem dX2_init_31 : decode cX2_init 31 = .ok (.aload_n 0, 1) := by decide +kernel
theorem dX2_init_32 : decode cX2_init 32 = .ok (.getfield 11, 3) := by decide +kernel
theorem dX2_init_35 : decode cX2_init 35 = .ok (.iload_n 1, 1) := by decide +kernel
theorem dX2_init_36 : decode cX2_init 36 = .ok (.new 9, 3) := by decide +kernel
theorem dX2_init_39 : decode cX2_init 39 = .ok (.dup, 1) := by decide +kernel
theorem dX2_init_40 : decode cX2_init 40 = .ok (.invokespecial 24, 3) := by decide +kernel
theorem dX2_init_43 : decode cX2_init 43 = .ok (.aastore, 1) := by decide +kernel
theorem dX2_init_44 : decode cX2_init 44 = .ok (.iinc 1 1, 3) := by decide +kernel
theorem dX2_init_47 : decode cX2_init 47 = .ok (.goto (-22), 3) := by decide +kernel
theorem dX2_init_50 : decode cX2_init 50 = .ok (.return_, 1) := by decide +kernel
theorem dX2_keep_0 : decode cX2_keep 0 = .ok (.aload_n 0, 1) := by decide +kernel
theorem dX2_keep_1 : decode cX2_keep 1 = .ok (.getfield 11, 3) := by decide +kernel
theorem dX2_keep_4 : decode cX2_keep 4 = .ok (.aload_n 0, 1) := by decide +kernel
theorem dX2_keep_5 : decode cX2_keep 5 = .ok (.getfield 17, 3) := by decide +kernel
theorem dX2_keep_8 : decode cX2_keep 8 = .ok (.aaload, 1) := by decide +kernel
theorem dX2_keep_9 : decode cX2_keep 9 = .ok (.aload_n 1, 1) := by decide +kernel
theorem dX2_keep_10 : decode cX2_keep 10 = .ok (.invokevirtual 25, 3) := by decide +kernel
theorem dX2_keep_13 : decode cX2_keep 13 = .ok (.aload_n 0, 1) := by decide +kernel
theorem dX2_keep_14 : decode cX2_keep 14 = .ok (.aload_n 0, 1) := by decide +kernel
theorem dX2_keep_15 : decode cX2_keep 15 = .ok (.getfield 17, 3) := by decide +kernel
theorem dX2_keep_18 : decode cX2_keep 18 = .ok (.iconst 1, 1) := by decide +kernel
theorem dX2_keep_19 : decode cX2_keep 19 = .ok (.iadd, 1) := by decide +kernel
theorem dX2_keep_20 : decode cX2_keep 20 = .ok (.bipush 8, 2) := by decide +kernel
theorem dX2_keep_22 : decode cX2_keep 22 = .ok (.irem, 1) := by decide +kernel
theorem dX2_keep_23 : decode cX2_keep 23 = .ok (.putfield 17, 3) := by decide +kernel
theorem dX2_keep_26 : decode cX2_keep 26 = .ok (.aload_n 0, 1) := by decide +kernel
theorem dX2_keep_27 : decode cX2_keep 27 = .ok (.getfield 21, 3) := by decide +kernel
theorem dX2_keep_30 : decode cX2_keep 30 = .ok (.bipush 8, 2) := by decide +kernel
theorem dX2_keep_32 : decode cX2_keep 32 = .ok (.if_icmp .ge 13, 3) := by decide +kernel
theorem dX2_keep_35 : decode cX2_keep 35 = .ok (.aload_n 0, 1) := by decide +kernel
theorem dX2_keep_36 : decode cX2_keep 36 = .ok (.dup, 1) := by decide +kernel
theorem dX2_keep_37 : decode cX2_keep 37 = .ok (.getfield 21, 3) := by decide +kernel
theorem dX2_keep_40 : decode cX2_keep 40 = .ok (.iconst 1, 1) := by decide +kernel
theorem dX2_keep_41 : decode cX2_keep 41 = .ok (.iadd, 1) := by decide +kernel
theorem dX2_keep_42 : decode cX2_keep 42 = .ok (.putfield 21, 3) := by decide +kernel
theorem dX2_keep_45 : decode cX2_keep 45 = .ok (.return_, 1) := by decide +kernel
theorem dX2_bringBack_0 : decode cX2_bringBack 0 = .ok (.aload_n 0, 1) := by decide +kernel
theorem dX2_bringBack_1 : decode cX2_bringBack 1 = .ok (.getfield 21, 3) := by decide +kernel
theorem dX2_bringBack_4 : decode cX2_bringBack 4 = .ok (.ifCond .ne 5, 3) := by decide +kernel
theorem dX2_bringBack_7 : decode cX2_bringBack 7 = .ok (.iconst 0, 1) := by decide +kernel
theorem dX2_bringBack_8 : decode cX2_bringBack 8 = .ok (.ireturn, 1) := by decide +kernel
theorem dX2_bringBack_9 : decode cX2_bringBack 9 = .ok (.aload_n 0, 1) := by decide +kernel
theorem dX2_bringBack_10 : decode cX2_bringBack 10 = .ok (.dup, 1) := by decide +kernel
theorem dX2_bringBack_11 : decode cX2_bringBack 11 = .ok (.getfield 21, 3) := by decide +kernel
theorem dX2_bringBack_14 : decode cX2_bringBack 14 = .ok (.iconst 1, 1) := by decide +kernel
theorem dX2_bringBack_15 : decode cX2_bringBack 15 = .ok (.isub, 1) := by decide +kernel
theorem dX2_bringBack_16 : decode cX2_bringBack 16 = .ok (.putfield 21, 3) := by decide +kernel
theorem dX2_bringBack_19 : decode cX2_bringBack 19 = .ok (.aload_n 0, 1) := by decide +kernel
theorem dX2_bringBack_20 : decode cX2_bringBack 20 = .ok (.aload_n 0, 1) := by decide +kernel
theorem dX2_bringBack_21 : decode cX2_bringBack 21 = .ok (.getfield 17, 3) := by decide +kernel
theorem dX2_bringBack_24 : decode cX2_bringBack 24 = .ok (.bipush 8, 2) := by decide +kernel
theorem dX2_bringBack_26 : decode cX2_bringBack 26 = .ok (.iadd, 1) := by decide +kernel
theorem dX2_bringBack_27 : decode cX2_bringBack 27 = .ok (.iconst 1, 1) := by decide +kernel
theorem dX2_bringBack_28 : decode cX2_bringBack 28 = .ok (.isub, 1) := by decide +kernel
theorem dX2_bringBack_29 : decode cX2_bringBack 29 = .ok (.bipush 8, 2) := by decide +kernel
theorem dX2_bringBack_31 : decode cX2_bringBack 31 = .ok (.irem, 1) := by decide +kernel
theorem dX2_bringBack_32 : decode cX2_bringBack 32 = .ok (.putfield 17, 3) := by decide +kernel
theorem dX2_bringBack_35 : decode cX2_bringBack 35 = .ok (.aload_n 1, 1) := by decide +kernel
theorem dX2_bringBack_36 : decode cX2_bringBack 36 = .ok (.aload_n 0, 1) := by decide +kernel
theorem dX2_bringBack_37 : decode cX2_bringBack 37 = .ok (.getfield 11, 3) := by decide +kernel
theorem dX2_bringBack_40 : decode cX2_bringBack 40 = .ok (.aload_n 0, 1) := by decide +kernel
theorem dX2_bringBack_41 : decode cX2_bringBack 41 = .ok (.getfield 17, 3) := by decide +kernel
theorem dX2_bringBack_44 : decode cX2_bringBack 44 = .ok (.aaload, 1) := by decide +kernel
theorem dX2_bringBack_45 : decode cX2_bringBack 45 = .ok (.invokevirtual 25, 3) := by decide +kernel
theorem dX2_bringBack_48 : decode cX2_bringBack 48 = .ok (.iconst 1, 1) := by decide +kernel
theorem dX2_bringBack_49 : decode cX2_bringBack 49 = .ok (.ireturn, 1) := by decide +kernel
end
section
theorem dX3_init_0 : decode cX3_init 0 = .ok (.aload_n 0, 1) := by decide +kernel
theorem dX3_init_1 : decode cX3_init 1 = .ok (.invokespecial 3, 3) := by decide +kernel
theorem dX3_init_4 : decode cX3_init 4 = .ok (.aload_n 0, 1) := by decide +kernel
theorem dX3_init_5 : decode cX3_init 5 = .ok (.iconst 0, 1) := by decide +kernel
theorem dX3_init_6 : decode cX3_init 6 = .ok (.putfield 9, 3) := by decide +kernel
theorem dX3_init_9 : decode cX3_init 9 = .ok (.aload_n 0, 1) := by decide +kernel
theorem dX3_init_10 : decode cX3_init 10 = .ok (.iconst 0, 1) := by decide +kernel
theorem dX3_init_11 : decode cX3_init 11 = .ok (.putfield 15, 3) := by decide +kernel
theorem dX3_init_14 : decode cX3_init 14 = .ok (.aload_n 0, 1) := by decide +kernel
theorem dX3_init_15 : decode cX3_init 15 = .ok (.iconst (-1), 1) := by decide +kernel
theorem dX3_init_16 : decode cX3_init 16 = .ok (.putfield 19, 3) := by decide +kernel
theorem dX3_init_19 : decode cX3_init 19 = .ok (.aload_n 0, 1) := by decide +kernel
theorem dX3_init_20 : decode cX3_init 20 = .ok (.bipush 12, 2) := by decide +kernel
theorem dX3_init_22 : decode cX3_init 22 = .ok (.newarray .int, 2) := by decide +kernel
theorem dX3_init_24 : decode cX3_init 24 = .ok (.putfield 22, 3) := by decide +kernel
theorem dX3_init_27 : decode cX3_init 27 = .ok (.aload_n 0, 1) := by decide +kernel
theorem dX3_init_28 : decode cX3_init 28 = .ok (.bipush 8, 2) := by decide +kernel
theorem dX3_init_30 : decode cX3_init 30 = .ok (.newarray .int, 2) := by decide +kernel
theorem dX3_init_32 : decode cX3_init 32 = .ok (.putfield 26, 3) := by decide +kernel
theorem dX3_init_35 : decode cX3_init 35 = .ok (.aload_n 0, 1) := by decide +kernel
theorem dX3_init_36 : decode cX3_init 36 = .ok (.iconst 0, 1) := by decide +kernel
theorem dX3_init_37 : decode cX3_init 37 = .ok (.putfield 29, 3) := by decide +kernel
theorem dX3_init_40 : decode cX3_init 40 = .ok (.return_, 1) := by decide +kernel
theorem dX3_startAs_0 : decode cX3_startAs 0 = .ok (.aload_n 0, 1) := by decide +kernel
theorem dX3_startAs_1 : decode cX3_startAs 1 = .ok (.iload_n 1, 1) := by decide +kernel
theorem dX3_startAs_2 : decode cX3_startAs 2 = .ok (.putfield 9, 3) := by decide +kernel
theorem dX3_startAs_5 : decode cX3_startAs 5 = .ok (.aload_n 0, 1) := by decide +kernel
theorem dX3_startAs_6 : decode cX3_startAs 6 = .ok (.iconst 0, 1) := by decide +kernel
theorem dX3_startAs_7 : decode cX3_startAs 7 = .ok (.putfield 15, 3) := by decide +kernel
theorem dX3_startAs_10 : decode cX3_startAs 10 = .ok (.aload_n 0, 1) := by decide +kernel
theorem dX3_startAs_11 : decode cX3_startAs 11 = .ok (.iload_n 2, 1) := by decide +kernel
theorem dX3_startAs_12 : decode cX3_startAs 12 = .ok (.putfield 19, 3) := by decide +kernel
theorem dX3_startAs_15 : decode cX3_startAs 15 = .ok (.aload_n 0, 1) := by decide +kernel
theorem dX3_startAs_16 : decode cX3_startAs 16 = .ok (.getfield 22, 3) := by decide +kernel
theorem dX3_startAs_19 : decode cX3_startAs 19 = .ok (.iconst (-1), 1) := by decide +kernel
theorem dX3_startAs_20 : decode cX3_startAs 20 = .ok (.invokestatic 32, 3) := by decide +kernel
theorem dX3_startAs_23 : decode cX3_startAs 23 = .ok (.aload_n 0, 1) := by decide +kernel
theorem dX3_startAs_24 : decode cX3_startAs 24 = .ok (.iconst 0, 1) := by decide +kernel
theorem dX3_startAs_25 : decode cX3_startAs 25 = .ok (.putfield 29, 3) := by decide +kernel
theorem dX3_startAs_28 : decode cX3_startAs 28 = .ok (.return_, 1) := by decide +kernel
theorem dX3_copyFrom_0 : decode cX3_copyFrom 0 = .ok (.aload_n 0, 1) := by decide +kernel
theorem dX3_copyFrom_1 : decode cX3_copyFrom 1 = .ok (.aload_n 1, 1) := by decide +kernel
theorem dX3_copyFrom_2 : decode cX3_copyFrom 2 = .ok (.getfield 9, 3) := by decide +kernel
theorem dX3_copyFrom_5 : decode cX3_copyFrom 5 = .ok (.putfield 9, 3) := by decide +kernel
theorem dX3_copyFrom_8 : decode cX3_copyFrom 8 = .ok (.aload_n 0, 1) := by decide +kernel
theorem dX3_copyFrom_9 : decode cX3_copyFrom 9 = .ok (.aload_n 1, 1) := by decide +kernel
theorem dX3_copyFrom_10 : decode cX3_copyFrom 10 = .ok (.getfield 15, 3) := by decide +kernel
theorem dX3_copyFrom_13 : decode cX3_copyFrom 13 = .ok (.putfield 15, 3) := by decide +kernel
theorem dX3_copyFrom_16 : decode cX3_copyFrom 16 = .ok (.aload_n 0, 1) := by decide +kernel
theorem dX3_copyFrom_17 : decode cX3_copyFrom 17 = .ok (.aload_n 1, 1) := by decide +kernel
theorem dX3_copyFrom_18 : decode cX3_copyFrom 18 = .ok (.getfield 19, 3) := by decide +kernel
theorem dX3_copyFrom_21 : decode cX3_copyFrom 21 = .ok (.putfield 19, 3) := by decide +kernel
theorem dX3_copyFrom_24 : decode cX3_copyFrom 24 = .ok (.aload_n 1, 1) := by decide +kernel
theorem dX3_copyFrom_25 : decode cX3_copyFrom 25 = .ok (.getfield 22, 3) := by decide +kernel
theorem dX3_copyFrom_28 : decode cX3_copyFrom 28 = .ok (.iconst 0, 1) := by decide +kernel
theorem dX3_copyFrom_29 : decode cX3_copyFrom 29 = .ok (.aload_n 0, 1) := by decide +kernel
theorem dX3_copyFrom_30 : decode cX3_copyFrom 30 = .ok (.getfield 22, 3) := by decide +kernel
theorem dX3_copyFrom_33 : decode cX3_copyFrom 33 = .ok (.iconst 0, 1) := by decide +kernel
theorem dX3_copyFrom_34 : decode cX3_copyFrom 34 = .ok (.bipush 12, 2) := by decide +kernel
theorem dX3_copyFrom_36 : decode cX3_copyFrom 36 = .ok (.invokestatic 38, 3) := by decide +kernel
theorem dX3_copyFrom_39 : decode cX3_copyFrom 39 = .ok (.aload_n 1, 1) := by decide +kernel
theorem dX3_copyFrom_40 : decode cX3_copyFrom 40 = .ok (.getfield 26, 3) := by decide +kernel
theorem dX3_copyFrom_43 : decode cX3_copyFrom 43 = .ok (.iconst 0, 1) := by decide +kernel
theorem dX3_copyFrom_44 : decode cX3_copyFrom 44 = .ok (.aload_n 0, 1) := by decide +kernel
theorem dX3_copyFrom_45 : decode cX3_copyFrom 45 = .ok (.getfield 26, 3) := by decide +kernel
theorem dX3_copyFrom_48 : decode cX3_copyFrom 48 = .ok (.iconst 0, 1) := by decide +kernel
theorem dX3_copyFrom_49 : decode cX3_copyFrom 49 = .ok (.bipush 8, 2) := by decide +kernel
theorem dX3_copyFrom_51 : decode cX3_copyFrom 51 = .ok (.invokestatic 38, 3) := by decide +kernel
theorem dX3_copyFrom_54 : decode cX3_copyFrom 54 = .ok (.aload_n 0, 1) := by decide +kernel
theorem dX3_copyFrom_55 : decode cX3_copyFrom 55 = .ok (.aload_n 1, 1) := by decide +kernel
theorem dX3_copyFrom_56 : decode cX3_copyFrom 56 = .ok (.getfield 29, 3) := by decide +kernel
theorem dX3_copyFrom_59 : decode cX3_copyFrom 59 = .ok (.putfield 29, 3) := by decide +kernel
theorem dX3_copyFrom_62 : decode cX3_copyFrom 62 = .ok (.return_, 1) := by decide +kernel
theorem dX3_isLoaded_0 : decode cX3_isLoaded 0 = .ok (.aload_n 0, 1) := by decide +kernel
theorem dX3_isLoaded_1 : decode cX3_isLoaded 1 = .ok (.getfield 19, 3) := by decide +kernel
theorem dX3_isLoaded_4 : decode cX3_isLoaded 4 = .ok (.iconst (-1), 1) := by decide +kernel
theorem dX3_isLoaded_5 : decode cX3_isLoaded 5 = .ok (.if_icmp .eq 7, 3) := by decide +kernel
theorem dX3_isLoaded_8 : decode cX3_isLoaded 8 = .ok (.iconst 1, 1) := by decide +kernel
theorem dX3_isLoaded_9 : decode cX3_isLoaded 9 = .ok (.goto 4, 3) := by decide +kernel
theorem dX3_isLoaded_12 : decode cX3_isLoaded 12 = .ok (.iconst 0, 1) := by decide +kernel
theorem dX3_isLoaded_13 : decode cX3_isLoaded 13 = .ok (.ireturn, 1) := by decide +kernel
theorem dX3_hasOffer_0 : decode cX3_hasOffer 0 = .ok (.aload_n 0, 1) := by decide +kernel
theorem dX3_hasOffer_1 : decode cX3_hasOffer 1 = .ok (.getfield 22, 3) := by decide +kernel
theorem dX3_hasOffer_4 : decode cX3_hasOffer 4 = .ok (.iload_n 1, 1) := by decide +kernel
theorem dX3_hasOffer_5 : decode cX3_hasOffer 5 = .ok (.iaload, 1) := by decide +kernel
theorem dX3_hasOffer_6 : decode cX3_hasOffer 6 = .ok (.iconst (-1), 1) := by decide +kernel
theorem dX3_hasOffer_7 : decode cX3_hasOffer 7 = .ok (.if_icmp .eq 7, 3) := by decide +kernel
theorem dX3_hasOffer_10 : decode cX3_hasOffer 10 = .ok (.iconst 1, 1) := by decide +kernel
theorem dX3_hasOffer_11 : decode cX3_hasOffer 11 = .ok (.goto 4, 3) := by decide +kernel
theorem dX3_hasOffer_14 : decode cX3_hasOffer 14 = .ok (.iconst 0, 1) := by decide +kernel
theorem dX3_hasOffer_15 : decode cX3_hasOffer 15 = .ok (.ireturn, 1) := by decide +kernel
theorem dX3_countOffers_0 : decode cX3_countOffers 0 = .ok (.iconst 0, 1) := by decide +kernel
theorem dX3_countOffers_1 : decode cX3_countOffers 1 = .ok (.istore_n 1, 1) := by decide +kernel
theorem dX3_countOffers_2 : decode cX3_countOffers 2 = .ok (.iconst 0, 1) := by decide +kernel
theorem dX3_countOffers_3 : decode cX3_countOffers 3 = .ok (.istore_n 2, 1) := by decide +kernel
theorem dX3_countOffers_4 : decode cX3_countOffers 4 = .ok (.iload_n 2, 1) := by decide +kernel
theorem dX3_countOffers_5 : decode cX3_countOffers 5 = .ok (.bipush 12, 2) := by decide +kernel
theorem dX3_countOffers_7 : decode cX3_countOffers 7 = .ok (.if_icmp .ge 20, 3) := by decide +kernel
theorem dX3_countOffers_10 : decode cX3_countOffers 10 = .ok (.aload_n 0, 1) := by decide +kernel
theorem dX3_countOffers_11 : decode cX3_countOffers 11 = .ok (.iload_n 2, 1) := by decide +kernel
theorem dX3_countOffers_12 : decode cX3_countOffers 12 = .ok (.invokevirtual 44, 3) := by decide +kernel
theorem dX3_countOffers_15 : decode cX3_countOffers 15 = .ok (.ifCond .eq 6, 3) := by decide +kernel
theorem dX3_countOffers_18 : decode cX3_countOffers 18 = .ok (.iinc 1 1, 3) := by decide +kernel
theorem dX3_countOffers_21 : decode cX3_countOffers 21 = .ok (.iinc 2 1, 3) := by decide +kernel
theorem dX3_countOffers_24 : decode cX3_countOffers 24 = .ok (.goto (-20), 3) := by decide +kernel
theorem dX3_countOffers_27 : decode cX3_countOffers 27 = .ok (.iload_n 1, 1) := by decide +kernel
theorem dX3_countOffers_28 : decode cX3_countOffers 28 = .ok (.ireturn, 1) := by decide +kernel
theorem dX3_prefers_0 : decode cX3_prefers 0 = .ok (.iconst 0, 1) := by decide +kernel
theorem dX3_prefers_1 : decode cX3_prefers 1 = .ok (.istore_n 2, 1) := by decide +kernel
theorem dX3_prefers_2 : decode cX3_prefers 2 = .ok (.iload_n 2, 1) := by decide +kernel
theorem dX3_prefers_3 : decode cX3_prefers 3 = .ok (.aload_n 0, 1) := by decide +kernel
theorem dX3_prefers_4 : decode cX3_prefers 4 = .ok (.getfield 29, 3) := by decide +kernel
theorem dX3_prefers_7 : decode cX3_prefers 7 = .ok (.if_icmp .ge 21, 3) := by decide +kernel
theorem dX3_prefers_10 : decode cX3_prefers 10 = .ok (.aload_n 0, 1) := by decide +kernel
theorem dX3_prefers_11 : decode cX3_prefers 11 = .ok (.getfield 26, 3) := by decide +kernel
theorem dX3_prefers_14 : decode cX3_prefers 14 = .ok (.iload_n 2, 1) := by decide +kernel
theorem dX3_prefers_15 : decode cX3_prefers 15 = .ok (.iaload, 1) := by decide +kernel
theorem dX3_prefers_16 : decode cX3_prefers 16 = .ok (.iload_n 1, 1) := by decide +kernel
theorem dX3_prefers_17 : decode cX3_prefers 17 = .ok (.if_icmp .ne 5, 3) := by decide +kernel
theorem dX3_prefers_20 : decode cX3_prefers 20 = .ok (.iconst 1, 1) := by decide +kernel
theorem dX3_prefers_21 : decode cX3_prefers 21 = .ok (.ireturn, 1) := by decide +kernel
theorem dX3_prefers_22 : decode cX3_prefers 22 = .ok (.iinc 2 1, 3) := by decide +kernel
theorem dX3_prefers_25 : decode cX3_prefers 25 = .ok (.goto (-23), 3) := by decide +kernel
theorem dX3_prefers_28 : decode cX3_prefers 28 = .ok (.iconst 0, 1) := by decide +kernel
theorem dX3_prefers_29 : decode cX3_prefers 29 = .ok (.ireturn, 1) := by decide +kernel
theorem dX3_addPreference_0 : decode cX3_addPreference 0 = .ok (.aload_n 0, 1) := by decide +kernel
theorem dX3_addPreference_1 : decode cX3_addPreference 1 = .ok (.getfield 29, 3) := by decide +kernel
theorem dX3_addPreference_4 : decode cX3_addPreference 4 = .ok (.bipush 8, 2) := by decide +kernel
theorem dX3_addPreference_6 : decode cX3_addPreference 6 = .ok (.if_icmp .ge 23, 3) := by decide +kernel
theorem dX3_addPreference_9 : decode cX3_addPreference 9 = .ok (.aload_n 0, 1) := by decide +kernel
theorem dX3_addPreference_10 : decode cX3_addPreference 10 = .ok (.getfield 26, 3) := by decide +kernel
theorem dX3_addPreference_13 : decode cX3_addPreference 13 = .ok (.aload_n 0, 1) := by decide +kernel
theorem dX3_addPreference_14 : decode cX3_addPreference 14 = .ok (.getfield 29, 3) := by decide +kernel
theorem dX3_addPreference_17 : decode cX3_addPreference 17 = .ok (.iload_n 1, 1) := by decide +kernel
theorem dX3_addPreference_18 : decode cX3_addPreference 18 = .ok (.iastore, 1) := by decide +kernel
theorem dX3_addPreference_19 : decode cX3_addPreference 19 = .ok (.aload_n 0, 1) := by decide +kernel
theorem dX3_addPreference_20 : decode cX3_addPreference 20 = .ok (.dup, 1) := by decide +kernel
theorem dX3_addPreference_21 : decode cX3_addPreference 21 = .ok (.getfield 29, 3) := by decide +kernel
theorem dX3_addPreference_24 : decode cX3_addPreference 24 = .ok (.iconst 1, 1) := by decide +kernel
theorem dX3_addPreference_25 : decode cX3_addPreference 25 = .ok (.iadd, 1) := by decide +kernel
theorem dX3_addPreference_26 : decode cX3_addPreference 26 = .ok (.putfield 29, 3) := by decide +kernel
theorem dX3_addPreference_29 : decode cX3_addPreference 29 = .ok (.return_, 1) := by decide +kernel
end
section
theorem dX4_init_0 : decode cX4_init 0 = .ok (.aload_n 0, 1) := by decide +kernel
theorem dX4_init_1 : decode cX4_init 1 = .ok (.invokespecial 3, 3) := by decide +kernel
theorem dX4_init_4 : decode cX4_init 4 = .ok (.aload_n 0, 1) := by decide +kernel
theorem dX4_init_5 : decode cX4_init 5 = .ok (.bipush 96, 2) := by decide +kernel
theorem dX4_init_7 : decode cX4_init 7 = .ok (.newarray .int, 2) := by decide +kernel
theorem dX4_init_9 : decode cX4_init 9 = .ok (.putfield 9, 3) := by decide +kernel
theorem dX4_init_12 : decode cX4_init 12 = .ok (.aload_n 0, 1) := by decide +kernel
theorem dX4_init_13 : decode cX4_init 13 = .ok (.iconst (-1), 1) := by decide +kernel
theorem dX4_init_14 : decode cX4_init 14 = .ok (.putfield 15, 3) := by decide +kernel
theorem dX4_init_17 : decode cX4_init 17 = .ok (.aload_n 0, 1) := by decide +kernel
theorem dX4_init_18 : decode cX4_init 18 = .ok (.iconst 0, 1) := by decide +kernel
theorem dX4_init_19 : decode cX4_init 19 = .ok (.putfield 19, 3) := by decide +kernel
theorem dX4_init_22 : decode cX4_init 22 = .ok (.return_, 1) := by decide +kernel
theorem dX4_follow_0 : decode cX4_follow 0 = .ok (.aload_n 0, 1) := by decide +kernel
theorem dX4_follow_1 : decode cX4_follow 1 = .ok (.getfield 9, 3) := by decide +kernel
theorem dX4_follow_4 : decode cX4_follow 4 = .ok (.iconst 0, 1) := by decide +kernel
theorem dX4_follow_5 : decode cX4_follow 5 = .ok (.invokestatic 22, 3) := by decide +kernel
theorem dX4_follow_8 : decode cX4_follow 8 = .ok (.aload_n 0, 1) := by decide +kernel
theorem dX4_follow_9 : decode cX4_follow 9 = .ok (.bipush (-2), 2) := by decide +kernel
theorem dX4_follow_11 : decode cX4_follow 11 = .ok (.putfield 15, 3) := by decide +kernel
theorem dX4_follow_14 : decode cX4_follow 14 = .ok (.aload_n 0, 1) := by decide +kernel
theorem dX4_follow_15 : decode cX4_follow 15 = .ok (.iconst 0, 1) := by decide +kernel
theorem dX4_follow_16 : decode cX4_follow 16 = .ok (.putfield 19, 3) := by decide +kernel
theorem dX4_follow_19 : decode cX4_follow 19 = .ok (.iload_n 3, 1) := by decide +kernel
theorem dX4_follow_20 : decode cX4_follow 20 = .ok (.istore 5, 2) := by decide +kernel
theorem dX4_follow_22 : decode cX4_follow 22 = .ok (.iload 4, 2) := by decide +kernel
theorem dX4_follow_24 : decode cX4_follow 24 = .ok (.istore 6, 2) := by decide +kernel
theorem dX4_follow_26 : decode cX4_follow 26 = .ok (.iconst 0, 1) := by decide +kernel
theorem dX4_follow_27 : decode cX4_follow 27 = .ok (.istore 7, 2) := by decide +kernel
theorem dX4_follow_29 : decode cX4_follow 29 = .ok (.iload 7, 2) := by decide +kernel
theorem dX4_follow_31 : decode cX4_follow 31 = .ok (.bipush 96, 2) := by decide +kernel
theorem dX4_follow_33 : decode cX4_follow 33 = .ok (.if_icmp .ge 108, 3) := by decide +kernel
theorem dX4_follow_36 : decode cX4_follow 36 = .ok (.iload 5, 2) := by decide +kernel
theorem dX4_follow_38 : decode cX4_follow 38 = .ok (.iload 6, 2) := by decide +kernel
theorem dX4_follow_40 : decode cX4_follow 40 = .ok (.invokestatic 28, 3) := by decide +kernel
theorem dX4_follow_43 : decode cX4_follow 43 = .ok (.istore 8, 2) := by decide +kernel
theorem dX4_follow_45 : decode cX4_follow 45 = .ok (.aload_n 0, 1) := by decide +kernel
theorem dX4_follow_46 : decode cX4_follow 46 = .ok (.getfield 9, 3) := by decide +kernel
theorem dX4_follow_49 : decode cX4_follow 49 = .ok (.iload 8, 2) := by decide +kernel
theorem dX4_follow_51 : decode cX4_follow 51 = .ok (.iaload, 1) := by decide +kernel
theorem dX4_follow_52 : decode cX4_follow 52 = .ok (.ifCond .eq 4, 3) := by decide +kernel
theorem dX4_follow_55 : decode cX4_follow 55 = .ok (.return_, 1) := by decide +kernel
theorem dX4_follow_56 : decode cX4_follow 56 = .ok (.aload_n 0, 1) := by decide +kernel
theorem dX4_follow_57 : decode cX4_follow 57 = .ok (.getfield 9, 3) := by decide +kernel
theorem dX4_follow_60 : decode cX4_follow 60 = .ok (.iload 8, 2) := by decide +kernel
theorem dX4_follow_62 : decode cX4_follow 62 = .ok (.iconst 1, 1) := by decide +kernel
theorem dX4_follow_63 : decode cX4_follow 63 = .ok (.iastore, 1) := by decide +kernel
theorem dX4_follow_64 : decode cX4_follow 64 = .ok (.aload_n 2, 1) := by decide +kernel
theorem dX4_follow_65 : decode cX4_follow 65 = .ok (.getfield 32, 3) := by decide +kernel
theorem dX4_follow_68 : decode cX4_follow 68 = .ok (.iload 8, 2) := by decide +kernel
theorem dX4_follow_70 : decode cX4_follow 70 = .ok (.iaload, 1) := by decide +kernel
theorem dX4_follow_71 : decode cX4_follow 71 = .ok (.istore 9, 2) := by decide +kernel
theorem dX4_follow_73 : decode cX4_follow 73 = .ok (.iload 9, 2) := by decide +kernel
theorem dX4_follow_75 : decode cX4_follow 75 = .ok (.iconst (-1), 1) := by decide +kernel
theorem dX4_follow_76 : decode cX4_follow 76 = .ok (.if_icmp .ne 9, 3) := by decide +kernel
theorem dX4_follow_79 : decode cX4_follow 79 = .ok (.aload_n 0, 1) := by decide +kernel
theorem dX4_follow_80 : decode cX4_follow 80 = .ok (.iconst (-1), 1) := by decide +kernel
theorem dX4_follow_81 : decode cX4_follow 81 = .ok (.putfield 15, 3) := by decide +kernel
theorem dX4_follow_84 : decode cX4_follow 84 = .ok (.return_, 1) := by decide +kernel
theorem dX4_follow_85 : decode cX4_follow 85 = .ok (.aload_n 0, 1) := by decide +kernel
theorem dX4_follow_86 : decode cX4_follow 86 = .ok (.dup, 1) := by decide +kernel
theorem dX4_follow_87 : decode cX4_follow 87 = .ok (.getfield 19, 3) := by decide +kernel
theorem dX4_follow_90 : decode cX4_follow 90 = .ok (.iconst 1, 1) := by decide +kernel
theorem dX4_follow_91 : decode cX4_follow 91 = .ok (.iadd, 1) := by decide +kernel
theorem dX4_follow_92 : decode cX4_follow 92 = .ok (.putfield 19, 3) := by decide +kernel
theorem dX4_follow_95 : decode cX4_follow 95 = .ok (.aload_n 1, 1) := by decide +kernel
theorem dX4_follow_96 : decode cX4_follow 96 = .ok (.getfield 37, 3) := by decide +kernel
theorem dX4_follow_99 : decode cX4_follow 99 = .ok (.iload 9, 2) := by decide +kernel
theorem dX4_follow_101 : decode cX4_follow 101 = .ok (.aaload, 1) := by decide +kernel
theorem dX4_follow_102 : decode cX4_follow 102 = .ok (.getfield 43, 3) := by decide +kernel
theorem dX4_follow_105 : decode cX4_follow 105 = .ok (.iload 6, 2) := by decide +kernel
theorem dX4_follow_107 : decode cX4_follow 107 = .ok (.iaload, 1) := by decide +kernel
theorem dX4_follow_108 : decode cX4_follow 108 = .ok (.istore 10, 2) := by decide +kernel
theorem dX4_follow_110 : decode cX4_follow 110 = .ok (.iload 10, 2) := by decide +kernel
theorem dX4_follow_112 : decode cX4_follow 112 = .ok (.bipush (-2), 2) := by decide +kernel
theorem dX4_follow_114 : decode cX4_follow 114 = .ok (.if_icmp .le 10, 3) := by decide +kernel
theorem dX4_follow_117 : decode cX4_follow 117 = .ok (.aload_n 0, 1) := by decide +kernel
theorem dX4_follow_118 : decode cX4_follow 118 = .ok (.iload 10, 2) := by decide +kernel
theorem dX4_follow_120 : decode cX4_follow 120 = .ok (.putfield 15, 3) := by decide +kernel
theorem dX4_follow_123 : decode cX4_follow 123 = .ok (.return_, 1) := by decide +kernel
theorem dX4_follow_124 : decode cX4_follow 124 = .ok (.iload 9, 2) := by decide +kernel
theorem dX4_follow_126 : decode cX4_follow 126 = .ok (.istore 5, 2) := by decide +kernel
theorem dX4_follow_128 : decode cX4_follow 128 = .ok (.bipush (-2), 2) := by decide +kernel
theorem dX4_follow_130 : decode cX4_follow 130 = .ok (.iload 10, 2) := by decide +kernel
theorem dX4_follow_132 : decode cX4_follow 132 = .ok (.isub, 1) := by decide +kernel
theorem dX4_follow_133 : decode cX4_follow 133 = .ok (.istore 6, 2) := by decide +kernel
theorem dX4_follow_135 : decode cX4_follow 135 = .ok (.iinc 7 1, 3) := by decide +kernel
theorem dX4_follow_138 : decode cX4_follow 138 = .ok (.goto (-109), 3) := by decide +kernel
theorem dX4_follow_141 : decode cX4_follow 141 = .ok (.return_, 1) := by decide +kernel
end
section
theorem dX5_init_0 : decode cX5_init 0 = .ok (.aload_n 0, 1) := by decide +kernel
theorem dX5_init_1 : decode cX5_init 1 = .ok (.invokespecial 3, 3) := by decide +kernel
theorem dX5_init_4 : decode cX5_init 4 = .ok (.aload_n 0, 1) := by decide +kernel
theorem dX5_init_5 : decode cX5_init 5 = .ok (.new 9, 3) := by decide +kernel
theorem dX5_init_8 : decode cX5_init 8 = .ok (.dup, 1) := by decide +kernel
theorem dX5_init_9 : decode cX5_init 9 = .ok (.invokespecial 11, 3) := by decide +kernel
theorem dX5_init_12 : decode cX5_init 12 = .ok (.putfield 12, 3) := by decide +kernel
theorem dX5_init_15 : decode cX5_init 15 = .ok (.aload_n 0, 1) := by decide +kernel
theorem dX5_init_16 : decode cX5_init 16 = .ok (.new 18, 3) := by decide +kernel
theorem dX5_init_19 : decode cX5_init 19 = .ok (.dup, 1) := by decide +kernel
theorem dX5_init_20 : decode cX5_init 20 = .ok (.invokespecial 20, 3) := by decide +kernel
theorem dX5_init_23 : decode cX5_init 23 = .ok (.putfield 21, 3) := by decide +kernel
theorem dX5_init_26 : decode cX5_init 26 = .ok (.aload_n 0, 1) := by decide +kernel
theorem dX5_init_27 : decode cX5_init 27 = .ok (.bipush 8, 2) := by decide +kernel
theorem dX5_init_29 : decode cX5_init 29 = .ok (.newarray .long, 2) := by decide +kernel
theorem dX5_init_31 : decode cX5_init 31 = .ok (.putfield 25, 3) := by decide +kernel
theorem dX5_init_34 : decode cX5_init 34 = .ok (.aload_n 0, 1) := by decide +kernel
theorem dX5_init_35 : decode cX5_init 35 = .ok (.bipush 12, 2) := by decide +kernel
theorem dX5_init_37 : decode cX5_init 37 = .ok (.newarray .long, 2) := by decide +kernel
theorem dX5_init_39 : decode cX5_init 39 = .ok (.putfield 29, 3) := by decide +kernel
theorem dX5_init_42 : decode cX5_init 42 = .ok (.aload_n 0, 1) := by decide +kernel
theorem dX5_init_43 : decode cX5_init 43 = .ok (.sipush 800, 3) := by decide +kernel
theorem dX5_init_46 : decode cX5_init 46 = .ok (.newarray .int, 2) := by decide +kernel
theorem dX5_init_48 : decode cX5_init 48 = .ok (.putfield 32, 3) := by decide +kernel
theorem dX5_init_51 : decode cX5_init 51 = .ok (.aload_n 0, 1) := by decide +kernel
theorem dX5_init_52 : decode cX5_init 52 = .ok (.iconst 0, 1) := by decide +kernel
theorem dX5_init_53 : decode cX5_init 53 = .ok (.putfield 36, 3) := by decide +kernel
theorem dX5_init_56 : decode cX5_init 56 = .ok (.aload_n 0, 1) := by decide +kernel
theorem dX5_init_57 : decode cX5_init 57 = .ok (.iconst 0, 1) := by decide +kernel
theorem dX5_init_58 : decode cX5_init 58 = .ok (.putfield 40, 3) := by decide +kernel
theorem dX5_init_61 : decode cX5_init 61 = .ok (.aload_n 0, 1) := by decide +kernel
theorem dX5_init_62 : decode cX5_init 62 = .ok (.iconst 0, 1) := by decide +kernel
theorem dX5_init_63 : decode cX5_init 63 = .ok (.putfield 44, 3) := by decide +kernel
theorem dX5_init_66 : decode cX5_init 66 = .ok (.aload_n 0, 1) := by decide +kernel
theorem dX5_init_67 : decode cX5_init 67 = .ok (.iconst 0, 1) := by decide +kernel
theorem dX5_init_68 : decode cX5_init 68 = .ok (.putfield 47, 3) := by decide +kernel
theorem dX5_init_71 : decode cX5_init 71 = .ok (.aload_n 0, 1) := by decide +kernel
theorem dX5_init_72 : decode cX5_init 72 = .ok (.iconst 0, 1) := by decide +kernel
theorem dX5_init_73 : decode cX5_init 73 = .ok (.putfield 50, 3) := by decide +kernel
theorem dX5_init_76 : decode cX5_init 76 = .ok (.aload_n 0, 1) := by decide +kernel
theorem dX5_init_77 : decode cX5_init 77 = .ok (.iconst (-1), 1) := by decide +kernel
theorem dX5_init_78 : decode cX5_init 78 = .ok (.putfield 53, 3) := by decide +kernel
theorem dX5_init_81 : decode cX5_init 81 = .ok (.return_, 1) := by decide +kernel
theorem dX5_readText_0 : decode cX5_readText 0 = .ok (.aload_n 0, 1) := by decide +kernel
theorem dX5_readText_1 : decode cX5_readText 1 = .ok (.getfield 21, 3) := by decide +kernel
theorem dX5_readText_4 : decode cX5_readText 4 = .ok (.invokevirtual 56, 3) := by decide +kernel
theorem dX5_readText_7 : decode cX5_readText 7 = .ok (.aload_n 0, 1) := by decide +kernel
theorem dX5_readText_8 : decode cX5_readText 8 = .ok (.iconst 0, 1) := by decide +kernel
theorem dX5_readText_9 : decode cX5_readText 9 = .ok (.putfield 36, 3) := by decide +kernel
theorem dX5_readText_12 : decode cX5_readText 12 = .ok (.aload_n 0, 1) := by decide +kernel
theorem dX5_readText_13 : decode cX5_readText 13 = .ok (.iconst (-1), 1) := by decide +kernel
theorem dX5_readText_14 : decode cX5_readText 14 = .ok (.invokevirtual 61, 3) := by decide +kernel
theorem dX5_readText_17 : decode cX5_readText 17 = .ok (.aload_n 0, 1) := by decide +kernel
theorem dX5_readText_18 : decode cX5_readText 18 = .ok (.iconst 0, 1) := by decide +kernel
theorem dX5_readText_19 : decode cX5_readText 19 = .ok (.putfield 40, 3) := by decide +kernel
theorem dX5_readText_22 : decode cX5_readText 22 = .ok (.aload_n 0, 1) := by decide +kernel
theorem dX5_readText_23 : decode cX5_readText 23 = .ok (.iconst 0, 1) := by decide +kernel
theorem dX5_readText_24 : decode cX5_readText 24 = .ok (.putfield 44, 3) := by decide +kernel
theorem dX5_readText_27 : decode cX5_readText 27 = .ok (.aload_n 0, 1) := by decide +kernel
theorem dX5_readText_28 : decode cX5_readText 28 = .ok (.getfield 12, 3) := by decide +kernel
theorem dX5_readText_31 : decode cX5_readText 31 = .ok (.aload_n 1, 1) := by decide +kernel
theorem dX5_readText_32 : decode cX5_readText 32 = .ok (.iload_n 2, 1) := by decide +kernel
theorem dX5_readText_33 : decode cX5_readText 33 = .ok (.invokevirtual 65, 3) := by decide +kernel
theorem dX5_readText_36 : decode cX5_readText 36 = .ok (.aload_n 0, 1) := by decide +kernel
theorem dX5_readText_37 : decode cX5_readText 37 = .ok (.ldc 69, 2) := by decide +kernel
theorem dX5_readText_39 : decode cX5_readText 39 = .ok (.invokevirtual 71, 3) := by decide +kernel
theorem dX5_readText_42 : decode cX5_readText 42 = .ok (.ifCond .eq 12, 3) := by decide +kernel
theorem dX5_readText_45 : decode cX5_readText 45 = .ok (.aload_n 0, 1) := by decide +kernel
theorem dX5_readText_46 : decode cX5_readText 46 = .ok (.bipush 59, 2) := by decide +kernel
theorem dX5_readText_48 : decode cX5_readText 48 = .ok (.invokevirtual 75, 3) := by decide +kernel
theorem dX5_readText_51 : decode cX5_readText 51 = .ok (.ifCond .ne 5, 3) := by decide +kernel
theorem dX5_readText_54 : decode cX5_readText 54 = .ok (.iconst 0, 1) := by decide +kernel
theorem dX5_readText_55 : decode cX5_readText 55 = .ok (.ireturn, 1) := by decide +kernel
theorem dX5_readText_56 : decode cX5_readText 56 = .ok (.iconst 0, 1) := by decide +kernel
theorem dX5_readText_57 : decode cX5_readText 57 = .ok (.istore_n 3, 1) := by decide +kernel
theorem dX5_readText_58 : decode cX5_readText 58 = .ok (.iload_n 3, 1) := by decide +kernel
theorem dX5_readText_59 : decode cX5_readText 59 = .ok (.sipush 800, 3) := by decide +kernel
theorem dX5_readText_62 : decode cX5_readText 62 = .ok (.if_icmp .ge 37, 3) := by decide +kernel
theorem dX5_readText_65 : decode cX5_readText 65 = .ok (.aload_n 0, 1) := by decide +kernel
theorem dX5_readText_66 : decode cX5_readText 66 = .ok (.getfield 12, 3) := by decide +kernel
theorem dX5_readText_69 : decode cX5_readText 69 = .ok (.getfield 79, 3) := by decide +kernel
theorem dX5_readText_72 : decode cX5_readText 72 = .ok (.ifCond .eq 27, 3) := by decide +kernel
theorem dX5_readText_75 : decode cX5_readText 75 = .ok (.aload_n 0, 1) := by decide +kernel
theorem dX5_readText_76 : decode cX5_readText 76 = .ok (.invokevirtual 82, 3) := by decide +kernel
theorem dX5_readText_79 : decode cX5_readText 79 = .ok (.ifCond .eq 12, 3) := by decide +kernel
theorem dX5_readText_82 : decode cX5_readText 82 = .ok (.aload_n 0, 1) := by decide +kernel
theorem dX5_readText_83 : decode cX5_readText 83 = .ok (.bipush 59, 2) := by decide +kernel
theorem dX5_readText_85 : decode cX5_readText 85 = .ok (.invokevirtual 75, 3) := by decide +kernel
theorem dX5_readText_88 : decode cX5_readText 88 = .ok (.ifCond .ne 5, 3) := by decide +kernel
theorem dX5_readText_91 : decode cX5_readText 91 = .ok (.iconst 0, 1) := by decide +kernel
theorem dX5_readText_92 : decode cX5_readText 92 = .ok (.ireturn, 1) := by decide +kernel
theorem dX5_readText_93 : decode cX5_readText 93 = .ok (.iinc 3 1, 3) := by decide +kernel
theorem dX5_readText_96 : decode cX5_readText 96 = .ok (.goto (-38), 3) := by decide +kernel
theorem dX5_readText_99 : decode cX5_readText 99 = .ok (.aload_n 0, 1) := by decide +kernel
theorem dX5_readText_100 : decode cX5_readText 100 = .ok (.getfield 21, 3) := by decide +kernel
theorem dX5_readText_103 : decode cX5_readText 103 = .ok (.new 59, 3) := by decide +kernel
theorem dX5_readText_106 : decode cX5_readText 106 = .ok (.dup, 1) := by decide +kernel
theorem dX5_readText_107 : decode cX5_readText 107 = .ok (.aload_n 0, 1) := by decide +kernel
theorem dX5_readText_108 : decode cX5_readText 108 = .ok (.getfield 32, 3) := by decide +kernel
theorem dX5_readText_111 : decode cX5_readText 111 = .ok (.aload_n 0, 1) := by decide +kernel
theorem dX5_readText_112 : decode cX5_readText 112 = .ok (.getfield 36, 3) := by decide +kernel
theorem dX5_readText_115 : decode cX5_readText 115 = .ok (.invokestatic 86, 3) := by decide +kernel
theorem dX5_readText_118 : decode cX5_readText 118 = .ok (.invokespecial 92, 3) := by decide +kernel
theorem dX5_readText_121 : decode cX5_readText 121 = .ok (.putfield 95, 3) := by decide +kernel
theorem dX5_readText_124 : decode cX5_readText 124 = .ok (.iconst 1, 1) := by decide +kernel
theorem dX5_readText_125 : decode cX5_readText 125 = .ok (.ireturn, 1) := by decide +kernel
theorem dX5_readStatement_0 : decode cX5_readStatement 0 = .ok (.aload_n 0, 1) := by decide +kernel
theorem dX5_readStatement_1 : decode cX5_readStatement 1 = .ok (.getfield 12, 3) := by decide +kernel
theorem dX5_readStatement_4 : decode cX5_readStatement 4 = .ok (.ldc 99, 2) := by decide +kernel
theorem dX5_readStatement_6 : decode cX5_readStatement 6 = .ok (.invokevirtual 101, 3) := by decide +kernel
theorem dX5_readStatement_9 : decode cX5_readStatement 9 = .ok (.ifCond .eq 8, 3) := by decide +kernel
theorem dX5_readStatement_12 : decode cX5_readStatement 12 = .ok (.aload_n 0, 1) := by decide +kernel
theorem dX5_readStatement_13 : decode cX5_readStatement 13 = .ok (.invokevirtual 104, 3) := by decide +kernel
theorem dX5_readStatement_16 : decode cX5_readStatement 16 = .ok (.ireturn, 1) := by decide +kernel
theorem dX5_readStatement_17 : decode cX5_readStatement 17 = .ok (.aload_n 0, 1) := by decide +kernel
theorem dX5_readStatement_18 : decode cX5_readStatement 18 = .ok (.getfield 12, 3) := by decide +kernel
theorem dX5_readStatement_21 : decode cX5_readStatement 21 = .ok (.ldc 107, 2) := by decide +kernel
theorem dX5_readStatement_23 : decode cX5_readStatement 23 = .ok (.invokevirtual 101, 3) := by decide +kernel
theorem dX5_readStatement_26 : decode cX5_readStatement 26 = .ok (.ifCond .eq 8, 3) := by decide +kernel
theorem dX5_readStatement_29 : decode cX5_readStatement 29 = .ok (.aload_n 0, 1) := by decide +kernel
theorem dX5_readStatement_30 : decode cX5_readStatement 30 = .ok (.invokevirtual 109, 3) := by decide +kernel
theorem dX5_readStatement_33 : decode cX5_readStatement 33 = .ok (.ireturn, 1) := by decide +kernel
theorem dX5_readStatement_34 : decode cX5_readStatement 34 = .ok (.aload_n 0, 1) := by decide +kernel
theorem dX5_readStatement_35 : decode cX5_readStatement 35 = .ok (.getfield 12, 3) := by decide +kernel
theorem dX5_readStatement_38 : decode cX5_readStatement 38 = .ok (.ldc 112, 2) := by decide +kernel
theorem dX5_readStatement_40 : decode cX5_readStatement 40 = .ok (.invokevirtual 101, 3) := by decide +kernel
theorem dX5_readStatement_43 : decode cX5_readStatement 43 = .ok (.ifCond .eq 8, 3) := by decide +kernel
theorem dX5_readStatement_46 : decode cX5_readStatement 46 = .ok (.aload_n 0, 1) := by decide +kernel
theorem dX5_readStatement_47 : decode cX5_readStatement 47 = .ok (.invokevirtual 114, 3) := by decide +kernel
theorem dX5_readStatement_50 : decode cX5_readStatement 50 = .ok (.ireturn, 1) := by decide +kernel
theorem dX5_readStatement_51 : decode cX5_readStatement 51 = .ok (.aload_n 0, 1) := by decide +kernel
theorem dX5_readStatement_52 : decode cX5_readStatement 52 = .ok (.getfield 12, 3) := by decide +kernel
theorem dX5_readStatement_55 : decode cX5_readStatement 55 = .ok (.ldc 117, 2) := by decide +kernel
theorem dX5_readStatement_57 : decode cX5_readStatement 57 = .ok (.invokevirtual 101, 3) := by decide +kernel
theorem dX5_readStatement_60 : decode cX5_readStatement 60 = .ok (.ifCond .eq 8, 3) := by decide +kernel
theorem dX5_readStatement_63 : decode cX5_readStatement 63 = .ok (.aload_n 0, 1) := by decide +kernel
theorem dX5_readStatement_64 : decode cX5_readStatement 64 = .ok (.invokevirtual 119, 3) := by decide +kernel
theorem dX5_readStatement_67 : decode cX5_readStatement 67 = .ok (.ireturn, 1) := by decide +kernel
theorem dX5_readStatement_68 : decode cX5_readStatement 68 = .ok (.aload_n 0, 1) := by decide +kernel
theorem dX5_readStatement_69 : decode cX5_readStatement 69 = .ok (.getfield 12, 3) := by decide +kernel
theorem dX5_readStatement_72 : decode cX5_readStatement 72 = .ok (.ldc 122, 2) := by decide +kernel
theorem dX5_readStatement_74 : decode cX5_readStatement 74 = .ok (.invokevirtual 101, 3) := by decide +kernel
theorem dX5_readStatement_77 : decode cX5_readStatement 77 = .ok (.ifCond .eq 15, 3) := by decide +kernel
theorem dX5_readStatement_80 : decode cX5_readStatement 80 = .ok (.aload_n 0, 1) := by decide +kernel
theorem dX5_readStatement_81 : decode cX5_readStatement 81 = .ok (.getfield 40, 3) := by decide +kernel
theorem dX5_readStatement_84 : decode cX5_readStatement 84 = .ok (.ifCond .ne 8, 3) := by decide +kernel
theorem dX5_readStatement_87 : decode cX5_readStatement 87 = .ok (.aload_n 0, 1) := by decide +kernel
theorem dX5_readStatement_88 : decode cX5_readStatement 88 = .ok (.invokevirtual 124, 3) := by decide +kernel
theorem dX5_readStatement_91 : decode cX5_readStatement 91 = .ok (.ireturn, 1) := by decide +kernel
theorem dX5_readStatement_92 : decode cX5_readStatement 92 = .ok (.aload_n 0, 1) := by decide +kernel
theorem dX5_readStatement_93 : decode cX5_readStatement 93 = .ok (.getfield 12, 3) := by decide +kernel
theorem dX5_readStatement_96 : decode cX5_readStatement 96 = .ok (.ldc 127, 2) := by decide +kernel
theorem dX5_readStatement_98 : decode cX5_readStatement 98 = .ok (.invokevirtual 101, 3) := by decide +kernel
theorem dX5_readStatement_101 : decode cX5_readStatement 101 = .ok (.ifCond .eq 15, 3) := by decide +kernel
theorem dX5_readStatement_104 : decode cX5_readStatement 104 = .ok (.aload_n 0, 1) := by decide +kernel
theorem dX5_readStatement_105 : decode cX5_readStatement 105 = .ok (.getfield 44, 3) := by decide +kernel
theorem dX5_readStatement_108 : decode cX5_readStatement 108 = .ok (.ifCond .ne 8, 3) := by decide +kernel
theorem dX5_readStatement_111 : decode cX5_readStatement 111 = .ok (.aload_n 0, 1) := by decide +kernel
theorem dX5_readStatement_112 : decode cX5_readStatement 112 = .ok (.invokevirtual 128, 3) := by decide +kernel
theorem dX5_readStatement_115 : decode cX5_readStatement 115 = .ok (.ireturn, 1) := by decide +kernel
theorem dX5_readStatement_116 : decode cX5_readStatement 116 = .ok (.aload_n 0, 1) := by decide +kernel
theorem dX5_readStatement_117 : decode cX5_readStatement 117 = .ok (.invokevirtual 131, 3) := by decide +kernel
theorem dX5_readStatement_120 : decode cX5_readStatement 120 = .ok (.ireturn, 1) := by decide +kernel
theorem dX5_readNewName_0 : decode cX5_readNewName 0 = .ok (.aload_n 0, 1) := by decide +kernel
theorem dX5_readNewName_1 : decode cX5_readNewName 1 = .ok (.getfield 21, 3) := by decide +kernel
theorem dX5_readNewName_4 : decode cX5_readNewName 4 = .ok (.getfield 134, 3) := by decide +kernel
theorem dX5_readNewName_7 : decode cX5_readNewName 7 = .ok (.bipush 12, 2) := by decide +kernel
theorem dX5_readNewName_9 : decode cX5_readNewName 9 = .ok (.if_icmp .lt 10, 3) := by decide +kernel
theorem dX5_readNewName_12 : decode cX5_readNewName 12 = .ok (.aload_n 0, 1) := by decide +kernel
theorem dX5_readNewName_13 : decode cX5_readNewName 13 = .ok (.bipush (-6), 2) := by decide +kernel
theorem dX5_readNewName_15 : decode cX5_readNewName 15 = .ok (.invokevirtual 137, 3) := by decide +kernel
theorem dX5_readNewName_18 : decode cX5_readNewName 18 = .ok (.ireturn, 1) := by decide +kernel
theorem dX5_readNewName_19 : decode cX5_readNewName 19 = .ok (.aload_n 0, 1) := by decide +kernel
theorem dX5_readNewName_20 : decode cX5_readNewName 20 = .ok (.getfield 12, 3) := by decide +kernel
theorem dX5_readNewName_23 : decode cX5_readNewName 23 = .ok (.invokevirtual 141, 3) := by decide +kernel
theorem dX5_readNewName_26 : decode cX5_readNewName 26 = .ok (.aload_n 0, 1) := by decide +kernel
theorem dX5_readNewName_27 : decode cX5_readNewName 27 = .ok (.aload_n 0, 1) := by decide +kernel
theorem dX5_readNewName_28 : decode cX5_readNewName 28 = .ok (.getfield 29, 3) := by decide +kernel
theorem dX5_readNewName_31 : decode cX5_readNewName 31 = .ok (.aload_n 0, 1) := by decide +kernel
theorem dX5_readNewName_32 : decode cX5_readNewName 32 = .ok (.getfield 21, 3) := by decide +kernel
theorem dX5_readNewName_35 : decode cX5_readNewName 35 = .ok (.getfield 134, 3) := by decide +kernel
theorem dX5_readNewName_38 : decode cX5_readNewName 38 = .ok (.invokevirtual 144, 3) := by decide +kernel
theorem dX5_readNewName_41 : decode cX5_readNewName 41 = .ok (.ifCond .ne 5, 3) := by decide +kernel
theorem dX5_readNewName_44 : decode cX5_readNewName 44 = .ok (.iconst 0, 1) := by decide +kernel
theorem dX5_readNewName_45 : decode cX5_readNewName 45 = .ok (.ireturn, 1) := by decide +kernel
theorem dX5_readNewName_46 : decode cX5_readNewName 46 = .ok (.aload_n 0, 1) := by decide +kernel
theorem dX5_readNewName_47 : decode cX5_readNewName 47 = .ok (.getfield 21, 3) := by decide +kernel
theorem dX5_readNewName_50 : decode cX5_readNewName 50 = .ok (.dup, 1) := by decide +kernel
theorem dX5_readNewName_51 : decode cX5_readNewName 51 = .ok (.getfield 134, 3) := by decide +kernel
theorem dX5_readNewName_54 : decode cX5_readNewName 54 = .ok (.iconst 1, 1) := by decide +kernel
theorem dX5_readNewName_55 : decode cX5_readNewName 55 = .ok (.iadd, 1) := by decide +kernel
theorem dX5_readNewName_56 : decode cX5_readNewName 56 = .ok (.putfield 134, 3) := by decide +kernel
theorem dX5_readNewName_59 : decode cX5_readNewName 59 = .ok (.iconst 1, 1) := by decide +kernel
theorem dX5_readNewName_60 : decode cX5_readNewName 60 = .ok (.ireturn, 1) := by decide +kernel
theorem dX5_readNewLibrary_0 : decode cX5_readNewLibrary 0 = .ok (.aload_n 0, 1) := by decide +kernel
theorem dX5_readNewLibrary_1 : decode cX5_readNewLibrary 1 = .ok (.getfield 21, 3) := by decide +kernel
theorem dX5_readNewLibrary_4 : decode cX5_readNewLibrary 4 = .ok (.getfield 148, 3) := by decide +kernel
theorem dX5_readNewLibrary_7 : decode cX5_readNewLibrary 7 = .ok (.bipush 8, 2) := by decide +kernel
theorem dX5_readNewLibrary_9 : decode cX5_readNewLibrary 9 = .ok (.if_icmp .lt 10, 3) := by decide +kernel
theorem dX5_readNewLibrary_12 : decode cX5_readNewLibrary 12 = .ok (.aload_n 0, 1) := by decide +kernel
theorem dX5_readNewLibrary_13 : decode cX5_readNewLibrary 13 = .ok (.bipush (-6), 2) := by decide +kernel
theorem dX5_readNewLibrary_15 : decode cX5_readNewLibrary 15 = .ok (.invokevirtual 137, 3) := by decide +kernel
theorem dX5_readNewLibrary_18 : decode cX5_readNewLibrary 18 = .ok (.ireturn, 1) := by decide +kernel
theorem dX5_readNewLibrary_19 : decode cX5_readNewLibrary 19 = .ok (.aload_n 0, 1) := by decide +kernel
theorem dX5_readNewLibrary_20 : decode cX5_readNewLibrary 20 = .ok (.getfield 12, 3) := by decide +kernel
theorem dX5_readNewLibrary_23 : decode cX5_readNewLibrary 23 = .ok (.invokevirtual 141, 3) := by decide +kernel
theorem dX5_readNewLibrary_26 : decode cX5_readNewLibrary 26 = .ok (.aload_n 0, 1) := by decide +kernel
theorem dX5_readNewLibrary_27 : decode cX5_readNewLibrary 27 = .ok (.aload_n 0, 1) := by decide +kernel
theorem dX5_readNewLibrary_28 : decode cX5_readNewLibrary 28 = .ok (.getfield 25, 3) := by decide +kernel
theorem dX5_readNewLibrary_31 : decode cX5_readNewLibrary 31 = .ok (.aload_n 0, 1) := by decide +kernel
theorem dX5_readNewLibrary_32 : decode cX5_readNewLibrary 32 = .ok (.getfield 21, 3) := by decide +kernel
theorem dX5_readNewLibrary_35 : decode cX5_readNewLibrary 35 = .ok (.getfield 148, 3) := by decide +kernel
theorem dX5_readNewLibrary_38 : decode cX5_readNewLibrary 38 = .ok (.invokevirtual 144, 3) := by decide +kernel
theorem dX5_readNewLibrary_41 : decode cX5_readNewLibrary 41 = .ok (.ifCond .eq 13, 3) := by decide +kernel
theorem dX5_readNewLibrary_44 : decode cX5_readNewLibrary 44 = .ok (.aload_n 0, 1) := by decide +kernel
theorem dX5_readNewLibrary_45 : decode cX5_readNewLibrary 45 = .ok (.sipush 999, 3) := by decide +kernel
theorem dX5_readNewLibrary_48 : decode cX5_readNewLibrary 48 = .ok (.invokevirtual 151, 3) := by decide +kernel
theorem dX5_readNewLibrary_51 : decode cX5_readNewLibrary 51 = .ok (.ifCond .ne 5, 3) := by decide +kernel
theorem dX5_readNewLibrary_54 : decode cX5_readNewLibrary 54 = .ok (.iconst 0, 1) := by decide +kernel
theorem dX5_readNewLibrary_55 : decode cX5_readNewLibrary 55 = .ok (.ireturn, 1) := by decide +kernel
theorem dX5_readNewLibrary_56 : decode cX5_readNewLibrary 56 = .ok (.aload_n 0, 1) := by decide +kernel
theorem dX5_readNewLibrary_57 : decode cX5_readNewLibrary 57 = .ok (.getfield 21, 3) := by decide +kernel
theorem dX5_readNewLibrary_60 : decode cX5_readNewLibrary 60 = .ok (.getfield 154, 3) := by decide +kernel
theorem dX5_readNewLibrary_63 : decode cX5_readNewLibrary 63 = .ok (.aload_n 0, 1) := by decide +kernel
theorem dX5_readNewLibrary_64 : decode cX5_readNewLibrary 64 = .ok (.getfield 21, 3) := by decide +kernel
theorem dX5_readNewLibrary_67 : decode cX5_readNewLibrary 67 = .ok (.getfield 148, 3) := by decide +kernel
theorem dX5_readNewLibrary_70 : decode cX5_readNewLibrary 70 = .ok (.aaload, 1) := by decide +kernel
theorem dX5_readNewLibrary_71 : decode cX5_readNewLibrary 71 = .ok (.astore_n 1, 1) := by decide +kernel
theorem dX5_readNewLibrary_72 : decode cX5_readNewLibrary 72 = .ok (.aload_n 1, 1) := by decide +kernel
theorem dX5_readNewLibrary_73 : decode cX5_readNewLibrary 73 = .ok (.aload_n 0, 1) := by decide +kernel
theorem dX5_readNewLibrary_74 : decode cX5_readNewLibrary 74 = .ok (.getfield 47, 3) := by decide +kernel
theorem dX5_readNewLibrary_77 : decode cX5_readNewLibrary 77 = .ok (.aload_n 0, 1) := by decide +kernel
theorem dX5_readNewLibrary_78 : decode cX5_readNewLibrary 78 = .ok (.getfield 21, 3) := by decide +kernel
theorem dX5_readNewLibrary_81 : decode cX5_readNewLibrary 81 = .ok (.getfield 148, 3) := by decide +kernel
theorem dX5_readNewLibrary_84 : decode cX5_readNewLibrary 84 = .ok (.invokevirtual 158, 3) := by decide +kernel
theorem dX5_readNewLibrary_87 : decode cX5_readNewLibrary 87 = .ok (.aload_n 0, 1) := by decide +kernel
theorem dX5_readNewLibrary_88 : decode cX5_readNewLibrary 88 = .ok (.getfield 21, 3) := by decide +kernel
theorem dX5_readNewLibrary_91 : decode cX5_readNewLibrary 91 = .ok (.dup, 1) := by decide +kernel
theorem dX5_readNewLibrary_92 : decode cX5_readNewLibrary 92 = .ok (.getfield 148, 3) := by decide +kernel
theorem dX5_readNewLibrary_95 : decode cX5_readNewLibrary 95 = .ok (.iconst 1, 1) := by decide +kernel
theorem dX5_readNewLibrary_96 : decode cX5_readNewLibrary 96 = .ok (.iadd, 1) := by decide +kernel
theorem dX5_readNewLibrary_97 : decode cX5_readNewLibrary 97 = .ok (.putfield 148, 3) := by decide +kernel
theorem dX5_readNewLibrary_100 : decode cX5_readNewLibrary 100 = .ok (.aload_n 0, 1) := by decide +kernel
theorem dX5_readNewLibrary_101 : decode cX5_readNewLibrary 101 = .ok (.getfield 12, 3) := by decide +kernel
theorem dX5_readNewLibrary_104 : decode cX5_readNewLibrary 104 = .ok (.ldc 164, 2) := by decide +kernel
theorem dX5_readNewLibrary_106 : decode cX5_readNewLibrary 106 = .ok (.invokevirtual 101, 3) := by decide +kernel
theorem dX5_readNewLibrary_109 : decode cX5_readNewLibrary 109 = .ok (.ifCond .eq 15, 3) := by decide +kernel
theorem dX5_readNewLibrary_112 : decode cX5_readNewLibrary 112 = .ok (.aload_n 1, 1) := by decide +kernel
theorem dX5_readNewLibrary_113 : decode cX5_readNewLibrary 113 = .ok (.iconst 1, 1) := by decide +kernel
theorem dX5_readNewLibrary_114 : decode cX5_readNewLibrary 114 = .ok (.putfield 166, 3) := by decide +kernel
theorem dX5_readNewLibrary_117 : decode cX5_readNewLibrary 117 = .ok (.aload_n 0, 1) := by decide +kernel
theorem dX5_readNewLibrary_118 : decode cX5_readNewLibrary 118 = .ok (.getfield 12, 3) := by decide +kernel
theorem dX5_readNewLibrary_121 : decode cX5_readNewLibrary 121 = .ok (.invokevirtual 141, 3) := by decide +kernel
theorem dX5_readNewLibrary_124 : decode cX5_readNewLibrary 124 = .ok (.iconst 1, 1) := by decide +kernel
theorem dX5_readNewLibrary_125 : decode cX5_readNewLibrary 125 = .ok (.ireturn, 1) := by decide +kernel
theorem dX5_readOffer_0 : decode cX5_readOffer 0 = .ok (.aload_n 0, 1) := by decide +kernel
theorem dX5_readOffer_1 : decode cX5_readOffer 1 = .ok (.getfield 12, 3) := by decide +kernel
theorem dX5_readOffer_4 : decode cX5_readOffer 4 = .ok (.invokevirtual 141, 3) := by decide +kernel
theorem dX5_readOffer_7 : decode cX5_readOffer 7 = .ok (.aload_n 0, 1) := by decide +kernel
theorem dX5_readOffer_8 : decode cX5_readOffer 8 = .ok (.invokevirtual 168, 3) := by decide +kernel
theorem dX5_readOffer_11 : decode cX5_readOffer 11 = .ok (.ifCond .ne 5, 3) := by decide +kernel
theorem dX5_readOffer_14 : decode cX5_readOffer 14 = .ok (.iconst 0, 1) := by decide +kernel
theorem dX5_readOffer_15 : decode cX5_readOffer 15 = .ok (.ireturn, 1) := by decide +kernel
theorem dX5_readOffer_16 : decode cX5_readOffer 16 = .ok (.aload_n 0, 1) := by decide +kernel
theorem dX5_readOffer_17 : decode cX5_readOffer 17 = .ok (.getfield 21, 3) := by decide +kernel
theorem dX5_readOffer_20 : decode cX5_readOffer 20 = .ok (.getfield 154, 3) := by decide +kernel
theorem dX5_readOffer_23 : decode cX5_readOffer 23 = .ok (.aload_n 0, 1) := by decide +kernel
theorem dX5_readOffer_24 : decode cX5_readOffer 24 = .ok (.getfield 47, 3) := by decide +kernel
theorem dX5_readOffer_27 : decode cX5_readOffer 27 = .ok (.aaload, 1) := by decide +kernel
theorem dX5_readOffer_28 : decode cX5_readOffer 28 = .ok (.astore_n 1, 1) := by decide +kernel
theorem dX5_readOffer_29 : decode cX5_readOffer 29 = .ok (.aload_n 0, 1) := by decide +kernel
theorem dX5_readOffer_30 : decode cX5_readOffer 30 = .ok (.getfield 12, 3) := by decide +kernel
theorem dX5_readOffer_33 : decode cX5_readOffer 33 = .ok (.invokevirtual 141, 3) := by decide +kernel
theorem dX5_readOffer_36 : decode cX5_readOffer 36 = .ok (.aload_n 0, 1) := by decide +kernel
theorem dX5_readOffer_37 : decode cX5_readOffer 37 = .ok (.invokevirtual 171, 3) := by decide +kernel
theorem dX5_readOffer_40 : decode cX5_readOffer 40 = .ok (.ifCond .ne 5, 3) := by decide +kernel
theorem dX5_readOffer_43 : decode cX5_readOffer 43 = .ok (.iconst 0, 1) := by decide +kernel
theorem dX5_readOffer_44 : decode cX5_readOffer 44 = .ok (.ireturn, 1) := by decide +kernel
theorem dX5_readOffer_45 : decode cX5_readOffer 45 = .ok (.aload_n 0, 1) := by decide +kernel
theorem dX5_readOffer_46 : decode cX5_readOffer 46 = .ok (.getfield 47, 3) := by decide +kernel
theorem dX5_readOffer_49 : decode cX5_readOffer 49 = .ok (.istore_n 2, 1) := by decide +kernel
theorem dX5_readOffer_50 : decode cX5_readOffer 50 = .ok (.aload_n 1, 1) := by decide +kernel
theorem dX5_readOffer_51 : decode cX5_readOffer 51 = .ok (.iload_n 2, 1) := by decide +kernel
theorem dX5_readOffer_52 : decode cX5_readOffer 52 = .ok (.invokevirtual 174, 3) := by decide +kernel
theorem dX5_readOffer_55 : decode cX5_readOffer 55 = .ok (.ifCond .eq 10, 3) := by decide +kernel
theorem dX5_readOffer_58 : decode cX5_readOffer 58 = .ok (.aload_n 0, 1) := by decide +kernel
theorem dX5_readOffer_59 : decode cX5_readOffer 59 = .ok (.bipush (-5), 2) := by decide +kernel
theorem dX5_readOffer_61 : decode cX5_readOffer 61 = .ok (.invokevirtual 137, 3) := by decide +kernel
theorem dX5_readOffer_64 : decode cX5_readOffer 64 = .ok (.ireturn, 1) := by decide +kernel
theorem dX5_readOffer_65 : decode cX5_readOffer 65 = .ok (.aload_n 0, 1) := by decide +kernel
theorem dX5_readOffer_66 : decode cX5_readOffer 66 = .ok (.getfield 12, 3) := by decide +kernel
theorem dX5_readOffer_69 : decode cX5_readOffer 69 = .ok (.invokevirtual 141, 3) := by decide +kernel
theorem dX5_readOffer_72 : decode cX5_readOffer 72 = .ok (.aload_n 0, 1) := by decide +kernel
theorem dX5_readOffer_73 : decode cX5_readOffer 73 = .ok (.getfield 12, 3) := by decide +kernel
theorem dX5_readOffer_76 : decode cX5_readOffer 76 = .ok (.getfield 79, 3) := by decide +kernel
theorem dX5_readOffer_79 : decode cX5_readOffer 79 = .ok (.iconst 2, 1) := by decide +kernel
theorem dX5_readOffer_80 : decode cX5_readOffer 80 = .ok (.if_icmp .ne 27, 3) := by decide +kernel
theorem dX5_readOffer_83 : decode cX5_readOffer 83 = .ok (.aload_n 0, 1) := by decide +kernel
theorem dX5_readOffer_84 : decode cX5_readOffer 84 = .ok (.sipush 9999, 3) := by decide +kernel
theorem dX5_readOffer_87 : decode cX5_readOffer 87 = .ok (.invokevirtual 151, 3) := by decide +kernel
theorem dX5_readOffer_90 : decode cX5_readOffer 90 = .ok (.ifCond .ne 5, 3) := by decide +kernel
theorem dX5_readOffer_93 : decode cX5_readOffer 93 = .ok (.iconst 0, 1) := by decide +kernel
theorem dX5_readOffer_94 : decode cX5_readOffer 94 = .ok (.ireturn, 1) := by decide +kernel
theorem dX5_readOffer_95 : decode cX5_readOffer 95 = .ok (.aload_n 1, 1) := by decide +kernel
theorem dX5_readOffer_96 : decode cX5_readOffer 96 = .ok (.getfield 177, 3) := by decide +kernel
theorem dX5_readOffer_99 : decode cX5_readOffer 99 = .ok (.iload_n 2, 1) := by decide +kernel
theorem dX5_readOffer_100 : decode cX5_readOffer 100 = .ok (.aload_n 0, 1) := by decide +kernel
theorem dX5_readOffer_101 : decode cX5_readOffer 101 = .ok (.getfield 47, 3) := by decide +kernel
theorem dX5_readOffer_104 : decode cX5_readOffer 104 = .ok (.iastore, 1) := by decide +kernel
theorem dX5_readOffer_105 : decode cX5_readOffer 105 = .ok (.iconst 1, 1) := by decide +kernel
theorem dX5_readOffer_106 : decode cX5_readOffer 106 = .ok (.ireturn, 1) := by decide +kernel
theorem dX5_readOffer_107 : decode cX5_readOffer 107 = .ok (.aload_n 0, 1) := by decide +kernel
theorem dX5_readOffer_108 : decode cX5_readOffer 108 = .ok (.ldc 180, 2) := by decide +kernel
theorem dX5_readOffer_110 : decode cX5_readOffer 110 = .ok (.invokevirtual 71, 3) := by decide +kernel
theorem dX5_readOffer_113 : decode cX5_readOffer 113 = .ok (.ifCond .eq 10, 3) := by decide +kernel
theorem dX5_readOffer_116 : decode cX5_readOffer 116 = .ok (.aload_n 0, 1) := by decide +kernel
theorem dX5_readOffer_117 : decode cX5_readOffer 117 = .ok (.invokevirtual 171, 3) := by decide +kernel
theorem dX5_readOffer_120 : decode cX5_readOffer 120 = .ok (.ifCond .ne 5, 3) := by decide +kernel
theorem dX5_readOffer_123 : decode cX5_readOffer 123 = .ok (.iconst 0, 1) := by decide +kernel
theorem dX5_readOffer_124 : decode cX5_readOffer 124 = .ok (.ireturn, 1) := by decide +kernel
theorem dX5_readOffer_125 : decode cX5_readOffer 125 = .ok (.aload_n 1, 1) := by decide +kernel
theorem dX5_readOffer_126 : decode cX5_readOffer 126 = .ok (.getfield 177, 3) := by decide +kernel
theorem dX5_readOffer_129 : decode cX5_readOffer 129 = .ok (.iload_n 2, 1) := by decide +kernel
theorem dX5_readOffer_130 : decode cX5_readOffer 130 = .ok (.bipush (-2), 2) := by decide +kernel
theorem dX5_readOffer_132 : decode cX5_readOffer 132 = .ok (.aload_n 0, 1) := by decide +kernel
theorem dX5_readOffer_133 : decode cX5_readOffer 133 = .ok (.getfield 47, 3) := by decide +kernel
theorem dX5_readOffer_136 : decode cX5_readOffer 136 = .ok (.isub, 1) := by decide +kernel
theorem dX5_readOffer_137 : decode cX5_readOffer 137 = .ok (.iastore, 1) := by decide +kernel
theorem dX5_readOffer_138 : decode cX5_readOffer 138 = .ok (.aload_n 0, 1) := by decide +kernel
theorem dX5_readOffer_139 : decode cX5_readOffer 139 = .ok (.getfield 12, 3) := by decide +kernel
theorem dX5_readOffer_142 : decode cX5_readOffer 142 = .ok (.invokevirtual 141, 3) := by decide +kernel
theorem dX5_readOffer_145 : decode cX5_readOffer 145 = .ok (.iconst 1, 1) := by decide +kernel
theorem dX5_readOffer_146 : decode cX5_readOffer 146 = .ok (.ireturn, 1) := by decide +kernel
theorem dX5_readPrefer_0 : decode cX5_readPrefer 0 = .ok (.aload_n 0, 1) := by decide +kernel
theorem dX5_readPrefer_1 : decode cX5_readPrefer 1 = .ok (.getfield 12, 3) := by decide +kernel
theorem dX5_readPrefer_4 : decode cX5_readPrefer 4 = .ok (.invokevirtual 141, 3) := by decide +kernel
theorem dX5_readPrefer_7 : decode cX5_readPrefer 7 = .ok (.aload_n 0, 1) := by decide +kernel
theorem dX5_readPrefer_8 : decode cX5_readPrefer 8 = .ok (.invokevirtual 168, 3) := by decide +kernel
theorem dX5_readPrefer_11 : decode cX5_readPrefer 11 = .ok (.ifCond .ne 5, 3) := by decide +kernel
theorem dX5_readPrefer_14 : decode cX5_readPrefer 14 = .ok (.iconst 0, 1) := by decide +kernel
theorem dX5_readPrefer_15 : decode cX5_readPrefer 15 = .ok (.ireturn, 1) := by decide +kernel
theorem dX5_readPrefer_16 : decode cX5_readPrefer 16 = .ok (.aload_n 0, 1) := by decide +kernel
theorem dX5_readPrefer_17 : decode cX5_readPrefer 17 = .ok (.getfield 47, 3) := by decide +kernel
theorem dX5_readPrefer_20 : decode cX5_readPrefer 20 = .ok (.istore_n 1, 1) := by decide +kernel
theorem dX5_readPrefer_21 : decode cX5_readPrefer 21 = .ok (.aload_n 0, 1) := by decide +kernel
theorem dX5_readPrefer_22 : decode cX5_readPrefer 22 = .ok (.getfield 12, 3) := by decide +kernel
theorem dX5_readPrefer_25 : decode cX5_readPrefer 25 = .ok (.invokevirtual 141, 3) := by decide +kernel
theorem dX5_readPrefer_28 : decode cX5_readPrefer 28 = .ok (.aload_n 0, 1) := by decide +kernel
theorem dX5_readPrefer_29 : decode cX5_readPrefer 29 = .ok (.invokevirtual 168, 3) := by decide +kernel
theorem dX5_readPrefer_32 : decode cX5_readPrefer 32 = .ok (.ifCond .ne 5, 3) := by decide +kernel
theorem dX5_readPrefer_35 : decode cX5_readPrefer 35 = .ok (.iconst 0, 1) := by decide +kernel
theorem dX5_readPrefer_36 : decode cX5_readPrefer 36 = .ok (.ireturn, 1) := by decide +kernel
theorem dX5_readPrefer_37 : decode cX5_readPrefer 37 = .ok (.aload_n 0, 1) := by decide +kernel
theorem dX5_readPrefer_38 : decode cX5_readPrefer 38 = .ok (.getfield 47, 3) := by decide +kernel
theorem dX5_readPrefer_41 : decode cX5_readPrefer 41 = .ok (.iload_n 1, 1) := by decide +kernel
theorem dX5_readPrefer_42 : decode cX5_readPrefer 42 = .ok (.if_icmp .eq 22, 3) := by decide +kernel
theorem dX5_readPrefer_45 : decode cX5_readPrefer 45 = .ok (.aload_n 0, 1) := by decide +kernel
theorem dX5_readPrefer_46 : decode cX5_readPrefer 46 = .ok (.getfield 21, 3) := by decide +kernel
theorem dX5_readPrefer_49 : decode cX5_readPrefer 49 = .ok (.getfield 154, 3) := by decide +kernel
theorem dX5_readPrefer_52 : decode cX5_readPrefer 52 = .ok (.iload_n 1, 1) := by decide +kernel
theorem dX5_readPrefer_53 : decode cX5_readPrefer 53 = .ok (.aaload, 1) := by decide +kernel
theorem dX5_readPrefer_54 : decode cX5_readPrefer 54 = .ok (.aload_n 0, 1) := by decide +kernel
theorem dX5_readPrefer_55 : decode cX5_readPrefer 55 = .ok (.getfield 47, 3) := by decide +kernel
theorem dX5_readPrefer_58 : decode cX5_readPrefer 58 = .ok (.invokevirtual 182, 3) := by decide +kernel
theorem dX5_readPrefer_61 : decode cX5_readPrefer 61 = .ok (.ifCond .eq 10, 3) := by decide +kernel
theorem dX5_readPrefer_64 : decode cX5_readPrefer 64 = .ok (.aload_n 0, 1) := by decide +kernel
theorem dX5_readPrefer_65 : decode cX5_readPrefer 65 = .ok (.bipush (-5), 2) := by decide +kernel
theorem dX5_readPrefer_67 : decode cX5_readPrefer 67 = .ok (.invokevirtual 137, 3) := by decide +kernel
theorem dX5_readPrefer_70 : decode cX5_readPrefer 70 = .ok (.ireturn, 1) := by decide +kernel
theorem dX5_readPrefer_71 : decode cX5_readPrefer 71 = .ok (.aload_n 0, 1) := by decide +kernel
theorem dX5_readPrefer_72 : decode cX5_readPrefer 72 = .ok (.getfield 21, 3) := by decide +kernel
theorem dX5_readPrefer_75 : decode cX5_readPrefer 75 = .ok (.getfield 154, 3) := by decide +kernel
theorem dX5_readPrefer_78 : decode cX5_readPrefer 78 = .ok (.iload_n 1, 1) := by decide +kernel
theorem dX5_readPrefer_79 : decode cX5_readPrefer 79 = .ok (.aaload, 1) := by decide +kernel
theorem dX5_readPrefer_80 : decode cX5_readPrefer 80 = .ok (.aload_n 0, 1) := by decide +kernel
theorem dX5_readPrefer_81 : decode cX5_readPrefer 81 = .ok (.getfield 47, 3) := by decide +kernel
theorem dX5_readPrefer_84 : decode cX5_readPrefer 84 = .ok (.invokevirtual 185, 3) := by decide +kernel
theorem dX5_readPrefer_87 : decode cX5_readPrefer 87 = .ok (.aload_n 0, 1) := by decide +kernel
theorem dX5_readPrefer_88 : decode cX5_readPrefer 88 = .ok (.getfield 12, 3) := by decide +kernel
theorem dX5_readPrefer_91 : decode cX5_readPrefer 91 = .ok (.invokevirtual 141, 3) := by decide +kernel
theorem dX5_readPrefer_94 : decode cX5_readPrefer 94 = .ok (.iconst 1, 1) := by decide +kernel
theorem dX5_readPrefer_95 : decode cX5_readPrefer 95 = .ok (.ireturn, 1) := by decide +kernel
theorem dX5_readShare_0 : decode cX5_readShare 0 = .ok (.aload_n 0, 1) := by decide +kernel
theorem dX5_readShare_1 : decode cX5_readShare 1 = .ok (.iconst 1, 1) := by decide +kernel
theorem dX5_readShare_2 : decode cX5_readShare 2 = .ok (.putfield 40, 3) := by decide +kernel
theorem dX5_readShare_5 : decode cX5_readShare 5 = .ok (.aload_n 0, 1) := by decide +kernel
theorem dX5_readShare_6 : decode cX5_readShare 6 = .ok (.getfield 12, 3) := by decide +kernel
theorem dX5_readShare_9 : decode cX5_readShare 9 = .ok (.invokevirtual 141, 3) := by decide +kernel
theorem dX5_readShare_12 : decode cX5_readShare 12 = .ok (.aload_n 0, 1) := by decide +kernel
theorem dX5_readShare_13 : decode cX5_readShare 13 = .ok (.bipush 100, 2) := by decide +kernel
theorem dX5_readShare_15 : decode cX5_readShare 15 = .ok (.invokevirtual 151, 3) := by decide +kernel
theorem dX5_readShare_18 : decode cX5_readShare 18 = .ok (.ifCond .ne 5, 3) := by decide +kernel
theorem dX5_readShare_21 : decode cX5_readShare 21 = .ok (.iconst 0, 1) := by decide +kernel
theorem dX5_readShare_22 : decode cX5_readShare 22 = .ok (.ireturn, 1) := by decide +kernel
theorem dX5_readShare_23 : decode cX5_readShare 23 = .ok (.aload_n 0, 1) := by decide +kernel
theorem dX5_readShare_24 : decode cX5_readShare 24 = .ok (.getfield 21, 3) := by decide +kernel
theorem dX5_readShare_27 : decode cX5_readShare 27 = .ok (.aload_n 0, 1) := by decide +kernel
theorem dX5_readShare_28 : decode cX5_readShare 28 = .ok (.getfield 47, 3) := by decide +kernel
theorem dX5_readShare_31 : decode cX5_readShare 31 = .ok (.putfield 188, 3) := by decide +kernel
theorem dX5_readShare_34 : decode cX5_readShare 34 = .ok (.iconst 1, 1) := by decide +kernel
theorem dX5_readShare_35 : decode cX5_readShare 35 = .ok (.ireturn, 1) := by decide +kernel
theorem dX5_readWeight_0 : decode cX5_readWeight 0 = .ok (.aload_n 0, 1) := by decide +kernel
theorem dX5_readWeight_1 : decode cX5_readWeight 1 = .ok (.iconst 1, 1) := by decide +kernel
theorem dX5_readWeight_2 : decode cX5_readWeight 2 = .ok (.putfield 44, 3) := by decide +kernel
theorem dX5_readWeight_5 : decode cX5_readWeight 5 = .ok (.aload_n 0, 1) := by decide +kernel
theorem dX5_readWeight_6 : decode cX5_readWeight 6 = .ok (.iconst 0, 1) := by decide +kernel
theorem dX5_readWeight_7 : decode cX5_readWeight 7 = .ok (.putfield 36, 3) := by decide +kernel
theorem dX5_readWeight_10 : decode cX5_readWeight 10 = .ok (.aload_n 0, 1) := by decide +kernel
theorem dX5_readWeight_11 : decode cX5_readWeight 11 = .ok (.getfield 12, 3) := by decide +kernel
theorem dX5_readWeight_14 : decode cX5_readWeight 14 = .ok (.invokevirtual 141, 3) := by decide +kernel
theorem dX5_readWeight_17 : decode cX5_readWeight 17 = .ok (.aload_n 0, 1) := by decide +kernel
theorem dX5_readWeight_18 : decode cX5_readWeight 18 = .ok (.iconst 0, 1) := by decide +kernel
theorem dX5_readWeight_19 : decode cX5_readWeight 19 = .ok (.invokevirtual 190, 3) := by decide +kernel
theorem dX5_readWeight_22 : decode cX5_readWeight 22 = .ok (.ireturn, 1) := by decide +kernel
theorem dX5_readSum_0 : decode cX5_readSum 0 = .ok (.aload_n 0, 1) := by decide +kernel
theorem dX5_readSum_1 : decode cX5_readSum 1 = .ok (.iload_n 1, 1) := by decide +kernel
theorem dX5_readSum_2 : decode cX5_readSum 2 = .ok (.invokevirtual 193, 3) := by decide +kernel
theorem dX5_readSum_5 : decode cX5_readSum 5 = .ok (.ifCond .ne 5, 3) := by decide +kernel
theorem dX5_readSum_8 : decode cX5_readSum 8 = .ok (.iconst 0, 1) := by decide +kernel
theorem dX5_readSum_9 : decode cX5_readSum 9 = .ok (.ireturn, 1) := by decide +kernel
theorem dX5_readSum_10 : decode cX5_readSum 10 = .ok (.iconst 0, 1) := by decide +kernel
theorem dX5_readSum_11 : decode cX5_readSum 11 = .ok (.istore_n 2, 1) := by decide +kernel
theorem dX5_readSum_12 : decode cX5_readSum 12 = .ok (.iload_n 2, 1) := by decide +kernel
theorem dX5_readSum_13 : decode cX5_readSum 13 = .ok (.sipush 800, 3) := by decide +kernel
theorem dX5_readSum_16 : decode cX5_readSum 16 = .ok (.if_icmp .ge 75, 3) := by decide +kernel
theorem dX5_readSum_19 : decode cX5_readSum 19 = .ok (.aload_n 0, 1) := by decide +kernel
theorem dX5_readSum_20 : decode cX5_readSum 20 = .ok (.getfield 12, 3) := by decide +kernel
theorem dX5_readSum_23 : decode cX5_readSum 23 = .ok (.bipush 43, 2) := by decide +kernel
theorem dX5_readSum_25 : decode cX5_readSum 25 = .ok (.invokevirtual 196, 3) := by decide +kernel
theorem dX5_readSum_28 : decode cX5_readSum 28 = .ok (.ifCond .ne 15, 3) := by decide +kernel
theorem dX5_readSum_31 : decode cX5_readSum 31 = .ok (.aload_n 0, 1) := by decide +kernel
theorem dX5_readSum_32 : decode cX5_readSum 32 = .ok (.getfield 12, 3) := by decide +kernel
theorem dX5_readSum_35 : decode cX5_readSum 35 = .ok (.bipush 45, 2) := by decide +kernel
theorem dX5_readSum_37 : decode cX5_readSum 37 = .ok (.invokevirtual 196, 3) := by decide +kernel
theorem dX5_readSum_40 : decode cX5_readSum 40 = .ok (.ifCond .eq 51, 3) := by decide +kernel
theorem dX5_readSum_43 : decode cX5_readSum 43 = .ok (.aload_n 0, 1) := by decide +kernel
theorem dX5_readSum_44 : decode cX5_readSum 44 = .ok (.getfield 12, 3) := by decide +kernel
theorem dX5_readSum_47 : decode cX5_readSum 47 = .ok (.bipush 43, 2) := by decide +kernel
theorem dX5_readSum_49 : decode cX5_readSum 49 = .ok (.invokevirtual 196, 3) := by decide +kernel
theorem dX5_readSum_52 : decode cX5_readSum 52 = .ok (.ifCond .eq 8, 3) := by decide +kernel
theorem dX5_readSum_55 : decode cX5_readSum 55 = .ok (.bipush (-5), 2) := by decide +kernel
theorem dX5_readSum_57 : decode cX5_readSum 57 = .ok (.goto 5, 3) := by decide +kernel
theorem dX5_readSum_60 : decode cX5_readSum 60 = .ok (.bipush (-6), 2) := by decide +kernel
theorem dX5_readSum_62 : decode cX5_readSum 62 = .ok (.istore_n 3, 1) := by decide +kernel
theorem dX5_readSum_63 : decode cX5_readSum 63 = .ok (.aload_n 0, 1) := by decide +kernel
theorem dX5_readSum_64 : decode cX5_readSum 64 = .ok (.getfield 12, 3) := by decide +kernel
theorem dX5_readSum_67 : decode cX5_readSum 67 = .ok (.invokevirtual 141, 3) := by decide +kernel
theorem dX5_readSum_70 : decode cX5_readSum 70 = .ok (.aload_n 0, 1) := by decide +kernel
theorem dX5_readSum_71 : decode cX5_readSum 71 = .ok (.iload_n 1, 1) := by decide +kernel
theorem dX5_readSum_72 : decode cX5_readSum 72 = .ok (.invokevirtual 193, 3) := by decide +kernel
theorem dX5_readSum_75 : decode cX5_readSum 75 = .ok (.ifCond .ne 5, 3) := by decide +kernel
theorem dX5_readSum_78 : decode cX5_readSum 78 = .ok (.iconst 0, 1) := by decide +kernel
theorem dX5_readSum_79 : decode cX5_readSum 79 = .ok (.ireturn, 1) := by decide +kernel
theorem dX5_readSum_80 : decode cX5_readSum 80 = .ok (.aload_n 0, 1) := by decide +kernel
theorem dX5_readSum_81 : decode cX5_readSum 81 = .ok (.iload_n 3, 1) := by decide +kernel
theorem dX5_readSum_82 : decode cX5_readSum 82 = .ok (.invokevirtual 61, 3) := by decide +kernel
theorem dX5_readSum_85 : decode cX5_readSum 85 = .ok (.iinc 2 1, 3) := by decide +kernel
theorem dX5_readSum_88 : decode cX5_readSum 88 = .ok (.goto (-76), 3) := by decide +kernel
theorem dX5_readSum_91 : decode cX5_readSum 91 = .ok (.iconst 1, 1) := by decide +kernel
theorem dX5_readSum_92 : decode cX5_readSum 92 = .ok (.ireturn, 1) := by decide +kernel
theorem dX5_readTerm_0 : decode cX5_readTerm 0 = .ok (.aload_n 0, 1) := by decide +kernel
theorem dX5_readTerm_1 : decode cX5_readTerm 1 = .ok (.iload_n 1, 1) := by decide +kernel
theorem dX5_readTerm_2 : decode cX5_readTerm 2 = .ok (.invokevirtual 199, 3) := by decide +kernel
theorem dX5_readTerm_5 : decode cX5_readTerm 5 = .ok (.ifCond .ne 5, 3) := by decide +kernel
theorem dX5_readTerm_8 : decode cX5_readTerm 8 = .ok (.iconst 0, 1) := by decide +kernel
theorem dX5_readTerm_9 : decode cX5_readTerm 9 = .ok (.ireturn, 1) := by decide +kernel
theorem dX5_readTerm_10 : decode cX5_readTerm 10 = .ok (.iconst 0, 1) := by decide +kernel
theorem dX5_readTerm_11 : decode cX5_readTerm 11 = .ok (.istore_n 2, 1) := by decide +kernel
theorem dX5_readTerm_12 : decode cX5_readTerm 12 = .ok (.iload_n 2, 1) := by decide +kernel
theorem dX5_readTerm_13 : decode cX5_readTerm 13 = .ok (.sipush 800, 3) := by decide +kernel
theorem dX5_readTerm_16 : decode cX5_readTerm 16 = .ok (.if_icmp .ge 75, 3) := by decide +kernel
theorem dX5_readTerm_19 : decode cX5_readTerm 19 = .ok (.aload_n 0, 1) := by decide +kernel
theorem dX5_readTerm_20 : decode cX5_readTerm 20 = .ok (.getfield 12, 3) := by decide +kernel
theorem dX5_readTerm_23 : decode cX5_readTerm 23 = .ok (.bipush 42, 2) := by decide +kernel
theorem dX5_readTerm_25 : decode cX5_readTerm 25 = .ok (.invokevirtual 196, 3) := by decide +kernel
theorem dX5_readTerm_28 : decode cX5_readTerm 28 = .ok (.ifCond .ne 15, 3) := by decide +kernel
theorem dX5_readTerm_31 : decode cX5_readTerm 31 = .ok (.aload_n 0, 1) := by decide +kernel
theorem dX5_readTerm_32 : decode cX5_readTerm 32 = .ok (.getfield 12, 3) := by decide +kernel
theorem dX5_readTerm_35 : decode cX5_readTerm 35 = .ok (.bipush 47, 2) := by decide +kernel
theorem dX5_readTerm_37 : decode cX5_readTerm 37 = .ok (.invokevirtual 196, 3) := by decide +kernel
theorem dX5_readTerm_40 : decode cX5_readTerm 40 = .ok (.ifCond .eq 51, 3) := by decide +kernel
theorem dX5_readTerm_43 : decode cX5_readTerm 43 = .ok (.aload_n 0, 1) := by decide +kernel
theorem dX5_readTerm_44 : decode cX5_readTerm 44 = .ok (.getfield 12, 3) := by decide +kernel
theorem dX5_readTerm_47 : decode cX5_readTerm 47 = .ok (.bipush 42, 2) := by decide +kernel
theorem dX5_readTerm_49 : decode cX5_readTerm 49 = .ok (.invokevirtual 196, 3) := by decide +kernel
theorem dX5_readTerm_52 : decode cX5_readTerm 52 = .ok (.ifCond .eq 8, 3) := by decide +kernel
theorem dX5_readTerm_55 : decode cX5_readTerm 55 = .ok (.bipush (-7), 2) := by decide +kernel
theorem dX5_readTerm_57 : decode cX5_readTerm 57 = .ok (.goto 5, 3) := by decide +kernel
theorem dX5_readTerm_60 : decode cX5_readTerm 60 = .ok (.bipush (-8), 2) := by decide +kernel
theorem dX5_readTerm_62 : decode cX5_readTerm 62 = .ok (.istore_n 3, 1) := by decide +kernel
theorem dX5_readTerm_63 : decode cX5_readTerm 63 = .ok (.aload_n 0, 1) := by decide +kernel
theorem dX5_readTerm_64 : decode cX5_readTerm 64 = .ok (.getfield 12, 3) := by decide +kernel
theorem dX5_readTerm_67 : decode cX5_readTerm 67 = .ok (.invokevirtual 141, 3) := by decide +kernel
theorem dX5_readTerm_70 : decode cX5_readTerm 70 = .ok (.aload_n 0, 1) := by decide +kernel
theorem dX5_readTerm_71 : decode cX5_readTerm 71 = .ok (.iload_n 1, 1) := by decide +kernel
theorem dX5_readTerm_72 : decode cX5_readTerm 72 = .ok (.invokevirtual 199, 3) := by decide +kernel
theorem dX5_readTerm_75 : decode cX5_readTerm 75 = .ok (.ifCond .ne 5, 3) := by decide +kernel
theorem dX5_readTerm_78 : decode cX5_readTerm 78 = .ok (.iconst 0, 1) := by decide +kernel
theorem dX5_readTerm_79 : decode cX5_readTerm 79 = .ok (.ireturn, 1) := by decide +kernel
theorem dX5_readTerm_80 : decode cX5_readTerm 80 = .ok (.aload_n 0, 1) := by decide +kernel
theorem dX5_readTerm_81 : decode cX5_readTerm 81 = .ok (.iload_n 3, 1) := by decide +kernel
theorem dX5_readTerm_82 : decode cX5_readTerm 82 = .ok (.invokevirtual 61, 3) := by decide +kernel
theorem dX5_readTerm_85 : decode cX5_readTerm 85 = .ok (.iinc 2 1, 3) := by decide +kernel
theorem dX5_readTerm_88 : decode cX5_readTerm 88 = .ok (.goto (-76), 3) := by decide +kernel
theorem dX5_readTerm_91 : decode cX5_readTerm 91 = .ok (.iconst 1, 1) := by decide +kernel
theorem dX5_readTerm_92 : decode cX5_readTerm 92 = .ok (.ireturn, 1) := by decide +kernel
theorem dX5_readFactor_0 : decode cX5_readFactor 0 = .ok (.aload_n 0, 1) := by decide +kernel
theorem dX5_readFactor_1 : decode cX5_readFactor 1 = .ok (.getfield 12, 3) := by decide +kernel
theorem dX5_readFactor_4 : decode cX5_readFactor 4 = .ok (.bipush 40, 2) := by decide +kernel
theorem dX5_readFactor_6 : decode cX5_readFactor 6 = .ok (.invokevirtual 196, 3) := by decide +kernel
theorem dX5_readFactor_9 : decode cX5_readFactor 9 = .ok (.ifCond .eq 47, 3) := by decide +kernel
theorem dX5_readFactor_12 : decode cX5_readFactor 12 = .ok (.iload_n 1, 1) := by decide +kernel
theorem dX5_readFactor_13 : decode cX5_readFactor 13 = .ok (.iconst 4, 1) := by decide +kernel
theorem dX5_readFactor_14 : decode cX5_readFactor 14 = .ok (.if_icmp .lt 10, 3) := by decide +kernel
theorem dX5_readFactor_17 : decode cX5_readFactor 17 = .ok (.aload_n 0, 1) := by decide +kernel
theorem dX5_readFactor_18 : decode cX5_readFactor 18 = .ok (.bipush (-7), 2) := by decide +kernel
theorem dX5_readFactor_20 : decode cX5_readFactor 20 = .ok (.invokevirtual 137, 3) := by decide +kernel
theorem dX5_readFactor_23 : decode cX5_readFactor 23 = .ok (.ireturn, 1) := by decide +kernel
theorem dX5_readFactor_24 : decode cX5_readFactor 24 = .ok (.aload_n 0, 1) := by decide +kernel
theorem dX5_readFactor_25 : decode cX5_readFactor 25 = .ok (.getfield 12, 3) := by decide +kernel
theorem dX5_readFactor_28 : decode cX5_readFactor 28 = .ok (.invokevirtual 141, 3) := by decide +kernel
theorem dX5_readFactor_31 : decode cX5_readFactor 31 = .ok (.aload_n 0, 1) := by decide +kernel
theorem dX5_readFactor_32 : decode cX5_readFactor 32 = .ok (.iload_n 1, 1) := by decide +kernel
theorem dX5_readFactor_33 : decode cX5_readFactor 33 = .ok (.iconst 1, 1) := by decide +kernel
theorem dX5_readFactor_34 : decode cX5_readFactor 34 = .ok (.iadd, 1) := by decide +kernel
theorem dX5_readFactor_35 : decode cX5_readFactor 35 = .ok (.invokevirtual 190, 3) := by decide +kernel
theorem dX5_readFactor_38 : decode cX5_readFactor 38 = .ok (.ifCond .eq 16, 3) := by decide +kernel
theorem dX5_readFactor_41 : decode cX5_readFactor 41 = .ok (.aload_n 0, 1) := by decide +kernel
theorem dX5_readFactor_42 : decode cX5_readFactor 42 = .ok (.bipush 41, 2) := by decide +kernel
theorem dX5_readFactor_44 : decode cX5_readFactor 44 = .ok (.invokevirtual 75, 3) := by decide +kernel
theorem dX5_readFactor_47 : decode cX5_readFactor 47 = .ok (.ifCond .eq 7, 3) := by decide +kernel
theorem dX5_readFactor_50 : decode cX5_readFactor 50 = .ok (.iconst 1, 1) := by decide +kernel
theorem dX5_readFactor_51 : decode cX5_readFactor 51 = .ok (.goto 4, 3) := by decide +kernel
theorem dX5_readFactor_54 : decode cX5_readFactor 54 = .ok (.iconst 0, 1) := by decide +kernel
theorem dX5_readFactor_55 : decode cX5_readFactor 55 = .ok (.ireturn, 1) := by decide +kernel
theorem dX5_readFactor_56 : decode cX5_readFactor 56 = .ok (.aload_n 0, 1) := by decide +kernel
theorem dX5_readFactor_57 : decode cX5_readFactor 57 = .ok (.getfield 12, 3) := by decide +kernel
theorem dX5_readFactor_60 : decode cX5_readFactor 60 = .ok (.getfield 79, 3) := by decide +kernel
theorem dX5_readFactor_63 : decode cX5_readFactor 63 = .ok (.iconst 2, 1) := by decide +kernel
theorem dX5_readFactor_64 : decode cX5_readFactor 64 = .ok (.if_icmp .ne 25, 3) := by decide +kernel
theorem dX5_readFactor_67 : decode cX5_readFactor 67 = .ok (.aload_n 0, 1) := by decide +kernel
theorem dX5_readFactor_68 : decode cX5_readFactor 68 = .ok (.sipush 9999, 3) := by decide +kernel
theorem dX5_readFactor_71 : decode cX5_readFactor 71 = .ok (.invokevirtual 151, 3) := by decide +kernel
theorem dX5_readFactor_74 : decode cX5_readFactor 74 = .ok (.ifCond .ne 5, 3) := by decide +kernel
theorem dX5_readFactor_77 : decode cX5_readFactor 77 = .ok (.iconst 0, 1) := by decide +kernel
theorem dX5_readFactor_78 : decode cX5_readFactor 78 = .ok (.ireturn, 1) := by decide +kernel
theorem dX5_readFactor_79 : decode cX5_readFactor 79 = .ok (.aload_n 0, 1) := by decide +kernel
theorem dX5_readFactor_80 : decode cX5_readFactor 80 = .ok (.aload_n 0, 1) := by decide +kernel
theorem dX5_readFactor_81 : decode cX5_readFactor 81 = .ok (.getfield 47, 3) := by decide +kernel
theorem dX5_readFactor_84 : decode cX5_readFactor 84 = .ok (.invokevirtual 61, 3) := by decide +kernel
theorem dX5_readFactor_87 : decode cX5_readFactor 87 = .ok (.iconst 1, 1) := by decide +kernel
theorem dX5_readFactor_88 : decode cX5_readFactor 88 = .ok (.ireturn, 1) := by decide +kernel
theorem dX5_readFactor_89 : decode cX5_readFactor 89 = .ok (.aload_n 0, 1) := by decide +kernel
theorem dX5_readFactor_90 : decode cX5_readFactor 90 = .ok (.invokevirtual 202, 3) := by decide +kernel
theorem dX5_readFactor_93 : decode cX5_readFactor 93 = .ok (.istore_n 2, 1) := by decide +kernel
theorem dX5_readFactor_94 : decode cX5_readFactor 94 = .ok (.iload_n 2, 1) := by decide +kernel
theorem dX5_readFactor_95 : decode cX5_readFactor 95 = .ok (.ifCond .ne 8, 3) := by decide +kernel
theorem dX5_readFactor_98 : decode cX5_readFactor 98 = .ok (.aload_n 0, 1) := by decide +kernel
theorem dX5_readFactor_99 : decode cX5_readFactor 99 = .ok (.invokevirtual 131, 3) := by decide +kernel
theorem dX5_readFactor_102 : decode cX5_readFactor 102 = .ok (.ireturn, 1) := by decide +kernel
theorem dX5_readFactor_103 : decode cX5_readFactor 103 = .ok (.aload_n 0, 1) := by decide +kernel
theorem dX5_readFactor_104 : decode cX5_readFactor 104 = .ok (.iload_n 2, 1) := by decide +kernel
theorem dX5_readFactor_105 : decode cX5_readFactor 105 = .ok (.invokevirtual 61, 3) := by decide +kernel
theorem dX5_readFactor_108 : decode cX5_readFactor 108 = .ok (.aload_n 0, 1) := by decide +kernel
theorem dX5_readFactor_109 : decode cX5_readFactor 109 = .ok (.getfield 12, 3) := by decide +kernel
theorem dX5_readFactor_112 : decode cX5_readFactor 112 = .ok (.invokevirtual 141, 3) := by decide +kernel
theorem dX5_readFactor_115 : decode cX5_readFactor 115 = .ok (.iconst 1, 1) := by decide +kernel
theorem dX5_readFactor_116 : decode cX5_readFactor 116 = .ok (.ireturn, 1) := by decide +kernel
theorem dX5_quantityCode_0 : decode cX5_quantityCode 0 = .ok (.aload_n 0, 1) := by decide +kernel
theorem dX5_quantityCode_1 : decode cX5_quantityCode 1 = .ok (.getfield 12, 3) := by decide +kernel
theorem dX5_quantityCode_4 : decode cX5_quantityCode 4 = .ok (.ldc 206, 2) := by decide +kernel
theorem dX5_quantityCode_6 : decode cX5_quantityCode 6 = .ok (.invokevirtual 101, 3) := by decide +kernel
theorem dX5_quantityCode_9 : decode cX5_quantityCode 9 = .ok (.ifCond .eq 5, 3) := by decide +kernel
theorem dX5_quantityCode_12 : decode cX5_quantityCode 12 = .ok (.iconst (-1), 1) := by decide +kernel
theorem dX5_quantityCode_13 : decode cX5_quantityCode 13 = .ok (.ireturn, 1) := by decide +kernel
theorem dX5_quantityCode_14 : decode cX5_quantityCode 14 = .ok (.aload_n 0, 1) := by decide +kernel
theorem dX5_quantityCode_15 : decode cX5_quantityCode 15 = .ok (.getfield 12, 3) := by decide +kernel
theorem dX5_quantityCode_18 : decode cX5_quantityCode 18 = .ok (.ldc 208, 2) := by decide +kernel
theorem dX5_quantityCode_20 : decode cX5_quantityCode 20 = .ok (.invokevirtual 101, 3) := by decide +kernel
theorem dX5_quantityCode_23 : decode cX5_quantityCode 23 = .ok (.ifCond .eq 6, 3) := by decide +kernel
theorem dX5_quantityCode_26 : decode cX5_quantityCode 26 = .ok (.bipush (-2), 2) := by decide +kernel
theorem dX5_quantityCode_28 : decode cX5_quantityCode 28 = .ok (.ireturn, 1) := by decide +kernel
theorem dX5_quantityCode_29 : decode cX5_quantityCode 29 = .ok (.aload_n 0, 1) := by decide +kernel
theorem dX5_quantityCode_30 : decode cX5_quantityCode 30 = .ok (.getfield 12, 3) := by decide +kernel
theorem dX5_quantityCode_33 : decode cX5_quantityCode 33 = .ok (.ldc 210, 2) := by decide +kernel
theorem dX5_quantityCode_35 : decode cX5_quantityCode 35 = .ok (.invokevirtual 101, 3) := by decide +kernel
theorem dX5_quantityCode_38 : decode cX5_quantityCode 38 = .ok (.ifCond .eq 6, 3) := by decide +kernel
theorem dX5_quantityCode_41 : decode cX5_quantityCode 41 = .ok (.bipush (-3), 2) := by decide +kernel
theorem dX5_quantityCode_43 : decode cX5_quantityCode 43 = .ok (.ireturn, 1) := by decide +kernel
theorem dX5_quantityCode_44 : decode cX5_quantityCode 44 = .ok (.aload_n 0, 1) := by decide +kernel
theorem dX5_quantityCode_45 : decode cX5_quantityCode 45 = .ok (.getfield 12, 3) := by decide +kernel
theorem dX5_quantityCode_48 : decode cX5_quantityCode 48 = .ok (.ldc 211, 2) := by decide +kernel
theorem dX5_quantityCode_50 : decode cX5_quantityCode 50 = .ok (.invokevirtual 101, 3) := by decide +kernel
theorem dX5_quantityCode_53 : decode cX5_quantityCode 53 = .ok (.ifCond .eq 8, 3) := by decide +kernel
theorem dX5_quantityCode_56 : decode cX5_quantityCode 56 = .ok (.bipush (-4), 2) := by decide +kernel
theorem dX5_quantityCode_58 : decode cX5_quantityCode 58 = .ok (.goto 4, 3) := by decide +kernel
theorem dX5_quantityCode_61 : decode cX5_quantityCode 61 = .ok (.iconst 0, 1) := by decide +kernel
theorem dX5_quantityCode_62 : decode cX5_quantityCode 62 = .ok (.ireturn, 1) := by decide +kernel
theorem dX5_addCode_0 : decode cX5_addCode 0 = .ok (.aload_n 0, 1) := by decide +kernel
theorem dX5_addCode_1 : decode cX5_addCode 1 = .ok (.getfield 36, 3) := by decide +kernel
theorem dX5_addCode_4 : decode cX5_addCode 4 = .ok (.sipush 800, 3) := by decide +kernel
theorem dX5_addCode_7 : decode cX5_addCode 7 = .ok (.if_icmp .ge 23, 3) := by decide +kernel
theorem dX5_addCode_10 : decode cX5_addCode 10 = .ok (.aload_n 0, 1) := by decide +kernel
theorem dX5_addCode_11 : decode cX5_addCode 11 = .ok (.getfield 32, 3) := by decide +kernel
theorem dX5_addCode_14 : decode cX5_addCode 14 = .ok (.aload_n 0, 1) := by decide +kernel
theorem dX5_addCode_15 : decode cX5_addCode 15 = .ok (.getfield 36, 3) := by decide +kernel
theorem dX5_addCode_18 : decode cX5_addCode 18 = .ok (.iload_n 1, 1) := by decide +kernel
theorem dX5_addCode_19 : decode cX5_addCode 19 = .ok (.iastore, 1) := by decide +kernel
theorem dX5_addCode_20 : decode cX5_addCode 20 = .ok (.aload_n 0, 1) := by decide +kernel
theorem dX5_addCode_21 : decode cX5_addCode 21 = .ok (.dup, 1) := by decide +kernel
theorem dX5_addCode_22 : decode cX5_addCode 22 = .ok (.getfield 36, 3) := by decide +kernel
theorem dX5_addCode_25 : decode cX5_addCode 25 = .ok (.iconst 1, 1) := by decide +kernel
theorem dX5_addCode_26 : decode cX5_addCode 26 = .ok (.iadd, 1) := by decide +kernel
theorem dX5_addCode_27 : decode cX5_addCode 27 = .ok (.putfield 36, 3) := by decide +kernel
theorem dX5_addCode_30 : decode cX5_addCode 30 = .ok (.return_, 1) := by decide +kernel
theorem dX5_readKeyword_0 : decode cX5_readKeyword 0 = .ok (.aload_n 0, 1) := by decide +kernel
theorem dX5_readKeyword_1 : decode cX5_readKeyword 1 = .ok (.getfield 12, 3) := by decide +kernel
theorem dX5_readKeyword_4 : decode cX5_readKeyword 4 = .ok (.aload_n 1, 1) := by decide +kernel
theorem dX5_readKeyword_5 : decode cX5_readKeyword 5 = .ok (.invokevirtual 101, 3) := by decide +kernel
theorem dX5_readKeyword_8 : decode cX5_readKeyword 8 = .ok (.ifCond .ne 8, 3) := by decide +kernel
theorem dX5_readKeyword_11 : decode cX5_readKeyword 11 = .ok (.aload_n 0, 1) := by decide +kernel
theorem dX5_readKeyword_12 : decode cX5_readKeyword 12 = .ok (.invokevirtual 131, 3) := by decide +kernel
theorem dX5_readKeyword_15 : decode cX5_readKeyword 15 = .ok (.ireturn, 1) := by decide +kernel
theorem dX5_readKeyword_16 : decode cX5_readKeyword 16 = .ok (.aload_n 0, 1) := by decide +kernel
theorem dX5_readKeyword_17 : decode cX5_readKeyword 17 = .ok (.getfield 12, 3) := by decide +kernel
theorem dX5_readKeyword_20 : decode cX5_readKeyword 20 = .ok (.invokevirtual 141, 3) := by decide +kernel
theorem dX5_readKeyword_23 : decode cX5_readKeyword 23 = .ok (.iconst 1, 1) := by decide +kernel
theorem dX5_readKeyword_24 : decode cX5_readKeyword 24 = .ok (.ireturn, 1) := by decide +kernel
theorem dX5_readSign_0 : decode cX5_readSign 0 = .ok (.aload_n 0, 1) := by decide +kernel
theorem dX5_readSign_1 : decode cX5_readSign 1 = .ok (.getfield 12, 3) := by decide +kernel
theorem dX5_readSign_4 : decode cX5_readSign 4 = .ok (.iload_n 1, 1) := by decide +kernel
theorem dX5_readSign_5 : decode cX5_readSign 5 = .ok (.invokevirtual 196, 3) := by decide +kernel
theorem dX5_readSign_8 : decode cX5_readSign 8 = .ok (.ifCond .ne 8, 3) := by decide +kernel
theorem dX5_readSign_11 : decode cX5_readSign 11 = .ok (.aload_n 0, 1) := by decide +kernel
theorem dX5_readSign_12 : decode cX5_readSign 12 = .ok (.invokevirtual 131, 3) := by decide +kernel
theorem dX5_readSign_15 : decode cX5_readSign 15 = .ok (.ireturn, 1) := by decide +kernel
theorem dX5_readSign_16 : decode cX5_readSign 16 = .ok (.aload_n 0, 1) := by decide +kernel
theorem dX5_readSign_17 : decode cX5_readSign 17 = .ok (.getfield 12, 3) := by decide +kernel
theorem dX5_readSign_20 : decode cX5_readSign 20 = .ok (.invokevirtual 141, 3) := by decide +kernel
theorem dX5_readSign_23 : decode cX5_readSign 23 = .ok (.iconst 1, 1) := by decide +kernel
theorem dX5_readSign_24 : decode cX5_readSign 24 = .ok (.ireturn, 1) := by decide +kernel
theorem dX5_readNumber_0 : decode cX5_readNumber 0 = .ok (.aload_n 0, 1) := by decide +kernel
theorem dX5_readNumber_1 : decode cX5_readNumber 1 = .ok (.getfield 12, 3) := by decide +kernel
theorem dX5_readNumber_4 : decode cX5_readNumber 4 = .ok (.getfield 79, 3) := by decide +kernel
theorem dX5_readNumber_7 : decode cX5_readNumber 7 = .ok (.iconst 2, 1) := by decide +kernel
theorem dX5_readNumber_8 : decode cX5_readNumber 8 = .ok (.if_icmp .eq 8, 3) := by decide +kernel
theorem dX5_readNumber_11 : decode cX5_readNumber 11 = .ok (.aload_n 0, 1) := by decide +kernel
theorem dX5_readNumber_12 : decode cX5_readNumber 12 = .ok (.invokevirtual 131, 3) := by decide +kernel
theorem dX5_readNumber_15 : decode cX5_readNumber 15 = .ok (.ireturn, 1) := by decide +kernel
theorem dX5_readNumber_16 : decode cX5_readNumber 16 = .ok (.aload_n 0, 1) := by decide +kernel
theorem dX5_readNumber_17 : decode cX5_readNumber 17 = .ok (.getfield 12, 3) := by decide +kernel
theorem dX5_readNumber_20 : decode cX5_readNumber 20 = .ok (.getfield 213, 3) := by decide +kernel
theorem dX5_readNumber_23 : decode cX5_readNumber 23 = .ok (.iload_n 1, 1) := by decide +kernel
theorem dX5_readNumber_24 : decode cX5_readNumber 24 = .ok (.if_icmp .le 10, 3) := by decide +kernel
theorem dX5_readNumber_27 : decode cX5_readNumber 27 = .ok (.aload_n 0, 1) := by decide +kernel
theorem dX5_readNumber_28 : decode cX5_readNumber 28 = .ok (.bipush (-3), 2) := by decide +kernel
theorem dX5_readNumber_30 : decode cX5_readNumber 30 = .ok (.invokevirtual 137, 3) := by decide +kernel
theorem dX5_readNumber_33 : decode cX5_readNumber 33 = .ok (.ireturn, 1) := by decide +kernel
theorem dX5_readNumber_34 : decode cX5_readNumber 34 = .ok (.aload_n 0, 1) := by decide +kernel
theorem dX5_readNumber_35 : decode cX5_readNumber 35 = .ok (.aload_n 0, 1) := by decide +kernel
theorem dX5_readNumber_36 : decode cX5_readNumber 36 = .ok (.getfield 12, 3) := by decide +kernel
theorem dX5_readNumber_39 : decode cX5_readNumber 39 = .ok (.getfield 213, 3) := by decide +kernel
theorem dX5_readNumber_42 : decode cX5_readNumber 42 = .ok (.putfield 47, 3) := by decide +kernel
theorem dX5_readNumber_45 : decode cX5_readNumber 45 = .ok (.aload_n 0, 1) := by decide +kernel
theorem dX5_readNumber_46 : decode cX5_readNumber 46 = .ok (.getfield 12, 3) := by decide +kernel
theorem dX5_readNumber_49 : decode cX5_readNumber 49 = .ok (.invokevirtual 141, 3) := by decide +kernel
theorem dX5_readNumber_52 : decode cX5_readNumber 52 = .ok (.iconst 1, 1) := by decide +kernel
theorem dX5_readNumber_53 : decode cX5_readNumber 53 = .ok (.ireturn, 1) := by decide +kernel
theorem dX5_readNewWord_0 : decode cX5_readNewWord 0 = .ok (.aload_n 0, 1) := by decide +kernel
theorem dX5_readNewWord_1 : decode cX5_readNewWord 1 = .ok (.getfield 12, 3) := by decide +kernel
theorem dX5_readNewWord_4 : decode cX5_readNewWord 4 = .ok (.getfield 79, 3) := by decide +kernel
theorem dX5_readNewWord_7 : decode cX5_readNewWord 7 = .ok (.iconst 1, 1) := by decide +kernel
theorem dX5_readNewWord_8 : decode cX5_readNewWord 8 = .ok (.if_icmp .eq 8, 3) := by decide +kernel
theorem dX5_readNewWord_11 : decode cX5_readNewWord 11 = .ok (.aload_n 0, 1) := by decide +kernel
theorem dX5_readNewWord_12 : decode cX5_readNewWord 12 = .ok (.invokevirtual 131, 3) := by decide +kernel
theorem dX5_readNewWord_15 : decode cX5_readNewWord 15 = .ok (.ireturn, 1) := by decide +kernel
theorem dX5_readNewWord_16 : decode cX5_readNewWord 16 = .ok (.aload_n 0, 1) := by decide +kernel
theorem dX5_readNewWord_17 : decode cX5_readNewWord 17 = .ok (.aload_n 1, 1) := by decide +kernel
theorem dX5_readNewWord_18 : decode cX5_readNewWord 18 = .ok (.iload_n 2, 1) := by decide +kernel
theorem dX5_readNewWord_19 : decode cX5_readNewWord 19 = .ok (.invokevirtual 216, 3) := by decide +kernel
theorem dX5_readNewWord_22 : decode cX5_readNewWord 22 = .ok (.iconst (-1), 1) := by decide +kernel
theorem dX5_readNewWord_23 : decode cX5_readNewWord 23 = .ok (.if_icmp .eq 10, 3) := by decide +kernel
theorem dX5_readNewWord_26 : decode cX5_readNewWord 26 = .ok (.aload_n 0, 1) := by decide +kernel
theorem dX5_readNewWord_27 : decode cX5_readNewWord 27 = .ok (.bipush (-5), 2) := by decide +kernel
theorem dX5_readNewWord_29 : decode cX5_readNewWord 29 = .ok (.invokevirtual 137, 3) := by decide +kernel
theorem dX5_readNewWord_32 : decode cX5_readNewWord 32 = .ok (.ireturn, 1) := by decide +kernel
theorem dX5_readNewWord_33 : decode cX5_readNewWord 33 = .ok (.aload_n 1, 1) := by decide +kernel
theorem dX5_readNewWord_34 : decode cX5_readNewWord 34 = .ok (.iload_n 2, 1) := by decide +kernel
theorem dX5_readNewWord_35 : decode cX5_readNewWord 35 = .ok (.aload_n 0, 1) := by decide +kernel
theorem dX5_readNewWord_36 : decode cX5_readNewWord 36 = .ok (.getfield 12, 3) := by decide +kernel
theorem dX5_readNewWord_39 : decode cX5_readNewWord 39 = .ok (.getfield 220, 3) := by decide +kernel
theorem dX5_readNewWord_42 : decode cX5_readNewWord 42 = .ok (.lastore, 1) := by decide +kernel
theorem dX5_readNewWord_43 : decode cX5_readNewWord 43 = .ok (.aload_n 0, 1) := by decide +kernel
theorem dX5_readNewWord_44 : decode cX5_readNewWord 44 = .ok (.getfield 12, 3) := by decide +kernel
theorem dX5_readNewWord_47 : decode cX5_readNewWord 47 = .ok (.invokevirtual 141, 3) := by decide +kernel
theorem dX5_readNewWord_50 : decode cX5_readNewWord 50 = .ok (.iconst 1, 1) := by decide +kernel
theorem dX5_readNewWord_51 : decode cX5_readNewWord 51 = .ok (.ireturn, 1) := by decide +kernel
theorem dX5_findLibrary_0 : decode cX5_findLibrary 0 = .ok (.aload_n 0, 1) := by decide +kernel
theorem dX5_findLibrary_1 : decode cX5_findLibrary 1 = .ok (.aload_n 0, 1) := by decide +kernel
theorem dX5_findLibrary_2 : decode cX5_findLibrary 2 = .ok (.getfield 25, 3) := by decide +kernel
theorem dX5_findLibrary_5 : decode cX5_findLibrary 5 = .ok (.aload_n 0, 1) := by decide +kernel
theorem dX5_findLibrary_6 : decode cX5_findLibrary 6 = .ok (.getfield 21, 3) := by decide +kernel
theorem dX5_findLibrary_9 : decode cX5_findLibrary 9 = .ok (.getfield 148, 3) := by decide +kernel
theorem dX5_findLibrary_12 : decode cX5_findLibrary 12 = .ok (.invokevirtual 224, 3) := by decide +kernel
theorem dX5_findLibrary_15 : decode cX5_findLibrary 15 = .ok (.ireturn, 1) := by decide +kernel
theorem dX5_findName_0 : decode cX5_findName 0 = .ok (.aload_n 0, 1) := by decide +kernel
theorem dX5_findName_1 : decode cX5_findName 1 = .ok (.aload_n 0, 1) := by decide +kernel
theorem dX5_findName_2 : decode cX5_findName 2 = .ok (.getfield 29, 3) := by decide +kernel
theorem dX5_findName_5 : decode cX5_findName 5 = .ok (.aload_n 0, 1) := by decide +kernel
theorem dX5_findName_6 : decode cX5_findName 6 = .ok (.getfield 21, 3) := by decide +kernel
theorem dX5_findName_9 : decode cX5_findName 9 = .ok (.getfield 134, 3) := by decide +kernel
theorem dX5_findName_12 : decode cX5_findName 12 = .ok (.invokevirtual 224, 3) := by decide +kernel
theorem dX5_findName_15 : decode cX5_findName 15 = .ok (.ireturn, 1) := by decide +kernel
theorem dX5_findWord_0 : decode cX5_findWord 0 = .ok (.aload_n 0, 1) := by decide +kernel
theorem dX5_findWord_1 : decode cX5_findWord 1 = .ok (.getfield 12, 3) := by decide +kernel
theorem dX5_findWord_4 : decode cX5_findWord 4 = .ok (.getfield 79, 3) := by decide +kernel
theorem dX5_findWord_7 : decode cX5_findWord 7 = .ok (.iconst 1, 1) := by decide +kernel
theorem dX5_findWord_8 : decode cX5_findWord 8 = .ok (.if_icmp .eq 8, 3) := by decide +kernel
theorem dX5_findWord_11 : decode cX5_findWord 11 = .ok (.aload_n 0, 1) := by decide +kernel
theorem dX5_findWord_12 : decode cX5_findWord 12 = .ok (.invokevirtual 131, 3) := by decide +kernel
theorem dX5_findWord_15 : decode cX5_findWord 15 = .ok (.ireturn, 1) := by decide +kernel
theorem dX5_findWord_16 : decode cX5_findWord 16 = .ok (.aload_n 0, 1) := by decide +kernel
theorem dX5_findWord_17 : decode cX5_findWord 17 = .ok (.aload_n 1, 1) := by decide +kernel
theorem dX5_findWord_18 : decode cX5_findWord 18 = .ok (.iload_n 2, 1) := by decide +kernel
theorem dX5_findWord_19 : decode cX5_findWord 19 = .ok (.invokevirtual 216, 3) := by decide +kernel
theorem dX5_findWord_22 : decode cX5_findWord 22 = .ok (.istore_n 3, 1) := by decide +kernel
theorem dX5_findWord_23 : decode cX5_findWord 23 = .ok (.iload_n 3, 1) := by decide +kernel
theorem dX5_findWord_24 : decode cX5_findWord 24 = .ok (.iconst (-1), 1) := by decide +kernel
theorem dX5_findWord_25 : decode cX5_findWord 25 = .ok (.if_icmp .ne 10, 3) := by decide +kernel
theorem dX5_findWord_28 : decode cX5_findWord 28 = .ok (.aload_n 0, 1) := by decide +kernel
theorem dX5_findWord_29 : decode cX5_findWord 29 = .ok (.bipush (-4), 2) := by decide +kernel
theorem dX5_findWord_31 : decode cX5_findWord 31 = .ok (.invokevirtual 137, 3) := by decide +kernel
theorem dX5_findWord_34 : decode cX5_findWord 34 = .ok (.ireturn, 1) := by decide +kernel
theorem dX5_findWord_35 : decode cX5_findWord 35 = .ok (.aload_n 0, 1) := by decide +kernel
theorem dX5_findWord_36 : decode cX5_findWord 36 = .ok (.iload_n 3, 1) := by decide +kernel
theorem dX5_findWord_37 : decode cX5_findWord 37 = .ok (.putfield 47, 3) := by decide +kernel
theorem dX5_findWord_40 : decode cX5_findWord 40 = .ok (.iconst 1, 1) := by decide +kernel
theorem dX5_findWord_41 : decode cX5_findWord 41 = .ok (.ireturn, 1) := by decide +kernel
theorem dX5_indexOfWord_0 : decode cX5_indexOfWord 0 = .ok (.iconst 0, 1) := by decide +kernel
theorem dX5_indexOfWord_1 : decode cX5_indexOfWord 1 = .ok (.istore_n 3, 1) := by decide +kernel
theorem dX5_indexOfWord_2 : decode cX5_indexOfWord 2 = .ok (.iload_n 3, 1) := by decide +kernel
theorem dX5_indexOfWord_3 : decode cX5_indexOfWord 3 = .ok (.iload_n 2, 1) := by decide +kernel
theorem dX5_indexOfWord_4 : decode cX5_indexOfWord 4 = .ok (.if_icmp .ge 25, 3) := by decide +kernel
theorem dX5_indexOfWord_7 : decode cX5_indexOfWord 7 = .ok (.aload_n 1, 1) := by decide +kernel
theorem dX5_indexOfWord_8 : decode cX5_indexOfWord 8 = .ok (.iload_n 3, 1) := by decide +kernel
theorem dX5_indexOfWord_9 : decode cX5_indexOfWord 9 = .ok (.laload, 1) := by decide +kernel
theorem dX5_indexOfWord_10 : decode cX5_indexOfWord 10 = .ok (.aload_n 0, 1) := by decide +kernel
theorem dX5_indexOfWord_11 : decode cX5_indexOfWord 11 = .ok (.getfield 12, 3) := by decide +kernel
theorem dX5_indexOfWord_14 : decode cX5_indexOfWord 14 = .ok (.getfield 220, 3) := by decide +kernel
theorem dX5_indexOfWord_17 : decode cX5_indexOfWord 17 = .ok (.lcmp, 1) := by decide +kernel
theorem dX5_indexOfWord_18 : decode cX5_indexOfWord 18 = .ok (.ifCond .ne 5, 3) := by decide +kernel
theorem dX5_indexOfWord_21 : decode cX5_indexOfWord 21 = .ok (.iload_n 3, 1) := by decide +kernel
theorem dX5_indexOfWord_22 : decode cX5_indexOfWord 22 = .ok (.ireturn, 1) := by decide +kernel
theorem dX5_indexOfWord_23 : decode cX5_indexOfWord 23 = .ok (.iinc 3 1, 3) := by decide +kernel
theorem dX5_indexOfWord_26 : decode cX5_indexOfWord 26 = .ok (.goto (-24), 3) := by decide +kernel
theorem dX5_indexOfWord_29 : decode cX5_indexOfWord 29 = .ok (.iconst (-1), 1) := by decide +kernel
theorem dX5_indexOfWord_30 : decode cX5_indexOfWord 30 = .ok (.ireturn, 1) := by decide +kernel
theorem dX5_syntaxError_0 : decode cX5_syntaxError 0 = .ok (.aload_n 0, 1) := by decide +kernel
theorem dX5_syntaxError_1 : decode cX5_syntaxError 1 = .ok (.bipush (-2), 2) := by decide +kernel
theorem dX5_syntaxError_3 : decode cX5_syntaxError 3 = .ok (.invokevirtual 137, 3) := by decide +kernel
theorem dX5_syntaxError_6 : decode cX5_syntaxError 6 = .ok (.ireturn, 1) := by decide +kernel
theorem dX5_error_0 : decode cX5_error 0 = .ok (.aload_n 0, 1) := by decide +kernel
theorem dX5_error_1 : decode cX5_error 1 = .ok (.iload_n 1, 1) := by decide +kernel
theorem dX5_error_2 : decode cX5_error 2 = .ok (.putfield 50, 3) := by decide +kernel
theorem dX5_error_5 : decode cX5_error 5 = .ok (.aload_n 0, 1) := by decide +kernel
theorem dX5_error_6 : decode cX5_error 6 = .ok (.aload_n 0, 1) := by decide +kernel
theorem dX5_error_7 : decode cX5_error 7 = .ok (.getfield 12, 3) := by decide +kernel
theorem dX5_error_10 : decode cX5_error 10 = .ok (.getfield 227, 3) := by decide +kernel
theorem dX5_error_13 : decode cX5_error 13 = .ok (.putfield 53, 3) := by decide +kernel
theorem dX5_error_16 : decode cX5_error 16 = .ok (.iconst 0, 1) := by decide +kernel
theorem dX5_error_17 : decode cX5_error 17 = .ok (.ireturn, 1) := by decide +kernel
end
section
theorem dX6_init_0 : decode cX6_init 0 = .ok (.aload_n 0, 1) := by decide +kernel
theorem dX6_init_1 : decode cX6_init 1 = .ok (.invokespecial 3, 3) := by decide +kernel
theorem dX6_init_4 : decode cX6_init 4 = .ok (.aload_n 0, 1) := by decide +kernel
theorem dX6_init_5 : decode cX6_init 5 = .ok (.sipush 800, 3) := by decide +kernel
theorem dX6_init_8 : decode cX6_init 8 = .ok (.newarray .byte, 2) := by decide +kernel
theorem dX6_init_10 : decode cX6_init 10 = .ok (.putfield 9, 3) := by decide +kernel
theorem dX6_init_13 : decode cX6_init 13 = .ok (.aload_n 0, 1) := by decide +kernel
theorem dX6_init_14 : decode cX6_init 14 = .ok (.iconst 0, 1) := by decide +kernel
theorem dX6_init_15 : decode cX6_init 15 = .ok (.putfield 15, 3) := by decide +kernel
theorem dX6_init_18 : decode cX6_init 18 = .ok (.aload_n 0, 1) := by decide +kernel
theorem dX6_init_19 : decode cX6_init 19 = .ok (.iconst 0, 1) := by decide +kernel
theorem dX6_init_20 : decode cX6_init 20 = .ok (.putfield 19, 3) := by decide +kernel
theorem dX6_init_23 : decode cX6_init 23 = .ok (.aload_n 0, 1) := by decide +kernel
theorem dX6_init_24 : decode cX6_init 24 = .ok (.iconst 0, 1) := by decide +kernel
theorem dX6_init_25 : decode cX6_init 25 = .ok (.putfield 22, 3) := by decide +kernel
theorem dX6_init_28 : decode cX6_init 28 = .ok (.aload_n 0, 1) := by decide +kernel
theorem dX6_init_29 : decode cX6_init 29 = .ok (.iconst 0, 1) := by decide +kernel
theorem dX6_init_30 : decode cX6_init 30 = .ok (.putfield 25, 3) := by decide +kernel
theorem dX6_init_33 : decode cX6_init 33 = .ok (.aload_n 0, 1) := by decide +kernel
theorem dX6_init_34 : decode cX6_init 34 = .ok (.lconst 0, 1) := by decide +kernel
theorem dX6_init_35 : decode cX6_init 35 = .ok (.putfield 28, 3) := by decide +kernel
theorem dX6_init_38 : decode cX6_init 38 = .ok (.aload_n 0, 1) := by decide +kernel
theorem dX6_init_39 : decode cX6_init 39 = .ok (.iconst 0, 1) := by decide +kernel
theorem dX6_init_40 : decode cX6_init 40 = .ok (.putfield 32, 3) := by decide +kernel
theorem dX6_init_43 : decode cX6_init 43 = .ok (.aload_n 0, 1) := by decide +kernel
theorem dX6_init_44 : decode cX6_init 44 = .ok (.iconst 0, 1) := by decide +kernel
theorem dX6_init_45 : decode cX6_init 45 = .ok (.putfield 35, 3) := by decide +kernel
theorem dX6_init_48 : decode cX6_init 48 = .ok (.return_, 1) := by decide +kernel
theorem dX6_startText_0 : decode cX6_startText 0 = .ok (.aload_n 0, 1) := by decide +kernel
theorem dX6_startText_1 : decode cX6_startText 1 = .ok (.iload_n 2, 1) := by decide +kernel
theorem dX6_startText_2 : decode cX6_startText 2 = .ok (.sipush 800, 3) := by decide +kernel
theorem dX6_startText_5 : decode cX6_startText 5 = .ok (.invokestatic 38, 3) := by decide +kernel
theorem dX6_startText_8 : decode cX6_startText 8 = .ok (.putfield 15, 3) := by decide +kernel
theorem dX6_startText_11 : decode cX6_startText 11 = .ok (.aload_n 1, 1) := by decide +kernel
theorem dX6_startText_12 : decode cX6_startText 12 = .ok (.iconst 0, 1) := by decide +kernel
theorem dX6_startText_13 : decode cX6_startText 13 = .ok (.aload_n 0, 1) := by decide +kernel
theorem dX6_startText_14 : decode cX6_startText 14 = .ok (.getfield 9, 3) := by decide +kernel
theorem dX6_startText_17 : decode cX6_startText 17 = .ok (.iconst 0, 1) := by decide +kernel
theorem dX6_startText_18 : decode cX6_startText 18 = .ok (.aload_n 0, 1) := by decide +kernel
theorem dX6_startText_19 : decode cX6_startText 19 = .ok (.getfield 15, 3) := by decide +kernel
theorem dX6_startText_22 : decode cX6_startText 22 = .ok (.invokestatic 44, 3) := by decide +kernel
theorem dX6_startText_25 : decode cX6_startText 25 = .ok (.aload_n 0, 1) := by decide +kernel
theorem dX6_startText_26 : decode cX6_startText 26 = .ok (.iconst 0, 1) := by decide +kernel
theorem dX6_startText_27 : decode cX6_startText 27 = .ok (.putfield 19, 3) := by decide +kernel
theorem dX6_startText_30 : decode cX6_startText 30 = .ok (.aload_n 0, 1) := by decide +kernel
theorem dX6_startText_31 : decode cX6_startText 31 = .ok (.invokevirtual 50, 3) := by decide +kernel
theorem dX6_startText_34 : decode cX6_startText 34 = .ok (.return_, 1) := by decide +kernel
theorem dX6_advance_0 : decode cX6_advance 0 = .ok (.aload_n 0, 1) := by decide +kernel
theorem dX6_advance_1 : decode cX6_advance 1 = .ok (.getfield 19, 3) := by decide +kernel
theorem dX6_advance_4 : decode cX6_advance 4 = .ok (.aload_n 0, 1) := by decide +kernel
theorem dX6_advance_5 : decode cX6_advance 5 = .ok (.getfield 15, 3) := by decide +kernel
theorem dX6_advance_8 : decode cX6_advance 8 = .ok (.if_icmp .ge 30, 3) := by decide +kernel
theorem dX6_advance_11 : decode cX6_advance 11 = .ok (.aload_n 0, 1) := by decide +kernel
theorem dX6_advance_12 : decode cX6_advance 12 = .ok (.getfield 9, 3) := by decide +kernel
theorem dX6_advance_15 : decode cX6_advance 15 = .ok (.aload_n 0, 1) := by decide +kernel
theorem dX6_advance_16 : decode cX6_advance 16 = .ok (.getfield 19, 3) := by decide +kernel
theorem dX6_advance_19 : decode cX6_advance 19 = .ok (.baload, 1) := by decide +kernel
theorem dX6_advance_20 : decode cX6_advance 20 = .ok (.bipush 32, 2) := by decide +kernel
theorem dX6_advance_22 : decode cX6_advance 22 = .ok (.if_icmp .ne 16, 3) := by decide +kernel
theorem dX6_advance_25 : decode cX6_advance 25 = .ok (.aload_n 0, 1) := by decide +kernel
theorem dX6_advance_26 : decode cX6_advance 26 = .ok (.dup, 1) := by decide +kernel
theorem dX6_advance_27 : decode cX6_advance 27 = .ok (.getfield 19, 3) := by decide +kernel
theorem dX6_advance_30 : decode cX6_advance 30 = .ok (.iconst 1, 1) := by decide +kernel
theorem dX6_advance_31 : decode cX6_advance 31 = .ok (.iadd, 1) := by decide +kernel
theorem dX6_advance_32 : decode cX6_advance 32 = .ok (.putfield 19, 3) := by decide +kernel
theorem dX6_advance_35 : decode cX6_advance 35 = .ok (.goto (-35), 3) := by decide +kernel
theorem dX6_advance_38 : decode cX6_advance 38 = .ok (.aload_n 0, 1) := by decide +kernel
theorem dX6_advance_39 : decode cX6_advance 39 = .ok (.aload_n 0, 1) := by decide +kernel
theorem dX6_advance_40 : decode cX6_advance 40 = .ok (.getfield 19, 3) := by decide +kernel
theorem dX6_advance_43 : decode cX6_advance 43 = .ok (.putfield 25, 3) := by decide +kernel
theorem dX6_advance_46 : decode cX6_advance 46 = .ok (.aload_n 0, 1) := by decide +kernel
theorem dX6_advance_47 : decode cX6_advance 47 = .ok (.bipush 97, 2) := by decide +kernel
theorem dX6_advance_49 : decode cX6_advance 49 = .ok (.bipush 122, 2) := by decide +kernel
theorem dX6_advance_51 : decode cX6_advance 51 = .ok (.invokevirtual 53, 3) := by decide +kernel
theorem dX6_advance_54 : decode cX6_advance 54 = .ok (.istore_n 1, 1) := by decide +kernel
theorem dX6_advance_55 : decode cX6_advance 55 = .ok (.aload_n 0, 1) := by decide +kernel
theorem dX6_advance_56 : decode cX6_advance 56 = .ok (.bipush 48, 2) := by decide +kernel
theorem dX6_advance_58 : decode cX6_advance 58 = .ok (.bipush 57, 2) := by decide +kernel
theorem dX6_advance_60 : decode cX6_advance 60 = .ok (.invokevirtual 53, 3) := by decide +kernel
theorem dX6_advance_63 : decode cX6_advance 63 = .ok (.istore_n 2, 1) := by decide +kernel
theorem dX6_advance_64 : decode cX6_advance 64 = .ok (.aload_n 0, 1) := by decide +kernel
theorem dX6_advance_65 : decode cX6_advance 65 = .ok (.getfield 19, 3) := by decide +kernel
theorem dX6_advance_68 : decode cX6_advance 68 = .ok (.aload_n 0, 1) := by decide +kernel
theorem dX6_advance_69 : decode cX6_advance 69 = .ok (.getfield 15, 3) := by decide +kernel
theorem dX6_advance_72 : decode cX6_advance 72 = .ok (.if_icmp .lt 11, 3) := by decide +kernel
theorem dX6_advance_75 : decode cX6_advance 75 = .ok (.aload_n 0, 1) := by decide +kernel
theorem dX6_advance_76 : decode cX6_advance 76 = .ok (.iconst 0, 1) := by decide +kernel
theorem dX6_advance_77 : decode cX6_advance 77 = .ok (.putfield 22, 3) := by decide +kernel
theorem dX6_advance_80 : decode cX6_advance 80 = .ok (.goto 55, 3) := by decide +kernel
theorem dX6_advance_83 : decode cX6_advance 83 = .ok (.iload_n 1, 1) := by decide +kernel
theorem dX6_advance_84 : decode cX6_advance 84 = .ok (.ifCond .le 11, 3) := by decide +kernel
theorem dX6_advance_87 : decode cX6_advance 87 = .ok (.aload_n 0, 1) := by decide +kernel
theorem dX6_advance_88 : decode cX6_advance 88 = .ok (.iload_n 1, 1) := by decide +kernel
theorem dX6_advance_89 : decode cX6_advance 89 = .ok (.invokevirtual 57, 3) := by decide +kernel
theorem dX6_advance_92 : decode cX6_advance 92 = .ok (.goto 43, 3) := by decide +kernel
theorem dX6_advance_95 : decode cX6_advance 95 = .ok (.iload_n 2, 1) := by decide +kernel
theorem dX6_advance_96 : decode cX6_advance 96 = .ok (.ifCond .le 11, 3) := by decide +kernel
theorem dX6_advance_99 : decode cX6_advance 99 = .ok (.aload_n 0, 1) := by decide +kernel
theorem dX6_advance_100 : decode cX6_advance 100 = .ok (.iload_n 2, 1) := by decide +kernel
theorem dX6_advance_101 : decode cX6_advance 101 = .ok (.invokevirtual 61, 3) := by decide +kernel
theorem dX6_advance_104 : decode cX6_advance 104 = .ok (.goto 31, 3) := by decide +kernel
theorem dX6_advance_107 : decode cX6_advance 107 = .ok (.aload_n 0, 1) := by decide +kernel
theorem dX6_advance_108 : decode cX6_advance 108 = .ok (.iconst 3, 1) := by decide +kernel
theorem dX6_advance_109 : decode cX6_advance 109 = .ok (.putfield 22, 3) := by decide +kernel
theorem dX6_advance_112 : decode cX6_advance 112 = .ok (.aload_n 0, 1) := by decide +kernel
theorem dX6_advance_113 : decode cX6_advance 113 = .ok (.aload_n 0, 1) := by decide +kernel
theorem dX6_advance_114 : decode cX6_advance 114 = .ok (.getfield 9, 3) := by decide +kernel
theorem dX6_advance_117 : decode cX6_advance 117 = .ok (.aload_n 0, 1) := by decide +kernel
theorem dX6_advance_118 : decode cX6_advance 118 = .ok (.getfield 19, 3) := by decide +kernel
theorem dX6_advance_121 : decode cX6_advance 121 = .ok (.baload, 1) := by decide +kernel
theorem dX6_advance_122 : decode cX6_advance 122 = .ok (.putfield 35, 3) := by decide +kernel
theorem dX6_advance_125 : decode cX6_advance 125 = .ok (.aload_n 0, 1) := by decide +kernel
theorem dX6_advance_126 : decode cX6_advance 126 = .ok (.dup, 1) := by decide +kernel
theorem dX6_advance_127 : decode cX6_advance 127 = .ok (.getfield 19, 3) := by decide +kernel
theorem dX6_advance_130 : decode cX6_advance 130 = .ok (.iconst 1, 1) := by decide +kernel
theorem dX6_advance_131 : decode cX6_advance 131 = .ok (.iadd, 1) := by decide +kernel
theorem dX6_advance_132 : decode cX6_advance 132 = .ok (.putfield 19, 3) := by decide +kernel
theorem dX6_advance_135 : decode cX6_advance 135 = .ok (.return_, 1) := by decide +kernel
theorem dX6_runOf_0 : decode cX6_runOf 0 = .ok (.aload_n 0, 1) := by decide +kernel
theorem dX6_runOf_1 : decode cX6_runOf 1 = .ok (.getfield 19, 3) := by decide +kernel
theorem dX6_runOf_4 : decode cX6_runOf 4 = .ok (.istore_n 3, 1) := by decide +kernel
theorem dX6_runOf_5 : decode cX6_runOf 5 = .ok (.iload_n 3, 1) := by decide +kernel
theorem dX6_runOf_6 : decode cX6_runOf 6 = .ok (.aload_n 0, 1) := by decide +kernel
theorem dX6_runOf_7 : decode cX6_runOf 7 = .ok (.getfield 15, 3) := by decide +kernel
theorem dX6_runOf_10 : decode cX6_runOf 10 = .ok (.if_icmp .ge 29, 3) := by decide +kernel
theorem dX6_runOf_13 : decode cX6_runOf 13 = .ok (.aload_n 0, 1) := by decide +kernel
theorem dX6_runOf_14 : decode cX6_runOf 14 = .ok (.getfield 9, 3) := by decide +kernel
theorem dX6_runOf_17 : decode cX6_runOf 17 = .ok (.iload_n 3, 1) := by decide +kernel
theorem dX6_runOf_18 : decode cX6_runOf 18 = .ok (.baload, 1) := by decide +kernel
theorem dX6_runOf_19 : decode cX6_runOf 19 = .ok (.iload_n 1, 1) := by decide +kernel
theorem dX6_runOf_20 : decode cX6_runOf 20 = .ok (.if_icmp .lt 19, 3) := by decide +kernel
theorem dX6_runOf_23 : decode cX6_runOf 23 = .ok (.aload_n 0, 1) := by decide +kernel
theorem dX6_runOf_24 : decode cX6_runOf 24 = .ok (.getfield 9, 3) := by decide +kernel
theorem dX6_runOf_27 : decode cX6_runOf 27 = .ok (.iload_n 3, 1) := by decide +kernel
theorem dX6_runOf_28 : decode cX6_runOf 28 = .ok (.baload, 1) := by decide +kernel
theorem dX6_runOf_29 : decode cX6_runOf 29 = .ok (.iload_n 2, 1) := by decide +kernel
theorem dX6_runOf_30 : decode cX6_runOf 30 = .ok (.if_icmp .gt 9, 3) := by decide +kernel
theorem dX6_runOf_33 : decode cX6_runOf 33 = .ok (.iinc 3 1, 3) := by decide +kernel
theorem dX6_runOf_36 : decode cX6_runOf 36 = .ok (.goto (-31), 3) := by decide +kernel
theorem dX6_runOf_39 : decode cX6_runOf 39 = .ok (.iload_n 3, 1) := by decide +kernel
theorem dX6_runOf_40 : decode cX6_runOf 40 = .ok (.aload_n 0, 1) := by decide +kernel
theorem dX6_runOf_41 : decode cX6_runOf 41 = .ok (.getfield 19, 3) := by decide +kernel
theorem dX6_runOf_44 : decode cX6_runOf 44 = .ok (.isub, 1) := by decide +kernel
theorem dX6_runOf_45 : decode cX6_runOf 45 = .ok (.ireturn, 1) := by decide +kernel
theorem dX6_takeWord_0 : decode cX6_takeWord 0 = .ok (.aload_n 0, 1) := by decide +kernel
theorem dX6_takeWord_1 : decode cX6_takeWord 1 = .ok (.iload_n 1, 1) := by decide +kernel
theorem dX6_takeWord_2 : decode cX6_takeWord 2 = .ok (.bipush 8, 2) := by decide +kernel
theorem dX6_takeWord_4 : decode cX6_takeWord 4 = .ok (.if_icmp .gt 7, 3) := by decide +kernel
theorem dX6_takeWord_7 : decode cX6_takeWord 7 = .ok (.iconst 1, 1) := by decide +kernel
theorem dX6_takeWord_8 : decode cX6_takeWord 8 = .ok (.goto 4, 3) := by decide +kernel
theorem dX6_takeWord_11 : decode cX6_takeWord 11 = .ok (.iconst 4, 1) := by decide +kernel
theorem dX6_takeWord_12 : decode cX6_takeWord 12 = .ok (.putfield 22, 3) := by decide +kernel
theorem dX6_takeWord_15 : decode cX6_takeWord 15 = .ok (.aload_n 0, 1) := by decide +kernel
theorem dX6_takeWord_16 : decode cX6_takeWord 16 = .ok (.lconst 0, 1) := by decide +kernel
theorem dX6_takeWord_17 : decode cX6_takeWord 17 = .ok (.putfield 28, 3) := by decide +kernel
theorem dX6_takeWord_20 : decode cX6_takeWord 20 = .ok (.iconst 0, 1) := by decide +kernel
theorem dX6_takeWord_21 : decode cX6_takeWord 21 = .ok (.istore_n 2, 1) := by decide +kernel
theorem dX6_takeWord_22 : decode cX6_takeWord 22 = .ok (.iload_n 2, 1) := by decide +kernel
theorem dX6_takeWord_23 : decode cX6_takeWord 23 = .ok (.iload_n 1, 1) := by decide +kernel
theorem dX6_takeWord_24 : decode cX6_takeWord 24 = .ok (.if_icmp .ge 52, 3) := by decide +kernel
theorem dX6_takeWord_27 : decode cX6_takeWord 27 = .ok (.aload_n 0, 1) := by decide +kernel
theorem dX6_takeWord_28 : decode cX6_takeWord 28 = .ok (.getfield 19, 3) := by decide +kernel
theorem dX6_takeWord_31 : decode cX6_takeWord 31 = .ok (.aload_n 0, 1) := by decide +kernel
theorem dX6_takeWord_32 : decode cX6_takeWord 32 = .ok (.getfield 15, 3) := by decide +kernel
theorem dX6_takeWord_35 : decode cX6_takeWord 35 = .ok (.if_icmp .ge 41, 3) := by decide +kernel
theorem dX6_takeWord_38 : decode cX6_takeWord 38 = .ok (.aload_n 0, 1) := by decide +kernel
theorem dX6_takeWord_39 : decode cX6_takeWord 39 = .ok (.aload_n 0, 1) := by decide +kernel
theorem dX6_takeWord_40 : decode cX6_takeWord 40 = .ok (.getfield 28, 3) := by decide +kernel
theorem dX6_takeWord_43 : decode cX6_takeWord 43 = .ok (.bipush 8, 2) := by decide +kernel
theorem dX6_takeWord_45 : decode cX6_takeWord 45 = .ok (.lshl, 1) := by decide +kernel
theorem dX6_takeWord_46 : decode cX6_takeWord 46 = .ok (.aload_n 0, 1) := by decide +kernel
theorem dX6_takeWord_47 : decode cX6_takeWord 47 = .ok (.getfield 9, 3) := by decide +kernel
theorem dX6_takeWord_50 : decode cX6_takeWord 50 = .ok (.aload_n 0, 1) := by decide +kernel
theorem dX6_takeWord_51 : decode cX6_takeWord 51 = .ok (.getfield 19, 3) := by decide +kernel
theorem dX6_takeWord_54 : decode cX6_takeWord 54 = .ok (.baload, 1) := by decide +kernel
theorem dX6_takeWord_55 : decode cX6_takeWord 55 = .ok (.i2l, 1) := by decide +kernel
theorem dX6_takeWord_56 : decode cX6_takeWord 56 = .ok (.lor, 1) := by decide +kernel
theorem dX6_takeWord_57 : decode cX6_takeWord 57 = .ok (.putfield 28, 3) := by decide +kernel
theorem dX6_takeWord_60 : decode cX6_takeWord 60 = .ok (.aload_n 0, 1) := by decide +kernel
theorem dX6_takeWord_61 : decode cX6_takeWord 61 = .ok (.dup, 1) := by decide +kernel
theorem dX6_takeWord_62 : decode cX6_takeWord 62 = .ok (.getfield 19, 3) := by decide +kernel
theorem dX6_takeWord_65 : decode cX6_takeWord 65 = .ok (.iconst 1, 1) := by decide +kernel
theorem dX6_takeWord_66 : decode cX6_takeWord 66 = .ok (.iadd, 1) := by decide +kernel
theorem dX6_takeWord_67 : decode cX6_takeWord 67 = .ok (.putfield 19, 3) := by decide +kernel
theorem dX6_takeWord_70 : decode cX6_takeWord 70 = .ok (.iinc 2 1, 3) := by decide +kernel
theorem dX6_takeWord_73 : decode cX6_takeWord 73 = .ok (.goto (-51), 3) := by decide +kernel
theorem dX6_takeWord_76 : decode cX6_takeWord 76 = .ok (.return_, 1) := by decide +kernel
theorem dX6_takeNumber_0 : decode cX6_takeNumber 0 = .ok (.aload_n 0, 1) := by decide +kernel
theorem dX6_takeNumber_1 : decode cX6_takeNumber 1 = .ok (.iconst 2, 1) := by decide +kernel
theorem dX6_takeNumber_2 : decode cX6_takeNumber 2 = .ok (.putfield 22, 3) := by decide +kernel
theorem dX6_takeNumber_5 : decode cX6_takeNumber 5 = .ok (.aload_n 0, 1) := by decide +kernel
theorem dX6_takeNumber_6 : decode cX6_takeNumber 6 = .ok (.iconst 0, 1) := by decide +kernel
theorem dX6_takeNumber_7 : decode cX6_takeNumber 7 = .ok (.putfield 32, 3) := by decide +kernel
theorem dX6_takeNumber_10 : decode cX6_takeNumber 10 = .ok (.iconst 0, 1) := by decide +kernel
theorem dX6_takeNumber_11 : decode cX6_takeNumber 11 = .ok (.istore_n 2, 1) := by decide +kernel
theorem dX6_takeNumber_12 : decode cX6_takeNumber 12 = .ok (.iload_n 2, 1) := by decide +kernel
theorem dX6_takeNumber_13 : decode cX6_takeNumber 13 = .ok (.iload_n 1, 1) := by decide +kernel
theorem dX6_takeNumber_14 : decode cX6_takeNumber 14 = .ok (.if_icmp .ge 59, 3) := by decide +kernel
theorem dX6_takeNumber_17 : decode cX6_takeNumber 17 = .ok (.aload_n 0, 1) := by decide +kernel
theorem dX6_takeNumber_18 : decode cX6_takeNumber 18 = .ok (.getfield 19, 3) := by decide +kernel
theorem dX6_takeNumber_21 : decode cX6_takeNumber 21 = .ok (.aload_n 0, 1) := by decide +kernel
theorem dX6_takeNumber_22 : decode cX6_takeNumber 22 = .ok (.getfield 15, 3) := by decide +kernel
theorem dX6_takeNumber_25 : decode cX6_takeNumber 25 = .ok (.if_icmp .ge 48, 3) := by decide +kernel
theorem dX6_takeNumber_28 : decode cX6_takeNumber 28 = .ok (.aload_n 0, 1) := by decide +kernel
theorem dX6_takeNumber_29 : decode cX6_takeNumber 29 = .ok (.ldc 64, 2) := by decide +kernel
theorem dX6_takeNumber_31 : decode cX6_takeNumber 31 = .ok (.aload_n 0, 1) := by decide +kernel
theorem dX6_takeNumber_32 : decode cX6_takeNumber 32 = .ok (.getfield 32, 3) := by decide +kernel
theorem dX6_takeNumber_35 : decode cX6_takeNumber 35 = .ok (.bipush 10, 2) := by decide +kernel
theorem dX6_takeNumber_37 : decode cX6_takeNumber 37 = .ok (.imul, 1) := by decide +kernel
theorem dX6_takeNumber_38 : decode cX6_takeNumber 38 = .ok (.aload_n 0, 1) := by decide +kernel
theorem dX6_takeNumber_39 : decode cX6_takeNumber 39 = .ok (.getfield 9, 3) := by decide +kernel
theorem dX6_takeNumber_42 : decode cX6_takeNumber 42 = .ok (.aload_n 0, 1) := by decide +kernel
theorem dX6_takeNumber_43 : decode cX6_takeNumber 43 = .ok (.getfield 19, 3) := by decide +kernel
theorem dX6_takeNumber_46 : decode cX6_takeNumber 46 = .ok (.baload, 1) := by decide +kernel
theorem dX6_takeNumber_47 : decode cX6_takeNumber 47 = .ok (.bipush 48, 2) := by decide +kernel
theorem dX6_takeNumber_49 : decode cX6_takeNumber 49 = .ok (.isub, 1) := by decide +kernel
theorem dX6_takeNumber_50 : decode cX6_takeNumber 50 = .ok (.iadd, 1) := by decide +kernel
theorem dX6_takeNumber_51 : decode cX6_takeNumber 51 = .ok (.invokestatic 38, 3) := by decide +kernel
theorem dX6_takeNumber_54 : decode cX6_takeNumber 54 = .ok (.putfield 32, 3) := by decide +kernel
theorem dX6_takeNumber_57 : decode cX6_takeNumber 57 = .ok (.aload_n 0, 1) := by decide +kernel
theorem dX6_takeNumber_58 : decode cX6_takeNumber 58 = .ok (.dup, 1) := by decide +kernel
theorem dX6_takeNumber_59 : decode cX6_takeNumber 59 = .ok (.getfield 19, 3) := by decide +kernel
theorem dX6_takeNumber_62 : decode cX6_takeNumber 62 = .ok (.iconst 1, 1) := by decide +kernel
theorem dX6_takeNumber_63 : decode cX6_takeNumber 63 = .ok (.iadd, 1) := by decide +kernel
theorem dX6_takeNumber_64 : decode cX6_takeNumber 64 = .ok (.putfield 19, 3) := by decide +kernel
theorem dX6_takeNumber_67 : decode cX6_takeNumber 67 = .ok (.iinc 2 1, 3) := by decide +kernel
theorem dX6_takeNumber_70 : decode cX6_takeNumber 70 = .ok (.goto (-58), 3) := by decide +kernel
theorem dX6_takeNumber_73 : decode cX6_takeNumber 73 = .ok (.return_, 1) := by decide +kernel
theorem dX6_isSign_0 : decode cX6_isSign 0 = .ok (.aload_n 0, 1) := by decide +kernel
theorem dX6_isSign_1 : decode cX6_isSign 1 = .ok (.getfield 22, 3) := by decide +kernel
theorem dX6_isSign_4 : decode cX6_isSign 4 = .ok (.iconst 3, 1) := by decide +kernel
theorem dX6_isSign_5 : decode cX6_isSign 5 = .ok (.if_icmp .ne 15, 3) := by decide +kernel
theorem dX6_isSign_8 : decode cX6_isSign 8 = .ok (.aload_n 0, 1) := by decide +kernel
theorem dX6_isSign_9 : decode cX6_isSign 9 = .ok (.getfield 35, 3) := by decide +kernel
theorem dX6_isSign_12 : decode cX6_isSign 12 = .ok (.iload_n 1, 1) := by decide +kernel
theorem dX6_isSign_13 : decode cX6_isSign 13 = .ok (.if_icmp .ne 7, 3) := by decide +kernel
theorem dX6_isSign_16 : decode cX6_isSign 16 = .ok (.iconst 1, 1) := by decide +kernel
theorem dX6_isSign_17 : decode cX6_isSign 17 = .ok (.goto 4, 3) := by decide +kernel
theorem dX6_isSign_20 : decode cX6_isSign 20 = .ok (.iconst 0, 1) := by decide +kernel
theorem dX6_isSign_21 : decode cX6_isSign 21 = .ok (.ireturn, 1) := by decide +kernel
theorem dX6_isWord_0 : decode cX6_isWord 0 = .ok (.aload_n 0, 1) := by decide +kernel
theorem dX6_isWord_1 : decode cX6_isWord 1 = .ok (.getfield 22, 3) := by decide +kernel
theorem dX6_isWord_4 : decode cX6_isWord 4 = .ok (.iconst 1, 1) := by decide +kernel
theorem dX6_isWord_5 : decode cX6_isWord 5 = .ok (.if_icmp .ne 19, 3) := by decide +kernel
theorem dX6_isWord_8 : decode cX6_isWord 8 = .ok (.aload_n 0, 1) := by decide +kernel
theorem dX6_isWord_9 : decode cX6_isWord 9 = .ok (.getfield 28, 3) := by decide +kernel
theorem dX6_isWord_12 : decode cX6_isWord 12 = .ok (.aload_n 1, 1) := by decide +kernel
theorem dX6_isWord_13 : decode cX6_isWord 13 = .ok (.invokestatic 65, 3) := by decide +kernel
theorem dX6_isWord_16 : decode cX6_isWord 16 = .ok (.lcmp, 1) := by decide +kernel
theorem dX6_isWord_17 : decode cX6_isWord 17 = .ok (.ifCond .ne 7, 3) := by decide +kernel
theorem dX6_isWord_20 : decode cX6_isWord 20 = .ok (.iconst 1, 1) := by decide +kernel
theorem dX6_isWord_21 : decode cX6_isWord 21 = .ok (.goto 4, 3) := by decide +kernel
theorem dX6_isWord_24 : decode cX6_isWord 24 = .ok (.iconst 0, 1) := by decide +kernel
theorem dX6_isWord_25 : decode cX6_isWord 25 = .ok (.ireturn, 1) := by decide +kernel
theorem dX6_packed_0 : decode cX6_packed 0 = .ok (.lconst 0, 1) := by decide +kernel
theorem dX6_packed_1 : decode cX6_packed 1 = .ok (.lstore_n 1, 1) := by decide +kernel
theorem dX6_packed_2 : decode cX6_packed 2 = .ok (.iconst 0, 1) := by decide +kernel
theorem dX6_packed_3 : decode cX6_packed 3 = .ok (.istore_n 3, 1) := by decide +kernel
theorem dX6_packed_4 : decode cX6_packed 4 = .ok (.iload_n 3, 1) := by decide +kernel
theorem dX6_packed_5 : decode cX6_packed 5 = .ok (.aload_n 0, 1) := by decide +kernel
theorem dX6_packed_6 : decode cX6_packed 6 = .ok (.invokevirtual 69, 3) := by decide +kernel
theorem dX6_packed_9 : decode cX6_packed 9 = .ok (.if_icmp .ge 21, 3) := by decide +kernel
theorem dX6_packed_12 : decode cX6_packed 12 = .ok (.lload_n 1, 1) := by decide +kernel
theorem dX6_packed_13 : decode cX6_packed 13 = .ok (.bipush 8, 2) := by decide +kernel
theorem dX6_packed_15 : decode cX6_packed 15 = .ok (.lshl, 1) := by decide +kernel
theorem dX6_packed_16 : decode cX6_packed 16 = .ok (.aload_n 0, 1) := by decide +kernel
theorem dX6_packed_17 : decode cX6_packed 17 = .ok (.iload_n 3, 1) := by decide +kernel
theorem dX6_packed_18 : decode cX6_packed 18 = .ok (.invokevirtual 74, 3) := by decide +kernel
theorem dX6_packed_21 : decode cX6_packed 21 = .ok (.i2l, 1) := by decide +kernel
theorem dX6_packed_22 : decode cX6_packed 22 = .ok (.lor, 1) := by decide +kernel
theorem dX6_packed_23 : decode cX6_packed 23 = .ok (.lstore_n 1, 1) := by decide +kernel
theorem dX6_packed_24 : decode cX6_packed 24 = .ok (.iinc 3 1, 3) := by decide +kernel
theorem dX6_packed_27 : decode cX6_packed 27 = .ok (.goto (-23), 3) := by decide +kernel
theorem dX6_packed_30 : decode cX6_packed 30 = .ok (.lload_n 1, 1) := by decide +kernel
theorem dX6_packed_31 : decode cX6_packed 31 = .ok (.lreturn, 1) := by decide +kernel
end
section
theorem dX7_init_0 : decode cX7_init 0 = .ok (.aload_n 0, 1) := by decide +kernel
theorem dX7_init_1 : decode cX7_init 1 = .ok (.invokespecial 1, 3) := by decide +kernel
theorem dX7_init_4 : decode cX7_init 4 = .ok (.aload_n 0, 1) := by decide +kernel
theorem dX7_init_5 : decode cX7_init 5 = .ok (.bipush 11, 2) := by decide +kernel
theorem dX7_init_7 : decode cX7_init 7 = .ok (.newarray .int, 2) := by decide +kernel
theorem dX7_init_9 : decode cX7_init 9 = .ok (.putfield 9, 3) := by decide +kernel
theorem dX7_init_12 : decode cX7_init 12 = .ok (.aload_n 0, 1) := by decide +kernel
theorem dX7_init_13 : decode cX7_init 13 = .ok (.aload_n 1, 1) := by decide +kernel
theorem dX7_init_14 : decode cX7_init 14 = .ok (.putfield 13, 3) := by decide +kernel
theorem dX7_init_17 : decode cX7_init 17 = .ok (.return_, 1) := by decide +kernel
theorem dX7_valueOf_0 : decode cX7_valueOf 0 = .ok (.iconst 0, 1) := by decide +kernel
theorem dX7_valueOf_1 : decode cX7_valueOf 1 = .ok (.istore 5, 2) := by decide +kernel
theorem dX7_valueOf_3 : decode cX7_valueOf 3 = .ok (.iconst 0, 1) := by decide +kernel
theorem dX7_valueOf_4 : decode cX7_valueOf 4 = .ok (.istore 6, 2) := by decide +kernel
theorem dX7_valueOf_6 : decode cX7_valueOf 6 = .ok (.iload 6, 2) := by decide +kernel
theorem dX7_valueOf_8 : decode cX7_valueOf 8 = .ok (.aload_n 0, 1) := by decide +kernel
theorem dX7_valueOf_9 : decode cX7_valueOf 9 = .ok (.getfield 13, 3) := by decide +kernel
theorem dX7_valueOf_12 : decode cX7_valueOf 12 = .ok (.arraylength, 1) := by decide +kernel
theorem dX7_valueOf_13 : decode cX7_valueOf 13 = .ok (.if_icmp .ge 96, 3) := by decide +kernel
theorem dX7_valueOf_16 : decode cX7_valueOf 16 = .ok (.aload_n 0, 1) := by decide +kernel
theorem dX7_valueOf_17 : decode cX7_valueOf 17 = .ok (.getfield 13, 3) := by decide +kernel
theorem dX7_valueOf_20 : decode cX7_valueOf 20 = .ok (.iload 6, 2) := by decide +kernel
theorem dX7_valueOf_22 : decode cX7_valueOf 22 = .ok (.iaload, 1) := by decide +kernel
theorem dX7_valueOf_23 : decode cX7_valueOf 23 = .ok (.istore 7, 2) := by decide +kernel
theorem dX7_valueOf_25 : decode cX7_valueOf 25 = .ok (.iload 7, 2) := by decide +kernel
theorem dX7_valueOf_27 : decode cX7_valueOf 27 = .ok (.bipush (-5), 2) := by decide +kernel
theorem dX7_valueOf_29 : decode cX7_valueOf 29 = .ok (.if_icmp .gt 47, 3) := by decide +kernel
theorem dX7_valueOf_32 : decode cX7_valueOf 32 = .ok (.iload 5, 2) := by decide +kernel
theorem dX7_valueOf_34 : decode cX7_valueOf 34 = .ok (.iconst 2, 1) := by decide +kernel
theorem dX7_valueOf_35 : decode cX7_valueOf 35 = .ok (.if_icmp .lt 68, 3) := by decide +kernel
theorem dX7_valueOf_38 : decode cX7_valueOf 38 = .ok (.iinc 5 (-1), 3) := by decide +kernel
theorem dX7_valueOf_41 : decode cX7_valueOf 41 = .ok (.aload_n 0, 1) := by decide +kernel
theorem dX7_valueOf_42 : decode cX7_valueOf 42 = .ok (.getfield 9, 3) := by decide +kernel
theorem dX7_valueOf_45 : decode cX7_valueOf 45 = .ok (.iload 5, 2) := by decide +kernel
theorem dX7_valueOf_47 : decode cX7_valueOf 47 = .ok (.iconst 1, 1) := by decide +kernel
theorem dX7_valueOf_48 : decode cX7_valueOf 48 = .ok (.isub, 1) := by decide +kernel
theorem dX7_valueOf_49 : decode cX7_valueOf 49 = .ok (.iload 7, 2) := by decide +kernel
theorem dX7_valueOf_51 : decode cX7_valueOf 51 = .ok (.aload_n 0, 1) := by decide +kernel
theorem dX7_valueOf_52 : decode cX7_valueOf 52 = .ok (.getfield 9, 3) := by decide +kernel
theorem dX7_valueOf_55 : decode cX7_valueOf 55 = .ok (.iload 5, 2) := by decide +kernel
theorem dX7_valueOf_57 : decode cX7_valueOf 57 = .ok (.iconst 1, 1) := by decide +kernel
theorem dX7_valueOf_58 : decode cX7_valueOf 58 = .ok (.isub, 1) := by decide +kernel
theorem dX7_valueOf_59 : decode cX7_valueOf 59 = .ok (.iaload, 1) := by decide +kernel
theorem dX7_valueOf_60 : decode cX7_valueOf 60 = .ok (.i2l, 1) := by decide +kernel
theorem dX7_valueOf_61 : decode cX7_valueOf 61 = .ok (.aload_n 0, 1) := by decide +kernel
theorem dX7_valueOf_62 : decode cX7_valueOf 62 = .ok (.getfield 9, 3) := by decide +kernel
theorem dX7_valueOf_65 : decode cX7_valueOf 65 = .ok (.iload 5, 2) := by decide +kernel
theorem dX7_valueOf_67 : decode cX7_valueOf 67 = .ok (.iaload, 1) := by decide +kernel
theorem dX7_valueOf_68 : decode cX7_valueOf 68 = .ok (.i2l, 1) := by decide +kernel
theorem dX7_valueOf_69 : decode cX7_valueOf 69 = .ok (.invokestatic 16, 3) := by decide +kernel
theorem dX7_valueOf_72 : decode cX7_valueOf 72 = .ok (.iastore, 1) := by decide +kernel
theorem dX7_valueOf_73 : decode cX7_valueOf 73 = .ok (.goto 30, 3) := by decide +kernel
theorem dX7_valueOf_76 : decode cX7_valueOf 76 = .ok (.iload 5, 2) := by decide +kernel
theorem dX7_valueOf_78 : decode cX7_valueOf 78 = .ok (.bipush 11, 2) := by decide +kernel
theorem dX7_valueOf_80 : decode cX7_valueOf 80 = .ok (.if_icmp .ge 23, 3) := by decide +kernel
theorem dX7_valueOf_83 : decode cX7_valueOf 83 = .ok (.aload_n 0, 1) := by decide +kernel
theorem dX7_valueOf_84 : decode cX7_valueOf 84 = .ok (.getfield 9, 3) := by decide +kernel
theorem dX7_valueOf_87 : decode cX7_valueOf 87 = .ok (.iload 5, 2) := by decide +kernel
theorem dX7_valueOf_89 : decode cX7_valueOf 89 = .ok (.iload 7, 2) := by decide +kernel
theorem dX7_valueOf_91 : decode cX7_valueOf 91 = .ok (.iload_n 1, 1) := by decide +kernel
theorem dX7_valueOf_92 : decode cX7_valueOf 92 = .ok (.iload_n 2, 1) := by decide +kernel
theorem dX7_valueOf_93 : decode cX7_valueOf 93 = .ok (.iload_n 3, 1) := by decide +kernel
theorem dX7_valueOf_94 : decode cX7_valueOf 94 = .ok (.iload 4, 2) := by decide +kernel
theorem dX7_valueOf_96 : decode cX7_valueOf 96 = .ok (.invokestatic 20, 3) := by decide +kernel
theorem dX7_valueOf_99 : decode cX7_valueOf 99 = .ok (.iastore, 1) := by decide +kernel
theorem dX7_valueOf_100 : decode cX7_valueOf 100 = .ok (.iinc 5 1, 3) := by decide +kernel
theorem dX7_valueOf_103 : decode cX7_valueOf 103 = .ok (.iinc 6 1, 3) := by decide +kernel
theorem dX7_valueOf_106 : decode cX7_valueOf 106 = .ok (.goto (-100), 3) := by decide +kernel
theorem dX7_valueOf_109 : decode cX7_valueOf 109 = .ok (.aload_n 0, 1) := by decide +kernel
theorem dX7_valueOf_110 : decode cX7_valueOf 110 = .ok (.getfield 9, 3) := by decide +kernel
theorem dX7_valueOf_113 : decode cX7_valueOf 113 = .ok (.iconst 0, 1) := by decide +kernel
theorem dX7_valueOf_114 : decode cX7_valueOf 114 = .ok (.iaload, 1) := by decide +kernel
theorem dX7_valueOf_115 : decode cX7_valueOf 115 = .ok (.i2l, 1) := by decide +kernel
theorem dX7_valueOf_116 : decode cX7_valueOf 116 = .ok (.iconst 0, 1) := by decide +kernel
theorem dX7_valueOf_117 : decode cX7_valueOf 117 = .ok (.sipush 9999, 3) := by decide +kernel
theorem dX7_valueOf_120 : decode cX7_valueOf 120 = .ok (.invokestatic 24, 3) := by decide +kernel
theorem dX7_valueOf_123 : decode cX7_valueOf 123 = .ok (.ireturn, 1) := by decide +kernel
theorem dX7_factorValue_0 : decode cX7_factorValue 0 = .ok (.iload_n 0, 1) := by decide +kernel
theorem dX7_factorValue_1 : decode cX7_factorValue 1 = .ok (.tableswitch 40 (-4) (-1) #[37, 35, 33, 31], 31) := by decide +kernel
theorem dX7_factorValue_32 : decode cX7_factorValue 32 = .ok (.iload_n 1, 1) := by decide +kernel
theorem dX7_factorValue_33 : decode cX7_factorValue 33 = .ok (.ireturn, 1) := by decide +kernel
theorem dX7_factorValue_34 : decode cX7_factorValue 34 = .ok (.iload_n 2, 1) := by decide +kernel
theorem dX7_factorValue_35 : decode cX7_factorValue 35 = .ok (.ireturn, 1) := by decide +kernel
theorem dX7_factorValue_36 : decode cX7_factorValue 36 = .ok (.iload_n 3, 1) := by decide +kernel
theorem dX7_factorValue_37 : decode cX7_factorValue 37 = .ok (.ireturn, 1) := by decide +kernel
theorem dX7_factorValue_38 : decode cX7_factorValue 38 = .ok (.iload 4, 2) := by decide +kernel
theorem dX7_factorValue_40 : decode cX7_factorValue 40 = .ok (.ireturn, 1) := by decide +kernel
theorem dX7_factorValue_41 : decode cX7_factorValue 41 = .ok (.iload_n 0, 1) := by decide +kernel
theorem dX7_factorValue_42 : decode cX7_factorValue 42 = .ok (.ireturn, 1) := by decide +kernel
theorem dX7_operate_0 : decode cX7_operate 0 = .ok (.iload_n 0, 1) := by decide +kernel
theorem dX7_operate_1 : decode cX7_operate 1 = .ok (.tableswitch 51 (-7) (-5) #[43, 35, 27], 27) := by decide +kernel
theorem dX7_operate_28 : decode cX7_operate 28 = .ok (.lload_n 1, 1) := by decide +kernel
theorem dX7_operate_29 : decode cX7_operate 29 = .ok (.lload_n 3, 1) := by decide +kernel
theorem dX7_operate_30 : decode cX7_operate 30 = .ok (.ladd, 1) := by decide +kernel
theorem dX7_operate_31 : decode cX7_operate 31 = .ok (.lstore 5, 2) := by decide +kernel
theorem dX7_operate_33 : decode cX7_operate 33 = .ok (.goto 34, 3) := by decide +kernel
theorem dX7_operate_36 : decode cX7_operate 36 = .ok (.lload_n 1, 1) := by decide +kernel
theorem dX7_operate_37 : decode cX7_operate 37 = .ok (.lload_n 3, 1) := by decide +kernel
theorem dX7_operate_38 : decode cX7_operate 38 = .ok (.lsub, 1) := by decide +kernel
theorem dX7_operate_39 : decode cX7_operate 39 = .ok (.lstore 5, 2) := by decide +kernel
theorem dX7_operate_41 : decode cX7_operate 41 = .ok (.goto 26, 3) := by decide +kernel
theorem dX7_operate_44 : decode cX7_operate 44 = .ok (.lload_n 1, 1) := by decide +kernel
theorem dX7_operate_45 : decode cX7_operate 45 = .ok (.lload_n 3, 1) := by decide +kernel
theorem dX7_operate_46 : decode cX7_operate 46 = .ok (.lmul, 1) := by decide +kernel
theorem dX7_operate_47 : decode cX7_operate 47 = .ok (.lstore 5, 2) := by decide +kernel
theorem dX7_operate_49 : decode cX7_operate 49 = .ok (.goto 18, 3) := by decide +kernel
theorem dX7_operate_52 : decode cX7_operate 52 = .ok (.lload_n 3, 1) := by decide +kernel
theorem dX7_operate_53 : decode cX7_operate 53 = .ok (.lconst 0, 1) := by decide +kernel
theorem dX7_operate_54 : decode cX7_operate 54 = .ok (.lcmp, 1) := by decide +kernel
theorem dX7_operate_55 : decode cX7_operate 55 = .ok (.ifCond .ne 7, 3) := by decide +kernel
theorem dX7_operate_58 : decode cX7_operate 58 = .ok (.lconst 0, 1) := by decide +kernel
theorem dX7_operate_59 : decode cX7_operate 59 = .ok (.goto 6, 3) := by decide +kernel
theorem dX7_operate_62 : decode cX7_operate 62 = .ok (.lload_n 1, 1) := by decide +kernel
theorem dX7_operate_63 : decode cX7_operate 63 = .ok (.lload_n 3, 1) := by decide +kernel
theorem dX7_operate_64 : decode cX7_operate 64 = .ok (.ldiv, 1) := by decide +kernel
theorem dX7_operate_65 : decode cX7_operate 65 = .ok (.lstore 5, 2) := by decide +kernel
theorem dX7_operate_67 : decode cX7_operate 67 = .ok (.lload 5, 2) := by decide +kernel
theorem dX7_operate_69 : decode cX7_operate 69 = .ok (.ldc 28, 2) := by decide +kernel
theorem dX7_operate_71 : decode cX7_operate 71 = .ok (.ldc 29, 2) := by decide +kernel
theorem dX7_operate_73 : decode cX7_operate 73 = .ok (.invokestatic 24, 3) := by decide +kernel
theorem dX7_operate_76 : decode cX7_operate 76 = .ok (.ireturn, 1) := by decide +kernel
theorem dX7_limited_0 : decode cX7_limited 0 = .ok (.iload_n 2, 1) := by decide +kernel
theorem dX7_limited_1 : decode cX7_limited 1 = .ok (.i2l, 1) := by decide +kernel
theorem dX7_limited_2 : decode cX7_limited 2 = .ok (.iload_n 3, 1) := by decide +kernel
theorem dX7_limited_3 : decode cX7_limited 3 = .ok (.i2l, 1) := by decide +kernel
theorem dX7_limited_4 : decode cX7_limited 4 = .ok (.lload_n 0, 1) := by decide +kernel
theorem dX7_limited_5 : decode cX7_limited 5 = .ok (.invokestatic 30, 3) := by decide +kernel
theorem dX7_limited_8 : decode cX7_limited 8 = .ok (.invokestatic 36, 3) := by decide +kernel
theorem dX7_limited_11 : decode cX7_limited 11 = .ok (.l2i, 1) := by decide +kernel
theorem dX7_limited_12 : decode cX7_limited 12 = .ok (.ireturn, 1) := by decide +kernel
end
section
theorem dX8_init_0 : decode cX8_init 0 = .ok (.aload_n 0, 1) := by decide +kernel
theorem dX8_init_1 : decode cX8_init 1 = .ok (.invokespecial 3, 3) := by decide +kernel
theorem dX8_init_4 : decode cX8_init 4 = .ok (.aload_n 0, 1) := by decide +kernel
theorem dX8_init_5 : decode cX8_init 5 = .ok (.sipush 800, 3) := by decide +kernel
theorem dX8_init_8 : decode cX8_init 8 = .ok (.newarray .byte, 2) := by decide +kernel
theorem dX8_init_10 : decode cX8_init 10 = .ok (.putfield 9, 3) := by decide +kernel
theorem dX8_init_13 : decode cX8_init 13 = .ok (.aload_n 0, 1) := by decide +kernel
theorem dX8_init_14 : decode cX8_init 14 = .ok (.iconst 0, 1) := by decide +kernel
theorem dX8_init_15 : decode cX8_init 15 = .ok (.putfield 13, 3) := by decide +kernel
theorem dX8_init_18 : decode cX8_init 18 = .ok (.aload_n 0, 1) := by decide +kernel
theorem dX8_init_19 : decode cX8_init 19 = .ok (.iconst (-1), 1) := by decide +kernel
theorem dX8_init_20 : decode cX8_init 20 = .ok (.putfield 17, 3) := by decide +kernel
theorem dX8_init_23 : decode cX8_init 23 = .ok (.aload_n 0, 1) := by decide +kernel
theorem dX8_init_24 : decode cX8_init 24 = .ok (.new 20, 3) := by decide +kernel
theorem dX8_init_27 : decode cX8_init 27 = .ok (.dup, 1) := by decide +kernel
theorem dX8_init_28 : decode cX8_init 28 = .ok (.invokespecial 22, 3) := by decide +kernel
theorem dX8_init_31 : decode cX8_init 31 = .ok (.putfield 23, 3) := by decide +kernel
theorem dX8_init_34 : decode cX8_init 34 = .ok (.aload_n 0, 1) := by decide +kernel
theorem dX8_init_35 : decode cX8_init 35 = .ok (.new 27, 3) := by decide +kernel
theorem dX8_init_38 : decode cX8_init 38 = .ok (.dup, 1) := by decide +kernel
theorem dX8_init_39 : decode cX8_init 39 = .ok (.invokespecial 29, 3) := by decide +kernel
theorem dX8_init_42 : decode cX8_init 42 = .ok (.putfield 30, 3) := by decide +kernel
theorem dX8_init_45 : decode cX8_init 45 = .ok (.aload_n 0, 1) := by decide +kernel
theorem dX8_init_46 : decode cX8_init 46 = .ok (.new 34, 3) := by decide +kernel
theorem dX8_init_49 : decode cX8_init 49 = .ok (.dup, 1) := by decide +kernel
theorem dX8_init_50 : decode cX8_init 50 = .ok (.invokespecial 36, 3) := by decide +kernel
theorem dX8_init_53 : decode cX8_init 53 = .ok (.putfield 37, 3) := by decide +kernel
theorem dX8_init_56 : decode cX8_init 56 = .ok (.aload_n 0, 1) := by decide +kernel
theorem dX8_init_57 : decode cX8_init 57 = .ok (.new 41, 3) := by decide +kernel
theorem dX8_init_60 : decode cX8_init 60 = .ok (.dup, 1) := by decide +kernel
theorem dX8_init_61 : decode cX8_init 61 = .ok (.invokespecial 43, 3) := by decide +kernel
theorem dX8_init_64 : decode cX8_init 64 = .ok (.putfield 44, 3) := by decide +kernel
theorem dX8_init_67 : decode cX8_init 67 = .ok (.aload_n 0, 1) := by decide +kernel
theorem dX8_init_68 : decode cX8_init 68 = .ok (.new 48, 3) := by decide +kernel
theorem dX8_init_71 : decode cX8_init 71 = .ok (.dup, 1) := by decide +kernel
theorem dX8_init_72 : decode cX8_init 72 = .ok (.invokespecial 50, 3) := by decide +kernel
theorem dX8_init_75 : decode cX8_init 75 = .ok (.putfield 51, 3) := by decide +kernel
theorem dX8_init_78 : decode cX8_init 78 = .ok (.aload_n 0, 1) := by decide +kernel
theorem dX8_init_79 : decode cX8_init 79 = .ok (.bipush 96, 2) := by decide +kernel
theorem dX8_init_81 : decode cX8_init 81 = .ok (.newarray .int, 2) := by decide +kernel
theorem dX8_init_83 : decode cX8_init 83 = .ok (.putfield 55, 3) := by decide +kernel
theorem dX8_init_86 : decode cX8_init 86 = .ok (.return_, 1) := by decide +kernel
theorem dX8_append_0 : decode cX8_append 0 = .ok (.aload_n 0, 1) := by decide +kernel
theorem dX8_append_1 : decode cX8_append 1 = .ok (.getfield 13, 3) := by decide +kernel
theorem dX8_append_4 : decode cX8_append 4 = .ok (.bipush 20, 2) := by decide +kernel
theorem dX8_append_6 : decode cX8_append 6 = .ok (.iadd, 1) := by decide +kernel
theorem dX8_append_7 : decode cX8_append 7 = .ok (.sipush 800, 3) := by decide +kernel
theorem dX8_append_10 : decode cX8_append 10 = .ok (.if_icmp .le 5, 3) := by decide +kernel
theorem dX8_append_13 : decode cX8_append 13 = .ok (.iconst (-1), 1) := by decide +kernel
theorem dX8_append_14 : decode cX8_append 14 = .ok (.ireturn, 1) := by decide +kernel
theorem dX8_append_15 : decode cX8_append 15 = .ok (.aload_n 0, 1) := by decide +kernel
theorem dX8_append_16 : decode cX8_append 16 = .ok (.iload_n 1, 1) := by decide +kernel
theorem dX8_append_17 : decode cX8_append 17 = .ok (.invokevirtual 59, 3) := by decide +kernel
theorem dX8_append_20 : decode cX8_append 20 = .ok (.aload_n 0, 1) := by decide +kernel
theorem dX8_append_21 : decode cX8_append 21 = .ok (.iload_n 2, 1) := by decide +kernel
theorem dX8_append_22 : decode cX8_append 22 = .ok (.invokevirtual 59, 3) := by decide +kernel
theorem dX8_append_25 : decode cX8_append 25 = .ok (.aload_n 0, 1) := by decide +kernel
theorem dX8_append_26 : decode cX8_append 26 = .ok (.iload_n 3, 1) := by decide +kernel
theorem dX8_append_27 : decode cX8_append 27 = .ok (.invokevirtual 59, 3) := by decide +kernel
theorem dX8_append_30 : decode cX8_append 30 = .ok (.aload_n 0, 1) := by decide +kernel
theorem dX8_append_31 : decode cX8_append 31 = .ok (.iload 4, 2) := by decide +kernel
theorem dX8_append_33 : decode cX8_append 33 = .ok (.invokevirtual 59, 3) := by decide +kernel
theorem dX8_append_36 : decode cX8_append 36 = .ok (.aload_n 0, 1) := by decide +kernel
theorem dX8_append_37 : decode cX8_append 37 = .ok (.iload 5, 2) := by decide +kernel
theorem dX8_append_39 : decode cX8_append 39 = .ok (.invokevirtual 59, 3) := by decide +kernel
theorem dX8_append_42 : decode cX8_append 42 = .ok (.aload_n 0, 1) := by decide +kernel
theorem dX8_append_43 : decode cX8_append 43 = .ok (.getfield 13, 3) := by decide +kernel
theorem dX8_append_46 : decode cX8_append 46 = .ok (.ireturn, 1) := by decide +kernel
theorem dX8_load_0 : decode cX8_load 0 = .ok (.iload_n 1, 1) := by decide +kernel
theorem dX8_load_1 : decode cX8_load 1 = .ok (.ifCond .lt 11, 3) := by decide +kernel
theorem dX8_load_4 : decode cX8_load 4 = .ok (.iload_n 1, 1) := by decide +kernel
theorem dX8_load_5 : decode cX8_load 5 = .ok (.aload_n 0, 1) := by decide +kernel
theorem dX8_load_6 : decode cX8_load 6 = .ok (.getfield 13, 3) := by decide +kernel
theorem dX8_load_9 : decode cX8_load 9 = .ok (.if_icmp .le 13, 3) := by decide +kernel
theorem dX8_load_12 : decode cX8_load 12 = .ok (.new 63, 3) := by decide +kernel
theorem dX8_load_15 : decode cX8_load 15 = .ok (.dup, 1) := by decide +kernel
theorem dX8_load_16 : decode cX8_load 16 = .ok (.ldc 65, 2) := by decide +kernel
theorem dX8_load_18 : decode cX8_load 18 = .ok (.invokespecial 67, 3) := by decide +kernel
theorem dX8_load_21 : decode cX8_load 21 = .ok (.athrow, 1) := by decide +kernel
theorem dX8_load_22 : decode cX8_load 22 = .ok (.aload_n 0, 1) := by decide +kernel
theorem dX8_load_23 : decode cX8_load 23 = .ok (.iconst 0, 1) := by decide +kernel
theorem dX8_load_24 : decode cX8_load 24 = .ok (.putfield 13, 3) := by decide +kernel
theorem dX8_load_27 : decode cX8_load 27 = .ok (.aload_n 0, 1) := by decide +kernel
theorem dX8_load_28 : decode cX8_load 28 = .ok (.getfield 23, 3) := by decide +kernel
theorem dX8_load_31 : decode cX8_load 31 = .ok (.aload_n 0, 1) := by decide +kernel
theorem dX8_load_32 : decode cX8_load 32 = .ok (.getfield 9, 3) := by decide +kernel
theorem dX8_load_35 : decode cX8_load 35 = .ok (.iload_n 1, 1) := by decide +kernel
theorem dX8_load_36 : decode cX8_load 36 = .ok (.invokevirtual 70, 3) := by decide +kernel
theorem dX8_load_39 : decode cX8_load 39 = .ok (.ifCond .ne 22, 3) := by decide +kernel
theorem dX8_load_42 : decode cX8_load 42 = .ok (.aload_n 0, 1) := by decide +kernel
theorem dX8_load_43 : decode cX8_load 43 = .ok (.aload_n 0, 1) := by decide +kernel
theorem dX8_load_44 : decode cX8_load 44 = .ok (.getfield 23, 3) := by decide +kernel
theorem dX8_load_47 : decode cX8_load 47 = .ok (.getfield 74, 3) := by decide +kernel
theorem dX8_load_50 : decode cX8_load 50 = .ok (.putfield 17, 3) := by decide +kernel
theorem dX8_load_53 : decode cX8_load 53 = .ok (.aload_n 0, 1) := by decide +kernel
theorem dX8_load_54 : decode cX8_load 54 = .ok (.getfield 23, 3) := by decide +kernel
theorem dX8_load_57 : decode cX8_load 57 = .ok (.getfield 75, 3) := by decide +kernel
theorem dX8_load_60 : decode cX8_load 60 = .ok (.ireturn, 1) := by decide +kernel
theorem dX8_load_61 : decode cX8_load 61 = .ok (.aload_n 0, 1) := by decide +kernel
theorem dX8_load_62 : decode cX8_load 62 = .ok (.iconst (-1), 1) := by decide +kernel
theorem dX8_load_63 : decode cX8_load 63 = .ok (.putfield 17, 3) := by decide +kernel
theorem dX8_load_66 : decode cX8_load 66 = .ok (.aload_n 0, 1) := by decide +kernel
theorem dX8_load_67 : decode cX8_load 67 = .ok (.invokevirtual 78, 3) := by decide +kernel
theorem dX8_load_70 : decode cX8_load 70 = .ok (.aload_n 0, 1) := by decide +kernel
theorem dX8_load_71 : decode cX8_load 71 = .ok (.getfield 30, 3) := by decide +kernel
theorem dX8_load_74 : decode cX8_load 74 = .ok (.aload_n 0, 1) := by decide +kernel
theorem dX8_load_75 : decode cX8_load 75 = .ok (.getfield 23, 3) := by decide +kernel
theorem dX8_load_78 : decode cX8_load 78 = .ok (.getfield 81, 3) := by decide +kernel
theorem dX8_load_81 : decode cX8_load 81 = .ok (.invokevirtual 84, 3) := by decide +kernel
theorem dX8_load_84 : decode cX8_load 84 = .ok (.aload_n 0, 1) := by decide +kernel
theorem dX8_load_85 : decode cX8_load 85 = .ok (.getfield 37, 3) := by decide +kernel
theorem dX8_load_88 : decode cX8_load 88 = .ok (.aload_n 0, 1) := by decide +kernel
theorem dX8_load_89 : decode cX8_load 89 = .ok (.getfield 30, 3) := by decide +kernel
theorem dX8_load_92 : decode cX8_load 92 = .ok (.invokevirtual 88, 3) := by decide +kernel
theorem dX8_load_95 : decode cX8_load 95 = .ok (.aload_n 0, 1) := by decide +kernel
theorem dX8_load_96 : decode cX8_load 96 = .ok (.getfield 30, 3) := by decide +kernel
theorem dX8_load_99 : decode cX8_load 99 = .ok (.getfield 91, 3) := by decide +kernel
theorem dX8_load_102 : decode cX8_load 102 = .ok (.ireturn, 1) := by decide +kernel
theorem dX8_errorOffset_0 : decode cX8_errorOffset 0 = .ok (.aload_n 0, 1) := by decide +kernel
theorem dX8_errorOffset_1 : decode cX8_errorOffset 1 = .ok (.getfield 17, 3) := by decide +kernel
theorem dX8_errorOffset_4 : decode cX8_errorOffset 4 = .ok (.ireturn, 1) := by decide +kernel
theorem dX8_libraries_0 : decode cX8_libraries 0 = .ok (.aload_n 0, 1) := by decide +kernel
theorem dX8_libraries_1 : decode cX8_libraries 1 = .ok (.getfield 30, 3) := by decide +kernel
theorem dX8_libraries_4 : decode cX8_libraries 4 = .ok (.getfield 91, 3) := by decide +kernel
theorem dX8_libraries_7 : decode cX8_libraries 7 = .ok (.ireturn, 1) := by decide +kernel
theorem dX8_names_0 : decode cX8_names 0 = .ok (.aload_n 0, 1) := by decide +kernel
theorem dX8_names_1 : decode cX8_names 1 = .ok (.getfield 30, 3) := by decide +kernel
theorem dX8_names_4 : decode cX8_names 4 = .ok (.getfield 94, 3) := by decide +kernel
theorem dX8_names_7 : decode cX8_names 7 = .ok (.ireturn, 1) := by decide +kernel
theorem dX8_share_0 : decode cX8_share 0 = .ok (.aload_n 0, 1) := by decide +kernel
theorem dX8_share_1 : decode cX8_share 1 = .ok (.getfield 30, 3) := by decide +kernel
theorem dX8_share_4 : decode cX8_share 4 = .ok (.getfield 97, 3) := by decide +kernel
theorem dX8_share_7 : decode cX8_share 7 = .ok (.ireturn, 1) := by decide +kernel
theorem dX8_library_0 : decode cX8_library 0 = .ok (.aload_n 0, 1) := by decide +kernel
theorem dX8_library_1 : decode cX8_library 1 = .ok (.iload_n 1, 1) := by decide +kernel
theorem dX8_library_2 : decode cX8_library 2 = .ok (.invokevirtual 100, 3) := by decide +kernel
theorem dX8_library_5 : decode cX8_library 5 = .ok (.aload_n 0, 1) := by decide +kernel
theorem dX8_library_6 : decode cX8_library 6 = .ok (.getfield 30, 3) := by decide +kernel
theorem dX8_library_9 : decode cX8_library 9 = .ok (.getfield 103, 3) := by decide +kernel
theorem dX8_library_12 : decode cX8_library 12 = .ok (.iload_n 1, 1) := by decide +kernel
theorem dX8_library_13 : decode cX8_library 13 = .ok (.aaload, 1) := by decide +kernel
theorem dX8_library_14 : decode cX8_library 14 = .ok (.astore_n 3, 1) := by decide +kernel
theorem dX8_library_15 : decode cX8_library 15 = .ok (.iload_n 2, 1) := by decide +kernel
theorem dX8_library_16 : decode cX8_library 16 = .ok (.tableswitch 83 0 5 #[40, 45, 58, 63, 68, 73], 40) := by decide +kernel
theorem dX8_library_56 : decode cX8_library 56 = .ok (.aload_n 3, 1) := by decide +kernel
theorem dX8_library_57 : decode cX8_library 57 = .ok (.getfield 107, 3) := by decide +kernel
theorem dX8_library_60 : decode cX8_library 60 = .ok (.ireturn, 1) := by decide +kernel
theorem dX8_library_61 : decode cX8_library 61 = .ok (.aload_n 3, 1) := by decide +kernel
theorem dX8_library_62 : decode cX8_library 62 = .ok (.getfield 112, 3) := by decide +kernel
theorem dX8_library_65 : decode cX8_library 65 = .ok (.ifCond .eq 7, 3) := by decide +kernel
theorem dX8_library_68 : decode cX8_library 68 = .ok (.iconst 1, 1) := by decide +kernel
theorem dX8_library_69 : decode cX8_library 69 = .ok (.goto 4, 3) := by decide +kernel
theorem dX8_library_72 : decode cX8_library 72 = .ok (.iconst 0, 1) := by decide +kernel
theorem dX8_library_73 : decode cX8_library 73 = .ok (.ireturn, 1) := by decide +kernel
theorem dX8_library_74 : decode cX8_library 74 = .ok (.aload_n 3, 1) := by decide +kernel
theorem dX8_library_75 : decode cX8_library 75 = .ok (.getfield 116, 3) := by decide +kernel
theorem dX8_library_78 : decode cX8_library 78 = .ok (.ireturn, 1) := by decide +kernel
theorem dX8_library_79 : decode cX8_library 79 = .ok (.aload_n 3, 1) := by decide +kernel
theorem dX8_library_80 : decode cX8_library 80 = .ok (.invokevirtual 119, 3) := by decide +kernel
theorem dX8_library_83 : decode cX8_library 83 = .ok (.ireturn, 1) := by decide +kernel
theorem dX8_library_84 : decode cX8_library 84 = .ok (.aload_n 3, 1) := by decide +kernel
theorem dX8_library_85 : decode cX8_library 85 = .ok (.getfield 123, 3) := by decide +kernel
theorem dX8_library_88 : decode cX8_library 88 = .ok (.ireturn, 1) := by decide +kernel
theorem dX8_library_89 : decode cX8_library 89 = .ok (.aload_n 0, 1) := by decide +kernel
theorem dX8_library_90 : decode cX8_library 90 = .ok (.getfield 37, 3) := by decide +kernel
theorem dX8_library_93 : decode cX8_library 93 = .ok (.getfield 126, 3) := by decide +kernel
theorem dX8_library_96 : decode cX8_library 96 = .ok (.iload_n 1, 1) := by decide +kernel
theorem dX8_library_97 : decode cX8_library 97 = .ok (.iaload, 1) := by decide +kernel
theorem dX8_library_98 : decode cX8_library 98 = .ok (.ireturn, 1) := by decide +kernel
theorem dX8_library_99 : decode cX8_library 99 = .ok (.new 63, 3) := by decide +kernel
theorem dX8_library_102 : decode cX8_library 102 = .ok (.dup, 1) := by decide +kernel
theorem dX8_library_103 : decode cX8_library 103 = .ok (.ldc 129, 2) := by decide +kernel
theorem dX8_library_105 : decode cX8_library 105 = .ok (.invokespecial 67, 3) := by decide +kernel
theorem dX8_library_108 : decode cX8_library 108 = .ok (.athrow, 1) := by decide +kernel
theorem dX8_offer_0 : decode cX8_offer 0 = .ok (.aload_n 0, 1) := by decide +kernel
theorem dX8_offer_1 : decode cX8_offer 1 = .ok (.iload_n 1, 1) := by decide +kernel
theorem dX8_offer_2 : decode cX8_offer 2 = .ok (.invokevirtual 100, 3) := by decide +kernel
theorem dX8_offer_5 : decode cX8_offer 5 = .ok (.aload_n 0, 1) := by decide +kernel
theorem dX8_offer_6 : decode cX8_offer 6 = .ok (.iload_n 2, 1) := by decide +kernel
theorem dX8_offer_7 : decode cX8_offer 7 = .ok (.invokevirtual 131, 3) := by decide +kernel
theorem dX8_offer_10 : decode cX8_offer 10 = .ok (.aload_n 0, 1) := by decide +kernel
theorem dX8_offer_11 : decode cX8_offer 11 = .ok (.getfield 30, 3) := by decide +kernel
theorem dX8_offer_14 : decode cX8_offer 14 = .ok (.getfield 103, 3) := by decide +kernel
theorem dX8_offer_17 : decode cX8_offer 17 = .ok (.iload_n 1, 1) := by decide +kernel
theorem dX8_offer_18 : decode cX8_offer 18 = .ok (.aaload, 1) := by decide +kernel
theorem dX8_offer_19 : decode cX8_offer 19 = .ok (.getfield 134, 3) := by decide +kernel
theorem dX8_offer_22 : decode cX8_offer 22 = .ok (.iload_n 2, 1) := by decide +kernel
theorem dX8_offer_23 : decode cX8_offer 23 = .ok (.iaload, 1) := by decide +kernel
theorem dX8_offer_24 : decode cX8_offer 24 = .ok (.ireturn, 1) := by decide +kernel
theorem dX8_candidates_0 : decode cX8_candidates 0 = .ok (.aload_n 0, 1) := by decide +kernel
theorem dX8_candidates_1 : decode cX8_candidates 1 = .ok (.iload_n 1, 1) := by decide +kernel
theorem dX8_candidates_2 : decode cX8_candidates 2 = .ok (.invokevirtual 131, 3) := by decide +kernel
theorem dX8_candidates_5 : decode cX8_candidates 5 = .ok (.aload_n 0, 1) := by decide +kernel
theorem dX8_candidates_6 : decode cX8_candidates 6 = .ok (.getfield 37, 3) := by decide +kernel
theorem dX8_candidates_9 : decode cX8_candidates 9 = .ok (.getfield 137, 3) := by decide +kernel
theorem dX8_candidates_12 : decode cX8_candidates 12 = .ok (.iload_n 1, 1) := by decide +kernel
theorem dX8_candidates_13 : decode cX8_candidates 13 = .ok (.iaload, 1) := by decide +kernel
theorem dX8_candidates_14 : decode cX8_candidates 14 = .ok (.ireturn, 1) := by decide +kernel
theorem dX8_winner_0 : decode cX8_winner 0 = .ok (.aload_n 0, 1) := by decide +kernel
theorem dX8_winner_1 : decode cX8_winner 1 = .ok (.iload_n 1, 1) := by decide +kernel
theorem dX8_winner_2 : decode cX8_winner 2 = .ok (.invokevirtual 131, 3) := by decide +kernel
theorem dX8_winner_5 : decode cX8_winner 5 = .ok (.aload_n 0, 1) := by decide +kernel
theorem dX8_winner_6 : decode cX8_winner 6 = .ok (.getfield 37, 3) := by decide +kernel
theorem dX8_winner_9 : decode cX8_winner 9 = .ok (.getfield 150, 3) := by decide +kernel
theorem dX8_winner_12 : decode cX8_winner 12 = .ok (.iload_n 1, 1) := by decide +kernel
theorem dX8_winner_13 : decode cX8_winner 13 = .ok (.iaload, 1) := by decide +kernel
theorem dX8_winner_14 : decode cX8_winner 14 = .ok (.ireturn, 1) := by decide +kernel
theorem dX8_binding_0 : decode cX8_binding 0 = .ok (.aload_n 0, 1) := by decide +kernel
theorem dX8_binding_1 : decode cX8_binding 1 = .ok (.iload_n 1, 1) := by decide +kernel
theorem dX8_binding_2 : decode cX8_binding 2 = .ok (.invokevirtual 100, 3) := by decide +kernel
theorem dX8_binding_5 : decode cX8_binding 5 = .ok (.aload_n 0, 1) := by decide +kernel
theorem dX8_binding_6 : decode cX8_binding 6 = .ok (.iload_n 2, 1) := by decide +kernel
theorem dX8_binding_7 : decode cX8_binding 7 = .ok (.invokevirtual 131, 3) := by decide +kernel
theorem dX8_binding_10 : decode cX8_binding 10 = .ok (.aload_n 0, 1) := by decide +kernel
theorem dX8_binding_11 : decode cX8_binding 11 = .ok (.getfield 37, 3) := by decide +kernel
theorem dX8_binding_14 : decode cX8_binding 14 = .ok (.getfield 156, 3) := by decide +kernel
theorem dX8_binding_17 : decode cX8_binding 17 = .ok (.iload_n 1, 1) := by decide +kernel
theorem dX8_binding_18 : decode cX8_binding 18 = .ok (.iload_n 2, 1) := by decide +kernel
theorem dX8_binding_19 : decode cX8_binding 19 = .ok (.invokestatic 143, 3) := by decide +kernel
theorem dX8_binding_22 : decode cX8_binding 22 = .ok (.iaload, 1) := by decide +kernel
theorem dX8_binding_23 : decode cX8_binding 23 = .ok (.ireturn, 1) := by decide +kernel
theorem dX8_minority_0 : decode cX8_minority 0 = .ok (.aload_n 0, 1) := by decide +kernel
theorem dX8_minority_1 : decode cX8_minority 1 = .ok (.iload_n 1, 1) := by decide +kernel
theorem dX8_minority_2 : decode cX8_minority 2 = .ok (.invokevirtual 131, 3) := by decide +kernel
theorem dX8_minority_5 : decode cX8_minority 5 = .ok (.aload_n 0, 1) := by decide +kernel
theorem dX8_minority_6 : decode cX8_minority 6 = .ok (.getfield 37, 3) := by decide +kernel
theorem dX8_minority_9 : decode cX8_minority 9 = .ok (.getfield 150, 3) := by decide +kernel
theorem dX8_minority_12 : decode cX8_minority 12 = .ok (.iload_n 1, 1) := by decide +kernel
theorem dX8_minority_13 : decode cX8_minority 13 = .ok (.iaload, 1) := by decide +kernel
theorem dX8_minority_14 : decode cX8_minority 14 = .ok (.istore_n 2, 1) := by decide +kernel
theorem dX8_minority_15 : decode cX8_minority 15 = .ok (.iconst 0, 1) := by decide +kernel
theorem dX8_minority_16 : decode cX8_minority 16 = .ok (.istore_n 3, 1) := by decide +kernel
theorem dX8_minority_17 : decode cX8_minority 17 = .ok (.iconst 0, 1) := by decide +kernel
theorem dX8_minority_18 : decode cX8_minority 18 = .ok (.istore 4, 2) := by decide +kernel
theorem dX8_minority_20 : decode cX8_minority 20 = .ok (.iload 4, 2) := by decide +kernel
theorem dX8_minority_22 : decode cX8_minority 22 = .ok (.aload_n 0, 1) := by decide +kernel
theorem dX8_minority_23 : decode cX8_minority 23 = .ok (.getfield 30, 3) := by decide +kernel
theorem dX8_minority_26 : decode cX8_minority 26 = .ok (.getfield 91, 3) := by decide +kernel
theorem dX8_minority_29 : decode cX8_minority 29 = .ok (.if_icmp .ge 46, 3) := by decide +kernel
theorem dX8_minority_32 : decode cX8_minority 32 = .ok (.aload_n 0, 1) := by decide +kernel
theorem dX8_minority_33 : decode cX8_minority 33 = .ok (.getfield 30, 3) := by decide +kernel
theorem dX8_minority_36 : decode cX8_minority 36 = .ok (.getfield 103, 3) := by decide +kernel
theorem dX8_minority_39 : decode cX8_minority 39 = .ok (.iload 4, 2) := by decide +kernel
theorem dX8_minority_41 : decode cX8_minority 41 = .ok (.aaload, 1) := by decide +kernel
theorem dX8_minority_42 : decode cX8_minority 42 = .ok (.invokevirtual 159, 3) := by decide +kernel
theorem dX8_minority_45 : decode cX8_minority 45 = .ok (.ifCond .eq 24, 3) := by decide +kernel
theorem dX8_minority_48 : decode cX8_minority 48 = .ok (.aload_n 0, 1) := by decide +kernel
theorem dX8_minority_49 : decode cX8_minority 49 = .ok (.getfield 37, 3) := by decide +kernel
theorem dX8_minority_52 : decode cX8_minority 52 = .ok (.getfield 156, 3) := by decide +kernel
theorem dX8_minority_55 : decode cX8_minority 55 = .ok (.iload 4, 2) := by decide +kernel
theorem dX8_minority_57 : decode cX8_minority 57 = .ok (.iload_n 1, 1) := by decide +kernel
theorem dX8_minority_58 : decode cX8_minority 58 = .ok (.invokestatic 143, 3) := by decide +kernel
theorem dX8_minority_61 : decode cX8_minority 61 = .ok (.iaload, 1) := by decide +kernel
theorem dX8_minority_62 : decode cX8_minority 62 = .ok (.iload_n 2, 1) := by decide +kernel
theorem dX8_minority_63 : decode cX8_minority 63 = .ok (.if_icmp .eq 6, 3) := by decide +kernel
theorem dX8_minority_66 : decode cX8_minority 66 = .ok (.iinc 3 1, 3) := by decide +kernel
theorem dX8_minority_69 : decode cX8_minority 69 = .ok (.iinc 4 1, 3) := by decide +kernel
theorem dX8_minority_72 : decode cX8_minority 72 = .ok (.goto (-52), 3) := by decide +kernel
theorem dX8_minority_75 : decode cX8_minority 75 = .ok (.iload_n 3, 1) := by decide +kernel
theorem dX8_minority_76 : decode cX8_minority 76 = .ok (.ireturn, 1) := by decide +kernel
theorem dX8_call_0 : decode cX8_call 0 = .ok (.aload_n 0, 1) := by decide +kernel
theorem dX8_call_1 : decode cX8_call 1 = .ok (.iload_n 1, 1) := by decide +kernel
theorem dX8_call_2 : decode cX8_call 2 = .ok (.invokevirtual 100, 3) := by decide +kernel
theorem dX8_call_5 : decode cX8_call 5 = .ok (.aload_n 0, 1) := by decide +kernel
theorem dX8_call_6 : decode cX8_call 6 = .ok (.iload_n 2, 1) := by decide +kernel
theorem dX8_call_7 : decode cX8_call 7 = .ok (.invokevirtual 131, 3) := by decide +kernel
theorem dX8_call_10 : decode cX8_call 10 = .ok (.aload_n 0, 1) := by decide +kernel
theorem dX8_call_11 : decode cX8_call 11 = .ok (.getfield 44, 3) := by decide +kernel
theorem dX8_call_14 : decode cX8_call 14 = .ok (.aload_n 0, 1) := by decide +kernel
theorem dX8_call_15 : decode cX8_call 15 = .ok (.getfield 30, 3) := by decide +kernel
theorem dX8_call_18 : decode cX8_call 18 = .ok (.aload_n 0, 1) := by decide +kernel
theorem dX8_call_19 : decode cX8_call 19 = .ok (.getfield 37, 3) := by decide +kernel
theorem dX8_call_22 : decode cX8_call 22 = .ok (.iload_n 1, 1) := by decide +kernel
theorem dX8_call_23 : decode cX8_call 23 = .ok (.iload_n 2, 1) := by decide +kernel
theorem dX8_call_24 : decode cX8_call 24 = .ok (.invokevirtual 163, 3) := by decide +kernel
theorem dX8_call_27 : decode cX8_call 27 = .ok (.aload_n 0, 1) := by decide +kernel
theorem dX8_call_28 : decode cX8_call 28 = .ok (.getfield 44, 3) := by decide +kernel
theorem dX8_call_31 : decode cX8_call 31 = .ok (.getfield 167, 3) := by decide +kernel
theorem dX8_call_34 : decode cX8_call 34 = .ok (.ireturn, 1) := by decide +kernel
theorem dX8_unload_0 : decode cX8_unload 0 = .ok (.aload_n 0, 1) := by decide +kernel
theorem dX8_unload_1 : decode cX8_unload 1 = .ok (.iload_n 1, 1) := by decide +kernel
theorem dX8_unload_2 : decode cX8_unload 2 = .ok (.invokevirtual 100, 3) := by decide +kernel
theorem dX8_unload_5 : decode cX8_unload 5 = .ok (.aload_n 0, 1) := by decide +kernel
theorem dX8_unload_6 : decode cX8_unload 6 = .ok (.getfield 30, 3) := by decide +kernel
theorem dX8_unload_9 : decode cX8_unload 9 = .ok (.getfield 103, 3) := by decide +kernel
theorem dX8_unload_12 : decode cX8_unload 12 = .ok (.iload_n 1, 1) := by decide +kernel
theorem dX8_unload_13 : decode cX8_unload 13 = .ok (.aaload, 1) := by decide +kernel
theorem dX8_unload_14 : decode cX8_unload 14 = .ok (.invokevirtual 159, 3) := by decide +kernel
theorem dX8_unload_17 : decode cX8_unload 17 = .ok (.ifCond .ne 13, 3) := by decide +kernel
theorem dX8_unload_20 : decode cX8_unload 20 = .ok (.new 173, 3) := by decide +kernel
theorem dX8_unload_23 : decode cX8_unload 23 = .ok (.dup, 1) := by decide +kernel
theorem dX8_unload_24 : decode cX8_unload 24 = .ok (.ldc 175, 2) := by decide +kernel
theorem dX8_unload_26 : decode cX8_unload 26 = .ok (.invokespecial 177, 3) := by decide +kernel
theorem dX8_unload_29 : decode cX8_unload 29 = .ok (.athrow, 1) := by decide +kernel
theorem dX8_unload_30 : decode cX8_unload 30 = .ok (.aload_n 0, 1) := by decide +kernel
theorem dX8_unload_31 : decode cX8_unload 31 = .ok (.invokevirtual 78, 3) := by decide +kernel
theorem dX8_unload_34 : decode cX8_unload 34 = .ok (.aload_n 0, 1) := by decide +kernel
theorem dX8_unload_35 : decode cX8_unload 35 = .ok (.getfield 30, 3) := by decide +kernel
theorem dX8_unload_38 : decode cX8_unload 38 = .ok (.iload_n 1, 1) := by decide +kernel
theorem dX8_unload_39 : decode cX8_unload 39 = .ok (.invokevirtual 178, 3) := by decide +kernel
theorem dX8_unload_42 : decode cX8_unload 42 = .ok (.aload_n 0, 1) := by decide +kernel
theorem dX8_unload_43 : decode cX8_unload 43 = .ok (.getfield 37, 3) := by decide +kernel
theorem dX8_unload_46 : decode cX8_unload 46 = .ok (.aload_n 0, 1) := by decide +kernel
theorem dX8_unload_47 : decode cX8_unload 47 = .ok (.getfield 30, 3) := by decide +kernel
theorem dX8_unload_50 : decode cX8_unload 50 = .ok (.invokevirtual 88, 3) := by decide +kernel
theorem dX8_unload_53 : decode cX8_unload 53 = .ok (.aload_n 0, 1) := by decide +kernel
theorem dX8_unload_54 : decode cX8_unload 54 = .ok (.invokevirtual 181, 3) := by decide +kernel
theorem dX8_unload_57 : decode cX8_unload 57 = .ok (.ireturn, 1) := by decide +kernel
theorem dX8_reload_0 : decode cX8_reload 0 = .ok (.aload_n 0, 1) := by decide +kernel
theorem dX8_reload_1 : decode cX8_reload 1 = .ok (.iload_n 1, 1) := by decide +kernel
theorem dX8_reload_2 : decode cX8_reload 2 = .ok (.invokevirtual 100, 3) := by decide +kernel
theorem dX8_reload_5 : decode cX8_reload 5 = .ok (.aload_n 0, 1) := by decide +kernel
theorem dX8_reload_6 : decode cX8_reload 6 = .ok (.getfield 30, 3) := by decide +kernel
theorem dX8_reload_9 : decode cX8_reload 9 = .ok (.getfield 103, 3) := by decide +kernel
theorem dX8_reload_12 : decode cX8_reload 12 = .ok (.iload_n 1, 1) := by decide +kernel
theorem dX8_reload_13 : decode cX8_reload 13 = .ok (.aaload, 1) := by decide +kernel
theorem dX8_reload_14 : decode cX8_reload 14 = .ok (.invokevirtual 159, 3) := by decide +kernel
theorem dX8_reload_17 : decode cX8_reload 17 = .ok (.ifCond .eq 13, 3) := by decide +kernel
theorem dX8_reload_20 : decode cX8_reload 20 = .ok (.new 173, 3) := by decide +kernel
theorem dX8_reload_23 : decode cX8_reload 23 = .ok (.dup, 1) := by decide +kernel
theorem dX8_reload_24 : decode cX8_reload 24 = .ok (.ldc 184, 2) := by decide +kernel
theorem dX8_reload_26 : decode cX8_reload 26 = .ok (.invokespecial 177, 3) := by decide +kernel
theorem dX8_reload_29 : decode cX8_reload 29 = .ok (.athrow, 1) := by decide +kernel
theorem dX8_reload_30 : decode cX8_reload 30 = .ok (.aload_n 0, 1) := by decide +kernel
theorem dX8_reload_31 : decode cX8_reload 31 = .ok (.invokevirtual 78, 3) := by decide +kernel
theorem dX8_reload_34 : decode cX8_reload 34 = .ok (.aload_n 0, 1) := by decide +kernel
theorem dX8_reload_35 : decode cX8_reload 35 = .ok (.getfield 30, 3) := by decide +kernel
theorem dX8_reload_38 : decode cX8_reload 38 = .ok (.iload_n 1, 1) := by decide +kernel
theorem dX8_reload_39 : decode cX8_reload 39 = .ok (.invokevirtual 186, 3) := by decide +kernel
theorem dX8_reload_42 : decode cX8_reload 42 = .ok (.aload_n 0, 1) := by decide +kernel
theorem dX8_reload_43 : decode cX8_reload 43 = .ok (.getfield 37, 3) := by decide +kernel
theorem dX8_reload_46 : decode cX8_reload 46 = .ok (.aload_n 0, 1) := by decide +kernel
theorem dX8_reload_47 : decode cX8_reload 47 = .ok (.getfield 30, 3) := by decide +kernel
theorem dX8_reload_50 : decode cX8_reload 50 = .ok (.invokevirtual 88, 3) := by decide +kernel
theorem dX8_reload_53 : decode cX8_reload 53 = .ok (.aload_n 0, 1) := by decide +kernel
theorem dX8_reload_54 : decode cX8_reload 54 = .ok (.invokevirtual 181, 3) := by decide +kernel
theorem dX8_reload_57 : decode cX8_reload 57 = .ok (.aload_n 0, 1) := by decide +kernel
theorem dX8_reload_58 : decode cX8_reload 58 = .ok (.iload_n 1, 1) := by decide +kernel
theorem dX8_reload_59 : decode cX8_reload 59 = .ok (.invokevirtual 189, 3) := by decide +kernel
theorem dX8_reload_62 : decode cX8_reload 62 = .ok (.isub, 1) := by decide +kernel
theorem dX8_reload_63 : decode cX8_reload 63 = .ok (.ireturn, 1) := by decide +kernel
theorem dX8_offerValue_0 : decode cX8_offerValue 0 = .ok (.aload_n 0, 1) := by decide +kernel
theorem dX8_offerValue_1 : decode cX8_offerValue 1 = .ok (.iload_n 1, 1) := by decide +kernel
theorem dX8_offerValue_2 : decode cX8_offerValue 2 = .ok (.invokevirtual 100, 3) := by decide +kernel
theorem dX8_offerValue_5 : decode cX8_offerValue 5 = .ok (.aload_n 0, 1) := by decide +kernel
theorem dX8_offerValue_6 : decode cX8_offerValue 6 = .ok (.iload_n 2, 1) := by decide +kernel
theorem dX8_offerValue_7 : decode cX8_offerValue 7 = .ok (.invokevirtual 131, 3) := by decide +kernel
theorem dX8_offerValue_10 : decode cX8_offerValue 10 = .ok (.iload_n 3, 1) := by decide +kernel
theorem dX8_offerValue_11 : decode cX8_offerValue 11 = .ok (.ifCond .lt 10, 3) := by decide +kernel
theorem dX8_offerValue_14 : decode cX8_offerValue 14 = .ok (.iload_n 3, 1) := by decide +kernel
theorem dX8_offerValue_15 : decode cX8_offerValue 15 = .ok (.sipush 9999, 3) := by decide +kernel
theorem dX8_offerValue_18 : decode cX8_offerValue 18 = .ok (.if_icmp .le 13, 3) := by decide +kernel
theorem dX8_offerValue_21 : decode cX8_offerValue 21 = .ok (.new 63, 3) := by decide +kernel
theorem dX8_offerValue_24 : decode cX8_offerValue 24 = .ok (.dup, 1) := by decide +kernel
theorem dX8_offerValue_25 : decode cX8_offerValue 25 = .ok (.ldc 193, 2) := by decide +kernel
theorem dX8_offerValue_27 : decode cX8_offerValue 27 = .ok (.invokespecial 67, 3) := by decide +kernel
theorem dX8_offerValue_30 : decode cX8_offerValue 30 = .ok (.athrow, 1) := by decide +kernel
theorem dX8_offerValue_31 : decode cX8_offerValue 31 = .ok (.aload_n 0, 1) := by decide +kernel
theorem dX8_offerValue_32 : decode cX8_offerValue 32 = .ok (.iload_n 1, 1) := by decide +kernel
theorem dX8_offerValue_33 : decode cX8_offerValue 33 = .ok (.iload_n 2, 1) := by decide +kernel
theorem dX8_offerValue_34 : decode cX8_offerValue 34 = .ok (.iload_n 3, 1) := by decide +kernel
theorem dX8_offerValue_35 : decode cX8_offerValue 35 = .ok (.invokevirtual 195, 3) := by decide +kernel
theorem dX8_offerValue_38 : decode cX8_offerValue 38 = .ok (.ireturn, 1) := by decide +kernel
theorem dX8_offerForward_0 : decode cX8_offerForward 0 = .ok (.aload_n 0, 1) := by decide +kernel
theorem dX8_offerForward_1 : decode cX8_offerForward 1 = .ok (.iload_n 1, 1) := by decide +kernel
theorem dX8_offerForward_2 : decode cX8_offerForward 2 = .ok (.invokevirtual 100, 3) := by decide +kernel
theorem dX8_offerForward_5 : decode cX8_offerForward 5 = .ok (.aload_n 0, 1) := by decide +kernel
theorem dX8_offerForward_6 : decode cX8_offerForward 6 = .ok (.iload_n 2, 1) := by decide +kernel
theorem dX8_offerForward_7 : decode cX8_offerForward 7 = .ok (.invokevirtual 131, 3) := by decide +kernel
theorem dX8_offerForward_10 : decode cX8_offerForward 10 = .ok (.aload_n 0, 1) := by decide +kernel
theorem dX8_offerForward_11 : decode cX8_offerForward 11 = .ok (.iload_n 3, 1) := by decide +kernel
theorem dX8_offerForward_12 : decode cX8_offerForward 12 = .ok (.invokevirtual 131, 3) := by decide +kernel
theorem dX8_offerForward_15 : decode cX8_offerForward 15 = .ok (.aload_n 0, 1) := by decide +kernel
theorem dX8_offerForward_16 : decode cX8_offerForward 16 = .ok (.iload_n 1, 1) := by decide +kernel
theorem dX8_offerForward_17 : decode cX8_offerForward 17 = .ok (.iload_n 2, 1) := by decide +kernel
theorem dX8_offerForward_18 : decode cX8_offerForward 18 = .ok (.bipush (-2), 2) := by decide +kernel
theorem dX8_offerForward_20 : decode cX8_offerForward 20 = .ok (.iload_n 3, 1) := by decide +kernel
theorem dX8_offerForward_21 : decode cX8_offerForward 21 = .ok (.isub, 1) := by decide +kernel
theorem dX8_offerForward_22 : decode cX8_offerForward 22 = .ok (.invokevirtual 195, 3) := by decide +kernel
theorem dX8_offerForward_25 : decode cX8_offerForward 25 = .ok (.ireturn, 1) := by decide +kernel
theorem dX8_withdraw_0 : decode cX8_withdraw 0 = .ok (.aload_n 0, 1) := by decide +kernel
theorem dX8_withdraw_1 : decode cX8_withdraw 1 = .ok (.iload_n 1, 1) := by decide +kernel
theorem dX8_withdraw_2 : decode cX8_withdraw 2 = .ok (.invokevirtual 100, 3) := by decide +kernel
theorem dX8_withdraw_5 : decode cX8_withdraw 5 = .ok (.aload_n 0, 1) := by decide +kernel
theorem dX8_withdraw_6 : decode cX8_withdraw 6 = .ok (.iload_n 2, 1) := by decide +kernel
theorem dX8_withdraw_7 : decode cX8_withdraw 7 = .ok (.invokevirtual 131, 3) := by decide +kernel
theorem dX8_withdraw_10 : decode cX8_withdraw 10 = .ok (.aload_n 0, 1) := by decide +kernel
theorem dX8_withdraw_11 : decode cX8_withdraw 11 = .ok (.getfield 30, 3) := by decide +kernel
theorem dX8_withdraw_14 : decode cX8_withdraw 14 = .ok (.getfield 103, 3) := by decide +kernel
theorem dX8_withdraw_17 : decode cX8_withdraw 17 = .ok (.iload_n 1, 1) := by decide +kernel
theorem dX8_withdraw_18 : decode cX8_withdraw 18 = .ok (.aaload, 1) := by decide +kernel
theorem dX8_withdraw_19 : decode cX8_withdraw 19 = .ok (.iload_n 2, 1) := by decide +kernel
theorem dX8_withdraw_20 : decode cX8_withdraw 20 = .ok (.invokevirtual 199, 3) := by decide +kernel
theorem dX8_withdraw_23 : decode cX8_withdraw 23 = .ok (.ifCond .ne 13, 3) := by decide +kernel
theorem dX8_withdraw_26 : decode cX8_withdraw 26 = .ok (.new 173, 3) := by decide +kernel
theorem dX8_withdraw_29 : decode cX8_withdraw 29 = .ok (.dup, 1) := by decide +kernel
theorem dX8_withdraw_30 : decode cX8_withdraw 30 = .ok (.ldc 203, 2) := by decide +kernel
theorem dX8_withdraw_32 : decode cX8_withdraw 32 = .ok (.invokespecial 177, 3) := by decide +kernel
theorem dX8_withdraw_35 : decode cX8_withdraw 35 = .ok (.athrow, 1) := by decide +kernel
theorem dX8_withdraw_36 : decode cX8_withdraw 36 = .ok (.aload_n 0, 1) := by decide +kernel
theorem dX8_withdraw_37 : decode cX8_withdraw 37 = .ok (.iload_n 1, 1) := by decide +kernel
theorem dX8_withdraw_38 : decode cX8_withdraw 38 = .ok (.iload_n 2, 1) := by decide +kernel
theorem dX8_withdraw_39 : decode cX8_withdraw 39 = .ok (.iconst (-1), 1) := by decide +kernel
theorem dX8_withdraw_40 : decode cX8_withdraw 40 = .ok (.invokevirtual 195, 3) := by decide +kernel
theorem dX8_withdraw_43 : decode cX8_withdraw 43 = .ok (.ireturn, 1) := by decide +kernel
theorem dX8_setTrust_0 : decode cX8_setTrust 0 = .ok (.aload_n 0, 1) := by decide +kernel
theorem dX8_setTrust_1 : decode cX8_setTrust 1 = .ok (.iload_n 1, 1) := by decide +kernel
theorem dX8_setTrust_2 : decode cX8_setTrust 2 = .ok (.invokevirtual 100, 3) := by decide +kernel
theorem dX8_setTrust_5 : decode cX8_setTrust 5 = .ok (.iload_n 2, 1) := by decide +kernel
theorem dX8_setTrust_6 : decode cX8_setTrust 6 = .ok (.ifCond .lt 10, 3) := by decide +kernel
theorem dX8_setTrust_9 : decode cX8_setTrust 9 = .ok (.iload_n 2, 1) := by decide +kernel
theorem dX8_setTrust_10 : decode cX8_setTrust 10 = .ok (.sipush 999, 3) := by decide +kernel
theorem dX8_setTrust_13 : decode cX8_setTrust 13 = .ok (.if_icmp .le 13, 3) := by decide +kernel
theorem dX8_setTrust_16 : decode cX8_setTrust 16 = .ok (.new 63, 3) := by decide +kernel
theorem dX8_setTrust_19 : decode cX8_setTrust 19 = .ok (.dup, 1) := by decide +kernel
theorem dX8_setTrust_20 : decode cX8_setTrust 20 = .ok (.ldc 205, 2) := by decide +kernel
theorem dX8_setTrust_22 : decode cX8_setTrust 22 = .ok (.invokespecial 67, 3) := by decide +kernel
theorem dX8_setTrust_25 : decode cX8_setTrust 25 = .ok (.athrow, 1) := by decide +kernel
theorem dX8_setTrust_26 : decode cX8_setTrust 26 = .ok (.aload_n 0, 1) := by decide +kernel
theorem dX8_setTrust_27 : decode cX8_setTrust 27 = .ok (.invokevirtual 78, 3) := by decide +kernel
theorem dX8_setTrust_30 : decode cX8_setTrust 30 = .ok (.aload_n 0, 1) := by decide +kernel
theorem dX8_setTrust_31 : decode cX8_setTrust 31 = .ok (.getfield 30, 3) := by decide +kernel
theorem dX8_setTrust_34 : decode cX8_setTrust 34 = .ok (.getfield 103, 3) := by decide +kernel
theorem dX8_setTrust_37 : decode cX8_setTrust 37 = .ok (.iload_n 1, 1) := by decide +kernel
theorem dX8_setTrust_38 : decode cX8_setTrust 38 = .ok (.aaload, 1) := by decide +kernel
theorem dX8_setTrust_39 : decode cX8_setTrust 39 = .ok (.getfield 107, 3) := by decide +kernel
theorem dX8_setTrust_42 : decode cX8_setTrust 42 = .ok (.istore_n 3, 1) := by decide +kernel
theorem dX8_setTrust_43 : decode cX8_setTrust 43 = .ok (.aload_n 0, 1) := by decide +kernel
theorem dX8_setTrust_44 : decode cX8_setTrust 44 = .ok (.getfield 30, 3) := by decide +kernel
theorem dX8_setTrust_47 : decode cX8_setTrust 47 = .ok (.getfield 103, 3) := by decide +kernel
theorem dX8_setTrust_50 : decode cX8_setTrust 50 = .ok (.iload_n 1, 1) := by decide +kernel
theorem dX8_setTrust_51 : decode cX8_setTrust 51 = .ok (.aaload, 1) := by decide +kernel
theorem dX8_setTrust_52 : decode cX8_setTrust 52 = .ok (.iload_n 2, 1) := by decide +kernel
theorem dX8_setTrust_53 : decode cX8_setTrust 53 = .ok (.putfield 107, 3) := by decide +kernel
theorem dX8_setTrust_56 : decode cX8_setTrust 56 = .ok (.aload_n 0, 1) := by decide +kernel
theorem dX8_setTrust_57 : decode cX8_setTrust 57 = .ok (.getfield 37, 3) := by decide +kernel
theorem dX8_setTrust_60 : decode cX8_setTrust 60 = .ok (.aload_n 0, 1) := by decide +kernel
theorem dX8_setTrust_61 : decode cX8_setTrust 61 = .ok (.getfield 30, 3) := by decide +kernel
theorem dX8_setTrust_64 : decode cX8_setTrust 64 = .ok (.invokevirtual 88, 3) := by decide +kernel
theorem dX8_setTrust_67 : decode cX8_setTrust 67 = .ok (.iload_n 3, 1) := by decide +kernel
theorem dX8_setTrust_68 : decode cX8_setTrust 68 = .ok (.ireturn, 1) := by decide +kernel
theorem dX8_setKeeps_0 : decode cX8_setKeeps 0 = .ok (.aload_n 0, 1) := by decide +kernel
theorem dX8_setKeeps_1 : decode cX8_setKeeps 1 = .ok (.iload_n 1, 1) := by decide +kernel
theorem dX8_setKeeps_2 : decode cX8_setKeeps 2 = .ok (.invokevirtual 100, 3) := by decide +kernel
theorem dX8_setKeeps_5 : decode cX8_setKeeps 5 = .ok (.aload_n 0, 1) := by decide +kernel
theorem dX8_setKeeps_6 : decode cX8_setKeeps 6 = .ok (.invokevirtual 78, 3) := by decide +kernel
theorem dX8_setKeeps_9 : decode cX8_setKeeps 9 = .ok (.aload_n 0, 1) := by decide +kernel
theorem dX8_setKeeps_10 : decode cX8_setKeeps 10 = .ok (.getfield 30, 3) := by decide +kernel
theorem dX8_setKeeps_13 : decode cX8_setKeeps 13 = .ok (.getfield 103, 3) := by decide +kernel
theorem dX8_setKeeps_16 : decode cX8_setKeeps 16 = .ok (.iload_n 1, 1) := by decide +kernel
theorem dX8_setKeeps_17 : decode cX8_setKeeps 17 = .ok (.aaload, 1) := by decide +kernel
theorem dX8_setKeeps_18 : decode cX8_setKeeps 18 = .ok (.iload_n 2, 1) := by decide +kernel
theorem dX8_setKeeps_19 : decode cX8_setKeeps 19 = .ok (.putfield 112, 3) := by decide +kernel
theorem dX8_setKeeps_22 : decode cX8_setKeeps 22 = .ok (.aload_n 0, 1) := by decide +kernel
theorem dX8_setKeeps_23 : decode cX8_setKeeps 23 = .ok (.getfield 37, 3) := by decide +kernel
theorem dX8_setKeeps_26 : decode cX8_setKeeps 26 = .ok (.aload_n 0, 1) := by decide +kernel
theorem dX8_setKeeps_27 : decode cX8_setKeeps 27 = .ok (.getfield 30, 3) := by decide +kernel
theorem dX8_setKeeps_30 : decode cX8_setKeeps 30 = .ok (.invokevirtual 88, 3) := by decide +kernel
theorem dX8_setKeeps_33 : decode cX8_setKeeps 33 = .ok (.aload_n 0, 1) := by decide +kernel
theorem dX8_setKeeps_34 : decode cX8_setKeeps 34 = .ok (.iload_n 1, 1) := by decide +kernel
theorem dX8_setKeeps_35 : decode cX8_setKeeps 35 = .ok (.invokevirtual 189, 3) := by decide +kernel
theorem dX8_setKeeps_38 : decode cX8_setKeeps 38 = .ok (.ireturn, 1) := by decide +kernel
theorem dX8_setShare_0 : decode cX8_setShare 0 = .ok (.iload_n 1, 1) := by decide +kernel
theorem dX8_setShare_1 : decode cX8_setShare 1 = .ok (.ifCond .lt 9, 3) := by decide +kernel
theorem dX8_setShare_4 : decode cX8_setShare 4 = .ok (.iload_n 1, 1) := by decide +kernel
theorem dX8_setShare_5 : decode cX8_setShare 5 = .ok (.bipush 100, 2) := by decide +kernel
theorem dX8_setShare_7 : decode cX8_setShare 7 = .ok (.if_icmp .le 13, 3) := by decide +kernel
theorem dX8_setShare_10 : decode cX8_setShare 10 = .ok (.new 63, 3) := by decide +kernel
theorem dX8_setShare_13 : decode cX8_setShare 13 = .ok (.dup, 1) := by decide +kernel
theorem dX8_setShare_14 : decode cX8_setShare 14 = .ok (.ldc 207, 2) := by decide +kernel
theorem dX8_setShare_16 : decode cX8_setShare 16 = .ok (.invokespecial 67, 3) := by decide +kernel
theorem dX8_setShare_19 : decode cX8_setShare 19 = .ok (.athrow, 1) := by decide +kernel
theorem dX8_setShare_20 : decode cX8_setShare 20 = .ok (.aload_n 0, 1) := by decide +kernel
theorem dX8_setShare_21 : decode cX8_setShare 21 = .ok (.invokevirtual 78, 3) := by decide +kernel
theorem dX8_setShare_24 : decode cX8_setShare 24 = .ok (.aload_n 0, 1) := by decide +kernel
theorem dX8_setShare_25 : decode cX8_setShare 25 = .ok (.getfield 30, 3) := by decide +kernel
theorem dX8_setShare_28 : decode cX8_setShare 28 = .ok (.iload_n 1, 1) := by decide +kernel
theorem dX8_setShare_29 : decode cX8_setShare 29 = .ok (.putfield 97, 3) := by decide +kernel
theorem dX8_setShare_32 : decode cX8_setShare 32 = .ok (.aload_n 0, 1) := by decide +kernel
theorem dX8_setShare_33 : decode cX8_setShare 33 = .ok (.getfield 37, 3) := by decide +kernel
theorem dX8_setShare_36 : decode cX8_setShare 36 = .ok (.aload_n 0, 1) := by decide +kernel
theorem dX8_setShare_37 : decode cX8_setShare 37 = .ok (.getfield 30, 3) := by decide +kernel
theorem dX8_setShare_40 : decode cX8_setShare 40 = .ok (.invokevirtual 88, 3) := by decide +kernel
theorem dX8_setShare_43 : decode cX8_setShare 43 = .ok (.aload_n 0, 1) := by decide +kernel
theorem dX8_setShare_44 : decode cX8_setShare 44 = .ok (.invokevirtual 181, 3) := by decide +kernel
theorem dX8_setShare_47 : decode cX8_setShare 47 = .ok (.ireturn, 1) := by decide +kernel
theorem dX8_undo_0 : decode cX8_undo 0 = .ok (.aload_n 0, 1) := by decide +kernel
theorem dX8_undo_1 : decode cX8_undo 1 = .ok (.getfield 51, 3) := by decide +kernel
theorem dX8_undo_4 : decode cX8_undo 4 = .ok (.aload_n 0, 1) := by decide +kernel
theorem dX8_undo_5 : decode cX8_undo 5 = .ok (.getfield 30, 3) := by decide +kernel
theorem dX8_undo_8 : decode cX8_undo 8 = .ok (.invokevirtual 209, 3) := by decide +kernel
theorem dX8_undo_11 : decode cX8_undo 11 = .ok (.ifCond .ne 5, 3) := by decide +kernel
theorem dX8_undo_14 : decode cX8_undo 14 = .ok (.iconst (-1), 1) := by decide +kernel
theorem dX8_undo_15 : decode cX8_undo 15 = .ok (.ireturn, 1) := by decide +kernel
theorem dX8_undo_16 : decode cX8_undo 16 = .ok (.aload_n 0, 1) := by decide +kernel
theorem dX8_undo_17 : decode cX8_undo 17 = .ok (.getfield 37, 3) := by decide +kernel
theorem dX8_undo_20 : decode cX8_undo 20 = .ok (.aload_n 0, 1) := by decide +kernel
theorem dX8_undo_21 : decode cX8_undo 21 = .ok (.getfield 30, 3) := by decide +kernel
theorem dX8_undo_24 : decode cX8_undo 24 = .ok (.invokevirtual 88, 3) := by decide +kernel
theorem dX8_undo_27 : decode cX8_undo 27 = .ok (.aload_n 0, 1) := by decide +kernel
theorem dX8_undo_28 : decode cX8_undo 28 = .ok (.getfield 51, 3) := by decide +kernel
theorem dX8_undo_31 : decode cX8_undo 31 = .ok (.getfield 213, 3) := by decide +kernel
theorem dX8_undo_34 : decode cX8_undo 34 = .ok (.ireturn, 1) := by decide +kernel
theorem dX8_checksum_0 : decode cX8_checksum 0 = .ok (.aload_n 0, 1) := by decide +kernel
theorem dX8_checksum_1 : decode cX8_checksum 1 = .ok (.invokevirtual 216, 3) := by decide +kernel
theorem dX8_checksum_4 : decode cX8_checksum 4 = .ok (.i2l, 1) := by decide +kernel
theorem dX8_checksum_5 : decode cX8_checksum 5 = .ok (.lstore_n 1, 1) := by decide +kernel
theorem dX8_checksum_6 : decode cX8_checksum 6 = .ok (.iconst 0, 1) := by decide +kernel
theorem dX8_checksum_7 : decode cX8_checksum 7 = .ok (.istore_n 3, 1) := by decide +kernel
theorem dX8_checksum_8 : decode cX8_checksum 8 = .ok (.iload_n 3, 1) := by decide +kernel
theorem dX8_checksum_9 : decode cX8_checksum 9 = .ok (.aload_n 0, 1) := by decide +kernel
theorem dX8_checksum_10 : decode cX8_checksum 10 = .ok (.getfield 30, 3) := by decide +kernel
theorem dX8_checksum_13 : decode cX8_checksum 13 = .ok (.getfield 91, 3) := by decide +kernel
theorem dX8_checksum_16 : decode cX8_checksum 16 = .ok (.if_icmp .ge 105, 3) := by decide +kernel
theorem dX8_checksum_19 : decode cX8_checksum 19 = .ok (.iconst 0, 1) := by decide +kernel
theorem dX8_checksum_20 : decode cX8_checksum 20 = .ok (.istore 4, 2) := by decide +kernel
theorem dX8_checksum_22 : decode cX8_checksum 22 = .ok (.iload 4, 2) := by decide +kernel
theorem dX8_checksum_24 : decode cX8_checksum 24 = .ok (.iconst 5, 1) := by decide +kernel
theorem dX8_checksum_25 : decode cX8_checksum 25 = .ok (.if_icmp .gt 24, 3) := by decide +kernel
theorem dX8_checksum_28 : decode cX8_checksum 28 = .ok (.ldc2_w 218, 3) := by decide +kernel
theorem dX8_checksum_31 : decode cX8_checksum 31 = .ok (.lload_n 1, 1) := by decide +kernel
theorem dX8_checksum_32 : decode cX8_checksum 32 = .ok (.lmul, 1) := by decide +kernel
theorem dX8_checksum_33 : decode cX8_checksum 33 = .ok (.aload_n 0, 1) := by decide +kernel
theorem dX8_checksum_34 : decode cX8_checksum 34 = .ok (.iload_n 3, 1) := by decide +kernel
theorem dX8_checksum_35 : decode cX8_checksum 35 = .ok (.iload 4, 2) := by decide +kernel
theorem dX8_checksum_37 : decode cX8_checksum 37 = .ok (.invokevirtual 220, 3) := by decide +kernel
theorem dX8_checksum_40 : decode cX8_checksum 40 = .ok (.i2l, 1) := by decide +kernel
theorem dX8_checksum_41 : decode cX8_checksum 41 = .ok (.ladd, 1) := by decide +kernel
theorem dX8_checksum_42 : decode cX8_checksum 42 = .ok (.lstore_n 1, 1) := by decide +kernel
theorem dX8_checksum_43 : decode cX8_checksum 43 = .ok (.iinc 4 1, 3) := by decide +kernel
theorem dX8_checksum_46 : decode cX8_checksum 46 = .ok (.goto (-24), 3) := by decide +kernel
theorem dX8_checksum_49 : decode cX8_checksum 49 = .ok (.iconst 0, 1) := by decide +kernel
theorem dX8_checksum_50 : decode cX8_checksum 50 = .ok (.istore 4, 2) := by decide +kernel
theorem dX8_checksum_52 : decode cX8_checksum 52 = .ok (.iload 4, 2) := by decide +kernel
theorem dX8_checksum_54 : decode cX8_checksum 54 = .ok (.aload_n 0, 1) := by decide +kernel
theorem dX8_checksum_55 : decode cX8_checksum 55 = .ok (.getfield 30, 3) := by decide +kernel
theorem dX8_checksum_58 : decode cX8_checksum 58 = .ok (.getfield 94, 3) := by decide +kernel
theorem dX8_checksum_61 : decode cX8_checksum 61 = .ok (.if_icmp .ge 54, 3) := by decide +kernel
theorem dX8_checksum_64 : decode cX8_checksum 64 = .ok (.ldc2_w 218, 3) := by decide +kernel
theorem dX8_checksum_67 : decode cX8_checksum 67 = .ok (.lload_n 1, 1) := by decide +kernel
theorem dX8_checksum_68 : decode cX8_checksum 68 = .ok (.lmul, 1) := by decide +kernel
theorem dX8_checksum_69 : decode cX8_checksum 69 = .ok (.aload_n 0, 1) := by decide +kernel
theorem dX8_checksum_70 : decode cX8_checksum 70 = .ok (.iload_n 3, 1) := by decide +kernel
theorem dX8_checksum_71 : decode cX8_checksum 71 = .ok (.iload 4, 2) := by decide +kernel
theorem dX8_checksum_73 : decode cX8_checksum 73 = .ok (.invokevirtual 223, 3) := by decide +kernel
theorem dX8_checksum_76 : decode cX8_checksum 76 = .ok (.i2l, 1) := by decide +kernel
theorem dX8_checksum_77 : decode cX8_checksum 77 = .ok (.ladd, 1) := by decide +kernel
theorem dX8_checksum_78 : decode cX8_checksum 78 = .ok (.lstore_n 1, 1) := by decide +kernel
theorem dX8_checksum_79 : decode cX8_checksum 79 = .ok (.ldc2_w 218, 3) := by decide +kernel
theorem dX8_checksum_82 : decode cX8_checksum 82 = .ok (.lload_n 1, 1) := by decide +kernel
theorem dX8_checksum_83 : decode cX8_checksum 83 = .ok (.lmul, 1) := by decide +kernel
theorem dX8_checksum_84 : decode cX8_checksum 84 = .ok (.aload_n 0, 1) := by decide +kernel
theorem dX8_checksum_85 : decode cX8_checksum 85 = .ok (.iload_n 3, 1) := by decide +kernel
theorem dX8_checksum_86 : decode cX8_checksum 86 = .ok (.iload 4, 2) := by decide +kernel
theorem dX8_checksum_88 : decode cX8_checksum 88 = .ok (.invokevirtual 226, 3) := by decide +kernel
theorem dX8_checksum_91 : decode cX8_checksum 91 = .ok (.i2l, 1) := by decide +kernel
theorem dX8_checksum_92 : decode cX8_checksum 92 = .ok (.ladd, 1) := by decide +kernel
theorem dX8_checksum_93 : decode cX8_checksum 93 = .ok (.lstore_n 1, 1) := by decide +kernel
theorem dX8_checksum_94 : decode cX8_checksum 94 = .ok (.ldc2_w 218, 3) := by decide +kernel
theorem dX8_checksum_97 : decode cX8_checksum 97 = .ok (.lload_n 1, 1) := by decide +kernel
theorem dX8_checksum_98 : decode cX8_checksum 98 = .ok (.lmul, 1) := by decide +kernel
theorem dX8_checksum_99 : decode cX8_checksum 99 = .ok (.aload_n 0, 1) := by decide +kernel
theorem dX8_checksum_100 : decode cX8_checksum 100 = .ok (.iload_n 3, 1) := by decide +kernel
theorem dX8_checksum_101 : decode cX8_checksum 101 = .ok (.iload 4, 2) := by decide +kernel
theorem dX8_checksum_103 : decode cX8_checksum 103 = .ok (.invokevirtual 229, 3) := by decide +kernel
theorem dX8_checksum_106 : decode cX8_checksum 106 = .ok (.i2l, 1) := by decide +kernel
theorem dX8_checksum_107 : decode cX8_checksum 107 = .ok (.ladd, 1) := by decide +kernel
theorem dX8_checksum_108 : decode cX8_checksum 108 = .ok (.lstore_n 1, 1) := by decide +kernel
theorem dX8_checksum_109 : decode cX8_checksum 109 = .ok (.iinc 4 1, 3) := by decide +kernel
theorem dX8_checksum_112 : decode cX8_checksum 112 = .ok (.goto (-60), 3) := by decide +kernel
theorem dX8_checksum_115 : decode cX8_checksum 115 = .ok (.iinc 3 1, 3) := by decide +kernel
theorem dX8_checksum_118 : decode cX8_checksum 118 = .ok (.goto (-110), 3) := by decide +kernel
theorem dX8_checksum_121 : decode cX8_checksum 121 = .ok (.lload_n 1, 1) := by decide +kernel
theorem dX8_checksum_122 : decode cX8_checksum 122 = .ok (.lreturn, 1) := by decide +kernel
theorem dX8_requireLibrary_0 : decode cX8_requireLibrary 0 = .ok (.iload_n 1, 1) := by decide +kernel
theorem dX8_requireLibrary_1 : decode cX8_requireLibrary 1 = .ok (.ifCond .lt 14, 3) := by decide +kernel
theorem dX8_requireLibrary_4 : decode cX8_requireLibrary 4 = .ok (.iload_n 1, 1) := by decide +kernel
theorem dX8_requireLibrary_5 : decode cX8_requireLibrary 5 = .ok (.aload_n 0, 1) := by decide +kernel
theorem dX8_requireLibrary_6 : decode cX8_requireLibrary 6 = .ok (.getfield 30, 3) := by decide +kernel
theorem dX8_requireLibrary_9 : decode cX8_requireLibrary 9 = .ok (.getfield 91, 3) := by decide +kernel
theorem dX8_requireLibrary_12 : decode cX8_requireLibrary 12 = .ok (.if_icmp .lt 13, 3) := by decide +kernel
theorem dX8_requireLibrary_15 : decode cX8_requireLibrary 15 = .ok (.new 232, 3) := by decide +kernel
theorem dX8_requireLibrary_18 : decode cX8_requireLibrary 18 = .ok (.dup, 1) := by decide +kernel
theorem dX8_requireLibrary_19 : decode cX8_requireLibrary 19 = .ok (.ldc 234, 2) := by decide +kernel
theorem dX8_requireLibrary_21 : decode cX8_requireLibrary 21 = .ok (.invokespecial 236, 3) := by decide +kernel
theorem dX8_requireLibrary_24 : decode cX8_requireLibrary 24 = .ok (.athrow, 1) := by decide +kernel
theorem dX8_requireLibrary_25 : decode cX8_requireLibrary 25 = .ok (.return_, 1) := by decide +kernel
theorem dX8_requireName_0 : decode cX8_requireName 0 = .ok (.iload_n 1, 1) := by decide +kernel
theorem dX8_requireName_1 : decode cX8_requireName 1 = .ok (.ifCond .lt 14, 3) := by decide +kernel
theorem dX8_requireName_4 : decode cX8_requireName 4 = .ok (.iload_n 1, 1) := by decide +kernel
theorem dX8_requireName_5 : decode cX8_requireName 5 = .ok (.aload_n 0, 1) := by decide +kernel
theorem dX8_requireName_6 : decode cX8_requireName 6 = .ok (.getfield 30, 3) := by decide +kernel
theorem dX8_requireName_9 : decode cX8_requireName 9 = .ok (.getfield 94, 3) := by decide +kernel
theorem dX8_requireName_12 : decode cX8_requireName 12 = .ok (.if_icmp .lt 13, 3) := by decide +kernel
theorem dX8_requireName_15 : decode cX8_requireName 15 = .ok (.new 232, 3) := by decide +kernel
theorem dX8_requireName_18 : decode cX8_requireName 18 = .ok (.dup, 1) := by decide +kernel
theorem dX8_requireName_19 : decode cX8_requireName 19 = .ok (.ldc 237, 2) := by decide +kernel
theorem dX8_requireName_21 : decode cX8_requireName 21 = .ok (.invokespecial 236, 3) := by decide +kernel
theorem dX8_requireName_24 : decode cX8_requireName 24 = .ok (.athrow, 1) := by decide +kernel
theorem dX8_requireName_25 : decode cX8_requireName 25 = .ok (.return_, 1) := by decide +kernel
theorem dX8_cellOf_0 : decode cX8_cellOf 0 = .ok (.iload_n 0, 1) := by decide +kernel
theorem dX8_cellOf_1 : decode cX8_cellOf 1 = .ok (.bipush 12, 2) := by decide +kernel
theorem dX8_cellOf_3 : decode cX8_cellOf 3 = .ok (.imul, 1) := by decide +kernel
theorem dX8_cellOf_4 : decode cX8_cellOf 4 = .ok (.iload_n 1, 1) := by decide +kernel
theorem dX8_cellOf_5 : decode cX8_cellOf 5 = .ok (.iadd, 1) := by decide +kernel
theorem dX8_cellOf_6 : decode cX8_cellOf 6 = .ok (.ireturn, 1) := by decide +kernel
theorem dX8_putBytes_0 : decode cX8_putBytes 0 = .ok (.bipush 24, 2) := by decide +kernel
theorem dX8_putBytes_2 : decode cX8_putBytes 2 = .ok (.istore_n 2, 1) := by decide +kernel
theorem dX8_putBytes_3 : decode cX8_putBytes 3 = .ok (.iload_n 2, 1) := by decide +kernel
theorem dX8_putBytes_4 : decode cX8_putBytes 4 = .ok (.ifCond .lt 42, 3) := by decide +kernel
theorem dX8_putBytes_7 : decode cX8_putBytes 7 = .ok (.aload_n 0, 1) := by decide +kernel
theorem dX8_putBytes_8 : decode cX8_putBytes 8 = .ok (.getfield 13, 3) := by decide +kernel
theorem dX8_putBytes_11 : decode cX8_putBytes 11 = .ok (.sipush 800, 3) := by decide +kernel
theorem dX8_putBytes_14 : decode cX8_putBytes 14 = .ok (.if_icmp .ge 32, 3) := by decide +kernel
theorem dX8_putBytes_17 : decode cX8_putBytes 17 = .ok (.aload_n 0, 1) := by decide +kernel
theorem dX8_putBytes_18 : decode cX8_putBytes 18 = .ok (.getfield 9, 3) := by decide +kernel
theorem dX8_putBytes_21 : decode cX8_putBytes 21 = .ok (.aload_n 0, 1) := by decide +kernel
theorem dX8_putBytes_22 : decode cX8_putBytes 22 = .ok (.getfield 13, 3) := by decide +kernel
theorem dX8_putBytes_25 : decode cX8_putBytes 25 = .ok (.iload_n 1, 1) := by decide +kernel
theorem dX8_putBytes_26 : decode cX8_putBytes 26 = .ok (.iload_n 2, 1) := by decide +kernel
theorem dX8_putBytes_27 : decode cX8_putBytes 27 = .ok (.ishr, 1) := by decide +kernel
theorem dX8_putBytes_28 : decode cX8_putBytes 28 = .ok (.i2b, 1) := by decide +kernel
theorem dX8_putBytes_29 : decode cX8_putBytes 29 = .ok (.bastore, 1) := by decide +kernel
theorem dX8_putBytes_30 : decode cX8_putBytes 30 = .ok (.aload_n 0, 1) := by decide +kernel
theorem dX8_putBytes_31 : decode cX8_putBytes 31 = .ok (.dup, 1) := by decide +kernel
theorem dX8_putBytes_32 : decode cX8_putBytes 32 = .ok (.getfield 13, 3) := by decide +kernel
theorem dX8_putBytes_35 : decode cX8_putBytes 35 = .ok (.iconst 1, 1) := by decide +kernel
theorem dX8_putBytes_36 : decode cX8_putBytes 36 = .ok (.iadd, 1) := by decide +kernel
theorem dX8_putBytes_37 : decode cX8_putBytes 37 = .ok (.putfield 13, 3) := by decide +kernel
theorem dX8_putBytes_40 : decode cX8_putBytes 40 = .ok (.iinc 2 (-8), 3) := by decide +kernel
theorem dX8_putBytes_43 : decode cX8_putBytes 43 = .ok (.goto (-40), 3) := by decide +kernel
theorem dX8_putBytes_46 : decode cX8_putBytes 46 = .ok (.return_, 1) := by decide +kernel
theorem dX8_beginChange_0 : decode cX8_beginChange 0 = .ok (.aload_n 0, 1) := by decide +kernel
theorem dX8_beginChange_1 : decode cX8_beginChange 1 = .ok (.getfield 51, 3) := by decide +kernel
theorem dX8_beginChange_4 : decode cX8_beginChange 4 = .ok (.aload_n 0, 1) := by decide +kernel
theorem dX8_beginChange_5 : decode cX8_beginChange 5 = .ok (.getfield 30, 3) := by decide +kernel
theorem dX8_beginChange_8 : decode cX8_beginChange 8 = .ok (.invokevirtual 239, 3) := by decide +kernel
theorem dX8_beginChange_11 : decode cX8_beginChange 11 = .ok (.aload_n 0, 1) := by decide +kernel
theorem dX8_beginChange_12 : decode cX8_beginChange 12 = .ok (.getfield 37, 3) := by decide +kernel
theorem dX8_beginChange_15 : decode cX8_beginChange 15 = .ok (.getfield 156, 3) := by decide +kernel
theorem dX8_beginChange_18 : decode cX8_beginChange 18 = .ok (.iconst 0, 1) := by decide +kernel
theorem dX8_beginChange_19 : decode cX8_beginChange 19 = .ok (.aload_n 0, 1) := by decide +kernel
theorem dX8_beginChange_20 : decode cX8_beginChange 20 = .ok (.getfield 55, 3) := by decide +kernel
theorem dX8_beginChange_23 : decode cX8_beginChange 23 = .ok (.iconst 0, 1) := by decide +kernel
theorem dX8_beginChange_24 : decode cX8_beginChange 24 = .ok (.bipush 96, 2) := by decide +kernel
theorem dX8_beginChange_26 : decode cX8_beginChange 26 = .ok (.invokestatic 242, 3) := by decide +kernel
theorem dX8_beginChange_29 : decode cX8_beginChange 29 = .ok (.return_, 1) := by decide +kernel
theorem dX8_changeOffer_0 : decode cX8_changeOffer 0 = .ok (.aload_n 0, 1) := by decide +kernel
theorem dX8_changeOffer_1 : decode cX8_changeOffer 1 = .ok (.invokevirtual 78, 3) := by decide +kernel
theorem dX8_changeOffer_4 : decode cX8_changeOffer 4 = .ok (.aload_n 0, 1) := by decide +kernel
theorem dX8_changeOffer_5 : decode cX8_changeOffer 5 = .ok (.getfield 30, 3) := by decide +kernel
theorem dX8_changeOffer_8 : decode cX8_changeOffer 8 = .ok (.getfield 103, 3) := by decide +kernel
theorem dX8_changeOffer_11 : decode cX8_changeOffer 11 = .ok (.iload_n 1, 1) := by decide +kernel
theorem dX8_changeOffer_12 : decode cX8_changeOffer 12 = .ok (.aaload, 1) := by decide +kernel
theorem dX8_changeOffer_13 : decode cX8_changeOffer 13 = .ok (.getfield 134, 3) := by decide +kernel
theorem dX8_changeOffer_16 : decode cX8_changeOffer 16 = .ok (.iload_n 2, 1) := by decide +kernel
theorem dX8_changeOffer_17 : decode cX8_changeOffer 17 = .ok (.iload_n 3, 1) := by decide +kernel
theorem dX8_changeOffer_18 : decode cX8_changeOffer 18 = .ok (.iastore, 1) := by decide +kernel
theorem dX8_changeOffer_19 : decode cX8_changeOffer 19 = .ok (.aload_n 0, 1) := by decide +kernel
theorem dX8_changeOffer_20 : decode cX8_changeOffer 20 = .ok (.getfield 37, 3) := by decide +kernel
theorem dX8_changeOffer_23 : decode cX8_changeOffer 23 = .ok (.aload_n 0, 1) := by decide +kernel
theorem dX8_changeOffer_24 : decode cX8_changeOffer 24 = .ok (.getfield 30, 3) := by decide +kernel
theorem dX8_changeOffer_27 : decode cX8_changeOffer 27 = .ok (.invokevirtual 88, 3) := by decide +kernel
theorem dX8_changeOffer_30 : decode cX8_changeOffer 30 = .ok (.aload_n 0, 1) := by decide +kernel
theorem dX8_changeOffer_31 : decode cX8_changeOffer 31 = .ok (.getfield 37, 3) := by decide +kernel
theorem dX8_changeOffer_34 : decode cX8_changeOffer 34 = .ok (.getfield 150, 3) := by decide +kernel
theorem dX8_changeOffer_37 : decode cX8_changeOffer 37 = .ok (.iload_n 2, 1) := by decide +kernel
theorem dX8_changeOffer_38 : decode cX8_changeOffer 38 = .ok (.iaload, 1) := by decide +kernel
theorem dX8_changeOffer_39 : decode cX8_changeOffer 39 = .ok (.ireturn, 1) := by decide +kernel
theorem dX8_changedBindings_0 : decode cX8_changedBindings 0 = .ok (.aload_n 0, 1) := by decide +kernel
theorem dX8_changedBindings_1 : decode cX8_changedBindings 1 = .ok (.getfield 30, 3) := by decide +kernel
theorem dX8_changedBindings_4 : decode cX8_changedBindings 4 = .ok (.getfield 103, 3) := by decide +kernel
theorem dX8_changedBindings_7 : decode cX8_changedBindings 7 = .ok (.iload_n 1, 1) := by decide +kernel
theorem dX8_changedBindings_8 : decode cX8_changedBindings 8 = .ok (.aaload, 1) := by decide +kernel
theorem dX8_changedBindings_9 : decode cX8_changedBindings 9 = .ok (.invokevirtual 159, 3) := by decide +kernel
theorem dX8_changedBindings_12 : decode cX8_changedBindings 12 = .ok (.ifCond .ne 5, 3) := by decide +kernel
theorem dX8_changedBindings_15 : decode cX8_changedBindings 15 = .ok (.iconst 0, 1) := by decide +kernel
theorem dX8_changedBindings_16 : decode cX8_changedBindings 16 = .ok (.ireturn, 1) := by decide +kernel
theorem dX8_changedBindings_17 : decode cX8_changedBindings 17 = .ok (.iconst 0, 1) := by decide +kernel
theorem dX8_changedBindings_18 : decode cX8_changedBindings 18 = .ok (.istore_n 2, 1) := by decide +kernel
theorem dX8_changedBindings_19 : decode cX8_changedBindings 19 = .ok (.iconst 0, 1) := by decide +kernel
theorem dX8_changedBindings_20 : decode cX8_changedBindings 20 = .ok (.istore_n 3, 1) := by decide +kernel
theorem dX8_changedBindings_21 : decode cX8_changedBindings 21 = .ok (.iload_n 3, 1) := by decide +kernel
theorem dX8_changedBindings_22 : decode cX8_changedBindings 22 = .ok (.aload_n 0, 1) := by decide +kernel
theorem dX8_changedBindings_23 : decode cX8_changedBindings 23 = .ok (.getfield 30, 3) := by decide +kernel
theorem dX8_changedBindings_26 : decode cX8_changedBindings 26 = .ok (.getfield 94, 3) := by decide +kernel
theorem dX8_changedBindings_29 : decode cX8_changedBindings 29 = .ok (.if_icmp .ge 39, 3) := by decide +kernel
theorem dX8_changedBindings_32 : decode cX8_changedBindings 32 = .ok (.iload_n 1, 1) := by decide +kernel
theorem dX8_changedBindings_33 : decode cX8_changedBindings 33 = .ok (.iload_n 3, 1) := by decide +kernel
theorem dX8_changedBindings_34 : decode cX8_changedBindings 34 = .ok (.invokestatic 143, 3) := by decide +kernel
theorem dX8_changedBindings_37 : decode cX8_changedBindings 37 = .ok (.istore 4, 2) := by decide +kernel
theorem dX8_changedBindings_39 : decode cX8_changedBindings 39 = .ok (.aload_n 0, 1) := by decide +kernel
theorem dX8_changedBindings_40 : decode cX8_changedBindings 40 = .ok (.getfield 37, 3) := by decide +kernel
theorem dX8_changedBindings_43 : decode cX8_changedBindings 43 = .ok (.getfield 156, 3) := by decide +kernel
theorem dX8_changedBindings_46 : decode cX8_changedBindings 46 = .ok (.iload 4, 2) := by decide +kernel
theorem dX8_changedBindings_48 : decode cX8_changedBindings 48 = .ok (.iaload, 1) := by decide +kernel
theorem dX8_changedBindings_49 : decode cX8_changedBindings 49 = .ok (.aload_n 0, 1) := by decide +kernel
theorem dX8_changedBindings_50 : decode cX8_changedBindings 50 = .ok (.getfield 55, 3) := by decide +kernel
theorem dX8_changedBindings_53 : decode cX8_changedBindings 53 = .ok (.iload 4, 2) := by decide +kernel
theorem dX8_changedBindings_55 : decode cX8_changedBindings 55 = .ok (.iaload, 1) := by decide +kernel
theorem dX8_changedBindings_56 : decode cX8_changedBindings 56 = .ok (.if_icmp .eq 6, 3) := by decide +kernel
theorem dX8_changedBindings_59 : decode cX8_changedBindings 59 = .ok (.iinc 2 1, 3) := by decide +kernel
theorem dX8_changedBindings_62 : decode cX8_changedBindings 62 = .ok (.iinc 3 1, 3) := by decide +kernel
theorem dX8_changedBindings_65 : decode cX8_changedBindings 65 = .ok (.goto (-44), 3) := by decide +kernel
theorem dX8_changedBindings_68 : decode cX8_changedBindings 68 = .ok (.iload_n 2, 1) := by decide +kernel
theorem dX8_changedBindings_69 : decode cX8_changedBindings 69 = .ok (.ireturn, 1) := by decide +kernel
theorem dX8_changedBindingsOfAll_0 : decode cX8_changedBindingsOfAll 0 = .ok (.iconst 0, 1) := by decide +kernel
theorem dX8_changedBindingsOfAll_1 : decode cX8_changedBindingsOfAll 1 = .ok (.istore_n 1, 1) := by decide +kernel
theorem dX8_changedBindingsOfAll_2 : decode cX8_changedBindingsOfAll 2 = .ok (.iconst 0, 1) := by decide +kernel
theorem dX8_changedBindingsOfAll_3 : decode cX8_changedBindingsOfAll 3 = .ok (.istore_n 2, 1) := by decide +kernel
theorem dX8_changedBindingsOfAll_4 : decode cX8_changedBindingsOfAll 4 = .ok (.iload_n 2, 1) := by decide +kernel
theorem dX8_changedBindingsOfAll_5 : decode cX8_changedBindingsOfAll 5 = .ok (.aload_n 0, 1) := by decide +kernel
theorem dX8_changedBindingsOfAll_6 : decode cX8_changedBindingsOfAll 6 = .ok (.getfield 30, 3) := by decide +kernel
theorem dX8_changedBindingsOfAll_9 : decode cX8_changedBindingsOfAll 9 = .ok (.getfield 91, 3) := by decide +kernel
theorem dX8_changedBindingsOfAll_12 : decode cX8_changedBindingsOfAll 12 = .ok (.if_icmp .ge 17, 3) := by decide +kernel
theorem dX8_changedBindingsOfAll_15 : decode cX8_changedBindingsOfAll 15 = .ok (.iload_n 1, 1) := by decide +kernel
theorem dX8_changedBindingsOfAll_16 : decode cX8_changedBindingsOfAll 16 = .ok (.aload_n 0, 1) := by decide +kernel
theorem dX8_changedBindingsOfAll_17 : decode cX8_changedBindingsOfAll 17 = .ok (.iload_n 2, 1) := by decide +kernel
theorem dX8_changedBindingsOfAll_18 : decode cX8_changedBindingsOfAll 18 = .ok (.invokevirtual 189, 3) := by decide +kernel
theorem dX8_changedBindingsOfAll_21 : decode cX8_changedBindingsOfAll 21 = .ok (.iadd, 1) := by decide +kernel
theorem dX8_changedBindingsOfAll_22 : decode cX8_changedBindingsOfAll 22 = .ok (.istore_n 1, 1) := by decide +kernel
theorem dX8_changedBindingsOfAll_23 : decode cX8_changedBindingsOfAll 23 = .ok (.iinc 2 1, 3) := by decide +kernel
theorem dX8_changedBindingsOfAll_26 : decode cX8_changedBindingsOfAll 26 = .ok (.goto (-22), 3) := by decide +kernel
theorem dX8_changedBindingsOfAll_29 : decode cX8_changedBindingsOfAll 29 = .ok (.iload_n 1, 1) := by decide +kernel
theorem dX8_changedBindingsOfAll_30 : decode cX8_changedBindingsOfAll 30 = .ok (.ireturn, 1) := by decide +kernel
end
section
theorem dX9_init_0 : decode cX9_init 0 = .ok (.aload_n 0, 1) := by decide +kernel
theorem dX9_init_1 : decode cX9_init 1 = .ok (.invokespecial 1, 3) := by decide +kernel
theorem dX9_init_4 : decode cX9_init 4 = .ok (.aload_n 0, 1) := by decide +kernel
theorem dX9_init_5 : decode cX9_init 5 = .ok (.iconst 0, 1) := by decide +kernel
theorem dX9_init_6 : decode cX9_init 6 = .ok (.newarray .int, 2) := by decide +kernel
theorem dX9_init_8 : decode cX9_init 8 = .ok (.putfield 7, 3) := by decide +kernel
theorem dX9_init_11 : decode cX9_init 11 = .ok (.return_, 1) := by decide +kernel
theorem dX9_copy_0 : decode cX9_copy 0 = .ok (.new 8, 3) := by decide +kernel
theorem dX9_copy_3 : decode cX9_copy 3 = .ok (.dup, 1) := by decide +kernel
theorem dX9_copy_4 : decode cX9_copy 4 = .ok (.invokespecial 13, 3) := by decide +kernel
theorem dX9_copy_7 : decode cX9_copy 7 = .ok (.astore_n 1, 1) := by decide +kernel
theorem dX9_copy_8 : decode cX9_copy 8 = .ok (.aload_n 1, 1) := by decide +kernel
theorem dX9_copy_9 : decode cX9_copy 9 = .ok (.aload_n 0, 1) := by decide +kernel
theorem dX9_copy_10 : decode cX9_copy 10 = .ok (.getfield 14, 3) := by decide +kernel
theorem dX9_copy_13 : decode cX9_copy 13 = .ok (.putfield 14, 3) := by decide +kernel
theorem dX9_copy_16 : decode cX9_copy 16 = .ok (.aload_n 1, 1) := by decide +kernel
theorem dX9_copy_17 : decode cX9_copy 17 = .ok (.aload_n 0, 1) := by decide +kernel
theorem dX9_copy_18 : decode cX9_copy 18 = .ok (.getfield 18, 3) := by decide +kernel
theorem dX9_copy_21 : decode cX9_copy 21 = .ok (.putfield 18, 3) := by decide +kernel
theorem dX9_copy_24 : decode cX9_copy 24 = .ok (.aload_n 1, 1) := by decide +kernel
theorem dX9_copy_25 : decode cX9_copy 25 = .ok (.aload_n 0, 1) := by decide +kernel
theorem dX9_copy_26 : decode cX9_copy 26 = .ok (.getfield 7, 3) := by decide +kernel
theorem dX9_copy_29 : decode cX9_copy 29 = .ok (.putfield 7, 3) := by decide +kernel
theorem dX9_copy_32 : decode cX9_copy 32 = .ok (.aload_n 1, 1) := by decide +kernel
theorem dX9_copy_33 : decode cX9_copy 33 = .ok (.aload_n 0, 1) := by decide +kernel
theorem dX9_copy_34 : decode cX9_copy 34 = .ok (.getfield 22, 3) := by decide +kernel
theorem dX9_copy_37 : decode cX9_copy 37 = .ok (.invokevirtual 25, 3) := by decide +kernel
theorem dX9_copy_40 : decode cX9_copy 40 = .ok (.checkcast 26, 3) := by decide +kernel
theorem dX9_copy_43 : decode cX9_copy 43 = .ok (.putfield 22, 3) := by decide +kernel
theorem dX9_copy_46 : decode cX9_copy 46 = .ok (.aload_n 1, 1) := by decide +kernel
theorem dX9_copy_47 : decode cX9_copy 47 = .ok (.areturn, 1) := by decide +kernel
theorem dX9_offered_0 : decode cX9_offered 0 = .ok (.iconst 0, 1) := by decide +kernel
theorem dX9_offered_1 : decode cX9_offered 1 = .ok (.istore_n 1, 1) := by decide +kernel
theorem dX9_offered_2 : decode cX9_offered 2 = .ok (.aload_n 0, 1) := by decide +kernel
theorem dX9_offered_3 : decode cX9_offered 3 = .ok (.getfield 22, 3) := by decide +kernel
theorem dX9_offered_6 : decode cX9_offered 6 = .ok (.astore_n 2, 1) := by decide +kernel
theorem dX9_offered_7 : decode cX9_offered 7 = .ok (.aload_n 2, 1) := by decide +kernel
theorem dX9_offered_8 : decode cX9_offered 8 = .ok (.arraylength, 1) := by decide +kernel
theorem dX9_offered_9 : decode cX9_offered 9 = .ok (.istore_n 3, 1) := by decide +kernel
theorem dX9_offered_10 : decode cX9_offered 10 = .ok (.iconst 0, 1) := by decide +kernel
theorem dX9_offered_11 : decode cX9_offered 11 = .ok (.istore 4, 2) := by decide +kernel
theorem dX9_offered_13 : decode cX9_offered 13 = .ok (.iload 4, 2) := by decide +kernel
theorem dX9_offered_15 : decode cX9_offered 15 = .ok (.iload_n 3, 1) := by decide +kernel
theorem dX9_offered_16 : decode cX9_offered 16 = .ok (.if_icmp .ge 24, 3) := by decide +kernel
theorem dX9_offered_19 : decode cX9_offered 19 = .ok (.aload_n 2, 1) := by decide +kernel
theorem dX9_offered_20 : decode cX9_offered 20 = .ok (.iload 4, 2) := by decide +kernel
theorem dX9_offered_22 : decode cX9_offered 22 = .ok (.iaload, 1) := by decide +kernel
theorem dX9_offered_23 : decode cX9_offered 23 = .ok (.istore 5, 2) := by decide +kernel
theorem dX9_offered_25 : decode cX9_offered 25 = .ok (.iload 5, 2) := by decide +kernel
theorem dX9_offered_27 : decode cX9_offered 27 = .ok (.iconst (-1), 1) := by decide +kernel
theorem dX9_offered_28 : decode cX9_offered 28 = .ok (.if_icmp .eq 6, 3) := by decide +kernel
theorem dX9_offered_31 : decode cX9_offered 31 = .ok (.iinc 1 1, 3) := by decide +kernel
theorem dX9_offered_34 : decode cX9_offered 34 = .ok (.iinc 4 1, 3) := by decide +kernel
theorem dX9_offered_37 : decode cX9_offered 37 = .ok (.goto (-24), 3) := by decide +kernel
theorem dX9_offered_40 : decode cX9_offered 40 = .ok (.iload_n 1, 1) := by decide +kernel
theorem dX9_offered_41 : decode cX9_offered 41 = .ok (.ireturn, 1) := by decide +kernel
end
