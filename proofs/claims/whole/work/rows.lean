section
-- ===== PART A: goes FIRST, ahead of the names: the tables' words, and 'selects' of the private methods out of them =====
/-- a private method of a class that the tables say can be made, by its rows of tables_1 -/
def lw_okq (q : MethodName × Nat) : Prop := (q.1.cls ≠ "java/lang/invoke/MethodHandle" ∧ q.1.cls ≠ "java/lang/invoke/VarHandle") ∧ Cond.instantiable q.1.cls q.2 ∈ tables_1 ∧ Cond.privateMethod q.1 ∈ tables_1 ∧ Cond.instanceMethod q.1 ∈ tables_1
theorem lw_p0 : lw_okq (⟨"LinkElection", "putBytes", "(I)V"⟩, 9) := ⟨⟨by decide +kernel, by decide +kernel⟩, List.mem_of_getElem? (i := 25) (by decide +kernel), List.mem_of_getElem? (i := 311) (by decide +kernel), List.mem_of_getElem? (i := 312) (by decide +kernel)⟩
theorem lw_p1 : lw_okq (⟨"LinkElection$History", "bringBack", "(LLinkElection$Data;)Z"⟩, 3) := ⟨⟨by decide +kernel, by decide +kernel⟩, List.mem_of_getElem? (i := 259) (by decide +kernel), List.mem_of_getElem? (i := 335) (by decide +kernel), List.mem_of_getElem? (i := 336) (by decide +kernel)⟩
theorem lw_p2 : lw_okq (⟨"LinkElection$Data", "copyFrom", "(LLinkElection$Data;)V"⟩, 5) := ⟨⟨by decide +kernel, by decide +kernel⟩, List.mem_of_getElem? (i := 75) (by decide +kernel), List.mem_of_getElem? (i := 339) (by decide +kernel), List.mem_of_getElem? (i := 340) (by decide +kernel)⟩
theorem lw_p3 : lw_okq (⟨"LinkElection$Library", "copyFrom", "(LLinkElection$Library;)V"⟩, 6) := ⟨⟨by decide +kernel, by decide +kernel⟩, List.mem_of_getElem? (i := 96) (by decide +kernel), List.mem_of_getElem? (i := 343) (by decide +kernel), List.mem_of_getElem? (i := 344) (by decide +kernel)⟩
theorem lw_p4 : lw_okq (⟨"LinkElection$Election", "count", "(LLinkElection$Data;)V"⟩, 7) := ⟨⟨by decide +kernel, by decide +kernel⟩, List.mem_of_getElem? (i := 205) (by decide +kernel), List.mem_of_getElem? (i := 350) (by decide +kernel), List.mem_of_getElem? (i := 351) (by decide +kernel)⟩
theorem lw_p5 : lw_okq (⟨"LinkElection$Library", "isLoaded", "()Z"⟩, 6) := ⟨⟨by decide +kernel, by decide +kernel⟩, List.mem_of_getElem? (i := 96) (by decide +kernel), List.mem_of_getElem? (i := 354) (by decide +kernel), List.mem_of_getElem? (i := 355) (by decide +kernel)⟩
theorem lw_p6 : lw_okq (⟨"LinkElection$Data", "weightOf", "(I)I"⟩, 5) := ⟨⟨by decide +kernel, by decide +kernel⟩, List.mem_of_getElem? (i := 75) (by decide +kernel), List.mem_of_getElem? (i := 358) (by decide +kernel), List.mem_of_getElem? (i := 359) (by decide +kernel)⟩
theorem lw_p7 : lw_okq (⟨"LinkElection$Library", "countOffers", "()I"⟩, 6) := ⟨⟨by decide +kernel, by decide +kernel⟩, List.mem_of_getElem? (i := 96) (by decide +kernel), List.mem_of_getElem? (i := 362) (by decide +kernel), List.mem_of_getElem? (i := 363) (by decide +kernel)⟩
theorem lw_p8 : lw_okq (⟨"LinkElection$Library", "hasOffer", "(I)Z"⟩, 6) := ⟨⟨by decide +kernel, by decide +kernel⟩, List.mem_of_getElem? (i := 96) (by decide +kernel), List.mem_of_getElem? (i := 366) (by decide +kernel), List.mem_of_getElem? (i := 367) (by decide +kernel)⟩
theorem lw_p9 : lw_okq (⟨"LinkElection$Data", "friendsOf", "(I)I"⟩, 5) := ⟨⟨by decide +kernel, by decide +kernel⟩, List.mem_of_getElem? (i := 75) (by decide +kernel), List.mem_of_getElem? (i := 370) (by decide +kernel), List.mem_of_getElem? (i := 371) (by decide +kernel)⟩
theorem lw_p10 : lw_okq (⟨"LinkElection$Library", "prefers", "(I)Z"⟩, 6) := ⟨⟨by decide +kernel, by decide +kernel⟩, List.mem_of_getElem? (i := 96) (by decide +kernel), List.mem_of_getElem? (i := 375) (by decide +kernel), List.mem_of_getElem? (i := 376) (by decide +kernel)⟩
theorem lw_p11 : lw_okq (⟨"LinkElection$Weight", "valueOf", "(IIII)I"⟩, 2) := ⟨⟨by decide +kernel, by decide +kernel⟩, List.mem_of_getElem? (i := 83) (by decide +kernel), List.mem_of_getElem? (i := 379) (by decide +kernel), List.mem_of_getElem? (i := 380) (by decide +kernel)⟩
theorem lw_p12 : lw_okq (⟨"LinkElection$Election", "countCandidates", "(LLinkElection$Data;I)V"⟩, 7) := ⟨⟨by decide +kernel, by decide +kernel⟩, List.mem_of_getElem? (i := 205) (by decide +kernel), List.mem_of_getElem? (i := 400) (by decide +kernel), List.mem_of_getElem? (i := 401) (by decide +kernel)⟩
theorem lw_p13 : lw_okq (⟨"LinkElection$Data", "isCandidate", "(II)Z"⟩, 5) := ⟨⟨by decide +kernel, by decide +kernel⟩, List.mem_of_getElem? (i := 75) (by decide +kernel), List.mem_of_getElem? (i := 404) (by decide +kernel), List.mem_of_getElem? (i := 405) (by decide +kernel)⟩
theorem lw_p14 : lw_okq (⟨"LinkElection$Election", "countVotes", "(LLinkElection$Data;I)V"⟩, 7) := ⟨⟨by decide +kernel, by decide +kernel⟩, List.mem_of_getElem? (i := 205) (by decide +kernel), List.mem_of_getElem? (i := 412) (by decide +kernel), List.mem_of_getElem? (i := 413) (by decide +kernel)⟩
theorem lw_p15 : lw_okq (⟨"LinkElection$Election", "countWinner", "(LLinkElection$Data;I)V"⟩, 7) := ⟨⟨by decide +kernel, by decide +kernel⟩, List.mem_of_getElem? (i := 205) (by decide +kernel), List.mem_of_getElem? (i := 420) (by decide +kernel), List.mem_of_getElem? (i := 421) (by decide +kernel)⟩
def lw_privs_1 : List (MethodName × Nat) := [(⟨"LinkElection", "putBytes", "(I)V"⟩, 9), (⟨"LinkElection$History", "bringBack", "(LLinkElection$Data;)Z"⟩, 3), (⟨"LinkElection$Data", "copyFrom", "(LLinkElection$Data;)V"⟩, 5), (⟨"LinkElection$Library", "copyFrom", "(LLinkElection$Library;)V"⟩, 6), (⟨"LinkElection$Election", "count", "(LLinkElection$Data;)V"⟩, 7), (⟨"LinkElection$Library", "isLoaded", "()Z"⟩, 6), (⟨"LinkElection$Data", "weightOf", "(I)I"⟩, 5), (⟨"LinkElection$Library", "countOffers", "()I"⟩, 6), (⟨"LinkElection$Library", "hasOffer", "(I)Z"⟩, 6), (⟨"LinkElection$Data", "friendsOf", "(I)I"⟩, 5), (⟨"LinkElection$Library", "prefers", "(I)Z"⟩, 6), (⟨"LinkElection$Weight", "valueOf", "(IIII)I"⟩, 2), (⟨"LinkElection$Election", "countCandidates", "(LLinkElection$Data;I)V"⟩, 7), (⟨"LinkElection$Data", "isCandidate", "(II)Z"⟩, 5), (⟨"LinkElection$Election", "countVotes", "(LLinkElection$Data;I)V"⟩, 7), (⟨"LinkElection$Election", "countWinner", "(LLinkElection$Data;I)V"⟩, 7)]
theorem lw_r1 : ∀ q ∈ lw_privs_1, lw_okq q := List.forall_mem_cons.mpr ⟨lw_p0, List.forall_mem_cons.mpr ⟨lw_p1, List.forall_mem_cons.mpr ⟨lw_p2, List.forall_mem_cons.mpr ⟨lw_p3, List.forall_mem_cons.mpr ⟨lw_p4, List.forall_mem_cons.mpr ⟨lw_p5, List.forall_mem_cons.mpr ⟨lw_p6, List.forall_mem_cons.mpr ⟨lw_p7, List.forall_mem_cons.mpr ⟨lw_p8, List.forall_mem_cons.mpr ⟨lw_p9, List.forall_mem_cons.mpr ⟨lw_p10, List.forall_mem_cons.mpr ⟨lw_p11, List.forall_mem_cons.mpr ⟨lw_p12, List.forall_mem_cons.mpr ⟨lw_p13, List.forall_mem_cons.mpr ⟨lw_p14, List.forall_mem_cons.mpr ⟨lw_p15, fun _ h => absurd h List.not_mem_nil⟩⟩⟩⟩⟩⟩⟩⟩⟩⟩⟩⟩⟩⟩⟩⟩
theorem lw_p16 : lw_okq (⟨"LinkElection$Election", "isAhead", "(LLinkElection$Data;III)Z"⟩, 7) := ⟨⟨by decide +kernel, by decide +kernel⟩, List.mem_of_getElem? (i := 205) (by decide +kernel), List.mem_of_getElem? (i := 424) (by decide +kernel), List.mem_of_getElem? (i := 425) (by decide +kernel)⟩
theorem lw_p17 : lw_okq (⟨"LinkElection$Election", "countMargin", "(LLinkElection$Data;I)V"⟩, 7) := ⟨⟨by decide +kernel, by decide +kernel⟩, List.mem_of_getElem? (i := 205) (by decide +kernel), List.mem_of_getElem? (i := 428) (by decide +kernel), List.mem_of_getElem? (i := 429) (by decide +kernel)⟩
theorem lw_p18 : lw_okq (⟨"LinkElection$Election", "countBindings", "(LLinkElection$Data;I)V"⟩, 7) := ⟨⟨by decide +kernel, by decide +kernel⟩, List.mem_of_getElem? (i := 205) (by decide +kernel), List.mem_of_getElem? (i := 435) (by decide +kernel), List.mem_of_getElem? (i := 436) (by decide +kernel)⟩
theorem lw_p19 : lw_okq (⟨"LinkElection$Election", "isLargeEnough", "(IIII)Z"⟩, 7) := ⟨⟨by decide +kernel, by decide +kernel⟩, List.mem_of_getElem? (i := 205) (by decide +kernel), List.mem_of_getElem? (i := 439) (by decide +kernel), List.mem_of_getElem? (i := 440) (by decide +kernel)⟩
theorem lw_p20 : lw_okq (⟨"LinkElection", "requireLibrary", "(I)V"⟩, 9) := ⟨⟨by decide +kernel, by decide +kernel⟩, List.mem_of_getElem? (i := 25) (by decide +kernel), List.mem_of_getElem? (i := 453) (by decide +kernel), List.mem_of_getElem? (i := 454) (by decide +kernel)⟩
theorem lw_p21 : lw_okq (⟨"java/lang/Throwable", "fillInStackTrace", "(I)Ljava/lang/Throwable;"⟩, 6) := ⟨⟨by decide +kernel, by decide +kernel⟩, List.mem_of_getElem? (i := 495) (by decide +kernel), List.mem_of_getElem? (i := 493) (by decide +kernel), List.mem_of_getElem? (i := 494) (by decide +kernel)⟩
theorem lw_p22 : lw_okq (⟨"LinkElection", "requireName", "(I)V"⟩, 9) := ⟨⟨by decide +kernel, by decide +kernel⟩, List.mem_of_getElem? (i := 25) (by decide +kernel), List.mem_of_getElem? (i := 545) (by decide +kernel), List.mem_of_getElem? (i := 546) (by decide +kernel)⟩
theorem lw_p23 : lw_okq (⟨"LinkElection$Route", "follow", "(LLinkElection$Data;LLinkElection$Election;II)V"⟩, 3) := ⟨⟨by decide +kernel, by decide +kernel⟩, List.mem_of_getElem? (i := 241) (by decide +kernel), List.mem_of_getElem? (i := 559) (by decide +kernel), List.mem_of_getElem? (i := 560) (by decide +kernel)⟩
theorem lw_p24 : lw_okq (⟨"LinkElection$SetupReader", "readText", "([BI)Z"⟩, 11) := ⟨⟨by decide +kernel, by decide +kernel⟩, List.mem_of_getElem? (i := 33) (by decide +kernel), List.mem_of_getElem? (i := 576) (by decide +kernel), List.mem_of_getElem? (i := 577) (by decide +kernel)⟩
theorem lw_p25 : lw_okq (⟨"LinkElection$Data", "clear", "()V"⟩, 5) := ⟨⟨by decide +kernel, by decide +kernel⟩, List.mem_of_getElem? (i := 75) (by decide +kernel), List.mem_of_getElem? (i := 580) (by decide +kernel), List.mem_of_getElem? (i := 581) (by decide +kernel)⟩
theorem lw_p26 : lw_okq (⟨"LinkElection$SetupReader", "addCode", "(I)V"⟩, 11) := ⟨⟨by decide +kernel, by decide +kernel⟩, List.mem_of_getElem? (i := 33) (by decide +kernel), List.mem_of_getElem? (i := 584) (by decide +kernel), List.mem_of_getElem? (i := 585) (by decide +kernel)⟩
theorem lw_p27 : lw_okq (⟨"LinkElection$Tokens", "startText", "([BI)V"⟩, 8) := ⟨⟨by decide +kernel, by decide +kernel⟩, List.mem_of_getElem? (i := 39) (by decide +kernel), List.mem_of_getElem? (i := 588) (by decide +kernel), List.mem_of_getElem? (i := 589) (by decide +kernel)⟩
theorem lw_p28 : lw_okq (⟨"LinkElection$Tokens", "advance", "()V"⟩, 8) := ⟨⟨by decide +kernel, by decide +kernel⟩, List.mem_of_getElem? (i := 39) (by decide +kernel), List.mem_of_getElem? (i := 596) (by decide +kernel), List.mem_of_getElem? (i := 597) (by decide +kernel)⟩
theorem lw_p29 : lw_okq (⟨"LinkElection$Tokens", "isLetterAt", "(I)Z"⟩, 8) := ⟨⟨by decide +kernel, by decide +kernel⟩, List.mem_of_getElem? (i := 39) (by decide +kernel), List.mem_of_getElem? (i := 600) (by decide +kernel), List.mem_of_getElem? (i := 601) (by decide +kernel)⟩
theorem lw_p30 : lw_okq (⟨"LinkElection$Tokens", "takeWord", "()V"⟩, 8) := ⟨⟨by decide +kernel, by decide +kernel⟩, List.mem_of_getElem? (i := 39) (by decide +kernel), List.mem_of_getElem? (i := 604) (by decide +kernel), List.mem_of_getElem? (i := 605) (by decide +kernel)⟩
theorem lw_p31 : lw_okq (⟨"LinkElection$Tokens", "isDigitAt", "(I)Z"⟩, 8) := ⟨⟨by decide +kernel, by decide +kernel⟩, List.mem_of_getElem? (i := 39) (by decide +kernel), List.mem_of_getElem? (i := 608) (by decide +kernel), List.mem_of_getElem? (i := 609) (by decide +kernel)⟩
def lw_privs_2 : List (MethodName × Nat) := [(⟨"LinkElection$Election", "isAhead", "(LLinkElection$Data;III)Z"⟩, 7), (⟨"LinkElection$Election", "countMargin", "(LLinkElection$Data;I)V"⟩, 7), (⟨"LinkElection$Election", "countBindings", "(LLinkElection$Data;I)V"⟩, 7), (⟨"LinkElection$Election", "isLargeEnough", "(IIII)Z"⟩, 7), (⟨"LinkElection", "requireLibrary", "(I)V"⟩, 9), (⟨"java/lang/Throwable", "fillInStackTrace", "(I)Ljava/lang/Throwable;"⟩, 6), (⟨"LinkElection", "requireName", "(I)V"⟩, 9), (⟨"LinkElection$Route", "follow", "(LLinkElection$Data;LLinkElection$Election;II)V"⟩, 3), (⟨"LinkElection$SetupReader", "readText", "([BI)Z"⟩, 11), (⟨"LinkElection$Data", "clear", "()V"⟩, 5), (⟨"LinkElection$SetupReader", "addCode", "(I)V"⟩, 11), (⟨"LinkElection$Tokens", "startText", "([BI)V"⟩, 8), (⟨"LinkElection$Tokens", "advance", "()V"⟩, 8), (⟨"LinkElection$Tokens", "isLetterAt", "(I)Z"⟩, 8), (⟨"LinkElection$Tokens", "takeWord", "()V"⟩, 8), (⟨"LinkElection$Tokens", "isDigitAt", "(I)Z"⟩, 8)]
theorem lw_r2 : ∀ q ∈ lw_privs_2, lw_okq q := List.forall_mem_cons.mpr ⟨lw_p16, List.forall_mem_cons.mpr ⟨lw_p17, List.forall_mem_cons.mpr ⟨lw_p18, List.forall_mem_cons.mpr ⟨lw_p19, List.forall_mem_cons.mpr ⟨lw_p20, List.forall_mem_cons.mpr ⟨lw_p21, List.forall_mem_cons.mpr ⟨lw_p22, List.forall_mem_cons.mpr ⟨lw_p23, List.forall_mem_cons.mpr ⟨lw_p24, List.forall_mem_cons.mpr ⟨lw_p25, List.forall_mem_cons.mpr ⟨lw_p26, List.forall_mem_cons.mpr ⟨lw_p27, List.forall_mem_cons.mpr ⟨lw_p28, List.forall_mem_cons.mpr ⟨lw_p29, List.forall_mem_cons.mpr ⟨lw_p30, List.forall_mem_cons.mpr ⟨lw_p31, fun _ h => absurd h List.not_mem_nil⟩⟩⟩⟩⟩⟩⟩⟩⟩⟩⟩⟩⟩⟩⟩⟩
theorem lw_p32 : lw_okq (⟨"LinkElection$Tokens", "takeNumber", "()V"⟩, 8) := ⟨⟨by decide +kernel, by decide +kernel⟩, List.mem_of_getElem? (i := 39) (by decide +kernel), List.mem_of_getElem? (i := 612) (by decide +kernel), List.mem_of_getElem? (i := 613) (by decide +kernel)⟩
theorem lw_p33 : lw_okq (⟨"LinkElection$SetupReader", "readKeyword", "(Ljava/lang/String;)Z"⟩, 11) := ⟨⟨by decide +kernel, by decide +kernel⟩, List.mem_of_getElem? (i := 33) (by decide +kernel), List.mem_of_getElem? (i := 618) (by decide +kernel), List.mem_of_getElem? (i := 619) (by decide +kernel)⟩
theorem lw_p34 : lw_okq (⟨"LinkElection$Tokens", "isWord", "(Ljava/lang/String;)Z"⟩, 8) := ⟨⟨by decide +kernel, by decide +kernel⟩, List.mem_of_getElem? (i := 39) (by decide +kernel), List.mem_of_getElem? (i := 622) (by decide +kernel), List.mem_of_getElem? (i := 623) (by decide +kernel)⟩
theorem lw_p35 : lw_okq (⟨"LinkElection$SetupReader", "syntaxError", "()Z"⟩, 11) := ⟨⟨by decide +kernel, by decide +kernel⟩, List.mem_of_getElem? (i := 33) (by decide +kernel), List.mem_of_getElem? (i := 677) (by decide +kernel), List.mem_of_getElem? (i := 678) (by decide +kernel)⟩
theorem lw_p36 : lw_okq (⟨"LinkElection$SetupReader", "error", "(I)Z"⟩, 11) := ⟨⟨by decide +kernel, by decide +kernel⟩, List.mem_of_getElem? (i := 33) (by decide +kernel), List.mem_of_getElem? (i := 681) (by decide +kernel), List.mem_of_getElem? (i := 682) (by decide +kernel)⟩
theorem lw_p37 : lw_okq (⟨"LinkElection$SetupReader", "readSign", "(C)Z"⟩, 11) := ⟨⟨by decide +kernel, by decide +kernel⟩, List.mem_of_getElem? (i := 33) (by decide +kernel), List.mem_of_getElem? (i := 686) (by decide +kernel), List.mem_of_getElem? (i := 687) (by decide +kernel)⟩
theorem lw_p38 : lw_okq (⟨"LinkElection$Tokens", "isSign", "(C)Z"⟩, 8) := ⟨⟨by decide +kernel, by decide +kernel⟩, List.mem_of_getElem? (i := 39) (by decide +kernel), List.mem_of_getElem? (i := 690) (by decide +kernel), List.mem_of_getElem? (i := 691) (by decide +kernel)⟩
theorem lw_p39 : lw_okq (⟨"LinkElection$SetupReader", "readStatement", "()Z"⟩, 11) := ⟨⟨by decide +kernel, by decide +kernel⟩, List.mem_of_getElem? (i := 33) (by decide +kernel), List.mem_of_getElem? (i := 694) (by decide +kernel), List.mem_of_getElem? (i := 695) (by decide +kernel)⟩
theorem lw_p40 : lw_okq (⟨"LinkElection$SetupReader", "readNewName", "()Z"⟩, 11) := ⟨⟨by decide +kernel, by decide +kernel⟩, List.mem_of_getElem? (i := 33) (by decide +kernel), List.mem_of_getElem? (i := 699) (by decide +kernel), List.mem_of_getElem? (i := 700) (by decide +kernel)⟩
theorem lw_p41 : lw_okq (⟨"LinkElection$SetupReader", "readNewWord", "([JI)Z"⟩, 11) := ⟨⟨by decide +kernel, by decide +kernel⟩, List.mem_of_getElem? (i := 33) (by decide +kernel), List.mem_of_getElem? (i := 703) (by decide +kernel), List.mem_of_getElem? (i := 704) (by decide +kernel)⟩
theorem lw_p42 : lw_okq (⟨"LinkElection$SetupReader", "indexOfWord", "([JI)I"⟩, 11) := ⟨⟨by decide +kernel, by decide +kernel⟩, List.mem_of_getElem? (i := 33) (by decide +kernel), List.mem_of_getElem? (i := 707) (by decide +kernel), List.mem_of_getElem? (i := 708) (by decide +kernel)⟩
theorem lw_p43 : lw_okq (⟨"LinkElection$SetupReader", "readNewLibrary", "()Z"⟩, 11) := ⟨⟨by decide +kernel, by decide +kernel⟩, List.mem_of_getElem? (i := 33) (by decide +kernel), List.mem_of_getElem? (i := 712) (by decide +kernel), List.mem_of_getElem? (i := 713) (by decide +kernel)⟩
theorem lw_p44 : lw_okq (⟨"LinkElection$SetupReader", "readNumber", "(I)Z"⟩, 11) := ⟨⟨by decide +kernel, by decide +kernel⟩, List.mem_of_getElem? (i := 33) (by decide +kernel), List.mem_of_getElem? (i := 716) (by decide +kernel), List.mem_of_getElem? (i := 717) (by decide +kernel)⟩
theorem lw_p45 : lw_okq (⟨"LinkElection$Library", "startAs", "(II)V"⟩, 6) := ⟨⟨by decide +kernel, by decide +kernel⟩, List.mem_of_getElem? (i := 96) (by decide +kernel), List.mem_of_getElem? (i := 720) (by decide +kernel), List.mem_of_getElem? (i := 721) (by decide +kernel)⟩
theorem lw_p46 : lw_okq (⟨"LinkElection$SetupReader", "readOffer", "()Z"⟩, 11) := ⟨⟨by decide +kernel, by decide +kernel⟩, List.mem_of_getElem? (i := 33) (by decide +kernel), List.mem_of_getElem? (i := 727) (by decide +kernel), List.mem_of_getElem? (i := 728) (by decide +kernel)⟩
theorem lw_p47 : lw_okq (⟨"LinkElection$SetupReader", "findLibrary", "()Z"⟩, 11) := ⟨⟨by decide +kernel, by decide +kernel⟩, List.mem_of_getElem? (i := 33) (by decide +kernel), List.mem_of_getElem? (i := 731) (by decide +kernel), List.mem_of_getElem? (i := 732) (by decide +kernel)⟩
def lw_privs_3 : List (MethodName × Nat) := [(⟨"LinkElection$Tokens", "takeNumber", "()V"⟩, 8), (⟨"LinkElection$SetupReader", "readKeyword", "(Ljava/lang/String;)Z"⟩, 11), (⟨"LinkElection$Tokens", "isWord", "(Ljava/lang/String;)Z"⟩, 8), (⟨"LinkElection$SetupReader", "syntaxError", "()Z"⟩, 11), (⟨"LinkElection$SetupReader", "error", "(I)Z"⟩, 11), (⟨"LinkElection$SetupReader", "readSign", "(C)Z"⟩, 11), (⟨"LinkElection$Tokens", "isSign", "(C)Z"⟩, 8), (⟨"LinkElection$SetupReader", "readStatement", "()Z"⟩, 11), (⟨"LinkElection$SetupReader", "readNewName", "()Z"⟩, 11), (⟨"LinkElection$SetupReader", "readNewWord", "([JI)Z"⟩, 11), (⟨"LinkElection$SetupReader", "indexOfWord", "([JI)I"⟩, 11), (⟨"LinkElection$SetupReader", "readNewLibrary", "()Z"⟩, 11), (⟨"LinkElection$SetupReader", "readNumber", "(I)Z"⟩, 11), (⟨"LinkElection$Library", "startAs", "(II)V"⟩, 6), (⟨"LinkElection$SetupReader", "readOffer", "()Z"⟩, 11), (⟨"LinkElection$SetupReader", "findLibrary", "()Z"⟩, 11)]
theorem lw_r3 : ∀ q ∈ lw_privs_3, lw_okq q := List.forall_mem_cons.mpr ⟨lw_p32, List.forall_mem_cons.mpr ⟨lw_p33, List.forall_mem_cons.mpr ⟨lw_p34, List.forall_mem_cons.mpr ⟨lw_p35, List.forall_mem_cons.mpr ⟨lw_p36, List.forall_mem_cons.mpr ⟨lw_p37, List.forall_mem_cons.mpr ⟨lw_p38, List.forall_mem_cons.mpr ⟨lw_p39, List.forall_mem_cons.mpr ⟨lw_p40, List.forall_mem_cons.mpr ⟨lw_p41, List.forall_mem_cons.mpr ⟨lw_p42, List.forall_mem_cons.mpr ⟨lw_p43, List.forall_mem_cons.mpr ⟨lw_p44, List.forall_mem_cons.mpr ⟨lw_p45, List.forall_mem_cons.mpr ⟨lw_p46, List.forall_mem_cons.mpr ⟨lw_p47, fun _ h => absurd h List.not_mem_nil⟩⟩⟩⟩⟩⟩⟩⟩⟩⟩⟩⟩⟩⟩⟩⟩
theorem lw_p48 : lw_okq (⟨"LinkElection$SetupReader", "findWord", "([JI)Z"⟩, 11) := ⟨⟨by decide +kernel, by decide +kernel⟩, List.mem_of_getElem? (i := 33) (by decide +kernel), List.mem_of_getElem? (i := 735) (by decide +kernel), List.mem_of_getElem? (i := 736) (by decide +kernel)⟩
theorem lw_p49 : lw_okq (⟨"LinkElection$SetupReader", "findName", "()Z"⟩, 11) := ⟨⟨by decide +kernel, by decide +kernel⟩, List.mem_of_getElem? (i := 33) (by decide +kernel), List.mem_of_getElem? (i := 739) (by decide +kernel), List.mem_of_getElem? (i := 740) (by decide +kernel)⟩
theorem lw_p50 : lw_okq (⟨"LinkElection$SetupReader", "readPrefer", "()Z"⟩, 11) := ⟨⟨by decide +kernel, by decide +kernel⟩, List.mem_of_getElem? (i := 33) (by decide +kernel), List.mem_of_getElem? (i := 746) (by decide +kernel), List.mem_of_getElem? (i := 747) (by decide +kernel)⟩
theorem lw_p51 : lw_okq (⟨"LinkElection$Library", "addPreference", "(I)V"⟩, 6) := ⟨⟨by decide +kernel, by decide +kernel⟩, List.mem_of_getElem? (i := 96) (by decide +kernel), List.mem_of_getElem? (i := 751) (by decide +kernel), List.mem_of_getElem? (i := 752) (by decide +kernel)⟩
theorem lw_p52 : lw_okq (⟨"LinkElection$SetupReader", "readShare", "()Z"⟩, 11) := ⟨⟨by decide +kernel, by decide +kernel⟩, List.mem_of_getElem? (i := 33) (by decide +kernel), List.mem_of_getElem? (i := 756) (by decide +kernel), List.mem_of_getElem? (i := 757) (by decide +kernel)⟩
theorem lw_p53 : lw_okq (⟨"LinkElection$SetupReader", "readWeight", "()Z"⟩, 11) := ⟨⟨by decide +kernel, by decide +kernel⟩, List.mem_of_getElem? (i := 33) (by decide +kernel), List.mem_of_getElem? (i := 761) (by decide +kernel), List.mem_of_getElem? (i := 762) (by decide +kernel)⟩
theorem lw_p54 : lw_okq (⟨"LinkElection$SetupReader", "readSum", "(I)Z"⟩, 11) := ⟨⟨by decide +kernel, by decide +kernel⟩, List.mem_of_getElem? (i := 33) (by decide +kernel), List.mem_of_getElem? (i := 765) (by decide +kernel), List.mem_of_getElem? (i := 766) (by decide +kernel)⟩
theorem lw_p55 : lw_okq (⟨"LinkElection$SetupReader", "readTerm", "(I)Z"⟩, 11) := ⟨⟨by decide +kernel, by decide +kernel⟩, List.mem_of_getElem? (i := 33) (by decide +kernel), List.mem_of_getElem? (i := 769) (by decide +kernel), List.mem_of_getElem? (i := 770) (by decide +kernel)⟩
theorem lw_p56 : lw_okq (⟨"LinkElection$SetupReader", "readFactor", "(I)Z"⟩, 11) := ⟨⟨by decide +kernel, by decide +kernel⟩, List.mem_of_getElem? (i := 33) (by decide +kernel), List.mem_of_getElem? (i := 773) (by decide +kernel), List.mem_of_getElem? (i := 774) (by decide +kernel)⟩
theorem lw_p57 : lw_okq (⟨"LinkElection$SetupReader", "quantityCode", "()I"⟩, 11) := ⟨⟨by decide +kernel, by decide +kernel⟩, List.mem_of_getElem? (i := 33) (by decide +kernel), List.mem_of_getElem? (i := 777) (by decide +kernel), List.mem_of_getElem? (i := 778) (by decide +kernel)⟩
theorem lw_p58 : lw_okq (⟨"LinkElection", "beginChange", "()V"⟩, 9) := ⟨⟨by decide +kernel, by decide +kernel⟩, List.mem_of_getElem? (i := 25) (by decide +kernel), List.mem_of_getElem? (i := 799) (by decide +kernel), List.mem_of_getElem? (i := 800) (by decide +kernel)⟩
theorem lw_p59 : lw_okq (⟨"LinkElection$History", "keep", "(LLinkElection$Data;)V"⟩, 3) := ⟨⟨by decide +kernel, by decide +kernel⟩, List.mem_of_getElem? (i := 259) (by decide +kernel), List.mem_of_getElem? (i := 803) (by decide +kernel), List.mem_of_getElem? (i := 804) (by decide +kernel)⟩
theorem lw_p60 : lw_okq (⟨"LinkElection$Data", "takeOut", "(I)V"⟩, 5) := ⟨⟨by decide +kernel, by decide +kernel⟩, List.mem_of_getElem? (i := 75) (by decide +kernel), List.mem_of_getElem? (i := 907) (by decide +kernel), List.mem_of_getElem? (i := 908) (by decide +kernel)⟩
theorem lw_p61 : lw_okq (⟨"LinkElection", "changedBindingsOfAll", "()I"⟩, 9) := ⟨⟨by decide +kernel, by decide +kernel⟩, List.mem_of_getElem? (i := 25) (by decide +kernel), List.mem_of_getElem? (i := 911) (by decide +kernel), List.mem_of_getElem? (i := 912) (by decide +kernel)⟩
theorem lw_p62 : lw_okq (⟨"LinkElection", "changedBindings", "(I)I"⟩, 9) := ⟨⟨by decide +kernel, by decide +kernel⟩, List.mem_of_getElem? (i := 25) (by decide +kernel), List.mem_of_getElem? (i := 915) (by decide +kernel), List.mem_of_getElem? (i := 916) (by decide +kernel)⟩
theorem lw_p63 : lw_okq (⟨"LinkElection$Data", "takeIn", "(I)V"⟩, 5) := ⟨⟨by decide +kernel, by decide +kernel⟩, List.mem_of_getElem? (i := 75) (by decide +kernel), List.mem_of_getElem? (i := 927) (by decide +kernel), List.mem_of_getElem? (i := 928) (by decide +kernel)⟩
def lw_privs_4 : List (MethodName × Nat) := [(⟨"LinkElection$SetupReader", "findWord", "([JI)Z"⟩, 11), (⟨"LinkElection$SetupReader", "findName", "()Z"⟩, 11), (⟨"LinkElection$SetupReader", "readPrefer", "()Z"⟩, 11), (⟨"LinkElection$Library", "addPreference", "(I)V"⟩, 6), (⟨"LinkElection$SetupReader", "readShare", "()Z"⟩, 11), (⟨"LinkElection$SetupReader", "readWeight", "()Z"⟩, 11), (⟨"LinkElection$SetupReader", "readSum", "(I)Z"⟩, 11), (⟨"LinkElection$SetupReader", "readTerm", "(I)Z"⟩, 11), (⟨"LinkElection$SetupReader", "readFactor", "(I)Z"⟩, 11), (⟨"LinkElection$SetupReader", "quantityCode", "()I"⟩, 11), (⟨"LinkElection", "beginChange", "()V"⟩, 9), (⟨"LinkElection$History", "keep", "(LLinkElection$Data;)V"⟩, 3), (⟨"LinkElection$Data", "takeOut", "(I)V"⟩, 5), (⟨"LinkElection", "changedBindingsOfAll", "()I"⟩, 9), (⟨"LinkElection", "changedBindings", "(I)I"⟩, 9), (⟨"LinkElection$Data", "takeIn", "(I)V"⟩, 5)]
theorem lw_r4 : ∀ q ∈ lw_privs_4, lw_okq q := List.forall_mem_cons.mpr ⟨lw_p48, List.forall_mem_cons.mpr ⟨lw_p49, List.forall_mem_cons.mpr ⟨lw_p50, List.forall_mem_cons.mpr ⟨lw_p51, List.forall_mem_cons.mpr ⟨lw_p52, List.forall_mem_cons.mpr ⟨lw_p53, List.forall_mem_cons.mpr ⟨lw_p54, List.forall_mem_cons.mpr ⟨lw_p55, List.forall_mem_cons.mpr ⟨lw_p56, List.forall_mem_cons.mpr ⟨lw_p57, List.forall_mem_cons.mpr ⟨lw_p58, List.forall_mem_cons.mpr ⟨lw_p59, List.forall_mem_cons.mpr ⟨lw_p60, List.forall_mem_cons.mpr ⟨lw_p61, List.forall_mem_cons.mpr ⟨lw_p62, List.forall_mem_cons.mpr ⟨lw_p63, fun _ h => absurd h List.not_mem_nil⟩⟩⟩⟩⟩⟩⟩⟩⟩⟩⟩⟩⟩⟩⟩⟩
theorem lw_p64 : lw_okq (⟨"LinkElection", "changeOffer", "(III)I"⟩, 9) := ⟨⟨by decide +kernel, by decide +kernel⟩, List.mem_of_getElem? (i := 25) (by decide +kernel), List.mem_of_getElem? (i := 939) (by decide +kernel), List.mem_of_getElem? (i := 940) (by decide +kernel)⟩
theorem lw_p65 : lw_okq (⟨"LinkElectionModel", "fails", "(ZI)Z"⟩, 27) := ⟨⟨by decide +kernel, by decide +kernel⟩, List.mem_of_getElem? (i := 982) (by decide +kernel), List.mem_of_getElem? (i := 1087) (by decide +kernel), List.mem_of_getElem? (i := 1088) (by decide +kernel)⟩
theorem lw_p66 : lw_okq (⟨"LinkElectionModel", "takeWord", "(Ljava/lang/String;)Z"⟩, 27) := ⟨⟨by decide +kernel, by decide +kernel⟩, List.mem_of_getElem? (i := 982) (by decide +kernel), List.mem_of_getElem? (i := 1092) (by decide +kernel), List.mem_of_getElem? (i := 1093) (by decide +kernel)⟩
theorem lw_p67 : lw_okq (⟨"LinkElectionModel", "isGood", "()Z"⟩, 27) := ⟨⟨by decide +kernel, by decide +kernel⟩, List.mem_of_getElem? (i := 982) (by decide +kernel), List.mem_of_getElem? (i := 1096) (by decide +kernel), List.mem_of_getElem? (i := 1097) (by decide +kernel)⟩
theorem lw_p68 : lw_okq (⟨"LinkElectionModel", "next", "()I"⟩, 27) := ⟨⟨by decide +kernel, by decide +kernel⟩, List.mem_of_getElem? (i := 982) (by decide +kernel), List.mem_of_getElem? (i := 1100) (by decide +kernel), List.mem_of_getElem? (i := 1101) (by decide +kernel)⟩
theorem lw_p69 : lw_okq (⟨"LinkElectionModel", "byteAt", "(I)I"⟩, 27) := ⟨⟨by decide +kernel, by decide +kernel⟩, List.mem_of_getElem? (i := 982) (by decide +kernel), List.mem_of_getElem? (i := 1104) (by decide +kernel), List.mem_of_getElem? (i := 1105) (by decide +kernel)⟩
theorem lw_p70 : lw_okq (⟨"LinkElectionModel", "report", "(II)V"⟩, 27) := ⟨⟨by decide +kernel, by decide +kernel⟩, List.mem_of_getElem? (i := 982) (by decide +kernel), List.mem_of_getElem? (i := 1110) (by decide +kernel), List.mem_of_getElem? (i := 1111) (by decide +kernel)⟩
theorem lw_p71 : lw_okq (⟨"LinkElectionModel", "expect", "(I)V"⟩, 27) := ⟨⟨by decide +kernel, by decide +kernel⟩, List.mem_of_getElem? (i := 982) (by decide +kernel), List.mem_of_getElem? (i := 1114) (by decide +kernel), List.mem_of_getElem? (i := 1115) (by decide +kernel)⟩
theorem lw_p72 : lw_okq (⟨"LinkElectionModel", "statement", "()V"⟩, 27) := ⟨⟨by decide +kernel, by decide +kernel⟩, List.mem_of_getElem? (i := 982) (by decide +kernel), List.mem_of_getElem? (i := 1118) (by decide +kernel), List.mem_of_getElem? (i := 1119) (by decide +kernel)⟩
theorem lw_p73 : lw_okq (⟨"LinkElectionModel", "readName", "(I)V"⟩, 27) := ⟨⟨by decide +kernel, by decide +kernel⟩, List.mem_of_getElem? (i := 982) (by decide +kernel), List.mem_of_getElem? (i := 1123) (by decide +kernel), List.mem_of_getElem? (i := 1124) (by decide +kernel)⟩
theorem lw_p74 : lw_okq (⟨"LinkElectionModel", "readWord", "()J"⟩, 27) := ⟨⟨by decide +kernel, by decide +kernel⟩, List.mem_of_getElem? (i := 982) (by decide +kernel), List.mem_of_getElem? (i := 1127) (by decide +kernel), List.mem_of_getElem? (i := 1128) (by decide +kernel)⟩
theorem lw_p75 : lw_okq (⟨"LinkElectionModel", "isFresh", "([JIJ)Z"⟩, 27) := ⟨⟨by decide +kernel, by decide +kernel⟩, List.mem_of_getElem? (i := 982) (by decide +kernel), List.mem_of_getElem? (i := 1133) (by decide +kernel), List.mem_of_getElem? (i := 1134) (by decide +kernel)⟩
theorem lw_p76 : lw_okq (⟨"LinkElectionModel", "readLibrary", "(I)V"⟩, 27) := ⟨⟨by decide +kernel, by decide +kernel⟩, List.mem_of_getElem? (i := 982) (by decide +kernel), List.mem_of_getElem? (i := 1141) (by decide +kernel), List.mem_of_getElem? (i := 1142) (by decide +kernel)⟩
theorem lw_p77 : lw_okq (⟨"LinkElectionModel", "number", "(II)I"⟩, 27) := ⟨⟨by decide +kernel, by decide +kernel⟩, List.mem_of_getElem? (i := 982) (by decide +kernel), List.mem_of_getElem? (i := 1148) (by decide +kernel), List.mem_of_getElem? (i := 1149) (by decide +kernel)⟩
theorem lw_p78 : lw_okq (⟨"LinkElectionModel", "readOffer", "()V"⟩, 27) := ⟨⟨by decide +kernel, by decide +kernel⟩, List.mem_of_getElem? (i := 982) (by decide +kernel), List.mem_of_getElem? (i := 1161) (by decide +kernel), List.mem_of_getElem? (i := 1162) (by decide +kernel)⟩
theorem lw_p79 : lw_okq (⟨"LinkElectionModel", "readKnown", "([JI)I"⟩, 27) := ⟨⟨by decide +kernel, by decide +kernel⟩, List.mem_of_getElem? (i := 982) (by decide +kernel), List.mem_of_getElem? (i := 1165) (by decide +kernel), List.mem_of_getElem? (i := 1166) (by decide +kernel)⟩
def lw_privs_5 : List (MethodName × Nat) := [(⟨"LinkElection", "changeOffer", "(III)I"⟩, 9), (⟨"LinkElectionModel", "fails", "(ZI)Z"⟩, 27), (⟨"LinkElectionModel", "takeWord", "(Ljava/lang/String;)Z"⟩, 27), (⟨"LinkElectionModel", "isGood", "()Z"⟩, 27), (⟨"LinkElectionModel", "next", "()I"⟩, 27), (⟨"LinkElectionModel", "byteAt", "(I)I"⟩, 27), (⟨"LinkElectionModel", "report", "(II)V"⟩, 27), (⟨"LinkElectionModel", "expect", "(I)V"⟩, 27), (⟨"LinkElectionModel", "statement", "()V"⟩, 27), (⟨"LinkElectionModel", "readName", "(I)V"⟩, 27), (⟨"LinkElectionModel", "readWord", "()J"⟩, 27), (⟨"LinkElectionModel", "isFresh", "([JIJ)Z"⟩, 27), (⟨"LinkElectionModel", "readLibrary", "(I)V"⟩, 27), (⟨"LinkElectionModel", "number", "(II)I"⟩, 27), (⟨"LinkElectionModel", "readOffer", "()V"⟩, 27), (⟨"LinkElectionModel", "readKnown", "([JI)I"⟩, 27)]
theorem lw_r5 : ∀ q ∈ lw_privs_5, lw_okq q := List.forall_mem_cons.mpr ⟨lw_p64, List.forall_mem_cons.mpr ⟨lw_p65, List.forall_mem_cons.mpr ⟨lw_p66, List.forall_mem_cons.mpr ⟨lw_p67, List.forall_mem_cons.mpr ⟨lw_p68, List.forall_mem_cons.mpr ⟨lw_p69, List.forall_mem_cons.mpr ⟨lw_p70, List.forall_mem_cons.mpr ⟨lw_p71, List.forall_mem_cons.mpr ⟨lw_p72, List.forall_mem_cons.mpr ⟨lw_p73, List.forall_mem_cons.mpr ⟨lw_p74, List.forall_mem_cons.mpr ⟨lw_p75, List.forall_mem_cons.mpr ⟨lw_p76, List.forall_mem_cons.mpr ⟨lw_p77, List.forall_mem_cons.mpr ⟨lw_p78, List.forall_mem_cons.mpr ⟨lw_p79, fun _ h => absurd h List.not_mem_nil⟩⟩⟩⟩⟩⟩⟩⟩⟩⟩⟩⟩⟩⟩⟩⟩
theorem lw_p80 : lw_okq (⟨"LinkElectionModel", "readPreference", "()V"⟩, 27) := ⟨⟨by decide +kernel, by decide +kernel⟩, List.mem_of_getElem? (i := 982) (by decide +kernel), List.mem_of_getElem? (i := 1171) (by decide +kernel), List.mem_of_getElem? (i := 1172) (by decide +kernel)⟩
theorem lw_p81 : lw_okq (⟨"LinkElectionModel", "prefers", "([III)Z"⟩, 27) := ⟨⟨by decide +kernel, by decide +kernel⟩, List.mem_of_getElem? (i := 982) (by decide +kernel), List.mem_of_getElem? (i := 1175) (by decide +kernel), List.mem_of_getElem? (i := 1176) (by decide +kernel)⟩
theorem lw_p82 : lw_okq (⟨"LinkElectionModel", "once", "(II)V"⟩, 27) := ⟨⟨by decide +kernel, by decide +kernel⟩, List.mem_of_getElem? (i := 982) (by decide +kernel), List.mem_of_getElem? (i := 1180) (by decide +kernel), List.mem_of_getElem? (i := 1181) (by decide +kernel)⟩
theorem lw_p83 : lw_okq (⟨"LinkElectionModel", "sum", "()V"⟩, 27) := ⟨⟨by decide +kernel, by decide +kernel⟩, List.mem_of_getElem? (i := 982) (by decide +kernel), List.mem_of_getElem? (i := 1185) (by decide +kernel), List.mem_of_getElem? (i := 1186) (by decide +kernel)⟩
theorem lw_p84 : lw_okq (⟨"LinkElectionModel", "term", "()V"⟩, 27) := ⟨⟨by decide +kernel, by decide +kernel⟩, List.mem_of_getElem? (i := 982) (by decide +kernel), List.mem_of_getElem? (i := 1189) (by decide +kernel), List.mem_of_getElem? (i := 1190) (by decide +kernel)⟩
theorem lw_p85 : lw_okq (⟨"LinkElectionModel", "factor", "()V"⟩, 27) := ⟨⟨by decide +kernel, by decide +kernel⟩, List.mem_of_getElem? (i := 982) (by decide +kernel), List.mem_of_getElem? (i := 1193) (by decide +kernel), List.mem_of_getElem? (i := 1194) (by decide +kernel)⟩
theorem lw_p86 : lw_okq (⟨"LinkElectionModel", "emit", "(I)V"⟩, 27) := ⟨⟨by decide +kernel, by decide +kernel⟩, List.mem_of_getElem? (i := 982) (by decide +kernel), List.mem_of_getElem? (i := 1201) (by decide +kernel), List.mem_of_getElem? (i := 1202) (by decide +kernel)⟩
theorem lw_p87 : lw_okq (⟨"LinkElectionModel", "remember", "()V"⟩, 27) := ⟨⟨by decide +kernel, by decide +kernel⟩, List.mem_of_getElem? (i := 982) (by decide +kernel), List.mem_of_getElem? (i := 1205) (by decide +kernel), List.mem_of_getElem? (i := 1206) (by decide +kernel)⟩
theorem lw_p88 : lw_okq (⟨"LinkElectionModel", "noLibrary", "(I)Z"⟩, 27) := ⟨⟨by decide +kernel, by decide +kernel⟩, List.mem_of_getElem? (i := 982) (by decide +kernel), List.mem_of_getElem? (i := 1232) (by decide +kernel), List.mem_of_getElem? (i := 1233) (by decide +kernel)⟩
theorem lw_p89 : lw_okq (⟨"LinkElectionModel", "told", "(II)I"⟩, 27) := ⟨⟨by decide +kernel, by decide +kernel⟩, List.mem_of_getElem? (i := 982) (by decide +kernel), List.mem_of_getElem? (i := 1236) (by decide +kernel), List.mem_of_getElem? (i := 1237) (by decide +kernel)⟩
theorem lw_p90 : lw_okq (⟨"LinkElectionModel", "rankOf", "(I)I"⟩, 27) := ⟨⟨by decide +kernel, by decide +kernel⟩, List.mem_of_getElem? (i := 982) (by decide +kernel), List.mem_of_getElem? (i := 1240) (by decide +kernel), List.mem_of_getElem? (i := 1241) (by decide +kernel)⟩
theorem lw_p91 : lw_okq (⟨"LinkElectionModel", "isLoaded", "(I)Z"⟩, 27) := ⟨⟨by decide +kernel, by decide +kernel⟩, List.mem_of_getElem? (i := 982) (by decide +kernel), List.mem_of_getElem? (i := 1244) (by decide +kernel), List.mem_of_getElem? (i := 1245) (by decide +kernel)⟩
theorem lw_p92 : lw_okq (⟨"LinkElectionModel", "offersOf", "(I)I"⟩, 27) := ⟨⟨by decide +kernel, by decide +kernel⟩, List.mem_of_getElem? (i := 982) (by decide +kernel), List.mem_of_getElem? (i := 1248) (by decide +kernel), List.mem_of_getElem? (i := 1249) (by decide +kernel)⟩
theorem lw_p93 : lw_okq (⟨"LinkElectionModel", "weightOf", "(I)I"⟩, 27) := ⟨⟨by decide +kernel, by decide +kernel⟩, List.mem_of_getElem? (i := 982) (by decide +kernel), List.mem_of_getElem? (i := 1252) (by decide +kernel), List.mem_of_getElem? (i := 1253) (by decide +kernel)⟩
theorem lw_p94 : lw_okq (⟨"LinkElectionModel", "friendsOf", "(I)I"⟩, 27) := ⟨⟨by decide +kernel, by decide +kernel⟩, List.mem_of_getElem? (i := 982) (by decide +kernel), List.mem_of_getElem? (i := 1256) (by decide +kernel), List.mem_of_getElem? (i := 1257) (by decide +kernel)⟩
theorem lw_p95 : lw_okq (⟨"LinkElectionModel", "noName", "(I)Z"⟩, 27) := ⟨⟨by decide +kernel, by decide +kernel⟩, List.mem_of_getElem? (i := 982) (by decide +kernel), List.mem_of_getElem? (i := 1273) (by decide +kernel), List.mem_of_getElem? (i := 1274) (by decide +kernel)⟩
def lw_privs_6 : List (MethodName × Nat) := [(⟨"LinkElectionModel", "readPreference", "()V"⟩, 27), (⟨"LinkElectionModel", "prefers", "([III)Z"⟩, 27), (⟨"LinkElectionModel", "once", "(II)V"⟩, 27), (⟨"LinkElectionModel", "sum", "()V"⟩, 27), (⟨"LinkElectionModel", "term", "()V"⟩, 27), (⟨"LinkElectionModel", "factor", "()V"⟩, 27), (⟨"LinkElectionModel", "emit", "(I)V"⟩, 27), (⟨"LinkElectionModel", "remember", "()V"⟩, 27), (⟨"LinkElectionModel", "noLibrary", "(I)Z"⟩, 27), (⟨"LinkElectionModel", "told", "(II)I"⟩, 27), (⟨"LinkElectionModel", "rankOf", "(I)I"⟩, 27), (⟨"LinkElectionModel", "isLoaded", "(I)Z"⟩, 27), (⟨"LinkElectionModel", "offersOf", "(I)I"⟩, 27), (⟨"LinkElectionModel", "weightOf", "(I)I"⟩, 27), (⟨"LinkElectionModel", "friendsOf", "(I)I"⟩, 27), (⟨"LinkElectionModel", "noName", "(I)Z"⟩, 27)]
theorem lw_r6 : ∀ q ∈ lw_privs_6, lw_okq q := List.forall_mem_cons.mpr ⟨lw_p80, List.forall_mem_cons.mpr ⟨lw_p81, List.forall_mem_cons.mpr ⟨lw_p82, List.forall_mem_cons.mpr ⟨lw_p83, List.forall_mem_cons.mpr ⟨lw_p84, List.forall_mem_cons.mpr ⟨lw_p85, List.forall_mem_cons.mpr ⟨lw_p86, List.forall_mem_cons.mpr ⟨lw_p87, List.forall_mem_cons.mpr ⟨lw_p88, List.forall_mem_cons.mpr ⟨lw_p89, List.forall_mem_cons.mpr ⟨lw_p90, List.forall_mem_cons.mpr ⟨lw_p91, List.forall_mem_cons.mpr ⟨lw_p92, List.forall_mem_cons.mpr ⟨lw_p93, List.forall_mem_cons.mpr ⟨lw_p94, List.forall_mem_cons.mpr ⟨lw_p95, fun _ h => absurd h List.not_mem_nil⟩⟩⟩⟩⟩⟩⟩⟩⟩⟩⟩⟩⟩⟩⟩⟩
theorem lw_p96 : lw_okq (⟨"LinkElectionModel", "isCandidate", "(II)Z"⟩, 27) := ⟨⟨by decide +kernel, by decide +kernel⟩, List.mem_of_getElem? (i := 982) (by decide +kernel), List.mem_of_getElem? (i := 1281) (by decide +kernel), List.mem_of_getElem? (i := 1282) (by decide +kernel)⟩
theorem lw_p97 : lw_okq (⟨"LinkElectionModel", "voteOf", "(II)I"⟩, 27) := ⟨⟨by decide +kernel, by decide +kernel⟩, List.mem_of_getElem? (i := 982) (by decide +kernel), List.mem_of_getElem? (i := 1289) (by decide +kernel), List.mem_of_getElem? (i := 1290) (by decide +kernel)⟩
theorem lw_p98 : lw_okq (⟨"LinkElectionModel", "isMissing", "(II)Z"⟩, 27) := ⟨⟨by decide +kernel, by decide +kernel⟩, List.mem_of_getElem? (i := 982) (by decide +kernel), List.mem_of_getElem? (i := 1297) (by decide +kernel), List.mem_of_getElem? (i := 1298) (by decide +kernel)⟩
theorem lw_p99 : lw_okq (⟨"LinkElectionModel", "layAll", "()V"⟩, 27) := ⟨⟨by decide +kernel, by decide +kernel⟩, List.mem_of_getElem? (i := 982) (by decide +kernel), List.mem_of_getElem? (i := 1301) (by decide +kernel), List.mem_of_getElem? (i := 1302) (by decide +kernel)⟩
theorem lw_p100 : lw_okq (⟨"LinkElectionModel", "layName", "(I)V"⟩, 27) := ⟨⟨by decide +kernel, by decide +kernel⟩, List.mem_of_getElem? (i := 982) (by decide +kernel), List.mem_of_getElem? (i := 1305) (by decide +kernel), List.mem_of_getElem? (i := 1306) (by decide +kernel)⟩
theorem lw_p101 : lw_okq (⟨"LinkElectionModel", "follow", "(II)I"⟩, 27) := ⟨⟨by decide +kernel, by decide +kernel⟩, List.mem_of_getElem? (i := 982) (by decide +kernel), List.mem_of_getElem? (i := 1329) (by decide +kernel), List.mem_of_getElem? (i := 1330) (by decide +kernel)⟩
theorem lw_p102 : lw_okq (⟨"LinkElectionModel", "keepBindings", "()V"⟩, 27) := ⟨⟨by decide +kernel, by decide +kernel⟩, List.mem_of_getElem? (i := 982) (by decide +kernel), List.mem_of_getElem? (i := 1345) (by decide +kernel), List.mem_of_getElem? (i := 1346) (by decide +kernel)⟩
theorem lw_p103 : lw_okq (⟨"LinkElectionModel", "changedBut", "(I)I"⟩, 27) := ⟨⟨by decide +kernel, by decide +kernel⟩, List.mem_of_getElem? (i := 982) (by decide +kernel), List.mem_of_getElem? (i := 1349) (by decide +kernel), List.mem_of_getElem? (i := 1350) (by decide +kernel)⟩
theorem lw_p104 : lw_okq (⟨"LinkElectionModel", "put", "(III)I"⟩, 27) := ⟨⟨by decide +kernel, by decide +kernel⟩, List.mem_of_getElem? (i := 982) (by decide +kernel), List.mem_of_getElem? (i := 1361) (by decide +kernel), List.mem_of_getElem? (i := 1362) (by decide +kernel)⟩
def lw_privs_7 : List (MethodName × Nat) := [(⟨"LinkElectionModel", "isCandidate", "(II)Z"⟩, 27), (⟨"LinkElectionModel", "voteOf", "(II)I"⟩, 27), (⟨"LinkElectionModel", "isMissing", "(II)Z"⟩, 27), (⟨"LinkElectionModel", "layAll", "()V"⟩, 27), (⟨"LinkElectionModel", "layName", "(I)V"⟩, 27), (⟨"LinkElectionModel", "follow", "(II)I"⟩, 27), (⟨"LinkElectionModel", "keepBindings", "()V"⟩, 27), (⟨"LinkElectionModel", "changedBut", "(I)I"⟩, 27), (⟨"LinkElectionModel", "put", "(III)I"⟩, 27)]
theorem lw_r7 : ∀ q ∈ lw_privs_7, lw_okq q := List.forall_mem_cons.mpr ⟨lw_p96, List.forall_mem_cons.mpr ⟨lw_p97, List.forall_mem_cons.mpr ⟨lw_p98, List.forall_mem_cons.mpr ⟨lw_p99, List.forall_mem_cons.mpr ⟨lw_p100, List.forall_mem_cons.mpr ⟨lw_p101, List.forall_mem_cons.mpr ⟨lw_p102, List.forall_mem_cons.mpr ⟨lw_p103, List.forall_mem_cons.mpr ⟨lw_p104, fun _ h => absurd h List.not_mem_nil⟩⟩⟩⟩⟩⟩⟩⟩⟩
def lw_privs : List (MethodName × Nat) := lw_privs_1 ++ (lw_privs_2 ++ (lw_privs_3 ++ (lw_privs_4 ++ (lw_privs_5 ++ (lw_privs_6 ++ (lw_privs_7))))))
def lw_tbl : List Cond := k2_sels lw_privs ++ tables_1
theorem lw_privs_ok : ∀ q ∈ lw_privs, lw_okq q := by
  show ∀ q ∈ lw_privs_1 ++ (lw_privs_2 ++ (lw_privs_3 ++ (lw_privs_4 ++ (lw_privs_5 ++ (lw_privs_6 ++ (lw_privs_7)))))), lw_okq q
  exact List.forall_mem_append.mpr ⟨lw_r1, List.forall_mem_append.mpr ⟨lw_r2, List.forall_mem_append.mpr ⟨lw_r3, List.forall_mem_append.mpr ⟨lw_r4, List.forall_mem_append.mpr ⟨lw_r5, List.forall_mem_append.mpr ⟨lw_r6, lw_r7⟩⟩⟩⟩⟩⟩
/-! ===== BEGIN words of one list among another's, by their places ===== -/
theorem goodIn_r {big : List Cond} (ws : List Cond) (ps : List Nat) (hp : ws = ps.filterMap (fun i => big[i]?)) (h : ws.all goodWord = true) : GoodIn big ws := by
  intro w hw
  have h1 := List.all_eq_true.mp h w hw
  rw [hp] at hw
  obtain ⟨i, -, hi⟩ := List.mem_filterMap.mp hw
  have hm : w ∈ big := by first | exact List.mem_of_getElem? hi | exact List.getElem?_mem hi
  exact ⟨hm, good_of_word h1⟩
theorem goodIn_app {big a b : List Cond} (ha : GoodIn big a) (hb : GoodIn big b) : GoodIn big (a ++ b) := fun w h => (List.mem_append.mp h).elim (ha w) (hb w)
theorem goodIn_ca {big a b : List Cond} {c : Cond} (ha : GoodIn big (c :: a)) (hb : GoodIn big b) : GoodIn big (c :: (a ++ b)) := fun w h => (List.mem_cons.mp h).elim (fun e => ha w (List.mem_cons.mpr (Or.inl e))) (fun h => (List.mem_append.mp h).elim (fun h => ha w (List.mem_cons.mpr (Or.inr h))) (hb w))
theorem goodIn_sub {big ws : List Cond} (hm : ∀ w ∈ ws, w ∈ big) (h : ws.all goodWord = true) : GoodIn big ws := fun w hw => ⟨hm w hw, good_of_word (List.all_eq_true.mp h w hw)⟩
/-! ===== END ===== -/


/-! ===== BEGIN exceptions that leave a method, and their catching by the caller (launches without stack traces) ===== -/
section VXA
/-! The laws vx_back, vx_callV, vx_callS, vx_callSW, vx_throw0, vx_throwS follow proofs of the library, with one case more: JvmDerived/Free/Laws.lean (Back.of_free), Shelf42/LK1.lean (callV, callS), Shelf/KitTraced.lean (throwNew0V, throwNewS). -/
/-- where a method has thrown q: the class by its name, the cell, what was written, the world -/
def vx_T (XC : String → State → State → Prop) (st : State) (q : Addr) (t : State) (mc ms : Nat) (free : Addr → Prop) : Prop :=
  ∃ (E : String) (ce : Cell) (L : List Loc), XC E st t ∧ t.heap[q]? = some ce ∧ ce.vm = .none ∧ st.vm.findClass E = some ce.cls ∧ st.WarmedH t.vm ∧ st.sameButNew ({ t with vm := st.vm } : State) L mc ms ∧ ∀ z ∈ L, free z.base
def vx_Q (Qc : Array Value → State → Outcome → State → Prop) (XC : String → State → State → Prop) (mc ms : Nat) (free : Addr → Prop) : Array Value → State → Outcome → State → Prop := fun a st o t =>
  (Qc a st o t ∧ ∃ L, FrameEnd st o t L mc ms ∧ ∀ q ∈ L, free q.base) ∨ ∃ q, o = .threw q ∧ vx_T XC st q t mc ms free
/-- a callee that returns or throws -/
def vx_Met (l : Launch) (y : MethodName) (ws : List Cond) (rm : Room) (Pc : Array Value → State → Prop) (Qc : Array Value → State → Outcome → State → Prop) (XC : String → State → State → Prop) (mc ms : Nat) (free : Addr → Prop) : Prop :=
  MetFree l y (headSpec ws rm) Pc (fun _ _ _ _ _ => True) (vx_Q Qc XC mc ms free)
def vx_Post (XC : String → State → State → Prop) (mc ms : Nat) (free : Addr → Prop) : Pt → Array Value → Addr → Pt → Prop := fun A a q B =>
  ∃ (g : JFrame) (mk : MethodId) (t : State) (L : List Loc) (E : String) (ce : Cell), B.U.heap = t.heap ∧ B.U.vm = t.vm ∧ XC E (A.U.calling g mk a) t ∧ t.heap[q]? = some ce ∧ ce.vm = .none ∧ A.U.vm.findClass E = some ce.cls ∧ B.locs = A.locs ++ L ∧ (∀ z ∈ L, free z.base) ∧ B.cells = A.cells + mc ∧ B.slots = A.slots + ms
def vx_Back (l : Launch) (R : Room) (p : Program) (e : Env) (below : List Frame) (s : State) (sargs : Array Value) (y : MethodName) (len W9 : Nat)
    (Pre : Pt → Array Value → Prop) (Post : Pt → Array Value → Option Value → Pt → Prop) (PostX : Pt → Array Value → Addr → Pt → Prop) : Prop :=
  ∀ (m : MethodId) (meth : Method) (c : Code) (A : Pt) (g : JFrame) (ig : Instr) (mk : MethodId) (a : Array Value),
    Stand p l e R s m sargs below meth c A.U A.locs A.cells A.slots → g.method = m → g.locals.size = c.maxLocals → decode c.code g.pc = .ok (ig, len) →
    2 * g.monitorRoom + (g.stack.map fun v => v.category).sum ≤ W9 → A.U.methodNamed? y = some mk → Pre A a →
    (∃ (v : Option Value) (B : Pt), Stand p l e R s m sargs below meth c B.U B.locs B.cells B.slots ∧ Post A a v B ∧
      Steps p.tables e below (doInvoke e (A.U.setTop g) [] mk a).1 (B.U.setTop { g with pc := g.pc + len, stack := v.toList ++ g.stack })) ∨
    (∃ (q : Addr) (B : Pt), Stand p l e R s m sargs below meth c B.U B.locs B.cells B.slots ∧ PostX A a q B ∧
      Steps p.tables e below (doInvoke e (A.U.setTop g) [] mk a).1 ((B.U.setTop g).pushFrame (.throwing q)))
section Payer
variable {l : Launch} {R : Room} {p : Program} {e : Env} {below : List Frame} {s : State} {sargs : Array Value} {y : MethodName} {len W9 : Nat}
theorem vx_back {ws : List Cond} {rm : Room} {Pc : Array Value → State → Prop} {Qc : Array Value → State → Outcome → State → Prop} {XC : String → State → State → Prop} {mc ms : Nat} {free : Addr → Prop} {bytes : ByteArray} {maxL : Nat} {ret : Option FieldType}
    (hM : vx_Met l y ws rm Pc Qc XC mc ms free) (hblind : FrameBlind Pc) (hrc : rm.cells = mc) (hrs : rm.slots = ms)
    (hframes : rm.frames + 1 ≤ R.frames) (hlocals : W9 + (maxL + 11) + rm.locals ≤ R.locals)
    (hws : ∀ w ∈ ws, ∀ a' U, s.WarmedH U.vm → w.before a' U = true) (hcode : Cond.code y bytes maxL ret ∈ ws) (hinit : ∀ a' U, s.WarmedH U.vm → (Cond.initialized y.cls).before a' U = true) :
    vx_Back l R p e below s sargs y len W9 (PreOf R mc ms Pc) (PostOf Qc mc ms free) (vx_Post XC mc ms free) := by
  intro m meth c A g ig mk a X hg hsize hdg hW hn hp
  have h1 : (headSpec ws rm).pre.before a A.U = true := atoms_intro fun w hw => hws w hw _ _ X.warmed
  have h2 : (Cond.code y bytes maxL ret).before a A.U = true := hws _ hcode _ _ X.warmed
  have h3 : (Cond.initialized y.cls).before a A.U = true := hinit _ _ X.warmed
  have h4 : A.cells + (headSpec ws rm).room.cells ≤ R.cells := by rw [show (headSpec ws rm).room.cells = mc from hrc]; exact hp.1
  have h5 : A.slots + (headSpec ws rm).room.slots ≤ R.slots := by rw [show (headSpec ws rm).room.slots = ms from hrs]; exact hp.2.1
  have hPc : Pc a (A.U.calling g mk a) := hblind _ _ _ _ hp.2.2
  obtain ⟨U, Ls, c0, s0⟩ := A
  dsimp only [Pt.U, Pt.locs, Pt.cells, Pt.slots] at h1 h2 h3 h4 h5 X hn hPc ⊢
  obtain ⟨methY, cY, hmY, hcY, -, hlY, -, -, -, -⟩ := Cond.code_spec hn h2
  obtain ⟨kY, hkY, -⟩ := className_of_methodNamed hn
  have hinitY : kY.init = .initialized := Cond.initialized_spec (findClass_of_methodNamed hn) hkY h3
  have h : At U g.method c below := by rw [hg]; exact X.here
  have hlocals9 : W9 + (maxL + 11) + (headSpec ws rm).room.locals ≤ R.locals := hlocals
  have happ : (headSpec ws rm).appliesLoose y e.platform (U.calling g mk a) = true :=
    Spec.appliesLoose_calling (g := g) h hdg hn hkY hinitY
      (X.room_calling (g := g) (R' := (headSpec ws rm).room) hsize hmY hcY hframes (by rw [hlY]; omega) h4 h5) h1
  obtain ⟨mid, hmid⟩ := h.above
  have hfr : (U.setTop g).frames = (.java g :: mid) ++ below := by rw [State.frames_setTop' g h.top, hmid]; rfl
  obtain ⟨o, s₂, hsteps, -, hend, hq⟩ := Steps.callFree hM p X.admits X.cas X.clock (acts := []) hfr happ hPc trivial
  have hq' : vx_Q Qc XC mc ms free a (U.calling g mk a) o s₂ := hq
  rw [State.frames_setTop' g h.top] at hend
  obtain ⟨g₀, hg0⟩ := Option.isSome_iff_exists.mp h.top
  obtain ⟨r, hr⟩ := State.topJava?_eq_some.mp hg0
  have hr' : (({ U with heap := s₂.heap, slotsUsed := s₂.slotsUsed } : State).setVm s₂.vm).frames = .java g₀ :: r := hr
  rcases hq' with ⟨hqc, L, hfe, hL⟩ | ⟨q, rfl, E, ce, L, hx, hce, hcv, hcl, hW₂, hsm, hL⟩
  · obtain ⟨⟨v, rfl⟩, hW₂, e2, q2, q3, q4, q5, q6⟩ := id hfe
    have e3 : s₂ = ({ (U.calling g mk a).setFrames s₂.frames with heap := s₂.heap, slotsUsed := s₂.slotsUsed } : State).setVm s₂.vm := by
      have : s₂ = ({ s₂ with vm := (U.calling g mk a).vm } : State).setVm s₂.vm := rfl
      rw [e2] at this
      exact this
    obtain ⟨c₂, i₂, len₂, hc₂, hd₂, hf₂⟩ := hend
    have hW' : U.WarmedH s₂.vm := hW₂
    have hcc : c₂ = c := by
      have h1 : s₂.code? g.method = U.code? g.method := by
        rw [State.code?_eq, State.code?_eq, hW'.alike.method?]
      exact Option.some.inj (hc₂.symm.trans (h1.trans h.code))
    subst hcc
    have hlen : len₂ = len := by rw [hdg] at hd₂; cases hd₂; rfl
    subst hlen
    have hs₂ : s₂ = (({ U with heap := s₂.heap, slotsUsed := s₂.slotsUsed } : State).setVm s₂.vm).setTop { g with pc := g.pc + len₂, stack := v.toList ++ g.stack } := by
      refine e3.trans ?_
      rw [hf₂, State.calling_eq h.top, State.setFrames_setFrames, State.setTop_of_frames _ hr', hr]
      rfl
    have hsame : U.sameButNew ({ U with heap := s₂.heap, slotsUsed := s₂.slotsUsed } : State) L mc ms := by
      refine ⟨?_, q2, q3, q4, q5, q6⟩
      obtain ⟨t, ht, -⟩ := State.frames_cons hr
      show ({ U with heap := s₂.heap, slotsUsed := s₂.slotsUsed } : State) = { U.setFrames U.frames with heap := s₂.heap, slotsUsed := s₂.slotsUsed }
      rw [State.setFrames_self ht]
    subst hg
    refine Or.inl ⟨v, ⟨(({ U with heap := s₂.heap, slotsUsed := s₂.slotsUsed } : State).setVm s₂.vm), Ls ++ L, c0 + mc, s0 + ms⟩,
      ⟨X.admits, X.cas, X.clock, X.frames, X.room, X.hears, X.method, X.code, (X.here.setHeapUsed s₂.heap s₂.slotsUsed).setVm hW'.alike, X.tail, State.WarmedH.trans X.warmed hW', X.limits, X.bytes, X.same.trans (hsame.setVm s.vm)⟩,
      ⟨g, mk, s₂, L, rfl, rfl, hqc, rfl, hL, rfl, rfl⟩, ?_⟩
    show Steps p.tables e below _ ((({ U with heap := s₂.heap, slotsUsed := s₂.slotsUsed } : State).setVm s₂.vm).setTop { g with pc := g.pc + len₂, stack := v.toList ++ g.stack })
    rw [← hs₂]
    exact hsteps
  · obtain ⟨e2, q2, q3, q4, q5, q6⟩ := id hsm
    have e3 : s₂ = ({ (U.calling g mk a).setFrames s₂.frames with heap := s₂.heap, slotsUsed := s₂.slotsUsed } : State).setVm s₂.vm := by
      have : s₂ = ({ s₂ with vm := (U.calling g mk a).vm } : State).setVm s₂.vm := rfl
      rw [e2] at this
      exact this
    have hf₂ : s₂.frames = .throwing q :: .java g :: U.frames.tail := hend
    have hW' : U.WarmedH s₂.vm := hW₂
    have hs₂ : s₂ = ((({ U with heap := s₂.heap, slotsUsed := s₂.slotsUsed } : State).setVm s₂.vm).setTop g).pushFrame (.throwing q) := by
      refine e3.trans ?_
      rw [hf₂, State.calling_eq h.top, State.setFrames_setFrames, State.pushFrame, State.frames_setTop _ hr', State.setTop_of_frames _ hr', State.setFrames_setFrames, hr]
      rfl
    have hsame : U.sameButNew ({ U with heap := s₂.heap, slotsUsed := s₂.slotsUsed } : State) L mc ms := by
      refine ⟨?_, q2, q3, q4, q5, q6⟩
      obtain ⟨t, ht, -⟩ := State.frames_cons hr
      show ({ U with heap := s₂.heap, slotsUsed := s₂.slotsUsed } : State) = { U.setFrames U.frames with heap := s₂.heap, slotsUsed := s₂.slotsUsed }
      rw [State.setFrames_self ht]
    subst hg
    refine Or.inr ⟨q, ⟨(({ U with heap := s₂.heap, slotsUsed := s₂.slotsUsed } : State).setVm s₂.vm), Ls ++ L, c0 + mc, s0 + ms⟩,
      ⟨X.admits, X.cas, X.clock, X.frames, X.room, X.hears, X.method, X.code, (X.here.setHeapUsed s₂.heap s₂.slotsUsed).setVm hW'.alike, X.tail, State.WarmedH.trans X.warmed hW', X.limits, X.bytes, X.same.trans (hsame.setVm s.vm)⟩,
      ⟨g, mk, s₂, L, E, ce, rfl, rfl, hx, hce, hcv, hcl, rfl, hL, rfl, rfl⟩, ?_⟩
    show Steps p.tables e below _ (((({ U with heap := s₂.heap, slotsUsed := s₂.slotsUsed } : State).setVm s₂.vm).setTop g).pushFrame (.throwing q))
    rw [← hs₂]
    exact hsteps
end Payer
section Calls
variable {p : Program} {l : Launch} {e : Env} {R : Room} {s : State} {m : MethodId} {args : Array Value} {below : List Frame} {meth : Method} {c : Code} {T : State} {locs : List Loc} {cells slots : Nat}
theorem vx_callV (X : Stand p l e R s m args below meth c T locs cells slots) (hexec : p.tables.exec = Jvm.exec) {own C : String} {index : Nat} {y : MethodName} {bytes : ByteArray} {maxL : Nat} {ret : Option FieldType}
    (hown : s.vm.findClass own = some m.cls) (hlink : (Cond.methodLink own index y).before args s = true) (hinst : (Cond.instanceMethod y).before args s = true) (hsel : (Cond.selects C y y).before args s = true)
    (hcode : (Cond.code y bytes maxL ret).before args s = true) (hy : y.cls ≠ "java/lang/invoke/MethodHandle" ∧ y.cls ≠ "java/lang/invoke/VarHandle")
    {W9 : Nat} {Pre : Pt → Array Value → Prop} {Post : Pt → Array Value → Option Value → Pt → Prop} {PostX : Pt → Array Value → Addr → Pt → Prop} (hK : vx_Back l R p e below s args y 3 W9 Pre Post PostX)
    {b : Addr} {cellB : Cell} (hcell : T.heap[b]? = some cellB) (hobj : cellB.vm.isStatics = false) (hcls : s.vm.findClass C = some cellB.cls)
    {g : JFrame} (hg : g.method = m) (hsize : g.locals.size = c.maxLocals) {argsL rest : List Value} (hlen : ∀ sig, parseMethodDescriptor y.desc = some sig → argsL.length = sig.parameters.length)
    (hstack : g.stack = argsL.reverse ++ .ref b :: rest) (hW : 2 * g.monitorRoom + (rest.map fun v => v.category).sum ≤ W9) (hdg : decode c.code g.pc = .ok (.invokevirtual index, 3))
    (hpre : ∀ vm₁, s.WarmedH vm₁ → Pre ⟨T.setVm vm₁, locs, cells, slots⟩ (Value.ref b :: argsL).toArray) :
    (∃ (v : Option Value) (vm₁ : Vm) (B : Pt), s.WarmedH vm₁ ∧ Stand p l e R s m args below meth c B.U B.locs B.cells B.slots ∧ Post ⟨T.setVm vm₁, locs, cells, slots⟩ (Value.ref b :: argsL).toArray v B ∧
      ∀ target, Steps p.tables e below (B.U.setTop { g with pc := g.pc + 3, stack := v.toList ++ rest }) target → Steps p.tables e below (T.setTop g) target) ∨
    (∃ (q : Addr) (vm₁ : Vm) (B : Pt), s.WarmedH vm₁ ∧ Stand p l e R s m args below meth c B.U B.locs B.cells B.slots ∧ PostX ⟨T.setVm vm₁, locs, cells, slots⟩ (Value.ref b :: argsL).toArray q B ∧
      Steps p.tables e below (T.setTop g) ((B.U.setTop { g with stack := rest }).pushFrame (.throwing q))) := by
  obtain ⟨mk, methM, hnamed, hmethM, hstM, habM⟩ := Cond.instanceMethod_spec hinst
  obtain ⟨methM', cM, hmethM', -, -, -, -, -, -, hsigM⟩ := Cond.code_spec hnamed hcode
  cases hmethM.symm.trans hmethM'
  obtain ⟨c2, r2, m2, q1, q2, q3, q4, kP, hkP, hkPi⟩ := Cond.selects_spec hsel
  cases hcls.symm.trans q1
  cases (State.methodFound?_of_named hnamed hy).symm.trans q2
  cases hnamed.symm.trans q3
  have hselP : selectMethod e.platform s.vm cellB.cls mk = .method mk := by rw [Launch.admits_selectMethod X.admits]; exact q4
  obtain ⟨vm₁, X₁, hstep₁⟩ := X.invokevirtual hexec hown hlink hnamed hmethM hstM hkP hkPi hy (a := b) (cell := cellB) hcell
    (fun z h => by rw [h] at hobj; cases hobj) hselP hmethM habM hkP hkPi (g := g) hg (argsL := argsL) (rest := rest) (hlen _ hsigM) hstack hdg
  rcases hK m meth c ⟨T.setVm vm₁, locs, cells, slots⟩ { g with stack := rest } (.invokevirtual index) mk (Value.ref b :: argsL).toArray X₁ hg hsize hdg hW (X₁.named hnamed) (hpre vm₁ X₁.warmed) with ⟨v, B, X', hpost, hsteps⟩ | ⟨q, B, X', hpost, hsteps⟩
  · exact Or.inl ⟨v, vm₁, B, X₁.warmed, X', hpost, fun target h => hstep₁ _ fun acts => by rw [doInvoke_state]; exact hsteps.trans h⟩
  · exact Or.inr ⟨q, vm₁, B, X₁.warmed, X', hpost, hstep₁ _ fun acts => by rw [doInvoke_state]; exact hsteps⟩
theorem vx_callS (X : Stand p l e R s m args below meth c T locs cells slots) (hexec : p.tables.exec = Jvm.exec) {own : String} {index : Nat} {y : MethodName} {bytes : ByteArray} {maxL : Nat} {ret : Option FieldType}
    (hown : s.vm.findClass own = some m.cls) (hlink : (Cond.methodLink own index y).before args s = true) (hstat : (Cond.static y).before args s = true) (hinit : (Cond.initialized y.cls).before args s = true)
    (hcode : (Cond.code y bytes maxL ret).before args s = true) (hy : y.cls ≠ "java/lang/invoke/MethodHandle" ∧ y.cls ≠ "java/lang/invoke/VarHandle")
    {W9 : Nat} {Pre : Pt → Array Value → Prop} {Post : Pt → Array Value → Option Value → Pt → Prop} {PostX : Pt → Array Value → Addr → Pt → Prop} (hK : vx_Back l R p e below s args y 3 W9 Pre Post PostX)
    {g : JFrame} (hg : g.method = m) (hsize : g.locals.size = c.maxLocals) {argsL rest : List Value} (hlen : ∀ sig, parseMethodDescriptor y.desc = some sig → argsL.length = sig.parameters.length)
    (hstack : g.stack = argsL.reverse ++ rest) (hW : 2 * g.monitorRoom + (rest.map fun v => v.category).sum ≤ W9) (hdg : decode c.code g.pc = .ok (.invokestatic index, 3))
    (hpre : ∀ vm₁, s.WarmedH vm₁ → Pre ⟨T.setVm vm₁, locs, cells, slots⟩ argsL.toArray) :
    (∃ (v : Option Value) (vm₁ : Vm) (B : Pt), s.WarmedH vm₁ ∧ Stand p l e R s m args below meth c B.U B.locs B.cells B.slots ∧ Post ⟨T.setVm vm₁, locs, cells, slots⟩ argsL.toArray v B ∧
      ∀ target, Steps p.tables e below (B.U.setTop { g with pc := g.pc + 3, stack := v.toList ++ rest }) target → Steps p.tables e below (T.setTop g) target) ∨
    (∃ (q : Addr) (vm₁ : Vm) (B : Pt), s.WarmedH vm₁ ∧ Stand p l e R s m args below meth c B.U B.locs B.cells B.slots ∧ PostX ⟨T.setVm vm₁, locs, cells, slots⟩ argsL.toArray q B ∧
      Steps p.tables e below (T.setTop g) ((B.U.setTop { g with stack := rest }).pushFrame (.throwing q))) := by
  obtain ⟨mk, hnamed⟩ := Cond.code_named hcode
  obtain ⟨methM, cM, hmethM, -, -, -, -, -, -, hsigM⟩ := Cond.code_spec hnamed hcode
  have hstatic : methM.isStatic = true := Cond.static_spec hnamed hmethM hstat
  obtain ⟨kP, hkP, -⟩ := className_of_methodNamed hnamed
  have hinitP : kP.init = .initialized := Cond.initialized_spec (findClass_of_methodNamed hnamed) hkP hinit
  obtain ⟨vm₁, X₁, hstep₁⟩ := X.invokestatic hexec hown hlink hnamed hmethM hstatic hkP hinitP hy (g := g) hg (argsL := argsL) (rest := rest) (hlen _ hsigM) hstack hdg
  rcases hK m meth c ⟨T.setVm vm₁, locs, cells, slots⟩ { g with stack := rest } (.invokestatic index) mk argsL.toArray X₁ hg hsize hdg hW (X₁.named hnamed) (hpre vm₁ X₁.warmed) with ⟨v, B, X', hpost, hsteps⟩ | ⟨q, B, X', hpost, hsteps⟩
  · exact Or.inl ⟨v, vm₁, B, X₁.warmed, X', hpost, fun target h => hstep₁ _ fun acts => by rw [doInvoke_state]; exact hsteps.trans h⟩
  · exact Or.inr ⟨q, vm₁, B, X₁.warmed, X', hpost, hstep₁ _ fun acts => by rw [doInvoke_state]; exact hsteps⟩
end Calls
theorem vx_cls {s : State} {T : State} {vm₁ : Vm} {E : String} {k : ClassId} (hW : s.WarmedH vm₁) (h : (T.setVm vm₁).vm.findClass E = some k) : s.vm.findClass E = some k := by
  have h1 : vm₁.findClass E = some k := h
  rw [hW.alike.findClass] at h1
  exact h1
/-- the method's frame g, with q thrown over it -/
def vx_W (p : Program) (l : Launch) (e : Env) (R : Room) (s : State) (m : MethodId) (args : Array Value) (below : List Frame) (meth : Method) (c : Code) (H : Heap) (locs : List Loc) (cells slots : Nat) (Q : State → Prop) (g : JFrame) (q : Addr) : Prop :=
  ∀ T : State, T.heap = H → Stand p l e R s m args below meth c T locs cells slots → ∃ t, Steps p.tables e below ((T.setTop g).pushFrame (.throwing q)) t ∧ Q t
def vx_Run (p : Program) (l : Launch) (e : Env) (R : Room) (s : State) (m : MethodId) (args : Array Value) (below : List Frame) (meth : Method) (c : Code) (H : Heap) (locs : List Loc) (cells slots mc ms : Nat) (g : JFrame) (rest : List Value) (Qa : State → Outcome → State → Prop) (XC : String → State → State → Prop) (free : Addr → Prop) : Prop :=
  ∀ T : State, T.heap = H → Stand p l e R s m args below meth c T locs cells slots →
    (∃ (v : Option Value) (st₀ t T' : State) (L : List Loc), st₀.heap = H ∧ Stand p l e R s m args below meth c T' (locs ++ L) (cells + mc) (slots + ms) ∧ (∀ q ∈ L, free q.base) ∧ T'.heap = t.heap ∧ T'.vm = t.vm ∧ Qa st₀ (.returned v) t ∧
      Goes p e below T g T' { g with pc := g.pc + 3, stack := v.toList ++ rest }) ∨
    (∃ (q : Addr) (st₀ t T' : State) (L : List Loc) (E : String) (ce : Cell), st₀.heap = H ∧ Stand p l e R s m args below meth c T' (locs ++ L) (cells + mc) (slots + ms) ∧ (∀ z ∈ L, free z.base) ∧ T'.heap = t.heap ∧ T'.vm = t.vm ∧ XC E st₀ t ∧ t.heap[q]? = some ce ∧ ce.vm = .none ∧ s.vm.findClass E = some ce.cls ∧
      Steps p.tables e below (T.setTop g) ((T'.setTop { g with stack := rest }).pushFrame (.throwing q)))
def vx_X {S : Type} (px : S → Prop) (B : String → S → State → Prop) (A : Nat → Prop) : String → State → State → Prop := fun E st t => ∃ u : S, px u ∧ B E u t ∧ va_F A st t
section Runs
variable {p : Program} {l : Launch} {e : Env} {R : Room} {s : State} {m : MethodId} {args : Array Value} {below : List Frame} {meth : Method} {c : Code} {H : Heap} {locs : List Loc} {cells slots : Nat}
variable {y : MethodName} {bytes cc : ByteArray} {maxL nL mc ms n index : Nat} {ret : Option FieldType} {ws : List Cond} {rm : Room} {Pc : Array Value → State → Prop} {Qc : Array Value → State → Outcome → State → Prop} {XC : String → State → State → Prop} {free : Addr → Prop} {Ts : List Cond} {own C : String} {b : Addr} {As rest : List Value} {g : JFrame}
theorem vx_callBack (cb : CallB R s args own index y bytes maxL ret ws rm mc ms n) (hM : vx_Met l y ws rm Pc Qc XC mc ms free) (hbl : FrameBlind Pc) : vx_Back l R p e below s args y 3 8 (PreOf R mc ms Pc) (PostOf Qc mc ms free) (vx_Post XC mc ms free) := by
  obtain ⟨hrc, hrs, hfr, hlo, hws, hcw, -, hini, -⟩ := cb
  exact vx_back (bytes := bytes) (maxL := maxL) (ret := ret) hM hbl hrc hrs hfr hlo hws hcw (fun a' U hW => word_at hW (Or.inl (by first | rfl | simp [Cond.onTables, Cond.keeps, Cond.steady])) hini)
theorem vx_runV (S : CallFix p m c cc nL s args Ts own) (hM : vx_Met l y ws rm Pc Qc XC mc ms free) (cw : CallW R s args own C index y bytes maxL ret ws rm mc ms n) (hp : PreV s H C b Pc As)
    (hg : g.method = m) (hn : As.length = n) (hsize : g.locals.size = nL) (hstack : g.stack = As.reverse ++ .ref b :: rest) (hW : 2 * g.monitorRoom + (rest.map fun v => v.category).sum ≤ 8) (hdg : decode cc g.pc = .ok (.invokevirtual index, 3)) (hf : cells + mc ≤ R.cells ∧ slots + ms ≤ R.slots) :
    vx_Run p l e R s m args below meth c H locs cells slots mc ms g rest (Qc (Value.ref b :: As).toArray) XC free := by
  have hK : vx_Back l R p e below s args y 3 8 (PreOf R mc ms Pc) (PostOf Qc mc ms free) (vx_Post XC mc ms free) := vx_callBack cw.1 hM hp.1
  obtain ⟨⟨-, -, -, -, -, -, hcode, -, hy, hlen, hl⟩, hin, hse⟩ := cw
  obtain ⟨hx, hb, hml, ho, -⟩ := S
  obtain ⟨-, ⟨cellB, hcB, hoB, hclB⟩, hPc⟩ := hp
  intro T hT X
  rcases vx_callV X hx (C := C) (bytes := bytes) (maxL := maxL) (ret := ret) ho hl hin hse hcode hy hK (by rw [hT]; exact hcB) hoB hclB hg (hsize.trans hml.symm) (argsL := As) (rest := rest) (fun sig h => hn.trans (hlen sig h)) hstack hW (by rw [hb]; exact hdg)
    (fun vm₁ hW₁ => ⟨hf.1, hf.2, hPc (T.setVm vm₁) hT hW₁⟩) with ⟨v, vm₁, ⟨U', l2, c2, s2⟩, hW₁, X', ⟨g', mk, t, L, e1, e2, hq, h1, hL, h2, h3⟩, st⟩ | ⟨q, vm₁, ⟨U', l2, c2, s2⟩, hW₁, X', ⟨g', mk, t, L, E, ce, e1, e2, hq, hce, hcv, hcl, h1, hL, h2, h3⟩, st⟩
  · dsimp only [Pt.U, Pt.locs, Pt.cells, Pt.slots] at X' e1 e2 h1 h2 h3 st
    subst h1; subst h2; subst h3
    exact Or.inl ⟨v, (T.setVm vm₁).calling g' mk (Value.ref b :: As).toArray, t, U', L, hT, X', hL, e1, e2, hq, st⟩
  · dsimp only [Pt.U, Pt.locs, Pt.cells, Pt.slots] at X' e1 e2 h1 h2 h3 st hcl
    subst h1; subst h2; subst h3
    exact Or.inr ⟨q, (T.setVm vm₁).calling g' mk (Value.ref b :: As).toArray, t, U', L, E, ce, hT, X', hL, e1, e2, hq, hce, hcv, vx_cls hW₁ hcl, st⟩
theorem vx_runS (S : CallFix p m c cc nL s args Ts own) (hM : vx_Met l y ws rm Pc Qc XC mc ms free) (cw : CallB R s args own index y bytes maxL ret ws rm mc ms n ∧ (Cond.static y).before args s = true) (hp : PreS s H Pc As)
    (hg : g.method = m) (hn : As.length = n) (hsize : g.locals.size = nL) (hstack : g.stack = As.reverse ++ rest) (hW : 2 * g.monitorRoom + (rest.map fun v => v.category).sum ≤ 8) (hdg : decode cc g.pc = .ok (.invokestatic index, 3)) (hf : cells + mc ≤ R.cells ∧ slots + ms ≤ R.slots) :
    vx_Run p l e R s m args below meth c H locs cells slots mc ms g rest (Qc As.toArray) XC free := by
  have hK : vx_Back l R p e below s args y 3 8 (PreOf R mc ms Pc) (PostOf Qc mc ms free) (vx_Post XC mc ms free) := vx_callBack cw.1 hM hp.1
  obtain ⟨⟨-, -, -, -, -, -, hcode, hini, hy, hlen, hl⟩, hstt⟩ := cw
  obtain ⟨hx, hb, hml, ho, -⟩ := S
  intro T hT X
  rcases vx_callS X hx (bytes := bytes) (maxL := maxL) (ret := ret) ho hl hstt hini hcode hy hK hg (hsize.trans hml.symm) (argsL := As) (rest := rest) (fun sig h => hn.trans (hlen sig h)) hstack hW (by rw [hb]; exact hdg)
    (fun vm₁ hW₁ => ⟨hf.1, hf.2, hp.2 (T.setVm vm₁) hT hW₁⟩) with ⟨v, vm₁, ⟨U', l2, c2, s2⟩, hW₁, X', ⟨g', mk, t, L, e1, e2, hq, h1, hL, h2, h3⟩, st⟩ | ⟨q, vm₁, ⟨U', l2, c2, s2⟩, hW₁, X', ⟨g', mk, t, L, E, ce, e1, e2, hq, hce, hcv, hcl, h1, hL, h2, h3⟩, st⟩
  · dsimp only [Pt.U, Pt.locs, Pt.cells, Pt.slots] at X' e1 e2 h1 h2 h3 st
    subst h1; subst h2; subst h3
    exact Or.inl ⟨v, (T.setVm vm₁).calling g' mk As.toArray, t, U', L, hT, X', hL, e1, e2, hq, st⟩
  · dsimp only [Pt.U, Pt.locs, Pt.cells, Pt.slots] at X' e1 e2 h1 h2 h3 st hcl
    subst h1; subst h2; subst h3
    exact Or.inr ⟨q, (T.setVm vm₁).calling g' mk As.toArray, t, U', L, E, ce, hT, X', hL, e1, e2, hq, hce, hcv, vx_cls hW₁ hcl, st⟩
end Runs
section Rows
variable {p : Program} {l : Launch} {e : Env} {R : Room} {s : State} {m : MethodId} {args : Array Value} {below : List Frame} {meth : Method} {c : Code} {H : Heap} {locs : List Loc} {cells slots : Nat} {Q : State → Prop}
variable {mc ms : Nat} {free : Addr → Prop} {A0 A1 : Nat → Prop} {H0 : Heap} {a : Array Value} {pc : Nat} {ls : Array Slot} {st0 rest : List Value}
theorem vx_keep {st₀ t T' : State} {L : List Loc} (h0 : st₀.heap = H) (e1 : T'.heap = t.heap) (hS : va_S A0 H0 H locs) (hA : ∀ q, q < H.size → A1 q → A0 q) (hf : ∀ q, free q → A0 q) (hL : ∀ q ∈ L, free q.base) (hF : va_F A1 st₀ t) :
    H.size ≤ T'.heap.size ∧ (∀ q : Nat, q < H.size → ¬ A1 q → T'.heap[q]? = H[q]?) ∧ va_S A0 H0 T'.heap (locs ++ L) := by
  obtain ⟨hz, hk⟩ := hF
  rw [h0] at hz hk
  exact ⟨by rw [e1]; exact hz, fun q h1 h2 => by rw [e1]; exact hk q h1 h2,
    ⟨Nat.le_trans hS.1 (by rw [e1]; exact hz), fun q h1 h2 => by rw [e1, hk q (Nat.lt_of_lt_of_le h1 hS.1) (fun z => h2 (hA q (Nat.lt_of_lt_of_le h1 hS.1) z))]; exact hS.2.1 q h1 h2, fun q hq => by
      rcases List.mem_append.mp hq with h | h
      · exact hS.2.2 q h
      · exact hf _ (hL q h)⟩⟩
theorem vx_calli {S SX : Type} {post : Int32 → S → Prop} {px : SX → Prop} {B : S → State → Prop} {BX : String → SX → State → Prop} {AX : Nat → Prop} (hr : vx_Run p l e R s m args below meth c H locs cells slots mc ms (F0 m pc ls st0) rest (va_Qi post B A1 a) (vx_X px BX AX) free) (hS : va_S A0 H0 H locs) (hA : ∀ q, q < H.size → A1 q → A0 q) (hf : ∀ q, free q → A0 q) (hAX : ∀ q, q < H.size → AX q → A0 q)
    (kx : ∀ (E : String) (ce : Cell) (q9 : Addr) (u : SX) (t : State) (H1 : Heap) (locs1 : List Loc), t.heap = H1 → s.vm.Alike t.vm → px u → BX E u t → H.size ≤ H1.size → (∀ q : Nat, q < H.size → ¬ AX q → H1[q]? = H[q]?) → va_S A0 H0 H1 locs1 → H1[q9]? = some ce → ce.vm = .none → s.vm.findClass E = some ce.cls → vx_W p l e R s m args below meth c H1 locs1 (cells + mc) (slots + ms) Q (F0 m pc ls rest) q9)
    (kk : ∀ (r : Int32) (u : S) (t : State) (H1 : Heap) (locs1 : List Loc), t.heap = H1 → s.vm.Alike t.vm → post r u → B u t → H.size ≤ H1.size → (∀ q : Nat, q < H.size → ¬ A1 q → H1[q]? = H[q]?) → va_S A0 H0 H1 locs1 → W p l e R s m args below meth c H1 locs1 (cells + mc) (slots + ms) Q (F0 m (pc + 3) ls (.int r :: rest))) : W p l e R s m args below meth c H locs cells slots Q (F0 m pc ls st0) := by
  intro T hT X
  rcases hr T hT X with ⟨v, st₀, t, T', L, h0, X', hL, e1, e2, ⟨⟨r, u, hv, hp, hb⟩, hF⟩, st⟩ | ⟨q, st₀, t, T', L, E, ce, h0, X', hL, e1, e2, ⟨u, hp, hb, hF⟩, hce, hcv, hcl, st⟩
  · cases hv
    obtain ⟨k1, k2, k3⟩ := vx_keep h0 e1 hS hA hf hL hF
    obtain ⟨t2, a1, b1⟩ := kk r u t T'.heap (locs ++ L) e1.symm (by rw [← e2]; exact X'.warmed.alike) hp hb k1 k2 k3 T' rfl X'
    exact ⟨t2, st t2 a1, b1⟩
  · obtain ⟨k1, k2, k3⟩ := vx_keep h0 e1 hS hAX hf hL hF
    obtain ⟨t2, a1, b1⟩ := kx E ce q u t T'.heap (locs ++ L) e1.symm (by rw [← e2]; exact X'.warmed.alike) hp hb k1 k2 k3 (by rw [e1]; exact hce) hcv hcl T' rfl X'
    exact ⟨t2, st.trans a1, b1⟩
theorem vx_calll {S SX : Type} {post : Int64 → S → Prop} {px : SX → Prop} {B : S → State → Prop} {BX : String → SX → State → Prop} {AX : Nat → Prop} (hr : vx_Run p l e R s m args below meth c H locs cells slots mc ms (F0 m pc ls st0) rest (va_Ql post B A1 a) (vx_X px BX AX) free) (hS : va_S A0 H0 H locs) (hA : ∀ q, q < H.size → A1 q → A0 q) (hf : ∀ q, free q → A0 q) (hAX : ∀ q, q < H.size → AX q → A0 q)
    (kx : ∀ (E : String) (ce : Cell) (q9 : Addr) (u : SX) (t : State) (H1 : Heap) (locs1 : List Loc), t.heap = H1 → s.vm.Alike t.vm → px u → BX E u t → H.size ≤ H1.size → (∀ q : Nat, q < H.size → ¬ AX q → H1[q]? = H[q]?) → va_S A0 H0 H1 locs1 → H1[q9]? = some ce → ce.vm = .none → s.vm.findClass E = some ce.cls → vx_W p l e R s m args below meth c H1 locs1 (cells + mc) (slots + ms) Q (F0 m pc ls rest) q9)
    (kk : ∀ (r : Int64) (u : S) (t : State) (H1 : Heap) (locs1 : List Loc), t.heap = H1 → s.vm.Alike t.vm → post r u → B u t → H.size ≤ H1.size → (∀ q : Nat, q < H.size → ¬ A1 q → H1[q]? = H[q]?) → va_S A0 H0 H1 locs1 → W p l e R s m args below meth c H1 locs1 (cells + mc) (slots + ms) Q (F0 m (pc + 3) ls (.long r :: rest))) : W p l e R s m args below meth c H locs cells slots Q (F0 m pc ls st0) := by
  intro T hT X
  rcases hr T hT X with ⟨v, st₀, t, T', L, h0, X', hL, e1, e2, ⟨⟨r, u, hv, hp, hb⟩, hF⟩, st⟩ | ⟨q, st₀, t, T', L, E, ce, h0, X', hL, e1, e2, ⟨u, hp, hb, hF⟩, hce, hcv, hcl, st⟩
  · cases hv
    obtain ⟨k1, k2, k3⟩ := vx_keep h0 e1 hS hA hf hL hF
    obtain ⟨t2, a1, b1⟩ := kk r u t T'.heap (locs ++ L) e1.symm (by rw [← e2]; exact X'.warmed.alike) hp hb k1 k2 k3 T' rfl X'
    exact ⟨t2, st t2 a1, b1⟩
  · obtain ⟨k1, k2, k3⟩ := vx_keep h0 e1 hS hAX hf hL hF
    obtain ⟨t2, a1, b1⟩ := kx E ce q u t T'.heap (locs ++ L) e1.symm (by rw [← e2]; exact X'.warmed.alike) hp hb k1 k2 k3 (by rw [e1]; exact hce) hcv hcl T' rfl X'
    exact ⟨t2, st.trans a1, b1⟩
theorem vx_callf {S SX : Type} {post : UInt32 → S → Prop} {px : SX → Prop} {B : S → State → Prop} {BX : String → SX → State → Prop} {AX : Nat → Prop} (hr : vx_Run p l e R s m args below meth c H locs cells slots mc ms (F0 m pc ls st0) rest (va_Qf post B A1 a) (vx_X px BX AX) free) (hS : va_S A0 H0 H locs) (hA : ∀ q, q < H.size → A1 q → A0 q) (hf : ∀ q, free q → A0 q) (hAX : ∀ q, q < H.size → AX q → A0 q)
    (kx : ∀ (E : String) (ce : Cell) (q9 : Addr) (u : SX) (t : State) (H1 : Heap) (locs1 : List Loc), t.heap = H1 → s.vm.Alike t.vm → px u → BX E u t → H.size ≤ H1.size → (∀ q : Nat, q < H.size → ¬ AX q → H1[q]? = H[q]?) → va_S A0 H0 H1 locs1 → H1[q9]? = some ce → ce.vm = .none → s.vm.findClass E = some ce.cls → vx_W p l e R s m args below meth c H1 locs1 (cells + mc) (slots + ms) Q (F0 m pc ls rest) q9)
    (kk : ∀ (r : UInt32) (u : S) (t : State) (H1 : Heap) (locs1 : List Loc), t.heap = H1 → s.vm.Alike t.vm → post r u → B u t → H.size ≤ H1.size → (∀ q : Nat, q < H.size → ¬ A1 q → H1[q]? = H[q]?) → va_S A0 H0 H1 locs1 → W p l e R s m args below meth c H1 locs1 (cells + mc) (slots + ms) Q (F0 m (pc + 3) ls (.float r :: rest))) : W p l e R s m args below meth c H locs cells slots Q (F0 m pc ls st0) := by
  intro T hT X
  rcases hr T hT X with ⟨v, st₀, t, T', L, h0, X', hL, e1, e2, ⟨⟨r, u, hv, hp, hb⟩, hF⟩, st⟩ | ⟨q, st₀, t, T', L, E, ce, h0, X', hL, e1, e2, ⟨u, hp, hb, hF⟩, hce, hcv, hcl, st⟩
  · cases hv
    obtain ⟨k1, k2, k3⟩ := vx_keep h0 e1 hS hA hf hL hF
    obtain ⟨t2, a1, b1⟩ := kk r u t T'.heap (locs ++ L) e1.symm (by rw [← e2]; exact X'.warmed.alike) hp hb k1 k2 k3 T' rfl X'
    exact ⟨t2, st t2 a1, b1⟩
  · obtain ⟨k1, k2, k3⟩ := vx_keep h0 e1 hS hAX hf hL hF
    obtain ⟨t2, a1, b1⟩ := kx E ce q u t T'.heap (locs ++ L) e1.symm (by rw [← e2]; exact X'.warmed.alike) hp hb k1 k2 k3 (by rw [e1]; exact hce) hcv hcl T' rfl X'
    exact ⟨t2, st.trans a1, b1⟩
theorem vx_calld {S SX : Type} {post : UInt64 → S → Prop} {px : SX → Prop} {B : S → State → Prop} {BX : String → SX → State → Prop} {AX : Nat → Prop} (hr : vx_Run p l e R s m args below meth c H locs cells slots mc ms (F0 m pc ls st0) rest (va_Qd post B A1 a) (vx_X px BX AX) free) (hS : va_S A0 H0 H locs) (hA : ∀ q, q < H.size → A1 q → A0 q) (hf : ∀ q, free q → A0 q) (hAX : ∀ q, q < H.size → AX q → A0 q)
    (kx : ∀ (E : String) (ce : Cell) (q9 : Addr) (u : SX) (t : State) (H1 : Heap) (locs1 : List Loc), t.heap = H1 → s.vm.Alike t.vm → px u → BX E u t → H.size ≤ H1.size → (∀ q : Nat, q < H.size → ¬ AX q → H1[q]? = H[q]?) → va_S A0 H0 H1 locs1 → H1[q9]? = some ce → ce.vm = .none → s.vm.findClass E = some ce.cls → vx_W p l e R s m args below meth c H1 locs1 (cells + mc) (slots + ms) Q (F0 m pc ls rest) q9)
    (kk : ∀ (r : UInt64) (u : S) (t : State) (H1 : Heap) (locs1 : List Loc), t.heap = H1 → s.vm.Alike t.vm → post r u → B u t → H.size ≤ H1.size → (∀ q : Nat, q < H.size → ¬ A1 q → H1[q]? = H[q]?) → va_S A0 H0 H1 locs1 → W p l e R s m args below meth c H1 locs1 (cells + mc) (slots + ms) Q (F0 m (pc + 3) ls (.double r :: rest))) : W p l e R s m args below meth c H locs cells slots Q (F0 m pc ls st0) := by
  intro T hT X
  rcases hr T hT X with ⟨v, st₀, t, T', L, h0, X', hL, e1, e2, ⟨⟨r, u, hv, hp, hb⟩, hF⟩, st⟩ | ⟨q, st₀, t, T', L, E, ce, h0, X', hL, e1, e2, ⟨u, hp, hb, hF⟩, hce, hcv, hcl, st⟩
  · cases hv
    obtain ⟨k1, k2, k3⟩ := vx_keep h0 e1 hS hA hf hL hF
    obtain ⟨t2, a1, b1⟩ := kk r u t T'.heap (locs ++ L) e1.symm (by rw [← e2]; exact X'.warmed.alike) hp hb k1 k2 k3 T' rfl X'
    exact ⟨t2, st t2 a1, b1⟩
  · obtain ⟨k1, k2, k3⟩ := vx_keep h0 e1 hS hAX hf hL hF
    obtain ⟨t2, a1, b1⟩ := kx E ce q u t T'.heap (locs ++ L) e1.symm (by rw [← e2]; exact X'.warmed.alike) hp hb k1 k2 k3 (by rw [e1]; exact hce) hcv hcl T' rfl X'
    exact ⟨t2, st.trans a1, b1⟩
theorem vx_callv {S SX : Type} {post : S → Prop} {px : SX → Prop} {B : S → State → Prop} {BX : String → SX → State → Prop} {AX : Nat → Prop} (hr : vx_Run p l e R s m args below meth c H locs cells slots mc ms (F0 m pc ls st0) rest (va_Qv post B A1 a) (vx_X px BX AX) free) (hS : va_S A0 H0 H locs) (hA : ∀ q, q < H.size → A1 q → A0 q) (hf : ∀ q, free q → A0 q) (hAX : ∀ q, q < H.size → AX q → A0 q)
    (kx : ∀ (E : String) (ce : Cell) (q9 : Addr) (u : SX) (t : State) (H1 : Heap) (locs1 : List Loc), t.heap = H1 → s.vm.Alike t.vm → px u → BX E u t → H.size ≤ H1.size → (∀ q : Nat, q < H.size → ¬ AX q → H1[q]? = H[q]?) → va_S A0 H0 H1 locs1 → H1[q9]? = some ce → ce.vm = .none → s.vm.findClass E = some ce.cls → vx_W p l e R s m args below meth c H1 locs1 (cells + mc) (slots + ms) Q (F0 m pc ls rest) q9)
    (kk : ∀ (u : S) (t : State) (H1 : Heap) (locs1 : List Loc), t.heap = H1 → s.vm.Alike t.vm → post u → B u t → H.size ≤ H1.size → (∀ q : Nat, q < H.size → ¬ A1 q → H1[q]? = H[q]?) → va_S A0 H0 H1 locs1 → W p l e R s m args below meth c H1 locs1 (cells + mc) (slots + ms) Q (F0 m (pc + 3) ls (rest))) : W p l e R s m args below meth c H locs cells slots Q (F0 m pc ls st0) := by
  intro T hT X
  rcases hr T hT X with ⟨v, st₀, t, T', L, h0, X', hL, e1, e2, ⟨⟨u, hv, hp, hb⟩, hF⟩, st⟩ | ⟨q, st₀, t, T', L, E, ce, h0, X', hL, e1, e2, ⟨u, hp, hb, hF⟩, hce, hcv, hcl, st⟩
  · cases hv
    obtain ⟨k1, k2, k3⟩ := vx_keep h0 e1 hS hA hf hL hF
    obtain ⟨t2, a1, b1⟩ := kk u t T'.heap (locs ++ L) e1.symm (by rw [← e2]; exact X'.warmed.alike) hp hb k1 k2 k3 T' rfl X'
    exact ⟨t2, st t2 a1, b1⟩
  · obtain ⟨k1, k2, k3⟩ := vx_keep h0 e1 hS hAX hf hL hF
    obtain ⟨t2, a1, b1⟩ := kx E ce q u t T'.heap (locs ++ L) e1.symm (by rw [← e2]; exact X'.warmed.alike) hp hb k1 k2 k3 (by rw [e1]; exact hce) hcv hcl T' rfl X'
    exact ⟨t2, st.trans a1, b1⟩
/-- caught by the row x of this method's table; the rows ahead don't take it -/
theorem vx_catch {own name : String} {E : String} {ce : Cell} {q : Addr} (hown : s.vm.findClass own = some m.cls) (pre : List ExceptionTableEntry) (x : ExceptionTableEntry) (suf : List ExceptionTableEntry) (hsplit : c.exceptionTable.toList = pre ++ x :: suf)
    (hpass : ∀ z ∈ pre, covers z pc = false ∨ (z.catchType ≠ 0 ∧ ∃ nm : String, (Cond.classLink own z.catchType nm).before args s = true ∧ va_Nc E nm s)) (hx : covers x pc = true) (h0 : x.catchType ≠ 0)
    (hlink : (Cond.classLink own x.catchType name).before args s = true) (hcast : (Cond.castable E name).before args s = true) (hcell : H[q]? = some ce) (hv : ce.vm = .none) (hcl : s.vm.findClass E = some ce.cls)
    (kk : W p l e R s m args below meth c H locs cells slots Q (F0 m x.handlerPc ls [.ref q])) : vx_W p l e R s m args below meth c H locs cells slots Q (F0 m pc ls rest) q := by
  intro T hT X
  have hpl : e.platform.magicAccessors = ({} : Platform).magicAccessors := by rw [X.admits.platform]
  obtain ⟨c3, c4, hc3, hc4, hasg⟩ := Cond.castable_spec hcast
  cases Option.some.inj (hc3.symm.trans hcl)
  obtain ⟨c5, hc5, hcl5⟩ := Cond.classLink_spec hown hlink e.platform hpl
  cases Option.some.inj (hc4.symm.trans hc5)
  obtain ⟨vm', X', st⟩ := X.thenCaughtThrough q (g := F0 m pc ls rest) rfl (Steps.refl _) (by rw [hT]; exact hcell) (by rw [hv]; rfl) (by obtain ⟨k9, h9, -⟩ := Vm.findClass_spec hcl; exact ⟨k9, h9⟩) pre x suf hsplit
    (fun z hz => by
      rcases hpass z hz with h | ⟨hz0, nm, hl1, hn1⟩
      · exact Or.inl h
      · obtain ⟨c6, hc6, hcl6⟩ := Cond.classLink_spec hown hl1 e.platform hpl
        obtain ⟨a8, b8, h1, h2, h3⟩ := hn1
        cases Option.some.inj (h1.symm.trans hcl)
        cases Option.some.inj (h2.symm.trans hc6)
        exact Or.inr ⟨hz0, _, hcl6, h3⟩) hx (Or.inr ⟨h0, c4, hcl5, hasg⟩)
  obtain ⟨t, a1, b1⟩ := kk (T.setVm vm') hT X'
  exact ⟨t, st.trans a1, b1⟩
end Rows
section Ends
variable {p : Program} {l : Launch} {e : Env} {R : Room} {s : State} {m : MethodId} {args : Array Value} {below : List Frame} {meth : Method} {c : Code} {H : Heap} {locs : List Loc} {cells slots : Nat} {Q : State → Prop}
variable {mc ms : Nat} {free : Addr → Prop} {A0 A1 : Nat → Prop} {H0 : Heap} {a : Array Value} {ls : Array Slot} {st0 rest : List Value}
variable {Qc : Array Value → State → Outcome → State → Prop} {XC : String → State → State → Prop}
/-- what a body that may throw owes at its end -/
def vx_MQ (below : List Frame) (Qc : Array Value → State → Outcome → State → Prop) (XC : String → State → State → Prop) (a : Array Value) (s : State) (mc ms : Nat) (free : Addr → Prop) : State → Prop := fun t =>
  ∃ o, t.status = .running ∧ Ended t below o ∧ vx_Q Qc XC mc ms free a s o t
theorem vx_ret {g : JFrame} {mc ms : Nat} (k : W p l e R s m args below meth c H locs cells slots (MQ below Qc args s mc ms free) g) : W p l e R s m args below meth c H locs cells slots (vx_MQ below Qc XC args s mc ms free) g := by
  intro T hT X
  obtain ⟨t, a1, o, b1, b2, b3, b4⟩ := k T hT X
  exact ⟨t, a1, o, b1, b2, Or.inl ⟨b3, b4⟩⟩
/-- not caught here: it goes on to the caller -/
theorem vx_widen {g : JFrame} {q : Addr} {k n : Nat} (h1 : cells ≤ k) (h2 : slots ≤ n) (kk : vx_W p l e R s m args below meth c H locs k n Q g q) : vx_W p l e R s m args below meth c H locs cells slots Q g q := fun T hT X => kk T hT (stand_widen X h1 h2)
theorem vx_out {pc : Nat} {E : String} {ce : Cell} {q : Addr} {mc ms : Nat} (hout : ∀ x ∈ c.exceptionTable.toList, covers x pc = false) (hlocks : meth.locks = false) (hcell : H[q]? = some ce) (hv : ce.vm = .none) (hcl : s.vm.findClass E = some ce.cls)
    (hx : ∀ t : State, t.heap = H → s.vm.Alike t.vm → XC E s t) (hf : ∀ z ∈ locs, free z.base) (hc : cells ≤ mc) (hs : slots ≤ ms) :
    vx_W p l e R s m args below meth c H locs cells slots (vx_MQ below Qc XC args s mc ms free) (F0 m pc ls rest) q := by
  intro T hT X
  obtain ⟨st1, hrun, hend, hW, hsm⟩ := X.leaveThrown q (g := F0 m pc ls rest) rfl rfl rfl hout hlocks
  have hcell9 : (T.setFrames (.throwing q :: below)).heap[q]? = some ce := by
    show T.heap[q]? = some ce
    rw [hT]; exact hcell
  exact ⟨_, st1, .threw q, hrun, hend, Or.inr ⟨q, rfl, E, ce, locs, hx _ hT hW.alike, hcell9, hv, hcl, hW, hsm.mono hc hs, hf⟩⟩
theorem vx_frame {U : State} {k n : Nat} (h : s.sameButNew ({ U with vm := s.vm } : State) locs k n) : s.heap.size ≤ U.heap.size ∧ ∀ q : Nat, q < s.heap.size → (∀ z ∈ locs, z.base ≠ q) → U.heap[q]? = s.heap[q]? := by
  obtain ⟨-, h2, -, -, -, h6⟩ := h
  refine ⟨h2, fun q hq hz => ?_⟩
  obtain ⟨c9, e1, e2, e3, e4⟩ := h6 q _ (Array.getElem?_eq_getElem hq)
  have hs : c9.slots = (s.heap[q]).slots := Array.ext_getElem? fun i => e4 i fun hm => hz _ hm rfl
  have h9 : c9 = s.heap[q] := by
    rw [hs] at e2
    exact e2
  have e5 : U.heap[q]? = some c9 := e1
  rw [e5, h9, Array.getElem?_eq_getElem hq]
/-- the words of a throw but the four that speak of the heap -/
def vx_no (w : Cond) : Bool := decide (w ≠ .isRef (.static Bundle.tN "UNASSIGNED_STACK" Bundle.steD)) && decide (w ≠ .isRef (.static Bundle.tN "SUPPRESSED_SENTINEL" Bundle.listD)) && decide (w ≠ .laysStatic Bundle.tN "UNASSIGNED_STACK" Bundle.steD) && decide (w ≠ .laysStatic Bundle.tN "SUPPRESSED_SENTINEL" Bundle.listD)
def vx_at0 (own : String) (ic : Nat) (X : String) (names : List String) : List Cond := (Bundle.ownAtoms0 own ic X names).filter vx_no
def vx_atS (own : String) (ic : Nat) (X : String) (names : List String) : List Cond := (Bundle.ownAtoms own ic X names).filter vx_no
/-- a word that the tables alone decide, or a good one -/
def vx_ot (w : Cond) : Bool := w.onTables || goodWord w
theorem vx_ot_at {args a' : Array Value} {s U : State} {w : Cond} (hW : s.WarmedH U.vm) (hvm : s.vm = U.vm) (hg : vx_ot w = true) (h : w.before args s = true) : w.before a' U = true := by
  simp only [vx_ot, Bool.or_eq_true] at hg
  rcases hg with hg | hg
  · exact va_tabs hg hvm h
  · exact word_at hW (good_of_word hg) h
/-- a list's words: the good ones out of the method's own list, the others by premises of their own -/
theorem vx_hat {args : Array Value} {s : State} {L B : List Cond} (h1 : ∀ w ∈ L.filter goodWord, w.before args s = true) (h2 : ∀ w ∈ L.filter (fun w => !goodWord w), w ∈ B) (h3 : ∀ w ∈ B, w.before args s = true) : ∀ w ∈ L, w.before args s = true := by
  intro w hw
  by_cases g : goodWord w = true
  · exact h1 w (List.mem_filter.mpr ⟨hw, g⟩)
  · refine h3 w (h2 w (List.mem_filter.mpr ⟨hw, ?_⟩))
    show (!goodWord w) = true
    cases hgw : goodWord w
    · rfl
    · exact absurd hgw g
theorem vx_c {args : Array Value} {s : State} {w : Cond} {B : List Cond} (h : w.before args s = true) (t : ∀ w ∈ B, w.before args s = true) : ∀ w' ∈ w :: B, w'.before args s = true := fun w' h' => (List.mem_cons.mp h').elim (fun e => by rw [e]; exact h) (t w')
theorem vx_n {args : Array Value} {s : State} : ∀ w ∈ ([] : List Cond), w.before args s = true := fun _ h => nomatch h
theorem vx_own {args : Array Value} {s : State} {L : List Cond} (h1 : ∀ w ∈ L.filter vx_no, w.before args s = true)
    (hU : (Cond.isRef (.static Bundle.tN "UNASSIGNED_STACK" Bundle.steD)).before args s = true) (hN : (Cond.isRef (.static Bundle.tN "SUPPRESSED_SENTINEL" Bundle.listD)).before args s = true)
    (lU : (Cond.laysStatic Bundle.tN "UNASSIGNED_STACK" Bundle.steD).before args s = true) (lN : (Cond.laysStatic Bundle.tN "SUPPRESSED_SENTINEL" Bundle.listD).before args s = true) : ∀ w ∈ L, w.before args s = true := by
  intro w hw
  by_cases e1 : w = .isRef (.static Bundle.tN "UNASSIGNED_STACK" Bundle.steD)
  · rw [e1]; exact hU
  · by_cases e2 : w = .isRef (.static Bundle.tN "SUPPRESSED_SENTINEL" Bundle.listD)
    · rw [e2]; exact hN
    · by_cases e3 : w = .laysStatic Bundle.tN "UNASSIGNED_STACK" Bundle.steD
      · rw [e3]; exact lU
      · by_cases e4 : w = .laysStatic Bundle.tN "SUPPRESSED_SENTINEL" Bundle.listD
        · rw [e4]; exact lN
        · exact h1 w (List.mem_filter.mpr ⟨hw, by unfold vx_no; rw [decide_eq_true e1, decide_eq_true e2, decide_eq_true e3, decide_eq_true e4]; rfl⟩)
/-- where a static field lies, its class's statics cell in H -/
def vx_L (C n d : String) (A : Nat → Prop) (U : State) (H : Heap) : Prop := ∃ (c : ClassId) (k : Class) (i : Nat) (f : Field) (a : Nat) (cell : Cell), U.vm.findClass C = some c ∧ U.fieldFound? C n d = some (c, k, i, f) ∧ f.isStatic = true ∧ k.statics = some a ∧ H[a]? = some cell ∧ cell.vm.isStatics = true ∧ cell.cls = c ∧ f.slot < cell.slots.size ∧ k.staticTypes[f.slot]? = some f.type ∧ ¬ A a
theorem vx_L.moved {C n d : String} {A : Nat → Prop} {u U : State} {H : Heap} (hvm : u.vm.Alike U.vm) (h : vx_L C n d A u H) : vx_L C n d A U H := by
  obtain ⟨c, k, i, f, a, cell, h1, h2, h3, h4, h5, h6, h7, h8, h9, h10⟩ := h
  obtain ⟨k', hi', he⟩ := State.fieldFound?_setVm hvm h2
  exact ⟨c, k', i, f, a, cell, by rw [hvm.findClass]; exact h1, hi', h3, by rw [he]; exact h4, h5, h6, h7, h8, by rw [he]; exact h9, h10⟩
theorem vx_L.kept {C n d : String} {A : Nat → Prop} {U : State} {H H1 : Heap} (h : vx_L C n d A U H) (hq : ∀ a : Nat, a < H.size → ¬ A a → H1[a]? = H[a]?) : vx_L C n d A U H1 := by
  obtain ⟨c, k, i, f, a, cell, h1, h2, h3, h4, h5, h6, h7, h8, h9, h10⟩ := h
  exact ⟨c, k, i, f, a, cell, h1, h2, h3, h4, by rw [hq a (Array.getElem?_eq_some_iff.mp h5).1 h10]; exact h5, h6, h7, h8, h9, h10⟩
theorem vx_L.narrow {C n d : String} {A B : Nat → Prop} {U : State} {H : Heap} (h : vx_L C n d A U H) (hAB : ∀ q, B q → A q) : vx_L C n d B U H := by
  obtain ⟨c, k, i, f, a, cell, h1, h2, h3, h4, h5, h6, h7, h8, h9, h10⟩ := h
  exact ⟨c, k, i, f, a, cell, h1, h2, h3, h4, h5, h6, h7, h8, h9, fun z => h10 (hAB _ z)⟩
theorem vx_L.word {C n d : String} {A : Nat → Prop} {s : State} {args : Array Value} (h : vx_L C n d A s s.heap) : (Cond.laysStatic C n d).before args s = true := by
  obtain ⟨c, k, i, f, a, cell, h1, h2, h3, h4, h5, h6, h7, h8, h9, -⟩ := h
  show (Cond.laysStatic C n d).holds args s none s [] = true
  exact Cond.laysStatic_of h1 h2 h3 h4 h5 h6 h7 h8 h9
/-- .. and what it holds: null or some reference -/
def vx_Zq (C n d : String) (A : Nat → Prop) (U : State) (H : Heap) : Prop := va_Zq C n d A U H ∧ vx_L C n d A U H
theorem vx_Zq.moved {C n d : String} {A : Nat → Prop} {u U : State} {H : Heap} (hvm : u.vm.Alike U.vm) (h : vx_Zq C n d A u H) : vx_Zq C n d A U H := ⟨va_Zq.moved hvm h.1, vx_L.moved hvm h.2⟩
theorem vx_Zq.kept {C n d : String} {A : Nat → Prop} {U : State} {H H1 : Heap} (h : vx_Zq C n d A U H) (hq : ∀ a : Nat, a < H.size → ¬ A a → H1[a]? = H[a]?) : vx_Zq C n d A U H1 := ⟨va_Zq.kept h.1 hq, vx_L.kept h.2 hq⟩
theorem vx_Zq.narrow {C n d : String} {A B : Nat → Prop} {U : State} {H : Heap} (h : vx_Zq C n d A U H) (hAB : ∀ q, B q → A q) : vx_Zq C n d B U H := ⟨va_Zq.narrow h.1 hAB, vx_L.narrow h.2 hAB⟩
theorem vx_Zqof {args : Array Value} {s : State} {C n d : String} {A : Nat → Prop} (hl : (Cond.laysStatic C n d).before args s = true) (hini : (Cond.initialized C).before args s = true) (h : (Cond.isRef (.static C n d)).before args s = true) (hA : ∀ a : Nat, a < s.heap.size → ¬ A a) : vx_Zq C n d A s s.heap := by
  refine ⟨va_Zqof hl hini h hA, ?_⟩
  obtain ⟨c, k, i, f, a, cell, h1, h2, h3, h4, h5, h6, h7, h8, h9⟩ := Cond.laysStatic_spec hl
  exact ⟨c, k, i, f, a, cell, h1, h2, h3, h4, h5, h6, h7, h8, h9, hA a (Array.getElem?_eq_some_iff.mp h5).1⟩
theorem vx_isRef {C n d : String} {v : Value} {A : Nat → Prop} {s : State} {args : Array Value} (h : va_Z C n d v A s s.heap) (hv : v.isRef = true) : (Cond.isRef (.static C n d)).before args s = true := by
  obtain ⟨cf, kf, fi, f, a, cell, h1, h2, h3, h4, h5, h6, h7, -⟩ := h
  have he : (Term.static C n d).eval args s none [] s = some v := by
    simp [Term.eval, State.fieldNamed?, h1, h2, h4, h5, h6, h7]
  simp only [Cond.before, Cond.holds, Cond.value, he]
  cases v <;> simp_all [Value.isRef]
theorem vx_isRefq {C n d : String} {A : Nat → Prop} {s : State} {args : Array Value} (h : va_Zq C n d A s s.heap) : (Cond.isRef (.static C n d)).before args s = true := by
  rcases h with h | ⟨t, h⟩
  · exact vx_isRef h rfl
  · exact vx_isRef h rfl
/-- the same frame, seen from here: as if the method were called anew in this heap -/
theorem vx_rebase {T : State} (X : Stand p l e R s m args below meth c T locs cells slots) {R' : Room} (hf : R'.frames ≤ R.frames) (hl : R'.locals ≤ R.locals) (hc : cells + R'.cells ≤ R.cells) (hs : slots + R'.slots ≤ R.slots) :
    Stand p l e R' ((T.setVm s.vm).setFrames (.invoking m args :: below)) m args below meth c T [] 0 0 := by
  have htop : (T.setVm s.vm).topJava?.isSome := X.here.top
  have hF : ((T.setVm s.vm).setFrames (.invoking m args :: below)).frames = .invoking m args :: below := State.frames_setFrames _ (State.cur_lt_of_top htop)
  obtain ⟨g₀, hg0⟩ := Option.isSome_iff_exists.mp htop
  obtain ⟨r, hr⟩ := State.topJava?_eq_some.mp hg0
  have hl9 : e.platform.stackLimits (T.setVm s.vm).me = e.platform.stackLimits s.me := X.limits
  have hb9 : (T.setVm s.vm).me.stackBytes = s.me.stackBytes := X.bytes
  refine ⟨X.admits, X.cas, X.clock, hF, ?_, X.hears, X.method, X.code, X.here, X.tail, X.warmed, ?_, ?_, ?_⟩
  · have h := X.room
    have hU : ((T.setVm s.vm).setFrames (.invoking m args :: below)).localsInUse = s.localsInUse := by
      rw [State.localsInUse_invoking hF (meth := meth) (c := c) X.method X.code, State.localsInUse_invoking X.frames X.method X.code]
    simp only [State.hasRoom, Bool.and_eq_true, decide_eq_true_eq] at h ⊢
    obtain ⟨⟨⟨⟨h1, h2, h3, h4, h5, h6⟩, h7⟩, h8⟩, h9⟩ := h
    rw [X.frames, List.length_cons] at h2 h3
    have q1 := X.heapSize
    have q2 := X.used
    simp only [hF, hU, List.length_cons, State.stackLimits_setFrames, State.stackBytes_setFrames, hl9, hb9]
    refine ⟨⟨⟨⟨by omega, by omega, by omega, by omega, by omega, h6⟩, ?_⟩, ?_⟩, X.book⟩
    · show T.heap.size + R'.cells ≤ e.platform.maxCells
      omega
    · show T.slotsUsed + R'.slots ≤ e.platform.maxSlots
      omega
  · rw [State.stackLimits_setFrames]; rfl
  · rw [State.stackBytes_setFrames]; rfl
  · refine ⟨?_, Nat.le_refl _, Nat.le_refl _, ?_, ?_, fun a c9 h9 => ⟨c9, h9, rfl, rfl, fun _ _ => rfl⟩⟩
    · obtain ⟨t, ht, -⟩ := State.frames_cons hr
      show T.setVm s.vm = { ((T.setVm s.vm).setFrames (.invoking m args :: below)).setFrames (T.setVm s.vm).frames with heap := T.heap, slotsUsed := T.slotsUsed }
      rw [State.setFrames_setFrames, State.setFrames_self ht]
      rfl
    · show T.slotsUsed = T.slotsUsed + ((T.heap.toList.drop T.heap.size).map (·.slots.size)).sum
      rw [List.drop_eq_nil_of_le (Nat.le_of_eq Array.length_toList)]
      rfl
    · show ((T.heap.toList.drop T.heap.size).map (·.slots.size)).sum ≤ 0
      rw [List.drop_eq_nil_of_le (Nat.le_of_eq Array.length_toList)]
      exact Nat.le_refl _
/-- 'throw new E()': new; dup; invokespecial; athrow -/
theorem vx_throw0 {cc : ByteArray} {pc : Nat} (hexec : p.tables.exec = Jvm.exec) (hb : c.code = cc) (hl : l.stackTraces = false) {own cls : String} {names : List String} {ik ic mc ms : Nat} {A : Nat → Prop}
    (hown : s.vm.findClass own = some m.cls) (hcls : Bundle.fit cls = true) (hnames : ∀ n ∈ names, Bundle.fit n = true)
    (hk : (Cond.classLink own ik cls).before args s = true) (hini : (Cond.initialized cls).before args s = true) (hat : ∀ w ∈ vx_at0 own ic cls names, w.before args s = true)
    (hgood : ∀ w ∈ Cond.classLink own ik cls :: Cond.initialized cls :: vx_at0 own ic cls names, vx_ot w = true)
    (hU : vx_Zq Bundle.tN "UNASSIGNED_STACK" Bundle.steD A s s.heap) (hN : vx_Zq Bundle.tN "SUPPRESSED_SENTINEL" Bundle.listD A s s.heap) (hS : va_S A s.heap H locs) (hsize : ls.size = c.maxLocals)
    (d0 : decode cc pc = .ok (.new ik, 3)) (d3 : decode cc (pc + 3) = .ok (.dup, 1)) (d4 : decode cc (pc + 4) = .ok (.invokespecial ic, 3)) (d7 : decode cc (pc + 7) = .ok (.athrow, 1))
    (hout : ∀ x ∈ c.exceptionTable.toList, covers x (pc + 7) = false)
    (hRframes : names.length + 3 < R.frames) (hRlocals : (rest.map fun v => v.category).sum + (13 * (names.length + 1) + 42) ≤ R.locals) (hRcells : cells + 1 ≤ R.cells) (hRslots : slots + 6 ≤ R.slots) (hlocks : meth.locks = false)
    (hx : ∀ t : State, s.vm.Alike t.vm → H.size ≤ t.heap.size → (∀ q : Nat, q < H.size → t.heap[q]? = H[q]?) → XC cls s t)
    (hf : ∀ z ∈ locs, free z.base) (hc : cells + 1 ≤ mc) (hs : slots + 6 ≤ ms) :
    W p l e R s m args below meth c H locs cells slots (vx_MQ below Qc XC args s mc ms free) (F0 m pc ls rest) := by
  intro T hT X
  have htr : e.platform.stackTraces = false := (show e.platform.stackTraces = l.stackTraces by rw [X.admits.platform]).trans hl
  have Y := vx_rebase X (R' := { frames := R.frames, locals := R.locals, cells := 1, slots := 6 }) (Nat.le_refl _) (Nat.le_refl _) hRcells hRslots
  obtain ⟨s', hA⟩ : ∃ z, z = (T.setVm s.vm).setFrames (.invoking m args :: below) := ⟨_, rfl⟩
  rw [← hA] at Y
  have hvm : s'.vm = s.vm := by rw [hA]; rfl
  have hhp : s'.heap = H := by rw [hA]; exact hT
  have hW0 : s.WarmedH s'.vm := by rw [hvm]; exact State.WarmedH.refl s
  have hat' : ∀ w ∈ vx_at0 own ic cls names, w.before args s' = true := fun w hw => vx_ot_at hW0 hvm.symm (hgood w (List.mem_cons_of_mem _ (List.mem_cons_of_mem _ hw))) (hat w hw)
  have hk' : (Cond.classLink own ik cls).before args s' = true := vx_ot_at hW0 hvm.symm (hgood _ List.mem_cons_self) hk
  have hini' : (Cond.initialized cls).before args s' = true := vx_ot_at hW0 hvm.symm (hgood _ (List.mem_cons_of_mem _ List.mem_cons_self)) hini
  have hU' : vx_Zq Bundle.tN "UNASSIGNED_STACK" Bundle.steD A s' s'.heap := by rw [hhp]; exact vx_Zq.moved hW0.alike (hU.kept hS.2.1)
  have hN' : vx_Zq Bundle.tN "SUPPRESSED_SENTINEL" Bundle.listD A s' s'.heap := by rw [hhp]; exact vx_Zq.moved hW0.alike (hN.kept hS.2.1)
  have h : ∀ w ∈ Bundle.ownAtoms0 own ic cls names, w.before args s' = true := vx_own hat' (vx_isRefq hU'.1) (vx_isRefq hN'.1) hU'.2.word hN'.2.word
  have hown' : s'.vm.findClass own = some m.cls := by rw [hvm]; exact hown
  have hins : (Cond.instantiable cls 6).before args s' = true := h _ (by simp [Bundle.ownAtoms0])
  obtain ⟨vm₁, cX, kX, hfX, hkX, -, -, X₁, st1⟩ := Y.newCold hexec (own := own) (C := cls) (index := ik) (n := 6) hown' hk' hins hini'
    (g := F0 m pc ls rest) rfl (by rw [hb]; exact d0) (Nat.le_refl _) (Nat.le_refl _)
  generalize hT1 : (T.setVm vm₁).pushCell { cls := cX, slots := kX.instanceTypes.map defaultValue, vm := .none } = T1 at X₁ st1
  have hcat : (Value.ref T.heap.size).category = 1 := rfl
  have hcellA : T1.heap[T.heap.size]? = some (freshCell cX kX) := by rw [← hT1]; exact State.heap_pushCell_size _ _
  have d3' : decode c.code (pc + 3) = .ok (.dup, 1) := by rw [hb]; exact d3
  obtain ⟨U, hsteps, hrun, hend, hW, hsame, ce, hce, hO⟩ := X₁.ctorThrow0 hexec htr (own := own) (cls := cls) (names := names) (ic := ic) hown' hcls hnames h (fun x hx => nomatch hx) hfX hkX hcellA (by rw [hhp, hT]; exact Nat.le_refl _)
    (g := { method := m, pc := pc + 4, locals := ls, stack := .ref T.heap.size :: .ref T.heap.size :: rest, locked := none }) rfl hsize rfl rfl (rest := rest) rfl
    (by rw [hb]; exact d4) (by rw [hb]; exact d7) hout hRframes (by simp only [List.map_cons, List.sum_cons, hcat]; omega) hlocks
  obtain ⟨f1, f2⟩ := vx_frame hsame
  rw [hhp] at f1 f2
  have hWs : s.WarmedH U.vm := State.WarmedH.trans hW0 hW
  have hcl : s.vm.findClass cls = some ce.cls := by
    have h9 := hO.cls
    rw [hvm] at h9
    exact h9
  have hall : s.sameButNew ({ U with vm := s.vm } : State) locs mc ms := by
    subst hA
    obtain ⟨e1, e2⟩ := hsame
    rw [State.setFrames_setFrames] at e1
    have h2 : (T.setVm s.vm).sameButNew ({ U with vm := s.vm } : State) [] (0 + 1) (0 + 6) := ⟨e1, e2⟩
    have h3 := X.same.trans h2
    rw [List.append_nil] at h3
    exact h3.mono hc hs
  refine ⟨U, ?_, .threw T.heap.size, hrun, hend, Or.inr ⟨T.heap.size, rfl, cls, ce, locs, hx U hWs.alike f1 (fun q hq => f2 q hq (fun z hz => nomatch hz)), hce, hO.vm, hcl, hWs, hall, hf⟩⟩
  refine st1 _ ?_
  show Steps p.tables e below (T1.setTop { method := m, pc := pc + 3, locals := ls, stack := .ref T.heap.size :: rest, locked := none }) _
  jvm_step X₁.here [X₁.here.top, hexec, d3', Value.category]
  exact hsteps
/-- 'throw new E("text")': new; dup; ldc; invokespecial; athrow -/
theorem vx_throwS {cc : ByteArray} {pc : Nat} (hexec : p.tables.exec = Jvm.exec) (hb : c.code = cc) (hl : l.stackTraces = false) {own cls text : String} {names : List String} {ik is ic mc ms sa : Nat} {A : Nat → Prop}
    (hown : s.vm.findClass own = some m.cls) (hcls : Bundle.fit cls = true) (hnames : ∀ n ∈ names, Bundle.fit n = true)
    (hk : (Cond.classLink own ik cls).before args s = true) (hini : (Cond.initialized cls).before args s = true) (hstr : vk_R own is text sa s) (hat : ∀ w ∈ vx_atS own ic cls names, w.before args s = true)
    (hgood : ∀ w ∈ Cond.classLink own ik cls :: Cond.initialized cls :: vx_atS own ic cls names, vx_ot w = true)
    (hU : vx_Zq Bundle.tN "UNASSIGNED_STACK" Bundle.steD A s s.heap) (hN : vx_Zq Bundle.tN "SUPPRESSED_SENTINEL" Bundle.listD A s s.heap) (hS : va_S A s.heap H locs) (hsize : ls.size = c.maxLocals)
    (d0 : decode cc pc = .ok (.new ik, 3)) (d3 : decode cc (pc + 3) = .ok (.dup, 1)) (d4 : decode cc (pc + 4) = .ok (.ldc is, 2)) (d6 : decode cc (pc + 6) = .ok (.invokespecial ic, 3)) (d9 : decode cc (pc + 9) = .ok (.athrow, 1))
    (hout : ∀ x ∈ c.exceptionTable.toList, covers x (pc + 9) = false)
    (hRframes : names.length + 3 < R.frames) (hRlocals : (rest.map fun v => v.category).sum + (13 * (names.length + 1) + 43) ≤ R.locals) (hRcells : cells + 1 ≤ R.cells) (hRslots : slots + 6 ≤ R.slots) (hlocks : meth.locks = false)
    (hx : ∀ t : State, s.vm.Alike t.vm → H.size ≤ t.heap.size → (∀ q : Nat, q < H.size → t.heap[q]? = H[q]?) → XC cls s t)
    (hf : ∀ z ∈ locs, free z.base) (hc : cells + 1 ≤ mc) (hs : slots + 6 ≤ ms) :
    W p l e R s m args below meth c H locs cells slots (vx_MQ below Qc XC args s mc ms free) (F0 m pc ls rest) := by
  intro T hT X
  have htr : e.platform.stackTraces = false := (show e.platform.stackTraces = l.stackTraces by rw [X.admits.platform]).trans hl
  have Y := vx_rebase X (R' := { frames := R.frames, locals := R.locals, cells := 1, slots := 6 }) (Nat.le_refl _) (Nat.le_refl _) hRcells hRslots
  obtain ⟨s', hA⟩ : ∃ z, z = (T.setVm s.vm).setFrames (.invoking m args :: below) := ⟨_, rfl⟩
  rw [← hA] at Y
  have hvm : s'.vm = s.vm := by rw [hA]; rfl
  have hhp : s'.heap = H := by rw [hA]; exact hT
  have hW0 : s.WarmedH s'.vm := by rw [hvm]; exact State.WarmedH.refl s
  have hat' : ∀ w ∈ vx_atS own ic cls names, w.before args s' = true := fun w hw => vx_ot_at hW0 hvm.symm (hgood w (List.mem_cons_of_mem _ (List.mem_cons_of_mem _ hw))) (hat w hw)
  have hk' : (Cond.classLink own ik cls).before args s' = true := vx_ot_at hW0 hvm.symm (hgood _ List.mem_cons_self) hk
  have hini' : (Cond.initialized cls).before args s' = true := vx_ot_at hW0 hvm.symm (hgood _ (List.mem_cons_of_mem _ List.mem_cons_self)) hini
  have hU' : vx_Zq Bundle.tN "UNASSIGNED_STACK" Bundle.steD A s' s'.heap := by rw [hhp]; exact vx_Zq.moved hW0.alike (hU.kept hS.2.1)
  have hN' : vx_Zq Bundle.tN "SUPPRESSED_SENTINEL" Bundle.listD A s' s'.heap := by rw [hhp]; exact vx_Zq.moved hW0.alike (hN.kept hS.2.1)
  have h : ∀ w ∈ Bundle.ownAtoms own ic cls names, w.before args s' = true := vx_own hat' (vx_isRefq hU'.1) (vx_isRefq hN'.1) hU'.2.word hN'.2.word
  have hown' : s'.vm.findClass own = some m.cls := by rw [hvm]; exact hown
  have hins : (Cond.instantiable cls 6).before args s' = true := h _ (by simp [Bundle.ownAtoms])
  obtain ⟨vm₁, cX, kX, hfX, hkX, -, -, X₁, st1⟩ := Y.newCold hexec (own := own) (C := cls) (index := ik) (n := 6) hown' hk' hins hini'
    (g := F0 m pc ls rest) rfl (by rw [hb]; exact d0) (Nat.le_refl _) (Nat.le_refl _)
  generalize hT1 : (T.setVm vm₁).pushCell { cls := cX, slots := kX.instanceTypes.map defaultValue, vm := .none } = T1 at X₁ st1
  have hcat : (Value.ref T.heap.size).category = 1 := rfl
  have hcellA : T1.heap[T.heap.size]? = some (freshCell cX kX) := by rw [← hT1]; exact State.heap_pushCell_size _ _
  have d3' : decode c.code (pc + 3) = .ok (.dup, 1) := by rw [hb]; exact d3
  have d4' : decode c.code (pc + 4) = .ok (.ldc is, 2) := by rw [hb]; exact d4
  have hstr' : vk_R own is text sa s' := vk_R.warm hW0 hstr
  obtain ⟨U, hsteps, hrun, hend, hW, hsame, ce, hce, hO⟩ := X₁.ctorThrowS hexec htr (own := own) (cls := cls) (names := names) (ic := ic) hown' hcls hnames h (fun x hx => nomatch hx) hfX hkX hcellA (by rw [hhp, hT]; exact Nat.le_refl _) (msg := .ref sa) rfl
    (g := { method := m, pc := pc + 6, locals := ls, stack := .ref sa :: .ref T.heap.size :: .ref T.heap.size :: rest, locked := none }) rfl hsize rfl rfl (rest := rest) rfl
    (by rw [hb]; exact d6) (by rw [hb]; exact d9) hout hRframes (by simp only [List.map_cons, List.sum_cons, hcat]; omega) hlocks
  obtain ⟨f1, f2⟩ := vx_frame hsame
  rw [hhp] at f1 f2
  have hWs : s.WarmedH U.vm := State.WarmedH.trans hW0 hW
  have hcl : s.vm.findClass cls = some ce.cls := by
    have h9 := hO.cls
    rw [hvm] at h9
    exact h9
  have hall : s.sameButNew ({ U with vm := s.vm } : State) locs mc ms := by
    subst hA
    obtain ⟨e1, e2⟩ := hsame
    rw [State.setFrames_setFrames] at e1
    have h2 : (T.setVm s.vm).sameButNew ({ U with vm := s.vm } : State) [] (0 + 1) (0 + 6) := ⟨e1, e2⟩
    have h3 := X.same.trans h2
    rw [List.append_nil] at h3
    exact h3.mono hc hs
  refine ⟨U, ?_, .threw T.heap.size, hrun, hend, Or.inr ⟨T.heap.size, rfl, cls, ce, locs, hx U hWs.alike f1 (fun q hq => f2 q hq (fun z hz => nomatch hz)), hce, hO.vm, hcl, hWs, hall, hf⟩⟩
  refine st1 _ ?_
  show Steps p.tables e below (T1.setTop { method := m, pc := pc + 3, locals := ls, stack := .ref T.heap.size :: rest, locked := none }) _
  jvm_step X₁.here [X₁.here.top, hexec, d3', Value.category]
  exact X₁.ldcString hexec (own := own) (text := text) (index := is) (a := sa) hown' hstr'.1 hstr'.2
    (g := { method := m, pc := pc + 4, locals := ls, stack := .ref T.heap.size :: .ref T.heap.size :: rest, locked := none }) rfl d4' _ hsteps
/-- 'throw new E("text")', the text by a wide index -/
theorem vx_throwSW {cc : ByteArray} {pc : Nat} (hexec : p.tables.exec = Jvm.exec) (hb : c.code = cc) (hl : l.stackTraces = false) {own cls text : String} {names : List String} {ik is ic mc ms sa : Nat} {A : Nat → Prop}
    (hown : s.vm.findClass own = some m.cls) (hcls : Bundle.fit cls = true) (hnames : ∀ n ∈ names, Bundle.fit n = true)
    (hk : (Cond.classLink own ik cls).before args s = true) (hini : (Cond.initialized cls).before args s = true) (hstr : vk_R own is text sa s) (hat : ∀ w ∈ vx_atS own ic cls names, w.before args s = true)
    (hgood : ∀ w ∈ Cond.classLink own ik cls :: Cond.initialized cls :: vx_atS own ic cls names, vx_ot w = true)
    (hU : vx_Zq Bundle.tN "UNASSIGNED_STACK" Bundle.steD A s s.heap) (hN : vx_Zq Bundle.tN "SUPPRESSED_SENTINEL" Bundle.listD A s s.heap) (hS : va_S A s.heap H locs) (hsize : ls.size = c.maxLocals)
    (d0 : decode cc pc = .ok (.new ik, 3)) (d3 : decode cc (pc + 3) = .ok (.dup, 1)) (d4 : decode cc (pc + 4) = .ok (.ldc_w is, 3)) (d7 : decode cc (pc + 7) = .ok (.invokespecial ic, 3)) (d10 : decode cc (pc + 10) = .ok (.athrow, 1))
    (hout : ∀ x ∈ c.exceptionTable.toList, covers x (pc + 10) = false)
    (hRframes : names.length + 3 < R.frames) (hRlocals : (rest.map fun v => v.category).sum + (13 * (names.length + 1) + 43) ≤ R.locals) (hRcells : cells + 1 ≤ R.cells) (hRslots : slots + 6 ≤ R.slots) (hlocks : meth.locks = false)
    (hx : ∀ t : State, s.vm.Alike t.vm → H.size ≤ t.heap.size → (∀ q : Nat, q < H.size → t.heap[q]? = H[q]?) → XC cls s t)
    (hf : ∀ z ∈ locs, free z.base) (hc : cells + 1 ≤ mc) (hs : slots + 6 ≤ ms) :
    W p l e R s m args below meth c H locs cells slots (vx_MQ below Qc XC args s mc ms free) (F0 m pc ls rest) := by
  intro T hT X
  have htr : e.platform.stackTraces = false := (show e.platform.stackTraces = l.stackTraces by rw [X.admits.platform]).trans hl
  have Y := vx_rebase X (R' := { frames := R.frames, locals := R.locals, cells := 1, slots := 6 }) (Nat.le_refl _) (Nat.le_refl _) hRcells hRslots
  obtain ⟨s', hA⟩ : ∃ z, z = (T.setVm s.vm).setFrames (.invoking m args :: below) := ⟨_, rfl⟩
  rw [← hA] at Y
  have hvm : s'.vm = s.vm := by rw [hA]; rfl
  have hhp : s'.heap = H := by rw [hA]; exact hT
  have hW0 : s.WarmedH s'.vm := by rw [hvm]; exact State.WarmedH.refl s
  have hat' : ∀ w ∈ vx_atS own ic cls names, w.before args s' = true := fun w hw => vx_ot_at hW0 hvm.symm (hgood w (List.mem_cons_of_mem _ (List.mem_cons_of_mem _ hw))) (hat w hw)
  have hk' : (Cond.classLink own ik cls).before args s' = true := vx_ot_at hW0 hvm.symm (hgood _ List.mem_cons_self) hk
  have hini' : (Cond.initialized cls).before args s' = true := vx_ot_at hW0 hvm.symm (hgood _ (List.mem_cons_of_mem _ List.mem_cons_self)) hini
  have hU' : vx_Zq Bundle.tN "UNASSIGNED_STACK" Bundle.steD A s' s'.heap := by rw [hhp]; exact vx_Zq.moved hW0.alike (hU.kept hS.2.1)
  have hN' : vx_Zq Bundle.tN "SUPPRESSED_SENTINEL" Bundle.listD A s' s'.heap := by rw [hhp]; exact vx_Zq.moved hW0.alike (hN.kept hS.2.1)
  have h : ∀ w ∈ Bundle.ownAtoms own ic cls names, w.before args s' = true := vx_own hat' (vx_isRefq hU'.1) (vx_isRefq hN'.1) hU'.2.word hN'.2.word
  have hown' : s'.vm.findClass own = some m.cls := by rw [hvm]; exact hown
  have hins : (Cond.instantiable cls 6).before args s' = true := h _ (by simp [Bundle.ownAtoms])
  obtain ⟨vm₁, cX, kX, hfX, hkX, -, -, X₁, st1⟩ := Y.newCold hexec (own := own) (C := cls) (index := ik) (n := 6) hown' hk' hins hini'
    (g := F0 m pc ls rest) rfl (by rw [hb]; exact d0) (Nat.le_refl _) (Nat.le_refl _)
  generalize hT1 : (T.setVm vm₁).pushCell { cls := cX, slots := kX.instanceTypes.map defaultValue, vm := .none } = T1 at X₁ st1
  have hcat : (Value.ref T.heap.size).category = 1 := rfl
  have hcellA : T1.heap[T.heap.size]? = some (freshCell cX kX) := by rw [← hT1]; exact State.heap_pushCell_size _ _
  have d3' : decode c.code (pc + 3) = .ok (.dup, 1) := by rw [hb]; exact d3
  have d4' : decode c.code (pc + 4) = .ok (.ldc_w is, 3) := by rw [hb]; exact d4
  have hstr' : vk_R own is text sa s' := vk_R.warm hW0 hstr
  obtain ⟨U, hsteps, hrun, hend, hW, hsame, ce, hce, hO⟩ := X₁.ctorThrowS hexec htr (own := own) (cls := cls) (names := names) (ic := ic) hown' hcls hnames h (fun x hx => nomatch hx) hfX hkX hcellA (by rw [hhp, hT]; exact Nat.le_refl _) (msg := .ref sa) rfl
    (g := { method := m, pc := pc + 7, locals := ls, stack := .ref sa :: .ref T.heap.size :: .ref T.heap.size :: rest, locked := none }) rfl hsize rfl rfl (rest := rest) rfl
    (by rw [hb]; exact d7) (by rw [hb]; exact d10) hout hRframes (by simp only [List.map_cons, List.sum_cons, hcat]; omega) hlocks
  obtain ⟨f1, f2⟩ := vx_frame hsame
  rw [hhp] at f1 f2
  have hWs : s.WarmedH U.vm := State.WarmedH.trans hW0 hW
  have hcl : s.vm.findClass cls = some ce.cls := by
    have h9 := hO.cls
    rw [hvm] at h9
    exact h9
  have hall : s.sameButNew ({ U with vm := s.vm } : State) locs mc ms := by
    subst hA
    obtain ⟨e1, e2⟩ := hsame
    rw [State.setFrames_setFrames] at e1
    have h2 : (T.setVm s.vm).sameButNew ({ U with vm := s.vm } : State) [] (0 + 1) (0 + 6) := ⟨e1, e2⟩
    have h3 := X.same.trans h2
    rw [List.append_nil] at h3
    exact h3.mono hc hs
  refine ⟨U, ?_, .threw T.heap.size, hrun, hend, Or.inr ⟨T.heap.size, rfl, cls, ce, locs, hx U hWs.alike f1 (fun q hq => f2 q hq (fun z hz => nomatch hz)), hce, hO.vm, hcl, hWs, hall, hf⟩⟩
  refine st1 _ ?_
  show Steps p.tables e below (T1.setTop { method := m, pc := pc + 3, locals := ls, stack := .ref T.heap.size :: rest, locked := none }) _
  jvm_step X₁.here [X₁.here.top, hexec, d3', Value.category]
  exact X₁.ldcStringW hexec (own := own) (text := text) (index := is) (a := sa) hown' hstr'.1 hstr'.2
    (g := { method := m, pc := pc + 4, locals := ls, stack := .ref T.heap.size :: .ref T.heap.size :: rest, locked := none }) rfl d4' _ hsteps
end Ends
section Bodies
variable {l : Launch}
theorem vx_ofW {y : MethodName} {ws ws' : List Cond} {rm : Room} {Pc : Array Value → State → Prop} {Qc : Array Value → State → Outcome → State → Prop} {XC : String → State → State → Prop} {mc ms : Nat} {free : Addr → Prop} {cc : ByteArray} {maxL : Nat} {ret : Option FieldType}
    (hy : plainName y.cls = true) (hw : ws = Cond.code y cc maxL ret :: ws')
    (body : ∀ p e s m args below meth c s₁, BodyLoose p l y (headSpec ws rm) cc maxL ret e s m args below meth c s₁ → c.maxLocals = maxL → (∀ x ∈ c.exceptionTable.toList, False) → Pc args s →
      W p l e (headSpec ws rm).room s m args below meth c s.heap [] 0 0 (vx_MQ below Qc XC args s mc ms free) (entryFrame m args maxL)) : vx_Met l y ws rm Pc Qc XC mc ms free := by
  refine MetFree.of_bodyS (code := cc) (maxLocals := maxL) (ret := ret) hy ?_ ?_
  · intro args s m h hn
    obtain ⟨meth, c, h1, h2, h3, h4, h5, h6, -, -⟩ := Cond.code_spec hn (atoms_spec (ws := ws) h _ (by rw [hw]; exact List.mem_cons_self))
    exact ⟨meth, c, h1, h2, h3, h4, h5, h6⟩
  · intro p e s m args below meth c s₁ B hml hP _
    have hh0 : s₁.heap = s.heap := by rw [B.state]; rfl
    have ht : ∀ x ∈ c.exceptionTable.toList, False := by
      obtain ⟨meth9, c9, h1, h2, -, -, -, -, h7, -⟩ := Cond.code_spec B.named (atoms_spec (ws := ws) B.pre _ (by rw [hw]; exact List.mem_cons_self))
      cases Option.some.inj (h1.symm.trans B.method)
      cases Option.some.inj (h2.symm.trans (Stand.of_body B).code)
      intro x hx
      rw [Array.isEmpty_iff.mp h7] at hx
      cases hx
    obtain ⟨t, a1, o, b1, b2, b3⟩ := body p e s m args below meth c s₁ B hml ht hP s₁ hh0 (Stand.of_body B)
    exact ⟨t, o, a1, b1, b2, b3⟩
/-- the table of a body with handlers -/
theorem vx_table {p : Program} {x y : MethodName} {S : Spec} {cc bytes : ByteArray} {maxL maxL' : Nat} {ret ret' : Option FieldType} {e : Env} {s s₁ : State} {m : MethodId} {args : Array Value} {below : List Frame} {meth : Method} {c : Code} {hh : List (Nat × Nat × Nat × Nat)}
    (B : BodyLoose p l y S cc maxL ret e s m args below meth c s₁) (h : (Cond.codeWith y bytes maxL' ret' hh).before args s = true) : c.exceptionTable.toList = tableOf hh := by
  obtain ⟨m9, meth9, c9, hn9, h1, h2, -, -, h6, -⟩ := Cond.codeWith_spec h
  cases Option.some.inj (hn9.symm.trans B.named)
  cases Option.some.inj (h1.symm.trans B.method)
  cases Option.some.inj (h2.symm.trans (Stand.of_body B).code)
  rw [← h6, table_eq]
end Bodies
end VXA
/-! ===== END ===== -/
/-! ===== BEGIN a static call of a method with an exception table ===== -/
section VXS
variable {p : Program} {l : Launch} {e : Env} {R : Room} {s : State} {m : MethodId} {args : Array Value} {below : List Frame} {meth : Method} {c : Code} {T : State} {H : Heap} {locs : List Loc} {cells slots : Nat}
abbrev vx_CSW (R : Room) (s : State) (args : Array Value) (own : String) (index : Nat) (y : MethodName) (bytes : ByteArray) (maxL : Nat) (ret : Option FieldType) (hh : List (Nat × Nat × Nat × Nat)) (ws : List Cond) (rm : Room) (mc ms n : Nat) : Prop :=
  (rm.cells = mc ∧ rm.slots = ms ∧ rm.frames + 1 ≤ R.frames ∧ 8 + (maxL + 11) + rm.locals ≤ R.locals ∧ (∀ w ∈ ws, ∀ (a' : Array Value) (U : State), s.WarmedH U.vm → w.before a' U = true) ∧ Cond.codeWith y bytes maxL ret hh ∈ ws) ∧
  (Cond.codeWith y bytes maxL ret hh).before args s = true ∧ (Cond.initialized y.cls).before args s = true ∧ (y.cls ≠ "java/lang/invoke/MethodHandle" ∧ y.cls ≠ "java/lang/invoke/VarHandle") ∧
  (∀ sig, parseMethodDescriptor y.desc = some sig → n = sig.parameters.length) ∧ (Cond.methodLink own index y).before args s = true ∧ (Cond.static y).before args s = true
theorem vx_cwSW {own : String} {index maxL mc ms : Nat} {y : MethodName} {bytes : ByteArray} {ret : Option FieldType} {hh : List (Nat × Nat × Nat × Nat)} {Ts ws ws' : List Cond} {rm : Room} (n : Nat) (ht : ∀ w ∈ Ts, w.before args s = true) (hT : GoodIn Ts (va_wsS own index y ws)) (hw : ws = Cond.codeWith y bytes maxL ret hh :: ws') (hrc : rm.cells = mc) (hrs : rm.slots = ms)
    (hd : y.cls ≠ "java/lang/invoke/MethodHandle" ∧ y.cls ≠ "java/lang/invoke/VarHandle" ∧ (parseMethodDescriptor y.desc).map (fun d => d.parameters.length) = some n) (hR : rm.frames + 1 ≤ R.frames ∧ 8 + (maxL + 11) + rm.locals ≤ R.locals) :
    vx_CSW R s args own index y bytes maxL ret hh ws rm mc ms n := by
  have ok : ∀ w ∈ va_wsS own index y ws, w.before args s = true := fun w h => ht w (hT w h).1
  have hG : GoodIn Ts ws := fun w h => hT w (by unfold va_wsS; exact List.mem_append_right _ h)
  have hc : Cond.codeWith y bytes maxL ret hh ∈ ws := by rw [hw]; exact List.mem_cons_self
  refine ⟨⟨hrc, hrs, hR.1, hR.2, pay_in ht hG, hc⟩, ht _ (hG _ hc).1, ok _ (by simp [va_wsS]), ⟨hd.1, hd.2.1⟩, fun sig h => ?_, ok _ (by simp [va_wsS]), ok _ (by simp [va_wsS])⟩
  have h2 := hd.2.2
  rw [h] at h2
  exact (Option.some.inj h2).symm
theorem vx_callSW (X : Stand p l e R s m args below meth c T locs cells slots) (hexec : p.tables.exec = Jvm.exec) {own : String} {index : Nat} {y : MethodName} {bytes : ByteArray} {maxL : Nat} {ret : Option FieldType} {hh : List (Nat × Nat × Nat × Nat)}
    (hown : s.vm.findClass own = some m.cls) (hlink : (Cond.methodLink own index y).before args s = true) (hstat : (Cond.static y).before args s = true) (hinit : (Cond.initialized y.cls).before args s = true)
    (hcode : (Cond.codeWith y bytes maxL ret hh).before args s = true) (hy : y.cls ≠ "java/lang/invoke/MethodHandle" ∧ y.cls ≠ "java/lang/invoke/VarHandle")
    {W9 : Nat} {Pre : Pt → Array Value → Prop} {Post : Pt → Array Value → Option Value → Pt → Prop} (hK : Back l R p e below s args y 3 W9 Pre Post)
    {g : JFrame} (hg : g.method = m) (hsize : g.locals.size = c.maxLocals) {argsL rest : List Value} (hlen : ∀ sig, parseMethodDescriptor y.desc = some sig → argsL.length = sig.parameters.length)
    (hstack : g.stack = argsL.reverse ++ rest) (hW : 2 * g.monitorRoom + (rest.map fun v => v.category).sum ≤ W9) (hdg : decode c.code g.pc = .ok (.invokestatic index, 3))
    (hpre : ∀ vm₁, s.WarmedH vm₁ → Pre ⟨T.setVm vm₁, locs, cells, slots⟩ argsL.toArray) :
    ∃ (v : Option Value) (vm₁ : Vm) (B : Pt), s.WarmedH vm₁ ∧ Stand p l e R s m args below meth c B.U B.locs B.cells B.slots ∧ Post ⟨T.setVm vm₁, locs, cells, slots⟩ argsL.toArray v B ∧
      ∀ target, Steps p.tables e below (B.U.setTop { g with pc := g.pc + 3, stack := v.toList ++ rest }) target → Steps p.tables e below (T.setTop g) target := by
  obtain ⟨mk, methM, cM, hnamed, hmethM, -, -, -, -, -, -, hsigM⟩ := Cond.codeWith_spec hcode
  have hstatic : methM.isStatic = true := Cond.static_spec hnamed hmethM hstat
  obtain ⟨kP, hkP, -⟩ := className_of_methodNamed hnamed
  have hinitP : kP.init = .initialized := Cond.initialized_spec (findClass_of_methodNamed hnamed) hkP hinit
  obtain ⟨vm₁, X₁, hstep₁⟩ := X.invokestatic hexec hown hlink hnamed hmethM hstatic hkP hinitP hy (g := g) hg (argsL := argsL) (rest := rest) (hlen _ hsigM) hstack hdg
  obtain ⟨v, B, X', hpost, hsteps⟩ := hK m meth c ⟨T.setVm vm₁, locs, cells, slots⟩ { g with stack := rest } (.invokestatic index) mk argsL.toArray X₁ hg hsize hdg hW (X₁.named hnamed) (hpre vm₁ X₁.warmed)
  exact ⟨v, vm₁, B, X₁.warmed, X', hpost, fun target h => hstep₁ _ fun acts => by rw [doInvoke_state]; exact hsteps.trans h⟩
theorem vx_runSW {y : MethodName} {bytes cc : ByteArray} {maxL nL mc ms n index : Nat} {ret : Option FieldType} {hh : List (Nat × Nat × Nat × Nat)} {ws : List Cond} {rm : Room} {Pc : Array Value → State → Prop} {Qc : Array Value → State → Outcome → State → Prop} {free : Addr → Prop} {Ts : List Cond} {own : String} {As rest : List Value} {g : JFrame}
    (S : CallFix p m c cc nL s args Ts own) (hM : Met l y ws rm Pc Qc mc ms free) (cw : vx_CSW R s args own index y bytes maxL ret hh ws rm mc ms n) (hp : PreS s H Pc As)
    (hg : g.method = m) (hn : As.length = n) (hsize : g.locals.size = nL) (hstack : g.stack = As.reverse ++ rest) (hW : 2 * g.monitorRoom + (rest.map fun v => v.category).sum ≤ 8) (hdg : decode cc g.pc = .ok (.invokestatic index, 3)) (hf : cells + mc ≤ R.cells ∧ slots + ms ≤ R.slots) :
    va_Run p l e R s m args below meth c H locs cells slots mc ms g rest (Qc As.toArray) (free) := by
  obtain ⟨⟨hrc, hrs, hfr, hlo, hws, hcw⟩, hcode, hini, hy, hlen, hl, hstt⟩ := cw
  have hK : Back l R p e below s args y 3 8 (PreOf R mc ms Pc) (PostOf Qc mc ms free) := va_backW (hh := hh) (bytes := bytes) (maxL := maxL) (ret := ret) hM hp.1 hrc hrs hfr hlo hws hcw (fun a' U hW => word_at hW (Or.inl (by first | rfl | simp [Cond.onTables, Cond.keeps, Cond.steady])) hini)
  obtain ⟨hx, hb, hml, ho, -⟩ := S
  intro T hT X
  obtain ⟨v, vm₁, ⟨U', l2, c2, s2⟩, hW₁, X', ⟨g', mk, t, L, e1, e2, hq, h1, hL, h2, h3⟩, st⟩ := vx_callSW X hx (hh := hh) (bytes := bytes) (maxL := maxL) (ret := ret) ho hl hstt hini hcode hy hK hg (hsize.trans hml.symm) (argsL := As) (rest := rest) (fun sig h => hn.trans (hlen sig h)) hstack hW (by rw [hb]; exact hdg)
    (fun vm₁ hW₁ => ⟨hf.1, hf.2, hp.2 (T.setVm vm₁) hT hW₁⟩)
  dsimp only [Pt.U, Pt.locs, Pt.cells, Pt.slots] at X' e1 e2 h1 h2 h3 st
  subst h1; subst h2; subst h3
  exact ⟨v, (T.setVm vm₁).calling g' mk As.toArray, t, U', L, hT, X', hL, e1, e2, hq, st⟩
/-- not caught here, past rows that name other classes: it goes on to the caller -/
theorem vx_outP {p : Program} {l : Launch} {e : Env} {R : Room} {s : State} {m : MethodId} {args : Array Value} {below : List Frame} {meth : Method} {c : Code} {H : Heap} {locs : List Loc} {cells slots : Nat} {free : Addr → Prop} {ls : Array Slot} {rest : List Value} {Qc : Array Value → State → Outcome → State → Prop} {XC : String → State → State → Prop}
    {pc : Nat} {own E : String} {ce : Cell} {q : Addr} {mc ms : Nat} (hown : s.vm.findClass own = some m.cls) (hlocks : meth.locks = false)
    (hpass : ∀ z ∈ c.exceptionTable.toList, covers z pc = false ∨ (z.catchType ≠ 0 ∧ ∃ nm : String, (Cond.classLink own z.catchType nm).before args s = true ∧ va_Nc E nm s)) (hcell : H[q]? = some ce) (hv : ce.vm = .none) (hcl : s.vm.findClass E = some ce.cls)
    (hx : ∀ t : State, t.heap = H → s.vm.Alike t.vm → XC E s t) (hf : ∀ z ∈ locs, free z.base) (hc : cells ≤ mc) (hs : slots ≤ ms) :
    vx_W p l e R s m args below meth c H locs cells slots (vx_MQ below Qc XC args s mc ms free) (F0 m pc ls rest) q := by
  intro T hT X
  have hpl : e.platform.magicAccessors = ({} : Platform).magicAccessors := by rw [X.admits.platform]
  obtain ⟨vm', hW', X', st⟩ := X.outThrough hlocks q (g := F0 m pc ls rest) rfl rfl rfl (cell := ce) (by rw [hT]; exact hcell) (by rw [hv]; rfl)
    (by obtain ⟨k9, h9, -⟩ := Vm.findClass_spec hcl; exact ⟨k9, h9⟩) (fun z hz => by
      rcases hpass z hz with h | ⟨hz0, nm, hl1, hn1⟩
      · exact Or.inl h
      · obtain ⟨c6, hc6, hcl6⟩ := Cond.classLink_spec hown hl1 e.platform hpl
        obtain ⟨a8, b8, h1, h2, h3⟩ := hn1
        cases Option.some.inj (h1.symm.trans hcl)
        cases Option.some.inj (h2.symm.trans hc6)
        exact Or.inr ⟨hz0, _, hcl6, h3⟩)
  obtain ⟨g₀, hfr⟩ := X'.frames_eq
  have hcell9 : ((T.setVm vm').setFrames (.throwing q :: below)).heap[q]? = some ce := by
    show T.heap[q]? = some ce
    rw [hT]; exact hcell
  have hend : Ended ((T.setVm vm').setFrames (.throwing q :: below)) below (.threw q) := State.frames_setFrames _ (State.cur_lt_of_frames hfr)
  refine ⟨(T.setVm vm').setFrames (.throwing q :: below), ?_, .threw q, X'.here.running, hend, Or.inr ⟨q, rfl, E, ce, locs, hx _ hT (X'.ends _).1.alike, hcell9, hv, hcl, (X'.ends _).1, (X'.ends _).2.mono hc hs, hf⟩⟩
  rw [X.pushThrowing_eq]
  exact st
/-- a thing of a world lies in the heap -/
theorem vx_lt {D : va_G} {cl : List vw_C} {ws : va_W} {H1 : Heap} (h : va_P D cl ws H1) {k : Nat} {q : Nat × va_E} (hk : ws[k]? = some q) : q.1 < H1.size := (h k q hk).lt
end VXS
/-! ===== END ===== -/
/-! ===== BEGIN methods with a table of their own: called by a name, returning or throwing ===== -/
section VXH
/-! vx_backW, vx_callVX, vx_callSX, vx_callVW, vx_runVW, vx_runVX, vx_runSX, vx_ofWH follow the same proofs as their sisters above (Free/Laws.lean, Shelf42/LK1.lean); vx_outP calls Shelf42/NT130.lean (outThrough). -/
section
variable {l : Launch} {R : Room} {p : Program} {e : Env} {below : List Frame} {s : State} {sargs : Array Value} {y : MethodName} {len W9 : Nat}
theorem vx_backW {ws : List Cond} {rm : Room} {Pc : Array Value → State → Prop} {Qc : Array Value → State → Outcome → State → Prop} {XC : String → State → State → Prop} {mc ms : Nat} {free : Addr → Prop} {bytes : ByteArray} {maxL : Nat} {ret : Option FieldType} {hh : List (Nat × Nat × Nat × Nat)}
    (hM : vx_Met l y ws rm Pc Qc XC mc ms free) (hblind : FrameBlind Pc) (hrc : rm.cells = mc) (hrs : rm.slots = ms)
    (hframes : rm.frames + 1 ≤ R.frames) (hlocals : W9 + (maxL + 11) + rm.locals ≤ R.locals)
    (hws : ∀ w ∈ ws, ∀ a' U, s.WarmedH U.vm → w.before a' U = true) (hcode : Cond.codeWith y bytes maxL ret hh ∈ ws) (hinit : ∀ a' U, s.WarmedH U.vm → (Cond.initialized y.cls).before a' U = true) :
    vx_Back l R p e below s sargs y len W9 (PreOf R mc ms Pc) (PostOf Qc mc ms free) (vx_Post XC mc ms free) := by
  intro m meth c A g ig mk a X hg hsize hdg hW hn hp
  have h1 : (headSpec ws rm).pre.before a A.U = true := atoms_intro fun w hw => hws w hw _ _ X.warmed
  have h2 : (Cond.codeWith y bytes maxL ret hh).before a A.U = true := hws _ hcode _ _ X.warmed
  have h3 : (Cond.initialized y.cls).before a A.U = true := hinit _ _ X.warmed
  have h4 : A.cells + (headSpec ws rm).room.cells ≤ R.cells := by rw [show (headSpec ws rm).room.cells = mc from hrc]; exact hp.1
  have h5 : A.slots + (headSpec ws rm).room.slots ≤ R.slots := by rw [show (headSpec ws rm).room.slots = ms from hrs]; exact hp.2.1
  have hPc : Pc a (A.U.calling g mk a) := hblind _ _ _ _ hp.2.2
  obtain ⟨U, Ls, c0, s0⟩ := A
  dsimp only [Pt.U, Pt.locs, Pt.cells, Pt.slots] at h1 h2 h3 h4 h5 X hn hPc ⊢
  obtain ⟨m9, methY, cY, hn9, hmY, hcY, -, hlY, -⟩ := Cond.codeWith_spec h2
  cases Option.some.inj (hn9.symm.trans hn)
  obtain ⟨kY, hkY, -⟩ := className_of_methodNamed hn
  have hinitY : kY.init = .initialized := Cond.initialized_spec (findClass_of_methodNamed hn) hkY h3
  have h : At U g.method c below := by rw [hg]; exact X.here
  have hlocals9 : W9 + (maxL + 11) + (headSpec ws rm).room.locals ≤ R.locals := hlocals
  have happ : (headSpec ws rm).appliesLoose y e.platform (U.calling g mk a) = true :=
    Spec.appliesLoose_calling (g := g) h hdg hn hkY hinitY
      (X.room_calling (g := g) (R' := (headSpec ws rm).room) hsize hmY hcY hframes (by rw [hlY]; omega) h4 h5) h1
  obtain ⟨mid, hmid⟩ := h.above
  have hfr : (U.setTop g).frames = (.java g :: mid) ++ below := by rw [State.frames_setTop' g h.top, hmid]; rfl
  obtain ⟨o, s₂, hsteps, -, hend, hq⟩ := Steps.callFree hM p X.admits X.cas X.clock (acts := []) hfr happ hPc trivial
  have hq' : vx_Q Qc XC mc ms free a (U.calling g mk a) o s₂ := hq
  rw [State.frames_setTop' g h.top] at hend
  obtain ⟨g₀, hg0⟩ := Option.isSome_iff_exists.mp h.top
  obtain ⟨r, hr⟩ := State.topJava?_eq_some.mp hg0
  have hr' : (({ U with heap := s₂.heap, slotsUsed := s₂.slotsUsed } : State).setVm s₂.vm).frames = .java g₀ :: r := hr
  rcases hq' with ⟨hqc, L, hfe, hL⟩ | ⟨q, rfl, E, ce, L, hx, hce, hcv, hcl, hW₂, hsm, hL⟩
  · obtain ⟨⟨v, rfl⟩, hW₂, e2, q2, q3, q4, q5, q6⟩ := id hfe
    have e3 : s₂ = ({ (U.calling g mk a).setFrames s₂.frames with heap := s₂.heap, slotsUsed := s₂.slotsUsed } : State).setVm s₂.vm := by
      have : s₂ = ({ s₂ with vm := (U.calling g mk a).vm } : State).setVm s₂.vm := rfl
      rw [e2] at this
      exact this
    obtain ⟨c₂, i₂, len₂, hc₂, hd₂, hf₂⟩ := hend
    have hW' : U.WarmedH s₂.vm := hW₂
    have hcc : c₂ = c := by
      have h1 : s₂.code? g.method = U.code? g.method := by
        rw [State.code?_eq, State.code?_eq, hW'.alike.method?]
      exact Option.some.inj (hc₂.symm.trans (h1.trans h.code))
    subst hcc
    have hlen : len₂ = len := by rw [hdg] at hd₂; cases hd₂; rfl
    subst hlen
    have hs₂ : s₂ = (({ U with heap := s₂.heap, slotsUsed := s₂.slotsUsed } : State).setVm s₂.vm).setTop { g with pc := g.pc + len₂, stack := v.toList ++ g.stack } := by
      refine e3.trans ?_
      rw [hf₂, State.calling_eq h.top, State.setFrames_setFrames, State.setTop_of_frames _ hr', hr]
      rfl
    have hsame : U.sameButNew ({ U with heap := s₂.heap, slotsUsed := s₂.slotsUsed } : State) L mc ms := by
      refine ⟨?_, q2, q3, q4, q5, q6⟩
      obtain ⟨t, ht, -⟩ := State.frames_cons hr
      show ({ U with heap := s₂.heap, slotsUsed := s₂.slotsUsed } : State) = { U.setFrames U.frames with heap := s₂.heap, slotsUsed := s₂.slotsUsed }
      rw [State.setFrames_self ht]
    subst hg
    refine Or.inl ⟨v, ⟨(({ U with heap := s₂.heap, slotsUsed := s₂.slotsUsed } : State).setVm s₂.vm), Ls ++ L, c0 + mc, s0 + ms⟩,
      ⟨X.admits, X.cas, X.clock, X.frames, X.room, X.hears, X.method, X.code, (X.here.setHeapUsed s₂.heap s₂.slotsUsed).setVm hW'.alike, X.tail, State.WarmedH.trans X.warmed hW', X.limits, X.bytes, X.same.trans (hsame.setVm s.vm)⟩,
      ⟨g, mk, s₂, L, rfl, rfl, hqc, rfl, hL, rfl, rfl⟩, ?_⟩
    show Steps p.tables e below _ ((({ U with heap := s₂.heap, slotsUsed := s₂.slotsUsed } : State).setVm s₂.vm).setTop { g with pc := g.pc + len₂, stack := v.toList ++ g.stack })
    rw [← hs₂]
    exact hsteps
  · obtain ⟨e2, q2, q3, q4, q5, q6⟩ := id hsm
    have e3 : s₂ = ({ (U.calling g mk a).setFrames s₂.frames with heap := s₂.heap, slotsUsed := s₂.slotsUsed } : State).setVm s₂.vm := by
      have : s₂ = ({ s₂ with vm := (U.calling g mk a).vm } : State).setVm s₂.vm := rfl
      rw [e2] at this
      exact this
    have hf₂ : s₂.frames = .throwing q :: .java g :: U.frames.tail := hend
    have hW' : U.WarmedH s₂.vm := hW₂
    have hs₂ : s₂ = ((({ U with heap := s₂.heap, slotsUsed := s₂.slotsUsed } : State).setVm s₂.vm).setTop g).pushFrame (.throwing q) := by
      refine e3.trans ?_
      rw [hf₂, State.calling_eq h.top, State.setFrames_setFrames, State.pushFrame, State.frames_setTop _ hr', State.setTop_of_frames _ hr', State.setFrames_setFrames, hr]
      rfl
    have hsame : U.sameButNew ({ U with heap := s₂.heap, slotsUsed := s₂.slotsUsed } : State) L mc ms := by
      refine ⟨?_, q2, q3, q4, q5, q6⟩
      obtain ⟨t, ht, -⟩ := State.frames_cons hr
      show ({ U with heap := s₂.heap, slotsUsed := s₂.slotsUsed } : State) = { U.setFrames U.frames with heap := s₂.heap, slotsUsed := s₂.slotsUsed }
      rw [State.setFrames_self ht]
    subst hg
    refine Or.inr ⟨q, ⟨(({ U with heap := s₂.heap, slotsUsed := s₂.slotsUsed } : State).setVm s₂.vm), Ls ++ L, c0 + mc, s0 + ms⟩,
      ⟨X.admits, X.cas, X.clock, X.frames, X.room, X.hears, X.method, X.code, (X.here.setHeapUsed s₂.heap s₂.slotsUsed).setVm hW'.alike, X.tail, State.WarmedH.trans X.warmed hW', X.limits, X.bytes, X.same.trans (hsame.setVm s.vm)⟩,
      ⟨g, mk, s₂, L, E, ce, rfl, rfl, hx, hce, hcv, hcl, rfl, hL, rfl, rfl⟩, ?_⟩
    show Steps p.tables e below _ (((({ U with heap := s₂.heap, slotsUsed := s₂.slotsUsed } : State).setVm s₂.vm).setTop g).pushFrame (.throwing q))
    rw [← hs₂]
    exact hsteps
end
variable {p : Program} {l : Launch} {e : Env} {R : Room} {s : State} {m : MethodId} {args : Array Value} {below : List Frame} {meth : Method} {c : Code} {T : State} {H : Heap} {locs : List Loc} {cells slots : Nat}
theorem vx_callVX (X : Stand p l e R s m args below meth c T locs cells slots) (hexec : p.tables.exec = Jvm.exec) {own C : String} {index : Nat} {y : MethodName} {bytes : ByteArray} {maxL : Nat} {ret : Option FieldType} {hh : List (Nat × Nat × Nat × Nat)}
    (hown : s.vm.findClass own = some m.cls) (hlink : (Cond.methodLink own index y).before args s = true) (hinst : (Cond.instanceMethod y).before args s = true) (hsel : (Cond.selects C y y).before args s = true)
    (hcode : (Cond.codeWith y bytes maxL ret hh).before args s = true) (hy : y.cls ≠ "java/lang/invoke/MethodHandle" ∧ y.cls ≠ "java/lang/invoke/VarHandle")
    {W9 : Nat} {Pre : Pt → Array Value → Prop} {Post : Pt → Array Value → Option Value → Pt → Prop} {PostX : Pt → Array Value → Addr → Pt → Prop} (hK : vx_Back l R p e below s args y 3 W9 Pre Post PostX)
    {b : Addr} {cellB : Cell} (hcell : T.heap[b]? = some cellB) (hobj : cellB.vm.isStatics = false) (hcls : s.vm.findClass C = some cellB.cls)
    {g : JFrame} (hg : g.method = m) (hsize : g.locals.size = c.maxLocals) {argsL rest : List Value} (hlen : ∀ sig, parseMethodDescriptor y.desc = some sig → argsL.length = sig.parameters.length)
    (hstack : g.stack = argsL.reverse ++ .ref b :: rest) (hW : 2 * g.monitorRoom + (rest.map fun v => v.category).sum ≤ W9) (hdg : decode c.code g.pc = .ok (.invokevirtual index, 3))
    (hpre : ∀ vm₁, s.WarmedH vm₁ → Pre ⟨T.setVm vm₁, locs, cells, slots⟩ (Value.ref b :: argsL).toArray) :
    (∃ (v : Option Value) (vm₁ : Vm) (B : Pt), s.WarmedH vm₁ ∧ Stand p l e R s m args below meth c B.U B.locs B.cells B.slots ∧ Post ⟨T.setVm vm₁, locs, cells, slots⟩ (Value.ref b :: argsL).toArray v B ∧
      ∀ target, Steps p.tables e below (B.U.setTop { g with pc := g.pc + 3, stack := v.toList ++ rest }) target → Steps p.tables e below (T.setTop g) target) ∨
    (∃ (q : Addr) (vm₁ : Vm) (B : Pt), s.WarmedH vm₁ ∧ Stand p l e R s m args below meth c B.U B.locs B.cells B.slots ∧ PostX ⟨T.setVm vm₁, locs, cells, slots⟩ (Value.ref b :: argsL).toArray q B ∧
      Steps p.tables e below (T.setTop g) ((B.U.setTop { g with stack := rest }).pushFrame (.throwing q))) := by
  obtain ⟨mk, methM, hnamed, hmethM, hstM, habM⟩ := Cond.instanceMethod_spec hinst
  obtain ⟨m8, methM', cM, hn8, hmethM', -, -, -, -, -, -, hsigM⟩ := Cond.codeWith_spec hcode
  cases Option.some.inj (hn8.symm.trans hnamed)
  cases hmethM.symm.trans hmethM'
  obtain ⟨c2, r2, m2, q1, q2, q3, q4, kP, hkP, hkPi⟩ := Cond.selects_spec hsel
  cases hcls.symm.trans q1
  cases (State.methodFound?_of_named hnamed hy).symm.trans q2
  cases hnamed.symm.trans q3
  have hselP : selectMethod e.platform s.vm cellB.cls mk = .method mk := by rw [Launch.admits_selectMethod X.admits]; exact q4
  obtain ⟨vm₁, X₁, hstep₁⟩ := X.invokevirtual hexec hown hlink hnamed hmethM hstM hkP hkPi hy (a := b) (cell := cellB) hcell
    (fun z h => by rw [h] at hobj; cases hobj) hselP hmethM habM hkP hkPi (g := g) hg (argsL := argsL) (rest := rest) (hlen _ hsigM) hstack hdg
  rcases hK m meth c ⟨T.setVm vm₁, locs, cells, slots⟩ { g with stack := rest } (.invokevirtual index) mk (Value.ref b :: argsL).toArray X₁ hg hsize hdg hW (X₁.named hnamed) (hpre vm₁ X₁.warmed) with ⟨v, B, X', hpost, hsteps⟩ | ⟨q, B, X', hpost, hsteps⟩
  · exact Or.inl ⟨v, vm₁, B, X₁.warmed, X', hpost, fun target h => hstep₁ _ fun acts => by rw [doInvoke_state]; exact hsteps.trans h⟩
  · exact Or.inr ⟨q, vm₁, B, X₁.warmed, X', hpost, hstep₁ _ fun acts => by rw [doInvoke_state]; exact hsteps⟩
theorem vx_callSX (X : Stand p l e R s m args below meth c T locs cells slots) (hexec : p.tables.exec = Jvm.exec) {own : String} {index : Nat} {y : MethodName} {bytes : ByteArray} {maxL : Nat} {ret : Option FieldType} {hh : List (Nat × Nat × Nat × Nat)}
    (hown : s.vm.findClass own = some m.cls) (hlink : (Cond.methodLink own index y).before args s = true) (hstat : (Cond.static y).before args s = true) (hinit : (Cond.initialized y.cls).before args s = true)
    (hcode : (Cond.codeWith y bytes maxL ret hh).before args s = true) (hy : y.cls ≠ "java/lang/invoke/MethodHandle" ∧ y.cls ≠ "java/lang/invoke/VarHandle")
    {W9 : Nat} {Pre : Pt → Array Value → Prop} {Post : Pt → Array Value → Option Value → Pt → Prop} {PostX : Pt → Array Value → Addr → Pt → Prop} (hK : vx_Back l R p e below s args y 3 W9 Pre Post PostX)
    {g : JFrame} (hg : g.method = m) (hsize : g.locals.size = c.maxLocals) {argsL rest : List Value} (hlen : ∀ sig, parseMethodDescriptor y.desc = some sig → argsL.length = sig.parameters.length)
    (hstack : g.stack = argsL.reverse ++ rest) (hW : 2 * g.monitorRoom + (rest.map fun v => v.category).sum ≤ W9) (hdg : decode c.code g.pc = .ok (.invokestatic index, 3))
    (hpre : ∀ vm₁, s.WarmedH vm₁ → Pre ⟨T.setVm vm₁, locs, cells, slots⟩ argsL.toArray) :
    (∃ (v : Option Value) (vm₁ : Vm) (B : Pt), s.WarmedH vm₁ ∧ Stand p l e R s m args below meth c B.U B.locs B.cells B.slots ∧ Post ⟨T.setVm vm₁, locs, cells, slots⟩ argsL.toArray v B ∧
      ∀ target, Steps p.tables e below (B.U.setTop { g with pc := g.pc + 3, stack := v.toList ++ rest }) target → Steps p.tables e below (T.setTop g) target) ∨
    (∃ (q : Addr) (vm₁ : Vm) (B : Pt), s.WarmedH vm₁ ∧ Stand p l e R s m args below meth c B.U B.locs B.cells B.slots ∧ PostX ⟨T.setVm vm₁, locs, cells, slots⟩ argsL.toArray q B ∧
      Steps p.tables e below (T.setTop g) ((B.U.setTop { g with stack := rest }).pushFrame (.throwing q))) := by
  obtain ⟨mk, methM, cM, hnamed, hmethM, -, -, -, -, -, -, hsigM⟩ := Cond.codeWith_spec hcode
  have hstatic : methM.isStatic = true := Cond.static_spec hnamed hmethM hstat
  obtain ⟨kP, hkP, -⟩ := className_of_methodNamed hnamed
  have hinitP : kP.init = .initialized := Cond.initialized_spec (findClass_of_methodNamed hnamed) hkP hinit
  obtain ⟨vm₁, X₁, hstep₁⟩ := X.invokestatic hexec hown hlink hnamed hmethM hstatic hkP hinitP hy (g := g) hg (argsL := argsL) (rest := rest) (hlen _ hsigM) hstack hdg
  rcases hK m meth c ⟨T.setVm vm₁, locs, cells, slots⟩ { g with stack := rest } (.invokestatic index) mk argsL.toArray X₁ hg hsize hdg hW (X₁.named hnamed) (hpre vm₁ X₁.warmed) with ⟨v, B, X', hpost, hsteps⟩ | ⟨q, B, X', hpost, hsteps⟩
  · exact Or.inl ⟨v, vm₁, B, X₁.warmed, X', hpost, fun target h => hstep₁ _ fun acts => by rw [doInvoke_state]; exact hsteps.trans h⟩
  · exact Or.inr ⟨q, vm₁, B, X₁.warmed, X', hpost, hstep₁ _ fun acts => by rw [doInvoke_state]; exact hsteps⟩
theorem vx_callVW (X : Stand p l e R s m args below meth c T locs cells slots) (hexec : p.tables.exec = Jvm.exec) {own C : String} {index : Nat} {y : MethodName} {bytes : ByteArray} {maxL : Nat} {ret : Option FieldType} {hh : List (Nat × Nat × Nat × Nat)}
    (hown : s.vm.findClass own = some m.cls) (hlink : (Cond.methodLink own index y).before args s = true) (hinst : (Cond.instanceMethod y).before args s = true) (hsel : (Cond.selects C y y).before args s = true)
    (hcode : (Cond.codeWith y bytes maxL ret hh).before args s = true) (hy : y.cls ≠ "java/lang/invoke/MethodHandle" ∧ y.cls ≠ "java/lang/invoke/VarHandle")
    {W9 : Nat} {Pre : Pt → Array Value → Prop} {Post : Pt → Array Value → Option Value → Pt → Prop} (hK : Back l R p e below s args y 3 W9 Pre Post)
    {b : Addr} {cellB : Cell} (hcell : T.heap[b]? = some cellB) (hobj : cellB.vm.isStatics = false) (hcls : s.vm.findClass C = some cellB.cls)
    {g : JFrame} (hg : g.method = m) (hsize : g.locals.size = c.maxLocals) {argsL rest : List Value} (hlen : ∀ sig, parseMethodDescriptor y.desc = some sig → argsL.length = sig.parameters.length)
    (hstack : g.stack = argsL.reverse ++ .ref b :: rest) (hW : 2 * g.monitorRoom + (rest.map fun v => v.category).sum ≤ W9) (hdg : decode c.code g.pc = .ok (.invokevirtual index, 3))
    (hpre : ∀ vm₁, s.WarmedH vm₁ → Pre ⟨T.setVm vm₁, locs, cells, slots⟩ (Value.ref b :: argsL).toArray) :
    ∃ (v : Option Value) (vm₁ : Vm) (B : Pt), s.WarmedH vm₁ ∧ Stand p l e R s m args below meth c B.U B.locs B.cells B.slots ∧ Post ⟨T.setVm vm₁, locs, cells, slots⟩ (Value.ref b :: argsL).toArray v B ∧
      ∀ target, Steps p.tables e below (B.U.setTop { g with pc := g.pc + 3, stack := v.toList ++ rest }) target → Steps p.tables e below (T.setTop g) target := by
  obtain ⟨mk, methM, hnamed, hmethM, hstM, habM⟩ := Cond.instanceMethod_spec hinst
  obtain ⟨m8, methM', cM, hn8, hmethM', -, -, -, -, -, -, hsigM⟩ := Cond.codeWith_spec hcode
  cases Option.some.inj (hn8.symm.trans hnamed)
  cases hmethM.symm.trans hmethM'
  obtain ⟨c2, r2, m2, q1, q2, q3, q4, kP, hkP, hkPi⟩ := Cond.selects_spec hsel
  cases hcls.symm.trans q1
  cases (State.methodFound?_of_named hnamed hy).symm.trans q2
  cases hnamed.symm.trans q3
  have hselP : selectMethod e.platform s.vm cellB.cls mk = .method mk := by rw [Launch.admits_selectMethod X.admits]; exact q4
  obtain ⟨vm₁, X₁, hstep₁⟩ := X.invokevirtual hexec hown hlink hnamed hmethM hstM hkP hkPi hy (a := b) (cell := cellB) hcell
    (fun z h => by rw [h] at hobj; cases hobj) hselP hmethM habM hkP hkPi (g := g) hg (argsL := argsL) (rest := rest) (hlen _ hsigM) hstack hdg
  obtain ⟨v, B, X', hpost, hsteps⟩ := hK m meth c ⟨T.setVm vm₁, locs, cells, slots⟩ { g with stack := rest } (.invokevirtual index) mk (Value.ref b :: argsL).toArray X₁ hg hsize hdg hW (X₁.named hnamed) (hpre vm₁ X₁.warmed)
  exact ⟨v, vm₁, B, X₁.warmed, X', hpost, fun target h => hstep₁ _ fun acts => by rw [doInvoke_state]; exact hsteps.trans h⟩
abbrev vx_CVW (R : Room) (s : State) (args : Array Value) (own C : String) (index : Nat) (y : MethodName) (bytes : ByteArray) (maxL : Nat) (ret : Option FieldType) (hh : List (Nat × Nat × Nat × Nat)) (ws : List Cond) (rm : Room) (mc ms n : Nat) : Prop :=
  (rm.cells = mc ∧ rm.slots = ms ∧ rm.frames + 1 ≤ R.frames ∧ 8 + (maxL + 11) + rm.locals ≤ R.locals ∧ (∀ w ∈ ws, ∀ (a' : Array Value) (U : State), s.WarmedH U.vm → w.before a' U = true) ∧ Cond.codeWith y bytes maxL ret hh ∈ ws) ∧
  (Cond.codeWith y bytes maxL ret hh).before args s = true ∧ (Cond.initialized y.cls).before args s = true ∧ (y.cls ≠ "java/lang/invoke/MethodHandle" ∧ y.cls ≠ "java/lang/invoke/VarHandle") ∧
  (∀ sig, parseMethodDescriptor y.desc = some sig → n = sig.parameters.length) ∧ (Cond.methodLink own index y).before args s = true ∧ (Cond.instanceMethod y).before args s = true ∧ (Cond.selects C y y).before args s = true
theorem vx_cwVW {own C : String} {index maxL mc ms : Nat} {y : MethodName} {bytes : ByteArray} {ret : Option FieldType} {hh : List (Nat × Nat × Nat × Nat)} {Ts ws ws' : List Cond} {rm : Room} (n : Nat) (ht : ∀ w ∈ Ts, w.before args s = true) (hT : GoodIn Ts (wsV own index C y ws)) (hw : ws = Cond.codeWith y bytes maxL ret hh :: ws') (hrc : rm.cells = mc) (hrs : rm.slots = ms)
    (hd : y.cls = C ∧ y.cls ≠ "java/lang/invoke/MethodHandle" ∧ y.cls ≠ "java/lang/invoke/VarHandle" ∧ (parseMethodDescriptor y.desc).map (fun d => d.parameters.length) = some n) (hR : rm.frames + 1 ≤ R.frames ∧ 8 + (maxL + 11) + rm.locals ≤ R.locals) :
    vx_CVW R s args own C index y bytes maxL ret hh ws rm mc ms n := by
  obtain ⟨hC, hd⟩ := hd
  subst hC
  have ok : ∀ w ∈ wsV own index y.cls y ws, w.before args s = true := fun w h => ht w (hT w h).1
  have hG : GoodIn Ts ws := fun w h => hT w (by unfold wsV; exact List.mem_append_right _ h)
  have hc : Cond.codeWith y bytes maxL ret hh ∈ ws := by rw [hw]; exact List.mem_cons_self
  refine ⟨⟨hrc, hrs, hR.1, hR.2, pay_in ht hG, hc⟩, ht _ (hG _ hc).1, ok _ (by simp [wsV]), ⟨hd.1, hd.2.1⟩, fun sig h => ?_, ok _ (by simp [wsV]), ok _ (by simp [wsV]), ok _ (by simp [wsV])⟩
  have h2 := hd.2.2
  rw [h] at h2
  exact (Option.some.inj h2).symm
theorem vx_runVW {y : MethodName} {bytes cc : ByteArray} {maxL nL mc ms n index : Nat} {ret : Option FieldType} {hh : List (Nat × Nat × Nat × Nat)} {ws : List Cond} {rm : Room} {Pc : Array Value → State → Prop} {Qc : Array Value → State → Outcome → State → Prop} {free : Addr → Prop} {Ts : List Cond} {own C : String} {b : Addr} {As rest : List Value} {g : JFrame}
    (S : CallFix p m c cc nL s args Ts own) (hM : Met l y ws rm Pc Qc mc ms free) (cw : vx_CVW R s args own C index y bytes maxL ret hh ws rm mc ms n) (hp : PreV s H C b Pc As)
    (hg : g.method = m) (hn : As.length = n) (hsize : g.locals.size = nL) (hstack : g.stack = As.reverse ++ .ref b :: rest) (hW : 2 * g.monitorRoom + (rest.map fun v => v.category).sum ≤ 8) (hdg : decode cc g.pc = .ok (.invokevirtual index, 3)) (hf : cells + mc ≤ R.cells ∧ slots + ms ≤ R.slots) :
    va_Run p l e R s m args below meth c H locs cells slots mc ms g rest (Qc (Value.ref b :: As).toArray) free := by
  obtain ⟨⟨hrc, hrs, hfr, hlo, hws, hcw⟩, hcode, hini, hy, hlen, hl, hin, hse⟩ := cw
  have hK : Back l R p e below s args y 3 8 (PreOf R mc ms Pc) (PostOf Qc mc ms free) := va_backW (hh := hh) (bytes := bytes) (maxL := maxL) (ret := ret) hM hp.1 hrc hrs hfr hlo hws hcw (fun a' U hW => word_at hW (Or.inl (by first | rfl | simp [Cond.onTables, Cond.keeps, Cond.steady])) hini)
  obtain ⟨hx, hb, hml, ho, -⟩ := S
  obtain ⟨-, ⟨cellB, hcB, hoB, hclB⟩, hPc⟩ := hp
  intro T hT X
  obtain ⟨v, vm₁, ⟨U', l2, c2, s2⟩, hW₁, X', ⟨g', mk, t, L, e1, e2, hq, h1, hL, h2, h3⟩, st⟩ := vx_callVW X hx (C := C) (hh := hh) (bytes := bytes) (maxL := maxL) (ret := ret) ho hl hin hse hcode hy hK (by rw [hT]; exact hcB) hoB hclB hg (hsize.trans hml.symm) (argsL := As) (rest := rest) (fun sig h => hn.trans (hlen sig h)) hstack hW (by rw [hb]; exact hdg)
    (fun vm₁ hW₁ => ⟨hf.1, hf.2, hPc (T.setVm vm₁) hT hW₁⟩)
  dsimp only [Pt.U, Pt.locs, Pt.cells, Pt.slots] at X' e1 e2 h1 h2 h3 st
  subst h1; subst h2; subst h3
  exact ⟨v, (T.setVm vm₁).calling g' mk (Value.ref b :: As).toArray, t, U', L, hT, X', hL, e1, e2, hq, st⟩
section
variable {y : MethodName} {bytes cc : ByteArray} {maxL nL mc ms n index : Nat} {ret : Option FieldType} {ws : List Cond} {rm : Room} {Pc : Array Value → State → Prop} {Qc : Array Value → State → Outcome → State → Prop} {XC : String → State → State → Prop} {free : Addr → Prop} {Ts : List Cond} {own C : String} {b : Addr} {As rest : List Value} {g : JFrame}
theorem vx_runVX {hh : List (Nat × Nat × Nat × Nat)} (S : CallFix p m c cc nL s args Ts own) (hM : vx_Met l y ws rm Pc Qc XC mc ms free) (cw : vx_CVW R s args own C index y bytes maxL ret hh ws rm mc ms n) (hp : PreV s H C b Pc As)
    (hg : g.method = m) (hn : As.length = n) (hsize : g.locals.size = nL) (hstack : g.stack = As.reverse ++ .ref b :: rest) (hW : 2 * g.monitorRoom + (rest.map fun v => v.category).sum ≤ 8) (hdg : decode cc g.pc = .ok (.invokevirtual index, 3)) (hf : cells + mc ≤ R.cells ∧ slots + ms ≤ R.slots) :
    vx_Run p l e R s m args below meth c H locs cells slots mc ms g rest (Qc (Value.ref b :: As).toArray) XC free := by
  obtain ⟨⟨hrc, hrs, hfr, hlo, hws, hcw⟩, hcode, hini, hy, hlen, hl, hin, hse⟩ := cw
  have hK : vx_Back l R p e below s args y 3 8 (PreOf R mc ms Pc) (PostOf Qc mc ms free) (vx_Post XC mc ms free) := vx_backW (hh := hh) (bytes := bytes) (maxL := maxL) (ret := ret) hM hp.1 hrc hrs hfr hlo hws hcw (fun a' U hW => word_at hW (Or.inl (by first | rfl | simp [Cond.onTables, Cond.keeps, Cond.steady])) hini)
  obtain ⟨hx, hb, hml, ho, -⟩ := S
  obtain ⟨-, ⟨cellB, hcB, hoB, hclB⟩, hPc⟩ := hp
  intro T hT X
  rcases vx_callVX X hx (C := C) (hh := hh) (bytes := bytes) (maxL := maxL) (ret := ret) ho hl hin hse hcode hy hK (by rw [hT]; exact hcB) hoB hclB hg (hsize.trans hml.symm) (argsL := As) (rest := rest) (fun sig h => hn.trans (hlen sig h)) hstack hW (by rw [hb]; exact hdg)
    (fun vm₁ hW₁ => ⟨hf.1, hf.2, hPc (T.setVm vm₁) hT hW₁⟩) with ⟨v, vm₁, ⟨U', l2, c2, s2⟩, hW₁, X', ⟨g', mk, t, L, e1, e2, hq, h1, hL, h2, h3⟩, st⟩ | ⟨q, vm₁, ⟨U', l2, c2, s2⟩, hW₁, X', ⟨g', mk, t, L, E, ce, e1, e2, hq, hce, hcv, hcl, h1, hL, h2, h3⟩, st⟩
  · dsimp only [Pt.U, Pt.locs, Pt.cells, Pt.slots] at X' e1 e2 h1 h2 h3 st
    subst h1; subst h2; subst h3
    exact Or.inl ⟨v, (T.setVm vm₁).calling g' mk (Value.ref b :: As).toArray, t, U', L, hT, X', hL, e1, e2, hq, st⟩
  · dsimp only [Pt.U, Pt.locs, Pt.cells, Pt.slots] at X' e1 e2 h1 h2 h3 st hcl
    subst h1; subst h2; subst h3
    exact Or.inr ⟨q, (T.setVm vm₁).calling g' mk (Value.ref b :: As).toArray, t, U', L, E, ce, hT, X', hL, e1, e2, hq, hce, hcv, vx_cls hW₁ hcl, st⟩
theorem vx_runSX {hh : List (Nat × Nat × Nat × Nat)} (S : CallFix p m c cc nL s args Ts own) (hM : vx_Met l y ws rm Pc Qc XC mc ms free) (cw : vx_CSW R s args own index y bytes maxL ret hh ws rm mc ms n) (hp : PreS s H Pc As)
    (hg : g.method = m) (hn : As.length = n) (hsize : g.locals.size = nL) (hstack : g.stack = As.reverse ++ rest) (hW : 2 * g.monitorRoom + (rest.map fun v => v.category).sum ≤ 8) (hdg : decode cc g.pc = .ok (.invokestatic index, 3)) (hf : cells + mc ≤ R.cells ∧ slots + ms ≤ R.slots) :
    vx_Run p l e R s m args below meth c H locs cells slots mc ms g rest (Qc As.toArray) XC free := by
  obtain ⟨⟨hrc, hrs, hfr, hlo, hws, hcw⟩, hcode, hini, hy, hlen, hl, hstt⟩ := cw
  have hK : vx_Back l R p e below s args y 3 8 (PreOf R mc ms Pc) (PostOf Qc mc ms free) (vx_Post XC mc ms free) := vx_backW (hh := hh) (bytes := bytes) (maxL := maxL) (ret := ret) hM hp.1 hrc hrs hfr hlo hws hcw (fun a' U hW => word_at hW (Or.inl (by first | rfl | simp [Cond.onTables, Cond.keeps, Cond.steady])) hini)
  obtain ⟨hx, hb, hml, ho, -⟩ := S
  intro T hT X
  rcases vx_callSX X hx (hh := hh) (bytes := bytes) (maxL := maxL) (ret := ret) ho hl hstt hini hcode hy hK hg (hsize.trans hml.symm) (argsL := As) (rest := rest) (fun sig h => hn.trans (hlen sig h)) hstack hW (by rw [hb]; exact hdg)
    (fun vm₁ hW₁ => ⟨hf.1, hf.2, hp.2 (T.setVm vm₁) hT hW₁⟩) with ⟨v, vm₁, ⟨U', l2, c2, s2⟩, hW₁, X', ⟨g', mk, t, L, e1, e2, hq, h1, hL, h2, h3⟩, st⟩ | ⟨q, vm₁, ⟨U', l2, c2, s2⟩, hW₁, X', ⟨g', mk, t, L, E, ce, e1, e2, hq, hce, hcv, hcl, h1, hL, h2, h3⟩, st⟩
  · dsimp only [Pt.U, Pt.locs, Pt.cells, Pt.slots] at X' e1 e2 h1 h2 h3 st
    subst h1; subst h2; subst h3
    exact Or.inl ⟨v, (T.setVm vm₁).calling g' mk As.toArray, t, U', L, hT, X', hL, e1, e2, hq, st⟩
  · dsimp only [Pt.U, Pt.locs, Pt.cells, Pt.slots] at X' e1 e2 h1 h2 h3 st hcl
    subst h1; subst h2; subst h3
    exact Or.inr ⟨q, (T.setVm vm₁).calling g' mk As.toArray, t, U', L, E, ce, hT, X', hL, e1, e2, hq, hce, hcv, vx_cls hW₁ hcl, st⟩
end
end VXH
theorem vx_ofWH {l : Launch} {y : MethodName} {ws ws' : List Cond} {rm : Room} {Pc : Array Value → State → Prop} {Qc : Array Value → State → Outcome → State → Prop} {XC : String → State → State → Prop} {mc ms : Nat} {free : Addr → Prop} {cc : ByteArray} {maxL : Nat} {ret : Option FieldType} {hh : List (Nat × Nat × Nat × Nat)}
    (hy : plainName y.cls = true) (hw : ws = Cond.codeWith y cc maxL ret hh :: ws')
    (body : ∀ p e s m args below meth c s₁, BodyLoose p l y (headSpec ws rm) cc maxL ret e s m args below meth c s₁ → c.maxLocals = maxL → Pc args s →
      W p l e (headSpec ws rm).room s m args below meth c s.heap [] 0 0 (vx_MQ below Qc XC args s mc ms free) (entryFrame m args maxL)) : vx_Met l y ws rm Pc Qc XC mc ms free := by
  refine MetFree.of_bodyS (code := cc) (maxLocals := maxL) (ret := ret) hy ?_ ?_
  · intro args s m h hn
    obtain ⟨m9, meth, c, hn9, h1, h2, h3, h4, -, h5, h6, -⟩ := Cond.codeWith_spec (atoms_spec (ws := ws) h _ (by rw [hw]; exact List.mem_cons_self))
    cases hn.symm.trans hn9
    exact ⟨meth, c, h1, h2, h3, h4, h5, h6⟩
  · intro p e s m args below meth c s₁ B hml hP _
    have hh0 : s₁.heap = s.heap := by rw [B.state]; rfl
    obtain ⟨t, a1, o, b1, b2, b3⟩ := body p e s m args below meth c s₁ B hml hP s₁ hh0 (Stand.of_body B)
    exact ⟨t, o, a1, b1, b2, b3⟩
/-! ===== END ===== -/

def RX0 : String := "LinkElection$Data"
def TX0 : u_T := fun k => match k with
  | 0 => ("LinkElection$Data", "rows", "[LLinkElection$Library;", true)
  | 1 => ("LinkElection$Data", "libraryCount", "I", false)
  | 2 => ("LinkElection$Data", "nameCount", "I", false)
  | 3 => ("LinkElection$Data", "share", "I", false)
  | _ => ("LinkElection$Data", "weight", "LLinkElection$Weight;", false)
def tyX0 : Nat → FieldType := fun k => match k with
  | 0 => .array (.object "LinkElection$Library")
  | 1 => .int
  | 2 => .int
  | 3 => .int
  | _ => .object "LinkElection$Weight"
abbrev wsX00 : List Cond := u_ws RX0 TX0 5
theorem nmX0 : ∀ a, a < 5 → ∀ b, b < 5 → a ≠ b → (TX0 a).2.1 ≠ (TX0 b).2.1 := by decide +kernel
theorem tyX0_ok : ∀ k, k < 5 → parseFieldDescriptor (TX0 k).2.2.1 = some (tyX0 k) := by decide +kernel
abbrev cX0_init : ByteArray := prog_2_method_1_code
def yX0_init : MethodName := ⟨RX0, "<init>", "()V"⟩
abbrev cX0_clear : ByteArray := prog_2_method_2_code
def yX0_clear : MethodName := ⟨RX0, "clear", "()V"⟩
abbrev cX0_copyFrom : ByteArray := prog_2_method_3_code
def yX0_copyFrom : MethodName := ⟨RX0, "copyFrom", "(LLinkElection$Data;)V"⟩
abbrev cX0_isCandidate : ByteArray := prog_2_method_4_code
def yX0_isCandidate : MethodName := ⟨RX0, "isCandidate", "(II)Z"⟩
abbrev cX0_takeOut : ByteArray := prog_2_method_5_code
def yX0_takeOut : MethodName := ⟨RX0, "takeOut", "(I)V"⟩
abbrev cX0_takeIn : ByteArray := prog_2_method_6_code
def yX0_takeIn : MethodName := ⟨RX0, "takeIn", "(I)V"⟩
abbrev cX0_friendsOf : ByteArray := prog_2_method_7_code
def yX0_friendsOf : MethodName := ⟨RX0, "friendsOf", "(I)I"⟩
abbrev cX0_weightOf : ByteArray := prog_2_method_8_code
def yX0_weightOf : MethodName := ⟨RX0, "weightOf", "(I)I"⟩
def RX1 : String := "LinkElection$Election"
def TX1 : u_T := fun k => match k with
  | 0 => ("LinkElection$Election", "weights", "[I", true)
  | 1 => ("LinkElection$Election", "candidateCounts", "[I", true)
  | 2 => ("LinkElection$Election", "winners", "[I", true)
  | 3 => ("LinkElection$Election", "margins", "[I", true)
  | 4 => ("LinkElection$Election", "votes", "[I", true)
  | 5 => ("LinkElection$Election", "supports", "[I", true)
  | _ => ("LinkElection$Election", "bindings", "[I", true)
def tyX1 : Nat → FieldType := fun k => match k with
  | 0 => .array .int
  | 1 => .array .int
  | 2 => .array .int
  | 3 => .array .int
  | 4 => .array .int
  | 5 => .array .int
  | _ => .array .int
abbrev wsX10 : List Cond := u_ws RX1 TX1 7
theorem nmX1 : ∀ a, a < 7 → ∀ b, b < 7 → a ≠ b → (TX1 a).2.1 ≠ (TX1 b).2.1 := by decide +kernel
theorem tyX1_ok : ∀ k, k < 7 → parseFieldDescriptor (TX1 k).2.2.1 = some (tyX1 k) := by decide +kernel
abbrev cX1_init : ByteArray := prog_3_method_1_code
def yX1_init : MethodName := ⟨RX1, "<init>", "()V"⟩
abbrev cX1_count : ByteArray := prog_3_method_2_code
def yX1_count : MethodName := ⟨RX1, "count", "(LLinkElection$Data;)V"⟩
abbrev cX1_countCandidates : ByteArray := prog_3_method_3_code
def yX1_countCandidates : MethodName := ⟨RX1, "countCandidates", "(LLinkElection$Data;I)V"⟩
abbrev cX1_countVotes : ByteArray := prog_3_method_4_code
def yX1_countVotes : MethodName := ⟨RX1, "countVotes", "(LLinkElection$Data;I)V"⟩
abbrev cX1_choiceOf : ByteArray := prog_3_method_5_code
def yX1_choiceOf : MethodName := ⟨RX1, "choiceOf", "(LLinkElection$Data;II)I"⟩
abbrev cX1_countWinner : ByteArray := prog_3_method_6_code
def yX1_countWinner : MethodName := ⟨RX1, "countWinner", "(LLinkElection$Data;I)V"⟩
abbrev cX1_isAhead : ByteArray := prog_3_method_7_code
def yX1_isAhead : MethodName := ⟨RX1, "isAhead", "(LLinkElection$Data;III)Z"⟩
abbrev cX1_countMargin : ByteArray := prog_3_method_8_code
def yX1_countMargin : MethodName := ⟨RX1, "countMargin", "(LLinkElection$Data;I)V"⟩
abbrev cX1_countBindings : ByteArray := prog_3_method_9_code
def yX1_countBindings : MethodName := ⟨RX1, "countBindings", "(LLinkElection$Data;I)V"⟩
abbrev cX1_isLargeEnough : ByteArray := prog_3_method_10_code
def yX1_isLargeEnough : MethodName := ⟨RX1, "isLargeEnough", "(IIII)Z"⟩
def RX2 : String := "LinkElection$History"
def TX2 : u_T := fun k => match k with
  | 0 => ("LinkElection$History", "kept", "[LLinkElection$Data;", true)
  | 1 => ("LinkElection$History", "next", "I", false)
  | _ => ("LinkElection$History", "size", "I", false)
def tyX2 : Nat → FieldType := fun k => match k with
  | 0 => .array (.object "LinkElection$Data")
  | 1 => .int
  | _ => .int
abbrev wsX20 : List Cond := u_ws RX2 TX2 3
theorem nmX2 : ∀ a, a < 3 → ∀ b, b < 3 → a ≠ b → (TX2 a).2.1 ≠ (TX2 b).2.1 := by decide +kernel
theorem tyX2_ok : ∀ k, k < 3 → parseFieldDescriptor (TX2 k).2.2.1 = some (tyX2 k) := by decide +kernel
abbrev cX2_init : ByteArray := prog_4_method_1_code
def yX2_init : MethodName := ⟨RX2, "<init>", "()V"⟩
abbrev cX2_keep : ByteArray := prog_4_method_2_code
def yX2_keep : MethodName := ⟨RX2, "keep", "(LLinkElection$Data;)V"⟩
abbrev cX2_bringBack : ByteArray := prog_4_method_3_code
def yX2_bringBack : MethodName := ⟨RX2, "bringBack", "(LLinkElection$Data;)Z"⟩
def RX3 : String := "LinkElection$Library"
def TX3 : u_T := fun k => match k with
  | 0 => ("LinkElection$Library", "trust", "I", false)
  | 1 => ("LinkElection$Library", "keeps", "Z", false)
  | 2 => ("LinkElection$Library", "rank", "I", false)
  | 3 => ("LinkElection$Library", "offers", "[I", true)
  | 4 => ("LinkElection$Library", "preferences", "[I", true)
  | _ => ("LinkElection$Library", "preferenceCount", "I", false)
def tyX3 : Nat → FieldType := fun k => match k with
  | 0 => .int
  | 1 => .boolean
  | 2 => .int
  | 3 => .array .int
  | 4 => .array .int
  | _ => .int
abbrev wsX30 : List Cond := u_ws RX3 TX3 6
theorem nmX3 : ∀ a, a < 6 → ∀ b, b < 6 → a ≠ b → (TX3 a).2.1 ≠ (TX3 b).2.1 := by decide +kernel
theorem tyX3_ok : ∀ k, k < 6 → parseFieldDescriptor (TX3 k).2.2.1 = some (tyX3 k) := by decide +kernel
abbrev cX3_init : ByteArray := prog_5_method_1_code
def yX3_init : MethodName := ⟨RX3, "<init>", "()V"⟩
abbrev cX3_startAs : ByteArray := prog_5_method_2_code
def yX3_startAs : MethodName := ⟨RX3, "startAs", "(II)V"⟩
abbrev cX3_copyFrom : ByteArray := prog_5_method_3_code
def yX3_copyFrom : MethodName := ⟨RX3, "copyFrom", "(LLinkElection$Library;)V"⟩
abbrev cX3_isLoaded : ByteArray := prog_5_method_4_code
def yX3_isLoaded : MethodName := ⟨RX3, "isLoaded", "()Z"⟩
abbrev cX3_hasOffer : ByteArray := prog_5_method_5_code
def yX3_hasOffer : MethodName := ⟨RX3, "hasOffer", "(I)Z"⟩
abbrev cX3_countOffers : ByteArray := prog_5_method_6_code
def yX3_countOffers : MethodName := ⟨RX3, "countOffers", "()I"⟩
abbrev cX3_prefers : ByteArray := prog_5_method_7_code
def yX3_prefers : MethodName := ⟨RX3, "prefers", "(I)Z"⟩
abbrev cX3_addPreference : ByteArray := prog_5_method_8_code
def yX3_addPreference : MethodName := ⟨RX3, "addPreference", "(I)V"⟩
def RX4 : String := "LinkElection$Route"
def TX4 : u_T := fun k => match k with
  | 0 => ("LinkElection$Route", "visited", "[I", true)
  | 1 => ("LinkElection$Route", "result", "I", false)
  | _ => ("LinkElection$Route", "length", "I", false)
def tyX4 : Nat → FieldType := fun k => match k with
  | 0 => .array .int
  | 1 => .int
  | _ => .int
abbrev wsX40 : List Cond := u_ws RX4 TX4 3
theorem nmX4 : ∀ a, a < 3 → ∀ b, b < 3 → a ≠ b → (TX4 a).2.1 ≠ (TX4 b).2.1 := by decide +kernel
theorem tyX4_ok : ∀ k, k < 3 → parseFieldDescriptor (TX4 k).2.2.1 = some (tyX4 k) := by decide +kernel
abbrev cX4_init : ByteArray := prog_6_method_1_code
def yX4_init : MethodName := ⟨RX4, "<init>", "()V"⟩
abbrev cX4_follow : ByteArray := prog_6_method_2_code
def yX4_follow : MethodName := ⟨RX4, "follow", "(LLinkElection$Data;LLinkElection$Election;II)V"⟩
def RX5 : String := "LinkElection$SetupReader"
def TX5 : u_T := fun k => match k with
  | 0 => ("LinkElection$SetupReader", "tokens", "LLinkElection$Tokens;", true)
  | 1 => ("LinkElection$SetupReader", "draft", "LLinkElection$Data;", true)
  | 2 => ("LinkElection$SetupReader", "libraryWords", "[J", true)
  | 3 => ("LinkElection$SetupReader", "nameWords", "[J", true)
  | 4 => ("LinkElection$SetupReader", "code", "[I", true)
  | 5 => ("LinkElection$SetupReader", "codeLength", "I", false)
  | 6 => ("LinkElection$SetupReader", "shareTold", "Z", false)
  | 7 => ("LinkElection$SetupReader", "weightTold", "Z", false)
  | 8 => ("LinkElection$SetupReader", "found", "I", false)
  | 9 => ("LinkElection$SetupReader", "errorCode", "I", false)
  | _ => ("LinkElection$SetupReader", "errorPlace", "I", false)
def tyX5 : Nat → FieldType := fun k => match k with
  | 0 => .object "LinkElection$Tokens"
  | 1 => .object "LinkElection$Data"
  | 2 => .array .long
  | 3 => .array .long
  | 4 => .array .int
  | 5 => .int
  | 6 => .boolean
  | 7 => .boolean
  | 8 => .int
  | 9 => .int
  | _ => .int
abbrev wsX50 : List Cond := u_ws RX5 TX5 11
theorem nmX5 : ∀ a, a < 11 → ∀ b, b < 11 → a ≠ b → (TX5 a).2.1 ≠ (TX5 b).2.1 := by decide +kernel
theorem tyX5_ok : ∀ k, k < 11 → parseFieldDescriptor (TX5 k).2.2.1 = some (tyX5 k) := by decide +kernel
abbrev cX5_init : ByteArray := prog_7_method_1_code
def yX5_init : MethodName := ⟨RX5, "<init>", "()V"⟩
abbrev cX5_readText : ByteArray := prog_7_method_2_code
def yX5_readText : MethodName := ⟨RX5, "readText", "([BI)Z"⟩
abbrev cX5_readStatement : ByteArray := prog_7_method_3_code
def yX5_readStatement : MethodName := ⟨RX5, "readStatement", "()Z"⟩
abbrev cX5_readNewName : ByteArray := prog_7_method_4_code
def yX5_readNewName : MethodName := ⟨RX5, "readNewName", "()Z"⟩
abbrev cX5_readNewLibrary : ByteArray := prog_7_method_5_code
def yX5_readNewLibrary : MethodName := ⟨RX5, "readNewLibrary", "()Z"⟩
abbrev cX5_readOffer : ByteArray := prog_7_method_6_code
def yX5_readOffer : MethodName := ⟨RX5, "readOffer", "()Z"⟩
abbrev cX5_readPrefer : ByteArray := prog_7_method_7_code
def yX5_readPrefer : MethodName := ⟨RX5, "readPrefer", "()Z"⟩
abbrev cX5_readShare : ByteArray := prog_7_method_8_code
def yX5_readShare : MethodName := ⟨RX5, "readShare", "()Z"⟩
abbrev cX5_readWeight : ByteArray := prog_7_method_9_code
def yX5_readWeight : MethodName := ⟨RX5, "readWeight", "()Z"⟩
abbrev cX5_readSum : ByteArray := prog_7_method_10_code
def yX5_readSum : MethodName := ⟨RX5, "readSum", "(I)Z"⟩
abbrev cX5_readTerm : ByteArray := prog_7_method_11_code
def yX5_readTerm : MethodName := ⟨RX5, "readTerm", "(I)Z"⟩
abbrev cX5_readFactor : ByteArray := prog_7_method_12_code
def yX5_readFactor : MethodName := ⟨RX5, "readFactor", "(I)Z"⟩
abbrev cX5_quantityCode : ByteArray := prog_7_method_13_code
def yX5_quantityCode : MethodName := ⟨RX5, "quantityCode", "()I"⟩
abbrev cX5_addCode : ByteArray := prog_7_method_14_code
def yX5_addCode : MethodName := ⟨RX5, "addCode", "(I)V"⟩
abbrev cX5_readKeyword : ByteArray := prog_7_method_15_code
def yX5_readKeyword : MethodName := ⟨RX5, "readKeyword", "(Ljava/lang/String;)Z"⟩
abbrev cX5_readSign : ByteArray := prog_7_method_16_code
def yX5_readSign : MethodName := ⟨RX5, "readSign", "(C)Z"⟩
abbrev cX5_readNumber : ByteArray := prog_7_method_17_code
def yX5_readNumber : MethodName := ⟨RX5, "readNumber", "(I)Z"⟩
abbrev cX5_readNewWord : ByteArray := prog_7_method_18_code
def yX5_readNewWord : MethodName := ⟨RX5, "readNewWord", "([JI)Z"⟩
abbrev cX5_findLibrary : ByteArray := prog_7_method_19_code
def yX5_findLibrary : MethodName := ⟨RX5, "findLibrary", "()Z"⟩
abbrev cX5_findName : ByteArray := prog_7_method_20_code
def yX5_findName : MethodName := ⟨RX5, "findName", "()Z"⟩
abbrev cX5_findWord : ByteArray := prog_7_method_21_code
def yX5_findWord : MethodName := ⟨RX5, "findWord", "([JI)Z"⟩
abbrev cX5_indexOfWord : ByteArray := prog_7_method_22_code
def yX5_indexOfWord : MethodName := ⟨RX5, "indexOfWord", "([JI)I"⟩
abbrev cX5_syntaxError : ByteArray := prog_7_method_23_code
def yX5_syntaxError : MethodName := ⟨RX5, "syntaxError", "()Z"⟩
abbrev cX5_error : ByteArray := prog_7_method_24_code
def yX5_error : MethodName := ⟨RX5, "error", "(I)Z"⟩
def RX6 : String := "LinkElection$Tokens"
def TX6 : u_T := fun k => match k with
  | 0 => ("LinkElection$Tokens", "text", "[B", true)
  | 1 => ("LinkElection$Tokens", "length", "I", false)
  | 2 => ("LinkElection$Tokens", "position", "I", false)
  | 3 => ("LinkElection$Tokens", "kind", "I", false)
  | 4 => ("LinkElection$Tokens", "start", "I", false)
  | 5 => ("LinkElection$Tokens", "word", "J", false)
  | 6 => ("LinkElection$Tokens", "number", "I", false)
  | _ => ("LinkElection$Tokens", "sign", "I", false)
def tyX6 : Nat → FieldType := fun k => match k with
  | 0 => .array .byte
  | 1 => .int
  | 2 => .int
  | 3 => .int
  | 4 => .int
  | 5 => .long
  | 6 => .int
  | _ => .int
abbrev wsX60 : List Cond := u_ws RX6 TX6 8
theorem nmX6 : ∀ a, a < 8 → ∀ b, b < 8 → a ≠ b → (TX6 a).2.1 ≠ (TX6 b).2.1 := by decide +kernel
theorem tyX6_ok : ∀ k, k < 8 → parseFieldDescriptor (TX6 k).2.2.1 = some (tyX6 k) := by decide +kernel
abbrev cX6_init : ByteArray := prog_8_method_1_code
def yX6_init : MethodName := ⟨RX6, "<init>", "()V"⟩
abbrev cX6_startText : ByteArray := prog_8_method_2_code
def yX6_startText : MethodName := ⟨RX6, "startText", "([BI)V"⟩
abbrev cX6_advance : ByteArray := prog_8_method_3_code
def yX6_advance : MethodName := ⟨RX6, "advance", "()V"⟩
abbrev cX6_takeWord : ByteArray := prog_8_method_4_code
def yX6_takeWord : MethodName := ⟨RX6, "takeWord", "()V"⟩
abbrev cX6_takeNumber : ByteArray := prog_8_method_5_code
def yX6_takeNumber : MethodName := ⟨RX6, "takeNumber", "()V"⟩
abbrev cX6_isLetterAt : ByteArray := prog_8_method_6_code
def yX6_isLetterAt : MethodName := ⟨RX6, "isLetterAt", "(I)Z"⟩
abbrev cX6_isDigitAt : ByteArray := prog_8_method_7_code
def yX6_isDigitAt : MethodName := ⟨RX6, "isDigitAt", "(I)Z"⟩
abbrev cX6_isSign : ByteArray := prog_8_method_8_code
def yX6_isSign : MethodName := ⟨RX6, "isSign", "(C)Z"⟩
abbrev cX6_isWord : ByteArray := prog_8_method_9_code
def yX6_isWord : MethodName := ⟨RX6, "isWord", "(Ljava/lang/String;)Z"⟩
abbrev cX6_packed : ByteArray := prog_8_method_10_code
def yX6_packed : MethodName := ⟨RX6, "packed", "(Ljava/lang/String;)J"⟩
def RX7 : String := "LinkElection$Weight"
def TX7 : u_T := fun k => match k with
  | 0 => ("LinkElection$Weight", "code", "[I", true)
  | _ => ("LinkElection$Weight", "stack", "[I", true)
def tyX7 : Nat → FieldType := fun k => match k with
  | 0 => .array .int
  | _ => .array .int
abbrev wsX70 : List Cond := u_ws RX7 TX7 2
theorem nmX7 : ∀ a, a < 2 → ∀ b, b < 2 → a ≠ b → (TX7 a).2.1 ≠ (TX7 b).2.1 := by decide +kernel
theorem tyX7_ok : ∀ k, k < 2 → parseFieldDescriptor (TX7 k).2.2.1 = some (tyX7 k) := by decide +kernel
abbrev cX7_init : ByteArray := prog_9_method_1_code
def yX7_init : MethodName := ⟨RX7, "<init>", "([I)V"⟩
abbrev cX7_valueOf : ByteArray := prog_9_method_2_code
def yX7_valueOf : MethodName := ⟨RX7, "valueOf", "(IIII)I"⟩
abbrev cX7_factorValue : ByteArray := prog_9_method_3_code
def yX7_factorValue : MethodName := ⟨RX7, "factorValue", "(IIIII)I"⟩
abbrev cX7_operate : ByteArray := prog_9_method_4_code
def yX7_operate : MethodName := ⟨RX7, "operate", "(IJJ)I"⟩
abbrev cX7_limited : ByteArray := prog_9_method_5_code
def yX7_limited : MethodName := ⟨RX7, "limited", "(JII)I"⟩
def RX8 : String := "LinkElection"
def TX8 : u_T := fun k => match k with
  | 0 => ("LinkElection", "buffer", "[B", true)
  | 1 => ("LinkElection", "buffered", "I", false)
  | 2 => ("LinkElection", "errorPlace", "I", false)
  | 3 => ("LinkElection", "reader", "LLinkElection$SetupReader;", true)
  | 4 => ("LinkElection", "data", "LLinkElection$Data;", true)
  | 5 => ("LinkElection", "election", "LLinkElection$Election;", true)
  | 6 => ("LinkElection", "route", "LLinkElection$Route;", true)
  | 7 => ("LinkElection", "history", "LLinkElection$History;", true)
  | _ => ("LinkElection", "bindingsBefore", "[I", true)
def tyX8 : Nat → FieldType := fun k => match k with
  | 0 => .array .byte
  | 1 => .int
  | 2 => .int
  | 3 => .object "LinkElection$SetupReader"
  | 4 => .object "LinkElection$Data"
  | 5 => .object "LinkElection$Election"
  | 6 => .object "LinkElection$Route"
  | 7 => .object "LinkElection$History"
  | _ => .array .int
abbrev wsX80 : List Cond := u_ws RX8 TX8 9
theorem nmX8 : ∀ a, a < 9 → ∀ b, b < 9 → a ≠ b → (TX8 a).2.1 ≠ (TX8 b).2.1 := by decide +kernel
theorem tyX8_ok : ∀ k, k < 9 → parseFieldDescriptor (TX8 k).2.2.1 = some (tyX8 k) := by decide +kernel
abbrev cX8_init : ByteArray := prog_1_method_1_code
def yX8_init : MethodName := ⟨RX8, "<init>", "()V"⟩
abbrev cX8_append : ByteArray := prog_1_method_2_code
def yX8_append : MethodName := ⟨RX8, "append", "(IIIII)I"⟩
abbrev cX8_load : ByteArray := prog_1_method_3_code
def yX8_load : MethodName := ⟨RX8, "load", "(I)I"⟩
abbrev cX8_errorOffset : ByteArray := prog_1_method_4_code
def yX8_errorOffset : MethodName := ⟨RX8, "errorOffset", "()I"⟩
abbrev cX8_libraries : ByteArray := prog_1_method_5_code
def yX8_libraries : MethodName := ⟨RX8, "libraries", "()I"⟩
abbrev cX8_names : ByteArray := prog_1_method_6_code
def yX8_names : MethodName := ⟨RX8, "names", "()I"⟩
abbrev cX8_share : ByteArray := prog_1_method_7_code
def yX8_share : MethodName := ⟨RX8, "share", "()I"⟩
abbrev cX8_library : ByteArray := prog_1_method_8_code
def yX8_library : MethodName := ⟨RX8, "library", "(II)I"⟩
abbrev cX8_offer : ByteArray := prog_1_method_9_code
def yX8_offer : MethodName := ⟨RX8, "offer", "(II)I"⟩
abbrev cX8_candidates : ByteArray := prog_1_method_10_code
def yX8_candidates : MethodName := ⟨RX8, "candidates", "(I)I"⟩
abbrev cX8_vote : ByteArray := prog_1_method_11_code
def yX8_vote : MethodName := ⟨RX8, "vote", "(II)I"⟩
abbrev cX8_support : ByteArray := prog_1_method_12_code
def yX8_support : MethodName := ⟨RX8, "support", "(II)I"⟩
abbrev cX8_winner : ByteArray := prog_1_method_13_code
def yX8_winner : MethodName := ⟨RX8, "winner", "(I)I"⟩
abbrev cX8_margin : ByteArray := prog_1_method_14_code
def yX8_margin : MethodName := ⟨RX8, "margin", "(I)I"⟩
abbrev cX8_binding : ByteArray := prog_1_method_15_code
def yX8_binding : MethodName := ⟨RX8, "binding", "(II)I"⟩
abbrev cX8_minority : ByteArray := prog_1_method_16_code
def yX8_minority : MethodName := ⟨RX8, "minority", "(I)I"⟩
abbrev cX8_call : ByteArray := prog_1_method_17_code
def yX8_call : MethodName := ⟨RX8, "call", "(II)I"⟩
abbrev cX8_steps : ByteArray := prog_1_method_18_code
def yX8_steps : MethodName := ⟨RX8, "steps", "(II)I"⟩
abbrev cX8_users : ByteArray := prog_1_method_19_code
def yX8_users : MethodName := ⟨RX8, "users", "(II)I"⟩
abbrev cX8_unload : ByteArray := prog_1_method_20_code
def yX8_unload : MethodName := ⟨RX8, "unload", "(I)I"⟩
abbrev cX8_reload : ByteArray := prog_1_method_21_code
def yX8_reload : MethodName := ⟨RX8, "reload", "(I)I"⟩
abbrev cX8_offerValue : ByteArray := prog_1_method_22_code
def yX8_offerValue : MethodName := ⟨RX8, "offerValue", "(III)I"⟩
abbrev cX8_offerForward : ByteArray := prog_1_method_23_code
def yX8_offerForward : MethodName := ⟨RX8, "offerForward", "(III)I"⟩
abbrev cX8_withdraw : ByteArray := prog_1_method_24_code
def yX8_withdraw : MethodName := ⟨RX8, "withdraw", "(II)I"⟩
abbrev cX8_setTrust : ByteArray := prog_1_method_25_code
def yX8_setTrust : MethodName := ⟨RX8, "setTrust", "(II)I"⟩
abbrev cX8_setKeeps : ByteArray := prog_1_method_26_code
def yX8_setKeeps : MethodName := ⟨RX8, "setKeeps", "(IZ)I"⟩
abbrev cX8_setShare : ByteArray := prog_1_method_27_code
def yX8_setShare : MethodName := ⟨RX8, "setShare", "(I)I"⟩
abbrev cX8_undo : ByteArray := prog_1_method_28_code
def yX8_undo : MethodName := ⟨RX8, "undo", "()I"⟩
abbrev cX8_checksum : ByteArray := prog_1_method_29_code
def yX8_checksum : MethodName := ⟨RX8, "checksum", "()J"⟩
abbrev cX8_requireLibrary : ByteArray := prog_1_method_30_code
def yX8_requireLibrary : MethodName := ⟨RX8, "requireLibrary", "(I)V"⟩
abbrev cX8_requireName : ByteArray := prog_1_method_31_code
def yX8_requireName : MethodName := ⟨RX8, "requireName", "(I)V"⟩
abbrev cX8_cellOf : ByteArray := prog_1_method_32_code
def yX8_cellOf : MethodName := ⟨RX8, "cellOf", "(II)I"⟩
abbrev cX8_putBytes : ByteArray := prog_1_method_33_code
def yX8_putBytes : MethodName := ⟨RX8, "putBytes", "(I)V"⟩
abbrev cX8_beginChange : ByteArray := prog_1_method_34_code
def yX8_beginChange : MethodName := ⟨RX8, "beginChange", "()V"⟩
abbrev cX8_changeOffer : ByteArray := prog_1_method_35_code
def yX8_changeOffer : MethodName := ⟨RX8, "changeOffer", "(III)I"⟩
abbrev cX8_changedBindings : ByteArray := prog_1_method_36_code
def yX8_changedBindings : MethodName := ⟨RX8, "changedBindings", "(I)I"⟩
abbrev cX8_changedBindingsOfAll : ByteArray := prog_1_method_37_code
def yX8_changedBindingsOfAll : MethodName := ⟨RX8, "changedBindingsOfAll", "()I"⟩
def RX9 : String := "LinkElectionModel"
def TX9 : u_T := fun k => match k with
  | 0 => ("LinkElectionModel", "thrown", "I", false)
  | 1 => ("LinkElectionModel", "buffer", "[I", true)
  | 2 => ("LinkElectionModel", "bufferLength", "I", false)
  | 3 => ("LinkElectionModel", "textLength", "I", false)
  | 4 => ("LinkElectionModel", "position", "I", false)
  | 5 => ("LinkElectionModel", "error", "I", false)
  | 6 => ("LinkElectionModel", "errorAt", "I", false)
  | 7 => ("LinkElectionModel", "errorOffset", "I", false)
  | 8 => ("LinkElectionModel", "data", "[I", true)
  | 9 => ("LinkElectionModel", "draft", "[I", true)
  | 10 => ("LinkElectionModel", "history", "[[I", true)
  | 11 => ("LinkElectionModel", "undoDepth", "I", false)
  | 12 => ("LinkElectionModel", "numberStart", "I", false)
  | 13 => ("LinkElectionModel", "nesting", "I", false)
  | 14 => ("LinkElectionModel", "seen", "I", false)
  | 15 => ("LinkElectionModel", "libraryWords", "[J", true)
  | 16 => ("LinkElectionModel", "nameWords", "[J", true)
  | 17 => ("LinkElectionModel", "wordStart", "I", false)
  | 18 => ("LinkElectionModel", "stack", "[J", true)
  | 19 => ("LinkElectionModel", "weights", "[I", true)
  | 20 => ("LinkElectionModel", "ranks", "[I", true)
  | 21 => ("LinkElectionModel", "winners", "[I", true)
  | 22 => ("LinkElectionModel", "supports", "[[I", true)
  | 23 => ("LinkElectionModel", "bindings", "[[I", true)
  | 24 => ("LinkElectionModel", "were", "[[I", true)
  | 25 => ("LinkElectionModel", "reached", "[I", true)
  | _ => ("LinkElectionModel", "went", "I", false)
def tyX9 : Nat → FieldType := fun k => match k with
  | 0 => .int
  | 1 => .array .int
  | 2 => .int
  | 3 => .int
  | 4 => .int
  | 5 => .int
  | 6 => .int
  | 7 => .int
  | 8 => .array .int
  | 9 => .array .int
  | 10 => .array (.array .int)
  | 11 => .int
  | 12 => .int
  | 13 => .int
  | 14 => .int
  | 15 => .array .long
  | 16 => .array .long
  | 17 => .int
  | 18 => .array .long
  | 19 => .array .int
  | 20 => .array .int
  | 21 => .array .int
  | 22 => .array (.array .int)
  | 23 => .array (.array .int)
  | 24 => .array (.array .int)
  | 25 => .array .int
  | _ => .int
abbrev wsX90 : List Cond := u_ws RX9 TX9 27
theorem nmX9 : ∀ a, a < 27 → ∀ b, b < 27 → a ≠ b → (TX9 a).2.1 ≠ (TX9 b).2.1 := by decide +kernel
theorem tyX9_ok : ∀ k, k < 27 → parseFieldDescriptor (TX9 k).2.2.1 = some (tyX9 k) := by decide +kernel
abbrev cX9_init : ByteArray := prog_11_method_1_code
def yX9_init : MethodName := ⟨RX9, "<init>", "()V"⟩
abbrev cX9_thrown : ByteArray := prog_11_method_2_code
def yX9_thrown : MethodName := ⟨RX9, "thrown", "()I"⟩
abbrev cX9_fails : ByteArray := prog_11_method_3_code
def yX9_fails : MethodName := ⟨RX9, "fails", "(ZI)Z"⟩
abbrev cX9_in : ByteArray := prog_11_method_4_code
def yX9_in : MethodName := ⟨RX9, "in", "(III)Z"⟩
abbrev cX9_min : ByteArray := prog_11_method_5_code
def yX9_min : MethodName := ⟨RX9, "min", "(II)I"⟩
abbrev cX9_copy : ByteArray := prog_11_method_6_code
def yX9_copy : MethodName := ⟨RX9, "copy", "([I[I)V"⟩
abbrev cX9_at : ByteArray := prog_11_method_7_code
def yX9_at : MethodName := ⟨RX9, "at", "(I)I"⟩
abbrev cX9_append : ByteArray := prog_11_method_8_code
def yX9_append : MethodName := ⟨RX9, "append", "(IIIII)I"⟩
abbrev cX9_byteAt : ByteArray := prog_11_method_9_code
def yX9_byteAt : MethodName := ⟨RX9, "byteAt", "(I)I"⟩
abbrev cX9_next : ByteArray := prog_11_method_10_code
def yX9_next : MethodName := ⟨RX9, "next", "()I"⟩
abbrev cX9_isGood : ByteArray := prog_11_method_11_code
def yX9_isGood : MethodName := ⟨RX9, "isGood", "()Z"⟩
abbrev cX9_report : ByteArray := prog_11_method_12_code
def yX9_report : MethodName := ⟨RX9, "report", "(II)V"⟩
abbrev cX9_isDigit : ByteArray := prog_11_method_13_code
def yX9_isDigit : MethodName := ⟨RX9, "isDigit", "(I)Z"⟩
abbrev cX9_takeWord : ByteArray := prog_11_method_14_code
def yX9_takeWord : MethodName := ⟨RX9, "takeWord", "(Ljava/lang/String;)Z"⟩
abbrev cX9_expect : ByteArray := prog_11_method_15_code
def yX9_expect : MethodName := ⟨RX9, "expect", "(I)V"⟩
abbrev cX9_number : ByteArray := prog_11_method_16_code
def yX9_number : MethodName := ⟨RX9, "number", "(II)I"⟩
abbrev cX9_emit : ByteArray := prog_11_method_17_code
def yX9_emit : MethodName := ⟨RX9, "emit", "(I)V"⟩
abbrev cX9_factor : ByteArray := prog_11_method_18_code
def yX9_factor : MethodName := ⟨RX9, "factor", "()V"⟩
abbrev cX9_term : ByteArray := prog_11_method_19_code
def yX9_term : MethodName := ⟨RX9, "term", "()V"⟩
abbrev cX9_sum : ByteArray := prog_11_method_20_code
def yX9_sum : MethodName := ⟨RX9, "sum", "()V"⟩
abbrev cX9_once : ByteArray := prog_11_method_21_code
def yX9_once : MethodName := ⟨RX9, "once", "(II)V"⟩
abbrev cX9_readWord : ByteArray := prog_11_method_22_code
def yX9_readWord : MethodName := ⟨RX9, "readWord", "()J"⟩
abbrev cX9_placeOf : ByteArray := prog_11_method_23_code
def yX9_placeOf : MethodName := ⟨RX9, "placeOf", "(J[JI)I"⟩
abbrev cX9_readKnown : ByteArray := prog_11_method_24_code
def yX9_readKnown : MethodName := ⟨RX9, "readKnown", "([JI)I"⟩
abbrev cX9_isFresh : ByteArray := prog_11_method_25_code
def yX9_isFresh : MethodName := ⟨RX9, "isFresh", "([JIJ)Z"⟩
abbrev cX9_readName : ByteArray := prog_11_method_26_code
def yX9_readName : MethodName := ⟨RX9, "readName", "(I)V"⟩
abbrev cX9_readLibrary : ByteArray := prog_11_method_27_code
def yX9_readLibrary : MethodName := ⟨RX9, "readLibrary", "(I)V"⟩
abbrev cX9_readOffer : ByteArray := prog_11_method_28_code
def yX9_readOffer : MethodName := ⟨RX9, "readOffer", "()V"⟩
abbrev cX9_prefers : ByteArray := prog_11_method_29_code
def yX9_prefers : MethodName := ⟨RX9, "prefers", "([III)Z"⟩
abbrev cX9_readPreference : ByteArray := prog_11_method_30_code
def yX9_readPreference : MethodName := ⟨RX9, "readPreference", "()V"⟩
abbrev cX9_statement : ByteArray := prog_11_method_31_code
def yX9_statement : MethodName := ⟨RX9, "statement", "()V"⟩
abbrev cX9_load : ByteArray := prog_11_method_32_code
def yX9_load : MethodName := ⟨RX9, "load", "(I)I"⟩
abbrev cX9_errorOffset : ByteArray := prog_11_method_33_code
def yX9_errorOffset : MethodName := ⟨RX9, "errorOffset", "()I"⟩
abbrev cX9_isLoaded : ByteArray := prog_11_method_34_code
def yX9_isLoaded : MethodName := ⟨RX9, "isLoaded", "(I)Z"⟩
abbrev cX9_rankOf : ByteArray := prog_11_method_35_code
def yX9_rankOf : MethodName := ⟨RX9, "rankOf", "(I)I"⟩
abbrev cX9_offersOf : ByteArray := prog_11_method_36_code
def yX9_offersOf : MethodName := ⟨RX9, "offersOf", "(I)I"⟩
abbrev cX9_friendsOf : ByteArray := prog_11_method_37_code
def yX9_friendsOf : MethodName := ⟨RX9, "friendsOf", "(I)I"⟩
abbrev cX9_isCandidate : ByteArray := prog_11_method_38_code
def yX9_isCandidate : MethodName := ⟨RX9, "isCandidate", "(II)Z"⟩
abbrev cX9_limited : ByteArray := prog_11_method_39_code
def yX9_limited : MethodName := ⟨RX9, "limited", "(J)J"⟩
abbrev cX9_operate : ByteArray := prog_11_method_40_code
def yX9_operate : MethodName := ⟨RX9, "operate", "(IJJ)J"⟩
abbrev cX9_weightOf : ByteArray := prog_11_method_41_code
def yX9_weightOf : MethodName := ⟨RX9, "weightOf", "(I)I"⟩
abbrev cX9_voteOf : ByteArray := prog_11_method_42_code
def yX9_voteOf : MethodName := ⟨RX9, "voteOf", "(II)I"⟩
abbrev cX9_layName : ByteArray := prog_11_method_43_code
def yX9_layName : MethodName := ⟨RX9, "layName", "(I)V"⟩
abbrev cX9_layAll : ByteArray := prog_11_method_44_code
def yX9_layAll : MethodName := ⟨RX9, "layAll", "()V"⟩
abbrev cX9_keepBindings : ByteArray := prog_11_method_45_code
def yX9_keepBindings : MethodName := ⟨RX9, "keepBindings", "()V"⟩
abbrev cX9_changedBut : ByteArray := prog_11_method_46_code
def yX9_changedBut : MethodName := ⟨RX9, "changedBut", "(I)I"⟩
abbrev cX9_follow : ByteArray := prog_11_method_47_code
def yX9_follow : MethodName := ⟨RX9, "follow", "(II)I"⟩
abbrev cX9_noLibrary : ByteArray := prog_11_method_48_code
def yX9_noLibrary : MethodName := ⟨RX9, "noLibrary", "(I)Z"⟩
abbrev cX9_noName : ByteArray := prog_11_method_49_code
def yX9_noName : MethodName := ⟨RX9, "noName", "(I)Z"⟩
abbrev cX9_isMissing : ByteArray := prog_11_method_50_code
def yX9_isMissing : MethodName := ⟨RX9, "isMissing", "(II)Z"⟩
abbrev cX9_libraries : ByteArray := prog_11_method_51_code
def yX9_libraries : MethodName := ⟨RX9, "libraries", "()I"⟩
abbrev cX9_names : ByteArray := prog_11_method_52_code
def yX9_names : MethodName := ⟨RX9, "names", "()I"⟩
abbrev cX9_share : ByteArray := prog_11_method_53_code
def yX9_share : MethodName := ⟨RX9, "share", "()I"⟩
abbrev cX9_told : ByteArray := prog_11_method_54_code
def yX9_told : MethodName := ⟨RX9, "told", "(II)I"⟩
abbrev cX9_library : ByteArray := prog_11_method_55_code
def yX9_library : MethodName := ⟨RX9, "library", "(II)I"⟩
abbrev cX9_offer : ByteArray := prog_11_method_56_code
def yX9_offer : MethodName := ⟨RX9, "offer", "(II)I"⟩
abbrev cX9_candidates : ByteArray := prog_11_method_57_code
def yX9_candidates : MethodName := ⟨RX9, "candidates", "(I)I"⟩
abbrev cX9_vote : ByteArray := prog_11_method_58_code
def yX9_vote : MethodName := ⟨RX9, "vote", "(II)I"⟩
abbrev cX9_support : ByteArray := prog_11_method_59_code
def yX9_support : MethodName := ⟨RX9, "support", "(II)I"⟩
abbrev cX9_winner : ByteArray := prog_11_method_60_code
def yX9_winner : MethodName := ⟨RX9, "winner", "(I)I"⟩
abbrev cX9_margin : ByteArray := prog_11_method_61_code
def yX9_margin : MethodName := ⟨RX9, "margin", "(I)I"⟩
abbrev cX9_binding : ByteArray := prog_11_method_62_code
def yX9_binding : MethodName := ⟨RX9, "binding", "(II)I"⟩
abbrev cX9_minority : ByteArray := prog_11_method_63_code
def yX9_minority : MethodName := ⟨RX9, "minority", "(I)I"⟩
abbrev cX9_call : ByteArray := prog_11_method_64_code
def yX9_call : MethodName := ⟨RX9, "call", "(II)I"⟩
abbrev cX9_steps : ByteArray := prog_11_method_65_code
def yX9_steps : MethodName := ⟨RX9, "steps", "(II)I"⟩
abbrev cX9_users : ByteArray := prog_11_method_66_code
def yX9_users : MethodName := ⟨RX9, "users", "(II)I"⟩
abbrev cX9_remember : ByteArray := prog_11_method_67_code
def yX9_remember : MethodName := ⟨RX9, "remember", "()V"⟩
abbrev cX9_unload : ByteArray := prog_11_method_68_code
def yX9_unload : MethodName := ⟨RX9, "unload", "(I)I"⟩
abbrev cX9_reload : ByteArray := prog_11_method_69_code
def yX9_reload : MethodName := ⟨RX9, "reload", "(I)I"⟩
abbrev cX9_put : ByteArray := prog_11_method_70_code
def yX9_put : MethodName := ⟨RX9, "put", "(III)I"⟩
abbrev cX9_offerValue : ByteArray := prog_11_method_71_code
def yX9_offerValue : MethodName := ⟨RX9, "offerValue", "(III)I"⟩
abbrev cX9_offerForward : ByteArray := prog_11_method_72_code
def yX9_offerForward : MethodName := ⟨RX9, "offerForward", "(III)I"⟩
abbrev cX9_withdraw : ByteArray := prog_11_method_73_code
def yX9_withdraw : MethodName := ⟨RX9, "withdraw", "(II)I"⟩
abbrev cX9_setTrust : ByteArray := prog_11_method_74_code
def yX9_setTrust : MethodName := ⟨RX9, "setTrust", "(II)I"⟩
abbrev cX9_setKeeps : ByteArray := prog_11_method_75_code
def yX9_setKeeps : MethodName := ⟨RX9, "setKeeps", "(IZ)I"⟩
abbrev cX9_setShare : ByteArray := prog_11_method_76_code
def yX9_setShare : MethodName := ⟨RX9, "setShare", "(I)I"⟩
abbrev cX9_undo : ByteArray := prog_11_method_77_code
def yX9_undo : MethodName := ⟨RX9, "undo", "()I"⟩
abbrev cX9_checksum : ByteArray := prog_11_method_78_code
def yX9_checksum : MethodName := ⟨RX9, "checksum", "()J"⟩
def RJx145de : String := "java/io/Serializable"
def TJx145de : u_T := fun k => match k with
  | _ => ("", "", "", false)
def tyJx145de : Nat → FieldType := fun k => match k with
  | _ => .int
abbrev wsJx145de0 : List Cond := u_ws RJx145de TJx145de 0
theorem nmJx145de : ∀ a, a < 0 → ∀ b, b < 0 → a ≠ b → (TJx145de a).2.1 ≠ (TJx145de b).2.1 := by decide +kernel
theorem tyJx145de_ok : ∀ k, k < 0 → parseFieldDescriptor (TJx145de k).2.2.1 = some (tyJx145de k) := by decide +kernel
def RJx9f9b0 : String := "java/lang/CharSequence"
def TJx9f9b0 : u_T := fun k => match k with
  | _ => ("", "", "", false)
def tyJx9f9b0 : Nat → FieldType := fun k => match k with
  | _ => .int
abbrev wsJx9f9b00 : List Cond := u_ws RJx9f9b0 TJx9f9b0 0
theorem nmJx9f9b0 : ∀ a, a < 0 → ∀ b, b < 0 → a ≠ b → (TJx9f9b0 a).2.1 ≠ (TJx9f9b0 b).2.1 := by decide +kernel
theorem tyJx9f9b0_ok : ∀ k, k < 0 → parseFieldDescriptor (TJx9f9b0 k).2.2.1 = some (tyJx9f9b0 k) := by decide +kernel
def RJx8e188 : String := "java/lang/Cloneable"
def TJx8e188 : u_T := fun k => match k with
  | _ => ("", "", "", false)
def tyJx8e188 : Nat → FieldType := fun k => match k with
  | _ => .int
abbrev wsJx8e1880 : List Cond := u_ws RJx8e188 TJx8e188 0
theorem nmJx8e188 : ∀ a, a < 0 → ∀ b, b < 0 → a ≠ b → (TJx8e188 a).2.1 ≠ (TJx8e188 b).2.1 := by decide +kernel
theorem tyJx8e188_ok : ∀ k, k < 0 → parseFieldDescriptor (TJx8e188 k).2.2.1 = some (tyJx8e188 k) := by decide +kernel
def RJxb160c : String := "java/lang/Comparable"
def TJxb160c : u_T := fun k => match k with
  | _ => ("", "", "", false)
def tyJxb160c : Nat → FieldType := fun k => match k with
  | _ => .int
abbrev wsJxb160c0 : List Cond := u_ws RJxb160c TJxb160c 0
theorem nmJxb160c : ∀ a, a < 0 → ∀ b, b < 0 → a ≠ b → (TJxb160c a).2.1 ≠ (TJxb160c b).2.1 := by decide +kernel
theorem tyJxb160c_ok : ∀ k, k < 0 → parseFieldDescriptor (TJxb160c k).2.2.1 = some (tyJxb160c k) := by decide +kernel
def RJ9 : String := "java/lang/Math"
def TJ9 : u_T := fun k => match k with
  | _ => ("", "", "", false)
def tyJ9 : Nat → FieldType := fun k => match k with
  | _ => .int
abbrev wsJ90 : List Cond := u_ws RJ9 TJ9 0
theorem nmJ9 : ∀ a, a < 0 → ∀ b, b < 0 → a ≠ b → (TJ9 a).2.1 ≠ (TJ9 b).2.1 := by decide +kernel
theorem tyJ9_ok : ∀ k, k < 0 → parseFieldDescriptor (TJ9 k).2.2.1 = some (tyJ9 k) := by decide +kernel
abbrev cJ9_max_7cf53 : ByteArray := prog_17_method_65_code
def yJ9_max_7cf53 : MethodName := ⟨RJ9, "max", "(II)I"⟩
abbrev cJ9_max_f86c9 : ByteArray := prog_17_method_66_code
def yJ9_max_f86c9 : MethodName := ⟨RJ9, "max", "(JJ)J"⟩
abbrev cJ9_min_7cf53 : ByteArray := prog_17_method_69_code
def yJ9_min_7cf53 : MethodName := ⟨RJ9, "min", "(II)I"⟩
abbrev cJ9_min_f86c9 : ByteArray := prog_17_method_70_code
def yJ9_min_f86c9 : MethodName := ⟨RJ9, "min", "(JJ)J"⟩
def RJ0 : String := "java/lang/String"
def TJ0 : u_T := fun k => match k with
  | _ => ("", "", "", false)
def tyJ0 : Nat → FieldType := fun k => match k with
  | _ => .int
abbrev wsJ00 : List Cond := u_ws RJ0 TJ0 0
theorem nmJ0 : ∀ a, a < 0 → ∀ b, b < 0 → a ≠ b → (TJ0 a).2.1 ≠ (TJ0 b).2.1 := by decide +kernel
theorem tyJ0_ok : ∀ k, k < 0 → parseFieldDescriptor (TJ0 k).2.2.1 = some (tyJ0 k) := by decide +kernel
abbrev cJ0_length_8abf5 : ByteArray := prog_19_method_54_code
def yJ0_length_8abf5 : MethodName := ⟨RJ0, "length", "()I"⟩
abbrev cJ0_charAt_5068e : ByteArray := prog_19_method_56_code
def yJ0_charAt_5068e : MethodName := ⟨RJ0, "charAt", "(I)C"⟩
abbrev cJ0_coder_7d493 : ByteArray := prog_19_method_152_code
def yJ0_coder_7d493 : MethodName := ⟨RJ0, "coder", "()B"⟩
abbrev cJ0_isLatin1_aae02 : ByteArray := prog_19_method_154_code
def yJ0_isLatin1_aae02 : MethodName := ⟨RJ0, "isLatin1", "()Z"⟩
abbrev cJ0_checkIndex_df160 : ByteArray := prog_19_method_155_code
def yJ0_checkIndex_df160 : MethodName := ⟨RJ0, "checkIndex", "(II)V"⟩
def RJ1 : String := "java/lang/StringLatin1"
def TJ1 : u_T := fun k => match k with
  | _ => ("", "", "", false)
def tyJ1 : Nat → FieldType := fun k => match k with
  | _ => .int
abbrev wsJ10 : List Cond := u_ws RJ1 TJ1 0
theorem nmJ1 : ∀ a, a < 0 → ∀ b, b < 0 → a ≠ b → (TJ1 a).2.1 ≠ (TJ1 b).2.1 := by decide +kernel
theorem tyJ1_ok : ∀ k, k < 0 → parseFieldDescriptor (TJ1 k).2.2.1 = some (tyJ1 k) := by decide +kernel
abbrev cJ1_charAt_3b067 : ByteArray := prog_20_method_2_code
def yJ1_charAt_3b067 : MethodName := ⟨RJ1, "charAt", "([BI)C"⟩
def RJ2 : String := "java/lang/StringUTF16"
def TJ2 : u_T := fun k => match k with
  | _ => ("", "", "", false)
def tyJ2 : Nat → FieldType := fun k => match k with
  | _ => .int
abbrev wsJ20 : List Cond := u_ws RJ2 TJ2 0
theorem nmJ2 : ∀ a, a < 0 → ∀ b, b < 0 → a ≠ b → (TJ2 a).2.1 ≠ (TJ2 b).2.1 := by decide +kernel
theorem tyJ2_ok : ∀ k, k < 0 → parseFieldDescriptor (TJ2 k).2.2.1 = some (tyJ2 k) := by decide +kernel
abbrev cJ2_getChar_3b067 : ByteArray := prog_21_method_5_code
def yJ2_getChar_3b067 : MethodName := ⟨RJ2, "getChar", "([BI)C"⟩
abbrev cJ2_length_9d52b : ByteArray := prog_21_method_6_code
def yJ2_length_9d52b : MethodName := ⟨RJ2, "length", "([B)I"⟩
abbrev cJ2_charAt_3b067 : ByteArray := prog_21_method_83_code
def yJ2_charAt_3b067 : MethodName := ⟨RJ2, "charAt", "([BI)C"⟩
abbrev cJ2_checkIndex_2214a : ByteArray := prog_21_method_91_code
def yJ2_checkIndex_2214a : MethodName := ⟨RJ2, "checkIndex", "(I[B)V"⟩
def RJ10 : String := "java/lang/System"
def TJ10 : u_T := fun k => match k with
  | _ => ("", "", "", false)
def tyJ10 : Nat → FieldType := fun k => match k with
  | _ => .int
abbrev wsJ100 : List Cond := u_ws RJ10 TJ10 0
theorem nmJ10 : ∀ a, a < 0 → ∀ b, b < 0 → a ≠ b → (TJ10 a).2.1 ≠ (TJ10 b).2.1 := by decide +kernel
theorem tyJ10_ok : ∀ k, k < 0 → parseFieldDescriptor (TJ10 k).2.2.1 = some (tyJ10 k) := by decide +kernel
def RJxfd54e : String := "java/lang/constant/Constable"
def TJxfd54e : u_T := fun k => match k with
  | _ => ("", "", "", false)
def tyJxfd54e : Nat → FieldType := fun k => match k with
  | _ => .int
abbrev wsJxfd54e0 : List Cond := u_ws RJxfd54e TJxfd54e 0
theorem nmJxfd54e : ∀ a, a < 0 → ∀ b, b < 0 → a ≠ b → (TJxfd54e a).2.1 ≠ (TJxfd54e b).2.1 := by decide +kernel
theorem tyJxfd54e_ok : ∀ k, k < 0 → parseFieldDescriptor (TJxfd54e k).2.2.1 = some (tyJxfd54e k) := by decide +kernel
def RJx3cf43 : String := "java/lang/constant/ConstantDesc"
def TJx3cf43 : u_T := fun k => match k with
  | _ => ("", "", "", false)
def tyJx3cf43 : Nat → FieldType := fun k => match k with
  | _ => .int
abbrev wsJx3cf430 : List Cond := u_ws RJx3cf43 TJx3cf43 0
theorem nmJx3cf43 : ∀ a, a < 0 → ∀ b, b < 0 → a ≠ b → (TJx3cf43 a).2.1 ≠ (TJx3cf43 b).2.1 := by decide +kernel
theorem tyJx3cf43_ok : ∀ k, k < 0 → parseFieldDescriptor (TJx3cf43 k).2.2.1 = some (tyJx3cf43 k) := by decide +kernel
def RJ7 : String := "java/util/Arrays"
def TJ7 : u_T := fun k => match k with
  | _ => ("", "", "", false)
def tyJ7 : Nat → FieldType := fun k => match k with
  | _ => .int
abbrev wsJ70 : List Cond := u_ws RJ7 TJ7 0
theorem nmJ7 : ∀ a, a < 0 → ∀ b, b < 0 → a ≠ b → (TJ7 a).2.1 ≠ (TJ7 b).2.1 := by decide +kernel
theorem tyJ7_ok : ∀ k, k < 0 → parseFieldDescriptor (TJ7 k).2.2.1 = some (tyJ7 k) := by decide +kernel
abbrev cJ7_fill_53178 : ByteArray := prog_24_method_103_code
def yJ7_fill_53178 : MethodName := ⟨RJ7, "fill", "([II)V"⟩
abbrev cJ7_copyOf_59c91 : ByteArray := prog_24_method_123_code
def yJ7_copyOf_59c91 : MethodName := ⟨RJ7, "copyOf", "([II)[I"⟩
def RJ3 : String := "jdk/internal/util/Preconditions"
def TJ3 : u_T := fun k => match k with
  | _ => ("", "", "", false)
def tyJ3 : Nat → FieldType := fun k => match k with
  | _ => .int
abbrev wsJ30 : List Cond := u_ws RJ3 TJ3 0
theorem nmJ3 : ∀ a, a < 0 → ∀ b, b < 0 → a ≠ b → (TJ3 a).2.1 ≠ (TJ3 b).2.1 := by decide +kernel
theorem tyJ3_ok : ∀ k, k < 0 → parseFieldDescriptor (TJ3 k).2.2.1 = some (tyJ3 k) := by decide +kernel
abbrev cJ3_checkIndex_8e157 : ByteArray := prog_25_method_11_code
def yJ3_checkIndex_8e157 : MethodName := ⟨RJ3, "checkIndex", "(IILjava/util/function/BiFunction;)I"⟩
def RL : String := "LinkElectionLaw"
abbrev cL_load : ByteArray := method_3_code
def yL_load : MethodName := ⟨RL, "load", "(LLinkElection;I[J)I"⟩
abbrev cL_library : ByteArray := method_4_code
def yL_library : MethodName := ⟨RL, "library", "(LLinkElection;II[J)I"⟩
abbrev cL_offer : ByteArray := method_5_code
def yL_offer : MethodName := ⟨RL, "offer", "(LLinkElection;II[J)I"⟩
abbrev cL_candidates : ByteArray := method_6_code
def yL_candidates : MethodName := ⟨RL, "candidates", "(LLinkElection;I[J)I"⟩
abbrev cL_vote : ByteArray := method_7_code
def yL_vote : MethodName := ⟨RL, "vote", "(LLinkElection;II[J)I"⟩
abbrev cL_support : ByteArray := method_8_code
def yL_support : MethodName := ⟨RL, "support", "(LLinkElection;II[J)I"⟩
abbrev cL_winner : ByteArray := method_9_code
def yL_winner : MethodName := ⟨RL, "winner", "(LLinkElection;I[J)I"⟩
abbrev cL_margin : ByteArray := method_10_code
def yL_margin : MethodName := ⟨RL, "margin", "(LLinkElection;I[J)I"⟩
abbrev cL_binding : ByteArray := method_11_code
def yL_binding : MethodName := ⟨RL, "binding", "(LLinkElection;II[J)I"⟩
abbrev cL_minority : ByteArray := method_12_code
def yL_minority : MethodName := ⟨RL, "minority", "(LLinkElection;I[J)I"⟩
abbrev cL_call : ByteArray := method_13_code
def yL_call : MethodName := ⟨RL, "call", "(LLinkElection;II[J)I"⟩
abbrev cL_steps : ByteArray := method_14_code
def yL_steps : MethodName := ⟨RL, "steps", "(LLinkElection;II[J)I"⟩
abbrev cL_users : ByteArray := method_15_code
def yL_users : MethodName := ⟨RL, "users", "(LLinkElection;II[J)I"⟩
abbrev cL_unload : ByteArray := method_16_code
def yL_unload : MethodName := ⟨RL, "unload", "(LLinkElection;I[J)I"⟩
abbrev cL_reload : ByteArray := method_17_code
def yL_reload : MethodName := ⟨RL, "reload", "(LLinkElection;I[J)I"⟩
abbrev cL_offerValue : ByteArray := method_18_code
def yL_offerValue : MethodName := ⟨RL, "offerValue", "(LLinkElection;III[J)I"⟩
abbrev cL_offerForward : ByteArray := method_19_code
def yL_offerForward : MethodName := ⟨RL, "offerForward", "(LLinkElection;III[J)I"⟩
abbrev cL_withdraw : ByteArray := method_20_code
def yL_withdraw : MethodName := ⟨RL, "withdraw", "(LLinkElection;II[J)I"⟩
abbrev cL_setTrust : ByteArray := method_21_code
def yL_setTrust : MethodName := ⟨RL, "setTrust", "(LLinkElection;II[J)I"⟩
abbrev cL_setKeeps : ByteArray := method_22_code
def yL_setKeeps : MethodName := ⟨RL, "setKeeps", "(LLinkElection;IZ[J)I"⟩
abbrev cL_setShare : ByteArray := method_23_code
def yL_setShare : MethodName := ⟨RL, "setShare", "(LLinkElection;I[J)I"⟩
abbrev cL_law : ByteArray := code
def yL_law : MethodName := ⟨RL, "law", "([I)Z"⟩
abbrev vwCl : List vw_C := [(RX0, TX0, 5), (RX1, TX1, 7), (RX2, TX2, 3), (RX3, TX3, 6), (RX4, TX4, 3), (RX5, TX5, 11), (RX6, TX6, 8), (RX7, TX7, 2), (RX8, TX8, 9), (RX9, TX9, 27)]
end
section
theorem dJ9_max_7cf53_0 : decode cJ9_max_7cf53 0 = .ok (.iload_n 0, 1) := by decide +kernel
theorem dJ9_max_7cf53_1 : decode cJ9_max_7cf53 1 = .ok (.iload_n 1, 1) := by decide +kernel
theorem dJ9_max_7cf53_2 : decode cJ9_max_7cf53 2 = .ok (.if_icmp .lt 7, 3) := by decide +kernel
theorem dJ9_max_7cf53_5 : decode cJ9_max_7cf53 5 = .ok (.iload_n 0, 1) := by decide +kernel
theorem dJ9_max_7cf53_6 : decode cJ9_max_7cf53 6 = .ok (.goto 4, 3) := by decide +kernel
theorem dJ9_max_7cf53_9 : decode cJ9_max_7cf53 9 = .ok (.iload_n 1, 1) := by decide +kernel
theorem dJ9_max_7cf53_10 : decode cJ9_max_7cf53 10 = .ok (.ireturn, 1) := by decide +kernel
theorem dJ9_max_f86c9_0 : decode cJ9_max_f86c9 0 = .ok (.lload_n 0, 1) := by decide +kernel
theorem dJ9_max_f86c9_1 : decode cJ9_max_f86c9 1 = .ok (.lload_n 2, 1) := by decide +kernel
theorem dJ9_max_f86c9_2 : decode cJ9_max_f86c9 2 = .ok (.lcmp, 1) := by decide +kernel
theorem dJ9_max_f86c9_3 : decode cJ9_max_f86c9 3 = .ok (.ifCond .lt 7, 3) := by decide +kernel
theorem dJ9_max_f86c9_6 : decode cJ9_max_f86c9 6 = .ok (.lload_n 0, 1) := by decide +kernel
theorem dJ9_max_f86c9_7 : decode cJ9_max_f86c9 7 = .ok (.goto 4, 3) := by decide +kernel
theorem dJ9_max_f86c9_10 : decode cJ9_max_f86c9 10 = .ok (.lload_n 2, 1) := by decide +kernel
theorem dJ9_max_f86c9_11 : decode cJ9_max_f86c9 11 = .ok (.lreturn, 1) := by decide +kernel
theorem dJ9_min_7cf53_0 : decode cJ9_min_7cf53 0 = .ok (.iload_n 0, 1) := by decide +kernel
theorem dJ9_min_7cf53_1 : decode cJ9_min_7cf53 1 = .ok (.iload_n 1, 1) := by decide +kernel
theorem dJ9_min_7cf53_2 : decode cJ9_min_7cf53 2 = .ok (.if_icmp .gt 7, 3) := by decide +kernel
theorem dJ9_min_7cf53_5 : decode cJ9_min_7cf53 5 = .ok (.iload_n 0, 1) := by decide +kernel
theorem dJ9_min_7cf53_6 : decode cJ9_min_7cf53 6 = .ok (.goto 4, 3) := by decide +kernel
theorem dJ9_min_7cf53_9 : decode cJ9_min_7cf53 9 = .ok (.iload_n 1, 1) := by decide +kernel
theorem dJ9_min_7cf53_10 : decode cJ9_min_7cf53 10 = .ok (.ireturn, 1) := by decide +kernel
theorem dJ9_min_f86c9_0 : decode cJ9_min_f86c9 0 = .ok (.lload_n 0, 1) := by decide +kernel
theorem dJ9_min_f86c9_1 : decode cJ9_min_f86c9 1 = .ok (.lload_n 2, 1) := by decide +kernel
theorem dJ9_min_f86c9_2 : decode cJ9_min_f86c9 2 = .ok (.lcmp, 1) := by decide +kernel
theorem dJ9_min_f86c9_3 : decode cJ9_min_f86c9 3 = .ok (.ifCond .gt 7, 3) := by decide +kernel
theorem dJ9_min_f86c9_6 : decode cJ9_min_f86c9 6 = .ok (.lload_n 0, 1) := by decide +kernel
theorem dJ9_min_f86c9_7 : decode cJ9_min_f86c9 7 = .ok (.goto 4, 3) := by decide +kernel
theorem dJ9_min_f86c9_10 : decode cJ9_min_f86c9 10 = .ok (.lload_n 2, 1) := by decide +kernel
theorem dJ9_min_f86c9_11 : decode cJ9_min_f86c9 11 = .ok (.lreturn, 1) := by decide +kernel
theorem dJ0_length_8abf5_0 : decode cJ0_length_8abf5 0 = .ok (.aload_n 0, 1) := by decide +kernel
theorem dJ0_length_8abf5_1 : decode cJ0_length_8abf5 1 = .ok (.getfield 9, 3) := by decide +kernel
theorem dJ0_length_8abf5_4 : decode cJ0_length_8abf5 4 = .ok (.arraylength, 1) := by decide +kernel
theorem dJ0_length_8abf5_5 : decode cJ0_length_8abf5 5 = .ok (.aload_n 0, 1) := by decide +kernel
theorem dJ0_length_8abf5_6 : decode cJ0_length_8abf5 6 = .ok (.invokevirtual 335, 3) := by decide +kernel
theorem dJ0_length_8abf5_9 : decode cJ0_length_8abf5 9 = .ok (.ishr, 1) := by decide +kernel
theorem dJ0_length_8abf5_10 : decode cJ0_length_8abf5 10 = .ok (.ireturn, 1) := by decide +kernel
theorem dJ0_charAt_5068e_0 : decode cJ0_charAt_5068e 0 = .ok (.aload_n 0, 1) := by decide +kernel
theorem dJ0_charAt_5068e_1 : decode cJ0_charAt_5068e 1 = .ok (.invokevirtual 492, 3) := by decide +kernel
theorem dJ0_charAt_5068e_4 : decode cJ0_charAt_5068e 4 = .ok (.ifCond .eq 12, 3) := by decide +kernel
theorem dJ0_charAt_5068e_7 : decode cJ0_charAt_5068e 7 = .ok (.aload_n 0, 1) := by decide +kernel
theorem dJ0_charAt_5068e_8 : decode cJ0_charAt_5068e 8 = .ok (.getfield 9, 3) := by decide +kernel
theorem dJ0_charAt_5068e_11 : decode cJ0_charAt_5068e 11 = .ok (.iload_n 1, 1) := by decide +kernel
theorem dJ0_charAt_5068e_12 : decode cJ0_charAt_5068e 12 = .ok (.invokestatic 495, 3) := by decide +kernel
theorem dJ0_charAt_5068e_15 : decode cJ0_charAt_5068e 15 = .ok (.ireturn, 1) := by decide +kernel
theorem dJ0_charAt_5068e_16 : decode cJ0_charAt_5068e 16 = .ok (.aload_n 0, 1) := by decide +kernel
theorem dJ0_charAt_5068e_17 : decode cJ0_charAt_5068e 17 = .ok (.getfield 9, 3) := by decide +kernel
theorem dJ0_charAt_5068e_20 : decode cJ0_charAt_5068e 20 = .ok (.iload_n 1, 1) := by decide +kernel
theorem dJ0_charAt_5068e_21 : decode cJ0_charAt_5068e 21 = .ok (.invokestatic 498, 3) := by decide +kernel
theorem dJ0_charAt_5068e_24 : decode cJ0_charAt_5068e 24 = .ok (.ireturn, 1) := by decide +kernel
theorem dJ0_coder_7d493_0 : decode cJ0_coder_7d493 0 = .ok (.getstatic 38, 3) := by decide +kernel
theorem dJ0_coder_7d493_3 : decode cJ0_coder_7d493 3 = .ok (.ifCond .eq 10, 3) := by decide +kernel
theorem dJ0_coder_7d493_6 : decode cJ0_coder_7d493 6 = .ok (.aload_n 0, 1) := by decide +kernel
theorem dJ0_coder_7d493_7 : decode cJ0_coder_7d493 7 = .ok (.getfield 15, 3) := by decide +kernel
theorem dJ0_coder_7d493_10 : decode cJ0_coder_7d493 10 = .ok (.goto 4, 3) := by decide +kernel
theorem dJ0_coder_7d493_13 : decode cJ0_coder_7d493 13 = .ok (.iconst 1, 1) := by decide +kernel
theorem dJ0_coder_7d493_14 : decode cJ0_coder_7d493 14 = .ok (.ireturn, 1) := by decide +kernel
theorem dJ0_isLatin1_aae02_0 : decode cJ0_isLatin1_aae02 0 = .ok (.getstatic 38, 3) := by decide +kernel
theorem dJ0_isLatin1_aae02_3 : decode cJ0_isLatin1_aae02 3 = .ok (.ifCond .eq 14, 3) := by decide +kernel
theorem dJ0_isLatin1_aae02_6 : decode cJ0_isLatin1_aae02 6 = .ok (.aload_n 0, 1) := by decide +kernel
theorem dJ0_isLatin1_aae02_7 : decode cJ0_isLatin1_aae02 7 = .ok (.getfield 15, 3) := by decide +kernel
theorem dJ0_isLatin1_aae02_10 : decode cJ0_isLatin1_aae02 10 = .ok (.ifCond .ne 7, 3) := by decide +kernel
theorem dJ0_isLatin1_aae02_13 : decode cJ0_isLatin1_aae02 13 = .ok (.iconst 1, 1) := by decide +kernel
theorem dJ0_isLatin1_aae02_14 : decode cJ0_isLatin1_aae02 14 = .ok (.goto 4, 3) := by decide +kernel
theorem dJ0_isLatin1_aae02_17 : decode cJ0_isLatin1_aae02 17 = .ok (.iconst 0, 1) := by decide +kernel
theorem dJ0_isLatin1_aae02_18 : decode cJ0_isLatin1_aae02 18 = .ok (.ireturn, 1) := by decide +kernel
theorem dJ0_checkIndex_df160_0 : decode cJ0_checkIndex_df160 0 = .ok (.iload_n 0, 1) := by decide +kernel
theorem dJ0_checkIndex_df160_1 : decode cJ0_checkIndex_df160 1 = .ok (.iload_n 1, 1) := by decide +kernel
theorem dJ0_checkIndex_df160_2 : decode cJ0_checkIndex_df160 2 = .ok (.getstatic 1053, 3) := by decide +kernel
theorem dJ0_checkIndex_df160_5 : decode cJ0_checkIndex_df160 5 = .ok (.invokestatic 1059, 3) := by decide +kernel
theorem dJ0_checkIndex_df160_8 : decode cJ0_checkIndex_df160 8 = .ok (.pop, 1) := by decide +kernel
theorem dJ0_checkIndex_df160_9 : decode cJ0_checkIndex_df160 9 = .ok (.return_, 1) := by decide +kernel
theorem dJ1_charAt_3b067_0 : decode cJ1_charAt_3b067 0 = .ok (.iload_n 1, 1) := by decide +kernel
theorem dJ1_charAt_3b067_1 : decode cJ1_charAt_3b067 1 = .ok (.aload_n 0, 1) := by decide +kernel
theorem dJ1_charAt_3b067_2 : decode cJ1_charAt_3b067 2 = .ok (.arraylength, 1) := by decide +kernel
theorem dJ1_charAt_3b067_3 : decode cJ1_charAt_3b067 3 = .ok (.invokestatic 9, 3) := by decide +kernel
theorem dJ1_charAt_3b067_6 : decode cJ1_charAt_3b067 6 = .ok (.aload_n 0, 1) := by decide +kernel
theorem dJ1_charAt_3b067_7 : decode cJ1_charAt_3b067 7 = .ok (.iload_n 1, 1) := by decide +kernel
theorem dJ1_charAt_3b067_8 : decode cJ1_charAt_3b067 8 = .ok (.baload, 1) := by decide +kernel
theorem dJ1_charAt_3b067_9 : decode cJ1_charAt_3b067 9 = .ok (.sipush 255, 3) := by decide +kernel
theorem dJ1_charAt_3b067_12 : decode cJ1_charAt_3b067 12 = .ok (.iand, 1) := by decide +kernel
theorem dJ1_charAt_3b067_13 : decode cJ1_charAt_3b067 13 = .ok (.i2c, 1) := by decide +kernel
theorem dJ1_charAt_3b067_14 : decode cJ1_charAt_3b067 14 = .ok (.ireturn, 1) := by decide +kernel
theorem dJ2_getChar_3b067_0 : decode cJ2_getChar_3b067 0 = .ok (.getstatic 44, 3) := by decide +kernel
theorem dJ2_getChar_3b067_3 : decode cJ2_getChar_3b067 3 = .ok (.ifCond .ne 25, 3) := by decide +kernel
theorem dJ2_getChar_3b067_6 : decode cJ2_getChar_3b067 6 = .ok (.iload_n 1, 1) := by decide +kernel
theorem dJ2_getChar_3b067_7 : decode cJ2_getChar_3b067 7 = .ok (.ifCond .lt 11, 3) := by decide +kernel
theorem dJ2_getChar_3b067_10 : decode cJ2_getChar_3b067 10 = .ok (.iload_n 1, 1) := by decide +kernel
theorem dJ2_getChar_3b067_11 : decode cJ2_getChar_3b067 11 = .ok (.aload_n 0, 1) := by decide +kernel
theorem dJ2_getChar_3b067_12 : decode cJ2_getChar_3b067 12 = .ok (.invokestatic 48, 3) := by decide +kernel
theorem dJ2_getChar_3b067_15 : decode cJ2_getChar_3b067 15 = .ok (.if_icmp .lt 13, 3) := by decide +kernel
theorem dJ2_getChar_3b067_18 : decode cJ2_getChar_3b067 18 = .ok (.new 52, 3) := by decide +kernel
theorem dJ2_getChar_3b067_21 : decode cJ2_getChar_3b067 21 = .ok (.dup, 1) := by decide +kernel
theorem dJ2_getChar_3b067_22 : decode cJ2_getChar_3b067 22 = .ok (.ldc 54, 2) := by decide +kernel
theorem dJ2_getChar_3b067_24 : decode cJ2_getChar_3b067 24 = .ok (.invokespecial 56, 3) := by decide +kernel
theorem dJ2_getChar_3b067_27 : decode cJ2_getChar_3b067 27 = .ok (.athrow, 1) := by decide +kernel
theorem dJ2_getChar_3b067_28 : decode cJ2_getChar_3b067 28 = .ok (.iload_n 1, 1) := by decide +kernel
theorem dJ2_getChar_3b067_29 : decode cJ2_getChar_3b067 29 = .ok (.iconst 1, 1) := by decide +kernel
theorem dJ2_getChar_3b067_30 : decode cJ2_getChar_3b067 30 = .ok (.ishl, 1) := by decide +kernel
theorem dJ2_getChar_3b067_31 : decode cJ2_getChar_3b067 31 = .ok (.istore_n 1, 1) := by decide +kernel
theorem dJ2_getChar_3b067_32 : decode cJ2_getChar_3b067 32 = .ok (.aload_n 0, 1) := by decide +kernel
theorem dJ2_getChar_3b067_33 : decode cJ2_getChar_3b067 33 = .ok (.iload_n 1, 1) := by decide +kernel
theorem dJ2_getChar_3b067_34 : decode cJ2_getChar_3b067 34 = .ok (.iinc 1 1, 3) := by decide +kernel
theorem dJ2_getChar_3b067_37 : decode cJ2_getChar_3b067 37 = .ok (.baload, 1) := by decide +kernel
theorem dJ2_getChar_3b067_38 : decode cJ2_getChar_3b067 38 = .ok (.sipush 255, 3) := by decide +kernel
theorem dJ2_getChar_3b067_41 : decode cJ2_getChar_3b067 41 = .ok (.iand, 1) := by decide +kernel
theorem dJ2_getChar_3b067_42 : decode cJ2_getChar_3b067 42 = .ok (.getstatic 59, 3) := by decide +kernel
theorem dJ2_getChar_3b067_45 : decode cJ2_getChar_3b067 45 = .ok (.ishl, 1) := by decide +kernel
theorem dJ2_getChar_3b067_46 : decode cJ2_getChar_3b067 46 = .ok (.aload_n 0, 1) := by decide +kernel
theorem dJ2_getChar_3b067_47 : decode cJ2_getChar_3b067 47 = .ok (.iload_n 1, 1) := by decide +kernel
theorem dJ2_getChar_3b067_48 : decode cJ2_getChar_3b067 48 = .ok (.baload, 1) := by decide +kernel
theorem dJ2_getChar_3b067_49 : decode cJ2_getChar_3b067 49 = .ok (.sipush 255, 3) := by decide +kernel
theorem dJ2_getChar_3b067_52 : decode cJ2_getChar_3b067 52 = .ok (.iand, 1) := by decide +kernel
theorem dJ2_getChar_3b067_53 : decode cJ2_getChar_3b067 53 = .ok (.getstatic 63, 3) := by decide +kernel
theorem dJ2_getChar_3b067_56 : decode cJ2_getChar_3b067 56 = .ok (.ishl, 1) := by decide +kernel
theorem dJ2_getChar_3b067_57 : decode cJ2_getChar_3b067 57 = .ok (.ior, 1) := by decide +kernel
theorem dJ2_getChar_3b067_58 : decode cJ2_getChar_3b067 58 = .ok (.i2c, 1) := by decide +kernel
theorem dJ2_getChar_3b067_59 : decode cJ2_getChar_3b067 59 = .ok (.ireturn, 1) := by decide +kernel
theorem dJ2_length_9d52b_0 : decode cJ2_length_9d52b 0 = .ok (.aload_n 0, 1) := by decide +kernel
theorem dJ2_length_9d52b_1 : decode cJ2_length_9d52b 1 = .ok (.arraylength, 1) := by decide +kernel
theorem dJ2_length_9d52b_2 : decode cJ2_length_9d52b 2 = .ok (.iconst 1, 1) := by decide +kernel
theorem dJ2_length_9d52b_3 : decode cJ2_length_9d52b 3 = .ok (.ishr, 1) := by decide +kernel
theorem dJ2_length_9d52b_4 : decode cJ2_length_9d52b 4 = .ok (.ireturn, 1) := by decide +kernel
theorem dJ2_charAt_3b067_0 : decode cJ2_charAt_3b067 0 = .ok (.iload_n 1, 1) := by decide +kernel
theorem dJ2_charAt_3b067_1 : decode cJ2_charAt_3b067 1 = .ok (.aload_n 0, 1) := by decide +kernel
theorem dJ2_charAt_3b067_2 : decode cJ2_charAt_3b067 2 = .ok (.invokestatic 67, 3) := by decide +kernel
theorem dJ2_charAt_3b067_5 : decode cJ2_charAt_3b067 5 = .ok (.aload_n 0, 1) := by decide +kernel
theorem dJ2_charAt_3b067_6 : decode cJ2_charAt_3b067 6 = .ok (.iload_n 1, 1) := by decide +kernel
theorem dJ2_charAt_3b067_7 : decode cJ2_charAt_3b067 7 = .ok (.invokestatic 71, 3) := by decide +kernel
theorem dJ2_charAt_3b067_10 : decode cJ2_charAt_3b067 10 = .ok (.ireturn, 1) := by decide +kernel
theorem dJ2_checkIndex_2214a_0 : decode cJ2_checkIndex_2214a 0 = .ok (.iload_n 0, 1) := by decide +kernel
theorem dJ2_checkIndex_2214a_1 : decode cJ2_checkIndex_2214a 1 = .ok (.aload_n 1, 1) := by decide +kernel
theorem dJ2_checkIndex_2214a_2 : decode cJ2_checkIndex_2214a 2 = .ok (.invokestatic 48, 3) := by decide +kernel
theorem dJ2_checkIndex_2214a_5 : decode cJ2_checkIndex_2214a 5 = .ok (.invokestatic 414, 3) := by decide +kernel
theorem dJ2_checkIndex_2214a_8 : decode cJ2_checkIndex_2214a 8 = .ok (.return_, 1) := by decide +kernel
theorem dJ7_fill_53178_0 : decode cJ7_fill_53178 0 = .ok (.iconst 0, 1) := by decide +kernel
theorem dJ7_fill_53178_1 : decode cJ7_fill_53178 1 = .ok (.istore_n 2, 1) := by decide +kernel
theorem dJ7_fill_53178_2 : decode cJ7_fill_53178 2 = .ok (.aload_n 0, 1) := by decide +kernel
theorem dJ7_fill_53178_3 : decode cJ7_fill_53178 3 = .ok (.arraylength, 1) := by decide +kernel
theorem dJ7_fill_53178_4 : decode cJ7_fill_53178 4 = .ok (.istore_n 3, 1) := by decide +kernel
theorem dJ7_fill_53178_5 : decode cJ7_fill_53178 5 = .ok (.iload_n 2, 1) := by decide +kernel
theorem dJ7_fill_53178_6 : decode cJ7_fill_53178 6 = .ok (.iload_n 3, 1) := by decide +kernel
theorem dJ7_fill_53178_7 : decode cJ7_fill_53178 7 = .ok (.if_icmp .ge 13, 3) := by decide +kernel
theorem dJ7_fill_53178_10 : decode cJ7_fill_53178 10 = .ok (.aload_n 0, 1) := by decide +kernel
theorem dJ7_fill_53178_11 : decode cJ7_fill_53178 11 = .ok (.iload_n 2, 1) := by decide +kernel
theorem dJ7_fill_53178_12 : decode cJ7_fill_53178 12 = .ok (.iload_n 1, 1) := by decide +kernel
theorem dJ7_fill_53178_13 : decode cJ7_fill_53178 13 = .ok (.iastore, 1) := by decide +kernel
theorem dJ7_fill_53178_14 : decode cJ7_fill_53178 14 = .ok (.iinc 2 1, 3) := by decide +kernel
theorem dJ7_fill_53178_17 : decode cJ7_fill_53178 17 = .ok (.goto (-12), 3) := by decide +kernel
theorem dJ7_fill_53178_20 : decode cJ7_fill_53178 20 = .ok (.return_, 1) := by decide +kernel
theorem dJ7_copyOf_59c91_0 : decode cJ7_copyOf_59c91 0 = .ok (.iload_n 1, 1) := by decide +kernel
theorem dJ7_copyOf_59c91_1 : decode cJ7_copyOf_59c91 1 = .ok (.aload_n 0, 1) := by decide +kernel
theorem dJ7_copyOf_59c91_2 : decode cJ7_copyOf_59c91 2 = .ok (.arraylength, 1) := by decide +kernel
theorem dJ7_copyOf_59c91_3 : decode cJ7_copyOf_59c91 3 = .ok (.if_icmp .ne 11, 3) := by decide +kernel
theorem dJ7_copyOf_59c91_6 : decode cJ7_copyOf_59c91 6 = .ok (.aload_n 0, 1) := by decide +kernel
theorem dJ7_copyOf_59c91_7 : decode cJ7_copyOf_59c91 7 = .ok (.invokevirtual 316, 3) := by decide +kernel
theorem dJ7_copyOf_59c91_10 : decode cJ7_copyOf_59c91 10 = .ok (.checkcast 317, 3) := by decide +kernel
theorem dJ7_copyOf_59c91_13 : decode cJ7_copyOf_59c91 13 = .ok (.areturn, 1) := by decide +kernel
theorem dJ7_copyOf_59c91_14 : decode cJ7_copyOf_59c91 14 = .ok (.iload_n 1, 1) := by decide +kernel
theorem dJ7_copyOf_59c91_15 : decode cJ7_copyOf_59c91 15 = .ok (.newarray .int, 2) := by decide +kernel
theorem dJ7_copyOf_59c91_17 : decode cJ7_copyOf_59c91 17 = .ok (.astore_n 2, 1) := by decide +kernel
theorem dJ7_copyOf_59c91_18 : decode cJ7_copyOf_59c91 18 = .ok (.aload_n 0, 1) := by decide +kernel
theorem dJ7_copyOf_59c91_19 : decode cJ7_copyOf_59c91 19 = .ok (.iconst 0, 1) := by decide +kernel
theorem dJ7_copyOf_59c91_20 : decode cJ7_copyOf_59c91 20 = .ok (.aload_n 2, 1) := by decide +kernel
theorem dJ7_copyOf_59c91_21 : decode cJ7_copyOf_59c91 21 = .ok (.iconst 0, 1) := by decide +kernel
theorem dJ7_copyOf_59c91_22 : decode cJ7_copyOf_59c91 22 = .ok (.aload_n 0, 1) := by decide +kernel
theorem dJ7_copyOf_59c91_23 : decode cJ7_copyOf_59c91 23 = .ok (.arraylength, 1) := by decide +kernel
theorem dJ7_copyOf_59c91_24 : decode cJ7_copyOf_59c91 24 = .ok (.iload_n 1, 1) := by decide +kernel
theorem dJ7_copyOf_59c91_25 : decode cJ7_copyOf_59c91 25 = .ok (.invokestatic 304, 3) := by decide +kernel
theorem dJ7_copyOf_59c91_28 : decode cJ7_copyOf_59c91 28 = .ok (.invokestatic 150, 3) := by decide +kernel
theorem dJ7_copyOf_59c91_31 : decode cJ7_copyOf_59c91 31 = .ok (.aload_n 2, 1) := by decide +kernel
theorem dJ7_copyOf_59c91_32 : decode cJ7_copyOf_59c91 32 = .ok (.areturn, 1) := by decide +kernel
theorem dJ3_checkIndex_8e157_0 : decode cJ3_checkIndex_8e157 0 = .ok (.iload_n 0, 1) := by decide +kernel
theorem dJ3_checkIndex_8e157_1 : decode cJ3_checkIndex_8e157 1 = .ok (.ifCond .lt 8, 3) := by decide +kernel
theorem dJ3_checkIndex_8e157_4 : decode cJ3_checkIndex_8e157 4 = .ok (.iload_n 0, 1) := by decide +kernel
theorem dJ3_checkIndex_8e157_5 : decode cJ3_checkIndex_8e157 5 = .ok (.iload_n 1, 1) := by decide +kernel
theorem dJ3_checkIndex_8e157_6 : decode cJ3_checkIndex_8e157 6 = .ok (.if_icmp .lt 10, 3) := by decide +kernel
theorem dJ3_checkIndex_8e157_9 : decode cJ3_checkIndex_8e157 9 = .ok (.aload_n 2, 1) := by decide +kernel
theorem dJ3_checkIndex_8e157_10 : decode cJ3_checkIndex_8e157 10 = .ok (.iload_n 0, 1) := by decide +kernel
theorem dJ3_checkIndex_8e157_11 : decode cJ3_checkIndex_8e157 11 = .ok (.iload_n 1, 1) := by decide +kernel
theorem dJ3_checkIndex_8e157_12 : decode cJ3_checkIndex_8e157 12 = .ok (.invokestatic 95, 3) := by decide +kernel
theorem dJ3_checkIndex_8e157_15 : decode cJ3_checkIndex_8e157 15 = .ok (.athrow, 1) := by decide +kernel
theorem dJ3_checkIndex_8e157_16 : decode cJ3_checkIndex_8e157 16 = .ok (.iload_n 0, 1) := by decide +kernel
theorem dJ3_checkIndex_8e157_17 : decode cJ3_checkIndex_8e157 17 = .ok (.ireturn, 1) := by decide +kernel
end
section
/-! THE ABSTRACT MEMORY. Objects and arrays have numbers (an abstract address); T lists their shapes (kind, length): kinds 0..9 objects of vwCl, 10 byte[], 11 int[], 12 long[], 13 Data[], 14 Library[], 15 int[][]; M holds numbers, longs and references by address and place. -/
abbrev gT : Type := List (Nat × Nat)
abbrev gM : Type := (Nat → Nat → Int32) × (Nat → Nat → Int64) × (Nat → Nat → Option Nat)
def gu {α : Type} (f : Nat → Nat → α) (a k : Nat) (v : α) : Nat → Nat → α := fun b j => if b = a ∧ j = k then v else f b j
def gi (M : gM) (a k : Nat) : Int32 := M.1 a k
def gl (M : gM) (a k : Nat) : Int64 := M.2.1 a k
def gr (M : gM) (a k : Nat) : Option Nat := M.2.2 a k
def si (M : gM) (a k : Nat) (v : Int32) : gM := (gu M.1 a k v, M.2.1, M.2.2)
def sl (M : gM) (a k : Nat) (v : Int64) : gM := (M.1, gu M.2.1 a k v, M.2.2)
def sr (M : gM) (a k : Nat) (v : Option Nat) : gM := (M.1, M.2.1, gu M.2.2 a k v)
/-- a fresh thing at a: all 0 -/
def zr (M : gM) (a : Nat) : gM := (fun b j => if b = a then 0 else M.1 b j, fun b j => if b = a then 0 else M.2.1 b j, fun b j => if b = a then none else M.2.2 b j)
/-- arraycopy of numbers from src to dst -/
def cpi (M : gM) (src sp dst dp n : Nat) : gM := (fun b j => if b = dst ∧ dp ≤ j ∧ j < dp + n then M.1 src (sp + (j - dp)) else M.1 b j, M.2.1, M.2.2)
theorem gi_si (M : gM) (a k : Nat) (v : Int32) (b j : Nat) : gi (si M a k v) b j = if b = a ∧ j = k then v else gi M b j := rfl
theorem gi_sl (M : gM) (a k : Nat) (v : Int64) (b j : Nat) : gi (sl M a k v) b j = gi M b j := rfl
theorem gi_sr (M : gM) (a k : Nat) (v : Option Nat) (b j : Nat) : gi (sr M a k v) b j = gi M b j := rfl
theorem gl_si (M : gM) (a k : Nat) (v : Int32) (b j : Nat) : gl (si M a k v) b j = gl M b j := rfl
theorem gl_sl (M : gM) (a k : Nat) (v : Int64) (b j : Nat) : gl (sl M a k v) b j = if b = a ∧ j = k then v else gl M b j := rfl
theorem gl_sr (M : gM) (a k : Nat) (v : Option Nat) (b j : Nat) : gl (sr M a k v) b j = gl M b j := rfl
theorem gr_si (M : gM) (a k : Nat) (v : Int32) (b j : Nat) : gr (si M a k v) b j = gr M b j := rfl
theorem gr_sl (M : gM) (a k : Nat) (v : Int64) (b j : Nat) : gr (sl M a k v) b j = gr M b j := rfl
theorem gr_sr (M : gM) (a k : Nat) (v : Option Nat) (b j : Nat) : gr (sr M a k v) b j = if b = a ∧ j = k then v else gr M b j := rfl
theorem gi_zr (M : gM) (a b j : Nat) : gi (zr M a) b j = if b = a then 0 else gi M b j := rfl
theorem gl_zr (M : gM) (a b j : Nat) : gl (zr M a) b j = if b = a then 0 else gl M b j := rfl
theorem gr_zr (M : gM) (a b j : Nat) : gr (zr M a) b j = if b = a then none else gr M b j := rfl
theorem gi_cpi (M : gM) (s p d q n b j : Nat) : gi (cpi M s p d q n) b j = if b = d ∧ q ≤ j ∧ j < q + n then gi M s (p + (j - q)) else gi M b j := rfl
theorem gl_cpi (M : gM) (s p d q n b j : Nat) : gl (cpi M s p d q n) b j = gl M b j := rfl
theorem gr_cpi (M : gM) (s p d q n b j : Nat) : gr (cpi M s p d q n) b j = gr M b j := rfl
/-- the kinds of a class's fields: 0 a number, 1 a long, 2 a reference -/
def gK (c : Nat) : List Nat := match c with
  | 0 => [2, 0, 0, 0, 2]
  | 1 => [2, 2, 2, 2, 2, 2, 2]
  | 2 => [2, 0, 0]
  | 3 => [0, 0, 0, 2, 2, 0]
  | 4 => [2, 0, 0]
  | 5 => [2, 2, 2, 2, 2, 0, 0, 0, 0, 0, 0]
  | 6 => [2, 0, 0, 0, 0, 1, 0, 0]
  | 7 => [2, 2]
  | 8 => [2, 0, 0, 2, 2, 2, 2, 2, 2]
  | _ => [0, 2, 0, 0, 0, 0, 0, 0, 2, 2, 2, 0, 0, 0, 0, 2, 2, 0, 2, 2, 2, 2, 2, 2, 2, 2, 0]
def gv (ad : Nat → Nat) (v : Value) : Value := match v with
  | .ref a => .ref (ad a)
  | w => w
theorem gv_cat (ad : Nat → Nat) (v : Value) : (gv ad v).category = v.category := by cases v <;> rfl
def gfv (M : gM) (ad : Nat → Nat) (a k kd : Nat) : Value := if kd = 0 then .int (gi M a k) else if kd = 1 then .long (gl M a k) else va_rf ((gr M a k).map ad)
def gE (dA : Nat → ClassId) (ad : Nat → Nat) (M : gM) (a : Nat) (sh : Nat × Nat) : va_E :=
  if sh.1 < 10 then .inr (sh.1, (gK sh.1).mapIdx (gfv M ad a))
  else if sh.1 < 12 then .inl (dA sh.1, sh.2, .inl (fun j => gi M a j))
  else if sh.1 = 12 then .inl (dA sh.1, sh.2, .inr (.inl (fun j => gl M a j)))
  else .inl (dA sh.1, sh.2, .inr (.inr (.inr (.inr (fun j => (gr M a j).map ad)))))
def gW (dA : Nat → ClassId) (ad : Nat → Nat) (T : gT) (M : gM) : va_W := T.mapIdx (fun a sh => (ad a, gE dA ad M a sh))
def gTy (dA : Nat → ClassId) : List (ClassId × FieldType) := [(dA 10, .byte), (dA 11, .int), (dA 12, .long), (dA 13, .object RX0), (dA 14, .object RX3), (dA 15, .array .int)]
theorem gW_get {dA : Nat → ClassId} {ad : Nat → Nat} {T : gT} {M : gM} {a : Nat} {sh : Nat × Nat} (h : T[a]? = some sh) : (gW dA ad T M)[a]? = some (ad a, gE dA ad M a sh) := by
  unfold gW
  rw [List.getElem?_mapIdx, h]
  rfl
theorem gW_len {dA : Nat → ClassId} {ad : Nat → Nat} {T : gT} {M : gM} : (gW dA ad T M).length = T.length := by simp [gW]
theorem gW_inv {dA : Nat → ClassId} {ad : Nat → Nat} {T : gT} {M : gM} {k : Nat} {q : Nat × va_E} (h : (gW dA ad T M)[k]? = some q) : ∃ sh, T[k]? = some sh ∧ q = (ad k, gE dA ad M k sh) := by
  unfold gW at h
  rw [List.getElem?_mapIdx] at h
  cases hk : T[k]? with
  | none => rw [hk] at h; cases h
  | some sh => rw [hk] at h; exact ⟨sh, rfl, (Option.some.inj h).symm⟩
/-- the world with one cell written is the world of the written memory -/
theorem gW_set {dA : Nat → ClassId} {ad : Nat → Nat} {T : gT} {M M' : gM} {a : Nat} {sh : Nat × Nat} {e : va_E} (h : T[a]? = some sh) (he : gE dA ad M' a sh = e) (hne : ∀ b sh', b ≠ a → gE dA ad M' b sh' = gE dA ad M b sh') : (gW dA ad T M).set a (ad a, e) = gW dA ad T M' := by
  apply List.ext_getElem?
  intro k
  by_cases hk : k = a
  · subst hk
    rw [List.getElem?_set_self (by rw [gW_len]; exact (List.getElem?_eq_some_iff.mp h).1), gW_get h, he]
  · rw [List.getElem?_set_ne (Ne.symm hk)]
    unfold gW
    rw [List.getElem?_mapIdx, List.getElem?_mapIdx]
    cases T[k]? with
    | none => rfl
    | some sh' => simp only [Option.map_some, hne k sh' hk]
theorem gE_ext {dA : Nat → ClassId} {ad : Nat → Nat} {M M' : gM} {a : Nat} {sh : Nat × Nat} (h1 : ∀ j, gi M' a j = gi M a j) (h2 : ∀ j, gl M' a j = gl M a j) (h3 : ∀ j, gr M' a j = gr M a j) : gE dA ad M' a sh = gE dA ad M a sh := by
  have e0 : gfv M' ad a = gfv M ad a := by
    funext k kd
    simp only [gfv, h1, h2, h3]
  simp only [gE, e0, h1, h2, h3]
theorem gE_si {dA : Nat → ClassId} {ad : Nat → Nat} {M : gM} {a k : Nat} {v : Int32} : ∀ b sh', b ≠ a → gE dA ad (si M a k v) b sh' = gE dA ad M b sh' := fun b sh' hb => gE_ext (fun j => by rw [gi_si, if_neg (fun q => hb q.1)]) (fun j => rfl) (fun j => rfl)
theorem gE_sl {dA : Nat → ClassId} {ad : Nat → Nat} {M : gM} {a k : Nat} {v : Int64} : ∀ b sh', b ≠ a → gE dA ad (sl M a k v) b sh' = gE dA ad M b sh' := fun b sh' hb => gE_ext (fun j => rfl) (fun j => by rw [gl_sl, if_neg (fun q => hb q.1)]) (fun j => rfl)
theorem gE_sr {dA : Nat → ClassId} {ad : Nat → Nat} {M : gM} {a k : Nat} {v : Option Nat} : ∀ b sh', b ≠ a → gE dA ad (sr M a k v) b sh' = gE dA ad M b sh' := fun b sh' hb => gE_ext (fun j => rfl) (fun j => rfl) (fun j => by rw [gr_sr, if_neg (fun q => hb q.1)])
theorem gE_cpi {dA : Nat → ClassId} {ad : Nat → Nat} {M : gM} {s p d q n : Nat} : ∀ b sh', b ≠ d → gE dA ad (cpi M s p d q n) b sh' = gE dA ad M b sh' := fun b sh' hb => gE_ext (fun j => by rw [gi_cpi, if_neg (fun z => hb z.1)]) (fun j => rfl) (fun j => rfl)
theorem gfs_get {M : gM} {ad : Nat → Nat} {a k c kd : Nat} (h : (gK c)[k]? = some kd) : ((gK c).mapIdx (gfv M ad a))[k]? = some (gfv M ad a k kd) := by
  rw [List.getElem?_mapIdx, h]; rfl
theorem gfs_set {M M' : gM} {ad : Nat → Nat} {a k c kd : Nat} {v : Value} (h : (gK c)[k]? = some kd) (hv : gfv M' ad a k kd = v) (hne : ∀ j kd', j ≠ k → gfv M' ad a j kd' = gfv M ad a j kd') : (gK c).mapIdx (gfv M' ad a) = ((gK c).mapIdx (gfv M ad a)).set k v := by
  apply List.ext_getElem?
  intro j
  by_cases hj : j = k
  · subst hj
    rw [List.getElem?_set_self (by rw [List.length_mapIdx]; exact (List.getElem?_eq_some_iff.mp h).1), List.getElem?_mapIdx, h]
    simp only [Option.map_some, hv]
  · rw [List.getElem?_set_ne (Ne.symm hj), List.getElem?_mapIdx, List.getElem?_mapIdx]
    cases (gK c)[j]? with
    | none => rfl
    | some kd' => simp only [Option.map_some, hne j kd' hj]
theorem gfv_si {M : gM} {ad : Nat → Nat} {a k : Nat} {v : Int32} : ∀ j kd', j ≠ k → gfv (si M a k v) ad a j kd' = gfv M ad a j kd' := fun j kd' hj => by
  simp only [gfv, gi_si, gl_si, gr_si, true_and, if_neg hj]
theorem gfv_sl {M : gM} {ad : Nat → Nat} {a k : Nat} {v : Int64} : ∀ j kd', j ≠ k → gfv (sl M a k v) ad a j kd' = gfv M ad a j kd' := fun j kd' hj => by
  simp only [gfv, gi_sl, gl_sl, gr_sl, true_and, if_neg hj]
theorem gfv_sr {M : gM} {ad : Nat → Nat} {a k : Nat} {v : Option Nat} : ∀ j kd', j ≠ k → gfv (sr M a k v) ad a j kd' = gfv M ad a j kd' := fun j kd' hj => by
  simp only [gfv, gi_sr, gl_sr, gr_sr, true_and, if_neg hj]
/-- every reference held is to a thing that is there -/
def gCl (T : gT) (M : gM) : Prop := ∀ a k b : Nat, gr M a k = some b → b < T.length
theorem gCl_si {T : gT} {M : gM} {a k : Nat} {v : Int32} (h : gCl T M) : gCl T (si M a k v) := h
theorem gCl_sl {T : gT} {M : gM} {a k : Nat} {v : Int64} (h : gCl T M) : gCl T (sl M a k v) := h
theorem gCl_cpi {T : gT} {M : gM} {s p d q n : Nat} (h : gCl T M) : gCl T (cpi M s p d q n) := h
theorem gCl_sr {T : gT} {M : gM} {a k b : Nat} (h : gCl T M) (hb : b < T.length) : gCl T (sr M a k (some b)) := fun a' k' b' e => by
  rw [gr_sr] at e
  split at e
  · cases e; exact hb
  · exact h a' k' b' e
theorem gCl_zr {T : gT} {M : gM} {a : Nat} {sh : Nat × Nat} (h : gCl T M) : gCl (T ++ [sh]) (zr M a) := fun a' k' b' e => by
  rw [gr_zr] at e
  split at e
  · cases e
  · have := h a' k' b' e
    rw [List.length_append]
    omega
/-- the strings: abstract addresses from gSB on; what they spell -/
def gSB : Nat := 1000000
def gStrs : List (List Nat) := ["link".toList.map Char.toNat, "name".toList.map Char.toNat, "library".toList.map Char.toNat, "offer".toList.map Char.toNat, "prefer".toList.map Char.toNat, "share".toList.map Char.toNat, "weight".toList.map Char.toNat, "keeps".toList.map Char.toNat, "to".toList.map Char.toNat, "trust".toList.map Char.toNat, "rank".toList.map Char.toNat, "offers".toList.map Char.toNat, "friends".toList.map Char.toNat]
/-! THE JUDGEMENT. K: what the machine's frame owes at a place, by heap, written places, cells, slots, pc, locals and stack. -/
abbrev gZ : Type := (Heap → List Loc → Nat → Nat → Nat → Array Slot → List Value → Prop) × (Nat → Prop) × Heap × va_G × (Nat → ClassId) × Nat × (Nat → Nat)
def gmp (ad : Nat → Nat) (ls : List (Nat × Value)) : List (Nat × Value) := ls.map (fun q => (q.1, gv ad q.2))
def gRp (Z : gZ) (ad : Nat → Nat) (T : gT) (M : gM) (H : Heap) (locs : List Loc) : Prop := va_P Z.2.2.2.1 vwCl (gW Z.2.2.2.2.1 ad T M) H ∧ va_D Z.2.1 (gW Z.2.2.2.2.1 ad T M) ∧ va_S Z.2.1 Z.2.2.1 H locs ∧ gCl T M ∧ ∀ a : Nat, gSB ≤ a → ad a = Z.2.2.2.2.2.2 a
def gG (Z : gZ) (ad : Nat → Nat) (T : gT) (M : gM) (ce so pc : Nat) (ls : List (Nat × Value)) (st : List Value) : Prop :=
  ∀ (H : Heap) (locs : List Loc) (la : Array Slot), gRp Z ad T M H locs → lv_has la Z.2.2.2.2.2.1 (gmp ad ls) → Z.1 H locs ce so pc la (st.map (gv ad))
theorem gl_at {la : Array Slot} {nL : Nat} {ad : Nat → Nat} {ls : List (Nat × Value)} (h : lv_has la nL (gmp ad ls)) (j : Nat) {i : Nat} {v : Value} (hj : ls[j]? = some (i, v)) : la[i]? = some (.val (gv ad v)) := lv_at h j (by rw [gmp, List.getElem?_map, hj]; rfl)
theorem gl_st1 {ad : Nat → Nat} {i : Nat} {v : Value} {ls ls' : List (Nat × Value)} (h : (i, v) :: ls.filter (fun q => !(q.1 == i) && !(q.1 + 1 == i && q.2.category == 2)) = ls') : (i, gv ad v) :: (gmp ad ls).filter (fun q => !(q.1 == i) && !(q.1 + 1 == i && q.2.category == 2)) = gmp ad ls' := by
  subst h
  simp only [gmp, List.filter_map, List.map_cons]
  congr 2
  apply List.filter_congr
  intro x _
  simp only [Function.comp, gv_cat]
theorem gl_st2 {ad : Nat → Nat} {i : Nat} {v : Value} {ls ls' : List (Nat × Value)} (h : (i, v) :: ls.filter (fun q => !(q.1 == i) && (!(q.1 == i + 1) && !(q.1 + 1 == i && q.2.category == 2))) = ls') : (i, gv ad v) :: (gmp ad ls).filter (fun q => !(q.1 == i) && (!(q.1 == i + 1) && !(q.1 + 1 == i && q.2.category == 2))) = gmp ad ls' := by
  subst h
  simp only [gmp, List.filter_map, List.map_cons]
  congr 2
  apply List.filter_congr
  intro x _
  simp only [Function.comp, gv_cat]
theorem gG_sub {Z : gZ} {ad : Nat → Nat} {T : gT} {M : gM} {ce so pc : Nat} {ls ls' : List (Nat × Value)} {st : List Value} (ks : List Nat) (h : lv_pick ls ks = ls') (k : gG Z ad T M ce so pc ls' st) : gG Z ad T M ce so pc ls st := by
  intro H locs la hR hl
  refine k H locs la hR (lv_sub hl ks ?_)
  subst h
  unfold lv_pick gmp
  rw [List.map_filterMap]
  congr 1
  funext x
  rw [List.getElem?_map]
/-- the words of the nest mates, which aren't passed by the lists -/
def gNb (w : Cond) : Bool := match w with
  | .fieldLinkNest .. => true
  | .methodLinkNest .. => true
  | .declares _ => true
  | .castable _ _ => true
  | _ => false
def gNw : List Cond := lw_tbl.filter gNb
/-- the class of int[][] is there -/
def va_AO2 (U : State) : Prop := ∃ (comp c : ClassId) (k : Class), U.vm.findClass (FieldType.array .int).toString = some comp ∧ (U.vm.classes.findIdx? fun (x : Class) => match x.kind with | .array component _ => component == comp | _ => false) = some c ∧ U.vm.classes[c]? = some k ∧ k.kind = .array comp (.array .int) ∧ U.vm.findClass ("[" ++ (FieldType.array .int).toString) = some c
theorem va_AO2.moved {u U : State} (hvm : u.vm.Alike U.vm) (h : va_AO2 u) : va_AO2 U := by
  obtain ⟨comp, c, k, h1, h2, h3, h4, h5⟩ := h
  obtain ⟨k', hk', he⟩ := hvm.2.2 _ _ h3
  refine ⟨comp, c, k', by rw [hvm.findClass]; exact h1, ?_, hk', by rw [he]; exact h4, by rw [hvm.findClass]; exact h5⟩
  have e1 := va_idx_bare U.vm comp
  rw [hvm.bare_eq] at e1
  exact (e1.symm.trans (va_idx_bare u.vm comp)).trans h2
/-- the String constants by class and entry: what they spell, and their abstract addresses -/
def gLit : List (String × Nat × String × Nat) := [("LinkElection", 234, "there is no such library", gSB + 13), ("LinkElection", 129, "what is not 0 to 5", gSB + 14), ("LinkElection", 237, "there is no such name", gSB + 15), ("LinkElection", 65, "length is not within the buffer", gSB + 16), ("LinkElection$SetupReader", 69, "link", gSB + 0), ("LinkElection$SetupReader", 99, "name", gSB + 1), ("LinkElection$SetupReader", 107, "library", gSB + 2), ("LinkElection$SetupReader", 164, "keeps", gSB + 7), ("LinkElection$SetupReader", 112, "offer", gSB + 3), ("LinkElection$SetupReader", 180, "to", gSB + 8), ("LinkElection$SetupReader", 117, "prefer", gSB + 4), ("LinkElection$SetupReader", 122, "share", gSB + 5), ("LinkElection$SetupReader", 127, "weight", gSB + 6), ("LinkElection$SetupReader", 206, "trust", gSB + 9), ("LinkElection$SetupReader", 208, "rank", gSB + 10), ("LinkElection$SetupReader", 210, "offers", gSB + 11), ("LinkElection$SetupReader", 211, "friends", gSB + 12), ("LinkElection", 175, "the library is not loaded", gSB + 17), ("LinkElection", 184, "the library is loaded", gSB + 18), ("LinkElection", 193, "value is not 0 to 9999", gSB + 19), ("LinkElection", 203, "the library does not offer this name", gSB + 20), ("LinkElection", 205, "trust is not 0 to 999", gSB + 21), ("LinkElection", 207, "share is not 0 to 100", gSB + 22), ("LinkElectionModel", 220, "link", gSB + 0), ("LinkElectionModel", 189, "name", gSB + 1), ("LinkElectionModel", 194, "library", gSB + 2), ("LinkElectionModel", 177, "keeps", gSB + 7), ("LinkElectionModel", 199, "offer", gSB + 3), ("LinkElectionModel", 183, "to", gSB + 8), ("LinkElectionModel", 204, "prefer", gSB + 4), ("LinkElectionModel", 209, "share", gSB + 5), ("LinkElectionModel", 214, "weight", gSB + 6), ("LinkElectionModel", 128, "trust", gSB + 9), ("LinkElectionModel", 134, "rank", gSB + 10), ("LinkElectionModel", 136, "offers", gSB + 11), ("LinkElectionModel", 138, "friends", gSB + 12)]
/-- the tables' words that a call hands on -/
def gWS : List Cond := lw_tbl.filter goodWord
theorem gws_of {w : Cond} (i : Nat) (h : lw_tbl[i]? = some w) (hg : goodWord w = true) : w ∈ gWS := List.mem_filter.mpr ⟨List.mem_of_getElem? h, hg⟩
theorem gnw_of {w : Cond} (i : Nat) (h : lw_tbl[i]? = some w) (hg : gNb w = true) : w ∈ gNw := List.mem_filter.mpr ⟨List.mem_of_getElem? h, hg⟩
/-- pairs of exceptions of which the first isn't the second -/
def gNcs : List (String × String) := [("java/lang/IllegalArgumentException", "java/lang/IndexOutOfBoundsException"), ("java/lang/IllegalStateException", "java/lang/IndexOutOfBoundsException")]
/-- what a method may take for granted of the machine's state, beside its memory -/
def gEnv (A : Nat → Prop) (adV ad : Nat → Nat) (U : State) (H : Heap) : Prop :=
  (∀ w ∈ gNw, va_Nw w U) ∧ (∀ q ∈ gLit, vk_R q.1 q.2.1 q.2.2.1 (ad q.2.2.2) U) ∧ vk_S 13 (gStrs.map List.length) (gStrs.map (fun l => l.map Int32.ofNat)) (fun i => ad (gSB + i)) adV A U H ∧
  vx_Zq Bundle.tN "UNASSIGNED_STACK" Bundle.steD A U H ∧ vx_Zq Bundle.tN "SUPPRESSED_SENTINEL" Bundle.listD A U H ∧ va_AO RX0 U ∧ va_AO RX3 U ∧ va_AO2 U ∧ (∀ q ∈ gNcs, va_Nc q.1 q.2 U) ∧
  va_Z "java/lang/String" "COMPACT_STRINGS" "Z" (.int 1) A U H ∧ (va_Z "jdk/internal/util/Preconditions" "SIOOBE_FORMATTER" "Ljava/util/function/BiFunction;" .null A U H ∨ va_Z "jdk/internal/util/Preconditions" "SIOOBE_FORMATTER" "Ljava/util/function/BiFunction;" (.ref (ad (gSB + 2000))) A U H) ∧ ∀ i : Nat, i < 13 → ad (gSB + 1000 + i) = adV i
end
section
/-! THE CONTEXT of a walk: what a method's frame stands on, hidden behind one word. -/
/-- the exceptions by number -/
def gExN (k : Nat) : String := match k with
  | 1 => "java/lang/IllegalArgumentException"
  | 2 => "java/lang/IndexOutOfBoundsException"
  | _ => "java/lang/IllegalStateException"
/-- the tables' words of a throw -/
def gThr (own : String) (ik ic k : Nat) : Prop := Cond.classLink own ik (gExN k) ∈ gWS ∧ Cond.initialized (gExN k) ∈ gWS ∧ (∀ w ∈ vx_atS own ic (gExN k) ["java/lang/RuntimeException", "java/lang/Exception"], w ∈ gWS ∨ w ∈ gNw) ∧ Bundle.fit (gExN k) = true
def gBase (Z : gZ) (cc : ByteArray) (own nm : String) (rt : Option FieldType) (d mc ms : Nat) (Acc : Option Value → (Nat → Nat) → gT → gM → Prop) (AccX : Nat → (Nat → Nat) → gT → gM → Prop) (p : Program) (l : Launch) (e : Env) (R : Room) (s : State) (m : MethodId) (args : Array Value) (below : List Frame) (meth : Method) (c : Code) (Q : State → Prop) (adV : Nat → Nat) : Prop :=
  Z.1 = (fun H locs ce so pc la st => W p l e R s m args below meth c H locs ce so Q (F0 m pc la st)) ∧ p.tables.exec = Jvm.exec ∧ c.code = cc ∧
  c.maxLocals = Z.2.2.2.2.2.1 ∧ s.vm.findClass own = some m.cls ∧ (∀ w ∈ gWS, w.before args s = true) ∧ va_K Z.2.2.2.1 vwCl (gTy Z.2.2.2.2.1) s ∧ Z.2.2.1 = s.heap ∧ (∀ q : Nat, s.heap.size ≤ q → Z.2.1 q) ∧ gEnv Z.2.1 adV Z.2.2.2.2.2.2 s s.heap ∧
  (d ≤ R.frames ∧ 64 * d ≤ R.locals ∧ mc ≤ R.cells ∧ ms ≤ R.slots) ∧ meth.name = nm ∧ meth.locks = false ∧ l.stackTraces = false ∧
  ((∀ (H : Heap) (locs : List Loc) (ce so pc : Nat) (la : Array Slot) (ad : Nat → Nat) (T : gT) (M : gM) (x : Int32) (ty : FieldType), gRp Z ad T M H locs → rt = some ty → narrow ty (.int x) = .int x → decode cc pc = .ok (.ireturn, 1) → Acc (some (.int x)) ad T M → ce ≤ mc → so ≤ ms → W p l e R s m args below meth c H locs ce so Q (F0 m pc la [.int x])) ∧
   (∀ (H : Heap) (locs : List Loc) (ce so pc : Nat) (la : Array Slot) (ad : Nat → Nat) (T : gT) (M : gM) (x : Int64), gRp Z ad T M H locs → rt = some .long → decode cc pc = .ok (.lreturn, 1) → Acc (some (.long x)) ad T M → ce ≤ mc → so ≤ ms → W p l e R s m args below meth c H locs ce so Q (F0 m pc la [.long x])) ∧
   (∀ (H : Heap) (locs : List Loc) (ce so pc : Nat) (la : Array Slot) (ad : Nat → Nat) (T : gT) (M : gM) (a : Nat) (ty : FieldType), gRp Z ad T M H locs → rt = some ty → ((∃ n, ty = .object n) ∨ ∃ t, ty = .array t) → decode cc pc = .ok (.areturn, 1) → Acc (some (.ref a)) ad T M → ce ≤ mc → so ≤ ms → W p l e R s m args below meth c H locs ce so Q (F0 m pc la [.ref (ad a)])) ∧
   (∀ (H : Heap) (locs : List Loc) (ce so pc : Nat) (la : Array Slot) (ad : Nat → Nat) (T : gT) (M : gM), gRp Z ad T M H locs → rt = none → decode cc pc = .ok (.return_, 1) → Acc none ad T M → ce ≤ mc → so ≤ ms → W p l e R s m args below meth c H locs ce so Q (F0 m pc la [])) ∧
   (∀ (H : Heap) (locs : List Loc) (ce so pc : Nat) (la : Array Slot) (rest : List Value) (ad : Nat → Nat) (T : gT) (M : gM) (k ik is ic : Nat) (text : String) (sa : Nat), gRp Z ad T M H locs → AccX k ad T M → la.size = c.maxLocals → gThr own ik ic k → vk_R own is text sa s → decode cc pc = .ok (.new ik, 3) → decode cc (pc + 3) = .ok (.dup, 1) → decode cc (pc + 4) = .ok (.ldc is, 2) → decode cc (pc + 6) = .ok (.invokespecial ic, 3) → decode cc (pc + 9) = .ok (.athrow, 1) → (rest.map fun v => v.category).sum ≤ 8 → 6 ≤ d → ce + 1 ≤ mc → so + 6 ≤ ms → W p l e R s m args below meth c H locs ce so Q (F0 m pc la rest)) ∧
   (∀ (H : Heap) (locs : List Loc) (ce so pc : Nat) (la : Array Slot) (rest : List Value) (ad : Nat → Nat) (T : gT) (M : gM) (k q : Nat) (cell : Cell), gRp Z ad T M H locs → AccX k ad T M → H[q]? = some cell → cell.vm = .none → s.vm.findClass (gExN k) = some cell.cls → ce ≤ mc → so ≤ ms → vx_W p l e R s m args below meth c H locs ce so Q (F0 m pc la rest) q))
def gFix (Z : gZ) (cc : ByteArray) (own nm : String) (rt : Option FieldType) (d mc ms : Nat) (Acc : Option Value → (Nat → Nat) → gT → gM → Prop) (AccX : Nat → (Nat → Nat) → gT → gM → Prop) : Prop :=
  ∃ (p : Program) (l : Launch) (e : Env) (R : Room) (s : State) (m : MethodId) (args : Array Value) (below : List Frame) (meth : Method) (c : Code) (Q : State → Prop) (adV : Nat → Nat), gBase Z cc own nm rt d mc ms Acc AccX p l e R s m args below meth c Q adV
section GR
variable {Z : gZ} {cc : ByteArray} {own nm : String} {rt : Option FieldType} {d mc ms : Nat} {Acc : Option Value → (Nat → Nat) → gT → gM → Prop} {AccX : Nat → (Nat → Nat) → gT → gM → Prop} {ad : Nat → Nat} {T : gT} {M : gM} {ce so pc : Nat} {ls ls' : List (Nat × Value)} {st : List Value}
theorem gG_wid {k n : Nat} (hF : gFix Z cc own nm rt d mc ms Acc AccX) (h1 : ce ≤ k) (h2 : so ≤ n) (kk : gG Z ad T M k n pc ls st) : gG Z ad T M ce so pc ls st := by
  obtain ⟨p, l, e, R, s, m, args, below, meth, c, Q, adV, hKq, -⟩ := hF
  intro H locs la hR hl
  have kk := kk H locs la hR hl
  rw [hKq] at kk ⊢
  exact W.widen h1 h2 kk
theorem g_iconst (hF : gFix Z cc own nm rt d mc ms Acc AccX) {n : Int} {v : Int32} (hv : Int32.ofInt n = v) (hd : decode cc pc = .ok (.iconst n, 1))
    (k : gG Z ad T M ce so (pc + 1) ls (.int v :: st)) : gG Z ad T M ce so pc ls (st) := by
  obtain ⟨p, l, e, R, s, m, args, below, meth, c, Q, adV, hKq, hx, hb, hml, hown, hts, hK, hH, hA, hE, hRm, hnm, hlk, -⟩ := hF
  intro H locs la hR hl
  have k := k H locs la hR hl
  rw [hKq] at k ⊢
  exact lv_iconst hx hb hd hv k
theorem g_bipush (hF : gFix Z cc own nm rt d mc ms Acc AccX) {n : Int} {v : Int32} (hv : (Int8.ofInt n).toInt32 = v) (hd : decode cc pc = .ok (.bipush n, 2))
    (k : gG Z ad T M ce so (pc + 2) ls (.int v :: st)) : gG Z ad T M ce so pc ls (st) := by
  obtain ⟨p, l, e, R, s, m, args, below, meth, c, Q, adV, hKq, hx, hb, hml, hown, hts, hK, hH, hA, hE, hRm, hnm, hlk, -⟩ := hF
  intro H locs la hR hl
  have k := k H locs la hR hl
  rw [hKq] at k ⊢
  exact lv_bipush hx hb hd hv k
theorem g_sipush (hF : gFix Z cc own nm rt d mc ms Acc AccX) {n : Int} {v : Int32} (hv : (Int16.ofInt n).toInt32 = v) (hd : decode cc pc = .ok (.sipush n, 3))
    (k : gG Z ad T M ce so (pc + 3) ls (.int v :: st)) : gG Z ad T M ce so pc ls (st) := by
  obtain ⟨p, l, e, R, s, m, args, below, meth, c, Q, adV, hKq, hx, hb, hml, hown, hts, hK, hH, hA, hE, hRm, hnm, hlk, -⟩ := hF
  intro H locs la hR hl
  have k := k H locs la hR hl
  rw [hKq] at k ⊢
  exact lv_sipush hx hb hd hv k
theorem g_lconst (hF : gFix Z cc own nm rt d mc ms Acc AccX) {n : Fin 2} {v : Int64} (hv : Int64.ofNat (n : Nat) = v) (hd : decode cc pc = .ok (.lconst n, 1))
    (k : gG Z ad T M ce so (pc + 1) ls (.long v :: st)) : gG Z ad T M ce so pc ls (st) := by
  obtain ⟨p, l, e, R, s, m, args, below, meth, c, Q, adV, hKq, hx, hb, hml, hown, hts, hK, hH, hA, hE, hRm, hnm, hlk, -⟩ := hF
  intro H locs la hR hl
  have k := k H locs la hR hl
  rw [hKq] at k ⊢
  exact lv_lconst hx hb hd hv k
theorem g_ldc (hF : gFix Z cc own nm rt d mc ms Acc AccX) {index : Nat} {v : Int32} (hw : Cond.constant own index v ∈ gWS) (hd : decode cc pc = .ok (.ldc index, 2))
    (k : gG Z ad T M ce so (pc + 2) ls (.int v :: st)) : gG Z ad T M ce so pc ls (st) := by
  obtain ⟨p, l, e, R, s, m, args, below, meth, c, Q, adV, hKq, hx, hb, hml, hown, hts, hK, hH, hA, hE, hRm, hnm, hlk, -⟩ := hF
  intro H locs la hR hl
  have k := k H locs la hR hl
  rw [hKq] at k ⊢
  exact lv_ldc hx hb hown (hts _ hw) hd k
theorem g_ldc2 (hF : gFix Z cc own nm rt d mc ms Acc AccX) {index : Nat} {v : Int64} (hw : Cond.constantLong own index v ∈ gWS) (hd : decode cc pc = .ok (.ldc2_w index, 3))
    (k : gG Z ad T M ce so (pc + 3) ls (.long v :: st)) : gG Z ad T M ce so pc ls (st) := by
  obtain ⟨p, l, e, R, s, m, args, below, meth, c, Q, adV, hKq, hx, hb, hml, hown, hts, hK, hH, hA, hE, hRm, hnm, hlk, -⟩ := hF
  intro H locs la hR hl
  have k := k H locs la hR hl
  rw [hKq] at k ⊢
  exact lv_ldc2 hx hb hown (hts _ hw) hd k
theorem g_iload_n (hF : gFix Z cc own nm rt d mc ms Acc AccX) {kf : Fin 4} {i : Nat} {x : Int32} (j : Nat) (hj : ls[j]? = some (i, .int x)) (hi : (kf : Nat) = i) (hd : decode cc pc = .ok (.iload_n kf, 1))
    (k : gG Z ad T M ce so (pc + 1) ls (.int x :: st)) : gG Z ad T M ce so pc ls (st) := by
  obtain ⟨p, l, e, R, s, m, args, below, meth, c, Q, adV, hKq, hx, hb, hml, hown, hts, hK, hH, hA, hE, hRm, hnm, hlk, -⟩ := hF
  intro H locs la hR hl
  have k := k H locs la hR hl
  rw [hKq] at k ⊢
  exact lv_iload_n hx hb hd hi (gl_at hl j hj) k
theorem g_iload (hF : gFix Z cc own nm rt d mc ms Acc AccX) {i : Nat} {x : Int32} (j : Nat) (hj : ls[j]? = some (i, .int x)) (hd : decode cc pc = .ok (.iload i, 2))
    (k : gG Z ad T M ce so (pc + 2) ls (.int x :: st)) : gG Z ad T M ce so pc ls (st) := by
  obtain ⟨p, l, e, R, s, m, args, below, meth, c, Q, adV, hKq, hx, hb, hml, hown, hts, hK, hH, hA, hE, hRm, hnm, hlk, -⟩ := hF
  intro H locs la hR hl
  have k := k H locs la hR hl
  rw [hKq] at k ⊢
  exact lv_iload hx hb hd (gl_at hl j hj) k
theorem g_lload_n (hF : gFix Z cc own nm rt d mc ms Acc AccX) {kf : Fin 4} {i : Nat} {x : Int64} (j : Nat) (hj : ls[j]? = some (i, .long x)) (hi : (kf : Nat) = i) (hd : decode cc pc = .ok (.lload_n kf, 1))
    (k : gG Z ad T M ce so (pc + 1) ls (.long x :: st)) : gG Z ad T M ce so pc ls (st) := by
  obtain ⟨p, l, e, R, s, m, args, below, meth, c, Q, adV, hKq, hx, hb, hml, hown, hts, hK, hH, hA, hE, hRm, hnm, hlk, -⟩ := hF
  intro H locs la hR hl
  have k := k H locs la hR hl
  rw [hKq] at k ⊢
  exact lv_lload_n hx hb hd hi (gl_at hl j hj) k
theorem g_lload (hF : gFix Z cc own nm rt d mc ms Acc AccX) {i : Nat} {x : Int64} (j : Nat) (hj : ls[j]? = some (i, .long x)) (hd : decode cc pc = .ok (.lload i, 2))
    (k : gG Z ad T M ce so (pc + 2) ls (.long x :: st)) : gG Z ad T M ce so pc ls (st) := by
  obtain ⟨p, l, e, R, s, m, args, below, meth, c, Q, adV, hKq, hx, hb, hml, hown, hts, hK, hH, hA, hE, hRm, hnm, hlk, -⟩ := hF
  intro H locs la hR hl
  have k := k H locs la hR hl
  rw [hKq] at k ⊢
  exact lv_lload hx hb hd (gl_at hl j hj) k
theorem g_aload_n (hF : gFix Z cc own nm rt d mc ms Acc AccX) {kf : Fin 4} {i : Nat} {x : Nat} (j : Nat) (hj : ls[j]? = some (i, .ref x)) (hi : (kf : Nat) = i) (hd : decode cc pc = .ok (.aload_n kf, 1))
    (k : gG Z ad T M ce so (pc + 1) ls (.ref x :: st)) : gG Z ad T M ce so pc ls (st) := by
  obtain ⟨p, l, e, R, s, m, args, below, meth, c, Q, adV, hKq, hx, hb, hml, hown, hts, hK, hH, hA, hE, hRm, hnm, hlk, -⟩ := hF
  intro H locs la hR hl
  have k := k H locs la hR hl
  rw [hKq] at k ⊢
  exact lv_aload_n hx hb hd hi (gl_at hl j hj) k
theorem g_aload (hF : gFix Z cc own nm rt d mc ms Acc AccX) {i : Nat} {x : Nat} (j : Nat) (hj : ls[j]? = some (i, .ref x)) (hd : decode cc pc = .ok (.aload i, 2))
    (k : gG Z ad T M ce so (pc + 2) ls (.ref x :: st)) : gG Z ad T M ce so pc ls (st) := by
  obtain ⟨p, l, e, R, s, m, args, below, meth, c, Q, adV, hKq, hx, hb, hml, hown, hts, hK, hH, hA, hE, hRm, hnm, hlk, -⟩ := hF
  intro H locs la hR hl
  have k := k H locs la hR hl
  rw [hKq] at k ⊢
  exact lv_aload hx hb hd (gl_at hl j hj) k
theorem g_istore_n (hF : gFix Z cc own nm rt d mc ms Acc AccX) {kf : Fin 4} {i : Nat} {x : Int32} (hi : (kf : Nat) = i) (hn : i < Z.2.2.2.2.2.1) (hs : (i, Value.int x) :: ls.filter (fun q => !(q.1 == i) && !(q.1 + 1 == i && q.2.category == 2)) = ls') (hd : decode cc pc = .ok (.istore_n kf, 1))
    (k : gG Z ad T M ce so (pc + 1) ls' st) : gG Z ad T M ce so pc ls (.int x :: st) := by
  obtain ⟨p, l, e, R, s, m, args, below, meth, c, Q, adV, hKq, hx, hb, hml, hown, hts, hK, hH, hA, hE, hRm, hnm, hlk, -⟩ := hF
  intro H locs la hR hl
  have k := fun la hl => k H locs la hR hl
  rw [hKq] at k ⊢
  exact lv_istore_n hx hb hd hi hl hn (gl_st1 (ad := ad) (v := .int x) hs) (fun la hl => k la hl)
theorem g_istore (hF : gFix Z cc own nm rt d mc ms Acc AccX) {i : Nat} {x : Int32} (hn : i < Z.2.2.2.2.2.1) (hs : (i, Value.int x) :: ls.filter (fun q => !(q.1 == i) && !(q.1 + 1 == i && q.2.category == 2)) = ls') (hd : decode cc pc = .ok (.istore i, 2))
    (k : gG Z ad T M ce so (pc + 2) ls' st) : gG Z ad T M ce so pc ls (.int x :: st) := by
  obtain ⟨p, l, e, R, s, m, args, below, meth, c, Q, adV, hKq, hx, hb, hml, hown, hts, hK, hH, hA, hE, hRm, hnm, hlk, -⟩ := hF
  intro H locs la hR hl
  have k := fun la hl => k H locs la hR hl
  rw [hKq] at k ⊢
  exact lv_istore hx hb hd hl hn (gl_st1 (ad := ad) (v := .int x) hs) (fun la hl => k la hl)
theorem g_lstore_n (hF : gFix Z cc own nm rt d mc ms Acc AccX) {kf : Fin 4} {i : Nat} {x : Int64} (hi : (kf : Nat) = i) (hn : i + 1 < Z.2.2.2.2.2.1) (hs : (i, Value.long x) :: ls.filter (fun q => !(q.1 == i) && (!(q.1 == i + 1) && !(q.1 + 1 == i && q.2.category == 2))) = ls') (hd : decode cc pc = .ok (.lstore_n kf, 1))
    (k : gG Z ad T M ce so (pc + 1) ls' st) : gG Z ad T M ce so pc ls (.long x :: st) := by
  obtain ⟨p, l, e, R, s, m, args, below, meth, c, Q, adV, hKq, hx, hb, hml, hown, hts, hK, hH, hA, hE, hRm, hnm, hlk, -⟩ := hF
  intro H locs la hR hl
  have k := fun la hl => k H locs la hR hl
  rw [hKq] at k ⊢
  exact lv_lstore_n hx hb hd hi hl hn (gl_st2 (ad := ad) (v := .long x) hs) (fun la hl => k la hl)
theorem g_lstore (hF : gFix Z cc own nm rt d mc ms Acc AccX) {i : Nat} {x : Int64} (hn : i + 1 < Z.2.2.2.2.2.1) (hs : (i, Value.long x) :: ls.filter (fun q => !(q.1 == i) && (!(q.1 == i + 1) && !(q.1 + 1 == i && q.2.category == 2))) = ls') (hd : decode cc pc = .ok (.lstore i, 2))
    (k : gG Z ad T M ce so (pc + 2) ls' st) : gG Z ad T M ce so pc ls (.long x :: st) := by
  obtain ⟨p, l, e, R, s, m, args, below, meth, c, Q, adV, hKq, hx, hb, hml, hown, hts, hK, hH, hA, hE, hRm, hnm, hlk, -⟩ := hF
  intro H locs la hR hl
  have k := fun la hl => k H locs la hR hl
  rw [hKq] at k ⊢
  exact lv_lstore hx hb hd hl hn (gl_st2 (ad := ad) (v := .long x) hs) (fun la hl => k la hl)
theorem g_astore_n (hF : gFix Z cc own nm rt d mc ms Acc AccX) {kf : Fin 4} {i : Nat} {x : Nat} (hi : (kf : Nat) = i) (hn : i < Z.2.2.2.2.2.1) (hs : (i, Value.ref x) :: ls.filter (fun q => !(q.1 == i) && !(q.1 + 1 == i && q.2.category == 2)) = ls') (hd : decode cc pc = .ok (.astore_n kf, 1))
    (k : gG Z ad T M ce so (pc + 1) ls' st) : gG Z ad T M ce so pc ls (.ref x :: st) := by
  obtain ⟨p, l, e, R, s, m, args, below, meth, c, Q, adV, hKq, hx, hb, hml, hown, hts, hK, hH, hA, hE, hRm, hnm, hlk, -⟩ := hF
  intro H locs la hR hl
  have k := fun la hl => k H locs la hR hl
  rw [hKq] at k ⊢
  exact lv_astore_n hx hb hd hi hl hn (gl_st1 (ad := ad) (v := .ref x) hs) (fun la hl => k la hl)
theorem g_astore (hF : gFix Z cc own nm rt d mc ms Acc AccX) {i : Nat} {x : Nat} (hn : i < Z.2.2.2.2.2.1) (hs : (i, Value.ref x) :: ls.filter (fun q => !(q.1 == i) && !(q.1 + 1 == i && q.2.category == 2)) = ls') (hd : decode cc pc = .ok (.astore i, 2))
    (k : gG Z ad T M ce so (pc + 2) ls' st) : gG Z ad T M ce so pc ls (.ref x :: st) := by
  obtain ⟨p, l, e, R, s, m, args, below, meth, c, Q, adV, hKq, hx, hb, hml, hown, hts, hK, hH, hA, hE, hRm, hnm, hlk, -⟩ := hF
  intro H locs la hR hl
  have k := fun la hl => k H locs la hR hl
  rw [hKq] at k ⊢
  exact lv_astore hx hb hd hl hn (gl_st1 (ad := ad) (v := .ref x) hs) (fun la hl => k la hl)
theorem g_iinc (hF : gFix Z cc own nm rt d mc ms Acc AccX) {i : Nat} {n : Int} {x v : Int32} (j : Nat) (hj : ls[j]? = some (i, .int x)) (hv : x + Int32.ofInt n = v) (hn : i < Z.2.2.2.2.2.1) (hs : (i, Value.int v) :: ls.filter (fun q => !(q.1 == i) && !(q.1 + 1 == i && q.2.category == 2)) = ls') (hd : decode cc pc = .ok (.iinc i n, 3))
    (k : gG Z ad T M ce so (pc + 3) ls' st) : gG Z ad T M ce so pc ls (st) := by
  obtain ⟨p, l, e, R, s, m, args, below, meth, c, Q, adV, hKq, hx, hb, hml, hown, hts, hK, hH, hA, hE, hRm, hnm, hlk, -⟩ := hF
  intro H locs la hR hl
  have k := fun la hl => k H locs la hR hl
  rw [hKq] at k ⊢
  exact lv_iinc (k := j) hx hb hd hl (by rw [gmp, List.getElem?_map, hj]; rfl) hv hn (gl_st1 (ad := ad) (v := .int v) hs) (fun la hl => k la hl)
theorem g_iadd (hF : gFix Z cc own nm rt d mc ms Acc AccX) {x y : Int32} (hd : decode cc pc = .ok (.iadd, 1))
    (k : gG Z ad T M ce so (pc + 1) ls (.int (x + y) :: st)) : gG Z ad T M ce so pc ls (.int y :: .int x :: st) := by
  obtain ⟨p, l, e, R, s, m, args, below, meth, c, Q, adV, hKq, hx, hb, hml, hown, hts, hK, hH, hA, hE, hRm, hnm, hlk, -⟩ := hF
  intro H locs la hR hl
  have k := k H locs la hR hl
  rw [hKq] at k ⊢
  exact lv_iadd hx hb hd k
theorem g_isub (hF : gFix Z cc own nm rt d mc ms Acc AccX) {x y : Int32} (hd : decode cc pc = .ok (.isub, 1))
    (k : gG Z ad T M ce so (pc + 1) ls (.int (x - y) :: st)) : gG Z ad T M ce so pc ls (.int y :: .int x :: st) := by
  obtain ⟨p, l, e, R, s, m, args, below, meth, c, Q, adV, hKq, hx, hb, hml, hown, hts, hK, hH, hA, hE, hRm, hnm, hlk, -⟩ := hF
  intro H locs la hR hl
  have k := k H locs la hR hl
  rw [hKq] at k ⊢
  exact lv_isub hx hb hd k
theorem g_imul (hF : gFix Z cc own nm rt d mc ms Acc AccX) {x y : Int32} (hd : decode cc pc = .ok (.imul, 1))
    (k : gG Z ad T M ce so (pc + 1) ls (.int (x * y) :: st)) : gG Z ad T M ce so pc ls (.int y :: .int x :: st) := by
  obtain ⟨p, l, e, R, s, m, args, below, meth, c, Q, adV, hKq, hx, hb, hml, hown, hts, hK, hH, hA, hE, hRm, hnm, hlk, -⟩ := hF
  intro H locs la hR hl
  have k := k H locs la hR hl
  rw [hKq] at k ⊢
  exact lv_imul hx hb hd k
theorem g_iand (hF : gFix Z cc own nm rt d mc ms Acc AccX) {x y : Int32} (hd : decode cc pc = .ok (.iand, 1))
    (k : gG Z ad T M ce so (pc + 1) ls (.int (x &&& y) :: st)) : gG Z ad T M ce so pc ls (.int y :: .int x :: st) := by
  obtain ⟨p, l, e, R, s, m, args, below, meth, c, Q, adV, hKq, hx, hb, hml, hown, hts, hK, hH, hA, hE, hRm, hnm, hlk, -⟩ := hF
  intro H locs la hR hl
  have k := k H locs la hR hl
  rw [hKq] at k ⊢
  exact lv_iand hx hb hd k
theorem g_ior (hF : gFix Z cc own nm rt d mc ms Acc AccX) {x y : Int32} (hd : decode cc pc = .ok (.ior, 1))
    (k : gG Z ad T M ce so (pc + 1) ls (.int (x ||| y) :: st)) : gG Z ad T M ce so pc ls (.int y :: .int x :: st) := by
  obtain ⟨p, l, e, R, s, m, args, below, meth, c, Q, adV, hKq, hx, hb, hml, hown, hts, hK, hH, hA, hE, hRm, hnm, hlk, -⟩ := hF
  intro H locs la hR hl
  have k := k H locs la hR hl
  rw [hKq] at k ⊢
  exact lv_ior hx hb hd k
theorem g_ixor (hF : gFix Z cc own nm rt d mc ms Acc AccX) {x y : Int32} (hd : decode cc pc = .ok (.ixor, 1))
    (k : gG Z ad T M ce so (pc + 1) ls (.int (x ^^^ y) :: st)) : gG Z ad T M ce so pc ls (.int y :: .int x :: st) := by
  obtain ⟨p, l, e, R, s, m, args, below, meth, c, Q, adV, hKq, hx, hb, hml, hown, hts, hK, hH, hA, hE, hRm, hnm, hlk, -⟩ := hF
  intro H locs la hR hl
  have k := k H locs la hR hl
  rw [hKq] at k ⊢
  exact lv_ixor hx hb hd k
theorem g_ishl (hF : gFix Z cc own nm rt d mc ms Acc AccX) {x y : Int32} (hd : decode cc pc = .ok (.ishl, 1))
    (k : gG Z ad T M ce so (pc + 1) ls (.int (x <<< (y &&& 31)) :: st)) : gG Z ad T M ce so pc ls (.int y :: .int x :: st) := by
  obtain ⟨p, l, e, R, s, m, args, below, meth, c, Q, adV, hKq, hx, hb, hml, hown, hts, hK, hH, hA, hE, hRm, hnm, hlk, -⟩ := hF
  intro H locs la hR hl
  have k := k H locs la hR hl
  rw [hKq] at k ⊢
  exact lv_ishl hx hb hd k
theorem g_ishr (hF : gFix Z cc own nm rt d mc ms Acc AccX) {x y : Int32} (hd : decode cc pc = .ok (.ishr, 1))
    (k : gG Z ad T M ce so (pc + 1) ls (.int (x >>> (y &&& 31)) :: st)) : gG Z ad T M ce so pc ls (.int y :: .int x :: st) := by
  obtain ⟨p, l, e, R, s, m, args, below, meth, c, Q, adV, hKq, hx, hb, hml, hown, hts, hK, hH, hA, hE, hRm, hnm, hlk, -⟩ := hF
  intro H locs la hR hl
  have k := k H locs la hR hl
  rw [hKq] at k ⊢
  exact lv_ishr hx hb hd k
theorem g_irem (hF : gFix Z cc own nm rt d mc ms Acc AccX) {x y : Int32} (hne : ¬ y = 0) (hd : decode cc pc = .ok (.irem, 1))
    (k : gG Z ad T M ce so (pc + 1) ls (.int (x - x / y * y) :: st)) : gG Z ad T M ce so pc ls (.int y :: .int x :: st) := by
  obtain ⟨p, l, e, R, s, m, args, below, meth, c, Q, adV, hKq, hx, hb, hml, hown, hts, hK, hH, hA, hE, hRm, hnm, hlk, -⟩ := hF
  intro H locs la hR hl
  have k := k H locs la hR hl
  rw [hKq] at k ⊢
  exact lv_irem hx hb hd hne k
theorem g_idiv (hF : gFix Z cc own nm rt d mc ms Acc AccX) {x y : Int32} (hne : ¬ y = 0) (hd : decode cc pc = .ok (.idiv, 1))
    (k : gG Z ad T M ce so (pc + 1) ls (.int (x / y) :: st)) : gG Z ad T M ce so pc ls (.int y :: .int x :: st) := by
  obtain ⟨p, l, e, R, s, m, args, below, meth, c, Q, adV, hKq, hx, hb, hml, hown, hts, hK, hH, hA, hE, hRm, hnm, hlk, -⟩ := hF
  intro H locs la hR hl
  have k := k H locs la hR hl
  rw [hKq] at k ⊢
  exact lv_idiv hx hb hd hne k
theorem g_ladd (hF : gFix Z cc own nm rt d mc ms Acc AccX) {x y : Int64} (hd : decode cc pc = .ok (.ladd, 1))
    (k : gG Z ad T M ce so (pc + 1) ls (.long (x + y) :: st)) : gG Z ad T M ce so pc ls (.long y :: .long x :: st) := by
  obtain ⟨p, l, e, R, s, m, args, below, meth, c, Q, adV, hKq, hx, hb, hml, hown, hts, hK, hH, hA, hE, hRm, hnm, hlk, -⟩ := hF
  intro H locs la hR hl
  have k := k H locs la hR hl
  rw [hKq] at k ⊢
  exact lv_ladd hx hb hd k
theorem g_lsub (hF : gFix Z cc own nm rt d mc ms Acc AccX) {x y : Int64} (hd : decode cc pc = .ok (.lsub, 1))
    (k : gG Z ad T M ce so (pc + 1) ls (.long (x - y) :: st)) : gG Z ad T M ce so pc ls (.long y :: .long x :: st) := by
  obtain ⟨p, l, e, R, s, m, args, below, meth, c, Q, adV, hKq, hx, hb, hml, hown, hts, hK, hH, hA, hE, hRm, hnm, hlk, -⟩ := hF
  intro H locs la hR hl
  have k := k H locs la hR hl
  rw [hKq] at k ⊢
  exact lv_lsub hx hb hd k
theorem g_lmul (hF : gFix Z cc own nm rt d mc ms Acc AccX) {x y : Int64} (hd : decode cc pc = .ok (.lmul, 1))
    (k : gG Z ad T M ce so (pc + 1) ls (.long (x * y) :: st)) : gG Z ad T M ce so pc ls (.long y :: .long x :: st) := by
  obtain ⟨p, l, e, R, s, m, args, below, meth, c, Q, adV, hKq, hx, hb, hml, hown, hts, hK, hH, hA, hE, hRm, hnm, hlk, -⟩ := hF
  intro H locs la hR hl
  have k := k H locs la hR hl
  rw [hKq] at k ⊢
  exact lv_lmul hx hb hd k
theorem g_land (hF : gFix Z cc own nm rt d mc ms Acc AccX) {x y : Int64} (hd : decode cc pc = .ok (.land, 1))
    (k : gG Z ad T M ce so (pc + 1) ls (.long (x &&& y) :: st)) : gG Z ad T M ce so pc ls (.long y :: .long x :: st) := by
  obtain ⟨p, l, e, R, s, m, args, below, meth, c, Q, adV, hKq, hx, hb, hml, hown, hts, hK, hH, hA, hE, hRm, hnm, hlk, -⟩ := hF
  intro H locs la hR hl
  have k := k H locs la hR hl
  rw [hKq] at k ⊢
  exact lv_land hx hb hd k
theorem g_lor (hF : gFix Z cc own nm rt d mc ms Acc AccX) {x y : Int64} (hd : decode cc pc = .ok (.lor, 1))
    (k : gG Z ad T M ce so (pc + 1) ls (.long (x ||| y) :: st)) : gG Z ad T M ce so pc ls (.long y :: .long x :: st) := by
  obtain ⟨p, l, e, R, s, m, args, below, meth, c, Q, adV, hKq, hx, hb, hml, hown, hts, hK, hH, hA, hE, hRm, hnm, hlk, -⟩ := hF
  intro H locs la hR hl
  have k := k H locs la hR hl
  rw [hKq] at k ⊢
  exact lv_lor hx hb hd k
theorem g_ldiv (hF : gFix Z cc own nm rt d mc ms Acc AccX) {x y : Int64} (hne : ¬ y = 0) (hd : decode cc pc = .ok (.ldiv, 1))
    (k : gG Z ad T M ce so (pc + 1) ls (.long (x / y) :: st)) : gG Z ad T M ce so pc ls (.long y :: .long x :: st) := by
  obtain ⟨p, l, e, R, s, m, args, below, meth, c, Q, adV, hKq, hx, hb, hml, hown, hts, hK, hH, hA, hE, hRm, hnm, hlk, -⟩ := hF
  intro H locs la hR hl
  have k := k H locs la hR hl
  rw [hKq] at k ⊢
  exact lv_ldiv hx hb hd hne k
theorem g_lshl (hF : gFix Z cc own nm rt d mc ms Acc AccX) {x : Int64} {y : Int32} (hd : decode cc pc = .ok (.lshl, 1))
    (k : gG Z ad T M ce so (pc + 1) ls (.long (x <<< (y.toInt64 &&& 63)) :: st)) : gG Z ad T M ce so pc ls (.int y :: .long x :: st) := by
  obtain ⟨p, l, e, R, s, m, args, below, meth, c, Q, adV, hKq, hx, hb, hml, hown, hts, hK, hH, hA, hE, hRm, hnm, hlk, -⟩ := hF
  intro H locs la hR hl
  have k := k H locs la hR hl
  rw [hKq] at k ⊢
  exact lv_lshl hx hb hd rfl k
theorem g_lcmp (hF : gFix Z cc own nm rt d mc ms Acc AccX) {x y : Int64} (hd : decode cc pc = .ok (.lcmp, 1))
    (k : gG Z ad T M ce so (pc + 1) ls (.int (lg_cmp x y) :: st)) : gG Z ad T M ce so pc ls (.long y :: .long x :: st) := by
  obtain ⟨p, l, e, R, s, m, args, below, meth, c, Q, adV, hKq, hx, hb, hml, hown, hts, hK, hH, hA, hE, hRm, hnm, hlk, -⟩ := hF
  intro H locs la hR hl
  have k := k H locs la hR hl
  rw [hKq] at k ⊢
  exact W.lcmp hx hb hd k
theorem g_i2l (hF : gFix Z cc own nm rt d mc ms Acc AccX) {x : Int32} (hd : decode cc pc = .ok (.i2l, 1))
    (k : gG Z ad T M ce so (pc + 1) ls (.long x.toInt64 :: st)) : gG Z ad T M ce so pc ls (.int x :: st) := by
  obtain ⟨p, l, e, R, s, m, args, below, meth, c, Q, adV, hKq, hx, hb, hml, hown, hts, hK, hH, hA, hE, hRm, hnm, hlk, -⟩ := hF
  intro H locs la hR hl
  have k := k H locs la hR hl
  rw [hKq] at k ⊢
  exact lv_i2l hx hb hd rfl k
theorem g_l2i (hF : gFix Z cc own nm rt d mc ms Acc AccX) {x : Int64} (hd : decode cc pc = .ok (.l2i, 1))
    (k : gG Z ad T M ce so (pc + 1) ls (.int x.toInt32 :: st)) : gG Z ad T M ce so pc ls (.long x :: st) := by
  obtain ⟨p, l, e, R, s, m, args, below, meth, c, Q, adV, hKq, hx, hb, hml, hown, hts, hK, hH, hA, hE, hRm, hnm, hlk, -⟩ := hF
  intro H locs la hR hl
  have k := k H locs la hR hl
  rw [hKq] at k ⊢
  exact lv_l2i hx hb hd rfl k
theorem g_i2b (hF : gFix Z cc own nm rt d mc ms Acc AccX) {x : Int32} (hd : decode cc pc = .ok (.i2b, 1))
    (k : gG Z ad T M ce so (pc + 1) ls (.int x.toInt8.toInt32 :: st)) : gG Z ad T M ce so pc ls (.int x :: st) := by
  obtain ⟨p, l, e, R, s, m, args, below, meth, c, Q, adV, hKq, hx, hb, hml, hown, hts, hK, hH, hA, hE, hRm, hnm, hlk, -⟩ := hF
  intro H locs la hR hl
  have k := k H locs la hR hl
  rw [hKq] at k ⊢
  exact lv_i2b hx hb hd rfl k
theorem g_dup (hF : gFix Z cc own nm rt d mc ms Acc AccX) {va : Value} (hc : va.category = 1) (hd : decode cc pc = .ok (.dup, 1))
    (k : gG Z ad T M ce so (pc + 1) ls (va :: va :: st)) : gG Z ad T M ce so pc ls (va :: st) := by
  obtain ⟨p, l, e, R, s, m, args, below, meth, c, Q, adV, hKq, hx, hb, hml, hown, hts, hK, hH, hA, hE, hRm, hnm, hlk, -⟩ := hF
  intro H locs la hR hl
  have k := k H locs la hR hl
  rw [hKq] at k ⊢
  exact lv_dup hx hb hd (by rw [gv_cat]; exact hc) k
theorem g_dup2 (hF : gFix Z cc own nm rt d mc ms Acc AccX) {va vb : Value} (hc : va.category = 1) (hc2 : vb.category = 1) (hd : decode cc pc = .ok (.dup2, 1))
    (k : gG Z ad T M ce so (pc + 1) ls (va :: vb :: va :: vb :: st)) : gG Z ad T M ce so pc ls (va :: vb :: st) := by
  obtain ⟨p, l, e, R, s, m, args, below, meth, c, Q, adV, hKq, hx, hb, hml, hown, hts, hK, hH, hA, hE, hRm, hnm, hlk, -⟩ := hF
  intro H locs la hR hl
  have k := k H locs la hR hl
  rw [hKq] at k ⊢
  exact lv_dup2_11 hx hb hd (by rw [gv_cat]; exact hc) (by rw [gv_cat]; exact hc2) k
theorem g_pop (hF : gFix Z cc own nm rt d mc ms Acc AccX) {va : Value} (hc : va.category = 1) (hd : decode cc pc = .ok (.pop, 1))
    (k : gG Z ad T M ce so (pc + 1) ls (st)) : gG Z ad T M ce so pc ls (va :: st) := by
  obtain ⟨p, l, e, R, s, m, args, below, meth, c, Q, adV, hKq, hx, hb, hml, hown, hts, hK, hH, hA, hE, hRm, hnm, hlk, -⟩ := hF
  intro H locs la hR hl
  have k := k H locs la hR hl
  rw [hKq] at k ⊢
  exact lv_pop hx hb hd (by rw [gv_cat]; exact hc) k
theorem g_if_eq (hF : gFix Z cc own nm rt d mc ms Acc AccX) {x : Int32} {off : Int} {tgt : Nat} (hd : decode cc pc = .ok (.ifCond .eq off, 3)) (ht : (pc : Int) + off = (tgt : Int))
    (kt : x = 0 → gG Z ad T M ce so tgt ls st) (kf : ¬ x = 0 → gG Z ad T M ce so (pc + 3) ls st) : gG Z ad T M ce so pc ls (.int x :: st) := by
  obtain ⟨p, l, e, R, s, m, args, below, meth, c, Q, adV, hKq, hx, hb, hml, hown, hts, hK, hH, hA, hE, hRm, hnm, hlk, -⟩ := hF
  intro H locs la hR hl
  have kt := fun q => kt q H locs la hR hl
  have kf := fun q => kf q H locs la hR hl
  rw [hKq] at kt kf ⊢
  exact lv_if_eq hx hb hd ht kt kf
theorem g_icmp_eq (hF : gFix Z cc own nm rt d mc ms Acc AccX) {x y : Int32} {off : Int} {tgt : Nat} (hd : decode cc pc = .ok (.if_icmp .eq off, 3)) (ht : (pc : Int) + off = (tgt : Int))
    (kt : x = y → gG Z ad T M ce so tgt ls st) (kf : ¬ x = y → gG Z ad T M ce so (pc + 3) ls st) : gG Z ad T M ce so pc ls (.int y :: .int x :: st) := by
  obtain ⟨p, l, e, R, s, m, args, below, meth, c, Q, adV, hKq, hx, hb, hml, hown, hts, hK, hH, hA, hE, hRm, hnm, hlk, -⟩ := hF
  intro H locs la hR hl
  have kt := fun q => kt q H locs la hR hl
  have kf := fun q => kf q H locs la hR hl
  rw [hKq] at kt kf ⊢
  exact lv_icmp_eq hx hb hd ht kt kf
theorem g_if_ne (hF : gFix Z cc own nm rt d mc ms Acc AccX) {x : Int32} {off : Int} {tgt : Nat} (hd : decode cc pc = .ok (.ifCond .ne off, 3)) (ht : (pc : Int) + off = (tgt : Int))
    (kt : ¬ x = 0 → gG Z ad T M ce so tgt ls st) (kf : x = 0 → gG Z ad T M ce so (pc + 3) ls st) : gG Z ad T M ce so pc ls (.int x :: st) := by
  obtain ⟨p, l, e, R, s, m, args, below, meth, c, Q, adV, hKq, hx, hb, hml, hown, hts, hK, hH, hA, hE, hRm, hnm, hlk, -⟩ := hF
  intro H locs la hR hl
  have kt := fun q => kt q H locs la hR hl
  have kf := fun q => kf q H locs la hR hl
  rw [hKq] at kt kf ⊢
  exact lv_if_ne hx hb hd ht kt kf
theorem g_icmp_ne (hF : gFix Z cc own nm rt d mc ms Acc AccX) {x y : Int32} {off : Int} {tgt : Nat} (hd : decode cc pc = .ok (.if_icmp .ne off, 3)) (ht : (pc : Int) + off = (tgt : Int))
    (kt : ¬ x = y → gG Z ad T M ce so tgt ls st) (kf : x = y → gG Z ad T M ce so (pc + 3) ls st) : gG Z ad T M ce so pc ls (.int y :: .int x :: st) := by
  obtain ⟨p, l, e, R, s, m, args, below, meth, c, Q, adV, hKq, hx, hb, hml, hown, hts, hK, hH, hA, hE, hRm, hnm, hlk, -⟩ := hF
  intro H locs la hR hl
  have kt := fun q => kt q H locs la hR hl
  have kf := fun q => kf q H locs la hR hl
  rw [hKq] at kt kf ⊢
  exact lv_icmp_ne hx hb hd ht kt kf
theorem g_if_lt (hF : gFix Z cc own nm rt d mc ms Acc AccX) {x : Int32} {off : Int} {tgt : Nat} (hd : decode cc pc = .ok (.ifCond .lt off, 3)) (ht : (pc : Int) + off = (tgt : Int))
    (kt : x < 0 → gG Z ad T M ce so tgt ls st) (kf : ¬ x < 0 → gG Z ad T M ce so (pc + 3) ls st) : gG Z ad T M ce so pc ls (.int x :: st) := by
  obtain ⟨p, l, e, R, s, m, args, below, meth, c, Q, adV, hKq, hx, hb, hml, hown, hts, hK, hH, hA, hE, hRm, hnm, hlk, -⟩ := hF
  intro H locs la hR hl
  have kt := fun q => kt q H locs la hR hl
  have kf := fun q => kf q H locs la hR hl
  rw [hKq] at kt kf ⊢
  exact lv_if_lt hx hb hd ht kt kf
theorem g_icmp_lt (hF : gFix Z cc own nm rt d mc ms Acc AccX) {x y : Int32} {off : Int} {tgt : Nat} (hd : decode cc pc = .ok (.if_icmp .lt off, 3)) (ht : (pc : Int) + off = (tgt : Int))
    (kt : x < y → gG Z ad T M ce so tgt ls st) (kf : ¬ x < y → gG Z ad T M ce so (pc + 3) ls st) : gG Z ad T M ce so pc ls (.int y :: .int x :: st) := by
  obtain ⟨p, l, e, R, s, m, args, below, meth, c, Q, adV, hKq, hx, hb, hml, hown, hts, hK, hH, hA, hE, hRm, hnm, hlk, -⟩ := hF
  intro H locs la hR hl
  have kt := fun q => kt q H locs la hR hl
  have kf := fun q => kf q H locs la hR hl
  rw [hKq] at kt kf ⊢
  exact lv_icmp_lt hx hb hd ht kt kf
theorem g_if_ge (hF : gFix Z cc own nm rt d mc ms Acc AccX) {x : Int32} {off : Int} {tgt : Nat} (hd : decode cc pc = .ok (.ifCond .ge off, 3)) (ht : (pc : Int) + off = (tgt : Int))
    (kt : 0 ≤ x → gG Z ad T M ce so tgt ls st) (kf : ¬ 0 ≤ x → gG Z ad T M ce so (pc + 3) ls st) : gG Z ad T M ce so pc ls (.int x :: st) := by
  obtain ⟨p, l, e, R, s, m, args, below, meth, c, Q, adV, hKq, hx, hb, hml, hown, hts, hK, hH, hA, hE, hRm, hnm, hlk, -⟩ := hF
  intro H locs la hR hl
  have kt := fun q => kt q H locs la hR hl
  have kf := fun q => kf q H locs la hR hl
  rw [hKq] at kt kf ⊢
  exact lv_if_ge hx hb hd ht kt kf
theorem g_icmp_ge (hF : gFix Z cc own nm rt d mc ms Acc AccX) {x y : Int32} {off : Int} {tgt : Nat} (hd : decode cc pc = .ok (.if_icmp .ge off, 3)) (ht : (pc : Int) + off = (tgt : Int))
    (kt : y ≤ x → gG Z ad T M ce so tgt ls st) (kf : ¬ y ≤ x → gG Z ad T M ce so (pc + 3) ls st) : gG Z ad T M ce so pc ls (.int y :: .int x :: st) := by
  obtain ⟨p, l, e, R, s, m, args, below, meth, c, Q, adV, hKq, hx, hb, hml, hown, hts, hK, hH, hA, hE, hRm, hnm, hlk, -⟩ := hF
  intro H locs la hR hl
  have kt := fun q => kt q H locs la hR hl
  have kf := fun q => kf q H locs la hR hl
  rw [hKq] at kt kf ⊢
  exact lv_icmp_ge hx hb hd ht kt kf
theorem g_if_gt (hF : gFix Z cc own nm rt d mc ms Acc AccX) {x : Int32} {off : Int} {tgt : Nat} (hd : decode cc pc = .ok (.ifCond .gt off, 3)) (ht : (pc : Int) + off = (tgt : Int))
    (kt : 0 < x → gG Z ad T M ce so tgt ls st) (kf : ¬ 0 < x → gG Z ad T M ce so (pc + 3) ls st) : gG Z ad T M ce so pc ls (.int x :: st) := by
  obtain ⟨p, l, e, R, s, m, args, below, meth, c, Q, adV, hKq, hx, hb, hml, hown, hts, hK, hH, hA, hE, hRm, hnm, hlk, -⟩ := hF
  intro H locs la hR hl
  have kt := fun q => kt q H locs la hR hl
  have kf := fun q => kf q H locs la hR hl
  rw [hKq] at kt kf ⊢
  exact lv_if_gt hx hb hd ht kt kf
theorem g_icmp_gt (hF : gFix Z cc own nm rt d mc ms Acc AccX) {x y : Int32} {off : Int} {tgt : Nat} (hd : decode cc pc = .ok (.if_icmp .gt off, 3)) (ht : (pc : Int) + off = (tgt : Int))
    (kt : y < x → gG Z ad T M ce so tgt ls st) (kf : ¬ y < x → gG Z ad T M ce so (pc + 3) ls st) : gG Z ad T M ce so pc ls (.int y :: .int x :: st) := by
  obtain ⟨p, l, e, R, s, m, args, below, meth, c, Q, adV, hKq, hx, hb, hml, hown, hts, hK, hH, hA, hE, hRm, hnm, hlk, -⟩ := hF
  intro H locs la hR hl
  have kt := fun q => kt q H locs la hR hl
  have kf := fun q => kf q H locs la hR hl
  rw [hKq] at kt kf ⊢
  exact lv_icmp_gt hx hb hd ht kt kf
theorem g_if_le (hF : gFix Z cc own nm rt d mc ms Acc AccX) {x : Int32} {off : Int} {tgt : Nat} (hd : decode cc pc = .ok (.ifCond .le off, 3)) (ht : (pc : Int) + off = (tgt : Int))
    (kt : x ≤ 0 → gG Z ad T M ce so tgt ls st) (kf : ¬ x ≤ 0 → gG Z ad T M ce so (pc + 3) ls st) : gG Z ad T M ce so pc ls (.int x :: st) := by
  obtain ⟨p, l, e, R, s, m, args, below, meth, c, Q, adV, hKq, hx, hb, hml, hown, hts, hK, hH, hA, hE, hRm, hnm, hlk, -⟩ := hF
  intro H locs la hR hl
  have kt := fun q => kt q H locs la hR hl
  have kf := fun q => kf q H locs la hR hl
  rw [hKq] at kt kf ⊢
  exact lv_if_le hx hb hd ht kt kf
theorem g_icmp_le (hF : gFix Z cc own nm rt d mc ms Acc AccX) {x y : Int32} {off : Int} {tgt : Nat} (hd : decode cc pc = .ok (.if_icmp .le off, 3)) (ht : (pc : Int) + off = (tgt : Int))
    (kt : x ≤ y → gG Z ad T M ce so tgt ls st) (kf : ¬ x ≤ y → gG Z ad T M ce so (pc + 3) ls st) : gG Z ad T M ce so pc ls (.int y :: .int x :: st) := by
  obtain ⟨p, l, e, R, s, m, args, below, meth, c, Q, adV, hKq, hx, hb, hml, hown, hts, hK, hH, hA, hE, hRm, hnm, hlk, -⟩ := hF
  intro H locs la hR hl
  have kt := fun q => kt q H locs la hR hl
  have kf := fun q => kf q H locs la hR hl
  rw [hKq] at kt kf ⊢
  exact lv_icmp_le hx hb hd ht kt kf
theorem g_goto (hF : gFix Z cc own nm rt d mc ms Acc AccX) {off : Int} {tgt : Nat} (hd : decode cc pc = .ok (.goto off, 3)) (ht : (pc : Int) + off = (tgt : Int))
    (k : gG Z ad T M ce so tgt ls st) : gG Z ad T M ce so pc ls st := by
  obtain ⟨p, l, e, R, s, m, args, below, meth, c, Q, adV, hKq, hx, hb, hml, hown, hts, hK, hH, hA, hE, hRm, hnm, hlk, -⟩ := hF
  intro H locs la hR hl
  have k := k H locs la hR hl
  rw [hKq] at k ⊢
  exact lv_goto hx hb hd ht k
theorem g_tabOut (hF : gFix Z cc own nm rt d mc ms Acc AccX) {dflt lo hi : Int} {offs : Array Int} {len : Nat} {x : Int32} {tgt : Nat} (hd : decode cc pc = .ok (.tableswitch dflt lo hi offs, len)) (h : x.toInt < lo ∨ hi < x.toInt) (ht : (pc : Int) + dflt = (tgt : Int))
    (k : gG Z ad T M ce so tgt ls st) : gG Z ad T M ce so pc ls (.int x :: st) := by
  obtain ⟨p, l, e, R, s, m, args, below, meth, c, Q, adV, hKq, hx, hb, hml, hown, hts, hK, hH, hA, hE, hRm, hnm, hlk, -⟩ := hF
  intro H locs la hR hl
  have k := k H locs la hR hl
  rw [hKq] at k ⊢
  exact lv_tableOut hx hb hd h ht k
theorem g_tabIn (hF : gFix Z cc own nm rt d mc ms Acc AccX) {dflt lo hi : Int} {offs : Array Int} {len : Nat} {x : Int32} {off : Int} {tgt : Nat} (hd : decode cc pc = .ok (.tableswitch dflt lo hi offs, len)) (h1 : ¬ x.toInt < lo) (h2 : ¬ hi < x.toInt) (ho : offs[(x.toInt - lo).toNat]? = some off) (ht : (pc : Int) + off = (tgt : Int))
    (k : gG Z ad T M ce so tgt ls st) : gG Z ad T M ce so pc ls (.int x :: st) := by
  obtain ⟨p, l, e, R, s, m, args, below, meth, c, Q, adV, hKq, hx, hb, hml, hown, hts, hK, hH, hA, hE, hRm, hnm, hlk, -⟩ := hF
  intro H locs la hR hl
  have k := k H locs la hR hl
  rw [hKq] at k ⊢
  exact lv_tableIn hx hb hd h1 h2 ho ht k
theorem g_ret_i (hF : gFix Z cc own nm rt d mc ms Acc AccX) {x : Int32} {ty : FieldType} (hrt : rt = some ty) (hn : narrow ty (.int x) = .int x) (hd : decode cc pc = .ok (.ireturn, 1)) (ha : Acc (some (.int x)) ad T M) (h1 : ce ≤ mc) (h2 : so ≤ ms) : gG Z ad T M ce so pc ls [.int x] := by
  obtain ⟨p, l, e, R, s, m, args, below, meth, c, Q, adV, hKq, hx, hb, hml, hown, hts, hK, hH, hA, hE, hRm, hnm, hlk, hst, r1, r2, r3, r4, r5, r6⟩ := hF
  intro H locs la hR hl
  rw [hKq]
  exact r1 H locs ce so pc la ad T M x ty hR hrt hn hd ha h1 h2
theorem g_ret_l (hF : gFix Z cc own nm rt d mc ms Acc AccX) {x : Int64} (hrt : rt = some .long) (hd : decode cc pc = .ok (.lreturn, 1)) (ha : Acc (some (.long x)) ad T M) (h1 : ce ≤ mc) (h2 : so ≤ ms) : gG Z ad T M ce so pc ls [.long x] := by
  obtain ⟨p, l, e, R, s, m, args, below, meth, c, Q, adV, hKq, hx, hb, hml, hown, hts, hK, hH, hA, hE, hRm, hnm, hlk, hst, r1, r2, r3, r4, r5, r6⟩ := hF
  intro H locs la hR hl
  rw [hKq]
  exact r2 H locs ce so pc la ad T M x hR hrt hd ha h1 h2
theorem g_ret_a (hF : gFix Z cc own nm rt d mc ms Acc AccX) {a : Nat} {ty : FieldType} (hrt : rt = some ty) (hty : ((∃ n, ty = .object n) ∨ ∃ t, ty = .array t)) (hd : decode cc pc = .ok (.areturn, 1)) (ha : Acc (some (.ref a)) ad T M) (h1 : ce ≤ mc) (h2 : so ≤ ms) : gG Z ad T M ce so pc ls [.ref a] := by
  obtain ⟨p, l, e, R, s, m, args, below, meth, c, Q, adV, hKq, hx, hb, hml, hown, hts, hK, hH, hA, hE, hRm, hnm, hlk, hst, r1, r2, r3, r4, r5, r6⟩ := hF
  intro H locs la hR hl
  rw [hKq]
  exact r3 H locs ce so pc la ad T M a ty hR hrt hty hd ha h1 h2
theorem g_ret_v (hF : gFix Z cc own nm rt d mc ms Acc AccX) (hrt : rt = none) (hd : decode cc pc = .ok (.return_, 1)) (ha : Acc none ad T M) (h1 : ce ≤ mc) (h2 : so ≤ ms) : gG Z ad T M ce so pc ls [] := by
  obtain ⟨p, l, e, R, s, m, args, below, meth, c, Q, adV, hKq, hx, hb, hml, hown, hts, hK, hH, hA, hE, hRm, hnm, hlk, hst, r1, r2, r3, r4, r5, r6⟩ := hF
  intro H locs la hR hl
  rw [hKq]
  exact r4 H locs ce so pc la ad T M hR hrt hd ha h1 h2
theorem g_ldcS (hF : gFix Z cc own nm rt d mc ms Acc AccX) {index a : Nat} {tx : String} (hw : (own, index, tx, a) ∈ gLit) (ha : gSB ≤ a) (hd : decode cc pc = .ok (.ldc index, 2))
    (k : gG Z ad T M ce so (pc + 2) ls (.ref a :: st)) : gG Z ad T M ce so pc ls st := by
  obtain ⟨p, l, e, R, s, m, args, below, meth, c, Q, adV, hKq, hx, hb, hml, hown, hts, hK, hH, hA, hE, hRm, hnm, hlk, -⟩ := hF
  intro H locs la hR hl
  have k := k H locs la hR hl
  rw [hKq] at k ⊢
  have h1 := hE.2.1 _ hw
  rw [← hR.2.2.2.2 a ha] at h1
  exact va_ldcS hx hb hown h1 hd k
end GR
end
section
/-! ROWS ON THE HEAP -/
def gC (c : Nat) (R : String) (TT : u_T) (N : Nat) (ty : Nat → FieldType) : Prop :=
  vwCl[c]? = some (R, TT, N) ∧ (∀ w ∈ u_ws R TT N, w ∈ gWS) ∧ (∀ k, k < N → parseFieldDescriptor (TT k).2.2.1 = some (ty k)) ∧ (∀ a, a < N → ∀ b, b < N → a ≠ b → (TT a).2.1 ≠ (TT b).2.1) ∧ N = (gK c).length ∧ c < 10 ∧ ∀ k, k < N → (TT k).1 = R
def gFl (own : String) (idx c k kd : Nat) (fin : Bool) (ft : FieldType) : Prop := ∃ (R : String) (TT : u_T) (N : Nat) (ty : Nat → FieldType), gC c R TT N ty ∧ (gK c)[k]? = some kd ∧ ty k = ft ∧ (TT k).2.2.2 = fin ∧ Cond.fieldLink own idx R (TT k).2.1 (TT k).2.2.1 ∈ gWS
def gFn (own : String) (idx c k kd : Nat) (fin : Bool) (ft : FieldType) : Prop := ∃ (R : String) (TT : u_T) (N : Nat) (ty : Nat → FieldType) (host : String), gC c R TT N ty ∧ (gK c)[k]? = some kd ∧ ty k = ft ∧ (TT k).2.2.2 = fin ∧ Cond.fieldLinkNest own idx R (TT k).2.1 (TT k).2.2.1 host ∈ gNw
theorem gE_obj {dA : Nat → ClassId} {ad : Nat → Nat} {M : gM} {a c len : Nat} (h : c < 10) : gE dA ad M a (c, len) = .inr (c, (gK c).mapIdx (gfv M ad a)) := if_pos h
theorem gE_i {dA : Nat → ClassId} {ad : Nat → Nat} {M : gM} {a len : Nat} : gE dA ad M a (11, len) = .inl (dA 11, len, .inl (fun j => gi M a j)) := rfl
theorem gE_b {dA : Nat → ClassId} {ad : Nat → Nat} {M : gM} {a len : Nat} : gE dA ad M a (10, len) = .inl (dA 10, len, .inl (fun j => gi M a j)) := rfl
theorem gE_l {dA : Nat → ClassId} {ad : Nat → Nat} {M : gM} {a len : Nat} : gE dA ad M a (12, len) = .inl (dA 12, len, .inr (.inl (fun j => gl M a j))) := rfl
theorem gE_q {dA : Nat → ClassId} {ad : Nat → Nat} {M : gM} {a c len : Nat} (h : 13 ≤ c) : gE dA ad M a (c, len) = .inl (dA c, len, .inr (.inr (.inr (.inr (fun j => (gr M a j).map ad))))) := by
  unfold gE
  rw [if_neg (by show ¬ c < 10; omega), if_neg (by show ¬ c < 12; omega), if_neg (by show ¬ c = 12; omega)]
theorem gRA_eq {U : State} {a b : ClassId} {ty : FieldType} (h1 : va_RA U a ty) (h2 : va_RA U b ty) : a = b := by
  cases ty with
  | object C =>
    obtain ⟨_, _, -, -, -, q1⟩ := h1
    obtain ⟨_, _, -, -, -, q2⟩ := h2
    exact Option.some.inj (q1.symm.trans q2)
  | _ => exact Option.some.inj (Eq.trans (Eq.symm h1) h2)
theorem gW_push {dA : Nat → ClassId} {ad : Nat → Nat} {T : gT} {M : gM} {sh : Nat × Nat} {q : Nat} {e : va_E} (hC : gCl T M) (he : gE dA (va_up ad T.length q) (zr M T.length) T.length sh = e) : gW dA ad T M ++ [(q, e)] = gW dA (va_up ad T.length q) (T ++ [sh]) (zr M T.length) := by
  apply List.ext_getElem?
  intro k
  unfold gW
  rw [List.getElem?_mapIdx]
  by_cases hk : k < T.length
  · rw [List.getElem?_append_left (by rw [List.length_mapIdx]; exact hk), List.getElem?_mapIdx, List.getElem?_append_left hk]
    cases T[k]? with
    | none => rfl
    | some sh' =>
      simp only [Option.map_some]
      have hk' : k ≠ T.length := by omega
      rw [va_up_ne _ _ hk']
      congr 2
      have e0 : gfv (zr M T.length) (va_up ad T.length q) k = gfv M ad k := by
        funext j kd
        simp only [gfv, gi_zr, gl_zr, gr_zr, if_neg hk']
        by_cases h0 : kd = 0
        · rw [if_pos h0, if_pos h0]
        rw [if_neg h0, if_neg h0]
        by_cases h1 : kd = 1
        · rw [if_pos h1, if_pos h1]
        rw [if_neg h1, if_neg h1]
        cases hg : gr M k j with
        | none => rfl
        | some b =>
          have hb := hC k j b hg
          simp only [Option.map_some, va_up_ne _ _ (show b ≠ T.length by omega)]
      have e1 : ∀ j, (gr (zr M T.length) k j).map (va_up ad T.length q) = (gr M k j).map ad := fun j => by
        rw [gr_zr, if_neg hk']
        cases hg : gr M k j with
        | none => rfl
        | some b =>
          have hb := hC k j b hg
          simp only [Option.map_some, va_up_ne _ _ (show b ≠ T.length by omega)]
      simp only [gE, e0, e1, gi_zr, gl_zr, if_neg hk']
  · rw [List.getElem?_append_right (by rw [List.length_mapIdx]; omega), List.getElem?_append_right (by omega), List.length_mapIdx]
    by_cases h0 : k = T.length
    · subst h0
      rw [Nat.sub_self]
      simp only [List.getElem?_cons_zero, Option.map_some, va_up_self, he]
    · rw [List.getElem?_eq_none (by simp only [List.length_cons, List.length_nil]; omega), List.getElem?_eq_none (by simp only [List.length_cons, List.length_nil]; omega)]
      rfl
section GH
variable {Z : gZ} {cc : ByteArray} {own nm : String} {rt : Option FieldType} {d mc ms : Nat} {Acc : Option Value → (Nat → Nat) → gT → gM → Prop} {AccX : Nat → (Nat → Nat) → gT → gM → Prop} {ad : Nat → Nat} {T : gT} {M : gM} {ce so pc : Nat} {ls : List (Nat × Value)} {st : List Value}
theorem g_get_i (hF : gFix Z cc own nm rt d mc ms Acc AccX) {idx c k a len : Nat} {fin : Bool} {ft : FieldType} (hf : gFl own idx c k 0 fin ft) (hT : T[a]? = some (c, len)) (hd : decode cc pc = .ok (.getfield idx, 3))
    (k' : gG Z ad T M ce so (pc + 3) ls (.int (gi M a k) :: st)) : gG Z ad T M ce so pc ls (.ref a :: st) := by
  obtain ⟨p, l, e, R, s, m, args, below, meth, cd, Q, adV, hKq, hx, hb, hml, hown, hts, hK, hH, hA, hE, hRm, hnm, hlk, -⟩ := hF
  intro H locs la hR hl
  have k' := k' H locs la hR hl
  rw [hKq] at k' ⊢
  obtain ⟨RR, TT, N, ty, ⟨c1, c2, c3, c4, c5, c6, c7⟩, hk, -, -, hw⟩ := hf
  have hkN : k < N := by rw [c5]; exact (List.getElem?_eq_some_iff.mp hk).1
  have he := gW_get (dA := Z.2.2.2.2.1) (ad := ad) (M := M) hT
  rw [gE_obj c6] at he
  exact va_get (v := .int (gi M a k)) hx hb hts c2 hown hK hR.1 a he c1 k hkN (hts _ hw) (by rw [c7 k hkN]; exact fun x hx => hx) (gfs_get hk) hd k'

theorem g_get_l (hF : gFix Z cc own nm rt d mc ms Acc AccX) {idx c k a len : Nat} {fin : Bool} {ft : FieldType} (hf : gFl own idx c k 1 fin ft) (hT : T[a]? = some (c, len)) (hd : decode cc pc = .ok (.getfield idx, 3))
    (k' : gG Z ad T M ce so (pc + 3) ls (.long (gl M a k) :: st)) : gG Z ad T M ce so pc ls (.ref a :: st) := by
  obtain ⟨p, l, e, R, s, m, args, below, meth, cd, Q, adV, hKq, hx, hb, hml, hown, hts, hK, hH, hA, hE, hRm, hnm, hlk, -⟩ := hF
  intro H locs la hR hl
  have k' := k' H locs la hR hl
  rw [hKq] at k' ⊢
  obtain ⟨RR, TT, N, ty, ⟨c1, c2, c3, c4, c5, c6, c7⟩, hk, -, -, hw⟩ := hf
  have hkN : k < N := by rw [c5]; exact (List.getElem?_eq_some_iff.mp hk).1
  have he := gW_get (dA := Z.2.2.2.2.1) (ad := ad) (M := M) hT
  rw [gE_obj c6] at he
  exact va_get (v := .long (gl M a k)) hx hb hts c2 hown hK hR.1 a he c1 k hkN (hts _ hw) (by rw [c7 k hkN]; exact fun x hx => hx) (gfs_get hk) hd k'

theorem g_get_r (hF : gFix Z cc own nm rt d mc ms Acc AccX) {idx c k a len : Nat} {fin : Bool} {ft : FieldType} {b : Nat} (hv : gr M a k = some b) (hf : gFl own idx c k 2 fin ft) (hT : T[a]? = some (c, len)) (hd : decode cc pc = .ok (.getfield idx, 3))
    (k' : gG Z ad T M ce so (pc + 3) ls (.ref b :: st)) : gG Z ad T M ce so pc ls (.ref a :: st) := by
  obtain ⟨p, l, e, R, s, m, args, below, meth, cd, Q, adV, hKq, hx, hb, hml, hown, hts, hK, hH, hA, hE, hRm, hnm, hlk, -⟩ := hF
  intro H locs la hR hl
  have k' := k' H locs la hR hl
  rw [hKq] at k' ⊢
  obtain ⟨RR, TT, N, ty, ⟨c1, c2, c3, c4, c5, c6, c7⟩, hk, -, -, hw⟩ := hf
  have hkN : k < N := by rw [c5]; exact (List.getElem?_eq_some_iff.mp hk).1
  have he := gW_get (dA := Z.2.2.2.2.1) (ad := ad) (M := M) hT
  rw [gE_obj c6] at he
  exact va_get (v := .ref (ad b)) hx hb hts c2 hown hK hR.1 a he c1 k hkN (hts _ hw) (by rw [c7 k hkN]; exact fun x hx => hx) (by rw [gfs_get hk]; simp only [gfv, hv]; rfl) hd k'

theorem g_get_iN (hF : gFix Z cc own nm rt d mc ms Acc AccX) {idx c k a len : Nat} {fin : Bool} {ft : FieldType} (hf : gFn own idx c k 0 fin ft) (hT : T[a]? = some (c, len)) (hd : decode cc pc = .ok (.getfield idx, 3))
    (k' : gG Z ad T M ce so (pc + 3) ls (.int (gi M a k) :: st)) : gG Z ad T M ce so pc ls (.ref a :: st) := by
  obtain ⟨p, l, e, R, s, m, args, below, meth, cd, Q, adV, hKq, hx, hb, hml, hown, hts, hK, hH, hA, hE, hRm, hnm, hlk, -⟩ := hF
  intro H locs la hR hl
  have k' := k' H locs la hR hl
  rw [hKq] at k' ⊢
  obtain ⟨RR, TT, N, ty, host, ⟨c1, c2, c3, c4, c5, c6, c7⟩, hk, -, -, hw⟩ := hf
  have hkN : k < N := by rw [c5]; exact (List.getElem?_eq_some_iff.mp hk).1
  have he := gW_get (dA := Z.2.2.2.2.1) (ad := ad) (M := M) hT
  rw [gE_obj c6] at he
  exact va_getN (v := .int (gi M a k)) hx hb hts c2 hown hK hR.1 a he c1 k hkN (va_Nw.use rfl (hE.1 _ hw)) (by rw [c7 k hkN]; exact fun x hx => hx) (gfs_get hk) hd k'

theorem g_get_lN (hF : gFix Z cc own nm rt d mc ms Acc AccX) {idx c k a len : Nat} {fin : Bool} {ft : FieldType} (hf : gFn own idx c k 1 fin ft) (hT : T[a]? = some (c, len)) (hd : decode cc pc = .ok (.getfield idx, 3))
    (k' : gG Z ad T M ce so (pc + 3) ls (.long (gl M a k) :: st)) : gG Z ad T M ce so pc ls (.ref a :: st) := by
  obtain ⟨p, l, e, R, s, m, args, below, meth, cd, Q, adV, hKq, hx, hb, hml, hown, hts, hK, hH, hA, hE, hRm, hnm, hlk, -⟩ := hF
  intro H locs la hR hl
  have k' := k' H locs la hR hl
  rw [hKq] at k' ⊢
  obtain ⟨RR, TT, N, ty, host, ⟨c1, c2, c3, c4, c5, c6, c7⟩, hk, -, -, hw⟩ := hf
  have hkN : k < N := by rw [c5]; exact (List.getElem?_eq_some_iff.mp hk).1
  have he := gW_get (dA := Z.2.2.2.2.1) (ad := ad) (M := M) hT
  rw [gE_obj c6] at he
  exact va_getN (v := .long (gl M a k)) hx hb hts c2 hown hK hR.1 a he c1 k hkN (va_Nw.use rfl (hE.1 _ hw)) (by rw [c7 k hkN]; exact fun x hx => hx) (gfs_get hk) hd k'

theorem g_get_rN (hF : gFix Z cc own nm rt d mc ms Acc AccX) {idx c k a len : Nat} {fin : Bool} {ft : FieldType} {b : Nat} (hv : gr M a k = some b) (hf : gFn own idx c k 2 fin ft) (hT : T[a]? = some (c, len)) (hd : decode cc pc = .ok (.getfield idx, 3))
    (k' : gG Z ad T M ce so (pc + 3) ls (.ref b :: st)) : gG Z ad T M ce so pc ls (.ref a :: st) := by
  obtain ⟨p, l, e, R, s, m, args, below, meth, cd, Q, adV, hKq, hx, hb, hml, hown, hts, hK, hH, hA, hE, hRm, hnm, hlk, -⟩ := hF
  intro H locs la hR hl
  have k' := k' H locs la hR hl
  rw [hKq] at k' ⊢
  obtain ⟨RR, TT, N, ty, host, ⟨c1, c2, c3, c4, c5, c6, c7⟩, hk, -, -, hw⟩ := hf
  have hkN : k < N := by rw [c5]; exact (List.getElem?_eq_some_iff.mp hk).1
  have he := gW_get (dA := Z.2.2.2.2.1) (ad := ad) (M := M) hT
  rw [gE_obj c6] at he
  exact va_getN (v := .ref (ad b)) hx hb hts c2 hown hK hR.1 a he c1 k hkN (va_Nw.use rfl (hE.1 _ hw)) (by rw [c7 k hkN]; exact fun x hx => hx) (by rw [gfs_get hk]; simp only [gfv, hv]; rfl) hd k'

theorem g_put_i (hF : gFix Z cc own nm rt d mc ms Acc AccX) {idx c k a len : Nat} {ft : FieldType} {x : Int32} (hn : narrow ft (.int x) = .int x) (hfit : fits ft (.int x) = true) (hf : gFl own idx c k 0 false ft) (hT : T[a]? = some (c, len)) (hd : decode cc pc = .ok (.putfield idx, 3))
    (k' : gG Z ad T (si M a k x) ce so (pc + 3) ls st) : gG Z ad T M ce so pc ls (.int x :: .ref a :: st) := by
  obtain ⟨p, l, e, R, s, m, args, below, meth, cd, Q, adV, hKq, hx, hb, hml, hown, hts, hK, hH, hA, hE, hRm, hnm, hlk, -⟩ := hF
  intro H locs la hR hl
  have k' := fun H1 locs1 hR1 => k' H1 locs1 la hR1 hl
  rw [hKq] at k' ⊢
  obtain ⟨RR, TT, N, ty, ⟨c1, c2, c3, c4, c5, c6, c7⟩, hk, hft, hfi, hw⟩ := hf
  have hkN : k < N := by rw [c5]; exact (List.getElem?_eq_some_iff.mp hk).1
  have he := gW_get (dA := Z.2.2.2.2.1) (ad := ad) (M := M) hT
  rw [gE_obj c6] at he
  have hset := gW_set (dA := Z.2.2.2.2.1) (ad := ad) (M := M) (M' := si M a k x) (e := .inr (c, ((gK c).mapIdx (gfv M ad a)).set k (.int x))) hT (by rw [gE_obj c6, gfs_set hk (v := .int x) (by rw [gfv, if_pos rfl, gi_si, if_pos ⟨rfl, rfl⟩]) gfv_si]) gE_si
  refine va_put (v := .int x) hx hb hts c2 ty c3 c4 hown hK hR.1 hR.2.1 hR.2.2.1 a he c1 k hkN (hts _ hw) (by rw [c7 k hkN]; exact fun x hx => hx) hfi (c3 k hkN) (by rw [hft]; exact hn) (by rw [hft]; exact hfit) (by rw [List.length_mapIdx, ← c5]; exact hkN) hd (fun H1 locs1 hP hD hS => k' H1 locs1 ⟨by rw [← hset]; exact hP, by rw [← hset]; exact hD, hS, gCl_si hR.2.2.2.1, hR.2.2.2.2⟩)

theorem g_put_l (hF : gFix Z cc own nm rt d mc ms Acc AccX) {idx c k a len : Nat} {ft : FieldType} {x : Int64} (hn : narrow ft (.long x) = .long x) (hfit : fits ft (.long x) = true) (hf : gFl own idx c k 1 false ft) (hT : T[a]? = some (c, len)) (hd : decode cc pc = .ok (.putfield idx, 3))
    (k' : gG Z ad T (sl M a k x) ce so (pc + 3) ls st) : gG Z ad T M ce so pc ls (.long x :: .ref a :: st) := by
  obtain ⟨p, l, e, R, s, m, args, below, meth, cd, Q, adV, hKq, hx, hb, hml, hown, hts, hK, hH, hA, hE, hRm, hnm, hlk, -⟩ := hF
  intro H locs la hR hl
  have k' := fun H1 locs1 hR1 => k' H1 locs1 la hR1 hl
  rw [hKq] at k' ⊢
  obtain ⟨RR, TT, N, ty, ⟨c1, c2, c3, c4, c5, c6, c7⟩, hk, hft, hfi, hw⟩ := hf
  have hkN : k < N := by rw [c5]; exact (List.getElem?_eq_some_iff.mp hk).1
  have he := gW_get (dA := Z.2.2.2.2.1) (ad := ad) (M := M) hT
  rw [gE_obj c6] at he
  have hset := gW_set (dA := Z.2.2.2.2.1) (ad := ad) (M := M) (M' := sl M a k x) (e := .inr (c, ((gK c).mapIdx (gfv M ad a)).set k (.long x))) hT (by rw [gE_obj c6, gfs_set hk (v := .long x) (by rw [gfv, if_neg (by decide), if_pos rfl, gl_sl, if_pos ⟨rfl, rfl⟩]) gfv_sl]) gE_sl
  refine va_put (v := .long x) hx hb hts c2 ty c3 c4 hown hK hR.1 hR.2.1 hR.2.2.1 a he c1 k hkN (hts _ hw) (by rw [c7 k hkN]; exact fun x hx => hx) hfi (c3 k hkN) (by rw [hft]; exact hn) (by rw [hft]; exact hfit) (by rw [List.length_mapIdx, ← c5]; exact hkN) hd (fun H1 locs1 hP hD hS => k' H1 locs1 ⟨by rw [← hset]; exact hP, by rw [← hset]; exact hD, hS, gCl_sl hR.2.2.2.1, hR.2.2.2.2⟩)

theorem g_put_r (hF : gFix Z cc own nm rt d mc ms Acc AccX) {idx c k a len : Nat} {ft : FieldType} {b : Nat} (hn : ∀ q, narrow ft (.ref q) = .ref q) (hfit : ∀ q, fits ft (.ref q) = true) (hbl : b < T.length) (hf : gFl own idx c k 2 false ft) (hT : T[a]? = some (c, len)) (hd : decode cc pc = .ok (.putfield idx, 3))
    (k' : gG Z ad T (sr M a k (some b)) ce so (pc + 3) ls st) : gG Z ad T M ce so pc ls (.ref b :: .ref a :: st) := by
  obtain ⟨p, l, e, R, s, m, args, below, meth, cd, Q, adV, hKq, hx, hb, hml, hown, hts, hK, hH, hA, hE, hRm, hnm, hlk, -⟩ := hF
  intro H locs la hR hl
  have k' := fun H1 locs1 hR1 => k' H1 locs1 la hR1 hl
  rw [hKq] at k' ⊢
  obtain ⟨RR, TT, N, ty, ⟨c1, c2, c3, c4, c5, c6, c7⟩, hk, hft, hfi, hw⟩ := hf
  have hkN : k < N := by rw [c5]; exact (List.getElem?_eq_some_iff.mp hk).1
  have he := gW_get (dA := Z.2.2.2.2.1) (ad := ad) (M := M) hT
  rw [gE_obj c6] at he
  have hset := gW_set (dA := Z.2.2.2.2.1) (ad := ad) (M := M) (M' := sr M a k (some b)) (e := .inr (c, ((gK c).mapIdx (gfv M ad a)).set k (.ref (ad b)))) hT (by rw [gE_obj c6, gfs_set hk (v := .ref (ad b)) (by show va_rf ((gr (sr M a k (some b)) a k).map ad) = .ref (ad b); rw [gr_sr, if_pos ⟨rfl, rfl⟩]; rfl) gfv_sr]) gE_sr
  refine va_put (v := .ref (ad b)) hx hb hts c2 ty c3 c4 hown hK hR.1 hR.2.1 hR.2.2.1 a he c1 k hkN (hts _ hw) (by rw [c7 k hkN]; exact fun x hx => hx) hfi (c3 k hkN) (by rw [hft]; exact (hn _)) (by rw [hft]; exact (hfit _)) (by rw [List.length_mapIdx, ← c5]; exact hkN) hd (fun H1 locs1 hP hD hS => k' H1 locs1 ⟨by rw [← hset]; exact hP, by rw [← hset]; exact hD, hS, gCl_sr hR.2.2.2.1 hbl, hR.2.2.2.2⟩)

theorem g_putF_i (hF : gFix Z cc own nm rt d mc ms Acc AccX) {idx c k a len : Nat} {ft : FieldType} {x : Int32} (hn : narrow ft (.int x) = .int x) (hfit : fits ft (.int x) = true) (hnm0 : nm = "<init>") (hRo0 : ∀ (R : String) (TT : u_T) (N : Nat) (ty : Nat → FieldType), gC c R TT N ty → R = own) (hf : gFl own idx c k 0 true ft) (hT : T[a]? = some (c, len)) (hd : decode cc pc = .ok (.putfield idx, 3))
    (k' : gG Z ad T (si M a k x) ce so (pc + 3) ls st) : gG Z ad T M ce so pc ls (.int x :: .ref a :: st) := by
  obtain ⟨p, l, e, R, s, m, args, below, meth, cd, Q, adV, hKq, hx, hb, hml, hown, hts, hK, hH, hA, hE, hRm, hnm, hlk, -⟩ := hF
  intro H locs la hR hl
  have hnm1 : meth.name = "<init>" := hnm.trans hnm0
  have k' := fun H1 locs1 hR1 => k' H1 locs1 la hR1 hl
  rw [hKq] at k' ⊢
  obtain ⟨RR, TT, N, ty, ⟨c1, c2, c3, c4, c5, c6, c7⟩, hk, hft, hfi, hw⟩ := hf
  have hRo : RR = own := hRo0 RR TT N ty ⟨c1, c2, c3, c4, c5, c6, c7⟩
  have hkN : k < N := by rw [c5]; exact (List.getElem?_eq_some_iff.mp hk).1
  have he := gW_get (dA := Z.2.2.2.2.1) (ad := ad) (M := M) hT
  rw [gE_obj c6] at he
  have hset := gW_set (dA := Z.2.2.2.2.1) (ad := ad) (M := M) (M' := si M a k x) (e := .inr (c, ((gK c).mapIdx (gfv M ad a)).set k (.int x))) hT (by rw [gE_obj c6, gfs_set hk (v := .int x) (by rw [gfv, if_pos rfl, gi_si, if_pos ⟨rfl, rfl⟩]) gfv_si]) gE_si
  refine va_putF (v := .int x) hx hb hts c2 ty c3 c4 hown hK hR.1 hR.2.1 hR.2.2.1 a he c1 k hkN (hts _ hw) (by rw [c7 k hkN]; exact fun x hx => hx) hfi hnm1 (by rw [c7 k hkN]; exact hRo) (c3 k hkN) (by rw [hft]; exact hn) (by rw [hft]; exact hfit) (by rw [List.length_mapIdx, ← c5]; exact hkN) hd (fun H1 locs1 hP hD hS => k' H1 locs1 ⟨by rw [← hset]; exact hP, by rw [← hset]; exact hD, hS, gCl_si hR.2.2.2.1, hR.2.2.2.2⟩)

theorem g_putF_l (hF : gFix Z cc own nm rt d mc ms Acc AccX) {idx c k a len : Nat} {ft : FieldType} {x : Int64} (hn : narrow ft (.long x) = .long x) (hfit : fits ft (.long x) = true) (hnm0 : nm = "<init>") (hRo0 : ∀ (R : String) (TT : u_T) (N : Nat) (ty : Nat → FieldType), gC c R TT N ty → R = own) (hf : gFl own idx c k 1 true ft) (hT : T[a]? = some (c, len)) (hd : decode cc pc = .ok (.putfield idx, 3))
    (k' : gG Z ad T (sl M a k x) ce so (pc + 3) ls st) : gG Z ad T M ce so pc ls (.long x :: .ref a :: st) := by
  obtain ⟨p, l, e, R, s, m, args, below, meth, cd, Q, adV, hKq, hx, hb, hml, hown, hts, hK, hH, hA, hE, hRm, hnm, hlk, -⟩ := hF
  intro H locs la hR hl
  have hnm1 : meth.name = "<init>" := hnm.trans hnm0
  have k' := fun H1 locs1 hR1 => k' H1 locs1 la hR1 hl
  rw [hKq] at k' ⊢
  obtain ⟨RR, TT, N, ty, ⟨c1, c2, c3, c4, c5, c6, c7⟩, hk, hft, hfi, hw⟩ := hf
  have hRo : RR = own := hRo0 RR TT N ty ⟨c1, c2, c3, c4, c5, c6, c7⟩
  have hkN : k < N := by rw [c5]; exact (List.getElem?_eq_some_iff.mp hk).1
  have he := gW_get (dA := Z.2.2.2.2.1) (ad := ad) (M := M) hT
  rw [gE_obj c6] at he
  have hset := gW_set (dA := Z.2.2.2.2.1) (ad := ad) (M := M) (M' := sl M a k x) (e := .inr (c, ((gK c).mapIdx (gfv M ad a)).set k (.long x))) hT (by rw [gE_obj c6, gfs_set hk (v := .long x) (by rw [gfv, if_neg (by decide), if_pos rfl, gl_sl, if_pos ⟨rfl, rfl⟩]) gfv_sl]) gE_sl
  refine va_putF (v := .long x) hx hb hts c2 ty c3 c4 hown hK hR.1 hR.2.1 hR.2.2.1 a he c1 k hkN (hts _ hw) (by rw [c7 k hkN]; exact fun x hx => hx) hfi hnm1 (by rw [c7 k hkN]; exact hRo) (c3 k hkN) (by rw [hft]; exact hn) (by rw [hft]; exact hfit) (by rw [List.length_mapIdx, ← c5]; exact hkN) hd (fun H1 locs1 hP hD hS => k' H1 locs1 ⟨by rw [← hset]; exact hP, by rw [← hset]; exact hD, hS, gCl_sl hR.2.2.2.1, hR.2.2.2.2⟩)

theorem g_putF_r (hF : gFix Z cc own nm rt d mc ms Acc AccX) {idx c k a len : Nat} {ft : FieldType} {b : Nat} (hn : ∀ q, narrow ft (.ref q) = .ref q) (hfit : ∀ q, fits ft (.ref q) = true) (hbl : b < T.length) (hnm0 : nm = "<init>") (hRo0 : ∀ (R : String) (TT : u_T) (N : Nat) (ty : Nat → FieldType), gC c R TT N ty → R = own) (hf : gFl own idx c k 2 true ft) (hT : T[a]? = some (c, len)) (hd : decode cc pc = .ok (.putfield idx, 3))
    (k' : gG Z ad T (sr M a k (some b)) ce so (pc + 3) ls st) : gG Z ad T M ce so pc ls (.ref b :: .ref a :: st) := by
  obtain ⟨p, l, e, R, s, m, args, below, meth, cd, Q, adV, hKq, hx, hb, hml, hown, hts, hK, hH, hA, hE, hRm, hnm, hlk, -⟩ := hF
  intro H locs la hR hl
  have hnm1 : meth.name = "<init>" := hnm.trans hnm0
  have k' := fun H1 locs1 hR1 => k' H1 locs1 la hR1 hl
  rw [hKq] at k' ⊢
  obtain ⟨RR, TT, N, ty, ⟨c1, c2, c3, c4, c5, c6, c7⟩, hk, hft, hfi, hw⟩ := hf
  have hRo : RR = own := hRo0 RR TT N ty ⟨c1, c2, c3, c4, c5, c6, c7⟩
  have hkN : k < N := by rw [c5]; exact (List.getElem?_eq_some_iff.mp hk).1
  have he := gW_get (dA := Z.2.2.2.2.1) (ad := ad) (M := M) hT
  rw [gE_obj c6] at he
  have hset := gW_set (dA := Z.2.2.2.2.1) (ad := ad) (M := M) (M' := sr M a k (some b)) (e := .inr (c, ((gK c).mapIdx (gfv M ad a)).set k (.ref (ad b)))) hT (by rw [gE_obj c6, gfs_set hk (v := .ref (ad b)) (by show va_rf ((gr (sr M a k (some b)) a k).map ad) = .ref (ad b); rw [gr_sr, if_pos ⟨rfl, rfl⟩]; rfl) gfv_sr]) gE_sr
  refine va_putF (v := .ref (ad b)) hx hb hts c2 ty c3 c4 hown hK hR.1 hR.2.1 hR.2.2.1 a he c1 k hkN (hts _ hw) (by rw [c7 k hkN]; exact fun x hx => hx) hfi hnm1 (by rw [c7 k hkN]; exact hRo) (c3 k hkN) (by rw [hft]; exact (hn _)) (by rw [hft]; exact (hfit _)) (by rw [List.length_mapIdx, ← c5]; exact hkN) hd (fun H1 locs1 hP hD hS => k' H1 locs1 ⟨by rw [← hset]; exact hP, by rw [← hset]; exact hD, hS, gCl_sr hR.2.2.2.1 hbl, hR.2.2.2.2⟩)

theorem g_putN_i (hF : gFix Z cc own nm rt d mc ms Acc AccX) {idx c k a len : Nat} {ft : FieldType} {x : Int32} (hn : narrow ft (.int x) = .int x) (hfit : fits ft (.int x) = true) (hf : gFn own idx c k 0 false ft) (hT : T[a]? = some (c, len)) (hd : decode cc pc = .ok (.putfield idx, 3))
    (k' : gG Z ad T (si M a k x) ce so (pc + 3) ls st) : gG Z ad T M ce so pc ls (.int x :: .ref a :: st) := by
  obtain ⟨p, l, e, R, s, m, args, below, meth, cd, Q, adV, hKq, hx, hb, hml, hown, hts, hK, hH, hA, hE, hRm, hnm, hlk, -⟩ := hF
  intro H locs la hR hl
  have k' := fun H1 locs1 hR1 => k' H1 locs1 la hR1 hl
  rw [hKq] at k' ⊢
  obtain ⟨RR, TT, N, ty, host, ⟨c1, c2, c3, c4, c5, c6, c7⟩, hk, hft, hfi, hw⟩ := hf
  have hkN : k < N := by rw [c5]; exact (List.getElem?_eq_some_iff.mp hk).1
  have he := gW_get (dA := Z.2.2.2.2.1) (ad := ad) (M := M) hT
  rw [gE_obj c6] at he
  have hset := gW_set (dA := Z.2.2.2.2.1) (ad := ad) (M := M) (M' := si M a k x) (e := .inr (c, ((gK c).mapIdx (gfv M ad a)).set k (.int x))) hT (by rw [gE_obj c6, gfs_set hk (v := .int x) (by rw [gfv, if_pos rfl, gi_si, if_pos ⟨rfl, rfl⟩]) gfv_si]) gE_si
  refine va_putN (v := .int x) hx hb hts c2 ty c3 c4 hown hK hR.1 hR.2.1 hR.2.2.1 a he c1 k hkN (va_Nw.use rfl (hE.1 _ hw)) (by rw [c7 k hkN]; exact fun x hx => hx) hfi (c3 k hkN) (by rw [hft]; exact hn) (by rw [hft]; exact hfit) (by rw [List.length_mapIdx, ← c5]; exact hkN) hd (fun H1 locs1 hP hD hS => k' H1 locs1 ⟨by rw [← hset]; exact hP, by rw [← hset]; exact hD, hS, gCl_si hR.2.2.2.1, hR.2.2.2.2⟩)

theorem g_putN_l (hF : gFix Z cc own nm rt d mc ms Acc AccX) {idx c k a len : Nat} {ft : FieldType} {x : Int64} (hn : narrow ft (.long x) = .long x) (hfit : fits ft (.long x) = true) (hf : gFn own idx c k 1 false ft) (hT : T[a]? = some (c, len)) (hd : decode cc pc = .ok (.putfield idx, 3))
    (k' : gG Z ad T (sl M a k x) ce so (pc + 3) ls st) : gG Z ad T M ce so pc ls (.long x :: .ref a :: st) := by
  obtain ⟨p, l, e, R, s, m, args, below, meth, cd, Q, adV, hKq, hx, hb, hml, hown, hts, hK, hH, hA, hE, hRm, hnm, hlk, -⟩ := hF
  intro H locs la hR hl
  have k' := fun H1 locs1 hR1 => k' H1 locs1 la hR1 hl
  rw [hKq] at k' ⊢
  obtain ⟨RR, TT, N, ty, host, ⟨c1, c2, c3, c4, c5, c6, c7⟩, hk, hft, hfi, hw⟩ := hf
  have hkN : k < N := by rw [c5]; exact (List.getElem?_eq_some_iff.mp hk).1
  have he := gW_get (dA := Z.2.2.2.2.1) (ad := ad) (M := M) hT
  rw [gE_obj c6] at he
  have hset := gW_set (dA := Z.2.2.2.2.1) (ad := ad) (M := M) (M' := sl M a k x) (e := .inr (c, ((gK c).mapIdx (gfv M ad a)).set k (.long x))) hT (by rw [gE_obj c6, gfs_set hk (v := .long x) (by rw [gfv, if_neg (by decide), if_pos rfl, gl_sl, if_pos ⟨rfl, rfl⟩]) gfv_sl]) gE_sl
  refine va_putN (v := .long x) hx hb hts c2 ty c3 c4 hown hK hR.1 hR.2.1 hR.2.2.1 a he c1 k hkN (va_Nw.use rfl (hE.1 _ hw)) (by rw [c7 k hkN]; exact fun x hx => hx) hfi (c3 k hkN) (by rw [hft]; exact hn) (by rw [hft]; exact hfit) (by rw [List.length_mapIdx, ← c5]; exact hkN) hd (fun H1 locs1 hP hD hS => k' H1 locs1 ⟨by rw [← hset]; exact hP, by rw [← hset]; exact hD, hS, gCl_sl hR.2.2.2.1, hR.2.2.2.2⟩)

theorem g_putN_r (hF : gFix Z cc own nm rt d mc ms Acc AccX) {idx c k a len : Nat} {ft : FieldType} {b : Nat} (hn : ∀ q, narrow ft (.ref q) = .ref q) (hfit : ∀ q, fits ft (.ref q) = true) (hbl : b < T.length) (hf : gFn own idx c k 2 false ft) (hT : T[a]? = some (c, len)) (hd : decode cc pc = .ok (.putfield idx, 3))
    (k' : gG Z ad T (sr M a k (some b)) ce so (pc + 3) ls st) : gG Z ad T M ce so pc ls (.ref b :: .ref a :: st) := by
  obtain ⟨p, l, e, R, s, m, args, below, meth, cd, Q, adV, hKq, hx, hb, hml, hown, hts, hK, hH, hA, hE, hRm, hnm, hlk, -⟩ := hF
  intro H locs la hR hl
  have k' := fun H1 locs1 hR1 => k' H1 locs1 la hR1 hl
  rw [hKq] at k' ⊢
  obtain ⟨RR, TT, N, ty, host, ⟨c1, c2, c3, c4, c5, c6, c7⟩, hk, hft, hfi, hw⟩ := hf
  have hkN : k < N := by rw [c5]; exact (List.getElem?_eq_some_iff.mp hk).1
  have he := gW_get (dA := Z.2.2.2.2.1) (ad := ad) (M := M) hT
  rw [gE_obj c6] at he
  have hset := gW_set (dA := Z.2.2.2.2.1) (ad := ad) (M := M) (M' := sr M a k (some b)) (e := .inr (c, ((gK c).mapIdx (gfv M ad a)).set k (.ref (ad b)))) hT (by rw [gE_obj c6, gfs_set hk (v := .ref (ad b)) (by show va_rf ((gr (sr M a k (some b)) a k).map ad) = .ref (ad b); rw [gr_sr, if_pos ⟨rfl, rfl⟩]; rfl) gfv_sr]) gE_sr
  refine va_putN (v := .ref (ad b)) hx hb hts c2 ty c3 c4 hown hK hR.1 hR.2.1 hR.2.2.1 a he c1 k hkN (va_Nw.use rfl (hE.1 _ hw)) (by rw [c7 k hkN]; exact fun x hx => hx) hfi (c3 k hkN) (by rw [hft]; exact (hn _)) (by rw [hft]; exact (hfit _)) (by rw [List.length_mapIdx, ← c5]; exact hkN) hd (fun H1 locs1 hP hD hS => k' H1 locs1 ⟨by rw [← hset]; exact hP, by rw [← hset]; exact hD, hS, gCl_sr hR.2.2.2.1 hbl, hR.2.2.2.2⟩)

theorem g_iald (hF : gFix Z cc own nm rt d mc ms Acc AccX) {a n : Nat} {i : Int32} (hT : T[a]? = some (11, n)) (hin : vp_in i n) (hd : decode cc pc = .ok (.iaload, 1))
    (k : gG Z ad T M ce so (pc + 1) ls (.int (gi M a i.toNatClampNeg) :: st)) : gG Z ad T M ce so pc ls (.int i :: .ref a :: st) := by
  obtain ⟨p, l, e, R, s, m, args, below, meth, c, Q, adV, hKq, hx, hb, hml, hown, hts, hK, hH, hA, hE, hRm, hnm, hlk, -⟩ := hF
  intro H locs la hR hl
  have k := k H locs la hR hl
  rw [hKq] at k ⊢
  have he := gW_get (dA := Z.2.2.2.2.1) (ad := ad) (M := M) hT
  rw [gE_i] at he
  exact va_iald hx hb hK hR.1 a 1 he rfl hin hd k

theorem g_bald (hF : gFix Z cc own nm rt d mc ms Acc AccX) {a n : Nat} {i : Int32} (hT : T[a]? = some (10, n)) (hin : vp_in i n) (hd : decode cc pc = .ok (.baload, 1))
    (k : gG Z ad T M ce so (pc + 1) ls (.int (gi M a i.toNatClampNeg) :: st)) : gG Z ad T M ce so pc ls (.int i :: .ref a :: st) := by
  obtain ⟨p, l, e, R, s, m, args, below, meth, c, Q, adV, hKq, hx, hb, hml, hown, hts, hK, hH, hA, hE, hRm, hnm, hlk, -⟩ := hF
  intro H locs la hR hl
  have k := k H locs la hR hl
  rw [hKq] at k ⊢
  have he := gW_get (dA := Z.2.2.2.2.1) (ad := ad) (M := M) hT
  rw [gE_b] at he
  exact va_bald hx hb hK hR.1 a 0 he rfl hin hd k

theorem g_lald (hF : gFix Z cc own nm rt d mc ms Acc AccX) {a n : Nat} {i : Int32} (hT : T[a]? = some (12, n)) (hin : vp_in i n) (hd : decode cc pc = .ok (.laload, 1))
    (k : gG Z ad T M ce so (pc + 1) ls (.long (gl M a i.toNatClampNeg) :: st)) : gG Z ad T M ce so pc ls (.int i :: .ref a :: st) := by
  obtain ⟨p, l, e, R, s, m, args, below, meth, c, Q, adV, hKq, hx, hb, hml, hown, hts, hK, hH, hA, hE, hRm, hnm, hlk, -⟩ := hF
  intro H locs la hR hl
  have k := k H locs la hR hl
  rw [hKq] at k ⊢
  have he := gW_get (dA := Z.2.2.2.2.1) (ad := ad) (M := M) hT
  rw [gE_l] at he
  exact va_lald hx hb hK hR.1 a 2 he rfl hin hd k

theorem g_aald (hF : gFix Z cc own nm rt d mc ms Acc AccX) {a n b kd : Nat} {C : String} {i : Int32} (hT : T[a]? = some (kd, n)) (hkd : (kd = 13 ∧ C = RX0) ∨ (kd = 14 ∧ C = RX3)) (hin : vp_in i n) (hv : gr M a i.toNatClampNeg = some b) (hd : decode cc pc = .ok (.aaload, 1))
    (k : gG Z ad T M ce so (pc + 1) ls (.ref b :: st)) : gG Z ad T M ce so pc ls (.int i :: .ref a :: st) := by
  obtain ⟨p, l, e, R, s, m, args, below, meth, c, Q, adV, hKq, hx, hb, hml, hown, hts, hK, hH, hA, hE, hRm, hnm, hlk, -⟩ := hF
  intro H locs la hR hl
  have k := k H locs la hR hl
  rw [hKq] at k ⊢
  have he := gW_get (dA := Z.2.2.2.2.1) (ad := ad) (M := M) hT
  rw [gE_q (by rcases hkd with q | q <;> omega)] at he
  have k2 : W p l e R s m args below meth c H locs ce so Q (F0 m (pc + 1) la (va_rf ((fun j => (gr M a j).map ad) i.toNatClampNeg) :: st.map (gv ad))) := by
    show W p l e R s m args below meth c H locs ce so Q (F0 m (pc + 1) la (va_rf ((gr M a i.toNatClampNeg).map ad) :: st.map (gv ad)))
    rw [hv]
    exact k
  rcases hkd with ⟨rfl, rfl⟩ | ⟨rfl, rfl⟩
  · exact va_aldq hx hb hK hR.1 a 3 he rfl hin hd k2
  · exact va_aldq hx hb hK hR.1 a 4 he rfl hin hd k2
theorem g_aald2 (hF : gFix Z cc own nm rt d mc ms Acc AccX) {a n b : Nat} {i : Int32} (hT : T[a]? = some (15, n)) (hin : vp_in i n) (hv : gr M a i.toNatClampNeg = some b) (hd : decode cc pc = .ok (.aaload, 1))
    (k : gG Z ad T M ce so (pc + 1) ls (.ref b :: st)) : gG Z ad T M ce so pc ls (.int i :: .ref a :: st) := by
  obtain ⟨p, l, e, R, s, m, args, below, meth, c, Q, adV, hKq, hx, hb, hml, hown, hts, hK, hH, hA, hE, hRm, hnm, hlk, -⟩ := hF
  intro H locs la hR hl
  have k := k H locs la hR hl
  rw [hKq] at k ⊢
  have he := gW_get (dA := Z.2.2.2.2.1) (ad := ad) (M := M) hT
  rw [gE_q (by omega)] at he
  have hlt : i.toNatClampNeg < n := Nat.not_le.mp fun q => hin (Or.inr q)
  exact W.aald (v := .ref (ad b)) (ty := .array .int) hx hb (hR.1 a _ he) ((hK.2 5 _ rfl).1 n (fun j => va_rf ((gr M a j).map ad))) rfl (fun q => by cases q) (by show ¬ (i < 0 ∨ (arrV _ _ _).slots.size ≤ _); rw [arrV_size]; exact hin) (by show (arrV _ _ _).slots[_]? = _; rw [arrV_read _ _ hlt]; show some (va_rf ((gr M a i.toNatClampNeg).map ad)) = _; rw [hv]; rfl) rfl rfl hd k
theorem g_alen (hF : gFix Z cc own nm rt d mc ms Acc AccX) {a n kd : Nat} (hT : T[a]? = some (kd, n)) (hkd : 10 ≤ kd ∧ kd < 16) (hd : decode cc pc = .ok (.arraylength, 1))
    (k : gG Z ad T M ce so (pc + 1) ls (.int (Int32.ofNat n) :: st)) : gG Z ad T M ce so pc ls (.ref a :: st) := by
  obtain ⟨p, l, e, R, s, m, args, below, meth, c, Q, adV, hKq, hx, hb, hml, hown, hts, hK, hH, hA, hE, hRm, hnm, hlk, -⟩ := hF
  intro H locs la hR hl
  have k := k H locs la hR hl
  rw [hKq] at k ⊢
  have he := gW_get (dA := Z.2.2.2.2.1) (ad := ad) (M := M) hT
  obtain rfl | rfl | rfl | rfl | rfl | rfl : kd = 10 ∨ kd = 11 ∨ kd = 12 ∨ kd = 13 ∨ kd = 14 ∨ kd = 15 := by omega
  · exact va_alen hx hb hK hR.1 a 0 (x := (n, .inl (fun j => gi M a j))) he rfl rfl hd k
  · exact va_alen hx hb hK hR.1 a 1 (x := (n, .inl (fun j => gi M a j))) he rfl rfl hd k
  · exact va_alen hx hb hK hR.1 a 2 (x := (n, .inr (.inl (fun j => gl M a j)))) he rfl rfl hd k
  · exact va_alen hx hb hK hR.1 a 3 (x := (n, .inr (.inr (.inr (.inr (fun j => (gr M a j).map ad)))))) he rfl rfl hd k
  · exact va_alen hx hb hK hR.1 a 4 (x := (n, .inr (.inr (.inr (.inr (fun j => (gr M a j).map ad)))))) he rfl rfl hd k
  · exact va_alen hx hb hK hR.1 a 5 (x := (n, .inr (.inr (.inr (.inr (fun j => (gr M a j).map ad)))))) he rfl rfl hd k

theorem g_iast (hF : gFix Z cc own nm rt d mc ms Acc AccX) {a n : Nat} {i : Int32} {x : Int32} (hT : T[a]? = some (11, n)) (hin : vp_in i n) (hd : decode cc pc = .ok (.iastore, 1))
    (k : gG Z ad T (si M a i.toNatClampNeg x) ce so (pc + 1) ls st) : gG Z ad T M ce so pc ls (.int x :: .int i :: .ref a :: st) := by
  obtain ⟨p, l, e, R, s, m, args, below, meth, c, Q, adV, hKq, hx, hb, hml, hown, hts, hK, hH, hA, hE, hRm, hnm, hlk, -⟩ := hF
  intro H locs la hR hl
  have k := fun H1 locs1 hR1 => k H1 locs1 la hR1 hl
  rw [hKq] at k ⊢
  have he := gW_get (dA := Z.2.2.2.2.1) (ad := ad) (M := M) hT
  rw [gE_i] at he
  have hset := gW_set (dA := Z.2.2.2.2.1) (ad := ad) (M := M) (M' := si M a i.toNatClampNeg x) (e := .inl (Z.2.2.2.2.1 11, n, .inl (upd (fun j => gi M a j) i.toNatClampNeg x))) hT (by
    rw [gE_i]
    congr 4
    funext j
    simp only [gi_si, true_and, upd, vp_updL]
    try rw [vp_nar_byte]) gE_si
  exact va_iast hx hb hK hR.1 hR.2.1 hR.2.2.1 a 1 he rfl hin hd (fun H1 locs1 hP hD hS => k H1 locs1 ⟨by rw [← hset]; exact hP, by rw [← hset]; exact hD, hS, gCl_si hR.2.2.2.1, hR.2.2.2.2⟩)

theorem g_bast (hF : gFix Z cc own nm rt d mc ms Acc AccX) {a n : Nat} {i : Int32} {x : Int32} (hT : T[a]? = some (10, n)) (hin : vp_in i n) (hd : decode cc pc = .ok (.bastore, 1))
    (k : gG Z ad T (si M a i.toNatClampNeg x.toInt8.toInt32) ce so (pc + 1) ls st) : gG Z ad T M ce so pc ls (.int x :: .int i :: .ref a :: st) := by
  obtain ⟨p, l, e, R, s, m, args, below, meth, c, Q, adV, hKq, hx, hb, hml, hown, hts, hK, hH, hA, hE, hRm, hnm, hlk, -⟩ := hF
  intro H locs la hR hl
  have k := fun H1 locs1 hR1 => k H1 locs1 la hR1 hl
  rw [hKq] at k ⊢
  have he := gW_get (dA := Z.2.2.2.2.1) (ad := ad) (M := M) hT
  rw [gE_b] at he
  have hset := gW_set (dA := Z.2.2.2.2.1) (ad := ad) (M := M) (M' := si M a i.toNatClampNeg x.toInt8.toInt32) (e := .inl (Z.2.2.2.2.1 10, n, .inl (upd (fun j => gi M a j) i.toNatClampNeg (vp_nar .byte x)))) hT (by
    rw [gE_b]
    congr 4
    funext j
    simp only [gi_si, true_and, upd, vp_updL]
    try rw [vp_nar_byte]) gE_si
  exact va_bast hx hb hK hR.1 hR.2.1 hR.2.2.1 a 0 he rfl hin hd (fun H1 locs1 hP hD hS => k H1 locs1 ⟨by rw [← hset]; exact hP, by rw [← hset]; exact hD, hS, gCl_si hR.2.2.2.1, hR.2.2.2.2⟩)

theorem g_last (hF : gFix Z cc own nm rt d mc ms Acc AccX) {a n : Nat} {i : Int32} {x : Int64} (hT : T[a]? = some (12, n)) (hin : vp_in i n) (hd : decode cc pc = .ok (.lastore, 1))
    (k : gG Z ad T (sl M a i.toNatClampNeg x) ce so (pc + 1) ls st) : gG Z ad T M ce so pc ls (.long x :: .int i :: .ref a :: st) := by
  obtain ⟨p, l, e, R, s, m, args, below, meth, c, Q, adV, hKq, hx, hb, hml, hown, hts, hK, hH, hA, hE, hRm, hnm, hlk, -⟩ := hF
  intro H locs la hR hl
  have k := fun H1 locs1 hR1 => k H1 locs1 la hR1 hl
  rw [hKq] at k ⊢
  have he := gW_get (dA := Z.2.2.2.2.1) (ad := ad) (M := M) hT
  rw [gE_l] at he
  have hset := gW_set (dA := Z.2.2.2.2.1) (ad := ad) (M := M) (M' := sl M a i.toNatClampNeg x) (e := .inl (Z.2.2.2.2.1 12, n, .inr (.inl (vp_updL (fun j => gl M a j) i.toNatClampNeg x)))) hT (by
    rw [gE_l]
    congr 5
    funext j
    simp only [gl_sl, true_and, upd, vp_updL]
    try rw [vp_nar_byte]) gE_sl
  exact va_last hx hb hK hR.1 hR.2.1 hR.2.2.1 a 2 he rfl hin hd (fun H1 locs1 hP hD hS => k H1 locs1 ⟨by rw [← hset]; exact hP, by rw [← hset]; exact hD, hS, gCl_sl hR.2.2.2.1, hR.2.2.2.2⟩)

theorem g_aast (hF : gFix Z cc own nm rt d mc ms Acc AccX) {a n b kd ci len : Nat} {r : vw_C} {i : Int32} (hT : T[a]? = some (kd, n)) (hkd : (kd = 13 ∧ ci = 0) ∨ (kd = 14 ∧ ci = 3)) (hTb : T[b]? = some (ci, len)) (hin : vp_in i n) (hd : decode cc pc = .ok (.aastore, 1))
    (k : gG Z ad T (sr M a i.toNatClampNeg (some b)) ce so (pc + 1) ls st) : gG Z ad T M ce so pc ls (.ref b :: .int i :: .ref a :: st) := by
  obtain ⟨p, l, e, R, s, m, args, below, meth, c, Q, adV, hKq, hx, hb, hml, hown, hts, hK, hH, hA, hE, hRm, hnm, hlk, -⟩ := hF
  intro H locs la hR hl
  have k := fun H1 locs1 hR1 => k H1 locs1 la hR1 hl
  rw [hKq] at k ⊢
  have he := gW_get (dA := Z.2.2.2.2.1) (ad := ad) (M := M) hT
  rw [gE_q (by rcases hkd with q | q <;> omega)] at he
  have hv := gW_get (dA := Z.2.2.2.2.1) (ad := ad) (M := M) hTb
  rw [gE_obj (by rcases hkd with q | q <;> omega)] at hv
  have hset := gW_set (dA := Z.2.2.2.2.1) (ad := ad) (M := M) (M' := sr M a i.toNatClampNeg (some b)) (e := .inl (Z.2.2.2.2.1 kd, n, .inr (.inr (.inr (.inr (va_up (fun j => (gr M a j).map ad) i.toNatClampNeg (some (ad b)))))))) hT (by
    rw [gE_q (by rcases hkd with q | q <;> omega)]
    congr 7
    funext j
    simp only [gr_sr, true_and, va_up]
    split <;> rfl) gE_sr
  have hbl : b < T.length := (List.getElem?_eq_some_iff.mp hTb).1
  rcases hkd with ⟨rfl, rfl⟩ | ⟨rfl, rfl⟩
  · exact va_astq hx hb hK hR.1 hR.2.1 hR.2.2.1 a 3 b 0 (r := (RX0, TX0, 5)) he rfl hv rfl hin hd (fun H1 locs1 hP hD hS => k H1 locs1 ⟨by rw [← hset]; exact hP, by rw [← hset]; exact hD, hS, gCl_sr hR.2.2.2.1 hbl, hR.2.2.2.2⟩)
  · exact va_astq hx hb hK hR.1 hR.2.1 hR.2.2.1 a 4 b 3 (r := (RX3, TX3, 6)) he rfl hv rfl hin hd (fun H1 locs1 hP hD hS => k H1 locs1 ⟨by rw [← hset]; exact hP, by rw [← hset]; exact hD, hS, gCl_sr hR.2.2.2.1 hbl, hR.2.2.2.2⟩)
end GH
end
section
/-! CONTRACTS: a method at given arguments and memory returns a given answer with a given memory behind it -/
def gWs (y : MethodName) (cc : ByteArray) (nL : Nat) (rt : Option FieldType) : List Cond := Cond.code y cc nL rt :: gWS
def gA (ad : Nat → Nat) (n sz : Nat) : Nat → Prop := fun q => (∃ a, a < n ∧ q = ad a) ∨ sz ≤ q
def gIn (A : Nat → Prop) (D : va_G) (dA : Nat → ClassId) (adV ad : Nat → Nat) (T : gT) (M : gM) (sz : Nat) (U : State) : Prop :=
  U.heap.size = sz ∧ va_P D vwCl (gW dA ad T M) U.heap ∧ va_D A (gW dA ad T M) ∧ gCl T M ∧ va_K D vwCl (gTy dA) U ∧ gEnv A adV ad U U.heap
abbrev gAcc : Type := (Nat → Nat) → Option Value → (Nat → Nat) → gT → gM → Prop
def gOut (A : Nat → Prop) (D : va_G) (dA : Nat → ClassId) (ad0 : Nat → Nat) (Acc : gAcc) : Array Value → State → Outcome → State → Prop := fun _ st oc t =>
  (∃ (v : Option Value) (ad : Nat → Nat) (T1 : gT) (M1 : gM), oc = .returned (v.map (gv ad)) ∧ Acc ad0 v ad T1 M1 ∧ va_P D vwCl (gW dA ad T1 M1) t.heap ∧ va_D A (gW dA ad T1 M1) ∧ gCl T1 M1 ∧ ∀ a : Nat, gSB ≤ a → ad a = ad0 a) ∧ va_F A st t
def gRetW (l : Launch) (d : Nat) (y : MethodName) (cc : ByteArray) (nL : Nat) (rt : Option FieldType) (mc ms : Nat) (av : List Value) (T : gT) (M : gM) (Acc : gAcc) : Prop :=
  ∀ (D : va_G) (dA : Nat → ClassId) (adV ad0 : Nat → Nat) (sz : Nat), Met l y (gWs y cc nL rt) { frames := d, cells := mc, slots := ms, locals := 64 * d } (va_Pc (av.map (gv ad0)) (gIn (gA ad0 T.length sz) D dA adV ad0 T M sz)) (gOut (gA ad0 T.length sz) D dA ad0 Acc) mc ms (gA ad0 T.length sz)
def gRet (d : Nat) (y : MethodName) (cc : ByteArray) (nL : Nat) (rt : Option FieldType) (mc ms : Nat) (av : List Value) (T : gT) (M : gM) (Acc : gAcc) : Prop := ∀ l : Launch, l.stackTraces = false → gRetW l d y cc nL rt mc ms av T M Acc
/-- the answer r, the memory M' behind it, nothing made -/
def gSame (T : gT) (r : Option Value) (M' : gM) : gAcc := fun ad0 v ad T1 M1 => v = r ∧ ad = ad0 ∧ T1 = T ∧ M1 = M'
/-- what stood stands -/
def gExt (T T1 : gT) : Prop := ∀ (b : Nat) (x : Nat × Nat), T[b]? = some x → T1[b]? = some x
def gMade (T : gT) (r : Option Value) (T' : gT) (M' : gM) : gAcc := fun ad0 v ad T1 M1 => v = r ∧ T1 = T' ∧ M1 = M' ∧ gExt T T1 ∧ ∀ a : Nat, a < T.length → ad a = ad0 a
theorem gws_good : gWS.all goodWord = true := List.all_eq_true.mpr fun w h => (List.mem_filter.mp h).2
theorem gws_in {y : MethodName} {cc : ByteArray} {nL : Nat} {rt : Option FieldType} (h : Cond.code y cc nL rt ∈ gWS) : GoodIn gWS (gWs y cc nL rt) := goodIn_sub (fun w hw => (List.mem_cons.mp hw).elim (fun e => e ▸ h) id) (by
  show ((Cond.code y cc nL rt) :: gWS).all goodWord = true
  rw [List.all_cons, gws_good, Bool.and_true]
  exact List.all_eq_true.mp gws_good _ h)
theorem glit_ge : ∀ q ∈ gLit, gSB ≤ q.2.2.2 := by decide +kernel
theorem gCst_moved {C D : String} {u U : State} (hvm : u.vm.Alike U.vm) (h : va_Nw (.castable C D) u) : va_Nw (.castable C D) U := by
  unfold va_Nw at h ⊢
  simp only [Cond.before, Cond.holds, Cond.value, hvm.findClass] at h ⊢
  cases h1 : u.vm.findClass C with
  | none => simp [h1] at h
  | some a =>
    cases h2 : u.vm.findClass D with
    | none => simp [h1, h2] at h
    | some b => simpa [h1, h2, hvm.assignable] using h
theorem gNw_warm {w : Cond} {s U : State} (hw : w ∈ gNw) (hW : s.WarmedH U.vm) (h : va_Nw w s) : va_Nw w U := by
  have hp := (List.mem_filter.mp hw).2
  cases w with
  | fieldLinkNest => exact va_Nw.warmF hW h
  | methodLinkNest => exact va_Nw.warmM hW h
  | declares => exact va_Nw.warmD hW h
  | castable => exact gCst_moved hW.alike h
  | _ => cases hp
theorem gNw_same {w : Cond} {s U : State} (hw : w ∈ gNw) (hv : s.vm = U.vm) (h : va_Nw w s) : va_Nw w U := by
  have hp := (List.mem_filter.mp hw).2
  cases w with
  | fieldLinkNest => exact va_Nw.same rfl hv h
  | methodLinkNest => exact va_Nw.same rfl hv h
  | declares => exact va_Nw.same rfl hv h
  | castable => exact va_Nw.same rfl hv h
  | _ => cases hp
theorem gEnv_to {A A1 : Nat → Prop} {adV ad ad1 : Nat → Nat} {s U : State} {H : Heap} {locs : List Loc} (hE : gEnv A adV ad s s.heap) (hW : s.WarmedH U.vm) (hS : va_S A s.heap H locs) (hA : ∀ q, A1 q → A q) (had : ∀ a : Nat, gSB ≤ a → ad1 a = ad a) : gEnv A1 adV ad1 U H := by
  obtain ⟨e1, e2, e3, e4, e5, e6, e7, e8, e9, e10, e11, e12⟩ := hE
  refine ⟨fun w hw => gNw_warm hw hW (e1 w hw), fun q hq => ?_, ?_, vx_Zq.moved hW.alike ((e4.kept hS.2.1).narrow hA), vx_Zq.moved hW.alike ((e5.kept hS.2.1).narrow hA), va_AO.moved hW.alike e6, va_AO.moved hW.alike e7, va_AO2.moved hW.alike e8, fun q hq => (e9 q hq).moved hW.alike, va_Z.moved hW.alike ((e10.kept hS.2.1).narrow hA), ?_, fun i hi => (had _ (by omega)).trans (e12 i hi)⟩
  · rw [had _ (glit_ge q hq)]
    exact vk_R.warm hW (e2 q hq)
  · rw [show (fun i => ad1 (gSB + i)) = (fun i => ad (gSB + i)) from funext fun i => had _ (Nat.le_add_right _ _)]
    exact vk_S.moved hW.alike ((e3.kept hS.2.1).narrow hA)
  · rw [had _ (by omega)]
    exact e11.imp (fun h => va_Z.moved hW.alike ((h.kept hS.2.1).narrow hA)) (fun h => va_Z.moved hW.alike ((h.kept hS.2.1).narrow hA))
theorem gEnv_calling {A : Nat → Prop} {adV ad : Nat → Nat} {U : State} {H : Heap} (g : JFrame) (mk : MethodId) (a : Array Value) (h : gEnv A adV ad U H) : gEnv A adV ad (U.calling g mk a) H := by
  obtain ⟨e1, e2, e3, e4, e5, e6, e7, e8, e9, e10, e11, e12⟩ := h
  have hal := Vm.Alike.refl U.vm
  exact ⟨fun w hw => gNw_same (s := U) (U := U.calling g mk a) hw rfl (e1 w hw), fun q hq => vk_R.same (u := U) (U := U.calling g mk a) rfl (e2 q hq), vk_S.moved (U := U.calling g mk a) hal e3, vx_Zq.moved (U := U.calling g mk a) hal e4, vx_Zq.moved (U := U.calling g mk a) hal e5, va_AO.moved (U := U.calling g mk a) hal e6, va_AO.moved (U := U.calling g mk a) hal e7, va_AO2.moved (U := U.calling g mk a) hal e8, fun q hq => va_Nc.moved (U := U.calling g mk a) hal (e9 q hq), va_Z.moved (U := U.calling g mk a) hal e10, e11.imp (fun h => va_Z.moved (U := U.calling g mk a) hal h) (fun h => va_Z.moved (U := U.calling g mk a) hal h), e12⟩
theorem gBlind {A : Nat → Prop} {D : va_G} {dA : Nat → ClassId} {adV ad : Nat → Nat} {T : gT} {M : gM} {sz : Nat} {av : List Value} : FrameBlind (va_Pc av (gIn A D dA adV ad T M sz)) := by
  intro a U g mk ⟨q1, q2, q3, q4, q5, q6, q7⟩
  exact ⟨q1, q2, q3, q4, q5, va_K.moved (u := U) (U := U.calling g mk a) (Vm.Alike.refl U.vm) q6, gEnv_calling g mk a q7⟩
theorem gA_sub {Z : gZ} {ad : Nat → Nat} {T : gT} {M : gM} {H : Heap} {locs : List Loc} {s : State} (hR : gRp Z ad T M H locs) (hH : Z.2.2.1 = s.heap) (hA : ∀ q : Nat, s.heap.size ≤ q → Z.2.1 q) : ∀ q, gA ad T.length H.size q → Z.2.1 q := by
  rintro q (⟨a, ha, rfl⟩ | h)
  · obtain ⟨sh, hsh⟩ : ∃ sh, T[a]? = some sh := ⟨T[a], List.getElem?_eq_getElem ha⟩
    exact hR.2.1.2 a _ (gW_get hsh)
  · exact hA q (Nat.le_trans (by have := hR.2.2.1.1; rw [hH] at this; exact this) h)
/-- the callee may begin -/
theorem gIn_of {Z : gZ} {ad : Nat → Nat} {T : gT} {M : gM} {H : Heap} {locs : List Loc} {s U : State} {adV : Nat → Nat} (hR : gRp Z ad T M H locs) (hH : Z.2.2.1 = s.heap) (hA : ∀ q : Nat, s.heap.size ≤ q → Z.2.1 q) (hK : va_K Z.2.2.2.1 vwCl (gTy Z.2.2.2.2.1) s) (hE : gEnv Z.2.1 adV Z.2.2.2.2.2.2 s s.heap) (hU : U.heap = H) (hW : s.WarmedH U.vm) :
    gIn (gA ad T.length H.size) Z.2.2.2.1 Z.2.2.2.2.1 adV ad T M H.size U := by
  have hS := hR.2.2.1
  rw [hH] at hS
  refine ⟨by rw [hU], by rw [hU]; exact hR.1, hR.2.1.weaken (fun k q hk _ => ?_), hR.2.2.2.1, va_K.moved hW.alike hK, by rw [hU]; exact gEnv_to hE hW hS (gA_sub hR hH hA) hR.2.2.2.2⟩
  obtain ⟨sh, h1, h2⟩ := gW_inv hk
  exact Or.inl ⟨k, (List.getElem?_eq_some_iff.mp h1).1, by rw [h2]⟩
section GE
variable {d : Nat} {y : MethodName} {cc : ByteArray} {nL : Nat} {rt : Option FieldType} {mc ms : Nat} {av : List Value} {T : gT} {M : gM} {Acc : gAcc}
theorem gmp_args (ad : Nat → Nat) : ∀ (av : List Value) (i : Nat), lv_args i (av.map (gv ad)) = gmp ad (lv_args i av)
  | [], _ => rfl
  | v :: vs, i => by
    show (i, gv ad v) :: lv_args (if (gv ad v).category = 2 then i + 2 else i + 1) (vs.map (gv ad)) = (i, gv ad v) :: gmp ad (lv_args (if v.category = 2 then i + 2 else i + 1) vs)
    rw [gv_cat, gmp_args ad vs]
theorem glg_len (ad : Nat → Nat) : ∀ (av : List Value), (lg_sl (av.map (gv ad))).length = (lg_sl av).length
  | [] => rfl
  | v :: vs => by
    have ih := glg_len ad vs
    simp only [lg_sl, List.map_cons, List.flatMap_cons, List.length_append] at ih ⊢
    rw [ih, gv_cat]
    split <;> rfl
/-- a contract out of a walk -/
theorem gRet_of {own : String} (hy : plainName y.cls = true) (hcls : y.cls = own) (hlen : (lg_sl av).length ≤ nL)
    (body : ∀ (Z : gZ) (ad0 : Nat → Nat), Z.2.2.2.2.2.1 = nL → Z.2.2.2.2.2.2 = ad0 → gFix Z cc own y.name rt d mc ms (Acc ad0) (fun _ _ _ _ => False) → gG Z ad0 T M 0 0 0 (lv_args 0 av) []) : gRet d y cc nL rt mc ms av T M Acc := by
  intro l hst D dA adV ad0 sz
  refine Met.ofW (cc := cc) (maxL := nL) (ret := rt) hy rfl ?_
  intro p e s m args below meth c s₁ B hml hv
  obtain ⟨rfl, hsz, hP, hD, hC, hK, hE⟩ := hv
  subst hsz
  have hts := atoms_spec (ws := gWs y cc nL rt) B.pre
  have hown : s.vm.findClass own = some m.cls := by rw [← hcls]; exact findClass_of_methodNamed B.named
  have hnm : meth.name = y.name := (name_of_methodNamed B.named B.method).1
  have hr := B.returns
  have hlocks := B.notSynchronized
  generalize hZ : (((fun H locs ce so pc la st => W p l e ((headSpec (gWs y cc nL rt) { frames := d, cells := mc, slots := ms, locals := 64 * d }).room) s m ((av.map (gv ad0)).toArray) below meth c H locs ce so (MQ below (gOut (gA ad0 T.length s.heap.size) D dA ad0 Acc) ((av.map (gv ad0)).toArray) s mc ms (gA ad0 T.length s.heap.size)) (F0 m pc la st)), gA ad0 T.length s.heap.size, s.heap, D, dA, nL, ad0) : gZ) = Z
  have hb := body Z ad0 (by rw [← hZ]) (by rw [← hZ]) ⟨p, l, e, _, s, m, _, below, meth, c, _, adV, by
    subst hZ
    refine ⟨rfl, B.exec, B.bytes, hml, hown, fun w hw => hts w (List.mem_cons_of_mem _ hw), hK, rfl, fun q hq => Or.inr hq, hE, ⟨Nat.le_refl d, Nat.le_refl _, Nat.le_refl mc, Nat.le_refl ms⟩, hnm, hlocks, hst, ?_, ?_, ?_, ?_, fun _ _ _ _ _ _ _ _ _ _ _ _ _ _ _ _ _ h => h.elim, fun _ _ _ _ _ _ _ _ _ _ _ _ _ _ h => h.elim⟩
    · intro H locs ce so pc la ad T1 M1 x ty hR hrt hn hd ha h1 h2
      refine W.widen h1 h2 ?_
      exact W.zret B.exec B.bytes (hr.trans hrt) hn (fun t ht hW => ⟨⟨some (.int x), ad, T1, M1, rfl, ha, by rw [ht]; exact hR.1, hR.2.1, hR.2.2.2.1, hR.2.2.2.2⟩, hR.2.2.1.F ht⟩) hR.2.2.1.2.2 hd hlocks
    · intro H locs ce so pc la ad T1 M1 x hR hrt hd ha h1 h2
      refine W.widen h1 h2 ?_
      exact W.lret B.exec B.bytes (hr.trans hrt) (fun t ht hW => ⟨⟨some (.long x), ad, T1, M1, rfl, ha, by rw [ht]; exact hR.1, hR.2.1, hR.2.2.2.1, hR.2.2.2.2⟩, hR.2.2.1.F ht⟩) hR.2.2.1.2.2 hd hlocks
    · intro H locs ce so pc la ad T1 M1 a ty hR hrt hty hd ha h1 h2
      refine W.widen h1 h2 ?_
      exact W.aret B.exec B.bytes (hr.trans hrt) hty (Or.inr ⟨_, rfl⟩) (fun t ht hW => ⟨⟨some (.ref a), ad, T1, M1, rfl, ha, by rw [ht]; exact hR.1, hR.2.1, hR.2.2.2.1, hR.2.2.2.2⟩, hR.2.2.1.F ht⟩) hR.2.2.1.2.2 hd hlocks
    · intro H locs ce so pc la ad T1 M1 hR hrt hd ha h1 h2
      refine W.widen h1 h2 ?_
      exact W.vret B.exec B.bytes (hr.trans hrt) (fun t ht hW => ⟨⟨none, ad, T1, M1, rfl, ha, by rw [ht]; exact hR.1, hR.2.1, hR.2.2.2.1, hR.2.2.2.2⟩, hR.2.2.1.F ht⟩) hR.2.2.1.2.2 hd hlocks⟩
  rw [lg_entry_eq]
  have hl := lv_entry (av.map (gv ad0)) (n := nL) (by rw [glg_len]; exact hlen)
  rw [gmp_args] at hl
  subst hZ
  exact hb s.heap [] _ ⟨hP, hD, va_S.rf, hC, fun _ _ => rfl⟩ hl
end GE
/-- behind a call -/
theorem g_after {p : Program} {l : Launch} {e : Env} {R : Room} {s : State} {m : MethodId} {args : Array Value} {below : List Frame} {meth : Method} {c : Code} {H : Heap} {locs : List Loc} {ce so mc ms pc : Nat} {la : Array Slot} {st0 rest : List Value} {a : Array Value} {Q : State → Prop} {Z : gZ} {ad : Nat → Nat} {T : gT} {M : gM} {Acc : gAcc}
    (hr : va_Run p l e R s m args below meth c H locs ce so mc ms (F0 m pc la st0) rest (gOut (gA ad T.length H.size) Z.2.2.2.1 Z.2.2.2.2.1 ad Acc a) (gA ad T.length H.size)) (hR : gRp Z ad T M H locs) (hf : ∀ q, gA ad T.length H.size q → Z.2.1 q)
    (kk : ∀ (v : Option Value) (ad1 : Nat → Nat) (T1 : gT) (M1 : gM) (H1 : Heap) (locs1 : List Loc), Acc ad v ad1 T1 M1 → gRp Z ad1 T1 M1 H1 locs1 → W p l e R s m args below meth c H1 locs1 (ce + mc) (so + ms) Q (F0 m (pc + 3) la ((v.map (gv ad1)).toList ++ rest))) : W p l e R s m args below meth c H locs ce so Q (F0 m pc la st0) := by
  intro T9 hT X
  obtain ⟨v, st₀, t, T', L, h0, X', hL, e1, e2, ⟨⟨v1, ad1, T1, M1, hv, ha, hP, hD, hC, had⟩, hz, hk⟩, st⟩ := hr T9 hT X
  cases hv
  rw [h0] at hz hk
  obtain ⟨t2, a1, b1⟩ := kk v1 ad1 T1 M1 T'.heap (locs ++ L) ha ⟨by rw [e1]; exact hP, hD.weaken (fun k q hq h9 => hf _ h9), ⟨Nat.le_trans hR.2.2.1.1 (by rw [e1]; exact hz), fun q h1 h2 => by rw [e1, hk q (Nat.lt_of_lt_of_le h1 hR.2.2.1.1) (fun z => h2 (hf _ z))]; exact hR.2.2.1.2.1 q h1 h2, fun q hq => by
      rcases List.mem_append.mp hq with h | h
      · exact hR.2.2.1.2.2 q h
      · exact hf _ (hL q h)⟩, hC, fun a ha => (had a ha).trans (hR.2.2.2.2 a ha)⟩ T' rfl X'
  exact ⟨t2, st t2 a1, b1⟩
/-- what the tables say of a method that is called -/
def gMy (y : MethodName) (cc : ByteArray) (nL : Nat) (rt : Option FieldType) (n : Nat) : Prop := Cond.code y cc nL rt ∈ gWS ∧ Cond.initialized y.cls ∈ gWS ∧ (y.cls ≠ "java/lang/invoke/MethodHandle" ∧ y.cls ≠ "java/lang/invoke/VarHandle") ∧ (parseMethodDescriptor y.desc).map (fun d => d.parameters.length) = some n ∧ nL ≤ 45
section GCALL
variable {Z : gZ} {cc : ByteArray} {own nm : String} {rt : Option FieldType} {d mc ms : Nat} {Acc : Option Value → (Nat → Nat) → gT → gM → Prop} {AccX : Nat → (Nat → Nat) → gT → gM → Prop} {ad : Nat → Nat} {T : gT} {M : gM} {ce so pc : Nat} {ls : List (Nat × Value)} {st st0 : List Value}
variable {y : MethodName} {cc' : ByteArray} {nL' n idx mc' ms' d' : Nat} {rt' : Option FieldType} {as : List Value} {Acc' : gAcc}
theorem g_callV (hF : gFix Z cc own nm rt d mc ms Acc AccX) {b ci : Nat} {C : String} (hm : gMy y cc' nL' rt' n) (hlk : Cond.methodLink own idx y ∈ gWS) (hin : Cond.instanceMethod y ∈ gWS) (hse : Cond.selects C y y ∈ gWS) {TT : u_T} {N : Nat} (hC : vwCl[ci]? = some (C, TT, N)) (hci : ci < 10) {len9 : Nat} (hTb : T[b]? = some (ci, len9)) (hc : gRet d' y cc' nL' rt' mc' ms' (.ref b :: as) T M Acc') (hdd : d' + 1 ≤ d) (hmc : ce + mc' ≤ mc) (hms : so + ms' ≤ ms) (hn : as.length = n) (hst0 : st0 = as.reverse ++ .ref b :: st) (hcat : (st.map fun v => v.category).sum ≤ 8) (hd : decode cc pc = .ok (.invokevirtual idx, 3))
    (k : ∀ (v : Option Value) (ad1 : Nat → Nat) (T1 : gT) (M1 : gM), Acc' ad v ad1 T1 M1 → (∀ a : Nat, gSB ≤ a → ad1 a = ad a) → ∀ H locs la, gRp Z ad1 T1 M1 H locs → lv_has la Z.2.2.2.2.2.1 (gmp ad ls) → Z.1 H locs (ce + mc') (so + ms') (pc + 3) la ((v.map (gv ad1)).toList ++ st.map (gv ad))) : gG Z ad T M ce so pc ls st0 := by
  obtain ⟨p, l, e, R, s, m, args, below, meth, c, Q, adV, hKq, hx, hb, hml, hown, hts, hK, hH, hA, hE, hRm, hnm, hlk9, hst, -⟩ := hF
  intro H locs la hR hl
  subst hst0
  have k := fun v ad1 T1 M1 ha had H1 locs1 hR1 => k v ad1 T1 M1 ha had H1 locs1 la hR1 hl
  rw [hKq] at k ⊢
  dsimp only at k ⊢
  obtain ⟨hm1, hm2, hm3, hm4, hm5⟩ := hm
  have hgw := gws_in hm1
  have hroom : d' + 1 ≤ R.frames ∧ 8 + (nL' + 11) + 64 * d' ≤ R.locals := ⟨by have := hRm.1; omega, by have := hRm.2.1; omega⟩
  have hlen : (as.map (gv ad)).length = n := by rw [List.length_map]; exact hn
  have hrest : (((st.map (gv ad)).map fun v => v.category).sum) ≤ 8 := by
    rw [List.map_map, show ((fun v : Value => v.category) ∘ gv ad) = (fun v => v.category) from funext fun v => gv_cat ad v]
    exact hcat
  have hbd : ce + mc' ≤ R.cells ∧ so + ms' ≤ R.slots := ⟨Nat.le_trans hmc hRm.2.2.1, Nat.le_trans hms hRm.2.2.2⟩
  have hrecv : ∃ cellB : Cell, H[ad b]? = some cellB ∧ cellB.vm.isStatics = false ∧ s.vm.findClass C = some cellB.cls := by
    have he := gW_get (dA := Z.2.2.2.2.1) (ad := ad) (M := M) hTb
    rw [gE_obj hci] at he
    exact va_recv hK hR.1 hC he
  have hcb := callB_of (R := R) (rm := { frames := d', cells := mc', slots := ms', locals := 64 * d' }) (mc := mc') (ms := ms') n hts hgw rfl rfl rfl (hts _ hm2) (hts _ hlk) ⟨hm3.1, hm3.2, hm4⟩ hroom
  have hrun := va_runV (e := e) (below := below) (meth := meth) (H := H) (locs := locs) (cells := ce) (slots := so) (b := ad b) (As := as.map (gv ad)) (rest := st.map (gv ad)) (g := F0 m pc la ((as.reverse ++ .ref b :: st).map (gv ad))) ⟨hx, hb, hml, hown, hts⟩ (hc l hst Z.2.2.2.1 Z.2.2.2.2.1 adV ad H.size) ⟨hcb, hts _ hin, hts _ hse⟩ ⟨gBlind, hrecv, fun U hU hW => ⟨rfl, gIn_of hR hH hA hK hE hU hW⟩⟩ rfl hlen hl.1 (by show (as.reverse ++ .ref b :: st).map (gv ad) = _; rw [List.map_append, List.map_reverse]; rfl) (lv_room (pc := pc) (ls := la) (rest := (as.reverse ++ .ref b :: st).map (gv ad)) (m := m) hrest) hd hbd
  exact g_after hrun hR (gA_sub hR hH hA) (fun v ad1 T1 M1 H1 locs1 ha hR1 => k v ad1 T1 M1 ha (fun a q => (hR1.2.2.2.2 a q).trans (hR.2.2.2.2 a q).symm) H1 locs1 hR1)

theorem g_callVSt (hF : gFix Z cc own nm rt d mc ms Acc AccX) {b i : Nat} (hm : gMy y cc' nL' rt' n) (hlk : Cond.methodLink own idx y ∈ gWS) (hin : Cond.instanceMethod y ∈ gWS) (hse : Cond.selects "java/lang/String" y y ∈ gWS) (hi : i < 13) (hbi : b = gSB + i) (hc : gRet d' y cc' nL' rt' mc' ms' (.ref b :: as) T M Acc') (hdd : d' + 1 ≤ d) (hmc : ce + mc' ≤ mc) (hms : so + ms' ≤ ms) (hn : as.length = n) (hst0 : st0 = as.reverse ++ .ref b :: st) (hcat : (st.map fun v => v.category).sum ≤ 8) (hd : decode cc pc = .ok (.invokevirtual idx, 3))
    (k : ∀ (v : Option Value) (ad1 : Nat → Nat) (T1 : gT) (M1 : gM), Acc' ad v ad1 T1 M1 → (∀ a : Nat, gSB ≤ a → ad1 a = ad a) → ∀ H locs la, gRp Z ad1 T1 M1 H locs → lv_has la Z.2.2.2.2.2.1 (gmp ad ls) → Z.1 H locs (ce + mc') (so + ms') (pc + 3) la ((v.map (gv ad1)).toList ++ st.map (gv ad))) : gG Z ad T M ce so pc ls st0 := by
  obtain ⟨p, l, e, R, s, m, args, below, meth, c, Q, adV, hKq, hx, hb, hml, hown, hts, hK, hH, hA, hE, hRm, hnm, hlk9, hst, -⟩ := hF
  intro H locs la hR hl
  subst hst0
  have k := fun v ad1 T1 M1 ha had H1 locs1 hR1 => k v ad1 T1 M1 ha had H1 locs1 la hR1 hl
  rw [hKq] at k ⊢
  dsimp only at k ⊢
  obtain ⟨hm1, hm2, hm3, hm4, hm5⟩ := hm
  have hgw := gws_in hm1
  have hroom : d' + 1 ≤ R.frames ∧ 8 + (nL' + 11) + 64 * d' ≤ R.locals := ⟨by have := hRm.1; omega, by have := hRm.2.1; omega⟩
  have hlen : (as.map (gv ad)).length = n := by rw [List.length_map]; exact hn
  have hrest : (((st.map (gv ad)).map fun v => v.category).sum) ≤ 8 := by
    rw [List.map_map, show ((fun v : Value => v.category) ∘ gv ad) = (fun v => v.category) from funext fun v => gv_cat ad v]
    exact hcat
  have hbd : ce + mc' ≤ R.cells ∧ so + ms' ≤ R.slots := ⟨Nat.le_trans hmc hRm.2.2.1, Nat.le_trans hms hRm.2.2.2⟩
  have hrecv : ∃ cellB : Cell, H[ad b]? = some cellB ∧ cellB.vm.isStatics = false ∧ s.vm.findClass "java/lang/String" = some cellB.cls := by
    have hS9 := hR.2.2.1
    rw [hH] at hS9
    rw [hbi, hR.2.2.2.2 _ (Nat.le_add_right _ _)]
    exact vk_recv (i := i) (adK := fun j => Z.2.2.2.2.2.2 (gSB + j)) hE.2.2.1 hi hS9
  have hcb := callB_of (R := R) (rm := { frames := d', cells := mc', slots := ms', locals := 64 * d' }) (mc := mc') (ms := ms') n hts hgw rfl rfl rfl (hts _ hm2) (hts _ hlk) ⟨hm3.1, hm3.2, hm4⟩ hroom
  have hrun := va_runV (e := e) (below := below) (meth := meth) (H := H) (locs := locs) (cells := ce) (slots := so) (b := ad b) (As := as.map (gv ad)) (rest := st.map (gv ad)) (g := F0 m pc la ((as.reverse ++ .ref b :: st).map (gv ad))) ⟨hx, hb, hml, hown, hts⟩ (hc l hst Z.2.2.2.1 Z.2.2.2.2.1 adV ad H.size) ⟨hcb, hts _ hin, hts _ hse⟩ ⟨gBlind, hrecv, fun U hU hW => ⟨rfl, gIn_of hR hH hA hK hE hU hW⟩⟩ rfl hlen hl.1 (by show (as.reverse ++ .ref b :: st).map (gv ad) = _; rw [List.map_append, List.map_reverse]; rfl) (lv_room (pc := pc) (ls := la) (rest := (as.reverse ++ .ref b :: st).map (gv ad)) (m := m) hrest) hd hbd
  exact g_after hrun hR (gA_sub hR hH hA) (fun v ad1 T1 M1 H1 locs1 ha hR1 => k v ad1 T1 M1 ha (fun a q => (hR1.2.2.2.2 a q).trans (hR.2.2.2.2 a q).symm) H1 locs1 hR1)

theorem g_callVN (hF : gFix Z cc own nm rt d mc ms Acc AccX) {b ci : Nat} {C : String} (hm : gMy y cc' nL' rt' n) {host : String} (hlk : Cond.methodLinkNest own idx y host ∈ gNw) (hin : Cond.instanceMethod y ∈ gWS) (hse : Cond.selects C y y ∈ gWS) {TT : u_T} {N : Nat} (hC : vwCl[ci]? = some (C, TT, N)) (hci : ci < 10) {len9 : Nat} (hTb : T[b]? = some (ci, len9)) (hc : gRet d' y cc' nL' rt' mc' ms' (.ref b :: as) T M Acc') (hdd : d' + 1 ≤ d) (hmc : ce + mc' ≤ mc) (hms : so + ms' ≤ ms) (hn : as.length = n) (hst0 : st0 = as.reverse ++ .ref b :: st) (hcat : (st.map fun v => v.category).sum ≤ 8) (hd : decode cc pc = .ok (.invokevirtual idx, 3))
    (k : ∀ (v : Option Value) (ad1 : Nat → Nat) (T1 : gT) (M1 : gM), Acc' ad v ad1 T1 M1 → (∀ a : Nat, gSB ≤ a → ad1 a = ad a) → ∀ H locs la, gRp Z ad1 T1 M1 H locs → lv_has la Z.2.2.2.2.2.1 (gmp ad ls) → Z.1 H locs (ce + mc') (so + ms') (pc + 3) la ((v.map (gv ad1)).toList ++ st.map (gv ad))) : gG Z ad T M ce so pc ls st0 := by
  obtain ⟨p, l, e, R, s, m, args, below, meth, c, Q, adV, hKq, hx, hb, hml, hown, hts, hK, hH, hA, hE, hRm, hnm, hlk9, hst, -⟩ := hF
  intro H locs la hR hl
  subst hst0
  have k := fun v ad1 T1 M1 ha had H1 locs1 hR1 => k v ad1 T1 M1 ha had H1 locs1 la hR1 hl
  rw [hKq] at k ⊢
  dsimp only at k ⊢
  obtain ⟨hm1, hm2, hm3, hm4, hm5⟩ := hm
  have hgw := gws_in hm1
  have hroom : d' + 1 ≤ R.frames ∧ 8 + (nL' + 11) + 64 * d' ≤ R.locals := ⟨by have := hRm.1; omega, by have := hRm.2.1; omega⟩
  have hlen : (as.map (gv ad)).length = n := by rw [List.length_map]; exact hn
  have hrest : (((st.map (gv ad)).map fun v => v.category).sum) ≤ 8 := by
    rw [List.map_map, show ((fun v : Value => v.category) ∘ gv ad) = (fun v => v.category) from funext fun v => gv_cat ad v]
    exact hcat
  have hbd : ce + mc' ≤ R.cells ∧ so + ms' ≤ R.slots := ⟨Nat.le_trans hmc hRm.2.2.1, Nat.le_trans hms hRm.2.2.2⟩
  have hrecv : ∃ cellB : Cell, H[ad b]? = some cellB ∧ cellB.vm.isStatics = false ∧ s.vm.findClass C = some cellB.cls := by
    have he := gW_get (dA := Z.2.2.2.2.1) (ad := ad) (M := M) hTb
    rw [gE_obj hci] at he
    exact va_recv hK hR.1 hC he
  have hcb := va_cnB (R := R) (rm := { frames := d', cells := mc', slots := ms', locals := 64 * d' }) (mc := mc') (ms := ms') n hts hgw rfl rfl rfl (hE.1 _ hlk) (hts _ hm2) ⟨hm3.1, hm3.2, hm4⟩ hroom
  have hrun := va_runVN (e := e) (below := below) (meth := meth) (H := H) (locs := locs) (cells := ce) (slots := so) (b := ad b) (As := as.map (gv ad)) (rest := st.map (gv ad)) (g := F0 m pc la ((as.reverse ++ .ref b :: st).map (gv ad))) ⟨hx, hb, hml, hown, hts⟩ (hc l hst Z.2.2.2.1 Z.2.2.2.2.1 adV ad H.size) ⟨hcb, hts _ hin, hts _ hse⟩ ⟨gBlind, hrecv, fun U hU hW => ⟨rfl, gIn_of hR hH hA hK hE hU hW⟩⟩ rfl hlen hl.1 (by show (as.reverse ++ .ref b :: st).map (gv ad) = _; rw [List.map_append, List.map_reverse]; rfl) (lv_room (pc := pc) (ls := la) (rest := (as.reverse ++ .ref b :: st).map (gv ad)) (m := m) hrest) hd hbd
  exact g_after hrun hR (gA_sub hR hH hA) (fun v ad1 T1 M1 H1 locs1 ha hR1 => k v ad1 T1 M1 ha (fun a q => (hR1.2.2.2.2 a q).trans (hR.2.2.2.2 a q).symm) H1 locs1 hR1)

theorem g_callS (hF : gFix Z cc own nm rt d mc ms Acc AccX) (hm : gMy y cc' nL' rt' n) (hlk : Cond.methodLink own idx y ∈ gWS) (hsta : Cond.static y ∈ gWS) (hc : gRet d' y cc' nL' rt' mc' ms' as T M Acc') (hdd : d' + 1 ≤ d) (hmc : ce + mc' ≤ mc) (hms : so + ms' ≤ ms) (hn : as.length = n) (hst0 : st0 = as.reverse ++ st) (hcat : (st.map fun v => v.category).sum ≤ 8) (hd : decode cc pc = .ok (.invokestatic idx, 3))
    (k : ∀ (v : Option Value) (ad1 : Nat → Nat) (T1 : gT) (M1 : gM), Acc' ad v ad1 T1 M1 → (∀ a : Nat, gSB ≤ a → ad1 a = ad a) → ∀ H locs la, gRp Z ad1 T1 M1 H locs → lv_has la Z.2.2.2.2.2.1 (gmp ad ls) → Z.1 H locs (ce + mc') (so + ms') (pc + 3) la ((v.map (gv ad1)).toList ++ st.map (gv ad))) : gG Z ad T M ce so pc ls st0 := by
  obtain ⟨p, l, e, R, s, m, args, below, meth, c, Q, adV, hKq, hx, hb, hml, hown, hts, hK, hH, hA, hE, hRm, hnm, hlk9, hst, -⟩ := hF
  intro H locs la hR hl
  subst hst0
  have k := fun v ad1 T1 M1 ha had H1 locs1 hR1 => k v ad1 T1 M1 ha had H1 locs1 la hR1 hl
  rw [hKq] at k ⊢
  dsimp only at k ⊢
  obtain ⟨hm1, hm2, hm3, hm4, hm5⟩ := hm
  have hgw := gws_in hm1
  have hroom : d' + 1 ≤ R.frames ∧ 8 + (nL' + 11) + 64 * d' ≤ R.locals := ⟨by have := hRm.1; omega, by have := hRm.2.1; omega⟩
  have hlen : (as.map (gv ad)).length = n := by rw [List.length_map]; exact hn
  have hrest : (((st.map (gv ad)).map fun v => v.category).sum) ≤ 8 := by
    rw [List.map_map, show ((fun v : Value => v.category) ∘ gv ad) = (fun v => v.category) from funext fun v => gv_cat ad v]
    exact hcat
  have hbd : ce + mc' ≤ R.cells ∧ so + ms' ≤ R.slots := ⟨Nat.le_trans hmc hRm.2.2.1, Nat.le_trans hms hRm.2.2.2⟩
  have hcb := callB_of (R := R) (rm := { frames := d', cells := mc', slots := ms', locals := 64 * d' }) (mc := mc') (ms := ms') n hts hgw rfl rfl rfl (hts _ hm2) (hts _ hlk) ⟨hm3.1, hm3.2, hm4⟩ hroom
  have hrun := va_runS (e := e) (below := below) (meth := meth) (H := H) (locs := locs) (cells := ce) (slots := so) (As := as.map (gv ad)) (rest := st.map (gv ad)) (g := F0 m pc la ((as.reverse ++ st).map (gv ad))) ⟨hx, hb, hml, hown, hts⟩ (hc l hst Z.2.2.2.1 Z.2.2.2.2.1 adV ad H.size) ⟨hcb, hts _ hsta⟩ ⟨gBlind, fun U hU hW => ⟨rfl, gIn_of hR hH hA hK hE hU hW⟩⟩ rfl hlen hl.1 (by show (as.reverse ++ st).map (gv ad) = _; rw [List.map_append, List.map_reverse]) (lv_room (pc := pc) (ls := la) (rest := (as.reverse ++ st).map (gv ad)) (m := m) hrest) hd hbd
  exact g_after hrun hR (gA_sub hR hH hA) (fun v ad1 T1 M1 H1 locs1 ha hR1 => k v ad1 T1 M1 ha (fun a q => (hR1.2.2.2.2 a q).trans (hR.2.2.2.2 a q).symm) H1 locs1 hR1)

theorem g_callSN (hF : gFix Z cc own nm rt d mc ms Acc AccX) (hm : gMy y cc' nL' rt' n) {host : String} (hlk : Cond.methodLinkNest own idx y host ∈ gNw) (hsta : Cond.static y ∈ gWS) (hc : gRet d' y cc' nL' rt' mc' ms' as T M Acc') (hdd : d' + 1 ≤ d) (hmc : ce + mc' ≤ mc) (hms : so + ms' ≤ ms) (hn : as.length = n) (hst0 : st0 = as.reverse ++ st) (hcat : (st.map fun v => v.category).sum ≤ 8) (hd : decode cc pc = .ok (.invokestatic idx, 3))
    (k : ∀ (v : Option Value) (ad1 : Nat → Nat) (T1 : gT) (M1 : gM), Acc' ad v ad1 T1 M1 → (∀ a : Nat, gSB ≤ a → ad1 a = ad a) → ∀ H locs la, gRp Z ad1 T1 M1 H locs → lv_has la Z.2.2.2.2.2.1 (gmp ad ls) → Z.1 H locs (ce + mc') (so + ms') (pc + 3) la ((v.map (gv ad1)).toList ++ st.map (gv ad))) : gG Z ad T M ce so pc ls st0 := by
  obtain ⟨p, l, e, R, s, m, args, below, meth, c, Q, adV, hKq, hx, hb, hml, hown, hts, hK, hH, hA, hE, hRm, hnm, hlk9, hst, -⟩ := hF
  intro H locs la hR hl
  subst hst0
  have k := fun v ad1 T1 M1 ha had H1 locs1 hR1 => k v ad1 T1 M1 ha had H1 locs1 la hR1 hl
  rw [hKq] at k ⊢
  dsimp only at k ⊢
  obtain ⟨hm1, hm2, hm3, hm4, hm5⟩ := hm
  have hgw := gws_in hm1
  have hroom : d' + 1 ≤ R.frames ∧ 8 + (nL' + 11) + 64 * d' ≤ R.locals := ⟨by have := hRm.1; omega, by have := hRm.2.1; omega⟩
  have hlen : (as.map (gv ad)).length = n := by rw [List.length_map]; exact hn
  have hrest : (((st.map (gv ad)).map fun v => v.category).sum) ≤ 8 := by
    rw [List.map_map, show ((fun v : Value => v.category) ∘ gv ad) = (fun v => v.category) from funext fun v => gv_cat ad v]
    exact hcat
  have hbd : ce + mc' ≤ R.cells ∧ so + ms' ≤ R.slots := ⟨Nat.le_trans hmc hRm.2.2.1, Nat.le_trans hms hRm.2.2.2⟩
  have hcb := va_cnB (R := R) (rm := { frames := d', cells := mc', slots := ms', locals := 64 * d' }) (mc := mc') (ms := ms') n hts hgw rfl rfl rfl (hE.1 _ hlk) (hts _ hm2) ⟨hm3.1, hm3.2, hm4⟩ hroom
  have hrun := va_runSN (e := e) (below := below) (meth := meth) (H := H) (locs := locs) (cells := ce) (slots := so) (As := as.map (gv ad)) (rest := st.map (gv ad)) (g := F0 m pc la ((as.reverse ++ st).map (gv ad))) ⟨hx, hb, hml, hown, hts⟩ (hc l hst Z.2.2.2.1 Z.2.2.2.2.1 adV ad H.size) ⟨hcb, hts _ hsta, trivial⟩ ⟨gBlind, fun U hU hW => ⟨rfl, gIn_of hR hH hA hK hE hU hW⟩⟩ rfl hlen hl.1 (by show (as.reverse ++ st).map (gv ad) = _; rw [List.map_append, List.map_reverse]) (lv_room (pc := pc) (ls := la) (rest := (as.reverse ++ st).map (gv ad)) (m := m) hrest) hd hbd
  exact g_after hrun hR (gA_sub hR hH hA) (fun v ad1 T1 M1 H1 locs1 ha hR1 => k v ad1 T1 M1 ha (fun a q => (hR1.2.2.2.2 a q).trans (hR.2.2.2.2 a q).symm) H1 locs1 hR1)

theorem g_callI (hF : gFix Z cc own nm rt d mc ms Acc AccX) {b ci : Nat} {C : String} (hm : gMy y cc' nL' none n) (hlk : Cond.methodLink own idx y ∈ gWS) (hin : Cond.instanceMethod y ∈ gWS) (hin0 : y.name = "<init>") {TT : u_T} {N : Nat} (hC : vwCl[ci]? = some (C, TT, N)) (hci : ci < 10) {len9 : Nat} (hTb : T[b]? = some (ci, len9)) (hc : gRet d' y cc' nL' none mc' ms' (.ref b :: as) T M Acc') (hdd : d' + 1 ≤ d) (hmc : ce + mc' ≤ mc) (hms : so + ms' ≤ ms) (hn : as.length = n) (hst0 : st0 = as.reverse ++ .ref b :: st) (hcat : (st.map fun v => v.category).sum ≤ 8) (hd : decode cc pc = .ok (.invokespecial idx, 3))
    (k : ∀ (v : Option Value) (ad1 : Nat → Nat) (T1 : gT) (M1 : gM), Acc' ad v ad1 T1 M1 → (∀ a : Nat, gSB ≤ a → ad1 a = ad a) → ∀ H locs la, gRp Z ad1 T1 M1 H locs → lv_has la Z.2.2.2.2.2.1 (gmp ad ls) → Z.1 H locs (ce + mc') (so + ms') (pc + 3) la ((v.map (gv ad1)).toList ++ st.map (gv ad))) : gG Z ad T M ce so pc ls st0 := by
  obtain ⟨p, l, e, R, s, m, args, below, meth, c, Q, adV, hKq, hx, hb, hml, hown, hts, hK, hH, hA, hE, hRm, hnm, hlk9, hst, -⟩ := hF
  intro H locs la hR hl
  subst hst0
  have k := fun v ad1 T1 M1 ha had H1 locs1 hR1 => k v ad1 T1 M1 ha had H1 locs1 la hR1 hl
  rw [hKq] at k ⊢
  dsimp only at k ⊢
  obtain ⟨hm1, hm2, hm3, hm4, hm5⟩ := hm
  have hgw := gws_in hm1
  have hroom : d' + 1 ≤ R.frames ∧ 8 + (nL' + 11) + 64 * d' ≤ R.locals := ⟨by have := hRm.1; omega, by have := hRm.2.1; omega⟩
  have hlen : (as.map (gv ad)).length = n := by rw [List.length_map]; exact hn
  have hrest : (((st.map (gv ad)).map fun v => v.category).sum) ≤ 8 := by
    rw [List.map_map, show ((fun v : Value => v.category) ∘ gv ad) = (fun v => v.category) from funext fun v => gv_cat ad v]
    exact hcat
  have hbd : ce + mc' ≤ R.cells ∧ so + ms' ≤ R.slots := ⟨Nat.le_trans hmc hRm.2.2.1, Nat.le_trans hms hRm.2.2.2⟩
  have hrecv : ∃ cellB : Cell, H[ad b]? = some cellB ∧ cellB.vm.isStatics = false ∧ s.vm.findClass C = some cellB.cls := by
    have he := gW_get (dA := Z.2.2.2.2.1) (ad := ad) (M := M) hTb
    rw [gE_obj hci] at he
    exact va_recv hK hR.1 hC he
  have hcb := callB_of (R := R) (rm := { frames := d', cells := mc', slots := ms', locals := 64 * d' }) (mc := mc') (ms := ms') n hts hgw rfl rfl rfl (hts _ hm2) (hts _ hlk) ⟨hm3.1, hm3.2, hm4⟩ hroom
  have hrun := va_runI (e := e) (below := below) (meth := meth) (H := H) (locs := locs) (cells := ce) (slots := so) (b := ad b) (As := as.map (gv ad)) (rest := st.map (gv ad)) (g := F0 m pc la ((as.reverse ++ .ref b :: st).map (gv ad))) ⟨hx, hb, hml, hown, hts⟩ (hc l hst Z.2.2.2.1 Z.2.2.2.2.1 adV ad H.size) ⟨hcb, hin0, hts _ hin⟩ ⟨gBlind, fun U hU hW => ⟨rfl, gIn_of hR hH hA hK hE hU hW⟩⟩ rfl hlen hl.1 (by show (as.reverse ++ .ref b :: st).map (gv ad) = _; rw [List.map_append, List.map_reverse]; rfl) (lv_room (pc := pc) (ls := la) (rest := (as.reverse ++ .ref b :: st).map (gv ad)) (m := m) hrest) hd hbd
  exact g_after hrun hR (gA_sub hR hH hA) (fun v ad1 T1 M1 H1 locs1 ha hR1 => k v ad1 T1 M1 ha (fun a q => (hR1.2.2.2.2 a q).trans (hR.2.2.2.2 a q).symm) H1 locs1 hR1)

theorem g_callIN (hF : gFix Z cc own nm rt d mc ms Acc AccX) {b ci : Nat} {C : String} (hm : gMy y cc' nL' none n) {host : String} (hlk : Cond.methodLinkNest own idx y host ∈ gNw) (hin : Cond.instanceMethod y ∈ gWS) (hin0 : y.name = "<init>") {TT : u_T} {N : Nat} (hC : vwCl[ci]? = some (C, TT, N)) (hci : ci < 10) {len9 : Nat} (hTb : T[b]? = some (ci, len9)) (hc : gRet d' y cc' nL' none mc' ms' (.ref b :: as) T M Acc') (hdd : d' + 1 ≤ d) (hmc : ce + mc' ≤ mc) (hms : so + ms' ≤ ms) (hn : as.length = n) (hst0 : st0 = as.reverse ++ .ref b :: st) (hcat : (st.map fun v => v.category).sum ≤ 8) (hd : decode cc pc = .ok (.invokespecial idx, 3))
    (k : ∀ (v : Option Value) (ad1 : Nat → Nat) (T1 : gT) (M1 : gM), Acc' ad v ad1 T1 M1 → (∀ a : Nat, gSB ≤ a → ad1 a = ad a) → ∀ H locs la, gRp Z ad1 T1 M1 H locs → lv_has la Z.2.2.2.2.2.1 (gmp ad ls) → Z.1 H locs (ce + mc') (so + ms') (pc + 3) la ((v.map (gv ad1)).toList ++ st.map (gv ad))) : gG Z ad T M ce so pc ls st0 := by
  obtain ⟨p, l, e, R, s, m, args, below, meth, c, Q, adV, hKq, hx, hb, hml, hown, hts, hK, hH, hA, hE, hRm, hnm, hlk9, hst, -⟩ := hF
  intro H locs la hR hl
  subst hst0
  have k := fun v ad1 T1 M1 ha had H1 locs1 hR1 => k v ad1 T1 M1 ha had H1 locs1 la hR1 hl
  rw [hKq] at k ⊢
  dsimp only at k ⊢
  obtain ⟨hm1, hm2, hm3, hm4, hm5⟩ := hm
  have hgw := gws_in hm1
  have hroom : d' + 1 ≤ R.frames ∧ 8 + (nL' + 11) + 64 * d' ≤ R.locals := ⟨by have := hRm.1; omega, by have := hRm.2.1; omega⟩
  have hlen : (as.map (gv ad)).length = n := by rw [List.length_map]; exact hn
  have hrest : (((st.map (gv ad)).map fun v => v.category).sum) ≤ 8 := by
    rw [List.map_map, show ((fun v : Value => v.category) ∘ gv ad) = (fun v => v.category) from funext fun v => gv_cat ad v]
    exact hcat
  have hbd : ce + mc' ≤ R.cells ∧ so + ms' ≤ R.slots := ⟨Nat.le_trans hmc hRm.2.2.1, Nat.le_trans hms hRm.2.2.2⟩
  have hrecv : ∃ cellB : Cell, H[ad b]? = some cellB ∧ cellB.vm.isStatics = false ∧ s.vm.findClass C = some cellB.cls := by
    have he := gW_get (dA := Z.2.2.2.2.1) (ad := ad) (M := M) hTb
    rw [gE_obj hci] at he
    exact va_recv hK hR.1 hC he
  have hcb := va_cnB (R := R) (rm := { frames := d', cells := mc', slots := ms', locals := 64 * d' }) (mc := mc') (ms := ms') n hts hgw rfl rfl rfl (hE.1 _ hlk) (hts _ hm2) ⟨hm3.1, hm3.2, hm4⟩ hroom
  have hrun := va_runIN (e := e) (below := below) (meth := meth) (H := H) (locs := locs) (cells := ce) (slots := so) (b := ad b) (As := as.map (gv ad)) (rest := st.map (gv ad)) (g := F0 m pc la ((as.reverse ++ .ref b :: st).map (gv ad))) ⟨hx, hb, hml, hown, hts⟩ (hc l hst Z.2.2.2.1 Z.2.2.2.2.1 adV ad H.size) ⟨hcb, hin0, hts _ hin⟩ ⟨gBlind, fun U hU hW => ⟨rfl, gIn_of hR hH hA hK hE hU hW⟩⟩ rfl hlen hl.1 (by show (as.reverse ++ .ref b :: st).map (gv ad) = _; rw [List.map_append, List.map_reverse]; rfl) (lv_room (pc := pc) (ls := la) (rest := (as.reverse ++ .ref b :: st).map (gv ad)) (m := m) hrest) hd hbd
  exact g_after hrun hR (gA_sub hR hH hA) (fun v ad1 T1 M1 H1 locs1 ha hR1 => k v ad1 T1 M1 ha (fun a q => (hR1.2.2.2.2 a q).trans (hR.2.2.2.2 a q).symm) H1 locs1 hR1)

end GCALL
section GDONE
variable {Z : gZ} {ad : Nat → Nat} {T : gT} {M' : gM} {ce so pc : Nat} {ls : List (Nat × Value)} {st : List Value}
/-- behind a call that made nothing -/
theorem g_same {r : Option Value} (h : gG Z ad T M' ce so pc ls (r.toList ++ st)) : ∀ (v : Option Value) (ad1 : Nat → Nat) (T1 : gT) (M1 : gM), gSame T r M' ad v ad1 T1 M1 → (∀ a : Nat, gSB ≤ a → ad1 a = ad a) → ∀ H locs la, gRp Z ad1 T1 M1 H locs → lv_has la Z.2.2.2.2.2.1 (gmp ad ls) → Z.1 H locs ce so pc la ((v.map (gv ad1)).toList ++ st.map (gv ad)) := by
  rintro v ad1 T1 M1 ⟨rfl, rfl, rfl, rfl⟩ - H locs la hR hl
  have h1 := h H locs la hR hl
  rw [List.map_append] at h1
  cases v with
  | none => exact h1
  | some x => exact h1
end GDONE
end
section
/-! ROWS THAT MAKE THINGS: T1 is T with one shape more, a the new abstract address -/
def gnew (T : gT) (M : gM) (sh : Nat × Nat) : Option (Nat × gT × gM) := some (T.length, T ++ [sh], zr M T.length)
theorem gnew_sp {T T1 : gT} {M M1 : gM} {sh : Nat × Nat} {a : Nat} (h : gnew T M sh = some (a, T1, M1)) : a = T.length ∧ T1 = T ++ [sh] ∧ M1 = zr M T.length := by
  have := Option.some.inj h
  cases this
  exact ⟨rfl, rfl, rfl⟩
theorem gExt.rf {T : gT} : gExt T T := fun _ _ h => h
theorem gExt.tr {T T1 T2 : gT} (h : gExt T T1) (h2 : gExt T1 T2) : gExt T T2 := fun b x q => h2 b x (h b x q)
theorem gnew_ext {T T1 : gT} {M M1 : gM} {sh : Nat × Nat} {a : Nat} (h : gnew T M sh = some (a, T1, M1)) : gExt T T1 := by
  obtain ⟨rfl, rfl, rfl⟩ := gnew_sp h
  intro b x hx
  rw [List.getElem?_append_left (List.getElem?_eq_some_iff.mp hx).1]
  exact hx
theorem gnew_at {T T1 : gT} {M M1 : gM} {sh : Nat × Nat} {a : Nat} (h : gnew T M sh = some (a, T1, M1)) : T1[a]? = some sh := by
  obtain ⟨rfl, rfl, rfl⟩ := gnew_sp h
  rw [List.getElem?_append_right (Nat.le_refl _), Nat.sub_self]
  rfl
theorem gExt.len {T T1 : gT} (h : gExt T T1) : T.length ≤ T1.length := by
  cases hT : T.length with
  | zero => exact Nat.zero_le _
  | succ n =>
    have hn : n < T.length := by omega
    have := h n _ (List.getElem?_eq_getElem hn)
    have := (List.getElem?_eq_some_iff.mp this).1
    omega
theorem gT_lt {T : gT} {a : Nat} {x : Nat × Nat} (h : T[a]? = some x) : a < T.length := (List.getElem?_eq_some_iff.mp h).1
/-- no value of the list is the thing n -/
def gFr (n : Nat) (l : List Value) : Prop := ∀ v ∈ l, v ≠ .ref n
theorem gFr_0 {n : Nat} : gFr n [] := fun _ h => nomatch h
theorem gFr_i {n : Nat} {x : Int32} {l : List Value} (h : gFr n l) : gFr n (.int x :: l) := fun v hv => (List.mem_cons.mp hv).elim (fun e => by rw [e]; exact fun q => nomatch q) (h v)
theorem gFr_l {n : Nat} {x : Int64} {l : List Value} (h : gFr n l) : gFr n (.long x :: l) := fun v hv => (List.mem_cons.mp hv).elim (fun e => by rw [e]; exact fun q => nomatch q) (h v)
theorem gFr_r {n a : Nat} {l : List Value} (ha : a ≠ n) (h : gFr n l) : gFr n (.ref a :: l) := fun v hv => (List.mem_cons.mp hv).elim (fun e => by rw [e]; exact fun q => ha (Value.ref.inj q)) (h v)
theorem gv_up {ad : Nat → Nat} {n q : Nat} {v : Value} (h : v ≠ .ref n) : gv (va_up ad n q) v = gv ad v := by
  cases v with
  | ref a =>
    show Value.ref (va_up ad n q a) = Value.ref (ad a)
    rw [va_up_ne _ _ (fun e => h (by rw [e]))]
  | _ => rfl
theorem gFr_map {ad : Nat → Nat} {n q : Nat} : ∀ {l : List Value}, gFr n l → l.map (gv (va_up ad n q)) = l.map (gv ad)
  | [], _ => rfl
  | v :: l, h => by
    rw [List.map_cons, List.map_cons, gv_up (h v List.mem_cons_self), gFr_map (fun w hw => h w (List.mem_cons_of_mem _ hw))]
theorem gFr_gmp {ad : Nat → Nat} {n q : Nat} : ∀ {l : List (Nat × Value)}, gFr n (l.map Prod.snd) → gmp (va_up ad n q) l = gmp ad l
  | [], _ => rfl
  | v :: l, h => by
    show (v.1, gv (va_up ad n q) v.2) :: gmp (va_up ad n q) l = (v.1, gv ad v.2) :: gmp ad l
    rw [gv_up (h v.2 List.mem_cons_self), gFr_gmp (fun w hw => h w (List.mem_cons_of_mem _ hw))]
def gKd (t : FieldType) : Nat := match t with
  | .object _ => 2
  | .array _ => 2
  | .long => 1
  | .float => 3
  | .double => 3
  | _ => 0
def gDf (c N : Nat) (ty : Nat → FieldType) : Prop := ∀ k, k < N → (gK c)[k]? = some (gKd (ty k)) ∧ gKd (ty k) < 3
theorem gDf_val {t : FieldType} {M : gM} {ad : Nat → Nat} {a k : Nat} (h : gKd t < 3) (h1 : gi M a k = 0) (h2 : gl M a k = 0) (h3 : gr M a k = none) : defaultValue t = gfv M ad a k (gKd t) := by
  cases t <;> first | (exact absurd h (by decide)) | (simp [gfv, gKd, h1, h2, h3, va_rf, defaultValue])
section GM
variable {Z : gZ} {cc : ByteArray} {own nm : String} {rt : Option FieldType} {d mc ms : Nat} {Acc : Option Value → (Nat → Nat) → gT → gM → Prop} {AccX : Nat → (Nat → Nat) → gT → gM → Prop} {ad : Nat → Nat} {T T1 : gT} {M M1 : gM} {ce so pc : Nat} {ls : List (Nat × Value)} {st : List Value} {a : Nat}
/-- the new world is the world of the new memory -/
theorem gRp_push {H1 : Heap} {locs : List Loc} {H : Heap} {sh : Nat × Nat} {q : Nat} {e : va_E} (hR : gRp Z ad T M H locs) (hlen : T.length < gSB) (he : gE Z.2.2.2.2.1 (va_up ad T.length q) (zr M T.length) T.length sh = e)
    (hP : va_P Z.2.2.2.1 vwCl (gW Z.2.2.2.2.1 ad T M ++ [(q, e)]) H1) (hD : va_D Z.2.1 (gW Z.2.2.2.2.1 ad T M ++ [(q, e)])) (hS : va_S Z.2.1 Z.2.2.1 H1 locs) : gRp Z (va_up ad T.length q) (T ++ [sh]) (zr M T.length) H1 locs := by
  rw [gW_push hR.2.2.2.1 he] at hP hD
  exact ⟨hP, hD, hS, gCl_zr hR.2.2.2.1, fun b hb => by rw [va_up_ne _ _ (by omega)]; exact hR.2.2.2.2 b hb⟩

theorem g_new (hF : gFix Z cc own nm rt d mc ms Acc AccX) {idx c N : Nat} {RR : String} {TT : u_T} {ty : Nat → FieldType} (hC : gC c RR TT N ty) (hdf : gDf c N ty) (hw1 : Cond.classLink own idx RR ∈ gWS) (hw2 : Cond.instantiable RR N ∈ gWS) (hw3 : Cond.initialized RR ∈ gWS)
    (hnew : gnew T M (c, 0) = some (a, T1, M1)) (hlen : T.length < gSB) (hfr : gFr T.length (ls.map Prod.snd)) (hfs : gFr T.length st) (h1 : ce + 1 ≤ mc) (h2 : so + N ≤ ms) (hd : decode cc pc = .ok (.new idx, 3))
    (k : ∀ ad1 : Nat → Nat, (∀ b : Nat, b ≠ a → ad1 b = ad b) → gG Z ad1 T1 M1 (ce + 1) (so + N) (pc + 3) ls (.ref a :: st)) : gG Z ad T M ce so pc ls st := by
  obtain ⟨rfl, rfl, rfl⟩ := gnew_sp hnew
  obtain ⟨p, l, e, R, s, m, args, below, meth, cd, Q, adV, hKq, hx, hb, hml, hown, hts, hK, hH, hA, hE, hRm, hnm, hlk9, hst9, -⟩ := hF
  intro H locs la hR hl
  obtain ⟨c1, c2, c3, c4, c5, c6, c7⟩ := hC
  have k := fun q H1 hR1 => k (va_up ad T.length q) (fun b hb => va_up_ne _ _ hb) H1 locs la hR1 (by rw [gFr_gmp hfr]; exact hl)
  rw [hKq] at k ⊢
  have hf0 : ∀ (M2 : gM) (ad2 : Nat → Nat), (∀ j, gi M2 T.length j = 0) → (∀ j, gl M2 T.length j = 0) → (∀ j, gr M2 T.length j = none) → ∀ j, j < N → defaultValue (ty j) = vp_V ((gK c).mapIdx (gfv M2 ad2 T.length)) j := fun M2 ad2 q1 q2 q3 j hj => by
    obtain ⟨g1, g2⟩ := hdf j hj
    rw [vp_V, List.getD_eq_getElem?_getD, List.getElem?_mapIdx, g1]
    exact gDf_val g2 (q1 j) (q2 j) (q3 j)
  have hz1 : ∀ j, gi (zr M T.length) T.length j = 0 := fun j => by rw [gi_zr, if_pos rfl]
  have hz2 : ∀ j, gl (zr M T.length) T.length j = 0 := fun j => by rw [gl_zr, if_pos rfl]
  have hz3 : ∀ j, gr (zr M T.length) T.length j = none := fun j => by rw [gr_zr, if_pos rfl]
  have hee : ∀ ad2 ad3 : Nat → Nat, (gK c).mapIdx (gfv (zr M T.length) ad2 T.length) = (gK c).mapIdx (gfv (zr M T.length) ad3 T.length) := fun ad2 ad3 => by
    congr 1
    funext j kd
    simp only [gfv, hz3, Option.map_none]
  refine va_new (fs := (gK c).mapIdx (gfv (zr M T.length) ad T.length)) hx hb hts c2 ty c3 hown (hts _ hw1) (hts _ hw2) (hts _ hw3) hK hR.1 hR.2.1 hR.2.2.1 (fun q hq => hA q (by rw [hH] at hq; exact hq)) c1 (hf0 _ _ hz1 hz2 hz3) (Nat.le_trans h1 hRm.2.2.1) (Nat.le_trans h2 hRm.2.2.2) hd (fun q H1 hP hD hS => ?_)
  have k := k q H1 (gRp_push hR hlen (by rw [gE_obj c6, hee _ ad]) hP hD hS)
  rw [List.map_cons, gFr_map hfs] at k
  have hself : gv (va_up ad T.length q) (.ref T.length) = .ref q := by
    show Value.ref (va_up ad T.length q T.length) = _
    rw [va_up_self]
  rw [hself] at k
  exact k

theorem g_newa_int (hF : gFix Z cc own nm rt d mc ms Acc AccX) {n : Int32} {N : Nat} (hn : ¬ n < 0) (hN : n.toNatClampNeg = N) (hbd : N ≤ 100000) (hw1 : Cond.arrayClass .int ∈ gWS)
    (hnew : gnew T M (11, N) = some (a, T1, M1)) (hlen : T.length < gSB) (hfr : gFr T.length (ls.map Prod.snd)) (hfs : gFr T.length st) (h1 : ce + 1 ≤ mc) (h2 : so + N ≤ ms) (hd : decode cc pc = .ok (.newarray .int, 2))
    (k : ∀ ad1 : Nat → Nat, (∀ b : Nat, b ≠ a → ad1 b = ad b) → gG Z ad1 T1 M1 (ce + 1) (so + N) (pc + 2) ls (.ref a :: st)) : gG Z ad T M ce so pc ls (.int n :: st) := by
  obtain ⟨rfl, rfl, rfl⟩ := gnew_sp hnew
  obtain ⟨p, l, e, R, s, m, args, below, meth, cd, Q, adV, hKq, hx, hb, hml, hown, hts, hK, hH, hA, hE, hRm, hnm, hlk9, hst9, -⟩ := hF
  intro H locs la hR hl
  have k := fun q H1 hR1 => k (va_up ad T.length q) (fun b hb => va_up_ne _ _ hb) H1 locs la hR1 (by rw [gFr_gmp hfr]; exact hl)
  rw [hKq] at k ⊢
  refine va_newa (atype := .int) (ty := .int) (a0 := (N, .inl (fun j => 0))) hx hb (hts _ hw1) rfl hK hR.1 hR.2.1 hR.2.2.1 (fun q hq => hA q (by rw [hH] at hq; exact hq)) (fun cA => rfl) hn hN (by simp only [componentBytes]; omega) (Nat.le_trans h1 hRm.2.2.1) (Nat.le_trans h2 hRm.2.2.2) hd (fun q cA H1 hK1 hP hD hS => ?_)
  have hcA : cA = Z.2.2.2.2.1 11 := gRA_eq (hK1.2 6 (cA, .int) rfl).2 (hK.2 1 _ rfl).2
  subst hcA
  have k := k q H1 (gRp_push hR hlen (by
    rw [gE_i]
    congr 5
    funext j
    rw [gi_zr, if_pos rfl]) hP hD hS)
  rw [List.map_cons, gFr_map hfs] at k
  have hself : gv (va_up ad T.length q) (.ref T.length) = .ref q := by
    show Value.ref (va_up ad T.length q T.length) = _
    rw [va_up_self]
  rw [hself] at k
  exact k

theorem g_newa_byte (hF : gFix Z cc own nm rt d mc ms Acc AccX) {n : Int32} {N : Nat} (hn : ¬ n < 0) (hN : n.toNatClampNeg = N) (hbd : N ≤ 100000) (hw1 : Cond.arrayClass .byte ∈ gWS)
    (hnew : gnew T M (10, N) = some (a, T1, M1)) (hlen : T.length < gSB) (hfr : gFr T.length (ls.map Prod.snd)) (hfs : gFr T.length st) (h1 : ce + 1 ≤ mc) (h2 : so + N ≤ ms) (hd : decode cc pc = .ok (.newarray .byte, 2))
    (k : ∀ ad1 : Nat → Nat, (∀ b : Nat, b ≠ a → ad1 b = ad b) → gG Z ad1 T1 M1 (ce + 1) (so + N) (pc + 2) ls (.ref a :: st)) : gG Z ad T M ce so pc ls (.int n :: st) := by
  obtain ⟨rfl, rfl, rfl⟩ := gnew_sp hnew
  obtain ⟨p, l, e, R, s, m, args, below, meth, cd, Q, adV, hKq, hx, hb, hml, hown, hts, hK, hH, hA, hE, hRm, hnm, hlk9, hst9, -⟩ := hF
  intro H locs la hR hl
  have k := fun q H1 hR1 => k (va_up ad T.length q) (fun b hb => va_up_ne _ _ hb) H1 locs la hR1 (by rw [gFr_gmp hfr]; exact hl)
  rw [hKq] at k ⊢
  refine va_newa (atype := .byte) (ty := .byte) (a0 := (N, .inl (fun j => 0))) hx hb (hts _ hw1) rfl hK hR.1 hR.2.1 hR.2.2.1 (fun q hq => hA q (by rw [hH] at hq; exact hq)) (fun cA => rfl) hn hN (by simp only [componentBytes]; omega) (Nat.le_trans h1 hRm.2.2.1) (Nat.le_trans h2 hRm.2.2.2) hd (fun q cA H1 hK1 hP hD hS => ?_)
  have hcA : cA = Z.2.2.2.2.1 10 := gRA_eq (hK1.2 6 (cA, .byte) rfl).2 (hK.2 0 _ rfl).2
  subst hcA
  have k := k q H1 (gRp_push hR hlen (by
    rw [gE_b]
    congr 5
    funext j
    rw [gi_zr, if_pos rfl]) hP hD hS)
  rw [List.map_cons, gFr_map hfs] at k
  have hself : gv (va_up ad T.length q) (.ref T.length) = .ref q := by
    show Value.ref (va_up ad T.length q T.length) = _
    rw [va_up_self]
  rw [hself] at k
  exact k

theorem g_newa_long (hF : gFix Z cc own nm rt d mc ms Acc AccX) {n : Int32} {N : Nat} (hn : ¬ n < 0) (hN : n.toNatClampNeg = N) (hbd : N ≤ 100000) (hw1 : Cond.arrayClass .long ∈ gWS)
    (hnew : gnew T M (12, N) = some (a, T1, M1)) (hlen : T.length < gSB) (hfr : gFr T.length (ls.map Prod.snd)) (hfs : gFr T.length st) (h1 : ce + 1 ≤ mc) (h2 : so + N ≤ ms) (hd : decode cc pc = .ok (.newarray .long, 2))
    (k : ∀ ad1 : Nat → Nat, (∀ b : Nat, b ≠ a → ad1 b = ad b) → gG Z ad1 T1 M1 (ce + 1) (so + N) (pc + 2) ls (.ref a :: st)) : gG Z ad T M ce so pc ls (.int n :: st) := by
  obtain ⟨rfl, rfl, rfl⟩ := gnew_sp hnew
  obtain ⟨p, l, e, R, s, m, args, below, meth, cd, Q, adV, hKq, hx, hb, hml, hown, hts, hK, hH, hA, hE, hRm, hnm, hlk9, hst9, -⟩ := hF
  intro H locs la hR hl
  have k := fun q H1 hR1 => k (va_up ad T.length q) (fun b hb => va_up_ne _ _ hb) H1 locs la hR1 (by rw [gFr_gmp hfr]; exact hl)
  rw [hKq] at k ⊢
  refine va_newa (atype := .long) (ty := .long) (a0 := (N, .inr (.inl (fun j => 0)))) hx hb (hts _ hw1) rfl hK hR.1 hR.2.1 hR.2.2.1 (fun q hq => hA q (by rw [hH] at hq; exact hq)) (fun cA => rfl) hn hN (by simp only [componentBytes]; omega) (Nat.le_trans h1 hRm.2.2.1) (Nat.le_trans h2 hRm.2.2.2) hd (fun q cA H1 hK1 hP hD hS => ?_)
  have hcA : cA = Z.2.2.2.2.1 12 := gRA_eq (hK1.2 6 (cA, .long) rfl).2 (hK.2 2 _ rfl).2
  subst hcA
  have k := k q H1 (gRp_push hR hlen (by
    rw [gE_l]
    congr 6
    funext j
    rw [gl_zr, if_pos rfl]) hP hD hS)
  rw [List.map_cons, gFr_map hfs] at k
  have hself : gv (va_up ad T.length q) (.ref T.length) = .ref q := by
    show Value.ref (va_up ad T.length q T.length) = _
    rw [va_up_self]
  rw [hself] at k
  exact k

theorem g_newq_Data (hF : gFix Z cc own nm rt d mc ms Acc AccX) {idx : Nat} {n : Int32} {N : Nat} (hn : ¬ n < 0) (hN : n.toNatClampNeg = N) (hbd : N ≤ 100000) (hw1 : Cond.classLink own idx RX0 ∈ gWS)
    (hnew : gnew T M (13, N) = some (a, T1, M1)) (hlen : T.length < gSB) (hfr : gFr T.length (ls.map Prod.snd)) (hfs : gFr T.length st) (h1 : ce + 1 ≤ mc) (h2 : so + N ≤ ms) (hd : decode cc pc = .ok (.anewarray idx, 3))
    (k : ∀ ad1 : Nat → Nat, (∀ b : Nat, b ≠ a → ad1 b = ad b) → gG Z ad1 T1 M1 (ce + 1) (so + N) (pc + 3) ls (.ref a :: st)) : gG Z ad T M ce so pc ls (.int n :: st) := by
  obtain ⟨rfl, rfl, rfl⟩ := gnew_sp hnew
  obtain ⟨p, l, e, R, s, m, args, below, meth, cd, Q, adV, hKq, hx, hb, hml, hown, hts, hK, hH, hA, hE, hRm, hnm, hlk9, hst9, -⟩ := hF
  intro H locs la hR hl
  have k := fun q H1 hR1 => k (va_up ad T.length q) (fun b hb => va_up_ne _ _ hb) H1 locs la hR1 (by rw [gFr_gmp hfr]; exact hl)
  rw [hKq] at k ⊢
  refine va_newq (C := RX0) hx hb hown (hts _ hw1) hE.2.2.2.2.2.1 hK hR.1 hR.2.1 hR.2.2.1 (fun q hq => hA q (by rw [hH] at hq; exact hq)) hn hN (by omega) (Nat.le_trans h1 hRm.2.2.1) (Nat.le_trans h2 hRm.2.2.2) hd (fun q cA H1 hK1 hP hD hS => ?_)
  have hcA : cA = Z.2.2.2.2.1 13 := gRA_eq (hK1.2 6 (cA, .object RX0) rfl).2 (hK.2 3 _ rfl).2
  subst hcA
  have k := k q H1 (gRp_push hR hlen (by
    rw [gE_q (by omega)]
    congr 8
    funext j
    rw [gr_zr, if_pos rfl]
    rfl) hP hD hS)
  rw [List.map_cons, gFr_map hfs] at k
  have hself : gv (va_up ad T.length q) (.ref T.length) = .ref q := by
    show Value.ref (va_up ad T.length q T.length) = _
    rw [va_up_self]
  rw [hself] at k
  exact k

theorem g_newq_Library (hF : gFix Z cc own nm rt d mc ms Acc AccX) {idx : Nat} {n : Int32} {N : Nat} (hn : ¬ n < 0) (hN : n.toNatClampNeg = N) (hbd : N ≤ 100000) (hw1 : Cond.classLink own idx RX3 ∈ gWS)
    (hnew : gnew T M (14, N) = some (a, T1, M1)) (hlen : T.length < gSB) (hfr : gFr T.length (ls.map Prod.snd)) (hfs : gFr T.length st) (h1 : ce + 1 ≤ mc) (h2 : so + N ≤ ms) (hd : decode cc pc = .ok (.anewarray idx, 3))
    (k : ∀ ad1 : Nat → Nat, (∀ b : Nat, b ≠ a → ad1 b = ad b) → gG Z ad1 T1 M1 (ce + 1) (so + N) (pc + 3) ls (.ref a :: st)) : gG Z ad T M ce so pc ls (.int n :: st) := by
  obtain ⟨rfl, rfl, rfl⟩ := gnew_sp hnew
  obtain ⟨p, l, e, R, s, m, args, below, meth, cd, Q, adV, hKq, hx, hb, hml, hown, hts, hK, hH, hA, hE, hRm, hnm, hlk9, hst9, -⟩ := hF
  intro H locs la hR hl
  have k := fun q H1 hR1 => k (va_up ad T.length q) (fun b hb => va_up_ne _ _ hb) H1 locs la hR1 (by rw [gFr_gmp hfr]; exact hl)
  rw [hKq] at k ⊢
  refine va_newq (C := RX3) hx hb hown (hts _ hw1) hE.2.2.2.2.2.2.1 hK hR.1 hR.2.1 hR.2.2.1 (fun q hq => hA q (by rw [hH] at hq; exact hq)) hn hN (by omega) (Nat.le_trans h1 hRm.2.2.1) (Nat.le_trans h2 hRm.2.2.2) hd (fun q cA H1 hK1 hP hD hS => ?_)
  have hcA : cA = Z.2.2.2.2.1 14 := gRA_eq (hK1.2 6 (cA, .object RX3) rfl).2 (hK.2 4 _ rfl).2
  subst hcA
  have k := k q H1 (gRp_push hR hlen (by
    rw [gE_q (by omega)]
    congr 8
    funext j
    rw [gr_zr, if_pos rfl]
    rfl) hP hD hS)
  rw [List.map_cons, gFr_map hfs] at k
  have hself : gv (va_up ad T.length q) (.ref T.length) = .ref q := by
    show Value.ref (va_up ad T.length q T.length) = _
    rw [va_up_self]
  rw [hself] at k
  exact k

/-- Object's constructor -/
theorem g_obj (hF : gFix Z cc own nm rt d mc ms Acc AccX) {idx b : Nat} (hw1 : Cond.methodLink own idx Lib.objectInit ∈ gWS) (hw2 : Cond.instanceMethod Lib.objectInit ∈ gWS) (hw3 : Cond.code Lib.objectInit ⟨#[0xb1]⟩ 1 none ∈ gWS) (hdd : 1 ≤ d) (hcat : (st.map fun v => v.category).sum ≤ 8) (hd : decode cc pc = .ok (.invokespecial idx, 3))
    (k : gG Z ad T M ce so (pc + 3) ls st) : gG Z ad T M ce so pc ls (.ref b :: st) := by
  obtain ⟨p, l, e, R, s, m, args, below, meth, cd, Q, adV, hKq, hx, hb, hml, hown, hts, hK, hH, hA, hE, hRm, hnm, hlk9, hst9, -⟩ := hF
  intro H locs la hR hl
  have k := k H locs la hR hl
  rw [hKq] at k ⊢
  have hrest : (((st.map (gv ad)).map fun v => v.category).sum) ≤ 8 := by
    rw [List.map_map, show ((fun v : Value => v.category) ∘ gv ad) = (fun v => v.category) from funext fun v => gv_cat ad v]
    exact hcat
  exact W.objInit hx hb hown (hts _ hw1) (hts _ hw2) (hts _ hw3) rfl (by rw [hml]; exact hl.1) rfl hd (by have := hRm.1; omega) (by show 2 * 0 + _ + 12 ≤ _; have := hRm.2.1; omega) k

/-- all things of the list are old -/
def gOld (n : Nat) (l : List Value) : Prop := ∀ v ∈ l, ∀ a : Nat, v = .ref a → a < n ∨ gSB ≤ a
theorem gOld_0 {n : Nat} : gOld n [] := fun _ h => nomatch h
theorem gOld_i {n : Nat} {x : Int32} {l : List Value} (h : gOld n l) : gOld n (.int x :: l) := fun v hv => (List.mem_cons.mp hv).elim (fun e => by rw [e]; exact fun _ q => nomatch q) (h v)
theorem gOld_l {n : Nat} {x : Int64} {l : List Value} (h : gOld n l) : gOld n (.long x :: l) := fun v hv => (List.mem_cons.mp hv).elim (fun e => by rw [e]; exact fun _ q => nomatch q) (h v)
theorem gOld_r {n a : Nat} {l : List Value} (ha : a < n) (h : gOld n l) : gOld n (.ref a :: l) := fun v hv => (List.mem_cons.mp hv).elim (fun e => by rw [e]; exact fun b q => Or.inl (by rw [← Value.ref.inj q]; exact ha)) (h v)
theorem gOld_s {n a : Nat} {l : List Value} (ha : gSB ≤ a) (h : gOld n l) : gOld n (.ref a :: l) := fun v hv => (List.mem_cons.mp hv).elim (fun e => by rw [e]; exact fun b q => Or.inr (by rw [← Value.ref.inj q]; exact ha)) (h v)
theorem gOld_map {ad ad1 : Nat → Nat} {n : Nat} (h1 : ∀ a : Nat, a < n → ad1 a = ad a) (h2 : ∀ a : Nat, gSB ≤ a → ad1 a = ad a) : ∀ {l : List Value}, gOld n l → l.map (gv ad1) = l.map (gv ad)
  | [], _ => rfl
  | v :: l, h => by
    rw [List.map_cons, List.map_cons, gOld_map h1 h2 (fun w hw => h w (List.mem_cons_of_mem _ hw))]
    congr 1
    cases v with
    | ref a =>
      show Value.ref (ad1 a) = Value.ref (ad a)
      rcases h _ List.mem_cons_self a rfl with q | q
      · rw [h1 a q]
      · rw [h2 a q]
    | _ => rfl
theorem gOld_gmp {ad ad1 : Nat → Nat} {n : Nat} (h1 : ∀ a : Nat, a < n → ad1 a = ad a) (h2 : ∀ a : Nat, gSB ≤ a → ad1 a = ad a) : ∀ {l : List (Nat × Value)}, gOld n (l.map Prod.snd) → gmp ad1 l = gmp ad l
  | [], _ => rfl
  | v :: l, h => by
    show (v.1, gv ad1 v.2) :: gmp ad1 l = (v.1, gv ad v.2) :: gmp ad l
    have e := gOld_map (l := [v.2]) h1 h2 (fun w hw => h w (by rw [List.mem_singleton.mp hw]; exact List.mem_cons_self))
    rw [(List.cons.inj e).1, gOld_gmp h1 h2 (fun w hw => h w (List.mem_cons_of_mem _ hw))]
/-- behind a call that made things -/
theorem g_made {T' : gT} {M' : gM} {r : Option Value} (hls : gOld T.length (ls.map Prod.snd)) (hst : gOld T.length st) (h : ∀ ad1 : Nat → Nat, gExt T T' → (∀ a : Nat, a < T.length → ad1 a = ad a) → gG Z ad1 T' M' ce so pc ls (r.toList ++ st)) : ∀ (v : Option Value) (ad1 : Nat → Nat) (T1 : gT) (M1 : gM), gMade T r T' M' ad v ad1 T1 M1 → (∀ a : Nat, gSB ≤ a → ad1 a = ad a) → ∀ H locs la, gRp Z ad1 T1 M1 H locs → lv_has la Z.2.2.2.2.2.1 (gmp ad ls) → Z.1 H locs ce so pc la ((v.map (gv ad1)).toList ++ st.map (gv ad)) := by
  rintro v ad1 T1 M1 ⟨rfl, rfl, rfl, hx, had⟩ hsb H locs la hR hl
  have h1 := h ad1 hx had H locs la hR (by rw [gOld_gmp had hsb hls]; exact hl)
  rw [List.map_append, gOld_map had hsb hst] at h1
  cases v with
  | none => exact h1
  | some x => exact h1
end GM
end
section
/-! THROWN EXCEPTIONS -/
theorem gNb_tab {w : Cond} (h : gNb w = true) : w.onTables = true := by
  cases w <;> first | rfl | exact absurd h (fun q => nomatch q)
theorem gNw_use {w : Cond} {s : State} {args : Array Value} (hw : w ∈ gNw) (h : va_Nw w s) : w.before args s = true := va_Nw.use (gNb_tab (List.mem_filter.mp hw).2) h
def gThrown (ad0 : Nat → Nat) (T : gT) (M : gM) (k : Nat) : Nat → (Nat → Nat) → gT → gM → Prop := fun k' ad T' M' => k' = k ∧ ad = ad0 ∧ T' = T ∧ M' = M
def gXC (A : Nat → Prop) (D : va_G) (dA : Nat → ClassId) (ad0 : Nat → Nat) (T : gT) (M : gM) (k : Nat) : String → State → State → Prop := fun E st t => E = gExN k ∧ va_P D vwCl (gW dA ad0 T M) t.heap ∧ va_F A st t
def gRetXW (l : Launch) (d : Nat) (y : MethodName) (cc : ByteArray) (nL : Nat) (rt : Option FieldType) (mc ms : Nat) (av : List Value) (T : gT) (M : gM) (k : Nat) : Prop :=
  ∀ (D : va_G) (dA : Nat → ClassId) (adV ad0 : Nat → Nat) (sz : Nat), vx_Met l y (gWs y cc nL rt) { frames := d, cells := mc, slots := ms, locals := 64 * d } (va_Pc (av.map (gv ad0)) (gIn (gA ad0 T.length sz) D dA adV ad0 T M sz)) (fun _ _ _ _ => False) (gXC (gA ad0 T.length sz) D dA ad0 T M k) mc ms (gA ad0 T.length sz)
/-- at these arguments and this memory the method throws the exception k, nothing changed -/
def gRetX (d : Nat) (y : MethodName) (cc : ByteArray) (nL : Nat) (rt : Option FieldType) (mc ms : Nat) (av : List Value) (T : gT) (M : gM) (k : Nat) : Prop := ∀ l : Launch, l.stackTraces = false → gRetXW l d y cc nL rt mc ms av T M k
/-- the heap grew, and nothing else -/
theorem gXC_of {Z : gZ} {ad : Nat → Nat} {T : gT} {M : gM} {H : Heap} {locs : List Loc} {s t : State} (hR : gRp Z ad T M H locs) (hH : Z.2.2.1 = s.heap) (hz : H.size ≤ t.heap.size) (hk : ∀ q : Nat, q < H.size → t.heap[q]? = H[q]?) (k : Nat) : gXC Z.2.1 Z.2.2.2.1 Z.2.2.2.2.1 ad T M k (gExN k) s t := by
  refine ⟨rfl, hR.1.kept (fun j q hq => hk q.1 (hR.1 j q hq).lt), ?_⟩
  have hS := hR.2.2.1
  rw [hH] at hS
  exact ⟨Nat.le_trans hS.1 hz, fun q h1 h2 => (hk q (Nat.lt_of_lt_of_le h1 hS.1)).trans (hS.2.1 q h1 h2)⟩
section GX
variable {d : Nat} {y : MethodName} {cc : ByteArray} {nL : Nat} {rt : Option FieldType} {mc ms : Nat} {av : List Value} {T : gT} {M : gM} {k : Nat}
theorem gRetX_of {own : String} (hy : plainName y.cls = true) (hcls : y.cls = own) (hlen : (lg_sl av).length ≤ nL)
    (body : ∀ (Z : gZ) (ad0 : Nat → Nat), Z.2.2.2.2.2.1 = nL → Z.2.2.2.2.2.2 = ad0 → gFix Z cc own y.name rt d mc ms (fun _ _ _ _ => False) (gThrown ad0 T M k) → gG Z ad0 T M 0 0 0 (lv_args 0 av) []) : gRetX d y cc nL rt mc ms av T M k := by
  intro l hst D dA adV ad0 sz
  refine vx_ofW (cc := cc) (maxL := nL) (ret := rt) hy rfl ?_
  intro p e s m args below meth c s₁ B hml htab hv
  obtain ⟨rfl, hsz, hP, hD, hC, hK, hE⟩ := hv
  subst hsz
  have hts := atoms_spec (ws := gWs y cc nL rt) B.pre
  have hts' : ∀ w ∈ gWS, w.before (av.map (gv ad0)).toArray s = true := fun w hw => hts w (List.mem_cons_of_mem _ hw)
  have hown : s.vm.findClass own = some m.cls := by rw [← hcls]; exact findClass_of_methodNamed B.named
  have hnm : meth.name = y.name := (name_of_methodNamed B.named B.method).1
  have hlocks := B.notSynchronized
  generalize hZ : (((fun H locs ce so pc la st => W p l e ((headSpec (gWs y cc nL rt) { frames := d, cells := mc, slots := ms, locals := 64 * d }).room) s m ((av.map (gv ad0)).toArray) below meth c H locs ce so (vx_MQ below (fun _ _ _ _ => False) (gXC (gA ad0 T.length s.heap.size) D dA ad0 T M k) ((av.map (gv ad0)).toArray) s mc ms (gA ad0 T.length s.heap.size)) (F0 m pc la st)), gA ad0 T.length s.heap.size, s.heap, D, dA, nL, ad0) : gZ) = Z
  have hb := body Z ad0 (by rw [← hZ]) (by rw [← hZ]) ⟨p, l, e, _, s, m, _, below, meth, c, _, adV, by
    subst hZ
    refine ⟨rfl, B.exec, B.bytes, hml, hown, hts', hK, rfl, fun q hq => Or.inr hq, hE, ⟨Nat.le_refl d, Nat.le_refl _, Nat.le_refl mc, Nat.le_refl ms⟩, hnm, hlocks, hst, fun _ _ _ _ _ _ _ _ _ _ _ _ _ _ _ h => h.elim, fun _ _ _ _ _ _ _ _ _ _ _ _ _ h => h.elim, fun _ _ _ _ _ _ _ _ _ _ _ _ _ _ _ h => h.elim, fun _ _ _ _ _ _ _ _ _ _ _ _ h => h.elim, ?_, ?_⟩
    · rintro H locs ce so pc la rest ad T1 M1 k1 ik is ic text sa hR ⟨rfl, rfl, rfl, rfl⟩ hsize ⟨t1, t2, t3, t4⟩ hstr d0 d3 d4 d6 d9 hcat h6 hce hso
      refine vx_throwS (names := ["java/lang/RuntimeException", "java/lang/Exception"]) (A := gA ad T1.length s.heap.size) B.exec B.bytes hst hown t4 (fun n hn => ?_) (hts' _ t1) (hts' _ t2) hstr (fun w hw => ?_) (fun w hw => ?_) hE.2.2.2.1 hE.2.2.2.2.1 hR.2.2.1 hsize d0 d3 d4 d6 d9 (fun x hx => (htab x hx).elim) (by show 2 + 3 < d; omega) (by show _ + (13 * 3 + 43) ≤ 64 * d; omega) hce hso hlocks (fun t hal hz hk => gXC_of hR rfl hz hk k1) hR.2.2.1.2.2 hce hso
      · have hn' : n ∈ ["java/lang/RuntimeException", "java/lang/Exception"] := hn
        simp only [List.mem_cons, List.not_mem_nil, or_false] at hn'
        rcases hn' with rfl | rfl <;> decide +kernel
      · rcases t3 w hw with h | h
        · exact hts' _ h
        · exact gNw_use h (hE.1 _ h)
      · have good : ∀ w' : Cond, w' ∈ gWS → vx_ot w' = true := fun w' h' => by
          have := (List.mem_filter.mp h').2
          simp only [vx_ot, this, Bool.or_true]
        rcases List.mem_cons.mp hw with e1 | hw
        · rw [e1]; exact good _ t1
        rcases List.mem_cons.mp hw with e1 | hw
        · rw [e1]; exact good _ t2
        rcases t3 w hw with h | h
        · exact good _ h
        · have := gNb_tab (List.mem_filter.mp h).2
          simp only [vx_ot, this, Bool.true_or]
    · rintro H locs ce so pc la rest ad T1 M1 k1 q cell hR ⟨rfl, rfl, rfl, rfl⟩ hq hv hcl hce hso
      exact vx_out (fun x hx => (htab x hx).elim) hlocks hq hv hcl (fun t ht hal => gXC_of hR rfl (by rw [ht]; exact Nat.le_refl _) (fun j hj => by rw [ht]) k1) hR.2.2.1.2.2 hce hso⟩
  rw [lg_entry_eq]
  have hl := lv_entry (av.map (gv ad0)) (n := nL) (by rw [glg_len]; exact hlen)
  rw [gmp_args] at hl
  subst hZ
  exact hb s.heap [] _ ⟨hP, hD, va_S.rf, hC, fun _ _ => rfl⟩ hl
end GX
section GXR
variable {Z : gZ} {cc : ByteArray} {own nm : String} {rt : Option FieldType} {d mc ms : Nat} {Acc : Option Value → (Nat → Nat) → gT → gM → Prop} {AccX : Nat → (Nat → Nat) → gT → gM → Prop} {ad : Nat → Nat} {T : gT} {M : gM} {ce so pc : Nat} {ls : List (Nat × Value)} {st st0 : List Value}
theorem g_throw (hF : gFix Z cc own nm rt d mc ms Acc AccX) {k ik is ic sa : Nat} {text : String} (hthr : gThr own ik ic k) (hlit : (own, is, text, sa) ∈ gLit) (hcat : (st.map fun v => v.category).sum ≤ 8) (h6 : 6 ≤ d) (h1 : ce + 1 ≤ mc) (h2 : so + 6 ≤ ms) (ha : AccX k ad T M)
    (d0 : decode cc pc = .ok (.new ik, 3)) (d3 : decode cc (pc + 3) = .ok (.dup, 1)) (d4 : decode cc (pc + 4) = .ok (.ldc is, 2)) (d6 : decode cc (pc + 6) = .ok (.invokespecial ic, 3)) (d9 : decode cc (pc + 9) = .ok (.athrow, 1)) : gG Z ad T M ce so pc ls st := by
  obtain ⟨p, l, e, R, s, m, args, below, meth, c, Q, adV, hKq, hx, hb, hml, hown, hts, hK, hH, hA, hE, hRm, hnm, hlk9, hst, hrr1, hrr2, hrr3, hrr4, hrt, hrp⟩ := hF
  intro H locs la hR hl
  rw [hKq]
  exact hrt H locs ce so pc la (st.map (gv ad)) ad T M k ik is ic text _ hR ha (hl.1.trans hml.symm) hthr (hE.2.1 _ hlit) d0 d3 d4 d6 d9 (by
    rw [List.map_map, show ((fun v : Value => v.category) ∘ gv ad) = (fun v => v.category) from funext fun v => gv_cat ad v]
    exact hcat) h6 h1 h2
variable {y : MethodName} {cc' : ByteArray} {nL' n idx mc' ms' d' : Nat} {rt' : Option FieldType} {as : List Value} {k : Nat}
/-- a call of a method that throws: what its run gives -/
theorem g_callX_run {p : Program} {l : Launch} {e : Env} {R : Room} {s : State} {m : MethodId} {args : Array Value} {below : List Frame} {meth : Method} {c : Code} {Q : State → Prop} {adV : Nat → Nat} (hBs : gBase Z cc own nm rt d mc ms Acc AccX p l e R s m args below meth c Q adV) {b ci : Nat} {C : String} (hm : gMy y cc' nL' rt' n) (hlk : Cond.methodLink own idx y ∈ gWS) (hin : Cond.instanceMethod y ∈ gWS) (hse : Cond.selects C y y ∈ gWS) {TT : u_T} {N : Nat} (hC : vwCl[ci]? = some (C, TT, N)) (hci : ci < 10) {len9 : Nat} (hTb : T[b]? = some (ci, len9))
    (hc : gRetX d' y cc' nL' rt' mc' ms' (.ref b :: as) T M k) (hdd : d' + 1 ≤ d) (hmc : ce + mc' ≤ mc) (hms : so + ms' ≤ ms) (hn : as.length = n) (hst0 : st0 = as.reverse ++ .ref b :: st) (hcat : (st.map fun v => v.category).sum ≤ 8) (hd : decode cc pc = .ok (.invokevirtual idx, 3))
    (kk : ∀ (H : Heap) (locs : List Loc) (la : Array Slot) (q : Nat) (cell : Cell), gRp Z ad T M H locs → lv_has la Z.2.2.2.2.2.1 (gmp ad ls) → H[q]? = some cell → cell.vm = .none → s.vm.findClass (gExN k) = some cell.cls → vx_W p l e R s m args below meth c H locs (ce + mc') (so + ms') Q (F0 m pc la (st.map (gv ad))) q) : gG Z ad T M ce so pc ls st0 := by
  obtain ⟨hKq, hx, hb, hml, hown, hts, hK, hH, hA, hE, hRm, hnm, hlk9, hst, -⟩ := hBs
  intro H locs la hR hl
  subst hst0
  rw [hKq]
  dsimp only
  obtain ⟨hm1, hm2, hm3, hm4, hm5⟩ := hm
  have hgw := gws_in hm1
  have hroom : d' + 1 ≤ R.frames ∧ 8 + (nL' + 11) + 64 * d' ≤ R.locals := ⟨by have := hRm.1; omega, by have := hRm.2.1; omega⟩
  have hlen : (as.map (gv ad)).length = n := by rw [List.length_map]; exact hn
  have hrest : (((st.map (gv ad)).map fun v => v.category).sum) ≤ 8 := by
    rw [List.map_map, show ((fun v : Value => v.category) ∘ gv ad) = (fun v => v.category) from funext fun v => gv_cat ad v]
    exact hcat
  have hbd : ce + mc' ≤ R.cells ∧ so + ms' ≤ R.slots := ⟨Nat.le_trans hmc hRm.2.2.1, Nat.le_trans hms hRm.2.2.2⟩
  have hrecv : ∃ cellB : Cell, H[ad b]? = some cellB ∧ cellB.vm.isStatics = false ∧ s.vm.findClass C = some cellB.cls := by
    have he := gW_get (dA := Z.2.2.2.2.1) (ad := ad) (M := M) hTb
    rw [gE_obj hci] at he
    exact va_recv hK hR.1 hC he
  have hcb := callB_of (R := R) (rm := { frames := d', cells := mc', slots := ms', locals := 64 * d' }) (mc := mc') (ms := ms') n hts hgw rfl rfl rfl (hts _ hm2) (hts _ hlk) ⟨hm3.1, hm3.2, hm4⟩ hroom
  have hrun := vx_runV (e := e) (below := below) (meth := meth) (H := H) (locs := locs) (cells := ce) (slots := so) (b := ad b) (As := as.map (gv ad)) (rest := st.map (gv ad)) (g := F0 m pc la ((as.reverse ++ .ref b :: st).map (gv ad))) ⟨hx, hb, hml, hown, hts⟩ (hc l hst Z.2.2.2.1 Z.2.2.2.2.1 adV ad H.size) ⟨hcb, hts _ hin, hts _ hse⟩ ⟨gBlind, hrecv, fun U hU hW => ⟨rfl, gIn_of hR hH hA hK hE hU hW⟩⟩ rfl hlen hl.1 (by show (as.reverse ++ .ref b :: st).map (gv ad) = _; rw [List.map_append, List.map_reverse]; rfl) (lv_room (pc := pc) (ls := la) (rest := (as.reverse ++ .ref b :: st).map (gv ad)) (m := m) hrest) hd hbd
  have hf := gA_sub hR hH hA
  intro T9 hT X
  rcases hrun T9 hT X with ⟨v, st₀, t, T', L, h0, X', hL, e1, e2, hqa, hst⟩ | ⟨q, st₀, t, T', L, E, ce1, h0, X', hL, e1, e2, ⟨hxe, hxp, hxf⟩, hce, hcv, hcl, hsteps⟩
  · exact hqa.elim
  · obtain ⟨hz, hk⟩ := hxf
    rw [h0] at hz hk
    subst hxe
    obtain ⟨t2, a1, b1⟩ := kk T'.heap (locs ++ L) la q ce1 ⟨by rw [e1]; exact hxp, hR.2.1, ⟨Nat.le_trans hR.2.2.1.1 (by rw [e1]; exact hz), fun q h1 h2 => by rw [e1, hk q (Nat.lt_of_lt_of_le h1 hR.2.2.1.1) (fun z => h2 (hf _ z))]; exact hR.2.2.1.2.1 q h1 h2, fun q hq => by
      rcases List.mem_append.mp hq with h | h
      · exact hR.2.2.1.2.2 q h
      · exact hf _ (hL q h)⟩, hR.2.2.2.1, hR.2.2.2.2⟩ hl (by rw [e1]; exact hce) hcv hcl T' rfl X'
    exact ⟨t2, hsteps.trans a1, b1⟩
/-- .. and goes on to the caller -/
theorem g_callVX (hF : gFix Z cc own nm rt d mc ms Acc AccX) {b ci : Nat} {C : String} (hm : gMy y cc' nL' rt' n) (hlk : Cond.methodLink own idx y ∈ gWS) (hin : Cond.instanceMethod y ∈ gWS) (hse : Cond.selects C y y ∈ gWS) {TT : u_T} {N : Nat} (hC : vwCl[ci]? = some (C, TT, N)) (hci : ci < 10) {len9 : Nat} (hTb : T[b]? = some (ci, len9))
    (hc : gRetX d' y cc' nL' rt' mc' ms' (.ref b :: as) T M k) (hdd : d' + 1 ≤ d) (hmc : ce + mc' ≤ mc) (hms : so + ms' ≤ ms) (hn : as.length = n) (hst0 : st0 = as.reverse ++ .ref b :: st) (hcat : (st.map fun v => v.category).sum ≤ 8) (ha : AccX k ad T M) (hd : decode cc pc = .ok (.invokevirtual idx, 3)) : gG Z ad T M ce so pc ls st0 := by
  obtain ⟨p, l, e, R, s, m, args, below, meth, c, Q, adV, hBs⟩ := hF
  refine g_callX_run (ls := ls) hBs hm hlk hin hse hC hci hTb hc hdd hmc hms hn hst0 hcat hd ?_
  obtain ⟨hKq, hx, hb, hml, hown, hts, hK, hH, hA, hE, hRm, hnm, hlk9, hst, hrr1, hrr2, hrr3, hrr4, hrt, hrp⟩ := hBs
  intro H locs la q cell hR hl hq hv hcl
  exact hrp H locs (ce + mc') (so + ms') pc la (st.map (gv ad)) ad T M k q cell hR ha hq hv hcl hmc hms
end GXR
/-! METHODS WITH A TABLE OF HANDLERS -/
def gWsH (y : MethodName) (cc : ByteArray) (nL : Nat) (rt : Option FieldType) (hh : List (Nat × Nat × Nat × Nat)) : List Cond := Cond.codeWith y cc nL rt hh :: gWS
def gRetH (d : Nat) (y : MethodName) (cc : ByteArray) (nL : Nat) (rt : Option FieldType) (hh : List (Nat × Nat × Nat × Nat)) (mc ms : Nat) (av : List Value) (T : gT) (M : gM) (Acc : gAcc) : Prop := ∀ l : Launch, l.stackTraces = false →
  ∀ (D : va_G) (dA : Nat → ClassId) (adV ad0 : Nat → Nat) (sz : Nat), Met l y (gWsH y cc nL rt hh) { frames := d, cells := mc, slots := ms, locals := 64 * d } (va_Pc (av.map (gv ad0)) (gIn (gA ad0 T.length sz) D dA adV ad0 T M sz)) (gOut (gA ad0 T.length sz) D dA ad0 Acc) mc ms (gA ad0 T.length sz)
def gFixH (Z : gZ) (cc : ByteArray) (own nm : String) (rt : Option FieldType) (hh : List (Nat × Nat × Nat × Nat)) (d mc ms : Nat) (Acc : Option Value → (Nat → Nat) → gT → gM → Prop) (AccX : Nat → (Nat → Nat) → gT → gM → Prop) : Prop :=
  ∃ (p : Program) (l : Launch) (e : Env) (R : Room) (s : State) (m : MethodId) (args : Array Value) (below : List Frame) (meth : Method) (c : Code) (Q : State → Prop) (adV : Nat → Nat), gBase Z cc own nm rt d mc ms Acc AccX p l e R s m args below meth c Q adV ∧ c.exceptionTable.toList = tableOf hh
theorem gFixH.fix {Z : gZ} {cc : ByteArray} {own nm : String} {rt : Option FieldType} {hh : List (Nat × Nat × Nat × Nat)} {d mc ms : Nat} {Acc : Option Value → (Nat → Nat) → gT → gM → Prop} {AccX : Nat → (Nat → Nat) → gT → gM → Prop} (h : gFixH Z cc own nm rt hh d mc ms Acc AccX) : gFix Z cc own nm rt d mc ms Acc AccX := by
  obtain ⟨p, l, e, R, s, m, args, below, meth, c, Q, adV, hB, -⟩ := h
  exact ⟨p, l, e, R, s, m, args, below, meth, c, Q, adV, hB⟩
section GXH
variable {d : Nat} {y : MethodName} {cc : ByteArray} {nL : Nat} {rt : Option FieldType} {hh : List (Nat × Nat × Nat × Nat)} {mc ms : Nat} {av : List Value} {T : gT} {M : gM} {Acc : gAcc}
theorem gRetH_of {own : String} (hy : plainName y.cls = true) (hcls : y.cls = own) (hlen : (lg_sl av).length ≤ nL)
    (body : ∀ (Z : gZ) (ad0 : Nat → Nat), Z.2.2.2.2.2.1 = nL → Z.2.2.2.2.2.2 = ad0 → gFixH Z cc own y.name rt hh d mc ms (Acc ad0) (fun _ _ _ _ => False) → gG Z ad0 T M 0 0 0 (lv_args 0 av) []) : gRetH d y cc nL rt hh mc ms av T M Acc := by
  intro l hst D dA adV ad0 sz
  have hV : vx_Met l y (gWsH y cc nL rt hh) { frames := d, cells := mc, slots := ms, locals := 64 * d } (va_Pc (av.map (gv ad0)) (gIn (gA ad0 T.length sz) D dA adV ad0 T M sz)) (gOut (gA ad0 T.length sz) D dA ad0 Acc) (fun _ _ _ => False) mc ms (gA ad0 T.length sz) := by
    refine vx_ofWH (cc := cc) (maxL := nL) (ret := rt) (hh := hh) hy rfl ?_
    intro p e s m args below meth c s₁ B hml hv
    obtain ⟨rfl, hsz, hP, hD, hC, hK, hE⟩ := hv
    subst hsz
    have hts := atoms_spec (ws := gWsH y cc nL rt hh) B.pre
    have hown : s.vm.findClass own = some m.cls := by rw [← hcls]; exact findClass_of_methodNamed B.named
    have hnm : meth.name = y.name := (name_of_methodNamed B.named B.method).1
    have hr := B.returns
    have hlocks := B.notSynchronized
    have htab : c.exceptionTable.toList = tableOf hh := vx_table (x := y) B (hts _ List.mem_cons_self)
    generalize hZ : (((fun H locs ce so pc la st => W p l e ((headSpec (gWsH y cc nL rt hh) { frames := d, cells := mc, slots := ms, locals := 64 * d }).room) s m ((av.map (gv ad0)).toArray) below meth c H locs ce so (vx_MQ below (gOut (gA ad0 T.length s.heap.size) D dA ad0 Acc) (fun _ _ _ => False) ((av.map (gv ad0)).toArray) s mc ms (gA ad0 T.length s.heap.size)) (F0 m pc la st)), gA ad0 T.length s.heap.size, s.heap, D, dA, nL, ad0) : gZ) = Z
    have hb := body Z ad0 (by rw [← hZ]) (by rw [← hZ]) ⟨p, l, e, _, s, m, _, below, meth, c, _, adV, by
      subst hZ
      refine ⟨rfl, B.exec, B.bytes, hml, hown, fun w hw => hts w (List.mem_cons_of_mem _ hw), hK, rfl, fun q hq => Or.inr hq, hE, ⟨Nat.le_refl d, Nat.le_refl _, Nat.le_refl mc, Nat.le_refl ms⟩, hnm, hlocks, hst, ?_, ?_, ?_, ?_, fun _ _ _ _ _ _ _ _ _ _ _ _ _ _ _ _ _ h => h.elim, fun _ _ _ _ _ _ _ _ _ _ _ _ _ _ h => h.elim⟩
      · intro H locs ce so pc la ad T1 M1 x ty hR hrt hn hd ha h1 h2
        refine vx_ret (W.widen h1 h2 ?_)
        exact W.zret B.exec B.bytes (hr.trans hrt) hn (fun t ht hW => ⟨⟨some (.int x), ad, T1, M1, rfl, ha, by rw [ht]; exact hR.1, hR.2.1, hR.2.2.2.1, hR.2.2.2.2⟩, hR.2.2.1.F ht⟩) hR.2.2.1.2.2 hd hlocks
      · intro H locs ce so pc la ad T1 M1 x hR hrt hd ha h1 h2
        refine vx_ret (W.widen h1 h2 ?_)
        exact W.lret B.exec B.bytes (hr.trans hrt) (fun t ht hW => ⟨⟨some (.long x), ad, T1, M1, rfl, ha, by rw [ht]; exact hR.1, hR.2.1, hR.2.2.2.1, hR.2.2.2.2⟩, hR.2.2.1.F ht⟩) hR.2.2.1.2.2 hd hlocks
      · intro H locs ce so pc la ad T1 M1 a ty hR hrt hty hd ha h1 h2
        refine vx_ret (W.widen h1 h2 ?_)
        exact W.aret B.exec B.bytes (hr.trans hrt) hty (Or.inr ⟨_, rfl⟩) (fun t ht hW => ⟨⟨some (.ref a), ad, T1, M1, rfl, ha, by rw [ht]; exact hR.1, hR.2.1, hR.2.2.2.1, hR.2.2.2.2⟩, hR.2.2.1.F ht⟩) hR.2.2.1.2.2 hd hlocks
      · intro H locs ce so pc la ad T1 M1 hR hrt hd ha h1 h2
        refine vx_ret (W.widen h1 h2 ?_)
        exact W.vret B.exec B.bytes (hr.trans hrt) (fun t ht hW => ⟨⟨none, ad, T1, M1, rfl, ha, by rw [ht]; exact hR.1, hR.2.1, hR.2.2.2.1, hR.2.2.2.2⟩, hR.2.2.1.F ht⟩) hR.2.2.1.2.2 hd hlocks, htab⟩
    rw [lg_entry_eq]
    have hl := lv_entry (av.map (gv ad0)) (n := nL) (by rw [glg_len]; exact hlen)
    rw [gmp_args] at hl
    subst hZ
    exact hb s.heap [] _ ⟨hP, hD, va_S.rf, hC, fun _ _ => rfl⟩ hl
  refine MetFree.mono hV (fun _ _ h => h) (fun _ _ _ _ _ h => h) (fun a s' o t _ hq => ?_)
  rcases hq with h | ⟨q, -, E, ce, L, hxc, -⟩
  · exact h
  · exact hxc.elim
end GXH
section GXC
variable {Z : gZ} {cc : ByteArray} {own nm : String} {rt : Option FieldType} {hh : List (Nat × Nat × Nat × Nat)} {d mc ms : Nat} {Acc : Option Value → (Nat → Nat) → gT → gM → Prop} {AccX : Nat → (Nat → Nat) → gT → gM → Prop} {ad : Nat → Nat} {T : gT} {M : gM} {ce so pc : Nat} {ls ls' : List (Nat × Value)} {st st0 : List Value}
variable {y : MethodName} {cc' : ByteArray} {nL' n idx mc' ms' d' : Nat} {rt' : Option FieldType} {as : List Value} {k : Nat}
/-- a call that throws, caught by the row x of the table; the exception goes into the local i -/
theorem g_callVC (hF : gFixH Z cc own nm rt hh d mc ms Acc AccX) {b ci : Nat} {C : String} (hm : gMy y cc' nL' rt' n) (hlk : Cond.methodLink own idx y ∈ gWS) (hin : Cond.instanceMethod y ∈ gWS) (hse : Cond.selects C y y ∈ gWS) {TT : u_T} {N : Nat} (hC : vwCl[ci]? = some (C, TT, N)) (hci : ci < 10) {len9 : Nat} (hTb : T[b]? = some (ci, len9))
    (hc : gRetX d' y cc' nL' rt' mc' ms' (.ref b :: as) T M k) (hdd : d' + 1 ≤ d) (hmc : ce + mc' ≤ mc) (hms : so + ms' ≤ ms) (hn : as.length = n) (hst0 : st0 = as.reverse ++ .ref b :: st) (hcat : (st.map fun v => v.category).sum ≤ 8) (hd : decode cc pc = .ok (.invokevirtual idx, 3))
    (pre : List (Nat × Nat × Nat × Nat)) (x : Nat × Nat × Nat × Nat) (suf : List (Nat × Nat × Nat × Nat)) (hsplit : hh = pre ++ x :: suf) (hcov : x.1 ≤ pc ∧ pc < x.2.1) (hx0 : x.2.2.2 ≠ 0) (hpass : ∀ z ∈ pre, z.2.2.2 ≠ 0 ∧ ∃ nm' : String, Cond.classLink own z.2.2.2 nm' ∈ gWS ∧ (gExN k, nm') ∈ gNcs)
    (hlx : Cond.classLink own x.2.2.2 (gExN k) ∈ gWS) (hcast : Cond.castable (gExN k) (gExN k) ∈ gNw) {i pc2 : Nat} (hst : (∃ kf : Fin 4, decode cc x.2.2.1 = .ok (.astore_n kf, 1) ∧ (kf : Nat) = i ∧ pc2 = x.2.2.1 + 1) ∨ (decode cc x.2.2.1 = .ok (.astore i, 2) ∧ pc2 = x.2.2.1 + 2)) (hi : i < Z.2.2.2.2.2.1)
    (hls : ls.filter (fun q => !(q.1 == i) && !(q.1 + 1 == i && q.2.category == 2)) = ls') (kk : gG Z ad T M (ce + mc') (so + ms') pc2 ls' []) : gG Z ad T M ce so pc ls st0 := by
  obtain ⟨p, l, e, R, s, m, args, below, meth, c, Q, adV, hBs, htab⟩ := hF
  refine g_callX_run (ls := ls) hBs hm hlk hin hse hC hci hTb hc hdd hmc hms hn hst0 hcat hd ?_
  obtain ⟨hKq, hx, hb, hml, hown, hts, hK, hH, hA, hE, hRm, hnm, hlk9, hst9, -⟩ := hBs
  intro H locs la q cell hR hl hq hv hcl
  have kk := fun la hl => kk H locs la hR hl
  rw [hKq] at kk
  have drop : ∀ la', lv_has la' Z.2.2.2.2.2.1 ((i, Value.ref q) :: (gmp ad ls).filter (fun q => !(q.1 == i) && !(q.1 + 1 == i && q.2.category == 2))) → lv_has la' Z.2.2.2.2.2.1 (gmp ad ls') := fun la' h => by
    have e1 := gl_st1 (ad := ad) (v := .int 0) (i := i) (ls := ls) rfl
    have e2 : (gmp ad ls).filter (fun q => !(q.1 == i) && !(q.1 + 1 == i && q.2.category == 2)) = gmp ad ls' := by
      rw [← hls]
      exact (List.cons.inj e1).2
    rw [e2] at h
    exact ⟨h.1, h.2.1, fun z hz => h.2.2 z (List.mem_cons_of_mem _ hz)⟩
  refine vx_catch (own := own) (name := gExN k) (E := gExN k) hown (tableOf pre) ⟨x.1, x.2.1, x.2.2.1, x.2.2.2⟩ (tableOf suf) (by rw [htab, hsplit]; simp [tableOf]) (fun z hz => ?_) ?_ hx0 (hts _ hlx) (gNw_use hcast (hE.1 _ hcast)) hq hv hcl ?_
  · obtain ⟨z', hz', rfl⟩ := List.mem_map.mp hz
    obtain ⟨g1, nm', g2, g3⟩ := hpass z' hz'
    exact Or.inr ⟨g1, nm', hts _ g2, hE.2.2.2.2.2.2.2.2.1 _ g3⟩
  · simp only [covers]
    simp [hcov.1, hcov.2]
  · rcases hst with ⟨kf, h1, h2, h3⟩ | ⟨h1, h3⟩
    · subst h3
      exact lv_astore_n hx hb h1 h2 hl hi rfl (fun la hl => kk la (drop la hl))
    · subst h3
      exact lv_astore hx hb h1 hl hi rfl (fun la hl => kk la (drop la hl))
/-- a static call of a method with a table of handlers -/
theorem g_callSW (hF : gFix Z cc own nm rt d mc ms Acc AccX) {Acc' : gAcc} {hh' : List (Nat × Nat × Nat × Nat)} (hm1 : Cond.codeWith y cc' nL' rt' hh' ∈ gWS) (hm2 : Cond.initialized y.cls ∈ gWS) (hm3 : y.cls = own) (hm6 : y.cls ≠ "java/lang/invoke/MethodHandle" ∧ y.cls ≠ "java/lang/invoke/VarHandle") (hm4 : (parseMethodDescriptor y.desc).map (fun d => d.parameters.length) = some n) (hm5 : nL' ≤ 45) (hlk : Cond.methodLink own idx y ∈ gWS) (hsta : Cond.static y ∈ gWS)
    (hc : gRetH d' y cc' nL' rt' hh' mc' ms' as T M Acc') (hdd : d' + 1 ≤ d) (hmc : ce + mc' ≤ mc) (hms : so + ms' ≤ ms) (hn : as.length = n) (hst0 : st0 = as.reverse ++ st) (hcat : (st.map fun v => v.category).sum ≤ 8) (hd : decode cc pc = .ok (.invokestatic idx, 3))
    (k : ∀ (v : Option Value) (ad1 : Nat → Nat) (T1 : gT) (M1 : gM), Acc' ad v ad1 T1 M1 → (∀ a : Nat, gSB ≤ a → ad1 a = ad a) → ∀ H locs la, gRp Z ad1 T1 M1 H locs → lv_has la Z.2.2.2.2.2.1 (gmp ad ls) → Z.1 H locs (ce + mc') (so + ms') (pc + 3) la ((v.map (gv ad1)).toList ++ st.map (gv ad))) : gG Z ad T M ce so pc ls st0 := by
  obtain ⟨p, l, e, R, s, m, args, below, meth, c, Q, adV, hKq, hx, hb, hml, hown, hts, hK, hH, hA, hE, hRm, hnm, hlk9, hst, -⟩ := hF
  intro H locs la hR hl
  subst hst0
  have k := fun v ad1 T1 M1 ha had H1 locs1 hR1 => k v ad1 T1 M1 ha had H1 locs1 la hR1 hl
  rw [hKq] at k ⊢
  dsimp only at k ⊢
  have hroom : d' + 1 ≤ R.frames ∧ 8 + (nL' + 11) + 64 * d' ≤ R.locals := ⟨by have := hRm.1; omega, by have := hRm.2.1; omega⟩
  have hlen : (as.map (gv ad)).length = n := by rw [List.length_map]; exact hn
  have hrest : (((st.map (gv ad)).map fun v => v.category).sum) ≤ 8 := by
    rw [List.map_map, show ((fun v : Value => v.category) ∘ gv ad) = (fun v => v.category) from funext fun v => gv_cat ad v]
    exact hcat
  have hbd : ce + mc' ≤ R.cells ∧ so + ms' ≤ R.slots := ⟨Nat.le_trans hmc hRm.2.2.1, Nat.le_trans hms hRm.2.2.2⟩
  have hgood : ∀ w ∈ gWsH y cc' nL' rt' hh', w ∈ gWS := fun w hw => (List.mem_cons.mp hw).elim (fun e => e ▸ hm1) id
  have hpay : ∀ w ∈ gWsH y cc' nL' rt' hh', ∀ (a' : Array Value) (U : State), s.WarmedH U.vm → w.before a' U = true := fun w hw a' U hW => word_at hW (good_of_word (List.mem_filter.mp (hgood w hw)).2) (hts _ (hgood w hw))
  have hcw : vx_CSW R s args own idx y cc' nL' rt' hh' (gWsH y cc' nL' rt' hh') { frames := d', cells := mc', slots := ms', locals := 64 * d' } mc' ms' n := ⟨⟨rfl, rfl, hroom.1, hroom.2, hpay, List.mem_cons_self⟩, hts _ hm1, hts _ hm2, hm6, fun sig h => by rw [h] at hm4; exact (Option.some.inj hm4).symm, hts _ hlk, hts _ hsta⟩
  have hrun := vx_runSW (e := e) (below := below) (meth := meth) (H := H) (locs := locs) (cells := ce) (slots := so) (As := as.map (gv ad)) (rest := st.map (gv ad)) (g := F0 m pc la ((as.reverse ++ st).map (gv ad))) ⟨hx, hb, hml, hown, hts⟩ (hc l hst Z.2.2.2.1 Z.2.2.2.2.1 adV ad H.size) hcw ⟨gBlind, fun U hU hW => ⟨rfl, gIn_of hR hH hA hK hE hU hW⟩⟩ rfl hlen hl.1 (by show (as.reverse ++ st).map (gv ad) = _; rw [List.map_append, List.map_reverse]) (lv_room (pc := pc) (ls := la) (rest := (as.reverse ++ st).map (gv ad)) (m := m) hrest) hd hbd
  exact g_after hrun hR (gA_sub hR hH hA) (fun v ad1 T1 M1 H1 locs1 ha hR1 => k v ad1 T1 M1 ha (fun a q => (hR1.2.2.2.2 a q).trans (hR.2.2.2.2 a q).symm) H1 locs1 hR1)
end GXC
end
section
/-! STRING CONSTANTS, Math, arraycopy, and the JDK's small methods -/
def gSl (i : Nat) : Nat := (gStrs.getD i []).length
def gSc (i k : Nat) : Int32 := Int32.ofNat ((gStrs.getD i []).getD k 0)
section GJ
variable {Z : gZ} {cc : ByteArray} {own nm : String} {rt : Option FieldType} {d mc ms : Nat} {Acc : Option Value → (Nat → Nat) → gT → gM → Prop} {AccX : Nat → (Nat → Nat) → gT → gM → Prop} {ad : Nat → Nat} {T : gT} {M : gM} {ce so pc : Nat} {ls : List (Nat × Value)} {st : List Value}
theorem g_sval (hF : gFix Z cc own nm rt d mc ms Acc AccX) {i idx : Nat} (hi : i < 13) (hw : Cond.fieldLink own idx "java/lang/String" "value" "[B" ∈ gWS) (hd : decode cc pc = .ok (.getfield idx, 3))
    (k : gG Z ad T M ce so (pc + 3) ls (.ref (gSB + 1000 + i) :: st)) : gG Z ad T M ce so pc ls (.ref (gSB + i) :: st) := by
  obtain ⟨p, l, e, R, s, m, args, below, meth, c, Q, adV, hKq, hx, hb, hml, hown, hts, hK, hH, hA, hE, hRm, hnm, hlk9, hst9, -⟩ := hF
  intro H locs la hR hl
  have k := k H locs la hR hl
  rw [hKq] at k ⊢
  have hS9 := hR.2.2.1
  rw [hH] at hS9
  have e1 : gv ad (.ref (gSB + 1000 + i)) = .ref (adV i) := by
    show Value.ref (ad _) = _
    rw [hR.2.2.2.2 _ (by omega), hE.2.2.2.2.2.2.2.2.2.2.2 i hi]
  have e2 : gv ad (.ref (gSB + i)) = .ref (Z.2.2.2.2.2.2 (gSB + i)) := by
    show Value.ref (ad _) = _
    rw [hR.2.2.2.2 _ (by omega)]
  rw [List.map_cons, e1] at k
  rw [List.map_cons, e2]
  exact vk_getf hx hb (hE.2.2.1.1 i hi).2.2.1 hS9 hown (hts _ hw) (fun x hx => hx) hd k
theorem g_scod (hF : gFix Z cc own nm rt d mc ms Acc AccX) {i idx : Nat} (hi : i < 13) (hw : Cond.fieldLink own idx "java/lang/String" "coder" "B" ∈ gWS) (hd : decode cc pc = .ok (.getfield idx, 3))
    (k : gG Z ad T M ce so (pc + 3) ls (.int 0 :: st)) : gG Z ad T M ce so pc ls (.ref (gSB + i) :: st) := by
  obtain ⟨p, l, e, R, s, m, args, below, meth, c, Q, adV, hKq, hx, hb, hml, hown, hts, hK, hH, hA, hE, hRm, hnm, hlk9, hst9, -⟩ := hF
  intro H locs la hR hl
  have k := k H locs la hR hl
  rw [hKq] at k ⊢
  have hS9 := hR.2.2.1
  rw [hH] at hS9
  have e2 : gv ad (.ref (gSB + i)) = .ref (Z.2.2.2.2.2.2 (gSB + i)) := by
    show Value.ref (ad _) = _
    rw [hR.2.2.2.2 _ (by omega)]
  rw [List.map_cons, e2]
  exact vk_getf hx hb (hE.2.2.1.1 i hi).2.1 hS9 hown (hts _ hw) (fun x hx => hx) hd k
theorem g_sblen (hF : gFix Z cc own nm rt d mc ms Acc AccX) {i : Nat} (hi : i < 13) (hd : decode cc pc = .ok (.arraylength, 1))
    (k : gG Z ad T M ce so (pc + 1) ls (.int (Int32.ofNat (gSl i)) :: st)) : gG Z ad T M ce so pc ls (.ref (gSB + 1000 + i) :: st) := by
  obtain ⟨p, l, e, R, s, m, args, below, meth, c, Q, adV, hKq, hx, hb, hml, hown, hts, hK, hH, hA, hE, hRm, hnm, hlk9, hst9, -⟩ := hF
  intro H locs la hR hl
  have k := k H locs la hR hl
  rw [hKq] at k ⊢
  have hS9 := hR.2.2.1
  rw [hH] at hS9
  have e1 : gv ad (.ref (gSB + 1000 + i)) = .ref (adV i) := by
    show Value.ref (ad _) = _
    rw [hR.2.2.2.2 _ (by omega), hE.2.2.2.2.2.2.2.2.2.2.2 i hi]
  rw [List.map_cons, e1]
  exact va_tlen hx hb (hE.2.2.1.1 i hi).2.2.2 hS9 (by
    rw [gSl, List.getD_eq_getElem?_getD, List.getElem?_map, List.getD_eq_getElem?_getD]
    cases gStrs[i]? <;> rfl) hd k
theorem g_sbald (hF : gFix Z cc own nm rt d mc ms Acc AccX) {i : Nat} {x : Int32} (hi : i < 13) (hin : vp_in x (gSl i)) (hd : decode cc pc = .ok (.baload, 1))
    (k : gG Z ad T M ce so (pc + 1) ls (.int (gSc i x.toNatClampNeg) :: st)) : gG Z ad T M ce so pc ls (.int x :: .ref (gSB + 1000 + i) :: st) := by
  obtain ⟨p, l, e, R, s, m, args, below, meth, c, Q, adV, hKq, hx, hb, hml, hown, hts, hK, hH, hA, hE, hRm, hnm, hlk9, hst9, -⟩ := hF
  intro H locs la hR hl
  have k := k H locs la hR hl
  rw [hKq] at k ⊢
  have hS9 := hR.2.2.1
  rw [hH] at hS9
  have e1 : gv ad (.ref (gSB + 1000 + i)) = .ref (adV i) := by
    show Value.ref (ad _) = _
    rw [hR.2.2.2.2 _ (by omega), hE.2.2.2.2.2.2.2.2.2.2.2 i hi]
  rw [List.map_cons, List.map_cons, e1]
  have hlen : (gStrs.map List.length).getD i 0 = gSl i := by
    rw [gSl, List.getD_eq_getElem?_getD, List.getElem?_map, List.getD_eq_getElem?_getD]
    cases gStrs[i]? <;> rfl
  refine va_tb hx hb (hE.2.2.1.1 i hi).2.2.2 hS9 (by rw [hlen]; exact hin) (v := .int (gSc i x.toNatClampNeg)) ?_ hd k
  have hlt : x.toNatClampNeg < (gStrs.getD i []).length := Nat.not_le.mp fun q => hin (Or.inr q)
  show Value.int (((gStrs.map (fun l => l.map Int32.ofNat)).getD i []).getD x.toNatClampNeg 0) = Value.int (gSc i x.toNatClampNeg)
  congr 1
  rw [gSc]
  simp only [List.getD_eq_getElem?_getD, List.getElem?_map] at hlt ⊢
  cases hg : gStrs[i]? with
  | none => rw [hg] at hlt; exact absurd hlt (Nat.not_lt_zero _)
  | some l =>
    rw [hg] at hlt
    simp only [Option.map_some, Option.getD_some, List.getElem?_map] at hlt ⊢
    rw [List.getElem?_eq_getElem hlt]
    rfl
theorem g_compact (hF : gFix Z cc own nm rt d mc ms Acc AccX) {idx : Nat} (hw : Cond.fieldLink own idx "java/lang/String" "COMPACT_STRINGS" "Z" ∈ gWS) (hd : decode cc pc = .ok (.getstatic idx, 3))
    (k : gG Z ad T M ce so (pc + 3) ls (.int 1 :: st)) : gG Z ad T M ce so pc ls st := by
  obtain ⟨p, l, e, R, s, m, args, below, meth, c, Q, adV, hKq, hx, hb, hml, hown, hts, hK, hH, hA, hE, hRm, hnm, hlk9, hst9, -⟩ := hF
  intro H locs la hR hl
  have k := k H locs la hR hl
  rw [hKq] at k ⊢
  have hS9 := hR.2.2.1
  rw [hH] at hS9
  exact va_gets hx hb hE.2.2.2.2.2.2.2.2.2.1 hS9 hown (hts _ hw) (fun x hx => hx) hd k
theorem g_fmt (hF : gFix Z cc own nm rt d mc ms Acc AccX) {idx : Nat} (hw : Cond.fieldLink own idx "jdk/internal/util/Preconditions" "SIOOBE_FORMATTER" "Ljava/util/function/BiFunction;" ∈ gWS) (hd : decode cc pc = .ok (.getstatic idx, 3))
    (k : ∀ v : Value, v.category = 1 → gG Z ad T M ce so (pc + 3) ls (v :: st)) : gG Z ad T M ce so pc ls st := by
  obtain ⟨p, l, e, R, s, m, args, below, meth, c, Q, adV, hKq, hx, hb, hml, hown, hts, hK, hH, hA, hE, hRm, hnm, hlk9, hst9, -⟩ := hF
  intro H locs la hR hl
  have k := fun v hv => k v hv H locs la hR hl
  rw [hKq] at k ⊢
  have hS9 := hR.2.2.1
  rw [hH] at hS9
  rcases hE.2.2.2.2.2.2.2.2.2.2.1 with h | h
  · exact va_gets hx hb h hS9 hown (hts _ hw) (fun x hx => hx) hd (k .null rfl)
  · have k1 := k (.ref (gSB + 2000)) rfl
    have e1 : gv ad (.ref (gSB + 2000)) = .ref (Z.2.2.2.2.2.2 (gSB + 2000)) := by
      show Value.ref (ad _) = _
      rw [hR.2.2.2.2 _ (by omega)]
    rw [List.map_cons, e1] at k1
    exact va_gets hx hb h hS9 hown (hts _ hw) (fun x hx => hx) hd k1
theorem g_i2c (hF : gFix Z cc own nm rt d mc ms Acc AccX) {x v : Int32} (hv : (x.toUInt32 % 65536).toInt32 = v) (hd : decode cc pc = .ok (.i2c, 1))
    (k : gG Z ad T M ce so (pc + 1) ls (.int v :: st)) : gG Z ad T M ce so pc ls (.int x :: st) := by
  obtain ⟨p, l, e, R, s, m, args, below, meth, c, Q, adV, hKq, hx, hb, hml, hown, hts, hK, hH, hA, hE, hRm, hnm, hlk9, hst9, -⟩ := hF
  intro H locs la hR hl
  have k := k H locs la hR hl
  rw [hKq] at k ⊢
  exact lv_i2c hx hb hd hv k

theorem gm_max1 : Cond.static Lib.Math.max.name ∈ gWS := gws_of 537 (by decide +kernel) (by decide +kernel)
theorem gm_max3 : Cond.code Lib.Math.max.name Lib.Math.max.code 2 (some .int) ∈ gWS := gws_of 538 (by decide +kernel) (by decide +kernel)
theorem g_max (hF : gFix Z cc own nm rt d mc ms Acc AccX) {idx : Nat} {x y : Int32} (hw : Cond.methodLink own idx Lib.Math.max.name ∈ gWS) (hdd : 1 ≤ d) (h1 : ce ≤ mc) (h2 : so ≤ ms) (hcat : (st.map fun v => v.category).sum ≤ 8) (hd : decode cc pc = .ok (.invokestatic idx, 3))
    (k : gG Z ad T M ce so (pc + 3) ls (.int (if x < y then y else x) :: st)) : gG Z ad T M ce so pc ls (.int y :: .int x :: st) := by
  obtain ⟨p, l, e, R, s, m, args, below, meth, c, Q, adV, hKq, hx, hb, hml, hown, hts, hK, hH, hA, hE, hRm, hnm, hlk9, hst9, -⟩ := hF
  intro H locs la hR hl
  have k := k H locs la hR hl
  rw [hKq] at k ⊢
  exact va_mmax hx hb (hml.trans hl.1.symm) hown (hts _ hw) (hts _ gm_max1) (hts _ (gws_of 120 (by decide +kernel) (by decide +kernel))) (hts _ gm_max3) (by have := hRm.1; omega) (by
    have h9 : (((st.map (gv ad)).map fun v => v.category).sum) ≤ 8 := by
      rw [List.map_map, show ((fun v : Value => v.category) ∘ gv ad) = (fun v => v.category) from funext fun v => gv_cat ad v]
      exact hcat
    have := hRm.2.1
    omega) (Nat.le_trans h1 hRm.2.2.1) (Nat.le_trans h2 hRm.2.2.2) hd k

theorem gm_min1 : Cond.static Lib.Math.min.name ∈ gWS := gws_of 697 (by decide +kernel) (by decide +kernel)
theorem gm_min3 : Cond.code Lib.Math.min.name Lib.Math.min.code 2 (some .int) ∈ gWS := gws_of 698 (by decide +kernel) (by decide +kernel)
theorem g_min (hF : gFix Z cc own nm rt d mc ms Acc AccX) {idx : Nat} {x y : Int32} (hw : Cond.methodLink own idx Lib.Math.min.name ∈ gWS) (hdd : 1 ≤ d) (h1 : ce ≤ mc) (h2 : so ≤ ms) (hcat : (st.map fun v => v.category).sum ≤ 8) (hd : decode cc pc = .ok (.invokestatic idx, 3))
    (k : gG Z ad T M ce so (pc + 3) ls (.int (if y < x then y else x) :: st)) : gG Z ad T M ce so pc ls (.int y :: .int x :: st) := by
  obtain ⟨p, l, e, R, s, m, args, below, meth, c, Q, adV, hKq, hx, hb, hml, hown, hts, hK, hH, hA, hE, hRm, hnm, hlk9, hst9, -⟩ := hF
  intro H locs la hR hl
  have k := k H locs la hR hl
  rw [hKq] at k ⊢
  exact va_mmin hx hb (hml.trans hl.1.symm) hown (hts _ hw) (hts _ gm_min1) (hts _ (gws_of 120 (by decide +kernel) (by decide +kernel))) (hts _ gm_min3) (by have := hRm.1; omega) (by
    have h9 : (((st.map (gv ad)).map fun v => v.category).sum) ≤ 8 := by
      rw [List.map_map, show ((fun v : Value => v.category) ∘ gv ad) = (fun v => v.category) from funext fun v => gv_cat ad v]
      exact hcat
    have := hRm.2.1
    omega) (Nat.le_trans h1 hRm.2.2.1) (Nat.le_trans h2 hRm.2.2.2) hd k

theorem gm_maxl1 : Cond.static Lib.MathLoose.max_long.x ∈ gWS := gws_of 499 (by decide +kernel) (by decide +kernel)
theorem gm_maxl3 : Cond.code Lib.MathLoose.max_long.x Lib.MathLoose.max_long.code 4 (some .long) ∈ gWS := gws_of 500 (by decide +kernel) (by decide +kernel)
theorem g_maxl (hF : gFix Z cc own nm rt d mc ms Acc AccX) {idx : Nat} {x y : Int64} (hw : Cond.methodLink own idx Lib.MathLoose.max_long.x ∈ gWS) (hdd : 1 ≤ d) (h1 : ce ≤ mc) (h2 : so ≤ ms) (hcat : (st.map fun v => v.category).sum ≤ 8) (hd : decode cc pc = .ok (.invokestatic idx, 3))
    (k : gG Z ad T M ce so (pc + 3) ls (.long (if y < x then x else y) :: st)) : gG Z ad T M ce so pc ls (.long y :: .long x :: st) := by
  obtain ⟨p, l, e, R, s, m, args, below, meth, c, Q, adV, hKq, hx, hb, hml, hown, hts, hK, hH, hA, hE, hRm, hnm, hlk9, hst9, -⟩ := hF
  intro H locs la hR hl
  have k := k H locs la hR hl
  rw [hKq] at k ⊢
  exact va_mmax_long hx hb (hml.trans hl.1.symm) hown (hts _ hw) (hts _ gm_maxl1) (hts _ (gws_of 120 (by decide +kernel) (by decide +kernel))) (hts _ gm_maxl3) (by have := hRm.1; omega) (by
    have h9 : (((st.map (gv ad)).map fun v => v.category).sum) ≤ 8 := by
      rw [List.map_map, show ((fun v : Value => v.category) ∘ gv ad) = (fun v => v.category) from funext fun v => gv_cat ad v]
      exact hcat
    have := hRm.2.1
    omega) (Nat.le_trans h1 hRm.2.2.1) (Nat.le_trans h2 hRm.2.2.2) hd k

theorem gm_minl1 : Cond.static Lib.MathLoose.min_long.x ∈ gWS := gws_of 496 (by decide +kernel) (by decide +kernel)
theorem gm_minl3 : Cond.code Lib.MathLoose.min_long.x Lib.MathLoose.min_long.code 4 (some .long) ∈ gWS := gws_of 497 (by decide +kernel) (by decide +kernel)
theorem g_minl (hF : gFix Z cc own nm rt d mc ms Acc AccX) {idx : Nat} {x y : Int64} (hw : Cond.methodLink own idx Lib.MathLoose.min_long.x ∈ gWS) (hdd : 1 ≤ d) (h1 : ce ≤ mc) (h2 : so ≤ ms) (hcat : (st.map fun v => v.category).sum ≤ 8) (hd : decode cc pc = .ok (.invokestatic idx, 3))
    (k : gG Z ad T M ce so (pc + 3) ls (.long (if y < x then y else x) :: st)) : gG Z ad T M ce so pc ls (.long y :: .long x :: st) := by
  obtain ⟨p, l, e, R, s, m, args, below, meth, c, Q, adV, hKq, hx, hb, hml, hown, hts, hK, hH, hA, hE, hRm, hnm, hlk9, hst9, -⟩ := hF
  intro H locs la hR hl
  have k := k H locs la hR hl
  rw [hKq] at k ⊢
  exact va_mmin_long hx hb (hml.trans hl.1.symm) hown (hts _ hw) (hts _ gm_minl1) (hts _ (gws_of 120 (by decide +kernel) (by decide +kernel))) (hts _ gm_minl3) (by have := hRm.1; omega) (by
    have h9 : (((st.map (gv ad)).map fun v => v.category).sum) ≤ 8 := by
      rw [List.map_map, show ((fun v : Value => v.category) ∘ gv ad) = (fun v => v.category) from funext fun v => gv_cat ad v]
      exact hcat
    have := hRm.2.1
    omega) (Nat.le_trans h1 hRm.2.2.1) (Nat.le_trans h2 hRm.2.2.2) hd k

theorem gm_ac1 : Cond.static arraycopyName ∈ gWS := gws_of 452 (by decide +kernel) (by decide +kernel)
theorem gm_ac2 : Cond.native arraycopyName ∈ gWS := gws_of 453 (by decide +kernel) (by decide +kernel)
theorem gm_ac3 : Cond.initialized "java/lang/System" ∈ gWS := gws_of 121 (by decide +kernel) (by decide +kernel)
theorem gm_ac4 : nativeFrameWords "java/lang/System" "arraycopy" 5 = 7 := by decide +kernel
theorem g_copy_i (hF : gFix Z cc own nm rt d mc ms Acc AccX) {idx a b n0 n1 : Nat} {sp dp n : Int32} (hw : Cond.methodLink own idx arraycopyName ∈ gWS) (hb0 : T[b]? = some (11, n0)) (ha0 : T[a]? = some (11, n1)) (h1 : ¬ sp < 0) (h2 : ¬ dp < 0) (h3 : ¬ n < 0) (h4 : sp.toNatClampNeg + n.toNatClampNeg ≤ n0) (h5 : dp.toNatClampNeg + n.toNatClampNeg ≤ n1) (hdd : 1 ≤ d) (hcat : (st.map fun v => v.category).sum ≤ 8) (hd : decode cc pc = .ok (.invokestatic idx, 3))
    (k : gG Z ad T (cpi M b sp.toNatClampNeg a dp.toNatClampNeg n.toNatClampNeg) ce so (pc + 3) ls st) : gG Z ad T M ce so pc ls (.int n :: .int dp :: .ref a :: .int sp :: .ref b :: st) := by
  obtain ⟨p, l, e, R, s, m, args, below, meth, c, Q, adV, hKq, hx, hb, hml, hown, hts, hK, hH, hA, hE, hRm, hnm, hlk9, hst9, -⟩ := hF
  intro H locs la hR hl
  have k := fun H1 locs1 hR1 => k H1 locs1 la hR1 hl
  rw [hKq] at k ⊢
  have hea := gW_get (dA := Z.2.2.2.2.1) (ad := ad) (M := M) ha0
  have heb := gW_get (dA := Z.2.2.2.2.1) (ad := ad) (M := M) hb0
  rw [gE_i] at hea heb
  have hset := gW_set (dA := Z.2.2.2.2.1) (ad := ad) (M := M) (M' := cpi M b sp.toNatClampNeg a dp.toNatClampNeg n.toNatClampNeg) (e := .inl (Z.2.2.2.2.1 11, n1, .inl (va_cpy (fun j => gi M b j) (fun j => gi M a j) sp.toNatClampNeg dp.toNatClampNeg n.toNatClampNeg))) ha0 (by
    rw [gE_i]
    congr 4
    funext j
    simp only [gi_cpi, true_and, va_cpy]) gE_cpi
  exact va_copyi (ty := .int) hx hb (hml.trans hl.1.symm) hown (hts _ hw) (hts _ gm_ac2) (hts _ gm_ac1) (hts _ gm_ac3) hK hR.1 hR.2.1 hR.2.2.1 b a 1 1 heb hea rfl rfl rfl h1 h2 h3 h4 h5 (fun _ _ => rfl) (by have := hRm.1; omega) (by
    have h9 : (((st.map (gv ad)).map fun v => v.category).sum) ≤ 8 := by
      rw [List.map_map, show ((fun v : Value => v.category) ∘ gv ad) = (fun v => v.category) from funext fun v => gv_cat ad v]
      exact hcat
    have := hRm.2.1
    rw [gm_ac4]; omega) hd (fun H1 locs1 hP hD hS => k H1 locs1 ⟨by rw [← hset]; exact hP, by rw [← hset]; exact hD, hS, gCl_cpi hR.2.2.2.1, hR.2.2.2.2⟩)

theorem g_copy_b (hF : gFix Z cc own nm rt d mc ms Acc AccX) {idx a b n0 n1 : Nat} {sp dp n : Int32} (hw : Cond.methodLink own idx arraycopyName ∈ gWS) (hb0 : T[b]? = some (10, n0)) (ha0 : T[a]? = some (10, n1)) (h1 : ¬ sp < 0) (h2 : ¬ dp < 0) (h3 : ¬ n < 0) (h4 : sp.toNatClampNeg + n.toNatClampNeg ≤ n0) (h5 : dp.toNatClampNeg + n.toNatClampNeg ≤ n1) (hfit : ∀ j, j < n.toNatClampNeg → fits .byte (.int (gi M b (sp.toNatClampNeg + j))) = true) (hdd : 1 ≤ d) (hcat : (st.map fun v => v.category).sum ≤ 8) (hd : decode cc pc = .ok (.invokestatic idx, 3))
    (k : gG Z ad T (cpi M b sp.toNatClampNeg a dp.toNatClampNeg n.toNatClampNeg) ce so (pc + 3) ls st) : gG Z ad T M ce so pc ls (.int n :: .int dp :: .ref a :: .int sp :: .ref b :: st) := by
  obtain ⟨p, l, e, R, s, m, args, below, meth, c, Q, adV, hKq, hx, hb, hml, hown, hts, hK, hH, hA, hE, hRm, hnm, hlk9, hst9, -⟩ := hF
  intro H locs la hR hl
  have k := fun H1 locs1 hR1 => k H1 locs1 la hR1 hl
  rw [hKq] at k ⊢
  have hea := gW_get (dA := Z.2.2.2.2.1) (ad := ad) (M := M) ha0
  have heb := gW_get (dA := Z.2.2.2.2.1) (ad := ad) (M := M) hb0
  rw [gE_b] at hea heb
  have hset := gW_set (dA := Z.2.2.2.2.1) (ad := ad) (M := M) (M' := cpi M b sp.toNatClampNeg a dp.toNatClampNeg n.toNatClampNeg) (e := .inl (Z.2.2.2.2.1 10, n1, .inl (va_cpy (fun j => gi M b j) (fun j => gi M a j) sp.toNatClampNeg dp.toNatClampNeg n.toNatClampNeg))) ha0 (by
    rw [gE_b]
    congr 4
    funext j
    simp only [gi_cpi, true_and, va_cpy]) gE_cpi
  exact va_copyi (ty := .byte) hx hb (hml.trans hl.1.symm) hown (hts _ hw) (hts _ gm_ac2) (hts _ gm_ac1) (hts _ gm_ac3) hK hR.1 hR.2.1 hR.2.2.1 b a 0 0 heb hea rfl rfl rfl h1 h2 h3 h4 h5 (fun j hj => hfit j hj) (by have := hRm.1; omega) (by
    have h9 : (((st.map (gv ad)).map fun v => v.category).sum) ≤ 8 := by
      rw [List.map_map, show ((fun v : Value => v.category) ∘ gv ad) = (fun v => v.category) from funext fun v => gv_cat ad v]
      exact hcat
    have := hRm.2.1
    rw [gm_ac4]; omega) hd (fun H1 locs1 hP hD hS => k H1 locs1 ⟨by rw [← hset]; exact hP, by rw [← hset]; exact hD, hS, gCl_cpi hR.2.2.2.1, hR.2.2.2.2⟩)

end GJ
theorem my_J0_length : gMy yJ0_length_8abf5 cJ0_length_8abf5 1 (some .int) 0 := ⟨(gws_of 736 (by decide +kernel) (by decide +kernel)), (gws_of 122 (by decide +kernel) (by decide +kernel)), by decide +kernel, by decide +kernel, by decide⟩
theorem my_J0_coder : gMy yJ0_coder_7d493 cJ0_coder_7d493 1 (some .byte) 0 := ⟨(gws_of 740 (by decide +kernel) (by decide +kernel)), (gws_of 122 (by decide +kernel) (by decide +kernel)), by decide +kernel, by decide +kernel, by decide⟩
theorem my_J0_charAt : gMy yJ0_charAt_5068e cJ0_charAt_5068e 2 (some .char) 1 := ⟨(gws_of 746 (by decide +kernel) (by decide +kernel)), (gws_of 122 (by decide +kernel) (by decide +kernel)), by decide +kernel, by decide +kernel, by decide⟩
theorem my_J0_isLatin1 : gMy yJ0_isLatin1_aae02 cJ0_isLatin1_aae02 1 (some .boolean) 0 := ⟨(gws_of 750 (by decide +kernel) (by decide +kernel)), (gws_of 122 (by decide +kernel) (by decide +kernel)), by decide +kernel, by decide +kernel, by decide⟩
theorem my_J1_charAt : gMy yJ1_charAt_3b067 cJ1_charAt_3b067 2 (some .char) 2 := ⟨(gws_of 753 (by decide +kernel) (by decide +kernel)), (gws_of 123 (by decide +kernel) (by decide +kernel)), by decide +kernel, by decide +kernel, by decide⟩
theorem my_J0_checkIndex : gMy yJ0_checkIndex_df160 cJ0_checkIndex_df160 2 none 2 := ⟨(gws_of 756 (by decide +kernel) (by decide +kernel)), (gws_of 122 (by decide +kernel) (by decide +kernel)), by decide +kernel, by decide +kernel, by decide⟩
theorem my_J3_checkIndex : gMy yJ3_checkIndex_8e157 cJ3_checkIndex_8e157 3 (some .int) 3 := ⟨(gws_of 761 (by decide +kernel) (by decide +kernel)), (gws_of 124 (by decide +kernel) (by decide +kernel)), by decide +kernel, by decide +kernel, by decide⟩
theorem c_J0_coder {T : gT} {M : gM} {i d : Nat} (hi : i < 13) (hd : 1 ≤ d) : gRet d yJ0_coder_7d493 cJ0_coder_7d493 1 (some .byte) 0 0 [.ref (gSB + i)] T M (gSame T (some (.int 0)) M) := by
  refine gRet_of (own := RJ0) (by decide) rfl (Nat.le_of_ble_eq_true rfl) (fun Z ad0 hn h0 hF => ?_)
  refine g_compact hF (gws_of 741 (by decide +kernel) (by decide +kernel)) dJ0_coder_7d493_0 ?_
  refine g_if_eq (tgt := 13) hF dJ0_coder_7d493_3 (by decide) (fun q => absurd q (by decide)) (fun _ => ?_)
  refine g_aload_n hF 0 rfl rfl dJ0_coder_7d493_6 ?_
  refine g_scod hF hi (gws_of 1500 (by decide +kernel) (by decide +kernel)) dJ0_coder_7d493_7 ?_
  refine g_goto (tgt := 14) hF dJ0_coder_7d493_10 (by decide) ?_
  exact g_ret_i hF rfl rfl dJ0_coder_7d493_14 ⟨rfl, rfl, rfl, rfl⟩ (Nat.le_refl _) (Nat.le_refl _)
theorem c_J0_isLatin1 {T : gT} {M : gM} {i d : Nat} (hi : i < 13) (hd : 1 ≤ d) : gRet d yJ0_isLatin1_aae02 cJ0_isLatin1_aae02 1 (some .boolean) 0 0 [.ref (gSB + i)] T M (gSame T (some (.int 1)) M) := by
  refine gRet_of (own := RJ0) (by decide) rfl (Nat.le_of_ble_eq_true rfl) (fun Z ad0 hn h0 hF => ?_)
  refine g_compact hF (gws_of 741 (by decide +kernel) (by decide +kernel)) dJ0_isLatin1_aae02_0 ?_
  refine g_if_eq (tgt := 17) hF dJ0_isLatin1_aae02_3 (by decide) (fun q => absurd q (by decide)) (fun _ => ?_)
  refine g_aload_n hF 0 rfl rfl dJ0_isLatin1_aae02_6 ?_
  refine g_scod hF hi (gws_of 1500 (by decide +kernel) (by decide +kernel)) dJ0_isLatin1_aae02_7 ?_
  refine g_if_ne (tgt := 17) hF dJ0_isLatin1_aae02_10 (by decide) (fun q => absurd rfl q) (fun _ => ?_)
  refine g_iconst (v := 1) hF rfl dJ0_isLatin1_aae02_13 ?_
  refine g_goto (tgt := 18) hF dJ0_isLatin1_aae02_14 (by decide) ?_
  exact g_ret_i hF rfl rfl dJ0_isLatin1_aae02_18 ⟨rfl, rfl, rfl, rfl⟩ (Nat.le_refl _) (Nat.le_refl _)
theorem c_J0_length {T : gT} {M : gM} {i d : Nat} (hi : i < 13) (hd : 2 ≤ d) : gRet d yJ0_length_8abf5 cJ0_length_8abf5 1 (some .int) 0 0 [.ref (gSB + i)] T M (gSame T (some (.int (Int32.ofNat (gSl i)))) M) := by
  refine gRet_of (own := RJ0) (by decide) rfl (Nat.le_of_ble_eq_true rfl) (fun Z ad0 hn h0 hF => ?_)
  refine g_aload_n hF 0 rfl rfl dJ0_length_8abf5_0 ?_
  refine g_sval hF hi (gws_of 1499 (by decide +kernel) (by decide +kernel)) dJ0_length_8abf5_1 ?_
  refine g_sblen hF hi dJ0_length_8abf5_4 ?_
  refine g_aload_n hF 0 rfl rfl dJ0_length_8abf5_5 ?_
  refine g_callVSt (as := []) (st := [.int (Int32.ofNat (gSl i))]) hF my_J0_coder (gws_of 737 (by decide +kernel) (by decide +kernel)) (gws_of 738 (by decide +kernel) (by decide +kernel)) (gws_of 739 (by decide +kernel) (by decide +kernel)) hi rfl (c_J0_coder (d := 1) hi (Nat.le_refl _)) hd (Nat.le_refl _) (Nat.le_refl _) rfl rfl (Nat.le_of_ble_eq_true rfl) dJ0_length_8abf5_6 (g_same ?_)
  refine g_ishr hF dJ0_length_8abf5_9 ?_
  refine g_ret_i hF rfl rfl dJ0_length_8abf5_10 ⟨?_, rfl, rfl, rfl⟩ (Nat.le_refl _) (Nat.le_refl _)
  congr 2
  show Int32.ofNat (gSl i) >>> ((0 : Int32) &&& 31) = Int32.ofNat (gSl i)
  rw [show ((0 : Int32) &&& 31) = 0 by decide, Int32.shiftRight_zero]
theorem c_J3_checkIndex {T : gT} {M : gM} {i n : Int32} {v : Value} {d : Nat} (hv : v.category = 1) (h0 : 0 ≤ i) (h1 : i < n) : gRet d yJ3_checkIndex_8e157 cJ3_checkIndex_8e157 3 (some .int) 0 0 [.int i, .int n, v] T M (gSame T (some (.int i)) M) := by
  refine gRet_of (own := RJ3) (by decide) rfl (by cases v <;> first | (simp [Value.category] at hv; done) | exact Nat.le_of_ble_eq_true rfl) (fun Z ad0 hn h9 hF => ?_)
  refine g_iload_n hF 0 rfl rfl dJ3_checkIndex_8e157_0 ?_
  refine g_if_lt (tgt := 9) hF dJ3_checkIndex_8e157_1 (by decide) (fun q => absurd h0 (Int32.not_le.mpr q)) (fun _ => ?_)
  refine g_iload_n hF 0 rfl rfl dJ3_checkIndex_8e157_4 ?_
  refine g_iload_n hF 1 rfl rfl dJ3_checkIndex_8e157_5 ?_
  refine g_icmp_lt (tgt := 16) hF dJ3_checkIndex_8e157_6 (by decide) (fun _ => ?_) (fun q => absurd h1 q)
  refine g_iload_n hF 0 rfl rfl dJ3_checkIndex_8e157_16 ?_
  exact g_ret_i hF rfl rfl dJ3_checkIndex_8e157_17 ⟨rfl, rfl, rfl, rfl⟩ (Nat.le_refl _) (Nat.le_refl _)
theorem c_J0_checkIndex {T : gT} {M : gM} {i n : Int32} {d : Nat} (hd : 1 ≤ d) (h0 : 0 ≤ i) (h1 : i < n) : gRet d yJ0_checkIndex_df160 cJ0_checkIndex_df160 2 none 0 0 [.int i, .int n] T M (gSame T none M) := by
  refine gRet_of (own := RJ0) (by decide) rfl (Nat.le_of_ble_eq_true rfl) (fun Z ad0 hn h9 hF => ?_)
  refine g_iload_n hF 0 rfl rfl dJ0_checkIndex_df160_0 ?_
  refine g_iload_n hF 1 rfl rfl dJ0_checkIndex_df160_1 ?_
  refine g_fmt hF (gws_of 757 (by decide +kernel) (by decide +kernel)) dJ0_checkIndex_df160_2 (fun v hv => ?_)
  refine g_callS (as := [.int i, .int n, v]) (st := []) hF my_J3_checkIndex (gws_of 759 (by decide +kernel) (by decide +kernel)) (gws_of 760 (by decide +kernel) (by decide +kernel)) (c_J3_checkIndex (d := 0) hv h0 h1) hd (Nat.le_refl _) (Nat.le_refl _) rfl rfl (Nat.le_of_ble_eq_true rfl) dJ0_checkIndex_df160_5 (g_same ?_)
  refine g_pop hF rfl dJ0_checkIndex_df160_8 ?_
  exact g_ret_v hF rfl dJ0_checkIndex_df160_9 ⟨rfl, rfl, rfl, rfl⟩ (Nat.le_refl _) (Nat.le_refl _)
theorem gSc_ok : ∀ i, i < 13 → ∀ k, k < gSl i → (((gSc i k &&& (Int16.ofInt 255).toInt32).toUInt32 % 65536).toInt32 = gSc i k) ∧ narrow .char (.int (gSc i k)) = .int (gSc i k) := by decide +kernel
theorem gSl_sm : ∀ i, i < 13 → gSl i < 10 := by decide +kernel
theorem gSc_in {i k : Nat} (hi : i < 13) (hk : k < gSl i) : vp_in (nI k) (gSl i) ∧ (nI k).toNatClampNeg = k ∧ 0 ≤ nI k ∧ nI k < Int32.ofNat (gSl i) := by
  have := gSl_sm i hi
  exact ⟨vp_in_nI hk (by omega), nI_clamp (by omega), nI_pos' (by omega), nI_lt (by omega) (by omega)⟩
theorem c_J1_charAt {T : gT} {M : gM} {i k d : Nat} (hi : i < 13) (hk : k < gSl i) (hd : 2 ≤ d) : gRet d yJ1_charAt_3b067 cJ1_charAt_3b067 2 (some .char) 0 0 [.ref (gSB + 1000 + i), .int (nI k)] T M (gSame T (some (.int (gSc i k))) M) := by
  obtain ⟨g1, g2, g3, g4⟩ := gSc_in hi hk
  obtain ⟨q1, q2⟩ := gSc_ok i hi k hk
  refine gRet_of (own := RJ1) (by decide) rfl (Nat.le_of_ble_eq_true rfl) (fun Z ad0 hn h9 hF => ?_)
  refine g_iload_n hF 1 rfl rfl dJ1_charAt_3b067_0 ?_
  refine g_aload_n hF 0 rfl rfl dJ1_charAt_3b067_1 ?_
  refine g_sblen hF hi dJ1_charAt_3b067_2 ?_
  refine g_callS (as := [.int (nI k), .int (Int32.ofNat (gSl i))]) (st := []) hF my_J0_checkIndex (gws_of 754 (by decide +kernel) (by decide +kernel)) (gws_of 755 (by decide +kernel) (by decide +kernel)) (c_J0_checkIndex (d := 1) (Nat.le_refl _) g3 g4) hd (Nat.le_refl _) (Nat.le_refl _) rfl rfl (Nat.le_of_ble_eq_true rfl) dJ1_charAt_3b067_3 (g_same ?_)
  refine g_aload_n hF 0 rfl rfl dJ1_charAt_3b067_6 ?_
  refine g_iload_n hF 1 rfl rfl dJ1_charAt_3b067_7 ?_
  refine g_sbald hF hi g1 dJ1_charAt_3b067_8 ?_
  rw [g2]
  refine g_sipush hF rfl dJ1_charAt_3b067_9 ?_
  refine g_iand hF dJ1_charAt_3b067_12 ?_
  refine g_i2c hF q1 dJ1_charAt_3b067_13 ?_
  exact g_ret_i hF rfl q2 dJ1_charAt_3b067_14 ⟨rfl, rfl, rfl, rfl⟩ (Nat.le_refl _) (Nat.le_refl _)
theorem c_J0_charAt {T : gT} {M : gM} {i k d : Nat} (hi : i < 13) (hk : k < gSl i) (hd : 3 ≤ d) : gRet d yJ0_charAt_5068e cJ0_charAt_5068e 2 (some .char) 0 0 [.ref (gSB + i), .int (nI k)] T M (gSame T (some (.int (gSc i k))) M) := by
  obtain ⟨q1, q2⟩ := gSc_ok i hi k hk
  refine gRet_of (own := RJ0) (by decide) rfl (Nat.le_of_ble_eq_true rfl) (fun Z ad0 hn h9 hF => ?_)
  refine g_aload_n hF 0 rfl rfl dJ0_charAt_5068e_0 ?_
  refine g_callVSt (as := []) (st := []) hF my_J0_isLatin1 (gws_of 747 (by decide +kernel) (by decide +kernel)) (gws_of 748 (by decide +kernel) (by decide +kernel)) (gws_of 749 (by decide +kernel) (by decide +kernel)) hi rfl (c_J0_isLatin1 (d := 2) hi (by omega)) hd (Nat.le_refl _) (Nat.le_refl _) rfl rfl (Nat.le_of_ble_eq_true rfl) dJ0_charAt_5068e_1 (g_same ?_)
  refine g_if_eq (tgt := 16) hF dJ0_charAt_5068e_4 (by decide) (fun q => absurd q (by decide)) (fun _ => ?_)
  refine g_aload_n hF 0 rfl rfl dJ0_charAt_5068e_7 ?_
  refine g_sval hF hi (gws_of 1499 (by decide +kernel) (by decide +kernel)) dJ0_charAt_5068e_8 ?_
  refine g_iload_n hF 1 rfl rfl dJ0_charAt_5068e_11 ?_
  refine g_callS (as := [.ref (gSB + 1000 + i), .int (nI k)]) (st := []) hF my_J1_charAt (gws_of 751 (by decide +kernel) (by decide +kernel)) (gws_of 752 (by decide +kernel) (by decide +kernel)) (c_J1_charAt (d := 2) hi hk (Nat.le_refl _)) hd (Nat.le_refl _) (Nat.le_refl _) rfl rfl (Nat.le_of_ble_eq_true rfl) dJ0_charAt_5068e_12 (g_same ?_)
  exact g_ret_i hF rfl q2 dJ0_charAt_5068e_15 ⟨rfl, rfl, rfl, rfl⟩ (Nat.le_refl _) (Nat.le_refl _)
end
section
/-- the class of the arrays of arrays of ty is there -/
def va_AOA (ty : FieldType) (U : State) : Prop := (Cond.arrayOver (.array ty)).before #[] U = true
theorem va_AOA.use {ty : FieldType} {A : Array Value} {U : State} (h : va_AOA ty U) : (Cond.arrayOver (.array ty)).before A U = true := h
/-! ===== BEGIN new T[n][m]: the outer array a place, the inner ones among the pooled ===== -/
/-- f, but v at every address of l -/
def vr_up {α : Type} (f : Nat → α) (l : List Nat) (v : α) : Nat → α := fun a => if a ∈ l then v else f a
theorem vr_up_in {α : Type} {f : Nat → α} {l : List Nat} {v : α} {a : Nat} (h : a ∈ l) : vr_up f l v a = v := if_pos h
theorem vr_up_ne {α : Type} {f : Nat → α} {l : List Nat} {v : α} {a : Nat} (h : a ∉ l) : vr_up f l v a = f a := if_neg h
theorem vr_rows {L l : List Nat} {f : Nat → va_E} {e : va_E} (h : ∀ a, a ∈ l → a ∉ L) : va_pl L f ++ l.map (fun a => (a, e)) = va_pl (L ++ l) (vr_up f l e) := by
  unfold va_pl
  rw [List.map_append]
  congr 1
  · apply List.map_congr_left
    intro a ha
    rw [vr_up_ne (fun q => h a q ha)]
  · apply List.map_congr_left
    intro a ha
    rw [vr_up_in ha]
theorem vr_lay {X rows : va_W} {x : Nat × va_E} {pl : va_W} {D : va_G} {cl : List vw_C} {H : Heap} (hP : va_P D cl (((X ++ pl) ++ [x]) ++ rows) H) : va_P D cl ((X ++ [x]) ++ (pl ++ rows)) H := by
  rw [List.append_assoc (X ++ pl)] at hP
  have h := va_P.swap hP
  rw [← List.append_assoc X] at h
  have h2 := va_P.swap h
  rw [List.append_assoc (X ++ [x])] at h2
  exact h2
theorem vr_layD {X rows : va_W} {x : Nat × va_E} {pl : va_W} {A : Nat → Prop} (hD : va_D A (((X ++ pl) ++ [x]) ++ rows)) : va_D A ((X ++ [x]) ++ (pl ++ rows)) := by
  rw [List.append_assoc (X ++ pl)] at hD
  have h := va_D.swap hD
  rw [← List.append_assoc X] at h
  have h2 := va_D.swap h
  rw [List.append_assoc (X ++ [x])] at h2
  exact h2
theorem vr_outer (c : ClassId) (N h0 : Nat) : ∀ i : Nat, Jvm.Free.Multi.outerC c N h0 i = arrV c N (fun j => va_rf (if j < i then some (h0 + 1 + j) else none))
  | 0 => by
    show ({ cls := c, slots := Array.replicate N .null, vm := .none } : Cell) = _
    rw [arrV_new]
    refine congrArg (arrV c N) (funext fun j => ?_)
    simp [va_rf]
  | i + 1 => by
    show (Jvm.Free.Multi.outerC c N h0 i).setSlot i (.ref (h0 + 1 + i)) = _
    rw [vr_outer c N h0 i, arrV_store]
    refine congrArg (arrV c N) (funext fun j => ?_)
    by_cases e : j = i
    · subst e
      simp [updV, va_rf]
    · by_cases h : j < i
      · simp [updV, e, h, Nat.lt_succ_of_lt h]
      · simp [updV, e, h, show ¬ j < i + 1 by omega]
section VGM
variable {p : Program} {l : Launch} {e : Env} {R : Room} {s : State} {m : MethodId} {args : Array Value} {below : List Frame} {meth : Method} {c : Code} {H : Heap} {locs : List Loc} {cells slots : Nat} {Q : State → Prop}
variable {cc : ByteArray} {pc : Nat} {ls : Array Slot} {rest : List Value} {D : va_G} {cl : List vw_C} {A : Nat → Prop} {a : Nat} {tys : List (ClassId × FieldType)} {ws : va_W} {H0 : Heap}
theorem va_mna {X : va_W} {L : List Nat} {f : Nat → va_E} {cc : ByteArray} (hexec : p.tables.exec = Jvm.exec) (hb : c.code = cc) {own : String} {index : Nat} {ty : FieldType} {cy : ClassId} (hown : s.vm.findClass own = some m.cls) (hclink : (Cond.classLink own index ("[" ++ (FieldType.array ty).toString)).before args s = true) (hover : va_AOA ty s) (harr : (Cond.arrayClass ty).before args s = true) (hcy : s.vm.findClass (FieldType.array ty).toString = some cy)
    (hK : va_K D cl tys s) (hP : va_P D cl (X ++ va_pl L f) H) (hD : va_D A (X ++ va_pl L f)) (hS : va_S A H0 H locs) (hA : ∀ q, H0.size ≤ q → A q) {n k : Int32} {N' K' : Nat} {z : vp_A} (hn : ¬ n < 0) (hk : ¬ k < 0) (hN : n.toNatClampNeg = N') (hM : k.toNatClampNeg = K')
    (hb1 : N' * 4 ≤ 536870912) (hb2 : K' * componentBytes ty ≤ 536870912) (hb3 : K' ≤ 536870912) (hdf : fits ty (defaultValue ty) = true) (hdd : (defaultValue ty).isDefault = true) (hcells : cells + (1 + N') ≤ R.cells) (hslots : slots + (N' + N' * K') ≤ R.slots) (hz : ∀ c : ClassId, Jvm.Free.Multi.innerC c K' (defaultValue ty) = vp_cell c z) (hdg : decode cc pc = .ok (.multianewarray index 2, 4))
    (kk : ∀ (q : Nat) (r : Nat → Nat) (cA : ClassId) (H1 : Heap), (∀ i j : Nat, i < N' → j < N' → r i = r j → i = j) → (∀ i : Nat, i < N' → r i ∉ L) → va_K D cl (tys ++ [(cA, .array ty)]) s →
      va_P D cl ((X ++ [(q, .inl (cA, N', .inr (.inr (.inr (.inr (fun i => if i < N' then some (r i) else none))))))]) ++ va_pl (L ++ (List.range N').map r) (vr_up f ((List.range N').map r) (.inl (cy, z)))) H1 → va_D A ((X ++ [(q, .inl (cA, N', .inr (.inr (.inr (.inr (fun i => if i < N' then some (r i) else none))))))]) ++ va_pl (L ++ (List.range N').map r) (vr_up f ((List.range N').map r) (.inl (cy, z)))) → va_S A H0 H1 locs →
      W p l e R s m args below meth c H1 locs (cells + 1 + N') (slots + N' + N' * K') Q (F0 m (pc + 4) ls (.ref q :: rest))) : W p l e R s m args below meth c H locs cells slots Q (F0 m pc ls (.int k :: .int n :: rest)) := by
  subst hN
  subst hM
  intro T hT Xs
  obtain ⟨vm₁, cA, comp, -, fA, fC, hO, -, X', step⟩ := Xs.multianewarray2F hexec hown hclink (va_AOA.use hover) harr (g := F0 m pc ls (.int k :: .int n :: rest)) rfl (by rw [hb]; exact hdg) rfl hn hk hb1 hb2 hb3 hdf hdd hcells hslots
  have ec : some cy = some comp := hcy.symm.trans fC
  cases ec
  generalize hF : Jvm.Free.Multi.fill (T.setVm vm₁) cA cy n.toNatClampNeg k.toNatClampNeg (defaultValue ty) n.toNatClampNeg = F at X' step
  have hTh : (T.setVm vm₁).heap = H := hT
  obtain ⟨f1, f2, -, -⟩ := Jvm.Free.Multi.fill_facts (T.setVm vm₁) cA cy n.toNatClampNeg k.toNatClampNeg (defaultValue ty) n.toNatClampNeg
  rw [hF, hTh] at f1 f2
  have hold : ∀ x : Nat, x < H.size → F.heap[x]? = H[x]? := fun x hx => by
    have := Jvm.Free.Multi.fill_old (T.setVm vm₁) cA cy n.toNatClampNeg k.toNatClampNeg (defaultValue ty) (a := x) (by rw [hTh]; exact hx) n.toNatClampNeg
    rw [hF, hTh] at this
    exact this
  have hrow : ∀ j : Nat, j < n.toNatClampNeg → F.heap[H.size + 1 + j]? = some (vp_cell cy z) := fun j hj => by
    have := Jvm.Free.Multi.fill_inner (T.setVm vm₁) cA cy n.toNatClampNeg k.toNatClampNeg (defaultValue ty) n.toNatClampNeg j hj
    rw [hF, hTh, hz] at this
    exact this
  have hout : Jvm.Free.Multi.outerC cA n.toNatClampNeg H.size n.toNatClampNeg = vp_cell cA (n.toNatClampNeg, .inr (.inr (.inr (.inr (fun i => if i < n.toNatClampNeg then some (H.size + 1 + i) else none))))) := by
    rw [vp_cell_q]
    exact vr_outer cA n.toNatClampNeg H.size n.toNatClampNeg
  rw [hout] at f2
  have hlt : ∀ a, a ∈ L → a < H.size := fun a ha => by
    obtain ⟨k9, hk9⟩ := va_pl_get (X := X) (f := f) ha
    exact (hP k9 _ hk9).lt
  have hnl : ∀ i : Nat, i < n.toNatClampNeg → H.size + 1 + i ∉ L := fun i _ h => by
    have := hlt _ h
    omega
  have hnm : ∀ a, a ∈ (List.range n.toNatClampNeg).map (fun i => H.size + 1 + i) → a ∉ L := fun a ha h => by
    obtain ⟨i, -, rfl⟩ := List.mem_map.mp ha
    have := hlt _ h
    omega
  have hP0 : va_P D cl (X ++ va_pl L f) F.heap := hP.kept (fun k9 x hx => hold x.1 ((hP k9 x hx).lt))
  have hP1 : va_P D cl ((X ++ va_pl L f) ++ [(H.size, .inl (cA, n.toNatClampNeg, .inr (.inr (.inr (.inr (fun i => if i < n.toNatClampNeg then some (H.size + 1 + i) else none))))))]) F.heap := hP0.app (fun k9 x hx => by
    have h0 : k9 < 1 := (List.getElem?_eq_some_iff.mp hx).1
    rw [show k9 = 0 by omega] at hx
    cases hx
    exact f2)
  have hP2 : va_P D cl (((X ++ va_pl L f) ++ [(H.size, .inl (cA, n.toNatClampNeg, .inr (.inr (.inr (.inr (fun i => if i < n.toNatClampNeg then some (H.size + 1 + i) else none))))))]) ++ ((List.range n.toNatClampNeg).map (fun i => H.size + 1 + i)).map (fun a => (a, .inl (cy, z)))) F.heap := hP1.app (fun k9 x hx => by
    obtain ⟨a, ha, rfl⟩ := List.mem_map.mp (List.mem_of_getElem? hx)
    obtain ⟨i, hi, rfl⟩ := List.mem_map.mp ha
    exact hrow i (List.mem_range.mp hi))
  have hD2 : va_D A (((X ++ va_pl L f) ++ [(H.size, .inl (cA, n.toNatClampNeg, .inr (.inr (.inr (.inr (fun i => if i < n.toNatClampNeg then some (H.size + 1 + i) else none))))))]) ++ ((List.range n.toNatClampNeg).map (fun i => H.size + 1 + i)).map (fun a => (a, .inl (cy, z)))) := by
    have hD1 := hD.push (e := .inl (cA, n.toNatClampNeg, .inr (.inr (.inr (.inr (fun i => if i < n.toNatClampNeg then some (H.size + 1 + i) else none)))))) hP rfl (hA _ hS.1)
    generalize hW1 : (X ++ va_pl L f) ++ [(H.size, .inl (cA, n.toNatClampNeg, .inr (.inr (.inr (.inr (fun i => if i < n.toNatClampNeg then some (H.size + 1 + i) else none))))))] = W1 at hD1 hP1 ⊢
    have hle : ∀ (k9 : Nat) (x : Nat × va_E), W1[k9]? = some x → x.1 ≤ H.size := fun k9 x hx => by
      rw [← hW1] at hx
      by_cases hl : k9 < (X ++ va_pl L f).length
      · rw [List.getElem?_append_left hl] at hx
        exact Nat.le_of_lt ((hP k9 x hx).lt)
      · rw [List.getElem?_append_right (by omega)] at hx
        have h0 : k9 - (X ++ va_pl L f).length < 1 := (List.getElem?_eq_some_iff.mp hx).1
        rw [show k9 - (X ++ va_pl L f).length = 0 by omega] at hx
        cases hx
        exact Nat.le_refl _
    have hr : ∀ (k9 : Nat) (x : Nat × va_E), (((List.range n.toNatClampNeg).map (fun i => H.size + 1 + i)).map (fun a => ((a, .inl (cy, z)) : Nat × va_E)))[k9]? = some x → x.1 = H.size + 1 + k9 := fun k9 x hx => by
      rw [List.getElem?_map, List.getElem?_map] at hx
      by_cases h9 : k9 < n.toNatClampNeg
      · rw [List.getElem?_range h9] at hx
        cases hx
        rfl
      · have hn0 : (List.range n.toNatClampNeg)[k9]? = none := List.getElem?_eq_none (by rw [List.length_range]; omega)
        rw [hn0] at hx
        cases hx
    refine ⟨fun i j x y hi hj hxy => ?_, fun k9 x hx => ?_⟩
    · by_cases h1 : i < W1.length <;> by_cases h2 : j < W1.length
      · rw [List.getElem?_append_left h1] at hi
        rw [List.getElem?_append_left h2] at hj
        exact hD1.1 i j x y hi hj hxy
      · rw [List.getElem?_append_left h1] at hi
        rw [List.getElem?_append_right (by omega)] at hj
        have := hle _ _ hi
        have := hr _ _ hj
        omega
      · rw [List.getElem?_append_right (by omega)] at hi
        rw [List.getElem?_append_left h2] at hj
        have := hle _ _ hj
        have := hr _ _ hi
        omega
      · rw [List.getElem?_append_right (by omega)] at hi hj
        have := hr _ _ hi
        have := hr _ _ hj
        omega
    · by_cases h1 : k9 < W1.length
      · rw [List.getElem?_append_left h1] at hx
        exact hD1.2 k9 x hx
      · rw [List.getElem?_append_right (by omega)] at hx
        have := hr _ _ hx
        exact hA _ (by have := hS.1; omega)
  have hAr : ArrOfT s cA (.array ty) := fun N9 z9 => by
    obtain ⟨-, k9, hk9, cm9, hkk9⟩ := (hO 0 0 0).1
    exact ⟨(fun q hq => by cases hq), k9, hk9, cm9, hkk9⟩
  have hK2 : va_K D cl (tys ++ [(cA, .array ty)]) s := ⟨hK.1, fun k9 x hx => by
    by_cases hl : k9 < tys.length
    · rw [List.getElem?_append_left hl] at hx
      exact hK.2 k9 x hx
    · rw [List.getElem?_append_right (by omega)] at hx
      have h0 : k9 - tys.length < 1 := (List.getElem?_eq_some_iff.mp hx).1
      rw [show k9 - tys.length = 0 by omega] at hx
      cases hx
      exact ⟨hAr, fA⟩⟩
  obtain ⟨t, a1, b1⟩ := kk H.size (fun i => H.size + 1 + i) cA F.heap (fun i j _ _ h => by have h9 : H.size + 1 + i = H.size + 1 + j := h; omega) hnl hK2 (by rw [← vr_rows hnm]; exact vr_lay hP2) (by rw [← vr_rows hnm]; exact vr_layD hD2) ⟨by rw [f1]; have := hS.1; omega, fun x h1 h2 => (hold x (Nat.lt_of_lt_of_le h1 hS.1)).trans (hS.2.1 x h1 h2), hS.2.2⟩ F rfl X'
  refine ⟨t, step t ?_, b1⟩
  have e : T.heap.size = H.size := by rw [hT]
  rw [e]
  exact a1
end VGM
/-! ===== END ===== -/
end
section
/-! OPERATIONS of the functions that are read off the bytecode: none where the machine would throw by itself -/
def gFU : Nat := 3000
def alen (T : gT) (a : Nat) : Nat := (T.getD a (0, 0)).2
theorem alen_of {T : gT} {a kd n : Nat} (h : T[a]? = some (kd, n)) : alen T a = n := by
  unfold alen
  rw [List.getD_eq_getElem?_getD, h]
  rfl
def ald (T : gT) (M : gM) (a : Nat) (i : Int32) : Option Int32 := if i < 0 ∨ alen T a ≤ i.toNatClampNeg then none else some (gi M a i.toNatClampNeg)
def aldl (T : gT) (M : gM) (a : Nat) (i : Int32) : Option Int64 := if i < 0 ∨ alen T a ≤ i.toNatClampNeg then none else some (gl M a i.toNatClampNeg)
def ast (T : gT) (M : gM) (a : Nat) (i x : Int32) : Option gM := if i < 0 ∨ alen T a ≤ i.toNatClampNeg then none else some (si M a i.toNatClampNeg x)
def astl (T : gT) (M : gM) (a : Nat) (i : Int32) (x : Int64) : Option gM := if i < 0 ∨ alen T a ≤ i.toNatClampNeg then none else some (sl M a i.toNatClampNeg x)
def astr (T : gT) (M : gM) (a : Nat) (i : Int32) (b : Nat) : Option gM := if i < 0 ∨ alen T a ≤ i.toNatClampNeg then none else some (sr M a i.toNatClampNeg (some b))
def ldr (T : gT) (M : gM) (a k kd : Nat) : Option Nat := match gr M a k with
  | some b => if (T[b]?).map Prod.fst = some kd then some b else none
  | none => none
def aldr (T : gT) (M : gM) (a : Nat) (i : Int32) (kd : Nat) : Option Nat := if i < 0 ∨ alen T a ≤ i.toNatClampNeg then none else ldr T M a i.toNatClampNeg kd
def chk (c : Prop) [Decidable c] : Option Unit := if c then some () else none
def slen (i : Nat) : Option Int32 := if i < 13 then some (Int32.ofNat (gSl i)) else none
def sch (i : Nat) (k : Int32) : Option Int32 := if i < 13 ∧ 0 ≤ k ∧ k.toNatClampNeg < gSl i then some (gSc i k.toNatClampNeg) else none
def acp (T : gT) (M : gM) (b : Nat) (sp : Int32) (a : Nat) (dp n : Int32) : Option gM := if sp < 0 ∨ dp < 0 ∨ n < 0 ∨ alen T b < sp.toNatClampNeg + n.toNatClampNeg ∨ alen T a < dp.toNatClampNeg + n.toNatClampNeg then none else some (cpi M b sp.toNatClampNeg a dp.toNatClampNeg n.toNatClampNeg)
def acpb (T : gT) (M : gM) (b : Nat) (sp : Int32) (a : Nat) (dp n : Int32) : Option gM := if sp < 0 ∨ dp < 0 ∨ n < 0 ∨ alen T b < sp.toNatClampNeg + n.toNatClampNeg ∨ alen T a < dp.toNatClampNeg + n.toNatClampNeg ∨ ¬ (∀ j, j < n.toNatClampNeg → fits .byte (.int (gi M b (sp.toNatClampNeg + j))) = true) then none else some (cpi M b sp.toNatClampNeg a dp.toNatClampNeg n.toNatClampNeg)
def gnewa (T : gT) (M : gM) (kd : Nat) (n : Int32) (bd : Nat) : Option (Nat × gT × gM) := if n < 0 ∨ bd < n.toNatClampNeg then none else gnew T M (kd, n.toNatClampNeg)
abbrev imax (x y : Int32) : Int32 := if x < y then y else x
abbrev imin (x y : Int32) : Int32 := if y < x then y else x
abbrev lmax (x y : Int64) : Int64 := if y < x then x else y
abbrev lmin (x y : Int64) : Int64 := if y < x then y else x
abbrev irem (x y : Int32) : Int32 := x - x / y * y
theorem gbnd {α β : Type} {o : Option α} {f : α → Option β} {b : β} (h : o.bind f = some b) : ∃ a, o = some a ∧ f a = some b := Option.bind_eq_some_iff.mp h
theorem gif_t {α : Type} {c : Prop} {d : Decidable c} {a b : α} {r : α} (hc : c) (h : (if c then a else b) = r) : a = r := by rw [if_pos hc] at h; exact h
theorem gif_f {α : Type} {c : Prop} {d : Decidable c} {a b : α} {r : α} (hc : ¬ c) (h : (if c then a else b) = r) : b = r := by rw [if_neg hc] at h; exact h
theorem gif_n {α : Type} {c : Prop} {d : Decidable (¬ c)} {a b : α} {r : α} (hc : c) (h : (if ¬ c then a else b) = r) : b = r := by rw [if_neg (fun q => q hc)] at h; exact h
section GOPS
variable {T : gT} {M M' : gM} {a b kd n : Nat} {i x : Int32}
theorem ald_sp {v : Int32} (hT : T[a]? = some (kd, n)) (h : ald T M a i = some v) : vp_in i n ∧ v = gi M a i.toNatClampNeg := by
  unfold ald at h
  rw [alen_of hT] at h
  split at h
  · cases h
  · exact ⟨by assumption, (Option.some.inj h).symm⟩
theorem aldl_sp {v : Int64} (hT : T[a]? = some (kd, n)) (h : aldl T M a i = some v) : vp_in i n ∧ v = gl M a i.toNatClampNeg := by
  unfold aldl at h
  rw [alen_of hT] at h
  split at h
  · cases h
  · exact ⟨by assumption, (Option.some.inj h).symm⟩
theorem ast_sp (hT : T[a]? = some (kd, n)) (h : ast T M a i x = some M') : vp_in i n ∧ M' = si M a i.toNatClampNeg x := by
  unfold ast at h
  rw [alen_of hT] at h
  split at h
  · cases h
  · exact ⟨by assumption, (Option.some.inj h).symm⟩
theorem astl_sp {y : Int64} (hT : T[a]? = some (kd, n)) (h : astl T M a i y = some M') : vp_in i n ∧ M' = sl M a i.toNatClampNeg y := by
  unfold astl at h
  rw [alen_of hT] at h
  split at h
  · cases h
  · exact ⟨by assumption, (Option.some.inj h).symm⟩
theorem astr_sp (hT : T[a]? = some (kd, n)) (h : astr T M a i b = some M') : vp_in i n ∧ M' = sr M a i.toNatClampNeg (some b) := by
  unfold astr at h
  rw [alen_of hT] at h
  split at h
  · cases h
  · exact ⟨by assumption, (Option.some.inj h).symm⟩
theorem ldr_sp {k c : Nat} (h : ldr T M a k kd = some c) : gr M a k = some c ∧ ∃ len, T[c]? = some (kd, len) := by
  unfold ldr at h
  cases hg : gr M a k with
  | none => rw [hg] at h; cases h
  | some b =>
    rw [hg] at h
    dsimp only at h
    split at h
    next q =>
      cases h
      refine ⟨rfl, ?_⟩
      cases ht : T[c]? with
      | none => rw [ht] at q; cases q
      | some y =>
        rw [ht] at q
        have q1 : y.1 = kd := Option.some.inj q
        exact ⟨y.2, by rw [← q1]⟩
    next => cases h
theorem aldr_sp {k c : Nat} (hT : T[a]? = some (kd, n)) (h : aldr T M a i k = some c) : vp_in i n ∧ gr M a i.toNatClampNeg = some c ∧ ∃ len, T[c]? = some (k, len) := by
  unfold aldr at h
  rw [alen_of hT] at h
  split at h
  · cases h
  · exact ⟨by assumption, ldr_sp h⟩
theorem chk_sp {c : Prop} {d : Decidable c} {u : Unit} (h : @chk c d = some u) : c := by
  unfold chk at h
  split at h
  · assumption
  · cases h
theorem slen_sp {s : Nat} {v : Int32} (h : slen s = some v) : s < 13 ∧ v = Int32.ofNat (gSl s) := by
  unfold slen at h
  split at h
  · exact ⟨by assumption, (Option.some.inj h).symm⟩
  · cases h
theorem sch_sp {s : Nat} {v k : Int32} (h : sch s k = some v) : s < 13 ∧ k.toNatClampNeg < gSl s ∧ k = nI k.toNatClampNeg ∧ v = gSc s k.toNatClampNeg := by
  unfold sch at h
  split at h
  next q =>
    refine ⟨q.1, q.2.2, ?_, (Option.some.inj h).symm⟩
    have h0 : (0 : Int) ≤ k.toInt := by simpa using Int32.le_iff_toInt_le.mp q.2.1
    apply Int32.toInt_inj.mp
    have hk : k.toNatClampNeg < 10 := Nat.lt_trans q.2.2 (gSl_sm s q.1)
    rw [nI_toInt (by omega)]
    show k.toInt = ((k.toInt.toNat : Nat) : Int)
    omega
  next => cases h
theorem acp_sp {sp dp m : Int32} {k1 n1 : Nat} (hb : T[b]? = some (kd, n)) (ha : T[a]? = some (k1, n1)) (h : acp T M b sp a dp m = some M') : ¬ sp < 0 ∧ ¬ dp < 0 ∧ ¬ m < 0 ∧ sp.toNatClampNeg + m.toNatClampNeg ≤ n ∧ dp.toNatClampNeg + m.toNatClampNeg ≤ n1 ∧ M' = cpi M b sp.toNatClampNeg a dp.toNatClampNeg m.toNatClampNeg := by
  unfold acp at h
  rw [alen_of hb, alen_of ha] at h
  split at h
  · cases h
  next q => exact ⟨fun z => q (Or.inl z), fun z => q (Or.inr (Or.inl z)), fun z => q (Or.inr (Or.inr (Or.inl z))), Nat.not_lt.mp fun z => q (Or.inr (Or.inr (Or.inr (Or.inl z)))), Nat.not_lt.mp fun z => q (Or.inr (Or.inr (Or.inr (Or.inr z)))), (Option.some.inj h).symm⟩
theorem acpb_sp {sp dp m : Int32} {k1 n1 : Nat} (hb : T[b]? = some (kd, n)) (ha : T[a]? = some (k1, n1)) (h : acpb T M b sp a dp m = some M') : ¬ sp < 0 ∧ ¬ dp < 0 ∧ ¬ m < 0 ∧ sp.toNatClampNeg + m.toNatClampNeg ≤ n ∧ dp.toNatClampNeg + m.toNatClampNeg ≤ n1 ∧ (∀ j, j < m.toNatClampNeg → fits .byte (.int (gi M b (sp.toNatClampNeg + j))) = true) ∧ M' = cpi M b sp.toNatClampNeg a dp.toNatClampNeg m.toNatClampNeg := by
  unfold acpb at h
  rw [alen_of hb, alen_of ha] at h
  split at h
  · cases h
  next q => exact ⟨fun z => q (Or.inl z), fun z => q (Or.inr (Or.inl z)), fun z => q (Or.inr (Or.inr (Or.inl z))), Nat.not_lt.mp fun z => q (Or.inr (Or.inr (Or.inr (Or.inl z)))), Nat.not_lt.mp fun z => q (Or.inr (Or.inr (Or.inr (Or.inr (Or.inl z))))), Classical.byContradiction fun z => q (Or.inr (Or.inr (Or.inr (Or.inr (Or.inr z))))), (Option.some.inj h).symm⟩
theorem gnewa_sp {bd : Nat} {x : Nat × gT × gM} (h : gnewa T M kd i bd = some x) : ¬ i < 0 ∧ i.toNatClampNeg ≤ bd ∧ gnew T M (kd, i.toNatClampNeg) = some (x.1, x.2.1, x.2.2) := by
  unfold gnewa at h
  split at h
  · cases h
  next q => exact ⟨fun z => q (Or.inl z), Nat.not_lt.mp fun z => q (Or.inr z), h⟩
end GOPS
/-- a loop: B's left answers leave it, its right ones go round -/
def gloop {α β : Type} (B : α → Option (β ⊕ α)) : Nat → α → Option β
  | 0, _ => none
  | n + 1, a => match B a with
    | none => none
    | some (.inl e) => some e
    | some (.inr a') => gloop B n a'
theorem gloop_ind {α β : Type} {B : α → Option (β ⊕ α)} {P : α → Prop} {e : β} (step : ∀ a y, B a = some y → (∀ e', y = .inl e' → e' = e) → (∀ a', y = .inr a' → P a') → P a) : ∀ n a, gloop B n a = some e → P a
  | 0, a, h => by cases h
  | n + 1, a, h => by
    unfold gloop at h
    cases hB : B a with
    | none => rw [hB] at h; cases h
    | some y =>
      rw [hB] at h
      refine step a y hB (fun e' q => ?_) (fun a' q => ?_)
      · subst q
        exact Option.some.inj h
      · subst q
        exact gloop_ind step n a' h
/-- an answer of one of two kinds -/
def gcase {α β δ : Type} (e : α ⊕ β) (f : α → Option δ) (g : β → Option δ) : Option δ := match e with
  | .inl a => f a
  | .inr b => g b
theorem gcase_l {α β δ : Type} {a : α} {f : α → Option δ} {g : β → Option δ} {r : Option δ} (h : gcase (.inl a) f g = r) : f a = r := h
theorem gcase_r {α β δ : Type} {b : β} {f : α → Option δ} {g : β → Option δ} {r : Option δ} (h : gcase (.inr b) f g = r) : g b = r := h
theorem gsw_ne {x c : Int32} {z : Int} (h : ¬ x = c) (hc : c.toInt = z) : x.toInt ≠ z := fun q => h (Int32.toInt_inj.mp (by rw [hc]; exact q))
theorem gbool {x : Int32} (h : x = 0 ∨ x = 1) : narrow .boolean (.int x) = .int x := by rcases h with rfl | rfl <;> rfl
theorem gboolf {x : Int32} (h : x = 0 ∨ x = 1) : fits .boolean (.int x) = true := by rcases h with rfl | rfl <;> rfl
end
