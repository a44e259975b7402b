section
-- ===== PART A: goes FIRST, ahead of the names: the tables' words, and 'selects' of the private methods out of them =====
/-- a private method of a class that the tables say can be made, by its rows of tables_1 -/
def lw_okq (q : MethodName × Nat) : Prop := (q.1.cls ≠ "java/lang/invoke/MethodHandle" ∧ q.1.cls ≠ "java/lang/invoke/VarHandle") ∧ Cond.instantiable q.1.cls q.2 ∈ tables_1 ∧ Cond.privateMethod q.1 ∈ tables_1 ∧ Cond.instanceMethod q.1 ∈ tables_1
theorem lw_p0 : lw_okq (⟨"LinkElection", "putBytes", "(I)V"⟩, 9) := ⟨⟨by decide +kernel, by decide +kernel⟩, List.mem_of_getElem? (i := 25) (by decide +kernel), List.mem_of_getElem? (i := 311) (by decide +kernel), List.mem_of_getElem? (i := 312) (by decide +kernel)⟩
theorem lw_p1 : lw_okq (⟨"LinkElection$History", "bringBack", "(LLinkElection$Data;)Z"⟩, 3) := ⟨⟨by decide +kernel, by decide +kernel⟩, List.mem_of_getElem? (i := 259) (by decide +kernel), List.mem_of_getElem? (i := 335) (by decide +kernel), List.mem_of_getElem? (i := 336) (by decide +kernel)⟩
theorem lw_p2 : lw_okq (⟨"LinkElection$Data", "copyFrom", "(LLinkElection$Data;)V"⟩, 5) := ⟨⟨by decide +kernel, by decide +kernel⟩, List.mem_of_getElem? (i := 75) (by decide +kernel), List.mem_of_getElem? (i := 339) (by decide +kernel), List.mem_of_getElem? (i := 340) (by decide +kernel)⟩
theorem lw_p3 : lw_okq (⟨"LinkElection$Library", "copyFrom", "(LLinkElection$Library;)V"⟩, 6) := ⟨⟨by decide +kernel, by decide +kernel⟩, List.mem_of_getElem? (i := 96) (by decide +kernel), List.mem_of_getElem? (i := 343) (by decide +kernel), List.mem_of_getElem? (i := 344) (by decide +kernel)⟩
theorem lw_p4 : lw_okq (⟨"LinkElection$Election", "count", "(LLinkElection$Data;)V"⟩, 7) := ⟨⟨by decide +kernel, by decide +kernel⟩, List.mem_of_getElem? (i := 205) (by decide +kernel), List.mem_of_getElem? (i := 350) (by decide +kernel), List.mem_of_getElem? (i := 351) (by decide +kernel)⟩
theorem lw_p5 : lw_okq (⟨"LinkElection$Library", "isLoaded", "()Z"⟩, 6) := ⟨⟨by decide +kernel, by decide +kernel⟩, List.mem_of_getElem? (i := 96) (by decide +kernel), List.mem_of_getElem? (i := 354) (by decide +kernel), List.mem_of_getElem? (i := 355) (by decide +kernel)⟩
theorem lw_p6 : lw_okq (⟨"LinkElection$Data", "weightOf", "(I)I"⟩, 5) := ⟨⟨by decide +kernel, by decide +kernel⟩, List.mem_of_getElem? (i := 75) (by decide +kernel), List.mem_of_getElem? (i := 358) (by decide +kernel), List.mem_of_getElem? (i := 359) (by decide +kernel)⟩
theorem lw_p7 : lw_okq (⟨"LinkElection$Library", "countOffers", "()I"⟩, 6) := ⟨⟨by decide +kernel, by decide +kernel⟩, List.mem_of_getElem? (i := 96) (by decide +kernel), List.mem_of_getElem? (i := 362) (by decide +kernel), List.mem_of_getElem? (i := 363) (by decide +kernel)⟩
theorem lw_p8 : lw_okq (⟨"LinkElection$Library", "hasOffer", "(I)Z"⟩, 6) := ⟨⟨by decide +kernel, by decide +kernel⟩, List.mem_of_getElem? (i := 96) (by decide +kernel), List.mem_of_getElem? (i := 366) (by decide +kernel), List.mem_of_getElem? (i := 367) (by decide +kernel)⟩
theorem lw_p9 : lw_okq (⟨"LinkElection$Data", "friendsOf", "(I)I"⟩, 5) := ⟨⟨by decide +kernel, by decide +kernel⟩, List.mem_of_getElem? (i := 75) (by decide +kernel), List.mem_of_getElem? (i := 370) (by decide +kernel), List.mem_of_getElem? (i := 371) (by decide +kernel)⟩
theorem lw_p10 : lw_okq (⟨"LinkElection$Library", "prefers", "(I)Z"⟩, 6) := ⟨⟨by decide +kernel, by decide +kernel⟩, List.mem_of_getElem? (i := 96) (by decide +kernel), List.mem_of_getElem? (i := 375) (by decide +kernel), List.mem_of_getElem? (i := 376) (by decide +kernel)⟩
theorem lw_p11 : lw_okq (⟨"LinkElection$Weight", "valueOf", "(IIII)I"⟩, 2) := ⟨⟨by decide +kernel, by decide +kernel⟩, List.mem_of_getElem? (i := 83) (by decide +kernel), List.mem_of_getElem? (i := 379) (by decide +kernel), List.mem_of_getElem? (i := 380) (by decide +kernel)⟩
theorem lw_p12 : lw_okq (⟨"LinkElection$Election", "countCandidates", "(LLinkElection$Data;I)V"⟩, 7) := ⟨⟨by decide +kernel, by decide +kernel⟩, List.mem_of_getElem? (i := 205) (by decide +kernel), List.mem_of_getElem? (i := 400) (by decide +kernel), List.mem_of_getElem? (i := 401) (by decide +kernel)⟩
theorem lw_p13 : lw_okq (⟨"LinkElection$Data", "isCandidate", "(II)Z"⟩, 5) := ⟨⟨by decide +kernel, by decide +kernel⟩, List.mem_of_getElem? (i := 75) (by decide +kernel), List.mem_of_getElem? (i := 404) (by decide +kernel), List.mem_of_getElem? (i := 405) (by decide +kernel)⟩
theorem lw_p14 : lw_okq (⟨"LinkElection$Election", "countVotes", "(LLinkElection$Data;I)V"⟩, 7) := ⟨⟨by decide +kernel, by decide +kernel⟩, List.mem_of_getElem? (i := 205) (by decide +kernel), List.mem_of_getElem? (i := 412) (by decide +kernel), List.mem_of_getElem? (i := 413) (by decide +kernel)⟩
theorem lw_p15 : lw_okq (⟨"LinkElection$Election", "countWinner", "(LLinkElection$Data;I)V"⟩, 7) := ⟨⟨by decide +kernel, by decide +kernel⟩, List.mem_of_getElem? (i := 205) (by decide +kernel), List.mem_of_getElem? (i := 420) (by decide +kernel), List.mem_of_getElem? (i := 421) (by decide +kernel)⟩
def lw_privs_1 : List (MethodName × Nat) := [(⟨"LinkElection", "putBytes", "(I)V"⟩, 9), (⟨"LinkElection$History", "bringBack", "(LLinkElection$Data;)Z"⟩, 3), (⟨"LinkElection$Data", "copyFrom", "(LLinkElection$Data;)V"⟩, 5), (⟨"LinkElection$Library", "copyFrom", "(LLinkElection$Library;)V"⟩, 6), (⟨"LinkElection$Election", "count", "(LLinkElection$Data;)V"⟩, 7), (⟨"LinkElection$Library", "isLoaded", "()Z"⟩, 6), (⟨"LinkElection$Data", "weightOf", "(I)I"⟩, 5), (⟨"LinkElection$Library", "countOffers", "()I"⟩, 6), (⟨"LinkElection$Library", "hasOffer", "(I)Z"⟩, 6), (⟨"LinkElection$Data", "friendsOf", "(I)I"⟩, 5), (⟨"LinkElection$Library", "prefers", "(I)Z"⟩, 6), (⟨"LinkElection$Weight", "valueOf", "(IIII)I"⟩, 2), (⟨"LinkElection$Election", "countCandidates", "(LLinkElection$Data;I)V"⟩, 7), (⟨"LinkElection$Data", "isCandidate", "(II)Z"⟩, 5), (⟨"LinkElection$Election", "countVotes", "(LLinkElection$Data;I)V"⟩, 7), (⟨"LinkElection$Election", "countWinner", "(LLinkElection$Data;I)V"⟩, 7)]
theorem lw_r1 : ∀ q ∈ lw_privs_1, lw_okq q := List.forall_mem_cons.mpr ⟨lw_p0, List.forall_mem_cons.mpr ⟨lw_p1, List.forall_mem_cons.mpr ⟨lw_p2, List.forall_mem_cons.mpr ⟨lw_p3, List.forall_mem_cons.mpr ⟨lw_p4, List.forall_mem_cons.mpr ⟨lw_p5, List.forall_mem_cons.mpr ⟨lw_p6, List.forall_mem_cons.mpr ⟨lw_p7, List.forall_mem_cons.mpr ⟨lw_p8, List.forall_mem_cons.mpr ⟨lw_p9, List.forall_mem_cons.mpr ⟨lw_p10, List.forall_mem_cons.mpr ⟨lw_p11, List.forall_mem_cons.mpr ⟨lw_p12, List.forall_mem_cons.mpr ⟨lw_p13, List.forall_mem_cons.mpr ⟨lw_p14, List.forall_mem_cons.mpr ⟨lw_p15, fun _ h => absurd h List.not_mem_nil⟩⟩⟩⟩⟩⟩⟩⟩⟩⟩⟩⟩⟩⟩⟩⟩
theorem lw_p16 : lw_okq (⟨"LinkElection$Election", "isAhead", "(LLinkElection$Data;III)Z"⟩, 7) := ⟨⟨by decide +kernel, by decide +kernel⟩, List.mem_of_getElem? (i := 205) (by decide +kernel), List.mem_of_getElem? (i := 424) (by decide +kernel), List.mem_of_getElem? (i := 425) (by decide +kernel)⟩
theorem lw_p17 : lw_okq (⟨"LinkElection$Election", "countMargin", "(LLinkElection$Data;I)V"⟩, 7) := ⟨⟨by decide +kernel, by decide +kernel⟩, List.mem_of_getElem? (i := 205) (by decide +kernel), List.mem_of_getElem? (i := 428) (by decide +kernel), List.mem_of_getElem? (i := 429) (by decide +kernel)⟩
theorem lw_p18 : lw_okq (⟨"LinkElection$Election", "countBindings", "(LLinkElection$Data;I)V"⟩, 7) := ⟨⟨by decide +kernel, by decide +kernel⟩, List.mem_of_getElem? (i := 205) (by decide +kernel), List.mem_of_getElem? (i := 435) (by decide +kernel), List.mem_of_getElem? (i := 436) (by decide +kernel)⟩
theorem lw_p19 : lw_okq (⟨"LinkElection$Election", "isLargeEnough", "(IIII)Z"⟩, 7) := ⟨⟨by decide +kernel, by decide +kernel⟩, List.mem_of_getElem? (i := 205) (by decide +kernel), List.mem_of_getElem? (i := 439) (by decide +kernel), List.mem_of_getElem? (i := 440) (by decide +kernel)⟩
theorem lw_p20 : lw_okq (⟨"LinkElection", "requireLibrary", "(I)V"⟩, 9) := ⟨⟨by decide +kernel, by decide +kernel⟩, List.mem_of_getElem? (i := 25) (by decide +kernel), List.mem_of_getElem? (i := 453) (by decide +kernel), List.mem_of_getElem? (i := 454) (by decide +kernel)⟩
theorem lw_p21 : lw_okq (⟨"java/lang/Throwable", "fillInStackTrace", "(I)Ljava/lang/Throwable;"⟩, 6) := ⟨⟨by decide +kernel, by decide +kernel⟩, List.mem_of_getElem? (i := 495) (by decide +kernel), List.mem_of_getElem? (i := 493) (by decide +kernel), List.mem_of_getElem? (i := 494) (by decide +kernel)⟩
theorem lw_p22 : lw_okq (⟨"LinkElection", "requireName", "(I)V"⟩, 9) := ⟨⟨by decide +kernel, by decide +kernel⟩, List.mem_of_getElem? (i := 25) (by decide +kernel), List.mem_of_getElem? (i := 545) (by decide +kernel), List.mem_of_getElem? (i := 546) (by decide +kernel)⟩
theorem lw_p23 : lw_okq (⟨"LinkElection$Route", "follow", "(LLinkElection$Data;LLinkElection$Election;II)V"⟩, 3) := ⟨⟨by decide +kernel, by decide +kernel⟩, List.mem_of_getElem? (i := 241) (by decide +kernel), List.mem_of_getElem? (i := 559) (by decide +kernel), List.mem_of_getElem? (i := 560) (by decide +kernel)⟩
theorem lw_p24 : lw_okq (⟨"LinkElection$SetupReader", "readText", "([BI)Z"⟩, 11) := ⟨⟨by decide +kernel, by decide +kernel⟩, List.mem_of_getElem? (i := 33) (by decide +kernel), List.mem_of_getElem? (i := 576) (by decide +kernel), List.mem_of_getElem? (i := 577) (by decide +kernel)⟩
theorem lw_p25 : lw_okq (⟨"LinkElection$Data", "clear", "()V"⟩, 5) := ⟨⟨by decide +kernel, by decide +kernel⟩, List.mem_of_getElem? (i := 75) (by decide +kernel), List.mem_of_getElem? (i := 580) (by decide +kernel), List.mem_of_getElem? (i := 581) (by decide +kernel)⟩
theorem lw_p26 : lw_okq (⟨"LinkElection$SetupReader", "addCode", "(I)V"⟩, 11) := ⟨⟨by decide +kernel, by decide +kernel⟩, List.mem_of_getElem? (i := 33) (by decide +kernel), List.mem_of_getElem? (i := 584) (by decide +kernel), List.mem_of_getElem? (i := 585) (by decide +kernel)⟩
theorem lw_p27 : lw_okq (⟨"LinkElection$Tokens", "startText", "([BI)V"⟩, 8) := ⟨⟨by decide +kernel, by decide +kernel⟩, List.mem_of_getElem? (i := 39) (by decide +kernel), List.mem_of_getElem? (i := 588) (by decide +kernel), List.mem_of_getElem? (i := 589) (by decide +kernel)⟩
theorem lw_p28 : lw_okq (⟨"LinkElection$Tokens", "advance", "()V"⟩, 8) := ⟨⟨by decide +kernel, by decide +kernel⟩, List.mem_of_getElem? (i := 39) (by decide +kernel), List.mem_of_getElem? (i := 596) (by decide +kernel), List.mem_of_getElem? (i := 597) (by decide +kernel)⟩
theorem lw_p29 : lw_okq (⟨"LinkElection$Tokens", "isLetterAt", "(I)Z"⟩, 8) := ⟨⟨by decide +kernel, by decide +kernel⟩, List.mem_of_getElem? (i := 39) (by decide +kernel), List.mem_of_getElem? (i := 600) (by decide +kernel), List.mem_of_getElem? (i := 601) (by decide +kernel)⟩
theorem lw_p30 : lw_okq (⟨"LinkElection$Tokens", "takeWord", "()V"⟩, 8) := ⟨⟨by decide +kernel, by decide +kernel⟩, List.mem_of_getElem? (i := 39) (by decide +kernel), List.mem_of_getElem? (i := 604) (by decide +kernel), List.mem_of_getElem? (i := 605) (by decide +kernel)⟩
theorem lw_p31 : lw_okq (⟨"LinkElection$Tokens", "isDigitAt", "(I)Z"⟩, 8) := ⟨⟨by decide +kernel, by decide +kernel⟩, List.mem_of_getElem? (i := 39) (by decide +kernel), List.mem_of_getElem? (i := 608) (by decide +kernel), List.mem_of_getElem? (i := 609) (by decide +kernel)⟩
def lw_privs_2 : List (MethodName × Nat) := [(⟨"LinkElection$Election", "isAhead", "(LLinkElection$Data;III)Z"⟩, 7), (⟨"LinkElection$Election", "countMargin", "(LLinkElection$Data;I)V"⟩, 7), (⟨"LinkElection$Election", "countBindings", "(LLinkElection$Data;I)V"⟩, 7), (⟨"LinkElection$Election", "isLargeEnough", "(IIII)Z"⟩, 7), (⟨"LinkElection", "requireLibrary", "(I)V"⟩, 9), (⟨"java/lang/Throwable", "fillInStackTrace", "(I)Ljava/lang/Throwable;"⟩, 6), (⟨"LinkElection", "requireName", "(I)V"⟩, 9), (⟨"LinkElection$Route", "follow", "(LLinkElection$Data;LLinkElection$Election;II)V"⟩, 3), (⟨"LinkElection$SetupReader", "readText", "([BI)Z"⟩, 11), (⟨"LinkElection$Data", "clear", "()V"⟩, 5), (⟨"LinkElection$SetupReader", "addCode", "(I)V"⟩, 11), (⟨"LinkElection$Tokens", "startText", "([BI)V"⟩, 8), (⟨"LinkElection$Tokens", "advance", "()V"⟩, 8), (⟨"LinkElection$Tokens", "isLetterAt", "(I)Z"⟩, 8), (⟨"LinkElection$Tokens", "takeWord", "()V"⟩, 8), (⟨"LinkElection$Tokens", "isDigitAt", "(I)Z"⟩, 8)]
theorem lw_r2 : ∀ q ∈ lw_privs_2, lw_okq q := List.forall_mem_cons.mpr ⟨lw_p16, List.forall_mem_cons.mpr ⟨lw_p17, List.forall_mem_cons.mpr ⟨lw_p18, List.forall_mem_cons.mpr ⟨lw_p19, List.forall_mem_cons.mpr ⟨lw_p20, List.forall_mem_cons.mpr ⟨lw_p21, List.forall_mem_cons.mpr ⟨lw_p22, List.forall_mem_cons.mpr ⟨lw_p23, List.forall_mem_cons.mpr ⟨lw_p24, List.forall_mem_cons.mpr ⟨lw_p25, List.forall_mem_cons.mpr ⟨lw_p26, List.forall_mem_cons.mpr ⟨lw_p27, List.forall_mem_cons.mpr ⟨lw_p28, List.forall_mem_cons.mpr ⟨lw_p29, List.forall_mem_cons.mpr ⟨lw_p30, List.forall_mem_cons.mpr ⟨lw_p31, fun _ h => absurd h List.not_mem_nil⟩⟩⟩⟩⟩⟩⟩⟩⟩⟩⟩⟩⟩⟩⟩⟩
theorem lw_p32 : lw_okq (⟨"LinkElection$Tokens", "takeNumber", "()V"⟩, 8) := ⟨⟨by decide +kernel, by decide +kernel⟩, List.mem_of_getElem? (i := 39) (by decide +kernel), List.mem_of_getElem? (i := 612) (by decide +kernel), List.mem_of_getElem? (i := 613) (by decide +kernel)⟩
theorem lw_p33 : lw_okq (⟨"LinkElection$SetupReader", "readKeyword", "(Ljava/lang/String;)Z"⟩, 11) := ⟨⟨by decide +kernel, by decide +kernel⟩, List.mem_of_getElem? (i := 33) (by decide +kernel), List.mem_of_getElem? (i := 618) (by decide +kernel), List.mem_of_getElem? (i := 619) (by decide +kernel)⟩
theorem lw_p34 : lw_okq (⟨"LinkElection$Tokens", "isWord", "(Ljava/lang/String;)Z"⟩, 8) := ⟨⟨by decide +kernel, by decide +kernel⟩, List.mem_of_getElem? (i := 39) (by decide +kernel), List.mem_of_getElem? (i := 622) (by decide +kernel), List.mem_of_getElem? (i := 623) (by decide +kernel)⟩
theorem lw_p35 : lw_okq (⟨"LinkElection$SetupReader", "syntaxError", "()Z"⟩, 11) := ⟨⟨by decide +kernel, by decide +kernel⟩, List.mem_of_getElem? (i := 33) (by decide +kernel), List.mem_of_getElem? (i := 677) (by decide +kernel), List.mem_of_getElem? (i := 678) (by decide +kernel)⟩
theorem lw_p36 : lw_okq (⟨"LinkElection$SetupReader", "error", "(I)Z"⟩, 11) := ⟨⟨by decide +kernel, by decide +kernel⟩, List.mem_of_getElem? (i := 33) (by decide +kernel), List.mem_of_getElem? (i := 681) (by decide +kernel), List.mem_of_getElem? (i := 682) (by decide +kernel)⟩
theorem lw_p37 : lw_okq (⟨"LinkElection$SetupReader", "readSign", "(C)Z"⟩, 11) := ⟨⟨by decide +kernel, by decide +kernel⟩, List.mem_of_getElem? (i := 33) (by decide +kernel), List.mem_of_getElem? (i := 686) (by decide +kernel), List.mem_of_getElem? (i := 687) (by decide +kernel)⟩
theorem lw_p38 : lw_okq (⟨"LinkElection$Tokens", "isSign", "(C)Z"⟩, 8) := ⟨⟨by decide +kernel, by decide +kernel⟩, List.mem_of_getElem? (i := 39) (by decide +kernel), List.mem_of_getElem? (i := 690) (by decide +kernel), List.mem_of_getElem? (i := 691) (by decide +kernel)⟩
theorem lw_p39 : lw_okq (⟨"LinkElection$SetupReader", "readStatement", "()Z"⟩, 11) := ⟨⟨by decide +kernel, by decide +kernel⟩, List.mem_of_getElem? (i := 33) (by decide +kernel), List.mem_of_getElem? (i := 694) (by decide +kernel), List.mem_of_getElem? (i := 695) (by decide +kernel)⟩
theorem lw_p40 : lw_okq (⟨"LinkElection$SetupReader", "readNewName", "()Z"⟩, 11) := ⟨⟨by decide +kernel, by decide +kernel⟩, List.mem_of_getElem? (i := 33) (by decide +kernel), List.mem_of_getElem? (i := 699) (by decide +kernel), List.mem_of_getElem? (i := 700) (by decide +kernel)⟩
theorem lw_p41 : lw_okq (⟨"LinkElection$SetupReader", "readNewWord", "([JI)Z"⟩, 11) := ⟨⟨by decide +kernel, by decide +kernel⟩, List.mem_of_getElem? (i := 33) (by decide +kernel), List.mem_of_getElem? (i := 703) (by decide +kernel), List.mem_of_getElem? (i := 704) (by decide +kernel)⟩
theorem lw_p42 : lw_okq (⟨"LinkElection$SetupReader", "indexOfWord", "([JI)I"⟩, 11) := ⟨⟨by decide +kernel, by decide +kernel⟩, List.mem_of_getElem? (i := 33) (by decide +kernel), List.mem_of_getElem? (i := 707) (by decide +kernel), List.mem_of_getElem? (i := 708) (by decide +kernel)⟩
theorem lw_p43 : lw_okq (⟨"LinkElection$SetupReader", "readNewLibrary", "()Z"⟩, 11) := ⟨⟨by decide +kernel, by decide +kernel⟩, List.mem_of_getElem? (i := 33) (by decide +kernel), List.mem_of_getElem? (i := 712) (by decide +kernel), List.mem_of_getElem? (i := 713) (by decide +kernel)⟩
theorem lw_p44 : lw_okq (⟨"LinkElection$SetupReader", "readNumber", "(I)Z"⟩, 11) := ⟨⟨by decide +kernel, by decide +kernel⟩, List.mem_of_getElem? (i := 33) (by decide +kernel), List.mem_of_getElem? (i := 716) (by decide +kernel), List.mem_of_getElem? (i := 717) (by decide +kernel)⟩
theorem lw_p45 : lw_okq (⟨"LinkElection$Library", "startAs", "(II)V"⟩, 6) := ⟨⟨by decide +kernel, by decide +kernel⟩, List.mem_of_getElem? (i := 96) (by decide +kernel), List.mem_of_getElem? (i := 720) (by decide +kernel), List.mem_of_getElem? (i := 721) (by decide +kernel)⟩
theorem lw_p46 : lw_okq (⟨"LinkElection$SetupReader", "readOffer", "()Z"⟩, 11) := ⟨⟨by decide +kernel, by decide +kernel⟩, List.mem_of_getElem? (i := 33) (by decide +kernel), List.mem_of_getElem? (i := 727) (by decide +kernel), List.mem_of_getElem? (i := 728) (by decide +kernel)⟩
theorem lw_p47 : lw_okq (⟨"LinkElection$SetupReader", "findLibrary", "()Z"⟩, 11) := ⟨⟨by decide +kernel, by decide +kernel⟩, List.mem_of_getElem? (i := 33) (by decide +kernel), List.mem_of_getElem? (i := 731) (by decide +kernel), List.mem_of_getElem? (i := 732) (by decide +kernel)⟩
def lw_privs_3 : List (MethodName × Nat) := [(⟨"LinkElection$Tokens", "takeNumber", "()V"⟩, 8), (⟨"LinkElection$SetupReader", "readKeyword", "(Ljava/lang/String;)Z"⟩, 11), (⟨"LinkElection$Tokens", "isWord", "(Ljava/lang/String;)Z"⟩, 8), (⟨"LinkElection$SetupReader", "syntaxError", "()Z"⟩, 11), (⟨"LinkElection$SetupReader", "error", "(I)Z"⟩, 11), (⟨"LinkElection$SetupReader", "readSign", "(C)Z"⟩, 11), (⟨"LinkElection$Tokens", "isSign", "(C)Z"⟩, 8), (⟨"LinkElection$SetupReader", "readStatement", "()Z"⟩, 11), (⟨"LinkElection$SetupReader", "readNewName", "()Z"⟩, 11), (⟨"LinkElection$SetupReader", "readNewWord", "([JI)Z"⟩, 11), (⟨"LinkElection$SetupReader", "indexOfWord", "([JI)I"⟩, 11), (⟨"LinkElection$SetupReader", "readNewLibrary", "()Z"⟩, 11), (⟨"LinkElection$SetupReader", "readNumber", "(I)Z"⟩, 11), (⟨"LinkElection$Library", "startAs", "(II)V"⟩, 6), (⟨"LinkElection$SetupReader", "readOffer", "()Z"⟩, 11), (⟨"LinkElection$SetupReader", "findLibrary", "()Z"⟩, 11)]
theorem lw_r3 : ∀ q ∈ lw_privs_3, lw_okq q := List.forall_mem_cons.mpr ⟨lw_p32, List.forall_mem_cons.mpr ⟨lw_p33, List.forall_mem_cons.mpr ⟨lw_p34, List.forall_mem_cons.mpr ⟨lw_p35, List.forall_mem_cons.mpr ⟨lw_p36, List.forall_mem_cons.mpr ⟨lw_p37, List.forall_mem_cons.mpr ⟨lw_p38, List.forall_mem_cons.mpr ⟨lw_p39, List.forall_mem_cons.mpr ⟨lw_p40, List.forall_mem_cons.mpr ⟨lw_p41, List.forall_mem_cons.mpr ⟨lw_p42, List.forall_mem_cons.mpr ⟨lw_p43, List.forall_mem_cons.mpr ⟨lw_p44, List.forall_mem_cons.mpr ⟨lw_p45, List.forall_mem_cons.mpr ⟨lw_p46, List.forall_mem_cons.mpr ⟨lw_p47, fun _ h => absurd h List.not_mem_nil⟩⟩⟩⟩⟩⟩⟩⟩⟩⟩⟩⟩⟩⟩⟩⟩
theorem lw_p48 : lw_okq (⟨"LinkElection$SetupReader", "findWord", "([JI)Z"⟩, 11) := ⟨⟨by decide +kernel, by decide +kernel⟩, List.mem_of_getElem? (i := 33) (by decide +kernel), List.mem_of_getElem? (i := 735) (by decide +kernel), List.mem_of_getElem? (i := 736) (by decide +kernel)⟩
theorem lw_p49 : lw_okq (⟨"LinkElection$SetupReader", "findName", "()Z"⟩, 11) := ⟨⟨by decide +kernel, by decide +kernel⟩, List.mem_of_getElem? (i := 33) (by decide +kernel), List.mem_of_getElem? (i := 739) (by decide +kernel), List.mem_of_getElem? (i := 740) (by decide +kernel)⟩
theorem lw_p50 : lw_okq (⟨"LinkElection$SetupReader", "readPrefer", "()Z"⟩, 11) := ⟨⟨by decide +kernel, by decide +kernel⟩, List.mem_of_getElem? (i := 33) (by decide +kernel), List.mem_of_getElem? (i := 746) (by decide +kernel), List.mem_of_getElem? (i := 747) (by decide +kernel)⟩
theorem lw_p51 : lw_okq (⟨"LinkElection$Library", "addPreference", "(I)V"⟩, 6) := ⟨⟨by decide +kernel, by decide +kernel⟩, List.mem_of_getElem? (i := 96) (by decide +kernel), List.mem_of_getElem? (i := 751) (by decide +kernel), List.mem_of_getElem? (i := 752) (by decide +kernel)⟩
theorem lw_p52 : lw_okq (⟨"LinkElection$SetupReader", "readShare", "()Z"⟩, 11) := ⟨⟨by decide +kernel, by decide +kernel⟩, List.mem_of_getElem? (i := 33) (by decide +kernel), List.mem_of_getElem? (i := 756) (by decide +kernel), List.mem_of_getElem? (i := 757) (by decide +kernel)⟩
theorem lw_p53 : lw_okq (⟨"LinkElection$SetupReader", "readWeight", "()Z"⟩, 11) := ⟨⟨by decide +kernel, by decide +kernel⟩, List.mem_of_getElem? (i := 33) (by decide +kernel), List.mem_of_getElem? (i := 761) (by decide +kernel), List.mem_of_getElem? (i := 762) (by decide +kernel)⟩
theorem lw_p54 : lw_okq (⟨"LinkElection$SetupReader", "readSum", "(I)Z"⟩, 11) := ⟨⟨by decide +kernel, by decide +kernel⟩, List.mem_of_getElem? (i := 33) (by decide +kernel), List.mem_of_getElem? (i := 765) (by decide +kernel), List.mem_of_getElem? (i := 766) (by decide +kernel)⟩
theorem lw_p55 : lw_okq (⟨"LinkElection$SetupReader", "readTerm", "(I)Z"⟩, 11) := ⟨⟨by decide +kernel, by decide +kernel⟩, List.mem_of_getElem? (i := 33) (by decide +kernel), List.mem_of_getElem? (i := 769) (by decide +kernel), List.mem_of_getElem? (i := 770) (by decide +kernel)⟩
theorem lw_p56 : lw_okq (⟨"LinkElection$SetupReader", "readFactor", "(I)Z"⟩, 11) := ⟨⟨by decide +kernel, by decide +kernel⟩, List.mem_of_getElem? (i := 33) (by decide +kernel), List.mem_of_getElem? (i := 773) (by decide +kernel), List.mem_of_getElem? (i := 774) (by decide +kernel)⟩
theorem lw_p57 : lw_okq (⟨"LinkElection$SetupReader", "quantityCode", "()I"⟩, 11) := ⟨⟨by decide +kernel, by decide +kernel⟩, List.mem_of_getElem? (i := 33) (by decide +kernel), List.mem_of_getElem? (i := 777) (by decide +kernel), List.mem_of_getElem? (i := 778) (by decide +kernel)⟩
theorem lw_p58 : lw_okq (⟨"LinkElection", "beginChange", "()V"⟩, 9) := ⟨⟨by decide +kernel, by decide +kernel⟩, List.mem_of_getElem? (i := 25) (by decide +kernel), List.mem_of_getElem? (i := 799) (by decide +kernel), List.mem_of_getElem? (i := 800) (by decide +kernel)⟩
theorem lw_p59 : lw_okq (⟨"LinkElection$History", "keep", "(LLinkElection$Data;)V"⟩, 3) := ⟨⟨by decide +kernel, by decide +kernel⟩, List.mem_of_getElem? (i := 259) (by decide +kernel), List.mem_of_getElem? (i := 803) (by decide +kernel), List.mem_of_getElem? (i := 804) (by decide +kernel)⟩
theorem lw_p60 : lw_okq (⟨"LinkElection$Data", "takeOut", "(I)V"⟩, 5) := ⟨⟨by decide +kernel, by decide +kernel⟩, List.mem_of_getElem? (i := 75) (by decide +kernel), List.mem_of_getElem? (i := 907) (by decide +kernel), List.mem_of_getElem? (i := 908) (by decide +kernel)⟩
theorem lw_p61 : lw_okq (⟨"LinkElection", "changedBindingsOfAll", "()I"⟩, 9) := ⟨⟨by decide +kernel, by decide +kernel⟩, List.mem_of_getElem? (i := 25) (by decide +kernel), List.mem_of_getElem? (i := 911) (by decide +kernel), List.mem_of_getElem? (i := 912) (by decide +kernel)⟩
theorem lw_p62 : lw_okq (⟨"LinkElection", "changedBindings", "(I)I"⟩, 9) := ⟨⟨by decide +kernel, by decide +kernel⟩, List.mem_of_getElem? (i := 25) (by decide +kernel), List.mem_of_getElem? (i := 915) (by decide +kernel), List.mem_of_getElem? (i := 916) (by decide +kernel)⟩
theorem lw_p63 : lw_okq (⟨"LinkElection$Data", "takeIn", "(I)V"⟩, 5) := ⟨⟨by decide +kernel, by decide +kernel⟩, List.mem_of_getElem? (i := 75) (by decide +kernel), List.mem_of_getElem? (i := 927) (by decide +kernel), List.mem_of_getElem? (i := 928) (by decide +kernel)⟩
def lw_privs_4 : List (MethodName × Nat) := [(⟨"LinkElection$SetupReader", "findWord", "([JI)Z"⟩, 11), (⟨"LinkElection$SetupReader", "findName", "()Z"⟩, 11), (⟨"LinkElection$SetupReader", "readPrefer", "()Z"⟩, 11), (⟨"LinkElection$Library", "addPreference", "(I)V"⟩, 6), (⟨"LinkElection$SetupReader", "readShare", "()Z"⟩, 11), (⟨"LinkElection$SetupReader", "readWeight", "()Z"⟩, 11), (⟨"LinkElection$SetupReader", "readSum", "(I)Z"⟩, 11), (⟨"LinkElection$SetupReader", "readTerm", "(I)Z"⟩, 11), (⟨"LinkElection$SetupReader", "readFactor", "(I)Z"⟩, 11), (⟨"LinkElection$SetupReader", "quantityCode", "()I"⟩, 11), (⟨"LinkElection", "beginChange", "()V"⟩, 9), (⟨"LinkElection$History", "keep", "(LLinkElection$Data;)V"⟩, 3), (⟨"LinkElection$Data", "takeOut", "(I)V"⟩, 5), (⟨"LinkElection", "changedBindingsOfAll", "()I"⟩, 9), (⟨"LinkElection", "changedBindings", "(I)I"⟩, 9), (⟨"LinkElection$Data", "takeIn", "(I)V"⟩, 5)]
theorem lw_r4 : ∀ q ∈ lw_privs_4, lw_okq q := List.forall_mem_cons.mpr ⟨lw_p48, List.forall_mem_cons.mpr ⟨lw_p49, List.forall_mem_cons.mpr ⟨lw_p50, List.forall_mem_cons.mpr ⟨lw_p51, List.forall_mem_cons.mpr ⟨lw_p52, List.forall_mem_cons.mpr ⟨lw_p53, List.forall_mem_cons.mpr ⟨lw_p54, List.forall_mem_cons.mpr ⟨lw_p55, List.forall_mem_cons.mpr ⟨lw_p56, List.forall_mem_cons.mpr ⟨lw_p57, List.forall_mem_cons.mpr ⟨lw_p58, List.forall_mem_cons.mpr ⟨lw_p59, List.forall_mem_cons.mpr ⟨lw_p60, List.forall_mem_cons.mpr ⟨lw_p61, List.forall_mem_cons.mpr ⟨lw_p62, List.forall_mem_cons.mpr ⟨lw_p63, fun _ h => absurd h List.not_mem_nil⟩⟩⟩⟩⟩⟩⟩⟩⟩⟩⟩⟩⟩⟩⟩⟩
theorem lw_p64 : lw_okq (⟨"LinkElection", "changeOffer", "(III)I"⟩, 9) := ⟨⟨by decide +kernel, by decide +kernel⟩, List.mem_of_getElem? (i := 25) (by decide +kernel), List.mem_of_getElem? (i := 939) (by decide +kernel), List.mem_of_getElem? (i := 940) (by decide +kernel)⟩
theorem lw_p65 : lw_okq (⟨"LinkElectionModel", "fails", "(ZI)Z"⟩, 27) := ⟨⟨by decide +kernel, by decide +kernel⟩, List.mem_of_getElem? (i := 982) (by decide +kernel), List.mem_of_getElem? (i := 1087) (by decide +kernel), List.mem_of_getElem? (i := 1088) (by decide +kernel)⟩
theorem lw_p66 : lw_okq (⟨"LinkElectionModel", "takeWord", "(Ljava/lang/String;)Z"⟩, 27) := ⟨⟨by decide +kernel, by decide +kernel⟩, List.mem_of_getElem? (i := 982) (by decide +kernel), List.mem_of_getElem? (i := 1092) (by decide +kernel), List.mem_of_getElem? (i := 1093) (by decide +kernel)⟩
theorem lw_p67 : lw_okq (⟨"LinkElectionModel", "isGood", "()Z"⟩, 27) := ⟨⟨by decide +kernel, by decide +kernel⟩, List.mem_of_getElem? (i := 982) (by decide +kernel), List.mem_of_getElem? (i := 1096) (by decide +kernel), List.mem_of_getElem? (i := 1097) (by decide +kernel)⟩
theorem lw_p68 : lw_okq (⟨"LinkElectionModel", "next", "()I"⟩, 27) := ⟨⟨by decide +kernel, by decide +kernel⟩, List.mem_of_getElem? (i := 982) (by decide +kernel), List.mem_of_getElem? (i := 1100) (by decide +kernel), List.mem_of_getElem? (i := 1101) (by decide +kernel)⟩
theorem lw_p69 : lw_okq (⟨"LinkElectionModel", "byteAt", "(I)I"⟩, 27) := ⟨⟨by decide +kernel, by decide +kernel⟩, List.mem_of_getElem? (i := 982) (by decide +kernel), List.mem_of_getElem? (i := 1104) (by decide +kernel), List.mem_of_getElem? (i := 1105) (by decide +kernel)⟩
theorem lw_p70 : lw_okq (⟨"LinkElectionModel", "report", "(II)V"⟩, 27) := ⟨⟨by decide +kernel, by decide +kernel⟩, List.mem_of_getElem? (i := 982) (by decide +kernel), List.mem_of_getElem? (i := 1110) (by decide +kernel), List.mem_of_getElem? (i := 1111) (by decide +kernel)⟩
theorem lw_p71 : lw_okq (⟨"LinkElectionModel", "expect", "(I)V"⟩, 27) := ⟨⟨by decide +kernel, by decide +kernel⟩, List.mem_of_getElem? (i := 982) (by decide +kernel), List.mem_of_getElem? (i := 1114) (by decide +kernel), List.mem_of_getElem? (i := 1115) (by decide +kernel)⟩
theorem lw_p72 : lw_okq (⟨"LinkElectionModel", "statement", "()V"⟩, 27) := ⟨⟨by decide +kernel, by decide +kernel⟩, List.mem_of_getElem? (i := 982) (by decide +kernel), List.mem_of_getElem? (i := 1118) (by decide +kernel), List.mem_of_getElem? (i := 1119) (by decide +kernel)⟩
theorem lw_p73 : lw_okq (⟨"LinkElectionModel", "readName", "(I)V"⟩, 27) := ⟨⟨by decide +kernel, by decide +kernel⟩, List.mem_of_getElem? (i := 982) (by decide +kernel), List.mem_of_getElem? (i := 1123) (by decide +kernel), List.mem_of_getElem? (i := 1124) (by decide +kernel)⟩
theorem lw_p74 : lw_okq (⟨"LinkElectionModel", "readWord", "()J"⟩, 27) := ⟨⟨by decide +kernel, by decide +kernel⟩, List.mem_of_getElem? (i := 982) (by decide +kernel), List.mem_of_getElem? (i := 1127) (by decide +kernel), List.mem_of_getElem? (i := 1128) (by decide +kernel)⟩
theorem lw_p75 : lw_okq (⟨"LinkElectionModel", "isFresh", "([JIJ)Z"⟩, 27) := ⟨⟨by decide +kernel, by decide +kernel⟩, List.mem_of_getElem? (i := 982) (by decide +kernel), List.mem_of_getElem? (i := 1133) (by decide +kernel), List.mem_of_getElem? (i := 1134) (by decide +kernel)⟩
theorem lw_p76 : lw_okq (⟨"LinkElectionModel", "readLibrary", "(I)V"⟩, 27) := ⟨⟨by decide +kernel, by decide +kernel⟩, List.mem_of_getElem? (i := 982) (by decide +kernel), List.mem_of_getElem? (i := 1141) (by decide +kernel), List.mem_of_getElem? (i := 1142) (by decide +kernel)⟩
theorem lw_p77 : lw_okq (⟨"LinkElectionModel", "number", "(II)I"⟩, 27) := ⟨⟨by decide +kernel, by decide +kernel⟩, List.mem_of_getElem? (i := 982) (by decide +kernel), List.mem_of_getElem? (i := 1148) (by decide +kernel), List.mem_of_getElem? (i := 1149) (by decide +kernel)⟩
theorem lw_p78 : lw_okq (⟨"LinkElectionModel", "readOffer", "()V"⟩, 27) := ⟨⟨by decide +kernel, by decide +kernel⟩, List.mem_of_getElem? (i := 982) (by decide +kernel), List.mem_of_getElem? (i := 1161) (by decide +kernel), List.mem_of_getElem? (i := 1162) (by decide +kernel)⟩
theorem lw_p79 : lw_okq (⟨"LinkElectionModel", "readKnown", "([JI)I"⟩, 27) := ⟨⟨by decide +kernel, by decide +kernel⟩, List.mem_of_getElem? (i := 982) (by decide +kernel), List.mem_of_getElem? (i := 1165) (by decide +kernel), List.mem_of_getElem? (i := 1166) (by decide +kernel)⟩
def lw_privs_5 : List (MethodName × Nat) := [(⟨"LinkElection", "changeOffer", "(III)I"⟩, 9), (⟨"LinkElectionModel", "fails", "(ZI)Z"⟩, 27), (⟨"LinkElectionModel", "takeWord", "(Ljava/lang/String;)Z"⟩, 27), (⟨"LinkElectionModel", "isGood", "()Z"⟩, 27), (⟨"LinkElectionModel", "next", "()I"⟩, 27), (⟨"LinkElectionModel", "byteAt", "(I)I"⟩, 27), (⟨"LinkElectionModel", "report", "(II)V"⟩, 27), (⟨"LinkElectionModel", "expect", "(I)V"⟩, 27), (⟨"LinkElectionModel", "statement", "()V"⟩, 27), (⟨"LinkElectionModel", "readName", "(I)V"⟩, 27), (⟨"LinkElectionModel", "readWord", "()J"⟩, 27), (⟨"LinkElectionModel", "isFresh", "([JIJ)Z"⟩, 27), (⟨"LinkElectionModel", "readLibrary", "(I)V"⟩, 27), (⟨"LinkElectionModel", "number", "(II)I"⟩, 27), (⟨"LinkElectionModel", "readOffer", "()V"⟩, 27), (⟨"LinkElectionModel", "readKnown", "([JI)I"⟩, 27)]
theorem lw_r5 : ∀ q ∈ lw_privs_5, lw_okq q := List.forall_mem_cons.mpr ⟨lw_p64, List.forall_mem_cons.mpr ⟨lw_p65, List.forall_mem_cons.mpr ⟨lw_p66, List.forall_mem_cons.mpr ⟨lw_p67, List.forall_mem_cons.mpr ⟨lw_p68, List.forall_mem_cons.mpr ⟨lw_p69, List.forall_mem_cons.mpr ⟨lw_p70, List.forall_mem_cons.mpr ⟨lw_p71, List.forall_mem_cons.mpr ⟨lw_p72, List.forall_mem_cons.mpr ⟨lw_p73, List.forall_mem_cons.mpr ⟨lw_p74, List.forall_mem_cons.mpr ⟨lw_p75, List.forall_mem_cons.mpr ⟨lw_p76, List.forall_mem_cons.mpr ⟨lw_p77, List.forall_mem_cons.mpr ⟨lw_p78, List.forall_mem_cons.mpr ⟨lw_p79, fun _ h => absurd h List.not_mem_nil⟩⟩⟩⟩⟩⟩⟩⟩⟩⟩⟩⟩⟩⟩⟩⟩
theorem lw_p80 : lw_okq (⟨"LinkElectionModel", "readPreference", "()V"⟩, 27) := ⟨⟨by decide +kernel, by decide +kernel⟩, List.mem_of_getElem? (i := 982) (by decide +kernel), List.mem_of_getElem? (i := 1171) (by decide +kernel), List.mem_of_getElem? (i := 1172) (by decide +kernel)⟩
theorem lw_p81 : lw_okq (⟨"LinkElectionModel", "prefers", "([III)Z"⟩, 27) := ⟨⟨by decide +kernel, by decide +kernel⟩, List.mem_of_getElem? (i := 982) (by decide +kernel), List.mem_of_getElem? (i := 1175) (by decide +kernel), List.mem_of_getElem? (i := 1176) (by decide +kernel)⟩
theorem lw_p82 : lw_okq (⟨"LinkElectionModel", "once", "(II)V"⟩, 27) := ⟨⟨by decide +kernel, by decide +kernel⟩, List.mem_of_getElem? (i := 982) (by decide +kernel), List.mem_of_getElem? (i := 1180) (by decide +kernel), List.mem_of_getElem? (i := 1181) (by decide +kernel)⟩
theorem lw_p83 : lw_okq (⟨"LinkElectionModel", "sum", "()V"⟩, 27) := ⟨⟨by decide +kernel, by decide +kernel⟩, List.mem_of_getElem? (i := 982) (by decide +kernel), List.mem_of_getElem? (i := 1185) (by decide +kernel), List.mem_of_getElem? (i := 1186) (by decide +kernel)⟩
theorem lw_p84 : lw_okq (⟨"LinkElectionModel", "term", "()V"⟩, 27) := ⟨⟨by decide +kernel, by decide +kernel⟩, List.mem_of_getElem? (i := 982) (by decide +kernel), List.mem_of_getElem? (i := 1189) (by decide +kernel), List.mem_of_getElem? (i := 1190) (by decide +kernel)⟩
theorem lw_p85 : lw_okq (⟨"LinkElectionModel", "factor", "()V"⟩, 27) := ⟨⟨by decide +kernel, by decide +kernel⟩, List.mem_of_getElem? (i := 982) (by decide +kernel), List.mem_of_getElem? (i := 1193) (by decide +kernel), List.mem_of_getElem? (i := 1194) (by decide +kernel)⟩
theorem lw_p86 : lw_okq (⟨"LinkElectionModel", "emit", "(I)V"⟩, 27) := ⟨⟨by decide +kernel, by decide +kernel⟩, List.mem_of_getElem? (i := 982) (by decide +kernel), List.mem_of_getElem? (i := 1201) (by decide +kernel), List.mem_of_getElem? (i := 1202) (by decide +kernel)⟩
theorem lw_p87 : lw_okq (⟨"LinkElectionModel", "remember", "()V"⟩, 27) := ⟨⟨by decide +kernel, by decide +kernel⟩, List.mem_of_getElem? (i := 982) (by decide +kernel), List.mem_of_getElem? (i := 1205) (by decide +kernel), List.mem_of_getElem? (i := 1206) (by decide +kernel)⟩
theorem lw_p88 : lw_okq (⟨"LinkElectionModel", "noLibrary", "(I)Z"⟩, 27) := ⟨⟨by decide +kernel, by decide +kernel⟩, List.mem_of_getElem? (i := 982) (by decide +kernel), List.mem_of_getElem? (i := 1232) (by decide +kernel), List.mem_of_getElem? (i := 1233) (by decide +kernel)⟩
theorem lw_p89 : lw_okq (⟨"LinkElectionModel", "told", "(II)I"⟩, 27) := ⟨⟨by decide +kernel, by decide +kernel⟩, List.mem_of_getElem? (i := 982) (by decide +kernel), List.mem_of_getElem? (i := 1236) (by decide +kernel), List.mem_of_getElem? (i := 1237) (by decide +kernel)⟩
theorem lw_p90 : lw_okq (⟨"LinkElectionModel", "rankOf", "(I)I"⟩, 27) := ⟨⟨by decide +kernel, by decide +kernel⟩, List.mem_of_getElem? (i := 982) (by decide +kernel), List.mem_of_getElem? (i := 1240) (by decide +kernel), List.mem_of_getElem? (i := 1241) (by decide +kernel)⟩
theorem lw_p91 : lw_okq (⟨"LinkElectionModel", "isLoaded", "(I)Z"⟩, 27) := ⟨⟨by decide +kernel, by decide +kernel⟩, List.mem_of_getElem? (i := 982) (by decide +kernel), List.mem_of_getElem? (i := 1244) (by decide +kernel), List.mem_of_getElem? (i := 1245) (by decide +kernel)⟩
theorem lw_p92 : lw_okq (⟨"LinkElectionModel", "offersOf", "(I)I"⟩, 27) := ⟨⟨by decide +kernel, by decide +kernel⟩, List.mem_of_getElem? (i := 982) (by decide +kernel), List.mem_of_getElem? (i := 1248) (by decide +kernel), List.mem_of_getElem? (i := 1249) (by decide +kernel)⟩
theorem lw_p93 : lw_okq (⟨"LinkElectionModel", "weightOf", "(I)I"⟩, 27) := ⟨⟨by decide +kernel, by decide +kernel⟩, List.mem_of_getElem? (i := 982) (by decide +kernel), List.mem_of_getElem? (i := 1252) (by decide +kernel), List.mem_of_getElem? (i := 1253) (by decide +kernel)⟩
theorem lw_p94 : lw_okq (⟨"LinkElectionModel", "friendsOf", "(I)I"⟩, 27) := ⟨⟨by decide +kernel, by decide +kernel⟩, List.mem_of_getElem? (i := 982) (by decide +kernel), List.mem_of_getElem? (i := 1256) (by decide +kernel), List.mem_of_getElem? (i := 1257) (by decide +kernel)⟩
theorem lw_p95 : lw_okq (⟨"LinkElectionModel", "noName", "(I)Z"⟩, 27) := ⟨⟨by decide +kernel, by decide +kernel⟩, List.mem_of_getElem? (i := 982) (by decide +kernel), List.mem_of_getElem? (i := 1273) (by decide +kernel), List.mem_of_getElem? (i := 1274) (by decide +kernel)⟩
def lw_privs_6 : List (MethodName × Nat) := [(⟨"LinkElectionModel", "readPreference", "()V"⟩, 27), (⟨"LinkElectionModel", "prefers", "([III)Z"⟩, 27), (⟨"LinkElectionModel", "once", "(II)V"⟩, 27), (⟨"LinkElectionModel", "sum", "()V"⟩, 27), (⟨"LinkElectionModel", "term", "()V"⟩, 27), (⟨"LinkElectionModel", "factor", "()V"⟩, 27), (⟨"LinkElectionModel", "emit", "(I)V"⟩, 27), (⟨"LinkElectionModel", "remember", "()V"⟩, 27), (⟨"LinkElectionModel", "noLibrary", "(I)Z"⟩, 27), (⟨"LinkElectionModel", "told", "(II)I"⟩, 27), (⟨"LinkElectionModel", "rankOf", "(I)I"⟩, 27), (⟨"LinkElectionModel", "isLoaded", "(I)Z"⟩, 27), (⟨"LinkElectionModel", "offersOf", "(I)I"⟩, 27), (⟨"LinkElectionModel", "weightOf", "(I)I"⟩, 27), (⟨"LinkElectionModel", "friendsOf", "(I)I"⟩, 27), (⟨"LinkElectionModel", "noName", "(I)Z"⟩, 27)]
theorem lw_r6 : ∀ q ∈ lw_privs_6, lw_okq q := List.forall_mem_cons.mpr ⟨lw_p80, List.forall_mem_cons.mpr ⟨lw_p81, List.forall_mem_cons.mpr ⟨lw_p82, List.forall_mem_cons.mpr ⟨lw_p83, List.forall_mem_cons.mpr ⟨lw_p84, List.forall_mem_cons.mpr ⟨lw_p85, List.forall_mem_cons.mpr ⟨lw_p86, List.forall_mem_cons.mpr ⟨lw_p87, List.forall_mem_cons.mpr ⟨lw_p88, List.forall_mem_cons.mpr ⟨lw_p89, List.forall_mem_cons.mpr ⟨lw_p90, List.forall_mem_cons.mpr ⟨lw_p91, List.forall_mem_cons.mpr ⟨lw_p92, List.forall_mem_cons.mpr ⟨lw_p93, List.forall_mem_cons.mpr ⟨lw_p94, List.forall_mem_cons.mpr ⟨lw_p95, fun _ h => absurd h List.not_mem_nil⟩⟩⟩⟩⟩⟩⟩⟩⟩⟩⟩⟩⟩⟩⟩⟩
theorem lw_p96 : lw_okq (⟨"LinkElectionModel", "isCandidate", "(II)Z"⟩, 27) := ⟨⟨by decide +kernel, by decide +kernel⟩, List.mem_of_getElem? (i := 982) (by decide +kernel), List.mem_of_getElem? (i := 1281) (by decide +kernel), List.mem_of_getElem? (i := 1282) (by decide +kernel)⟩
theorem lw_p97 : lw_okq (⟨"LinkElectionModel", "voteOf", "(II)I"⟩, 27) := ⟨⟨by decide +kernel, by decide +kernel⟩, List.mem_of_getElem? (i := 982) (by decide +kernel), List.mem_of_getElem? (i := 1289) (by decide +kernel), List.mem_of_getElem? (i := 1290) (by decide +kernel)⟩
theorem lw_p98 : lw_okq (⟨"LinkElectionModel", "isMissing", "(II)Z"⟩, 27) := ⟨⟨by decide +kernel, by decide +kernel⟩, List.mem_of_getElem? (i := 982) (by decide +kernel), List.mem_of_getElem? (i := 1297) (by decide +kernel), List.mem_of_getElem? (i := 1298) (by decide +kernel)⟩
theorem lw_p99 : lw_okq (⟨"LinkElectionModel", "layAll", "()V"⟩, 27) := ⟨⟨by decide +kernel, by decide +kernel⟩, List.mem_of_getElem? (i := 982) (by decide +kernel), List.mem_of_getElem? (i := 1301) (by decide +kernel), List.mem_of_getElem? (i := 1302) (by decide +kernel)⟩
theorem lw_p100 : lw_okq (⟨"LinkElectionModel", "layName", "(I)V"⟩, 27) := ⟨⟨by decide +kernel, by decide +kernel⟩, List.mem_of_getElem? (i := 982) (by decide +kernel), List.mem_of_getElem? (i := 1305) (by decide +kernel), List.mem_of_getElem? (i := 1306) (by decide +kernel)⟩
theorem lw_p101 : lw_okq (⟨"LinkElectionModel", "follow", "(II)I"⟩, 27) := ⟨⟨by decide +kernel, by decide +kernel⟩, List.mem_of_getElem? (i := 982) (by decide +kernel), List.mem_of_getElem? (i := 1329) (by decide +kernel), List.mem_of_getElem? (i := 1330) (by decide +kernel)⟩
theorem lw_p102 : lw_okq (⟨"LinkElectionModel", "keepBindings", "()V"⟩, 27) := ⟨⟨by decide +kernel, by decide +kernel⟩, List.mem_of_getElem? (i := 982) (by decide +kernel), List.mem_of_getElem? (i := 1345) (by decide +kernel), List.mem_of_getElem? (i := 1346) (by decide +kernel)⟩
theorem lw_p103 : lw_okq (⟨"LinkElectionModel", "changedBut", "(I)I"⟩, 27) := ⟨⟨by decide +kernel, by decide +kernel⟩, List.mem_of_getElem? (i := 982) (by decide +kernel), List.mem_of_getElem? (i := 1349) (by decide +kernel), List.mem_of_getElem? (i := 1350) (by decide +kernel)⟩
theorem lw_p104 : lw_okq (⟨"LinkElectionModel", "put", "(III)I"⟩, 27) := ⟨⟨by decide +kernel, by decide +kernel⟩, List.mem_of_getElem? (i := 982) (by decide +kernel), List.mem_of_getElem? (i := 1361) (by decide +kernel), List.mem_of_getElem? (i := 1362) (by decide +kernel)⟩
def lw_privs_7 : List (MethodName × Nat) := [(⟨"LinkElectionModel", "isCandidate", "(II)Z"⟩, 27), (⟨"LinkElectionModel", "voteOf", "(II)I"⟩, 27), (⟨"LinkElectionModel", "isMissing", "(II)Z"⟩, 27), (⟨"LinkElectionModel", "layAll", "()V"⟩, 27), (⟨"LinkElectionModel", "layName", "(I)V"⟩, 27), (⟨"LinkElectionModel", "follow", "(II)I"⟩, 27), (⟨"LinkElectionModel", "keepBindings", "()V"⟩, 27), (⟨"LinkElectionModel", "changedBut", "(I)I"⟩, 27), (⟨"LinkElectionModel", "put", "(III)I"⟩, 27)]
theorem lw_r7 : ∀ q ∈ lw_privs_7, lw_okq q := List.forall_mem_cons.mpr ⟨lw_p96, List.forall_mem_cons.mpr ⟨lw_p97, List.forall_mem_cons.mpr ⟨lw_p98, List.forall_mem_cons.mpr ⟨lw_p99, List.forall_mem_cons.mpr ⟨lw_p100, List.forall_mem_cons.mpr ⟨lw_p101, List.forall_mem_cons.mpr ⟨lw_p102, List.forall_mem_cons.mpr ⟨lw_p103, List.forall_mem_cons.mpr ⟨lw_p104, fun _ h => absurd h List.not_mem_nil⟩⟩⟩⟩⟩⟩⟩⟩⟩
def lw_privs : List (MethodName × Nat) := lw_privs_1 ++ (lw_privs_2 ++ (lw_privs_3 ++ (lw_privs_4 ++ (lw_privs_5 ++ (lw_privs_6 ++ (lw_privs_7))))))
def lw_tbl : List Cond := k2_sels lw_privs ++ tables_1
theorem lw_privs_ok : ∀ q ∈ lw_privs, lw_okq q := by
  show ∀ q ∈ lw_privs_1 ++ (lw_privs_2 ++ (lw_privs_3 ++ (lw_privs_4 ++ (lw_privs_5 ++ (lw_privs_6 ++ (lw_privs_7)))))), lw_okq q
  exact List.forall_mem_append.mpr ⟨lw_r1, List.forall_mem_append.mpr ⟨lw_r2, List.forall_mem_append.mpr ⟨lw_r3, List.forall_mem_append.mpr ⟨lw_r4, List.forall_mem_append.mpr ⟨lw_r5, List.forall_mem_append.mpr ⟨lw_r6, lw_r7⟩⟩⟩⟩⟩⟩
/-! ===== BEGIN words of one list among another's, by their places ===== -/
theorem goodIn_r {big : List Cond} (ws : List Cond) (ps : List Nat) (hp : ws = ps.filterMap (fun i => big[i]?)) (h : ws.all goodWord = true) : GoodIn big ws := by
  intro w hw
  have h1 := List.all_eq_true.mp h w hw
  rw [hp] at hw
  obtain ⟨i, -, hi⟩ := List.mem_filterMap.mp hw
  have hm : w ∈ big := by first | exact List.mem_of_getElem? hi | exact List.getElem?_mem hi
  exact ⟨hm, good_of_word h1⟩
theorem goodIn_app {big a b : List Cond} (ha : GoodIn big a) (hb : GoodIn big b) : GoodIn big (a ++ b) := fun w h => (List.mem_append.mp h).elim (ha w) (hb w)
theorem goodIn_ca {big a b : List Cond} {c : Cond} (ha : GoodIn big (c :: a)) (hb : GoodIn big b) : GoodIn big (c :: (a ++ b)) := fun w h => (List.mem_cons.mp h).elim (fun e => ha w (List.mem_cons.mpr (Or.inl e))) (fun h => (List.mem_append.mp h).elim (fun h => ha w (List.mem_cons.mpr (Or.inr h))) (hb w))
theorem goodIn_sub {big ws : List Cond} (hm : ∀ w ∈ ws, w ∈ big) (h : ws.all goodWord = true) : GoodIn big ws := fun w hw => ⟨hm w hw, good_of_word (List.all_eq_true.mp h w hw)⟩
/-! ===== END ===== -/


/-! ===== BEGIN exceptions that leave a method, and their catching by the caller (launches without stack traces) ===== -/
section VXA
/-! The laws vx_back, vx_callV, vx_callS, vx_callSW, vx_throw0, vx_throwS follow proofs of the library, with one case more: JvmDerived/Free/Laws.lean (Back.of_free), Shelf42/LK1.lean (callV, callS), Shelf/KitTraced.lean (throwNew0V, throwNewS). -/
/-- where a method has thrown q: the class by its name, the cell, what was written, the world -/
def vx_T (XC : String → State → State → Prop) (st : State) (q : Addr) (t : State) (mc ms : Nat) (free : Addr → Prop) : Prop :=
  ∃ (E : String) (ce : Cell) (L : List Loc), XC E st t ∧ t.heap[q]? = some ce ∧ ce.vm = .none ∧ st.vm.findClass E = some ce.cls ∧ st.WarmedH t.vm ∧ st.sameButNew ({ t with vm := st.vm } : State) L mc ms ∧ ∀ z ∈ L, free z.base
def vx_Q (Qc : Array Value → State → Outcome → State → Prop) (XC : String → State → State → Prop) (mc ms : Nat) (free : Addr → Prop) : Array Value → State → Outcome → State → Prop := fun a st o t =>
  (Qc a st o t ∧ ∃ L, FrameEnd st o t L mc ms ∧ ∀ q ∈ L, free q.base) ∨ ∃ q, o = .threw q ∧ vx_T XC st q t mc ms free
/-- a callee that returns or throws -/
def vx_Met (l : Launch) (y : MethodName) (ws : List Cond) (rm : Room) (Pc : Array Value → State → Prop) (Qc : Array Value → State → Outcome → State → Prop) (XC : String → State → State → Prop) (mc ms : Nat) (free : Addr → Prop) : Prop :=
  MetFree l y (headSpec ws rm) Pc (fun _ _ _ _ _ => True) (vx_Q Qc XC mc ms free)
def vx_Post (XC : String → State → State → Prop) (mc ms : Nat) (free : Addr → Prop) : Pt → Array Value → Addr → Pt → Prop := fun A a q B =>
  ∃ (g : JFrame) (mk : MethodId) (t : State) (L : List Loc) (E : String) (ce : Cell), B.U.heap = t.heap ∧ B.U.vm = t.vm ∧ XC E (A.U.calling g mk a) t ∧ t.heap[q]? = some ce ∧ ce.vm = .none ∧ A.U.vm.findClass E = some ce.cls ∧ B.locs = A.locs ++ L ∧ (∀ z ∈ L, free z.base) ∧ B.cells = A.cells + mc ∧ B.slots = A.slots + ms
def vx_Back (l : Launch) (R : Room) (p : Program) (e : Env) (below : List Frame) (s : State) (sargs : Array Value) (y : MethodName) (len W9 : Nat)
    (Pre : Pt → Array Value → Prop) (Post : Pt → Array Value → Option Value → Pt → Prop) (PostX : Pt → Array Value → Addr → Pt → Prop) : Prop :=
  ∀ (m : MethodId) (meth : Method) (c : Code) (A : Pt) (g : JFrame) (ig : Instr) (mk : MethodId) (a : Array Value),
    Stand p l e R s m sargs below meth c A.U A.locs A.cells A.slots → g.method = m → g.locals.size = c.maxLocals → decode c.code g.pc = .ok (ig, len) →
    2 * g.monitorRoom + (g.stack.map fun v => v.category).sum ≤ W9 → A.U.methodNamed? y = some mk → Pre A a →
    (∃ (v : Option Value) (B : Pt), Stand p l e R s m sargs below meth c B.U B.locs B.cells B.slots ∧ Post A a v B ∧
      Steps p.tables e below (doInvoke e (A.U.setTop g) [] mk a).1 (B.U.setTop { g with pc := g.pc + len, stack := v.toList ++ g.stack })) ∨
    (∃ (q : Addr) (B : Pt), Stand p l e R s m sargs below meth c B.U B.locs B.cells B.slots ∧ PostX A a q B ∧
      Steps p.tables e below (doInvoke e (A.U.setTop g) [] mk a).1 ((B.U.setTop g).pushFrame (.throwing q)))
section Payer
variable {l : Launch} {R : Room} {p : Program} {e : Env} {below : List Frame} {s : State} {sargs : Array Value} {y : MethodName} {len W9 : Nat}
theorem vx_back {ws : List Cond} {rm : Room} {Pc : Array Value → State → Prop} {Qc : Array Value → State → Outcome → State → Prop} {XC : String → State → State → Prop} {mc ms : Nat} {free : Addr → Prop} {bytes : ByteArray} {maxL : Nat} {ret : Option FieldType}
    (hM : vx_Met l y ws rm Pc Qc XC mc ms free) (hblind : FrameBlind Pc) (hrc : rm.cells = mc) (hrs : rm.slots = ms)
    (hframes : rm.frames + 1 ≤ R.frames) (hlocals : W9 + (maxL + 11) + rm.locals ≤ R.locals)
    (hws : ∀ w ∈ ws, ∀ a' U, s.WarmedH U.vm → w.before a' U = true) (hcode : Cond.code y bytes maxL ret ∈ ws) (hinit : ∀ a' U, s.WarmedH U.vm → (Cond.initialized y.cls).before a' U = true) :
    vx_Back l R p e below s sargs y len W9 (PreOf R mc ms Pc) (PostOf Qc mc ms free) (vx_Post XC mc ms free) := by
  intro m meth c A g ig mk a X hg hsize hdg hW hn hp
  have h1 : (headSpec ws rm).pre.before a A.U = true := atoms_intro fun w hw => hws w hw _ _ X.warmed
  have h2 : (Cond.code y bytes maxL ret).before a A.U = true := hws _ hcode _ _ X.warmed
  have h3 : (Cond.initialized y.cls).before a A.U = true := hinit _ _ X.warmed
  have h4 : A.cells + (headSpec ws rm).room.cells ≤ R.cells := by rw [show (headSpec ws rm).room.cells = mc from hrc]; exact hp.1
  have h5 : A.slots + (headSpec ws rm).room.slots ≤ R.slots := by rw [show (headSpec ws rm).room.slots = ms from hrs]; exact hp.2.1
  have hPc : Pc a (A.U.calling g mk a) := hblind _ _ _ _ hp.2.2
  obtain ⟨U, Ls, c0, s0⟩ := A
  dsimp only [Pt.U, Pt.locs, Pt.cells, Pt.slots] at h1 h2 h3 h4 h5 X hn hPc ⊢
  obtain ⟨methY, cY, hmY, hcY, -, hlY, -, -, -, -⟩ := Cond.code_spec hn h2
  obtain ⟨kY, hkY, -⟩ := className_of_methodNamed hn
  have hinitY : kY.init = .initialized := Cond.initialized_spec (findClass_of_methodNamed hn) hkY h3
  have h : At U g.method c below := by rw [hg]; exact X.here
  have hlocals9 : W9 + (maxL + 11) + (headSpec ws rm).room.locals ≤ R.locals := hlocals
  have happ : (headSpec ws rm).appliesLoose y e.platform (U.calling g mk a) = true :=
    Spec.appliesLoose_calling (g := g) h hdg hn hkY hinitY
      (X.room_calling (g := g) (R' := (headSpec ws rm).room) hsize hmY hcY hframes (by rw [hlY]; omega) h4 h5) h1
  obtain ⟨mid, hmid⟩ := h.above
  have hfr : (U.setTop g).frames = (.java g :: mid) ++ below := by rw [State.frames_setTop' g h.top, hmid]; rfl
  obtain ⟨o, s₂, hsteps, -, hend, hq⟩ := Steps.callFree hM p X.admits X.cas X.clock (acts := []) hfr happ hPc trivial
  have hq' : vx_Q Qc XC mc ms free a (U.calling g mk a) o s₂ := hq
  rw [State.frames_setTop' g h.top] at hend
  obtain ⟨g₀, hg0⟩ := Option.isSome_iff_exists.mp h.top
  obtain ⟨r, hr⟩ := State.topJava?_eq_some.mp hg0
  have hr' : (({ U with heap := s₂.heap, slotsUsed := s₂.slotsUsed } : State).setVm s₂.vm).frames = .java g₀ :: r := hr
  rcases hq' with ⟨hqc, L, hfe, hL⟩ | ⟨q, rfl, E, ce, L, hx, hce, hcv, hcl, hW₂, hsm, hL⟩
  · obtain ⟨⟨v, rfl⟩, hW₂, e2, q2, q3, q4, q5, q6⟩ := id hfe
    have e3 : s₂ = ({ (U.calling g mk a).setFrames s₂.frames with heap := s₂.heap, slotsUsed := s₂.slotsUsed } : State).setVm s₂.vm := by
      have : s₂ = ({ s₂ with vm := (U.calling g mk a).vm } : State).setVm s₂.vm := rfl
      rw [e2] at this
      exact this
    obtain ⟨c₂, i₂, len₂, hc₂, hd₂, hf₂⟩ := hend
    have hW' : U.WarmedH s₂.vm := hW₂
    have hcc : c₂ = c := by
      have h1 : s₂.code? g.method = U.code? g.method := by
        rw [State.code?_eq, State.code?_eq, hW'.alike.method?]
      exact Option.some.inj (hc₂.symm.trans (h1.trans h.code))
    subst hcc
    have hlen : len₂ = len := by rw [hdg] at hd₂; cases hd₂; rfl
    subst hlen
    have hs₂ : s₂ = (({ U with heap := s₂.heap, slotsUsed := s₂.slotsUsed } : State).setVm s₂.vm).setTop { g with pc := g.pc + len₂, stack := v.toList ++ g.stack } := by
      refine e3.trans ?_
      rw [hf₂, State.calling_eq h.top, State.setFrames_setFrames, State.setTop_of_frames _ hr', hr]
      rfl
    have hsame : U.sameButNew ({ U with heap := s₂.heap, slotsUsed := s₂.slotsUsed } : State) L mc ms := by
      refine ⟨?_, q2, q3, q4, q5, q6⟩
      obtain ⟨t, ht, -⟩ := State.frames_cons hr
      show ({ U with heap := s₂.heap, slotsUsed := s₂.slotsUsed } : State) = { U.setFrames U.frames with heap := s₂.heap, slotsUsed := s₂.slotsUsed }
      rw [State.setFrames_self ht]
    subst hg
    refine Or.inl ⟨v, ⟨(({ U with heap := s₂.heap, slotsUsed := s₂.slotsUsed } : State).setVm s₂.vm), Ls ++ L, c0 + mc, s0 + ms⟩,
      ⟨X.admits, X.cas, X.clock, X.frames, X.room, X.hears, X.method, X.code, (X.here.setHeapUsed s₂.heap s₂.slotsUsed).setVm hW'.alike, X.tail, State.WarmedH.trans X.warmed hW', X.limits, X.bytes, X.same.trans (hsame.setVm s.vm)⟩,
      ⟨g, mk, s₂, L, rfl, rfl, hqc, rfl, hL, rfl, rfl⟩, ?_⟩
    show Steps p.tables e below _ ((({ U with heap := s₂.heap, slotsUsed := s₂.slotsUsed } : State).setVm s₂.vm).setTop { g with pc := g.pc + len₂, stack := v.toList ++ g.stack })
    rw [← hs₂]
    exact hsteps
  · obtain ⟨e2, q2, q3, q4, q5, q6⟩ := id hsm
    have e3 : s₂ = ({ (U.calling g mk a).setFrames s₂.frames with heap := s₂.heap, slotsUsed := s₂.slotsUsed } : State).setVm s₂.vm := by
      have : s₂ = ({ s₂ with vm := (U.calling g mk a).vm } : State).setVm s₂.vm := rfl
      rw [e2] at this
      exact this
    have hf₂ : s₂.frames = .throwing q :: .java g :: U.frames.tail := hend
    have hW' : U.WarmedH s₂.vm := hW₂
    have hs₂ : s₂ = ((({ U with heap := s₂.heap, slotsUsed := s₂.slotsUsed } : State).setVm s₂.vm).setTop g).pushFrame (.throwing q) := by
      refine e3.trans ?_
      rw [hf₂, State.calling_eq h.top, State.setFrames_setFrames, State.pushFrame, State.frames_setTop _ hr', State.setTop_of_frames _ hr', State.setFrames_setFrames, hr]
      rfl
    have hsame : U.sameButNew ({ U with heap := s₂.heap, slotsUsed := s₂.slotsUsed } : State) L mc ms := by
      refine ⟨?_, q2, q3, q4, q5, q6⟩
      obtain ⟨t, ht, -⟩ := State.frames_cons hr
      show ({ U with heap := s₂.heap, slotsUsed := s₂.slotsUsed } : State) = { U.setFrames U.frames with heap := s₂.heap, slotsUsed := s₂.slotsUsed }
      rw [State.setFrames_self ht]
    subst hg
    refine Or.inr ⟨q, ⟨(({ U with heap := s₂.heap, slotsUsed := s₂.slotsUsed } : State).setVm s₂.vm), Ls ++ L, c0 + mc, s0 + ms⟩,
      ⟨X.admits, X.cas, X.clock, X.frames, X.room, X.hears, X.method, X.code, (X.here.setHeapUsed s₂.heap s₂.slotsUsed).setVm hW'.alike, X.tail, State.WarmedH.trans X.warmed hW', X.limits, X.bytes, X.same.trans (hsame.setVm s.vm)⟩,
      ⟨g, mk, s₂, L, E, ce, rfl, rfl, hx, hce, hcv, hcl, rfl, hL, rfl, rfl⟩, ?_⟩
    show Steps p.tables e below _ (((({ U with heap := s₂.heap, slotsUsed := s₂.slotsUsed } : State).setVm s₂.vm).setTop g).pushFrame (.throwing q))
    rw [← hs₂]
    exact hsteps
end Payer
section Calls
variable {p : Program} {l : Launch} {e : Env} {R : Room} {s : State} {m : MethodId} {args : Array Value} {below : List Frame} {meth : Method} {c : Code} {T : State} {locs : List Loc} {cells slots : Nat}
theorem vx_callV (X : Stand p l e R s m args below meth c T locs cells slots) (hexec : p.tables.exec = Jvm.exec) {own C : String} {index : Nat} {y : MethodName} {bytes : ByteArray} {maxL : Nat} {ret : Option FieldType}
    (hown : s.vm.findClass own = some m.cls) (hlink : (Cond.methodLink own index y).before args s = true) (hinst : (Cond.instanceMethod y).before args s = true) (hsel : (Cond.selects C y y).before args s = true)
    (hcode : (Cond.code y bytes maxL ret).before args s = true) (hy : y.cls ≠ "java/lang/invoke/MethodHandle" ∧ y.cls ≠ "java/lang/invoke/VarHandle")
    {W9 : Nat} {Pre : Pt → Array Value → Prop} {Post : Pt → Array Value → Option Value → Pt → Prop} {PostX : Pt → Array Value → Addr → Pt → Prop} (hK : vx_Back l R p e below s args y 3 W9 Pre Post PostX)
    {b : Addr} {cellB : Cell} (hcell : T.heap[b]? = some cellB) (hobj : cellB.vm.isStatics = false) (hcls : s.vm.findClass C = some cellB.cls)
    {g : JFrame} (hg : g.method = m) (hsize : g.locals.size = c.maxLocals) {argsL rest : List Value} (hlen : ∀ sig, parseMethodDescriptor y.desc = some sig → argsL.length = sig.parameters.length)
    (hstack : g.stack = argsL.reverse ++ .ref b :: rest) (hW : 2 * g.monitorRoom + (rest.map fun v => v.category).sum ≤ W9) (hdg : decode c.code g.pc = .ok (.invokevirtual index, 3))
    (hpre : ∀ vm₁, s.WarmedH vm₁ → Pre ⟨T.setVm vm₁, locs, cells, slots⟩ (Value.ref b :: argsL).toArray) :
    (∃ (v : Option Value) (vm₁ : Vm) (B : Pt), s.WarmedH vm₁ ∧ Stand p l e R s m args below meth c B.U B.locs B.cells B.slots ∧ Post ⟨T.setVm vm₁, locs, cells, slots⟩ (Value.ref b :: argsL).toArray v B ∧
      ∀ target, Steps p.tables e below (B.U.setTop { g with pc := g.pc + 3, stack := v.toList ++ rest }) target → Steps p.tables e below (T.setTop g) target) ∨
    (∃ (q : Addr) (vm₁ : Vm) (B : Pt), s.WarmedH vm₁ ∧ Stand p l e R s m args below meth c B.U B.locs B.cells B.slots ∧ PostX ⟨T.setVm vm₁, locs, cells, slots⟩ (Value.ref b :: argsL).toArray q B ∧
      Steps p.tables e below (T.setTop g) ((B.U.setTop { g with stack := rest }).pushFrame (.throwing q))) := by
  obtain ⟨mk, methM, hnamed, hmethM, hstM, habM⟩ := Cond.instanceMethod_spec hinst
  obtain ⟨methM', cM, hmethM', -, -, -, -, -, -, hsigM⟩ := Cond.code_spec hnamed hcode
  cases hmethM.symm.trans hmethM'
  obtain ⟨c2, r2, m2, q1, q2, q3, q4, kP, hkP, hkPi⟩ := Cond.selects_spec hsel
  cases hcls.symm.trans q1
  cases (State.methodFound?_of_named hnamed hy).symm.trans q2
  cases hnamed.symm.trans q3
  have hselP : selectMethod e.platform s.vm cellB.cls mk = .method mk := by rw [Launch.admits_selectMethod X.admits]; exact q4
  obtain ⟨vm₁, X₁, hstep₁⟩ := X.invokevirtual hexec hown hlink hnamed hmethM hstM hkP hkPi hy (a := b) (cell := cellB) hcell
    (fun z h => by rw [h] at hobj; cases hobj) hselP hmethM habM hkP hkPi (g := g) hg (argsL := argsL) (rest := rest) (hlen _ hsigM) hstack hdg
  rcases hK m meth c ⟨T.setVm vm₁, locs, cells, slots⟩ { g with stack := rest } (.invokevirtual index) mk (Value.ref b :: argsL).toArray X₁ hg hsize hdg hW (X₁.named hnamed) (hpre vm₁ X₁.warmed) with ⟨v, B, X', hpost, hsteps⟩ | ⟨q, B, X', hpost, hsteps⟩
  · exact Or.inl ⟨v, vm₁, B, X₁.warmed, X', hpost, fun target h => hstep₁ _ fun acts => by rw [doInvoke_state]; exact hsteps.trans h⟩
  · exact Or.inr ⟨q, vm₁, B, X₁.warmed, X', hpost, hstep₁ _ fun acts => by rw [doInvoke_state]; exact hsteps⟩
theorem vx_callS (X : Stand p l e R s m args below meth c T locs cells slots) (hexec : p.tables.exec = Jvm.exec) {own : String} {index : Nat} {y : MethodName} {bytes : ByteArray} {maxL : Nat} {ret : Option FieldType}
    (hown : s.vm.findClass own = some m.cls) (hlink : (Cond.methodLink own index y).before args s = true) (hstat : (Cond.static y).before args s = true) (hinit : (Cond.initialized y.cls).before args s = true)
    (hcode : (Cond.code y bytes maxL ret).before args s = true) (hy : y.cls ≠ "java/lang/invoke/MethodHandle" ∧ y.cls ≠ "java/lang/invoke/VarHandle")
    {W9 : Nat} {Pre : Pt → Array Value → Prop} {Post : Pt → Array Value → Option Value → Pt → Prop} {PostX : Pt → Array Value → Addr → Pt → Prop} (hK : vx_Back l R p e below s args y 3 W9 Pre Post PostX)
    {g : JFrame} (hg : g.method = m) (hsize : g.locals.size = c.maxLocals) {argsL rest : List Value} (hlen : ∀ sig, parseMethodDescriptor y.desc = some sig → argsL.length = sig.parameters.length)
    (hstack : g.stack = argsL.reverse ++ rest) (hW : 2 * g.monitorRoom + (rest.map fun v => v.category).sum ≤ W9) (hdg : decode c.code g.pc = .ok (.invokestatic index, 3))
    (hpre : ∀ vm₁, s.WarmedH vm₁ → Pre ⟨T.setVm vm₁, locs, cells, slots⟩ argsL.toArray) :
    (∃ (v : Option Value) (vm₁ : Vm) (B : Pt), s.WarmedH vm₁ ∧ Stand p l e R s m args below meth c B.U B.locs B.cells B.slots ∧ Post ⟨T.setVm vm₁, locs, cells, slots⟩ argsL.toArray v B ∧
      ∀ target, Steps p.tables e below (B.U.setTop { g with pc := g.pc + 3, stack := v.toList ++ rest }) target → Steps p.tables e below (T.setTop g) target) ∨
    (∃ (q : Addr) (vm₁ : Vm) (B : Pt), s.WarmedH vm₁ ∧ Stand p l e R s m args below meth c B.U B.locs B.cells B.slots ∧ PostX ⟨T.setVm vm₁, locs, cells, slots⟩ argsL.toArray q B ∧
      Steps p.tables e below (T.setTop g) ((B.U.setTop { g with stack := rest }).pushFrame (.throwing q))) := by
  obtain ⟨mk, hnamed⟩ := Cond.code_named hcode
  obtain ⟨methM, cM, hmethM, -, -, -, -, -, -, hsigM⟩ := Cond.code_spec hnamed hcode
  have hstatic : methM.isStatic = true := Cond.static_spec hnamed hmethM hstat
  obtain ⟨kP, hkP, -⟩ := className_of_methodNamed hnamed
  have hinitP : kP.init = .initialized := Cond.initialized_spec (findClass_of_methodNamed hnamed) hkP hinit
  obtain ⟨vm₁, X₁, hstep₁⟩ := X.invokestatic hexec hown hlink hnamed hmethM hstatic hkP hinitP hy (g := g) hg (argsL := argsL) (rest := rest) (hlen _ hsigM) hstack hdg
  rcases hK m meth c ⟨T.setVm vm₁, locs, cells, slots⟩ { g with stack := rest } (.invokestatic index) mk argsL.toArray X₁ hg hsize hdg hW (X₁.named hnamed) (hpre vm₁ X₁.warmed) with ⟨v, B, X', hpost, hsteps⟩ | ⟨q, B, X', hpost, hsteps⟩
  · exact Or.inl ⟨v, vm₁, B, X₁.warmed, X', hpost, fun target h => hstep₁ _ fun acts => by rw [doInvoke_state]; exact hsteps.trans h⟩
  · exact Or.inr ⟨q, vm₁, B, X₁.warmed, X', hpost, hstep₁ _ fun acts => by rw [doInvoke_state]; exact hsteps⟩
end Calls
theorem vx_cls {s : State} {T : State} {vm₁ : Vm} {E : String} {k : ClassId} (hW : s.WarmedH vm₁) (h : (T.setVm vm₁).vm.findClass E = some k) : s.vm.findClass E = some k := by
  have h1 : vm₁.findClass E = some k := h
  rw [hW.alike.findClass] at h1
  exact h1
/-- the method's frame g, with q thrown over it -/
def vx_W (p : Program) (l : Launch) (e : Env) (R : Room) (s : State) (m : MethodId) (args : Array Value) (below : List Frame) (meth : Method) (c : Code) (H : Heap) (locs : List Loc) (cells slots : Nat) (Q : State → Prop) (g : JFrame) (q : Addr) : Prop :=
  ∀ T : State, T.heap = H → Stand p l e R s m args below meth c T locs cells slots → ∃ t, Steps p.tables e below ((T.setTop g).pushFrame (.throwing q)) t ∧ Q t
def vx_Run (p : Program) (l : Launch) (e : Env) (R : Room) (s : State) (m : MethodId) (args : Array Value) (below : List Frame) (meth : Method) (c : Code) (H : Heap) (locs : List Loc) (cells slots mc ms : Nat) (g : JFrame) (rest : List Value) (Qa : State → Outcome → State → Prop) (XC : String → State → State → Prop) (free : Addr → Prop) : Prop :=
  ∀ T : State, T.heap = H → Stand p l e R s m args below meth c T locs cells slots →
    (∃ (v : Option Value) (st₀ t T' : State) (L : List Loc), st₀.heap = H ∧ Stand p l e R s m args below meth c T' (locs ++ L) (cells + mc) (slots + ms) ∧ (∀ q ∈ L, free q.base) ∧ T'.heap = t.heap ∧ T'.vm = t.vm ∧ Qa st₀ (.returned v) t ∧
      Goes p e below T g T' { g with pc := g.pc + 3, stack := v.toList ++ rest }) ∨
    (∃ (q : Addr) (st₀ t T' : State) (L : List Loc) (E : String) (ce : Cell), st₀.heap = H ∧ Stand p l e R s m args below meth c T' (locs ++ L) (cells + mc) (slots + ms) ∧ (∀ z ∈ L, free z.base) ∧ T'.heap = t.heap ∧ T'.vm = t.vm ∧ XC E st₀ t ∧ t.heap[q]? = some ce ∧ ce.vm = .none ∧ s.vm.findClass E = some ce.cls ∧
      Steps p.tables e below (T.setTop g) ((T'.setTop { g with stack := rest }).pushFrame (.throwing q)))
def vx_X {S : Type} (px : S → Prop) (B : String → S → State → Prop) (A : Nat → Prop) : String → State → State → Prop := fun E st t => ∃ u : S, px u ∧ B E u t ∧ va_F A st t
section Runs
variable {p : Program} {l : Launch} {e : Env} {R : Room} {s : State} {m : MethodId} {args : Array Value} {below : List Frame} {meth : Method} {c : Code} {H : Heap} {locs : List Loc} {cells slots : Nat}
variable {y : MethodName} {bytes cc : ByteArray} {maxL nL mc ms n index : Nat} {ret : Option FieldType} {ws : List Cond} {rm : Room} {Pc : Array Value → State → Prop} {Qc : Array Value → State → Outcome → State → Prop} {XC : String → State → State → Prop} {free : Addr → Prop} {Ts : List Cond} {own C : String} {b : Addr} {As rest : List Value} {g : JFrame}
theorem vx_callBack (cb : CallB R s args own index y bytes maxL ret ws rm mc ms n) (hM : vx_Met l y ws rm Pc Qc XC mc ms free) (hbl : FrameBlind Pc) : vx_Back l R p e below s args y 3 8 (PreOf R mc ms Pc) (PostOf Qc mc ms free) (vx_Post XC mc ms free) := by
  obtain ⟨hrc, hrs, hfr, hlo, hws, hcw, -, hini, -⟩ := cb
  exact vx_back (bytes := bytes) (maxL := maxL) (ret := ret) hM hbl hrc hrs hfr hlo hws hcw (fun a' U hW => word_at hW (Or.inl (by first | rfl | simp [Cond.onTables, Cond.keeps, Cond.steady])) hini)
theorem vx_runV (S : CallFix p m c cc nL s args Ts own) (hM : vx_Met l y ws rm Pc Qc XC mc ms free) (cw : CallW R s args own C index y bytes maxL ret ws rm mc ms n) (hp : PreV s H C b Pc As)
    (hg : g.method = m) (hn : As.length = n) (hsize : g.locals.size = nL) (hstack : g.stack = As.reverse ++ .ref b :: rest) (hW : 2 * g.monitorRoom + (rest.map fun v => v.category).sum ≤ 8) (hdg : decode cc g.pc = .ok (.invokevirtual index, 3)) (hf : cells + mc ≤ R.cells ∧ slots + ms ≤ R.slots) :
    vx_Run p l e R s m args below meth c H locs cells slots mc ms g rest (Qc (Value.ref b :: As).toArray) XC free := by
  have hK : vx_Back l R p e below s args y 3 8 (PreOf R mc ms Pc) (PostOf Qc mc ms free) (vx_Post XC mc ms free) := vx_callBack cw.1 hM hp.1
  obtain ⟨⟨-, -, -, -, -, -, hcode, -, hy, hlen, hl⟩, hin, hse⟩ := cw
  obtain ⟨hx, hb, hml, ho, -⟩ := S
  obtain ⟨-, ⟨cellB, hcB, hoB, hclB⟩, hPc⟩ := hp
  intro T hT X
  rcases vx_callV X hx (C := C) (bytes := bytes) (maxL := maxL) (ret := ret) ho hl hin hse hcode hy hK (by rw [hT]; exact hcB) hoB hclB hg (hsize.trans hml.symm) (argsL := As) (rest := rest) (fun sig h => hn.trans (hlen sig h)) hstack hW (by rw [hb]; exact hdg)
    (fun vm₁ hW₁ => ⟨hf.1, hf.2, hPc (T.setVm vm₁) hT hW₁⟩) with ⟨v, vm₁, ⟨U', l2, c2, s2⟩, hW₁, X', ⟨g', mk, t, L, e1, e2, hq, h1, hL, h2, h3⟩, st⟩ | ⟨q, vm₁, ⟨U', l2, c2, s2⟩, hW₁, X', ⟨g', mk, t, L, E, ce, e1, e2, hq, hce, hcv, hcl, h1, hL, h2, h3⟩, st⟩
  · dsimp only [Pt.U, Pt.locs, Pt.cells, Pt.slots] at X' e1 e2 h1 h2 h3 st
    subst h1; subst h2; subst h3
    exact Or.inl ⟨v, (T.setVm vm₁).calling g' mk (Value.ref b :: As).toArray, t, U', L, hT, X', hL, e1, e2, hq, st⟩
  · dsimp only [Pt.U, Pt.locs, Pt.cells, Pt.slots] at X' e1 e2 h1 h2 h3 st hcl
    subst h1; subst h2; subst h3
    exact Or.inr ⟨q, (T.setVm vm₁).calling g' mk (Value.ref b :: As).toArray, t, U', L, E, ce, hT, X', hL, e1, e2, hq, hce, hcv, vx_cls hW₁ hcl, st⟩
theorem vx_runS (S : CallFix p m c cc nL s args Ts own) (hM : vx_Met l y ws rm Pc Qc XC mc ms free) (cw : CallB R s args own index y bytes maxL ret ws rm mc ms n ∧ (Cond.static y).before args s = true) (hp : PreS s H Pc As)
    (hg : g.method = m) (hn : As.length = n) (hsize : g.locals.size = nL) (hstack : g.stack = As.reverse ++ rest) (hW : 2 * g.monitorRoom + (rest.map fun v => v.category).sum ≤ 8) (hdg : decode cc g.pc = .ok (.invokestatic index, 3)) (hf : cells + mc ≤ R.cells ∧ slots + ms ≤ R.slots) :
    vx_Run p l e R s m args below meth c H locs cells slots mc ms g rest (Qc As.toArray) XC free := by
  have hK : vx_Back l R p e below s args y 3 8 (PreOf R mc ms Pc) (PostOf Qc mc ms free) (vx_Post XC mc ms free) := vx_callBack cw.1 hM hp.1
  obtain ⟨⟨-, -, -, -, -, -, hcode, hini, hy, hlen, hl⟩, hstt⟩ := cw
  obtain ⟨hx, hb, hml, ho, -⟩ := S
  intro T hT X
  rcases vx_callS X hx (bytes := bytes) (maxL := maxL) (ret := ret) ho hl hstt hini hcode hy hK hg (hsize.trans hml.symm) (argsL := As) (rest := rest) (fun sig h => hn.trans (hlen sig h)) hstack hW (by rw [hb]; exact hdg)
    (fun vm₁ hW₁ => ⟨hf.1, hf.2, hp.2 (T.setVm vm₁) hT hW₁⟩) with ⟨v, vm₁, ⟨U', l2, c2, s2⟩, hW₁, X', ⟨g', mk, t, L, e1, e2, hq, h1, hL, h2, h3⟩, st⟩ | ⟨q, vm₁, ⟨U', l2, c2, s2⟩, hW₁, X', ⟨g', mk, t, L, E, ce, e1, e2, hq, hce, hcv, hcl, h1, hL, h2, h3⟩, st⟩
  · dsimp only [Pt.U, Pt.locs, Pt.cells, Pt.slots] at X' e1 e2 h1 h2 h3 st
    subst h1; subst h2; subst h3
    exact Or.inl ⟨v, (T.setVm vm₁).calling g' mk As.toArray, t, U', L, hT, X', hL, e1, e2, hq, st⟩
  · dsimp only [Pt.U, Pt.locs, Pt.cells, Pt.slots] at X' e1 e2 h1 h2 h3 st hcl
    subst h1; subst h2; subst h3
    exact Or.inr ⟨q, (T.setVm vm₁).calling g' mk As.toArray, t, U', L, E, ce, hT, X', hL, e1, e2, hq, hce, hcv, vx_cls hW₁ hcl, st⟩
end Runs
section Rows
variable {p : Program} {l : Launch} {e : Env} {R : Room} {s : State} {m : MethodId} {args : Array Value} {below : List Frame} {meth : Method} {c : Code} {H : Heap} {locs : List Loc} {cells slots : Nat} {Q : State → Prop}
variable {mc ms : Nat} {free : Addr → Prop} {A0 A1 : Nat → Prop} {H0 : Heap} {a : Array Value} {pc : Nat} {ls : Array Slot} {st0 rest : List Value}
theorem vx_keep {st₀ t T' : State} {L : List Loc} (h0 : st₀.heap = H) (e1 : T'.heap = t.heap) (hS : va_S A0 H0 H locs) (hA : ∀ q, q < H.size → A1 q → A0 q) (hf : ∀ q, free q → A0 q) (hL : ∀ q ∈ L, free q.base) (hF : va_F A1 st₀ t) :
    H.size ≤ T'.heap.size ∧ (∀ q : Nat, q < H.size → ¬ A1 q → T'.heap[q]? = H[q]?) ∧ va_S A0 H0 T'.heap (locs ++ L) := by
  obtain ⟨hz, hk⟩ := hF
  rw [h0] at hz hk
  exact ⟨by rw [e1]; exact hz, fun q h1 h2 => by rw [e1]; exact hk q h1 h2,
    ⟨Nat.le_trans hS.1 (by rw [e1]; exact hz), fun q h1 h2 => by rw [e1, hk q (Nat.lt_of_lt_of_le h1 hS.1) (fun z => h2 (hA q (Nat.lt_of_lt_of_le h1 hS.1) z))]; exact hS.2.1 q h1 h2, fun q hq => by
      rcases List.mem_append.mp hq with h | h
      · exact hS.2.2 q h
      · exact hf _ (hL q h)⟩⟩
theorem vx_calli {S SX : Type} {post : Int32 → S → Prop} {px : SX → Prop} {B : S → State → Prop} {BX : String → SX → State → Prop} {AX : Nat → Prop} (hr : vx_Run p l e R s m args below meth c H locs cells slots mc ms (F0 m pc ls st0) rest (va_Qi post B A1 a) (vx_X px BX AX) free) (hS : va_S A0 H0 H locs) (hA : ∀ q, q < H.size → A1 q → A0 q) (hf : ∀ q, free q → A0 q) (hAX : ∀ q, q < H.size → AX q → A0 q)
    (kx : ∀ (E : String) (ce : Cell) (q9 : Addr) (u : SX) (t : State) (H1 : Heap) (locs1 : List Loc), t.heap = H1 → s.vm.Alike t.vm → px u → BX E u t → H.size ≤ H1.size → (∀ q : Nat, q < H.size → ¬ AX q → H1[q]? = H[q]?) → va_S A0 H0 H1 locs1 → H1[q9]? = some ce → ce.vm = .none → s.vm.findClass E = some ce.cls → vx_W p l e R s m args below meth c H1 locs1 (cells + mc) (slots + ms) Q (F0 m pc ls rest) q9)
    (kk : ∀ (r : Int32) (u : S) (t : State) (H1 : Heap) (locs1 : List Loc), t.heap = H1 → s.vm.Alike t.vm → post r u → B u t → H.size ≤ H1.size → (∀ q : Nat, q < H.size → ¬ A1 q → H1[q]? = H[q]?) → va_S A0 H0 H1 locs1 → W p l e R s m args below meth c H1 locs1 (cells + mc) (slots + ms) Q (F0 m (pc + 3) ls (.int r :: rest))) : W p l e R s m args below meth c H locs cells slots Q (F0 m pc ls st0) := by
  intro T hT X
  rcases hr T hT X with ⟨v, st₀, t, T', L, h0, X', hL, e1, e2, ⟨⟨r, u, hv, hp, hb⟩, hF⟩, st⟩ | ⟨q, st₀, t, T', L, E, ce, h0, X', hL, e1, e2, ⟨u, hp, hb, hF⟩, hce, hcv, hcl, st⟩
  · cases hv
    obtain ⟨k1, k2, k3⟩ := vx_keep h0 e1 hS hA hf hL hF
    obtain ⟨t2, a1, b1⟩ := kk r u t T'.heap (locs ++ L) e1.symm (by rw [← e2]; exact X'.warmed.alike) hp hb k1 k2 k3 T' rfl X'
    exact ⟨t2, st t2 a1, b1⟩
  · obtain ⟨k1, k2, k3⟩ := vx_keep h0 e1 hS hAX hf hL hF
    obtain ⟨t2, a1, b1⟩ := kx E ce q u t T'.heap (locs ++ L) e1.symm (by rw [← e2]; exact X'.warmed.alike) hp hb k1 k2 k3 (by rw [e1]; exact hce) hcv hcl T' rfl X'
    exact ⟨t2, st.trans a1, b1⟩
theorem vx_calll {S SX : Type} {post : Int64 → S → Prop} {px : SX → Prop} {B : S → State → Prop} {BX : String → SX → State → Prop} {AX : Nat → Prop} (hr : vx_Run p l e R s m args below meth c H locs cells slots mc ms (F0 m pc ls st0) rest (va_Ql post B A1 a) (vx_X px BX AX) free) (hS : va_S A0 H0 H locs) (hA : ∀ q, q < H.size → A1 q → A0 q) (hf : ∀ q, free q → A0 q) (hAX : ∀ q, q < H.size → AX q → A0 q)
    (kx : ∀ (E : String) (ce : Cell) (q9 : Addr) (u : SX) (t : State) (H1 : Heap) (locs1 : List Loc), t.heap = H1 → s.vm.Alike t.vm → px u → BX E u t → H.size ≤ H1.size → (∀ q : Nat, q < H.size → ¬ AX q → H1[q]? = H[q]?) → va_S A0 H0 H1 locs1 → H1[q9]? = some ce → ce.vm = .none → s.vm.findClass E = some ce.cls → vx_W p l e R s m args below meth c H1 locs1 (cells + mc) (slots + ms) Q (F0 m pc ls rest) q9)
    (kk : ∀ (r : Int64) (u : S) (t : State) (H1 : Heap) (locs1 : List Loc), t.heap = H1 → s.vm.Alike t.vm → post r u → B u t → H.size ≤ H1.size → (∀ q : Nat, q < H.size → ¬ A1 q → H1[q]? = H[q]?) → va_S A0 H0 H1 locs1 → W p l e R s m args below meth c H1 locs1 (cells + mc) (slots + ms) Q (F0 m (pc + 3) ls (.long r :: rest))) : W p l e R s m args below meth c H locs cells slots Q (F0 m pc ls st0) := by
  intro T hT X
  rcases hr T hT X with ⟨v, st₀, t, T', L, h0, X', hL, e1, e2, ⟨⟨r, u, hv, hp, hb⟩, hF⟩, st⟩ | ⟨q, st₀, t, T', L, E, ce, h0, X', hL, e1, e2, ⟨u, hp, hb, hF⟩, hce, hcv, hcl, st⟩
  · cases hv
    obtain ⟨k1, k2, k3⟩ := vx_keep h0 e1 hS hA hf hL hF
    obtain ⟨t2, a1, b1⟩ := kk r u t T'.heap (locs ++ L) e1.symm (by rw [← e2]; exact X'.warmed.alike) hp hb k1 k2 k3 T' rfl X'
    exact ⟨t2, st t2 a1, b1⟩
  · obtain ⟨k1, k2, k3⟩ := vx_keep h0 e1 hS hAX hf hL hF
    obtain ⟨t2, a1, b1⟩ := kx E ce q u t T'.heap (locs ++ L) e1.symm (by rw [← e2]; exact X'.warmed.alike) hp hb k1 k2 k3 (by rw [e1]; exact hce) hcv hcl T' rfl X'
    exact ⟨t2, st.trans a1, b1⟩
theorem vx_callf {S SX : Type} {post : UInt32 → S → Prop} {px : SX → Prop} {B : S → State → Prop} {BX : String → SX → State → Prop} {AX : Nat → Prop} (hr : vx_Run p l e R s m args below meth c H locs cells slots mc ms (F0 m pc ls st0) rest (va_Qf post B A1 a) (vx_X px BX AX) free) (hS : va_S A0 H0 H locs) (hA : ∀ q, q < H.size → A1 q → A0 q) (hf : ∀ q, free q → A0 q) (hAX : ∀ q, q < H.size → AX q → A0 q)
    (kx : ∀ (E : String) (ce : Cell) (q9 : Addr) (u : SX) (t : State) (H1 : Heap) (locs1 : List Loc), t.heap = H1 → s.vm.Alike t.vm → px u → BX E u t → H.size ≤ H1.size → (∀ q : Nat, q < H.size → ¬ AX q → H1[q]? = H[q]?) → va_S A0 H0 H1 locs1 → H1[q9]? = some ce → ce.vm = .none → s.vm.findClass E = some ce.cls → vx_W p l e R s m args below meth c H1 locs1 (cells + mc) (slots + ms) Q (F0 m pc ls rest) q9)
    (kk : ∀ (r : UInt32) (u : S) (t : State) (H1 : Heap) (locs1 : List Loc), t.heap = H1 → s.vm.Alike t.vm → post r u → B u t → H.size ≤ H1.size → (∀ q : Nat, q < H.size → ¬ A1 q → H1[q]? = H[q]?) → va_S A0 H0 H1 locs1 → W p l e R s m args below meth c H1 locs1 (cells + mc) (slots + ms) Q (F0 m (pc + 3) ls (.float r :: rest))) : W p l e R s m args below meth c H locs cells slots Q (F0 m pc ls st0) := by
  intro T hT X
  rcases hr T hT X with ⟨v, st₀, t, T', L, h0, X', hL, e1, e2, ⟨⟨r, u, hv, hp, hb⟩, hF⟩, st⟩ | ⟨q, st₀, t, T', L, E, ce, h0, X', hL, e1, e2, ⟨u, hp, hb, hF⟩, hce, hcv, hcl, st⟩
  · cases hv
    obtain ⟨k1, k2, k3⟩ := vx_keep h0 e1 hS hA hf hL hF
    obtain ⟨t2, a1, b1⟩ := kk r u t T'.heap (locs ++ L) e1.symm (by rw [← e2]; exact X'.warmed.alike) hp hb k1 k2 k3 T' rfl X'
    exact ⟨t2, st t2 a1, b1⟩
  · obtain ⟨k1, k2, k3⟩ := vx_keep h0 e1 hS hAX hf hL hF
    obtain ⟨t2, a1, b1⟩ := kx E ce q u t T'.heap (locs ++ L) e1.symm (by rw [← e2]; exact X'.warmed.alike) hp hb k1 k2 k3 (by rw [e1]; exact hce) hcv hcl T' rfl X'
    exact ⟨t2, st.trans a1, b1⟩
theorem vx_calld {S SX : Type} {post : UInt64 → S → Prop} {px : SX → Prop} {B : S → State → Prop} {BX : String → SX → State → Prop} {AX : Nat → Prop} (hr : vx_Run p l e R s m args below meth c H locs cells slots mc ms (F0 m pc ls st0) rest (va_Qd post B A1 a) (vx_X px BX AX) free) (hS : va_S A0 H0 H locs) (hA : ∀ q, q < H.size → A1 q → A0 q) (hf : ∀ q, free q → A0 q) (hAX : ∀ q, q < H.size → AX q → A0 q)
    (kx : ∀ (E : String) (ce : Cell) (q9 : Addr) (u : SX) (t : State) (H1 : Heap) (locs1 : List Loc), t.heap = H1 → s.vm.Alike t.vm → px u → BX E u t → H.size ≤ H1.size → (∀ q : Nat, q < H.size → ¬ AX q → H1[q]? = H[q]?) → va_S A0 H0 H1 locs1 → H1[q9]? = some ce → ce.vm = .none → s.vm.findClass E = some ce.cls → vx_W p l e R s m args below meth c H1 locs1 (cells + mc) (slots + ms) Q (F0 m pc ls rest) q9)
    (kk : ∀ (r : UInt64) (u : S) (t : State) (H1 : Heap) (locs1 : List Loc), t.heap = H1 → s.vm.Alike t.vm → post r u → B u t → H.size ≤ H1.size → (∀ q : Nat, q < H.size → ¬ A1 q → H1[q]? = H[q]?) → va_S A0 H0 H1 locs1 → W p l e R s m args below meth c H1 locs1 (cells + mc) (slots + ms) Q (F0 m (pc + 3) ls (.double r :: rest))) : W p l e R s m args below meth c H locs cells slots Q (F0 m pc ls st0) := by
  intro T hT X
  rcases hr T hT X with ⟨v, st₀, t, T', L, h0, X', hL, e1, e2, ⟨⟨r, u, hv, hp, hb⟩, hF⟩, st⟩ | ⟨q, st₀, t, T', L, E, ce, h0, X', hL, e1, e2, ⟨u, hp, hb, hF⟩, hce, hcv, hcl, st⟩
  · cases hv
    obtain ⟨k1, k2, k3⟩ := vx_keep h0 e1 hS hA hf hL hF
    obtain ⟨t2, a1, b1⟩ := kk r u t T'.heap (locs ++ L) e1.symm (by rw [← e2]; exact X'.warmed.alike) hp hb k1 k2 k3 T' rfl X'
    exact ⟨t2, st t2 a1, b1⟩
  · obtain ⟨k1, k2, k3⟩ := vx_keep h0 e1 hS hAX hf hL hF
    obtain ⟨t2, a1, b1⟩ := kx E ce q u t T'.heap (locs ++ L) e1.symm (by rw [← e2]; exact X'.warmed.alike) hp hb k1 k2 k3 (by rw [e1]; exact hce) hcv hcl T' rfl X'
    exact ⟨t2, st.trans a1, b1⟩
theorem vx_callv {S SX : Type} {post : S → Prop} {px : SX → Prop} {B : S → State → Prop} {BX : String → SX → State → Prop} {AX : Nat → Prop} (hr : vx_Run p l e R s m args below meth c H locs cells slots mc ms (F0 m pc ls st0) rest (va_Qv post B A1 a) (vx_X px BX AX) free) (hS : va_S A0 H0 H locs) (hA : ∀ q, q < H.size → A1 q → A0 q) (hf : ∀ q, free q → A0 q) (hAX : ∀ q, q < H.size → AX q → A0 q)
    (kx : ∀ (E : String) (ce : Cell) (q9 : Addr) (u : SX) (t : State) (H1 : Heap) (locs1 : List Loc), t.heap = H1 → s.vm.Alike t.vm → px u → BX E u t → H.size ≤ H1.size → (∀ q : Nat, q < H.size → ¬ AX q → H1[q]? = H[q]?) → va_S A0 H0 H1 locs1 → H1[q9]? = some ce → ce.vm = .none → s.vm.findClass E = some ce.cls → vx_W p l e R s m args below meth c H1 locs1 (cells + mc) (slots + ms) Q (F0 m pc ls rest) q9)
    (kk : ∀ (u : S) (t : State) (H1 : Heap) (locs1 : List Loc), t.heap = H1 → s.vm.Alike t.vm → post u → B u t → H.size ≤ H1.size → (∀ q : Nat, q < H.size → ¬ A1 q → H1[q]? = H[q]?) → va_S A0 H0 H1 locs1 → W p l e R s m args below meth c H1 locs1 (cells + mc) (slots + ms) Q (F0 m (pc + 3) ls (rest))) : W p l e R s m args below meth c H locs cells slots Q (F0 m pc ls st0) := by
  intro T hT X
  rcases hr T hT X with ⟨v, st₀, t, T', L, h0, X', hL, e1, e2, ⟨⟨u, hv, hp, hb⟩, hF⟩, st⟩ | ⟨q, st₀, t, T', L, E, ce, h0, X', hL, e1, e2, ⟨u, hp, hb, hF⟩, hce, hcv, hcl, st⟩
  · cases hv
    obtain ⟨k1, k2, k3⟩ := vx_keep h0 e1 hS hA hf hL hF
    obtain ⟨t2, a1, b1⟩ := kk u t T'.heap (locs ++ L) e1.symm (by rw [← e2]; exact X'.warmed.alike) hp hb k1 k2 k3 T' rfl X'
    exact ⟨t2, st t2 a1, b1⟩
  · obtain ⟨k1, k2, k3⟩ := vx_keep h0 e1 hS hAX hf hL hF
    obtain ⟨t2, a1, b1⟩ := kx E ce q u t T'.heap (locs ++ L) e1.symm (by rw [← e2]; exact X'.warmed.alike) hp hb k1 k2 k3 (by rw [e1]; exact hce) hcv hcl T' rfl X'
    exact ⟨t2, st.trans a1, b1⟩
/-- caught by the row x of this method's table; the rows ahead don't take it -/
theorem vx_catch {own name : String} {E : String} {ce : Cell} {q : Addr} (hown : s.vm.findClass own = some m.cls) (pre : List ExceptionTableEntry) (x : ExceptionTableEntry) (suf : List ExceptionTableEntry) (hsplit : c.exceptionTable.toList = pre ++ x :: suf)
    (hpass : ∀ z ∈ pre, covers z pc = false ∨ (z.catchType ≠ 0 ∧ ∃ nm : String, (Cond.classLink own z.catchType nm).before args s = true ∧ va_Nc E nm s)) (hx : covers x pc = true) (h0 : x.catchType ≠ 0)
    (hlink : (Cond.classLink own x.catchType name).before args s = true) (hcast : (Cond.castable E name).before args s = true) (hcell : H[q]? = some ce) (hv : ce.vm = .none) (hcl : s.vm.findClass E = some ce.cls)
    (kk : W p l e R s m args below meth c H locs cells slots Q (F0 m x.handlerPc ls [.ref q])) : vx_W p l e R s m args below meth c H locs cells slots Q (F0 m pc ls rest) q := by
  intro T hT X
  have hpl : e.platform.magicAccessors = ({} : Platform).magicAccessors := by rw [X.admits.platform]
  obtain ⟨c3, c4, hc3, hc4, hasg⟩ := Cond.castable_spec hcast
  cases Option.some.inj (hc3.symm.trans hcl)
  obtain ⟨c5, hc5, hcl5⟩ := Cond.classLink_spec hown hlink e.platform hpl
  cases Option.some.inj (hc4.symm.trans hc5)
  obtain ⟨vm', X', st⟩ := X.thenCaughtThrough q (g := F0 m pc ls rest) rfl (Steps.refl _) (by rw [hT]; exact hcell) (by rw [hv]; rfl) (by obtain ⟨k9, h9, -⟩ := Vm.findClass_spec hcl; exact ⟨k9, h9⟩) pre x suf hsplit
    (fun z hz => by
      rcases hpass z hz with h | ⟨hz0, nm, hl1, hn1⟩
      · exact Or.inl h
      · obtain ⟨c6, hc6, hcl6⟩ := Cond.classLink_spec hown hl1 e.platform hpl
        obtain ⟨a8, b8, h1, h2, h3⟩ := hn1
        cases Option.some.inj (h1.symm.trans hcl)
        cases Option.some.inj (h2.symm.trans hc6)
        exact Or.inr ⟨hz0, _, hcl6, h3⟩) hx (Or.inr ⟨h0, c4, hcl5, hasg⟩)
  obtain ⟨t, a1, b1⟩ := kk (T.setVm vm') hT X'
  exact ⟨t, st.trans a1, b1⟩
end Rows
section Ends
variable {p : Program} {l : Launch} {e : Env} {R : Room} {s : State} {m : MethodId} {args : Array Value} {below : List Frame} {meth : Method} {c : Code} {H : Heap} {locs : List Loc} {cells slots : Nat} {Q : State → Prop}
variable {mc ms : Nat} {free : Addr → Prop} {A0 A1 : Nat → Prop} {H0 : Heap} {a : Array Value} {ls : Array Slot} {st0 rest : List Value}
variable {Qc : Array Value → State → Outcome → State → Prop} {XC : String → State → State → Prop}
/-- what a body that may throw owes at its end -/
def vx_MQ (below : List Frame) (Qc : Array Value → State → Outcome → State → Prop) (XC : String → State → State → Prop) (a : Array Value) (s : State) (mc ms : Nat) (free : Addr → Prop) : State → Prop := fun t =>
  ∃ o, t.status = .running ∧ Ended t below o ∧ vx_Q Qc XC mc ms free a s o t
theorem vx_ret {g : JFrame} {mc ms : Nat} (k : W p l e R s m args below meth c H locs cells slots (MQ below Qc args s mc ms free) g) : W p l e R s m args below meth c H locs cells slots (vx_MQ below Qc XC args s mc ms free) g := by
  intro T hT X
  obtain ⟨t, a1, o, b1, b2, b3, b4⟩ := k T hT X
  exact ⟨t, a1, o, b1, b2, Or.inl ⟨b3, b4⟩⟩
/-- not caught here: it goes on to the caller -/
theorem vx_widen {g : JFrame} {q : Addr} {k n : Nat} (h1 : cells ≤ k) (h2 : slots ≤ n) (kk : vx_W p l e R s m args below meth c H locs k n Q g q) : vx_W p l e R s m args below meth c H locs cells slots Q g q := fun T hT X => kk T hT (stand_widen X h1 h2)
theorem vx_out {pc : Nat} {E : String} {ce : Cell} {q : Addr} {mc ms : Nat} (hout : ∀ x ∈ c.exceptionTable.toList, covers x pc = false) (hlocks : meth.locks = false) (hcell : H[q]? = some ce) (hv : ce.vm = .none) (hcl : s.vm.findClass E = some ce.cls)
    (hx : ∀ t : State, t.heap = H → s.vm.Alike t.vm → XC E s t) (hf : ∀ z ∈ locs, free z.base) (hc : cells ≤ mc) (hs : slots ≤ ms) :
    vx_W p l e R s m args below meth c H locs cells slots (vx_MQ below Qc XC args s mc ms free) (F0 m pc ls rest) q := by
  intro T hT X
  obtain ⟨st1, hrun, hend, hW, hsm⟩ := X.leaveThrown q (g := F0 m pc ls rest) rfl rfl rfl hout hlocks
  have hcell9 : (T.setFrames (.throwing q :: below)).heap[q]? = some ce := by
    show T.heap[q]? = some ce
    rw [hT]; exact hcell
  exact ⟨_, st1, .threw q, hrun, hend, Or.inr ⟨q, rfl, E, ce, locs, hx _ hT hW.alike, hcell9, hv, hcl, hW, hsm.mono hc hs, hf⟩⟩
theorem vx_frame {U : State} {k n : Nat} (h : s.sameButNew ({ U with vm := s.vm } : State) locs k n) : s.heap.size ≤ U.heap.size ∧ ∀ q : Nat, q < s.heap.size → (∀ z ∈ locs, z.base ≠ q) → U.heap[q]? = s.heap[q]? := by
  obtain ⟨-, h2, -, -, -, h6⟩ := h
  refine ⟨h2, fun q hq hz => ?_⟩
  obtain ⟨c9, e1, e2, e3, e4⟩ := h6 q _ (Array.getElem?_eq_getElem hq)
  have hs : c9.slots = (s.heap[q]).slots := Array.ext_getElem? fun i => e4 i fun hm => hz _ hm rfl
  have h9 : c9 = s.heap[q] := by
    rw [hs] at e2
    exact e2
  have e5 : U.heap[q]? = some c9 := e1
  rw [e5, h9, Array.getElem?_eq_getElem hq]
/-- the words of a throw but the four that speak of the heap -/
def vx_no (w : Cond) : Bool := decide (w ≠ .isRef (.static Bundle.tN "UNASSIGNED_STACK" Bundle.steD)) && decide (w ≠ .isRef (.static Bundle.tN "SUPPRESSED_SENTINEL" Bundle.listD)) && decide (w ≠ .laysStatic Bundle.tN "UNASSIGNED_STACK" Bundle.steD) && decide (w ≠ .laysStatic Bundle.tN "SUPPRESSED_SENTINEL" Bundle.listD)
def vx_at0 (own : String) (ic : Nat) (X : String) (names : List String) : List Cond := (Bundle.ownAtoms0 own ic X names).filter vx_no
def vx_atS (own : String) (ic : Nat) (X : String) (names : List String) : List Cond := (Bundle.ownAtoms own ic X names).filter vx_no
/-- a word that the tables alone decide, or a good one -/
def vx_ot (w : Cond) : Bool := w.onTables || goodWord w
theorem vx_ot_at {args a' : Array Value} {s U : State} {w : Cond} (hW : s.WarmedH U.vm) (hvm : s.vm = U.vm) (hg : vx_ot w = true) (h : w.before args s = true) : w.before a' U = true := by
  simp only [vx_ot, Bool.or_eq_true] at hg
  rcases hg with hg | hg
  · exact va_tabs hg hvm h
  · exact word_at hW (good_of_word hg) h
/-- a list's words: the good ones out of the method's own list, the others by premises of their own -/
theorem vx_hat {args : Array Value} {s : State} {L B : List Cond} (h1 : ∀ w ∈ L.filter goodWord, w.before args s = true) (h2 : ∀ w ∈ L.filter (fun w => !goodWord w), w ∈ B) (h3 : ∀ w ∈ B, w.before args s = true) : ∀ w ∈ L, w.before args s = true := by
  intro w hw
  by_cases g : goodWord w = true
  · exact h1 w (List.mem_filter.mpr ⟨hw, g⟩)
  · refine h3 w (h2 w (List.mem_filter.mpr ⟨hw, ?_⟩))
    show (!goodWord w) = true
    cases hgw : goodWord w
    · rfl
    · exact absurd hgw g
theorem vx_c {args : Array Value} {s : State} {w : Cond} {B : List Cond} (h : w.before args s = true) (t : ∀ w ∈ B, w.before args s = true) : ∀ w' ∈ w :: B, w'.before args s = true := fun w' h' => (List.mem_cons.mp h').elim (fun e => by rw [e]; exact h) (t w')
theorem vx_n {args : Array Value} {s : State} : ∀ w ∈ ([] : List Cond), w.before args s = true := fun _ h => nomatch h
theorem vx_own {args : Array Value} {s : State} {L : List Cond} (h1 : ∀ w ∈ L.filter vx_no, w.before args s = true)
    (hU : (Cond.isRef (.static Bundle.tN "UNASSIGNED_STACK" Bundle.steD)).before args s = true) (hN : (Cond.isRef (.static Bundle.tN "SUPPRESSED_SENTINEL" Bundle.listD)).before args s = true)
    (lU : (Cond.laysStatic Bundle.tN "UNASSIGNED_STACK" Bundle.steD).before args s = true) (lN : (Cond.laysStatic Bundle.tN "SUPPRESSED_SENTINEL" Bundle.listD).before args s = true) : ∀ w ∈ L, w.before args s = true := by
  intro w hw
  by_cases e1 : w = .isRef (.static Bundle.tN "UNASSIGNED_STACK" Bundle.steD)
  · rw [e1]; exact hU
  · by_cases e2 : w = .isRef (.static Bundle.tN "SUPPRESSED_SENTINEL" Bundle.listD)
    · rw [e2]; exact hN
    · by_cases e3 : w = .laysStatic Bundle.tN "UNASSIGNED_STACK" Bundle.steD
      · rw [e3]; exact lU
      · by_cases e4 : w = .laysStatic Bundle.tN "SUPPRESSED_SENTINEL" Bundle.listD
        · rw [e4]; exact lN
        · exact h1 w (List.mem_filter.mpr ⟨hw, by unfold vx_no; rw [decide_eq_true e1, decide_eq_true e2, decide_eq_true e3, decide_eq_true e4]; rfl⟩)
/-- where a static field lies, its class's statics cell in H -/
def vx_L (C n d : String) (A : Nat → Prop) (U : State) (H : Heap) : Prop := ∃ (c : ClassId) (k : Class) (i : Nat) (f : Field) (a : Nat) (cell : Cell), U.vm.findClass C = some c ∧ U.fieldFound? C n d = some (c, k, i, f) ∧ f.isStatic = true ∧ k.statics = some a ∧ H[a]? = some cell ∧ cell.vm.isStatics = true ∧ cell.cls = c ∧ f.slot < cell.slots.size ∧ k.staticTypes[f.slot]? = some f.type ∧ ¬ A a
theorem vx_L.moved {C n d : String} {A : Nat → Prop} {u U : State} {H : Heap} (hvm : u.vm.Alike U.vm) (h : vx_L C n d A u H) : vx_L C n d A U H := by
  obtain ⟨c, k, i, f, a, cell, h1, h2, h3, h4, h5, h6, h7, h8, h9, h10⟩ := h
  obtain ⟨k', hi', he⟩ := State.fieldFound?_setVm hvm h2
  exact ⟨c, k', i, f, a, cell, by rw [hvm.findClass]; exact h1, hi', h3, by rw [he]; exact h4, h5, h6, h7, h8, by rw [he]; exact h9, h10⟩
theorem vx_L.kept {C n d : String} {A : Nat → Prop} {U : State} {H H1 : Heap} (h : vx_L C n d A U H) (hq : ∀ a : Nat, a < H.size → ¬ A a → H1[a]? = H[a]?) : vx_L C n d A U H1 := by
  obtain ⟨c, k, i, f, a, cell, h1, h2, h3, h4, h5, h6, h7, h8, h9, h10⟩ := h
  exact ⟨c, k, i, f, a, cell, h1, h2, h3, h4, by rw [hq a (Array.getElem?_eq_some_iff.mp h5).1 h10]; exact h5, h6, h7, h8, h9, h10⟩
theorem vx_L.narrow {C n d : String} {A B : Nat → Prop} {U : State} {H : Heap} (h : vx_L C n d A U H) (hAB : ∀ q, B q → A q) : vx_L C n d B U H := by
  obtain ⟨c, k, i, f, a, cell, h1, h2, h3, h4, h5, h6, h7, h8, h9, h10⟩ := h
  exact ⟨c, k, i, f, a, cell, h1, h2, h3, h4, h5, h6, h7, h8, h9, fun z => h10 (hAB _ z)⟩
theorem vx_L.word {C n d : String} {A : Nat → Prop} {s : State} {args : Array Value} (h : vx_L C n d A s s.heap) : (Cond.laysStatic C n d).before args s = true := by
  obtain ⟨c, k, i, f, a, cell, h1, h2, h3, h4, h5, h6, h7, h8, h9, -⟩ := h
  show (Cond.laysStatic C n d).holds args s none s [] = true
  exact Cond.laysStatic_of h1 h2 h3 h4 h5 h6 h7 h8 h9
/-- .. and what it holds: null or some reference -/
def vx_Zq (C n d : String) (A : Nat → Prop) (U : State) (H : Heap) : Prop := va_Zq C n d A U H ∧ vx_L C n d A U H
theorem vx_Zq.moved {C n d : String} {A : Nat → Prop} {u U : State} {H : Heap} (hvm : u.vm.Alike U.vm) (h : vx_Zq C n d A u H) : vx_Zq C n d A U H := ⟨va_Zq.moved hvm h.1, vx_L.moved hvm h.2⟩
theorem vx_Zq.kept {C n d : String} {A : Nat → Prop} {U : State} {H H1 : Heap} (h : vx_Zq C n d A U H) (hq : ∀ a : Nat, a < H.size → ¬ A a → H1[a]? = H[a]?) : vx_Zq C n d A U H1 := ⟨va_Zq.kept h.1 hq, vx_L.kept h.2 hq⟩
theorem vx_Zq.narrow {C n d : String} {A B : Nat → Prop} {U : State} {H : Heap} (h : vx_Zq C n d A U H) (hAB : ∀ q, B q → A q) : vx_Zq C n d B U H := ⟨va_Zq.narrow h.1 hAB, vx_L.narrow h.2 hAB⟩
theorem vx_Zqof {args : Array Value} {s : State} {C n d : String} {A : Nat → Prop} (hl : (Cond.laysStatic C n d).before args s = true) (hini : (Cond.initialized C).before args s = true) (h : (Cond.isRef (.static C n d)).before args s = true) (hA : ∀ a : Nat, a < s.heap.size → ¬ A a) : vx_Zq C n d A s s.heap := by
  refine ⟨va_Zqof hl hini h hA, ?_⟩
  obtain ⟨c, k, i, f, a, cell, h1, h2, h3, h4, h5, h6, h7, h8, h9⟩ := Cond.laysStatic_spec hl
  exact ⟨c, k, i, f, a, cell, h1, h2, h3, h4, h5, h6, h7, h8, h9, hA a (Array.getElem?_eq_some_iff.mp h5).1⟩
theorem vx_isRef {C n d : String} {v : Value} {A : Nat → Prop} {s : State} {args : Array Value} (h : va_Z C n d v A s s.heap) (hv : v.isRef = true) : (Cond.isRef (.static C n d)).before args s = true := by
  obtain ⟨cf, kf, fi, f, a, cell, h1, h2, h3, h4, h5, h6, h7, -⟩ := h
  have he : (Term.static C n d).eval args s none [] s = some v := by
    simp [Term.eval, State.fieldNamed?, h1, h2, h4, h5, h6, h7]
  simp only [Cond.before, Cond.holds, Cond.value, he]
  cases v <;> simp_all [Value.isRef]
theorem vx_isRefq {C n d : String} {A : Nat → Prop} {s : State} {args : Array Value} (h : va_Zq C n d A s s.heap) : (Cond.isRef (.static C n d)).before args s = true := by
  rcases h with h | ⟨t, h⟩
  · exact vx_isRef h rfl
  · exact vx_isRef h rfl
/-- the same frame, seen from here: as if the method were called anew in this heap -/
theorem vx_rebase {T : State} (X : Stand p l e R s m args below meth c T locs cells slots) {R' : Room} (hf : R'.frames ≤ R.frames) (hl : R'.locals ≤ R.locals) (hc : cells + R'.cells ≤ R.cells) (hs : slots + R'.slots ≤ R.slots) :
    Stand p l e R' ((T.setVm s.vm).setFrames (.invoking m args :: below)) m args below meth c T [] 0 0 := by
  have htop : (T.setVm s.vm).topJava?.isSome := X.here.top
  have hF : ((T.setVm s.vm).setFrames (.invoking m args :: below)).frames = .invoking m args :: below := State.frames_setFrames _ (State.cur_lt_of_top htop)
  obtain ⟨g₀, hg0⟩ := Option.isSome_iff_exists.mp htop
  obtain ⟨r, hr⟩ := State.topJava?_eq_some.mp hg0
  have hl9 : e.platform.stackLimits (T.setVm s.vm).me = e.platform.stackLimits s.me := X.limits
  have hb9 : (T.setVm s.vm).me.stackBytes = s.me.stackBytes := X.bytes
  refine ⟨X.admits, X.cas, X.clock, hF, ?_, X.hears, X.method, X.code, X.here, X.tail, X.warmed, ?_, ?_, ?_⟩
  · have h := X.room
    have hU : ((T.setVm s.vm).setFrames (.invoking m args :: below)).localsInUse = s.localsInUse := by
      rw [State.localsInUse_invoking hF (meth := meth) (c := c) X.method X.code, State.localsInUse_invoking X.frames X.method X.code]
    simp only [State.hasRoom, Bool.and_eq_true, decide_eq_true_eq] at h ⊢
    obtain ⟨⟨⟨⟨h1, h2, h3, h4, h5, h6⟩, h7⟩, h8⟩, h9⟩ := h
    rw [X.frames, List.length_cons] at h2 h3
    have q1 := X.heapSize
    have q2 := X.used
    simp only [hF, hU, List.length_cons, State.stackLimits_setFrames, State.stackBytes_setFrames, hl9, hb9]
    refine ⟨⟨⟨⟨by omega, by omega, by omega, by omega, by omega, h6⟩, ?_⟩, ?_⟩, X.book⟩
    · show T.heap.size + R'.cells ≤ e.platform.maxCells
      omega
    · show T.slotsUsed + R'.slots ≤ e.platform.maxSlots
      omega
  · rw [State.stackLimits_setFrames]; rfl
  · rw [State.stackBytes_setFrames]; rfl
  · refine ⟨?_, Nat.le_refl _, Nat.le_refl _, ?_, ?_, fun a c9 h9 => ⟨c9, h9, rfl, rfl, fun _ _ => rfl⟩⟩
    · obtain ⟨t, ht, -⟩ := State.frames_cons hr
      show T.setVm s.vm = { ((T.setVm s.vm).setFrames (.invoking m args :: below)).setFrames (T.setVm s.vm).frames with heap := T.heap, slotsUsed := T.slotsUsed }
      rw [State.setFrames_setFrames, State.setFrames_self ht]
      rfl
    · show T.slotsUsed = T.slotsUsed + ((T.heap.toList.drop T.heap.size).map (·.slots.size)).sum
      rw [List.drop_eq_nil_of_le (Nat.le_of_eq Array.length_toList)]
      rfl
    · show ((T.heap.toList.drop T.heap.size).map (·.slots.size)).sum ≤ 0
      rw [List.drop_eq_nil_of_le (Nat.le_of_eq Array.length_toList)]
      exact Nat.le_refl _
/-- 'throw new E()': new; dup; invokespecial; athrow -/
theorem vx_throw0 {cc : ByteArray} {pc : Nat} (hexec : p.tables.exec = Jvm.exec) (hb : c.code = cc) (hl : l.stackTraces = false) {own cls : String} {names : List String} {ik ic mc ms : Nat} {A : Nat → Prop}
    (hown : s.vm.findClass own = some m.cls) (hcls : Bundle.fit cls = true) (hnames : ∀ n ∈ names, Bundle.fit n = true)
    (hk : (Cond.classLink own ik cls).before args s = true) (hini : (Cond.initialized cls).before args s = true) (hat : ∀ w ∈ vx_at0 own ic cls names, w.before args s = true)
    (hgood : ∀ w ∈ Cond.classLink own ik cls :: Cond.initialized cls :: vx_at0 own ic cls names, vx_ot w = true)
    (hU : vx_Zq Bundle.tN "UNASSIGNED_STACK" Bundle.steD A s s.heap) (hN : vx_Zq Bundle.tN "SUPPRESSED_SENTINEL" Bundle.listD A s s.heap) (hS : va_S A s.heap H locs) (hsize : ls.size = c.maxLocals)
    (d0 : decode cc pc = .ok (.new ik, 3)) (d3 : decode cc (pc + 3) = .ok (.dup, 1)) (d4 : decode cc (pc + 4) = .ok (.invokespecial ic, 3)) (d7 : decode cc (pc + 7) = .ok (.athrow, 1))
    (hout : ∀ x ∈ c.exceptionTable.toList, covers x (pc + 7) = false)
    (hRframes : names.length + 3 < R.frames) (hRlocals : (rest.map fun v => v.category).sum + (13 * (names.length + 1) + 42) ≤ R.locals) (hRcells : cells + 1 ≤ R.cells) (hRslots : slots + 6 ≤ R.slots) (hlocks : meth.locks = false)
    (hx : ∀ t : State, s.vm.Alike t.vm → H.size ≤ t.heap.size → (∀ q : Nat, q < H.size → t.heap[q]? = H[q]?) → XC cls s t)
    (hf : ∀ z ∈ locs, free z.base) (hc : cells + 1 ≤ mc) (hs : slots + 6 ≤ ms) :
    W p l e R s m args below meth c H locs cells slots (vx_MQ below Qc XC args s mc ms free) (F0 m pc ls rest) := by
  intro T hT X
  have htr : e.platform.stackTraces = false := (show e.platform.stackTraces = l.stackTraces by rw [X.admits.platform]).trans hl
  have Y := vx_rebase X (R' := { frames := R.frames, locals := R.locals, cells := 1, slots := 6 }) (Nat.le_refl _) (Nat.le_refl _) hRcells hRslots
  obtain ⟨s', hA⟩ : ∃ z, z = (T.setVm s.vm).setFrames (.invoking m args :: below) := ⟨_, rfl⟩
  rw [← hA] at Y
  have hvm : s'.vm = s.vm := by rw [hA]; rfl
  have hhp : s'.heap = H := by rw [hA]; exact hT
  have hW0 : s.WarmedH s'.vm := by rw [hvm]; exact State.WarmedH.refl s
  have hat' : ∀ w ∈ vx_at0 own ic cls names, w.before args s' = true := fun w hw => vx_ot_at hW0 hvm.symm (hgood w (List.mem_cons_of_mem _ (List.mem_cons_of_mem _ hw))) (hat w hw)
  have hk' : (Cond.classLink own ik cls).before args s' = true := vx_ot_at hW0 hvm.symm (hgood _ List.mem_cons_self) hk
  have hini' : (Cond.initialized cls).before args s' = true := vx_ot_at hW0 hvm.symm (hgood _ (List.mem_cons_of_mem _ List.mem_cons_self)) hini
  have hU' : vx_Zq Bundle.tN "UNASSIGNED_STACK" Bundle.steD A s' s'.heap := by rw [hhp]; exact vx_Zq.moved hW0.alike (hU.kept hS.2.1)
  have hN' : vx_Zq Bundle.tN "SUPPRESSED_SENTINEL" Bundle.listD A s' s'.heap := by rw [hhp]; exact vx_Zq.moved hW0.alike (hN.kept hS.2.1)
  have h : ∀ w ∈ Bundle.ownAtoms0 own ic cls names, w.before args s' = true := vx_own hat' (vx_isRefq hU'.1) (vx_isRefq hN'.1) hU'.2.word hN'.2.word
  have hown' : s'.vm.findClass own = some m.cls := by rw [hvm]; exact hown
  have hins : (Cond.instantiable cls 6).before args s' = true := h _ (by simp [Bundle.ownAtoms0])
  obtain ⟨vm₁, cX, kX, hfX, hkX, -, -, X₁, st1⟩ := Y.newCold hexec (own := own) (C := cls) (index := ik) (n := 6) hown' hk' hins hini'
    (g := F0 m pc ls rest) rfl (by rw [hb]; exact d0) (Nat.le_refl _) (Nat.le_refl _)
  generalize hT1 : (T.setVm vm₁).pushCell { cls := cX, slots := kX.instanceTypes.map defaultValue, vm := .none } = T1 at X₁ st1
  have hcat : (Value.ref T.heap.size).category = 1 := rfl
  have hcellA : T1.heap[T.heap.size]? = some (freshCell cX kX) := by rw [← hT1]; exact State.heap_pushCell_size _ _
  have d3' : decode c.code (pc + 3) = .ok (.dup, 1) := by rw [hb]; exact d3
  obtain ⟨U, hsteps, hrun, hend, hW, hsame, ce, hce, hO⟩ := X₁.ctorThrow0 hexec htr (own := own) (cls := cls) (names := names) (ic := ic) hown' hcls hnames h (fun x hx => nomatch hx) hfX hkX hcellA (by rw [hhp, hT]; exact Nat.le_refl _)
    (g := { method := m, pc := pc + 4, locals := ls, stack := .ref T.heap.size :: .ref T.heap.size :: rest, locked := none }) rfl hsize rfl rfl (rest := rest) rfl
    (by rw [hb]; exact d4) (by rw [hb]; exact d7) hout hRframes (by simp only [List.map_cons, List.sum_cons, hcat]; omega) hlocks
  obtain ⟨f1, f2⟩ := vx_frame hsame
  rw [hhp] at f1 f2
  have hWs : s.WarmedH U.vm := State.WarmedH.trans hW0 hW
  have hcl : s.vm.findClass cls = some ce.cls := by
    have h9 := hO.cls
    rw [hvm] at h9
    exact h9
  have hall : s.sameButNew ({ U with vm := s.vm } : State) locs mc ms := by
    subst hA
    obtain ⟨e1, e2⟩ := hsame
    rw [State.setFrames_setFrames] at e1
    have h2 : (T.setVm s.vm).sameButNew ({ U with vm := s.vm } : State) [] (0 + 1) (0 + 6) := ⟨e1, e2⟩
    have h3 := X.same.trans h2
    rw [List.append_nil] at h3
    exact h3.mono hc hs
  refine ⟨U, ?_, .threw T.heap.size, hrun, hend, Or.inr ⟨T.heap.size, rfl, cls, ce, locs, hx U hWs.alike f1 (fun q hq => f2 q hq (fun z hz => nomatch hz)), hce, hO.vm, hcl, hWs, hall, hf⟩⟩
  refine st1 _ ?_
  show Steps p.tables e below (T1.setTop { method := m, pc := pc + 3, locals := ls, stack := .ref T.heap.size :: rest, locked := none }) _
  jvm_step X₁.here [X₁.here.top, hexec, d3', Value.category]
  exact hsteps
/-- 'throw new E("text")': new; dup; ldc; invokespecial; athrow -/
theorem vx_throwS {cc : ByteArray} {pc : Nat} (hexec : p.tables.exec = Jvm.exec) (hb : c.code = cc) (hl : l.stackTraces = false) {own cls text : String} {names : List String} {ik is ic mc ms sa : Nat} {A : Nat → Prop}
    (hown : s.vm.findClass own = some m.cls) (hcls : Bundle.fit cls = true) (hnames : ∀ n ∈ names, Bundle.fit n = true)
    (hk : (Cond.classLink own ik cls).before args s = true) (hini : (Cond.initialized cls).before args s = true) (hstr : vk_R own is text sa s) (hat : ∀ w ∈ vx_atS own ic cls names, w.before args s = true)
    (hgood : ∀ w ∈ Cond.classLink own ik cls :: Cond.initialized cls :: vx_atS own ic cls names, vx_ot w = true)
    (hU : vx_Zq Bundle.tN "UNASSIGNED_STACK" Bundle.steD A s s.heap) (hN : vx_Zq Bundle.tN "SUPPRESSED_SENTINEL" Bundle.listD A s s.heap) (hS : va_S A s.heap H locs) (hsize : ls.size = c.maxLocals)
    (d0 : decode cc pc = .ok (.new ik, 3)) (d3 : decode cc (pc + 3) = .ok (.dup, 1)) (d4 : decode cc (pc + 4) = .ok (.ldc is, 2)) (d6 : decode cc (pc + 6) = .ok (.invokespecial ic, 3)) (d9 : decode cc (pc + 9) = .ok (.athrow, 1))
    (hout : ∀ x ∈ c.exceptionTable.toList, covers x (pc + 9) = false)
    (hRframes : names.length + 3 < R.frames) (hRlocals : (rest.map fun v => v.category).sum + (13 * (names.length + 1) + 43) ≤ R.locals) (hRcells : cells + 1 ≤ R.cells) (hRslots : slots + 6 ≤ R.slots) (hlocks : meth.locks = false)
    (hx : ∀ t : State, s.vm.Alike t.vm → H.size ≤ t.heap.size → (∀ q : Nat, q < H.size → t.heap[q]? = H[q]?) → XC cls s t)
    (hf : ∀ z ∈ locs, free z.base) (hc : cells + 1 ≤ mc) (hs : slots + 6 ≤ ms) :
    W p l e R s m args below meth c H locs cells slots (vx_MQ below Qc XC args s mc ms free) (F0 m pc ls rest) := by
  intro T hT X
  have htr : e.platform.stackTraces = false := (show e.platform.stackTraces = l.stackTraces by rw [X.admits.platform]).trans hl
  have Y := vx_rebase X (R' := { frames := R.frames, locals := R.locals, cells := 1, slots := 6 }) (Nat.le_refl _) (Nat.le_refl _) hRcells hRslots
  obtain ⟨s', hA⟩ : ∃ z, z = (T.setVm s.vm).setFrames (.invoking m args :: below) := ⟨_, rfl⟩
  rw [← hA] at Y
  have hvm : s'.vm = s.vm := by rw [hA]; rfl
  have hhp : s'.heap = H := by rw [hA]; exact hT
  have hW0 : s.WarmedH s'.vm := by rw [hvm]; exact State.WarmedH.refl s
  have hat' : ∀ w ∈ vx_atS own ic cls names, w.before args s' = true := fun w hw => vx_ot_at hW0 hvm.symm (hgood w (List.mem_cons_of_mem _ (List.mem_cons_of_mem _ hw))) (hat w hw)
  have hk' : (Cond.classLink own ik cls).before args s' = true := vx_ot_at hW0 hvm.symm (hgood _ List.mem_cons_self) hk
  have hini' : (Cond.initialized cls).before args s' = true := vx_ot_at hW0 hvm.symm (hgood _ (List.mem_cons_of_mem _ List.mem_cons_self)) hini
  have hU' : vx_Zq Bundle.tN "UNASSIGNED_STACK" Bundle.steD A s' s'.heap := by rw [hhp]; exact vx_Zq.moved hW0.alike (hU.kept hS.2.1)
  have hN' : vx_Zq Bundle.tN "SUPPRESSED_SENTINEL" Bundle.listD A s' s'.heap := by rw [hhp]; exact vx_Zq.moved hW0.alike (hN.kept hS.2.1)
  have h : ∀ w ∈ Bundle.ownAtoms own ic cls names, w.before args s' = true := vx_own hat' (vx_isRefq hU'.1) (vx_isRefq hN'.1) hU'.2.word hN'.2.word
  have hown' : s'.vm.findClass own = some m.cls := by rw [hvm]; exact hown
  have hins : (Cond.instantiable cls 6).before args s' = true := h _ (by simp [Bundle.ownAtoms])
  obtain ⟨vm₁, cX, kX, hfX, hkX, -, -, X₁, st1⟩ := Y.newCold hexec (own := own) (C := cls) (index := ik) (n := 6) hown' hk' hins hini'
    (g := F0 m pc ls rest) rfl (by rw [hb]; exact d0) (Nat.le_refl _) (Nat.le_refl _)
  generalize hT1 : (T.setVm vm₁).pushCell { cls := cX, slots := kX.instanceTypes.map defaultValue, vm := .none } = T1 at X₁ st1
  have hcat : (Value.ref T.heap.size).category = 1 := rfl
  have hcellA : T1.heap[T.heap.size]? = some (freshCell cX kX) := by rw [← hT1]; exact State.heap_pushCell_size _ _
  have d3' : decode c.code (pc + 3) = .ok (.dup, 1) := by rw [hb]; exact d3
  have d4' : decode c.code (pc + 4) = .ok (.ldc is, 2) := by rw [hb]; exact d4
  have hstr' : vk_R own is text sa s' := vk_R.warm hW0 hstr
  obtain ⟨U, hsteps, hrun, hend, hW, hsame, ce, hce, hO⟩ := X₁.ctorThrowS hexec htr (own := own) (cls := cls) (names := names) (ic := ic) hown' hcls hnames h (fun x hx => nomatch hx) hfX hkX hcellA (by rw [hhp, hT]; exact Nat.le_refl _) (msg := .ref sa) rfl
    (g := { method := m, pc := pc + 6, locals := ls, stack := .ref sa :: .ref T.heap.size :: .ref T.heap.size :: rest, locked := none }) rfl hsize rfl rfl (rest := rest) rfl
    (by rw [hb]; exact d6) (by rw [hb]; exact d9) hout hRframes (by simp only [List.map_cons, List.sum_cons, hcat]; omega) hlocks
  obtain ⟨f1, f2⟩ := vx_frame hsame
  rw [hhp] at f1 f2
  have hWs : s.WarmedH U.vm := State.WarmedH.trans hW0 hW
  have hcl : s.vm.findClass cls = some ce.cls := by
    have h9 := hO.cls
    rw [hvm] at h9
    exact h9
  have hall : s.sameButNew ({ U with vm := s.vm } : State) locs mc ms := by
    subst hA
    obtain ⟨e1, e2⟩ := hsame
    rw [State.setFrames_setFrames] at e1
    have h2 : (T.setVm s.vm).sameButNew ({ U with vm := s.vm } : State) [] (0 + 1) (0 + 6) := ⟨e1, e2⟩
    have h3 := X.same.trans h2
    rw [List.append_nil] at h3
    exact h3.mono hc hs
  refine ⟨U, ?_, .threw T.heap.size, hrun, hend, Or.inr ⟨T.heap.size, rfl, cls, ce, locs, hx U hWs.alike f1 (fun q hq => f2 q hq (fun z hz => nomatch hz)), hce, hO.vm, hcl, hWs, hall, hf⟩⟩
  refine st1 _ ?_
  show Steps p.tables e below (T1.setTop { method := m, pc := pc + 3, locals := ls, stack := .ref T.heap.size :: rest, locked := none }) _
  jvm_step X₁.here [X₁.here.top, hexec, d3', Value.category]
  exact X₁.ldcString hexec (own := own) (text := text) (index := is) (a := sa) hown' hstr'.1 hstr'.2
    (g := { method := m, pc := pc + 4, locals := ls, stack := .ref T.heap.size :: .ref T.heap.size :: rest, locked := none }) rfl d4' _ hsteps
/-- 'throw new E("text")', the text by a wide index -/
theorem vx_throwSW {cc : ByteArray} {pc : Nat} (hexec : p.tables.exec = Jvm.exec) (hb : c.code = cc) (hl : l.stackTraces = false) {own cls text : String} {names : List String} {ik is ic mc ms sa : Nat} {A : Nat → Prop}
    (hown : s.vm.findClass own = some m.cls) (hcls : Bundle.fit cls = true) (hnames : ∀ n ∈ names, Bundle.fit n = true)
    (hk : (Cond.classLink own ik cls).before args s = true) (hini : (Cond.initialized cls).before args s = true) (hstr : vk_R own is text sa s) (hat : ∀ w ∈ vx_atS own ic cls names, w.before args s = true)
    (hgood : ∀ w ∈ Cond.classLink own ik cls :: Cond.initialized cls :: vx_atS own ic cls names, vx_ot w = true)
    (hU : vx_Zq Bundle.tN "UNASSIGNED_STACK" Bundle.steD A s s.heap) (hN : vx_Zq Bundle.tN "SUPPRESSED_SENTINEL" Bundle.listD A s s.heap) (hS : va_S A s.heap H locs) (hsize : ls.size = c.maxLocals)
    (d0 : decode cc pc = .ok (.new ik, 3)) (d3 : decode cc (pc + 3) = .ok (.dup, 1)) (d4 : decode cc (pc + 4) = .ok (.ldc_w is, 3)) (d7 : decode cc (pc + 7) = .ok (.invokespecial ic, 3)) (d10 : decode cc (pc + 10) = .ok (.athrow, 1))
    (hout : ∀ x ∈ c.exceptionTable.toList, covers x (pc + 10) = false)
    (hRframes : names.length + 3 < R.frames) (hRlocals : (rest.map fun v => v.category).sum + (13 * (names.length + 1) + 43) ≤ R.locals) (hRcells : cells + 1 ≤ R.cells) (hRslots : slots + 6 ≤ R.slots) (hlocks : meth.locks = false)
    (hx : ∀ t : State, s.vm.Alike t.vm → H.size ≤ t.heap.size → (∀ q : Nat, q < H.size → t.heap[q]? = H[q]?) → XC cls s t)
    (hf : ∀ z ∈ locs, free z.base) (hc : cells + 1 ≤ mc) (hs : slots + 6 ≤ ms) :
    W p l e R s m args below meth c H locs cells slots (vx_MQ below Qc XC args s mc ms free) (F0 m pc ls rest) := by
  intro T hT X
  have htr : e.platform.stackTraces = false := (show e.platform.stackTraces = l.stackTraces by rw [X.admits.platform]).trans hl
  have Y := vx_rebase X (R' := { frames := R.frames, locals := R.locals, cells := 1, slots := 6 }) (Nat.le_refl _) (Nat.le_refl _) hRcells hRslots
  obtain ⟨s', hA⟩ : ∃ z, z = (T.setVm s.vm).setFrames (.invoking m args :: below) := ⟨_, rfl⟩
  rw [← hA] at Y
  have hvm : s'.vm = s.vm := by rw [hA]; rfl
  have hhp : s'.heap = H := by rw [hA]; exact hT
  have hW0 : s.WarmedH s'.vm := by rw [hvm]; exact State.WarmedH.refl s
  have hat' : ∀ w ∈ vx_atS own ic cls names, w.before args s' = true := fun w hw => vx_ot_at hW0 hvm.symm (hgood w (List.mem_cons_of_mem _ (List.mem_cons_of_mem _ hw))) (hat w hw)
  have hk' : (Cond.classLink own ik cls).before args s' = true := vx_ot_at hW0 hvm.symm (hgood _ List.mem_cons_self) hk
  have hini' : (Cond.initialized cls).before args s' = true := vx_ot_at hW0 hvm.symm (hgood _ (List.mem_cons_of_mem _ List.mem_cons_self)) hini
  have hU' : vx_Zq Bundle.tN "UNASSIGNED_STACK" Bundle.steD A s' s'.heap := by rw [hhp]; exact vx_Zq.moved hW0.alike (hU.kept hS.2.1)
  have hN' : vx_Zq Bundle.tN "SUPPRESSED_SENTINEL" Bundle.listD A s' s'.heap := by rw [hhp]; exact vx_Zq.moved hW0.alike (hN.kept hS.2.1)
  have h : ∀ w ∈ Bundle.ownAtoms own ic cls names, w.before args s' = true := vx_own hat' (vx_isRefq hU'.1) (vx_isRefq hN'.1) hU'.2.word hN'.2.word
  have hown' : s'.vm.findClass own = some m.cls := by rw [hvm]; exact hown
  have hins : (Cond.instantiable cls 6).before args s' = true := h _ (by simp [Bundle.ownAtoms])
  obtain ⟨vm₁, cX, kX, hfX, hkX, -, -, X₁, st1⟩ := Y.newCold hexec (own := own) (C := cls) (index := ik) (n := 6) hown' hk' hins hini'
    (g := F0 m pc ls rest) rfl (by rw [hb]; exact d0) (Nat.le_refl _) (Nat.le_refl _)
  generalize hT1 : (T.setVm vm₁).pushCell { cls := cX, slots := kX.instanceTypes.map defaultValue, vm := .none } = T1 at X₁ st1
  have hcat : (Value.ref T.heap.size).category = 1 := rfl
  have hcellA : T1.heap[T.heap.size]? = some (freshCell cX kX) := by rw [← hT1]; exact State.heap_pushCell_size _ _
  have d3' : decode c.code (pc + 3) = .ok (.dup, 1) := by rw [hb]; exact d3
  have d4' : decode c.code (pc + 4) = .ok (.ldc_w is, 3) := by rw [hb]; exact d4
  have hstr' : vk_R own is text sa s' := vk_R.warm hW0 hstr
  obtain ⟨U, hsteps, hrun, hend, hW, hsame, ce, hce, hO⟩ := X₁.ctorThrowS hexec htr (own := own) (cls := cls) (names := names) (ic := ic) hown' hcls hnames h (fun x hx => nomatch hx) hfX hkX hcellA (by rw [hhp, hT]; exact Nat.le_refl _) (msg := .ref sa) rfl
    (g := { method := m, pc := pc + 7, locals := ls, stack := .ref sa :: .ref T.heap.size :: .ref T.heap.size :: rest, locked := none }) rfl hsize rfl rfl (rest := rest) rfl
    (by rw [hb]; exact d7) (by rw [hb]; exact d10) hout hRframes (by simp only [List.map_cons, List.sum_cons, hcat]; omega) hlocks
  obtain ⟨f1, f2⟩ := vx_frame hsame
  rw [hhp] at f1 f2
  have hWs : s.WarmedH U.vm := State.WarmedH.trans hW0 hW
  have hcl : s.vm.findClass cls = some ce.cls := by
    have h9 := hO.cls
    rw [hvm] at h9
    exact h9
  have hall : s.sameButNew ({ U with vm := s.vm } : State) locs mc ms := by
    subst hA
    obtain ⟨e1, e2⟩ := hsame
    rw [State.setFrames_setFrames] at e1
    have h2 : (T.setVm s.vm).sameButNew ({ U with vm := s.vm } : State) [] (0 + 1) (0 + 6) := ⟨e1, e2⟩
    have h3 := X.same.trans h2
    rw [List.append_nil] at h3
    exact h3.mono hc hs
  refine ⟨U, ?_, .threw T.heap.size, hrun, hend, Or.inr ⟨T.heap.size, rfl, cls, ce, locs, hx U hWs.alike f1 (fun q hq => f2 q hq (fun z hz => nomatch hz)), hce, hO.vm, hcl, hWs, hall, hf⟩⟩
  refine st1 _ ?_
  show Steps p.tables e below (T1.setTop { method := m, pc := pc + 3, locals := ls, stack := .ref T.heap.size :: rest, locked := none }) _
  jvm_step X₁.here [X₁.here.top, hexec, d3', Value.category]
  exact X₁.ldcStringW hexec (own := own) (text := text) (index := is) (a := sa) hown' hstr'.1 hstr'.2
    (g := { method := m, pc := pc + 4, locals := ls, stack := .ref T.heap.size :: .ref T.heap.size :: rest, locked := none }) rfl d4' _ hsteps
end Ends
section Bodies
variable {l : Launch}
theorem vx_ofW {y : MethodName} {ws ws' : List Cond} {rm : Room} {Pc : Array Value → State → Prop} {Qc : Array Value → State → Outcome → State → Prop} {XC : String → State → State → Prop} {mc ms : Nat} {free : Addr → Prop} {cc : ByteArray} {maxL : Nat} {ret : Option FieldType}
    (hy : plainName y.cls = true) (hw : ws = Cond.code y cc maxL ret :: ws')
    (body : ∀ p e s m args below meth c s₁, BodyLoose p l y (headSpec ws rm) cc maxL ret e s m args below meth c s₁ → c.maxLocals = maxL → (∀ x ∈ c.exceptionTable.toList, False) → Pc args s →
      W p l e (headSpec ws rm).room s m args below meth c s.heap [] 0 0 (vx_MQ below Qc XC args s mc ms free) (entryFrame m args maxL)) : vx_Met l y ws rm Pc Qc XC mc ms free := by
  refine MetFree.of_bodyS (code := cc) (maxLocals := maxL) (ret := ret) hy ?_ ?_
  · intro args s m h hn
    obtain ⟨meth, c, h1, h2, h3, h4, h5, h6, -, -⟩ := Cond.code_spec hn (atoms_spec (ws := ws) h _ (by rw [hw]; exact List.mem_cons_self))
    exact ⟨meth, c, h1, h2, h3, h4, h5, h6⟩
  · intro p e s m args below meth c s₁ B hml hP _
    have hh0 : s₁.heap = s.heap := by rw [B.state]; rfl
    have ht : ∀ x ∈ c.exceptionTable.toList, False := by
      obtain ⟨meth9, c9, h1, h2, -, -, -, -, h7, -⟩ := Cond.code_spec B.named (atoms_spec (ws := ws) B.pre _ (by rw [hw]; exact List.mem_cons_self))
      cases Option.some.inj (h1.symm.trans B.method)
      cases Option.some.inj (h2.symm.trans (Stand.of_body B).code)
      intro x hx
      rw [Array.isEmpty_iff.mp h7] at hx
      cases hx
    obtain ⟨t, a1, o, b1, b2, b3⟩ := body p e s m args below meth c s₁ B hml ht hP s₁ hh0 (Stand.of_body B)
    exact ⟨t, o, a1, b1, b2, b3⟩
/-- the table of a body with handlers -/
theorem vx_table {p : Program} {x y : MethodName} {S : Spec} {cc bytes : ByteArray} {maxL maxL' : Nat} {ret ret' : Option FieldType} {e : Env} {s s₁ : State} {m : MethodId} {args : Array Value} {below : List Frame} {meth : Method} {c : Code} {hh : List (Nat × Nat × Nat × Nat)}
    (B : BodyLoose p l y S cc maxL ret e s m args below meth c s₁) (h : (Cond.codeWith y bytes maxL' ret' hh).before args s = true) : c.exceptionTable.toList = tableOf hh := by
  obtain ⟨m9, meth9, c9, hn9, h1, h2, -, -, h6, -⟩ := Cond.codeWith_spec h
  cases Option.some.inj (hn9.symm.trans B.named)
  cases Option.some.inj (h1.symm.trans B.method)
  cases Option.some.inj (h2.symm.trans (Stand.of_body B).code)
  rw [← h6, table_eq]
end Bodies
end VXA
/-! ===== END ===== -/
/-! ===== BEGIN a static call of a method with an exception table ===== -/
section VXS
variable {p : Program} {l : Launch} {e : Env} {R : Room} {s : State} {m : MethodId} {args : Array Value} {below : List Frame} {meth : Method} {c : Code} {T : State} {H : Heap} {locs : List Loc} {cells slots : Nat}
abbrev vx_CSW (R : Room) (s : State) (args : Array Value) (own : String) (index : Nat) (y : MethodName) (bytes : ByteArray) (maxL : Nat) (ret : Option FieldType) (hh : List (Nat × Nat × Nat × Nat)) (ws : List Cond) (rm : Room) (mc ms n : Nat) : Prop :=
  (rm.cells = mc ∧ rm.slots = ms ∧ rm.frames + 1 ≤ R.frames ∧ 8 + (maxL + 11) + rm.locals ≤ R.locals ∧ (∀ w ∈ ws, ∀ (a' : Array Value) (U : State), s.WarmedH U.vm → w.before a' U = true) ∧ Cond.codeWith y bytes maxL ret hh ∈ ws) ∧
  (Cond.codeWith y bytes maxL ret hh).before args s = true ∧ (Cond.initialized y.cls).before args s = true ∧ (y.cls ≠ "java/lang/invoke/MethodHandle" ∧ y.cls ≠ "java/lang/invoke/VarHandle") ∧
  (∀ sig, parseMethodDescriptor y.desc = some sig → n = sig.parameters.length) ∧ (Cond.methodLink own index y).before args s = true ∧ (Cond.static y).before args s = true
theorem vx_cwSW {own : String} {index maxL mc ms : Nat} {y : MethodName} {bytes : ByteArray} {ret : Option FieldType} {hh : List (Nat × Nat × Nat × Nat)} {Ts ws ws' : List Cond} {rm : Room} (n : Nat) (ht : ∀ w ∈ Ts, w.before args s = true) (hT : GoodIn Ts (va_wsS own index y ws)) (hw : ws = Cond.codeWith y bytes maxL ret hh :: ws') (hrc : rm.cells = mc) (hrs : rm.slots = ms)
    (hd : y.cls ≠ "java/lang/invoke/MethodHandle" ∧ y.cls ≠ "java/lang/invoke/VarHandle" ∧ (parseMethodDescriptor y.desc).map (fun d => d.parameters.length) = some n) (hR : rm.frames + 1 ≤ R.frames ∧ 8 + (maxL + 11) + rm.locals ≤ R.locals) :
    vx_CSW R s args own index y bytes maxL ret hh ws rm mc ms n := by
  have ok : ∀ w ∈ va_wsS own index y ws, w.before args s = true := fun w h => ht w (hT w h).1
  have hG : GoodIn Ts ws := fun w h => hT w (by unfold va_wsS; exact List.mem_append_right _ h)
  have hc : Cond.codeWith y bytes maxL ret hh ∈ ws := by rw [hw]; exact List.mem_cons_self
  refine ⟨⟨hrc, hrs, hR.1, hR.2, pay_in ht hG, hc⟩, ht _ (hG _ hc).1, ok _ (by simp [va_wsS]), ⟨hd.1, hd.2.1⟩, fun sig h => ?_, ok _ (by simp [va_wsS]), ok _ (by simp [va_wsS])⟩
  have h2 := hd.2.2
  rw [h] at h2
  exact (Option.some.inj h2).symm
theorem vx_callSW (X : Stand p l e R s m args below meth c T locs cells slots) (hexec : p.tables.exec = Jvm.exec) {own : String} {index : Nat} {y : MethodName} {bytes : ByteArray} {maxL : Nat} {ret : Option FieldType} {hh : List (Nat × Nat × Nat × Nat)}
    (hown : s.vm.findClass own = some m.cls) (hlink : (Cond.methodLink own index y).before args s = true) (hstat : (Cond.static y).before args s = true) (hinit : (Cond.initialized y.cls).before args s = true)
    (hcode : (Cond.codeWith y bytes maxL ret hh).before args s = true) (hy : y.cls ≠ "java/lang/invoke/MethodHandle" ∧ y.cls ≠ "java/lang/invoke/VarHandle")
    {W9 : Nat} {Pre : Pt → Array Value → Prop} {Post : Pt → Array Value → Option Value → Pt → Prop} (hK : Back l R p e below s args y 3 W9 Pre Post)
    {g : JFrame} (hg : g.method = m) (hsize : g.locals.size = c.maxLocals) {argsL rest : List Value} (hlen : ∀ sig, parseMethodDescriptor y.desc = some sig → argsL.length = sig.parameters.length)
    (hstack : g.stack = argsL.reverse ++ rest) (hW : 2 * g.monitorRoom + (rest.map fun v => v.category).sum ≤ W9) (hdg : decode c.code g.pc = .ok (.invokestatic index, 3))
    (hpre : ∀ vm₁, s.WarmedH vm₁ → Pre ⟨T.setVm vm₁, locs, cells, slots⟩ argsL.toArray) :
    ∃ (v : Option Value) (vm₁ : Vm) (B : Pt), s.WarmedH vm₁ ∧ Stand p l e R s m args below meth c B.U B.locs B.cells B.slots ∧ Post ⟨T.setVm vm₁, locs, cells, slots⟩ argsL.toArray v B ∧
      ∀ target, Steps p.tables e below (B.U.setTop { g with pc := g.pc + 3, stack := v.toList ++ rest }) target → Steps p.tables e below (T.setTop g) target := by
  obtain ⟨mk, methM, cM, hnamed, hmethM, -, -, -, -, -, -, hsigM⟩ := Cond.codeWith_spec hcode
  have hstatic : methM.isStatic = true := Cond.static_spec hnamed hmethM hstat
  obtain ⟨kP, hkP, -⟩ := className_of_methodNamed hnamed
  have hinitP : kP.init = .initialized := Cond.initialized_spec (findClass_of_methodNamed hnamed) hkP hinit
  obtain ⟨vm₁, X₁, hstep₁⟩ := X.invokestatic hexec hown hlink hnamed hmethM hstatic hkP hinitP hy (g := g) hg (argsL := argsL) (rest := rest) (hlen _ hsigM) hstack hdg
  obtain ⟨v, B, X', hpost, hsteps⟩ := hK m meth c ⟨T.setVm vm₁, locs, cells, slots⟩ { g with stack := rest } (.invokestatic index) mk argsL.toArray X₁ hg hsize hdg hW (X₁.named hnamed) (hpre vm₁ X₁.warmed)
  exact ⟨v, vm₁, B, X₁.warmed, X', hpost, fun target h => hstep₁ _ fun acts => by rw [doInvoke_state]; exact hsteps.trans h⟩
theorem vx_runSW {y : MethodName} {bytes cc : ByteArray} {maxL nL mc ms n index : Nat} {ret : Option FieldType} {hh : List (Nat × Nat × Nat × Nat)} {ws : List Cond} {rm : Room} {Pc : Array Value → State → Prop} {Qc : Array Value → State → Outcome → State → Prop} {free : Addr → Prop} {Ts : List Cond} {own : String} {As rest : List Value} {g : JFrame}
    (S : CallFix p m c cc nL s args Ts own) (hM : Met l y ws rm Pc Qc mc ms free) (cw : vx_CSW R s args own index y bytes maxL ret hh ws rm mc ms n) (hp : PreS s H Pc As)
    (hg : g.method = m) (hn : As.length = n) (hsize : g.locals.size = nL) (hstack : g.stack = As.reverse ++ rest) (hW : 2 * g.monitorRoom + (rest.map fun v => v.category).sum ≤ 8) (hdg : decode cc g.pc = .ok (.invokestatic index, 3)) (hf : cells + mc ≤ R.cells ∧ slots + ms ≤ R.slots) :
    va_Run p l e R s m args below meth c H locs cells slots mc ms g rest (Qc As.toArray) (free) := by
  obtain ⟨⟨hrc, hrs, hfr, hlo, hws, hcw⟩, hcode, hini, hy, hlen, hl, hstt⟩ := cw
  have hK : Back l R p e below s args y 3 8 (PreOf R mc ms Pc) (PostOf Qc mc ms free) := va_backW (hh := hh) (bytes := bytes) (maxL := maxL) (ret := ret) hM hp.1 hrc hrs hfr hlo hws hcw (fun a' U hW => word_at hW (Or.inl (by first | rfl | simp [Cond.onTables, Cond.keeps, Cond.steady])) hini)
  obtain ⟨hx, hb, hml, ho, -⟩ := S
  intro T hT X
  obtain ⟨v, vm₁, ⟨U', l2, c2, s2⟩, hW₁, X', ⟨g', mk, t, L, e1, e2, hq, h1, hL, h2, h3⟩, st⟩ := vx_callSW X hx (hh := hh) (bytes := bytes) (maxL := maxL) (ret := ret) ho hl hstt hini hcode hy hK hg (hsize.trans hml.symm) (argsL := As) (rest := rest) (fun sig h => hn.trans (hlen sig h)) hstack hW (by rw [hb]; exact hdg)
    (fun vm₁ hW₁ => ⟨hf.1, hf.2, hp.2 (T.setVm vm₁) hT hW₁⟩)
  dsimp only [Pt.U, Pt.locs, Pt.cells, Pt.slots] at X' e1 e2 h1 h2 h3 st
  subst h1; subst h2; subst h3
  exact ⟨v, (T.setVm vm₁).calling g' mk As.toArray, t, U', L, hT, X', hL, e1, e2, hq, st⟩
/-- not caught here, past rows that name other classes: it goes on to the caller -/
theorem vx_outP {p : Program} {l : Launch} {e : Env} {R : Room} {s : State} {m : MethodId} {args : Array Value} {below : List Frame} {meth : Method} {c : Code} {H : Heap} {locs : List Loc} {cells slots : Nat} {free : Addr → Prop} {ls : Array Slot} {rest : List Value} {Qc : Array Value → State → Outcome → State → Prop} {XC : String → State → State → Prop}
    {pc : Nat} {own E : String} {ce : Cell} {q : Addr} {mc ms : Nat} (hown : s.vm.findClass own = some m.cls) (hlocks : meth.locks = false)
    (hpass : ∀ z ∈ c.exceptionTable.toList, covers z pc = false ∨ (z.catchType ≠ 0 ∧ ∃ nm : String, (Cond.classLink own z.catchType nm).before args s = true ∧ va_Nc E nm s)) (hcell : H[q]? = some ce) (hv : ce.vm = .none) (hcl : s.vm.findClass E = some ce.cls)
    (hx : ∀ t : State, t.heap = H → s.vm.Alike t.vm → XC E s t) (hf : ∀ z ∈ locs, free z.base) (hc : cells ≤ mc) (hs : slots ≤ ms) :
    vx_W p l e R s m args below meth c H locs cells slots (vx_MQ below Qc XC args s mc ms free) (F0 m pc ls rest) q := by
  intro T hT X
  have hpl : e.platform.magicAccessors = ({} : Platform).magicAccessors := by rw [X.admits.platform]
  obtain ⟨vm', hW', X', st⟩ := X.outThrough hlocks q (g := F0 m pc ls rest) rfl rfl rfl (cell := ce) (by rw [hT]; exact hcell) (by rw [hv]; rfl)
    (by obtain ⟨k9, h9, -⟩ := Vm.findClass_spec hcl; exact ⟨k9, h9⟩) (fun z hz => by
      rcases hpass z hz with h | ⟨hz0, nm, hl1, hn1⟩
      · exact Or.inl h
      · obtain ⟨c6, hc6, hcl6⟩ := Cond.classLink_spec hown hl1 e.platform hpl
        obtain ⟨a8, b8, h1, h2, h3⟩ := hn1
        cases Option.some.inj (h1.symm.trans hcl)
        cases Option.some.inj (h2.symm.trans hc6)
        exact Or.inr ⟨hz0, _, hcl6, h3⟩)
  obtain ⟨g₀, hfr⟩ := X'.frames_eq
  have hcell9 : ((T.setVm vm').setFrames (.throwing q :: below)).heap[q]? = some ce := by
    show T.heap[q]? = some ce
    rw [hT]; exact hcell
  have hend : Ended ((T.setVm vm').setFrames (.throwing q :: below)) below (.threw q) := State.frames_setFrames _ (State.cur_lt_of_frames hfr)
  refine ⟨(T.setVm vm').setFrames (.throwing q :: below), ?_, .threw q, X'.here.running, hend, Or.inr ⟨q, rfl, E, ce, locs, hx _ hT (X'.ends _).1.alike, hcell9, hv, hcl, (X'.ends _).1, (X'.ends _).2.mono hc hs, hf⟩⟩
  rw [X.pushThrowing_eq]
  exact st
/-- a thing of a world lies in the heap -/
theorem vx_lt {D : va_G} {cl : List vw_C} {ws : va_W} {H1 : Heap} (h : va_P D cl ws H1) {k : Nat} {q : Nat × va_E} (hk : ws[k]? = some q) : q.1 < H1.size := (h k q hk).lt
end VXS
/-! ===== END ===== -/
/-! ===== BEGIN methods with a table of their own: called by a name, returning or throwing ===== -/
section VXH
/-! vx_backW, vx_callVX, vx_callSX, vx_callVW, vx_runVW, vx_runVX, vx_runSX, vx_ofWH follow the same proofs as their sisters above (Free/Laws.lean, Shelf42/LK1.lean); vx_outP calls Shelf42/NT130.lean (outThrough). -/
section
variable {l : Launch} {R : Room} {p : Program} {e : Env} {below : List Frame} {s : State} {sargs : Array Value} {y : MethodName} {len W9 : Nat}
theorem vx_backW {ws : List Cond} {rm : Room} {Pc : Array Value → State → Prop} {Qc : Array Value → State → Outcome → State → Prop} {XC : String → State → State → Prop} {mc ms : Nat} {free : Addr → Prop} {bytes : ByteArray} {maxL : Nat} {ret : Option FieldType} {hh : List (Nat × Nat × Nat × Nat)}
    (hM : vx_Met l y ws rm Pc Qc XC mc ms free) (hblind : FrameBlind Pc) (hrc : rm.cells = mc) (hrs : rm.slots = ms)
    (hframes : rm.frames + 1 ≤ R.frames) (hlocals : W9 + (maxL + 11) + rm.locals ≤ R.locals)
    (hws : ∀ w ∈ ws, ∀ a' U, s.WarmedH U.vm → w.before a' U = true) (hcode : Cond.codeWith y bytes maxL ret hh ∈ ws) (hinit : ∀ a' U, s.WarmedH U.vm → (Cond.initialized y.cls).before a' U = true) :
    vx_Back l R p e below s sargs y len W9 (PreOf R mc ms Pc) (PostOf Qc mc ms free) (vx_Post XC mc ms free) := by
  intro m meth c A g ig mk a X hg hsize hdg hW hn hp
  have h1 : (headSpec ws rm).pre.before a A.U = true := atoms_intro fun w hw => hws w hw _ _ X.warmed
  have h2 : (Cond.codeWith y bytes maxL ret hh).before a A.U = true := hws _ hcode _ _ X.warmed
  have h3 : (Cond.initialized y.cls).before a A.U = true := hinit _ _ X.warmed
  have h4 : A.cells + (headSpec ws rm).room.cells ≤ R.cells := by rw [show (headSpec ws rm).room.cells = mc from hrc]; exact hp.1
  have h5 : A.slots + (headSpec ws rm).room.slots ≤ R.slots := by rw [show (headSpec ws rm).room.slots = ms from hrs]; exact hp.2.1
  have hPc : Pc a (A.U.calling g mk a) := hblind _ _ _ _ hp.2.2
  obtain ⟨U, Ls, c0, s0⟩ := A
  dsimp only [Pt.U, Pt.locs, Pt.cells, Pt.slots] at h1 h2 h3 h4 h5 X hn hPc ⊢
  obtain ⟨m9, methY, cY, hn9, hmY, hcY, -, hlY, -⟩ := Cond.codeWith_spec h2
  cases Option.some.inj (hn9.symm.trans hn)
  obtain ⟨kY, hkY, -⟩ := className_of_methodNamed hn
  have hinitY : kY.init = .initialized := Cond.initialized_spec (findClass_of_methodNamed hn) hkY h3
  have h : At U g.method c below := by rw [hg]; exact X.here
  have hlocals9 : W9 + (maxL + 11) + (headSpec ws rm).room.locals ≤ R.locals := hlocals
  have happ : (headSpec ws rm).appliesLoose y e.platform (U.calling g mk a) = true :=
    Spec.appliesLoose_calling (g := g) h hdg hn hkY hinitY
      (X.room_calling (g := g) (R' := (headSpec ws rm).room) hsize hmY hcY hframes (by rw [hlY]; omega) h4 h5) h1
  obtain ⟨mid, hmid⟩ := h.above
  have hfr : (U.setTop g).frames = (.java g :: mid) ++ below := by rw [State.frames_setTop' g h.top, hmid]; rfl
  obtain ⟨o, s₂, hsteps, -, hend, hq⟩ := Steps.callFree hM p X.admits X.cas X.clock (acts := []) hfr happ hPc trivial
  have hq' : vx_Q Qc XC mc ms free a (U.calling g mk a) o s₂ := hq
  rw [State.frames_setTop' g h.top] at hend
  obtain ⟨g₀, hg0⟩ := Option.isSome_iff_exists.mp h.top
  obtain ⟨r, hr⟩ := State.topJava?_eq_some.mp hg0
  have hr' : (({ U with heap := s₂.heap, slotsUsed := s₂.slotsUsed } : State).setVm s₂.vm).frames = .java g₀ :: r := hr
  rcases hq' with ⟨hqc, L, hfe, hL⟩ | ⟨q, rfl, E, ce, L, hx, hce, hcv, hcl, hW₂, hsm, hL⟩
  · obtain ⟨⟨v, rfl⟩, hW₂, e2, q2, q3, q4, q5, q6⟩ := id hfe
    have e3 : s₂ = ({ (U.calling g mk a).setFrames s₂.frames with heap := s₂.heap, slotsUsed := s₂.slotsUsed } : State).setVm s₂.vm := by
      have : s₂ = ({ s₂ with vm := (U.calling g mk a).vm } : State).setVm s₂.vm := rfl
      rw [e2] at this
      exact this
    obtain ⟨c₂, i₂, len₂, hc₂, hd₂, hf₂⟩ := hend
    have hW' : U.WarmedH s₂.vm := hW₂
    have hcc : c₂ = c := by
      have h1 : s₂.code? g.method = U.code? g.method := by
        rw [State.code?_eq, State.code?_eq, hW'.alike.method?]
      exact Option.some.inj (hc₂.symm.trans (h1.trans h.code))
    subst hcc
    have hlen : len₂ = len := by rw [hdg] at hd₂; cases hd₂; rfl
    subst hlen
    have hs₂ : s₂ = (({ U with heap := s₂.heap, slotsUsed := s₂.slotsUsed } : State).setVm s₂.vm).setTop { g with pc := g.pc + len₂, stack := v.toList ++ g.stack } := by
      refine e3.trans ?_
      rw [hf₂, State.calling_eq h.top, State.setFrames_setFrames, State.setTop_of_frames _ hr', hr]
      rfl
    have hsame : U.sameButNew ({ U with heap := s₂.heap, slotsUsed := s₂.slotsUsed } : State) L mc ms := by
      refine ⟨?_, q2, q3, q4, q5, q6⟩
      obtain ⟨t, ht, -⟩ := State.frames_cons hr
      show ({ U with heap := s₂.heap, slotsUsed := s₂.slotsUsed } : State) = { U.setFrames U.frames with heap := s₂.heap, slotsUsed := s₂.slotsUsed }
      rw [State.setFrames_self ht]
    subst hg
    refine Or.inl ⟨v, ⟨(({ U with heap := s₂.heap, slotsUsed := s₂.slotsUsed } : State).setVm s₂.vm), Ls ++ L, c0 + mc, s0 + ms⟩,
      ⟨X.admits, X.cas, X.clock, X.frames, X.room, X.hears, X.method, X.code, (X.here.setHeapUsed s₂.heap s₂.slotsUsed).setVm hW'.alike, X.tail, State.WarmedH.trans X.warmed hW', X.limits, X.bytes, X.same.trans (hsame.setVm s.vm)⟩,
      ⟨g, mk, s₂, L, rfl, rfl, hqc, rfl, hL, rfl, rfl⟩, ?_⟩
    show Steps p.tables e below _ ((({ U with heap := s₂.heap, slotsUsed := s₂.slotsUsed } : State).setVm s₂.vm).setTop { g with pc := g.pc + len₂, stack := v.toList ++ g.stack })
    rw [← hs₂]
    exact hsteps
  · obtain ⟨e2, q2, q3, q4, q5, q6⟩ := id hsm
    have e3 : s₂ = ({ (U.calling g mk a).setFrames s₂.frames with heap := s₂.heap, slotsUsed := s₂.slotsUsed } : State).setVm s₂.vm := by
      have : s₂ = ({ s₂ with vm := (U.calling g mk a).vm } : State).setVm s₂.vm := rfl
      rw [e2] at this
      exact this
    have hf₂ : s₂.frames = .throwing q :: .java g :: U.frames.tail := hend
    have hW' : U.WarmedH s₂.vm := hW₂
    have hs₂ : s₂ = ((({ U with heap := s₂.heap, slotsUsed := s₂.slotsUsed } : State).setVm s₂.vm).setTop g).pushFrame (.throwing q) := by
      refine e3.trans ?_
      rw [hf₂, State.calling_eq h.top, State.setFrames_setFrames, State.pushFrame, State.frames_setTop _ hr', State.setTop_of_frames _ hr', State.setFrames_setFrames, hr]
      rfl
    have hsame : U.sameButNew ({ U with heap := s₂.heap, slotsUsed := s₂.slotsUsed } : State) L mc ms := by
      refine ⟨?_, q2, q3, q4, q5, q6⟩
      obtain ⟨t, ht, -⟩ := State.frames_cons hr
      show ({ U with heap := s₂.heap, slotsUsed := s₂.slotsUsed } : State) = { U.setFrames U.frames with heap := s₂.heap, slotsUsed := s₂.slotsUsed }
      rw [State.setFrames_self ht]
    subst hg
    refine Or.inr ⟨q, ⟨(({ U with heap := s₂.heap, slotsUsed := s₂.slotsUsed } : State).setVm s₂.vm), Ls ++ L, c0 + mc, s0 + ms⟩,
      ⟨X.admits, X.cas, X.clock, X.frames, X.room, X.hears, X.method, X.code, (X.here.setHeapUsed s₂.heap s₂.slotsUsed).setVm hW'.alike, X.tail, State.WarmedH.trans X.warmed hW', X.limits, X.bytes, X.same.trans (hsame.setVm s.vm)⟩,
      ⟨g, mk, s₂, L, E, ce, rfl, rfl, hx, hce, hcv, hcl, rfl, hL, rfl, rfl⟩, ?_⟩
    show Steps p.tables e below _ (((({ U with heap := s₂.heap, slotsUsed := s₂.slotsUsed } : State).setVm s₂.vm).setTop g).pushFrame (.throwing q))
    rw [← hs₂]
    exact hsteps
end
variable {p : Program} {l : Launch} {e : Env} {R : Room} {s : State} {m : MethodId} {args : Array Value} {below : List Frame} {meth : Method} {c : Code} {T : State} {H : Heap} {locs : List Loc} {cells slots : Nat}
theorem vx_callVX (X : Stand p l e R s m args below meth c T locs cells slots) (hexec : p.tables.exec = Jvm.exec) {own C : String} {index : Nat} {y : MethodName} {bytes : ByteArray} {maxL : Nat} {ret : Option FieldType} {hh : List (Nat × Nat × Nat × Nat)}
    (hown : s.vm.findClass own = some m.cls) (hlink : (Cond.methodLink own index y).before args s = true) (hinst : (Cond.instanceMethod y).before args s = true) (hsel : (Cond.selects C y y).before args s = true)
    (hcode : (Cond.codeWith y bytes maxL ret hh).before args s = true) (hy : y.cls ≠ "java/lang/invoke/MethodHandle" ∧ y.cls ≠ "java/lang/invoke/VarHandle")
    {W9 : Nat} {Pre : Pt → Array Value → Prop} {Post : Pt → Array Value → Option Value → Pt → Prop} {PostX : Pt → Array Value → Addr → Pt → Prop} (hK : vx_Back l R p e below s args y 3 W9 Pre Post PostX)
    {b : Addr} {cellB : Cell} (hcell : T.heap[b]? = some cellB) (hobj : cellB.vm.isStatics = false) (hcls : s.vm.findClass C = some cellB.cls)
    {g : JFrame} (hg : g.method = m) (hsize : g.locals.size = c.maxLocals) {argsL rest : List Value} (hlen : ∀ sig, parseMethodDescriptor y.desc = some sig → argsL.length = sig.parameters.length)
    (hstack : g.stack = argsL.reverse ++ .ref b :: rest) (hW : 2 * g.monitorRoom + (rest.map fun v => v.category).sum ≤ W9) (hdg : decode c.code g.pc = .ok (.invokevirtual index, 3))
    (hpre : ∀ vm₁, s.WarmedH vm₁ → Pre ⟨T.setVm vm₁, locs, cells, slots⟩ (Value.ref b :: argsL).toArray) :
    (∃ (v : Option Value) (vm₁ : Vm) (B : Pt), s.WarmedH vm₁ ∧ Stand p l e R s m args below meth c B.U B.locs B.cells B.slots ∧ Post ⟨T.setVm vm₁, locs, cells, slots⟩ (Value.ref b :: argsL).toArray v B ∧
      ∀ target, Steps p.tables e below (B.U.setTop { g with pc := g.pc + 3, stack := v.toList ++ rest }) target → Steps p.tables e below (T.setTop g) target) ∨
    (∃ (q : Addr) (vm₁ : Vm) (B : Pt), s.WarmedH vm₁ ∧ Stand p l e R s m args below meth c B.U B.locs B.cells B.slots ∧ PostX ⟨T.setVm vm₁, locs, cells, slots⟩ (Value.ref b :: argsL).toArray q B ∧
      Steps p.tables e below (T.setTop g) ((B.U.setTop { g with stack := rest }).pushFrame (.throwing q))) := by
  obtain ⟨mk, methM, hnamed, hmethM, hstM, habM⟩ := Cond.instanceMethod_spec hinst
  obtain ⟨m8, methM', cM, hn8, hmethM', -, -, -, -, -, -, hsigM⟩ := Cond.codeWith_spec hcode
  cases Option.some.inj (hn8.symm.trans hnamed)
  cases hmethM.symm.trans hmethM'
  obtain ⟨c2, r2, m2, q1, q2, q3, q4, kP, hkP, hkPi⟩ := Cond.selects_spec hsel
  cases hcls.symm.trans q1
  cases (State.methodFound?_of_named hnamed hy).symm.trans q2
  cases hnamed.symm.trans q3
  have hselP : selectMethod e.platform s.vm cellB.cls mk = .method mk := by rw [Launch.admits_selectMethod X.admits]; exact q4
  obtain ⟨vm₁, X₁, hstep₁⟩ := X.invokevirtual hexec hown hlink hnamed hmethM hstM hkP hkPi hy (a := b) (cell := cellB) hcell
    (fun z h => by rw [h] at hobj; cases hobj) hselP hmethM habM hkP hkPi (g := g) hg (argsL := argsL) (rest := rest) (hlen _ hsigM) hstack hdg
  rcases hK m meth c ⟨T.setVm vm₁, locs, cells, slots⟩ { g with stack := rest } (.invokevirtual index) mk (Value.ref b :: argsL).toArray X₁ hg hsize hdg hW (X₁.named hnamed) (hpre vm₁ X₁.warmed) with ⟨v, B, X', hpost, hsteps⟩ | ⟨q, B, X', hpost, hsteps⟩
  · exact Or.inl ⟨v, vm₁, B, X₁.warmed, X', hpost, fun target h => hstep₁ _ fun acts => by rw [doInvoke_state]; exact hsteps.trans h⟩
  · exact Or.inr ⟨q, vm₁, B, X₁.warmed, X', hpost, hstep₁ _ fun acts => by rw [doInvoke_state]; exact hsteps⟩
theorem vx_callSX (X : Stand p l e R s m args below meth c T locs cells slots) (hexec : p.tables.exec = Jvm.exec) {own : String} {index : Nat} {y : MethodName} {bytes : ByteArray} {maxL : Nat} {ret : Option FieldType} {hh : List (Nat × Nat × Nat × Nat)}
    (hown : s.vm.findClass own = some m.cls) (hlink : (Cond.methodLink own index y).before args s = true) (hstat : (Cond.static y).before args s = true) (hinit : (Cond.initialized y.cls).before args s = true)
    (hcode : (Cond.codeWith y bytes maxL ret hh).before args s = true) (hy : y.cls ≠ "java/lang/invoke/MethodHandle" ∧ y.cls ≠ "java/lang/invoke/VarHandle")
    {W9 : Nat} {Pre : Pt → Array Value → Prop} {Post : Pt → Array Value → Option Value → Pt → Prop} {PostX : Pt → Array Value → Addr → Pt → Prop} (hK : vx_Back l R p e below s args y 3 W9 Pre Post PostX)
    {g : JFrame} (hg : g.method = m) (hsize : g.locals.size = c.maxLocals) {argsL rest : List Value} (hlen : ∀ sig, parseMethodDescriptor y.desc = some sig → argsL.length = sig.parameters.length)
    (hstack : g.stack = argsL.reverse ++ rest) (hW : 2 * g.monitorRoom + (rest.map fun v => v.category).sum ≤ W9) (hdg : decode c.code g.pc = .ok (.invokestatic index, 3))
    (hpre : ∀ vm₁, s.WarmedH vm₁ → Pre ⟨T.setVm vm₁, locs, cells, slots⟩ argsL.toArray) :
    (∃ (v : Option Value) (vm₁ : Vm) (B : Pt), s.WarmedH vm₁ ∧ Stand p l e R s m args below meth c B.U B.locs B.cells B.slots ∧ Post ⟨T.setVm vm₁, locs, cells, slots⟩ argsL.toArray v B ∧
      ∀ target, Steps p.tables e below (B.U.setTop { g with pc := g.pc + 3, stack := v.toList ++ rest }) target → Steps p.tables e below (T.setTop g) target) ∨
    (∃ (q : Addr) (vm₁ : Vm) (B : Pt), s.WarmedH vm₁ ∧ Stand p l e R s m args below meth c B.U B.locs B.cells B.slots ∧ PostX ⟨T.setVm vm₁, locs, cells, slots⟩ argsL.toArray q B ∧
      Steps p.tables e below (T.setTop g) ((B.U.setTop { g with stack := rest }).pushFrame (.throwing q))) := by
  obtain ⟨mk, methM, cM, hnamed, hmethM, -, -, -, -, -, -, hsigM⟩ := Cond.codeWith_spec hcode
  have hstatic : methM.isStatic = true := Cond.static_spec hnamed hmethM hstat
  obtain ⟨kP, hkP, -⟩ := className_of_methodNamed hnamed
  have hinitP : kP.init = .initialized := Cond.initialized_spec (findClass_of_methodNamed hnamed) hkP hinit
  obtain ⟨vm₁, X₁, hstep₁⟩ := X.invokestatic hexec hown hlink hnamed hmethM hstatic hkP hinitP hy (g := g) hg (argsL := argsL) (rest := rest) (hlen _ hsigM) hstack hdg
  rcases hK m meth c ⟨T.setVm vm₁, locs, cells, slots⟩ { g with stack := rest } (.invokestatic index) mk argsL.toArray X₁ hg hsize hdg hW (X₁.named hnamed) (hpre vm₁ X₁.warmed) with ⟨v, B, X', hpost, hsteps⟩ | ⟨q, B, X', hpost, hsteps⟩
  · exact Or.inl ⟨v, vm₁, B, X₁.warmed, X', hpost, fun target h => hstep₁ _ fun acts => by rw [doInvoke_state]; exact hsteps.trans h⟩
  · exact Or.inr ⟨q, vm₁, B, X₁.warmed, X', hpost, hstep₁ _ fun acts => by rw [doInvoke_state]; exact hsteps⟩
theorem vx_callVW (X : Stand p l e R s m args below meth c T locs cells slots) (hexec : p.tables.exec = Jvm.exec) {own C : String} {index : Nat} {y : MethodName} {bytes : ByteArray} {maxL : Nat} {ret : Option FieldType} {hh : List (Nat × Nat × Nat × Nat)}
    (hown : s.vm.findClass own = some m.cls) (hlink : (Cond.methodLink own index y).before args s = true) (hinst : (Cond.instanceMethod y).before args s = true) (hsel : (Cond.selects C y y).before args s = true)
    (hcode : (Cond.codeWith y bytes maxL ret hh).before args s = true) (hy : y.cls ≠ "java/lang/invoke/MethodHandle" ∧ y.cls ≠ "java/lang/invoke/VarHandle")
    {W9 : Nat} {Pre : Pt → Array Value → Prop} {Post : Pt → Array Value → Option Value → Pt → Prop} (hK : Back l R p e below s args y 3 W9 Pre Post)
    {b : Addr} {cellB : Cell} (hcell : T.heap[b]? = some cellB) (hobj : cellB.vm.isStatics = false) (hcls : s.vm.findClass C = some cellB.cls)
    {g : JFrame} (hg : g.method = m) (hsize : g.locals.size = c.maxLocals) {argsL rest : List Value} (hlen : ∀ sig, parseMethodDescriptor y.desc = some sig → argsL.length = sig.parameters.length)
    (hstack : g.stack = argsL.reverse ++ .ref b :: rest) (hW : 2 * g.monitorRoom + (rest.map fun v => v.category).sum ≤ W9) (hdg : decode c.code g.pc = .ok (.invokevirtual index, 3))
    (hpre : ∀ vm₁, s.WarmedH vm₁ → Pre ⟨T.setVm vm₁, locs, cells, slots⟩ (Value.ref b :: argsL).toArray) :
    ∃ (v : Option Value) (vm₁ : Vm) (B : Pt), s.WarmedH vm₁ ∧ Stand p l e R s m args below meth c B.U B.locs B.cells B.slots ∧ Post ⟨T.setVm vm₁, locs, cells, slots⟩ (Value.ref b :: argsL).toArray v B ∧
      ∀ target, Steps p.tables e below (B.U.setTop { g with pc := g.pc + 3, stack := v.toList ++ rest }) target → Steps p.tables e below (T.setTop g) target := by
  obtain ⟨mk, methM, hnamed, hmethM, hstM, habM⟩ := Cond.instanceMethod_spec hinst
  obtain ⟨m8, methM', cM, hn8, hmethM', -, -, -, -, -, -, hsigM⟩ := Cond.codeWith_spec hcode
  cases Option.some.inj (hn8.symm.trans hnamed)
  cases hmethM.symm.trans hmethM'
  obtain ⟨c2, r2, m2, q1, q2, q3, q4, kP, hkP, hkPi⟩ := Cond.selects_spec hsel
  cases hcls.symm.trans q1
  cases (State.methodFound?_of_named hnamed hy).symm.trans q2
  cases hnamed.symm.trans q3
  have hselP : selectMethod e.platform s.vm cellB.cls mk = .method mk := by rw [Launch.admits_selectMethod X.admits]; exact q4
  obtain ⟨vm₁, X₁, hstep₁⟩ := X.invokevirtual hexec hown hlink hnamed hmethM hstM hkP hkPi hy (a := b) (cell := cellB) hcell
    (fun z h => by rw [h] at hobj; cases hobj) hselP hmethM habM hkP hkPi (g := g) hg (argsL := argsL) (rest := rest) (hlen _ hsigM) hstack hdg
  obtain ⟨v, B, X', hpost, hsteps⟩ := hK m meth c ⟨T.setVm vm₁, locs, cells, slots⟩ { g with stack := rest } (.invokevirtual index) mk (Value.ref b :: argsL).toArray X₁ hg hsize hdg hW (X₁.named hnamed) (hpre vm₁ X₁.warmed)
  exact ⟨v, vm₁, B, X₁.warmed, X', hpost, fun target h => hstep₁ _ fun acts => by rw [doInvoke_state]; exact hsteps.trans h⟩
abbrev vx_CVW (R : Room) (s : State) (args : Array Value) (own C : String) (index : Nat) (y : MethodName) (bytes : ByteArray) (maxL : Nat) (ret : Option FieldType) (hh : List (Nat × Nat × Nat × Nat)) (ws : List Cond) (rm : Room) (mc ms n : Nat) : Prop :=
  (rm.cells = mc ∧ rm.slots = ms ∧ rm.frames + 1 ≤ R.frames ∧ 8 + (maxL + 11) + rm.locals ≤ R.locals ∧ (∀ w ∈ ws, ∀ (a' : Array Value) (U : State), s.WarmedH U.vm → w.before a' U = true) ∧ Cond.codeWith y bytes maxL ret hh ∈ ws) ∧
  (Cond.codeWith y bytes maxL ret hh).before args s = true ∧ (Cond.initialized y.cls).before args s = true ∧ (y.cls ≠ "java/lang/invoke/MethodHandle" ∧ y.cls ≠ "java/lang/invoke/VarHandle") ∧
  (∀ sig, parseMethodDescriptor y.desc = some sig → n = sig.parameters.length) ∧ (Cond.methodLink own index y).before args s = true ∧ (Cond.instanceMethod y).before args s = true ∧ (Cond.selects C y y).before args s = true
theorem vx_cwVW {own C : String} {index maxL mc ms : Nat} {y : MethodName} {bytes : ByteArray} {ret : Option FieldType} {hh : List (Nat × Nat × Nat × Nat)} {Ts ws ws' : List Cond} {rm : Room} (n : Nat) (ht : ∀ w ∈ Ts, w.before args s = true) (hT : GoodIn Ts (wsV own index C y ws)) (hw : ws = Cond.codeWith y bytes maxL ret hh :: ws') (hrc : rm.cells = mc) (hrs : rm.slots = ms)
    (hd : y.cls = C ∧ y.cls ≠ "java/lang/invoke/MethodHandle" ∧ y.cls ≠ "java/lang/invoke/VarHandle" ∧ (parseMethodDescriptor y.desc).map (fun d => d.parameters.length) = some n) (hR : rm.frames + 1 ≤ R.frames ∧ 8 + (maxL + 11) + rm.locals ≤ R.locals) :
    vx_CVW R s args own C index y bytes maxL ret hh ws rm mc ms n := by
  obtain ⟨hC, hd⟩ := hd
  subst hC
  have ok : ∀ w ∈ wsV own index y.cls y ws, w.before args s = true := fun w h => ht w (hT w h).1
  have hG : GoodIn Ts ws := fun w h => hT w (by unfold wsV; exact List.mem_append_right _ h)
  have hc : Cond.codeWith y bytes maxL ret hh ∈ ws := by rw [hw]; exact List.mem_cons_self
  refine ⟨⟨hrc, hrs, hR.1, hR.2, pay_in ht hG, hc⟩, ht _ (hG _ hc).1, ok _ (by simp [wsV]), ⟨hd.1, hd.2.1⟩, fun sig h => ?_, ok _ (by simp [wsV]), ok _ (by simp [wsV]), ok _ (by simp [wsV])⟩
  have h2 := hd.2.2
  rw [h] at h2
  exact (Option.some.inj h2).symm
theorem vx_runVW {y : MethodName} {bytes cc : ByteArray} {maxL nL mc ms n index : Nat} {ret : Option FieldType} {hh : List (Nat × Nat × Nat × Nat)} {ws : List Cond} {rm : Room} {Pc : Array Value → State → Prop} {Qc : Array Value → State → Outcome → State → Prop} {free : Addr → Prop} {Ts : List Cond} {own C : String} {b : Addr} {As rest : List Value} {g : JFrame}
    (S : CallFix p m c cc nL s args Ts own) (hM : Met l y ws rm Pc Qc mc ms free) (cw : vx_CVW R s args own C index y bytes maxL ret hh ws rm mc ms n) (hp : PreV s H C b Pc As)
    (hg : g.method = m) (hn : As.length = n) (hsize : g.locals.size = nL) (hstack : g.stack = As.reverse ++ .ref b :: rest) (hW : 2 * g.monitorRoom + (rest.map fun v => v.category).sum ≤ 8) (hdg : decode cc g.pc = .ok (.invokevirtual index, 3)) (hf : cells + mc ≤ R.cells ∧ slots + ms ≤ R.slots) :
    va_Run p l e R s m args below meth c H locs cells slots mc ms g rest (Qc (Value.ref b :: As).toArray) free := by
  obtain ⟨⟨hrc, hrs, hfr, hlo, hws, hcw⟩, hcode, hini, hy, hlen, hl, hin, hse⟩ := cw
  have hK : Back l R p e below s args y 3 8 (PreOf R mc ms Pc) (PostOf Qc mc ms free) := va_backW (hh := hh) (bytes := bytes) (maxL := maxL) (ret := ret) hM hp.1 hrc hrs hfr hlo hws hcw (fun a' U hW => word_at hW (Or.inl (by first | rfl | simp [Cond.onTables, Cond.keeps, Cond.steady])) hini)
  obtain ⟨hx, hb, hml, ho, -⟩ := S
  obtain ⟨-, ⟨cellB, hcB, hoB, hclB⟩, hPc⟩ := hp
  intro T hT X
  obtain ⟨v, vm₁, ⟨U', l2, c2, s2⟩, hW₁, X', ⟨g', mk, t, L, e1, e2, hq, h1, hL, h2, h3⟩, st⟩ := vx_callVW X hx (C := C) (hh := hh) (bytes := bytes) (maxL := maxL) (ret := ret) ho hl hin hse hcode hy hK (by rw [hT]; exact hcB) hoB hclB hg (hsize.trans hml.symm) (argsL := As) (rest := rest) (fun sig h => hn.trans (hlen sig h)) hstack hW (by rw [hb]; exact hdg)
    (fun vm₁ hW₁ => ⟨hf.1, hf.2, hPc (T.setVm vm₁) hT hW₁⟩)
  dsimp only [Pt.U, Pt.locs, Pt.cells, Pt.slots] at X' e1 e2 h1 h2 h3 st
  subst h1; subst h2; subst h3
  exact ⟨v, (T.setVm vm₁).calling g' mk (Value.ref b :: As).toArray, t, U', L, hT, X', hL, e1, e2, hq, st⟩
section
variable {y : MethodName} {bytes cc : ByteArray} {maxL nL mc ms n index : Nat} {ret : Option FieldType} {ws : List Cond} {rm : Room} {Pc : Array Value → State → Prop} {Qc : Array Value → State → Outcome → State → Prop} {XC : String → State → State → Prop} {free : Addr → Prop} {Ts : List Cond} {own C : String} {b : Addr} {As rest : List Value} {g : JFrame}
theorem vx_runVX {hh : List (Nat × Nat × Nat × Nat)} (S : CallFix p m c cc nL s args Ts own) (hM : vx_Met l y ws rm Pc Qc XC mc ms free) (cw : vx_CVW R s args own C index y bytes maxL ret hh ws rm mc ms n) (hp : PreV s H C b Pc As)
    (hg : g.method = m) (hn : As.length = n) (hsize : g.locals.size = nL) (hstack : g.stack = As.reverse ++ .ref b :: rest) (hW : 2 * g.monitorRoom + (rest.map fun v => v.category).sum ≤ 8) (hdg : decode cc g.pc = .ok (.invokevirtual index, 3)) (hf : cells + mc ≤ R.cells ∧ slots + ms ≤ R.slots) :
    vx_Run p l e R s m args below meth c H locs cells slots mc ms g rest (Qc (Value.ref b :: As).toArray) XC free := by
  obtain ⟨⟨hrc, hrs, hfr, hlo, hws, hcw⟩, hcode, hini, hy, hlen, hl, hin, hse⟩ := cw
  have hK : vx_Back l R p e below s args y 3 8 (PreOf R mc ms Pc) (PostOf Qc mc ms free) (vx_Post XC mc ms free) := vx_backW (hh := hh) (bytes := bytes) (maxL := maxL) (ret := ret) hM hp.1 hrc hrs hfr hlo hws hcw (fun a' U hW => word_at hW (Or.inl (by first | rfl | simp [Cond.onTables, Cond.keeps, Cond.steady])) hini)
  obtain ⟨hx, hb, hml, ho, -⟩ := S
  obtain ⟨-, ⟨cellB, hcB, hoB, hclB⟩, hPc⟩ := hp
  intro T hT X
  rcases vx_callVX X hx (C := C) (hh := hh) (bytes := bytes) (maxL := maxL) (ret := ret) ho hl hin hse hcode hy hK (by rw [hT]; exact hcB) hoB hclB hg (hsize.trans hml.symm) (argsL := As) (rest := rest) (fun sig h => hn.trans (hlen sig h)) hstack hW (by rw [hb]; exact hdg)
    (fun vm₁ hW₁ => ⟨hf.1, hf.2, hPc (T.setVm vm₁) hT hW₁⟩) with ⟨v, vm₁, ⟨U', l2, c2, s2⟩, hW₁, X', ⟨g', mk, t, L, e1, e2, hq, h1, hL, h2, h3⟩, st⟩ | ⟨q, vm₁, ⟨U', l2, c2, s2⟩, hW₁, X', ⟨g', mk, t, L, E, ce, e1, e2, hq, hce, hcv, hcl, h1, hL, h2, h3⟩, st⟩
  · dsimp only [Pt.U, Pt.locs, Pt.cells, Pt.slots] at X' e1 e2 h1 h2 h3 st
    subst h1; subst h2; subst h3
    exact Or.inl ⟨v, (T.setVm vm₁).calling g' mk (Value.ref b :: As).toArray, t, U', L, hT, X', hL, e1, e2, hq, st⟩
  · dsimp only [Pt.U, Pt.locs, Pt.cells, Pt.slots] at X' e1 e2 h1 h2 h3 st hcl
    subst h1; subst h2; subst h3
    exact Or.inr ⟨q, (T.setVm vm₁).calling g' mk (Value.ref b :: As).toArray, t, U', L, E, ce, hT, X', hL, e1, e2, hq, hce, hcv, vx_cls hW₁ hcl, st⟩
theorem vx_runSX {hh : List (Nat × Nat × Nat × Nat)} (S : CallFix p m c cc nL s args Ts own) (hM : vx_Met l y ws rm Pc Qc XC mc ms free) (cw : vx_CSW R s args own index y bytes maxL ret hh ws rm mc ms n) (hp : PreS s H Pc As)
    (hg : g.method = m) (hn : As.length = n) (hsize : g.locals.size = nL) (hstack : g.stack = As.reverse ++ rest) (hW : 2 * g.monitorRoom + (rest.map fun v => v.category).sum ≤ 8) (hdg : decode cc g.pc = .ok (.invokestatic index, 3)) (hf : cells + mc ≤ R.cells ∧ slots + ms ≤ R.slots) :
    vx_Run p l e R s m args below meth c H locs cells slots mc ms g rest (Qc As.toArray) XC free := by
  obtain ⟨⟨hrc, hrs, hfr, hlo, hws, hcw⟩, hcode, hini, hy, hlen, hl, hstt⟩ := cw
  have hK : vx_Back l R p e below s args y 3 8 (PreOf R mc ms Pc) (PostOf Qc mc ms free) (vx_Post XC mc ms free) := vx_backW (hh := hh) (bytes := bytes) (maxL := maxL) (ret := ret) hM hp.1 hrc hrs hfr hlo hws hcw (fun a' U hW => word_at hW (Or.inl (by first | rfl | simp [Cond.onTables, Cond.keeps, Cond.steady])) hini)
  obtain ⟨hx, hb, hml, ho, -⟩ := S
  intro T hT X
  rcases vx_callSX X hx (hh := hh) (bytes := bytes) (maxL := maxL) (ret := ret) ho hl hstt hini hcode hy hK hg (hsize.trans hml.symm) (argsL := As) (rest := rest) (fun sig h => hn.trans (hlen sig h)) hstack hW (by rw [hb]; exact hdg)
    (fun vm₁ hW₁ => ⟨hf.1, hf.2, hp.2 (T.setVm vm₁) hT hW₁⟩) with ⟨v, vm₁, ⟨U', l2, c2, s2⟩, hW₁, X', ⟨g', mk, t, L, e1, e2, hq, h1, hL, h2, h3⟩, st⟩ | ⟨q, vm₁, ⟨U', l2, c2, s2⟩, hW₁, X', ⟨g', mk, t, L, E, ce, e1, e2, hq, hce, hcv, hcl, h1, hL, h2, h3⟩, st⟩
  · dsimp only [Pt.U, Pt.locs, Pt.cells, Pt.slots] at X' e1 e2 h1 h2 h3 st
    subst h1; subst h2; subst h3
    exact Or.inl ⟨v, (T.setVm vm₁).calling g' mk As.toArray, t, U', L, hT, X', hL, e1, e2, hq, st⟩
  · dsimp only [Pt.U, Pt.locs, Pt.cells, Pt.slots] at X' e1 e2 h1 h2 h3 st hcl
    subst h1; subst h2; subst h3
    exact Or.inr ⟨q, (T.setVm vm₁).calling g' mk As.toArray, t, U', L, E, ce, hT, X', hL, e1, e2, hq, hce, hcv, vx_cls hW₁ hcl, st⟩
end
end VXH
theorem vx_ofWH {l : Launch} {y : MethodName} {ws ws' : List Cond} {rm : Room} {Pc : Array Value → State → Prop} {Qc : Array Value → State → Outcome → State → Prop} {XC : String → State → State → Prop} {mc ms : Nat} {free : Addr → Prop} {cc : ByteArray} {maxL : Nat} {ret : Option FieldType} {hh : List (Nat × Nat × Nat × Nat)}
    (hy : plainName y.cls = true) (hw : ws = Cond.codeWith y cc maxL ret hh :: ws')
    (body : ∀ p e s m args below meth c s₁, BodyLoose p l y (headSpec ws rm) cc maxL ret e s m args below meth c s₁ → c.maxLocals = maxL → Pc args s →
      W p l e (headSpec ws rm).room s m args below meth c s.heap [] 0 0 (vx_MQ below Qc XC args s mc ms free) (entryFrame m args maxL)) : vx_Met l y ws rm Pc Qc XC mc ms free := by
  refine MetFree.of_bodyS (code := cc) (maxLocals := maxL) (ret := ret) hy ?_ ?_
  · intro args s m h hn
    obtain ⟨m9, meth, c, hn9, h1, h2, h3, h4, -, h5, h6, -⟩ := Cond.codeWith_spec (atoms_spec (ws := ws) h _ (by rw [hw]; exact List.mem_cons_self))
    cases hn.symm.trans hn9
    exact ⟨meth, c, h1, h2, h3, h4, h5, h6⟩
  · intro p e s m args below meth c s₁ B hml hP _
    have hh0 : s₁.heap = s.heap := by rw [B.state]; rfl
    obtain ⟨t, a1, o, b1, b2, b3⟩ := body p e s m args below meth c s₁ B hml hP s₁ hh0 (Stand.of_body B)
    exact ⟨t, o, a1, b1, b2, b3⟩
/-! ===== END ===== -/

def RX0 : String := "LinkElection$Data"
def TX0 : u_T := fun k => match k with
  | 0 => ("LinkElection$Data", "rows", "[LLinkElection$Library;", true)
  | 1 => ("LinkElection$Data", "libraryCount", "I", false)
  | 2 => ("LinkElection$Data", "nameCount", "I", false)
  | 3 => ("LinkElection$Data", "share", "I", false)
  | _ => ("LinkElection$Data", "weight", "LLinkElection$Weight;", false)
def tyX0 : Nat → FieldType := fun k => match k with
  | 0 => .array (.object "LinkElection$Library")
  | 1 => .int
  | 2 => .int
  | 3 => .int
  | _ => .object "LinkElection$Weight"
abbrev wsX00 : List Cond := u_ws RX0 TX0 5
theorem nmX0 : ∀ a, a < 5 → ∀ b, b < 5 → a ≠ b → (TX0 a).2.1 ≠ (TX0 b).2.1 := by decide +kernel
theorem tyX0_ok : ∀ k, k < 5 → parseFieldDescriptor (TX0 k).2.2.1 = some (tyX0 k) := by decide +kernel
abbrev cX0_init : ByteArray := prog_2_method_1_code
def yX0_init : MethodName := ⟨RX0, "<init>", "()V"⟩
abbrev cX0_clear : ByteArray := prog_2_method_2_code
def yX0_clear : MethodName := ⟨RX0, "clear", "()V"⟩
abbrev cX0_copyFrom : ByteArray := prog_2_method_3_code
def yX0_copyFrom : MethodName := ⟨RX0, "copyFrom", "(LLinkElection$Data;)V"⟩
abbrev cX0_isCandidate : ByteArray := prog_2_method_4_code
def yX0_isCandidate : MethodName := ⟨RX0, "isCandidate", "(II)Z"⟩
abbrev cX0_takeOut : ByteArray := prog_2_method_5_code
def yX0_takeOut : MethodName := ⟨RX0, "takeOut", "(I)V"⟩
abbrev cX0_takeIn : ByteArray := prog_2_method_6_code
def yX0_takeIn : MethodName := ⟨RX0, "takeIn", "(I)V"⟩
abbrev cX0_friendsOf : ByteArray := prog_2_method_7_code
def yX0_friendsOf : MethodName := ⟨RX0, "friendsOf", "(I)I"⟩
abbrev cX0_weightOf : ByteArray := prog_2_method_8_code
def yX0_weightOf : MethodName := ⟨RX0, "weightOf", "(I)I"⟩
def RX1 : String := "LinkElection$Election"
def TX1 : u_T := fun k => match k with
  | 0 => ("LinkElection$Election", "weights", "[I", true)
  | 1 => ("LinkElection$Election", "candidateCounts", "[I", true)
  | 2 => ("LinkElection$Election", "winners", "[I", true)
  | 3 => ("LinkElection$Election", "margins", "[I", true)
  | 4 => ("LinkElection$Election", "votes", "[I", true)
  | 5 => ("LinkElection$Election", "supports", "[I", true)
  | _ => ("LinkElection$Election", "bindings", "[I", true)
def tyX1 : Nat → FieldType := fun k => match k with
  | 0 => .array .int
  | 1 => .array .int
  | 2 => .array .int
  | 3 => .array .int
  | 4 => .array .int
  | 5 => .array .int
  | _ => .array .int
abbrev wsX10 : List Cond := u_ws RX1 TX1 7
theorem nmX1 : ∀ a, a < 7 → ∀ b, b < 7 → a ≠ b → (TX1 a).2.1 ≠ (TX1 b).2.1 := by decide +kernel
theorem tyX1_ok : ∀ k, k < 7 → parseFieldDescriptor (TX1 k).2.2.1 = some (tyX1 k) := by decide +kernel
abbrev cX1_init : ByteArray := prog_3_method_1_code
def yX1_init : MethodName := ⟨RX1, "<init>", "()V"⟩
abbrev cX1_count : ByteArray := prog_3_method_2_code
def yX1_count : MethodName := ⟨RX1, "count", "(LLinkElection$Data;)V"⟩
abbrev cX1_countCandidates : ByteArray := prog_3_method_3_code
def yX1_countCandidates : MethodName := ⟨RX1, "countCandidates", "(LLinkElection$Data;I)V"⟩
abbrev cX1_countVotes : ByteArray := prog_3_method_4_code
def yX1_countVotes : MethodName := ⟨RX1, "countVotes", "(LLinkElection$Data;I)V"⟩
abbrev cX1_choiceOf : ByteArray := prog_3_method_5_code
def yX1_choiceOf : MethodName := ⟨RX1, "choiceOf", "(LLinkElection$Data;II)I"⟩
abbrev cX1_countWinner : ByteArray := prog_3_method_6_code
def yX1_countWinner : MethodName := ⟨RX1, "countWinner", "(LLinkElection$Data;I)V"⟩
abbrev cX1_isAhead : ByteArray := prog_3_method_7_code
def yX1_isAhead : MethodName := ⟨RX1, "isAhead", "(LLinkElection$Data;III)Z"⟩
abbrev cX1_countMargin : ByteArray := prog_3_method_8_code
def yX1_countMargin : MethodName := ⟨RX1, "countMargin", "(LLinkElection$Data;I)V"⟩
abbrev cX1_countBindings : ByteArray := prog_3_method_9_code
def yX1_countBindings : MethodName := ⟨RX1, "countBindings", "(LLinkElection$Data;I)V"⟩
abbrev cX1_isLargeEnough : ByteArray := prog_3_method_10_code
def yX1_isLargeEnough : MethodName := ⟨RX1, "isLargeEnough", "(IIII)Z"⟩
def RX2 : String := "LinkElection$History"
def TX2 : u_T := fun k => match k with
  | 0 => ("LinkElection$History", "kept", "[LLinkElection$Data;", true)
  | 1 => ("LinkElection$History", "next", "I", false)
  | _ => ("LinkElection$History", "size", "I", false)
def tyX2 : Nat → FieldType := fun k => match k with
  | 0 => .array (.object "LinkElection$Data")
  | 1 => .int
  | _ => .int
abbrev wsX20 : List Cond := u_ws RX2 TX2 3
theorem nmX2 : ∀ a, a < 3 → ∀ b, b < 3 → a ≠ b → (TX2 a).2.1 ≠ (TX2 b).2.1 := by decide +kernel
theorem tyX2_ok : ∀ k, k < 3 → parseFieldDescriptor (TX2 k).2.2.1 = some (tyX2 k) := by decide +kernel
abbrev cX2_init : ByteArray := prog_4_method_1_code
def yX2_init : MethodName := ⟨RX2, "<init>", "()V"⟩
abbrev cX2_keep : ByteArray := prog_4_method_2_code
def yX2_keep : MethodName := ⟨RX2, "keep", "(LLinkElection$Data;)V"⟩
abbrev cX2_bringBack : ByteArray := prog_4_method_3_code
def yX2_bringBack : MethodName := ⟨RX2, "bringBack", "(LLinkElection$Data;)Z"⟩
def RX3 : String := "LinkElection$Library"
def TX3 : u_T := fun k => match k with
  | 0 => ("LinkElection$Library", "trust", "I", false)
  | 1 => ("LinkElection$Library", "keeps", "Z", false)
  | 2 => ("LinkElection$Library", "rank", "I", false)
  | 3 => ("LinkElection$Library", "offers", "[I", true)
  | 4 => ("LinkElection$Library", "preferences", "[I", true)
  | _ => ("LinkElection$Library", "preferenceCount", "I", false)
def tyX3 : Nat → FieldType := fun k => match k with
  | 0 => .int
  | 1 => .boolean
  | 2 => .int
  | 3 => .array .int
  | 4 => .array .int
  | _ => .int
abbrev wsX30 : List Cond := u_ws RX3 TX3 6
theorem nmX3 : ∀ a, a < 6 → ∀ b, b < 6 → a ≠ b → (TX3 a).2.1 ≠ (TX3 b).2.1 := by decide +kernel
theorem tyX3_ok : ∀ k, k < 6 → parseFieldDescriptor (TX3 k).2.2.1 = some (tyX3 k) := by decide +kernel
abbrev cX3_init : ByteArray := prog_5_method_1_code
def yX3_init : MethodName := ⟨RX3, "<init>", "()V"⟩
abbrev cX3_startAs : ByteArray := prog_5_method_2_code
def yX3_startAs : MethodName := ⟨RX3, "startAs", "(II)V"⟩
abbrev cX3_copyFrom : ByteArray := prog_5_method_3_code
def yX3_copyFrom : MethodName := ⟨RX3, "copyFrom", "(LLinkElection$Library;)V"⟩
abbrev cX3_isLoaded : ByteArray := prog_5_method_4_code
def yX3_isLoaded : MethodName := ⟨RX3, "isLoaded", "()Z"⟩
abbrev cX3_hasOffer : ByteArray := prog_5_method_5_code
def yX3_hasOffer : MethodName := ⟨RX3, "hasOffer", "(I)Z"⟩
abbrev cX3_countOffers : ByteArray := prog_5_method_6_code
def yX3_countOffers : MethodName := ⟨RX3, "countOffers", "()I"⟩
abbrev cX3_prefers : ByteArray := prog_5_method_7_code
def yX3_prefers : MethodName := ⟨RX3, "prefers", "(I)Z"⟩
abbrev cX3_addPreference : ByteArray := prog_5_method_8_code
def yX3_addPreference : MethodName := ⟨RX3, "addPreference", "(I)V"⟩
def RX4 : String := "LinkElection$Route"
def TX4 : u_T := fun k => match k with
  | 0 => ("LinkElection$Route", "visited", "[I", true)
  | 1 => ("LinkElection$Route", "result", "I", false)
  | _ => ("LinkElection$Route", "length", "I", false)
def tyX4 : Nat → FieldType := fun k => match k with
  | 0 => .array .int
  | 1 => .int
  | _ => .int
abbrev wsX40 : List Cond := u_ws RX4 TX4 3
theorem nmX4 : ∀ a, a < 3 → ∀ b, b < 3 → a ≠ b → (TX4 a).2.1 ≠ (TX4 b).2.1 := by decide +kernel
theorem tyX4_ok : ∀ k, k < 3 → parseFieldDescriptor (TX4 k).2.2.1 = some (tyX4 k) := by decide +kernel
abbrev cX4_init : ByteArray := prog_6_method_1_code
def yX4_init : MethodName := ⟨RX4, "<init>", "()V"⟩
abbrev cX4_follow : ByteArray := prog_6_method_2_code
def yX4_follow : MethodName := ⟨RX4, "follow", "(LLinkElection$Data;LLinkElection$Election;II)V"⟩
def RX5 : String := "LinkElection$SetupReader"
def TX5 : u_T := fun k => match k with
  | 0 => ("LinkElection$SetupReader", "tokens", "LLinkElection$Tokens;", true)
  | 1 => ("LinkElection$SetupReader", "draft", "LLinkElection$Data;", true)
  | 2 => ("LinkElection$SetupReader", "libraryWords", "[J", true)
  | 3 => ("LinkElection$SetupReader", "nameWords", "[J", true)
  | 4 => ("LinkElection$SetupReader", "code", "[I", true)
  | 5 => ("LinkElection$SetupReader", "codeLength", "I", false)
  | 6 => ("LinkElection$SetupReader", "shareTold", "Z", false)
  | 7 => ("LinkElection$SetupReader", "weightTold", "Z", false)
  | 8 => ("LinkElection$SetupReader", "found", "I", false)
  | 9 => ("LinkElection$SetupReader", "errorCode", "I", false)
  | _ => ("LinkElection$SetupReader", "errorPlace", "I", false)
def tyX5 : Nat → FieldType := fun k => match k with
  | 0 => .object "LinkElection$Tokens"
  | 1 => .object "LinkElection$Data"
  | 2 => .array .long
  | 3 => .array .long
  | 4 => .array .int
  | 5 => .int
  | 6 => .boolean
  | 7 => .boolean
  | 8 => .int
  | 9 => .int
  | _ => .int
abbrev wsX50 : List Cond := u_ws RX5 TX5 11
theorem nmX5 : ∀ a, a < 11 → ∀ b, b < 11 → a ≠ b → (TX5 a).2.1 ≠ (TX5 b).2.1 := by decide +kernel
theorem tyX5_ok : ∀ k, k < 11 → parseFieldDescriptor (TX5 k).2.2.1 = some (tyX5 k) := by decide +kernel
abbrev cX5_init : ByteArray := prog_7_method_1_code
def yX5_init : MethodName := ⟨RX5, "<init>", "()V"⟩
abbrev cX5_readText : ByteArray := prog_7_method_2_code
def yX5_readText : MethodName := ⟨RX5, "readText", "([BI)Z"⟩
abbrev cX5_readStatement : ByteArray := prog_7_method_3_code
def yX5_readStatement : MethodName := ⟨RX5, "readStatement", "()Z"⟩
abbrev cX5_readNewName : ByteArray := prog_7_method_4_code
def yX5_readNewName : MethodName := ⟨RX5, "readNewName", "()Z"⟩
abbrev cX5_readNewLibrary : ByteArray := prog_7_method_5_code
def yX5_readNewLibrary : MethodName := ⟨RX5, "readNewLibrary", "()Z"⟩
abbrev cX5_readOffer : ByteArray := prog_7_method_6_code
def yX5_readOffer : MethodName := ⟨RX5, "readOffer", "()Z"⟩
abbrev cX5_readPrefer : ByteArray := prog_7_method_7_code
def yX5_readPrefer : MethodName := ⟨RX5, "readPrefer", "()Z"⟩
abbrev cX5_readShare : ByteArray := prog_7_method_8_code
def yX5_readShare : MethodName := ⟨RX5, "readShare", "()Z"⟩
abbrev cX5_readWeight : ByteArray := prog_7_method_9_code
def yX5_readWeight : MethodName := ⟨RX5, "readWeight", "()Z"⟩
abbrev cX5_readSum : ByteArray := prog_7_method_10_code
def yX5_readSum : MethodName := ⟨RX5, "readSum", "(I)Z"⟩
abbrev cX5_readTerm : ByteArray := prog_7_method_11_code
def yX5_readTerm : MethodName := ⟨RX5, "readTerm", "(I)Z"⟩
abbrev cX5_readFactor : ByteArray := prog_7_method_12_code
def yX5_readFactor : MethodName := ⟨RX5, "readFactor", "(I)Z"⟩
abbrev cX5_quantityCode : ByteArray := prog_7_method_13_code
def yX5_quantityCode : MethodName := ⟨RX5, "quantityCode", "()I"⟩
abbrev cX5_addCode : ByteArray := prog_7_method_14_code
def yX5_addCode : MethodName := ⟨RX5, "addCode", "(I)V"⟩
abbrev cX5_readKeyword : ByteArray := prog_7_method_15_code
def yX5_readKeyword : MethodName := ⟨RX5, "readKeyword", "(Ljava/lang/String;)Z"⟩
abbrev cX5_readSign : ByteArray := prog_7_method_16_code
def yX5_readSign : MethodName := ⟨RX5, "readSign", "(C)Z"⟩
abbrev cX5_readNumber : ByteArray := prog_7_method_17_code
def yX5_readNumber : MethodName := ⟨RX5, "readNumber", "(I)Z"⟩
abbrev cX5_readNewWord : ByteArray := prog_7_method_18_code
def yX5_readNewWord : MethodName := ⟨RX5, "readNewWord", "([JI)Z"⟩
abbrev cX5_findLibrary : ByteArray := prog_7_method_19_code
def yX5_findLibrary : MethodName := ⟨RX5, "findLibrary", "()Z"⟩
abbrev cX5_findName : ByteArray := prog_7_method_20_code
def yX5_findName : MethodName := ⟨RX5, "findName", "()Z"⟩
abbrev cX5_findWord : ByteArray := prog_7_method_21_code
def yX5_findWord : MethodName := ⟨RX5, "findWord", "([JI)Z"⟩
abbrev cX5_indexOfWord : ByteArray := prog_7_method_22_code
def yX5_indexOfWord : MethodName := ⟨RX5, "indexOfWord", "([JI)I"⟩
abbrev cX5_syntaxError : ByteArray := prog_7_method_23_code
def yX5_syntaxError : MethodName := ⟨RX5, "syntaxError", "()Z"⟩
abbrev cX5_error : ByteArray := prog_7_method_24_code
def yX5_error : MethodName := ⟨RX5, "error", "(I)Z"⟩
def RX6 : String := "LinkElection$Tokens"
def TX6 : u_T := fun k => match k with
  | 0 => ("LinkElection$Tokens", "text", "[B", true)
  | 1 => ("LinkElection$Tokens", "length", "I", false)
  | 2 => ("LinkElection$Tokens", "position", "I", false)
  | 3 => ("LinkElection$Tokens", "kind", "I", false)
  | 4 => ("LinkElection$Tokens", "start", "I", false)
  | 5 => ("LinkElection$Tokens", "word", "J", false)
  | 6 => ("LinkElection$Tokens", "number", "I", false)
  | _ => ("LinkElection$Tokens", "sign", "I", false)
def tyX6 : Nat → FieldType := fun k => match k with
  | 0 => .array .byte
  | 1 => .int
  | 2 => .int
  | 3 => .int
  | 4 => .int
  | 5 => .long
  | 6 => .int
  | _ => .int
abbrev wsX60 : List Cond := u_ws RX6 TX6 8
theorem nmX6 : ∀ a, a < 8 → ∀ b, b < 8 → a ≠ b → (TX6 a).2.1 ≠ (TX6 b).2.1 := by decide +kernel
theorem tyX6_ok : ∀ k, k < 8 → parseFieldDescriptor (TX6 k).2.2.1 = some (tyX6 k) := by decide +kernel
abbrev cX6_init : ByteArray := prog_8_method_1_code
def yX6_init : MethodName := ⟨RX6, "<init>", "()V"⟩
abbrev cX6_startText : ByteArray := prog_8_method_2_code
def yX6_startText : MethodName := ⟨RX6, "startText", "([BI)V"⟩
abbrev cX6_advance : ByteArray := prog_8_method_3_code
def yX6_advance : MethodName := ⟨RX6, "advance", "()V"⟩
abbrev cX6_takeWord : ByteArray := prog_8_method_4_code
def yX6_takeWord : MethodName := ⟨RX6, "takeWord", "()V"⟩
abbrev cX6_takeNumber : ByteArray := prog_8_method_5_code
def yX6_takeNumber : MethodName := ⟨RX6, "takeNumber", "()V"⟩
abbrev cX6_isLetterAt : ByteArray := prog_8_method_6_code
def yX6_isLetterAt : MethodName := ⟨RX6, "isLetterAt", "(I)Z"⟩
abbrev cX6_isDigitAt : ByteArray := prog_8_method_7_code
def yX6_isDigitAt : MethodName := ⟨RX6, "isDigitAt", "(I)Z"⟩
abbrev cX6_isSign : ByteArray := prog_8_method_8_code
def yX6_isSign : MethodName := ⟨RX6, "isSign", "(C)Z"⟩
abbrev cX6_isWord : ByteArray := prog_8_method_9_code
def yX6_isWord : MethodName := ⟨RX6, "isWord", "(Ljava/lang/String;)Z"⟩
abbrev cX6_packed : ByteArray := prog_8_method_10_code
def yX6_packed : MethodName := ⟨RX6, "packed", "(Ljava/lang/String;)J"⟩
def RX7 : String := "LinkElection$Weight"
def TX7 : u_T := fun k => match k with
  | 0 => ("LinkElection$Weight", "code", "[I", true)
  | _ => ("LinkElection$Weight", "stack", "[I", true)
def tyX7 : Nat → FieldType := fun k => match k with
  | 0 => .array .int
  | _ => .array .int
abbrev wsX70 : List Cond := u_ws RX7 TX7 2
theorem nmX7 : ∀ a, a < 2 → ∀ b, b < 2 → a ≠ b → (TX7 a).2.1 ≠ (TX7 b).2.1 := by decide +kernel
theorem tyX7_ok : ∀ k, k < 2 → parseFieldDescriptor (TX7 k).2.2.1 = some (tyX7 k) := by decide +kernel
abbrev cX7_init : ByteArray := prog_9_method_1_code
def yX7_init : MethodName := ⟨RX7, "<init>", "([I)V"⟩
abbrev cX7_valueOf : ByteArray := prog_9_method_2_code
def yX7_valueOf : MethodName := ⟨RX7, "valueOf", "(IIII)I"⟩
abbrev cX7_factorValue : ByteArray := prog_9_method_3_code
def yX7_factorValue : MethodName := ⟨RX7, "factorValue", "(IIIII)I"⟩
abbrev cX7_operate : ByteArray := prog_9_method_4_code
def yX7_operate : MethodName := ⟨RX7, "operate", "(IJJ)I"⟩
abbrev cX7_limited : ByteArray := prog_9_method_5_code
def yX7_limited : MethodName := ⟨RX7, "limited", "(JII)I"⟩
def RX8 : String := "LinkElection"
def TX8 : u_T := fun k => match k with
  | 0 => ("LinkElection", "buffer", "[B", true)
  | 1 => ("LinkElection", "buffered", "I", false)
  | 2 => ("LinkElection", "errorPlace", "I", false)
  | 3 => ("LinkElection", "reader", "LLinkElection$SetupReader;", true)
  | 4 => ("LinkElection", "data", "LLinkElection$Data;", true)
  | 5 => ("LinkElection", "election", "LLinkElection$Election;", true)
  | 6 => ("LinkElection", "route", "LLinkElection$Route;", true)
  | 7 => ("LinkElection", "history", "LLinkElection$History;", true)
  | _ => ("LinkElection", "bindingsBefore", "[I", true)
def tyX8 : Nat → FieldType := fun k => match k with
  | 0 => .array .byte
  | 1 => .int
  | 2 => .int
  | 3 => .object "LinkElection$SetupReader"
  | 4 => .object "LinkElection$Data"
  | 5 => .object "LinkElection$Election"
  | 6 => .object "LinkElection$Route"
  | 7 => .object "LinkElection$History"
  | _ => .array .int
abbrev wsX80 : List Cond := u_ws RX8 TX8 9
theorem nmX8 : ∀ a, a < 9 → ∀ b, b < 9 → a ≠ b → (TX8 a).2.1 ≠ (TX8 b).2.1 := by decide +kernel
theorem tyX8_ok : ∀ k, k < 9 → parseFieldDescriptor (TX8 k).2.2.1 = some (tyX8 k) := by decide +kernel
abbrev cX8_init : ByteArray := prog_1_method_1_code
def yX8_init : MethodName := ⟨RX8, "<init>", "()V"⟩
abbrev cX8_append : ByteArray := prog_1_method_2_code
def yX8_append : MethodName := ⟨RX8, "append", "(IIIII)I"⟩
abbrev cX8_load : ByteArray := prog_1_method_3_code
def yX8_load : MethodName := ⟨RX8, "load", "(I)I"⟩
abbrev cX8_errorOffset : ByteArray := prog_1_method_4_code
def yX8_errorOffset : MethodName := ⟨RX8, "errorOffset", "()I"⟩
abbrev cX8_libraries : ByteArray := prog_1_method_5_code
def yX8_libraries : MethodName := ⟨RX8, "libraries", "()I"⟩
abbrev cX8_names : ByteArray := prog_1_method_6_code
def yX8_names : MethodName := ⟨RX8, "names", "()I"⟩
abbrev cX8_share : ByteArray := prog_1_method_7_code
def yX8_share : MethodName := ⟨RX8, "share", "()I"⟩
abbrev cX8_library : ByteArray := prog_1_method_8_code
def yX8_library : MethodName := ⟨RX8, "library", "(II)I"⟩
abbrev cX8_offer : ByteArray := prog_1_method_9_code
def yX8_offer : MethodName := ⟨RX8, "offer", "(II)I"⟩
abbrev cX8_candidates : ByteArray := prog_1_method_10_code
def yX8_candidates : MethodName := ⟨RX8, "candidates", "(I)I"⟩
abbrev cX8_vote : ByteArray := prog_1_method_11_code
def yX8_vote : MethodName := ⟨RX8, "vote", "(II)I"⟩
abbrev cX8_support : ByteArray := prog_1_method_12_code
def yX8_support : MethodName := ⟨RX8, "support", "(II)I"⟩
abbrev cX8_winner : ByteArray := prog_1_method_13_code
def yX8_winner : MethodName := ⟨RX8, "winner", "(I)I"⟩
abbrev cX8_margin : ByteArray := prog_1_method_14_code
def yX8_margin : MethodName := ⟨RX8, "margin", "(I)I"⟩
abbrev cX8_binding : ByteArray := prog_1_method_15_code
def yX8_binding : MethodName := ⟨RX8, "binding", "(II)I"⟩
abbrev cX8_minority : ByteArray := prog_1_method_16_code
def yX8_minority : MethodName := ⟨RX8, "minority", "(I)I"⟩
abbrev cX8_call : ByteArray := prog_1_method_17_code
def yX8_call : MethodName := ⟨RX8, "call", "(II)I"⟩
abbrev cX8_steps : ByteArray := prog_1_method_18_code
def yX8_steps : MethodName := ⟨RX8, "steps", "(II)I"⟩
abbrev cX8_users : ByteArray := prog_1_method_19_code
def yX8_users : MethodName := ⟨RX8, "users", "(II)I"⟩
abbrev cX8_unload : ByteArray := prog_1_method_20_code
def yX8_unload : MethodName := ⟨RX8, "unload", "(I)I"⟩
abbrev cX8_reload : ByteArray := prog_1_method_21_code
def yX8_reload : MethodName := ⟨RX8, "reload", "(I)I"⟩
abbrev cX8_offerValue : ByteArray := prog_1_method_22_code
def yX8_offerValue : MethodName := ⟨RX8, "offerValue", "(III)I"⟩
abbrev cX8_offerForward : ByteArray := prog_1_method_23_code
def yX8_offerForward : MethodName := ⟨RX8, "offerForward", "(III)I"⟩
abbrev cX8_withdraw : ByteArray := prog_1_method_24_code
def yX8_withdraw : MethodName := ⟨RX8, "withdraw", "(II)I"⟩
abbrev cX8_setTrust : ByteArray := prog_1_method_25_code
def yX8_setTrust : MethodName := ⟨RX8, "setTrust", "(II)I"⟩
abbrev cX8_setKeeps : ByteArray := prog_1_method_26_code
def yX8_setKeeps : MethodName := ⟨RX8, "setKeeps", "(IZ)I"⟩
abbrev cX8_setShare : ByteArray := prog_1_method_27_code
def yX8_setShare : MethodName := ⟨RX8, "setShare", "(I)I"⟩
abbrev cX8_undo : ByteArray := prog_1_method_28_code
def yX8_undo : MethodName := ⟨RX8, "undo", "()I"⟩
abbrev cX8_checksum : ByteArray := prog_1_method_29_code
def yX8_checksum : MethodName := ⟨RX8, "checksum", "()J"⟩
abbrev cX8_requireLibrary : ByteArray := prog_1_method_30_code
def yX8_requireLibrary : MethodName := ⟨RX8, "requireLibrary", "(I)V"⟩
abbrev cX8_requireName : ByteArray := prog_1_method_31_code
def yX8_requireName : MethodName := ⟨RX8, "requireName", "(I)V"⟩
abbrev cX8_cellOf : ByteArray := prog_1_method_32_code
def yX8_cellOf : MethodName := ⟨RX8, "cellOf", "(II)I"⟩
abbrev cX8_putBytes : ByteArray := prog_1_method_33_code
def yX8_putBytes : MethodName := ⟨RX8, "putBytes", "(I)V"⟩
abbrev cX8_beginChange : ByteArray := prog_1_method_34_code
def yX8_beginChange : MethodName := ⟨RX8, "beginChange", "()V"⟩
abbrev cX8_changeOffer : ByteArray := prog_1_method_35_code
def yX8_changeOffer : MethodName := ⟨RX8, "changeOffer", "(III)I"⟩
abbrev cX8_changedBindings : ByteArray := prog_1_method_36_code
def yX8_changedBindings : MethodName := ⟨RX8, "changedBindings", "(I)I"⟩
abbrev cX8_changedBindingsOfAll : ByteArray := prog_1_method_37_code
def yX8_changedBindingsOfAll : MethodName := ⟨RX8, "changedBindingsOfAll", "()I"⟩
def RX9 : String := "LinkElectionModel"
def TX9 : u_T := fun k => match k with
  | 0 => ("LinkElectionModel", "thrown", "I", false)
  | 1 => ("LinkElectionModel", "buffer", "[I", true)
  | 2 => ("LinkElectionModel", "bufferLength", "I", false)
  | 3 => ("LinkElectionModel", "textLength", "I", false)
  | 4 => ("LinkElectionModel", "position", "I", false)
  | 5 => ("LinkElectionModel", "error", "I", false)
  | 6 => ("LinkElectionModel", "errorAt", "I", false)
  | 7 => ("LinkElectionModel", "errorOffset", "I", false)
  | 8 => ("LinkElectionModel", "data", "[I", true)
  | 9 => ("LinkElectionModel", "draft", "[I", true)
  | 10 => ("LinkElectionModel", "history", "[[I", true)
  | 11 => ("LinkElectionModel", "undoDepth", "I", false)
  | 12 => ("LinkElectionModel", "numberStart", "I", false)
  | 13 => ("LinkElectionModel", "nesting", "I", false)
  | 14 => ("LinkElectionModel", "seen", "I", false)
  | 15 => ("LinkElectionModel", "libraryWords", "[J", true)
  | 16 => ("LinkElectionModel", "nameWords", "[J", true)
  | 17 => ("LinkElectionModel", "wordStart", "I", false)
  | 18 => ("LinkElectionModel", "stack", "[J", true)
  | 19 => ("LinkElectionModel", "weights", "[I", true)
  | 20 => ("LinkElectionModel", "ranks", "[I", true)
  | 21 => ("LinkElectionModel", "winners", "[I", true)
  | 22 => ("LinkElectionModel", "supports", "[[I", true)
  | 23 => ("LinkElectionModel", "bindings", "[[I", true)
  | 24 => ("LinkElectionModel", "were", "[[I", true)
  | 25 => ("LinkElectionModel", "reached", "[I", true)
  | _ => ("LinkElectionModel", "went", "I", false)
def tyX9 : Nat → FieldType := fun k => match k with
  | 0 => .int
  | 1 => .array .int
  | 2 => .int
  | 3 => .int
  | 4 => .int
  | 5 => .int
  | 6 => .int
  | 7 => .int
  | 8 => .array .int
  | 9 => .array .int
  | 10 => .array (.array .int)
  | 11 => .int
  | 12 => .int
  | 13 => .int
  | 14 => .int
  | 15 => .array .long
  | 16 => .array .long
  | 17 => .int
  | 18 => .array .long
  | 19 => .array .int
  | 20 => .array .int
  | 21 => .array .int
  | 22 => .array (.array .int)
  | 23 => .array (.array .int)
  | 24 => .array (.array .int)
  | 25 => .array .int
  | _ => .int
abbrev wsX90 : List Cond := u_ws RX9 TX9 27
theorem nmX9 : ∀ a, a < 27 → ∀ b, b < 27 → a ≠ b → (TX9 a).2.1 ≠ (TX9 b).2.1 := by decide +kernel
theorem tyX9_ok : ∀ k, k < 27 → parseFieldDescriptor (TX9 k).2.2.1 = some (tyX9 k) := by decide +kernel
abbrev cX9_init : ByteArray := prog_11_method_1_code
def yX9_init : MethodName := ⟨RX9, "<init>", "()V"⟩
abbrev cX9_thrown : ByteArray := prog_11_method_2_code
def yX9_thrown : MethodName := ⟨RX9, "thrown", "()I"⟩
abbrev cX9_fails : ByteArray := prog_11_method_3_code
def yX9_fails : MethodName := ⟨RX9, "fails", "(ZI)Z"⟩
abbrev cX9_in : ByteArray := prog_11_method_4_code
def yX9_in : MethodName := ⟨RX9, "in", "(III)Z"⟩
abbrev cX9_min : ByteArray := prog_11_method_5_code
def yX9_min : MethodName := ⟨RX9, "min", "(II)I"⟩
abbrev cX9_copy : ByteArray := prog_11_method_6_code
def yX9_copy : MethodName := ⟨RX9, "copy", "([I[I)V"⟩
abbrev cX9_at : ByteArray := prog_11_method_7_code
def yX9_at : MethodName := ⟨RX9, "at", "(I)I"⟩
abbrev cX9_append : ByteArray := prog_11_method_8_code
def yX9_append : MethodName := ⟨RX9, "append", "(IIIII)I"⟩
abbrev cX9_byteAt : ByteArray := prog_11_method_9_code
def yX9_byteAt : MethodName := ⟨RX9, "byteAt", "(I)I"⟩
abbrev cX9_next : ByteArray := prog_11_method_10_code
def yX9_next : MethodName := ⟨RX9, "next", "()I"⟩
abbrev cX9_isGood : ByteArray := prog_11_method_11_code
def yX9_isGood : MethodName := ⟨RX9, "isGood", "()Z"⟩
abbrev cX9_report : ByteArray := prog_11_method_12_code
def yX9_report : MethodName := ⟨RX9, "report", "(II)V"⟩
abbrev cX9_isDigit : ByteArray := prog_11_method_13_code
def yX9_isDigit : MethodName := ⟨RX9, "isDigit", "(I)Z"⟩
abbrev cX9_takeWord : ByteArray := prog_11_method_14_code
def yX9_takeWord : MethodName := ⟨RX9, "takeWord", "(Ljava/lang/String;)Z"⟩
abbrev cX9_expect : ByteArray := prog_11_method_15_code
def yX9_expect : MethodName := ⟨RX9, "expect", "(I)V"⟩
abbrev cX9_number : ByteArray := prog_11_method_16_code
def yX9_number : MethodName := ⟨RX9, "number", "(II)I"⟩
abbrev cX9_emit : ByteArray := prog_11_method_17_code
def yX9_emit : MethodName := ⟨RX9, "emit", "(I)V"⟩
abbrev cX9_factor : ByteArray := prog_11_method_18_code
def yX9_factor : MethodName := ⟨RX9, "factor", "()V"⟩
abbrev cX9_term : ByteArray := prog_11_method_19_code
def yX9_term : MethodName := ⟨RX9, "term", "()V"⟩
abbrev cX9_sum : ByteArray := prog_11_method_20_code
def yX9_sum : MethodName := ⟨RX9, "sum", "()V"⟩
abbrev cX9_once : ByteArray := prog_11_method_21_code
def yX9_once : MethodName := ⟨RX9, "once", "(II)V"⟩
abbrev cX9_readWord : ByteArray := prog_11_method_22_code
def yX9_readWord : MethodName := ⟨RX9, "readWord", "()J"⟩
abbrev cX9_placeOf : ByteArray := prog_11_method_23_code
def yX9_placeOf : MethodName := ⟨RX9, "placeOf", "(J[JI)I"⟩
abbrev cX9_readKnown : ByteArray := prog_11_method_24_code
def yX9_readKnown : MethodName := ⟨RX9, "readKnown", "([JI)I"⟩
abbrev cX9_isFresh : ByteArray := prog_11_method_25_code
def yX9_isFresh : MethodName := ⟨RX9, "isFresh", "([JIJ)Z"⟩
abbrev cX9_readName : ByteArray := prog_11_method_26_code
def yX9_readName : MethodName := ⟨RX9, "readName", "(I)V"⟩
abbrev cX9_readLibrary : ByteArray := prog_11_method_27_code
def yX9_readLibrary : MethodName := ⟨RX9, "readLibrary", "(I)V"⟩
abbrev cX9_readOffer : ByteArray := prog_11_method_28_code
def yX9_readOffer : MethodName := ⟨RX9, "readOffer", "()V"⟩
abbrev cX9_prefers : ByteArray := prog_11_method_29_code
def yX9_prefers : MethodName := ⟨RX9, "prefers", "([III)Z"⟩
abbrev cX9_readPreference : ByteArray := prog_11_method_30_code
def yX9_readPreference : MethodName := ⟨RX9, "readPreference", "()V"⟩
abbrev cX9_statement : ByteArray := prog_11_method_31_code
def yX9_statement : MethodName := ⟨RX9, "statement", "()V"⟩
abbrev cX9_load : ByteArray := prog_11_method_32_code
def yX9_load : MethodName := ⟨RX9, "load", "(I)I"⟩
abbrev cX9_errorOffset : ByteArray := prog_11_method_33_code
def yX9_errorOffset : MethodName := ⟨RX9, "errorOffset", "()I"⟩
abbrev cX9_isLoaded : ByteArray := prog_11_method_34_code
def yX9_isLoaded : MethodName := ⟨RX9, "isLoaded", "(I)Z"⟩
abbrev cX9_rankOf : ByteArray := prog_11_method_35_code
def yX9_rankOf : MethodName := ⟨RX9, "rankOf", "(I)I"⟩
abbrev cX9_offersOf : ByteArray := prog_11_method_36_code
def yX9_offersOf : MethodName := ⟨RX9, "offersOf", "(I)I"⟩
abbrev cX9_friendsOf : ByteArray := prog_11_method_37_code
def yX9_friendsOf : MethodName := ⟨RX9, "friendsOf", "(I)I"⟩
abbrev cX9_isCandidate : ByteArray := prog_11_method_38_code
def yX9_isCandidate : MethodName := ⟨RX9, "isCandidate", "(II)Z"⟩
abbrev cX9_limited : ByteArray := prog_11_method_39_code
def yX9_limited : MethodName := ⟨RX9, "limited", "(J)J"⟩
abbrev cX9_operate : ByteArray := prog_11_method_40_code
def yX9_operate : MethodName := ⟨RX9, "operate", "(IJJ)J"⟩
abbrev cX9_weightOf : ByteArray := prog_11_method_41_code
def yX9_weightOf : MethodName := ⟨RX9, "weightOf", "(I)I"⟩
abbrev cX9_voteOf : ByteArray := prog_11_method_42_code
def yX9_voteOf : MethodName := ⟨RX9, "voteOf", "(II)I"⟩
abbrev cX9_layName : ByteArray := prog_11_method_43_code
def yX9_layName : MethodName := ⟨RX9, "layName", "(I)V"⟩
abbrev cX9_layAll : ByteArray := prog_11_method_44_code
def yX9_layAll : MethodName := ⟨RX9, "layAll", "()V"⟩
abbrev cX9_keepBindings : ByteArray := prog_11_method_45_code
def yX9_keepBindings : MethodName := ⟨RX9, "keepBindings", "()V"⟩
abbrev cX9_changedBut : ByteArray := prog_11_method_46_code
def yX9_changedBut : MethodName := ⟨RX9, "changedBut", "(I)I"⟩
abbrev cX9_follow : ByteArray := prog_11_method_47_code
def yX9_follow : MethodName := ⟨RX9, "follow", "(II)I"⟩
abbrev cX9_noLibrary : ByteArray := prog_11_method_48_code
def yX9_noLibrary : MethodName := ⟨RX9, "noLibrary", "(I)Z"⟩
abbrev cX9_noName : ByteArray := prog_11_method_49_code
def yX9_noName : MethodName := ⟨RX9, "noName", "(I)Z"⟩
abbrev cX9_isMissing : ByteArray := prog_11_method_50_code
def yX9_isMissing : MethodName := ⟨RX9, "isMissing", "(II)Z"⟩
abbrev cX9_libraries : ByteArray := prog_11_method_51_code
def yX9_libraries : MethodName := ⟨RX9, "libraries", "()I"⟩
abbrev cX9_names : ByteArray := prog_11_method_52_code
def yX9_names : MethodName := ⟨RX9, "names", "()I"⟩
abbrev cX9_share : ByteArray := prog_11_method_53_code
def yX9_share : MethodName := ⟨RX9, "share", "()I"⟩
abbrev cX9_told : ByteArray := prog_11_method_54_code
def yX9_told : MethodName := ⟨RX9, "told", "(II)I"⟩
abbrev cX9_library : ByteArray := prog_11_method_55_code
def yX9_library : MethodName := ⟨RX9, "library", "(II)I"⟩
abbrev cX9_offer : ByteArray := prog_11_method_56_code
def yX9_offer : MethodName := ⟨RX9, "offer", "(II)I"⟩
abbrev cX9_candidates : ByteArray := prog_11_method_57_code
def yX9_candidates : MethodName := ⟨RX9, "candidates", "(I)I"⟩
abbrev cX9_vote : ByteArray := prog_11_method_58_code
def yX9_vote : MethodName := ⟨RX9, "vote", "(II)I"⟩
abbrev cX9_support : ByteArray := prog_11_method_59_code
def yX9_support : MethodName := ⟨RX9, "support", "(II)I"⟩
abbrev cX9_winner : ByteArray := prog_11_method_60_code
def yX9_winner : MethodName := ⟨RX9, "winner", "(I)I"⟩
abbrev cX9_margin : ByteArray := prog_11_method_61_code
def yX9_margin : MethodName := ⟨RX9, "margin", "(I)I"⟩
abbrev cX9_binding : ByteArray := prog_11_method_62_code
def yX9_binding : MethodName := ⟨RX9, "binding", "(II)I"⟩
abbrev cX9_minority : ByteArray := prog_11_method_63_code
def yX9_minority : MethodName := ⟨RX9, "minority", "(I)I"⟩
abbrev cX9_call : ByteArray := prog_11_method_64_code
def yX9_call : MethodName := ⟨RX9, "call", "(II)I"⟩
abbrev cX9_steps : ByteArray := prog_11_method_65_code
def yX9_steps : MethodName := ⟨RX9, "steps", "(II)I"⟩
abbrev cX9_users : ByteArray := prog_11_method_66_code
def yX9_users : MethodName := ⟨RX9, "users", "(II)I"⟩
abbrev cX9_remember : ByteArray := prog_11_method_67_code
def yX9_remember : MethodName := ⟨RX9, "remember", "()V"⟩
abbrev cX9_unload : ByteArray := prog_11_method_68_code
def yX9_unload : MethodName := ⟨RX9, "unload", "(I)I"⟩
abbrev cX9_reload : ByteArray := prog_11_method_69_code
def yX9_reload : MethodName := ⟨RX9, "reload", "(I)I"⟩
abbrev cX9_put : ByteArray := prog_11_method_70_code
def yX9_put : MethodName := ⟨RX9, "put", "(III)I"⟩
abbrev cX9_offerValue : ByteArray := prog_11_method_71_code
def yX9_offerValue : MethodName := ⟨RX9, "offerValue", "(III)I"⟩
abbrev cX9_offerForward : ByteArray := prog_11_method_72_code
def yX9_offerForward : MethodName := ⟨RX9, "offerForward", "(III)I"⟩
abbrev cX9_withdraw : ByteArray := prog_11_method_73_code
def yX9_withdraw : MethodName := ⟨RX9, "withdraw", "(II)I"⟩
abbrev cX9_setTrust : ByteArray := prog_11_method_74_code
def yX9_setTrust : MethodName := ⟨RX9, "setTrust", "(II)I"⟩
abbrev cX9_setKeeps : ByteArray := prog_11_method_75_code
def yX9_setKeeps : MethodName := ⟨RX9, "setKeeps", "(IZ)I"⟩
abbrev cX9_setShare : ByteArray := prog_11_method_76_code
def yX9_setShare : MethodName := ⟨RX9, "setShare", "(I)I"⟩
abbrev cX9_undo : ByteArray := prog_11_method_77_code
def yX9_undo : MethodName := ⟨RX9, "undo", "()I"⟩
abbrev cX9_checksum : ByteArray := prog_11_method_78_code
def yX9_checksum : MethodName := ⟨RX9, "checksum", "()J"⟩
def RJx145de : String := "java/io/Serializable"
def TJx145de : u_T := fun k => match k with
  | _ => ("", "", "", false)
def tyJx145de : Nat → FieldType := fun k => match k with
  | _ => .int
abbrev wsJx145de0 : List Cond := u_ws RJx145de TJx145de 0
theorem nmJx145de : ∀ a, a < 0 → ∀ b, b < 0 → a ≠ b → (TJx145de a).2.1 ≠ (TJx145de b).2.1 := by decide +kernel
theorem tyJx145de_ok : ∀ k, k < 0 → parseFieldDescriptor (TJx145de k).2.2.1 = some (tyJx145de k) := by decide +kernel
def RJx9f9b0 : String := "java/lang/CharSequence"
def TJx9f9b0 : u_T := fun k => match k with
  | _ => ("", "", "", false)
def tyJx9f9b0 : Nat → FieldType := fun k => match k with
  | _ => .int
abbrev wsJx9f9b00 : List Cond := u_ws RJx9f9b0 TJx9f9b0 0
theorem nmJx9f9b0 : ∀ a, a < 0 → ∀ b, b < 0 → a ≠ b → (TJx9f9b0 a).2.1 ≠ (TJx9f9b0 b).2.1 := by decide +kernel
theorem tyJx9f9b0_ok : ∀ k, k < 0 → parseFieldDescriptor (TJx9f9b0 k).2.2.1 = some (tyJx9f9b0 k) := by decide +kernel
def RJx8e188 : String := "java/lang/Cloneable"
def TJx8e188 : u_T := fun k => match k with
  | _ => ("", "", "", false)
def tyJx8e188 : Nat → FieldType := fun k => match k with
  | _ => .int
abbrev wsJx8e1880 : List Cond := u_ws RJx8e188 TJx8e188 0
theorem nmJx8e188 : ∀ a, a < 0 → ∀ b, b < 0 → a ≠ b → (TJx8e188 a).2.1 ≠ (TJx8e188 b).2.1 := by decide +kernel
theorem tyJx8e188_ok : ∀ k, k < 0 → parseFieldDescriptor (TJx8e188 k).2.2.1 = some (tyJx8e188 k) := by decide +kernel
def RJxb160c : String := "java/lang/Comparable"
def TJxb160c : u_T := fun k => match k with
  | _ => ("", "", "", false)
def tyJxb160c : Nat → FieldType := fun k => match k with
  | _ => .int
abbrev wsJxb160c0 : List Cond := u_ws RJxb160c TJxb160c 0
theorem nmJxb160c : ∀ a, a < 0 → ∀ b, b < 0 → a ≠ b → (TJxb160c a).2.1 ≠ (TJxb160c b).2.1 := by decide +kernel
theorem tyJxb160c_ok : ∀ k, k < 0 → parseFieldDescriptor (TJxb160c k).2.2.1 = some (tyJxb160c k) := by decide +kernel
def RJ9 : String := "java/lang/Math"
def TJ9 : u_T := fun k => match k with
  | _ => ("", "", "", false)
def tyJ9 : Nat → FieldType := fun k => match k with
  | _ => .int
abbrev wsJ90 : List Cond := u_ws RJ9 TJ9 0
theorem nmJ9 : ∀ a, a < 0 → ∀ b, b < 0 → a ≠ b → (TJ9 a).2.1 ≠ (TJ9 b).2.1 := by decide +kernel
theorem tyJ9_ok : ∀ k, k < 0 → parseFieldDescriptor (TJ9 k).2.2.1 = some (tyJ9 k) := by decide +kernel
abbrev cJ9_max_7cf53 : ByteArray := prog_17_method_65_code
def yJ9_max_7cf53 : MethodName := ⟨RJ9, "max", "(II)I"⟩
abbrev cJ9_max_f86c9 : ByteArray := prog_17_method_66_code
def yJ9_max_f86c9 : MethodName := ⟨RJ9, "max", "(JJ)J"⟩
abbrev cJ9_min_7cf53 : ByteArray := prog_17_method_69_code
def yJ9_min_7cf53 : MethodName := ⟨RJ9, "min", "(II)I"⟩
abbrev cJ9_min_f86c9 : ByteArray := prog_17_method_70_code
def yJ9_min_f86c9 : MethodName := ⟨RJ9, "min", "(JJ)J"⟩
def RJ0 : String := "java/lang/String"
def TJ0 : u_T := fun k => match k with
  | _ => ("", "", "", false)
def tyJ0 : Nat → FieldType := fun k => match k with
  | _ => .int
abbrev wsJ00 : List Cond := u_ws RJ0 TJ0 0
theorem nmJ0 : ∀ a, a < 0 → ∀ b, b < 0 → a ≠ b → (TJ0 a).2.1 ≠ (TJ0 b).2.1 := by decide +kernel
theorem tyJ0_ok : ∀ k, k < 0 → parseFieldDescriptor (TJ0 k).2.2.1 = some (tyJ0 k) := by decide +kernel
abbrev cJ0_length_8abf5 : ByteArray := prog_19_method_54_code
def yJ0_length_8abf5 : MethodName := ⟨RJ0, "length", "()I"⟩
abbrev cJ0_charAt_5068e : ByteArray := prog_19_method_56_code
def yJ0_charAt_5068e : MethodName := ⟨RJ0, "charAt", "(I)C"⟩
abbrev cJ0_coder_7d493 : ByteArray := prog_19_method_152_code
def yJ0_coder_7d493 : MethodName := ⟨RJ0, "coder", "()B"⟩
abbrev cJ0_isLatin1_aae02 : ByteArray := prog_19_method_154_code
def yJ0_isLatin1_aae02 : MethodName := ⟨RJ0, "isLatin1", "()Z"⟩
abbrev cJ0_checkIndex_df160 : ByteArray := prog_19_method_155_code
def yJ0_checkIndex_df160 : MethodName := ⟨RJ0, "checkIndex", "(II)V"⟩
def RJ1 : String := "java/lang/StringLatin1"
def TJ1 : u_T := fun k => match k with
  | _ => ("", "", "", false)
def tyJ1 : Nat → FieldType := fun k => match k with
  | _ => .int
abbrev wsJ10 : List Cond := u_ws RJ1 TJ1 0
theorem nmJ1 : ∀ a, a < 0 → ∀ b, b < 0 → a ≠ b → (TJ1 a).2.1 ≠ (TJ1 b).2.1 := by decide +kernel
theorem tyJ1_ok : ∀ k, k < 0 → parseFieldDescriptor (TJ1 k).2.2.1 = some (tyJ1 k) := by decide +kernel
abbrev cJ1_charAt_3b067 : ByteArray := prog_20_method_2_code
def yJ1_charAt_3b067 : MethodName := ⟨RJ1, "charAt", "([BI)C"⟩
def RJ2 : String := "java/lang/StringUTF16"
def TJ2 : u_T := fun k => match k with
  | _ => ("", "", "", false)
def tyJ2 : Nat → FieldType := fun k => match k with
  | _ => .int
abbrev wsJ20 : List Cond := u_ws RJ2 TJ2 0
theorem nmJ2 : ∀ a, a < 0 → ∀ b, b < 0 → a ≠ b → (TJ2 a).2.1 ≠ (TJ2 b).2.1 := by decide +kernel
theorem tyJ2_ok : ∀ k, k < 0 → parseFieldDescriptor (TJ2 k).2.2.1 = some (tyJ2 k) := by decide +kernel
abbrev cJ2_getChar_3b067 : ByteArray := prog_21_method_5_code
def yJ2_getChar_3b067 : MethodName := ⟨RJ2, "getChar", "([BI)C"⟩
abbrev cJ2_length_9d52b : ByteArray := prog_21_method_6_code
def yJ2_length_9d52b : MethodName := ⟨RJ2, "length", "([B)I"⟩
abbrev cJ2_charAt_3b067 : ByteArray := prog_21_method_83_code
def yJ2_charAt_3b067 : MethodName := ⟨RJ2, "charAt", "([BI)C"⟩
abbrev cJ2_checkIndex_2214a : ByteArray := prog_21_method_91_code
def yJ2_checkIndex_2214a : MethodName := ⟨RJ2, "checkIndex", "(I[B)V"⟩
def RJ10 : String := "java/lang/System"
def TJ10 : u_T := fun k => match k with
  | _ => ("", "", "", false)
def tyJ10 : Nat → FieldType := fun k => match k with
  | _ => .int
abbrev wsJ100 : List Cond := u_ws RJ10 TJ10 0
theorem nmJ10 : ∀ a, a < 0 → ∀ b, b < 0 → a ≠ b → (TJ10 a).2.1 ≠ (TJ10 b).2.1 := by decide +kernel
theorem tyJ10_ok : ∀ k, k < 0 → parseFieldDescriptor (TJ10 k).2.2.1 = some (tyJ10 k) := by decide +kernel
def RJxfd54e : String := "java/lang/constant/Constable"
def TJxfd54e : u_T := fun k => match k with
  | _ => ("", "", "", false)
def tyJxfd54e : Nat → FieldType := fun k => match k with
  | _ => .int
abbrev wsJxfd54e0 : List Cond := u_ws RJxfd54e TJxfd54e 0
theorem nmJxfd54e : ∀ a, a < 0 → ∀ b, b < 0 → a ≠ b → (TJxfd54e a).2.1 ≠ (TJxfd54e b).2.1 := by decide +kernel
theorem tyJxfd54e_ok : ∀ k, k < 0 → parseFieldDescriptor (TJxfd54e k).2.2.1 = some (tyJxfd54e k) := by decide +kernel
def RJx3cf43 : String := "java/lang/constant/ConstantDesc"
def TJx3cf43 : u_T := fun k => match k with
  | _ => ("", "", "", false)
def tyJx3cf43 : Nat → FieldType := fun k => match k with
  | _ => .int
abbrev wsJx3cf430 : List Cond := u_ws RJx3cf43 TJx3cf43 0
theorem nmJx3cf43 : ∀ a, a < 0 → ∀ b, b < 0 → a ≠ b → (TJx3cf43 a).2.1 ≠ (TJx3cf43 b).2.1 := by decide +kernel
theorem tyJx3cf43_ok : ∀ k, k < 0 → parseFieldDescriptor (TJx3cf43 k).2.2.1 = some (tyJx3cf43 k) := by decide +kernel
def RJ7 : String := "java/util/Arrays"
def TJ7 : u_T := fun k => match k with
  | _ => ("", "", "", false)
def tyJ7 : Nat → FieldType := fun k => match k with
  | _ => .int
abbrev wsJ70 : List Cond := u_ws RJ7 TJ7 0
theorem nmJ7 : ∀ a, a < 0 → ∀ b, b < 0 → a ≠ b → (TJ7 a).2.1 ≠ (TJ7 b).2.1 := by decide +kernel
theorem tyJ7_ok : ∀ k, k < 0 → parseFieldDescriptor (TJ7 k).2.2.1 = some (tyJ7 k) := by decide +kernel
abbrev cJ7_fill_53178 : ByteArray := prog_24_method_103_code
def yJ7_fill_53178 : MethodName := ⟨RJ7, "fill", "([II)V"⟩
abbrev cJ7_copyOf_59c91 : ByteArray := prog_24_method_123_code
def yJ7_copyOf_59c91 : MethodName := ⟨RJ7, "copyOf", "([II)[I"⟩
def RJ3 : String := "jdk/internal/util/Preconditions"
def TJ3 : u_T := fun k => match k with
  | _ => ("", "", "", false)
def tyJ3 : Nat → FieldType := fun k => match k with
  | _ => .int
abbrev wsJ30 : List Cond := u_ws RJ3 TJ3 0
theorem nmJ3 : ∀ a, a < 0 → ∀ b, b < 0 → a ≠ b → (TJ3 a).2.1 ≠ (TJ3 b).2.1 := by decide +kernel
theorem tyJ3_ok : ∀ k, k < 0 → parseFieldDescriptor (TJ3 k).2.2.1 = some (tyJ3 k) := by decide +kernel
abbrev cJ3_checkIndex_8e157 : ByteArray := prog_25_method_11_code
def yJ3_checkIndex_8e157 : MethodName := ⟨RJ3, "checkIndex", "(IILjava/util/function/BiFunction;)I"⟩
def RL : String := "LinkElectionLaw"
abbrev cL_load : ByteArray := method_3_code
def yL_load : MethodName := ⟨RL, "load", "(LLinkElection;I[J)I"⟩
abbrev cL_library : ByteArray := method_4_code
def yL_library : MethodName := ⟨RL, "library", "(LLinkElection;II[J)I"⟩
abbrev cL_offer : ByteArray := method_5_code
def yL_offer : MethodName := ⟨RL, "offer", "(LLinkElection;II[J)I"⟩
abbrev cL_candidates : ByteArray := method_6_code
def yL_candidates : MethodName := ⟨RL, "candidates", "(LLinkElection;I[J)I"⟩
abbrev cL_vote : ByteArray := method_7_code
def yL_vote : MethodName := ⟨RL, "vote", "(LLinkElection;II[J)I"⟩
abbrev cL_support : ByteArray := method_8_code
def yL_support : MethodName := ⟨RL, "support", "(LLinkElection;II[J)I"⟩
abbrev cL_winner : ByteArray := method_9_code
def yL_winner : MethodName := ⟨RL, "winner", "(LLinkElection;I[J)I"⟩
abbrev cL_margin : ByteArray := method_10_code
def yL_margin : MethodName := ⟨RL, "margin", "(LLinkElection;I[J)I"⟩
abbrev cL_binding : ByteArray := method_11_code
def yL_binding : MethodName := ⟨RL, "binding", "(LLinkElection;II[J)I"⟩
abbrev cL_minority : ByteArray := method_12_code
def yL_minority : MethodName := ⟨RL, "minority", "(LLinkElection;I[J)I"⟩
abbrev cL_call : ByteArray := method_13_code
def yL_call : MethodName := ⟨RL, "call", "(LLinkElection;II[J)I"⟩
abbrev cL_steps : ByteArray := method_14_code
def yL_steps : MethodName := ⟨RL, "steps", "(LLinkElection;II[J)I"⟩
abbrev cL_users : ByteArray := method_15_code
def yL_users : MethodName := ⟨RL, "users", "(LLinkElection;II[J)I"⟩
abbrev cL_unload : ByteArray := method_16_code
def yL_unload : MethodName := ⟨RL, "unload", "(LLinkElection;I[J)I"⟩
abbrev cL_reload : ByteArray := method_17_code
def yL_reload : MethodName := ⟨RL, "reload", "(LLinkElection;I[J)I"⟩
abbrev cL_offerValue : ByteArray := method_18_code
def yL_offerValue : MethodName := ⟨RL, "offerValue", "(LLinkElection;III[J)I"⟩
abbrev cL_offerForward : ByteArray := method_19_code
def yL_offerForward : MethodName := ⟨RL, "offerForward", "(LLinkElection;III[J)I"⟩
abbrev cL_withdraw : ByteArray := method_20_code
def yL_withdraw : MethodName := ⟨RL, "withdraw", "(LLinkElection;II[J)I"⟩
abbrev cL_setTrust : ByteArray := method_21_code
def yL_setTrust : MethodName := ⟨RL, "setTrust", "(LLinkElection;II[J)I"⟩
abbrev cL_setKeeps : ByteArray := method_22_code
def yL_setKeeps : MethodName := ⟨RL, "setKeeps", "(LLinkElection;IZ[J)I"⟩
abbrev cL_setShare : ByteArray := method_23_code
def yL_setShare : MethodName := ⟨RL, "setShare", "(LLinkElection;I[J)I"⟩
abbrev cL_law : ByteArray := code
def yL_law : MethodName := ⟨RL, "law", "([I)Z"⟩
abbrev vwCl : List vw_C := [(RX0, TX0, 5), (RX1, TX1, 7), (RX2, TX2, 3), (RX3, TX3, 6), (RX4, TX4, 3), (RX5, TX5, 11), (RX6, TX6, 8), (RX7, TX7, 2), (RX8, TX8, 9), (RX9, TX9, 27)]
end
section
theorem dJ9_max_7cf53_0 : decode cJ9_max_7cf53 0 = .ok (.iload_n 0, 1) := by decide +kernel
theorem dJ9_max_7cf53_1 : decode cJ9_max_7cf53 1 = .ok (.iload_n 1, 1) := by decide +kernel
theorem dJ9_max_7cf53_2 : decode cJ9_max_7cf53 2 = .ok (.if_icmp .lt 7, 3) := by decide +kernel
theorem dJ9_max_7cf53_5 : decode cJ9_max_7cf53 5 = .ok (.iload_n 0, 1) := by decide +kernel
theorem dJ9_max_7cf53_6 : decode cJ9_max_7cf53 6 = .ok (.goto 4, 3) := by decide +kernel
theorem dJ9_max_7cf53_9 : decode cJ9_max_7cf53 9 = .ok (.iload_n 1, 1) := by decide +kernel
theorem dJ9_max_7cf53_10 : decode cJ9_max_7cf53 10 = .ok (.ireturn, 1) := by decide +kernel
theorem dJ9_max_f86c9_0 : decode cJ9_max_f86c9 0 = .ok (.lload_n 0, 1) := by decide +kernel
theorem dJ9_max_f86c9_1 : decode cJ9_max_f86c9 1 = .ok (.lload_n 2, 1) := by decide +kernel
theorem dJ9_max_f86c9_2 : decode cJ9_max_f86c9 2 = .ok (.lcmp, 1) := by decide +kernel
theorem dJ9_max_f86c9_3 : decode cJ9_max_f86c9 3 = .ok (.ifCond .lt 7, 3) := by decide +kernel
theorem dJ9_max_f86c9_6 : decode cJ9_max_f86c9 6 = .ok (.lload_n 0, 1) := by decide +kernel
theorem dJ9_max_f86c9_7 : decode cJ9_max_f86c9 7 = .ok (.goto 4, 3) := by decide +kernel
theorem dJ9_max_f86c9_10 : decode cJ9_max_f86c9 10 = .ok (.lload_n 2, 1) := by decide +kernel
theorem dJ9_max_f86c9_11 : decode cJ9_max_f86c9 11 = .ok (.lreturn, 1) := by decide +kernel
theorem dJ9_min_7cf53_0 : decode cJ9_min_7cf53 0 = .ok (.iload_n 0, 1) := by decide +kernel
theorem dJ9_min_7cf53_1 : decode cJ9_min_7cf53 1 = .ok (.iload_n 1, 1) := by decide +kernel
theorem dJ9_min_7cf53_2 : decode cJ9_min_7cf53 2 = .ok (.if_icmp .gt 7, 3) := by decide +kernel
theorem dJ9_min_7cf53_5 : decode cJ9_min_7cf53 5 = .ok (.iload_n 0, 1) := by decide +kernel
theorem dJ9_min_7cf53_6 : decode cJ9_min_7cf53 6 = .ok (.goto 4, 3) := by decide +kernel
theorem dJ9_min_7cf53_9 : decode cJ9_min_7cf53 9 = .ok (.iload_n 1, 1) := by decide +kernel
theorem dJ9_min_7cf53_10 : decode cJ9_min_7cf53 10 = .ok (.ireturn, 1) := by decide +kernel
theorem dJ9_min_f86c9_0 : decode cJ9_min_f86c9 0 = .ok (.lload_n 0, 1) := by decide +kernel
theorem dJ9_min_f86c9_1 : decode cJ9_min_f86c9 1 = .ok (.lload_n 2, 1) := by decide +kernel
theorem dJ9_min_f86c9_2 : decode cJ9_min_f86c9 2 = .ok (.lcmp, 1) := by decide +kernel
theorem dJ9_min_f86c9_3 : decode cJ9_min_f86c9 3 = .ok (.ifCond .gt 7, 3) := by decide +kernel
theorem dJ9_min_f86c9_6 : decode cJ9_min_f86c9 6 = .ok (.lload_n 0, 1) := by decide +kernel
theorem dJ9_min_f86c9_7 : decode cJ9_min_f86c9 7 = .ok (.goto 4, 3) := by decide +kernel
theorem dJ9_min_f86c9_10 : decode cJ9_min_f86c9 10 = .ok (.lload_n 2, 1) := by decide +kernel
theorem dJ9_min_f86c9_11 : decode cJ9_min_f86c9 11 = .ok (.lreturn, 1) := by decide +kernel
theorem dJ0_length_8abf5_0 : decode cJ0_length_8abf5 0 = .ok (.aload_n 0, 1) := by decide +kernel
theorem dJ0_length_8abf5_1 : decode cJ0_length_8abf5 1 = .ok (.getfield 9, 3) := by decide +kernel
theorem dJ0_length_8abf5_4 : decode cJ0_length_8abf5 4 = .ok (.arraylength, 1) := by decide +kernel
theorem dJ0_length_8abf5_5 : decode cJ0_length_8abf5 5 = .ok (.aload_n 0, 1) := by decide +kernel
theorem dJ0_length_8abf5_6 : decode cJ0_length_8abf5 6 = .ok (.invokevirtual 335, 3) := by decide +kernel
theorem dJ0_length_8abf5_9 : decode cJ0_length_8abf5 9 = .ok (.ishr, 1) := by decide +kernel
theorem dJ0_length_8abf5_10 : decode cJ0_length_8abf5 10 = .ok (.ireturn, 1) := by decide +kernel
theorem dJ0_charAt_5068e_0 : decode cJ0_charAt_5068e 0 = .ok (.aload_n 0, 1) := by decide +kernel
theorem dJ0_charAt_5068e_1 : decode cJ0_charAt_5068e 1 = .ok (.invokevirtual 492, 3) := by decide +kernel
theorem dJ0_charAt_5068e_4 : decode cJ0_charAt_5068e 4 = .ok (.ifCond .eq 12, 3) := by decide +kernel
theorem dJ0_charAt_5068e_7 : decode cJ0_charAt_5068e 7 = .ok (.aload_n 0, 1) := by decide +kernel
theorem dJ0_charAt_5068e_8 : decode cJ0_charAt_5068e 8 = .ok (.getfield 9, 3) := by decide +kernel
theorem dJ0_charAt_5068e_11 : decode cJ0_charAt_5068e 11 = .ok (.iload_n 1, 1) := by decide +kernel
theorem dJ0_charAt_5068e_12 : decode cJ0_charAt_5068e 12 = .ok (.invokestatic 495, 3) := by decide +kernel
theorem dJ0_charAt_5068e_15 : decode cJ0_charAt_5068e 15 = .ok (.ireturn, 1) := by decide +kernel
theorem dJ0_charAt_5068e_16 : decode cJ0_charAt_5068e 16 = .ok (.aload_n 0, 1) := by decide +kernel
theorem dJ0_charAt_5068e_17 : decode cJ0_charAt_5068e 17 = .ok (.getfield 9, 3) := by decide +kernel
theorem dJ0_charAt_5068e_20 : decode cJ0_charAt_5068e 20 = .ok (.iload_n 1, 1) := by decide +kernel
theorem dJ0_charAt_5068e_21 : decode cJ0_charAt_5068e 21 = .ok (.invokestatic 498, 3) := by decide +kernel
theorem dJ0_charAt_5068e_24 : decode cJ0_charAt_5068e 24 = .ok (.ireturn, 1) := by decide +kernel
theorem dJ0_coder_7d493_0 : decode cJ0_coder_7d493 0 = .ok (.getstatic 38, 3) := by decide +kernel
theorem dJ0_coder_7d493_3 : decode cJ0_coder_7d493 3 = .ok (.ifCond .eq 10, 3) := by decide +kernel
theorem dJ0_coder_7d493_6 : decode cJ0_coder_7d493 6 = .ok (.aload_n 0, 1) := by decide +kernel
theorem dJ0_coder_7d493_7 : decode cJ0_coder_7d493 7 = .ok (.getfield 15, 3) := by decide +kernel
theorem dJ0_coder_7d493_10 : decode cJ0_coder_7d493 10 = .ok (.goto 4, 3) := by decide +kernel
theorem dJ0_coder_7d493_13 : decode cJ0_coder_7d493 13 = .ok (.iconst 1, 1) := by decide +kernel
theorem dJ0_coder_7d493_14 : decode cJ0_coder_7d493 14 = .ok (.ireturn, 1) := by decide +kernel
theorem dJ0_isLatin1_aae02_0 : decode cJ0_isLatin1_aae02 0 = .ok (.getstatic 38, 3) := by decide +kernel
theorem dJ0_isLatin1_aae02_3 : decode cJ0_isLatin1_aae02 3 = .ok (.ifCond .eq 14, 3) := by decide +kernel
theorem dJ0_isLatin1_aae02_6 : decode cJ0_isLatin1_aae02 6 = .ok (.aload_n 0, 1) := by decide +kernel
theorem dJ0_isLatin1_aae02_7 : decode cJ0_isLatin1_aae02 7 = .ok (.getfield 15, 3) := by decide +kernel
theorem dJ0_isLatin1_aae02_10 : decode cJ0_isLatin1_aae02 10 = .ok (.ifCond .ne 7, 3) := by decide +kernel
theorem dJ0_isLatin1_aae02_13 : decode cJ0_isLatin1_aae02 13 = .ok (.iconst 1, 1) := by decide +kernel
theorem dJ0_isLatin1_aae02_14 : decode cJ0_isLatin1_aae02 14 = .ok (.goto 4, 3) := by decide +kernel
theorem dJ0_isLatin1_aae02_17 : decode cJ0_isLatin1_aae02 17 = .ok (.iconst 0, 1) := by decide +kernel
theorem dJ0_isLatin1_aae02_18 : decode cJ0_isLatin1_aae02 18 = .ok (.ireturn, 1) := by decide +kernel
theorem dJ0_checkIndex_df160_0 : decode cJ0_checkIndex_df160 0 = .ok (.iload_n 0, 1) := by decide +kernel
theorem dJ0_checkIndex_df160_1 : decode cJ0_checkIndex_df160 1 = .ok (.iload_n 1, 1) := by decide +kernel
theorem dJ0_checkIndex_df160_2 : decode cJ0_checkIndex_df160 2 = .ok (.getstatic 1053, 3) := by decide +kernel
theorem dJ0_checkIndex_df160_5 : decode cJ0_checkIndex_df160 5 = .ok (.invokestatic 1059, 3) := by decide +kernel
theorem dJ0_checkIndex_df160_8 : decode cJ0_checkIndex_df160 8 = .ok (.pop, 1) := by decide +kernel
theorem dJ0_checkIndex_df160_9 : decode cJ0_checkIndex_df160 9 = .ok (.return_, 1) := by decide +kernel
theorem dJ1_charAt_3b067_0 : decode cJ1_charAt_3b067 0 = .ok (.iload_n 1, 1) := by decide +kernel
theorem dJ1_charAt_3b067_1 : decode cJ1_charAt_3b067 1 = .ok (.aload_n 0, 1) := by decide +kernel
theorem dJ1_charAt_3b067_2 : decode cJ1_charAt_3b067 2 = .ok (.arraylength, 1) := by decide +kernel
theorem dJ1_charAt_3b067_3 : decode cJ1_charAt_3b067 3 = .ok (.invokestatic 9, 3) := by decide +kernel
theorem dJ1_charAt_3b067_6 : decode cJ1_charAt_3b067 6 = .ok (.aload_n 0, 1) := by decide +kernel
theorem dJ1_charAt_3b067_7 : decode cJ1_charAt_3b067 7 = .ok (.iload_n 1, 1) := by decide +kernel
theorem dJ1_charAt_3b067_8 : decode cJ1_charAt_3b067 8 = .ok (.baload, 1) := by decide +kernel
theorem dJ1_charAt_3b067_9 : decode cJ1_charAt_3b067 9 = .ok (.sipush 255, 3) := by decide +kernel
theorem dJ1_charAt_3b067_12 : decode cJ1_charAt_3b067 12 = .ok (.iand, 1) := by decide +kernel
theorem dJ1_charAt_3b067_13 : decode cJ1_charAt_3b067 13 = .ok (.i2c, 1) := by decide +kernel
theorem dJ1_charAt_3b067_14 : decode cJ1_charAt_3b067 14 = .ok (.ireturn, 1) := by decide +kernel
theorem dJ2_getChar_3b067_0 : decode cJ2_getChar_3b067 0 = .ok (.getstatic 44, 3) := by decide +kernel
theorem dJ2_getChar_3b067_3 : decode cJ2_getChar_3b067 3 = .ok (.ifCond .ne 25, 3) := by decide +kernel
theorem dJ2_getChar_3b067_6 : decode cJ2_getChar_3b067 6 = .ok (.iload_n 1, 1) := by decide +kernel
theorem dJ2_getChar_3b067_7 : decode cJ2_getChar_3b067 7 = .ok (.ifCond .lt 11, 3) := by decide +kernel
theorem dJ2_getChar_3b067_10 : decode cJ2_getChar_3b067 10 = .ok (.iload_n 1, 1) := by decide +kernel
theorem dJ2_getChar_3b067_11 : decode cJ2_getChar_3b067 11 = .ok (.aload_n 0, 1) := by decide +kernel
theorem dJ2_getChar_3b067_12 : decode cJ2_getChar_3b067 12 = .ok (.invokestatic 48, 3) := by decide +kernel
theorem dJ2_getChar_3b067_15 : decode cJ2_getChar_3b067 15 = .ok (.if_icmp .lt 13, 3) := by decide +kernel
theorem dJ2_getChar_3b067_18 : decode cJ2_getChar_3b067 18 = .ok (.new 52, 3) := by decide +kernel
theorem dJ2_getChar_3b067_21 : decode cJ2_getChar_3b067 21 = .ok (.dup, 1) := by decide +kernel
theorem dJ2_getChar_3b067_22 : decode cJ2_getChar_3b067 22 = .ok (.ldc 54, 2) := by decide +kernel
theorem dJ2_getChar_3b067_24 : decode cJ2_getChar_3b067 24 = .ok (.invokespecial 56, 3) := by decide +kernel
theorem dJ2_getChar_3b067_27 : decode cJ2_getChar_3b067 27 = .ok (.athrow, 1) := by decide +kernel
theorem dJ2_getChar_3b067_28 : decode cJ2_getChar_3b067 28 = .ok (.iload_n 1, 1) := by decide +kernel
theorem dJ2_getChar_3b067_29 : decode cJ2_getChar_3b067 29 = .ok (.iconst 1, 1) := by decide +kernel
theorem dJ2_getChar_3b067_30 : decode cJ2_getChar_3b067 30 = .ok (.ishl, 1) := by decide +kernel
theorem dJ2_getChar_3b067_31 : decode cJ2_getChar_3b067 31 = .ok (.istore_n 1, 1) := by decide +kernel
theorem dJ2_getChar_3b067_32 : decode cJ2_getChar_3b067 32 = .ok (.aload_n 0, 1) := by decide +kernel
theorem dJ2_getChar_3b067_33 : decode cJ2_getChar_3b067 33 = .ok (.iload_n 1, 1) := by decide +kernel
theorem dJ2_getChar_3b067_34 : decode cJ2_getChar_3b067 34 = .ok (.iinc 1 1, 3) := by decide +kernel
theorem dJ2_getChar_3b067_37 : decode cJ2_getChar_3b067 37 = .ok (.baload, 1) := by decide +kernel
theorem dJ2_getChar_3b067_38 : decode cJ2_getChar_3b067 38 = .ok (.sipush 255, 3) := by decide +kernel
theorem dJ2_getChar_3b067_41 : decode cJ2_getChar_3b067 41 = .ok (.iand, 1) := by decide +kernel
theorem dJ2_getChar_3b067_42 : decode cJ2_getChar_3b067 42 = .ok (.getstatic 59, 3) := by decide +kernel
theorem dJ2_getChar_3b067_45 : decode cJ2_getChar_3b067 45 = .ok (.ishl, 1) := by decide +kernel
theorem dJ2_getChar_3b067_46 : decode cJ2_getChar_3b067 46 = .ok (.aload_n 0, 1) := by decide +kernel
theorem dJ2_getChar_3b067_47 : decode cJ2_getChar_3b067 47 = .ok (.iload_n 1, 1) := by decide +kernel
theorem dJ2_getChar_3b067_48 : decode cJ2_getChar_3b067 48 = .ok (.baload, 1) := by decide +kernel
theorem dJ2_getChar_3b067_49 : decode cJ2_getChar_3b067 49 = .ok (.sipush 255, 3) := by decide +kernel
theorem dJ2_getChar_3b067_52 : decode cJ2_getChar_3b067 52 = .ok (.iand, 1) := by decide +kernel
theorem dJ2_getChar_3b067_53 : decode cJ2_getChar_3b067 53 = .ok (.getstatic 63, 3) := by decide +kernel
theorem dJ2_getChar_3b067_56 : decode cJ2_getChar_3b067 56 = .ok (.ishl, 1) := by decide +kernel
theorem dJ2_getChar_3b067_57 : decode cJ2_getChar_3b067 57 = .ok (.ior, 1) := by decide +kernel
theorem dJ2_getChar_3b067_58 : decode cJ2_getChar_3b067 58 = .ok (.i2c, 1) := by decide +kernel
theorem dJ2_getChar_3b067_59 : decode cJ2_getChar_3b067 59 = .ok (.ireturn, 1) := by decide +kernel
theorem dJ2_length_9d52b_0 : decode cJ2_length_9d52b 0 = .ok (.aload_n 0, 1) := by decide +kernel
theorem dJ2_length_9d52b_1 : decode cJ2_length_9d52b 1 = .ok (.arraylength, 1) := by decide +kernel
theorem dJ2_length_9d52b_2 : decode cJ2_length_9d52b 2 = .ok (.iconst 1, 1) := by decide +kernel
theorem dJ2_length_9d52b_3 : decode cJ2_length_9d52b 3 = .ok (.ishr, 1) := by decide +kernel
theorem dJ2_length_9d52b_4 : decode cJ2_length_9d52b 4 = .ok (.ireturn, 1) := by decide +kernel
theorem dJ2_charAt_3b067_0 : decode cJ2_charAt_3b067 0 = .ok (.iload_n 1, 1) := by decide +kernel
theorem dJ2_charAt_3b067_1 : decode cJ2_charAt_3b067 1 = .ok (.aload_n 0, 1) := by decide +kernel
theorem dJ2_charAt_3b067_2 : decode cJ2_charAt_3b067 2 = .ok (.invokestatic 67, 3) := by decide +kernel
theorem dJ2_charAt_3b067_5 : decode cJ2_charAt_3b067 5 = .ok (.aload_n 0, 1) := by decide +kernel
theorem dJ2_charAt_3b067_6 : decode cJ2_charAt_3b067 6 = .ok (.iload_n 1, 1) := by decide +kernel
theorem dJ2_charAt_3b067_7 : decode cJ2_charAt_3b067 7 = .ok (.invokestatic 71, 3) := by decide +kernel
theorem dJ2_charAt_3b067_10 : decode cJ2_charAt_3b067 10 = .ok (.ireturn, 1) := by decide +kernel
theorem dJ2_checkIndex_2214a_0 : decode cJ2_checkIndex_2214a 0 = .ok (.iload_n 0, 1) := by decide +kernel
theorem dJ2_checkIndex_2214a_1 : decode cJ2_checkIndex_2214a 1 = .ok (.aload_n 1, 1) := by decide +kernel
theorem dJ2_checkIndex_2214a_2 : decode cJ2_checkIndex_2214a 2 = .ok (.invokestatic 48, 3) := by decide +kernel
theorem dJ2_checkIndex_2214a_5 : decode cJ2_checkIndex_2214a 5 = .ok (.invokestatic 414, 3) := by decide +kernel
theorem dJ2_checkIndex_2214a_8 : decode cJ2_checkIndex_2214a 8 = .ok (.return_, 1) := by decide +kernel
theorem dJ7_fill_53178_0 : decode cJ7_fill_53178 0 = .ok (.iconst 0, 1) := by decide +kernel
theorem dJ7_fill_53178_1 : decode cJ7_fill_53178 1 = .ok (.istore_n 2, 1) := by decide +kernel
theorem dJ7_fill_53178_2 : decode cJ7_fill_53178 2 = .ok (.aload_n 0, 1) := by decide +kernel
theorem dJ7_fill_53178_3 : decode cJ7_fill_53178 3 = .ok (.arraylength, 1) := by decide +kernel
theorem dJ7_fill_53178_4 : decode cJ7_fill_53178 4 = .ok (.istore_n 3, 1) := by decide +kernel
theorem dJ7_fill_53178_5 : decode cJ7_fill_53178 5 = .ok (.iload_n 2, 1) := by decide +kernel
theorem dJ7_fill_53178_6 : decode cJ7_fill_53178 6 = .ok (.iload_n 3, 1) := by decide +kernel
theorem dJ7_fill_53178_7 : decode cJ7_fill_53178 7 = .ok (.if_icmp .ge 13, 3) := by decide +kernel
theorem dJ7_fill_53178_10 : decode cJ7_fill_53178 10 = .ok (.aload_n 0, 1) := by decide +kernel
theorem dJ7_fill_53178_11 : decode cJ7_fill_53178 11 = .ok (.iload_n 2, 1) := by decide +kernel
theorem dJ7_fill_53178_12 : decode cJ7_fill_53178 12 = .ok (.iload_n 1, 1) := by decide +kernel
theorem dJ7_fill_53178_13 : decode cJ7_fill_53178 13 = .ok (.iastore, 1) := by decide +kernel
theorem dJ7_fill_53178_14 : decode cJ7_fill_53178 14 = .ok (.iinc 2 1, 3) := by decide +kernel
theorem dJ7_fill_53178_17 : decode cJ7_fill_53178 17 = .ok (.goto (-12), 3) := by decide +kernel
theorem dJ7_fill_53178_20 : decode cJ7_fill_53178 20 = .ok (.return_, 1) := by decide +kernel
theorem dJ7_copyOf_59c91_0 : decode cJ7_copyOf_59c91 0 = .ok (.iload_n 1, 1) := by decide +kernel
theorem dJ7_copyOf_59c91_1 : decode cJ7_copyOf_59c91 1 = .ok (.aload_n 0, 1) := by decide +kernel
theorem dJ7_copyOf_59c91_2 : decode cJ7_copyOf_59c91 2 = .ok (.arraylength, 1) := by decide +kernel
theorem dJ7_copyOf_59c91_3 : decode cJ7_copyOf_59c91 3 = .ok (.if_icmp .ne 11, 3) := by decide +kernel
theorem dJ7_copyOf_59c91_6 : decode cJ7_copyOf_59c91 6 = .ok (.aload_n 0, 1) := by decide +kernel
theorem dJ7_copyOf_59c91_7 : decode cJ7_copyOf_59c91 7 = .ok (.invokevirtual 316, 3) := by decide +kernel
theorem dJ7_copyOf_59c91_10 : decode cJ7_copyOf_59c91 10 = .ok (.checkcast 317, 3) := by decide +kernel
theorem dJ7_copyOf_59c91_13 : decode cJ7_copyOf_59c91 13 = .ok (.areturn, 1) := by decide +kernel
theorem dJ7_copyOf_59c91_14 : decode cJ7_copyOf_59c91 14 = .ok (.iload_n 1, 1) := by decide +kernel
theorem dJ7_copyOf_59c91_15 : decode cJ7_copyOf_59c91 15 = .ok (.newarray .int, 2) := by decide +kernel
theorem dJ7_copyOf_59c91_17 : decode cJ7_copyOf_59c91 17 = .ok (.astore_n 2, 1) := by decide +kernel
theorem dJ7_copyOf_59c91_18 : decode cJ7_copyOf_59c91 18 = .ok (.aload_n 0, 1) := by decide +kernel
theorem dJ7_copyOf_59c91_19 : decode cJ7_copyOf_59c91 19 = .ok (.iconst 0, 1) := by decide +kernel
theorem dJ7_copyOf_59c91_20 : decode cJ7_copyOf_59c91 20 = .ok (.aload_n 2, 1) := by decide +kernel
theorem dJ7_copyOf_59c91_21 : decode cJ7_copyOf_59c91 21 = .ok (.iconst 0, 1) := by decide +kernel
theorem dJ7_copyOf_59c91_22 : decode cJ7_copyOf_59c91 22 = .ok (.aload_n 0, 1) := by decide +kernel
theorem dJ7_copyOf_59c91_23 : decode cJ7_copyOf_59c91 23 = .ok (.arraylength, 1) := by decide +kernel
theorem dJ7_copyOf_59c91_24 : decode cJ7_copyOf_59c91 24 = .ok (.iload_n 1, 1) := by decide +kernel
theorem dJ7_copyOf_59c91_25 : decode cJ7_copyOf_59c91 25 = .ok (.invokestatic 304, 3) := by decide +kernel
theorem dJ7_copyOf_59c91_28 : decode cJ7_copyOf_59c91 28 = .ok (.invokestatic 150, 3) := by decide +kernel
theorem dJ7_copyOf_59c91_31 : decode cJ7_copyOf_59c91 31 = .ok (.aload_n 2, 1) := by decide +kernel
theorem dJ7_copyOf_59c91_32 : decode cJ7_copyOf_59c91 32 = .ok (.areturn, 1) := by decide +kernel
theorem dJ3_checkIndex_8e157_0 : decode cJ3_checkIndex_8e157 0 = .ok (.iload_n 0, 1) := by decide +kernel
theorem dJ3_checkIndex_8e157_1 : decode cJ3_checkIndex_8e157 1 = .ok (.ifCond .lt 8, 3) := by decide +kernel
theorem dJ3_checkIndex_8e157_4 : decode cJ3_checkIndex_8e157 4 = .ok (.iload_n 0, 1) := by decide +kernel
theorem dJ3_checkIndex_8e157_5 : decode cJ3_checkIndex_8e157 5 = .ok (.iload_n 1, 1) := by decide +kernel
theorem dJ3_checkIndex_8e157_6 : decode cJ3_checkIndex_8e157 6 = .ok (.if_icmp .lt 10, 3) := by decide +kernel
theorem dJ3_checkIndex_8e157_9 : decode cJ3_checkIndex_8e157 9 = .ok (.aload_n 2, 1) := by decide +kernel
theorem dJ3_checkIndex_8e157_10 : decode cJ3_checkIndex_8e157 10 = .ok (.iload_n 0, 1) := by decide +kernel
theorem dJ3_checkIndex_8e157_11 : decode cJ3_checkIndex_8e157 11 = .ok (.iload_n 1, 1) := by decide +kernel
theorem dJ3_checkIndex_8e157_12 : decode cJ3_checkIndex_8e157 12 = .ok (.invokestatic 95, 3) := by decide +kernel
theorem dJ3_checkIndex_8e157_15 : decode cJ3_checkIndex_8e157 15 = .ok (.athrow, 1) := by decide +kernel
theorem dJ3_checkIndex_8e157_16 : decode cJ3_checkIndex_8e157 16 = .ok (.iload_n 0, 1) := by decide +kernel
theorem dJ3_checkIndex_8e157_17 : decode cJ3_checkIndex_8e157 17 = .ok (.ireturn, 1) := by decide +kernel
end
section
theorem dX0_init_0 : decode cX0_init 0 = .ok (.aload_n 0, 1) := by decide +kernel
theorem dX0_init_1 : decode cX0_init 1 = .ok (.invokespecial 3, 3) := by decide +kernel
theorem dX0_init_4 : decode cX0_init 4 = .ok (.aload_n 0, 1) := by decide +kernel
theorem dX0_init_5 : decode cX0_init 5 = .ok (.bipush 8, 2) := by decide +kernel
theorem dX0_init_7 : decode cX0_init 7 = .ok (.anewarray 9, 3) := by decide +kernel
theorem dX0_init_10 : decode cX0_init 10 = .ok (.putfield 11, 3) := by decide +kernel
theorem dX0_init_13 : decode cX0_init 13 = .ok (.aload_n 0, 1) := by decide +kernel
theorem dX0_init_14 : decode cX0_init 14 = .ok (.iconst 0, 1) := by decide +kernel
theorem dX0_init_15 : decode cX0_init 15 = .ok (.putfield 17, 3) := by decide +kernel
theorem dX0_init_18 : decode cX0_init 18 = .ok (.aload_n 0, 1) := by decide +kernel
theorem dX0_init_19 : decode cX0_init 19 = .ok (.iconst 0, 1) := by decide +kernel
theorem dX0_init_20 : decode cX0_init 20 = .ok (.putfield 21, 3) := by decide +kernel
theorem dX0_init_23 : decode cX0_init 23 = .ok (.aload_n 0, 1) := by decide +kernel
theorem dX0_init_24 : decode cX0_init 24 = .ok (.bipush 50, 2) := by decide +kernel
theorem dX0_init_26 : decode cX0_init 26 = .ok (.putfield 24, 3) := by decide +kernel
theorem dX0_init_29 : decode cX0_init 29 = .ok (.aload_n 0, 1) := by decide +kernel
theorem dX0_init_30 : decode cX0_init 30 = .ok (.new 27, 3) := by decide +kernel
theorem dX0_init_33 : decode cX0_init 33 = .ok (.dup, 1) := by decide +kernel
theorem dX0_init_34 : decode cX0_init 34 = .ok (.iconst 1, 1) := by decide +kernel
theorem dX0_init_35 : decode cX0_init 35 = .ok (.newarray .int, 2) := by decide +kernel
theorem dX0_init_37 : decode cX0_init 37 = .ok (.dup, 1) := by decide +kernel
theorem dX0_init_38 : decode cX0_init 38 = .ok (.iconst 0, 1) := by decide +kernel
theorem dX0_init_39 : decode cX0_init 39 = .ok (.iconst (-1), 1) := by decide +kernel
theorem dX0_init_40 : decode cX0_init 40 = .ok (.iastore, 1) := by decide +kernel
theorem dX0_init_41 : decode cX0_init 41 = .ok (.invokespecial 29, 3) := by decide +kernel
theorem dX0_init_44 : decode cX0_init 44 = .ok (.putfield 32, 3) := by decide +kernel
theorem dX0_init_47 : decode cX0_init 47 = .ok (.iconst 0, 1) := by decide +kernel
theorem dX0_init_48 : decode cX0_init 48 = .ok (.istore_n 1, 1) := by decide +kernel
theorem dX0_init_49 : decode cX0_init 49 = .ok (.iload_n 1, 1) := by decide +kernel
theorem dX0_init_50 : decode cX0_init 50 = .ok (.bipush 8, 2) := by decide +kernel
theorem dX0_init_52 : decode cX0_init 52 = .ok (.if_icmp .ge 22, 3) := by decide +kernel
theorem dX0_init_55 : decode cX0_init 55 = .ok (.aload_n 0, 1) := by decide +kernel
theorem dX0_init_56 : decode cX0_init 56 = .ok (.getfield 11, 3) := by decide +kernel
theorem dX0_init_59 : decode cX0_init 59 = .ok (.iload_n 1, 1) := by decide +kernel
theorem dX0_init_60 : decode cX0_init 60 = .ok (.new 9, 3) := by decide +kernel
theorem dX0_init_63 : decode cX0_init 63 = .ok (.dup, 1) := by decide +kernel
theorem dX0_init_64 : decode cX0_init 64 = .ok (.invokespecial 36, 3) := by decide +kernel
theorem dX0_init_67 : decode cX0_init 67 = .ok (.aastore, 1) := by decide +kernel
theorem dX0_init_68 : decode cX0_init 68 = .ok (.iinc 1 1, 3) := by decide +kernel
theorem dX0_init_71 : decode cX0_init 71 = .ok (.goto (-22), 3) := by decide +kernel
theorem dX0_init_74 : decode cX0_init 74 = .ok (.return_, 1) := by decide +kernel
theorem dX0_clear_0 : decode cX0_clear 0 = .ok (.aload_n 0, 1) := by decide +kernel
theorem dX0_clear_1 : decode cX0_clear 1 = .ok (.iconst 0, 1) := by decide +kernel
theorem dX0_clear_2 : decode cX0_clear 2 = .ok (.putfield 17, 3) := by decide +kernel
theorem dX0_clear_5 : decode cX0_clear 5 = .ok (.aload_n 0, 1) := by decide +kernel
theorem dX0_clear_6 : decode cX0_clear 6 = .ok (.iconst 0, 1) := by decide +kernel
theorem dX0_clear_7 : decode cX0_clear 7 = .ok (.putfield 21, 3) := by decide +kernel
theorem dX0_clear_10 : decode cX0_clear 10 = .ok (.aload_n 0, 1) := by decide +kernel
theorem dX0_clear_11 : decode cX0_clear 11 = .ok (.bipush 50, 2) := by decide +kernel
theorem dX0_clear_13 : decode cX0_clear 13 = .ok (.putfield 24, 3) := by decide +kernel
theorem dX0_clear_16 : decode cX0_clear 16 = .ok (.return_, 1) := by decide +kernel
theorem dX0_copyFrom_0 : decode cX0_copyFrom 0 = .ok (.aload_n 0, 1) := by decide +kernel
theorem dX0_copyFrom_1 : decode cX0_copyFrom 1 = .ok (.aload_n 1, 1) := by decide +kernel
theorem dX0_copyFrom_2 : decode cX0_copyFrom 2 = .ok (.getfield 17, 3) := by decide +kernel
theorem dX0_copyFrom_5 : decode cX0_copyFrom 5 = .ok (.putfield 17, 3) := by decide +kernel
theorem dX0_copyFrom_8 : decode cX0_copyFrom 8 = .ok (.aload_n 0, 1) := by decide +kernel
theorem dX0_copyFrom_9 : decode cX0_copyFrom 9 = .ok (.aload_n 1, 1) := by decide +kernel
theorem dX0_copyFrom_10 : decode cX0_copyFrom 10 = .ok (.getfield 21, 3) := by decide +kernel
theorem dX0_copyFrom_13 : decode cX0_copyFrom 13 = .ok (.putfield 21, 3) := by decide +kernel
theorem dX0_copyFrom_16 : decode cX0_copyFrom 16 = .ok (.aload_n 0, 1) := by decide +kernel
theorem dX0_copyFrom_17 : decode cX0_copyFrom 17 = .ok (.aload_n 1, 1) := by decide +kernel
theorem dX0_copyFrom_18 : decode cX0_copyFrom 18 = .ok (.getfield 24, 3) := by decide +kernel
theorem dX0_copyFrom_21 : decode cX0_copyFrom 21 = .ok (.putfield 24, 3) := by decide +kernel
theorem dX0_copyFrom_24 : decode cX0_copyFrom 24 = .ok (.aload_n 0, 1) := by decide +kernel
theorem dX0_copyFrom_25 : decode cX0_copyFrom 25 = .ok (.aload_n 1, 1) := by decide +kernel
theorem dX0_copyFrom_26 : decode cX0_copyFrom 26 = .ok (.getfield 32, 3) := by decide +kernel
theorem dX0_copyFrom_29 : decode cX0_copyFrom 29 = .ok (.putfield 32, 3) := by decide +kernel
theorem dX0_copyFrom_32 : decode cX0_copyFrom 32 = .ok (.iconst 0, 1) := by decide +kernel
theorem dX0_copyFrom_33 : decode cX0_copyFrom 33 = .ok (.istore_n 2, 1) := by decide +kernel
theorem dX0_copyFrom_34 : decode cX0_copyFrom 34 = .ok (.iload_n 2, 1) := by decide +kernel
theorem dX0_copyFrom_35 : decode cX0_copyFrom 35 = .ok (.bipush 8, 2) := by decide +kernel
theorem dX0_copyFrom_37 : decode cX0_copyFrom 37 = .ok (.if_icmp .ge 24, 3) := by decide +kernel
theorem dX0_copyFrom_40 : decode cX0_copyFrom 40 = .ok (.aload_n 0, 1) := by decide +kernel
theorem dX0_copyFrom_41 : decode cX0_copyFrom 41 = .ok (.getfield 11, 3) := by decide +kernel
theorem dX0_copyFrom_44 : decode cX0_copyFrom 44 = .ok (.iload_n 2, 1) := by decide +kernel
theorem dX0_copyFrom_45 : decode cX0_copyFrom 45 = .ok (.aaload, 1) := by decide +kernel
theorem dX0_copyFrom_46 : decode cX0_copyFrom 46 = .ok (.aload_n 1, 1) := by decide +kernel
theorem dX0_copyFrom_47 : decode cX0_copyFrom 47 = .ok (.getfield 11, 3) := by decide +kernel
theorem dX0_copyFrom_50 : decode cX0_copyFrom 50 = .ok (.iload_n 2, 1) := by decide +kernel
theorem dX0_copyFrom_51 : decode cX0_copyFrom 51 = .ok (.aaload, 1) := by decide +kernel
theorem dX0_copyFrom_52 : decode cX0_copyFrom 52 = .ok (.invokevirtual 37, 3) := by decide +kernel
theorem dX0_copyFrom_55 : decode cX0_copyFrom 55 = .ok (.iinc 2 1, 3) := by decide +kernel
theorem dX0_copyFrom_58 : decode cX0_copyFrom 58 = .ok (.goto (-24), 3) := by decide +kernel
theorem dX0_copyFrom_61 : decode cX0_copyFrom 61 = .ok (.return_, 1) := by decide +kernel
theorem dX0_isCandidate_0 : decode cX0_isCandidate 0 = .ok (.aload_n 0, 1) := by decide +kernel
theorem dX0_isCandidate_1 : decode cX0_isCandidate 1 = .ok (.getfield 11, 3) := by decide +kernel
theorem dX0_isCandidate_4 : decode cX0_isCandidate 4 = .ok (.iload_n 1, 1) := by decide +kernel
theorem dX0_isCandidate_5 : decode cX0_isCandidate 5 = .ok (.aaload, 1) := by decide +kernel
theorem dX0_isCandidate_6 : decode cX0_isCandidate 6 = .ok (.invokevirtual 41, 3) := by decide +kernel
theorem dX0_isCandidate_9 : decode cX0_isCandidate 9 = .ok (.ifCond .eq 20, 3) := by decide +kernel
theorem dX0_isCandidate_12 : decode cX0_isCandidate 12 = .ok (.aload_n 0, 1) := by decide +kernel
theorem dX0_isCandidate_13 : decode cX0_isCandidate 13 = .ok (.getfield 11, 3) := by decide +kernel
theorem dX0_isCandidate_16 : decode cX0_isCandidate 16 = .ok (.iload_n 1, 1) := by decide +kernel
theorem dX0_isCandidate_17 : decode cX0_isCandidate 17 = .ok (.aaload, 1) := by decide +kernel
theorem dX0_isCandidate_18 : decode cX0_isCandidate 18 = .ok (.iload_n 2, 1) := by decide +kernel
theorem dX0_isCandidate_19 : decode cX0_isCandidate 19 = .ok (.invokevirtual 45, 3) := by decide +kernel
theorem dX0_isCandidate_22 : decode cX0_isCandidate 22 = .ok (.ifCond .eq 7, 3) := by decide +kernel
theorem dX0_isCandidate_25 : decode cX0_isCandidate 25 = .ok (.iconst 1, 1) := by decide +kernel
theorem dX0_isCandidate_26 : decode cX0_isCandidate 26 = .ok (.goto 4, 3) := by decide +kernel
theorem dX0_isCandidate_29 : decode cX0_isCandidate 29 = .ok (.iconst 0, 1) := by decide +kernel
theorem dX0_isCandidate_30 : decode cX0_isCandidate 30 = .ok (.ireturn, 1) := by decide +kernel
theorem dX0_takeOut_0 : decode cX0_takeOut 0 = .ok (.aload_n 0, 1) := by decide +kernel
theorem dX0_takeOut_1 : decode cX0_takeOut 1 = .ok (.getfield 11, 3) := by decide +kernel
theorem dX0_takeOut_4 : decode cX0_takeOut 4 = .ok (.iload_n 1, 1) := by decide +kernel
theorem dX0_takeOut_5 : decode cX0_takeOut 5 = .ok (.aaload, 1) := by decide +kernel
theorem dX0_takeOut_6 : decode cX0_takeOut 6 = .ok (.getfield 49, 3) := by decide +kernel
theorem dX0_takeOut_9 : decode cX0_takeOut 9 = .ok (.istore_n 2, 1) := by decide +kernel
theorem dX0_takeOut_10 : decode cX0_takeOut 10 = .ok (.aload_n 0, 1) := by decide +kernel
theorem dX0_takeOut_11 : decode cX0_takeOut 11 = .ok (.getfield 11, 3) := by decide +kernel
theorem dX0_takeOut_14 : decode cX0_takeOut 14 = .ok (.iload_n 1, 1) := by decide +kernel
theorem dX0_takeOut_15 : decode cX0_takeOut 15 = .ok (.aaload, 1) := by decide +kernel
theorem dX0_takeOut_16 : decode cX0_takeOut 16 = .ok (.iconst (-1), 1) := by decide +kernel
theorem dX0_takeOut_17 : decode cX0_takeOut 17 = .ok (.putfield 49, 3) := by decide +kernel
theorem dX0_takeOut_20 : decode cX0_takeOut 20 = .ok (.iconst 0, 1) := by decide +kernel
theorem dX0_takeOut_21 : decode cX0_takeOut 21 = .ok (.istore_n 3, 1) := by decide +kernel
theorem dX0_takeOut_22 : decode cX0_takeOut 22 = .ok (.iload_n 3, 1) := by decide +kernel
theorem dX0_takeOut_23 : decode cX0_takeOut 23 = .ok (.aload_n 0, 1) := by decide +kernel
theorem dX0_takeOut_24 : decode cX0_takeOut 24 = .ok (.getfield 17, 3) := by decide +kernel
theorem dX0_takeOut_27 : decode cX0_takeOut 27 = .ok (.if_icmp .ge 37, 3) := by decide +kernel
theorem dX0_takeOut_30 : decode cX0_takeOut 30 = .ok (.aload_n 0, 1) := by decide +kernel
theorem dX0_takeOut_31 : decode cX0_takeOut 31 = .ok (.getfield 11, 3) := by decide +kernel
theorem dX0_takeOut_34 : decode cX0_takeOut 34 = .ok (.iload_n 3, 1) := by decide +kernel
theorem dX0_takeOut_35 : decode cX0_takeOut 35 = .ok (.aaload, 1) := by decide +kernel
theorem dX0_takeOut_36 : decode cX0_takeOut 36 = .ok (.getfield 49, 3) := by decide +kernel
theorem dX0_takeOut_39 : decode cX0_takeOut 39 = .ok (.iload_n 2, 1) := by decide +kernel
theorem dX0_takeOut_40 : decode cX0_takeOut 40 = .ok (.if_icmp .le 18, 3) := by decide +kernel
theorem dX0_takeOut_43 : decode cX0_takeOut 43 = .ok (.aload_n 0, 1) := by decide +kernel
theorem dX0_takeOut_44 : decode cX0_takeOut 44 = .ok (.getfield 11, 3) := by decide +kernel
theorem dX0_takeOut_47 : decode cX0_takeOut 47 = .ok (.iload_n 3, 1) := by decide +kernel
theorem dX0_takeOut_48 : decode cX0_takeOut 48 = .ok (.aaload, 1) := by decide +kernel
theorem dX0_takeOut_49 : decode cX0_takeOut 49 = .ok (.dup, 1) := by decide +kernel
theorem dX0_takeOut_50 : decode cX0_takeOut 50 = .ok (.getfield 49, 3) := by decide +kernel
theorem dX0_takeOut_53 : decode cX0_takeOut 53 = .ok (.iconst 1, 1) := by decide +kernel
theorem dX0_takeOut_54 : decode cX0_takeOut 54 = .ok (.isub, 1) := by decide +kernel
theorem dX0_takeOut_55 : decode cX0_takeOut 55 = .ok (.putfield 49, 3) := by decide +kernel
theorem dX0_takeOut_58 : decode cX0_takeOut 58 = .ok (.iinc 3 1, 3) := by decide +kernel
theorem dX0_takeOut_61 : decode cX0_takeOut 61 = .ok (.goto (-39), 3) := by decide +kernel
theorem dX0_takeOut_64 : decode cX0_takeOut 64 = .ok (.return_, 1) := by decide +kernel
theorem dX0_takeIn_0 : decode cX0_takeIn 0 = .ok (.iconst 0, 1) := by decide +kernel
theorem dX0_takeIn_1 : decode cX0_takeIn 1 = .ok (.istore_n 2, 1) := by decide +kernel
theorem dX0_takeIn_2 : decode cX0_takeIn 2 = .ok (.iconst 0, 1) := by decide +kernel
theorem dX0_takeIn_3 : decode cX0_takeIn 3 = .ok (.istore_n 3, 1) := by decide +kernel
theorem dX0_takeIn_4 : decode cX0_takeIn 4 = .ok (.iload_n 3, 1) := by decide +kernel
theorem dX0_takeIn_5 : decode cX0_takeIn 5 = .ok (.aload_n 0, 1) := by decide +kernel
theorem dX0_takeIn_6 : decode cX0_takeIn 6 = .ok (.getfield 17, 3) := by decide +kernel
theorem dX0_takeIn_9 : decode cX0_takeIn 9 = .ok (.if_icmp .ge 24, 3) := by decide +kernel
theorem dX0_takeIn_12 : decode cX0_takeIn 12 = .ok (.aload_n 0, 1) := by decide +kernel
theorem dX0_takeIn_13 : decode cX0_takeIn 13 = .ok (.getfield 11, 3) := by decide +kernel
theorem dX0_takeIn_16 : decode cX0_takeIn 16 = .ok (.iload_n 3, 1) := by decide +kernel
theorem dX0_takeIn_17 : decode cX0_takeIn 17 = .ok (.aaload, 1) := by decide +kernel
theorem dX0_takeIn_18 : decode cX0_takeIn 18 = .ok (.invokevirtual 41, 3) := by decide +kernel
theorem dX0_takeIn_21 : decode cX0_takeIn 21 = .ok (.ifCond .eq 6, 3) := by decide +kernel
theorem dX0_takeIn_24 : decode cX0_takeIn 24 = .ok (.iinc 2 1, 3) := by decide +kernel
theorem dX0_takeIn_27 : decode cX0_takeIn 27 = .ok (.iinc 3 1, 3) := by decide +kernel
theorem dX0_takeIn_30 : decode cX0_takeIn 30 = .ok (.goto (-26), 3) := by decide +kernel
theorem dX0_takeIn_33 : decode cX0_takeIn 33 = .ok (.aload_n 0, 1) := by decide +kernel
theorem dX0_takeIn_34 : decode cX0_takeIn 34 = .ok (.getfield 11, 3) := by decide +kernel
theorem dX0_takeIn_37 : decode cX0_takeIn 37 = .ok (.iload_n 1, 1) := by decide +kernel
theorem dX0_takeIn_38 : decode cX0_takeIn 38 = .ok (.aaload, 1) := by decide +kernel
theorem dX0_takeIn_39 : decode cX0_takeIn 39 = .ok (.iload_n 2, 1) := by decide +kernel
theorem dX0_takeIn_40 : decode cX0_takeIn 40 = .ok (.putfield 49, 3) := by decide +kernel
theorem dX0_takeIn_43 : decode cX0_takeIn 43 = .ok (.return_, 1) := by decide +kernel
theorem dX0_friendsOf_0 : decode cX0_friendsOf 0 = .ok (.iconst 0, 1) := by decide +kernel
theorem dX0_friendsOf_1 : decode cX0_friendsOf 1 = .ok (.istore_n 2, 1) := by decide +kernel
theorem dX0_friendsOf_2 : decode cX0_friendsOf 2 = .ok (.iconst 0, 1) := by decide +kernel
theorem dX0_friendsOf_3 : decode cX0_friendsOf 3 = .ok (.istore_n 3, 1) := by decide +kernel
theorem dX0_friendsOf_4 : decode cX0_friendsOf 4 = .ok (.iload_n 3, 1) := by decide +kernel
theorem dX0_friendsOf_5 : decode cX0_friendsOf 5 = .ok (.aload_n 0, 1) := by decide +kernel
theorem dX0_friendsOf_6 : decode cX0_friendsOf 6 = .ok (.getfield 17, 3) := by decide +kernel
theorem dX0_friendsOf_9 : decode cX0_friendsOf 9 = .ok (.if_icmp .ge 37, 3) := by decide +kernel
theorem dX0_friendsOf_12 : decode cX0_friendsOf 12 = .ok (.aload_n 0, 1) := by decide +kernel
theorem dX0_friendsOf_13 : decode cX0_friendsOf 13 = .ok (.getfield 11, 3) := by decide +kernel
theorem dX0_friendsOf_16 : decode cX0_friendsOf 16 = .ok (.iload_n 3, 1) := by decide +kernel
theorem dX0_friendsOf_17 : decode cX0_friendsOf 17 = .ok (.aaload, 1) := by decide +kernel
theorem dX0_friendsOf_18 : decode cX0_friendsOf 18 = .ok (.invokevirtual 41, 3) := by decide +kernel
theorem dX0_friendsOf_21 : decode cX0_friendsOf 21 = .ok (.ifCond .eq 19, 3) := by decide +kernel
theorem dX0_friendsOf_24 : decode cX0_friendsOf 24 = .ok (.aload_n 0, 1) := by decide +kernel
theorem dX0_friendsOf_25 : decode cX0_friendsOf 25 = .ok (.getfield 11, 3) := by decide +kernel
theorem dX0_friendsOf_28 : decode cX0_friendsOf 28 = .ok (.iload_n 3, 1) := by decide +kernel
theorem dX0_friendsOf_29 : decode cX0_friendsOf 29 = .ok (.aaload, 1) := by decide +kernel
theorem dX0_friendsOf_30 : decode cX0_friendsOf 30 = .ok (.iload_n 1, 1) := by decide +kernel
theorem dX0_friendsOf_31 : decode cX0_friendsOf 31 = .ok (.invokevirtual 52, 3) := by decide +kernel
theorem dX0_friendsOf_34 : decode cX0_friendsOf 34 = .ok (.ifCond .eq 6, 3) := by decide +kernel
theorem dX0_friendsOf_37 : decode cX0_friendsOf 37 = .ok (.iinc 2 1, 3) := by decide +kernel
theorem dX0_friendsOf_40 : decode cX0_friendsOf 40 = .ok (.iinc 3 1, 3) := by decide +kernel
theorem dX0_friendsOf_43 : decode cX0_friendsOf 43 = .ok (.goto (-39), 3) := by decide +kernel
theorem dX0_friendsOf_46 : decode cX0_friendsOf 46 = .ok (.iload_n 2, 1) := by decide +kernel
theorem dX0_friendsOf_47 : decode cX0_friendsOf 47 = .ok (.ireturn, 1) := by decide +kernel
theorem dX0_weightOf_0 : decode cX0_weightOf 0 = .ok (.aload_n 0, 1) := by decide +kernel
theorem dX0_weightOf_1 : decode cX0_weightOf 1 = .ok (.getfield 11, 3) := by decide +kernel
theorem dX0_weightOf_4 : decode cX0_weightOf 4 = .ok (.iload_n 1, 1) := by decide +kernel
theorem dX0_weightOf_5 : decode cX0_weightOf 5 = .ok (.aaload, 1) := by decide +kernel
theorem dX0_weightOf_6 : decode cX0_weightOf 6 = .ok (.astore_n 2, 1) := by decide +kernel
theorem dX0_weightOf_7 : decode cX0_weightOf 7 = .ok (.aload_n 0, 1) := by decide +kernel
theorem dX0_weightOf_8 : decode cX0_weightOf 8 = .ok (.getfield 32, 3) := by decide +kernel
theorem dX0_weightOf_11 : decode cX0_weightOf 11 = .ok (.aload_n 2, 1) := by decide +kernel
theorem dX0_weightOf_12 : decode cX0_weightOf 12 = .ok (.getfield 55, 3) := by decide +kernel
theorem dX0_weightOf_15 : decode cX0_weightOf 15 = .ok (.aload_n 2, 1) := by decide +kernel
theorem dX0_weightOf_16 : decode cX0_weightOf 16 = .ok (.getfield 49, 3) := by decide +kernel
theorem dX0_weightOf_19 : decode cX0_weightOf 19 = .ok (.aload_n 2, 1) := by decide +kernel
theorem dX0_weightOf_20 : decode cX0_weightOf 20 = .ok (.invokevirtual 58, 3) := by decide +kernel
theorem dX0_weightOf_23 : decode cX0_weightOf 23 = .ok (.aload_n 0, 1) := by decide +kernel
theorem dX0_weightOf_24 : decode cX0_weightOf 24 = .ok (.iload_n 1, 1) := by decide +kernel
theorem dX0_weightOf_25 : decode cX0_weightOf 25 = .ok (.invokevirtual 62, 3) := by decide +kernel
theorem dX0_weightOf_28 : decode cX0_weightOf 28 = .ok (.invokevirtual 66, 3) := by decide +kernel
theorem dX0_weightOf_31 : decode cX0_weightOf 31 = .ok (.ireturn, 1) := by decide +kernel
end
section
theorem dX3_init_0 : decode cX3_init 0 = .ok (.aload_n 0, 1) := by decide +kernel
theorem dX3_init_1 : decode cX3_init 1 = .ok (.invokespecial 3, 3) := by decide +kernel
theorem dX3_init_4 : decode cX3_init 4 = .ok (.aload_n 0, 1) := by decide +kernel
theorem dX3_init_5 : decode cX3_init 5 = .ok (.iconst 0, 1) := by decide +kernel
theorem dX3_init_6 : decode cX3_init 6 = .ok (.putfield 9, 3) := by decide +kernel
theorem dX3_init_9 : decode cX3_init 9 = .ok (.aload_n 0, 1) := by decide +kernel
theorem dX3_init_10 : decode cX3_init 10 = .ok (.iconst 0, 1) := by decide +kernel
theorem dX3_init_11 : decode cX3_init 11 = .ok (.putfield 15, 3) := by decide +kernel
theorem dX3_init_14 : decode cX3_init 14 = .ok (.aload_n 0, 1) := by decide +kernel
theorem dX3_init_15 : decode cX3_init 15 = .ok (.iconst (-1), 1) := by decide +kernel
theorem dX3_init_16 : decode cX3_init 16 = .ok (.putfield 19, 3) := by decide +kernel
theorem dX3_init_19 : decode cX3_init 19 = .ok (.aload_n 0, 1) := by decide +kernel
theorem dX3_init_20 : decode cX3_init 20 = .ok (.bipush 12, 2) := by decide +kernel
theorem dX3_init_22 : decode cX3_init 22 = .ok (.newarray .int, 2) := by decide +kernel
theorem dX3_init_24 : decode cX3_init 24 = .ok (.putfield 22, 3) := by decide +kernel
theorem dX3_init_27 : decode cX3_init 27 = .ok (.aload_n 0, 1) := by decide +kernel
theorem dX3_init_28 : decode cX3_init 28 = .ok (.bipush 8, 2) := by decide +kernel
theorem dX3_init_30 : decode cX3_init 30 = .ok (.newarray .int, 2) := by decide +kernel
theorem dX3_init_32 : decode cX3_init 32 = .ok (.putfield 26, 3) := by decide +kernel
theorem dX3_init_35 : decode cX3_init 35 = .ok (.aload_n 0, 1) := by decide +kernel
theorem dX3_init_36 : decode cX3_init 36 = .ok (.iconst 0, 1) := by decide +kernel
theorem dX3_init_37 : decode cX3_init 37 = .ok (.putfield 29, 3) := by decide +kernel
theorem dX3_init_40 : decode cX3_init 40 = .ok (.return_, 1) := by decide +kernel
theorem dX3_startAs_0 : decode cX3_startAs 0 = .ok (.aload_n 0, 1) := by decide +kernel
theorem dX3_startAs_1 : decode cX3_startAs 1 = .ok (.iload_n 1, 1) := by decide +kernel
theorem dX3_startAs_2 : decode cX3_startAs 2 = .ok (.putfield 9, 3) := by decide +kernel
theorem dX3_startAs_5 : decode cX3_startAs 5 = .ok (.aload_n 0, 1) := by decide +kernel
theorem dX3_startAs_6 : decode cX3_startAs 6 = .ok (.iconst 0, 1) := by decide +kernel
theorem dX3_startAs_7 : decode cX3_startAs 7 = .ok (.putfield 15, 3) := by decide +kernel
theorem dX3_startAs_10 : decode cX3_startAs 10 = .ok (.aload_n 0, 1) := by decide +kernel
theorem dX3_startAs_11 : decode cX3_startAs 11 = .ok (.iload_n 2, 1) := by decide +kernel
theorem dX3_startAs_12 : decode cX3_startAs 12 = .ok (.putfield 19, 3) := by decide +kernel
theorem dX3_startAs_15 : decode cX3_startAs 15 = .ok (.aload_n 0, 1) := by decide +kernel
theorem dX3_startAs_16 : decode cX3_startAs 16 = .ok (.getfield 22, 3) := by decide +kernel
theorem dX3_startAs_19 : decode cX3_startAs 19 = .ok (.iconst (-1), 1) := by decide +kernel
theorem dX3_startAs_20 : decode cX3_startAs 20 = .ok (.invokestatic 32, 3) := by decide +kernel
theorem dX3_startAs_23 : decode cX3_startAs 23 = .ok (.aload_n 0, 1) := by decide +kernel
theorem dX3_startAs_24 : decode cX3_startAs 24 = .ok (.iconst 0, 1) := by decide +kernel
theorem dX3_startAs_25 : decode cX3_startAs 25 = .ok (.putfield 29, 3) := by decide +kernel
theorem dX3_startAs_28 : decode cX3_startAs 28 = .ok (.return_, 1) := by decide +kernel
theorem dX3_copyFrom_0 : decode cX3_copyFrom 0 = .ok (.aload_n 0, 1) := by decide +kernel
theorem dX3_copyFrom_1 : decode cX3_copyFrom 1 = .ok (.aload_n 1, 1) := by decide +kernel
theorem dX3_copyFrom_2 : decode cX3_copyFrom 2 = .ok (.getfield 9, 3) := by decide +kernel
theorem dX3_copyFrom_5 : decode cX3_copyFrom 5 = .ok (.putfield 9, 3) := by decide +kernel
theorem dX3_copyFrom_8 : decode cX3_copyFrom 8 = .ok (.aload_n 0, 1) := by decide +kernel
theorem dX3_copyFrom_9 : decode cX3_copyFrom 9 = .ok (.aload_n 1, 1) := by decide +kernel
theorem dX3_copyFrom_10 : decode cX3_copyFrom 10 = .ok (.getfield 15, 3) := by decide +kernel
theorem dX3_copyFrom_13 : decode cX3_copyFrom 13 = .ok (.putfield 15, 3) := by decide +kernel
theorem dX3_copyFrom_16 : decode cX3_copyFrom 16 = .ok (.aload_n 0, 1) := by decide +kernel
theorem dX3_copyFrom_17 : decode cX3_copyFrom 17 = .ok (.aload_n 1, 1) := by decide +kernel
theorem dX3_copyFrom_18 : decode cX3_copyFrom 18 = .ok (.getfield 19, 3) := by decide +kernel
theorem dX3_copyFrom_21 : decode cX3_copyFrom 21 = .ok (.putfield 19, 3) := by decide +kernel
theorem dX3_copyFrom_24 : decode cX3_copyFrom 24 = .ok (.aload_n 1, 1) := by decide +kernel
theorem dX3_copyFrom_25 : decode cX3_copyFrom 25 = .ok (.getfield 22, 3) := by decide +kernel
theorem dX3_copyFrom_28 : decode cX3_copyFrom 28 = .ok (.iconst 0, 1) := by decide +kernel
theorem dX3_copyFrom_29 : decode cX3_copyFrom 29 = .ok (.aload_n 0, 1) := by decide +kernel
theorem dX3_copyFrom_30 : decode cX3_copyFrom 30 = .ok (.getfield 22, 3) := by decide +kernel
theorem dX3_copyFrom_33 : decode cX3_copyFrom 33 = .ok (.iconst 0, 1) := by decide +kernel
theorem dX3_copyFrom_34 : decode cX3_copyFrom 34 = .ok (.bipush 12, 2) := by decide +kernel
theorem dX3_copyFrom_36 : decode cX3_copyFrom 36 = .ok (.invokestatic 38, 3) := by decide +kernel
theorem dX3_copyFrom_39 : decode cX3_copyFrom 39 = .ok (.aload_n 1, 1) := by decide +kernel
theorem dX3_copyFrom_40 : decode cX3_copyFrom 40 = .ok (.getfield 26, 3) := by decide +kernel
theorem dX3_copyFrom_43 : decode cX3_copyFrom 43 = .ok (.iconst 0, 1) := by decide +kernel
theorem dX3_copyFrom_44 : decode cX3_copyFrom 44 = .ok (.aload_n 0, 1) := by decide +kernel
theorem dX3_copyFrom_45 : decode cX3_copyFrom 45 = .ok (.getfield 26, 3) := by decide +kernel
theorem dX3_copyFrom_48 : decode cX3_copyFrom 48 = .ok (.iconst 0, 1) := by decide +kernel
theorem dX3_copyFrom_49 : decode cX3_copyFrom 49 = .ok (.bipush 8, 2) := by decide +kernel
theorem dX3_copyFrom_51 : decode cX3_copyFrom 51 = .ok (.invokestatic 38, 3) := by decide +kernel
theorem dX3_copyFrom_54 : decode cX3_copyFrom 54 = .ok (.aload_n 0, 1) := by decide +kernel
theorem dX3_copyFrom_55 : decode cX3_copyFrom 55 = .ok (.aload_n 1, 1) := by decide +kernel
theorem dX3_copyFrom_56 : decode cX3_copyFrom 56 = .ok (.getfield 29, 3) := by decide +kernel
theorem dX3_copyFrom_59 : decode cX3_copyFrom 59 = .ok (.putfield 29, 3) := by decide +kernel
theorem dX3_copyFrom_62 : decode cX3_copyFrom 62 = .ok (.return_, 1) := by decide +kernel
theorem dX3_isLoaded_0 : decode cX3_isLoaded 0 = .ok (.aload_n 0, 1) := by decide +kernel
theorem dX3_isLoaded_1 : decode cX3_isLoaded 1 = .ok (.getfield 19, 3) := by decide +kernel
theorem dX3_isLoaded_4 : decode cX3_isLoaded 4 = .ok (.iconst (-1), 1) := by decide +kernel
theorem dX3_isLoaded_5 : decode cX3_isLoaded 5 = .ok (.if_icmp .eq 7, 3) := by decide +kernel
theorem dX3_isLoaded_8 : decode cX3_isLoaded 8 = .ok (.iconst 1, 1) := by decide +kernel
theorem dX3_isLoaded_9 : decode cX3_isLoaded 9 = .ok (.goto 4, 3) := by decide +kernel
theorem dX3_isLoaded_12 : decode cX3_isLoaded 12 = .ok (.iconst 0, 1) := by decide +kernel
theorem dX3_isLoaded_13 : decode cX3_isLoaded 13 = .ok (.ireturn, 1) := by decide +kernel
theorem dX3_hasOffer_0 : decode cX3_hasOffer 0 = .ok (.aload_n 0, 1) := by decide +kernel
theorem dX3_hasOffer_1 : decode cX3_hasOffer 1 = .ok (.getfield 22, 3) := by decide +kernel
theorem dX3_hasOffer_4 : decode cX3_hasOffer 4 = .ok (.iload_n 1, 1) := by decide +kernel
theorem dX3_hasOffer_5 : decode cX3_hasOffer 5 = .ok (.iaload, 1) := by decide +kernel
theorem dX3_hasOffer_6 : decode cX3_hasOffer 6 = .ok (.iconst (-1), 1) := by decide +kernel
theorem dX3_hasOffer_7 : decode cX3_hasOffer 7 = .ok (.if_icmp .eq 7, 3) := by decide +kernel
theorem dX3_hasOffer_10 : decode cX3_hasOffer 10 = .ok (.iconst 1, 1) := by decide +kernel
theorem dX3_hasOffer_11 : decode cX3_hasOffer 11 = .ok (.goto 4, 3) := by decide +kernel
theorem dX3_hasOffer_14 : decode cX3_hasOffer 14 = .ok (.iconst 0, 1) := by decide +kernel
theorem dX3_hasOffer_15 : decode cX3_hasOffer 15 = .ok (.ireturn, 1) := by decide +kernel
theorem dX3_countOffers_0 : decode cX3_countOffers 0 = .ok (.iconst 0, 1) := by decide +kernel
theorem dX3_countOffers_1 : decode cX3_countOffers 1 = .ok (.istore_n 1, 1) := by decide +kernel
theorem dX3_countOffers_2 : decode cX3_countOffers 2 = .ok (.iconst 0, 1) := by decide +kernel
theorem dX3_countOffers_3 : decode cX3_countOffers 3 = .ok (.istore_n 2, 1) := by decide +kernel
theorem dX3_countOffers_4 : decode cX3_countOffers 4 = .ok (.iload_n 2, 1) := by decide +kernel
theorem dX3_countOffers_5 : decode cX3_countOffers 5 = .ok (.bipush 12, 2) := by decide +kernel
theorem dX3_countOffers_7 : decode cX3_countOffers 7 = .ok (.if_icmp .ge 20, 3) := by decide +kernel
theorem dX3_countOffers_10 : decode cX3_countOffers 10 = .ok (.aload_n 0, 1) := by decide +kernel
theorem dX3_countOffers_11 : decode cX3_countOffers 11 = .ok (.iload_n 2, 1) := by decide +kernel
theorem dX3_countOffers_12 : decode cX3_countOffers 12 = .ok (.invokevirtual 44, 3) := by decide +kernel
theorem dX3_countOffers_15 : decode cX3_countOffers 15 = .ok (.ifCond .eq 6, 3) := by decide +kernel
theorem dX3_countOffers_18 : decode cX3_countOffers 18 = .ok (.iinc 1 1, 3) := by decide +kernel
theorem dX3_countOffers_21 : decode cX3_countOffers 21 = .ok (.iinc 2 1, 3) := by decide +kernel
theorem dX3_countOffers_24 : decode cX3_countOffers 24 = .ok (.goto (-20), 3) := by decide +kernel
theorem dX3_countOffers_27 : decode cX3_countOffers 27 = .ok (.iload_n 1, 1) := by decide +kernel
theorem dX3_countOffers_28 : decode cX3_countOffers 28 = .ok (.ireturn, 1) := by decide +kernel
theorem dX3_prefers_0 : decode cX3_prefers 0 = .ok (.iconst 0, 1) := by decide +kernel
theorem dX3_prefers_1 : decode cX3_prefers 1 = .ok (.istore_n 2, 1) := by decide +kernel
theorem dX3_prefers_2 : decode cX3_prefers 2 = .ok (.iload_n 2, 1) := by decide +kernel
theorem dX3_prefers_3 : decode cX3_prefers 3 = .ok (.aload_n 0, 1) := by decide +kernel
theorem dX3_prefers_4 : decode cX3_prefers 4 = .ok (.getfield 29, 3) := by decide +kernel
theorem dX3_prefers_7 : decode cX3_prefers 7 = .ok (.if_icmp .ge 21, 3) := by decide +kernel
theorem dX3_prefers_10 : decode cX3_prefers 10 = .ok (.aload_n 0, 1) := by decide +kernel
theorem dX3_prefers_11 : decode cX3_prefers 11 = .ok (.getfield 26, 3) := by decide +kernel
theorem dX3_prefers_14 : decode cX3_prefers 14 = .ok (.iload_n 2, 1) := by decide +kernel
theorem dX3_prefers_15 : decode cX3_prefers 15 = .ok (.iaload, 1) := by decide +kernel
theorem dX3_prefers_16 : decode cX3_prefers 16 = .ok (.iload_n 1, 1) := by decide +kernel
theorem dX3_prefers_17 : decode cX3_prefers 17 = .ok (.if_icmp .ne 5, 3) := by decide +kernel
theorem dX3_prefers_20 : decode cX3_prefers 20 = .ok (.iconst 1, 1) := by decide +kernel
theorem dX3_prefers_21 : decode cX3_prefers 21 = .ok (.ireturn, 1) := by decide +kernel
theorem dX3_prefers_22 : decode cX3_prefers 22 = .ok (.iinc 2 1, 3) := by decide +kernel
theorem dX3_prefers_25 : decode cX3_prefers 25 = .ok (.goto (-23), 3) := by decide +kernel
theorem dX3_prefers_28 : decode cX3_prefers 28 = .ok (.iconst 0, 1) := by decide +kernel
theorem dX3_prefers_29 : decode cX3_prefers 29 = .ok (.ireturn, 1) := by decide +kernel
theorem dX3_addPreference_0 : decode cX3_addPreference 0 = .ok (.aload_n 0, 1) := by decide +kernel
theorem dX3_addPreference_1 : decode cX3_addPreference 1 = .ok (.getfield 29, 3) := by decide +kernel
theorem dX3_addPreference_4 : decode cX3_addPreference 4 = .ok (.bipush 8, 2) := by decide +kernel
theorem dX3_addPreference_6 : decode cX3_addPreference 6 = .ok (.if_icmp .ge 23, 3) := by decide +kernel
theorem dX3_addPreference_9 : decode cX3_addPreference 9 = .ok (.aload_n 0, 1) := by decide +kernel
theorem dX3_addPreference_10 : decode cX3_addPreference 10 = .ok (.getfield 26, 3) := by decide +kernel
theorem dX3_addPreference_13 : decode cX3_addPreference 13 = .ok (.aload_n 0, 1) := by decide +kernel
theorem dX3_addPreference_14 : decode cX3_addPreference 14 = .ok (.getfield 29, 3) := by decide +kernel
theorem dX3_addPreference_17 : decode cX3_addPreference 17 = .ok (.iload_n 1, 1) := by decide +kernel
theorem dX3_addPreference_18 : decode cX3_addPreference 18 = .ok (.iastore, 1) := by decide +kernel
theorem dX3_addPreference_19 : decode cX3_addPreference 19 = .ok (.aload_n 0, 1) := by decide +kernel
theorem dX3_addPreference_20 : decode cX3_addPreference 20 = .ok (.dup, 1) := by decide +kernel
theorem dX3_addPreference_21 : decode cX3_addPreference 21 = .ok (.getfield 29, 3) := by decide +kernel
theorem dX3_addPreference_24 : decode cX3_addPreference 24 = .ok (.iconst 1, 1) := by decide +kernel
theorem dX3_addPreference_25 : decode cX3_addPreference 25 = .ok (.iadd, 1) := by decide +kernel
theorem dX3_addPreference_26 : decode cX3_addPreference 26 = .ok (.putfield 29, 3) := by decide +kernel
theorem dX3_addPreference_29 : decode cX3_addPreference 29 = .ok (.return_, 1) := by decide +kernel
end
section
theorem dX7_init_0 : decode cX7_init 0 = .ok (.aload_n 0, 1) := by decide +kernel
theorem dX7_init_1 : decode cX7_init 1 = .ok (.invokespecial 1, 3) := by decide +kernel
theorem dX7_init_4 : decode cX7_init 4 = .ok (.aload_n 0, 1) := by decide +kernel
theorem dX7_init_5 : decode cX7_init 5 = .ok (.bipush 11, 2) := by decide +kernel
theorem dX7_init_7 : decode cX7_init 7 = .ok (.newarray .int, 2) := by decide +kernel
theorem dX7_init_9 : decode cX7_init 9 = .ok (.putfield 9, 3) := by decide +kernel
theorem dX7_init_12 : decode cX7_init 12 = .ok (.aload_n 0, 1) := by decide +kernel
theorem dX7_init_13 : decode cX7_init 13 = .ok (.aload_n 1, 1) := by decide +kernel
theorem dX7_init_14 : decode cX7_init 14 = .ok (.putfield 13, 3) := by decide +kernel
theorem dX7_init_17 : decode cX7_init 17 = .ok (.return_, 1) := by decide +kernel
theorem dX7_valueOf_0 : decode cX7_valueOf 0 = .ok (.iconst 0, 1) := by decide +kernel
theorem dX7_valueOf_1 : decode cX7_valueOf 1 = .ok (.istore 5, 2) := by decide +kernel
theorem dX7_valueOf_3 : decode cX7_valueOf 3 = .ok (.iconst 0, 1) := by decide +kernel
theorem dX7_valueOf_4 : decode cX7_valueOf 4 = .ok (.istore 6, 2) := by decide +kernel
theorem dX7_valueOf_6 : decode cX7_valueOf 6 = .ok (.iload 6, 2) := by decide +kernel
theorem dX7_valueOf_8 : decode cX7_valueOf 8 = .ok (.aload_n 0, 1) := by decide +kernel
theorem dX7_valueOf_9 : decode cX7_valueOf 9 = .ok (.getfield 13, 3) := by decide +kernel
theorem dX7_valueOf_12 : decode cX7_valueOf 12 = .ok (.arraylength, 1) := by decide +kernel
theorem dX7_valueOf_13 : decode cX7_valueOf 13 = .ok (.if_icmp .ge 96, 3) := by decide +kernel
theorem dX7_valueOf_16 : decode cX7_valueOf 16 = .ok (.aload_n 0, 1) := by decide +kernel
theorem dX7_valueOf_17 : decode cX7_valueOf 17 = .ok (.getfield 13, 3) := by decide +kernel
theorem dX7_valueOf_20 : decode cX7_valueOf 20 = .ok (.iload 6, 2) := by decide +kernel
theorem dX7_valueOf_22 : decode cX7_valueOf 22 = .ok (.iaload, 1) := by decide +kernel
theorem dX7_valueOf_23 : decode cX7_valueOf 23 = .ok (.istore 7, 2) := by decide +kernel
theorem dX7_valueOf_25 : decode cX7_valueOf 25 = .ok (.iload 7, 2) := by decide +kernel
theorem dX7_valueOf_27 : decode cX7_valueOf 27 = .ok (.bipush (-5), 2) := by decide +kernel
theorem dX7_valueOf_29 : decode cX7_valueOf 29 = .ok (.if_icmp .gt 47, 3) := by decide +kernel
theorem dX7_valueOf_32 : decode cX7_valueOf 32 = .ok (.iload 5, 2) := by decide +kernel
theorem dX7_valueOf_34 : decode cX7_valueOf 34 = .ok (.iconst 2, 1) := by decide +kernel
theorem dX7_valueOf_35 : decode cX7_valueOf 35 = .ok (.if_icmp .lt 68, 3) := by decide +kernel
theorem dX7_valueOf_38 : decode cX7_valueOf 38 = .ok (.iinc 5 (-1), 3) := by decide +kernel
theorem dX7_valueOf_41 : decode cX7_valueOf 41 = .ok (.aload_n 0, 1) := by decide +kernel
theorem dX7_valueOf_42 : decode cX7_valueOf 42 = .ok (.getfield 9, 3) := by decide +kernel
theorem dX7_valueOf_45 : decode cX7_valueOf 45 = .ok (.iload 5, 2) := by decide +kernel
theorem dX7_valueOf_47 : decode cX7_valueOf 47 = .ok (.iconst 1, 1) := by decide +kernel
theorem dX7_valueOf_48 : decode cX7_valueOf 48 = .ok (.isub, 1) := by decide +kernel
theorem dX7_valueOf_49 : decode cX7_valueOf 49 = .ok (.iload 7, 2) := by decide +kernel
theorem dX7_valueOf_51 : decode cX7_valueOf 51 = .ok (.aload_n 0, 1) := by decide +kernel
theorem dX7_valueOf_52 : decode cX7_valueOf 52 = .ok (.getfield 9, 3) := by decide +kernel
theorem dX7_valueOf_55 : decode cX7_valueOf 55 = .ok (.iload 5, 2) := by decide +kernel
theorem dX7_valueOf_57 : decode cX7_valueOf 57 = .ok (.iconst 1, 1) := by decide +kernel
theorem dX7_valueOf_58 : decode cX7_valueOf 58 = .ok (.isub, 1) := by decide +kernel
theorem dX7_valueOf_59 : decode cX7_valueOf 59 = .ok (.iaload, 1) := by decide +kernel
theorem dX7_valueOf_60 : decode cX7_valueOf 60 = .ok (.i2l, 1) := by decide +kernel
theorem dX7_valueOf_61 : decode cX7_valueOf 61 = .ok (.aload_n 0, 1) := by decide +kernel
theorem dX7_valueOf_62 : decode cX7_valueOf 62 = .ok (.getfield 9, 3) := by decide +kernel
theorem dX7_valueOf_65 : decode cX7_valueOf 65 = .ok (.iload 5, 2) := by decide +kernel
theorem dX7_valueOf_67 : decode cX7_valueOf 67 = .ok (.iaload, 1) := by decide +kernel
theorem dX7_valueOf_68 : decode cX7_valueOf 68 = .ok (.i2l, 1) := by decide +kernel
theorem dX7_valueOf_69 : decode cX7_valueOf 69 = .ok (.invokestatic 16, 3) := by decide +kernel
theorem dX7_valueOf_72 : decode cX7_valueOf 72 = .ok (.iastore, 1) := by decide +kernel
theorem dX7_valueOf_73 : decode cX7_valueOf 73 = .ok (.goto 30, 3) := by decide +kernel
theorem dX7_valueOf_76 : decode cX7_valueOf 76 = .ok (.iload 5, 2) := by decide +kernel
theorem dX7_valueOf_78 : decode cX7_valueOf 78 = .ok (.bipush 11, 2) := by decide +kernel
theorem dX7_valueOf_80 : decode cX7_valueOf 80 = .ok (.if_icmp .ge 23, 3) := by decide +kernel
theorem dX7_valueOf_83 : decode cX7_valueOf 83 = .ok (.aload_n 0, 1) := by decide +kernel
theorem dX7_valueOf_84 : decode cX7_valueOf 84 = .ok (.getfield 9, 3) := by decide +kernel
theorem dX7_valueOf_87 : decode cX7_valueOf 87 = .ok (.iload 5, 2) := by decide +kernel
theorem dX7_valueOf_89 : decode cX7_valueOf 89 = .ok (.iload 7, 2) := by decide +kernel
theorem dX7_valueOf_91 : decode cX7_valueOf 91 = .ok (.iload_n 1, 1) := by decide +kernel
theorem dX7_valueOf_92 : decode cX7_valueOf 92 = .ok (.iload_n 2, 1) := by decide +kernel
theorem dX7_valueOf_93 : decode cX7_valueOf 93 = .ok (.iload_n 3, 1) := by decide +kernel
theorem dX7_valueOf_94 : decode cX7_valueOf 94 = .ok (.iload 4, 2) := by decide +kernel
theorem dX7_valueOf_96 : decode cX7_valueOf 96 = .ok (.invokestatic 20, 3) := by decide +kernel
theorem dX7_valueOf_99 : decode cX7_valueOf 99 = .ok (.iastore, 1) := by decide +kernel
theorem dX7_valueOf_100 : decode cX7_valueOf 100 = .ok (.iinc 5 1, 3) := by decide +kernel
theorem dX7_valueOf_103 : decode cX7_valueOf 103 = .ok (.iinc 6 1, 3) := by decide +kernel
theorem dX7_valueOf_106 : decode cX7_valueOf 106 = .ok (.goto (-100), 3) := by decide +kernel
theorem dX7_valueOf_109 : decode cX7_valueOf 109 = .ok (.aload_n 0, 1) := by decide +kernel
theorem dX7_valueOf_110 : decode cX7_valueOf 110 = .ok (.getfield 9, 3) := by decide +kernel
theorem dX7_valueOf_113 : decode cX7_valueOf 113 = .ok (.iconst 0, 1) := by decide +kernel
theorem dX7_valueOf_114 : decode cX7_valueOf 114 = .ok (.iaload, 1) := by decide +kernel
theorem dX7_valueOf_115 : decode cX7_valueOf 115 = .ok (.i2l, 1) := by decide +kernel
theorem dX7_valueOf_116 : decode cX7_valueOf 116 = .ok (.iconst 0, 1) := by decide +kernel
theorem dX7_valueOf_117 : decode cX7_valueOf 117 = .ok (.sipush 9999, 3) := by decide +kernel
theorem dX7_valueOf_120 : decode cX7_valueOf 120 = .ok (.invokestatic 24, 3) := by decide +kernel
theorem dX7_valueOf_123 : decode cX7_valueOf 123 = .ok (.ireturn, 1) := by decide +kernel
theorem dX7_factorValue_0 : decode cX7_factorValue 0 = .ok (.iload_n 0, 1) := by decide +kernel
theorem dX7_factorValue_1 : decode cX7_factorValue 1 = .ok (.tableswitch 40 (-4) (-1) #[37, 35, 33, 31], 31) := by decide +kernel
theorem dX7_factorValue_32 : decode cX7_factorValue 32 = .ok (.iload_n 1, 1) := by decide +kernel
theorem dX7_factorValue_33 : decode cX7_factorValue 33 = .ok (.ireturn, 1) := by decide +kernel
theorem dX7_factorValue_34 : decode cX7_factorValue 34 = .ok (.iload_n 2, 1) := by decide +kernel
theorem dX7_factorValue_35 : decode cX7_factorValue 35 = .ok (.ireturn, 1) := by decide +kernel
theorem dX7_factorValue_36 : decode cX7_factorValue 36 = .ok (.iload_n 3, 1) := by decide +kernel
theorem dX7_factorValue_37 : decode cX7_factorValue 37 = .ok (.ireturn, 1) := by decide +kernel
theorem dX7_factorValue_38 : decode cX7_factorValue 38 = .ok (.iload 4, 2) := by decide +kernel
theorem dX7_factorValue_40 : decode cX7_factorValue 40 = .ok (.ireturn, 1) := by decide +kernel
theorem dX7_factorValue_41 : decode cX7_factorValue 41 = .ok (.iload_n 0, 1) := by decide +kernel
theorem dX7_factorValue_42 : decode cX7_factorValue 42 = .ok (.ireturn, 1) := by decide +kernel
theorem dX7_operate_0 : decode cX7_operate 0 = .ok (.iload_n 0, 1) := by decide +kernel
theorem dX7_operate_1 : decode cX7_operate 1 = .ok (.tableswitch 51 (-7) (-5) #[43, 35, 27], 27) := by decide +kernel
theorem dX7_operate_28 : decode cX7_operate 28 = .ok (.lload_n 1, 1) := by decide +kernel
theorem dX7_operate_29 : decode cX7_operate 29 = .ok (.lload_n 3, 1) := by decide +kernel
theorem dX7_operate_30 : decode cX7_operate 30 = .ok (.ladd, 1) := by decide +kernel
theorem dX7_operate_31 : decode cX7_operate 31 = .ok (.lstore 5, 2) := by decide +kernel
theorem dX7_operate_33 : decode cX7_operate 33 = .ok (.goto 34, 3) := by decide +kernel
theorem dX7_operate_36 : decode cX7_operate 36 = .ok (.lload_n 1, 1) := by decide +kernel
theorem dX7_operate_37 : decode cX7_operate 37 = .ok (.lload_n 3, 1) := by decide +kernel
theorem dX7_operate_38 : decode cX7_operate 38 = .ok (.lsub, 1) := by decide +kernel
theorem dX7_operate_39 : decode cX7_operate 39 = .ok (.lstore 5, 2) := by decide +kernel
theorem dX7_operate_41 : decode cX7_operate 41 = .ok (.goto 26, 3) := by decide +kernel
theorem dX7_operate_44 : decode cX7_operate 44 = .ok (.lload_n 1, 1) := by decide +kernel
theorem dX7_operate_45 : decode cX7_operate 45 = .ok (.lload_n 3, 1) := by decide +kernel
theorem dX7_operate_46 : decode cX7_operate 46 = .ok (.lmul, 1) := by decide +kernel
theorem dX7_operate_47 : decode cX7_operate 47 = .ok (.lstore 5, 2) := by decide +kernel
theorem dX7_operate_49 : decode cX7_operate 49 = .ok (.goto 18, 3) := by decide +kernel
theorem dX7_operate_52 : decode cX7_operate 52 = .ok (.lload_n 3, 1) := by decide +kernel
theorem dX7_operate_53 : decode cX7_operate 53 = .ok (.lconst 0, 1) := by decide +kernel
theorem dX7_operate_54 : decode cX7_operate 54 = .ok (.lcmp, 1) := by decide +kernel
theorem dX7_operate_55 : decode cX7_operate 55 = .ok (.ifCond .ne 7, 3) := by decide +kernel
theorem dX7_operate_58 : decode cX7_operate 58 = .ok (.lconst 0, 1) := by decide +kernel
theorem dX7_operate_59 : decode cX7_operate 59 = .ok (.goto 6, 3) := by decide +kernel
theorem dX7_operate_62 : decode cX7_operate 62 = .ok (.lload_n 1, 1) := by decide +kernel
theorem dX7_operate_63 : decode cX7_operate 63 = .ok (.lload_n 3, 1) := by decide +kernel
theorem dX7_operate_64 : decode cX7_operate 64 = .ok (.ldiv, 1) := by decide +kernel
theorem dX7_operate_65 : decode cX7_operate 65 = .ok (.lstore 5, 2) := by decide +kernel
theorem dX7_operate_67 : decode cX7_operate 67 = .ok (.lload 5, 2) := by decide +kernel
theorem dX7_operate_69 : decode cX7_operate 69 = .ok (.ldc 28, 2) := by decide +kernel
theorem dX7_operate_71 : decode cX7_operate 71 = .ok (.ldc 29, 2) := by decide +kernel
theorem dX7_operate_73 : decode cX7_operate 73 = .ok (.invokestatic 24, 3) := by decide +kernel
theorem dX7_operate_76 : decode cX7_operate 76 = .ok (.ireturn, 1) := by decide +kernel
theorem dX7_limited_0 : decode cX7_limited 0 = .ok (.iload_n 2, 1) := by decide +kernel
theorem dX7_limited_1 : decode cX7_limited 1 = .ok (.i2l, 1) := by decide +kernel
theorem dX7_limited_2 : decode cX7_limited 2 = .ok (.iload_n 3, 1) := by decide +kernel
theorem dX7_limited_3 : decode cX7_limited 3 = .ok (.i2l, 1) := by decide +kernel
theorem dX7_limited_4 : decode cX7_limited 4 = .ok (.lload_n 0, 1) := by decide +kernel
theorem dX7_limited_5 : decode cX7_limited 5 = .ok (.invokestatic 30, 3) := by decide +kernel
theorem dX7_limited_8 : decode cX7_limited 8 = .ok (.invokestatic 36, 3) := by decide +kernel
theorem dX7_limited_11 : decode cX7_limited 11 = .ok (.l2i, 1) := by decide +kernel
theorem dX7_limited_12 : decode cX7_limited 12 = .ok (.ireturn, 1) := by decide +kernel
end
section
/-! THE ABSTRACT MEMORY. Objects and arrays have numbers (an abstract address); T lists their shapes (kind, length): kinds 0..9 objects of vwCl, 10 byte[], 11 int[], 12 long[], 13 Data[], 14 Library[], 15 int[][]; M holds numbers, longs and references by address and place. -/
abbrev gT : Type := List (Nat × Nat)
abbrev gM : Type := (Nat → Nat → Int32) × (Nat → Nat → Int64) × (Nat → Nat → Option Nat)
def gu {α : Type} (f : Nat → Nat → α) (a k : Nat) (v : α) : Nat → Nat → α := fun b j => if b = a ∧ j = k then v else f b j
def gi (M : gM) (a k : Nat) : Int32 := M.1 a k
def gl (M : gM) (a k : Nat) : Int64 := M.2.1 a k
def gr (M : gM) (a k : Nat) : Option Nat := M.2.2 a k
def si (M : gM) (a k : Nat) (v : Int32) : gM := (gu M.1 a k v, M.2.1, M.2.2)
def sl (M : gM) (a k : Nat) (v : Int64) : gM := (M.1, gu M.2.1 a k v, M.2.2)
def sr (M : gM) (a k : Nat) (v : Option Nat) : gM := (M.1, M.2.1, gu M.2.2 a k v)
/-- a fresh thing at a: all 0 -/
def zr (M : gM) (a : Nat) : gM := (fun b j => if b = a then 0 else M.1 b j, fun b j => if b = a then 0 else M.2.1 b j, fun b j => if b = a then none else M.2.2 b j)
/-- arraycopy of numbers from src to dst -/
def cpi (M : gM) (src sp dst dp n : Nat) : gM := (fun b j => if b = dst ∧ dp ≤ j ∧ j < dp + n then M.1 src (sp + (j - dp)) else M.1 b j, M.2.1, M.2.2)
theorem gi_si (M : gM) (a k : Nat) (v : Int32) (b j : Nat) : gi (si M a k v) b j = if b = a ∧ j = k then v else gi M b j := rfl
theorem gi_sl (M : gM) (a k : Nat) (v : Int64) (b j : Nat) : gi (sl M a k v) b j = gi M b j := rfl
theorem gi_sr (M : gM) (a k : Nat) (v : Option Nat) (b j : Nat) : gi (sr M a k v) b j = gi M b j := rfl
theorem gl_si (M : gM) (a k : Nat) (v : Int32) (b j : Nat) : gl (si M a k v) b j = gl M b j := rfl
theorem gl_sl (M : gM) (a k : Nat) (v : Int64) (b j : Nat) : gl (sl M a k v) b j = if b = a ∧ j = k then v else gl M b j := rfl
theorem gl_sr (M : gM) (a k : Nat) (v : Option Nat) (b j : Nat) : gl (sr M a k v) b j = gl M b j := rfl
theorem gr_si (M : gM) (a k : Nat) (v : Int32) (b j : Nat) : gr (si M a k v) b j = gr M b j := rfl
theorem gr_sl (M : gM) (a k : Nat) (v : Int64) (b j : Nat) : gr (sl M a k v) b j = gr M b j := rfl
theorem gr_sr (M : gM) (a k : Nat) (v : Option Nat) (b j : Nat) : gr (sr M a k v) b j = if b = a ∧ j = k then v else gr M b j := rfl
theorem gi_zr (M : gM) (a b j : Nat) : gi (zr M a) b j = if b = a then 0 else gi M b j := rfl
theorem gl_zr (M : gM) (a b j : Nat) : gl (zr M a) b j = if b = a then 0 else gl M b j := rfl
theorem gr_zr (M : gM) (a b j : Nat) : gr (zr M a) b j = if b = a then none else gr M b j := rfl
theorem gi_cpi (M : gM) (s p d q n b j : Nat) : gi (cpi M s p d q n) b j = if b = d ∧ q ≤ j ∧ j < q + n then gi M s (p + (j - q)) else gi M b j := rfl
theorem gl_cpi (M : gM) (s p d q n b j : Nat) : gl (cpi M s p d q n) b j = gl M b j := rfl
theorem gr_cpi (M : gM) (s p d q n b j : Nat) : gr (cpi M s p d q n) b j = gr M b j := rfl
/-- the kinds of a class's fields: 0 a number, 1 a long, 2 a reference -/
def gK (c : Nat) : List Nat := match c with
  | 0 => [2, 0, 0, 0, 2]
  | 1 => [2, 2, 2, 2, 2, 2, 2]
  | 2 => [2, 0, 0]
  | 3 => [0, 0, 0, 2, 2, 0]
  | 4 => [2, 0, 0]
  | 5 => [2, 2, 2, 2, 2, 0, 0, 0, 0, 0, 0]
  | 6 => [2, 0, 0, 0, 0, 1, 0, 0]
  | 7 => [2, 2]
  | 8 => [2, 0, 0, 2, 2, 2, 2, 2, 2]
  | _ => [0, 2, 0, 0, 0, 0, 0, 0, 2, 2, 2, 0, 0, 0, 0, 2, 2, 0, 2, 2, 2, 2, 2, 2, 2, 2, 0]
def gv (ad : Nat → Nat) (v : Value) : Value := match v with
  | .ref a => .ref (ad a)
  | w => w
theorem gv_cat (ad : Nat → Nat) (v : Value) : (gv ad v).category = v.category := by cases v <;> rfl
def gfv (M : gM) (ad : Nat → Nat) (a k kd : Nat) : Value := if kd = 0 then .int (gi M a k) else if kd = 1 then .long (gl M a k) else va_rf ((gr M a k).map ad)
def gE (dA : Nat → ClassId) (ad : Nat → Nat) (M : gM) (a : Nat) (sh : Nat × Nat) : va_E :=
  if sh.1 < 10 then .inr (sh.1, (gK sh.1).mapIdx (gfv M ad a))
  else if sh.1 < 12 then .inl (dA sh.1, sh.2, .inl (fun j => gi M a j))
  else if sh.1 = 12 then .inl (dA sh.1, sh.2, .inr (.inl (fun j => gl M a j)))
  else .inl (dA sh.1, sh.2, .inr (.inr (.inr (.inr (fun j => (gr M a j).map ad)))))
def gW (dA : Nat → ClassId) (ad : Nat → Nat) (T : gT) (M : gM) : va_W := T.mapIdx (fun a sh => (ad a, gE dA ad M a sh))
def gTy (dA : Nat → ClassId) : List (ClassId × FieldType) := [(dA 10, .byte), (dA 11, .int), (dA 12, .long), (dA 13, .object RX0), (dA 14, .object RX3), (dA 15, .array .int)]
theorem gW_get {dA : Nat → ClassId} {ad : Nat → Nat} {T : gT} {M : gM} {a : Nat} {sh : Nat × Nat} (h : T[a]? = some sh) : (gW dA ad T M)[a]? = some (ad a, gE dA ad M a sh) := by
  unfold gW
  rw [List.getElem?_mapIdx, h]
  rfl
theorem gW_len {dA : Nat → ClassId} {ad : Nat → Nat} {T : gT} {M : gM} : (gW dA ad T M).length = T.length := by simp [gW]
theorem gW_inv {dA : Nat → ClassId} {ad : Nat → Nat} {T : gT} {M : gM} {k : Nat} {q : Nat × va_E} (h : (gW dA ad T M)[k]? = some q) : ∃ sh, T[k]? = some sh ∧ q = (ad k, gE dA ad M k sh) := by
  unfold gW at h
  rw [List.getElem?_mapIdx] at h
  cases hk : T[k]? with
  | none => rw [hk] at h; cases h
  | some sh => rw [hk] at h; exact ⟨sh, rfl, (Option.some.inj h).symm⟩
/-- the world with one cell written is the world of the written memory -/
theorem gW_set {dA : Nat → ClassId} {ad : Nat → Nat} {T : gT} {M M' : gM} {a : Nat} {sh : Nat × Nat} {e : va_E} (h : T[a]? = some sh) (he : gE dA ad M' a sh = e) (hne : ∀ b sh', b ≠ a → gE dA ad M' b sh' = gE dA ad M b sh') : (gW dA ad T M).set a (ad a, e) = gW dA ad T M' := by
  apply List.ext_getElem?
  intro k
  by_cases hk : k = a
  · subst hk
    rw [List.getElem?_set_self (by rw [gW_len]; exact (List.getElem?_eq_some_iff.mp h).1), gW_get h, he]
  · rw [List.getElem?_set_ne (Ne.symm hk)]
    unfold gW
    rw [List.getElem?_mapIdx, List.getElem?_mapIdx]
    cases T[k]? with
    | none => rfl
    | some sh' => simp only [Option.map_some, hne k sh' hk]
theorem gE_ext {dA : Nat → ClassId} {ad : Nat → Nat} {M M' : gM} {a : Nat} {sh : Nat × Nat} (h1 : ∀ j, gi M' a j = gi M a j) (h2 : ∀ j, gl M' a j = gl M a j) (h3 : ∀ j, gr M' a j = gr M a j) : gE dA ad M' a sh = gE dA ad M a sh := by
  have e0 : gfv M' ad a = gfv M ad a := by
    funext k kd
    simp only [gfv, h1, h2, h3]
  simp only [gE, e0, h1, h2, h3]
theorem gE_si {dA : Nat → ClassId} {ad : Nat → Nat} {M : gM} {a k : Nat} {v : Int32} : ∀ b sh', b ≠ a → gE dA ad (si M a k v) b sh' = gE dA ad M b sh' := fun b sh' hb => gE_ext (fun j => by rw [gi_si, if_neg (fun q => hb q.1)]) (fun j => rfl) (fun j => rfl)
theorem gE_sl {dA : Nat → ClassId} {ad : Nat → Nat} {M : gM} {a k : Nat} {v : Int64} : ∀ b sh', b ≠ a → gE dA ad (sl M a k v) b sh' = gE dA ad M b sh' := fun b sh' hb => gE_ext (fun j => rfl) (fun j => by rw [gl_sl, if_neg (fun q => hb q.1)]) (fun j => rfl)
theorem gE_sr {dA : Nat → ClassId} {ad : Nat → Nat} {M : gM} {a k : Nat} {v : Option Nat} : ∀ b sh', b ≠ a → gE dA ad (sr M a k v) b sh' = gE dA ad M b sh' := fun b sh' hb => gE_ext (fun j => rfl) (fun j => rfl) (fun j => by rw [gr_sr, if_neg (fun q => hb q.1)])
theorem gE_cpi {dA : Nat → ClassId} {ad : Nat → Nat} {M : gM} {s p d q n : Nat} : ∀ b sh', b ≠ d → gE dA ad (cpi M s p d q n) b sh' = gE dA ad M b sh' := fun b sh' hb => gE_ext (fun j => by rw [gi_cpi, if_neg (fun z => hb z.1)]) (fun j => rfl) (fun j => rfl)
theorem gfs_get {M : gM} {ad : Nat → Nat} {a k c kd : Nat} (h : (gK c)[k]? = some kd) : ((gK c).mapIdx (gfv M ad a))[k]? = some (gfv M ad a k kd) := by
  rw [List.getElem?_mapIdx, h]; rfl
theorem gfs_set {M M' : gM} {ad : Nat → Nat} {a k c kd : Nat} {v : Value} (h : (gK c)[k]? = some kd) (hv : gfv M' ad a k kd = v) (hne : ∀ j kd', j ≠ k → gfv M' ad a j kd' = gfv M ad a j kd') : (gK c).mapIdx (gfv M' ad a) = ((gK c).mapIdx (gfv M ad a)).set k v := by
  apply List.ext_getElem?
  intro j
  by_cases hj : j = k
  · subst hj
    rw [List.getElem?_set_self (by rw [List.length_mapIdx]; exact (List.getElem?_eq_some_iff.mp h).1), List.getElem?_mapIdx, h]
    simp only [Option.map_some, hv]
  · rw [List.getElem?_set_ne (Ne.symm hj), List.getElem?_mapIdx, List.getElem?_mapIdx]
    cases (gK c)[j]? with
    | none => rfl
    | some kd' => simp only [Option.map_some, hne j kd' hj]
theorem gfv_si {M : gM} {ad : Nat → Nat} {a k : Nat} {v : Int32} : ∀ j kd', j ≠ k → gfv (si M a k v) ad a j kd' = gfv M ad a j kd' := fun j kd' hj => by
  simp only [gfv, gi_si, gl_si, gr_si, true_and, if_neg hj]
theorem gfv_sl {M : gM} {ad : Nat → Nat} {a k : Nat} {v : Int64} : ∀ j kd', j ≠ k → gfv (sl M a k v) ad a j kd' = gfv M ad a j kd' := fun j kd' hj => by
  simp only [gfv, gi_sl, gl_sl, gr_sl, true_and, if_neg hj]
theorem gfv_sr {M : gM} {ad : Nat → Nat} {a k : Nat} {v : Option Nat} : ∀ j kd', j ≠ k → gfv (sr M a k v) ad a j kd' = gfv M ad a j kd' := fun j kd' hj => by
  simp only [gfv, gi_sr, gl_sr, gr_sr, true_and, if_neg hj]
/-- every reference held is to a thing that is there -/
def gCl (T : gT) (M : gM) : Prop := ∀ a k b : Nat, gr M a k = some b → b < T.length
theorem gCl_si {T : gT} {M : gM} {a k : Nat} {v : Int32} (h : gCl T M) : gCl T (si M a k v) := h
theorem gCl_sl {T : gT} {M : gM} {a k : Nat} {v : Int64} (h : gCl T M) : gCl T (sl M a k v) := h
theorem gCl_cpi {T : gT} {M : gM} {s p d q n : Nat} (h : gCl T M) : gCl T (cpi M s p d q n) := h
theorem gCl_sr {T : gT} {M : gM} {a k b : Nat} (h : gCl T M) (hb : b < T.length) : gCl T (sr M a k (some b)) := fun a' k' b' e => by
  rw [gr_sr] at e
  split at e
  · cases e; exact hb
  · exact h a' k' b' e
theorem gCl_zr {T : gT} {M : gM} {a : Nat} {sh : Nat × Nat} (h : gCl T M) : gCl (T ++ [sh]) (zr M a) := fun a' k' b' e => by
  rw [gr_zr] at e
  split at e
  · cases e
  · have := h a' k' b' e
    rw [List.length_append]
    omega
/-- the strings: abstract addresses from gSB on; what they spell -/
def gSB : Nat := 1000000
def gStrs : List (List Nat) := ["link".toList.map Char.toNat, "name".toList.map Char.toNat, "library".toList.map Char.toNat, "offer".toList.map Char.toNat, "prefer".toList.map Char.toNat, "share".toList.map Char.toNat, "weight".toList.map Char.toNat, "keeps".toList.map Char.toNat, "to".toList.map Char.toNat, "trust".toList.map Char.toNat, "rank".toList.map Char.toNat, "offers".toList.map Char.toNat, "friends".toList.map Char.toNat]
/-! THE JUDGEMENT. K: what the machine's frame owes at a place, by heap, written places, cells, slots, pc, locals and stack. -/
abbrev gZ : Type := (Heap → List Loc → Nat → Nat → Nat → Array Slot → List Value → Prop) × (Nat → Prop) × Heap × va_G × (Nat → ClassId) × Nat × (Nat → Nat)
def gmp (ad : Nat → Nat) (ls : List (Nat × Value)) : List (Nat × Value) := ls.map (fun q => (q.1, gv ad q.2))
def gRp (Z : gZ) (ad : Nat → Nat) (T : gT) (M : gM) (H : Heap) (locs : List Loc) : Prop := va_P Z.2.2.2.1 vwCl (gW Z.2.2.2.2.1 ad T M) H ∧ va_D Z.2.1 (gW Z.2.2.2.2.1 ad T M) ∧ va_S Z.2.1 Z.2.2.1 H locs ∧ gCl T M ∧ ∀ a : Nat, gSB ≤ a → ad a = Z.2.2.2.2.2.2 a
def gG (Z : gZ) (ad : Nat → Nat) (T : gT) (M : gM) (ce so pc : Nat) (ls : List (Nat × Value)) (st : List Value) : Prop :=
  ∀ (H : Heap) (locs : List Loc) (la : Array Slot), gRp Z ad T M H locs → lv_has la Z.2.2.2.2.2.1 (gmp ad ls) → Z.1 H locs ce so pc la (st.map (gv ad))
theorem gl_at {la : Array Slot} {nL : Nat} {ad : Nat → Nat} {ls : List (Nat × Value)} (h : lv_has la nL (gmp ad ls)) (j : Nat) {i : Nat} {v : Value} (hj : ls[j]? = some (i, v)) : la[i]? = some (.val (gv ad v)) := lv_at h j (by rw [gmp, List.getElem?_map, hj]; rfl)
theorem gl_st1 {ad : Nat → Nat} {i : Nat} {v : Value} {ls ls' : List (Nat × Value)} (h : (i, v) :: ls.filter (fun q => !(q.1 == i) && !(q.1 + 1 == i && q.2.category == 2)) = ls') : (i, gv ad v) :: (gmp ad ls).filter (fun q => !(q.1 == i) && !(q.1 + 1 == i && q.2.category == 2)) = gmp ad ls' := by
  subst h
  simp only [gmp, List.filter_map, List.map_cons]
  congr 2
  apply List.filter_congr
  intro x _
  simp only [Function.comp, gv_cat]
theorem gl_st2 {ad : Nat → Nat} {i : Nat} {v : Value} {ls ls' : List (Nat × Value)} (h : (i, v) :: ls.filter (fun q => !(q.1 == i) && (!(q.1 == i + 1) && !(q.1 + 1 == i && q.2.category == 2))) = ls') : (i, gv ad v) :: (gmp ad ls).filter (fun q => !(q.1 == i) && (!(q.1 == i + 1) && !(q.1 + 1 == i && q.2.category == 2))) = gmp ad ls' := by
  subst h
  simp only [gmp, List.filter_map, List.map_cons]
  congr 2
  apply List.filter_congr
  intro x _
  simp only [Function.comp, gv_cat]
theorem gG_sub {Z : gZ} {ad : Nat → Nat} {T : gT} {M : gM} {ce so pc : Nat} {ls ls' : List (Nat × Value)} {st : List Value} (ks : List Nat) (h : lv_pick ls ks = ls') (k : gG Z ad T M ce so pc ls' st) : gG Z ad T M ce so pc ls st := by
  intro H locs la hR hl
  refine k H locs la hR (lv_sub hl ks ?_)
  subst h
  unfold lv_pick gmp
  rw [List.map_filterMap]
  congr 1
  funext x
  rw [List.getElem?_map]
/-- the words of the nest mates, which aren't passed by the lists -/
def gNb (w : Cond) : Bool := match w with
  | .fieldLinkNest .. => true
  | .methodLinkNest .. => true
  | .declares _ => true
  | .castable _ _ => true
  | _ => false
def gNw : List Cond := lw_tbl.filter gNb
/-- the class of int[][] is there -/
def va_AO2 (U : State) : Prop := ∃ (comp c : ClassId) (k : Class), U.vm.findClass (FieldType.array .int).toString = some comp ∧ (U.vm.classes.findIdx? fun (x : Class) => match x.kind with | .array component _ => component == comp | _ => false) = some c ∧ U.vm.classes[c]? = some k ∧ k.kind = .array comp (.array .int) ∧ U.vm.findClass ("[" ++ (FieldType.array .int).toString) = some c
theorem va_AO2.moved {u U : State} (hvm : u.vm.Alike U.vm) (h : va_AO2 u) : va_AO2 U := by
  obtain ⟨comp, c, k, h1, h2, h3, h4, h5⟩ := h
  obtain ⟨k', hk', he⟩ := hvm.2.2 _ _ h3
  refine ⟨comp, c, k', by rw [hvm.findClass]; exact h1, ?_, hk', by rw [he]; exact h4, by rw [hvm.findClass]; exact h5⟩
  have e1 := va_idx_bare U.vm comp
  rw [hvm.bare_eq] at e1
  exact (e1.symm.trans (va_idx_bare u.vm comp)).trans h2
/-- the String constants by class and entry: what they spell, and their abstract addresses -/
def gLit : List (String × Nat × String × Nat) := [("LinkElection", 234, "there is no such library", gSB + 13), ("LinkElection", 129, "what is not 0 to 5", gSB + 14), ("LinkElection", 237, "there is no such name", gSB + 15), ("LinkElection", 65, "length is not within the buffer", gSB + 16), ("LinkElection$SetupReader", 69, "link", gSB + 0), ("LinkElection$SetupReader", 99, "name", gSB + 1), ("LinkElection$SetupReader", 107, "library", gSB + 2), ("LinkElection$SetupReader", 164, "keeps", gSB + 7), ("LinkElection$SetupReader", 112, "offer", gSB + 3), ("LinkElection$SetupReader", 180, "to", gSB + 8), ("LinkElection$SetupReader", 117, "prefer", gSB + 4), ("LinkElection$SetupReader", 122, "share", gSB + 5), ("LinkElection$SetupReader", 127, "weight", gSB + 6), ("LinkElection$SetupReader", 206, "trust", gSB + 9), ("LinkElection$SetupReader", 208, "rank", gSB + 10), ("LinkElection$SetupReader", 210, "offers", gSB + 11), ("LinkElection$SetupReader", 211, "friends", gSB + 12), ("LinkElection", 175, "the library is not loaded", gSB + 17), ("LinkElection", 184, "the library is loaded", gSB + 18), ("LinkElection", 193, "value is not 0 to 9999", gSB + 19), ("LinkElection", 203, "the library does not offer this name", gSB + 20), ("LinkElection", 205, "trust is not 0 to 999", gSB + 21), ("LinkElection", 207, "share is not 0 to 100", gSB + 22), ("LinkElectionModel", 220, "link", gSB + 0), ("LinkElectionModel", 189, "name", gSB + 1), ("LinkElectionModel", 194, "library", gSB + 2), ("LinkElectionModel", 177, "keeps", gSB + 7), ("LinkElectionModel", 199, "offer", gSB + 3), ("LinkElectionModel", 183, "to", gSB + 8), ("LinkElectionModel", 204, "prefer", gSB + 4), ("LinkElectionModel", 209, "share", gSB + 5), ("LinkElectionModel", 214, "weight", gSB + 6), ("LinkElectionModel", 128, "trust", gSB + 9), ("LinkElectionModel", 134, "rank", gSB + 10), ("LinkElectionModel", 136, "offers", gSB + 11), ("LinkElectionModel", 138, "friends", gSB + 12)]
/-- the tables' words that a call hands on -/
def gWS : List Cond := lw_tbl.filter goodWord
theorem gws_of {w : Cond} (i : Nat) (h : lw_tbl[i]? = some w) (hg : goodWord w = true) : w ∈ gWS := List.mem_filter.mpr ⟨List.mem_of_getElem? h, hg⟩
theorem gnw_of {w : Cond} (i : Nat) (h : lw_tbl[i]? = some w) (hg : gNb w = true) : w ∈ gNw := List.mem_filter.mpr ⟨List.mem_of_getElem? h, hg⟩
/-- pairs of exceptions of which the first isn't the second -/
def gNcs : List (String × String) := [("java/lang/IllegalArgumentException", "java/lang/IndexOutOfBoundsException"), ("java/lang/IllegalStateException", "java/lang/IndexOutOfBoundsException")]
/-- what a method may take for granted of the machine's state, beside its memory -/
def gEnv (A : Nat → Prop) (adV ad : Nat → Nat) (U : State) (H : Heap) : Prop :=
  (∀ w ∈ gNw, va_Nw w U) ∧ (∀ q ∈ gLit, vk_R q.1 q.2.1 q.2.2.1 (ad q.2.2.2) U) ∧ vk_S 13 (gStrs.map List.length) (gStrs.map (fun l => l.map Int32.ofNat)) (fun i => ad (gSB + i)) adV A U H ∧
  vx_Zq Bundle.tN "UNASSIGNED_STACK" Bundle.steD A U H ∧ vx_Zq Bundle.tN "SUPPRESSED_SENTINEL" Bundle.listD A U H ∧ va_AO RX0 U ∧ va_AO RX3 U ∧ va_AO2 U ∧ (∀ q ∈ gNcs, va_Nc q.1 q.2 U) ∧
  va_Z "java/lang/String" "COMPACT_STRINGS" "Z" (.int 1) A U H ∧ (va_Z "jdk/internal/util/Preconditions" "SIOOBE_FORMATTER" "Ljava/util/function/BiFunction;" .null A U H ∨ va_Z "jdk/internal/util/Preconditions" "SIOOBE_FORMATTER" "Ljava/util/function/BiFunction;" (.ref (ad (gSB + 2000))) A U H) ∧ ∀ i : Nat, i < 13 → ad (gSB + 1000 + i) = adV i
end
section
/-! THE CONTEXT of a walk: what a method's frame stands on, hidden behind one word. -/
/-- the exceptions by number -/
def gExN (k : Nat) : String := match k with
  | 1 => "java/lang/IllegalArgumentException"
  | 2 => "java/lang/IndexOutOfBoundsException"
  | _ => "java/lang/IllegalStateException"
/-- the tables' words of a throw -/
def gThr (own : String) (ik ic k : Nat) : Prop := Cond.classLink own ik (gExN k) ∈ gWS ∧ Cond.initialized (gExN k) ∈ gWS ∧ (∀ w ∈ vx_atS own ic (gExN k) ["java/lang/RuntimeException", "java/lang/Exception"], w ∈ gWS ∨ w ∈ gNw) ∧ Bundle.fit (gExN k) = true
def gBase (Z : gZ) (cc : ByteArray) (own nm : String) (rt : Option FieldType) (d mc ms : Nat) (Acc : Option Value → (Nat → Nat) → gT → gM → Prop) (AccX : Nat → (Nat → Nat) → gT → gM → Prop) (p : Program) (l : Launch) (e : Env) (R : Room) (s : State) (m : MethodId) (args : Array Value) (below : List Frame) (meth : Method) (c : Code) (Q : State → Prop) (adV : Nat → Nat) : Prop :=
  Z.1 = (fun H locs ce so pc la st => W p l e R s m args below meth c H locs ce so Q (F0 m pc la st)) ∧ p.tables.exec = Jvm.exec ∧ c.code = cc ∧
  c.maxLocals = Z.2.2.2.2.2.1 ∧ s.vm.findClass own = some m.cls ∧ (∀ w ∈ gWS, w.before args s = true) ∧ va_K Z.2.2.2.1 vwCl (gTy Z.2.2.2.2.1) s ∧ Z.2.2.1 = s.heap ∧ (∀ q : Nat, s.heap.size ≤ q → Z.2.1 q) ∧ gEnv Z.2.1 adV Z.2.2.2.2.2.2 s s.heap ∧
  (d ≤ R.frames ∧ 64 * d ≤ R.locals ∧ mc ≤ R.cells ∧ ms ≤ R.slots) ∧ meth.name = nm ∧ meth.locks = false ∧ l.stackTraces = false ∧
  ((∀ (H : Heap) (locs : List Loc) (ce so pc : Nat) (la : Array Slot) (ad : Nat → Nat) (T : gT) (M : gM) (x : Int32) (ty : FieldType), gRp Z ad T M H locs → rt = some ty → narrow ty (.int x) = .int x → decode cc pc = .ok (.ireturn, 1) → Acc (some (.int x)) ad T M → ce ≤ mc → so ≤ ms → W p l e R s m args below meth c H locs ce so Q (F0 m pc la [.int x])) ∧
   (∀ (H : Heap) (locs : List Loc) (ce so pc : Nat) (la : Array Slot) (ad : Nat → Nat) (T : gT) (M : gM) (x : Int64), gRp Z ad T M H locs → rt = some .long → decode cc pc = .ok (.lreturn, 1) → Acc (some (.long x)) ad T M → ce ≤ mc → so ≤ ms → W p l e R s m args below meth c H locs ce so Q (F0 m pc la [.long x])) ∧
   (∀ (H : Heap) (locs : List Loc) (ce so pc : Nat) (la : Array Slot) (ad : Nat → Nat) (T : gT) (M : gM) (a : Nat) (ty : FieldType), gRp Z ad T M H locs → rt = some ty → ((∃ n, ty = .object n) ∨ ∃ t, ty = .array t) → decode cc pc = .ok (.areturn, 1) → Acc (some (.ref a)) ad T M → ce ≤ mc → so ≤ ms → W p l e R s m args below meth c H locs ce so Q (F0 m pc la [.ref (ad a)])) ∧
   (∀ (H : Heap) (locs : List Loc) (ce so pc : Nat) (la : Array Slot) (ad : Nat → Nat) (T : gT) (M : gM), gRp Z ad T M H locs → rt = none → decode cc pc = .ok (.return_, 1) → Acc none ad T M → ce ≤ mc → so ≤ ms → W p l e R s m args below meth c H locs ce so Q (F0 m pc la [])) ∧
   (∀ (H : Heap) (locs : List Loc) (ce so pc : Nat) (la : Array Slot) (rest : List Value) (ad : Nat → Nat) (T : gT) (M : gM) (k ik is ic : Nat) (text : String) (sa : Nat), gRp Z ad T M H locs → AccX k ad T M → la.size = c.maxLocals → gThr own ik ic k → vk_R own is text sa s → decode cc pc = .ok (.new ik, 3) → decode cc (pc + 3) = .ok (.dup, 1) → decode cc (pc + 4) = .ok (.ldc is, 2) → decode cc (pc + 6) = .ok (.invokespecial ic, 3) → decode cc (pc + 9) = .ok (.athrow, 1) → (rest.map fun v => v.category).sum ≤ 8 → 6 ≤ d → ce + 1 ≤ mc → so + 6 ≤ ms → W p l e R s m args below meth c H locs ce so Q (F0 m pc la rest)) ∧
   (∀ (H : Heap) (locs : List Loc) (ce so pc : Nat) (la : Array Slot) (rest : List Value) (ad : Nat → Nat) (T : gT) (M : gM) (k q : Nat) (cell : Cell), gRp Z ad T M H locs → AccX k ad T M → H[q]? = some cell → cell.vm = .none → s.vm.findClass (gExN k) = some cell.cls → ce ≤ mc → so ≤ ms → vx_W p l e R s m args below meth c H locs ce so Q (F0 m pc la rest) q))
def gFix (Z : gZ) (cc : ByteArray) (own nm : String) (rt : Option FieldType) (d mc ms : Nat) (Acc : Option Value → (Nat → Nat) → gT → gM → Prop) (AccX : Nat → (Nat → Nat) → gT → gM → Prop) : Prop :=
  ∃ (p : Program) (l : Launch) (e : Env) (R : Room) (s : State) (m : MethodId) (args : Array Value) (below : List Frame) (meth : Method) (c : Code) (Q : State → Prop) (adV : Nat → Nat), gBase Z cc own nm rt d mc ms Acc AccX p l e R s m args below meth c Q adV
section GR
variable {Z : gZ} {cc : ByteArray} {own nm : String} {rt : Option FieldType} {d mc ms : Nat} {Acc : Option Value → (Nat → Nat) → gT → gM → Prop} {AccX : Nat → (Nat → Nat) → gT → gM → Prop} {ad : Nat → Nat} {T : gT} {M : gM} {ce so pc : Nat} {ls ls' : List (Nat × Value)} {st : List Value}
theorem gG_wid {k n : Nat} (hF : gFix Z cc own nm rt d mc ms Acc AccX) (h1 : ce ≤ k) (h2 : so ≤ n) (kk : gG Z ad T M k n pc ls st) : gG Z ad T M ce so pc ls st := by
  obtain ⟨p, l, e, R, s, m, args, below, meth, c, Q, adV, hKq, -⟩ := hF
  intro H locs la hR hl
  have kk := kk H locs la hR hl
  rw [hKq] at kk ⊢
  exact W.widen h1 h2 kk
theorem g_iconst (hF : gFix Z cc own nm rt d mc ms Acc AccX) {n : Int} {v : Int32} (hv : Int32.ofInt n = v) (hd : decode cc pc = .ok (.iconst n, 1))
    (k : gG Z ad T M ce so (pc + 1) ls (.int v :: st)) : gG Z ad T M ce so pc ls (st) := by
  obtain ⟨p, l, e, R, s, m, args, below, meth, c, Q, adV, hKq, hx, hb, hml, hown, hts, hK, hH, hA, hE, hRm, hnm, hlk, -⟩ := hF
  intro H locs la hR hl
  have k := k H locs la hR hl
  rw [hKq] at k ⊢
  exact lv_iconst hx hb hd hv k
theorem g_bipush (hF : gFix Z cc own nm rt d mc ms Acc AccX) {n : Int} {v : Int32} (hv : (Int8.ofInt n).toInt32 = v) (hd : decode cc pc = .ok (.bipush n, 2))
    (k : gG Z ad T M ce so (pc + 2) ls (.int v :: st)) : gG Z ad T M ce so pc ls (st) := by
  obtain ⟨p, l, e, R, s, m, args, below, meth, c, Q, adV, hKq, hx, hb, hml, hown, hts, hK, hH, hA, hE, hRm, hnm, hlk, -⟩ := hF
  intro H locs la hR hl
  have k := k H locs la hR hl
  rw [hKq] at k ⊢
  exact lv_bipush hx hb hd hv k
theorem g_sipush (hF : gFix Z cc own nm rt d mc ms Acc AccX) {n : Int} {v : Int32} (hv : (Int16.ofInt n).toInt32 = v) (hd : decode cc pc = .ok (.sipush n, 3))
    (k : gG Z ad T M ce so (pc + 3) ls (.int v :: st)) : gG Z ad T M ce so pc ls (st) := by
  obtain ⟨p, l, e, R, s, m, args, below, meth, c, Q, adV, hKq, hx, hb, hml, hown, hts, hK, hH, hA, hE, hRm, hnm, hlk, -⟩ := hF
  intro H locs la hR hl
  have k := k H locs la hR hl
  rw [hKq] at k ⊢
  exact lv_sipush hx hb hd hv k
theorem g_lconst (hF : gFix Z cc own nm rt d mc ms Acc AccX) {n : Fin 2} {v : Int64} (hv : Int64.ofNat (n : Nat) = v) (hd : decode cc pc = .ok (.lconst n, 1))
    (k : gG Z ad T M ce so (pc + 1) ls (.long v :: st)) : gG Z ad T M ce so pc ls (st) := by
  obtain ⟨p, l, e, R, s, m, args, below, meth, c, Q, adV, hKq, hx, hb, hml, hown, hts, hK, hH, hA, hE, hRm, hnm, hlk, -⟩ := hF
  intro H locs la hR hl
  have k := k H locs la hR hl
  rw [hKq] at k ⊢
  exact lv_lconst hx hb hd hv k
theorem g_ldc (hF : gFix Z cc own nm rt d mc ms Acc AccX) {index : Nat} {v : Int32} (hw : Cond.constant own index v ∈ gWS) (hd : decode cc pc = .ok (.ldc index, 2))
    (k : gG Z ad T M ce so (pc + 2) ls (.int v :: st)) : gG Z ad T M ce so pc ls (st) := by
  obtain ⟨p, l, e, R, s, m, args, below, meth, c, Q, adV, hKq, hx, hb, hml, hown, hts, hK, hH, hA, hE, hRm, hnm, hlk, -⟩ := hF
  intro H locs la hR hl
  have k := k H locs la hR hl
  rw [hKq] at k ⊢
  exact lv_ldc hx hb hown (hts _ hw) hd k
theorem g_ldc2 (hF : gFix Z cc own nm rt d mc ms Acc AccX) {index : Nat} {v : Int64} (hw : Cond.constantLong own index v ∈ gWS) (hd : decode cc pc = .ok (.ldc2_w index, 3))
    (k : gG Z ad T M ce so (pc + 3) ls (.long v :: st)) : gG Z ad T M ce so pc ls (st) := by
  obtain ⟨p, l, e, R, s, m, args, below, meth, c, Q, adV, hKq, hx, hb, hml, hown, hts, hK, hH, hA, hE, hRm, hnm, hlk, -⟩ := hF
  intro H locs la hR hl
  have k := k H locs la hR hl
  rw [hKq] at k ⊢
  exact lv_ldc2 hx hb hown (hts _ hw) hd k
theorem g_iload_n (hF : gFix Z cc own nm rt d mc ms Acc AccX) {kf : Fin 4} {i : Nat} {x : Int32} (j : Nat) (hj : ls[j]? = some (i, .int x)) (hi : (kf : Nat) = i) (hd : decode cc pc = .ok (.iload_n kf, 1))
    (k : gG Z ad T M ce so (pc + 1) ls (.int x :: st)) : gG Z ad T M ce so pc ls (st) := by
  obtain ⟨p, l, e, R, s, m, args, below, meth, c, Q, adV, hKq, hx, hb, hml, hown, hts, hK, hH, hA, hE, hRm, hnm, hlk, -⟩ := hF
  intro H locs la hR hl
  have k := k H locs la hR hl
  rw [hKq] at k ⊢
  exact lv_iload_n hx hb hd hi (gl_at hl j hj) k
theorem g_iload (hF : gFix Z cc own nm rt d mc ms Acc AccX) {i : Nat} {x : Int32} (j : Nat) (hj : ls[j]? = some (i, .int x)) (hd : decode cc pc = .ok (.iload i, 2))
    (k : gG Z ad T M ce so (pc + 2) ls (.int x :: st)) : gG Z ad T M ce so pc ls (st) := by
  obtain ⟨p, l, e, R, s, m, args, below, meth, c, Q, adV, hKq, hx, hb, hml, hown, hts, hK, hH, hA, hE, hRm, hnm, hlk, -⟩ := hF
  intro H locs la hR hl
  have k := k H locs la hR hl
  rw [hKq] at k ⊢
  exact lv_iload hx hb hd (gl_at hl j hj) k
theorem g_lload_n (hF : gFix Z cc own nm rt d mc ms Acc AccX) {kf : Fin 4} {i : Nat} {x : Int64} (j : Nat) (hj : ls[j]? = some (i, .long x)) (hi : (kf : Nat) = i) (hd : decode cc pc = .ok (.lload_n kf, 1))
    (k : gG Z ad T M ce so (pc + 1) ls (.long x :: st)) : gG Z ad T M ce so pc ls (st) := by
  obtain ⟨p, l, e, R, s, m, args, below, meth, c, Q, adV, hKq, hx, hb, hml, hown, hts, hK, hH, hA, hE, hRm, hnm, hlk, -⟩ := hF
  intro H locs la hR hl
  have k := k H locs la hR hl
  rw [hKq] at k ⊢
  exact lv_lload_n hx hb hd hi (gl_at hl j hj) k
theorem g_lload (hF : gFix Z cc own nm rt d mc ms Acc AccX) {i : Nat} {x : Int64} (j : Nat) (hj : ls[j]? = some (i, .long x)) (hd : decode cc pc = .ok (.lload i, 2))
    (k : gG Z ad T M ce so (pc + 2) ls (.long x :: st)) : gG Z ad T M ce so pc ls (st) := by
  obtain ⟨p, l, e, R, s, m, args, below, meth, c, Q, adV, hKq, hx, hb, hml, hown, hts, hK, hH, hA, hE, hRm, hnm, hlk, -⟩ := hF
  intro H locs la hR hl
  have k := k H locs la hR hl
  rw [hKq] at k ⊢
  exact lv_lload hx hb hd (gl_at hl j hj) k
theorem g_aload_n (hF : gFix Z cc own nm rt d mc ms Acc AccX) {kf : Fin 4} {i : Nat} {x : Nat} (j : Nat) (hj : ls[j]? = some (i, .ref x)) (hi : (kf : Nat) = i) (hd : decode cc pc = .ok (.aload_n kf, 1))
    (k : gG Z ad T M ce so (pc + 1) ls (.ref x :: st)) : gG Z ad T M ce so pc ls (st) := by
  obtain ⟨p, l, e, R, s, m, args, below, meth, c, Q, adV, hKq, hx, hb, hml, hown, hts, hK, hH, hA, hE, hRm, hnm, hlk, -⟩ := hF
  intro H locs la hR hl
  have k := k H locs la hR hl
  rw [hKq] at k ⊢
  exact lv_aload_n hx hb hd hi (gl_at hl j hj) k
theorem g_aload (hF : gFix Z cc own nm rt d mc ms Acc AccX) {i : Nat} {x : Nat} (j : Nat) (hj : ls[j]? = some (i, .ref x)) (hd : decode cc pc = .ok (.aload i, 2))
    (k : gG Z ad T M ce so (pc + 2) ls (.ref x :: st)) : gG Z ad T M ce so pc ls (st) := by
  obtain ⟨p, l, e, R, s, m, args, below, meth, c, Q, adV, hKq, hx, hb, hml, hown, hts, hK, hH, hA, hE, hRm, hnm, hlk, -⟩ := hF
  intro H locs la hR hl
  have k := k H locs la hR hl
  rw [hKq] at k ⊢
  exact lv_aload hx hb hd (gl_at hl j hj) k
theorem g_istore_n (hF : gFix Z cc own nm rt d mc ms Acc AccX) {kf : Fin 4} {i : Nat} {x : Int32} (hi : (kf : Nat) = i) (hn : i < Z.2.2.2.2.2.1) (hs : (i, Value.int x) :: ls.filter (fun q => !(q.1 == i) && !(q.1 + 1 == i && q.2.category == 2)) = ls') (hd : decode cc pc = .ok (.istore_n kf, 1))
    (k : gG Z ad T M ce so (pc + 1) ls' st) : gG Z ad T M ce so pc ls (.int x :: st) := by
  obtain ⟨p, l, e, R, s, m, args, below, meth, c, Q, adV, hKq, hx, hb, hml, hown, hts, hK, hH, hA, hE, hRm, hnm, hlk, -⟩ := hF
  intro H locs la hR hl
  have k := fun la hl => k H locs la hR hl
  rw [hKq] at k ⊢
  exact lv_istore_n hx hb hd hi hl hn (gl_st1 (ad := ad) (v := .int x) hs) (fun la hl => k la hl)
theorem g_istore (hF : gFix Z cc own nm rt d mc ms Acc AccX) {i : Nat} {x : Int32} (hn : i < Z.2.2.2.2.2.1) (hs : (i, Value.int x) :: ls.filter (fun q => !(q.1 == i) && !(q.1 + 1 == i && q.2.category == 2)) = ls') (hd : decode cc pc = .ok (.istore i, 2))
    (k : gG Z ad T M ce so (pc + 2) ls' st) : gG Z ad T M ce so pc ls (.int x :: st) := by
  obtain ⟨p, l, e, R, s, m, args, below, meth, c, Q, adV, hKq, hx, hb, hml, hown, hts, hK, hH, hA, hE, hRm, hnm, hlk, -⟩ := hF
  intro H locs la hR hl
  have k := fun la hl => k H locs la hR hl
  rw [hKq] at k ⊢
  exact lv_istore hx hb hd hl hn (gl_st1 (ad := ad) (v := .int x) hs) (fun la hl => k la hl)
theorem g_lstore_n (hF : gFix Z cc own nm rt d mc ms Acc AccX) {kf : Fin 4} {i : Nat} {x : Int64} (hi : (kf : Nat) = i) (hn : i + 1 < Z.2.2.2.2.2.1) (hs : (i, Value.long x) :: ls.filter (fun q => !(q.1 == i) && (!(q.1 == i + 1) && !(q.1 + 1 == i && q.2.category == 2))) = ls') (hd : decode cc pc = .ok (.lstore_n kf, 1))
    (k : gG Z ad T M ce so (pc + 1) ls' st) : gG Z ad T M ce so pc ls (.long x :: st) := by
  obtain ⟨p, l, e, R, s, m, args, below, meth, c, Q, adV, hKq, hx, hb, hml, hown, hts, hK, hH, hA, hE, hRm, hnm, hlk, -⟩ := hF
  intro H locs la hR hl
  have k := fun la hl => k H locs la hR hl
  rw [hKq] at k ⊢
  exact lv_lstore_n hx hb hd hi hl hn (gl_st2 (ad := ad) (v := .long x) hs) (fun la hl => k la hl)
theorem g_lstore (hF : gFix Z cc own nm rt d mc ms Acc AccX) {i : Nat} {x : Int64} (hn : i + 1 < Z.2.2.2.2.2.1) (hs : (i, Value.long x) :: ls.filter (fun q => !(q.1 == i) && (!(q.1 == i + 1) && !(q.1 + 1 == i && q.2.category == 2))) = ls') (hd : decode cc pc = .ok (.lstore i, 2))
    (k : gG Z ad T M ce so (pc + 2) ls' st) : gG Z ad T M ce so pc ls (.long x :: st) := by
  obtain ⟨p, l, e, R, s, m, args, below, meth, c, Q, adV, hKq, hx, hb, hml, hown, hts, hK, hH, hA, hE, hRm, hnm, hlk, -⟩ := hF
  intro H locs la hR hl
  have k := fun la hl => k H locs la hR hl
  rw [hKq] at k ⊢
  exact lv_lstore hx hb hd hl hn (gl_st2 (ad := ad) (v := .long x) hs) (fun la hl => k la hl)
theorem g_astore_n (hF : gFix Z cc own nm rt d mc ms Acc AccX) {kf : Fin 4} {i : Nat} {x : Nat} (hi : (kf : Nat) = i) (hn : i < Z.2.2.2.2.2.1) (hs : (i, Value.ref x) :: ls.filter (fun q => !(q.1 == i) && !(q.1 + 1 == i && q.2.category == 2)) = ls') (hd : decode cc pc = .ok (.astore_n kf, 1))
    (k : gG Z ad T M ce so (pc + 1) ls' st) : gG Z ad T M ce so pc ls (.ref x :: st) := by
  obtain ⟨p, l, e, R, s, m, args, below, meth, c, Q, adV, hKq, hx, hb, hml, hown, hts, hK, hH, hA, hE, hRm, hnm, hlk, -⟩ := hF
  intro H locs la hR hl
  have k := fun la hl => k H locs la hR hl
  rw [hKq] at k ⊢
  exact lv_astore_n hx hb hd hi hl hn (gl_st1 (ad := ad) (v := .ref x) hs) (fun la hl => k la hl)
theorem g_astore (hF : gFix Z cc own nm rt d mc ms Acc AccX) {i : Nat} {x : Nat} (hn : i < Z.2.2.2.2.2.1) (hs : (i, Value.ref x) :: ls.filter (fun q => !(q.1 == i) && !(q.1 + 1 == i && q.2.category == 2)) = ls') (hd : decode cc pc = .ok (.astore i, 2))
    (k : gG Z ad T M ce so (pc + 2) ls' st) : gG Z ad T M ce so pc ls (.ref x :: st) := by
  obtain ⟨p, l, e, R, s, m, args, below, meth, c, Q, adV, hKq, hx, hb, hml, hown, hts, hK, hH, hA, hE, hRm, hnm, hlk, -⟩ := hF
  intro H locs la hR hl
  have k := fun la hl => k H locs la hR hl
  rw [hKq] at k ⊢
  exact lv_astore hx hb hd hl hn (gl_st1 (ad := ad) (v := .ref x) hs) (fun la hl => k la hl)
theorem g_iinc (hF : gFix Z cc own nm rt d mc ms Acc AccX) {i : Nat} {n : Int} {x v : Int32} (j : Nat) (hj : ls[j]? = some (i, .int x)) (hv : x + Int32.ofInt n = v) (hn : i < Z.2.2.2.2.2.1) (hs : (i, Value.int v) :: ls.filter (fun q => !(q.1 == i) && !(q.1 + 1 == i && q.2.category == 2)) = ls') (hd : decode cc pc = .ok (.iinc i n, 3))
    (k : gG Z ad T M ce so (pc + 3) ls' st) : gG Z ad T M ce so pc ls (st) := by
  obtain ⟨p, l, e, R, s, m, args, below, meth, c, Q, adV, hKq, hx, hb, hml, hown, hts, hK, hH, hA, hE, hRm, hnm, hlk, -⟩ := hF
  intro H locs la hR hl
  have k := fun la hl => k H locs la hR hl
  rw [hKq] at k ⊢
  exact lv_iinc (k := j) hx hb hd hl (by rw [gmp, List.getElem?_map, hj]; rfl) hv hn (gl_st1 (ad := ad) (v := .int v) hs) (fun la hl => k la hl)
theorem g_iadd (hF : gFix Z cc own nm rt d mc ms Acc AccX) {x y : Int32} (hd : decode cc pc = .ok (.iadd, 1))
    (k : gG Z ad T M ce so (pc + 1) ls (.int (x + y) :: st)) : gG Z ad T M ce so pc ls (.int y :: .int x :: st) := by
  obtain ⟨p, l, e, R, s, m, args, below, meth, c, Q, adV, hKq, hx, hb, hml, hown, hts, hK, hH, hA, hE, hRm, hnm, hlk, -⟩ := hF
  intro H locs la hR hl
  have k := k H locs la hR hl
  rw [hKq] at k ⊢
  exact lv_iadd hx hb hd k
theorem g_isub (hF : gFix Z cc own nm rt d mc ms Acc AccX) {x y : Int32} (hd : decode cc pc = .ok (.isub, 1))
    (k : gG Z ad T M ce so (pc + 1) ls (.int (x - y) :: st)) : gG Z ad T M ce so pc ls (.int y :: .int x :: st) := by
  obtain ⟨p, l, e, R, s, m, args, below, meth, c, Q, adV, hKq, hx, hb, hml, hown, hts, hK, hH, hA, hE, hRm, hnm, hlk, -⟩ := hF
  intro H locs la hR hl
  have k := k H locs la hR hl
  rw [hKq] at k ⊢
  exact lv_isub hx hb hd k
theorem g_imul (hF : gFix Z cc own nm rt d mc ms Acc AccX) {x y : Int32} (hd : decode cc pc = .ok (.imul, 1))
    (k : gG Z ad T M ce so (pc + 1) ls (.int (x * y) :: st)) : gG Z ad T M ce so pc ls (.int y :: .int x :: st) := by
  obtain ⟨p, l, e, R, s, m, args, below, meth, c, Q, adV, hKq, hx, hb, hml, hown, hts, hK, hH, hA, hE, hRm, hnm, hlk, -⟩ := hF
  intro H locs la hR hl
  have k := k H locs la hR hl
  rw [hKq] at k ⊢
  exact lv_imul hx hb hd k
theorem g_iand (hF : gFix Z cc own nm rt d mc ms Acc AccX) {x y : Int32} (hd : decode cc pc = .ok (.iand, 1))
    (k : gG Z ad T M ce so (pc + 1) ls (.int (x &&& y) :: st)) : gG Z ad T M ce so pc ls (.int y :: .int x :: st) := by
  obtain ⟨p, l, e, R, s, m, args, below, meth, c, Q, adV, hKq, hx, hb, hml, hown, hts, hK, hH, hA, hE, hRm, hnm, hlk, -⟩ := hF
  intro H locs la hR hl
  have k := k H locs la hR hl
  rw [hKq] at k ⊢
  exact lv_iand hx hb hd k
theorem g_ior (hF : gFix Z cc own nm rt d mc ms Acc AccX) {x y : Int32} (hd : decode cc pc = .ok (.ior, 1))
    (k : gG Z ad T M ce so (pc + 1) ls (.int (x ||| y) :: st)) : gG Z ad T M ce so pc ls (.int y :: .int x :: st) := by
  obtain ⟨p, l, e, R, s, m, args, below, meth, c, Q, adV, hKq, hx, hb, hml, hown, hts, hK, hH, hA, hE, hRm, hnm, hlk, -⟩ := hF
  intro H locs la hR hl
  have k := k H locs la hR hl
  rw [hKq] at k ⊢
  exact lv_ior hx hb hd k
theorem g_ixor (hF : gFix Z cc own nm rt d mc ms Acc AccX) {x y : Int32} (hd : decode cc pc = .ok (.ixor, 1))
    (k : gG Z ad T M ce so (pc + 1) ls (.int (x ^^^ y) :: st)) : gG Z ad T M ce so pc ls (.int y :: .int x :: st) := by
  obtain ⟨p, l, e, R, s, m, args, below, meth, c, Q, adV, hKq, hx, hb, hml, hown, hts, hK, hH, hA, hE, hRm, hnm, hlk, -⟩ := hF
  intro H locs la hR hl
  have k := k H locs la hR hl
  rw [hKq] at k ⊢
  exact lv_ixor hx hb hd k
theorem g_ishl (hF : gFix Z cc own nm rt d mc ms Acc AccX) {x y : Int32} (hd : decode cc pc = .ok (.ishl, 1))
    (k : gG Z ad T M ce so (pc + 1) ls (.int (x <<< (y &&& 31)) :: st)) : gG Z ad T M ce so pc ls (.int y :: .int x :: st) := by
  obtain ⟨p, l, e, R, s, m, args, below, meth, c, Q, adV, hKq, hx, hb, hml, hown, hts, hK, hH, hA, hE, hRm, hnm, hlk, -⟩ := hF
  intro H locs la hR hl
  have k := k H locs la hR hl
  rw [hKq] at k ⊢
  exact lv_ishl hx hb hd k
theorem g_ishr (hF : gFix Z cc own nm rt d mc ms Acc AccX) {x y : Int32} (hd : decode cc pc = .ok (.ishr, 1))
    (k : gG Z ad T M ce so (pc + 1) ls (.int (x >>> (y &&& 31)) :: st)) : gG Z ad T M ce so pc ls (.int y :: .int x :: st) := by
  obtain ⟨p, l, e, R, s, m, args, below, meth, c, Q, adV, hKq, hx, hb, hml, hown, hts, hK, hH, hA, hE, hRm, hnm, hlk, -⟩ := hF
  intro H locs la hR hl
  have k := k H locs la hR hl
  rw [hKq] at k ⊢
  exact lv_ishr hx hb hd k
theorem g_irem (hF : gFix Z cc own nm rt d mc ms Acc AccX) {x y : Int32} (hne : ¬ y = 0) (hd : decode cc pc = .ok (.irem, 1))
    (k : gG Z ad T M ce so (pc + 1) ls (.int (x - x / y * y) :: st)) : gG Z ad T M ce so pc ls (.int y :: .int x :: st) := by
  obtain ⟨p, l, e, R, s, m, args, below, meth, c, Q, adV, hKq, hx, hb, hml, hown, hts, hK, hH, hA, hE, hRm, hnm, hlk, -⟩ := hF
  intro H locs la hR hl
  have k := k H locs la hR hl
  rw [hKq] at k ⊢
  exact lv_irem hx hb hd hne k
theorem g_idiv (hF : gFix Z cc own nm rt d mc ms Acc AccX) {x y : Int32} (hne : ¬ y = 0) (hd : decode cc pc = .ok (.idiv, 1))
    (k : gG Z ad T M ce so (pc + 1) ls (.int (x / y) :: st)) : gG Z ad T M ce so pc ls (.int y :: .int x :: st) := by
  obtain ⟨p, l, e, R, s, m, args, below, meth, c, Q, adV, hKq, hx, hb, hml, hown, hts, hK, hH, hA, hE, hRm, hnm, hlk, -⟩ := hF
  intro H locs la hR hl
  have k := k H locs la hR hl
  rw [hKq] at k ⊢
  exact lv_idiv hx hb hd hne k
theorem g_ladd (hF : gFix Z cc own nm rt d mc ms Acc AccX) {x y : Int64} (hd : decode cc pc = .ok (.ladd, 1))
    (k : gG Z ad T M ce so (pc + 1) ls (.long (x + y) :: st)) : gG Z ad T M ce so pc ls (.long y :: .long x :: st) := by
  obtain ⟨p, l, e, R, s, m, args, below, meth, c, Q, adV, hKq, hx, hb, hml, hown, hts, hK, hH, hA, hE, hRm, hnm, hlk, -⟩ := hF
  intro H locs la hR hl
  have k := k H locs la hR hl
  rw [hKq] at k ⊢
  exact lv_ladd hx hb hd k
theorem g_lsub (hF : gFix Z cc own nm rt d mc ms Acc AccX) {x y : Int64} (hd : decode cc pc = .ok (.lsub, 1))
    (k : gG Z ad T M ce so (pc + 1) ls (.long (x - y) :: st)) : gG Z ad T M ce so pc ls (.long y :: .long x :: st) := by
  obtain ⟨p, l, e, R, s, m, args, below, meth, c, Q, adV, hKq, hx, hb, hml, hown, hts, hK, hH, hA, hE, hRm, hnm, hlk, -⟩ := hF
  intro H locs la hR hl
  have k := k H locs la hR hl
  rw [hKq] at k ⊢
  exact lv_lsub hx hb hd k
theorem g_lmul (hF : gFix Z cc own nm rt d mc ms Acc AccX) {x y : Int64} (hd : decode cc pc = .ok (.lmul, 1))
    (k : gG Z ad T M ce so (pc + 1) ls (.long (x * y) :: st)) : gG Z ad T M ce so pc ls (.long y :: .long x :: st) := by
  obtain ⟨p, l, e, R, s, m, args, below, meth, c, Q, adV, hKq, hx, hb, hml, hown, hts, hK, hH, hA, hE, hRm, hnm, hlk, -⟩ := hF
  intro H locs la hR hl
  have k := k H locs la hR hl
  rw [hKq] at k ⊢
  exact lv_lmul hx hb hd k
theorem g_land (hF : gFix Z cc own nm rt d mc ms Acc AccX) {x y : Int64} (hd : decode cc pc = .ok (.land, 1))
    (k : gG Z ad T M ce so (pc + 1) ls (.long (x &&& y) :: st)) : gG Z ad T M ce so pc ls (.long y :: .long x :: st) := by
  obtain ⟨p, l, e, R, s, m, args, below, meth, c, Q, adV, hKq, hx, hb, hml, hown, hts, hK, hH, hA, hE, hRm, hnm, hlk, -⟩ := hF
  intro H locs la hR hl
  have k := k H locs la hR hl
  rw [hKq] at k ⊢
  exact lv_land hx hb hd k
theorem g_lor (hF : gFix Z cc own nm rt d mc ms Acc AccX) {x y : Int64} (hd : decode cc pc = .ok (.lor, 1))
    (k : gG Z ad T M ce so (pc + 1) ls (.long (x ||| y) :: st)) : gG Z ad T M ce so pc ls (.long y :: .long x :: st) := by
  obtain ⟨p, l, e, R, s, m, args, below, meth, c, Q, adV, hKq, hx, hb, hml, hown, hts, hK, hH, hA, hE, hRm, hnm, hlk, -⟩ := hF
  intro H locs la hR hl
  have k := k H locs la hR hl
  rw [hKq] at k ⊢
  exact lv_lor hx hb hd k
theorem g_ldiv (hF : gFix Z cc own nm rt d mc ms Acc AccX) {x y : Int64} (hne : ¬ y = 0) (hd : decode cc pc = .ok (.ldiv, 1))
    (k : gG Z ad T M ce so (pc + 1) ls (.long (x / y) :: st)) : gG Z ad T M ce so pc ls (.long y :: .long x :: st) := by
  obtain ⟨p, l, e, R, s, m, args, below, meth, c, Q, adV, hKq, hx, hb, hml, hown, hts, hK, hH, hA, hE, hRm, hnm, hlk, -⟩ := hF
  intro H locs la hR hl
  have k := k H locs la hR hl
  rw [hKq] at k ⊢
  exact lv_ldiv hx hb hd hne k
theorem g_lshl (hF : gFix Z cc own nm rt d mc ms Acc AccX) {x : Int64} {y : Int32} (hd : decode cc pc = .ok (.lshl, 1))
    (k : gG Z ad T M ce so (pc + 1) ls (.long (x <<< (y.toInt64 &&& 63)) :: st)) : gG Z ad T M ce so pc ls (.int y :: .long x :: st) := by
  obtain ⟨p, l, e, R, s, m, args, below, meth, c, Q, adV, hKq, hx, hb, hml, hown, hts, hK, hH, hA, hE, hRm, hnm, hlk, -⟩ := hF
  intro H locs la hR hl
  have k := k H locs la hR hl
  rw [hKq] at k ⊢
  exact lv_lshl hx hb hd rfl k
theorem g_lcmp (hF : gFix Z cc own nm rt d mc ms Acc AccX) {x y : Int64} (hd : decode cc pc = .ok (.lcmp, 1))
    (k : gG Z ad T M ce so (pc + 1) ls (.int (lg_cmp x y) :: st)) : gG Z ad T M ce so pc ls (.long y :: .long x :: st) := by
  obtain ⟨p, l, e, R, s, m, args, below, meth, c, Q, adV, hKq, hx, hb, hml, hown, hts, hK, hH, hA, hE, hRm, hnm, hlk, -⟩ := hF
  intro H locs la hR hl
  have k := k H locs la hR hl
  rw [hKq] at k ⊢
  exact W.lcmp hx hb hd k
theorem g_i2l (hF : gFix Z cc own nm rt d mc ms Acc AccX) {x : Int32} (hd : decode cc pc = .ok (.i2l, 1))
    (k : gG Z ad T M ce so (pc + 1) ls (.long x.toInt64 :: st)) : gG Z ad T M ce so pc ls (.int x :: st) := by
  obtain ⟨p, l, e, R, s, m, args, below, meth, c, Q, adV, hKq, hx, hb, hml, hown, hts, hK, hH, hA, hE, hRm, hnm, hlk, -⟩ := hF
  intro H locs la hR hl
  have k := k H locs la hR hl
  rw [hKq] at k ⊢
  exact lv_i2l hx hb hd rfl k
theorem g_l2i (hF : gFix Z cc own nm rt d mc ms Acc AccX) {x : Int64} (hd : decode cc pc = .ok (.l2i, 1))
    (k : gG Z ad T M ce so (pc + 1) ls (.int x.toInt32 :: st)) : gG Z ad T M ce so pc ls (.long x :: st) := by
  obtain ⟨p, l, e, R, s, m, args, below, meth, c, Q, adV, hKq, hx, hb, hml, hown, hts, hK, hH, hA, hE, hRm, hnm, hlk, -⟩ := hF
  intro H locs la hR hl
  have k := k H locs la hR hl
  rw [hKq] at k ⊢
  exact lv_l2i hx hb hd rfl k
theorem g_i2b (hF : gFix Z cc own nm rt d mc ms Acc AccX) {x : Int32} (hd : decode cc pc = .ok (.i2b, 1))
    (k : gG Z ad T M ce so (pc + 1) ls (.int x.toInt8.toInt32 :: st)) : gG Z ad T M ce so pc ls (.int x :: st) := by
  obtain ⟨p, l, e, R, s, m, args, below, meth, c, Q, adV, hKq, hx, hb, hml, hown, hts, hK, hH, hA, hE, hRm, hnm, hlk, -⟩ := hF
  intro H locs la hR hl
  have k := k H locs la hR hl
  rw [hKq] at k ⊢
  exact lv_i2b hx hb hd rfl k
theorem g_dup (hF : gFix Z cc own nm rt d mc ms Acc AccX) {va : Value} (hc : va.category = 1) (hd : decode cc pc = .ok (.dup, 1))
    (k : gG Z ad T M ce so (pc + 1) ls (va :: va :: st)) : gG Z ad T M ce so pc ls (va :: st) := by
  obtain ⟨p, l, e, R, s, m, args, below, meth, c, Q, adV, hKq, hx, hb, hml, hown, hts, hK, hH, hA, hE, hRm, hnm, hlk, -⟩ := hF
  intro H locs la hR hl
  have k := k H locs la hR hl
  rw [hKq] at k ⊢
  exact lv_dup hx hb hd (by rw [gv_cat]; exact hc) k
theorem g_dup2 (hF : gFix Z cc own nm rt d mc ms Acc AccX) {va vb : Value} (hc : va.category = 1) (hc2 : vb.category = 1) (hd : decode cc pc = .ok (.dup2, 1))
    (k : gG Z ad T M ce so (pc + 1) ls (va :: vb :: va :: vb :: st)) : gG Z ad T M ce so pc ls (va :: vb :: st) := by
  obtain ⟨p, l, e, R, s, m, args, below, meth, c, Q, adV, hKq, hx, hb, hml, hown, hts, hK, hH, hA, hE, hRm, hnm, hlk, -⟩ := hF
  intro H locs la hR hl
  have k := k H locs la hR hl
  rw [hKq] at k ⊢
  exact lv_dup2_11 hx hb hd (by rw [gv_cat]; exact hc) (by rw [gv_cat]; exact hc2) k
theorem g_pop (hF : gFix Z cc own nm rt d mc ms Acc AccX) {va : Value} (hc : va.category = 1) (hd : decode cc pc = .ok (.pop, 1))
    (k : gG Z ad T M ce so (pc + 1) ls (st)) : gG Z ad T M ce so pc ls (va :: st) := by
  obtain ⟨p, l, e, R, s, m, args, below, meth, c, Q, adV, hKq, hx, hb, hml, hown, hts, hK, hH, hA, hE, hRm, hnm, hlk, -⟩ := hF
  intro H locs la hR hl
  have k := k H locs la hR hl
  rw [hKq] at k ⊢
  exact lv_pop hx hb hd (by rw [gv_cat]; exact hc) k
theorem g_if_eq (hF : gFix Z cc own nm rt d mc ms Acc AccX) {x : Int32} {off : Int} {tgt : Nat} (hd : decode cc pc = .ok (.ifCond .eq off, 3)) (ht : (pc : Int) + off = (tgt : Int))
    (kt : x = 0 → gG Z ad T M ce so tgt ls st) (kf : ¬ x = 0 → gG Z ad T M ce so (pc + 3) ls st) : gG Z ad T M ce so pc ls (.int x :: st) := by
  obtain ⟨p, l, e, R, s, m, args, below, meth, c, Q, adV, hKq, hx, hb, hml, hown, hts, hK, hH, hA, hE, hRm, hnm, hlk, -⟩ := hF
  intro H locs la hR hl
  have kt := fun q => kt q H locs la hR hl
  have kf := fun q => kf q H locs la hR hl
  rw [hKq] at kt kf ⊢
  exact lv_if_eq hx hb hd ht kt kf
theorem g_icmp_eq (hF : gFix Z cc own nm rt d mc ms Acc AccX) {x y : Int32} {off : Int} {tgt : Nat} (hd : decode cc pc = .ok (.if_icmp .eq off, 3)) (ht : (pc : Int) + off = (tgt : Int))
    (kt : x = y → gG Z ad T M ce so tgt ls st) (kf : ¬ x = y → gG Z ad T M ce so (pc + 3) ls st) : gG Z ad T M ce so pc ls (.int y :: .int x :: st) := by
  obtain ⟨p, l, e, R, s, m, args, below, meth, c, Q, adV, hKq, hx, hb, hml, hown, hts, hK, hH, hA, hE, hRm, hnm, hlk, -⟩ := hF
  intro H locs la hR hl
  have kt := fun q => kt q H locs la hR hl
  have kf := fun q => kf q H locs la hR hl
  rw [hKq] at kt kf ⊢
  exact lv_icmp_eq hx hb hd ht kt kf
theorem g_if_ne (hF : gFix Z cc own nm rt d mc ms Acc AccX) {x : Int32} {off : Int} {tgt : Nat} (hd : decode cc pc = .ok (.ifCond .ne off, 3)) (ht : (pc : Int) + off = (tgt : Int))
    (kt : ¬ x = 0 → gG Z ad T M ce so tgt ls st) (kf : x = 0 → gG Z ad T M ce so (pc + 3) ls st) : gG Z ad T M ce so pc ls (.int x :: st) := by
  obtain ⟨p, l, e, R, s, m, args, below, meth, c, Q, adV, hKq, hx, hb, hml, hown, hts, hK, hH, hA, hE, hRm, hnm, hlk, -⟩ := hF
  intro H locs la hR hl
  have kt := fun q => kt q H locs la hR hl
  have kf := fun q => kf q H locs la hR hl
  rw [hKq] at kt kf ⊢
  exact lv_if_ne hx hb hd ht kt kf
theorem g_icmp_ne (hF : gFix Z cc own nm rt d mc ms Acc AccX) {x y : Int32} {off : Int} {tgt : Nat} (hd : decode cc pc = .ok (.if_icmp .ne off, 3)) (ht : (pc : Int) + off = (tgt : Int))
    (kt : ¬ x = y → gG Z ad T M ce so tgt ls st) (kf : x = y → gG Z ad T M ce so (pc + 3) ls st) : gG Z ad T M ce so pc ls (.int y :: .int x :: st) := by
  obtain ⟨p, l, e, R, s, m, args, below, meth, c, Q, adV, hKq, hx, hb, hml, hown, hts, hK, hH, hA, hE, hRm, hnm, hlk, -⟩ := hF
  intro H locs la hR hl
  have kt := fun q => kt q H locs la hR hl
  have kf := fun q => kf q H locs la hR hl
  rw [hKq] at kt kf ⊢
  exact lv_icmp_ne hx hb hd ht kt kf
theorem g_if_lt (hF : gFix Z cc own nm rt d mc ms Acc AccX) {x : Int32} {off : Int} {tgt : Nat} (hd : decode cc pc = .ok (.ifCond .lt off, 3)) (ht : (pc : Int) + off = (tgt : Int))
    (kt : x < 0 → gG Z ad T M ce so tgt ls st) (kf : ¬ x < 0 → gG Z ad T M ce so (pc + 3) ls st) : gG Z ad T M ce so pc ls (.int x :: st) := by
  obtain ⟨p, l, e, R, s, m, args, below, meth, c, Q, adV, hKq, hx, hb, hml, hown, hts, hK, hH, hA, hE, hRm, hnm, hlk, -⟩ := hF
  intro H locs la hR hl
  have kt := fun q => kt q H locs la hR hl
  have kf := fun q => kf q H locs la hR hl
  rw [hKq] at kt kf ⊢
  exact lv_if_lt hx hb hd ht kt kf
theorem g_icmp_lt (hF : gFix Z cc own nm rt d mc ms Acc AccX) {x y : Int32} {off : Int} {tgt : Nat} (hd : decode cc pc = .ok (.if_icmp .lt off, 3)) (ht : (pc : Int) + off = (tgt : Int))
    (kt : x < y → gG Z ad T M ce so tgt ls st) (kf : ¬ x < y → gG Z ad T M ce so (pc + 3) ls st) : gG Z ad T M ce so pc ls (.int y :: .int x :: st) := by
  obtain ⟨p, l, e, R, s, m, args, below, meth, c, Q, adV, hKq, hx, hb, hml, hown, hts, hK, hH, hA, hE, hRm, hnm, hlk, -⟩ := hF
  intro H locs la hR hl
  have kt := fun q => kt q H locs la hR hl
  have kf := fun q => kf q H locs la hR hl
  rw [hKq] at kt kf ⊢
  exact lv_icmp_lt hx hb hd ht kt kf
theorem g_if_ge (hF : gFix Z cc own nm rt d mc ms Acc AccX) {x : Int32} {off : Int} {tgt : Nat} (hd : decode cc pc = .ok (.ifCond .ge off, 3)) (ht : (pc : Int) + off = (tgt : Int))
    (kt : 0 ≤ x → gG Z ad T M ce so tgt ls st) (kf : ¬ 0 ≤ x → gG Z ad T M ce so (pc + 3) ls st) : gG Z ad T M ce so pc ls (.int x :: st) := by
  obtain ⟨p, l, e, R, s, m, args, below, meth, c, Q, adV, hKq, hx, hb, hml, hown, hts, hK, hH, hA, hE, hRm, hnm, hlk, -⟩ := hF
  intro H locs la hR hl
  have kt := fun q => kt q H locs la hR hl
  have kf := fun q => kf q H locs la hR hl
  rw [hKq] at kt kf ⊢
  exact lv_if_ge hx hb hd ht kt kf
theorem g_icmp_ge (hF : gFix Z cc own nm rt d mc ms Acc AccX) {x y : Int32} {off : Int} {tgt : Nat} (hd : decode cc pc = .ok (.if_icmp .ge off, 3)) (ht : (pc : Int) + off = (tgt : Int))
    (kt : y ≤ x → gG Z ad T M ce so tgt ls st) (kf : ¬ y ≤ x → gG Z ad T M ce so (pc + 3) ls st) : gG Z ad T M ce so pc ls (.int y :: .int x :: st) := by
  obtain ⟨p, l, e, R, s, m, args, below, meth, c, Q, adV, hKq, hx, hb, hml, hown, hts, hK, hH, hA, hE, hRm, hnm, hlk, -⟩ := hF
  intro H locs la hR hl
  have kt := fun q => kt q H locs la hR hl
  have kf := fun q => kf q H locs la hR hl
  rw [hKq] at kt kf ⊢
  exact lv_icmp_ge hx hb hd ht kt kf
theorem g_if_gt (hF : gFix Z cc own nm rt d mc ms Acc AccX) {x : Int32} {off : Int} {tgt : Nat} (hd : decode cc pc = .ok (.ifCond .gt off, 3)) (ht : (pc : Int) + off = (tgt : Int))
    (kt : 0 < x → gG Z ad T M ce so tgt ls st) (kf : ¬ 0 < x → gG Z ad T M ce so (pc + 3) ls st) : gG Z ad T M ce so pc ls (.int x :: st) := by
  obtain ⟨p, l, e, R, s, m, args, below, meth, c, Q, adV, hKq, hx, hb, hml, hown, hts, hK, hH, hA, hE, hRm, hnm, hlk, -⟩ := hF
  intro H locs la hR hl
  have kt := fun q => kt q H locs la hR hl
  have kf := fun q => kf q H locs la hR hl
  rw [hKq] at kt kf ⊢
  exact lv_if_gt hx hb hd ht kt kf
theorem g_icmp_gt (hF : gFix Z cc own nm rt d mc ms Acc AccX) {x y : Int32} {off : Int} {tgt : Nat} (hd : decode cc pc = .ok (.if_icmp .gt off, 3)) (ht : (pc : Int) + off = (tgt : Int))
    (kt : y < x → gG Z ad T M ce so tgt ls st) (kf : ¬ y < x → gG Z ad T M ce so (pc + 3) ls st) : gG Z ad T M ce so pc ls (.int y :: .int x :: st) := by
  obtain ⟨p, l, e, R, s, m, args, below, meth, c, Q, adV, hKq, hx, hb, hml, hown, hts, hK, hH, hA, hE, hRm, hnm, hlk, -⟩ := hF
  intro H locs la hR hl
  have kt := fun q => kt q H locs la hR hl
  have kf := fun q => kf q H locs la hR hl
  rw [hKq] at kt kf ⊢
  exact lv_icmp_gt hx hb hd ht kt kf
theorem g_if_le (hF : gFix Z cc own nm rt d mc ms Acc AccX) {x : Int32} {off : Int} {tgt : Nat} (hd : decode cc pc = .ok (.ifCond .le off, 3)) (ht : (pc : Int) + off = (tgt : Int))
    (kt : x ≤ 0 → gG Z ad T M ce so tgt ls st) (kf : ¬ x ≤ 0 → gG Z ad T M ce so (pc + 3) ls st) : gG Z ad T M ce so pc ls (.int x :: st) := by
  obtain ⟨p, l, e, R, s, m, args, below, meth, c, Q, adV, hKq, hx, hb, hml, hown, hts, hK, hH, hA, hE, hRm, hnm, hlk, -⟩ := hF
  intro H locs la hR hl
  have kt := fun q => kt q H locs la hR hl
  have kf := fun q => kf q H locs la hR hl
  rw [hKq] at kt kf ⊢
  exact lv_if_le hx hb hd ht kt kf
theorem g_icmp_le (hF : gFix Z cc own nm rt d mc ms Acc AccX) {x y : Int32} {off : Int} {tgt : Nat} (hd : decode cc pc = .ok (.if_icmp .le off, 3)) (ht : (pc : Int) + off = (tgt : Int))
    (kt : x ≤ y → gG Z ad T M ce so tgt ls st) (kf : ¬ x ≤ y → gG Z ad T M ce so (pc + 3) ls st) : gG Z ad T M ce so pc ls (.int y :: .int x :: st) := by
  obtain ⟨p, l, e, R, s, m, args, below, meth, c, Q, adV, hKq, hx, hb, hml, hown, hts, hK, hH, hA, hE, hRm, hnm, hlk, -⟩ := hF
  intro H locs la hR hl
  have kt := fun q => kt q H locs la hR hl
  have kf := fun q => kf q H locs la hR hl
  rw [hKq] at kt kf ⊢
  exact lv_icmp_le hx hb hd ht kt kf
theorem g_goto (hF : gFix Z cc own nm rt d mc ms Acc AccX) {off : Int} {tgt : Nat} (hd : decode cc pc = .ok (.goto off, 3)) (ht : (pc : Int) + off = (tgt : Int))
    (k : gG Z ad T M ce so tgt ls st) : gG Z ad T M ce so pc ls st := by
  obtain ⟨p, l, e, R, s, m, args, below, meth, c, Q, adV, hKq, hx, hb, hml, hown, hts, hK, hH, hA, hE, hRm, hnm, hlk, -⟩ := hF
  intro H locs la hR hl
  have k := k H locs la hR hl
  rw [hKq] at k ⊢
  exact lv_goto hx hb hd ht k
theorem g_tabOut (hF : gFix Z cc own nm rt d mc ms Acc AccX) {dflt lo hi : Int} {offs : Array Int} {len : Nat} {x : Int32} {tgt : Nat} (hd : decode cc pc = .ok (.tableswitch dflt lo hi offs, len)) (h : x.toInt < lo ∨ hi < x.toInt) (ht : (pc : Int) + dflt = (tgt : Int))
    (k : gG Z ad T M ce so tgt ls st) : gG Z ad T M ce so pc ls (.int x :: st) := by
  obtain ⟨p, l, e, R, s, m, args, below, meth, c, Q, adV, hKq, hx, hb, hml, hown, hts, hK, hH, hA, hE, hRm, hnm, hlk, -⟩ := hF
  intro H locs la hR hl
  have k := k H locs la hR hl
  rw [hKq] at k ⊢
  exact lv_tableOut hx hb hd h ht k
theorem g_tabIn (hF : gFix Z cc own nm rt d mc ms Acc AccX) {dflt lo hi : Int} {offs : Array Int} {len : Nat} {x : Int32} {off : Int} {tgt : Nat} (hd : decode cc pc = .ok (.tableswitch dflt lo hi offs, len)) (h1 : ¬ x.toInt < lo) (h2 : ¬ hi < x.toInt) (ho : offs[(x.toInt - lo).toNat]? = some off) (ht : (pc : Int) + off = (tgt : Int))
    (k : gG Z ad T M ce so tgt ls st) : gG Z ad T M ce so pc ls (.int x :: st) := by
  obtain ⟨p, l, e, R, s, m, args, below, meth, c, Q, adV, hKq, hx, hb, hml, hown, hts, hK, hH, hA, hE, hRm, hnm, hlk, -⟩ := hF
  intro H locs la hR hl
  have k := k H locs la hR hl
  rw [hKq] at k ⊢
  exact lv_tableIn hx hb hd h1 h2 ho ht k
theorem g_ret_i (hF : gFix Z cc own nm rt d mc ms Acc AccX) {x : Int32} {ty : FieldType} (hrt : rt = some ty) (hn : narrow ty (.int x) = .int x) (hd : decode cc pc = .ok (.ireturn, 1)) (ha : Acc (some (.int x)) ad T M) (h1 : ce ≤ mc) (h2 : so ≤ ms) : gG Z ad T M ce so pc ls [.int x] := by
  obtain ⟨p, l, e, R, s, m, args, below, meth, c, Q, adV, hKq, hx, hb, hml, hown, hts, hK, hH, hA, hE, hRm, hnm, hlk, hst, r1, r2, r3, r4, r5, r6⟩ := hF
  intro H locs la hR hl
  rw [hKq]
  exact r1 H locs ce so pc la ad T M x ty hR hrt hn hd ha h1 h2
theorem g_ret_l (hF : gFix Z cc own nm rt d mc ms Acc AccX) {x : Int64} (hrt : rt = some .long) (hd : decode cc pc = .ok (.lreturn, 1)) (ha : Acc (some (.long x)) ad T M) (h1 : ce ≤ mc) (h2 : so ≤ ms) : gG Z ad T M ce so pc ls [.long x] := by
  obtain ⟨p, l, e, R, s, m, args, below, meth, c, Q, adV, hKq, hx, hb, hml, hown, hts, hK, hH, hA, hE, hRm, hnm, hlk, hst, r1, r2, r3, r4, r5, r6⟩ := hF
  intro H locs la hR hl
  rw [hKq]
  exact r2 H locs ce so pc la ad T M x hR hrt hd ha h1 h2
theorem g_ret_a (hF : gFix Z cc own nm rt d mc ms Acc AccX) {a : Nat} {ty : FieldType} (hrt : rt = some ty) (hty : ((∃ n, ty = .object n) ∨ ∃ t, ty = .array t)) (hd : decode cc pc = .ok (.areturn, 1)) (ha : Acc (some (.ref a)) ad T M) (h1 : ce ≤ mc) (h2 : so ≤ ms) : gG Z ad T M ce so pc ls [.ref a] := by
  obtain ⟨p, l, e, R, s, m, args, below, meth, c, Q, adV, hKq, hx, hb, hml, hown, hts, hK, hH, hA, hE, hRm, hnm, hlk, hst, r1, r2, r3, r4, r5, r6⟩ := hF
  intro H locs la hR hl
  rw [hKq]
  exact r3 H locs ce so pc la ad T M a ty hR hrt hty hd ha h1 h2
theorem g_ret_v (hF : gFix Z cc own nm rt d mc ms Acc AccX) (hrt : rt = none) (hd : decode cc pc = .ok (.return_, 1)) (ha : Acc none ad T M) (h1 : ce ≤ mc) (h2 : so ≤ ms) : gG Z ad T M ce so pc ls [] := by
  obtain ⟨p, l, e, R, s, m, args, below, meth, c, Q, adV, hKq, hx, hb, hml, hown, hts, hK, hH, hA, hE, hRm, hnm, hlk, hst, r1, r2, r3, r4, r5, r6⟩ := hF
  intro H locs la hR hl
  rw [hKq]
  exact r4 H locs ce so pc la ad T M hR hrt hd ha h1 h2
theorem g_ldcS (hF : gFix Z cc own nm rt d mc ms Acc AccX) {index a : Nat} {tx : String} (hw : (own, index, tx, a) ∈ gLit) (ha : gSB ≤ a) (hd : decode cc pc = .ok (.ldc index, 2))
    (k : gG Z ad T M ce so (pc + 2) ls (.ref a :: st)) : gG Z ad T M ce so pc ls st := by
  obtain ⟨p, l, e, R, s, m, args, below, meth, c, Q, adV, hKq, hx, hb, hml, hown, hts, hK, hH, hA, hE, hRm, hnm, hlk, -⟩ := hF
  intro H locs la hR hl
  have k := k H locs la hR hl
  rw [hKq] at k ⊢
  have h1 := hE.2.1 _ hw
  rw [← hR.2.2.2.2 a ha] at h1
  exact va_ldcS hx hb hown h1 hd k
end GR
end
section
/-! ROWS ON THE HEAP -/
def gC (c : Nat) (R : String) (TT : u_T) (N : Nat) (ty : Nat → FieldType) : Prop :=
  vwCl[c]? = some (R, TT, N) ∧ (∀ w ∈ u_ws R TT N, w ∈ gWS) ∧ (∀ k, k < N → parseFieldDescriptor (TT k).2.2.1 = some (ty k)) ∧ (∀ a, a < N → ∀ b, b < N → a ≠ b → (TT a).2.1 ≠ (TT b).2.1) ∧ N = (gK c).length ∧ c < 10 ∧ ∀ k, k < N → (TT k).1 = R
def gFl (own : String) (idx c k kd : Nat) (fin : Bool) (ft : FieldType) : Prop := ∃ (R : String) (TT : u_T) (N : Nat) (ty : Nat → FieldType), gC c R TT N ty ∧ (gK c)[k]? = some kd ∧ ty k = ft ∧ (TT k).2.2.2 = fin ∧ Cond.fieldLink own idx R (TT k).2.1 (TT k).2.2.1 ∈ gWS
def gFn (own : String) (idx c k kd : Nat) (fin : Bool) (ft : FieldType) : Prop := ∃ (R : String) (TT : u_T) (N : Nat) (ty : Nat → FieldType) (host : String), gC c R TT N ty ∧ (gK c)[k]? = some kd ∧ ty k = ft ∧ (TT k).2.2.2 = fin ∧ Cond.fieldLinkNest own idx R (TT k).2.1 (TT k).2.2.1 host ∈ gNw
theorem gE_obj {dA : Nat → ClassId} {ad : Nat → Nat} {M : gM} {a c len : Nat} (h : c < 10) : gE dA ad M a (c, len) = .inr (c, (gK c).mapIdx (gfv M ad a)) := if_pos h
theorem gE_i {dA : Nat → ClassId} {ad : Nat → Nat} {M : gM} {a len : Nat} : gE dA ad M a (11, len) = .inl (dA 11, len, .inl (fun j => gi M a j)) := rfl
theorem gE_b {dA : Nat → ClassId} {ad : Nat → Nat} {M : gM} {a len : Nat} : gE dA ad M a (10, len) = .inl (dA 10, len, .inl (fun j => gi M a j)) := rfl
theorem gE_l {dA : Nat → ClassId} {ad : Nat → Nat} {M : gM} {a len : Nat} : gE dA ad M a (12, len) = .inl (dA 12, len, .inr (.inl (fun j => gl M a j))) := rfl
theorem gE_q {dA : Nat → ClassId} {ad : Nat → Nat} {M : gM} {a c len : Nat} (h : 13 ≤ c) : gE dA ad M a (c, len) = .inl (dA c, len, .inr (.inr (.inr (.inr (fun j => (gr M a j).map ad))))) := by
  unfold gE
  rw [if_neg (by show ¬ c < 10; omega), if_neg (by show ¬ c < 12; omega), if_neg (by show ¬ c = 12; omega)]
theorem gRA_eq {U : State} {a b : ClassId} {ty : FieldType} (h1 : va_RA U a ty) (h2 : va_RA U b ty) : a = b := by
  cases ty with
  | object C =>
    obtain ⟨_, _, -, -, -, q1⟩ := h1
    obtain ⟨_, _, -, -, -, q2⟩ := h2
    exact Option.some.inj (q1.symm.trans q2)
  | _ => exact Option.some.inj (Eq.trans (Eq.symm h1) h2)
theorem gW_push {dA : Nat → ClassId} {ad : Nat → Nat} {T : gT} {M : gM} {sh : Nat × Nat} {q : Nat} {e : va_E} (hC : gCl T M) (he : gE dA (va_up ad T.length q) (zr M T.length) T.length sh = e) : gW dA ad T M ++ [(q, e)] = gW dA (va_up ad T.length q) (T ++ [sh]) (zr M T.length) := by
  apply List.ext_getElem?
  intro k
  unfold gW
  rw [List.getElem?_mapIdx]
  by_cases hk : k < T.length
  · rw [List.getElem?_append_left (by rw [List.length_mapIdx]; exact hk), List.getElem?_mapIdx, List.getElem?_append_left hk]
    cases T[k]? with
    | none => rfl
    | some sh' =>
      simp only [Option.map_some]
      have hk' : k ≠ T.length := by omega
      rw [va_up_ne _ _ hk']
      congr 2
      have e0 : gfv (zr M T.length) (va_up ad T.length q) k = gfv M ad k := by
        funext j kd
        simp only [gfv, gi_zr, gl_zr, gr_zr, if_neg hk']
        by_cases h0 : kd = 0
        · rw [if_pos h0, if_pos h0]
        rw [if_neg h0, if_neg h0]
        by_cases h1 : kd = 1
        · rw [if_pos h1, if_pos h1]
        rw [if_neg h1, if_neg h1]
        cases hg : gr M k j with
        | none => rfl
        | some b =>
          have hb := hC k j b hg
          simp only [Option.map_some, va_up_ne _ _ (show b ≠ T.length by omega)]
      have e1 : ∀ j, (gr (zr M T.length) k j).map (va_up ad T.length q) = (gr M k j).map ad := fun j => by
        rw [gr_zr, if_neg hk']
        cases hg : gr M k j with
        | none => rfl
        | some b =>
          have hb := hC k j b hg
          simp only [Option.map_some, va_up_ne _ _ (show b ≠ T.length by omega)]
      simp only [gE, e0, e1, gi_zr, gl_zr, if_neg hk']
  · rw [List.getElem?_append_right (by rw [List.length_mapIdx]; omega), List.getElem?_append_right (by omega), List.length_mapIdx]
    by_cases h0 : k = T.length
    · subst h0
      rw [Nat.sub_self]
      simp only [List.getElem?_cons_zero, Option.map_some, va_up_self, he]
    · rw [List.getElem?_eq_none (by simp only [List.length_cons, List.length_nil]; omega), List.getElem?_eq_none (by simp only [List.length_cons, List.length_nil]; omega)]
      rfl
section GH
variable {Z : gZ} {cc : ByteArray} {own nm : String} {rt : Option FieldType} {d mc ms : Nat} {Acc : Option Value → (Nat → Nat) → gT → gM → Prop} {AccX : Nat → (Nat → Nat) → gT → gM → Prop} {ad : Nat → Nat} {T : gT} {M : gM} {ce so pc : Nat} {ls : List (Nat × Value)} {st : List Value}
theorem g_get_i (hF : gFix Z cc own nm rt d mc ms Acc AccX) {idx c k a len : Nat} {fin : Bool} {ft : FieldType} (hf : gFl own idx c k 0 fin ft) (hT : T[a]? = some (c, len)) (hd : decode cc pc = .ok (.getfield idx, 3))
    (k' : gG Z ad T M ce so (pc + 3) ls (.int (gi M a k) :: st)) : gG Z ad T M ce so pc ls (.ref a :: st) := by
  obtain ⟨p, l, e, R, s, m, args, below, meth, cd, Q, adV, hKq, hx, hb, hml, hown, hts, hK, hH, hA, hE, hRm, hnm, hlk, -⟩ := hF
  intro H locs la hR hl
  have k' := k' H locs la hR hl
  rw [hKq] at k' ⊢
  obtain ⟨RR, TT, N, ty, ⟨c1, c2, c3, c4, c5, c6, c7⟩, hk, -, -, hw⟩ := hf
  have hkN : k < N := by rw [c5]; exact (List.getElem?_eq_some_iff.mp hk).1
  have he := gW_get (dA := Z.2.2.2.2.1) (ad := ad) (M := M) hT
  rw [gE_obj c6] at he
  exact va_get (v := .int (gi M a k)) hx hb hts c2 hown hK hR.1 a he c1 k hkN (hts _ hw) (by rw [c7 k hkN]; exact fun x hx => hx) (gfs_get hk) hd k'

theorem g_get_l (hF : gFix Z cc own nm rt d mc ms Acc AccX) {idx c k a len : Nat} {fin : Bool} {ft : FieldType} (hf : gFl own idx c k 1 fin ft) (hT : T[a]? = some (c, len)) (hd : decode cc pc = .ok (.getfield idx, 3))
    (k' : gG Z ad T M ce so (pc + 3) ls (.long (gl M a k) :: st)) : gG Z ad T M ce so pc ls (.ref a :: st) := by
  obtain ⟨p, l, e, R, s, m, args, below, meth, cd, Q, adV, hKq, hx, hb, hml, hown, hts, hK, hH, hA, hE, hRm, hnm, hlk, -⟩ := hF
  intro H locs la hR hl
  have k' := k' H locs la hR hl
  rw [hKq] at k' ⊢
  obtain ⟨RR, TT, N, ty, ⟨c1, c2, c3, c4, c5, c6, c7⟩, hk, -, -, hw⟩ := hf
  have hkN : k < N := by rw [c5]; exact (List.getElem?_eq_some_iff.mp hk).1
  have he := gW_get (dA := Z.2.2.2.2.1) (ad := ad) (M := M) hT
  rw [gE_obj c6] at he
  exact va_get (v := .long (gl M a k)) hx hb hts c2 hown hK hR.1 a he c1 k hkN (hts _ hw) (by rw [c7 k hkN]; exact fun x hx => hx) (gfs_get hk) hd k'

theorem g_get_r (hF : gFix Z cc own nm rt d mc ms Acc AccX) {idx c k a len : Nat} {fin : Bool} {ft : FieldType} {b : Nat} (hv : gr M a k = some b) (hf : gFl own idx c k 2 fin ft) (hT : T[a]? = some (c, len)) (hd : decode cc pc = .ok (.getfield idx, 3))
    (k' : gG Z ad T M ce so (pc + 3) ls (.ref b :: st)) : gG Z ad T M ce so pc ls (.ref a :: st) := by
  obtain ⟨p, l, e, R, s, m, args, below, meth, cd, Q, adV, hKq, hx, hb, hml, hown, hts, hK, hH, hA, hE, hRm, hnm, hlk, -⟩ := hF
  intro H locs la hR hl
  have k' := k' H locs la hR hl
  rw [hKq] at k' ⊢
  obtain ⟨RR, TT, N, ty, ⟨c1, c2, c3, c4, c5, c6, c7⟩, hk, -, -, hw⟩ := hf
  have hkN : k < N := by rw [c5]; exact (List.getElem?_eq_some_iff.mp hk).1
  have he := gW_get (dA := Z.2.2.2.2.1) (ad := ad) (M := M) hT
  rw [gE_obj c6] at he
  exact va_get (v := .ref (ad b)) hx hb hts c2 hown hK hR.1 a he c1 k hkN (hts _ hw) (by rw [c7 k hkN]; exact fun x hx => hx) (by rw [gfs_get hk]; simp only [gfv, hv]; rfl) hd k'

theorem g_get_iN (hF : gFix Z cc own nm rt d mc ms Acc AccX) {idx c k a len : Nat} {fin : Bool} {ft : FieldType} (hf : gFn own idx c k 0 fin ft) (hT : T[a]? = some (c, len)) (hd : decode cc pc = .ok (.getfield idx, 3))
    (k' : gG Z ad T M ce so (pc + 3) ls (.int (gi M a k) :: st)) : gG Z ad T M ce so pc ls (.ref a :: st) := by
  obtain ⟨p, l, e, R, s, m, args, below, meth, cd, Q, adV, hKq, hx, hb, hml, hown, hts, hK, hH, hA, hE, hRm, hnm, hlk, -⟩ := hF
  intro H locs la hR hl
  have k' := k' H locs la hR hl
  rw [hKq] at k' ⊢
  obtain ⟨RR, TT, N, ty, host, ⟨c1, c2, c3, c4, c5, c6, c7⟩, hk, -, -, hw⟩ := hf
  have hkN : k < N := by rw [c5]; exact (List.getElem?_eq_some_iff.mp hk).1
  have he := gW_get (dA := Z.2.2.2.2.1) (ad := ad) (M := M) hT
  rw [gE_obj c6] at he
  exact va_getN (v := .int (gi M a k)) hx hb hts c2 hown hK hR.1 a he c1 k hkN (va_Nw.use rfl (hE.1 _ hw)) (by rw [c7 k hkN]; exact fun x hx => hx) (gfs_get hk) hd k'

theorem g_get_lN (hF : gFix Z cc own nm rt d mc ms Acc AccX) {idx c k a len : Nat} {fin : Bool} {ft : FieldType} (hf : gFn own idx c k 1 fin ft) (hT : T[a]? = some (c, len)) (hd : decode cc pc = .ok (.getfield idx, 3))
    (k' : gG Z ad T M ce so (pc + 3) ls (.long (gl M a k) :: st)) : gG Z ad T M ce so pc ls (.ref a :: st) := by
  obtain ⟨p, l, e, R, s, m, args, below, meth, cd, Q, adV, hKq, hx, hb, hml, hown, hts, hK, hH, hA, hE, hRm, hnm, hlk, -⟩ := hF
  intro H locs la hR hl
  have k' := k' H locs la hR hl
  rw [hKq] at k' ⊢
  obtain ⟨RR, TT, N, ty, host, ⟨c1, c2, c3, c4, c5, c6, c7⟩, hk, -, -, hw⟩ := hf
  have hkN : k < N := by rw [c5]; exact (List.getElem?_eq_some_iff.mp hk).1
  have he := gW_get (dA := Z.2.2.2.2.1) (ad := ad) (M := M) hT
  rw [gE_obj c6] at he
  exact va_getN (v := .long (gl M a k)) hx hb hts c2 hown hK hR.1 a he c1 k hkN (va_Nw.use rfl (hE.1 _ hw)) (by rw [c7 k hkN]; exact fun x hx => hx) (gfs_get hk) hd k'

theorem g_get_rN (hF : gFix Z cc own nm rt d mc ms Acc AccX) {idx c k a len : Nat} {fin : Bool} {ft : FieldType} {b : Nat} (hv : gr M a k = some b) (hf : gFn own idx c k 2 fin ft) (hT : T[a]? = some (c, len)) (hd : decode cc pc = .ok (.getfield idx, 3))
    (k' : gG Z ad T M ce so (pc + 3) ls (.ref b :: st)) : gG Z ad T M ce so pc ls (.ref a :: st) := by
  obtain ⟨p, l, e, R, s, m, args, below, meth, cd, Q, adV, hKq, hx, hb, hml, hown, hts, hK, hH, hA, hE, hRm, hnm, hlk, -⟩ := hF
  intro H locs la hR hl
  have k' := k' H locs la hR hl
  rw [hKq] at k' ⊢
  obtain ⟨RR, TT, N, ty, host, ⟨c1, c2, c3, c4, c5, c6, c7⟩, hk, -, -, hw⟩ := hf
  have hkN : k < N := by rw [c5]; exact (List.getElem?_eq_some_iff.mp hk).1
  have he := gW_get (dA := Z.2.2.2.2.1) (ad := ad) (M := M) hT
  rw [gE_obj c6] at he
  exact va_getN (v := .ref (ad b)) hx hb hts c2 hown hK hR.1 a he c1 k hkN (va_Nw.use rfl (hE.1 _ hw)) (by rw [c7 k hkN]; exact fun x hx => hx) (by rw [gfs_get hk]; simp only [gfv, hv]; rfl) hd k'

theorem g_put_i (hF : gFix Z cc own nm rt d mc ms Acc AccX) {idx c k a len : Nat} {ft : FieldType} {x : Int32} (hn : narrow ft (.int x) = .int x) (hfit : fits ft (.int x) = true) (hf : gFl own idx c k 0 false ft) (hT : T[a]? = some (c, len)) (hd : decode cc pc = .ok (.putfield idx, 3))
    (k' : gG Z ad T (si M a k x) ce so (pc + 3) ls st) : gG Z ad T M ce so pc ls (.int x :: .ref a :: st) := by
  obtain ⟨p, l, e, R, s, m, args, below, meth, cd, Q, adV, hKq, hx, hb, hml, hown, hts, hK, hH, hA, hE, hRm, hnm, hlk, -⟩ := hF
  intro H locs la hR hl
  have k' := fun H1 locs1 hR1 => k' H1 locs1 la hR1 hl
  rw [hKq] at k' ⊢
  obtain ⟨RR, TT, N, ty, ⟨c1, c2, c3, c4, c5, c6, c7⟩, hk, hft, hfi, hw⟩ := hf
  have hkN : k < N := by rw [c5]; exact (List.getElem?_eq_some_iff.mp hk).1
  have he := gW_get (dA := Z.2.2.2.2.1) (ad := ad) (M := M) hT
  rw [gE_obj c6] at he
  have hset := gW_set (dA := Z.2.2.2.2.1) (ad := ad) (M := M) (M' := si M a k x) (e := .inr (c, ((gK c).mapIdx (gfv M ad a)).set k (.int x))) hT (by rw [gE_obj c6, gfs_set hk (v := .int x) (by rw [gfv, if_pos rfl, gi_si, if_pos ⟨rfl, rfl⟩]) gfv_si]) gE_si
  refine va_put (v := .int x) hx hb hts c2 ty c3 c4 hown hK hR.1 hR.2.1 hR.2.2.1 a he c1 k hkN (hts _ hw) (by rw [c7 k hkN]; exact fun x hx => hx) hfi (c3 k hkN) (by rw [hft]; exact hn) (by rw [hft]; exact hfit) (by rw [List.length_mapIdx, ← c5]; exact hkN) hd (fun H1 locs1 hP hD hS => k' H1 locs1 ⟨by rw [← hset]; exact hP, by rw [← hset]; exact hD, hS, gCl_si hR.2.2.2.1, hR.2.2.2.2⟩)

theorem g_put_l (hF : gFix Z cc own nm rt d mc ms Acc AccX) {idx c k a len : Nat} {ft : FieldType} {x : Int64} (hn : narrow ft (.long x) = .long x) (hfit : fits ft (.long x) = true) (hf : gFl own idx c k 1 false ft) (hT : T[a]? = some (c, len)) (hd : decode cc pc = .ok (.putfield idx, 3))
    (k' : gG Z ad T (sl M a k x) ce so (pc + 3) ls st) : gG Z ad T M ce so pc ls (.long x :: .ref a :: st) := by
  obtain ⟨p, l, e, R, s, m, args, below, meth, cd, Q, adV, hKq, hx, hb, hml, hown, hts, hK, hH, hA, hE, hRm, hnm, hlk, -⟩ := hF
  intro H locs la hR hl
  have k' := fun H1 locs1 hR1 => k' H1 locs1 la hR1 hl
  rw [hKq] at k' ⊢
  obtain ⟨RR, TT, N, ty, ⟨c1, c2, c3, c4, c5, c6, c7⟩, hk, hft, hfi, hw⟩ := hf
  have hkN : k < N := by rw [c5]; exact (List.getElem?_eq_some_iff.mp hk).1
  have he := gW_get (dA := Z.2.2.2.2.1) (ad := ad) (M := M) hT
  rw [gE_obj c6] at he
  have hset := gW_set (dA := Z.2.2.2.2.1) (ad := ad) (M := M) (M' := sl M a k x) (e := .inr (c, ((gK c).mapIdx (gfv M ad a)).set k (.long x))) hT (by rw [gE_obj c6, gfs_set hk (v := .long x) (by rw [gfv, if_neg (by decide), if_pos rfl, gl_sl, if_pos ⟨rfl, rfl⟩]) gfv_sl]) gE_sl
  refine va_put (v := .long x) hx hb hts c2 ty c3 c4 hown hK hR.1 hR.2.1 hR.2.2.1 a he c1 k hkN (hts _ hw) (by rw [c7 k hkN]; exact fun x hx => hx) hfi (c3 k hkN) (by rw [hft]; exact hn) (by rw [hft]; exact hfit) (by rw [List.length_mapIdx, ← c5]; exact hkN) hd (fun H1 locs1 hP hD hS => k' H1 locs1 ⟨by rw [← hset]; exact hP, by rw [← hset]; exact hD, hS, gCl_sl hR.2.2.2.1, hR.2.2.2.2⟩)

theorem g_put_r (hF : gFix Z cc own nm rt d mc ms Acc AccX) {idx c k a len : Nat} {ft : FieldType} {b : Nat} (hn : ∀ q, narrow ft (.ref q) = .ref q) (hfit : ∀ q, fits ft (.ref q) = true) (hbl : b < T.length) (hf : gFl own idx c k 2 false ft) (hT : T[a]? = some (c, len)) (hd : decode cc pc = .ok (.putfield idx, 3))
    (k' : gG Z ad T (sr M a k (some b)) ce so (pc + 3) ls st) : gG Z ad T M ce so pc ls (.ref b :: .ref a :: st) := by
  obtain ⟨p, l, e, R, s, m, args, below, meth, cd, Q, adV, hKq, hx, hb, hml, hown, hts, hK, hH, hA, hE, hRm, hnm, hlk, -⟩ := hF
  intro H locs la hR hl
  have k' := fun H1 locs1 hR1 => k' H1 locs1 la hR1 hl
  rw [hKq] at k' ⊢
  obtain ⟨RR, TT, N, ty, ⟨c1, c2, c3, c4, c5, c6, c7⟩, hk, hft, hfi, hw⟩ := hf
  have hkN : k < N := by rw [c5]; exact (List.getElem?_eq_some_iff.mp hk).1
  have he := gW_get (dA := Z.2.2.2.2.1) (ad := ad) (M := M) hT
  rw [gE_obj c6] at he
  have hset := gW_set (dA := Z.2.2.2.2.1) (ad := ad) (M := M) (M' := sr M a k (some b)) (e := .inr (c, ((gK c).mapIdx (gfv M ad a)).set k (.ref (ad b)))) hT (by rw [gE_obj c6, gfs_set hk (v := .ref (ad b)) (by show va_rf ((gr (sr M a k (some b)) a k).map ad) = .ref (ad b); rw [gr_sr, if_pos ⟨rfl, rfl⟩]; rfl) gfv_sr]) gE_sr
  refine va_put (v := .ref (ad b)) hx hb hts c2 ty c3 c4 hown hK hR.1 hR.2.1 hR.2.2.1 a he c1 k hkN (hts _ hw) (by rw [c7 k hkN]; exact fun x hx => hx) hfi (c3 k hkN) (by rw [hft]; exact (hn _)) (by rw [hft]; exact (hfit _)) (by rw [List.length_mapIdx, ← c5]; exact hkN) hd (fun H1 locs1 hP hD hS => k' H1 locs1 ⟨by rw [← hset]; exact hP, by rw [← hset]; exact hD, hS, gCl_sr hR.2.2.2.1 hbl, hR.2.2.2.2⟩)

theorem g_putF_i (hF : gFix Z cc own nm rt d mc ms Acc AccX) {idx c k a len : Nat} {ft : FieldType} {x : Int32} (hn : narrow ft (.int x) = .int x) (hfit : fits ft (.int x) = true) (hnm0 : nm = "<init>") (hRo0 : ∀ (R : String) (TT : u_T) (N : Nat) (ty : Nat → FieldType), gC c R TT N ty → R = own) (hf : gFl own idx c k 0 true ft) (hT : T[a]? = some (c, len)) (hd : decode cc pc = .ok (.putfield idx, 3))
    (k' : gG Z ad T (si M a k x) ce so (pc + 3) ls st) : gG Z ad T M ce so pc ls (.int x :: .ref a :: st) := by
  obtain ⟨p, l, e, R, s, m, args, below, meth, cd, Q, adV, hKq, hx, hb, hml, hown, hts, hK, hH, hA, hE, hRm, hnm, hlk, -⟩ := hF
  intro H locs la hR hl
  have hnm1 : meth.name = "<init>" := hnm.trans hnm0
  have k' := fun H1 locs1 hR1 => k' H1 locs1 la hR1 hl
  rw [hKq] at k' ⊢
  obtain ⟨RR, TT, N, ty, ⟨c1, c2, c3, c4, c5, c6, c7⟩, hk, hft, hfi, hw⟩ := hf
  have hRo : RR = own := hRo0 RR TT N ty ⟨c1, c2, c3, c4, c5, c6, c7⟩
  have hkN : k < N := by rw [c5]; exact (List.getElem?_eq_some_iff.mp hk).1
  have he := gW_get (dA := Z.2.2.2.2.1) (ad := ad) (M := M) hT
  rw [gE_obj c6] at he
  have hset := gW_set (dA := Z.2.2.2.2.1) (ad := ad) (M := M) (M' := si M a k x) (e := .inr (c, ((gK c).mapIdx (gfv M ad a)).set k (.int x))) hT (by rw [gE_obj c6, gfs_set hk (v := .int x) (by rw [gfv, if_pos rfl, gi_si, if_pos ⟨rfl, rfl⟩]) gfv_si]) gE_si
  refine va_putF (v := .int x) hx hb hts c2 ty c3 c4 hown hK hR.1 hR.2.1 hR.2.2.1 a he c1 k hkN (hts _ hw) (by rw [c7 k hkN]; exact fun x hx => hx) hfi hnm1 (by rw [c7 k hkN]; exact hRo) (c3 k hkN) (by rw [hft]; exact hn) (by rw [hft]; exact hfit) (by rw [List.length_mapIdx, ← c5]; exact hkN) hd (fun H1 locs1 hP hD hS => k' H1 locs1 ⟨by rw [← hset]; exact hP, by rw [← hset]; exact hD, hS, gCl_si hR.2.2.2.1, hR.2.2.2.2⟩)

theorem g_putF_l (hF : gFix Z cc own nm rt d mc ms Acc AccX) {idx c k a len : Nat} {ft : FieldType} {x : Int64} (hn : narrow ft (.long x) = .long x) (hfit : fits ft (.long x) = true) (hnm0 : nm = "<init>") (hRo0 : ∀ (R : String) (TT : u_T) (N : Nat) (ty : Nat → FieldType), gC c R TT N ty → R = own) (hf : gFl own idx c k 1 true ft) (hT : T[a]? = some (c, len)) (hd : decode cc pc = .ok (.putfield idx, 3))
    (k' : gG Z ad T (sl M a k x) ce so (pc + 3) ls st) : gG Z ad T M ce so pc ls (.long x :: .ref a :: st) := by
  obtain ⟨p, l, e, R, s, m, args, below, meth, cd, Q, adV, hKq, hx, hb, hml, hown, hts, hK, hH, hA, hE, hRm, hnm, hlk, -⟩ := hF
  intro H locs la hR hl
  have hnm1 : meth.name = "<init>" := hnm.trans hnm0
  have k' := fun H1 locs1 hR1 => k' H1 locs1 la hR1 hl
  rw [hKq] at k' ⊢
  obtain ⟨RR, TT, N, ty, ⟨c1, c2, c3, c4, c5, c6, c7⟩, hk, hft, hfi, hw⟩ := hf
  have hRo : RR = own := hRo0 RR TT N ty ⟨c1, c2, c3, c4, c5, c6, c7⟩
  have hkN : k < N := by rw [c5]; exact (List.getElem?_eq_some_iff.mp hk).1
  have he := gW_get (dA := Z.2.2.2.2.1) (ad := ad) (M := M) hT
  rw [gE_obj c6] at he
  have hset := gW_set (dA := Z.2.2.2.2.1) (ad := ad) (M := M) (M' := sl M a k x) (e := .inr (c, ((gK c).mapIdx (gfv M ad a)).set k (.long x))) hT (by rw [gE_obj c6, gfs_set hk (v := .long x) (by rw [gfv, if_neg (by decide), if_pos rfl, gl_sl, if_pos ⟨rfl, rfl⟩]) gfv_sl]) gE_sl
  refine va_putF (v := .long x) hx hb hts c2 ty c3 c4 hown hK hR.1 hR.2.1 hR.2.2.1 a he c1 k hkN (hts _ hw) (by rw [c7 k hkN]; exact fun x hx => hx) hfi hnm1 (by rw [c7 k hkN]; exact hRo) (c3 k hkN) (by rw [hft]; exact hn) (by rw [hft]; exact hfit) (by rw [List.length_mapIdx, ← c5]; exact hkN) hd (fun H1 locs1 hP hD hS => k' H1 locs1 ⟨by rw [← hset]; exact hP, by rw [← hset]; exact hD, hS, gCl_sl hR.2.2.2.1, hR.2.2.2.2⟩)

theorem g_putF_r (hF : gFix Z cc own nm rt d mc ms Acc AccX) {idx c k a len : Nat} {ft : FieldType} {b : Nat} (hn : ∀ q, narrow ft (.ref q) = .ref q) (hfit : ∀ q, fits ft (.ref q) = true) (hbl : b < T.length) (hnm0 : nm = "<init>") (hRo0 : ∀ (R : String) (TT : u_T) (N : Nat) (ty : Nat → FieldType), gC c R TT N ty → R = own) (hf : gFl own idx c k 2 true ft) (hT : T[a]? = some (c, len)) (hd : decode cc pc = .ok (.putfield idx, 3))
    (k' : gG Z ad T (sr M a k (some b)) ce so (pc + 3) ls st) : gG Z ad T M ce so pc ls (.ref b :: .ref a :: st) := by
  obtain ⟨p, l, e, R, s, m, args, below, meth, cd, Q, adV, hKq, hx, hb, hml, hown, hts, hK, hH, hA, hE, hRm, hnm, hlk, -⟩ := hF
  intro H locs la hR hl
  have hnm1 : meth.name = "<init>" := hnm.trans hnm0
  have k' := fun H1 locs1 hR1 => k' H1 locs1 la hR1 hl
  rw [hKq] at k' ⊢
  obtain ⟨RR, TT, N, ty, ⟨c1, c2, c3, c4, c5, c6, c7⟩, hk, hft, hfi, hw⟩ := hf
  have hRo : RR = own := hRo0 RR TT N ty ⟨c1, c2, c3, c4, c5, c6, c7⟩
  have hkN : k < N := by rw [c5]; exact (List.getElem?_eq_some_iff.mp hk).1
  have he := gW_get (dA := Z.2.2.2.2.1) (ad := ad) (M := M) hT
  rw [gE_obj c6] at he
  have hset := gW_set (dA := Z.2.2.2.2.1) (ad := ad) (M := M) (M' := sr M a k (some b)) (e := .inr (c, ((gK c).mapIdx (gfv M ad a)).set k (.ref (ad b)))) hT (by rw [gE_obj c6, gfs_set hk (v := .ref (ad b)) (by show va_rf ((gr (sr M a k (some b)) a k).map ad) = .ref (ad b); rw [gr_sr, if_pos ⟨rfl, rfl⟩]; rfl) gfv_sr]) gE_sr
  refine va_putF (v := .ref (ad b)) hx hb hts c2 ty c3 c4 hown hK hR.1 hR.2.1 hR.2.2.1 a he c1 k hkN (hts _ hw) (by rw [c7 k hkN]; exact fun x hx => hx) hfi hnm1 (by rw [c7 k hkN]; exact hRo) (c3 k hkN) (by rw [hft]; exact (hn _)) (by rw [hft]; exact (hfit _)) (by rw [List.length_mapIdx, ← c5]; exact hkN) hd (fun H1 locs1 hP hD hS => k' H1 locs1 ⟨by rw [← hset]; exact hP, by rw [← hset]; exact hD, hS, gCl_sr hR.2.2.2.1 hbl, hR.2.2.2.2⟩)

theorem g_putN_i (hF : gFix Z cc own nm rt d mc ms Acc AccX) {idx c k a len : Nat} {ft : FieldType} {x : Int32} (hn : narrow ft (.int x) = .int x) (hfit : fits ft (.int x) = true) (hf : gFn own idx c k 0 false ft) (hT : T[a]? = some (c, len)) (hd : decode cc pc = .ok (.putfield idx, 3))
    (k' : gG Z ad T (si M a k x) ce so (pc + 3) ls st) : gG Z ad T M ce so pc ls (.int x :: .ref a :: st) := by
  obtain ⟨p, l, e, R, s, m, args, below, meth, cd, Q, adV, hKq, hx, hb, hml, hown, hts, hK, hH, hA, hE, hRm, hnm, hlk, -⟩ := hF
  intro H locs la hR hl
  have k' := fun H1 locs1 hR1 => k' H1 locs1 la hR1 hl
  rw [hKq] at k' ⊢
  obtain ⟨RR, TT, N, ty, host, ⟨c1, c2, c3, c4, c5, c6, c7⟩, hk, hft, hfi, hw⟩ := hf
  have hkN : k < N := by rw [c5]; exact (List.getElem?_eq_some_iff.mp hk).1
  have he := gW_get (dA := Z.2.2.2.2.1) (ad := ad) (M := M) hT
  rw [gE_obj c6] at he
  have hset := gW_set (dA := Z.2.2.2.2.1) (ad := ad) (M := M) (M' := si M a k x) (e := .inr (c, ((gK c).mapIdx (gfv M ad a)).set k (.int x))) hT (by rw [gE_obj c6, gfs_set hk (v := .int x) (by rw [gfv, if_pos rfl, gi_si, if_pos ⟨rfl, rfl⟩]) gfv_si]) gE_si
  refine va_putN (v := .int x) hx hb hts c2 ty c3 c4 hown hK hR.1 hR.2.1 hR.2.2.1 a he c1 k hkN (va_Nw.use rfl (hE.1 _ hw)) (by rw [c7 k hkN]; exact fun x hx => hx) hfi (c3 k hkN) (by rw [hft]; exact hn) (by rw [hft]; exact hfit) (by rw [List.length_mapIdx, ← c5]; exact hkN) hd (fun H1 locs1 hP hD hS => k' H1 locs1 ⟨by rw [← hset]; exact hP, by rw [← hset]; exact hD, hS, gCl_si hR.2.2.2.1, hR.2.2.2.2⟩)

theorem g_putN_l (hF : gFix Z cc own nm rt d mc ms Acc AccX) {idx c k a len : Nat} {ft : FieldType} {x : Int64} (hn : narrow ft (.long x) = .long x) (hfit : fits ft (.long x) = true) (hf : gFn own idx c k 1 false ft) (hT : T[a]? = some (c, len)) (hd : decode cc pc = .ok (.putfield idx, 3))
    (k' : gG Z ad T (sl M a k x) ce so (pc + 3) ls st) : gG Z ad T M ce so pc ls (.long x :: .ref a :: st) := by
  obtain ⟨p, l, e, R, s, m, args, below, meth, cd, Q, adV, hKq, hx, hb, hml, hown, hts, hK, hH, hA, hE, hRm, hnm, hlk, -⟩ := hF
  intro H locs la hR hl
  have k' := fun H1 locs1 hR1 => k' H1 locs1 la hR1 hl
  rw [hKq] at k' ⊢
  obtain ⟨RR, TT, N, ty, host, ⟨c1, c2, c3, c4, c5, c6, c7⟩, hk, hft, hfi, hw⟩ := hf
  have hkN : k < N := by rw [c5]; exact (List.getElem?_eq_some_iff.mp hk).1
  have he := gW_get (dA := Z.2.2.2.2.1) (ad := ad) (M := M) hT
  rw [gE_obj c6] at he
  have hset := gW_set (dA := Z.2.2.2.2.1) (ad := ad) (M := M) (M' := sl M a k x) (e := .inr (c, ((gK c).mapIdx (gfv M ad a)).set k (.long x))) hT (by rw [gE_obj c6, gfs_set hk (v := .long x) (by rw [gfv, if_neg (by decide), if_pos rfl, gl_sl, if_pos ⟨rfl, rfl⟩]) gfv_sl]) gE_sl
  refine va_putN (v := .long x) hx hb hts c2 ty c3 c4 hown hK hR.1 hR.2.1 hR.2.2.1 a he c1 k hkN (va_Nw.use rfl (hE.1 _ hw)) (by rw [c7 k hkN]; exact fun x hx => hx) hfi (c3 k hkN) (by rw [hft]; exact hn) (by rw [hft]; exact hfit) (by rw [List.length_mapIdx, ← c5]; exact hkN) hd (fun H1 locs1 hP hD hS => k' H1 locs1 ⟨by rw [← hset]; exact hP, by rw [← hset]; exact hD, hS, gCl_sl hR.2.2.2.1, hR.2.2.2.2⟩)

theorem g_putN_r (hF : gFix Z cc own nm rt d mc ms Acc AccX) {idx c k a len : Nat} {ft : FieldType} {b : Nat} (hn : ∀ q, narrow ft (.ref q) = .ref q) (hfit : ∀ q, fits ft (.ref q) = true) (hbl : b < T.length) (hf : gFn own idx c k 2 false ft) (hT : T[a]? = some (c, len)) (hd : decode cc pc = .ok (.putfield idx, 3))
    (k' : gG Z ad T (sr M a k (some b)) ce so (pc + 3) ls st) : gG Z ad T M ce so pc ls (.ref b :: .ref a :: st) := by
  obtain ⟨p, l, e, R, s, m, args, below, meth, cd, Q, adV, hKq, hx, hb, hml, hown, hts, hK, hH, hA, hE, hRm, hnm, hlk, -⟩ := hF
  intro H locs la hR hl
  have k' := fun H1 locs1 hR1 => k' H1 locs1 la hR1 hl
  rw [hKq] at k' ⊢
  obtain ⟨RR, TT, N, ty, host, ⟨c1, c2, c3, c4, c5, c6, c7⟩, hk, hft, hfi, hw⟩ := hf
  have hkN : k < N := by rw [c5]; exact (List.getElem?_eq_some_iff.mp hk).1
  have he := gW_get (dA := Z.2.2.2.2.1) (ad := ad) (M := M) hT
  rw [gE_obj c6] at he
  have hset := gW_set (dA := Z.2.2.2.2.1) (ad := ad) (M := M) (M' := sr M a k (some b)) (e := .inr (c, ((gK c).mapIdx (gfv M ad a)).set k (.ref (ad b)))) hT (by rw [gE_obj c6, gfs_set hk (v := .ref (ad b)) (by show va_rf ((gr (sr M a k (some b)) a k).map ad) = .ref (ad b); rw [gr_sr, if_pos ⟨rfl, rfl⟩]; rfl) gfv_sr]) gE_sr
  refine va_putN (v := .ref (ad b)) hx hb hts c2 ty c3 c4 hown hK hR.1 hR.2.1 hR.2.2.1 a he c1 k hkN (va_Nw.use rfl (hE.1 _ hw)) (by rw [c7 k hkN]; exact fun x hx => hx) hfi (c3 k hkN) (by rw [hft]; exact (hn _)) (by rw [hft]; exact (hfit _)) (by rw [List.length_mapIdx, ← c5]; exact hkN) hd (fun H1 locs1 hP hD hS => k' H1 locs1 ⟨by rw [← hset]; exact hP, by rw [← hset]; exact hD, hS, gCl_sr hR.2.2.2.1 hbl, hR.2.2.2.2⟩)

theorem g_iald (hF : gFix Z cc own nm rt d mc ms Acc AccX) {a n : Nat} {i : Int32} (hT : T[a]? = some (11, n)) (hin : vp_in i n) (hd : decode cc pc = .ok (.iaload, 1))
    (k : gG Z ad T M ce so (pc + 1) ls (.int (gi M a i.toNatClampNeg) :: st)) : gG Z ad T M ce so pc ls (.int i :: .ref a :: st) := by
  obtain ⟨p, l, e, R, s, m, args, below, meth, c, Q, adV, hKq, hx, hb, hml, hown, hts, hK, hH, hA, hE, hRm, hnm, hlk, -⟩ := hF
  intro H locs la hR hl
  have k := k H locs la hR hl
  rw [hKq] at k ⊢
  have he := gW_get (dA := Z.2.2.2.2.1) (ad := ad) (M := M) hT
  rw [gE_i] at he
  exact va_iald hx hb hK hR.1 a 1 he rfl hin hd k

theorem g_bald (hF : gFix Z cc own nm rt d mc ms Acc AccX) {a n : Nat} {i : Int32} (hT : T[a]? = some (10, n)) (hin : vp_in i n) (hd : decode cc pc = .ok (.baload, 1))
    (k : gG Z ad T M ce so (pc + 1) ls (.int (gi M a i.toNatClampNeg) :: st)) : gG Z ad T M ce so pc ls (.int i :: .ref a :: st) := by
  obtain ⟨p, l, e, R, s, m, args, below, meth, c, Q, adV, hKq, hx, hb, hml, hown, hts, hK, hH, hA, hE, hRm, hnm, hlk, -⟩ := hF
  intro H locs la hR hl
  have k := k H locs la hR hl
  rw [hKq] at k ⊢
  have he := gW_get (dA := Z.2.2.2.2.1) (ad := ad) (M := M) hT
  rw [gE_b] at he
  exact va_bald hx hb hK hR.1 a 0 he rfl hin hd k

theorem g_lald (hF : gFix Z cc own nm rt d mc ms Acc AccX) {a n : Nat} {i : Int32} (hT : T[a]? = some (12, n)) (hin : vp_in i n) (hd : decode cc pc = .ok (.laload, 1))
    (k : gG Z ad T M ce so (pc + 1) ls (.long (gl M a i.toNatClampNeg) :: st)) : gG Z ad T M ce so pc ls (.int i :: .ref a :: st) := by
  obtain ⟨p, l, e, R, s, m, args, below, meth, c, Q, adV, hKq, hx, hb, hml, hown, hts, hK, hH, hA, hE, hRm, hnm, hlk, -⟩ := hF
  intro H locs la hR hl
  have k := k H locs la hR hl
  rw [hKq] at k ⊢
  have he := gW_get (dA := Z.2.2.2.2.1) (ad := ad) (M := M) hT
  rw [gE_l] at he
  exact va_lald hx hb hK hR.1 a 2 he rfl hin hd k

theorem g_aald (hF : gFix Z cc own nm rt d mc ms Acc AccX) {a n b kd : Nat} {C : String} {i : Int32} (hT : T[a]? = some (kd, n)) (hkd : (kd = 13 ∧ C = RX0) ∨ (kd = 14 ∧ C = RX3)) (hin : vp_in i n) (hv : gr M a i.toNatClampNeg = some b) (hd : decode cc pc = .ok (.aaload, 1))
    (k : gG Z ad T M ce so (pc + 1) ls (.ref b :: st)) : gG Z ad T M ce so pc ls (.int i :: .ref a :: st) := by
  obtain ⟨p, l, e, R, s, m, args, below, meth, c, Q, adV, hKq, hx, hb, hml, hown, hts, hK, hH, hA, hE, hRm, hnm, hlk, -⟩ := hF
  intro H locs la hR hl
  have k := k H locs la hR hl
  rw [hKq] at k ⊢
  have he := gW_get (dA := Z.2.2.2.2.1) (ad := ad) (M := M) hT
  rw [gE_q (by rcases hkd with q | q <;> omega)] at he
  have k2 : W p l e R s m args below meth c H locs ce so Q (F0 m (pc + 1) la (va_rf ((fun j => (gr M a j).map ad) i.toNatClampNeg) :: st.map (gv ad))) := by
    show W p l e R s m args below meth c H locs ce so Q (F0 m (pc + 1) la (va_rf ((gr M a i.toNatClampNeg).map ad) :: st.map (gv ad)))
    rw [hv]
    exact k
  rcases hkd with ⟨rfl, rfl⟩ | ⟨rfl, rfl⟩
  · exact va_aldq hx hb hK hR.1 a 3 he rfl hin hd k2
  · exact va_aldq hx hb hK hR.1 a 4 he rfl hin hd k2
theorem g_aald2 (hF : gFix Z cc own nm rt d mc ms Acc AccX) {a n b : Nat} {i : Int32} (hT : T[a]? = some (15, n)) (hin : vp_in i n) (hv : gr M a i.toNatClampNeg = some b) (hd : decode cc pc = .ok (.aaload, 1))
    (k : gG Z ad T M ce so (pc + 1) ls (.ref b :: st)) : gG Z ad T M ce so pc ls (.int i :: .ref a :: st) := by
  obtain ⟨p, l, e, R, s, m, args, below, meth, c, Q, adV, hKq, hx, hb, hml, hown, hts, hK, hH, hA, hE, hRm, hnm, hlk, -⟩ := hF
  intro H locs la hR hl
  have k := k H locs la hR hl
  rw [hKq] at k ⊢
  have he := gW_get (dA := Z.2.2.2.2.1) (ad := ad) (M := M) hT
  rw [gE_q (by omega)] at he
  have hlt : i.toNatClampNeg < n := Nat.not_le.mp fun q => hin (Or.inr q)
  exact W.aald (v := .ref (ad b)) (ty := .array .int) hx hb (hR.1 a _ he) ((hK.2 5 _ rfl).1 n (fun j => va_rf ((gr M a j).map ad))) rfl (fun q => by cases q) (by show ¬ (i < 0 ∨ (arrV _ _ _).slots.size ≤ _); rw [arrV_size]; exact hin) (by show (arrV _ _ _).slots[_]? = _; rw [arrV_read _ _ hlt]; show some (va_rf ((gr M a i.toNatClampNeg).map ad)) = _; rw [hv]; rfl) rfl rfl hd k
theorem g_alen (hF : gFix Z cc own nm rt d mc ms Acc AccX) {a n kd : Nat} (hT : T[a]? = some (kd, n)) (hkd : 10 ≤ kd ∧ kd < 16) (hd : decode cc pc = .ok (.arraylength, 1))
    (k : gG Z ad T M ce so (pc + 1) ls (.int (Int32.ofNat n) :: st)) : gG Z ad T M ce so pc ls (.ref a :: st) := by
  obtain ⟨p, l, e, R, s, m, args, below, meth, c, Q, adV, hKq, hx, hb, hml, hown, hts, hK, hH, hA, hE, hRm, hnm, hlk, -⟩ := hF
  intro H locs la hR hl
  have k := k H locs la hR hl
  rw [hKq] at k ⊢
  have he := gW_get (dA := Z.2.2.2.2.1) (ad := ad) (M := M) hT
  obtain rfl | rfl | rfl | rfl | rfl | rfl : kd = 10 ∨ kd = 11 ∨ kd = 12 ∨ kd = 13 ∨ kd = 14 ∨ kd = 15 := by omega
  · exact va_alen hx hb hK hR.1 a 0 (x := (n, .inl (fun j => gi M a j))) he rfl rfl hd k
  · exact va_alen hx hb hK hR.1 a 1 (x := (n, .inl (fun j => gi M a j))) he rfl rfl hd k
  · exact va_alen hx hb hK hR.1 a 2 (x := (n, .inr (.inl (fun j => gl M a j)))) he rfl rfl hd k
  · exact va_alen hx hb hK hR.1 a 3 (x := (n, .inr (.inr (.inr (.inr (fun j => (gr M a j).map ad)))))) he rfl rfl hd k
  · exact va_alen hx hb hK hR.1 a 4 (x := (n, .inr (.inr (.inr (.inr (fun j => (gr M a j).map ad)))))) he rfl rfl hd k
  · exact va_alen hx hb hK hR.1 a 5 (x := (n, .inr (.inr (.inr (.inr (fun j => (gr M a j).map ad)))))) he rfl rfl hd k

theorem g_iast (hF : gFix Z cc own nm rt d mc ms Acc AccX) {a n : Nat} {i : Int32} {x : Int32} (hT : T[a]? = some (11, n)) (hin : vp_in i n) (hd : decode cc pc = .ok (.iastore, 1))
    (k : gG Z ad T (si M a i.toNatClampNeg x) ce so (pc + 1) ls st) : gG Z ad T M ce so pc ls (.int x :: .int i :: .ref a :: st) := by
  obtain ⟨p, l, e, R, s, m, args, below, meth, c, Q, adV, hKq, hx, hb, hml, hown, hts, hK, hH, hA, hE, hRm, hnm, hlk, -⟩ := hF
  intro H locs la hR hl
  have k := fun H1 locs1 hR1 => k H1 locs1 la hR1 hl
  rw [hKq] at k ⊢
  have he := gW_get (dA := Z.2.2.2.2.1) (ad := ad) (M := M) hT
  rw [gE_i] at he
  have hset := gW_set (dA := Z.2.2.2.2.1) (ad := ad) (M := M) (M' := si M a i.toNatClampNeg x) (e := .inl (Z.2.2.2.2.1 11, n, .inl (upd (fun j => gi M a j) i.toNatClampNeg x))) hT (by
    rw [gE_i]
    congr 4
    funext j
    simp only [gi_si, true_and, upd, vp_updL]
    try rw [vp_nar_byte]) gE_si
  exact va_iast hx hb hK hR.1 hR.2.1 hR.2.2.1 a 1 he rfl hin hd (fun H1 locs1 hP hD hS => k H1 locs1 ⟨by rw [← hset]; exact hP, by rw [← hset]; exact hD, hS, gCl_si hR.2.2.2.1, hR.2.2.2.2⟩)

theorem g_bast (hF : gFix Z cc own nm rt d mc ms Acc AccX) {a n : Nat} {i : Int32} {x : Int32} (hT : T[a]? = some (10, n)) (hin : vp_in i n) (hd : decode cc pc = .ok (.bastore, 1))
    (k : gG Z ad T (si M a i.toNatClampNeg x.toInt8.toInt32) ce so (pc + 1) ls st) : gG Z ad T M ce so pc ls (.int x :: .int i :: .ref a :: st) := by
  obtain ⟨p, l, e, R, s, m, args, below, meth, c, Q, adV, hKq, hx, hb, hml, hown, hts, hK, hH, hA, hE, hRm, hnm, hlk, -⟩ := hF
  intro H locs la hR hl
  have k := fun H1 locs1 hR1 => k H1 locs1 la hR1 hl
  rw [hKq] at k ⊢
  have he := gW_get (dA := Z.2.2.2.2.1) (ad := ad) (M := M) hT
  rw [gE_b] at he
  have hset := gW_set (dA := Z.2.2.2.2.1) (ad := ad) (M := M) (M' := si M a i.toNatClampNeg x.toInt8.toInt32) (e := .inl (Z.2.2.2.2.1 10, n, .inl (upd (fun j => gi M a j) i.toNatClampNeg (vp_nar .byte x)))) hT (by
    rw [gE_b]
    congr 4
    funext j
    simp only [gi_si, true_and, upd, vp_updL]
    try rw [vp_nar_byte]) gE_si
  exact va_bast hx hb hK hR.1 hR.2.1 hR.2.2.1 a 0 he rfl hin hd (fun H1 locs1 hP hD hS => k H1 locs1 ⟨by rw [← hset]; exact hP, by rw [← hset]; exact hD, hS, gCl_si hR.2.2.2.1, hR.2.2.2.2⟩)

theorem g_last (hF : gFix Z cc own nm rt d mc ms Acc AccX) {a n : Nat} {i : Int32} {x : Int64} (hT : T[a]? = some (12, n)) (hin : vp_in i n) (hd : decode cc pc = .ok (.lastore, 1))
    (k : gG Z ad T (sl M a i.toNatClampNeg x) ce so (pc + 1) ls st) : gG Z ad T M ce so pc ls (.long x :: .int i :: .ref a :: st) := by
  obtain ⟨p, l, e, R, s, m, args, below, meth, c, Q, adV, hKq, hx, hb, hml, hown, hts, hK, hH, hA, hE, hRm, hnm, hlk, -⟩ := hF
  intro H locs la hR hl
  have k := fun H1 locs1 hR1 => k H1 locs1 la hR1 hl
  rw [hKq] at k ⊢
  have he := gW_get (dA := Z.2.2.2.2.1) (ad := ad) (M := M) hT
  rw [gE_l] at he
  have hset := gW_set (dA := Z.2.2.2.2.1) (ad := ad) (M := M) (M' := sl M a i.toNatClampNeg x) (e := .inl (Z.2.2.2.2.1 12, n, .inr (.inl (vp_updL (fun j => gl M a j) i.toNatClampNeg x)))) hT (by
    rw [gE_l]
    congr 5
    funext j
    simp only [gl_sl, true_and, upd, vp_updL]
    try rw [vp_nar_byte]) gE_sl
  exact va_last hx hb hK hR.1 hR.2.1 hR.2.2.1 a 2 he rfl hin hd (fun H1 locs1 hP hD hS => k H1 locs1 ⟨by rw [← hset]; exact hP, by rw [← hset]; exact hD, hS, gCl_sl hR.2.2.2.1, hR.2.2.2.2⟩)

theorem g_aast (hF : gFix Z cc own nm rt d mc ms Acc AccX) {a n b kd ci len : Nat} {r : vw_C} {i : Int32} (hT : T[a]? = some (kd, n)) (hkd : (kd = 13 ∧ ci = 0) ∨ (kd = 14 ∧ ci = 3)) (hTb : T[b]? = some (ci, len)) (hin : vp_in i n) (hd : decode cc pc = .ok (.aastore, 1))
    (k : gG Z ad T (sr M a i.toNatClampNeg (some b)) ce so (pc + 1) ls st) : gG Z ad T M ce so pc ls (.ref b :: .int i :: .ref a :: st) := by
  obtain ⟨p, l, e, R, s, m, args, below, meth, c, Q, adV, hKq, hx, hb, hml, hown, hts, hK, hH, hA, hE, hRm, hnm, hlk, -⟩ := hF
  intro H locs la hR hl
  have k := fun H1 locs1 hR1 => k H1 locs1 la hR1 hl
  rw [hKq] at k ⊢
  have he := gW_get (dA := Z.2.2.2.2.1) (ad := ad) (M := M) hT
  rw [gE_q (by rcases hkd with q | q <;> omega)] at he
  have hv := gW_get (dA := Z.2.2.2.2.1) (ad := ad) (M := M) hTb
  rw [gE_obj (by rcases hkd with q | q <;> omega)] at hv
  have hset := gW_set (dA := Z.2.2.2.2.1) (ad := ad) (M := M) (M' := sr M a i.toNatClampNeg (some b)) (e := .inl (Z.2.2.2.2.1 kd, n, .inr (.inr (.inr (.inr (va_up (fun j => (gr M a j).map ad) i.toNatClampNeg (some (ad b)))))))) hT (by
    rw [gE_q (by rcases hkd with q | q <;> omega)]
    congr 7
    funext j
    simp only [gr_sr, true_and, va_up]
    split <;> rfl) gE_sr
  have hbl : b < T.length := (List.getElem?_eq_some_iff.mp hTb).1
  rcases hkd with ⟨rfl, rfl⟩ | ⟨rfl, rfl⟩
  · exact va_astq hx hb hK hR.1 hR.2.1 hR.2.2.1 a 3 b 0 (r := (RX0, TX0, 5)) he rfl hv rfl hin hd (fun H1 locs1 hP hD hS => k H1 locs1 ⟨by rw [← hset]; exact hP, by rw [← hset]; exact hD, hS, gCl_sr hR.2.2.2.1 hbl, hR.2.2.2.2⟩)
  · exact va_astq hx hb hK hR.1 hR.2.1 hR.2.2.1 a 4 b 3 (r := (RX3, TX3, 6)) he rfl hv rfl hin hd (fun H1 locs1 hP hD hS => k H1 locs1 ⟨by rw [← hset]; exact hP, by rw [← hset]; exact hD, hS, gCl_sr hR.2.2.2.1 hbl, hR.2.2.2.2⟩)
end GH
end
section
/-! CONTRACTS: a method at given arguments and memory returns a given answer with a given memory behind it -/
def gWs (y : MethodName) (cc : ByteArray) (nL : Nat) (rt : Option FieldType) : List Cond := Cond.code y cc nL rt :: gWS
def gA (ad : Nat → Nat) (n sz : Nat) : Nat → Prop := fun q => (∃ a, a < n ∧ q = ad a) ∨ sz ≤ q
def gIn (A : Nat → Prop) (D : va_G) (dA : Nat → ClassId) (adV ad : Nat → Nat) (T : gT) (M : gM) (sz : Nat) (U : State) : Prop :=
  U.heap.size = sz ∧ va_P D vwCl (gW dA ad T M) U.heap ∧ va_D A (gW dA ad T M) ∧ gCl T M ∧ va_K D vwCl (gTy dA) U ∧ gEnv A adV ad U U.heap
abbrev gAcc : Type := (Nat → Nat) → Option Value → (Nat → Nat) → gT → gM → Prop
def gOut (A : Nat → Prop) (D : va_G) (dA : Nat → ClassId) (ad0 : Nat → Nat) (Acc : gAcc) : Array Value → State → Outcome → State → Prop := fun _ st oc t =>
  (∃ (v : Option Value) (ad : Nat → Nat) (T1 : gT) (M1 : gM), oc = .returned (v.map (gv ad)) ∧ Acc ad0 v ad T1 M1 ∧ va_P D vwCl (gW dA ad T1 M1) t.heap ∧ va_D A (gW dA ad T1 M1) ∧ gCl T1 M1 ∧ ∀ a : Nat, gSB ≤ a → ad a = ad0 a) ∧ va_F A st t
def gRetW (l : Launch) (d : Nat) (y : MethodName) (cc : ByteArray) (nL : Nat) (rt : Option FieldType) (mc ms : Nat) (av : List Value) (T : gT) (M : gM) (Acc : gAcc) : Prop :=
  ∀ (D : va_G) (dA : Nat → ClassId) (adV ad0 : Nat → Nat) (sz : Nat), Met l y (gWs y cc nL rt) { frames := d, cells := mc, slots := ms, locals := 64 * d } (va_Pc (av.map (gv ad0)) (gIn (gA ad0 T.length sz) D dA adV ad0 T M sz)) (gOut (gA ad0 T.length sz) D dA ad0 Acc) mc ms (gA ad0 T.length sz)
def gRet (d : Nat) (y : MethodName) (cc : ByteArray) (nL : Nat) (rt : Option FieldType) (mc ms : Nat) (av : List Value) (T : gT) (M : gM) (Acc : gAcc) : Prop := ∀ l : Launch, l.stackTraces = false → gRetW l d y cc nL rt mc ms av T M Acc
/-- the answer r, the memory M' behind it, nothing made -/
def gSame (T : gT) (r : Option Value) (M' : gM) : gAcc := fun ad0 v ad T1 M1 => v = r ∧ ad = ad0 ∧ T1 = T ∧ M1 = M'
/-- what stood stands -/
def gExt (T T1 : gT) : Prop := ∀ (b : Nat) (x : Nat × Nat), T[b]? = some x → T1[b]? = some x
def gMade (T : gT) (r : Option Value) (T' : gT) (M' : gM) : gAcc := fun ad0 v ad T1 M1 => v = r ∧ T1 = T' ∧ M1 = M' ∧ gExt T T1 ∧ ∀ a : Nat, a < T.length → ad a = ad0 a
theorem gws_good : gWS.all goodWord = true := List.all_eq_true.mpr fun w h => (List.mem_filter.mp h).2
theorem gws_in {y : MethodName} {cc : ByteArray} {nL : Nat} {rt : Option FieldType} (h : Cond.code y cc nL rt ∈ gWS) : GoodIn gWS (gWs y cc nL rt) := goodIn_sub (fun w hw => (List.mem_cons.mp hw).elim (fun e => e ▸ h) id) (by
  show ((Cond.code y cc nL rt) :: gWS).all goodWord = true
  rw [List.all_cons, gws_good, Bool.and_true]
  exact List.all_eq_true.mp gws_good _ h)
theorem glit_ge : ∀ q ∈ gLit, gSB ≤ q.2.2.2 := by decide +kernel
theorem gCst_moved {C D : String} {u U : State} (hvm : u.vm.Alike U.vm) (h : va_Nw (.castable C D) u) : va_Nw (.castable C D) U := by
  unfold va_Nw at h ⊢
  simp only [Cond.before, Cond.holds, Cond.value, hvm.findClass] at h ⊢
  cases h1 : u.vm.findClass C with
  | none => simp [h1] at h
  | some a =>
    cases h2 : u.vm.findClass D with
    | none => simp [h1, h2] at h
    | some b => simpa [h1, h2, hvm.assignable] using h
theorem gNw_warm {w : Cond} {s U : State} (hw : w ∈ gNw) (hW : s.WarmedH U.vm) (h : va_Nw w s) : va_Nw w U := by
  have hp := (List.mem_filter.mp hw).2
  cases w with
  | fieldLinkNest => exact va_Nw.warmF hW h
  | methodLinkNest => exact va_Nw.warmM hW h
  | declares => exact va_Nw.warmD hW h
  | castable => exact gCst_moved hW.alike h
  | _ => cases hp
theorem gNw_same {w : Cond} {s U : State} (hw : w ∈ gNw) (hv : s.vm = U.vm) (h : va_Nw w s) : va_Nw w U := by
  have hp := (List.mem_filter.mp hw).2
  cases w with
  | fieldLinkNest => exact va_Nw.same rfl hv h
  | methodLinkNest => exact va_Nw.same rfl hv h
  | declares => exact va_Nw.same rfl hv h
  | castable => exact va_Nw.same rfl hv h
  | _ => cases hp
theorem gEnv_to {A A1 : Nat → Prop} {adV ad ad1 : Nat → Nat} {s U : State} {H : Heap} {locs : List Loc} (hE : gEnv A adV ad s s.heap) (hW : s.WarmedH U.vm) (hS : va_S A s.heap H locs) (hA : ∀ q, A1 q → A q) (had : ∀ a : Nat, gSB ≤ a → ad1 a = ad a) : gEnv A1 adV ad1 U H := by
  obtain ⟨e1, e2, e3, e4, e5, e6, e7, e8, e9, e10, e11, e12⟩ := hE
  refine ⟨fun w hw => gNw_warm hw hW (e1 w hw), fun q hq => ?_, ?_, vx_Zq.moved hW.alike ((e4.kept hS.2.1).narrow hA), vx_Zq.moved hW.alike ((e5.kept hS.2.1).narrow hA), va_AO.moved hW.alike e6, va_AO.moved hW.alike e7, va_AO2.moved hW.alike e8, fun q hq => (e9 q hq).moved hW.alike, va_Z.moved hW.alike ((e10.kept hS.2.1).narrow hA), ?_, fun i hi => (had _ (by omega)).trans (e12 i hi)⟩
  · rw [had _ (glit_ge q hq)]
    exact vk_R.warm hW (e2 q hq)
  · rw [show (fun i => ad1 (gSB + i)) = (fun i => ad (gSB + i)) from funext fun i => had _ (Nat.le_add_right _ _)]
    exact vk_S.moved hW.alike ((e3.kept hS.2.1).narrow hA)
  · rw [had _ (by omega)]
    exact e11.imp (fun h => va_Z.moved hW.alike ((h.kept hS.2.1).narrow hA)) (fun h => va_Z.moved hW.alike ((h.kept hS.2.1).narrow hA))
theorem gEnv_calling {A : Nat → Prop} {adV ad : Nat → Nat} {U : State} {H : Heap} (g : JFrame) (mk : MethodId) (a : Array Value) (h : gEnv A adV ad U H) : gEnv A adV ad (U.calling g mk a) H := by
  obtain ⟨e1, e2, e3, e4, e5, e6, e7, e8, e9, e10, e11, e12⟩ := h
  have hal := Vm.Alike.refl U.vm
  exact ⟨fun w hw => gNw_same (s := U) (U := U.calling g mk a) hw rfl (e1 w hw), fun q hq => vk_R.same (u := U) (U := U.calling g mk a) rfl (e2 q hq), vk_S.moved (U := U.calling g mk a) hal e3, vx_Zq.moved (U := U.calling g mk a) hal e4, vx_Zq.moved (U := U.calling g mk a) hal e5, va_AO.moved (U := U.calling g mk a) hal e6, va_AO.moved (U := U.calling g mk a) hal e7, va_AO2.moved (U := U.calling g mk a) hal e8, fun q hq => va_Nc.moved (U := U.calling g mk a) hal (e9 q hq), va_Z.moved (U := U.calling g mk a) hal e10, e11.imp (fun h => va_Z.moved (U := U.calling g mk a) hal h) (fun h => va_Z.moved (U := U.calling g mk a) hal h), e12⟩
theorem gBlind {A : Nat → Prop} {D : va_G} {dA : Nat → ClassId} {adV ad : Nat → Nat} {T : gT} {M : gM} {sz : Nat} {av : List Value} : FrameBlind (va_Pc av (gIn A D dA adV ad T M sz)) := by
  intro a U g mk ⟨q1, q2, q3, q4, q5, q6, q7⟩
  exact ⟨q1, q2, q3, q4, q5, va_K.moved (u := U) (U := U.calling g mk a) (Vm.Alike.refl U.vm) q6, gEnv_calling g mk a q7⟩
theorem gA_sub {Z : gZ} {ad : Nat → Nat} {T : gT} {M : gM} {H : Heap} {locs : List Loc} {s : State} (hR : gRp Z ad T M H locs) (hH : Z.2.2.1 = s.heap) (hA : ∀ q : Nat, s.heap.size ≤ q → Z.2.1 q) : ∀ q, gA ad T.length H.size q → Z.2.1 q := by
  rintro q (⟨a, ha, rfl⟩ | h)
  · obtain ⟨sh, hsh⟩ : ∃ sh, T[a]? = some sh := ⟨T[a], List.getElem?_eq_getElem ha⟩
    exact hR.2.1.2 a _ (gW_get hsh)
  · exact hA q (Nat.le_trans (by have := hR.2.2.1.1; rw [hH] at this; exact this) h)
/-- the callee may begin -/
theorem gIn_of {Z : gZ} {ad : Nat → Nat} {T : gT} {M : gM} {H : Heap} {locs : List Loc} {s U : State} {adV : Nat → Nat} (hR : gRp Z ad T M H locs) (hH : Z.2.2.1 = s.heap) (hA : ∀ q : Nat, s.heap.size ≤ q → Z.2.1 q) (hK : va_K Z.2.2.2.1 vwCl (gTy Z.2.2.2.2.1) s) (hE : gEnv Z.2.1 adV Z.2.2.2.2.2.2 s s.heap) (hU : U.heap = H) (hW : s.WarmedH U.vm) :
    gIn (gA ad T.length H.size) Z.2.2.2.1 Z.2.2.2.2.1 adV ad T M H.size U := by
  have hS := hR.2.2.1
  rw [hH] at hS
  refine ⟨by rw [hU], by rw [hU]; exact hR.1, hR.2.1.weaken (fun k q hk _ => ?_), hR.2.2.2.1, va_K.moved hW.alike hK, by rw [hU]; exact gEnv_to hE hW hS (gA_sub hR hH hA) hR.2.2.2.2⟩
  obtain ⟨sh, h1, h2⟩ := gW_inv hk
  exact Or.inl ⟨k, (List.getElem?_eq_some_iff.mp h1).1, by rw [h2]⟩
section GE
variable {d : Nat} {y : MethodName} {cc : ByteArray} {nL : Nat} {rt : Option FieldType} {mc ms : Nat} {av : List Value} {T : gT} {M : gM} {Acc : gAcc}
theorem gmp_args (ad : Nat → Nat) : ∀ (av : List Value) (i : Nat), lv_args i (av.map (gv ad)) = gmp ad (lv_args i av)
  | [], _ => rfl
  | v :: vs, i => by
    show (i, gv ad v) :: lv_args (if (gv ad v).category = 2 then i + 2 else i + 1) (vs.map (gv ad)) = (i, gv ad v) :: gmp ad (lv_args (if v.category = 2 then i + 2 else i + 1) vs)
    rw [gv_cat, gmp_args ad vs]
theorem glg_len (ad : Nat → Nat) : ∀ (av : List Value), (lg_sl (av.map (gv ad))).length = (lg_sl av).length
  | [] => rfl
  | v :: vs => by
    have ih := glg_len ad vs
    simp only [lg_sl, List.map_cons, List.flatMap_cons, List.length_append] at ih ⊢
    rw [ih, gv_cat]
    split <;> rfl
/-- a contract out of a walk -/
theorem gRet_of {own : String} (hy : plainName y.cls = true) (hcls : y.cls = own) (hlen : (lg_sl av).length ≤ nL)
    (body : ∀ (Z : gZ) (ad0 : Nat → Nat), Z.2.2.2.2.2.1 = nL → Z.2.2.2.2.2.2 = ad0 → gFix Z cc own y.name rt d mc ms (Acc ad0) (fun _ _ _ _ => False) → gG Z ad0 T M 0 0 0 (lv_args 0 av) []) : gRet d y cc nL rt mc ms av T M Acc := by
  intro l hst D dA adV ad0 sz
  refine Met.ofW (cc := cc) (maxL := nL) (ret := rt) hy rfl ?_
  intro p e s m args below meth c s₁ B hml hv
  obtain ⟨rfl, hsz, hP, hD, hC, hK, hE⟩ := hv
  subst hsz
  have hts := atoms_spec (ws := gWs y cc nL rt) B.pre
  have hown : s.vm.findClass own = some m.cls := by rw [← hcls]; exact findClass_of_methodNamed B.named
  have hnm : meth.name = y.name := (name_of_methodNamed B.named B.method).1
  have hr := B.returns
  have hlocks := B.notSynchronized
  generalize hZ : (((fun H locs ce so pc la st => W p l e ((headSpec (gWs y cc nL rt) { frames := d, cells := mc, slots := ms, locals := 64 * d }).room) s m ((av.map (gv ad0)).toArray) below meth c H locs ce so (MQ below (gOut (gA ad0 T.length s.heap.size) D dA ad0 Acc) ((av.map (gv ad0)).toArray) s mc ms (gA ad0 T.length s.heap.size)) (F0 m pc la st)), gA ad0 T.length s.heap.size, s.heap, D, dA, nL, ad0) : gZ) = Z
  have hb := body Z ad0 (by rw [← hZ]) (by rw [← hZ]) ⟨p, l, e, _, s, m, _, below, meth, c, _, adV, by
    subst hZ
    refine ⟨rfl, B.exec, B.bytes, hml, hown, fun w hw => hts w (List.mem_cons_of_mem _ hw), hK, rfl, fun q hq => Or.inr hq, hE, ⟨Nat.le_refl d, Nat.le_refl _, Nat.le_refl mc, Nat.le_refl ms⟩, hnm, hlocks, hst, ?_, ?_, ?_, ?_, fun _ _ _ _ _ _ _ _ _ _ _ _ _ _ _ _ _ h => h.elim, fun _ _ _ _ _ _ _ _ _ _ _ _ _ _ h => h.elim⟩
    · intro H locs ce so pc la ad T1 M1 x ty hR hrt hn hd ha h1 h2
      refine W.widen h1 h2 ?_
      exact W.zret B.exec B.bytes (hr.trans hrt) hn (fun t ht hW => ⟨⟨some (.int x), ad, T1, M1, rfl, ha, by rw [ht]; exact hR.1, hR.2.1, hR.2.2.2.1, hR.2.2.2.2⟩, hR.2.2.1.F ht⟩) hR.2.2.1.2.2 hd hlocks
    · intro H locs ce so pc la ad T1 M1 x hR hrt hd ha h1 h2
      refine W.widen h1 h2 ?_
      exact W.lret B.exec B.bytes (hr.trans hrt) (fun t ht hW => ⟨⟨some (.long x), ad, T1, M1, rfl, ha, by rw [ht]; exact hR.1, hR.2.1, hR.2.2.2.1, hR.2.2.2.2⟩, hR.2.2.1.F ht⟩) hR.2.2.1.2.2 hd hlocks
    · intro H locs ce so pc la ad T1 M1 a ty hR hrt hty hd ha h1 h2
      refine W.widen h1 h2 ?_
      exact W.aret B.exec B.bytes (hr.trans hrt) hty (Or.inr ⟨_, rfl⟩) (fun t ht hW => ⟨⟨some (.ref a), ad, T1, M1, rfl, ha, by rw [ht]; exact hR.1, hR.2.1, hR.2.2.2.1, hR.2.2.2.2⟩, hR.2.2.1.F ht⟩) hR.2.2.1.2.2 hd hlocks
    · intro H locs ce so pc la ad T1 M1 hR hrt hd ha h1 h2
      refine W.widen h1 h2 ?_
      exact W.vret B.exec B.bytes (hr.trans hrt) (fun t ht hW => ⟨⟨none, ad, T1, M1, rfl, ha, by rw [ht]; exact hR.1, hR.2.1, hR.2.2.2.1, hR.2.2.2.2⟩, hR.2.2.1.F ht⟩) hR.2.2.1.2.2 hd hlocks⟩
  rw [lg_entry_eq]
  have hl := lv_entry (av.map (gv ad0)) (n := nL) (by rw [glg_len]; exact hlen)
  rw [gmp_args] at hl
  subst hZ
  exact hb s.heap [] _ ⟨hP, hD, va_S.rf, hC, fun _ _ => rfl⟩ hl
end GE
/-- behind a call -/
theorem g_after {p : Program} {l : Launch} {e : Env} {R : Room} {s : State} {m : MethodId} {args : Array Value} {below : List Frame} {meth : Method} {c : Code} {H : Heap} {locs : List Loc} {ce so mc ms pc : Nat} {la : Array Slot} {st0 rest : List Value} {a : Array Value} {Q : State → Prop} {Z : gZ} {ad : Nat → Nat} {T : gT} {M : gM} {Acc : gAcc}
    (hr : va_Run p l e R s m args below meth c H locs ce so mc ms (F0 m pc la st0) rest (gOut (gA ad T.length H.size) Z.2.2.2.1 Z.2.2.2.2.1 ad Acc a) (gA ad T.length H.size)) (hR : gRp Z ad T M H locs) (hf : ∀ q, gA ad T.length H.size q → Z.2.1 q)
    (kk : ∀ (v : Option Value) (ad1 : Nat → Nat) (T1 : gT) (M1 : gM) (H1 : Heap) (locs1 : List Loc), Acc ad v ad1 T1 M1 → gRp Z ad1 T1 M1 H1 locs1 → W p l e R s m args below meth c H1 locs1 (ce + mc) (so + ms) Q (F0 m (pc + 3) la ((v.map (gv ad1)).toList ++ rest))) : W p l e R s m args below meth c H locs ce so Q (F0 m pc la st0) := by
  intro T9 hT X
  obtain ⟨v, st₀, t, T', L, h0, X', hL, e1, e2, ⟨⟨v1, ad1, T1, M1, hv, ha, hP, hD, hC, had⟩, hz, hk⟩, st⟩ := hr T9 hT X
  cases hv
  rw [h0] at hz hk
  obtain ⟨t2, a1, b1⟩ := kk v1 ad1 T1 M1 T'.heap (locs ++ L) ha ⟨by rw [e1]; exact hP, hD.weaken (fun k q hq h9 => hf _ h9), ⟨Nat.le_trans hR.2.2.1.1 (by rw [e1]; exact hz), fun q h1 h2 => by rw [e1, hk q (Nat.lt_of_lt_of_le h1 hR.2.2.1.1) (fun z => h2 (hf _ z))]; exact hR.2.2.1.2.1 q h1 h2, fun q hq => by
      rcases List.mem_append.mp hq with h | h
      · exact hR.2.2.1.2.2 q h
      · exact hf _ (hL q h)⟩, hC, fun a ha => (had a ha).trans (hR.2.2.2.2 a ha)⟩ T' rfl X'
  exact ⟨t2, st t2 a1, b1⟩
/-- what the tables say of a method that is called -/
def gMy (y : MethodName) (cc : ByteArray) (nL : Nat) (rt : Option FieldType) (n : Nat) : Prop := Cond.code y cc nL rt ∈ gWS ∧ Cond.initialized y.cls ∈ gWS ∧ (y.cls ≠ "java/lang/invoke/MethodHandle" ∧ y.cls ≠ "java/lang/invoke/VarHandle") ∧ (parseMethodDescriptor y.desc).map (fun d => d.parameters.length) = some n ∧ nL ≤ 45
section GCALL
variable {Z : gZ} {cc : ByteArray} {own nm : String} {rt : Option FieldType} {d mc ms : Nat} {Acc : Option Value → (Nat → Nat) → gT → gM → Prop} {AccX : Nat → (Nat → Nat) → gT → gM → Prop} {ad : Nat → Nat} {T : gT} {M : gM} {ce so pc : Nat} {ls : List (Nat × Value)} {st st0 : List Value}
variable {y : MethodName} {cc' : ByteArray} {nL' n idx mc' ms' d' : Nat} {rt' : Option FieldType} {as : List Value} {Acc' : gAcc}
theorem g_callV (hF : gFix Z cc own nm rt d mc ms Acc AccX) {b ci : Nat} {C : String} (hm : gMy y cc' nL' rt' n) (hlk : Cond.methodLink own idx y ∈ gWS) (hin : Cond.instanceMethod y ∈ gWS) (hse : Cond.selects C y y ∈ gWS) {TT : u_T} {N : Nat} (hC : vwCl[ci]? = some (C, TT, N)) (hci : ci < 10) {len9 : Nat} (hTb : T[b]? = some (ci, len9)) (hc : gRet d' y cc' nL' rt' mc' ms' (.ref b :: as) T M Acc') (hdd : d' + 1 ≤ d) (hmc : ce + mc' ≤ mc) (hms : so + ms' ≤ ms) (hn : as.length = n) (hst0 : st0 = as.reverse ++ .ref b :: st) (hcat : (st.map fun v => v.category).sum ≤ 8) (hd : decode cc pc = .ok (.invokevirtual idx, 3))
    (k : ∀ (v : Option Value) (ad1 : Nat → Nat) (T1 : gT) (M1 : gM), Acc' ad v ad1 T1 M1 → (∀ a : Nat, gSB ≤ a → ad1 a = ad a) → ∀ H locs la, gRp Z ad1 T1 M1 H locs → lv_has la Z.2.2.2.2.2.1 (gmp ad ls) → Z.1 H locs (ce + mc') (so + ms') (pc + 3) la ((v.map (gv ad1)).toList ++ st.map (gv ad))) : gG Z ad T M ce so pc ls st0 := by
  obtain ⟨p, l, e, R, s, m, args, below, meth, c, Q, adV, hKq, hx, hb, hml, hown, hts, hK, hH, hA, hE, hRm, hnm, hlk9, hst, -⟩ := hF
  intro H locs la hR hl
  subst hst0
  have k := fun v ad1 T1 M1 ha had H1 locs1 hR1 => k v ad1 T1 M1 ha had H1 locs1 la hR1 hl
  rw [hKq] at k ⊢
  dsimp only at k ⊢
  obtain ⟨hm1, hm2, hm3, hm4, hm5⟩ := hm
  have hgw := gws_in hm1
  have hroom : d' + 1 ≤ R.frames ∧ 8 + (nL' + 11) + 64 * d' ≤ R.locals := ⟨by have := hRm.1; omega, by have := hRm.2.1; omega⟩
  have hlen : (as.map (gv ad)).length = n := by rw [List.length_map]; exact hn
  have hrest : (((st.map (gv ad)).map fun v => v.category).sum) ≤ 8 := by
    rw [List.map_map, show ((fun v : Value => v.category) ∘ gv ad) = (fun v => v.category) from funext fun v => gv_cat ad v]
    exact hcat
  have hbd : ce + mc' ≤ R.cells ∧ so + ms' ≤ R.slots := ⟨Nat.le_trans hmc hRm.2.2.1, Nat.le_trans hms hRm.2.2.2⟩
  have hrecv : ∃ cellB : Cell, H[ad b]? = some cellB ∧ cellB.vm.isStatics = false ∧ s.vm.findClass C = some cellB.cls := by
    have he := gW_get (dA := Z.2.2.2.2.1) (ad := ad) (M := M) hTb
    rw [gE_obj hci] at he
    exact va_recv hK hR.1 hC he
  have hcb := callB_of (R := R) (rm := { frames := d', cells := mc', slots := ms', locals := 64 * d' }) (mc := mc') (ms := ms') n hts hgw rfl rfl rfl (hts _ hm2) (hts _ hlk) ⟨hm3.1, hm3.2, hm4⟩ hroom
  have hrun := va_runV (e := e) (below := below) (meth := meth) (H := H) (locs := locs) (cells := ce) (slots := so) (b := ad b) (As := as.map (gv ad)) (rest := st.map (gv ad)) (g := F0 m pc la ((as.reverse ++ .ref b :: st).map (gv ad))) ⟨hx, hb, hml, hown, hts⟩ (hc l hst Z.2.2.2.1 Z.2.2.2.2.1 adV ad H.size) ⟨hcb, hts _ hin, hts _ hse⟩ ⟨gBlind, hrecv, fun U hU hW => ⟨rfl, gIn_of hR hH hA hK hE hU hW⟩⟩ rfl hlen hl.1 (by show (as.reverse ++ .ref b :: st).map (gv ad) = _; rw [List.map_append, List.map_reverse]; rfl) (lv_room (pc := pc) (ls := la) (rest := (as.reverse ++ .ref b :: st).map (gv ad)) (m := m) hrest) hd hbd
  exact g_after hrun hR (gA_sub hR hH hA) (fun v ad1 T1 M1 H1 locs1 ha hR1 => k v ad1 T1 M1 ha (fun a q => (hR1.2.2.2.2 a q).trans (hR.2.2.2.2 a q).symm) H1 locs1 hR1)

theorem g_callVSt (hF : gFix Z cc own nm rt d mc ms Acc AccX) {b i : Nat} (hm : gMy y cc' nL' rt' n) (hlk : Cond.methodLink own idx y ∈ gWS) (hin : Cond.instanceMethod y ∈ gWS) (hse : Cond.selects "java/lang/String" y y ∈ gWS) (hi : i < 13) (hbi : b = gSB + i) (hc : gRet d' y cc' nL' rt' mc' ms' (.ref b :: as) T M Acc') (hdd : d' + 1 ≤ d) (hmc : ce + mc' ≤ mc) (hms : so + ms' ≤ ms) (hn : as.length = n) (hst0 : st0 = as.reverse ++ .ref b :: st) (hcat : (st.map fun v => v.category).sum ≤ 8) (hd : decode cc pc = .ok (.invokevirtual idx, 3))
    (k : ∀ (v : Option Value) (ad1 : Nat → Nat) (T1 : gT) (M1 : gM), Acc' ad v ad1 T1 M1 → (∀ a : Nat, gSB ≤ a → ad1 a = ad a) → ∀ H locs la, gRp Z ad1 T1 M1 H locs → lv_has la Z.2.2.2.2.2.1 (gmp ad ls) → Z.1 H locs (ce + mc') (so + ms') (pc + 3) la ((v.map (gv ad1)).toList ++ st.map (gv ad))) : gG Z ad T M ce so pc ls st0 := by
  obtain ⟨p, l, e, R, s, m, args, below, meth, c, Q, adV, hKq, hx, hb, hml, hown, hts, hK, hH, hA, hE, hRm, hnm, hlk9, hst, -⟩ := hF
  intro H locs la hR hl
  subst hst0
  have k := fun v ad1 T1 M1 ha had H1 locs1 hR1 => k v ad1 T1 M1 ha had H1 locs1 la hR1 hl
  rw [hKq] at k ⊢
  dsimp only at k ⊢
  obtain ⟨hm1, hm2, hm3, hm4, hm5⟩ := hm
  have hgw := gws_in hm1
  have hroom : d' + 1 ≤ R.frames ∧ 8 + (nL' + 11) + 64 * d' ≤ R.locals := ⟨by have := hRm.1; omega, by have := hRm.2.1; omega⟩
  have hlen : (as.map (gv ad)).length = n := by rw [List.length_map]; exact hn
  have hrest : (((st.map (gv ad)).map fun v => v.category).sum) ≤ 8 := by
    rw [List.map_map, show ((fun v : Value => v.category) ∘ gv ad) = (fun v => v.category) from funext fun v => gv_cat ad v]
    exact hcat
  have hbd : ce + mc' ≤ R.cells ∧ so + ms' ≤ R.slots := ⟨Nat.le_trans hmc hRm.2.2.1, Nat.le_trans hms hRm.2.2.2⟩
  have hrecv : ∃ cellB : Cell, H[ad b]? = some cellB ∧ cellB.vm.isStatics = false ∧ s.vm.findClass "java/lang/String" = some cellB.cls := by
    have hS9 := hR.2.2.1
    rw [hH] at hS9
    rw [hbi, hR.2.2.2.2 _ (Nat.le_add_right _ _)]
    exact vk_recv (i := i) (adK := fun j => Z.2.2.2.2.2.2 (gSB + j)) hE.2.2.1 hi hS9
  have hcb := callB_of (R := R) (rm := { frames := d', cells := mc', slots := ms', locals := 64 * d' }) (mc := mc') (ms := ms') n hts hgw rfl rfl rfl (hts _ hm2) (hts _ hlk) ⟨hm3.1, hm3.2, hm4⟩ hroom
  have hrun := va_runV (e := e) (below := below) (meth := meth) (H := H) (locs := locs) (cells := ce) (slots := so) (b := ad b) (As := as.map (gv ad)) (rest := st.map (gv ad)) (g := F0 m pc la ((as.reverse ++ .ref b :: st).map (gv ad))) ⟨hx, hb, hml, hown, hts⟩ (hc l hst Z.2.2.2.1 Z.2.2.2.2.1 adV ad H.size) ⟨hcb, hts _ hin, hts _ hse⟩ ⟨gBlind, hrecv, fun U hU hW => ⟨rfl, gIn_of hR hH hA hK hE hU hW⟩⟩ rfl hlen hl.1 (by show (as.reverse ++ .ref b :: st).map (gv ad) = _; rw [List.map_append, List.map_reverse]; rfl) (lv_room (pc := pc) (ls := la) (rest := (as.reverse ++ .ref b :: st).map (gv ad)) (m := m) hrest) hd hbd
  exact g_after hrun hR (gA_sub hR hH hA) (fun v ad1 T1 M1 H1 locs1 ha hR1 => k v ad1 T1 M1 ha (fun a q => (hR1.2.2.2.2 a q).trans (hR.2.2.2.2 a q).symm) H1 locs1 hR1)

theorem g_callVN (hF : gFix Z cc own nm rt d mc ms Acc AccX) {b ci : Nat} {C : String} (hm : gMy y cc' nL' rt' n) {host : String} (hlk : Cond.methodLinkNest own idx y host ∈ gNw) (hin : Cond.instanceMethod y ∈ gWS) (hse : Cond.selects C y y ∈ gWS) {TT : u_T} {N : Nat} (hC : vwCl[ci]? = some (C, TT, N)) (hci : ci < 10) {len9 : Nat} (hTb : T[b]? = some (ci, len9)) (hc : gRet d' y cc' nL' rt' mc' ms' (.ref b :: as) T M Acc') (hdd : d' + 1 ≤ d) (hmc : ce + mc' ≤ mc) (hms : so + ms' ≤ ms) (hn : as.length = n) (hst0 : st0 = as.reverse ++ .ref b :: st) (hcat : (st.map fun v => v.category).sum ≤ 8) (hd : decode cc pc = .ok (.invokevirtual idx, 3))
    (k : ∀ (v : Option Value) (ad1 : Nat → Nat) (T1 : gT) (M1 : gM), Acc' ad v ad1 T1 M1 → (∀ a : Nat, gSB ≤ a → ad1 a = ad a) → ∀ H locs la, gRp Z ad1 T1 M1 H locs → lv_has la Z.2.2.2.2.2.1 (gmp ad ls) → Z.1 H locs (ce + mc') (so + ms') (pc + 3) la ((v.map (gv ad1)).toList ++ st.map (gv ad))) : gG Z ad T M ce so pc ls st0 := by
  obtain ⟨p, l, e, R, s, m, args, below, meth, c, Q, adV, hKq, hx, hb, hml, hown, hts, hK, hH, hA, hE, hRm, hnm, hlk9, hst, -⟩ := hF
  intro H locs la hR hl
  subst hst0
  have k := fun v ad1 T1 M1 ha had H1 locs1 hR1 => k v ad1 T1 M1 ha had H1 locs1 la hR1 hl
  rw [hKq] at k ⊢
  dsimp only at k ⊢
  obtain ⟨hm1, hm2, hm3, hm4, hm5⟩ := hm
  have hgw := gws_in hm1
  have hroom : d' + 1 ≤ R.frames ∧ 8 + (nL' + 11) + 64 * d' ≤ R.locals := ⟨by have := hRm.1; omega, by have := hRm.2.1; omega⟩
  have hlen : (as.map (gv ad)).length = n := by rw [List.length_map]; exact hn
  have hrest : (((st.map (gv ad)).map fun v => v.category).sum) ≤ 8 := by
    rw [List.map_map, show ((fun v : Value => v.category) ∘ gv ad) = (fun v => v.category) from funext fun v => gv_cat ad v]
    exact hcat
  have hbd : ce + mc' ≤ R.cells ∧ so + ms' ≤ R.slots := ⟨Nat.le_trans hmc hRm.2.2.1, Nat.le_trans hms hRm.2.2.2⟩
  have hrecv : ∃ cellB : Cell, H[ad b]? = some cellB ∧ cellB.vm.isStatics = false ∧ s.vm.findClass C = some cellB.cls := by
    have he := gW_get (dA := Z.2.2.2.2.1) (ad := ad) (M := M) hTb
    rw [gE_obj hci] at he
    exact va_recv hK hR.1 hC he
  have hcb := va_cnB (R := R) (rm := { frames := d', cells := mc', slots := ms', locals := 64 * d' }) (mc := mc') (ms := ms') n hts hgw rfl rfl rfl (hE.1 _ hlk) (hts _ hm2) ⟨hm3.1, hm3.2, hm4⟩ hroom
  have hrun := va_runVN (e := e) (below := below) (meth := meth) (H := H) (locs := locs) (cells := ce) (slots := so) (b := ad b) (As := as.map (gv ad)) (rest := st.map (gv ad)) (g := F0 m pc la ((as.reverse ++ .ref b :: st).map (gv ad))) ⟨hx, hb, hml, hown, hts⟩ (hc l hst Z.2.2.2.1 Z.2.2.2.2.1 adV ad H.size) ⟨hcb, hts _ hin, hts _ hse⟩ ⟨gBlind, hrecv, fun U hU hW => ⟨rfl, gIn_of hR hH hA hK hE hU hW⟩⟩ rfl hlen hl.1 (by show (as.reverse ++ .ref b :: st).map (gv ad) = _; rw [List.map_append, List.map_reverse]; rfl) (lv_room (pc := pc) (ls := la) (rest := (as.reverse ++ .ref b :: st).map (gv ad)) (m := m) hrest) hd hbd
  exact g_after hrun hR (gA_sub hR hH hA) (fun v ad1 T1 M1 H1 locs1 ha hR1 => k v ad1 T1 M1 ha (fun a q => (hR1.2.2.2.2 a q).trans (hR.2.2.2.2 a q).symm) H1 locs1 hR1)

theorem g_callS (hF : gFix Z cc own nm rt d mc ms Acc AccX) (hm : gMy y cc' nL' rt' n) (hlk : Cond.methodLink own idx y ∈ gWS) (hsta : Cond.static y ∈ gWS) (hc : gRet d' y cc' nL' rt' mc' ms' as T M Acc') (hdd : d' + 1 ≤ d) (hmc : ce + mc' ≤ mc) (hms : so + ms' ≤ ms) (hn : as.length = n) (hst0 : st0 = as.reverse ++ st) (hcat : (st.map fun v => v.category).sum ≤ 8) (hd : decode cc pc = .ok (.invokestatic idx, 3))
    (k : ∀ (v : Option Value) (ad1 : Nat → Nat) (T1 : gT) (M1 : gM), Acc' ad v ad1 T1 M1 → (∀ a : Nat, gSB ≤ a → ad1 a = ad a) → ∀ H locs la, gRp Z ad1 T1 M1 H locs → lv_has la Z.2.2.2.2.2.1 (gmp ad ls) → Z.1 H locs (ce + mc') (so + ms') (pc + 3) la ((v.map (gv ad1)).toList ++ st.map (gv ad))) : gG Z ad T M ce so pc ls st0 := by
  obtain ⟨p, l, e, R, s, m, args, below, meth, c, Q, adV, hKq, hx, hb, hml, hown, hts, hK, hH, hA, hE, hRm, hnm, hlk9, hst, -⟩ := hF
  intro H locs la hR hl
  subst hst0
  have k := fun v ad1 T1 M1 ha had H1 locs1 hR1 => k v ad1 T1 M1 ha had H1 locs1 la hR1 hl
  rw [hKq] at k ⊢
  dsimp only at k ⊢
  obtain ⟨hm1, hm2, hm3, hm4, hm5⟩ := hm
  have hgw := gws_in hm1
  have hroom : d' + 1 ≤ R.frames ∧ 8 + (nL' + 11) + 64 * d' ≤ R.locals := ⟨by have := hRm.1; omega, by have := hRm.2.1; omega⟩
  have hlen : (as.map (gv ad)).length = n := by rw [List.length_map]; exact hn
  have hrest : (((st.map (gv ad)).map fun v => v.category).sum) ≤ 8 := by
    rw [List.map_map, show ((fun v : Value => v.category) ∘ gv ad) = (fun v => v.category) from funext fun v => gv_cat ad v]
    exact hcat
  have hbd : ce + mc' ≤ R.cells ∧ so + ms' ≤ R.slots := ⟨Nat.le_trans hmc hRm.2.2.1, Nat.le_trans hms hRm.2.2.2⟩
  have hcb := callB_of (R := R) (rm := { frames := d', cells := mc', slots := ms', locals := 64 * d' }) (mc := mc') (ms := ms') n hts hgw rfl rfl rfl (hts _ hm2) (hts _ hlk) ⟨hm3.1, hm3.2, hm4⟩ hroom
  have hrun := va_runS (e := e) (below := below) (meth := meth) (H := H) (locs := locs) (cells := ce) (slots := so) (As := as.map (gv ad)) (rest := st.map (gv ad)) (g := F0 m pc la ((as.reverse ++ st).map (gv ad))) ⟨hx, hb, hml, hown, hts⟩ (hc l hst Z.2.2.2.1 Z.2.2.2.2.1 adV ad H.size) ⟨hcb, hts _ hsta⟩ ⟨gBlind, fun U hU hW => ⟨rfl, gIn_of hR hH hA hK hE hU hW⟩⟩ rfl hlen hl.1 (by show (as.reverse ++ st).map (gv ad) = _; rw [List.map_append, List.map_reverse]) (lv_room (pc := pc) (ls := la) (rest := (as.reverse ++ st).map (gv ad)) (m := m) hrest) hd hbd
  exact g_after hrun hR (gA_sub hR hH hA) (fun v ad1 T1 M1 H1 locs1 ha hR1 => k v ad1 T1 M1 ha (fun a q => (hR1.2.2.2.2 a q).trans (hR.2.2.2.2 a q).symm) H1 locs1 hR1)

theorem g_callSN (hF : gFix Z cc own nm rt d mc ms Acc AccX) (hm : gMy y cc' nL' rt' n) {host : String} (hlk : Cond.methodLinkNest own idx y host ∈ gNw) (hsta : Cond.static y ∈ gWS) (hc : gRet d' y cc' nL' rt' mc' ms' as T M Acc') (hdd : d' + 1 ≤ d) (hmc : ce + mc' ≤ mc) (hms : so + ms' ≤ ms) (hn : as.length = n) (hst0 : st0 = as.reverse ++ st) (hcat : (st.map fun v => v.category).sum ≤ 8) (hd : decode cc pc = .ok (.invokestatic idx, 3))
    (k : ∀ (v : Option Value) (ad1 : Nat → Nat) (T1 : gT) (M1 : gM), Acc' ad v ad1 T1 M1 → (∀ a : Nat, gSB ≤ a → ad1 a = ad a) → ∀ H locs la, gRp Z ad1 T1 M1 H locs → lv_has la Z.2.2.2.2.2.1 (gmp ad ls) → Z.1 H locs (ce + mc') (so + ms') (pc + 3) la ((v.map (gv ad1)).toList ++ st.map (gv ad))) : gG Z ad T M ce so pc ls st0 := by
  obtain ⟨p, l, e, R, s, m, args, below, meth, c, Q, adV, hKq, hx, hb, hml, hown, hts, hK, hH, hA, hE, hRm, hnm, hlk9, hst, -⟩ := hF
  intro H locs la hR hl
  subst hst0
  have k := fun v ad1 T1 M1 ha had H1 locs1 hR1 => k v ad1 T1 M1 ha had H1 locs1 la hR1 hl
  rw [hKq] at k ⊢
  dsimp only at k ⊢
  obtain ⟨hm1, hm2, hm3, hm4, hm5⟩ := hm
  have hgw := gws_in hm1
  have hroom : d' + 1 ≤ R.frames ∧ 8 + (nL' + 11) + 64 * d' ≤ R.locals := ⟨by have := hRm.1; omega, by have := hRm.2.1; omega⟩
  have hlen : (as.map (gv ad)).length = n := by rw [List.length_map]; exact hn
  have hrest : (((st.map (gv ad)).map fun v => v.category).sum) ≤ 8 := by
    rw [List.map_map, show ((fun v : Value => v.category) ∘ gv ad) = (fun v => v.category) from funext fun v => gv_cat ad v]
    exact hcat
  have hbd : ce + mc' ≤ R.cells ∧ so + ms' ≤ R.slots := ⟨Nat.le_trans hmc hRm.2.2.1, Nat.le_trans hms hRm.2.2.2⟩
  have hcb := va_cnB (R := R) (rm := { frames := d', cells := mc', slots := ms', locals := 64 * d' }) (mc := mc') (ms := ms') n hts hgw rfl rfl rfl (hE.1 _ hlk) (hts _ hm2) ⟨hm3.1, hm3.2, hm4⟩ hroom
  have hrun := va_runSN (e := e) (below := below) (meth := meth) (H := H) (locs := locs) (cells := ce) (slots := so) (As := as.map (gv ad)) (rest := st.map (gv ad)) (g := F0 m pc la ((as.reverse ++ st).map (gv ad))) ⟨hx, hb, hml, hown, hts⟩ (hc l hst Z.2.2.2.1 Z.2.2.2.2.1 adV ad H.size) ⟨hcb, hts _ hsta, trivial⟩ ⟨gBlind, fun U hU hW => ⟨rfl, gIn_of hR hH hA hK hE hU hW⟩⟩ rfl hlen hl.1 (by show (as.reverse ++ st).map (gv ad) = _; rw [List.map_append, List.map_reverse]) (lv_room (pc := pc) (ls := la) (rest := (as.reverse ++ st).map (gv ad)) (m := m) hrest) hd hbd
  exact g_after hrun hR (gA_sub hR hH hA) (fun v ad1 T1 M1 H1 locs1 ha hR1 => k v ad1 T1 M1 ha (fun a q => (hR1.2.2.2.2 a q).trans (hR.2.2.2.2 a q).symm) H1 locs1 hR1)

theorem g_callI (hF : gFix Z cc own nm rt d mc ms Acc AccX) {b ci : Nat} {C : String} (hm : gMy y cc' nL' none n) (hlk : Cond.methodLink own idx y ∈ gWS) (hin : Cond.instanceMethod y ∈ gWS) (hin0 : y.name = "<init>") {TT : u_T} {N : Nat} (hC : vwCl[ci]? = some (C, TT, N)) (hci : ci < 10) {len9 : Nat} (hTb : T[b]? = some (ci, len9)) (hc : gRet d' y cc' nL' none mc' ms' (.ref b :: as) T M Acc') (hdd : d' + 1 ≤ d) (hmc : ce + mc' ≤ mc) (hms : so + ms' ≤ ms) (hn : as.length = n) (hst0 : st0 = as.reverse ++ .ref b :: st) (hcat : (st.map fun v => v.category).sum ≤ 8) (hd : decode cc pc = .ok (.invokespecial idx, 3))
    (k : ∀ (v : Option Value) (ad1 : Nat → Nat) (T1 : gT) (M1 : gM), Acc' ad v ad1 T1 M1 → (∀ a : Nat, gSB ≤ a → ad1 a = ad a) → ∀ H locs la, gRp Z ad1 T1 M1 H locs → lv_has la Z.2.2.2.2.2.1 (gmp ad ls) → Z.1 H locs (ce + mc') (so + ms') (pc + 3) la ((v.map (gv ad1)).toList ++ st.map (gv ad))) : gG Z ad T M ce so pc ls st0 := by
  obtain ⟨p, l, e, R, s, m, args, below, meth, c, Q, adV, hKq, hx, hb, hml, hown, hts, hK, hH, hA, hE, hRm, hnm, hlk9, hst, -⟩ := hF
  intro H locs la hR hl
  subst hst0
  have k := fun v ad1 T1 M1 ha had H1 locs1 hR1 => k v ad1 T1 M1 ha had H1 locs1 la hR1 hl
  rw [hKq] at k ⊢
  dsimp only at k ⊢
  obtain ⟨hm1, hm2, hm3, hm4, hm5⟩ := hm
  have hgw := gws_in hm1
  have hroom : d' + 1 ≤ R.frames ∧ 8 + (nL' + 11) + 64 * d' ≤ R.locals := ⟨by have := hRm.1; omega, by have := hRm.2.1; omega⟩
  have hlen : (as.map (gv ad)).length = n := by rw [List.length_map]; exact hn
  have hrest : (((st.map (gv ad)).map fun v => v.category).sum) ≤ 8 := by
    rw [List.map_map, show ((fun v : Value => v.category) ∘ gv ad) = (fun v => v.category) from funext fun v => gv_cat ad v]
    exact hcat
  have hbd : ce + mc' ≤ R.cells ∧ so + ms' ≤ R.slots := ⟨Nat.le_trans hmc hRm.2.2.1, Nat.le_trans hms hRm.2.2.2⟩
  have hrecv : ∃ cellB : Cell, H[ad b]? = some cellB ∧ cellB.vm.isStatics = false ∧ s.vm.findClass C = some cellB.cls := by
    have he := gW_get (dA := Z.2.2.2.2.1) (ad := ad) (M := M) hTb
    rw [gE_obj hci] at he
    exact va_recv hK hR.1 hC he
  have hcb := callB_of (R := R) (rm := { frames := d', cells := mc', slots := ms', locals := 64 * d' }) (mc := mc') (ms := ms') n hts hgw rfl rfl rfl (hts _ hm2) (hts _ hlk) ⟨hm3.1, hm3.2, hm4⟩ hroom
  have hrun := va_runI (e := e) (below := below) (meth := meth) (H := H) (locs := locs) (cells := ce) (slots := so) (b := ad b) (As := as.map (gv ad)) (rest := st.map (gv ad)) (g := F0 m pc la ((as.reverse ++ .ref b :: st).map (gv ad))) ⟨hx, hb, hml, hown, hts⟩ (hc l hst Z.2.2.2.1 Z.2.2.2.2.1 adV ad H.size) ⟨hcb, hin0, hts _ hin⟩ ⟨gBlind, fun U hU hW => ⟨rfl, gIn_of hR hH hA hK hE hU hW⟩⟩ rfl hlen hl.1 (by show (as.reverse ++ .ref b :: st).map (gv ad) = _; rw [List.map_append, List.map_reverse]; rfl) (lv_room (pc := pc) (ls := la) (rest := (as.reverse ++ .ref b :: st).map (gv ad)) (m := m) hrest) hd hbd
  exact g_after hrun hR (gA_sub hR hH hA) (fun v ad1 T1 M1 H1 locs1 ha hR1 => k v ad1 T1 M1 ha (fun a q => (hR1.2.2.2.2 a q).trans (hR.2.2.2.2 a q).symm) H1 locs1 hR1)

theorem g_callIN (hF : gFix Z cc own nm rt d mc ms Acc AccX) {b ci : Nat} {C : String} (hm : gMy y cc' nL' none n) {host : String} (hlk : Cond.methodLinkNest own idx y host ∈ gNw) (hin : Cond.instanceMethod y ∈ gWS) (hin0 : y.name = "<init>") {TT : u_T} {N : Nat} (hC : vwCl[ci]? = some (C, TT, N)) (hci : ci < 10) {len9 : Nat} (hTb : T[b]? = some (ci, len9)) (hc : gRet d' y cc' nL' none mc' ms' (.ref b :: as) T M Acc') (hdd : d' + 1 ≤ d) (hmc : ce + mc' ≤ mc) (hms : so + ms' ≤ ms) (hn : as.length = n) (hst0 : st0 = as.reverse ++ .ref b :: st) (hcat : (st.map fun v => v.category).sum ≤ 8) (hd : decode cc pc = .ok (.invokespecial idx, 3))
    (k : ∀ (v : Option Value) (ad1 : Nat → Nat) (T1 : gT) (M1 : gM), Acc' ad v ad1 T1 M1 → (∀ a : Nat, gSB ≤ a → ad1 a = ad a) → ∀ H locs la, gRp Z ad1 T1 M1 H locs → lv_has la Z.2.2.2.2.2.1 (gmp ad ls) → Z.1 H locs (ce + mc') (so + ms') (pc + 3) la ((v.map (gv ad1)).toList ++ st.map (gv ad))) : gG Z ad T M ce so pc ls st0 := by
  obtain ⟨p, l, e, R, s, m, args, below, meth, c, Q, adV, hKq, hx, hb, hml, hown, hts, hK, hH, hA, hE, hRm, hnm, hlk9, hst, -⟩ := hF
  intro H locs la hR hl
  subst hst0
  have k := fun v ad1 T1 M1 ha had H1 locs1 hR1 => k v ad1 T1 M1 ha had H1 locs1 la hR1 hl
  rw [hKq] at k ⊢
  dsimp only at k ⊢
  obtain ⟨hm1, hm2, hm3, hm4, hm5⟩ := hm
  have hgw := gws_in hm1
  have hroom : d' + 1 ≤ R.frames ∧ 8 + (nL' + 11) + 64 * d' ≤ R.locals := ⟨by have := hRm.1; omega, by have := hRm.2.1; omega⟩
  have hlen : (as.map (gv ad)).length = n := by rw [List.length_map]; exact hn
  have hrest : (((st.map (gv ad)).map fun v => v.category).sum) ≤ 8 := by
    rw [List.map_map, show ((fun v : Value => v.category) ∘ gv ad) = (fun v => v.category) from funext fun v => gv_cat ad v]
    exact hcat
  have hbd : ce + mc' ≤ R.cells ∧ so + ms' ≤ R.slots := ⟨Nat.le_trans hmc hRm.2.2.1, Nat.le_trans hms hRm.2.2.2⟩
  have hrecv : ∃ cellB : Cell, H[ad b]? = some cellB ∧ cellB.vm.isStatics = false ∧ s.vm.findClass C = some cellB.cls := by
    have he := gW_get (dA := Z.2.2.2.2.1) (ad := ad) (M := M) hTb
    rw [gE_obj hci] at he
    exact va_recv hK hR.1 hC he
  have hcb := va_cnB (R := R) (rm := { frames := d', cells := mc', slots := ms', locals := 64 * d' }) (mc := mc') (ms := ms') n hts hgw rfl rfl rfl (hE.1 _ hlk) (hts _ hm2) ⟨hm3.1, hm3.2, hm4⟩ hroom
  have hrun := va_runIN (e := e) (below := below) (meth := meth) (H := H) (locs := locs) (cells := ce) (slots := so) (b := ad b) (As := as.map (gv ad)) (rest := st.map (gv ad)) (g := F0 m pc la ((as.reverse ++ .ref b :: st).map (gv ad))) ⟨hx, hb, hml, hown, hts⟩ (hc l hst Z.2.2.2.1 Z.2.2.2.2.1 adV ad H.size) ⟨hcb, hin0, hts _ hin⟩ ⟨gBlind, fun U hU hW => ⟨rfl, gIn_of hR hH hA hK hE hU hW⟩⟩ rfl hlen hl.1 (by show (as.reverse ++ .ref b :: st).map (gv ad) = _; rw [List.map_append, List.map_reverse]; rfl) (lv_room (pc := pc) (ls := la) (rest := (as.reverse ++ .ref b :: st).map (gv ad)) (m := m) hrest) hd hbd
  exact g_after hrun hR (gA_sub hR hH hA) (fun v ad1 T1 M1 H1 locs1 ha hR1 => k v ad1 T1 M1 ha (fun a q => (hR1.2.2.2.2 a q).trans (hR.2.2.2.2 a q).symm) H1 locs1 hR1)

end GCALL
section GDONE
variable {Z : gZ} {ad : Nat → Nat} {T : gT} {M' : gM} {ce so pc : Nat} {ls : List (Nat × Value)} {st : List Value}
/-- behind a call that made nothing -/
theorem g_same {r : Option Value} (h : gG Z ad T M' ce so pc ls (r.toList ++ st)) : ∀ (v : Option Value) (ad1 : Nat → Nat) (T1 : gT) (M1 : gM), gSame T r M' ad v ad1 T1 M1 → (∀ a : Nat, gSB ≤ a → ad1 a = ad a) → ∀ H locs la, gRp Z ad1 T1 M1 H locs → lv_has la Z.2.2.2.2.2.1 (gmp ad ls) → Z.1 H locs ce so pc la ((v.map (gv ad1)).toList ++ st.map (gv ad)) := by
  rintro v ad1 T1 M1 ⟨rfl, rfl, rfl, rfl⟩ - H locs la hR hl
  have h1 := h H locs la hR hl
  rw [List.map_append] at h1
  cases v with
  | none => exact h1
  | some x => exact h1
end GDONE
end
section
/-! ROWS THAT MAKE THINGS: T1 is T with one shape more, a the new abstract address -/
def gnew (T : gT) (M : gM) (sh : Nat × Nat) : Option (Nat × gT × gM) := if T.length < 900000 then some (T.length, T ++ [sh], zr M T.length) else none
theorem gnew_sp {T T1 : gT} {M M1 : gM} {sh : Nat × Nat} {a : Nat} (h : gnew T M sh = some (a, T1, M1)) : a = T.length ∧ T1 = T ++ [sh] ∧ M1 = zr M T.length := by
  unfold gnew at h
  split at h
  · have := Option.some.inj h
    cases this
    exact ⟨rfl, rfl, rfl⟩
  · cases h
theorem gnew_lt {T T1 : gT} {M M1 : gM} {sh : Nat × Nat} {a : Nat} (h : gnew T M sh = some (a, T1, M1)) : T.length < gSB := by
  unfold gnew at h
  split at h
  · exact Nat.lt_trans (by assumption) (by decide)
  · cases h
theorem gExt.rf {T : gT} : gExt T T := fun _ _ h => h
theorem gExt.tr {T T1 T2 : gT} (h : gExt T T1) (h2 : gExt T1 T2) : gExt T T2 := fun b x q => h2 b x (h b x q)
theorem gnew_ext {T T1 : gT} {M M1 : gM} {sh : Nat × Nat} {a : Nat} (h : gnew T M sh = some (a, T1, M1)) : gExt T T1 := by
  obtain ⟨rfl, rfl, rfl⟩ := gnew_sp h
  intro b x hx
  rw [List.getElem?_append_left (List.getElem?_eq_some_iff.mp hx).1]
  exact hx
theorem gnew_at {T T1 : gT} {M M1 : gM} {sh : Nat × Nat} {a : Nat} (h : gnew T M sh = some (a, T1, M1)) : T1[a]? = some sh := by
  obtain ⟨rfl, rfl, rfl⟩ := gnew_sp h
  rw [List.getElem?_append_right (Nat.le_refl _), Nat.sub_self]
  rfl
theorem gExt.len {T T1 : gT} (h : gExt T T1) : T.length ≤ T1.length := by
  cases hT : T.length with
  | zero => exact Nat.zero_le _
  | succ n =>
    have hn : n < T.length := by omega
    have := h n _ (List.getElem?_eq_getElem hn)
    have := (List.getElem?_eq_some_iff.mp this).1
    omega
theorem gT_lt {T : gT} {a : Nat} {x : Nat × Nat} (h : T[a]? = some x) : a < T.length := (List.getElem?_eq_some_iff.mp h).1
theorem gad_new {T0 T T1 : gT} {M M1 : gM} {sh : Nat × Nat} {a : Nat} {ad0 ad ad1 : Nat → Nat} (h : gnew T M sh = some (a, T1, M1)) (h1 : ∀ b : Nat, b ≠ a → ad1 b = ad b) (hx : gExt T0 T) (hy : ∀ b : Nat, b < T0.length → ad b = ad0 b) : ∀ b : Nat, b < T0.length → ad1 b = ad0 b := fun b hb => (h1 b (by
  rw [(gnew_sp h).1]
  have := hx.len
  omega)).trans (hy b hb)
theorem gad_call {T0 T : gT} {ad0 ad ad1 : Nat → Nat} (h1 : ∀ b : Nat, b < T.length → ad1 b = ad b) (hx : gExt T0 T) (hy : ∀ b : Nat, b < T0.length → ad b = ad0 b) : ∀ b : Nat, b < T0.length → ad1 b = ad0 b := fun b hb => (h1 b (Nat.lt_of_lt_of_le hb hx.len)).trans (hy b hb)
theorem gT_ne {T : gT} {a : Nat} {x : Nat × Nat} (h : T[a]? = some x) : a ≠ T.length := Nat.ne_of_lt (gT_lt h)
/-- no value of the list is the thing n -/
def gFr (n : Nat) (l : List Value) : Prop := ∀ v ∈ l, v ≠ .ref n
theorem gFr_0 {n : Nat} : gFr n [] := fun _ h => nomatch h
theorem gFr_i {n : Nat} {x : Int32} {l : List Value} (h : gFr n l) : gFr n (.int x :: l) := fun v hv => (List.mem_cons.mp hv).elim (fun e => by rw [e]; exact fun q => nomatch q) (h v)
theorem gFr_l {n : Nat} {x : Int64} {l : List Value} (h : gFr n l) : gFr n (.long x :: l) := fun v hv => (List.mem_cons.mp hv).elim (fun e => by rw [e]; exact fun q => nomatch q) (h v)
theorem gFr_r {n a : Nat} {l : List Value} (ha : a ≠ n) (h : gFr n l) : gFr n (.ref a :: l) := fun v hv => (List.mem_cons.mp hv).elim (fun e => by rw [e]; exact fun q => ha (Value.ref.inj q)) (h v)
theorem gv_up {ad : Nat → Nat} {n q : Nat} {v : Value} (h : v ≠ .ref n) : gv (va_up ad n q) v = gv ad v := by
  cases v with
  | ref a =>
    show Value.ref (va_up ad n q a) = Value.ref (ad a)
    rw [va_up_ne _ _ (fun e => h (by rw [e]))]
  | _ => rfl
theorem gFr_map {ad : Nat → Nat} {n q : Nat} : ∀ {l : List Value}, gFr n l → l.map (gv (va_up ad n q)) = l.map (gv ad)
  | [], _ => rfl
  | v :: l, h => by
    rw [List.map_cons, List.map_cons, gv_up (h v List.mem_cons_self), gFr_map (fun w hw => h w (List.mem_cons_of_mem _ hw))]
theorem gFr_gmp {ad : Nat → Nat} {n q : Nat} : ∀ {l : List (Nat × Value)}, gFr n (l.map Prod.snd) → gmp (va_up ad n q) l = gmp ad l
  | [], _ => rfl
  | v :: l, h => by
    show (v.1, gv (va_up ad n q) v.2) :: gmp (va_up ad n q) l = (v.1, gv ad v.2) :: gmp ad l
    rw [gv_up (h v.2 List.mem_cons_self), gFr_gmp (fun w hw => h w (List.mem_cons_of_mem _ hw))]
def gKd (t : FieldType) : Nat := match t with
  | .object _ => 2
  | .array _ => 2
  | .long => 1
  | .float => 3
  | .double => 3
  | _ => 0
def gDf (c N : Nat) (ty : Nat → FieldType) : Prop := ∀ k, k < N → (gK c)[k]? = some (gKd (ty k)) ∧ gKd (ty k) < 3
theorem gDf_val {t : FieldType} {M : gM} {ad : Nat → Nat} {a k : Nat} (h : gKd t < 3) (h1 : gi M a k = 0) (h2 : gl M a k = 0) (h3 : gr M a k = none) : defaultValue t = gfv M ad a k (gKd t) := by
  cases t <;> first | (exact absurd h (by decide)) | (simp [gfv, gKd, h1, h2, h3, va_rf, defaultValue])
section GM
variable {Z : gZ} {cc : ByteArray} {own nm : String} {rt : Option FieldType} {d mc ms : Nat} {Acc : Option Value → (Nat → Nat) → gT → gM → Prop} {AccX : Nat → (Nat → Nat) → gT → gM → Prop} {ad : Nat → Nat} {T T1 : gT} {M M1 : gM} {ce so pc : Nat} {ls : List (Nat × Value)} {st : List Value} {a : Nat}
/-- the new world is the world of the new memory -/
theorem gRp_push {H1 : Heap} {locs : List Loc} {H : Heap} {sh : Nat × Nat} {q : Nat} {e : va_E} (hR : gRp Z ad T M H locs) (hlen : T.length < gSB) (he : gE Z.2.2.2.2.1 (va_up ad T.length q) (zr M T.length) T.length sh = e)
    (hP : va_P Z.2.2.2.1 vwCl (gW Z.2.2.2.2.1 ad T M ++ [(q, e)]) H1) (hD : va_D Z.2.1 (gW Z.2.2.2.2.1 ad T M ++ [(q, e)])) (hS : va_S Z.2.1 Z.2.2.1 H1 locs) : gRp Z (va_up ad T.length q) (T ++ [sh]) (zr M T.length) H1 locs := by
  rw [gW_push hR.2.2.2.1 he] at hP hD
  exact ⟨hP, hD, hS, gCl_zr hR.2.2.2.1, fun b hb => by rw [va_up_ne _ _ (by omega)]; exact hR.2.2.2.2 b hb⟩

theorem g_new (hF : gFix Z cc own nm rt d mc ms Acc AccX) {idx c N : Nat} {RR : String} {TT : u_T} {ty : Nat → FieldType} (hC : gC c RR TT N ty) (hdf : gDf c N ty) (hw1 : Cond.classLink own idx RR ∈ gWS) (hw2 : Cond.instantiable RR N ∈ gWS) (hw3 : Cond.initialized RR ∈ gWS)
    (hnew : gnew T M (c, 0) = some (a, T1, M1)) (hlen : T.length < gSB) (hfr : gFr T.length (ls.map Prod.snd)) (hfs : gFr T.length st) (h1 : ce + 1 ≤ mc) (h2 : so + N ≤ ms) (hd : decode cc pc = .ok (.new idx, 3))
    (k : ∀ ad1 : Nat → Nat, (∀ b : Nat, b ≠ a → ad1 b = ad b) → gG Z ad1 T1 M1 (ce + 1) (so + N) (pc + 3) ls (.ref a :: st)) : gG Z ad T M ce so pc ls st := by
  obtain ⟨rfl, rfl, rfl⟩ := gnew_sp hnew
  obtain ⟨p, l, e, R, s, m, args, below, meth, cd, Q, adV, hKq, hx, hb, hml, hown, hts, hK, hH, hA, hE, hRm, hnm, hlk9, hst9, -⟩ := hF
  intro H locs la hR hl
  obtain ⟨c1, c2, c3, c4, c5, c6, c7⟩ := hC
  have k := fun q H1 hR1 => k (va_up ad T.length q) (fun b hb => va_up_ne _ _ hb) H1 locs la hR1 (by rw [gFr_gmp hfr]; exact hl)
  rw [hKq] at k ⊢
  have hf0 : ∀ (M2 : gM) (ad2 : Nat → Nat), (∀ j, gi M2 T.length j = 0) → (∀ j, gl M2 T.length j = 0) → (∀ j, gr M2 T.length j = none) → ∀ j, j < N → defaultValue (ty j) = vp_V ((gK c).mapIdx (gfv M2 ad2 T.length)) j := fun M2 ad2 q1 q2 q3 j hj => by
    obtain ⟨g1, g2⟩ := hdf j hj
    rw [vp_V, List.getD_eq_getElem?_getD, List.getElem?_mapIdx, g1]
    exact gDf_val g2 (q1 j) (q2 j) (q3 j)
  have hz1 : ∀ j, gi (zr M T.length) T.length j = 0 := fun j => by rw [gi_zr, if_pos rfl]
  have hz2 : ∀ j, gl (zr M T.length) T.length j = 0 := fun j => by rw [gl_zr, if_pos rfl]
  have hz3 : ∀ j, gr (zr M T.length) T.length j = none := fun j => by rw [gr_zr, if_pos rfl]
  have hee : ∀ ad2 ad3 : Nat → Nat, (gK c).mapIdx (gfv (zr M T.length) ad2 T.length) = (gK c).mapIdx (gfv (zr M T.length) ad3 T.length) := fun ad2 ad3 => by
    congr 1
    funext j kd
    simp only [gfv, hz3, Option.map_none]
  refine va_new (fs := (gK c).mapIdx (gfv (zr M T.length) ad T.length)) hx hb hts c2 ty c3 hown (hts _ hw1) (hts _ hw2) (hts _ hw3) hK hR.1 hR.2.1 hR.2.2.1 (fun q hq => hA q (by rw [hH] at hq; exact hq)) c1 (hf0 _ _ hz1 hz2 hz3) (Nat.le_trans h1 hRm.2.2.1) (Nat.le_trans h2 hRm.2.2.2) hd (fun q H1 hP hD hS => ?_)
  have k := k q H1 (gRp_push hR hlen (by rw [gE_obj c6, hee _ ad]) hP hD hS)
  rw [List.map_cons, gFr_map hfs] at k
  have hself : gv (va_up ad T.length q) (.ref T.length) = .ref q := by
    show Value.ref (va_up ad T.length q T.length) = _
    rw [va_up_self]
  rw [hself] at k
  exact k

theorem g_newa_int (hF : gFix Z cc own nm rt d mc ms Acc AccX) {n : Int32} {N : Nat} (hn : ¬ n < 0) (hN : n.toNatClampNeg = N) (hbd : N ≤ 100000) (hw1 : Cond.arrayClass .int ∈ gWS)
    (hnew : gnew T M (11, N) = some (a, T1, M1)) (hlen : T.length < gSB) (hfr : gFr T.length (ls.map Prod.snd)) (hfs : gFr T.length st) (h1 : ce + 1 ≤ mc) (h2 : so + N ≤ ms) (hd : decode cc pc = .ok (.newarray .int, 2))
    (k : ∀ ad1 : Nat → Nat, (∀ b : Nat, b ≠ a → ad1 b = ad b) → gG Z ad1 T1 M1 (ce + 1) (so + N) (pc + 2) ls (.ref a :: st)) : gG Z ad T M ce so pc ls (.int n :: st) := by
  obtain ⟨rfl, rfl, rfl⟩ := gnew_sp hnew
  obtain ⟨p, l, e, R, s, m, args, below, meth, cd, Q, adV, hKq, hx, hb, hml, hown, hts, hK, hH, hA, hE, hRm, hnm, hlk9, hst9, -⟩ := hF
  intro H locs la hR hl
  have k := fun q H1 hR1 => k (va_up ad T.length q) (fun b hb => va_up_ne _ _ hb) H1 locs la hR1 (by rw [gFr_gmp hfr]; exact hl)
  rw [hKq] at k ⊢
  refine va_newa (atype := .int) (ty := .int) (a0 := (N, .inl (fun j => 0))) hx hb (hts _ hw1) rfl hK hR.1 hR.2.1 hR.2.2.1 (fun q hq => hA q (by rw [hH] at hq; exact hq)) (fun cA => rfl) hn hN (by simp only [componentBytes]; omega) (Nat.le_trans h1 hRm.2.2.1) (Nat.le_trans h2 hRm.2.2.2) hd (fun q cA H1 hK1 hP hD hS => ?_)
  have hcA : cA = Z.2.2.2.2.1 11 := gRA_eq (hK1.2 6 (cA, .int) rfl).2 (hK.2 1 _ rfl).2
  subst hcA
  have k := k q H1 (gRp_push hR hlen (by
    rw [gE_i]
    congr 5
    funext j
    rw [gi_zr, if_pos rfl]) hP hD hS)
  rw [List.map_cons, gFr_map hfs] at k
  have hself : gv (va_up ad T.length q) (.ref T.length) = .ref q := by
    show Value.ref (va_up ad T.length q T.length) = _
    rw [va_up_self]
  rw [hself] at k
  exact k

theorem g_newa_byte (hF : gFix Z cc own nm rt d mc ms Acc AccX) {n : Int32} {N : Nat} (hn : ¬ n < 0) (hN : n.toNatClampNeg = N) (hbd : N ≤ 100000) (hw1 : Cond.arrayClass .byte ∈ gWS)
    (hnew : gnew T M (10, N) = some (a, T1, M1)) (hlen : T.length < gSB) (hfr : gFr T.length (ls.map Prod.snd)) (hfs : gFr T.length st) (h1 : ce + 1 ≤ mc) (h2 : so + N ≤ ms) (hd : decode cc pc = .ok (.newarray .byte, 2))
    (k : ∀ ad1 : Nat → Nat, (∀ b : Nat, b ≠ a → ad1 b = ad b) → gG Z ad1 T1 M1 (ce + 1) (so + N) (pc + 2) ls (.ref a :: st)) : gG Z ad T M ce so pc ls (.int n :: st) := by
  obtain ⟨rfl, rfl, rfl⟩ := gnew_sp hnew
  obtain ⟨p, l, e, R, s, m, args, below, meth, cd, Q, adV, hKq, hx, hb, hml, hown, hts, hK, hH, hA, hE, hRm, hnm, hlk9, hst9, -⟩ := hF
  intro H locs la hR hl
  have k := fun q H1 hR1 => k (va_up ad T.length q) (fun b hb => va_up_ne _ _ hb) H1 locs la hR1 (by rw [gFr_gmp hfr]; exact hl)
  rw [hKq] at k ⊢
  refine va_newa (atype := .byte) (ty := .byte) (a0 := (N, .inl (fun j => 0))) hx hb (hts _ hw1) rfl hK hR.1 hR.2.1 hR.2.2.1 (fun q hq => hA q (by rw [hH] at hq; exact hq)) (fun cA => rfl) hn hN (by simp only [componentBytes]; omega) (Nat.le_trans h1 hRm.2.2.1) (Nat.le_trans h2 hRm.2.2.2) hd (fun q cA H1 hK1 hP hD hS => ?_)
  have hcA : cA = Z.2.2.2.2.1 10 := gRA_eq (hK1.2 6 (cA, .byte) rfl).2 (hK.2 0 _ rfl).2
  subst hcA
  have k := k q H1 (gRp_push hR hlen (by
    rw [gE_b]
    congr 5
    funext j
    rw [gi_zr, if_pos rfl]) hP hD hS)
  rw [List.map_cons, gFr_map hfs] at k
  have hself : gv (va_up ad T.length q) (.ref T.length) = .ref q := by
    show Value.ref (va_up ad T.length q T.length) = _
    rw [va_up_self]
  rw [hself] at k
  exact k

theorem g_newa_long (hF : gFix Z cc own nm rt d mc ms Acc AccX) {n : Int32} {N : Nat} (hn : ¬ n < 0) (hN : n.toNatClampNeg = N) (hbd : N ≤ 100000) (hw1 : Cond.arrayClass .long ∈ gWS)
    (hnew : gnew T M (12, N) = some (a, T1, M1)) (hlen : T.length < gSB) (hfr : gFr T.length (ls.map Prod.snd)) (hfs : gFr T.length st) (h1 : ce + 1 ≤ mc) (h2 : so + N ≤ ms) (hd : decode cc pc = .ok (.newarray .long, 2))
    (k : ∀ ad1 : Nat → Nat, (∀ b : Nat, b ≠ a → ad1 b = ad b) → gG Z ad1 T1 M1 (ce + 1) (so + N) (pc + 2) ls (.ref a :: st)) : gG Z ad T M ce so pc ls (.int n :: st) := by
  obtain ⟨rfl, rfl, rfl⟩ := gnew_sp hnew
  obtain ⟨p, l, e, R, s, m, args, below, meth, cd, Q, adV, hKq, hx, hb, hml, hown, hts, hK, hH, hA, hE, hRm, hnm, hlk9, hst9, -⟩ := hF
  intro H locs la hR hl
  have k := fun q H1 hR1 => k (va_up ad T.length q) (fun b hb => va_up_ne _ _ hb) H1 locs la hR1 (by rw [gFr_gmp hfr]; exact hl)
  rw [hKq] at k ⊢
  refine va_newa (atype := .long) (ty := .long) (a0 := (N, .inr (.inl (fun j => 0)))) hx hb (hts _ hw1) rfl hK hR.1 hR.2.1 hR.2.2.1 (fun q hq => hA q (by rw [hH] at hq; exact hq)) (fun cA => rfl) hn hN (by simp only [componentBytes]; omega) (Nat.le_trans h1 hRm.2.2.1) (Nat.le_trans h2 hRm.2.2.2) hd (fun q cA H1 hK1 hP hD hS => ?_)
  have hcA : cA = Z.2.2.2.2.1 12 := gRA_eq (hK1.2 6 (cA, .long) rfl).2 (hK.2 2 _ rfl).2
  subst hcA
  have k := k q H1 (gRp_push hR hlen (by
    rw [gE_l]
    congr 6
    funext j
    rw [gl_zr, if_pos rfl]) hP hD hS)
  rw [List.map_cons, gFr_map hfs] at k
  have hself : gv (va_up ad T.length q) (.ref T.length) = .ref q := by
    show Value.ref (va_up ad T.length q T.length) = _
    rw [va_up_self]
  rw [hself] at k
  exact k

theorem g_newq_Data (hF : gFix Z cc own nm rt d mc ms Acc AccX) {idx : Nat} {n : Int32} {N : Nat} (hn : ¬ n < 0) (hN : n.toNatClampNeg = N) (hbd : N ≤ 100000) (hw1 : Cond.classLink own idx RX0 ∈ gWS)
    (hnew : gnew T M (13, N) = some (a, T1, M1)) (hlen : T.length < gSB) (hfr : gFr T.length (ls.map Prod.snd)) (hfs : gFr T.length st) (h1 : ce + 1 ≤ mc) (h2 : so + N ≤ ms) (hd : decode cc pc = .ok (.anewarray idx, 3))
    (k : ∀ ad1 : Nat → Nat, (∀ b : Nat, b ≠ a → ad1 b = ad b) → gG Z ad1 T1 M1 (ce + 1) (so + N) (pc + 3) ls (.ref a :: st)) : gG Z ad T M ce so pc ls (.int n :: st) := by
  obtain ⟨rfl, rfl, rfl⟩ := gnew_sp hnew
  obtain ⟨p, l, e, R, s, m, args, below, meth, cd, Q, adV, hKq, hx, hb, hml, hown, hts, hK, hH, hA, hE, hRm, hnm, hlk9, hst9, -⟩ := hF
  intro H locs la hR hl
  have k := fun q H1 hR1 => k (va_up ad T.length q) (fun b hb => va_up_ne _ _ hb) H1 locs la hR1 (by rw [gFr_gmp hfr]; exact hl)
  rw [hKq] at k ⊢
  refine va_newq (C := RX0) hx hb hown (hts _ hw1) hE.2.2.2.2.2.1 hK hR.1 hR.2.1 hR.2.2.1 (fun q hq => hA q (by rw [hH] at hq; exact hq)) hn hN (by omega) (Nat.le_trans h1 hRm.2.2.1) (Nat.le_trans h2 hRm.2.2.2) hd (fun q cA H1 hK1 hP hD hS => ?_)
  have hcA : cA = Z.2.2.2.2.1 13 := gRA_eq (hK1.2 6 (cA, .object RX0) rfl).2 (hK.2 3 _ rfl).2
  subst hcA
  have k := k q H1 (gRp_push hR hlen (by
    rw [gE_q (by omega)]
    congr 8
    funext j
    rw [gr_zr, if_pos rfl]
    rfl) hP hD hS)
  rw [List.map_cons, gFr_map hfs] at k
  have hself : gv (va_up ad T.length q) (.ref T.length) = .ref q := by
    show Value.ref (va_up ad T.length q T.length) = _
    rw [va_up_self]
  rw [hself] at k
  exact k

theorem g_newq_Library (hF : gFix Z cc own nm rt d mc ms Acc AccX) {idx : Nat} {n : Int32} {N : Nat} (hn : ¬ n < 0) (hN : n.toNatClampNeg = N) (hbd : N ≤ 100000) (hw1 : Cond.classLink own idx RX3 ∈ gWS)
    (hnew : gnew T M (14, N) = some (a, T1, M1)) (hlen : T.length < gSB) (hfr : gFr T.length (ls.map Prod.snd)) (hfs : gFr T.length st) (h1 : ce + 1 ≤ mc) (h2 : so + N ≤ ms) (hd : decode cc pc = .ok (.anewarray idx, 3))
    (k : ∀ ad1 : Nat → Nat, (∀ b : Nat, b ≠ a → ad1 b = ad b) → gG Z ad1 T1 M1 (ce + 1) (so + N) (pc + 3) ls (.ref a :: st)) : gG Z ad T M ce so pc ls (.int n :: st) := by
  obtain ⟨rfl, rfl, rfl⟩ := gnew_sp hnew
  obtain ⟨p, l, e, R, s, m, args, below, meth, cd, Q, adV, hKq, hx, hb, hml, hown, hts, hK, hH, hA, hE, hRm, hnm, hlk9, hst9, -⟩ := hF
  intro H locs la hR hl
  have k := fun q H1 hR1 => k (va_up ad T.length q) (fun b hb => va_up_ne _ _ hb) H1 locs la hR1 (by rw [gFr_gmp hfr]; exact hl)
  rw [hKq] at k ⊢
  refine va_newq (C := RX3) hx hb hown (hts _ hw1) hE.2.2.2.2.2.2.1 hK hR.1 hR.2.1 hR.2.2.1 (fun q hq => hA q (by rw [hH] at hq; exact hq)) hn hN (by omega) (Nat.le_trans h1 hRm.2.2.1) (Nat.le_trans h2 hRm.2.2.2) hd (fun q cA H1 hK1 hP hD hS => ?_)
  have hcA : cA = Z.2.2.2.2.1 14 := gRA_eq (hK1.2 6 (cA, .object RX3) rfl).2 (hK.2 4 _ rfl).2
  subst hcA
  have k := k q H1 (gRp_push hR hlen (by
    rw [gE_q (by omega)]
    congr 8
    funext j
    rw [gr_zr, if_pos rfl]
    rfl) hP hD hS)
  rw [List.map_cons, gFr_map hfs] at k
  have hself : gv (va_up ad T.length q) (.ref T.length) = .ref q := by
    show Value.ref (va_up ad T.length q T.length) = _
    rw [va_up_self]
  rw [hself] at k
  exact k

/-- Object's constructor -/
theorem g_obj (hF : gFix Z cc own nm rt d mc ms Acc AccX) {idx b : Nat} (hw1 : Cond.methodLink own idx Lib.objectInit ∈ gWS) (hw2 : Cond.instanceMethod Lib.objectInit ∈ gWS) (hw3 : Cond.code Lib.objectInit ⟨#[0xb1]⟩ 1 none ∈ gWS) (hdd : 1 ≤ d) (hcat : (st.map fun v => v.category).sum ≤ 8) (hd : decode cc pc = .ok (.invokespecial idx, 3))
    (k : gG Z ad T M ce so (pc + 3) ls st) : gG Z ad T M ce so pc ls (.ref b :: st) := by
  obtain ⟨p, l, e, R, s, m, args, below, meth, cd, Q, adV, hKq, hx, hb, hml, hown, hts, hK, hH, hA, hE, hRm, hnm, hlk9, hst9, -⟩ := hF
  intro H locs la hR hl
  have k := k H locs la hR hl
  rw [hKq] at k ⊢
  have hrest : (((st.map (gv ad)).map fun v => v.category).sum) ≤ 8 := by
    rw [List.map_map, show ((fun v : Value => v.category) ∘ gv ad) = (fun v => v.category) from funext fun v => gv_cat ad v]
    exact hcat
  exact W.objInit hx hb hown (hts _ hw1) (hts _ hw2) (hts _ hw3) rfl (by rw [hml]; exact hl.1) rfl hd (by have := hRm.1; omega) (by show 2 * 0 + _ + 12 ≤ _; have := hRm.2.1; omega) k

/-- all things of the list are old -/
def gOld (n : Nat) (l : List Value) : Prop := ∀ v ∈ l, ∀ a : Nat, v = .ref a → a < n ∨ gSB ≤ a
theorem gOld_0 {n : Nat} : gOld n [] := fun _ h => nomatch h
theorem gOld_i {n : Nat} {x : Int32} {l : List Value} (h : gOld n l) : gOld n (.int x :: l) := fun v hv => (List.mem_cons.mp hv).elim (fun e => by rw [e]; exact fun _ q => nomatch q) (h v)
theorem gOld_l {n : Nat} {x : Int64} {l : List Value} (h : gOld n l) : gOld n (.long x :: l) := fun v hv => (List.mem_cons.mp hv).elim (fun e => by rw [e]; exact fun _ q => nomatch q) (h v)
theorem gOld_r {n a : Nat} {l : List Value} (ha : a < n) (h : gOld n l) : gOld n (.ref a :: l) := fun v hv => (List.mem_cons.mp hv).elim (fun e => by rw [e]; exact fun b q => Or.inl (by rw [← Value.ref.inj q]; exact ha)) (h v)
theorem gOld_s {n a : Nat} {l : List Value} (ha : gSB ≤ a) (h : gOld n l) : gOld n (.ref a :: l) := fun v hv => (List.mem_cons.mp hv).elim (fun e => by rw [e]; exact fun b q => Or.inr (by rw [← Value.ref.inj q]; exact ha)) (h v)
theorem gOld_map {ad ad1 : Nat → Nat} {n : Nat} (h1 : ∀ a : Nat, a < n → ad1 a = ad a) (h2 : ∀ a : Nat, gSB ≤ a → ad1 a = ad a) : ∀ {l : List Value}, gOld n l → l.map (gv ad1) = l.map (gv ad)
  | [], _ => rfl
  | v :: l, h => by
    rw [List.map_cons, List.map_cons, gOld_map h1 h2 (fun w hw => h w (List.mem_cons_of_mem _ hw))]
    congr 1
    cases v with
    | ref a =>
      show Value.ref (ad1 a) = Value.ref (ad a)
      rcases h _ List.mem_cons_self a rfl with q | q
      · rw [h1 a q]
      · rw [h2 a q]
    | _ => rfl
theorem gOld_gmp {ad ad1 : Nat → Nat} {n : Nat} (h1 : ∀ a : Nat, a < n → ad1 a = ad a) (h2 : ∀ a : Nat, gSB ≤ a → ad1 a = ad a) : ∀ {l : List (Nat × Value)}, gOld n (l.map Prod.snd) → gmp ad1 l = gmp ad l
  | [], _ => rfl
  | v :: l, h => by
    show (v.1, gv ad1 v.2) :: gmp ad1 l = (v.1, gv ad v.2) :: gmp ad l
    have e := gOld_map (l := [v.2]) h1 h2 (fun w hw => h w (by rw [List.mem_singleton.mp hw]; exact List.mem_cons_self))
    rw [(List.cons.inj e).1, gOld_gmp h1 h2 (fun w hw => h w (List.mem_cons_of_mem _ hw))]
/-- behind a call that made things -/
theorem g_made {T' : gT} {M' : gM} {r : Option Value} (hls : gOld T.length (ls.map Prod.snd)) (hst : gOld T.length st) (h : ∀ ad1 : Nat → Nat, gExt T T' → (∀ a : Nat, a < T.length → ad1 a = ad a) → gG Z ad1 T' M' ce so pc ls (r.toList ++ st)) : ∀ (v : Option Value) (ad1 : Nat → Nat) (T1 : gT) (M1 : gM), gMade T r T' M' ad v ad1 T1 M1 → (∀ a : Nat, gSB ≤ a → ad1 a = ad a) → ∀ H locs la, gRp Z ad1 T1 M1 H locs → lv_has la Z.2.2.2.2.2.1 (gmp ad ls) → Z.1 H locs ce so pc la ((v.map (gv ad1)).toList ++ st.map (gv ad)) := by
  rintro v ad1 T1 M1 ⟨rfl, rfl, rfl, hx, had⟩ hsb H locs la hR hl
  have h1 := h ad1 hx had H locs la hR (by rw [gOld_gmp had hsb hls]; exact hl)
  rw [List.map_append, gOld_map had hsb hst] at h1
  cases v with
  | none => exact h1
  | some x => exact h1
end GM
end
section
/-! THROWN EXCEPTIONS -/
theorem gNb_tab {w : Cond} (h : gNb w = true) : w.onTables = true := by
  cases w <;> first | rfl | exact absurd h (fun q => nomatch q)
theorem gNw_use {w : Cond} {s : State} {args : Array Value} (hw : w ∈ gNw) (h : va_Nw w s) : w.before args s = true := va_Nw.use (gNb_tab (List.mem_filter.mp hw).2) h
def gThrown (ad0 : Nat → Nat) (T : gT) (M : gM) (k : Nat) : Nat → (Nat → Nat) → gT → gM → Prop := fun k' ad T' M' => k' = k ∧ ad = ad0 ∧ T' = T ∧ M' = M
def gXC (A : Nat → Prop) (D : va_G) (dA : Nat → ClassId) (ad0 : Nat → Nat) (T : gT) (M : gM) (k : Nat) : String → State → State → Prop := fun E st t => E = gExN k ∧ va_P D vwCl (gW dA ad0 T M) t.heap ∧ va_F A st t
def gRetXW (l : Launch) (d : Nat) (y : MethodName) (cc : ByteArray) (nL : Nat) (rt : Option FieldType) (mc ms : Nat) (av : List Value) (T : gT) (M : gM) (k : Nat) : Prop :=
  ∀ (D : va_G) (dA : Nat → ClassId) (adV ad0 : Nat → Nat) (sz : Nat), vx_Met l y (gWs y cc nL rt) { frames := d, cells := mc, slots := ms, locals := 64 * d } (va_Pc (av.map (gv ad0)) (gIn (gA ad0 T.length sz) D dA adV ad0 T M sz)) (fun _ _ _ _ => False) (gXC (gA ad0 T.length sz) D dA ad0 T M k) mc ms (gA ad0 T.length sz)
/-- at these arguments and this memory the method throws the exception k, nothing changed -/
def gRetX (d : Nat) (y : MethodName) (cc : ByteArray) (nL : Nat) (rt : Option FieldType) (mc ms : Nat) (av : List Value) (T : gT) (M : gM) (k : Nat) : Prop := ∀ l : Launch, l.stackTraces = false → gRetXW l d y cc nL rt mc ms av T M k
/-- the heap grew, and nothing else -/
theorem gXC_of {Z : gZ} {ad : Nat → Nat} {T : gT} {M : gM} {H : Heap} {locs : List Loc} {s t : State} (hR : gRp Z ad T M H locs) (hH : Z.2.2.1 = s.heap) (hz : H.size ≤ t.heap.size) (hk : ∀ q : Nat, q < H.size → t.heap[q]? = H[q]?) (k : Nat) : gXC Z.2.1 Z.2.2.2.1 Z.2.2.2.2.1 ad T M k (gExN k) s t := by
  refine ⟨rfl, hR.1.kept (fun j q hq => hk q.1 (hR.1 j q hq).lt), ?_⟩
  have hS := hR.2.2.1
  rw [hH] at hS
  exact ⟨Nat.le_trans hS.1 hz, fun q h1 h2 => (hk q (Nat.lt_of_lt_of_le h1 hS.1)).trans (hS.2.1 q h1 h2)⟩
section GX
variable {d : Nat} {y : MethodName} {cc : ByteArray} {nL : Nat} {rt : Option FieldType} {mc ms : Nat} {av : List Value} {T : gT} {M : gM} {k : Nat}
theorem gRetX_of {own : String} (hy : plainName y.cls = true) (hcls : y.cls = own) (hlen : (lg_sl av).length ≤ nL)
    (body : ∀ (Z : gZ) (ad0 : Nat → Nat), Z.2.2.2.2.2.1 = nL → Z.2.2.2.2.2.2 = ad0 → gFix Z cc own y.name rt d mc ms (fun _ _ _ _ => False) (gThrown ad0 T M k) → gG Z ad0 T M 0 0 0 (lv_args 0 av) []) : gRetX d y cc nL rt mc ms av T M k := by
  intro l hst D dA adV ad0 sz
  refine vx_ofW (cc := cc) (maxL := nL) (ret := rt) hy rfl ?_
  intro p e s m args below meth c s₁ B hml htab hv
  obtain ⟨rfl, hsz, hP, hD, hC, hK, hE⟩ := hv
  subst hsz
  have hts := atoms_spec (ws := gWs y cc nL rt) B.pre
  have hts' : ∀ w ∈ gWS, w.before (av.map (gv ad0)).toArray s = true := fun w hw => hts w (List.mem_cons_of_mem _ hw)
  have hown : s.vm.findClass own = some m.cls := by rw [← hcls]; exact findClass_of_methodNamed B.named
  have hnm : meth.name = y.name := (name_of_methodNamed B.named B.method).1
  have hlocks := B.notSynchronized
  generalize hZ : (((fun H locs ce so pc la st => W p l e ((headSpec (gWs y cc nL rt) { frames := d, cells := mc, slots := ms, locals := 64 * d }).room) s m ((av.map (gv ad0)).toArray) below meth c H locs ce so (vx_MQ below (fun _ _ _ _ => False) (gXC (gA ad0 T.length s.heap.size) D dA ad0 T M k) ((av.map (gv ad0)).toArray) s mc ms (gA ad0 T.length s.heap.size)) (F0 m pc la st)), gA ad0 T.length s.heap.size, s.heap, D, dA, nL, ad0) : gZ) = Z
  have hb := body Z ad0 (by rw [← hZ]) (by rw [← hZ]) ⟨p, l, e, _, s, m, _, below, meth, c, _, adV, by
    subst hZ
    refine ⟨rfl, B.exec, B.bytes, hml, hown, hts', hK, rfl, fun q hq => Or.inr hq, hE, ⟨Nat.le_refl d, Nat.le_refl _, Nat.le_refl mc, Nat.le_refl ms⟩, hnm, hlocks, hst, fun _ _ _ _ _ _ _ _ _ _ _ _ _ _ _ h => h.elim, fun _ _ _ _ _ _ _ _ _ _ _ _ _ h => h.elim, fun _ _ _ _ _ _ _ _ _ _ _ _ _ _ _ h => h.elim, fun _ _ _ _ _ _ _ _ _ _ _ _ h => h.elim, ?_, ?_⟩
    · rintro H locs ce so pc la rest ad T1 M1 k1 ik is ic text sa hR ⟨rfl, rfl, rfl, rfl⟩ hsize ⟨t1, t2, t3, t4⟩ hstr d0 d3 d4 d6 d9 hcat h6 hce hso
      refine vx_throwS (names := ["java/lang/RuntimeException", "java/lang/Exception"]) (A := gA ad T1.length s.heap.size) B.exec B.bytes hst hown t4 (fun n hn => ?_) (hts' _ t1) (hts' _ t2) hstr (fun w hw => ?_) (fun w hw => ?_) hE.2.2.2.1 hE.2.2.2.2.1 hR.2.2.1 hsize d0 d3 d4 d6 d9 (fun x hx => (htab x hx).elim) (by show 2 + 3 < d; omega) (by show _ + (13 * 3 + 43) ≤ 64 * d; omega) hce hso hlocks (fun t hal hz hk => gXC_of hR rfl hz hk k1) hR.2.2.1.2.2 hce hso
      · have hn' : n ∈ ["java/lang/RuntimeException", "java/lang/Exception"] := hn
        simp only [List.mem_cons, List.not_mem_nil, or_false] at hn'
        rcases hn' with rfl | rfl <;> decide +kernel
      · rcases t3 w hw with h | h
        · exact hts' _ h
        · exact gNw_use h (hE.1 _ h)
      · have good : ∀ w' : Cond, w' ∈ gWS → vx_ot w' = true := fun w' h' => by
          have := (List.mem_filter.mp h').2
          simp only [vx_ot, this, Bool.or_true]
        rcases List.mem_cons.mp hw with e1 | hw
        · rw [e1]; exact good _ t1
        rcases List.mem_cons.mp hw with e1 | hw
        · rw [e1]; exact good _ t2
        rcases t3 w hw with h | h
        · exact good _ h
        · have := gNb_tab (List.mem_filter.mp h).2
          simp only [vx_ot, this, Bool.true_or]
    · rintro H locs ce so pc la rest ad T1 M1 k1 q cell hR ⟨rfl, rfl, rfl, rfl⟩ hq hv hcl hce hso
      exact vx_out (fun x hx => (htab x hx).elim) hlocks hq hv hcl (fun t ht hal => gXC_of hR rfl (by rw [ht]; exact Nat.le_refl _) (fun j hj => by rw [ht]) k1) hR.2.2.1.2.2 hce hso⟩
  rw [lg_entry_eq]
  have hl := lv_entry (av.map (gv ad0)) (n := nL) (by rw [glg_len]; exact hlen)
  rw [gmp_args] at hl
  subst hZ
  exact hb s.heap [] _ ⟨hP, hD, va_S.rf, hC, fun _ _ => rfl⟩ hl
end GX
section GXR
variable {Z : gZ} {cc : ByteArray} {own nm : String} {rt : Option FieldType} {d mc ms : Nat} {Acc : Option Value → (Nat → Nat) → gT → gM → Prop} {AccX : Nat → (Nat → Nat) → gT → gM → Prop} {ad : Nat → Nat} {T : gT} {M : gM} {ce so pc : Nat} {ls : List (Nat × Value)} {st st0 : List Value}
theorem g_throw (hF : gFix Z cc own nm rt d mc ms Acc AccX) {k ik is ic sa : Nat} {text : String} (hthr : gThr own ik ic k) (hlit : (own, is, text, sa) ∈ gLit) (hcat : (st.map fun v => v.category).sum ≤ 8) (h6 : 6 ≤ d) (h1 : ce + 1 ≤ mc) (h2 : so + 6 ≤ ms) (ha : AccX k ad T M)
    (d0 : decode cc pc = .ok (.new ik, 3)) (d3 : decode cc (pc + 3) = .ok (.dup, 1)) (d4 : decode cc (pc + 4) = .ok (.ldc is, 2)) (d6 : decode cc (pc + 6) = .ok (.invokespecial ic, 3)) (d9 : decode cc (pc + 9) = .ok (.athrow, 1)) : gG Z ad T M ce so pc ls st := by
  obtain ⟨p, l, e, R, s, m, args, below, meth, c, Q, adV, hKq, hx, hb, hml, hown, hts, hK, hH, hA, hE, hRm, hnm, hlk9, hst, hrr1, hrr2, hrr3, hrr4, hrt, hrp⟩ := hF
  intro H locs la hR hl
  rw [hKq]
  exact hrt H locs ce so pc la (st.map (gv ad)) ad T M k ik is ic text _ hR ha (hl.1.trans hml.symm) hthr (hE.2.1 _ hlit) d0 d3 d4 d6 d9 (by
    rw [List.map_map, show ((fun v : Value => v.category) ∘ gv ad) = (fun v => v.category) from funext fun v => gv_cat ad v]
    exact hcat) h6 h1 h2
variable {y : MethodName} {cc' : ByteArray} {nL' n idx mc' ms' d' : Nat} {rt' : Option FieldType} {as : List Value} {k : Nat}
/-- a call of a method that throws: what its run gives -/
theorem g_callX_run {p : Program} {l : Launch} {e : Env} {R : Room} {s : State} {m : MethodId} {args : Array Value} {below : List Frame} {meth : Method} {c : Code} {Q : State → Prop} {adV : Nat → Nat} (hBs : gBase Z cc own nm rt d mc ms Acc AccX p l e R s m args below meth c Q adV) {b ci : Nat} {C : String} (hm : gMy y cc' nL' rt' n) (hlk : Cond.methodLink own idx y ∈ gWS) (hin : Cond.instanceMethod y ∈ gWS) (hse : Cond.selects C y y ∈ gWS) {TT : u_T} {N : Nat} (hC : vwCl[ci]? = some (C, TT, N)) (hci : ci < 10) {len9 : Nat} (hTb : T[b]? = some (ci, len9))
    (hc : gRetX d' y cc' nL' rt' mc' ms' (.ref b :: as) T M k) (hdd : d' + 1 ≤ d) (hmc : ce + mc' ≤ mc) (hms : so + ms' ≤ ms) (hn : as.length = n) (hst0 : st0 = as.reverse ++ .ref b :: st) (hcat : (st.map fun v => v.category).sum ≤ 8) (hd : decode cc pc = .ok (.invokevirtual idx, 3))
    (kk : ∀ (H : Heap) (locs : List Loc) (la : Array Slot) (q : Nat) (cell : Cell), gRp Z ad T M H locs → lv_has la Z.2.2.2.2.2.1 (gmp ad ls) → H[q]? = some cell → cell.vm = .none → s.vm.findClass (gExN k) = some cell.cls → vx_W p l e R s m args below meth c H locs (ce + mc') (so + ms') Q (F0 m pc la (st.map (gv ad))) q) : gG Z ad T M ce so pc ls st0 := by
  obtain ⟨hKq, hx, hb, hml, hown, hts, hK, hH, hA, hE, hRm, hnm, hlk9, hst, -⟩ := hBs
  intro H locs la hR hl
  subst hst0
  rw [hKq]
  dsimp only
  obtain ⟨hm1, hm2, hm3, hm4, hm5⟩ := hm
  have hgw := gws_in hm1
  have hroom : d' + 1 ≤ R.frames ∧ 8 + (nL' + 11) + 64 * d' ≤ R.locals := ⟨by have := hRm.1; omega, by have := hRm.2.1; omega⟩
  have hlen : (as.map (gv ad)).length = n := by rw [List.length_map]; exact hn
  have hrest : (((st.map (gv ad)).map fun v => v.category).sum) ≤ 8 := by
    rw [List.map_map, show ((fun v : Value => v.category) ∘ gv ad) = (fun v => v.category) from funext fun v => gv_cat ad v]
    exact hcat
  have hbd : ce + mc' ≤ R.cells ∧ so + ms' ≤ R.slots := ⟨Nat.le_trans hmc hRm.2.2.1, Nat.le_trans hms hRm.2.2.2⟩
  have hrecv : ∃ cellB : Cell, H[ad b]? = some cellB ∧ cellB.vm.isStatics = false ∧ s.vm.findClass C = some cellB.cls := by
    have he := gW_get (dA := Z.2.2.2.2.1) (ad := ad) (M := M) hTb
    rw [gE_obj hci] at he
    exact va_recv hK hR.1 hC he
  have hcb := callB_of (R := R) (rm := { frames := d', cells := mc', slots := ms', locals := 64 * d' }) (mc := mc') (ms := ms') n hts hgw rfl rfl rfl (hts _ hm2) (hts _ hlk) ⟨hm3.1, hm3.2, hm4⟩ hroom
  have hrun := vx_runV (e := e) (below := below) (meth := meth) (H := H) (locs := locs) (cells := ce) (slots := so) (b := ad b) (As := as.map (gv ad)) (rest := st.map (gv ad)) (g := F0 m pc la ((as.reverse ++ .ref b :: st).map (gv ad))) ⟨hx, hb, hml, hown, hts⟩ (hc l hst Z.2.2.2.1 Z.2.2.2.2.1 adV ad H.size) ⟨hcb, hts _ hin, hts _ hse⟩ ⟨gBlind, hrecv, fun U hU hW => ⟨rfl, gIn_of hR hH hA hK hE hU hW⟩⟩ rfl hlen hl.1 (by show (as.reverse ++ .ref b :: st).map (gv ad) = _; rw [List.map_append, List.map_reverse]; rfl) (lv_room (pc := pc) (ls := la) (rest := (as.reverse ++ .ref b :: st).map (gv ad)) (m := m) hrest) hd hbd
  have hf := gA_sub hR hH hA
  intro T9 hT X
  rcases hrun T9 hT X with ⟨v, st₀, t, T', L, h0, X', hL, e1, e2, hqa, hst⟩ | ⟨q, st₀, t, T', L, E, ce1, h0, X', hL, e1, e2, ⟨hxe, hxp, hxf⟩, hce, hcv, hcl, hsteps⟩
  · exact hqa.elim
  · obtain ⟨hz, hk⟩ := hxf
    rw [h0] at hz hk
    subst hxe
    obtain ⟨t2, a1, b1⟩ := kk T'.heap (locs ++ L) la q ce1 ⟨by rw [e1]; exact hxp, hR.2.1, ⟨Nat.le_trans hR.2.2.1.1 (by rw [e1]; exact hz), fun q h1 h2 => by rw [e1, hk q (Nat.lt_of_lt_of_le h1 hR.2.2.1.1) (fun z => h2 (hf _ z))]; exact hR.2.2.1.2.1 q h1 h2, fun q hq => by
      rcases List.mem_append.mp hq with h | h
      · exact hR.2.2.1.2.2 q h
      · exact hf _ (hL q h)⟩, hR.2.2.2.1, hR.2.2.2.2⟩ hl (by rw [e1]; exact hce) hcv hcl T' rfl X'
    exact ⟨t2, hsteps.trans a1, b1⟩
/-- .. and goes on to the caller -/
theorem g_callVX (hF : gFix Z cc own nm rt d mc ms Acc AccX) {b ci : Nat} {C : String} (hm : gMy y cc' nL' rt' n) (hlk : Cond.methodLink own idx y ∈ gWS) (hin : Cond.instanceMethod y ∈ gWS) (hse : Cond.selects C y y ∈ gWS) {TT : u_T} {N : Nat} (hC : vwCl[ci]? = some (C, TT, N)) (hci : ci < 10) {len9 : Nat} (hTb : T[b]? = some (ci, len9))
    (hc : gRetX d' y cc' nL' rt' mc' ms' (.ref b :: as) T M k) (hdd : d' + 1 ≤ d) (hmc : ce + mc' ≤ mc) (hms : so + ms' ≤ ms) (hn : as.length = n) (hst0 : st0 = as.reverse ++ .ref b :: st) (hcat : (st.map fun v => v.category).sum ≤ 8) (ha : AccX k ad T M) (hd : decode cc pc = .ok (.invokevirtual idx, 3)) : gG Z ad T M ce so pc ls st0 := by
  obtain ⟨p, l, e, R, s, m, args, below, meth, c, Q, adV, hBs⟩ := hF
  refine g_callX_run (ls := ls) hBs hm hlk hin hse hC hci hTb hc hdd hmc hms hn hst0 hcat hd ?_
  obtain ⟨hKq, hx, hb, hml, hown, hts, hK, hH, hA, hE, hRm, hnm, hlk9, hst, hrr1, hrr2, hrr3, hrr4, hrt, hrp⟩ := hBs
  intro H locs la q cell hR hl hq hv hcl
  exact hrp H locs (ce + mc') (so + ms') pc la (st.map (gv ad)) ad T M k q cell hR ha hq hv hcl hmc hms
end GXR
/-! METHODS WITH A TABLE OF HANDLERS -/
def gWsH (y : MethodName) (cc : ByteArray) (nL : Nat) (rt : Option FieldType) (hh : List (Nat × Nat × Nat × Nat)) : List Cond := Cond.codeWith y cc nL rt hh :: gWS
def gRetH (d : Nat) (y : MethodName) (cc : ByteArray) (nL : Nat) (rt : Option FieldType) (hh : List (Nat × Nat × Nat × Nat)) (mc ms : Nat) (av : List Value) (T : gT) (M : gM) (Acc : gAcc) : Prop := ∀ l : Launch, l.stackTraces = false →
  ∀ (D : va_G) (dA : Nat → ClassId) (adV ad0 : Nat → Nat) (sz : Nat), Met l y (gWsH y cc nL rt hh) { frames := d, cells := mc, slots := ms, locals := 64 * d } (va_Pc (av.map (gv ad0)) (gIn (gA ad0 T.length sz) D dA adV ad0 T M sz)) (gOut (gA ad0 T.length sz) D dA ad0 Acc) mc ms (gA ad0 T.length sz)
def gFixH (Z : gZ) (cc : ByteArray) (own nm : String) (rt : Option FieldType) (hh : List (Nat × Nat × Nat × Nat)) (d mc ms : Nat) (Acc : Option Value → (Nat → Nat) → gT → gM → Prop) (AccX : Nat → (Nat → Nat) → gT → gM → Prop) : Prop :=
  ∃ (p : Program) (l : Launch) (e : Env) (R : Room) (s : State) (m : MethodId) (args : Array Value) (below : List Frame) (meth : Method) (c : Code) (Q : State → Prop) (adV : Nat → Nat), gBase Z cc own nm rt d mc ms Acc AccX p l e R s m args below meth c Q adV ∧ c.exceptionTable.toList = tableOf hh
theorem gFixH.fix {Z : gZ} {cc : ByteArray} {own nm : String} {rt : Option FieldType} {hh : List (Nat × Nat × Nat × Nat)} {d mc ms : Nat} {Acc : Option Value → (Nat → Nat) → gT → gM → Prop} {AccX : Nat → (Nat → Nat) → gT → gM → Prop} (h : gFixH Z cc own nm rt hh d mc ms Acc AccX) : gFix Z cc own nm rt d mc ms Acc AccX := by
  obtain ⟨p, l, e, R, s, m, args, below, meth, c, Q, adV, hB, -⟩ := h
  exact ⟨p, l, e, R, s, m, args, below, meth, c, Q, adV, hB⟩
section GXH
variable {d : Nat} {y : MethodName} {cc : ByteArray} {nL : Nat} {rt : Option FieldType} {hh : List (Nat × Nat × Nat × Nat)} {mc ms : Nat} {av : List Value} {T : gT} {M : gM} {Acc : gAcc}
theorem gRetH_of {own : String} (hy : plainName y.cls = true) (hcls : y.cls = own) (hlen : (lg_sl av).length ≤ nL)
    (body : ∀ (Z : gZ) (ad0 : Nat → Nat), Z.2.2.2.2.2.1 = nL → Z.2.2.2.2.2.2 = ad0 → gFixH Z cc own y.name rt hh d mc ms (Acc ad0) (fun _ _ _ _ => False) → gG Z ad0 T M 0 0 0 (lv_args 0 av) []) : gRetH d y cc nL rt hh mc ms av T M Acc := by
  intro l hst D dA adV ad0 sz
  have hV : vx_Met l y (gWsH y cc nL rt hh) { frames := d, cells := mc, slots := ms, locals := 64 * d } (va_Pc (av.map (gv ad0)) (gIn (gA ad0 T.length sz) D dA adV ad0 T M sz)) (gOut (gA ad0 T.length sz) D dA ad0 Acc) (fun _ _ _ => False) mc ms (gA ad0 T.length sz) := by
    refine vx_ofWH (cc := cc) (maxL := nL) (ret := rt) (hh := hh) hy rfl ?_
    intro p e s m args below meth c s₁ B hml hv
    obtain ⟨rfl, hsz, hP, hD, hC, hK, hE⟩ := hv
    subst hsz
    have hts := atoms_spec (ws := gWsH y cc nL rt hh) B.pre
    have hown : s.vm.findClass own = some m.cls := by rw [← hcls]; exact findClass_of_methodNamed B.named
    have hnm : meth.name = y.name := (name_of_methodNamed B.named B.method).1
    have hr := B.returns
    have hlocks := B.notSynchronized
    have htab : c.exceptionTable.toList = tableOf hh := vx_table (x := y) B (hts _ List.mem_cons_self)
    generalize hZ : (((fun H locs ce so pc la st => W p l e ((headSpec (gWsH y cc nL rt hh) { frames := d, cells := mc, slots := ms, locals := 64 * d }).room) s m ((av.map (gv ad0)).toArray) below meth c H locs ce so (vx_MQ below (gOut (gA ad0 T.length s.heap.size) D dA ad0 Acc) (fun _ _ _ => False) ((av.map (gv ad0)).toArray) s mc ms (gA ad0 T.length s.heap.size)) (F0 m pc la st)), gA ad0 T.length s.heap.size, s.heap, D, dA, nL, ad0) : gZ) = Z
    have hb := body Z ad0 (by rw [← hZ]) (by rw [← hZ]) ⟨p, l, e, _, s, m, _, below, meth, c, _, adV, by
      subst hZ
      refine ⟨rfl, B.exec, B.bytes, hml, hown, fun w hw => hts w (List.mem_cons_of_mem _ hw), hK, rfl, fun q hq => Or.inr hq, hE, ⟨Nat.le_refl d, Nat.le_refl _, Nat.le_refl mc, Nat.le_refl ms⟩, hnm, hlocks, hst, ?_, ?_, ?_, ?_, fun _ _ _ _ _ _ _ _ _ _ _ _ _ _ _ _ _ h => h.elim, fun _ _ _ _ _ _ _ _ _ _ _ _ _ _ h => h.elim⟩
      · intro H locs ce so pc la ad T1 M1 x ty hR hrt hn hd ha h1 h2
        refine vx_ret (W.widen h1 h2 ?_)
        exact W.zret B.exec B.bytes (hr.trans hrt) hn (fun t ht hW => ⟨⟨some (.int x), ad, T1, M1, rfl, ha, by rw [ht]; exact hR.1, hR.2.1, hR.2.2.2.1, hR.2.2.2.2⟩, hR.2.2.1.F ht⟩) hR.2.2.1.2.2 hd hlocks
      · intro H locs ce so pc la ad T1 M1 x hR hrt hd ha h1 h2
        refine vx_ret (W.widen h1 h2 ?_)
        exact W.lret B.exec B.bytes (hr.trans hrt) (fun t ht hW => ⟨⟨some (.long x), ad, T1, M1, rfl, ha, by rw [ht]; exact hR.1, hR.2.1, hR.2.2.2.1, hR.2.2.2.2⟩, hR.2.2.1.F ht⟩) hR.2.2.1.2.2 hd hlocks
      · intro H locs ce so pc la ad T1 M1 a ty hR hrt hty hd ha h1 h2
        refine vx_ret (W.widen h1 h2 ?_)
        exact W.aret B.exec B.bytes (hr.trans hrt) hty (Or.inr ⟨_, rfl⟩) (fun t ht hW => ⟨⟨some (.ref a), ad, T1, M1, rfl, ha, by rw [ht]; exact hR.1, hR.2.1, hR.2.2.2.1, hR.2.2.2.2⟩, hR.2.2.1.F ht⟩) hR.2.2.1.2.2 hd hlocks
      · intro H locs ce so pc la ad T1 M1 hR hrt hd ha h1 h2
        refine vx_ret (W.widen h1 h2 ?_)
        exact W.vret B.exec B.bytes (hr.trans hrt) (fun t ht hW => ⟨⟨none, ad, T1, M1, rfl, ha, by rw [ht]; exact hR.1, hR.2.1, hR.2.2.2.1, hR.2.2.2.2⟩, hR.2.2.1.F ht⟩) hR.2.2.1.2.2 hd hlocks, htab⟩
    rw [lg_entry_eq]
    have hl := lv_entry (av.map (gv ad0)) (n := nL) (by rw [glg_len]; exact hlen)
    rw [gmp_args] at hl
    subst hZ
    exact hb s.heap [] _ ⟨hP, hD, va_S.rf, hC, fun _ _ => rfl⟩ hl
  refine MetFree.mono hV (fun _ _ h => h) (fun _ _ _ _ _ h => h) (fun a s' o t _ hq => ?_)
  rcases hq with h | ⟨q, -, E, ce, L, hxc, -⟩
  · exact h
  · exact hxc.elim
end GXH
section GXC
variable {Z : gZ} {cc : ByteArray} {own nm : String} {rt : Option FieldType} {hh : List (Nat × Nat × Nat × Nat)} {d mc ms : Nat} {Acc : Option Value → (Nat → Nat) → gT → gM → Prop} {AccX : Nat → (Nat → Nat) → gT → gM → Prop} {ad : Nat → Nat} {T : gT} {M : gM} {ce so pc : Nat} {ls ls' : List (Nat × Value)} {st st0 : List Value}
variable {y : MethodName} {cc' : ByteArray} {nL' n idx mc' ms' d' : Nat} {rt' : Option FieldType} {as : List Value} {k : Nat}
/-- a call that throws, caught by the row x of the table; the exception goes into the local i -/
theorem g_callVC (hF : gFixH Z cc own nm rt hh d mc ms Acc AccX) {b ci : Nat} {C : String} (hm : gMy y cc' nL' rt' n) (hlk : Cond.methodLink own idx y ∈ gWS) (hin : Cond.instanceMethod y ∈ gWS) (hse : Cond.selects C y y ∈ gWS) {TT : u_T} {N : Nat} (hC : vwCl[ci]? = some (C, TT, N)) (hci : ci < 10) {len9 : Nat} (hTb : T[b]? = some (ci, len9))
    (hc : gRetX d' y cc' nL' rt' mc' ms' (.ref b :: as) T M k) (hdd : d' + 1 ≤ d) (hmc : ce + mc' ≤ mc) (hms : so + ms' ≤ ms) (hn : as.length = n) (hst0 : st0 = as.reverse ++ .ref b :: st) (hcat : (st.map fun v => v.category).sum ≤ 8) (hd : decode cc pc = .ok (.invokevirtual idx, 3))
    (pre : List (Nat × Nat × Nat × Nat)) (x : Nat × Nat × Nat × Nat) (suf : List (Nat × Nat × Nat × Nat)) (hsplit : hh = pre ++ x :: suf) (hcov : x.1 ≤ pc ∧ pc < x.2.1) (hx0 : x.2.2.2 ≠ 0) (hpass : ∀ z ∈ pre, z.2.2.2 ≠ 0 ∧ ∃ nm' : String, Cond.classLink own z.2.2.2 nm' ∈ gWS ∧ (gExN k, nm') ∈ gNcs)
    (hlx : Cond.classLink own x.2.2.2 (gExN k) ∈ gWS) (hcast : Cond.castable (gExN k) (gExN k) ∈ gNw) {i pc2 : Nat} (hst : (∃ kf : Fin 4, decode cc x.2.2.1 = .ok (.astore_n kf, 1) ∧ (kf : Nat) = i ∧ pc2 = x.2.2.1 + 1) ∨ (decode cc x.2.2.1 = .ok (.astore i, 2) ∧ pc2 = x.2.2.1 + 2)) (hi : i < Z.2.2.2.2.2.1)
    (hls : ls.filter (fun q => !(q.1 == i) && !(q.1 + 1 == i && q.2.category == 2)) = ls') (kk : gG Z ad T M (ce + mc') (so + ms') pc2 ls' []) : gG Z ad T M ce so pc ls st0 := by
  obtain ⟨p, l, e, R, s, m, args, below, meth, c, Q, adV, hBs, htab⟩ := hF
  refine g_callX_run (ls := ls) hBs hm hlk hin hse hC hci hTb hc hdd hmc hms hn hst0 hcat hd ?_
  obtain ⟨hKq, hx, hb, hml, hown, hts, hK, hH, hA, hE, hRm, hnm, hlk9, hst9, -⟩ := hBs
  intro H locs la q cell hR hl hq hv hcl
  have kk := fun la hl => kk H locs la hR hl
  rw [hKq] at kk
  have drop : ∀ la', lv_has la' Z.2.2.2.2.2.1 ((i, Value.ref q) :: (gmp ad ls).filter (fun q => !(q.1 == i) && !(q.1 + 1 == i && q.2.category == 2))) → lv_has la' Z.2.2.2.2.2.1 (gmp ad ls') := fun la' h => by
    have e1 := gl_st1 (ad := ad) (v := .int 0) (i := i) (ls := ls) rfl
    have e2 : (gmp ad ls).filter (fun q => !(q.1 == i) && !(q.1 + 1 == i && q.2.category == 2)) = gmp ad ls' := by
      rw [← hls]
      exact (List.cons.inj e1).2
    rw [e2] at h
    exact ⟨h.1, h.2.1, fun z hz => h.2.2 z (List.mem_cons_of_mem _ hz)⟩
  refine vx_catch (own := own) (name := gExN k) (E := gExN k) hown (tableOf pre) ⟨x.1, x.2.1, x.2.2.1, x.2.2.2⟩ (tableOf suf) (by rw [htab, hsplit]; simp [tableOf]) (fun z hz => ?_) ?_ hx0 (hts _ hlx) (gNw_use hcast (hE.1 _ hcast)) hq hv hcl ?_
  · obtain ⟨z', hz', rfl⟩ := List.mem_map.mp hz
    obtain ⟨g1, nm', g2, g3⟩ := hpass z' hz'
    exact Or.inr ⟨g1, nm', hts _ g2, hE.2.2.2.2.2.2.2.2.1 _ g3⟩
  · simp only [covers]
    simp [hcov.1, hcov.2]
  · rcases hst with ⟨kf, h1, h2, h3⟩ | ⟨h1, h3⟩
    · subst h3
      exact lv_astore_n hx hb h1 h2 hl hi rfl (fun la hl => kk la (drop la hl))
    · subst h3
      exact lv_astore hx hb h1 hl hi rfl (fun la hl => kk la (drop la hl))
/-- a static call of a method with a table of handlers -/
theorem g_callSW (hF : gFix Z cc own nm rt d mc ms Acc AccX) {Acc' : gAcc} {hh' : List (Nat × Nat × Nat × Nat)} (hm1 : Cond.codeWith y cc' nL' rt' hh' ∈ gWS) (hm2 : Cond.initialized y.cls ∈ gWS) (hm3 : y.cls = own) (hm6 : y.cls ≠ "java/lang/invoke/MethodHandle" ∧ y.cls ≠ "java/lang/invoke/VarHandle") (hm4 : (parseMethodDescriptor y.desc).map (fun d => d.parameters.length) = some n) (hm5 : nL' ≤ 45) (hlk : Cond.methodLink own idx y ∈ gWS) (hsta : Cond.static y ∈ gWS)
    (hc : gRetH d' y cc' nL' rt' hh' mc' ms' as T M Acc') (hdd : d' + 1 ≤ d) (hmc : ce + mc' ≤ mc) (hms : so + ms' ≤ ms) (hn : as.length = n) (hst0 : st0 = as.reverse ++ st) (hcat : (st.map fun v => v.category).sum ≤ 8) (hd : decode cc pc = .ok (.invokestatic idx, 3))
    (k : ∀ (v : Option Value) (ad1 : Nat → Nat) (T1 : gT) (M1 : gM), Acc' ad v ad1 T1 M1 → (∀ a : Nat, gSB ≤ a → ad1 a = ad a) → ∀ H locs la, gRp Z ad1 T1 M1 H locs → lv_has la Z.2.2.2.2.2.1 (gmp ad ls) → Z.1 H locs (ce + mc') (so + ms') (pc + 3) la ((v.map (gv ad1)).toList ++ st.map (gv ad))) : gG Z ad T M ce so pc ls st0 := by
  obtain ⟨p, l, e, R, s, m, args, below, meth, c, Q, adV, hKq, hx, hb, hml, hown, hts, hK, hH, hA, hE, hRm, hnm, hlk9, hst, -⟩ := hF
  intro H locs la hR hl
  subst hst0
  have k := fun v ad1 T1 M1 ha had H1 locs1 hR1 => k v ad1 T1 M1 ha had H1 locs1 la hR1 hl
  rw [hKq] at k ⊢
  dsimp only at k ⊢
  have hroom : d' + 1 ≤ R.frames ∧ 8 + (nL' + 11) + 64 * d' ≤ R.locals := ⟨by have := hRm.1; omega, by have := hRm.2.1; omega⟩
  have hlen : (as.map (gv ad)).length = n := by rw [List.length_map]; exact hn
  have hrest : (((st.map (gv ad)).map fun v => v.category).sum) ≤ 8 := by
    rw [List.map_map, show ((fun v : Value => v.category) ∘ gv ad) = (fun v => v.category) from funext fun v => gv_cat ad v]
    exact hcat
  have hbd : ce + mc' ≤ R.cells ∧ so + ms' ≤ R.slots := ⟨Nat.le_trans hmc hRm.2.2.1, Nat.le_trans hms hRm.2.2.2⟩
  have hgood : ∀ w ∈ gWsH y cc' nL' rt' hh', w ∈ gWS := fun w hw => (List.mem_cons.mp hw).elim (fun e => e ▸ hm1) id
  have hpay : ∀ w ∈ gWsH y cc' nL' rt' hh', ∀ (a' : Array Value) (U : State), s.WarmedH U.vm → w.before a' U = true := fun w hw a' U hW => word_at hW (good_of_word (List.mem_filter.mp (hgood w hw)).2) (hts _ (hgood w hw))
  have hcw : vx_CSW R s args own idx y cc' nL' rt' hh' (gWsH y cc' nL' rt' hh') { frames := d', cells := mc', slots := ms', locals := 64 * d' } mc' ms' n := ⟨⟨rfl, rfl, hroom.1, hroom.2, hpay, List.mem_cons_self⟩, hts _ hm1, hts _ hm2, hm6, fun sig h => by rw [h] at hm4; exact (Option.some.inj hm4).symm, hts _ hlk, hts _ hsta⟩
  have hrun := vx_runSW (e := e) (below := below) (meth := meth) (H := H) (locs := locs) (cells := ce) (slots := so) (As := as.map (gv ad)) (rest := st.map (gv ad)) (g := F0 m pc la ((as.reverse ++ st).map (gv ad))) ⟨hx, hb, hml, hown, hts⟩ (hc l hst Z.2.2.2.1 Z.2.2.2.2.1 adV ad H.size) hcw ⟨gBlind, fun U hU hW => ⟨rfl, gIn_of hR hH hA hK hE hU hW⟩⟩ rfl hlen hl.1 (by show (as.reverse ++ st).map (gv ad) = _; rw [List.map_append, List.map_reverse]) (lv_room (pc := pc) (ls := la) (rest := (as.reverse ++ st).map (gv ad)) (m := m) hrest) hd hbd
  exact g_after hrun hR (gA_sub hR hH hA) (fun v ad1 T1 M1 H1 locs1 ha hR1 => k v ad1 T1 M1 ha (fun a q => (hR1.2.2.2.2 a q).trans (hR.2.2.2.2 a q).symm) H1 locs1 hR1)
end GXC
end
section
/-! STRING CONSTANTS, Math, arraycopy, and the JDK's small methods -/
def gSl (i : Nat) : Nat := (gStrs.getD i []).length
def gSc (i k : Nat) : Int32 := Int32.ofNat ((gStrs.getD i []).getD k 0)
section GJ
variable {Z : gZ} {cc : ByteArray} {own nm : String} {rt : Option FieldType} {d mc ms : Nat} {Acc : Option Value → (Nat → Nat) → gT → gM → Prop} {AccX : Nat → (Nat → Nat) → gT → gM → Prop} {ad : Nat → Nat} {T : gT} {M : gM} {ce so pc : Nat} {ls : List (Nat × Value)} {st : List Value}
theorem g_sval (hF : gFix Z cc own nm rt d mc ms Acc AccX) {i idx : Nat} (hi : i < 13) (hw : Cond.fieldLink own idx "java/lang/String" "value" "[B" ∈ gWS) (hd : decode cc pc = .ok (.getfield idx, 3))
    (k : gG Z ad T M ce so (pc + 3) ls (.ref (gSB + 1000 + i) :: st)) : gG Z ad T M ce so pc ls (.ref (gSB + i) :: st) := by
  obtain ⟨p, l, e, R, s, m, args, below, meth, c, Q, adV, hKq, hx, hb, hml, hown, hts, hK, hH, hA, hE, hRm, hnm, hlk9, hst9, -⟩ := hF
  intro H locs la hR hl
  have k := k H locs la hR hl
  rw [hKq] at k ⊢
  have hS9 := hR.2.2.1
  rw [hH] at hS9
  have e1 : gv ad (.ref (gSB + 1000 + i)) = .ref (adV i) := by
    show Value.ref (ad _) = _
    rw [hR.2.2.2.2 _ (by omega), hE.2.2.2.2.2.2.2.2.2.2.2 i hi]
  have e2 : gv ad (.ref (gSB + i)) = .ref (Z.2.2.2.2.2.2 (gSB + i)) := by
    show Value.ref (ad _) = _
    rw [hR.2.2.2.2 _ (by omega)]
  rw [List.map_cons, e1] at k
  rw [List.map_cons, e2]
  exact vk_getf hx hb (hE.2.2.1.1 i hi).2.2.1 hS9 hown (hts _ hw) (fun x hx => hx) hd k
theorem g_scod (hF : gFix Z cc own nm rt d mc ms Acc AccX) {i idx : Nat} (hi : i < 13) (hw : Cond.fieldLink own idx "java/lang/String" "coder" "B" ∈ gWS) (hd : decode cc pc = .ok (.getfield idx, 3))
    (k : gG Z ad T M ce so (pc + 3) ls (.int 0 :: st)) : gG Z ad T M ce so pc ls (.ref (gSB + i) :: st) := by
  obtain ⟨p, l, e, R, s, m, args, below, meth, c, Q, adV, hKq, hx, hb, hml, hown, hts, hK, hH, hA, hE, hRm, hnm, hlk9, hst9, -⟩ := hF
  intro H locs la hR hl
  have k := k H locs la hR hl
  rw [hKq] at k ⊢
  have hS9 := hR.2.2.1
  rw [hH] at hS9
  have e2 : gv ad (.ref (gSB + i)) = .ref (Z.2.2.2.2.2.2 (gSB + i)) := by
    show Value.ref (ad _) = _
    rw [hR.2.2.2.2 _ (by omega)]
  rw [List.map_cons, e2]
  exact vk_getf hx hb (hE.2.2.1.1 i hi).2.1 hS9 hown (hts _ hw) (fun x hx => hx) hd k
theorem g_sblen (hF : gFix Z cc own nm rt d mc ms Acc AccX) {i : Nat} (hi : i < 13) (hd : decode cc pc = .ok (.arraylength, 1))
    (k : gG Z ad T M ce so (pc + 1) ls (.int (Int32.ofNat (gSl i)) :: st)) : gG Z ad T M ce so pc ls (.ref (gSB + 1000 + i) :: st) := by
  obtain ⟨p, l, e, R, s, m, args, below, meth, c, Q, adV, hKq, hx, hb, hml, hown, hts, hK, hH, hA, hE, hRm, hnm, hlk9, hst9, -⟩ := hF
  intro H locs la hR hl
  have k := k H locs la hR hl
  rw [hKq] at k ⊢
  have hS9 := hR.2.2.1
  rw [hH] at hS9
  have e1 : gv ad (.ref (gSB + 1000 + i)) = .ref (adV i) := by
    show Value.ref (ad _) = _
    rw [hR.2.2.2.2 _ (by omega), hE.2.2.2.2.2.2.2.2.2.2.2 i hi]
  rw [List.map_cons, e1]
  exact va_tlen hx hb (hE.2.2.1.1 i hi).2.2.2 hS9 (by
    rw [gSl, List.getD_eq_getElem?_getD, List.getElem?_map, List.getD_eq_getElem?_getD]
    cases gStrs[i]? <;> rfl) hd k
theorem g_sbald (hF : gFix Z cc own nm rt d mc ms Acc AccX) {i : Nat} {x : Int32} (hi : i < 13) (hin : vp_in x (gSl i)) (hd : decode cc pc = .ok (.baload, 1))
    (k : gG Z ad T M ce so (pc + 1) ls (.int (gSc i x.toNatClampNeg) :: st)) : gG Z ad T M ce so pc ls (.int x :: .ref (gSB + 1000 + i) :: st) := by
  obtain ⟨p, l, e, R, s, m, args, below, meth, c, Q, adV, hKq, hx, hb, hml, hown, hts, hK, hH, hA, hE, hRm, hnm, hlk9, hst9, -⟩ := hF
  intro H locs la hR hl
  have k := k H locs la hR hl
  rw [hKq] at k ⊢
  have hS9 := hR.2.2.1
  rw [hH] at hS9
  have e1 : gv ad (.ref (gSB + 1000 + i)) = .ref (adV i) := by
    show Value.ref (ad _) = _
    rw [hR.2.2.2.2 _ (by omega), hE.2.2.2.2.2.2.2.2.2.2.2 i hi]
  rw [List.map_cons, List.map_cons, e1]
  have hlen : (gStrs.map List.length).getD i 0 = gSl i := by
    rw [gSl, List.getD_eq_getElem?_getD, List.getElem?_map, List.getD_eq_getElem?_getD]
    cases gStrs[i]? <;> rfl
  refine va_tb hx hb (hE.2.2.1.1 i hi).2.2.2 hS9 (by rw [hlen]; exact hin) (v := .int (gSc i x.toNatClampNeg)) ?_ hd k
  have hlt : x.toNatClampNeg < (gStrs.getD i []).length := Nat.not_le.mp fun q => hin (Or.inr q)
  show Value.int (((gStrs.map (fun l => l.map Int32.ofNat)).getD i []).getD x.toNatClampNeg 0) = Value.int (gSc i x.toNatClampNeg)
  congr 1
  rw [gSc]
  simp only [List.getD_eq_getElem?_getD, List.getElem?_map] at hlt ⊢
  cases hg : gStrs[i]? with
  | none => rw [hg] at hlt; exact absurd hlt (Nat.not_lt_zero _)
  | some l =>
    rw [hg] at hlt
    simp only [Option.map_some, Option.getD_some, List.getElem?_map] at hlt ⊢
    rw [List.getElem?_eq_getElem hlt]
    rfl
theorem g_compact (hF : gFix Z cc own nm rt d mc ms Acc AccX) {idx : Nat} (hw : Cond.fieldLink own idx "java/lang/String" "COMPACT_STRINGS" "Z" ∈ gWS) (hd : decode cc pc = .ok (.getstatic idx, 3))
    (k : gG Z ad T M ce so (pc + 3) ls (.int 1 :: st)) : gG Z ad T M ce so pc ls st := by
  obtain ⟨p, l, e, R, s, m, args, below, meth, c, Q, adV, hKq, hx, hb, hml, hown, hts, hK, hH, hA, hE, hRm, hnm, hlk9, hst9, -⟩ := hF
  intro H locs la hR hl
  have k := k H locs la hR hl
  rw [hKq] at k ⊢
  have hS9 := hR.2.2.1
  rw [hH] at hS9
  exact va_gets hx hb hE.2.2.2.2.2.2.2.2.2.1 hS9 hown (hts _ hw) (fun x hx => hx) hd k
theorem g_fmt (hF : gFix Z cc own nm rt d mc ms Acc AccX) {idx : Nat} (hw : Cond.fieldLink own idx "jdk/internal/util/Preconditions" "SIOOBE_FORMATTER" "Ljava/util/function/BiFunction;" ∈ gWS) (hd : decode cc pc = .ok (.getstatic idx, 3))
    (k : ∀ v : Value, v.category = 1 → gG Z ad T M ce so (pc + 3) ls (v :: st)) : gG Z ad T M ce so pc ls st := by
  obtain ⟨p, l, e, R, s, m, args, below, meth, c, Q, adV, hKq, hx, hb, hml, hown, hts, hK, hH, hA, hE, hRm, hnm, hlk9, hst9, -⟩ := hF
  intro H locs la hR hl
  have k := fun v hv => k v hv H locs la hR hl
  rw [hKq] at k ⊢
  have hS9 := hR.2.2.1
  rw [hH] at hS9
  rcases hE.2.2.2.2.2.2.2.2.2.2.1 with h | h
  · exact va_gets hx hb h hS9 hown (hts _ hw) (fun x hx => hx) hd (k .null rfl)
  · have k1 := k (.ref (gSB + 2000)) rfl
    have e1 : gv ad (.ref (gSB + 2000)) = .ref (Z.2.2.2.2.2.2 (gSB + 2000)) := by
      show Value.ref (ad _) = _
      rw [hR.2.2.2.2 _ (by omega)]
    rw [List.map_cons, e1] at k1
    exact va_gets hx hb h hS9 hown (hts _ hw) (fun x hx => hx) hd k1
theorem g_i2c (hF : gFix Z cc own nm rt d mc ms Acc AccX) {x v : Int32} (hv : (x.toUInt32 % 65536).toInt32 = v) (hd : decode cc pc = .ok (.i2c, 1))
    (k : gG Z ad T M ce so (pc + 1) ls (.int v :: st)) : gG Z ad T M ce so pc ls (.int x :: st) := by
  obtain ⟨p, l, e, R, s, m, args, below, meth, c, Q, adV, hKq, hx, hb, hml, hown, hts, hK, hH, hA, hE, hRm, hnm, hlk9, hst9, -⟩ := hF
  intro H locs la hR hl
  have k := k H locs la hR hl
  rw [hKq] at k ⊢
  exact lv_i2c hx hb hd hv k

theorem gm_max1 : Cond.static Lib.Math.max.name ∈ gWS := gws_of 537 (by decide +kernel) (by decide +kernel)
theorem gm_max3 : Cond.code Lib.Math.max.name Lib.Math.max.code 2 (some .int) ∈ gWS := gws_of 538 (by decide +kernel) (by decide +kernel)
theorem g_max (hF : gFix Z cc own nm rt d mc ms Acc AccX) {idx : Nat} {x y : Int32} (hw : Cond.methodLink own idx Lib.Math.max.name ∈ gWS) (hdd : 1 ≤ d) (h1 : ce ≤ mc) (h2 : so ≤ ms) (hcat : (st.map fun v => v.category).sum ≤ 8) (hd : decode cc pc = .ok (.invokestatic idx, 3))
    (k : gG Z ad T M ce so (pc + 3) ls (.int (if x < y then y else x) :: st)) : gG Z ad T M ce so pc ls (.int y :: .int x :: st) := by
  obtain ⟨p, l, e, R, s, m, args, below, meth, c, Q, adV, hKq, hx, hb, hml, hown, hts, hK, hH, hA, hE, hRm, hnm, hlk9, hst9, -⟩ := hF
  intro H locs la hR hl
  have k := k H locs la hR hl
  rw [hKq] at k ⊢
  exact va_mmax hx hb (hml.trans hl.1.symm) hown (hts _ hw) (hts _ gm_max1) (hts _ (gws_of 120 (by decide +kernel) (by decide +kernel))) (hts _ gm_max3) (by have := hRm.1; omega) (by
    have h9 : (((st.map (gv ad)).map fun v => v.category).sum) ≤ 8 := by
      rw [List.map_map, show ((fun v : Value => v.category) ∘ gv ad) = (fun v => v.category) from funext fun v => gv_cat ad v]
      exact hcat
    have := hRm.2.1
    omega) (Nat.le_trans h1 hRm.2.2.1) (Nat.le_trans h2 hRm.2.2.2) hd k

theorem gm_min1 : Cond.static Lib.Math.min.name ∈ gWS := gws_of 697 (by decide +kernel) (by decide +kernel)
theorem gm_min3 : Cond.code Lib.Math.min.name Lib.Math.min.code 2 (some .int) ∈ gWS := gws_of 698 (by decide +kernel) (by decide +kernel)
theorem g_min (hF : gFix Z cc own nm rt d mc ms Acc AccX) {idx : Nat} {x y : Int32} (hw : Cond.methodLink own idx Lib.Math.min.name ∈ gWS) (hdd : 1 ≤ d) (h1 : ce ≤ mc) (h2 : so ≤ ms) (hcat : (st.map fun v => v.category).sum ≤ 8) (hd : decode cc pc = .ok (.invokestatic idx, 3))
    (k : gG Z ad T M ce so (pc + 3) ls (.int (if y < x then y else x) :: st)) : gG Z ad T M ce so pc ls (.int y :: .int x :: st) := by
  obtain ⟨p, l, e, R, s, m, args, below, meth, c, Q, adV, hKq, hx, hb, hml, hown, hts, hK, hH, hA, hE, hRm, hnm, hlk9, hst9, -⟩ := hF
  intro H locs la hR hl
  have k := k H locs la hR hl
  rw [hKq] at k ⊢
  exact va_mmin hx hb (hml.trans hl.1.symm) hown (hts _ hw) (hts _ gm_min1) (hts _ (gws_of 120 (by decide +kernel) (by decide +kernel))) (hts _ gm_min3) (by have := hRm.1; omega) (by
    have h9 : (((st.map (gv ad)).map fun v => v.category).sum) ≤ 8 := by
      rw [List.map_map, show ((fun v : Value => v.category) ∘ gv ad) = (fun v => v.category) from funext fun v => gv_cat ad v]
      exact hcat
    have := hRm.2.1
    omega) (Nat.le_trans h1 hRm.2.2.1) (Nat.le_trans h2 hRm.2.2.2) hd k

theorem gm_maxl1 : Cond.static Lib.MathLoose.max_long.x ∈ gWS := gws_of 499 (by decide +kernel) (by decide +kernel)
theorem gm_maxl3 : Cond.code Lib.MathLoose.max_long.x Lib.MathLoose.max_long.code 4 (some .long) ∈ gWS := gws_of 500 (by decide +kernel) (by decide +kernel)
theorem g_maxl (hF : gFix Z cc own nm rt d mc ms Acc AccX) {idx : Nat} {x y : Int64} (hw : Cond.methodLink own idx Lib.MathLoose.max_long.x ∈ gWS) (hdd : 1 ≤ d) (h1 : ce ≤ mc) (h2 : so ≤ ms) (hcat : (st.map fun v => v.category).sum ≤ 8) (hd : decode cc pc = .ok (.invokestatic idx, 3))
    (k : gG Z ad T M ce so (pc + 3) ls (.long (if y < x then x else y) :: st)) : gG Z ad T M ce so pc ls (.long y :: .long x :: st) := by
  obtain ⟨p, l, e, R, s, m, args, below, meth, c, Q, adV, hKq, hx, hb, hml, hown, hts, hK, hH, hA, hE, hRm, hnm, hlk9, hst9, -⟩ := hF
  intro H locs la hR hl
  have k := k H locs la hR hl
  rw [hKq] at k ⊢
  exact va_mmax_long hx hb (hml.trans hl.1.symm) hown (hts _ hw) (hts _ gm_maxl1) (hts _ (gws_of 120 (by decide +kernel) (by decide +kernel))) (hts _ gm_maxl3) (by have := hRm.1; omega) (by
    have h9 : (((st.map (gv ad)).map fun v => v.category).sum) ≤ 8 := by
      rw [List.map_map, show ((fun v : Value => v.category) ∘ gv ad) = (fun v => v.category) from funext fun v => gv_cat ad v]
      exact hcat
    have := hRm.2.1
    omega) (Nat.le_trans h1 hRm.2.2.1) (Nat.le_trans h2 hRm.2.2.2) hd k

theorem gm_minl1 : Cond.static Lib.MathLoose.min_long.x ∈ gWS := gws_of 496 (by decide +kernel) (by decide +kernel)
theorem gm_minl3 : Cond.code Lib.MathLoose.min_long.x Lib.MathLoose.min_long.code 4 (some .long) ∈ gWS := gws_of 497 (by decide +kernel) (by decide +kernel)
theorem g_minl (hF : gFix Z cc own nm rt d mc ms Acc AccX) {idx : Nat} {x y : Int64} (hw : Cond.methodLink own idx Lib.MathLoose.min_long.x ∈ gWS) (hdd : 1 ≤ d) (h1 : ce ≤ mc) (h2 : so ≤ ms) (hcat : (st.map fun v => v.category).sum ≤ 8) (hd : decode cc pc = .ok (.invokestatic idx, 3))
    (k : gG Z ad T M ce so (pc + 3) ls (.long (if y < x then y else x) :: st)) : gG Z ad T M ce so pc ls (.long y :: .long x :: st) := by
  obtain ⟨p, l, e, R, s, m, args, below, meth, c, Q, adV, hKq, hx, hb, hml, hown, hts, hK, hH, hA, hE, hRm, hnm, hlk9, hst9, -⟩ := hF
  intro H locs la hR hl
  have k := k H locs la hR hl
  rw [hKq] at k ⊢
  exact va_mmin_long hx hb (hml.trans hl.1.symm) hown (hts _ hw) (hts _ gm_minl1) (hts _ (gws_of 120 (by decide +kernel) (by decide +kernel))) (hts _ gm_minl3) (by have := hRm.1; omega) (by
    have h9 : (((st.map (gv ad)).map fun v => v.category).sum) ≤ 8 := by
      rw [List.map_map, show ((fun v : Value => v.category) ∘ gv ad) = (fun v => v.category) from funext fun v => gv_cat ad v]
      exact hcat
    have := hRm.2.1
    omega) (Nat.le_trans h1 hRm.2.2.1) (Nat.le_trans h2 hRm.2.2.2) hd k

theorem gm_ac1 : Cond.static arraycopyName ∈ gWS := gws_of 452 (by decide +kernel) (by decide +kernel)
theorem gm_ac2 : Cond.native arraycopyName ∈ gWS := gws_of 453 (by decide +kernel) (by decide +kernel)
theorem gm_ac3 : Cond.initialized "java/lang/System" ∈ gWS := gws_of 121 (by decide +kernel) (by decide +kernel)
theorem gm_ac4 : nativeFrameWords "java/lang/System" "arraycopy" 5 = 7 := by decide +kernel
theorem g_copy_i (hF : gFix Z cc own nm rt d mc ms Acc AccX) {idx a b n0 n1 : Nat} {sp dp n : Int32} (hw : Cond.methodLink own idx arraycopyName ∈ gWS) (hb0 : T[b]? = some (11, n0)) (ha0 : T[a]? = some (11, n1)) (h1 : ¬ sp < 0) (h2 : ¬ dp < 0) (h3 : ¬ n < 0) (h4 : sp.toNatClampNeg + n.toNatClampNeg ≤ n0) (h5 : dp.toNatClampNeg + n.toNatClampNeg ≤ n1) (hdd : 1 ≤ d) (hcat : (st.map fun v => v.category).sum ≤ 8) (hd : decode cc pc = .ok (.invokestatic idx, 3))
    (k : gG Z ad T (cpi M b sp.toNatClampNeg a dp.toNatClampNeg n.toNatClampNeg) ce so (pc + 3) ls st) : gG Z ad T M ce so pc ls (.int n :: .int dp :: .ref a :: .int sp :: .ref b :: st) := by
  obtain ⟨p, l, e, R, s, m, args, below, meth, c, Q, adV, hKq, hx, hb, hml, hown, hts, hK, hH, hA, hE, hRm, hnm, hlk9, hst9, -⟩ := hF
  intro H locs la hR hl
  have k := fun H1 locs1 hR1 => k H1 locs1 la hR1 hl
  rw [hKq] at k ⊢
  have hea := gW_get (dA := Z.2.2.2.2.1) (ad := ad) (M := M) ha0
  have heb := gW_get (dA := Z.2.2.2.2.1) (ad := ad) (M := M) hb0
  rw [gE_i] at hea heb
  have hset := gW_set (dA := Z.2.2.2.2.1) (ad := ad) (M := M) (M' := cpi M b sp.toNatClampNeg a dp.toNatClampNeg n.toNatClampNeg) (e := .inl (Z.2.2.2.2.1 11, n1, .inl (va_cpy (fun j => gi M b j) (fun j => gi M a j) sp.toNatClampNeg dp.toNatClampNeg n.toNatClampNeg))) ha0 (by
    rw [gE_i]
    congr 4
    funext j
    simp only [gi_cpi, true_and, va_cpy]) gE_cpi
  exact va_copyi (ty := .int) hx hb (hml.trans hl.1.symm) hown (hts _ hw) (hts _ gm_ac2) (hts _ gm_ac1) (hts _ gm_ac3) hK hR.1 hR.2.1 hR.2.2.1 b a 1 1 heb hea rfl rfl rfl h1 h2 h3 h4 h5 (fun _ _ => rfl) (by have := hRm.1; omega) (by
    have h9 : (((st.map (gv ad)).map fun v => v.category).sum) ≤ 8 := by
      rw [List.map_map, show ((fun v : Value => v.category) ∘ gv ad) = (fun v => v.category) from funext fun v => gv_cat ad v]
      exact hcat
    have := hRm.2.1
    rw [gm_ac4]; omega) hd (fun H1 locs1 hP hD hS => k H1 locs1 ⟨by rw [← hset]; exact hP, by rw [← hset]; exact hD, hS, gCl_cpi hR.2.2.2.1, hR.2.2.2.2⟩)

theorem g_copy_b (hF : gFix Z cc own nm rt d mc ms Acc AccX) {idx a b n0 n1 : Nat} {sp dp n : Int32} (hw : Cond.methodLink own idx arraycopyName ∈ gWS) (hb0 : T[b]? = some (10, n0)) (ha0 : T[a]? = some (10, n1)) (h1 : ¬ sp < 0) (h2 : ¬ dp < 0) (h3 : ¬ n < 0) (h4 : sp.toNatClampNeg + n.toNatClampNeg ≤ n0) (h5 : dp.toNatClampNeg + n.toNatClampNeg ≤ n1) (hfit : ∀ j, j < n.toNatClampNeg → fits .byte (.int (gi M b (sp.toNatClampNeg + j))) = true) (hdd : 1 ≤ d) (hcat : (st.map fun v => v.category).sum ≤ 8) (hd : decode cc pc = .ok (.invokestatic idx, 3))
    (k : gG Z ad T (cpi M b sp.toNatClampNeg a dp.toNatClampNeg n.toNatClampNeg) ce so (pc + 3) ls st) : gG Z ad T M ce so pc ls (.int n :: .int dp :: .ref a :: .int sp :: .ref b :: st) := by
  obtain ⟨p, l, e, R, s, m, args, below, meth, c, Q, adV, hKq, hx, hb, hml, hown, hts, hK, hH, hA, hE, hRm, hnm, hlk9, hst9, -⟩ := hF
  intro H locs la hR hl
  have k := fun H1 locs1 hR1 => k H1 locs1 la hR1 hl
  rw [hKq] at k ⊢
  have hea := gW_get (dA := Z.2.2.2.2.1) (ad := ad) (M := M) ha0
  have heb := gW_get (dA := Z.2.2.2.2.1) (ad := ad) (M := M) hb0
  rw [gE_b] at hea heb
  have hset := gW_set (dA := Z.2.2.2.2.1) (ad := ad) (M := M) (M' := cpi M b sp.toNatClampNeg a dp.toNatClampNeg n.toNatClampNeg) (e := .inl (Z.2.2.2.2.1 10, n1, .inl (va_cpy (fun j => gi M b j) (fun j => gi M a j) sp.toNatClampNeg dp.toNatClampNeg n.toNatClampNeg))) ha0 (by
    rw [gE_b]
    congr 4
    funext j
    simp only [gi_cpi, true_and, va_cpy]) gE_cpi
  exact va_copyi (ty := .byte) hx hb (hml.trans hl.1.symm) hown (hts _ hw) (hts _ gm_ac2) (hts _ gm_ac1) (hts _ gm_ac3) hK hR.1 hR.2.1 hR.2.2.1 b a 0 0 heb hea rfl rfl rfl h1 h2 h3 h4 h5 (fun j hj => hfit j hj) (by have := hRm.1; omega) (by
    have h9 : (((st.map (gv ad)).map fun v => v.category).sum) ≤ 8 := by
      rw [List.map_map, show ((fun v : Value => v.category) ∘ gv ad) = (fun v => v.category) from funext fun v => gv_cat ad v]
      exact hcat
    have := hRm.2.1
    rw [gm_ac4]; omega) hd (fun H1 locs1 hP hD hS => k H1 locs1 ⟨by rw [← hset]; exact hP, by rw [← hset]; exact hD, hS, gCl_cpi hR.2.2.2.1, hR.2.2.2.2⟩)

end GJ
theorem my_J0_length : gMy yJ0_length_8abf5 cJ0_length_8abf5 1 (some .int) 0 := ⟨(gws_of 736 (by decide +kernel) (by decide +kernel)), (gws_of 122 (by decide +kernel) (by decide +kernel)), by decide +kernel, by decide +kernel, by decide⟩
theorem my_J0_coder : gMy yJ0_coder_7d493 cJ0_coder_7d493 1 (some .byte) 0 := ⟨(gws_of 740 (by decide +kernel) (by decide +kernel)), (gws_of 122 (by decide +kernel) (by decide +kernel)), by decide +kernel, by decide +kernel, by decide⟩
theorem my_J0_charAt : gMy yJ0_charAt_5068e cJ0_charAt_5068e 2 (some .char) 1 := ⟨(gws_of 746 (by decide +kernel) (by decide +kernel)), (gws_of 122 (by decide +kernel) (by decide +kernel)), by decide +kernel, by decide +kernel, by decide⟩
theorem my_J0_isLatin1 : gMy yJ0_isLatin1_aae02 cJ0_isLatin1_aae02 1 (some .boolean) 0 := ⟨(gws_of 750 (by decide +kernel) (by decide +kernel)), (gws_of 122 (by decide +kernel) (by decide +kernel)), by decide +kernel, by decide +kernel, by decide⟩
theorem my_J1_charAt : gMy yJ1_charAt_3b067 cJ1_charAt_3b067 2 (some .char) 2 := ⟨(gws_of 753 (by decide +kernel) (by decide +kernel)), (gws_of 123 (by decide +kernel) (by decide +kernel)), by decide +kernel, by decide +kernel, by decide⟩
theorem my_J0_checkIndex : gMy yJ0_checkIndex_df160 cJ0_checkIndex_df160 2 none 2 := ⟨(gws_of 756 (by decide +kernel) (by decide +kernel)), (gws_of 122 (by decide +kernel) (by decide +kernel)), by decide +kernel, by decide +kernel, by decide⟩
theorem my_J3_checkIndex : gMy yJ3_checkIndex_8e157 cJ3_checkIndex_8e157 3 (some .int) 3 := ⟨(gws_of 761 (by decide +kernel) (by decide +kernel)), (gws_of 124 (by decide +kernel) (by decide +kernel)), by decide +kernel, by decide +kernel, by decide⟩
theorem c_J0_coder {T : gT} {M : gM} {i d : Nat} (hi : i < 13) (hd : 1 ≤ d) : gRet d yJ0_coder_7d493 cJ0_coder_7d493 1 (some .byte) 0 0 [.ref (gSB + i)] T M (gSame T (some (.int 0)) M) := by
  refine gRet_of (own := RJ0) (by decide) rfl (Nat.le_of_ble_eq_true rfl) (fun Z ad0 hn h0 hF => ?_)
  refine g_compact hF (gws_of 741 (by decide +kernel) (by decide +kernel)) dJ0_coder_7d493_0 ?_
  refine g_if_eq (tgt := 13) hF dJ0_coder_7d493_3 (by decide) (fun q => absurd q (by decide)) (fun _ => ?_)
  refine g_aload_n hF 0 rfl rfl dJ0_coder_7d493_6 ?_
  refine g_scod hF hi (gws_of 1500 (by decide +kernel) (by decide +kernel)) dJ0_coder_7d493_7 ?_
  refine g_goto (tgt := 14) hF dJ0_coder_7d493_10 (by decide) ?_
  exact g_ret_i hF rfl rfl dJ0_coder_7d493_14 ⟨rfl, rfl, rfl, rfl⟩ (Nat.le_refl _) (Nat.le_refl _)
theorem c_J0_isLatin1 {T : gT} {M : gM} {i d : Nat} (hi : i < 13) (hd : 1 ≤ d) : gRet d yJ0_isLatin1_aae02 cJ0_isLatin1_aae02 1 (some .boolean) 0 0 [.ref (gSB + i)] T M (gSame T (some (.int 1)) M) := by
  refine gRet_of (own := RJ0) (by decide) rfl (Nat.le_of_ble_eq_true rfl) (fun Z ad0 hn h0 hF => ?_)
  refine g_compact hF (gws_of 741 (by decide +kernel) (by decide +kernel)) dJ0_isLatin1_aae02_0 ?_
  refine g_if_eq (tgt := 17) hF dJ0_isLatin1_aae02_3 (by decide) (fun q => absurd q (by decide)) (fun _ => ?_)
  refine g_aload_n hF 0 rfl rfl dJ0_isLatin1_aae02_6 ?_
  refine g_scod hF hi (gws_of 1500 (by decide +kernel) (by decide +kernel)) dJ0_isLatin1_aae02_7 ?_
  refine g_if_ne (tgt := 17) hF dJ0_isLatin1_aae02_10 (by decide) (fun q => absurd rfl q) (fun _ => ?_)
  refine g_iconst (v := 1) hF rfl dJ0_isLatin1_aae02_13 ?_
  refine g_goto (tgt := 18) hF dJ0_isLatin1_aae02_14 (by decide) ?_
  exact g_ret_i hF rfl rfl dJ0_isLatin1_aae02_18 ⟨rfl, rfl, rfl, rfl⟩ (Nat.le_refl _) (Nat.le_refl _)
theorem c_J0_length {T : gT} {M : gM} {i d : Nat} (hi : i < 13) (hd : 2 ≤ d) : gRet d yJ0_length_8abf5 cJ0_length_8abf5 1 (some .int) 0 0 [.ref (gSB + i)] T M (gSame T (some (.int (Int32.ofNat (gSl i)))) M) := by
  refine gRet_of (own := RJ0) (by decide) rfl (Nat.le_of_ble_eq_true rfl) (fun Z ad0 hn h0 hF => ?_)
  refine g_aload_n hF 0 rfl rfl dJ0_length_8abf5_0 ?_
  refine g_sval hF hi (gws_of 1499 (by decide +kernel) (by decide +kernel)) dJ0_length_8abf5_1 ?_
  refine g_sblen hF hi dJ0_length_8abf5_4 ?_
  refine g_aload_n hF 0 rfl rfl dJ0_length_8abf5_5 ?_
  refine g_callVSt (as := []) (st := [.int (Int32.ofNat (gSl i))]) hF my_J0_coder (gws_of 737 (by decide +kernel) (by decide +kernel)) (gws_of 738 (by decide +kernel) (by decide +kernel)) (gws_of 739 (by decide +kernel) (by decide +kernel)) hi rfl (c_J0_coder (d := 1) hi (Nat.le_refl _)) hd (Nat.le_refl _) (Nat.le_refl _) rfl rfl (Nat.le_of_ble_eq_true rfl) dJ0_length_8abf5_6 (g_same ?_)
  refine g_ishr hF dJ0_length_8abf5_9 ?_
  refine g_ret_i hF rfl rfl dJ0_length_8abf5_10 ⟨?_, rfl, rfl, rfl⟩ (Nat.le_refl _) (Nat.le_refl _)
  congr 2
  show Int32.ofNat (gSl i) >>> ((0 : Int32) &&& 31) = Int32.ofNat (gSl i)
  rw [show ((0 : Int32) &&& 31) = 0 by decide, Int32.shiftRight_zero]
theorem c_J3_checkIndex {T : gT} {M : gM} {i n : Int32} {v : Value} {d : Nat} (hv : v.category = 1) (h0 : 0 ≤ i) (h1 : i < n) : gRet d yJ3_checkIndex_8e157 cJ3_checkIndex_8e157 3 (some .int) 0 0 [.int i, .int n, v] T M (gSame T (some (.int i)) M) := by
  refine gRet_of (own := RJ3) (by decide) rfl (by cases v <;> first | (simp [Value.category] at hv; done) | exact Nat.le_of_ble_eq_true rfl) (fun Z ad0 hn h9 hF => ?_)
  refine g_iload_n hF 0 rfl rfl dJ3_checkIndex_8e157_0 ?_
  refine g_if_lt (tgt := 9) hF dJ3_checkIndex_8e157_1 (by decide) (fun q => absurd h0 (Int32.not_le.mpr q)) (fun _ => ?_)
  refine g_iload_n hF 0 rfl rfl dJ3_checkIndex_8e157_4 ?_
  refine g_iload_n hF 1 rfl rfl dJ3_checkIndex_8e157_5 ?_
  refine g_icmp_lt (tgt := 16) hF dJ3_checkIndex_8e157_6 (by decide) (fun _ => ?_) (fun q => absurd h1 q)
  refine g_iload_n hF 0 rfl rfl dJ3_checkIndex_8e157_16 ?_
  exact g_ret_i hF rfl rfl dJ3_checkIndex_8e157_17 ⟨rfl, rfl, rfl, rfl⟩ (Nat.le_refl _) (Nat.le_refl _)
theorem c_J0_checkIndex {T : gT} {M : gM} {i n : Int32} {d : Nat} (hd : 1 ≤ d) (h0 : 0 ≤ i) (h1 : i < n) : gRet d yJ0_checkIndex_df160 cJ0_checkIndex_df160 2 none 0 0 [.int i, .int n] T M (gSame T none M) := by
  refine gRet_of (own := RJ0) (by decide) rfl (Nat.le_of_ble_eq_true rfl) (fun Z ad0 hn h9 hF => ?_)
  refine g_iload_n hF 0 rfl rfl dJ0_checkIndex_df160_0 ?_
  refine g_iload_n hF 1 rfl rfl dJ0_checkIndex_df160_1 ?_
  refine g_fmt hF (gws_of 757 (by decide +kernel) (by decide +kernel)) dJ0_checkIndex_df160_2 (fun v hv => ?_)
  refine g_callS (as := [.int i, .int n, v]) (st := []) hF my_J3_checkIndex (gws_of 759 (by decide +kernel) (by decide +kernel)) (gws_of 760 (by decide +kernel) (by decide +kernel)) (c_J3_checkIndex (d := 0) hv h0 h1) hd (Nat.le_refl _) (Nat.le_refl _) rfl rfl (Nat.le_of_ble_eq_true rfl) dJ0_checkIndex_df160_5 (g_same ?_)
  refine g_pop hF rfl dJ0_checkIndex_df160_8 ?_
  exact g_ret_v hF rfl dJ0_checkIndex_df160_9 ⟨rfl, rfl, rfl, rfl⟩ (Nat.le_refl _) (Nat.le_refl _)
theorem gSc_ok : ∀ i, i < 13 → ∀ k, k < gSl i → (((gSc i k &&& (Int16.ofInt 255).toInt32).toUInt32 % 65536).toInt32 = gSc i k) ∧ narrow .char (.int (gSc i k)) = .int (gSc i k) := by decide +kernel
theorem gSl_sm : ∀ i, i < 13 → gSl i < 10 := by decide +kernel
theorem gSc_in {i k : Nat} (hi : i < 13) (hk : k < gSl i) : vp_in (nI k) (gSl i) ∧ (nI k).toNatClampNeg = k ∧ 0 ≤ nI k ∧ nI k < Int32.ofNat (gSl i) := by
  have := gSl_sm i hi
  exact ⟨vp_in_nI hk (by omega), nI_clamp (by omega), nI_pos' (by omega), nI_lt (by omega) (by omega)⟩
theorem c_J1_charAt {T : gT} {M : gM} {i k d : Nat} (hi : i < 13) (hk : k < gSl i) (hd : 2 ≤ d) : gRet d yJ1_charAt_3b067 cJ1_charAt_3b067 2 (some .char) 0 0 [.ref (gSB + 1000 + i), .int (nI k)] T M (gSame T (some (.int (gSc i k))) M) := by
  obtain ⟨g1, g2, g3, g4⟩ := gSc_in hi hk
  obtain ⟨q1, q2⟩ := gSc_ok i hi k hk
  refine gRet_of (own := RJ1) (by decide) rfl (Nat.le_of_ble_eq_true rfl) (fun Z ad0 hn h9 hF => ?_)
  refine g_iload_n hF 1 rfl rfl dJ1_charAt_3b067_0 ?_
  refine g_aload_n hF 0 rfl rfl dJ1_charAt_3b067_1 ?_
  refine g_sblen hF hi dJ1_charAt_3b067_2 ?_
  refine g_callS (as := [.int (nI k), .int (Int32.ofNat (gSl i))]) (st := []) hF my_J0_checkIndex (gws_of 754 (by decide +kernel) (by decide +kernel)) (gws_of 755 (by decide +kernel) (by decide +kernel)) (c_J0_checkIndex (d := 1) (Nat.le_refl _) g3 g4) hd (Nat.le_refl _) (Nat.le_refl _) rfl rfl (Nat.le_of_ble_eq_true rfl) dJ1_charAt_3b067_3 (g_same ?_)
  refine g_aload_n hF 0 rfl rfl dJ1_charAt_3b067_6 ?_
  refine g_iload_n hF 1 rfl rfl dJ1_charAt_3b067_7 ?_
  refine g_sbald hF hi g1 dJ1_charAt_3b067_8 ?_
  rw [g2]
  refine g_sipush hF rfl dJ1_charAt_3b067_9 ?_
  refine g_iand hF dJ1_charAt_3b067_12 ?_
  refine g_i2c hF q1 dJ1_charAt_3b067_13 ?_
  exact g_ret_i hF rfl q2 dJ1_charAt_3b067_14 ⟨rfl, rfl, rfl, rfl⟩ (Nat.le_refl _) (Nat.le_refl _)
theorem c_J0_charAt {T : gT} {M : gM} {i k d : Nat} (hi : i < 13) (hk : k < gSl i) (hd : 3 ≤ d) : gRet d yJ0_charAt_5068e cJ0_charAt_5068e 2 (some .char) 0 0 [.ref (gSB + i), .int (nI k)] T M (gSame T (some (.int (gSc i k))) M) := by
  obtain ⟨q1, q2⟩ := gSc_ok i hi k hk
  refine gRet_of (own := RJ0) (by decide) rfl (Nat.le_of_ble_eq_true rfl) (fun Z ad0 hn h9 hF => ?_)
  refine g_aload_n hF 0 rfl rfl dJ0_charAt_5068e_0 ?_
  refine g_callVSt (as := []) (st := []) hF my_J0_isLatin1 (gws_of 747 (by decide +kernel) (by decide +kernel)) (gws_of 748 (by decide +kernel) (by decide +kernel)) (gws_of 749 (by decide +kernel) (by decide +kernel)) hi rfl (c_J0_isLatin1 (d := 2) hi (by omega)) hd (Nat.le_refl _) (Nat.le_refl _) rfl rfl (Nat.le_of_ble_eq_true rfl) dJ0_charAt_5068e_1 (g_same ?_)
  refine g_if_eq (tgt := 16) hF dJ0_charAt_5068e_4 (by decide) (fun q => absurd q (by decide)) (fun _ => ?_)
  refine g_aload_n hF 0 rfl rfl dJ0_charAt_5068e_7 ?_
  refine g_sval hF hi (gws_of 1499 (by decide +kernel) (by decide +kernel)) dJ0_charAt_5068e_8 ?_
  refine g_iload_n hF 1 rfl rfl dJ0_charAt_5068e_11 ?_
  refine g_callS (as := [.ref (gSB + 1000 + i), .int (nI k)]) (st := []) hF my_J1_charAt (gws_of 751 (by decide +kernel) (by decide +kernel)) (gws_of 752 (by decide +kernel) (by decide +kernel)) (c_J1_charAt (d := 2) hi hk (Nat.le_refl _)) hd (Nat.le_refl _) (Nat.le_refl _) rfl rfl (Nat.le_of_ble_eq_true rfl) dJ0_charAt_5068e_12 (g_same ?_)
  exact g_ret_i hF rfl q2 dJ0_charAt_5068e_15 ⟨rfl, rfl, rfl, rfl⟩ (Nat.le_refl _) (Nat.le_refl _)
end
section
/-- the class of the arrays of arrays of ty is there -/
def va_AOA (ty : FieldType) (U : State) : Prop := (Cond.arrayOver (.array ty)).before #[] U = true
theorem va_AOA.use {ty : FieldType} {A : Array Value} {U : State} (h : va_AOA ty U) : (Cond.arrayOver (.array ty)).before A U = true := h
/-! ===== BEGIN new T[n][m]: the outer array a place, the inner ones among the pooled ===== -/
/-- f, but v at every address of l -/
def vr_up {α : Type} (f : Nat → α) (l : List Nat) (v : α) : Nat → α := fun a => if a ∈ l then v else f a
theorem vr_up_in {α : Type} {f : Nat → α} {l : List Nat} {v : α} {a : Nat} (h : a ∈ l) : vr_up f l v a = v := if_pos h
theorem vr_up_ne {α : Type} {f : Nat → α} {l : List Nat} {v : α} {a : Nat} (h : a ∉ l) : vr_up f l v a = f a := if_neg h
theorem vr_rows {L l : List Nat} {f : Nat → va_E} {e : va_E} (h : ∀ a, a ∈ l → a ∉ L) : va_pl L f ++ l.map (fun a => (a, e)) = va_pl (L ++ l) (vr_up f l e) := by
  unfold va_pl
  rw [List.map_append]
  congr 1
  · apply List.map_congr_left
    intro a ha
    rw [vr_up_ne (fun q => h a q ha)]
  · apply List.map_congr_left
    intro a ha
    rw [vr_up_in ha]
theorem vr_lay {X rows : va_W} {x : Nat × va_E} {pl : va_W} {D : va_G} {cl : List vw_C} {H : Heap} (hP : va_P D cl (((X ++ pl) ++ [x]) ++ rows) H) : va_P D cl ((X ++ [x]) ++ (pl ++ rows)) H := by
  rw [List.append_assoc (X ++ pl)] at hP
  have h := va_P.swap hP
  rw [← List.append_assoc X] at h
  have h2 := va_P.swap h
  rw [List.append_assoc (X ++ [x])] at h2
  exact h2
theorem vr_layD {X rows : va_W} {x : Nat × va_E} {pl : va_W} {A : Nat → Prop} (hD : va_D A (((X ++ pl) ++ [x]) ++ rows)) : va_D A ((X ++ [x]) ++ (pl ++ rows)) := by
  rw [List.append_assoc (X ++ pl)] at hD
  have h := va_D.swap hD
  rw [← List.append_assoc X] at h
  have h2 := va_D.swap h
  rw [List.append_assoc (X ++ [x])] at h2
  exact h2
theorem vr_outer (c : ClassId) (N h0 : Nat) : ∀ i : Nat, Jvm.Free.Multi.outerC c N h0 i = arrV c N (fun j => va_rf (if j < i then some (h0 + 1 + j) else none))
  | 0 => by
    show ({ cls := c, slots := Array.replicate N .null, vm := .none } : Cell) = _
    rw [arrV_new]
    refine congrArg (arrV c N) (funext fun j => ?_)
    simp [va_rf]
  | i + 1 => by
    show (Jvm.Free.Multi.outerC c N h0 i).setSlot i (.ref (h0 + 1 + i)) = _
    rw [vr_outer c N h0 i, arrV_store]
    refine congrArg (arrV c N) (funext fun j => ?_)
    by_cases e : j = i
    · subst e
      simp [updV, va_rf]
    · by_cases h : j < i
      · simp [updV, e, h, Nat.lt_succ_of_lt h]
      · simp [updV, e, h, show ¬ j < i + 1 by omega]
section VGM
variable {p : Program} {l : Launch} {e : Env} {R : Room} {s : State} {m : MethodId} {args : Array Value} {below : List Frame} {meth : Method} {c : Code} {H : Heap} {locs : List Loc} {cells slots : Nat} {Q : State → Prop}
variable {cc : ByteArray} {pc : Nat} {ls : Array Slot} {rest : List Value} {D : va_G} {cl : List vw_C} {A : Nat → Prop} {a : Nat} {tys : List (ClassId × FieldType)} {ws : va_W} {H0 : Heap}
theorem va_mna {X : va_W} {L : List Nat} {f : Nat → va_E} {cc : ByteArray} (hexec : p.tables.exec = Jvm.exec) (hb : c.code = cc) {own : String} {index : Nat} {ty : FieldType} {cy : ClassId} (hown : s.vm.findClass own = some m.cls) (hclink : (Cond.classLink own index ("[" ++ (FieldType.array ty).toString)).before args s = true) (hover : va_AOA ty s) (harr : (Cond.arrayClass ty).before args s = true) (hcy : s.vm.findClass (FieldType.array ty).toString = some cy)
    (hK : va_K D cl tys s) (hP : va_P D cl (X ++ va_pl L f) H) (hD : va_D A (X ++ va_pl L f)) (hS : va_S A H0 H locs) (hA : ∀ q, H0.size ≤ q → A q) {n k : Int32} {N' K' : Nat} {z : vp_A} (hn : ¬ n < 0) (hk : ¬ k < 0) (hN : n.toNatClampNeg = N') (hM : k.toNatClampNeg = K')
    (hb1 : N' * 4 ≤ 536870912) (hb2 : K' * componentBytes ty ≤ 536870912) (hb3 : K' ≤ 536870912) (hdf : fits ty (defaultValue ty) = true) (hdd : (defaultValue ty).isDefault = true) (hcells : cells + (1 + N') ≤ R.cells) (hslots : slots + (N' + N' * K') ≤ R.slots) (hz : ∀ c : ClassId, Jvm.Free.Multi.innerC c K' (defaultValue ty) = vp_cell c z) (hdg : decode cc pc = .ok (.multianewarray index 2, 4))
    (kk : ∀ (q : Nat) (r : Nat → Nat) (cA : ClassId) (H1 : Heap), (∀ i j : Nat, i < N' → j < N' → r i = r j → i = j) → (∀ i : Nat, i < N' → r i ∉ L) → va_K D cl (tys ++ [(cA, .array ty)]) s →
      va_P D cl ((X ++ [(q, .inl (cA, N', .inr (.inr (.inr (.inr (fun i => if i < N' then some (r i) else none))))))]) ++ va_pl (L ++ (List.range N').map r) (vr_up f ((List.range N').map r) (.inl (cy, z)))) H1 → va_D A ((X ++ [(q, .inl (cA, N', .inr (.inr (.inr (.inr (fun i => if i < N' then some (r i) else none))))))]) ++ va_pl (L ++ (List.range N').map r) (vr_up f ((List.range N').map r) (.inl (cy, z)))) → va_S A H0 H1 locs →
      W p l e R s m args below meth c H1 locs (cells + 1 + N') (slots + N' + N' * K') Q (F0 m (pc + 4) ls (.ref q :: rest))) : W p l e R s m args below meth c H locs cells slots Q (F0 m pc ls (.int k :: .int n :: rest)) := by
  subst hN
  subst hM
  intro T hT Xs
  obtain ⟨vm₁, cA, comp, -, fA, fC, hO, -, X', step⟩ := Xs.multianewarray2F hexec hown hclink (va_AOA.use hover) harr (g := F0 m pc ls (.int k :: .int n :: rest)) rfl (by rw [hb]; exact hdg) rfl hn hk hb1 hb2 hb3 hdf hdd hcells hslots
  have ec : some cy = some comp := hcy.symm.trans fC
  cases ec
  generalize hF : Jvm.Free.Multi.fill (T.setVm vm₁) cA cy n.toNatClampNeg k.toNatClampNeg (defaultValue ty) n.toNatClampNeg = F at X' step
  have hTh : (T.setVm vm₁).heap = H := hT
  obtain ⟨f1, f2, -, -⟩ := Jvm.Free.Multi.fill_facts (T.setVm vm₁) cA cy n.toNatClampNeg k.toNatClampNeg (defaultValue ty) n.toNatClampNeg
  rw [hF, hTh] at f1 f2
  have hold : ∀ x : Nat, x < H.size → F.heap[x]? = H[x]? := fun x hx => by
    have := Jvm.Free.Multi.fill_old (T.setVm vm₁) cA cy n.toNatClampNeg k.toNatClampNeg (defaultValue ty) (a := x) (by rw [hTh]; exact hx) n.toNatClampNeg
    rw [hF, hTh] at this
    exact this
  have hrow : ∀ j : Nat, j < n.toNatClampNeg → F.heap[H.size + 1 + j]? = some (vp_cell cy z) := fun j hj => by
    have := Jvm.Free.Multi.fill_inner (T.setVm vm₁) cA cy n.toNatClampNeg k.toNatClampNeg (defaultValue ty) n.toNatClampNeg j hj
    rw [hF, hTh, hz] at this
    exact this
  have hout : Jvm.Free.Multi.outerC cA n.toNatClampNeg H.size n.toNatClampNeg = vp_cell cA (n.toNatClampNeg, .inr (.inr (.inr (.inr (fun i => if i < n.toNatClampNeg then some (H.size + 1 + i) else none))))) := by
    rw [vp_cell_q]
    exact vr_outer cA n.toNatClampNeg H.size n.toNatClampNeg
  rw [hout] at f2
  have hlt : ∀ a, a ∈ L → a < H.size := fun a ha => by
    obtain ⟨k9, hk9⟩ := va_pl_get (X := X) (f := f) ha
    exact (hP k9 _ hk9).lt
  have hnl : ∀ i : Nat, i < n.toNatClampNeg → H.size + 1 + i ∉ L := fun i _ h => by
    have := hlt _ h
    omega
  have hnm : ∀ a, a ∈ (List.range n.toNatClampNeg).map (fun i => H.size + 1 + i) → a ∉ L := fun a ha h => by
    obtain ⟨i, -, rfl⟩ := List.mem_map.mp ha
    have := hlt _ h
    omega
  have hP0 : va_P D cl (X ++ va_pl L f) F.heap := hP.kept (fun k9 x hx => hold x.1 ((hP k9 x hx).lt))
  have hP1 : va_P D cl ((X ++ va_pl L f) ++ [(H.size, .inl (cA, n.toNatClampNeg, .inr (.inr (.inr (.inr (fun i => if i < n.toNatClampNeg then some (H.size + 1 + i) else none))))))]) F.heap := hP0.app (fun k9 x hx => by
    have h0 : k9 < 1 := (List.getElem?_eq_some_iff.mp hx).1
    rw [show k9 = 0 by omega] at hx
    cases hx
    exact f2)
  have hP2 : va_P D cl (((X ++ va_pl L f) ++ [(H.size, .inl (cA, n.toNatClampNeg, .inr (.inr (.inr (.inr (fun i => if i < n.toNatClampNeg then some (H.size + 1 + i) else none))))))]) ++ ((List.range n.toNatClampNeg).map (fun i => H.size + 1 + i)).map (fun a => (a, .inl (cy, z)))) F.heap := hP1.app (fun k9 x hx => by
    obtain ⟨a, ha, rfl⟩ := List.mem_map.mp (List.mem_of_getElem? hx)
    obtain ⟨i, hi, rfl⟩ := List.mem_map.mp ha
    exact hrow i (List.mem_range.mp hi))
  have hD2 : va_D A (((X ++ va_pl L f) ++ [(H.size, .inl (cA, n.toNatClampNeg, .inr (.inr (.inr (.inr (fun i => if i < n.toNatClampNeg then some (H.size + 1 + i) else none))))))]) ++ ((List.range n.toNatClampNeg).map (fun i => H.size + 1 + i)).map (fun a => (a, .inl (cy, z)))) := by
    have hD1 := hD.push (e := .inl (cA, n.toNatClampNeg, .inr (.inr (.inr (.inr (fun i => if i < n.toNatClampNeg then some (H.size + 1 + i) else none)))))) hP rfl (hA _ hS.1)
    generalize hW1 : (X ++ va_pl L f) ++ [(H.size, .inl (cA, n.toNatClampNeg, .inr (.inr (.inr (.inr (fun i => if i < n.toNatClampNeg then some (H.size + 1 + i) else none))))))] = W1 at hD1 hP1 ⊢
    have hle : ∀ (k9 : Nat) (x : Nat × va_E), W1[k9]? = some x → x.1 ≤ H.size := fun k9 x hx => by
      rw [← hW1] at hx
      by_cases hl : k9 < (X ++ va_pl L f).length
      · rw [List.getElem?_append_left hl] at hx
        exact Nat.le_of_lt ((hP k9 x hx).lt)
      · rw [List.getElem?_append_right (by omega)] at hx
        have h0 : k9 - (X ++ va_pl L f).length < 1 := (List.getElem?_eq_some_iff.mp hx).1
        rw [show k9 - (X ++ va_pl L f).length = 0 by omega] at hx
        cases hx
        exact Nat.le_refl _
    have hr : ∀ (k9 : Nat) (x : Nat × va_E), (((List.range n.toNatClampNeg).map (fun i => H.size + 1 + i)).map (fun a => ((a, .inl (cy, z)) : Nat × va_E)))[k9]? = some x → x.1 = H.size + 1 + k9 := fun k9 x hx => by
      rw [List.getElem?_map, List.getElem?_map] at hx
      by_cases h9 : k9 < n.toNatClampNeg
      · rw [List.getElem?_range h9] at hx
        cases hx
        rfl
      · have hn0 : (List.range n.toNatClampNeg)[k9]? = none := List.getElem?_eq_none (by rw [List.length_range]; omega)
        rw [hn0] at hx
        cases hx
    refine ⟨fun i j x y hi hj hxy => ?_, fun k9 x hx => ?_⟩
    · by_cases h1 : i < W1.length <;> by_cases h2 : j < W1.length
      · rw [List.getElem?_append_left h1] at hi
        rw [List.getElem?_append_left h2] at hj
        exact hD1.1 i j x y hi hj hxy
      · rw [List.getElem?_append_left h1] at hi
        rw [List.getElem?_append_right (by omega)] at hj
        have := hle _ _ hi
        have := hr _ _ hj
        omega
      · rw [List.getElem?_append_right (by omega)] at hi
        rw [List.getElem?_append_left h2] at hj
        have := hle _ _ hj
        have := hr _ _ hi
        omega
      · rw [List.getElem?_append_right (by omega)] at hi hj
        have := hr _ _ hi
        have := hr _ _ hj
        omega
    · by_cases h1 : k9 < W1.length
      · rw [List.getElem?_append_left h1] at hx
        exact hD1.2 k9 x hx
      · rw [List.getElem?_append_right (by omega)] at hx
        have := hr _ _ hx
        exact hA _ (by have := hS.1; omega)
  have hAr : ArrOfT s cA (.array ty) := fun N9 z9 => by
    obtain ⟨-, k9, hk9, cm9, hkk9⟩ := (hO 0 0 0).1
    exact ⟨(fun q hq => by cases hq), k9, hk9, cm9, hkk9⟩
  have hK2 : va_K D cl (tys ++ [(cA, .array ty)]) s := ⟨hK.1, fun k9 x hx => by
    by_cases hl : k9 < tys.length
    · rw [List.getElem?_append_left hl] at hx
      exact hK.2 k9 x hx
    · rw [List.getElem?_append_right (by omega)] at hx
      have h0 : k9 - tys.length < 1 := (List.getElem?_eq_some_iff.mp hx).1
      rw [show k9 - tys.length = 0 by omega] at hx
      cases hx
      exact ⟨hAr, fA⟩⟩
  obtain ⟨t, a1, b1⟩ := kk H.size (fun i => H.size + 1 + i) cA F.heap (fun i j _ _ h => by have h9 : H.size + 1 + i = H.size + 1 + j := h; omega) hnl hK2 (by rw [← vr_rows hnm]; exact vr_lay hP2) (by rw [← vr_rows hnm]; exact vr_layD hD2) ⟨by rw [f1]; have := hS.1; omega, fun x h1 h2 => (hold x (Nat.lt_of_lt_of_le h1 hS.1)).trans (hS.2.1 x h1 h2), hS.2.2⟩ F rfl X'
  refine ⟨t, step t ?_, b1⟩
  have e : T.heap.size = H.size := by rw [hT]
  rw [e]
  exact a1
end VGM
/-! ===== END ===== -/
end
section
/-! OPERATIONS of the functions that are read off the bytecode: none where the machine would throw by itself -/
def gFU : Nat := 3000
def alen (T : gT) (a : Nat) : Nat := (T.getD a (0, 0)).2
theorem alen_of {T : gT} {a kd n : Nat} (h : T[a]? = some (kd, n)) : alen T a = n := by
  unfold alen
  rw [List.getD_eq_getElem?_getD, h]
  rfl
def ald (T : gT) (M : gM) (a : Nat) (i : Int32) : Option Int32 := if i < 0 ∨ alen T a ≤ i.toNatClampNeg then none else some (gi M a i.toNatClampNeg)
def aldl (T : gT) (M : gM) (a : Nat) (i : Int32) : Option Int64 := if i < 0 ∨ alen T a ≤ i.toNatClampNeg then none else some (gl M a i.toNatClampNeg)
def ast (T : gT) (M : gM) (a : Nat) (i x : Int32) : Option gM := if i < 0 ∨ alen T a ≤ i.toNatClampNeg then none else some (si M a i.toNatClampNeg x)
def astl (T : gT) (M : gM) (a : Nat) (i : Int32) (x : Int64) : Option gM := if i < 0 ∨ alen T a ≤ i.toNatClampNeg then none else some (sl M a i.toNatClampNeg x)
def astr (T : gT) (M : gM) (a : Nat) (i : Int32) (b : Nat) : Option gM := if i < 0 ∨ alen T a ≤ i.toNatClampNeg then none else some (sr M a i.toNatClampNeg (some b))
def ldr (T : gT) (M : gM) (a k kd : Nat) : Option Nat := match gr M a k with
  | some b => if (T[b]?).map Prod.fst = some kd then some b else none
  | none => none
def aldr (T : gT) (M : gM) (a : Nat) (i : Int32) (kd : Nat) : Option Nat := if i < 0 ∨ alen T a ≤ i.toNatClampNeg then none else ldr T M a i.toNatClampNeg kd
def chk (c : Prop) [Decidable c] : Option Unit := if c then some () else none
def slen (i : Nat) : Option Int32 := if i < 13 then some (Int32.ofNat (gSl i)) else none
def sch (i : Nat) (k : Int32) : Option Int32 := if i < 13 ∧ 0 ≤ k ∧ k.toNatClampNeg < gSl i then some (gSc i k.toNatClampNeg) else none
def acp (T : gT) (M : gM) (b : Nat) (sp : Int32) (a : Nat) (dp n : Int32) : Option gM := if sp < 0 ∨ dp < 0 ∨ n < 0 ∨ alen T b < sp.toNatClampNeg + n.toNatClampNeg ∨ alen T a < dp.toNatClampNeg + n.toNatClampNeg then none else some (cpi M b sp.toNatClampNeg a dp.toNatClampNeg n.toNatClampNeg)
def acpb (T : gT) (M : gM) (b : Nat) (sp : Int32) (a : Nat) (dp n : Int32) : Option gM := if sp < 0 ∨ dp < 0 ∨ n < 0 ∨ alen T b < sp.toNatClampNeg + n.toNatClampNeg ∨ alen T a < dp.toNatClampNeg + n.toNatClampNeg ∨ ¬ (∀ j, j < n.toNatClampNeg → fits .byte (.int (gi M b (sp.toNatClampNeg + j))) = true) then none else some (cpi M b sp.toNatClampNeg a dp.toNatClampNeg n.toNatClampNeg)
def gnewa (T : gT) (M : gM) (kd : Nat) (n : Int32) (bd : Nat) : Option (Nat × gT × gM) := if n < 0 ∨ bd < n.toNatClampNeg then none else gnew T M (kd, n.toNatClampNeg)
abbrev imax (x y : Int32) : Int32 := if x < y then y else x
abbrev imin (x y : Int32) : Int32 := if y < x then y else x
abbrev lmax (x y : Int64) : Int64 := if y < x then x else y
abbrev lmin (x y : Int64) : Int64 := if y < x then y else x
abbrev irem (x y : Int32) : Int32 := x - x / y * y
theorem gbnd {α β : Type} {o : Option α} {f : α → Option β} {b : β} (h : o.bind f = some b) : ∃ a, o = some a ∧ f a = some b := Option.bind_eq_some_iff.mp h
theorem gif_t {α : Type} {c : Prop} {d : Decidable c} {a b : α} {r : α} (hc : c) (h : (if c then a else b) = r) : a = r := by rw [if_pos hc] at h; exact h
theorem gif_f {α : Type} {c : Prop} {d : Decidable c} {a b : α} {r : α} (hc : ¬ c) (h : (if c then a else b) = r) : b = r := by rw [if_neg hc] at h; exact h
theorem gif_n {α : Type} {c : Prop} {d : Decidable (¬ c)} {a b : α} {r : α} (hc : c) (h : (if ¬ c then a else b) = r) : b = r := by rw [if_neg (fun q => q hc)] at h; exact h
section GOPS
variable {T : gT} {M M' : gM} {a b kd n : Nat} {i x : Int32}
theorem ald_sp {v : Int32} (hT : T[a]? = some (kd, n)) (h : ald T M a i = some v) : vp_in i n ∧ v = gi M a i.toNatClampNeg := by
  unfold ald at h
  rw [alen_of hT] at h
  split at h
  · cases h
  · exact ⟨by assumption, (Option.some.inj h).symm⟩
theorem aldl_sp {v : Int64} (hT : T[a]? = some (kd, n)) (h : aldl T M a i = some v) : vp_in i n ∧ v = gl M a i.toNatClampNeg := by
  unfold aldl at h
  rw [alen_of hT] at h
  split at h
  · cases h
  · exact ⟨by assumption, (Option.some.inj h).symm⟩
theorem ast_sp (hT : T[a]? = some (kd, n)) (h : ast T M a i x = some M') : vp_in i n ∧ M' = si M a i.toNatClampNeg x := by
  unfold ast at h
  rw [alen_of hT] at h
  split at h
  · cases h
  · exact ⟨by assumption, (Option.some.inj h).symm⟩
theorem astl_sp {y : Int64} (hT : T[a]? = some (kd, n)) (h : astl T M a i y = some M') : vp_in i n ∧ M' = sl M a i.toNatClampNeg y := by
  unfold astl at h
  rw [alen_of hT] at h
  split at h
  · cases h
  · exact ⟨by assumption, (Option.some.inj h).symm⟩
theorem astr_sp (hT : T[a]? = some (kd, n)) (h : astr T M a i b = some M') : vp_in i n ∧ M' = sr M a i.toNatClampNeg (some b) := by
  unfold astr at h
  rw [alen_of hT] at h
  split at h
  · cases h
  · exact ⟨by assumption, (Option.some.inj h).symm⟩
theorem ldr_sp {k c : Nat} (h : ldr T M a k kd = some c) : gr M a k = some c ∧ ∃ len, T[c]? = some (kd, len) := by
  unfold ldr at h
  cases hg : gr M a k with
  | none => rw [hg] at h; cases h
  | some b =>
    rw [hg] at h
    dsimp only at h
    split at h
    next q =>
      cases h
      refine ⟨rfl, ?_⟩
      cases ht : T[c]? with
      | none => rw [ht] at q; cases q
      | some y =>
        rw [ht] at q
        have q1 : y.1 = kd := Option.some.inj q
        exact ⟨y.2, by rw [← q1]⟩
    next => cases h
theorem aldr_sp {k c : Nat} (hT : T[a]? = some (kd, n)) (h : aldr T M a i k = some c) : vp_in i n ∧ gr M a i.toNatClampNeg = some c ∧ ∃ len, T[c]? = some (k, len) := by
  unfold aldr at h
  rw [alen_of hT] at h
  split at h
  · cases h
  · exact ⟨by assumption, ldr_sp h⟩
theorem chk_sp {c : Prop} {d : Decidable c} {u : Unit} (h : @chk c d = some u) : c := by
  unfold chk at h
  split at h
  · assumption
  · cases h
theorem slen_sp {s : Nat} {v : Int32} (h : slen s = some v) : s < 13 ∧ v = Int32.ofNat (gSl s) := by
  unfold slen at h
  split at h
  · exact ⟨by assumption, (Option.some.inj h).symm⟩
  · cases h
theorem sch_sp {s : Nat} {v k : Int32} (h : sch s k = some v) : s < 13 ∧ k.toNatClampNeg < gSl s ∧ k = nI k.toNatClampNeg ∧ v = gSc s k.toNatClampNeg := by
  unfold sch at h
  split at h
  next q =>
    refine ⟨q.1, q.2.2, ?_, (Option.some.inj h).symm⟩
    have h0 : (0 : Int) ≤ k.toInt := by simpa using Int32.le_iff_toInt_le.mp q.2.1
    apply Int32.toInt_inj.mp
    have hk : k.toNatClampNeg < 10 := Nat.lt_trans q.2.2 (gSl_sm s q.1)
    rw [nI_toInt (by omega)]
    show k.toInt = ((k.toInt.toNat : Nat) : Int)
    omega
  next => cases h
theorem acp_sp {sp dp m : Int32} {k1 n1 : Nat} (hb : T[b]? = some (kd, n)) (ha : T[a]? = some (k1, n1)) (h : acp T M b sp a dp m = some M') : ¬ sp < 0 ∧ ¬ dp < 0 ∧ ¬ m < 0 ∧ sp.toNatClampNeg + m.toNatClampNeg ≤ n ∧ dp.toNatClampNeg + m.toNatClampNeg ≤ n1 ∧ M' = cpi M b sp.toNatClampNeg a dp.toNatClampNeg m.toNatClampNeg := by
  unfold acp at h
  rw [alen_of hb, alen_of ha] at h
  split at h
  · cases h
  next q => exact ⟨fun z => q (Or.inl z), fun z => q (Or.inr (Or.inl z)), fun z => q (Or.inr (Or.inr (Or.inl z))), Nat.not_lt.mp fun z => q (Or.inr (Or.inr (Or.inr (Or.inl z)))), Nat.not_lt.mp fun z => q (Or.inr (Or.inr (Or.inr (Or.inr z)))), (Option.some.inj h).symm⟩
theorem acpb_sp {sp dp m : Int32} {k1 n1 : Nat} (hb : T[b]? = some (kd, n)) (ha : T[a]? = some (k1, n1)) (h : acpb T M b sp a dp m = some M') : ¬ sp < 0 ∧ ¬ dp < 0 ∧ ¬ m < 0 ∧ sp.toNatClampNeg + m.toNatClampNeg ≤ n ∧ dp.toNatClampNeg + m.toNatClampNeg ≤ n1 ∧ (∀ j, j < m.toNatClampNeg → fits .byte (.int (gi M b (sp.toNatClampNeg + j))) = true) ∧ M' = cpi M b sp.toNatClampNeg a dp.toNatClampNeg m.toNatClampNeg := by
  unfold acpb at h
  rw [alen_of hb, alen_of ha] at h
  split at h
  · cases h
  next q => exact ⟨fun z => q (Or.inl z), fun z => q (Or.inr (Or.inl z)), fun z => q (Or.inr (Or.inr (Or.inl z))), Nat.not_lt.mp fun z => q (Or.inr (Or.inr (Or.inr (Or.inl z)))), Nat.not_lt.mp fun z => q (Or.inr (Or.inr (Or.inr (Or.inr (Or.inl z))))), Classical.byContradiction fun z => q (Or.inr (Or.inr (Or.inr (Or.inr (Or.inr z))))), (Option.some.inj h).symm⟩
theorem gnewa_sp {bd : Nat} {x : Nat × gT × gM} (h : gnewa T M kd i bd = some x) : ¬ i < 0 ∧ i.toNatClampNeg ≤ bd ∧ gnew T M (kd, i.toNatClampNeg) = some (x.1, x.2.1, x.2.2) := by
  unfold gnewa at h
  split at h
  · cases h
  next q => exact ⟨fun z => q (Or.inl z), Nat.not_lt.mp fun z => q (Or.inr z), h⟩
end GOPS
/-- a loop: B's left answers leave it, its right ones go round -/
def gloop {α β : Type} (B : α → Option (β ⊕ α)) : Nat → α → Option β
  | 0, _ => none
  | n + 1, a => match B a with
    | none => none
    | some (.inl e) => some e
    | some (.inr a') => gloop B n a'
theorem gloop_ind {α β : Type} {B : α → Option (β ⊕ α)} {P : α → Prop} {e : β} (step : ∀ a y, B a = some y → (∀ e', y = .inl e' → e' = e) → (∀ a', y = .inr a' → P a') → P a) : ∀ n a, gloop B n a = some e → P a
  | 0, a, h => by cases h
  | n + 1, a, h => by
    unfold gloop at h
    cases hB : B a with
    | none => rw [hB] at h; cases h
    | some y =>
      rw [hB] at h
      refine step a y hB (fun e' q => ?_) (fun a' q => ?_)
      · subst q
        exact Option.some.inj h
      · subst q
        exact gloop_ind step n a' h
/-- an answer of one of two kinds -/
def gcase {α β δ : Type} (e : α ⊕ β) (f : α → Option δ) (g : β → Option δ) : Option δ := match e with
  | .inl a => f a
  | .inr b => g b
theorem gcase_l {α β δ : Type} {a : α} {f : α → Option δ} {g : β → Option δ} {r : Option δ} (h : gcase (.inl a) f g = r) : f a = r := h
theorem gcase_r {α β δ : Type} {b : β} {f : α → Option δ} {g : β → Option δ} {r : Option δ} (h : gcase (.inr b) f g = r) : g b = r := h
theorem gsw_ne {x c : Int32} {z : Int} (h : ¬ x = c) (hc : c.toInt = z) : x.toInt ≠ z := fun q => h (Int32.toInt_inj.mp (by rw [hc]; exact q))
section GAL
variable {Z : gZ} {cc : ByteArray} {own nm : String} {rt : Option FieldType} {d mc ms : Nat} {Acc : Option Value → (Nat → Nat) → gT → gM → Prop} {AccX : Nat → (Nat → Nat) → gT → gM → Prop} {ad : Nat → Nat} {T : gT} {M : gM} {ce so pc : Nat} {ls : List (Nat × Value)} {st : List Value}
theorem g_alenA (hF : gFix Z cc own nm rt d mc ms Acc AccX) {a n kd : Nat} (hT : T[a]? = some (kd, n)) (hkd : 10 ≤ kd ∧ kd < 16) (hd : decode cc pc = .ok (.arraylength, 1))
    (k : gG Z ad T M ce so (pc + 1) ls (.int (Int32.ofNat (alen T a)) :: st)) : gG Z ad T M ce so pc ls (.ref a :: st) := g_alen hF hT hkd hd (by rw [alen_of hT] at k; exact k)
end GAL
theorem gbool {x : Int32} (h : x = 0 ∨ x = 1) : narrow .boolean (.int x) = .int x := by rcases h with rfl | rfl <;> rfl
theorem gboolf {x : Int32} (h : x = 0 ∨ x = 1) : fits .boolean (.int x) = true := by rcases h with rfl | rfl <;> rfl
section GSM
variable {Z : gZ} {ad : Nat → Nat} {T : gT} {M' : gM} {ce so pc : Nat} {ls : List (Nat × Value)} {st : List Value}
theorem g_sameS {r : Value} (h : gG Z ad T M' ce so pc ls (r :: st)) : ∀ (v : Option Value) (ad1 : Nat → Nat) (T1 : gT) (M1 : gM), gSame T (some r) M' ad v ad1 T1 M1 → (∀ a : Nat, gSB ≤ a → ad1 a = ad a) → ∀ H locs la, gRp Z ad1 T1 M1 H locs → lv_has la Z.2.2.2.2.2.1 (gmp ad ls) → Z.1 H locs ce so pc la ((v.map (gv ad1)).toList ++ st.map (gv ad)) := g_same (r := some r) h
theorem g_sameN (h : gG Z ad T M' ce so pc ls st) : ∀ (v : Option Value) (ad1 : Nat → Nat) (T1 : gT) (M1 : gM), gSame T none M' ad v ad1 T1 M1 → (∀ a : Nat, gSB ≤ a → ad1 a = ad a) → ∀ H locs la, gRp Z ad1 T1 M1 H locs → lv_has la Z.2.2.2.2.2.1 (gmp ad ls) → Z.1 H locs ce so pc la ((v.map (gv ad1)).toList ++ st.map (gv ad)) := g_same (r := none) h
theorem g_madeS {T' : gT} {r : Value} (hls : gOld T.length (ls.map Prod.snd)) (hst : gOld T.length st) (h : ∀ ad1 : Nat → Nat, gExt T T' → (∀ a : Nat, a < T.length → ad1 a = ad a) → gG Z ad1 T' M' ce so pc ls (r :: st)) : ∀ (v : Option Value) (ad1 : Nat → Nat) (T1 : gT) (M1 : gM), gMade T (some r) T' M' ad v ad1 T1 M1 → (∀ a : Nat, gSB ≤ a → ad1 a = ad a) → ∀ H locs la, gRp Z ad1 T1 M1 H locs → lv_has la Z.2.2.2.2.2.1 (gmp ad ls) → Z.1 H locs ce so pc la ((v.map (gv ad1)).toList ++ st.map (gv ad)) := g_made (r := some r) hls hst h
theorem g_madeN {T' : gT} (hls : gOld T.length (ls.map Prod.snd)) (hst : gOld T.length st) (h : ∀ ad1 : Nat → Nat, gExt T T' → (∀ a : Nat, a < T.length → ad1 a = ad a) → gG Z ad1 T' M' ce so pc ls st) : ∀ (v : Option Value) (ad1 : Nat → Nat) (T1 : gT) (M1 : gM), gMade T none T' M' ad v ad1 T1 M1 → (∀ a : Nat, gSB ≤ a → ad1 a = ad a) → ∀ H locs la, gRp Z ad1 T1 M1 H locs → lv_has la Z.2.2.2.2.2.1 (gmp ad ls) → Z.1 H locs ce so pc la ((v.map (gv ad1)).toList ++ st.map (gv ad)) := g_made (r := none) hls hst h
end GSM
theorem c_slen {T : gT} {M : gM} {s d : Nat} {v : Int32} (h : slen s = some v) (hd : 2 ≤ d) : gRet d yJ0_length_8abf5 cJ0_length_8abf5 1 (some .int) 0 0 [.ref (gSB + s)] T M (gSame T (some (.int v)) M) := by
  obtain ⟨h1, rfl⟩ := slen_sp h
  exact c_J0_length h1 hd
theorem c_sch {T : gT} {M : gM} {s d : Nat} {k v : Int32} (h : sch s k = some v) (hd : 3 ≤ d) : gRet d yJ0_charAt_5068e cJ0_charAt_5068e 2 (some .char) 0 0 [.ref (gSB + s), .int k] T M (gSame T (some (.int v)) M) := by
  obtain ⟨h1, h2, h3, rfl⟩ := sch_sp h
  have q := c_J0_charAt (T := T) (M := M) h1 h2 hd
  rw [← h3] at q
  exact q
def gkd (T : gT) (a kd : Nat) : Option Unit := if (T[a]?).map Prod.fst = some kd then some () else none
theorem gkd_sp {T : gT} {a kd : Nat} {u : Unit} (h : gkd T a kd = some u) : ∃ len, T[a]? = some (kd, len) := by
  unfold gkd at h
  split at h
  next q =>
    cases ht : T[a]? with
    | none => rw [ht] at q; cases q
    | some y =>
      rw [ht] at q
      have q1 : y.1 = kd := Option.some.inj q
      exact ⟨y.2, by rw [← q1]⟩
  next => cases h
end
section
/-! THE WORDS OF THE TABLES, the fields, the methods -/
theorem gC_0 : gC 0 RX0 TX0 5 tyX0 := ⟨rfl, by decide +kernel, tyX0_ok, nmX0, rfl, by decide, by decide +kernel⟩
theorem gDf_0 : gDf 0 5 tyX0 := by
  unfold gDf
  decide +kernel
theorem g_own0 {R : String} {TT : u_T} {N : Nat} {ty : Nat → FieldType} (h : gC 0 R TT N ty) : R = RX0 := (congrArg Prod.fst (Option.some.inj (h.1.symm.trans (rfl : vwCl[0]? = some (RX0, TX0, 5))))).trans rfl
theorem gC_1 : gC 1 RX1 TX1 7 tyX1 := ⟨rfl, by decide +kernel, tyX1_ok, nmX1, rfl, by decide, by decide +kernel⟩
theorem gDf_1 : gDf 1 7 tyX1 := by
  unfold gDf
  decide +kernel
theorem g_own1 {R : String} {TT : u_T} {N : Nat} {ty : Nat → FieldType} (h : gC 1 R TT N ty) : R = RX1 := (congrArg Prod.fst (Option.some.inj (h.1.symm.trans (rfl : vwCl[1]? = some (RX1, TX1, 7))))).trans rfl
theorem gC_2 : gC 2 RX2 TX2 3 tyX2 := ⟨rfl, by decide +kernel, tyX2_ok, nmX2, rfl, by decide, by decide +kernel⟩
theorem gDf_2 : gDf 2 3 tyX2 := by
  unfold gDf
  decide +kernel
theorem g_own2 {R : String} {TT : u_T} {N : Nat} {ty : Nat → FieldType} (h : gC 2 R TT N ty) : R = RX2 := (congrArg Prod.fst (Option.some.inj (h.1.symm.trans (rfl : vwCl[2]? = some (RX2, TX2, 3))))).trans rfl
theorem gC_3 : gC 3 RX3 TX3 6 tyX3 := ⟨rfl, by decide +kernel, tyX3_ok, nmX3, rfl, by decide, by decide +kernel⟩
theorem gDf_3 : gDf 3 6 tyX3 := by
  unfold gDf
  decide +kernel
theorem g_own3 {R : String} {TT : u_T} {N : Nat} {ty : Nat → FieldType} (h : gC 3 R TT N ty) : R = RX3 := (congrArg Prod.fst (Option.some.inj (h.1.symm.trans (rfl : vwCl[3]? = some (RX3, TX3, 6))))).trans rfl
theorem gC_4 : gC 4 RX4 TX4 3 tyX4 := ⟨rfl, by decide +kernel, tyX4_ok, nmX4, rfl, by decide, by decide +kernel⟩
theorem gDf_4 : gDf 4 3 tyX4 := by
  unfold gDf
  decide +kernel
theorem g_own4 {R : String} {TT : u_T} {N : Nat} {ty : Nat → FieldType} (h : gC 4 R TT N ty) : R = RX4 := (congrArg Prod.fst (Option.some.inj (h.1.symm.trans (rfl : vwCl[4]? = some (RX4, TX4, 3))))).trans rfl
theorem gC_5 : gC 5 RX5 TX5 11 tyX5 := ⟨rfl, by decide +kernel, tyX5_ok, nmX5, rfl, by decide, by decide +kernel⟩
theorem gDf_5 : gDf 5 11 tyX5 := by
  unfold gDf
  decide +kernel
theorem g_own5 {R : String} {TT : u_T} {N : Nat} {ty : Nat → FieldType} (h : gC 5 R TT N ty) : R = RX5 := (congrArg Prod.fst (Option.some.inj (h.1.symm.trans (rfl : vwCl[5]? = some (RX5, TX5, 11))))).trans rfl
theorem gC_6 : gC 6 RX6 TX6 8 tyX6 := ⟨rfl, by decide +kernel, tyX6_ok, nmX6, rfl, by decide, by decide +kernel⟩
theorem gDf_6 : gDf 6 8 tyX6 := by
  unfold gDf
  decide +kernel
theorem g_own6 {R : String} {TT : u_T} {N : Nat} {ty : Nat → FieldType} (h : gC 6 R TT N ty) : R = RX6 := (congrArg Prod.fst (Option.some.inj (h.1.symm.trans (rfl : vwCl[6]? = some (RX6, TX6, 8))))).trans rfl
theorem gC_7 : gC 7 RX7 TX7 2 tyX7 := ⟨rfl, by decide +kernel, tyX7_ok, nmX7, rfl, by decide, by decide +kernel⟩
theorem gDf_7 : gDf 7 2 tyX7 := by
  unfold gDf
  decide +kernel
theorem g_own7 {R : String} {TT : u_T} {N : Nat} {ty : Nat → FieldType} (h : gC 7 R TT N ty) : R = RX7 := (congrArg Prod.fst (Option.some.inj (h.1.symm.trans (rfl : vwCl[7]? = some (RX7, TX7, 2))))).trans rfl
theorem gC_8 : gC 8 RX8 TX8 9 tyX8 := ⟨rfl, by decide +kernel, tyX8_ok, nmX8, rfl, by decide, by decide +kernel⟩
theorem gDf_8 : gDf 8 9 tyX8 := by
  unfold gDf
  decide +kernel
theorem g_own8 {R : String} {TT : u_T} {N : Nat} {ty : Nat → FieldType} (h : gC 8 R TT N ty) : R = RX8 := (congrArg Prod.fst (Option.some.inj (h.1.symm.trans (rfl : vwCl[8]? = some (RX8, TX8, 9))))).trans rfl
theorem gC_9 : gC 9 RX9 TX9 27 tyX9 := ⟨rfl, by decide +kernel, tyX9_ok, nmX9, rfl, by decide, by decide +kernel⟩
theorem gDf_9 : gDf 9 27 tyX9 := by
  unfold gDf
  decide +kernel
theorem g_own9 {R : String} {TT : u_T} {N : Nat} {ty : Nat → FieldType} (h : gC 9 R TT N ty) : R = RX9 := (congrArg Prod.fst (Option.some.inj (h.1.symm.trans (rfl : vwCl[9]? = some (RX9, TX9, 27))))).trans rfl
end
section
theorem kw_0 : Cond.selects RX8 yX8_putBytes yX8_putBytes ∈ gWS := gws_of 0 (by decide +kernel) (by decide +kernel)
theorem kw_1 : Cond.selects RX2 yX2_bringBack yX2_bringBack ∈ gWS := gws_of 1 (by decide +kernel) (by decide +kernel)
theorem kw_2 : Cond.selects RX0 yX0_copyFrom yX0_copyFrom ∈ gWS := gws_of 2 (by decide +kernel) (by decide +kernel)
theorem kw_3 : Cond.selects RX3 yX3_copyFrom yX3_copyFrom ∈ gWS := gws_of 3 (by decide +kernel) (by decide +kernel)
theorem kw_4 : Cond.selects RX1 yX1_count yX1_count ∈ gWS := gws_of 4 (by decide +kernel) (by decide +kernel)
theorem kw_5 : Cond.selects RX3 yX3_isLoaded yX3_isLoaded ∈ gWS := gws_of 5 (by decide +kernel) (by decide +kernel)
theorem kw_6 : Cond.selects RX0 yX0_weightOf yX0_weightOf ∈ gWS := gws_of 6 (by decide +kernel) (by decide +kernel)
theorem kw_7 : Cond.selects RX3 yX3_countOffers yX3_countOffers ∈ gWS := gws_of 7 (by decide +kernel) (by decide +kernel)
theorem kw_8 : Cond.selects RX3 yX3_hasOffer yX3_hasOffer ∈ gWS := gws_of 8 (by decide +kernel) (by decide +kernel)
theorem kw_9 : Cond.selects RX0 yX0_friendsOf yX0_friendsOf ∈ gWS := gws_of 9 (by decide +kernel) (by decide +kernel)
theorem kw_10 : Cond.selects RX3 yX3_prefers yX3_prefers ∈ gWS := gws_of 10 (by decide +kernel) (by decide +kernel)
theorem kw_11 : Cond.selects RX7 yX7_valueOf yX7_valueOf ∈ gWS := gws_of 11 (by decide +kernel) (by decide +kernel)
theorem kw_12 : Cond.selects RX1 yX1_countCandidates yX1_countCandidates ∈ gWS := gws_of 12 (by decide +kernel) (by decide +kernel)
theorem kw_13 : Cond.selects RX0 yX0_isCandidate yX0_isCandidate ∈ gWS := gws_of 13 (by decide +kernel) (by decide +kernel)
theorem kw_14 : Cond.selects RX1 yX1_countVotes yX1_countVotes ∈ gWS := gws_of 14 (by decide +kernel) (by decide +kernel)
theorem kw_15 : Cond.selects RX1 yX1_countWinner yX1_countWinner ∈ gWS := gws_of 15 (by decide +kernel) (by decide +kernel)
theorem kw_16 : Cond.selects RX1 yX1_isAhead yX1_isAhead ∈ gWS := gws_of 16 (by decide +kernel) (by decide +kernel)
theorem kw_17 : Cond.selects RX1 yX1_countMargin yX1_countMargin ∈ gWS := gws_of 17 (by decide +kernel) (by decide +kernel)
theorem kw_18 : Cond.selects RX1 yX1_countBindings yX1_countBindings ∈ gWS := gws_of 18 (by decide +kernel) (by decide +kernel)
theorem kw_19 : Cond.selects RX1 yX1_isLargeEnough yX1_isLargeEnough ∈ gWS := gws_of 19 (by decide +kernel) (by decide +kernel)
theorem kw_20 : Cond.selects RX8 yX8_requireLibrary yX8_requireLibrary ∈ gWS := gws_of 20 (by decide +kernel) (by decide +kernel)
theorem kw_22 : Cond.selects RX8 yX8_requireName yX8_requireName ∈ gWS := gws_of 22 (by decide +kernel) (by decide +kernel)
theorem kw_23 : Cond.selects RX4 yX4_follow yX4_follow ∈ gWS := gws_of 23 (by decide +kernel) (by decide +kernel)
theorem kw_24 : Cond.selects RX5 yX5_readText yX5_readText ∈ gWS := gws_of 24 (by decide +kernel) (by decide +kernel)
theorem kw_25 : Cond.selects RX0 yX0_clear yX0_clear ∈ gWS := gws_of 25 (by decide +kernel) (by decide +kernel)
theorem kw_26 : Cond.selects RX5 yX5_addCode yX5_addCode ∈ gWS := gws_of 26 (by decide +kernel) (by decide +kernel)
theorem kw_27 : Cond.selects RX6 yX6_startText yX6_startText ∈ gWS := gws_of 27 (by decide +kernel) (by decide +kernel)
theorem kw_28 : Cond.selects RX6 yX6_advance yX6_advance ∈ gWS := gws_of 28 (by decide +kernel) (by decide +kernel)
theorem kw_29 : Cond.selects RX6 yX6_isLetterAt yX6_isLetterAt ∈ gWS := gws_of 29 (by decide +kernel) (by decide +kernel)
theorem kw_30 : Cond.selects RX6 yX6_takeWord yX6_takeWord ∈ gWS := gws_of 30 (by decide +kernel) (by decide +kernel)
theorem kw_31 : Cond.selects RX6 yX6_isDigitAt yX6_isDigitAt ∈ gWS := gws_of 31 (by decide +kernel) (by decide +kernel)
theorem kw_32 : Cond.selects RX6 yX6_takeNumber yX6_takeNumber ∈ gWS := gws_of 32 (by decide +kernel) (by decide +kernel)
theorem kw_33 : Cond.selects RX5 yX5_readKeyword yX5_readKeyword ∈ gWS := gws_of 33 (by decide +kernel) (by decide +kernel)
theorem kw_34 : Cond.selects RX6 yX6_isWord yX6_isWord ∈ gWS := gws_of 34 (by decide +kernel) (by decide +kernel)
theorem kw_35 : Cond.selects RX5 yX5_syntaxError yX5_syntaxError ∈ gWS := gws_of 35 (by decide +kernel) (by decide +kernel)
theorem kw_36 : Cond.selects RX5 yX5_error yX5_error ∈ gWS := gws_of 36 (by decide +kernel) (by decide +kernel)
theorem kw_37 : Cond.selects RX5 yX5_readSign yX5_readSign ∈ gWS := gws_of 37 (by decide +kernel) (by decide +kernel)
theorem kw_38 : Cond.selects RX6 yX6_isSign yX6_isSign ∈ gWS := gws_of 38 (by decide +kernel) (by decide +kernel)
theorem kw_39 : Cond.selects RX5 yX5_readStatement yX5_readStatement ∈ gWS := gws_of 39 (by decide +kernel) (by decide +kernel)
theorem kw_40 : Cond.selects RX5 yX5_readNewName yX5_readNewName ∈ gWS := gws_of 40 (by decide +kernel) (by decide +kernel)
theorem kw_41 : Cond.selects RX5 yX5_readNewWord yX5_readNewWord ∈ gWS := gws_of 41 (by decide +kernel) (by decide +kernel)
theorem kw_42 : Cond.selects RX5 yX5_indexOfWord yX5_indexOfWord ∈ gWS := gws_of 42 (by decide +kernel) (by decide +kernel)
theorem kw_43 : Cond.selects RX5 yX5_readNewLibrary yX5_readNewLibrary ∈ gWS := gws_of 43 (by decide +kernel) (by decide +kernel)
theorem kw_44 : Cond.selects RX5 yX5_readNumber yX5_readNumber ∈ gWS := gws_of 44 (by decide +kernel) (by decide +kernel)
theorem kw_45 : Cond.selects RX3 yX3_startAs yX3_startAs ∈ gWS := gws_of 45 (by decide +kernel) (by decide +kernel)
theorem kw_46 : Cond.selects RX5 yX5_readOffer yX5_readOffer ∈ gWS := gws_of 46 (by decide +kernel) (by decide +kernel)
theorem kw_47 : Cond.selects RX5 yX5_findLibrary yX5_findLibrary ∈ gWS := gws_of 47 (by decide +kernel) (by decide +kernel)
theorem kw_48 : Cond.selects RX5 yX5_findWord yX5_findWord ∈ gWS := gws_of 48 (by decide +kernel) (by decide +kernel)
theorem kw_49 : Cond.selects RX5 yX5_findName yX5_findName ∈ gWS := gws_of 49 (by decide +kernel) (by decide +kernel)
theorem kw_50 : Cond.selects RX5 yX5_readPrefer yX5_readPrefer ∈ gWS := gws_of 50 (by decide +kernel) (by decide +kernel)
theorem kw_51 : Cond.selects RX3 yX3_addPreference yX3_addPreference ∈ gWS := gws_of 51 (by decide +kernel) (by decide +kernel)
theorem kw_52 : Cond.selects RX5 yX5_readShare yX5_readShare ∈ gWS := gws_of 52 (by decide +kernel) (by decide +kernel)
theorem kw_53 : Cond.selects RX5 yX5_readWeight yX5_readWeight ∈ gWS := gws_of 53 (by decide +kernel) (by decide +kernel)
theorem kw_54 : Cond.selects RX5 yX5_readSum yX5_readSum ∈ gWS := gws_of 54 (by decide +kernel) (by decide +kernel)
theorem kw_55 : Cond.selects RX5 yX5_readTerm yX5_readTerm ∈ gWS := gws_of 55 (by decide +kernel) (by decide +kernel)
theorem kw_56 : Cond.selects RX5 yX5_readFactor yX5_readFactor ∈ gWS := gws_of 56 (by decide +kernel) (by decide +kernel)
theorem kw_57 : Cond.selects RX5 yX5_quantityCode yX5_quantityCode ∈ gWS := gws_of 57 (by decide +kernel) (by decide +kernel)
theorem kw_58 : Cond.selects RX8 yX8_beginChange yX8_beginChange ∈ gWS := gws_of 58 (by decide +kernel) (by decide +kernel)
theorem kw_59 : Cond.selects RX2 yX2_keep yX2_keep ∈ gWS := gws_of 59 (by decide +kernel) (by decide +kernel)
theorem kw_60 : Cond.selects RX0 yX0_takeOut yX0_takeOut ∈ gWS := gws_of 60 (by decide +kernel) (by decide +kernel)
theorem kw_61 : Cond.selects RX8 yX8_changedBindingsOfAll yX8_changedBindingsOfAll ∈ gWS := gws_of 61 (by decide +kernel) (by decide +kernel)
theorem kw_62 : Cond.selects RX8 yX8_changedBindings yX8_changedBindings ∈ gWS := gws_of 62 (by decide +kernel) (by decide +kernel)
theorem kw_63 : Cond.selects RX0 yX0_takeIn yX0_takeIn ∈ gWS := gws_of 63 (by decide +kernel) (by decide +kernel)
theorem kw_64 : Cond.selects RX8 yX8_changeOffer yX8_changeOffer ∈ gWS := gws_of 64 (by decide +kernel) (by decide +kernel)
theorem kw_65 : Cond.selects RX9 yX9_fails yX9_fails ∈ gWS := gws_of 65 (by decide +kernel) (by decide +kernel)
theorem kw_66 : Cond.selects RX9 yX9_takeWord yX9_takeWord ∈ gWS := gws_of 66 (by decide +kernel) (by decide +kernel)
theorem kw_67 : Cond.selects RX9 yX9_isGood yX9_isGood ∈ gWS := gws_of 67 (by decide +kernel) (by decide +kernel)
theorem kw_68 : Cond.selects RX9 yX9_next yX9_next ∈ gWS := gws_of 68 (by decide +kernel) (by decide +kernel)
theorem kw_69 : Cond.selects RX9 yX9_byteAt yX9_byteAt ∈ gWS := gws_of 69 (by decide +kernel) (by decide +kernel)
theorem kw_70 : Cond.selects RX9 yX9_report yX9_report ∈ gWS := gws_of 70 (by decide +kernel) (by decide +kernel)
theorem kw_71 : Cond.selects RX9 yX9_expect yX9_expect ∈ gWS := gws_of 71 (by decide +kernel) (by decide +kernel)
theorem kw_72 : Cond.selects RX9 yX9_statement yX9_statement ∈ gWS := gws_of 72 (by decide +kernel) (by decide +kernel)
theorem kw_73 : Cond.selects RX9 yX9_readName yX9_readName ∈ gWS := gws_of 73 (by decide +kernel) (by decide +kernel)
theorem kw_74 : Cond.selects RX9 yX9_readWord yX9_readWord ∈ gWS := gws_of 74 (by decide +kernel) (by decide +kernel)
theorem kw_75 : Cond.selects RX9 yX9_isFresh yX9_isFresh ∈ gWS := gws_of 75 (by decide +kernel) (by decide +kernel)
theorem kw_76 : Cond.selects RX9 yX9_readLibrary yX9_readLibrary ∈ gWS := gws_of 76 (by decide +kernel) (by decide +kernel)
theorem kw_77 : Cond.selects RX9 yX9_number yX9_number ∈ gWS := gws_of 77 (by decide +kernel) (by decide +kernel)
theorem kw_78 : Cond.selects RX9 yX9_readOffer yX9_readOffer ∈ gWS := gws_of 78 (by decide +kernel) (by decide +kernel)
theorem kw_79 : Cond.selects RX9 yX9_readKnown yX9_readKnown ∈ gWS := gws_of 79 (by decide +kernel) (by decide +kernel)
theorem kw_80 : Cond.selects RX9 yX9_readPreference yX9_readPreference ∈ gWS := gws_of 80 (by decide +kernel) (by decide +kernel)
theorem kw_81 : Cond.selects RX9 yX9_prefers yX9_prefers ∈ gWS := gws_of 81 (by decide +kernel) (by decide +kernel)
theorem kw_82 : Cond.selects RX9 yX9_once yX9_once ∈ gWS := gws_of 82 (by decide +kernel) (by decide +kernel)
theorem kw_83 : Cond.selects RX9 yX9_sum yX9_sum ∈ gWS := gws_of 83 (by decide +kernel) (by decide +kernel)
theorem kw_84 : Cond.selects RX9 yX9_term yX9_term ∈ gWS := gws_of 84 (by decide +kernel) (by decide +kernel)
theorem kw_85 : Cond.selects RX9 yX9_factor yX9_factor ∈ gWS := gws_of 85 (by decide +kernel) (by decide +kernel)
theorem kw_86 : Cond.selects RX9 yX9_emit yX9_emit ∈ gWS := gws_of 86 (by decide +kernel) (by decide +kernel)
theorem kw_87 : Cond.selects RX9 yX9_remember yX9_remember ∈ gWS := gws_of 87 (by decide +kernel) (by decide +kernel)
theorem kw_88 : Cond.selects RX9 yX9_noLibrary yX9_noLibrary ∈ gWS := gws_of 88 (by decide +kernel) (by decide +kernel)
theorem kw_89 : Cond.selects RX9 yX9_told yX9_told ∈ gWS := gws_of 89 (by decide +kernel) (by decide +kernel)
theorem kw_90 : Cond.selects RX9 yX9_rankOf yX9_rankOf ∈ gWS := gws_of 90 (by decide +kernel) (by decide +kernel)
theorem kw_91 : Cond.selects RX9 yX9_isLoaded yX9_isLoaded ∈ gWS := gws_of 91 (by decide +kernel) (by decide +kernel)
theorem kw_92 : Cond.selects RX9 yX9_offersOf yX9_offersOf ∈ gWS := gws_of 92 (by decide +kernel) (by decide +kernel)
theorem kw_93 : Cond.selects RX9 yX9_weightOf yX9_weightOf ∈ gWS := gws_of 93 (by decide +kernel) (by decide +kernel)
theorem kw_94 : Cond.selects RX9 yX9_friendsOf yX9_friendsOf ∈ gWS := gws_of 94 (by decide +kernel) (by decide +kernel)
theorem kw_95 : Cond.selects RX9 yX9_noName yX9_noName ∈ gWS := gws_of 95 (by decide +kernel) (by decide +kernel)
theorem kw_96 : Cond.selects RX9 yX9_isCandidate yX9_isCandidate ∈ gWS := gws_of 96 (by decide +kernel) (by decide +kernel)
theorem kw_97 : Cond.selects RX9 yX9_voteOf yX9_voteOf ∈ gWS := gws_of 97 (by decide +kernel) (by decide +kernel)
theorem kw_98 : Cond.selects RX9 yX9_isMissing yX9_isMissing ∈ gWS := gws_of 98 (by decide +kernel) (by decide +kernel)
theorem kw_99 : Cond.selects RX9 yX9_layAll yX9_layAll ∈ gWS := gws_of 99 (by decide +kernel) (by decide +kernel)
theorem kw_100 : Cond.selects RX9 yX9_layName yX9_layName ∈ gWS := gws_of 100 (by decide +kernel) (by decide +kernel)
theorem kw_101 : Cond.selects RX9 yX9_follow yX9_follow ∈ gWS := gws_of 101 (by decide +kernel) (by decide +kernel)
theorem kw_102 : Cond.selects RX9 yX9_keepBindings yX9_keepBindings ∈ gWS := gws_of 102 (by decide +kernel) (by decide +kernel)
theorem kw_103 : Cond.selects RX9 yX9_changedBut yX9_changedBut ∈ gWS := gws_of 103 (by decide +kernel) (by decide +kernel)
theorem kw_104 : Cond.selects RX9 yX9_put yX9_put ∈ gWS := gws_of 104 (by decide +kernel) (by decide +kernel)
theorem kw_107 : Cond.initialized RX5 ∈ gWS := gws_of 107 (by decide +kernel) (by decide +kernel)
theorem kw_108 : Cond.initialized RX6 ∈ gWS := gws_of 108 (by decide +kernel) (by decide +kernel)
theorem kw_109 : Cond.initialized RX0 ∈ gWS := gws_of 109 (by decide +kernel) (by decide +kernel)
theorem kw_110 : Cond.initialized RX7 ∈ gWS := gws_of 110 (by decide +kernel) (by decide +kernel)
theorem kw_111 : Cond.initialized RX3 ∈ gWS := gws_of 111 (by decide +kernel) (by decide +kernel)
theorem kw_112 : Cond.initialized RX1 ∈ gWS := gws_of 112 (by decide +kernel) (by decide +kernel)
theorem kw_113 : Cond.initialized RX4 ∈ gWS := gws_of 113 (by decide +kernel) (by decide +kernel)
theorem kw_114 : Cond.initialized RX2 ∈ gWS := gws_of 114 (by decide +kernel) (by decide +kernel)
theorem kw_134 : Cond.methodLink RX8 3 Lib.objectInit ∈ gWS := gws_of 134 (by decide +kernel) (by decide +kernel)
theorem kw_135 : Cond.instanceMethod Lib.objectInit ∈ gWS := gws_of 135 (by decide +kernel) (by decide +kernel)
theorem kw_136 : Cond.code Lib.objectInit ⟨#[0xb1]⟩ 1 none ∈ gWS := gws_of 136 (by decide +kernel) (by decide +kernel)
theorem kw_137 : Cond.classLink RX8 20 RX5 ∈ gWS := gws_of 137 (by decide +kernel) (by decide +kernel)
theorem kw_138 : Cond.instantiable RX5 11 ∈ gWS := gws_of 138 (by decide +kernel) (by decide +kernel)
theorem kw_140 : Cond.instanceMethod yX5_init ∈ gWS := gws_of 140 (by decide +kernel) (by decide +kernel)
theorem kw_142 : Cond.methodLink RX5 3 Lib.objectInit ∈ gWS := gws_of 142 (by decide +kernel) (by decide +kernel)
theorem kw_143 : Cond.classLink RX5 9 RX6 ∈ gWS := gws_of 143 (by decide +kernel) (by decide +kernel)
theorem kw_144 : Cond.instantiable RX6 8 ∈ gWS := gws_of 144 (by decide +kernel) (by decide +kernel)
theorem kw_146 : Cond.instanceMethod yX6_init ∈ gWS := gws_of 146 (by decide +kernel) (by decide +kernel)
theorem kw_148 : Cond.methodLink RX6 3 Lib.objectInit ∈ gWS := gws_of 148 (by decide +kernel) (by decide +kernel)
theorem kw_178 : Cond.arrayClass .byte ∈ gWS := gws_of 178 (by decide +kernel) (by decide +kernel)
theorem kw_179 : Cond.classLink RX5 18 RX0 ∈ gWS := gws_of 179 (by decide +kernel) (by decide +kernel)
theorem kw_180 : Cond.instantiable RX0 5 ∈ gWS := gws_of 180 (by decide +kernel) (by decide +kernel)
theorem kw_182 : Cond.instanceMethod yX0_init ∈ gWS := gws_of 182 (by decide +kernel) (by decide +kernel)
theorem kw_184 : Cond.methodLink RX0 3 Lib.objectInit ∈ gWS := gws_of 184 (by decide +kernel) (by decide +kernel)
theorem kw_185 : Cond.classLink RX0 9 RX3 ∈ gWS := gws_of 185 (by decide +kernel) (by decide +kernel)
theorem kw_187 : Cond.classLink RX0 27 RX7 ∈ gWS := gws_of 187 (by decide +kernel) (by decide +kernel)
theorem kw_188 : Cond.instantiable RX7 2 ∈ gWS := gws_of 188 (by decide +kernel) (by decide +kernel)
theorem kw_190 : Cond.instanceMethod yX7_init ∈ gWS := gws_of 190 (by decide +kernel) (by decide +kernel)
theorem kw_192 : Cond.methodLink RX7 1 Lib.objectInit ∈ gWS := gws_of 192 (by decide +kernel) (by decide +kernel)
theorem kw_200 : Cond.arrayClass .int ∈ gWS := gws_of 200 (by decide +kernel) (by decide +kernel)
theorem kw_201 : Cond.instantiable RX3 6 ∈ gWS := gws_of 201 (by decide +kernel) (by decide +kernel)
theorem kw_203 : Cond.instanceMethod yX3_init ∈ gWS := gws_of 203 (by decide +kernel) (by decide +kernel)
theorem kw_205 : Cond.methodLink RX3 3 Lib.objectInit ∈ gWS := gws_of 205 (by decide +kernel) (by decide +kernel)
theorem kw_306 : Cond.arrayClass .long ∈ gWS := gws_of 306 (by decide +kernel) (by decide +kernel)
theorem kw_307 : Cond.classLink RX8 27 RX0 ∈ gWS := gws_of 307 (by decide +kernel) (by decide +kernel)
theorem kw_309 : Cond.classLink RX8 34 RX1 ∈ gWS := gws_of 309 (by decide +kernel) (by decide +kernel)
theorem kw_310 : Cond.instantiable RX1 7 ∈ gWS := gws_of 310 (by decide +kernel) (by decide +kernel)
theorem kw_312 : Cond.instanceMethod yX1_init ∈ gWS := gws_of 312 (by decide +kernel) (by decide +kernel)
theorem kw_314 : Cond.methodLink RX1 3 Lib.objectInit ∈ gWS := gws_of 314 (by decide +kernel) (by decide +kernel)
theorem kw_345 : Cond.classLink RX8 41 RX4 ∈ gWS := gws_of 345 (by decide +kernel) (by decide +kernel)
theorem kw_346 : Cond.instantiable RX4 3 ∈ gWS := gws_of 346 (by decide +kernel) (by decide +kernel)
theorem kw_348 : Cond.instanceMethod yX4_init ∈ gWS := gws_of 348 (by decide +kernel) (by decide +kernel)
theorem kw_350 : Cond.methodLink RX4 3 Lib.objectInit ∈ gWS := gws_of 350 (by decide +kernel) (by decide +kernel)
theorem kw_363 : Cond.classLink RX8 48 RX2 ∈ gWS := gws_of 363 (by decide +kernel) (by decide +kernel)
theorem kw_364 : Cond.instantiable RX2 3 ∈ gWS := gws_of 364 (by decide +kernel) (by decide +kernel)
theorem kw_366 : Cond.instanceMethod yX2_init ∈ gWS := gws_of 366 (by decide +kernel) (by decide +kernel)
theorem kw_368 : Cond.methodLink RX2 3 Lib.objectInit ∈ gWS := gws_of 368 (by decide +kernel) (by decide +kernel)
theorem kw_369 : Cond.classLink RX2 9 RX0 ∈ gWS := gws_of 369 (by decide +kernel) (by decide +kernel)
theorem kw_415 : Cond.methodLink RX8 59 yX8_putBytes ∈ gWS := gws_of 415 (by decide +kernel) (by decide +kernel)
theorem kw_417 : Cond.instanceMethod yX8_putBytes ∈ gWS := gws_of 417 (by decide +kernel) (by decide +kernel)
theorem kw_432 : Cond.instanceMethod yX8_share ∈ gWS := gws_of 432 (by decide +kernel) (by decide +kernel)
theorem kw_433 : Cond.selects RX8 yX8_share yX8_share ∈ gWS := gws_of 433 (by decide +kernel) (by decide +kernel)
theorem kw_441 : Cond.instanceMethod yX2_bringBack ∈ gWS := gws_of 441 (by decide +kernel) (by decide +kernel)
theorem kw_445 : Cond.instanceMethod yX0_copyFrom ∈ gWS := gws_of 445 (by decide +kernel) (by decide +kernel)
theorem kw_449 : Cond.instanceMethod yX3_copyFrom ∈ gWS := gws_of 449 (by decide +kernel) (by decide +kernel)
theorem kw_451 : Cond.methodLink RX3 38 arraycopyName ∈ gWS := gws_of 451 (by decide +kernel) (by decide +kernel)
theorem kw_456 : Cond.instanceMethod yX1_count ∈ gWS := gws_of 456 (by decide +kernel) (by decide +kernel)
theorem kw_460 : Cond.instanceMethod yX3_isLoaded ∈ gWS := gws_of 460 (by decide +kernel) (by decide +kernel)
theorem kw_464 : Cond.instanceMethod yX0_weightOf ∈ gWS := gws_of 464 (by decide +kernel) (by decide +kernel)
theorem kw_468 : Cond.instanceMethod yX3_countOffers ∈ gWS := gws_of 468 (by decide +kernel) (by decide +kernel)
theorem kw_470 : Cond.methodLink RX3 44 yX3_hasOffer ∈ gWS := gws_of 470 (by decide +kernel) (by decide +kernel)
theorem kw_472 : Cond.instanceMethod yX3_hasOffer ∈ gWS := gws_of 472 (by decide +kernel) (by decide +kernel)
theorem kw_474 : Cond.methodLink RX0 62 yX0_friendsOf ∈ gWS := gws_of 474 (by decide +kernel) (by decide +kernel)
theorem kw_476 : Cond.instanceMethod yX0_friendsOf ∈ gWS := gws_of 476 (by decide +kernel) (by decide +kernel)
theorem kw_481 : Cond.instanceMethod yX3_prefers ∈ gWS := gws_of 481 (by decide +kernel) (by decide +kernel)
theorem kw_485 : Cond.instanceMethod yX7_valueOf ∈ gWS := gws_of 485 (by decide +kernel) (by decide +kernel)
theorem kw_487 : Cond.methodLink RX7 16 yX7_operate ∈ gWS := gws_of 487 (by decide +kernel) (by decide +kernel)
theorem kw_488 : Cond.static yX7_operate ∈ gWS := gws_of 488 (by decide +kernel) (by decide +kernel)
theorem kw_490 : Cond.constant RX7 28 (-1000000) ∈ gWS := gws_of 490 (by decide +kernel) (by decide +kernel)
theorem kw_491 : Cond.constant RX7 29 (1000000) ∈ gWS := gws_of 491 (by decide +kernel) (by decide +kernel)
theorem kw_492 : Cond.methodLink RX7 24 yX7_limited ∈ gWS := gws_of 492 (by decide +kernel) (by decide +kernel)
theorem kw_493 : Cond.static yX7_limited ∈ gWS := gws_of 493 (by decide +kernel) (by decide +kernel)
theorem kw_495 : Cond.methodLink RX7 30 Lib.MathLoose.min_long.x ∈ gWS := gws_of 495 (by decide +kernel) (by decide +kernel)
theorem kw_498 : Cond.methodLink RX7 36 Lib.MathLoose.max_long.x ∈ gWS := gws_of 498 (by decide +kernel) (by decide +kernel)
theorem kw_501 : Cond.methodLink RX7 20 yX7_factorValue ∈ gWS := gws_of 501 (by decide +kernel) (by decide +kernel)
theorem kw_502 : Cond.static yX7_factorValue ∈ gWS := gws_of 502 (by decide +kernel) (by decide +kernel)
theorem kw_504 : Cond.methodLink RX1 56 yX1_countCandidates ∈ gWS := gws_of 504 (by decide +kernel) (by decide +kernel)
theorem kw_506 : Cond.instanceMethod yX1_countCandidates ∈ gWS := gws_of 506 (by decide +kernel) (by decide +kernel)
theorem kw_510 : Cond.instanceMethod yX0_isCandidate ∈ gWS := gws_of 510 (by decide +kernel) (by decide +kernel)
theorem kw_514 : Cond.static yX8_cellOf ∈ gWS := gws_of 514 (by decide +kernel) (by decide +kernel)
theorem kw_516 : Cond.methodLink RX1 60 yX1_countVotes ∈ gWS := gws_of 516 (by decide +kernel) (by decide +kernel)
theorem kw_518 : Cond.instanceMethod yX1_countVotes ∈ gWS := gws_of 518 (by decide +kernel) (by decide +kernel)
theorem kw_520 : Cond.methodLink RX1 80 yX1_choiceOf ∈ gWS := gws_of 520 (by decide +kernel) (by decide +kernel)
theorem kw_521 : Cond.static yX1_choiceOf ∈ gWS := gws_of 521 (by decide +kernel) (by decide +kernel)
theorem kw_524 : Cond.methodLink RX1 63 yX1_countWinner ∈ gWS := gws_of 524 (by decide +kernel) (by decide +kernel)
theorem kw_526 : Cond.instanceMethod yX1_countWinner ∈ gWS := gws_of 526 (by decide +kernel) (by decide +kernel)
theorem kw_528 : Cond.methodLink RX1 94 yX1_isAhead ∈ gWS := gws_of 528 (by decide +kernel) (by decide +kernel)
theorem kw_530 : Cond.instanceMethod yX1_isAhead ∈ gWS := gws_of 530 (by decide +kernel) (by decide +kernel)
theorem kw_532 : Cond.methodLink RX1 66 yX1_countMargin ∈ gWS := gws_of 532 (by decide +kernel) (by decide +kernel)
theorem kw_534 : Cond.instanceMethod yX1_countMargin ∈ gWS := gws_of 534 (by decide +kernel) (by decide +kernel)
theorem kw_536 : Cond.methodLink RX1 101 Lib.Math.max.name ∈ gWS := gws_of 536 (by decide +kernel) (by decide +kernel)
theorem kw_539 : Cond.methodLink RX1 69 yX1_countBindings ∈ gWS := gws_of 539 (by decide +kernel) (by decide +kernel)
theorem kw_541 : Cond.instanceMethod yX1_countBindings ∈ gWS := gws_of 541 (by decide +kernel) (by decide +kernel)
theorem kw_543 : Cond.methodLink RX1 113 yX1_isLargeEnough ∈ gWS := gws_of 543 (by decide +kernel) (by decide +kernel)
theorem kw_545 : Cond.instanceMethod yX1_isLargeEnough ∈ gWS := gws_of 545 (by decide +kernel) (by decide +kernel)
theorem kw_551 : Cond.methodLink RX8 216 yX8_share ∈ gWS := gws_of 551 (by decide +kernel) (by decide +kernel)
theorem kw_552 : Cond.constantLong RX8 218 (31) ∈ gWS := gws_of 552 (by decide +kernel) (by decide +kernel)
theorem kw_553 : Cond.methodLink RX8 220 yX8_library ∈ gWS := gws_of 553 (by decide +kernel) (by decide +kernel)
theorem kw_554 : Cond.instanceMethod yX8_library ∈ gWS := gws_of 554 (by decide +kernel) (by decide +kernel)
theorem kw_555 : Cond.selects RX8 yX8_library yX8_library ∈ gWS := gws_of 555 (by decide +kernel) (by decide +kernel)
theorem kw_557 : Cond.methodLink RX8 100 yX8_requireLibrary ∈ gWS := gws_of 557 (by decide +kernel) (by decide +kernel)
theorem kw_559 : Cond.instanceMethod yX8_requireLibrary ∈ gWS := gws_of 559 (by decide +kernel) (by decide +kernel)
theorem kw_645 : Cond.methodLink RX8 223 yX8_offer ∈ gWS := gws_of 645 (by decide +kernel) (by decide +kernel)
theorem kw_646 : Cond.instanceMethod yX8_offer ∈ gWS := gws_of 646 (by decide +kernel) (by decide +kernel)
theorem kw_647 : Cond.selects RX8 yX8_offer yX8_offer ∈ gWS := gws_of 647 (by decide +kernel) (by decide +kernel)
theorem kw_649 : Cond.methodLink RX8 131 yX8_requireName ∈ gWS := gws_of 649 (by decide +kernel) (by decide +kernel)
theorem kw_651 : Cond.instanceMethod yX8_requireName ∈ gWS := gws_of 651 (by decide +kernel) (by decide +kernel)
theorem kw_654 : Cond.methodLink RX8 226 yX8_binding ∈ gWS := gws_of 654 (by decide +kernel) (by decide +kernel)
theorem kw_655 : Cond.instanceMethod yX8_binding ∈ gWS := gws_of 655 (by decide +kernel) (by decide +kernel)
theorem kw_656 : Cond.selects RX8 yX8_binding yX8_binding ∈ gWS := gws_of 656 (by decide +kernel) (by decide +kernel)
theorem kw_658 : Cond.methodLink RX8 143 yX8_cellOf ∈ gWS := gws_of 658 (by decide +kernel) (by decide +kernel)
theorem kw_659 : Cond.methodLink RX8 229 yX8_call ∈ gWS := gws_of 659 (by decide +kernel) (by decide +kernel)
theorem kw_660 : Cond.instanceMethod yX8_call ∈ gWS := gws_of 660 (by decide +kernel) (by decide +kernel)
theorem kw_661 : Cond.selects RX8 yX8_call yX8_call ∈ gWS := gws_of 661 (by decide +kernel) (by decide +kernel)
theorem kw_665 : Cond.instanceMethod yX4_follow ∈ gWS := gws_of 665 (by decide +kernel) (by decide +kernel)
theorem kw_667 : Cond.methodLink RX4 22 yJ7_fill_53178 ∈ gWS := gws_of 667 (by decide +kernel) (by decide +kernel)
theorem kw_668 : Cond.static yJ7_fill_53178 ∈ gWS := gws_of 668 (by decide +kernel) (by decide +kernel)
theorem kw_674 : Cond.classLink RL 13 (gExN 1) ∈ gWS := gws_of 674 (by decide +kernel) (by decide +kernel)
theorem kw_675 : Cond.methodLink RL 7 yX8_load ∈ gWS := gws_of 675 (by decide +kernel) (by decide +kernel)
theorem kw_676 : Cond.instanceMethod yX8_load ∈ gWS := gws_of 676 (by decide +kernel) (by decide +kernel)
theorem kw_677 : Cond.selects RX8 yX8_load yX8_load ∈ gWS := gws_of 677 (by decide +kernel) (by decide +kernel)
theorem kw_682 : Cond.instanceMethod yX5_readText ∈ gWS := gws_of 682 (by decide +kernel) (by decide +kernel)
theorem kw_686 : Cond.instanceMethod yX0_clear ∈ gWS := gws_of 686 (by decide +kernel) (by decide +kernel)
theorem kw_688 : Cond.methodLink RX5 61 yX5_addCode ∈ gWS := gws_of 688 (by decide +kernel) (by decide +kernel)
theorem kw_690 : Cond.instanceMethod yX5_addCode ∈ gWS := gws_of 690 (by decide +kernel) (by decide +kernel)
theorem kw_694 : Cond.instanceMethod yX6_startText ∈ gWS := gws_of 694 (by decide +kernel) (by decide +kernel)
theorem kw_696 : Cond.methodLink RX6 38 Lib.Math.min.name ∈ gWS := gws_of 696 (by decide +kernel) (by decide +kernel)
theorem kw_699 : Cond.methodLink RX6 44 arraycopyName ∈ gWS := gws_of 699 (by decide +kernel) (by decide +kernel)
theorem kw_700 : Cond.methodLink RX6 50 yX6_advance ∈ gWS := gws_of 700 (by decide +kernel) (by decide +kernel)
theorem kw_702 : Cond.instanceMethod yX6_advance ∈ gWS := gws_of 702 (by decide +kernel) (by decide +kernel)
theorem kw_704 : Cond.methodLink RX6 53 yX6_isLetterAt ∈ gWS := gws_of 704 (by decide +kernel) (by decide +kernel)
theorem kw_706 : Cond.instanceMethod yX6_isLetterAt ∈ gWS := gws_of 706 (by decide +kernel) (by decide +kernel)
theorem kw_708 : Cond.methodLink RX6 57 yX6_takeWord ∈ gWS := gws_of 708 (by decide +kernel) (by decide +kernel)
theorem kw_710 : Cond.instanceMethod yX6_takeWord ∈ gWS := gws_of 710 (by decide +kernel) (by decide +kernel)
theorem kw_712 : Cond.methodLink RX6 60 yX6_isDigitAt ∈ gWS := gws_of 712 (by decide +kernel) (by decide +kernel)
theorem kw_714 : Cond.instanceMethod yX6_isDigitAt ∈ gWS := gws_of 714 (by decide +kernel) (by decide +kernel)
theorem kw_716 : Cond.methodLink RX6 63 yX6_takeNumber ∈ gWS := gws_of 716 (by decide +kernel) (by decide +kernel)
theorem kw_718 : Cond.instanceMethod yX6_takeNumber ∈ gWS := gws_of 718 (by decide +kernel) (by decide +kernel)
theorem kw_720 : Cond.constant RX6 66 (1000000) ∈ gWS := gws_of 720 (by decide +kernel) (by decide +kernel)
theorem kw_722 : Cond.methodLink RX5 71 yX5_readKeyword ∈ gWS := gws_of 722 (by decide +kernel) (by decide +kernel)
theorem kw_724 : Cond.instanceMethod yX5_readKeyword ∈ gWS := gws_of 724 (by decide +kernel) (by decide +kernel)
theorem kw_728 : Cond.instanceMethod yX6_isWord ∈ gWS := gws_of 728 (by decide +kernel) (by decide +kernel)
theorem kw_730 : Cond.methodLink RX6 67 yX6_packed ∈ gWS := gws_of 730 (by decide +kernel) (by decide +kernel)
theorem kw_731 : Cond.static yX6_packed ∈ gWS := gws_of 731 (by decide +kernel) (by decide +kernel)
theorem kw_733 : Cond.methodLink RX6 71 yJ0_length_8abf5 ∈ gWS := gws_of 733 (by decide +kernel) (by decide +kernel)
theorem kw_734 : Cond.instanceMethod yJ0_length_8abf5 ∈ gWS := gws_of 734 (by decide +kernel) (by decide +kernel)
theorem kw_735 : Cond.selects "java/lang/String" yJ0_length_8abf5 yJ0_length_8abf5 ∈ gWS := gws_of 735 (by decide +kernel) (by decide +kernel)
theorem kw_743 : Cond.methodLink RX6 76 yJ0_charAt_5068e ∈ gWS := gws_of 743 (by decide +kernel) (by decide +kernel)
theorem kw_744 : Cond.instanceMethod yJ0_charAt_5068e ∈ gWS := gws_of 744 (by decide +kernel) (by decide +kernel)
theorem kw_745 : Cond.selects "java/lang/String" yJ0_charAt_5068e yJ0_charAt_5068e ∈ gWS := gws_of 745 (by decide +kernel) (by decide +kernel)
theorem kw_781 : Cond.methodLink RX5 131 yX5_syntaxError ∈ gWS := gws_of 781 (by decide +kernel) (by decide +kernel)
theorem kw_783 : Cond.instanceMethod yX5_syntaxError ∈ gWS := gws_of 783 (by decide +kernel) (by decide +kernel)
theorem kw_785 : Cond.methodLink RX5 137 yX5_error ∈ gWS := gws_of 785 (by decide +kernel) (by decide +kernel)
theorem kw_787 : Cond.instanceMethod yX5_error ∈ gWS := gws_of 787 (by decide +kernel) (by decide +kernel)
theorem kw_790 : Cond.methodLink RX5 75 yX5_readSign ∈ gWS := gws_of 790 (by decide +kernel) (by decide +kernel)
theorem kw_792 : Cond.instanceMethod yX5_readSign ∈ gWS := gws_of 792 (by decide +kernel) (by decide +kernel)
theorem kw_796 : Cond.instanceMethod yX6_isSign ∈ gWS := gws_of 796 (by decide +kernel) (by decide +kernel)
theorem kw_798 : Cond.methodLink RX5 82 yX5_readStatement ∈ gWS := gws_of 798 (by decide +kernel) (by decide +kernel)
theorem kw_800 : Cond.instanceMethod yX5_readStatement ∈ gWS := gws_of 800 (by decide +kernel) (by decide +kernel)
theorem kw_803 : Cond.methodLink RX5 104 yX5_readNewName ∈ gWS := gws_of 803 (by decide +kernel) (by decide +kernel)
theorem kw_805 : Cond.instanceMethod yX5_readNewName ∈ gWS := gws_of 805 (by decide +kernel) (by decide +kernel)
theorem kw_807 : Cond.methodLink RX5 144 yX5_readNewWord ∈ gWS := gws_of 807 (by decide +kernel) (by decide +kernel)
theorem kw_809 : Cond.instanceMethod yX5_readNewWord ∈ gWS := gws_of 809 (by decide +kernel) (by decide +kernel)
theorem kw_811 : Cond.methodLink RX5 216 yX5_indexOfWord ∈ gWS := gws_of 811 (by decide +kernel) (by decide +kernel)
theorem kw_813 : Cond.instanceMethod yX5_indexOfWord ∈ gWS := gws_of 813 (by decide +kernel) (by decide +kernel)
theorem kw_816 : Cond.methodLink RX5 109 yX5_readNewLibrary ∈ gWS := gws_of 816 (by decide +kernel) (by decide +kernel)
theorem kw_818 : Cond.instanceMethod yX5_readNewLibrary ∈ gWS := gws_of 818 (by decide +kernel) (by decide +kernel)
theorem kw_820 : Cond.methodLink RX5 151 yX5_readNumber ∈ gWS := gws_of 820 (by decide +kernel) (by decide +kernel)
theorem kw_822 : Cond.instanceMethod yX5_readNumber ∈ gWS := gws_of 822 (by decide +kernel) (by decide +kernel)
theorem kw_826 : Cond.instanceMethod yX3_startAs ∈ gWS := gws_of 826 (by decide +kernel) (by decide +kernel)
theorem kw_828 : Cond.methodLink RX3 32 yJ7_fill_53178 ∈ gWS := gws_of 828 (by decide +kernel) (by decide +kernel)
theorem kw_831 : Cond.methodLink RX5 114 yX5_readOffer ∈ gWS := gws_of 831 (by decide +kernel) (by decide +kernel)
theorem kw_833 : Cond.instanceMethod yX5_readOffer ∈ gWS := gws_of 833 (by decide +kernel) (by decide +kernel)
theorem kw_835 : Cond.methodLink RX5 168 yX5_findLibrary ∈ gWS := gws_of 835 (by decide +kernel) (by decide +kernel)
theorem kw_837 : Cond.instanceMethod yX5_findLibrary ∈ gWS := gws_of 837 (by decide +kernel) (by decide +kernel)
theorem kw_839 : Cond.methodLink RX5 224 yX5_findWord ∈ gWS := gws_of 839 (by decide +kernel) (by decide +kernel)
theorem kw_841 : Cond.instanceMethod yX5_findWord ∈ gWS := gws_of 841 (by decide +kernel) (by decide +kernel)
theorem kw_843 : Cond.methodLink RX5 171 yX5_findName ∈ gWS := gws_of 843 (by decide +kernel) (by decide +kernel)
theorem kw_845 : Cond.instanceMethod yX5_findName ∈ gWS := gws_of 845 (by decide +kernel) (by decide +kernel)
theorem kw_850 : Cond.methodLink RX5 119 yX5_readPrefer ∈ gWS := gws_of 850 (by decide +kernel) (by decide +kernel)
theorem kw_852 : Cond.instanceMethod yX5_readPrefer ∈ gWS := gws_of 852 (by decide +kernel) (by decide +kernel)
theorem kw_857 : Cond.instanceMethod yX3_addPreference ∈ gWS := gws_of 857 (by decide +kernel) (by decide +kernel)
theorem kw_860 : Cond.methodLink RX5 124 yX5_readShare ∈ gWS := gws_of 860 (by decide +kernel) (by decide +kernel)
theorem kw_862 : Cond.instanceMethod yX5_readShare ∈ gWS := gws_of 862 (by decide +kernel) (by decide +kernel)
theorem kw_865 : Cond.methodLink RX5 128 yX5_readWeight ∈ gWS := gws_of 865 (by decide +kernel) (by decide +kernel)
theorem kw_867 : Cond.instanceMethod yX5_readWeight ∈ gWS := gws_of 867 (by decide +kernel) (by decide +kernel)
theorem kw_869 : Cond.methodLink RX5 190 yX5_readSum ∈ gWS := gws_of 869 (by decide +kernel) (by decide +kernel)
theorem kw_871 : Cond.instanceMethod yX5_readSum ∈ gWS := gws_of 871 (by decide +kernel) (by decide +kernel)
theorem kw_873 : Cond.methodLink RX5 193 yX5_readTerm ∈ gWS := gws_of 873 (by decide +kernel) (by decide +kernel)
theorem kw_875 : Cond.instanceMethod yX5_readTerm ∈ gWS := gws_of 875 (by decide +kernel) (by decide +kernel)
theorem kw_877 : Cond.methodLink RX5 199 yX5_readFactor ∈ gWS := gws_of 877 (by decide +kernel) (by decide +kernel)
theorem kw_879 : Cond.instanceMethod yX5_readFactor ∈ gWS := gws_of 879 (by decide +kernel) (by decide +kernel)
theorem kw_881 : Cond.methodLink RX5 202 yX5_quantityCode ∈ gWS := gws_of 881 (by decide +kernel) (by decide +kernel)
theorem kw_883 : Cond.instanceMethod yX5_quantityCode ∈ gWS := gws_of 883 (by decide +kernel) (by decide +kernel)
theorem kw_889 : Cond.classLink RX5 59 RX7 ∈ gWS := gws_of 889 (by decide +kernel) (by decide +kernel)
theorem kw_890 : Cond.methodLink RX5 86 yJ7_copyOf_59c91 ∈ gWS := gws_of 890 (by decide +kernel) (by decide +kernel)
theorem kw_891 : Cond.static yJ7_copyOf_59c91 ∈ gWS := gws_of 891 (by decide +kernel) (by decide +kernel)
theorem kw_900 : Cond.methodLink RJ7 304 Lib.Math.min.name ∈ gWS := gws_of 900 (by decide +kernel) (by decide +kernel)
theorem kw_901 : Cond.methodLink RJ7 150 arraycopyName ∈ gWS := gws_of 901 (by decide +kernel) (by decide +kernel)
theorem kw_903 : Cond.methodLink RX8 78 yX8_beginChange ∈ gWS := gws_of 903 (by decide +kernel) (by decide +kernel)
theorem kw_905 : Cond.instanceMethod yX8_beginChange ∈ gWS := gws_of 905 (by decide +kernel) (by decide +kernel)
theorem kw_909 : Cond.instanceMethod yX2_keep ∈ gWS := gws_of 909 (by decide +kernel) (by decide +kernel)
theorem kw_911 : Cond.methodLink RX8 242 arraycopyName ∈ gWS := gws_of 911 (by decide +kernel) (by decide +kernel)
theorem kw_916 : Cond.classLink RL 19 (gExN 2) ∈ gWS := gws_of 916 (by decide +kernel) (by decide +kernel)
theorem kw_917 : Cond.methodLink RL 15 yX8_library ∈ gWS := gws_of 917 (by decide +kernel) (by decide +kernel)
theorem kw_921 : Cond.methodLink RL 21 yX8_offer ∈ gWS := gws_of 921 (by decide +kernel) (by decide +kernel)
theorem kw_925 : Cond.methodLink RL 24 yX8_candidates ∈ gWS := gws_of 925 (by decide +kernel) (by decide +kernel)
theorem kw_926 : Cond.instanceMethod yX8_candidates ∈ gWS := gws_of 926 (by decide +kernel) (by decide +kernel)
theorem kw_927 : Cond.selects RX8 yX8_candidates yX8_candidates ∈ gWS := gws_of 927 (by decide +kernel) (by decide +kernel)
theorem kw_932 : Cond.methodLink RL 27 yX8_vote ∈ gWS := gws_of 932 (by decide +kernel) (by decide +kernel)
theorem kw_933 : Cond.instanceMethod yX8_vote ∈ gWS := gws_of 933 (by decide +kernel) (by decide +kernel)
theorem kw_934 : Cond.selects RX8 yX8_vote yX8_vote ∈ gWS := gws_of 934 (by decide +kernel) (by decide +kernel)
theorem kw_939 : Cond.methodLink RL 30 yX8_support ∈ gWS := gws_of 939 (by decide +kernel) (by decide +kernel)
theorem kw_940 : Cond.instanceMethod yX8_support ∈ gWS := gws_of 940 (by decide +kernel) (by decide +kernel)
theorem kw_941 : Cond.selects RX8 yX8_support yX8_support ∈ gWS := gws_of 941 (by decide +kernel) (by decide +kernel)
theorem kw_946 : Cond.methodLink RL 33 yX8_winner ∈ gWS := gws_of 946 (by decide +kernel) (by decide +kernel)
theorem kw_947 : Cond.instanceMethod yX8_winner ∈ gWS := gws_of 947 (by decide +kernel) (by decide +kernel)
theorem kw_948 : Cond.selects RX8 yX8_winner yX8_winner ∈ gWS := gws_of 948 (by decide +kernel) (by decide +kernel)
theorem kw_953 : Cond.methodLink RL 36 yX8_margin ∈ gWS := gws_of 953 (by decide +kernel) (by decide +kernel)
theorem kw_954 : Cond.instanceMethod yX8_margin ∈ gWS := gws_of 954 (by decide +kernel) (by decide +kernel)
theorem kw_955 : Cond.selects RX8 yX8_margin yX8_margin ∈ gWS := gws_of 955 (by decide +kernel) (by decide +kernel)
theorem kw_960 : Cond.methodLink RL 39 yX8_binding ∈ gWS := gws_of 960 (by decide +kernel) (by decide +kernel)
theorem kw_964 : Cond.methodLink RL 42 yX8_minority ∈ gWS := gws_of 964 (by decide +kernel) (by decide +kernel)
theorem kw_965 : Cond.instanceMethod yX8_minority ∈ gWS := gws_of 965 (by decide +kernel) (by decide +kernel)
theorem kw_966 : Cond.selects RX8 yX8_minority yX8_minority ∈ gWS := gws_of 966 (by decide +kernel) (by decide +kernel)
theorem kw_972 : Cond.methodLink RL 45 yX8_call ∈ gWS := gws_of 972 (by decide +kernel) (by decide +kernel)
theorem kw_976 : Cond.methodLink RL 48 yX8_steps ∈ gWS := gws_of 976 (by decide +kernel) (by decide +kernel)
theorem kw_977 : Cond.instanceMethod yX8_steps ∈ gWS := gws_of 977 (by decide +kernel) (by decide +kernel)
theorem kw_978 : Cond.selects RX8 yX8_steps yX8_steps ∈ gWS := gws_of 978 (by decide +kernel) (by decide +kernel)
theorem kw_983 : Cond.methodLink RL 51 yX8_users ∈ gWS := gws_of 983 (by decide +kernel) (by decide +kernel)
theorem kw_984 : Cond.instanceMethod yX8_users ∈ gWS := gws_of 984 (by decide +kernel) (by decide +kernel)
theorem kw_985 : Cond.selects RX8 yX8_users yX8_users ∈ gWS := gws_of 985 (by decide +kernel) (by decide +kernel)
theorem kw_990 : Cond.classLink RL 57 (gExN 3) ∈ gWS := gws_of 990 (by decide +kernel) (by decide +kernel)
theorem kw_991 : Cond.methodLink RL 54 yX8_unload ∈ gWS := gws_of 991 (by decide +kernel) (by decide +kernel)
theorem kw_992 : Cond.instanceMethod yX8_unload ∈ gWS := gws_of 992 (by decide +kernel) (by decide +kernel)
theorem kw_993 : Cond.selects RX8 yX8_unload yX8_unload ∈ gWS := gws_of 993 (by decide +kernel) (by decide +kernel)
theorem kw_1013 : Cond.instanceMethod yX0_takeOut ∈ gWS := gws_of 1013 (by decide +kernel) (by decide +kernel)
theorem kw_1015 : Cond.methodLink RX8 181 yX8_changedBindingsOfAll ∈ gWS := gws_of 1015 (by decide +kernel) (by decide +kernel)
theorem kw_1017 : Cond.instanceMethod yX8_changedBindingsOfAll ∈ gWS := gws_of 1017 (by decide +kernel) (by decide +kernel)
theorem kw_1019 : Cond.methodLink RX8 189 yX8_changedBindings ∈ gWS := gws_of 1019 (by decide +kernel) (by decide +kernel)
theorem kw_1021 : Cond.instanceMethod yX8_changedBindings ∈ gWS := gws_of 1021 (by decide +kernel) (by decide +kernel)
theorem kw_1026 : Cond.methodLink RL 59 yX8_reload ∈ gWS := gws_of 1026 (by decide +kernel) (by decide +kernel)
theorem kw_1027 : Cond.instanceMethod yX8_reload ∈ gWS := gws_of 1027 (by decide +kernel) (by decide +kernel)
theorem kw_1028 : Cond.selects RX8 yX8_reload yX8_reload ∈ gWS := gws_of 1028 (by decide +kernel) (by decide +kernel)
theorem kw_1033 : Cond.instanceMethod yX0_takeIn ∈ gWS := gws_of 1033 (by decide +kernel) (by decide +kernel)
theorem kw_1038 : Cond.methodLink RL 62 yX8_offerValue ∈ gWS := gws_of 1038 (by decide +kernel) (by decide +kernel)
theorem kw_1039 : Cond.instanceMethod yX8_offerValue ∈ gWS := gws_of 1039 (by decide +kernel) (by decide +kernel)
theorem kw_1040 : Cond.selects RX8 yX8_offerValue yX8_offerValue ∈ gWS := gws_of 1040 (by decide +kernel) (by decide +kernel)
theorem kw_1043 : Cond.methodLink RX8 195 yX8_changeOffer ∈ gWS := gws_of 1043 (by decide +kernel) (by decide +kernel)
theorem kw_1045 : Cond.instanceMethod yX8_changeOffer ∈ gWS := gws_of 1045 (by decide +kernel) (by decide +kernel)
theorem kw_1050 : Cond.methodLink RL 66 yX8_offerForward ∈ gWS := gws_of 1050 (by decide +kernel) (by decide +kernel)
theorem kw_1051 : Cond.instanceMethod yX8_offerForward ∈ gWS := gws_of 1051 (by decide +kernel) (by decide +kernel)
theorem kw_1052 : Cond.selects RX8 yX8_offerForward yX8_offerForward ∈ gWS := gws_of 1052 (by decide +kernel) (by decide +kernel)
theorem kw_1057 : Cond.methodLink RL 69 yX8_withdraw ∈ gWS := gws_of 1057 (by decide +kernel) (by decide +kernel)
theorem kw_1058 : Cond.instanceMethod yX8_withdraw ∈ gWS := gws_of 1058 (by decide +kernel) (by decide +kernel)
theorem kw_1059 : Cond.selects RX8 yX8_withdraw yX8_withdraw ∈ gWS := gws_of 1059 (by decide +kernel) (by decide +kernel)
theorem kw_1066 : Cond.methodLink RL 72 yX8_setTrust ∈ gWS := gws_of 1066 (by decide +kernel) (by decide +kernel)
theorem kw_1067 : Cond.instanceMethod yX8_setTrust ∈ gWS := gws_of 1067 (by decide +kernel) (by decide +kernel)
theorem kw_1068 : Cond.selects RX8 yX8_setTrust yX8_setTrust ∈ gWS := gws_of 1068 (by decide +kernel) (by decide +kernel)
theorem kw_1074 : Cond.methodLink RL 75 yX8_setKeeps ∈ gWS := gws_of 1074 (by decide +kernel) (by decide +kernel)
theorem kw_1075 : Cond.instanceMethod yX8_setKeeps ∈ gWS := gws_of 1075 (by decide +kernel) (by decide +kernel)
theorem kw_1076 : Cond.selects RX8 yX8_setKeeps yX8_setKeeps ∈ gWS := gws_of 1076 (by decide +kernel) (by decide +kernel)
theorem kw_1081 : Cond.methodLink RL 79 yX8_setShare ∈ gWS := gws_of 1081 (by decide +kernel) (by decide +kernel)
theorem kw_1082 : Cond.instanceMethod yX8_setShare ∈ gWS := gws_of 1082 (by decide +kernel) (by decide +kernel)
theorem kw_1083 : Cond.selects RX8 yX8_setShare yX8_setShare ∈ gWS := gws_of 1083 (by decide +kernel) (by decide +kernel)
theorem kw_1091 : Cond.methodLink RX9 3 Lib.objectInit ∈ gWS := gws_of 1091 (by decide +kernel) (by decide +kernel)
theorem kw_1188 : Cond.methodLink RX9 81 yX9_in ∈ gWS := gws_of 1188 (by decide +kernel) (by decide +kernel)
theorem kw_1189 : Cond.static yX9_in ∈ gWS := gws_of 1189 (by decide +kernel) (by decide +kernel)
theorem kw_1191 : Cond.methodLink RX9 216 yX9_fails ∈ gWS := gws_of 1191 (by decide +kernel) (by decide +kernel)
theorem kw_1193 : Cond.instanceMethod yX9_fails ∈ gWS := gws_of 1193 (by decide +kernel) (by decide +kernel)
theorem kw_1196 : Cond.methodLink RX9 130 yX9_takeWord ∈ gWS := gws_of 1196 (by decide +kernel) (by decide +kernel)
theorem kw_1198 : Cond.instanceMethod yX9_takeWord ∈ gWS := gws_of 1198 (by decide +kernel) (by decide +kernel)
theorem kw_1200 : Cond.methodLink RX9 85 yX9_isGood ∈ gWS := gws_of 1200 (by decide +kernel) (by decide +kernel)
theorem kw_1202 : Cond.instanceMethod yX9_isGood ∈ gWS := gws_of 1202 (by decide +kernel) (by decide +kernel)
theorem kw_1204 : Cond.methodLink RX9 89 yX9_next ∈ gWS := gws_of 1204 (by decide +kernel) (by decide +kernel)
theorem kw_1206 : Cond.instanceMethod yX9_next ∈ gWS := gws_of 1206 (by decide +kernel) (by decide +kernel)
theorem kw_1208 : Cond.methodLink RX9 71 yX9_byteAt ∈ gWS := gws_of 1208 (by decide +kernel) (by decide +kernel)
theorem kw_1210 : Cond.instanceMethod yX9_byteAt ∈ gWS := gws_of 1210 (by decide +kernel) (by decide +kernel)
theorem kw_1212 : Cond.methodLink RX9 93 yJ0_length_8abf5 ∈ gWS := gws_of 1212 (by decide +kernel) (by decide +kernel)
theorem kw_1213 : Cond.methodLink RX9 98 yJ0_charAt_5068e ∈ gWS := gws_of 1213 (by decide +kernel) (by decide +kernel)
theorem kw_1214 : Cond.methodLink RX9 102 yX9_report ∈ gWS := gws_of 1214 (by decide +kernel) (by decide +kernel)
theorem kw_1216 : Cond.instanceMethod yX9_report ∈ gWS := gws_of 1216 (by decide +kernel) (by decide +kernel)
theorem kw_1218 : Cond.methodLink RX9 124 yX9_expect ∈ gWS := gws_of 1218 (by decide +kernel) (by decide +kernel)
theorem kw_1220 : Cond.instanceMethod yX9_expect ∈ gWS := gws_of 1220 (by decide +kernel) (by decide +kernel)
theorem kw_1222 : Cond.methodLink RX9 222 yX9_statement ∈ gWS := gws_of 1222 (by decide +kernel) (by decide +kernel)
theorem kw_1224 : Cond.instanceMethod yX9_statement ∈ gWS := gws_of 1224 (by decide +kernel) (by decide +kernel)
theorem kw_1227 : Cond.methodLink RX9 191 yX9_readName ∈ gWS := gws_of 1227 (by decide +kernel) (by decide +kernel)
theorem kw_1229 : Cond.instanceMethod yX9_readName ∈ gWS := gws_of 1229 (by decide +kernel) (by decide +kernel)
theorem kw_1231 : Cond.methodLink RX9 162 yX9_readWord ∈ gWS := gws_of 1231 (by decide +kernel) (by decide +kernel)
theorem kw_1233 : Cond.instanceMethod yX9_readWord ∈ gWS := gws_of 1233 (by decide +kernel) (by decide +kernel)
theorem kw_1235 : Cond.constantLong RX9 158 (27) ∈ gWS := gws_of 1235 (by decide +kernel) (by decide +kernel)
theorem kw_1236 : Cond.constantLong RX9 160 (97) ∈ gWS := gws_of 1236 (by decide +kernel) (by decide +kernel)
theorem kw_1237 : Cond.methodLink RX9 170 yX9_isFresh ∈ gWS := gws_of 1237 (by decide +kernel) (by decide +kernel)
theorem kw_1239 : Cond.instanceMethod yX9_isFresh ∈ gWS := gws_of 1239 (by decide +kernel) (by decide +kernel)
theorem kw_1241 : Cond.methodLink RX9 166 yX9_placeOf ∈ gWS := gws_of 1241 (by decide +kernel) (by decide +kernel)
theorem kw_1242 : Cond.static yX9_placeOf ∈ gWS := gws_of 1242 (by decide +kernel) (by decide +kernel)
theorem kw_1245 : Cond.methodLink RX9 196 yX9_readLibrary ∈ gWS := gws_of 1245 (by decide +kernel) (by decide +kernel)
theorem kw_1247 : Cond.instanceMethod yX9_readLibrary ∈ gWS := gws_of 1247 (by decide +kernel) (by decide +kernel)
theorem kw_1249 : Cond.methodLink RX9 174 yX9_at ∈ gWS := gws_of 1249 (by decide +kernel) (by decide +kernel)
theorem kw_1250 : Cond.static yX9_at ∈ gWS := gws_of 1250 (by decide +kernel) (by decide +kernel)
theorem kw_1252 : Cond.methodLink RX9 140 yX9_number ∈ gWS := gws_of 1252 (by decide +kernel) (by decide +kernel)
theorem kw_1254 : Cond.instanceMethod yX9_number ∈ gWS := gws_of 1254 (by decide +kernel) (by decide +kernel)
theorem kw_1256 : Cond.methodLink RX9 106 yX9_isDigit ∈ gWS := gws_of 1256 (by decide +kernel) (by decide +kernel)
theorem kw_1257 : Cond.static yX9_isDigit ∈ gWS := gws_of 1257 (by decide +kernel) (by decide +kernel)
theorem kw_1259 : Cond.constant RX9 113 (1000000) ∈ gWS := gws_of 1259 (by decide +kernel) (by decide +kernel)
theorem kw_1260 : Cond.methodLink RX9 114 yX9_min ∈ gWS := gws_of 1260 (by decide +kernel) (by decide +kernel)
theorem kw_1261 : Cond.static yX9_min ∈ gWS := gws_of 1261 (by decide +kernel) (by decide +kernel)
theorem kw_1265 : Cond.methodLink RX9 201 yX9_readOffer ∈ gWS := gws_of 1265 (by decide +kernel) (by decide +kernel)
theorem kw_1267 : Cond.instanceMethod yX9_readOffer ∈ gWS := gws_of 1267 (by decide +kernel) (by decide +kernel)
theorem kw_1269 : Cond.methodLink RX9 179 yX9_readKnown ∈ gWS := gws_of 1269 (by decide +kernel) (by decide +kernel)
theorem kw_1271 : Cond.instanceMethod yX9_readKnown ∈ gWS := gws_of 1271 (by decide +kernel) (by decide +kernel)
theorem kw_1275 : Cond.methodLink RX9 206 yX9_readPreference ∈ gWS := gws_of 1275 (by decide +kernel) (by decide +kernel)
theorem kw_1277 : Cond.instanceMethod yX9_readPreference ∈ gWS := gws_of 1277 (by decide +kernel) (by decide +kernel)
theorem kw_1279 : Cond.methodLink RX9 185 yX9_prefers ∈ gWS := gws_of 1279 (by decide +kernel) (by decide +kernel)
theorem kw_1281 : Cond.instanceMethod yX9_prefers ∈ gWS := gws_of 1281 (by decide +kernel) (by decide +kernel)
theorem kw_1284 : Cond.methodLink RX9 211 yX9_once ∈ gWS := gws_of 1284 (by decide +kernel) (by decide +kernel)
theorem kw_1286 : Cond.instanceMethod yX9_once ∈ gWS := gws_of 1286 (by decide +kernel) (by decide +kernel)
theorem kw_1289 : Cond.methodLink RX9 121 yX9_sum ∈ gWS := gws_of 1289 (by decide +kernel) (by decide +kernel)
theorem kw_1291 : Cond.instanceMethod yX9_sum ∈ gWS := gws_of 1291 (by decide +kernel) (by decide +kernel)
theorem kw_1293 : Cond.methodLink RX9 149 yX9_term ∈ gWS := gws_of 1293 (by decide +kernel) (by decide +kernel)
theorem kw_1295 : Cond.instanceMethod yX9_term ∈ gWS := gws_of 1295 (by decide +kernel) (by decide +kernel)
theorem kw_1297 : Cond.methodLink RX9 146 yX9_factor ∈ gWS := gws_of 1297 (by decide +kernel) (by decide +kernel)
theorem kw_1299 : Cond.instanceMethod yX9_factor ∈ gWS := gws_of 1299 (by decide +kernel) (by decide +kernel)
theorem kw_1305 : Cond.methodLink RX9 143 yX9_emit ∈ gWS := gws_of 1305 (by decide +kernel) (by decide +kernel)
theorem kw_1307 : Cond.instanceMethod yX9_emit ∈ gWS := gws_of 1307 (by decide +kernel) (by decide +kernel)
theorem kw_1309 : Cond.methodLink RX9 225 yX9_remember ∈ gWS := gws_of 1309 (by decide +kernel) (by decide +kernel)
theorem kw_1311 : Cond.instanceMethod yX9_remember ∈ gWS := gws_of 1311 (by decide +kernel) (by decide +kernel)
theorem kw_1313 : Cond.methodLink RX9 228 yX9_copy ∈ gWS := gws_of 1313 (by decide +kernel) (by decide +kernel)
theorem kw_1314 : Cond.static yX9_copy ∈ gWS := gws_of 1314 (by decide +kernel) (by decide +kernel)
theorem kw_1336 : Cond.methodLink RX9 277 yX9_noLibrary ∈ gWS := gws_of 1336 (by decide +kernel) (by decide +kernel)
theorem kw_1338 : Cond.instanceMethod yX9_noLibrary ∈ gWS := gws_of 1338 (by decide +kernel) (by decide +kernel)
theorem kw_1340 : Cond.methodLink RX9 283 yX9_told ∈ gWS := gws_of 1340 (by decide +kernel) (by decide +kernel)
theorem kw_1342 : Cond.instanceMethod yX9_told ∈ gWS := gws_of 1342 (by decide +kernel) (by decide +kernel)
theorem kw_1344 : Cond.methodLink RX9 243 yX9_rankOf ∈ gWS := gws_of 1344 (by decide +kernel) (by decide +kernel)
theorem kw_1346 : Cond.instanceMethod yX9_rankOf ∈ gWS := gws_of 1346 (by decide +kernel) (by decide +kernel)
theorem kw_1348 : Cond.methodLink RX9 232 yX9_isLoaded ∈ gWS := gws_of 1348 (by decide +kernel) (by decide +kernel)
theorem kw_1350 : Cond.instanceMethod yX9_isLoaded ∈ gWS := gws_of 1350 (by decide +kernel) (by decide +kernel)
theorem kw_1352 : Cond.methodLink RX9 246 yX9_offersOf ∈ gWS := gws_of 1352 (by decide +kernel) (by decide +kernel)
theorem kw_1354 : Cond.instanceMethod yX9_offersOf ∈ gWS := gws_of 1354 (by decide +kernel) (by decide +kernel)
theorem kw_1356 : Cond.methodLink RX9 265 yX9_weightOf ∈ gWS := gws_of 1356 (by decide +kernel) (by decide +kernel)
theorem kw_1358 : Cond.instanceMethod yX9_weightOf ∈ gWS := gws_of 1358 (by decide +kernel) (by decide +kernel)
theorem kw_1360 : Cond.methodLink RX9 249 yX9_friendsOf ∈ gWS := gws_of 1360 (by decide +kernel) (by decide +kernel)
theorem kw_1362 : Cond.instanceMethod yX9_friendsOf ∈ gWS := gws_of 1362 (by decide +kernel) (by decide +kernel)
theorem kw_1364 : Cond.methodLink RX9 252 yX9_operate ∈ gWS := gws_of 1364 (by decide +kernel) (by decide +kernel)
theorem kw_1365 : Cond.static yX9_operate ∈ gWS := gws_of 1365 (by decide +kernel) (by decide +kernel)
theorem kw_1367 : Cond.methodLink RX9 239 yX9_limited ∈ gWS := gws_of 1367 (by decide +kernel) (by decide +kernel)
theorem kw_1368 : Cond.static yX9_limited ∈ gWS := gws_of 1368 (by decide +kernel) (by decide +kernel)
theorem kw_1370 : Cond.constantLong RX9 235 (1000000) ∈ gWS := gws_of 1370 (by decide +kernel) (by decide +kernel)
theorem kw_1371 : Cond.constantLong RX9 237 (-1000000) ∈ gWS := gws_of 1371 (by decide +kernel) (by decide +kernel)
theorem kw_1372 : Cond.constantLong RX9 256 (9999) ∈ gWS := gws_of 1372 (by decide +kernel) (by decide +kernel)
theorem kw_1377 : Cond.methodLink RX9 280 yX9_noName ∈ gWS := gws_of 1377 (by decide +kernel) (by decide +kernel)
theorem kw_1379 : Cond.instanceMethod yX9_noName ∈ gWS := gws_of 1379 (by decide +kernel) (by decide +kernel)
theorem kw_1385 : Cond.methodLink RX9 258 yX9_isCandidate ∈ gWS := gws_of 1385 (by decide +kernel) (by decide +kernel)
theorem kw_1387 : Cond.instanceMethod yX9_isCandidate ∈ gWS := gws_of 1387 (by decide +kernel) (by decide +kernel)
theorem kw_1393 : Cond.methodLink RX9 262 yX9_voteOf ∈ gWS := gws_of 1393 (by decide +kernel) (by decide +kernel)
theorem kw_1395 : Cond.instanceMethod yX9_voteOf ∈ gWS := gws_of 1395 (by decide +kernel) (by decide +kernel)
theorem kw_1401 : Cond.methodLink RX9 286 yX9_isMissing ∈ gWS := gws_of 1401 (by decide +kernel) (by decide +kernel)
theorem kw_1403 : Cond.instanceMethod yX9_isMissing ∈ gWS := gws_of 1403 (by decide +kernel) (by decide +kernel)
theorem kw_1405 : Cond.methodLink RX9 271 yX9_layAll ∈ gWS := gws_of 1405 (by decide +kernel) (by decide +kernel)
theorem kw_1407 : Cond.instanceMethod yX9_layAll ∈ gWS := gws_of 1407 (by decide +kernel) (by decide +kernel)
theorem kw_1409 : Cond.methodLink RX9 268 yX9_layName ∈ gWS := gws_of 1409 (by decide +kernel) (by decide +kernel)
theorem kw_1411 : Cond.instanceMethod yX9_layName ∈ gWS := gws_of 1411 (by decide +kernel) (by decide +kernel)
theorem kw_1433 : Cond.methodLink RX9 289 yX9_follow ∈ gWS := gws_of 1433 (by decide +kernel) (by decide +kernel)
theorem kw_1435 : Cond.instanceMethod yX9_follow ∈ gWS := gws_of 1435 (by decide +kernel) (by decide +kernel)
theorem kw_1449 : Cond.methodLink RX9 295 yX9_keepBindings ∈ gWS := gws_of 1449 (by decide +kernel) (by decide +kernel)
theorem kw_1451 : Cond.instanceMethod yX9_keepBindings ∈ gWS := gws_of 1451 (by decide +kernel) (by decide +kernel)
theorem kw_1453 : Cond.methodLink RX9 298 yX9_changedBut ∈ gWS := gws_of 1453 (by decide +kernel) (by decide +kernel)
theorem kw_1455 : Cond.instanceMethod yX9_changedBut ∈ gWS := gws_of 1455 (by decide +kernel) (by decide +kernel)
theorem kw_1465 : Cond.methodLink RX9 301 yX9_put ∈ gWS := gws_of 1465 (by decide +kernel) (by decide +kernel)
theorem kw_1467 : Cond.instanceMethod yX9_put ∈ gWS := gws_of 1467 (by decide +kernel) (by decide +kernel)
theorem kw_1497 : Cond.constantLong RX9 305 (31) ∈ gWS := gws_of 1497 (by decide +kernel) (by decide +kernel)
end
section
theorem kn_139 : Cond.methodLinkNest RX8 22 yX5_init "LinkElection" ∈ gNw := gnw_of 139 (by decide +kernel) (by decide +kernel)
theorem kn_145 : Cond.methodLinkNest RX5 11 yX6_init "LinkElection" ∈ gNw := gnw_of 145 (by decide +kernel) (by decide +kernel)
theorem kn_181 : Cond.methodLinkNest RX5 20 yX0_init "LinkElection" ∈ gNw := gnw_of 181 (by decide +kernel) (by decide +kernel)
theorem kn_189 : Cond.methodLinkNest RX0 29 yX7_init "LinkElection" ∈ gNw := gnw_of 189 (by decide +kernel) (by decide +kernel)
theorem kn_202 : Cond.methodLinkNest RX0 36 yX3_init "LinkElection" ∈ gNw := gnw_of 202 (by decide +kernel) (by decide +kernel)
theorem kn_308 : Cond.methodLinkNest RX8 29 yX0_init "LinkElection" ∈ gNw := gnw_of 308 (by decide +kernel) (by decide +kernel)
theorem kn_311 : Cond.methodLinkNest RX8 36 yX1_init "LinkElection" ∈ gNw := gnw_of 311 (by decide +kernel) (by decide +kernel)
theorem kn_347 : Cond.methodLinkNest RX8 43 yX4_init "LinkElection" ∈ gNw := gnw_of 347 (by decide +kernel) (by decide +kernel)
theorem kn_365 : Cond.methodLinkNest RX8 50 yX2_init "LinkElection" ∈ gNw := gnw_of 365 (by decide +kernel) (by decide +kernel)
theorem kn_371 : Cond.methodLinkNest RX2 24 yX0_init "LinkElection" ∈ gNw := gnw_of 371 (by decide +kernel) (by decide +kernel)
theorem kn_439 : Cond.methodLinkNest RX8 209 yX2_bringBack "LinkElection" ∈ gNw := gnw_of 439 (by decide +kernel) (by decide +kernel)
theorem kn_443 : Cond.methodLinkNest RX2 25 yX0_copyFrom "LinkElection" ∈ gNw := gnw_of 443 (by decide +kernel) (by decide +kernel)
theorem kn_447 : Cond.methodLinkNest RX0 37 yX3_copyFrom "LinkElection" ∈ gNw := gnw_of 447 (by decide +kernel) (by decide +kernel)
theorem kn_454 : Cond.methodLinkNest RX8 88 yX1_count "LinkElection" ∈ gNw := gnw_of 454 (by decide +kernel) (by decide +kernel)
theorem kn_458 : Cond.methodLinkNest RX1 43 yX3_isLoaded "LinkElection" ∈ gNw := gnw_of 458 (by decide +kernel) (by decide +kernel)
theorem kn_462 : Cond.methodLinkNest RX1 49 yX0_weightOf "LinkElection" ∈ gNw := gnw_of 462 (by decide +kernel) (by decide +kernel)
theorem kn_466 : Cond.methodLinkNest RX0 58 yX3_countOffers "LinkElection" ∈ gNw := gnw_of 466 (by decide +kernel) (by decide +kernel)
theorem kn_478 : Cond.methodLinkNest RX0 41 yX3_isLoaded "LinkElection" ∈ gNw := gnw_of 478 (by decide +kernel) (by decide +kernel)
theorem kn_479 : Cond.methodLinkNest RX0 52 yX3_prefers "LinkElection" ∈ gNw := gnw_of 479 (by decide +kernel) (by decide +kernel)
theorem kn_483 : Cond.methodLinkNest RX0 66 yX7_valueOf "LinkElection" ∈ gNw := gnw_of 483 (by decide +kernel) (by decide +kernel)
theorem kn_508 : Cond.methodLinkNest RX1 72 yX0_isCandidate "LinkElection" ∈ gNw := gnw_of 508 (by decide +kernel) (by decide +kernel)
theorem kn_512 : Cond.methodLinkNest RX0 45 yX3_hasOffer "LinkElection" ∈ gNw := gnw_of 512 (by decide +kernel) (by decide +kernel)
theorem kn_513 : Cond.methodLinkNest RX1 76 yX8_cellOf "LinkElection" ∈ gNw := gnw_of 513 (by decide +kernel) (by decide +kernel)
theorem kn_523 : Cond.methodLinkNest RX1 84 yX3_hasOffer "LinkElection" ∈ gNw := gnw_of 523 (by decide +kernel) (by decide +kernel)
theorem kn_563 : Cond.castable (gExN 2) (gExN 2) ∈ gNw := gnw_of 563 (by decide +kernel) (by decide +kernel)
theorem kn_628 : Cond.methodLinkNest RX8 119 yX3_countOffers "LinkElection" ∈ gNw := gnw_of 628 (by decide +kernel) (by decide +kernel)
theorem kn_631 : Cond.castable (gExN 1) (gExN 1) ∈ gNw := gnw_of 631 (by decide +kernel) (by decide +kernel)
theorem kn_663 : Cond.methodLinkNest RX8 163 yX4_follow "LinkElection" ∈ gNw := gnw_of 663 (by decide +kernel) (by decide +kernel)
theorem kn_670 : Cond.methodLinkNest RX4 28 yX8_cellOf "LinkElection" ∈ gNw := gnw_of 670 (by decide +kernel) (by decide +kernel)
theorem kn_680 : Cond.methodLinkNest RX8 70 yX5_readText "LinkElection" ∈ gNw := gnw_of 680 (by decide +kernel) (by decide +kernel)
theorem kn_684 : Cond.methodLinkNest RX5 56 yX0_clear "LinkElection" ∈ gNw := gnw_of 684 (by decide +kernel) (by decide +kernel)
theorem kn_692 : Cond.methodLinkNest RX5 65 yX6_startText "LinkElection" ∈ gNw := gnw_of 692 (by decide +kernel) (by decide +kernel)
theorem kn_726 : Cond.methodLinkNest RX5 101 yX6_isWord "LinkElection" ∈ gNw := gnw_of 726 (by decide +kernel) (by decide +kernel)
theorem kn_789 : Cond.methodLinkNest RX5 141 yX6_advance "LinkElection" ∈ gNw := gnw_of 789 (by decide +kernel) (by decide +kernel)
theorem kn_794 : Cond.methodLinkNest RX5 196 yX6_isSign "LinkElection" ∈ gNw := gnw_of 794 (by decide +kernel) (by decide +kernel)
theorem kn_824 : Cond.methodLinkNest RX5 158 yX3_startAs "LinkElection" ∈ gNw := gnw_of 824 (by decide +kernel) (by decide +kernel)
theorem kn_847 : Cond.methodLinkNest RX5 174 yX3_hasOffer "LinkElection" ∈ gNw := gnw_of 847 (by decide +kernel) (by decide +kernel)
theorem kn_854 : Cond.methodLinkNest RX5 182 yX3_prefers "LinkElection" ∈ gNw := gnw_of 854 (by decide +kernel) (by decide +kernel)
theorem kn_855 : Cond.methodLinkNest RX5 185 yX3_addPreference "LinkElection" ∈ gNw := gnw_of 855 (by decide +kernel) (by decide +kernel)
theorem kn_902 : Cond.methodLinkNest RX5 92 yX7_init "LinkElection" ∈ gNw := gnw_of 902 (by decide +kernel) (by decide +kernel)
theorem kn_907 : Cond.methodLinkNest RX8 239 yX2_keep "LinkElection" ∈ gNw := gnw_of 907 (by decide +kernel) (by decide +kernel)
theorem kn_912 : Cond.methodLinkNest RX8 84 yX0_copyFrom "LinkElection" ∈ gNw := gnw_of 912 (by decide +kernel) (by decide +kernel)
theorem kn_968 : Cond.methodLinkNest RX8 159 yX3_isLoaded "LinkElection" ∈ gNw := gnw_of 968 (by decide +kernel) (by decide +kernel)
theorem kn_997 : Cond.castable (gExN 3) (gExN 3) ∈ gNw := gnw_of 997 (by decide +kernel) (by decide +kernel)
theorem kn_1011 : Cond.methodLinkNest RX8 178 yX0_takeOut "LinkElection" ∈ gNw := gnw_of 1011 (by decide +kernel) (by decide +kernel)
theorem kn_1031 : Cond.methodLinkNest RX8 186 yX0_takeIn "LinkElection" ∈ gNw := gnw_of 1031 (by decide +kernel) (by decide +kernel)
theorem kn_1061 : Cond.methodLinkNest RX8 199 yX3_hasOffer "LinkElection" ∈ gNw := gnw_of 1061 (by decide +kernel) (by decide +kernel)
theorem fl_RX8_9 : gFl RX8 9 8 0 2 true (.array .byte) := ⟨RX8, TX8, 9, tyX8, gC_8, rfl, rfl, rfl, gws_of 383 (by decide +kernel) (by decide +kernel)⟩
theorem fl_RX8_13 : gFl RX8 13 8 1 0 false .int := ⟨RX8, TX8, 9, tyX8, gC_8, rfl, rfl, rfl, gws_of 384 (by decide +kernel) (by decide +kernel)⟩
theorem fl_RX8_17 : gFl RX8 17 8 2 0 false .int := ⟨RX8, TX8, 9, tyX8, gC_8, rfl, rfl, rfl, gws_of 385 (by decide +kernel) (by decide +kernel)⟩
theorem fl_RX8_23 : gFl RX8 23 8 3 2 true (.object RX5) := ⟨RX8, TX8, 9, tyX8, gC_8, rfl, rfl, rfl, gws_of 386 (by decide +kernel) (by decide +kernel)⟩
theorem fl_RX8_30 : gFl RX8 30 8 4 2 true (.object RX0) := ⟨RX8, TX8, 9, tyX8, gC_8, rfl, rfl, rfl, gws_of 387 (by decide +kernel) (by decide +kernel)⟩
theorem fl_RX8_37 : gFl RX8 37 8 5 2 true (.object RX1) := ⟨RX8, TX8, 9, tyX8, gC_8, rfl, rfl, rfl, gws_of 388 (by decide +kernel) (by decide +kernel)⟩
theorem fl_RX8_44 : gFl RX8 44 8 6 2 true (.object RX4) := ⟨RX8, TX8, 9, tyX8, gC_8, rfl, rfl, rfl, gws_of 389 (by decide +kernel) (by decide +kernel)⟩
theorem fl_RX8_51 : gFl RX8 51 8 7 2 true (.object RX2) := ⟨RX8, TX8, 9, tyX8, gC_8, rfl, rfl, rfl, gws_of 390 (by decide +kernel) (by decide +kernel)⟩
theorem fl_RX8_55 : gFl RX8 55 8 8 2 true (.array .int) := ⟨RX8, TX8, 9, tyX8, gC_8, rfl, rfl, rfl, gws_of 391 (by decide +kernel) (by decide +kernel)⟩
theorem fn_RX8_74 : gFn RX8 74 5 10 0 false .int := ⟨RX5, TX5, 11, tyX5, "LinkElection", gC_5, rfl, rfl, rfl, gnw_of 282 (by decide +kernel) (by decide +kernel)⟩
theorem fn_RX8_75 : gFn RX8 75 5 9 0 false .int := ⟨RX5, TX5, 11, tyX5, "LinkElection", gC_5, rfl, rfl, rfl, gnw_of 280 (by decide +kernel) (by decide +kernel)⟩
theorem fn_RX8_81 : gFn RX8 81 5 1 2 true (.object RX0) := ⟨RX5, TX5, 11, tyX5, "LinkElection", gC_5, rfl, rfl, rfl, gnw_of 271 (by decide +kernel) (by decide +kernel)⟩
theorem fn_RX8_91 : gFn RX8 91 0 1 0 false .int := ⟨RX0, TX0, 5, tyX0, "LinkElection", gC_0, rfl, rfl, rfl, gnw_of 246 (by decide +kernel) (by decide +kernel)⟩
theorem fn_RX8_94 : gFn RX8 94 0 2 0 false .int := ⟨RX0, TX0, 5, tyX0, "LinkElection", gC_0, rfl, rfl, rfl, gnw_of 251 (by decide +kernel) (by decide +kernel)⟩
theorem fn_RX8_97 : gFn RX8 97 0 3 0 false .int := ⟨RX0, TX0, 5, tyX0, "LinkElection", gC_0, rfl, rfl, rfl, gnw_of 253 (by decide +kernel) (by decide +kernel)⟩
theorem fn_RX8_103 : gFn RX8 103 0 0 2 true (.array (.object RX3)) := ⟨RX0, TX0, 5, tyX0, "LinkElection", gC_0, rfl, rfl, rfl, gnw_of 243 (by decide +kernel) (by decide +kernel)⟩
theorem fn_RX8_107 : gFn RX8 107 3 0 0 false .int := ⟨RX3, TX3, 6, tyX3, "LinkElection", gC_3, rfl, rfl, rfl, gnw_of 208 (by decide +kernel) (by decide +kernel)⟩
theorem fn_RX8_112 : gFn RX8 112 3 1 0 false .boolean := ⟨RX3, TX3, 6, tyX3, "LinkElection", gC_3, rfl, rfl, rfl, gnw_of 211 (by decide +kernel) (by decide +kernel)⟩
theorem fn_RX8_116 : gFn RX8 116 3 2 0 false .int := ⟨RX3, TX3, 6, tyX3, "LinkElection", gC_3, rfl, rfl, rfl, gnw_of 216 (by decide +kernel) (by decide +kernel)⟩
theorem fn_RX8_123 : gFn RX8 123 3 5 0 false .int := ⟨RX3, TX3, 6, tyX3, "LinkElection", gC_3, rfl, rfl, rfl, gnw_of 225 (by decide +kernel) (by decide +kernel)⟩
theorem fn_RX8_126 : gFn RX8 126 1 0 2 true (.array .int) := ⟨RX1, TX1, 7, tyX1, "LinkElection", gC_1, rfl, rfl, rfl, gnw_of 316 (by decide +kernel) (by decide +kernel)⟩
theorem fn_RX8_134 : gFn RX8 134 3 3 2 true (.array .int) := ⟨RX3, TX3, 6, tyX3, "LinkElection", gC_3, rfl, rfl, rfl, gnw_of 220 (by decide +kernel) (by decide +kernel)⟩
theorem fn_RX8_137 : gFn RX8 137 1 1 2 true (.array .int) := ⟨RX1, TX1, 7, tyX1, "LinkElection", gC_1, rfl, rfl, rfl, gnw_of 318 (by decide +kernel) (by decide +kernel)⟩
theorem fn_RX8_140 : gFn RX8 140 1 4 2 true (.array .int) := ⟨RX1, TX1, 7, tyX1, "LinkElection", gC_1, rfl, rfl, rfl, gnw_of 324 (by decide +kernel) (by decide +kernel)⟩
theorem fn_RX8_147 : gFn RX8 147 1 5 2 true (.array .int) := ⟨RX1, TX1, 7, tyX1, "LinkElection", gC_1, rfl, rfl, rfl, gnw_of 326 (by decide +kernel) (by decide +kernel)⟩
theorem fn_RX8_150 : gFn RX8 150 1 2 2 true (.array .int) := ⟨RX1, TX1, 7, tyX1, "LinkElection", gC_1, rfl, rfl, rfl, gnw_of 320 (by decide +kernel) (by decide +kernel)⟩
theorem fn_RX8_153 : gFn RX8 153 1 3 2 true (.array .int) := ⟨RX1, TX1, 7, tyX1, "LinkElection", gC_1, rfl, rfl, rfl, gnw_of 322 (by decide +kernel) (by decide +kernel)⟩
theorem fn_RX8_156 : gFn RX8 156 1 6 2 true (.array .int) := ⟨RX1, TX1, 7, tyX1, "LinkElection", gC_1, rfl, rfl, rfl, gnw_of 329 (by decide +kernel) (by decide +kernel)⟩
theorem fn_RX8_167 : gFn RX8 167 4 1 0 false .int := ⟨RX4, TX4, 3, tyX4, "LinkElection", gC_4, rfl, rfl, rfl, gnw_of 353 (by decide +kernel) (by decide +kernel)⟩
theorem fn_RX8_170 : gFn RX8 170 4 2 0 false .int := ⟨RX4, TX4, 3, tyX4, "LinkElection", gC_4, rfl, rfl, rfl, gnw_of 355 (by decide +kernel) (by decide +kernel)⟩
theorem fn_RX8_213 : gFn RX8 213 2 2 0 false .int := ⟨RX2, TX2, 3, tyX2, "LinkElection", gC_2, rfl, rfl, rfl, gnw_of 375 (by decide +kernel) (by decide +kernel)⟩
theorem fl_RX0_11 : gFl RX0 11 0 0 2 true (.array (.object RX3)) := ⟨RX0, TX0, 5, tyX0, gC_0, rfl, rfl, rfl, gws_of 239 (by decide +kernel) (by decide +kernel)⟩
theorem fl_RX0_17 : gFl RX0 17 0 1 0 false .int := ⟨RX0, TX0, 5, tyX0, gC_0, rfl, rfl, rfl, gws_of 244 (by decide +kernel) (by decide +kernel)⟩
theorem fl_RX0_21 : gFl RX0 21 0 2 0 false .int := ⟨RX0, TX0, 5, tyX0, gC_0, rfl, rfl, rfl, gws_of 248 (by decide +kernel) (by decide +kernel)⟩
theorem fl_RX0_24 : gFl RX0 24 0 3 0 false .int := ⟨RX0, TX0, 5, tyX0, gC_0, rfl, rfl, rfl, gws_of 252 (by decide +kernel) (by decide +kernel)⟩
theorem fl_RX0_32 : gFl RX0 32 0 4 2 false (.object RX7) := ⟨RX0, TX0, 5, tyX0, gC_0, rfl, rfl, rfl, gws_of 256 (by decide +kernel) (by decide +kernel)⟩
theorem fn_RX0_49 : gFn RX0 49 3 2 0 false .int := ⟨RX3, TX3, 6, tyX3, "LinkElection", gC_3, rfl, rfl, rfl, gnw_of 214 (by decide +kernel) (by decide +kernel)⟩
theorem fn_RX0_55 : gFn RX0 55 3 0 0 false .int := ⟨RX3, TX3, 6, tyX3, "LinkElection", gC_3, rfl, rfl, rfl, gnw_of 207 (by decide +kernel) (by decide +kernel)⟩
theorem fl_RX1_9 : gFl RX1 9 1 0 2 true (.array .int) := ⟨RX1, TX1, 7, tyX1, gC_1, rfl, rfl, rfl, gws_of 315 (by decide +kernel) (by decide +kernel)⟩
theorem fl_RX1_15 : gFl RX1 15 1 1 2 true (.array .int) := ⟨RX1, TX1, 7, tyX1, gC_1, rfl, rfl, rfl, gws_of 317 (by decide +kernel) (by decide +kernel)⟩
theorem fl_RX1_18 : gFl RX1 18 1 2 2 true (.array .int) := ⟨RX1, TX1, 7, tyX1, gC_1, rfl, rfl, rfl, gws_of 319 (by decide +kernel) (by decide +kernel)⟩
theorem fl_RX1_21 : gFl RX1 21 1 3 2 true (.array .int) := ⟨RX1, TX1, 7, tyX1, gC_1, rfl, rfl, rfl, gws_of 321 (by decide +kernel) (by decide +kernel)⟩
theorem fl_RX1_24 : gFl RX1 24 1 4 2 true (.array .int) := ⟨RX1, TX1, 7, tyX1, gC_1, rfl, rfl, rfl, gws_of 323 (by decide +kernel) (by decide +kernel)⟩
theorem fl_RX1_27 : gFl RX1 27 1 5 2 true (.array .int) := ⟨RX1, TX1, 7, tyX1, gC_1, rfl, rfl, rfl, gws_of 325 (by decide +kernel) (by decide +kernel)⟩
theorem fl_RX1_30 : gFl RX1 30 1 6 2 true (.array .int) := ⟨RX1, TX1, 7, tyX1, gC_1, rfl, rfl, rfl, gws_of 327 (by decide +kernel) (by decide +kernel)⟩
theorem fn_RX1_33 : gFn RX1 33 0 1 0 false .int := ⟨RX0, TX0, 5, tyX0, "LinkElection", gC_0, rfl, rfl, rfl, gnw_of 245 (by decide +kernel) (by decide +kernel)⟩
theorem fn_RX1_39 : gFn RX1 39 0 0 2 true (.array (.object RX3)) := ⟨RX0, TX0, 5, tyX0, "LinkElection", gC_0, rfl, rfl, rfl, gnw_of 240 (by decide +kernel) (by decide +kernel)⟩
theorem fn_RX1_53 : gFn RX1 53 0 2 0 false .int := ⟨RX0, TX0, 5, tyX0, "LinkElection", gC_0, rfl, rfl, rfl, gnw_of 249 (by decide +kernel) (by decide +kernel)⟩
theorem fn_RX1_88 : gFn RX1 88 3 5 0 false .int := ⟨RX3, TX3, 6, tyX3, "LinkElection", gC_3, rfl, rfl, rfl, gnw_of 224 (by decide +kernel) (by decide +kernel)⟩
theorem fn_RX1_91 : gFn RX1 91 3 4 2 true (.array .int) := ⟨RX3, TX3, 6, tyX3, "LinkElection", gC_3, rfl, rfl, rfl, gnw_of 222 (by decide +kernel) (by decide +kernel)⟩
theorem fn_RX1_98 : gFn RX1 98 3 2 0 false .int := ⟨RX3, TX3, 6, tyX3, "LinkElection", gC_3, rfl, rfl, rfl, gnw_of 215 (by decide +kernel) (by decide +kernel)⟩
theorem fn_RX1_106 : gFn RX1 106 3 1 0 false .boolean := ⟨RX3, TX3, 6, tyX3, "LinkElection", gC_3, rfl, rfl, rfl, gnw_of 212 (by decide +kernel) (by decide +kernel)⟩
theorem fn_RX1_110 : gFn RX1 110 0 3 0 false .int := ⟨RX0, TX0, 5, tyX0, "LinkElection", gC_0, rfl, rfl, rfl, gnw_of 255 (by decide +kernel) (by decide +kernel)⟩
theorem fl_RX2_11 : gFl RX2 11 2 0 2 true (.array (.object RX0)) := ⟨RX2, TX2, 3, tyX2, gC_2, rfl, rfl, rfl, gws_of 372 (by decide +kernel) (by decide +kernel)⟩
theorem fl_RX2_17 : gFl RX2 17 2 1 0 false .int := ⟨RX2, TX2, 3, tyX2, gC_2, rfl, rfl, rfl, gws_of 373 (by decide +kernel) (by decide +kernel)⟩
theorem fl_RX2_21 : gFl RX2 21 2 2 0 false .int := ⟨RX2, TX2, 3, tyX2, gC_2, rfl, rfl, rfl, gws_of 374 (by decide +kernel) (by decide +kernel)⟩
theorem fl_RX3_9 : gFl RX3 9 3 0 0 false .int := ⟨RX3, TX3, 6, tyX3, gC_3, rfl, rfl, rfl, gws_of 206 (by decide +kernel) (by decide +kernel)⟩
theorem fl_RX3_15 : gFl RX3 15 3 1 0 false .boolean := ⟨RX3, TX3, 6, tyX3, gC_3, rfl, rfl, rfl, gws_of 209 (by decide +kernel) (by decide +kernel)⟩
theorem fl_RX3_19 : gFl RX3 19 3 2 0 false .int := ⟨RX3, TX3, 6, tyX3, gC_3, rfl, rfl, rfl, gws_of 213 (by decide +kernel) (by decide +kernel)⟩
theorem fl_RX3_22 : gFl RX3 22 3 3 2 true (.array .int) := ⟨RX3, TX3, 6, tyX3, gC_3, rfl, rfl, rfl, gws_of 217 (by decide +kernel) (by decide +kernel)⟩
theorem fl_RX3_26 : gFl RX3 26 3 4 2 true (.array .int) := ⟨RX3, TX3, 6, tyX3, gC_3, rfl, rfl, rfl, gws_of 221 (by decide +kernel) (by decide +kernel)⟩
theorem fl_RX3_29 : gFl RX3 29 3 5 0 false .int := ⟨RX3, TX3, 6, tyX3, gC_3, rfl, rfl, rfl, gws_of 223 (by decide +kernel) (by decide +kernel)⟩
theorem fl_RX4_9 : gFl RX4 9 4 0 2 true (.array .int) := ⟨RX4, TX4, 3, tyX4, gC_4, rfl, rfl, rfl, gws_of 351 (by decide +kernel) (by decide +kernel)⟩
theorem fl_RX4_15 : gFl RX4 15 4 1 0 false .int := ⟨RX4, TX4, 3, tyX4, gC_4, rfl, rfl, rfl, gws_of 352 (by decide +kernel) (by decide +kernel)⟩
theorem fl_RX4_19 : gFl RX4 19 4 2 0 false .int := ⟨RX4, TX4, 3, tyX4, gC_4, rfl, rfl, rfl, gws_of 354 (by decide +kernel) (by decide +kernel)⟩
theorem fn_RX4_32 : gFn RX4 32 1 6 2 true (.array .int) := ⟨RX1, TX1, 7, tyX1, "LinkElection", gC_1, rfl, rfl, rfl, gnw_of 328 (by decide +kernel) (by decide +kernel)⟩
theorem fn_RX4_37 : gFn RX4 37 0 0 2 true (.array (.object RX3)) := ⟨RX0, TX0, 5, tyX0, "LinkElection", gC_0, rfl, rfl, rfl, gnw_of 241 (by decide +kernel) (by decide +kernel)⟩
theorem fn_RX4_43 : gFn RX4 43 3 3 2 true (.array .int) := ⟨RX3, TX3, 6, tyX3, "LinkElection", gC_3, rfl, rfl, rfl, gnw_of 218 (by decide +kernel) (by decide +kernel)⟩
theorem fl_RX5_12 : gFl RX5 12 5 0 2 true (.object RX6) := ⟨RX5, TX5, 11, tyX5, gC_5, rfl, rfl, rfl, gws_of 269 (by decide +kernel) (by decide +kernel)⟩
theorem fl_RX5_21 : gFl RX5 21 5 1 2 true (.object RX0) := ⟨RX5, TX5, 11, tyX5, gC_5, rfl, rfl, rfl, gws_of 270 (by decide +kernel) (by decide +kernel)⟩
theorem fl_RX5_25 : gFl RX5 25 5 2 2 true (.array .long) := ⟨RX5, TX5, 11, tyX5, gC_5, rfl, rfl, rfl, gws_of 272 (by decide +kernel) (by decide +kernel)⟩
theorem fl_RX5_29 : gFl RX5 29 5 3 2 true (.array .long) := ⟨RX5, TX5, 11, tyX5, gC_5, rfl, rfl, rfl, gws_of 273 (by decide +kernel) (by decide +kernel)⟩
theorem fl_RX5_32 : gFl RX5 32 5 4 2 true (.array .int) := ⟨RX5, TX5, 11, tyX5, gC_5, rfl, rfl, rfl, gws_of 274 (by decide +kernel) (by decide +kernel)⟩
theorem fl_RX5_36 : gFl RX5 36 5 5 0 false .int := ⟨RX5, TX5, 11, tyX5, gC_5, rfl, rfl, rfl, gws_of 275 (by decide +kernel) (by decide +kernel)⟩
theorem fl_RX5_40 : gFl RX5 40 5 6 0 false .boolean := ⟨RX5, TX5, 11, tyX5, gC_5, rfl, rfl, rfl, gws_of 276 (by decide +kernel) (by decide +kernel)⟩
theorem fl_RX5_44 : gFl RX5 44 5 7 0 false .boolean := ⟨RX5, TX5, 11, tyX5, gC_5, rfl, rfl, rfl, gws_of 277 (by decide +kernel) (by decide +kernel)⟩
theorem fl_RX5_47 : gFl RX5 47 5 8 0 false .int := ⟨RX5, TX5, 11, tyX5, gC_5, rfl, rfl, rfl, gws_of 278 (by decide +kernel) (by decide +kernel)⟩
theorem fl_RX5_50 : gFl RX5 50 5 9 0 false .int := ⟨RX5, TX5, 11, tyX5, gC_5, rfl, rfl, rfl, gws_of 279 (by decide +kernel) (by decide +kernel)⟩
theorem fl_RX5_53 : gFl RX5 53 5 10 0 false .int := ⟨RX5, TX5, 11, tyX5, gC_5, rfl, rfl, rfl, gws_of 281 (by decide +kernel) (by decide +kernel)⟩
theorem fn_RX5_79 : gFn RX5 79 6 3 0 false .int := ⟨RX6, TX6, 8, tyX6, "LinkElection", gC_6, rfl, rfl, rfl, gnw_of 153 (by decide +kernel) (by decide +kernel)⟩
theorem fn_RX5_95 : gFn RX5 95 0 4 2 false (.object RX7) := ⟨RX0, TX0, 5, tyX0, "LinkElection", gC_0, rfl, rfl, rfl, gnw_of 257 (by decide +kernel) (by decide +kernel)⟩
theorem fn_RX5_134 : gFn RX5 134 0 2 0 false .int := ⟨RX0, TX0, 5, tyX0, "LinkElection", gC_0, rfl, rfl, rfl, gnw_of 250 (by decide +kernel) (by decide +kernel)⟩
theorem fn_RX5_148 : gFn RX5 148 0 1 0 false .int := ⟨RX0, TX0, 5, tyX0, "LinkElection", gC_0, rfl, rfl, rfl, gnw_of 247 (by decide +kernel) (by decide +kernel)⟩
theorem fn_RX5_154 : gFn RX5 154 0 0 2 true (.array (.object RX3)) := ⟨RX0, TX0, 5, tyX0, "LinkElection", gC_0, rfl, rfl, rfl, gnw_of 242 (by decide +kernel) (by decide +kernel)⟩
theorem fn_RX5_166 : gFn RX5 166 3 1 0 false .boolean := ⟨RX3, TX3, 6, tyX3, "LinkElection", gC_3, rfl, rfl, rfl, gnw_of 210 (by decide +kernel) (by decide +kernel)⟩
theorem fn_RX5_177 : gFn RX5 177 3 3 2 true (.array .int) := ⟨RX3, TX3, 6, tyX3, "LinkElection", gC_3, rfl, rfl, rfl, gnw_of 219 (by decide +kernel) (by decide +kernel)⟩
theorem fn_RX5_188 : gFn RX5 188 0 3 0 false .int := ⟨RX0, TX0, 5, tyX0, "LinkElection", gC_0, rfl, rfl, rfl, gnw_of 254 (by decide +kernel) (by decide +kernel)⟩
theorem fn_RX5_213 : gFn RX5 213 6 6 0 false .int := ⟨RX6, TX6, 8, tyX6, "LinkElection", gC_6, rfl, rfl, rfl, gnw_of 159 (by decide +kernel) (by decide +kernel)⟩
theorem fn_RX5_220 : gFn RX5 220 6 5 1 false .long := ⟨RX6, TX6, 8, tyX6, "LinkElection", gC_6, rfl, rfl, rfl, gnw_of 157 (by decide +kernel) (by decide +kernel)⟩
theorem fn_RX5_227 : gFn RX5 227 6 4 0 false .int := ⟨RX6, TX6, 8, tyX6, "LinkElection", gC_6, rfl, rfl, rfl, gnw_of 155 (by decide +kernel) (by decide +kernel)⟩
theorem fl_RX6_9 : gFl RX6 9 6 0 2 true (.array .byte) := ⟨RX6, TX6, 8, tyX6, gC_6, rfl, rfl, rfl, gws_of 149 (by decide +kernel) (by decide +kernel)⟩
theorem fl_RX6_15 : gFl RX6 15 6 1 0 false .int := ⟨RX6, TX6, 8, tyX6, gC_6, rfl, rfl, rfl, gws_of 150 (by decide +kernel) (by decide +kernel)⟩
theorem fl_RX6_19 : gFl RX6 19 6 2 0 false .int := ⟨RX6, TX6, 8, tyX6, gC_6, rfl, rfl, rfl, gws_of 151 (by decide +kernel) (by decide +kernel)⟩
theorem fl_RX6_22 : gFl RX6 22 6 3 0 false .int := ⟨RX6, TX6, 8, tyX6, gC_6, rfl, rfl, rfl, gws_of 152 (by decide +kernel) (by decide +kernel)⟩
theorem fl_RX6_25 : gFl RX6 25 6 4 0 false .int := ⟨RX6, TX6, 8, tyX6, gC_6, rfl, rfl, rfl, gws_of 154 (by decide +kernel) (by decide +kernel)⟩
theorem fl_RX6_28 : gFl RX6 28 6 5 1 false .long := ⟨RX6, TX6, 8, tyX6, gC_6, rfl, rfl, rfl, gws_of 156 (by decide +kernel) (by decide +kernel)⟩
theorem fl_RX6_32 : gFl RX6 32 6 6 0 false .int := ⟨RX6, TX6, 8, tyX6, gC_6, rfl, rfl, rfl, gws_of 158 (by decide +kernel) (by decide +kernel)⟩
theorem fl_RX6_35 : gFl RX6 35 6 7 0 false .int := ⟨RX6, TX6, 8, tyX6, gC_6, rfl, rfl, rfl, gws_of 160 (by decide +kernel) (by decide +kernel)⟩
theorem fl_RX7_9 : gFl RX7 9 7 1 2 true (.array .int) := ⟨RX7, TX7, 2, tyX7, gC_7, rfl, rfl, rfl, gws_of 194 (by decide +kernel) (by decide +kernel)⟩
theorem fl_RX7_13 : gFl RX7 13 7 0 2 true (.array .int) := ⟨RX7, TX7, 2, tyX7, gC_7, rfl, rfl, rfl, gws_of 193 (by decide +kernel) (by decide +kernel)⟩
theorem fl_RX9_9 : gFl RX9 9 9 1 2 true (.array .int) := ⟨RX9, TX9, 27, tyX9, gC_9, rfl, rfl, rfl, gws_of 1095 (by decide +kernel) (by decide +kernel)⟩
theorem fl_RX9_13 : gFl RX9 13 9 7 0 false .int := ⟨RX9, TX9, 27, tyX9, gC_9, rfl, rfl, rfl, gws_of 1101 (by decide +kernel) (by decide +kernel)⟩
theorem fl_RX9_17 : gFl RX9 17 9 8 2 true (.array .int) := ⟨RX9, TX9, 27, tyX9, gC_9, rfl, rfl, rfl, gws_of 1102 (by decide +kernel) (by decide +kernel)⟩
theorem fl_RX9_20 : gFl RX9 20 9 9 2 true (.array .int) := ⟨RX9, TX9, 27, tyX9, gC_9, rfl, rfl, rfl, gws_of 1103 (by decide +kernel) (by decide +kernel)⟩
theorem fl_RX9_25 : gFl RX9 25 9 10 2 true (.array (.array .int)) := ⟨RX9, TX9, 27, tyX9, gC_9, rfl, rfl, rfl, gws_of 1104 (by decide +kernel) (by decide +kernel)⟩
theorem fl_RX9_28 : gFl RX9 28 9 15 2 true (.array .long) := ⟨RX9, TX9, 27, tyX9, gC_9, rfl, rfl, rfl, gws_of 1109 (by decide +kernel) (by decide +kernel)⟩
theorem fl_RX9_32 : gFl RX9 32 9 16 2 true (.array .long) := ⟨RX9, TX9, 27, tyX9, gC_9, rfl, rfl, rfl, gws_of 1110 (by decide +kernel) (by decide +kernel)⟩
theorem fl_RX9_35 : gFl RX9 35 9 18 2 true (.array .long) := ⟨RX9, TX9, 27, tyX9, gC_9, rfl, rfl, rfl, gws_of 1112 (by decide +kernel) (by decide +kernel)⟩
theorem fl_RX9_38 : gFl RX9 38 9 19 2 true (.array .int) := ⟨RX9, TX9, 27, tyX9, gC_9, rfl, rfl, rfl, gws_of 1113 (by decide +kernel) (by decide +kernel)⟩
theorem fl_RX9_41 : gFl RX9 41 9 20 2 true (.array .int) := ⟨RX9, TX9, 27, tyX9, gC_9, rfl, rfl, rfl, gws_of 1114 (by decide +kernel) (by decide +kernel)⟩
theorem fl_RX9_44 : gFl RX9 44 9 21 2 true (.array .int) := ⟨RX9, TX9, 27, tyX9, gC_9, rfl, rfl, rfl, gws_of 1115 (by decide +kernel) (by decide +kernel)⟩
theorem fl_RX9_47 : gFl RX9 47 9 22 2 true (.array (.array .int)) := ⟨RX9, TX9, 27, tyX9, gC_9, rfl, rfl, rfl, gws_of 1116 (by decide +kernel) (by decide +kernel)⟩
theorem fl_RX9_50 : gFl RX9 50 9 23 2 true (.array (.array .int)) := ⟨RX9, TX9, 27, tyX9, gC_9, rfl, rfl, rfl, gws_of 1117 (by decide +kernel) (by decide +kernel)⟩
theorem fl_RX9_53 : gFl RX9 53 9 24 2 true (.array (.array .int)) := ⟨RX9, TX9, 27, tyX9, gC_9, rfl, rfl, rfl, gws_of 1118 (by decide +kernel) (by decide +kernel)⟩
theorem fl_RX9_56 : gFl RX9 56 9 25 2 true (.array .int) := ⟨RX9, TX9, 27, tyX9, gC_9, rfl, rfl, rfl, gws_of 1119 (by decide +kernel) (by decide +kernel)⟩
theorem fl_RX9_59 : gFl RX9 59 9 0 0 false .int := ⟨RX9, TX9, 27, tyX9, gC_9, rfl, rfl, rfl, gws_of 1094 (by decide +kernel) (by decide +kernel)⟩
theorem fl_RX9_62 : gFl RX9 62 9 2 0 false .int := ⟨RX9, TX9, 27, tyX9, gC_9, rfl, rfl, rfl, gws_of 1096 (by decide +kernel) (by decide +kernel)⟩
theorem fl_RX9_65 : gFl RX9 65 9 3 0 false .int := ⟨RX9, TX9, 27, tyX9, gC_9, rfl, rfl, rfl, gws_of 1097 (by decide +kernel) (by decide +kernel)⟩
theorem fl_RX9_68 : gFl RX9 68 9 4 0 false .int := ⟨RX9, TX9, 27, tyX9, gC_9, rfl, rfl, rfl, gws_of 1098 (by decide +kernel) (by decide +kernel)⟩
theorem fl_RX9_75 : gFl RX9 75 9 5 0 false .int := ⟨RX9, TX9, 27, tyX9, gC_9, rfl, rfl, rfl, gws_of 1099 (by decide +kernel) (by decide +kernel)⟩
theorem fl_RX9_78 : gFl RX9 78 9 6 0 false .int := ⟨RX9, TX9, 27, tyX9, gC_9, rfl, rfl, rfl, gws_of 1100 (by decide +kernel) (by decide +kernel)⟩
theorem fl_RX9_110 : gFl RX9 110 9 12 0 false .int := ⟨RX9, TX9, 27, tyX9, gC_9, rfl, rfl, rfl, gws_of 1106 (by decide +kernel) (by decide +kernel)⟩
theorem fl_RX9_118 : gFl RX9 118 9 13 0 false .int := ⟨RX9, TX9, 27, tyX9, gC_9, rfl, rfl, rfl, gws_of 1107 (by decide +kernel) (by decide +kernel)⟩
theorem fl_RX9_152 : gFl RX9 152 9 14 0 false .int := ⟨RX9, TX9, 27, tyX9, gC_9, rfl, rfl, rfl, gws_of 1108 (by decide +kernel) (by decide +kernel)⟩
theorem fl_RX9_155 : gFl RX9 155 9 17 0 false .int := ⟨RX9, TX9, 27, tyX9, gC_9, rfl, rfl, rfl, gws_of 1111 (by decide +kernel) (by decide +kernel)⟩
theorem fl_RX9_274 : gFl RX9 274 9 26 0 false .int := ⟨RX9, TX9, 27, tyX9, gC_9, rfl, rfl, rfl, gws_of 1120 (by decide +kernel) (by decide +kernel)⟩
theorem fl_RX9_292 : gFl RX9 292 9 11 0 false .int := ⟨RX9, TX9, 27, tyX9, gC_9, rfl, rfl, rfl, gws_of 1105 (by decide +kernel) (by decide +kernel)⟩
end
section
theorem my_J7_copyOf_59c91 : gMy yJ7_copyOf_59c91 cJ7_copyOf_59c91 3 (some (.array .int)) 2 := ⟨gws_of 892 (by decide +kernel) (by decide +kernel), gws_of 126 (by decide +kernel) (by decide +kernel), by decide +kernel, by decide +kernel, by decide⟩
theorem my_J7_fill_53178 : gMy yJ7_fill_53178 cJ7_fill_53178 4 none 2 := ⟨gws_of 669 (by decide +kernel) (by decide +kernel), gws_of 126 (by decide +kernel) (by decide +kernel), by decide +kernel, by decide +kernel, by decide⟩
theorem my_X0_clear : gMy yX0_clear cX0_clear 1 none 0 := ⟨gws_of 687 (by decide +kernel) (by decide +kernel), gws_of 109 (by decide +kernel) (by decide +kernel), by decide +kernel, by decide +kernel, by decide⟩
theorem my_X0_copyFrom : gMy yX0_copyFrom cX0_copyFrom 3 none 1 := ⟨gws_of 446 (by decide +kernel) (by decide +kernel), gws_of 109 (by decide +kernel) (by decide +kernel), by decide +kernel, by decide +kernel, by decide⟩
theorem my_X0_friendsOf : gMy yX0_friendsOf cX0_friendsOf 4 (some .int) 1 := ⟨gws_of 477 (by decide +kernel) (by decide +kernel), gws_of 109 (by decide +kernel) (by decide +kernel), by decide +kernel, by decide +kernel, by decide⟩
theorem my_X0_init : gMy yX0_init cX0_init 2 none 0 := ⟨gws_of 183 (by decide +kernel) (by decide +kernel), gws_of 109 (by decide +kernel) (by decide +kernel), by decide +kernel, by decide +kernel, by decide⟩
theorem my_X0_isCandidate : gMy yX0_isCandidate cX0_isCandidate 3 (some .boolean) 2 := ⟨gws_of 511 (by decide +kernel) (by decide +kernel), gws_of 109 (by decide +kernel) (by decide +kernel), by decide +kernel, by decide +kernel, by decide⟩
theorem my_X0_takeIn : gMy yX0_takeIn cX0_takeIn 4 none 1 := ⟨gws_of 1034 (by decide +kernel) (by decide +kernel), gws_of 109 (by decide +kernel) (by decide +kernel), by decide +kernel, by decide +kernel, by decide⟩
theorem my_X0_takeOut : gMy yX0_takeOut cX0_takeOut 4 none 1 := ⟨gws_of 1014 (by decide +kernel) (by decide +kernel), gws_of 109 (by decide +kernel) (by decide +kernel), by decide +kernel, by decide +kernel, by decide⟩
theorem my_X0_weightOf : gMy yX0_weightOf cX0_weightOf 3 (some .int) 1 := ⟨gws_of 465 (by decide +kernel) (by decide +kernel), gws_of 109 (by decide +kernel) (by decide +kernel), by decide +kernel, by decide +kernel, by decide⟩
theorem my_X1_choiceOf : gMy yX1_choiceOf cX1_choiceOf 5 (some .int) 3 := ⟨gws_of 522 (by decide +kernel) (by decide +kernel), gws_of 112 (by decide +kernel) (by decide +kernel), by decide +kernel, by decide +kernel, by decide⟩
theorem my_X1_count : gMy yX1_count cX1_count 3 none 1 := ⟨gws_of 457 (by decide +kernel) (by decide +kernel), gws_of 112 (by decide +kernel) (by decide +kernel), by decide +kernel, by decide +kernel, by decide⟩
theorem my_X1_countBindings : gMy yX1_countBindings cX1_countBindings 6 none 2 := ⟨gws_of 542 (by decide +kernel) (by decide +kernel), gws_of 112 (by decide +kernel) (by decide +kernel), by decide +kernel, by decide +kernel, by decide⟩
theorem my_X1_countCandidates : gMy yX1_countCandidates cX1_countCandidates 5 none 2 := ⟨gws_of 507 (by decide +kernel) (by decide +kernel), gws_of 112 (by decide +kernel) (by decide +kernel), by decide +kernel, by decide +kernel, by decide⟩
theorem my_X1_countMargin : gMy yX1_countMargin cX1_countMargin 6 none 2 := ⟨gws_of 535 (by decide +kernel) (by decide +kernel), gws_of 112 (by decide +kernel) (by decide +kernel), by decide +kernel, by decide +kernel, by decide⟩
theorem my_X1_countVotes : gMy yX1_countVotes cX1_countVotes 5 none 2 := ⟨gws_of 519 (by decide +kernel) (by decide +kernel), gws_of 112 (by decide +kernel) (by decide +kernel), by decide +kernel, by decide +kernel, by decide⟩
theorem my_X1_countWinner : gMy yX1_countWinner cX1_countWinner 5 none 2 := ⟨gws_of 527 (by decide +kernel) (by decide +kernel), gws_of 112 (by decide +kernel) (by decide +kernel), by decide +kernel, by decide +kernel, by decide⟩
theorem my_X1_init : gMy yX1_init cX1_init 1 none 0 := ⟨gws_of 313 (by decide +kernel) (by decide +kernel), gws_of 112 (by decide +kernel) (by decide +kernel), by decide +kernel, by decide +kernel, by decide⟩
theorem my_X1_isAhead : gMy yX1_isAhead cX1_isAhead 7 (some .boolean) 4 := ⟨gws_of 531 (by decide +kernel) (by decide +kernel), gws_of 112 (by decide +kernel) (by decide +kernel), by decide +kernel, by decide +kernel, by decide⟩
theorem my_X1_isLargeEnough : gMy yX1_isLargeEnough cX1_isLargeEnough 5 (some .boolean) 4 := ⟨gws_of 546 (by decide +kernel) (by decide +kernel), gws_of 112 (by decide +kernel) (by decide +kernel), by decide +kernel, by decide +kernel, by decide⟩
theorem my_X2_bringBack : gMy yX2_bringBack cX2_bringBack 2 (some .boolean) 1 := ⟨gws_of 442 (by decide +kernel) (by decide +kernel), gws_of 114 (by decide +kernel) (by decide +kernel), by decide +kernel, by decide +kernel, by decide⟩
theorem my_X2_init : gMy yX2_init cX2_init 2 none 0 := ⟨gws_of 367 (by decide +kernel) (by decide +kernel), gws_of 114 (by decide +kernel) (by decide +kernel), by decide +kernel, by decide +kernel, by decide⟩
theorem my_X2_keep : gMy yX2_keep cX2_keep 2 none 1 := ⟨gws_of 910 (by decide +kernel) (by decide +kernel), gws_of 114 (by decide +kernel) (by decide +kernel), by decide +kernel, by decide +kernel, by decide⟩
theorem my_X3_addPreference : gMy yX3_addPreference cX3_addPreference 2 none 1 := ⟨gws_of 858 (by decide +kernel) (by decide +kernel), gws_of 111 (by decide +kernel) (by decide +kernel), by decide +kernel, by decide +kernel, by decide⟩
theorem my_X3_copyFrom : gMy yX3_copyFrom cX3_copyFrom 2 none 1 := ⟨gws_of 450 (by decide +kernel) (by decide +kernel), gws_of 111 (by decide +kernel) (by decide +kernel), by decide +kernel, by decide +kernel, by decide⟩
theorem my_X3_countOffers : gMy yX3_countOffers cX3_countOffers 3 (some .int) 0 := ⟨gws_of 469 (by decide +kernel) (by decide +kernel), gws_of 111 (by decide +kernel) (by decide +kernel), by decide +kernel, by decide +kernel, by decide⟩
theorem my_X3_hasOffer : gMy yX3_hasOffer cX3_hasOffer 2 (some .boolean) 1 := ⟨gws_of 473 (by decide +kernel) (by decide +kernel), gws_of 111 (by decide +kernel) (by decide +kernel), by decide +kernel, by decide +kernel, by decide⟩
theorem my_X3_init : gMy yX3_init cX3_init 1 none 0 := ⟨gws_of 204 (by decide +kernel) (by decide +kernel), gws_of 111 (by decide +kernel) (by decide +kernel), by decide +kernel, by decide +kernel, by decide⟩
theorem my_X3_isLoaded : gMy yX3_isLoaded cX3_isLoaded 1 (some .boolean) 0 := ⟨gws_of 461 (by decide +kernel) (by decide +kernel), gws_of 111 (by decide +kernel) (by decide +kernel), by decide +kernel, by decide +kernel, by decide⟩
theorem my_X3_prefers : gMy yX3_prefers cX3_prefers 3 (some .boolean) 1 := ⟨gws_of 482 (by decide +kernel) (by decide +kernel), gws_of 111 (by decide +kernel) (by decide +kernel), by decide +kernel, by decide +kernel, by decide⟩
theorem my_X3_startAs : gMy yX3_startAs cX3_startAs 3 none 2 := ⟨gws_of 827 (by decide +kernel) (by decide +kernel), gws_of 111 (by decide +kernel) (by decide +kernel), by decide +kernel, by decide +kernel, by decide⟩
theorem my_X4_follow : gMy yX4_follow cX4_follow 11 none 4 := ⟨gws_of 666 (by decide +kernel) (by decide +kernel), gws_of 113 (by decide +kernel) (by decide +kernel), by decide +kernel, by decide +kernel, by decide⟩
theorem my_X4_init : gMy yX4_init cX4_init 1 none 0 := ⟨gws_of 349 (by decide +kernel) (by decide +kernel), gws_of 113 (by decide +kernel) (by decide +kernel), by decide +kernel, by decide +kernel, by decide⟩
theorem my_X5_addCode : gMy yX5_addCode cX5_addCode 2 none 1 := ⟨gws_of 691 (by decide +kernel) (by decide +kernel), gws_of 107 (by decide +kernel) (by decide +kernel), by decide +kernel, by decide +kernel, by decide⟩
theorem my_X5_error : gMy yX5_error cX5_error 2 (some .boolean) 1 := ⟨gws_of 788 (by decide +kernel) (by decide +kernel), gws_of 107 (by decide +kernel) (by decide +kernel), by decide +kernel, by decide +kernel, by decide⟩
theorem my_X5_findLibrary : gMy yX5_findLibrary cX5_findLibrary 1 (some .boolean) 0 := ⟨gws_of 838 (by decide +kernel) (by decide +kernel), gws_of 107 (by decide +kernel) (by decide +kernel), by decide +kernel, by decide +kernel, by decide⟩
theorem my_X5_findName : gMy yX5_findName cX5_findName 1 (some .boolean) 0 := ⟨gws_of 846 (by decide +kernel) (by decide +kernel), gws_of 107 (by decide +kernel) (by decide +kernel), by decide +kernel, by decide +kernel, by decide⟩
theorem my_X5_findWord : gMy yX5_findWord cX5_findWord 4 (some .boolean) 2 := ⟨gws_of 842 (by decide +kernel) (by decide +kernel), gws_of 107 (by decide +kernel) (by decide +kernel), by decide +kernel, by decide +kernel, by decide⟩
theorem my_X5_indexOfWord : gMy yX5_indexOfWord cX5_indexOfWord 4 (some .int) 2 := ⟨gws_of 814 (by decide +kernel) (by decide +kernel), gws_of 107 (by decide +kernel) (by decide +kernel), by decide +kernel, by decide +kernel, by decide⟩
theorem my_X5_init : gMy yX5_init cX5_init 1 none 0 := ⟨gws_of 141 (by decide +kernel) (by decide +kernel), gws_of 107 (by decide +kernel) (by decide +kernel), by decide +kernel, by decide +kernel, by decide⟩
theorem my_X5_quantityCode : gMy yX5_quantityCode cX5_quantityCode 1 (some .int) 0 := ⟨gws_of 884 (by decide +kernel) (by decide +kernel), gws_of 107 (by decide +kernel) (by decide +kernel), by decide +kernel, by decide +kernel, by decide⟩
theorem my_X5_readFactor : gMy yX5_readFactor cX5_readFactor 3 (some .boolean) 1 := ⟨gws_of 880 (by decide +kernel) (by decide +kernel), gws_of 107 (by decide +kernel) (by decide +kernel), by decide +kernel, by decide +kernel, by decide⟩
theorem my_X5_readKeyword : gMy yX5_readKeyword cX5_readKeyword 2 (some .boolean) 1 := ⟨gws_of 725 (by decide +kernel) (by decide +kernel), gws_of 107 (by decide +kernel) (by decide +kernel), by decide +kernel, by decide +kernel, by decide⟩
theorem my_X5_readNewLibrary : gMy yX5_readNewLibrary cX5_readNewLibrary 2 (some .boolean) 0 := ⟨gws_of 819 (by decide +kernel) (by decide +kernel), gws_of 107 (by decide +kernel) (by decide +kernel), by decide +kernel, by decide +kernel, by decide⟩
theorem my_X5_readNewName : gMy yX5_readNewName cX5_readNewName 1 (some .boolean) 0 := ⟨gws_of 806 (by decide +kernel) (by decide +kernel), gws_of 107 (by decide +kernel) (by decide +kernel), by decide +kernel, by decide +kernel, by decide⟩
theorem my_X5_readNewWord : gMy yX5_readNewWord cX5_readNewWord 3 (some .boolean) 2 := ⟨gws_of 810 (by decide +kernel) (by decide +kernel), gws_of 107 (by decide +kernel) (by decide +kernel), by decide +kernel, by decide +kernel, by decide⟩
theorem my_X5_readNumber : gMy yX5_readNumber cX5_readNumber 2 (some .boolean) 1 := ⟨gws_of 823 (by decide +kernel) (by decide +kernel), gws_of 107 (by decide +kernel) (by decide +kernel), by decide +kernel, by decide +kernel, by decide⟩
theorem my_X5_readOffer : gMy yX5_readOffer cX5_readOffer 3 (some .boolean) 0 := ⟨gws_of 834 (by decide +kernel) (by decide +kernel), gws_of 107 (by decide +kernel) (by decide +kernel), by decide +kernel, by decide +kernel, by decide⟩
theorem my_X5_readPrefer : gMy yX5_readPrefer cX5_readPrefer 2 (some .boolean) 0 := ⟨gws_of 853 (by decide +kernel) (by decide +kernel), gws_of 107 (by decide +kernel) (by decide +kernel), by decide +kernel, by decide +kernel, by decide⟩
theorem my_X5_readShare : gMy yX5_readShare cX5_readShare 1 (some .boolean) 0 := ⟨gws_of 863 (by decide +kernel) (by decide +kernel), gws_of 107 (by decide +kernel) (by decide +kernel), by decide +kernel, by decide +kernel, by decide⟩
theorem my_X5_readSign : gMy yX5_readSign cX5_readSign 2 (some .boolean) 1 := ⟨gws_of 793 (by decide +kernel) (by decide +kernel), gws_of 107 (by decide +kernel) (by decide +kernel), by decide +kernel, by decide +kernel, by decide⟩
theorem my_X5_readStatement : gMy yX5_readStatement cX5_readStatement 1 (some .boolean) 0 := ⟨gws_of 801 (by decide +kernel) (by decide +kernel), gws_of 107 (by decide +kernel) (by decide +kernel), by decide +kernel, by decide +kernel, by decide⟩
theorem my_X5_readSum : gMy yX5_readSum cX5_readSum 4 (some .boolean) 1 := ⟨gws_of 872 (by decide +kernel) (by decide +kernel), gws_of 107 (by decide +kernel) (by decide +kernel), by decide +kernel, by decide +kernel, by decide⟩
theorem my_X5_readTerm : gMy yX5_readTerm cX5_readTerm 4 (some .boolean) 1 := ⟨gws_of 876 (by decide +kernel) (by decide +kernel), gws_of 107 (by decide +kernel) (by decide +kernel), by decide +kernel, by decide +kernel, by decide⟩
theorem my_X5_readText : gMy yX5_readText cX5_readText 4 (some .boolean) 2 := ⟨gws_of 683 (by decide +kernel) (by decide +kernel), gws_of 107 (by decide +kernel) (by decide +kernel), by decide +kernel, by decide +kernel, by decide⟩
theorem my_X5_readWeight : gMy yX5_readWeight cX5_readWeight 1 (some .boolean) 0 := ⟨gws_of 868 (by decide +kernel) (by decide +kernel), gws_of 107 (by decide +kernel) (by decide +kernel), by decide +kernel, by decide +kernel, by decide⟩
theorem my_X5_syntaxError : gMy yX5_syntaxError cX5_syntaxError 1 (some .boolean) 0 := ⟨gws_of 784 (by decide +kernel) (by decide +kernel), gws_of 107 (by decide +kernel) (by decide +kernel), by decide +kernel, by decide +kernel, by decide⟩
theorem my_X6_advance : gMy yX6_advance cX6_advance 1 none 0 := ⟨gws_of 703 (by decide +kernel) (by decide +kernel), gws_of 108 (by decide +kernel) (by decide +kernel), by decide +kernel, by decide +kernel, by decide⟩
theorem my_X6_init : gMy yX6_init cX6_init 1 none 0 := ⟨gws_of 147 (by decide +kernel) (by decide +kernel), gws_of 108 (by decide +kernel) (by decide +kernel), by decide +kernel, by decide +kernel, by decide⟩
theorem my_X6_isDigitAt : gMy yX6_isDigitAt cX6_isDigitAt 2 (some .boolean) 1 := ⟨gws_of 715 (by decide +kernel) (by decide +kernel), gws_of 108 (by decide +kernel) (by decide +kernel), by decide +kernel, by decide +kernel, by decide⟩
theorem my_X6_isLetterAt : gMy yX6_isLetterAt cX6_isLetterAt 2 (some .boolean) 1 := ⟨gws_of 707 (by decide +kernel) (by decide +kernel), gws_of 108 (by decide +kernel) (by decide +kernel), by decide +kernel, by decide +kernel, by decide⟩
theorem my_X6_isSign : gMy yX6_isSign cX6_isSign 2 (some .boolean) 1 := ⟨gws_of 797 (by decide +kernel) (by decide +kernel), gws_of 108 (by decide +kernel) (by decide +kernel), by decide +kernel, by decide +kernel, by decide⟩
theorem my_X6_isWord : gMy yX6_isWord cX6_isWord 2 (some .boolean) 1 := ⟨gws_of 729 (by decide +kernel) (by decide +kernel), gws_of 108 (by decide +kernel) (by decide +kernel), by decide +kernel, by decide +kernel, by decide⟩
theorem my_X6_packed : gMy yX6_packed cX6_packed 4 (some .long) 1 := ⟨gws_of 732 (by decide +kernel) (by decide +kernel), gws_of 108 (by decide +kernel) (by decide +kernel), by decide +kernel, by decide +kernel, by decide⟩
theorem my_X6_startText : gMy yX6_startText cX6_startText 3 none 2 := ⟨gws_of 695 (by decide +kernel) (by decide +kernel), gws_of 108 (by decide +kernel) (by decide +kernel), by decide +kernel, by decide +kernel, by decide⟩
theorem my_X6_takeNumber : gMy yX6_takeNumber cX6_takeNumber 1 none 0 := ⟨gws_of 719 (by decide +kernel) (by decide +kernel), gws_of 108 (by decide +kernel) (by decide +kernel), by decide +kernel, by decide +kernel, by decide⟩
theorem my_X6_takeWord : gMy yX6_takeWord cX6_takeWord 1 none 0 := ⟨gws_of 711 (by decide +kernel) (by decide +kernel), gws_of 108 (by decide +kernel) (by decide +kernel), by decide +kernel, by decide +kernel, by decide⟩
theorem my_X7_factorValue : gMy yX7_factorValue cX7_factorValue 5 (some .int) 5 := ⟨gws_of 503 (by decide +kernel) (by decide +kernel), gws_of 110 (by decide +kernel) (by decide +kernel), by decide +kernel, by decide +kernel, by decide⟩
theorem my_X7_init : gMy yX7_init cX7_init 2 none 1 := ⟨gws_of 191 (by decide +kernel) (by decide +kernel), gws_of 110 (by decide +kernel) (by decide +kernel), by decide +kernel, by decide +kernel, by decide⟩
theorem my_X7_limited : gMy yX7_limited cX7_limited 4 (some .int) 3 := ⟨gws_of 494 (by decide +kernel) (by decide +kernel), gws_of 110 (by decide +kernel) (by decide +kernel), by decide +kernel, by decide +kernel, by decide⟩
theorem my_X7_operate : gMy yX7_operate cX7_operate 7 (some .int) 3 := ⟨gws_of 489 (by decide +kernel) (by decide +kernel), gws_of 110 (by decide +kernel) (by decide +kernel), by decide +kernel, by decide +kernel, by decide⟩
theorem my_X7_valueOf : gMy yX7_valueOf cX7_valueOf 8 (some .int) 4 := ⟨gws_of 486 (by decide +kernel) (by decide +kernel), gws_of 110 (by decide +kernel) (by decide +kernel), by decide +kernel, by decide +kernel, by decide⟩
theorem my_X8_beginChange : gMy yX8_beginChange cX8_beginChange 1 none 0 := ⟨gws_of 906 (by decide +kernel) (by decide +kernel), gws_of 106 (by decide +kernel) (by decide +kernel), by decide +kernel, by decide +kernel, by decide⟩
theorem my_X8_binding : gMy yX8_binding cX8_binding 3 (some .int) 2 := ⟨gws_of 657 (by decide +kernel) (by decide +kernel), gws_of 106 (by decide +kernel) (by decide +kernel), by decide +kernel, by decide +kernel, by decide⟩
theorem my_X8_call : gMy yX8_call cX8_call 3 (some .int) 2 := ⟨gws_of 662 (by decide +kernel) (by decide +kernel), gws_of 106 (by decide +kernel) (by decide +kernel), by decide +kernel, by decide +kernel, by decide⟩
theorem my_X8_candidates : gMy yX8_candidates cX8_candidates 2 (some .int) 1 := ⟨gws_of 928 (by decide +kernel) (by decide +kernel), gws_of 106 (by decide +kernel) (by decide +kernel), by decide +kernel, by decide +kernel, by decide⟩
theorem my_X8_cellOf : gMy yX8_cellOf cX8_cellOf 2 (some .int) 2 := ⟨gws_of 515 (by decide +kernel) (by decide +kernel), gws_of 106 (by decide +kernel) (by decide +kernel), by decide +kernel, by decide +kernel, by decide⟩
theorem my_X8_changeOffer : gMy yX8_changeOffer cX8_changeOffer 4 (some .int) 3 := ⟨gws_of 1046 (by decide +kernel) (by decide +kernel), gws_of 106 (by decide +kernel) (by decide +kernel), by decide +kernel, by decide +kernel, by decide⟩
theorem my_X8_changedBindings : gMy yX8_changedBindings cX8_changedBindings 5 (some .int) 1 := ⟨gws_of 1022 (by decide +kernel) (by decide +kernel), gws_of 106 (by decide +kernel) (by decide +kernel), by decide +kernel, by decide +kernel, by decide⟩
theorem my_X8_changedBindingsOfAll : gMy yX8_changedBindingsOfAll cX8_changedBindingsOfAll 3 (some .int) 0 := ⟨gws_of 1018 (by decide +kernel) (by decide +kernel), gws_of 106 (by decide +kernel) (by decide +kernel), by decide +kernel, by decide +kernel, by decide⟩
theorem my_X8_library : gMy yX8_library cX8_library 4 (some .int) 2 := ⟨gws_of 556 (by decide +kernel) (by decide +kernel), gws_of 106 (by decide +kernel) (by decide +kernel), by decide +kernel, by decide +kernel, by decide⟩
theorem my_X8_load : gMy yX8_load cX8_load 2 (some .int) 1 := ⟨gws_of 678 (by decide +kernel) (by decide +kernel), gws_of 106 (by decide +kernel) (by decide +kernel), by decide +kernel, by decide +kernel, by decide⟩
theorem my_X8_margin : gMy yX8_margin cX8_margin 2 (some .int) 1 := ⟨gws_of 956 (by decide +kernel) (by decide +kernel), gws_of 106 (by decide +kernel) (by decide +kernel), by decide +kernel, by decide +kernel, by decide⟩
theorem my_X8_minority : gMy yX8_minority cX8_minority 5 (some .int) 1 := ⟨gws_of 967 (by decide +kernel) (by decide +kernel), gws_of 106 (by decide +kernel) (by decide +kernel), by decide +kernel, by decide +kernel, by decide⟩
theorem my_X8_offer : gMy yX8_offer cX8_offer 3 (some .int) 2 := ⟨gws_of 648 (by decide +kernel) (by decide +kernel), gws_of 106 (by decide +kernel) (by decide +kernel), by decide +kernel, by decide +kernel, by decide⟩
theorem my_X8_offerForward : gMy yX8_offerForward cX8_offerForward 4 (some .int) 3 := ⟨gws_of 1053 (by decide +kernel) (by decide +kernel), gws_of 106 (by decide +kernel) (by decide +kernel), by decide +kernel, by decide +kernel, by decide⟩
theorem my_X8_offerValue : gMy yX8_offerValue cX8_offerValue 4 (some .int) 3 := ⟨gws_of 1041 (by decide +kernel) (by decide +kernel), gws_of 106 (by decide +kernel) (by decide +kernel), by decide +kernel, by decide +kernel, by decide⟩
theorem my_X8_putBytes : gMy yX8_putBytes cX8_putBytes 3 none 1 := ⟨gws_of 418 (by decide +kernel) (by decide +kernel), gws_of 106 (by decide +kernel) (by decide +kernel), by decide +kernel, by decide +kernel, by decide⟩
theorem my_X8_reload : gMy yX8_reload cX8_reload 2 (some .int) 1 := ⟨gws_of 1029 (by decide +kernel) (by decide +kernel), gws_of 106 (by decide +kernel) (by decide +kernel), by decide +kernel, by decide +kernel, by decide⟩
theorem my_X8_requireLibrary : gMy yX8_requireLibrary cX8_requireLibrary 2 none 1 := ⟨gws_of 560 (by decide +kernel) (by decide +kernel), gws_of 106 (by decide +kernel) (by decide +kernel), by decide +kernel, by decide +kernel, by decide⟩
theorem my_X8_requireName : gMy yX8_requireName cX8_requireName 2 none 1 := ⟨gws_of 652 (by decide +kernel) (by decide +kernel), gws_of 106 (by decide +kernel) (by decide +kernel), by decide +kernel, by decide +kernel, by decide⟩
theorem my_X8_setKeeps : gMy yX8_setKeeps cX8_setKeeps 3 (some .int) 2 := ⟨gws_of 1077 (by decide +kernel) (by decide +kernel), gws_of 106 (by decide +kernel) (by decide +kernel), by decide +kernel, by decide +kernel, by decide⟩
theorem my_X8_setShare : gMy yX8_setShare cX8_setShare 2 (some .int) 1 := ⟨gws_of 1084 (by decide +kernel) (by decide +kernel), gws_of 106 (by decide +kernel) (by decide +kernel), by decide +kernel, by decide +kernel, by decide⟩
theorem my_X8_setTrust : gMy yX8_setTrust cX8_setTrust 4 (some .int) 2 := ⟨gws_of 1069 (by decide +kernel) (by decide +kernel), gws_of 106 (by decide +kernel) (by decide +kernel), by decide +kernel, by decide +kernel, by decide⟩
theorem my_X8_share : gMy yX8_share cX8_share 1 (some .int) 0 := ⟨gws_of 434 (by decide +kernel) (by decide +kernel), gws_of 106 (by decide +kernel) (by decide +kernel), by decide +kernel, by decide +kernel, by decide⟩
theorem my_X8_steps : gMy yX8_steps cX8_steps 3 (some .int) 2 := ⟨gws_of 979 (by decide +kernel) (by decide +kernel), gws_of 106 (by decide +kernel) (by decide +kernel), by decide +kernel, by decide +kernel, by decide⟩
theorem my_X8_support : gMy yX8_support cX8_support 3 (some .int) 2 := ⟨gws_of 942 (by decide +kernel) (by decide +kernel), gws_of 106 (by decide +kernel) (by decide +kernel), by decide +kernel, by decide +kernel, by decide⟩
theorem my_X8_unload : gMy yX8_unload cX8_unload 2 (some .int) 1 := ⟨gws_of 994 (by decide +kernel) (by decide +kernel), gws_of 106 (by decide +kernel) (by decide +kernel), by decide +kernel, by decide +kernel, by decide⟩
theorem my_X8_users : gMy yX8_users cX8_users 5 (some .int) 2 := ⟨gws_of 986 (by decide +kernel) (by decide +kernel), gws_of 106 (by decide +kernel) (by decide +kernel), by decide +kernel, by decide +kernel, by decide⟩
theorem my_X8_vote : gMy yX8_vote cX8_vote 3 (some .int) 2 := ⟨gws_of 935 (by decide +kernel) (by decide +kernel), gws_of 106 (by decide +kernel) (by decide +kernel), by decide +kernel, by decide +kernel, by decide⟩
theorem my_X8_winner : gMy yX8_winner cX8_winner 2 (some .int) 1 := ⟨gws_of 949 (by decide +kernel) (by decide +kernel), gws_of 106 (by decide +kernel) (by decide +kernel), by decide +kernel, by decide +kernel, by decide⟩
theorem my_X8_withdraw : gMy yX8_withdraw cX8_withdraw 3 (some .int) 2 := ⟨gws_of 1060 (by decide +kernel) (by decide +kernel), gws_of 106 (by decide +kernel) (by decide +kernel), by decide +kernel, by decide +kernel, by decide⟩
theorem my_X9_at : gMy yX9_at cX9_at 1 (some .int) 1 := ⟨gws_of 1251 (by decide +kernel) (by decide +kernel), gws_of 115 (by decide +kernel) (by decide +kernel), by decide +kernel, by decide +kernel, by decide⟩
theorem my_X9_byteAt : gMy yX9_byteAt cX9_byteAt 2 (some .int) 1 := ⟨gws_of 1211 (by decide +kernel) (by decide +kernel), gws_of 115 (by decide +kernel) (by decide +kernel), by decide +kernel, by decide +kernel, by decide⟩
theorem my_X9_changedBut : gMy yX9_changedBut cX9_changedBut 5 (some .int) 1 := ⟨gws_of 1456 (by decide +kernel) (by decide +kernel), gws_of 115 (by decide +kernel) (by decide +kernel), by decide +kernel, by decide +kernel, by decide⟩
theorem my_X9_copy : gMy yX9_copy cX9_copy 3 none 2 := ⟨gws_of 1315 (by decide +kernel) (by decide +kernel), gws_of 115 (by decide +kernel) (by decide +kernel), by decide +kernel, by decide +kernel, by decide⟩
theorem my_X9_emit : gMy yX9_emit cX9_emit 2 none 1 := ⟨gws_of 1308 (by decide +kernel) (by decide +kernel), gws_of 115 (by decide +kernel) (by decide +kernel), by decide +kernel, by decide +kernel, by decide⟩
theorem my_X9_expect : gMy yX9_expect cX9_expect 2 none 1 := ⟨gws_of 1221 (by decide +kernel) (by decide +kernel), gws_of 115 (by decide +kernel) (by decide +kernel), by decide +kernel, by decide +kernel, by decide⟩
theorem my_X9_factor : gMy yX9_factor cX9_factor 4 none 0 := ⟨gws_of 1300 (by decide +kernel) (by decide +kernel), gws_of 115 (by decide +kernel) (by decide +kernel), by decide +kernel, by decide +kernel, by decide⟩
theorem my_X9_fails : gMy yX9_fails cX9_fails 3 (some .boolean) 2 := ⟨gws_of 1194 (by decide +kernel) (by decide +kernel), gws_of 115 (by decide +kernel) (by decide +kernel), by decide +kernel, by decide +kernel, by decide⟩
theorem my_X9_follow : gMy yX9_follow cX9_follow 7 (some .int) 2 := ⟨gws_of 1436 (by decide +kernel) (by decide +kernel), gws_of 115 (by decide +kernel) (by decide +kernel), by decide +kernel, by decide +kernel, by decide⟩
theorem my_X9_friendsOf : gMy yX9_friendsOf cX9_friendsOf 4 (some .int) 1 := ⟨gws_of 1363 (by decide +kernel) (by decide +kernel), gws_of 115 (by decide +kernel) (by decide +kernel), by decide +kernel, by decide +kernel, by decide⟩
theorem my_X9_in : gMy yX9_in cX9_in 3 (some .boolean) 3 := ⟨gws_of 1190 (by decide +kernel) (by decide +kernel), gws_of 115 (by decide +kernel) (by decide +kernel), by decide +kernel, by decide +kernel, by decide⟩
theorem my_X9_isCandidate : gMy yX9_isCandidate cX9_isCandidate 3 (some .boolean) 2 := ⟨gws_of 1388 (by decide +kernel) (by decide +kernel), gws_of 115 (by decide +kernel) (by decide +kernel), by decide +kernel, by decide +kernel, by decide⟩
theorem my_X9_isDigit : gMy yX9_isDigit cX9_isDigit 1 (some .boolean) 1 := ⟨gws_of 1258 (by decide +kernel) (by decide +kernel), gws_of 115 (by decide +kernel) (by decide +kernel), by decide +kernel, by decide +kernel, by decide⟩
theorem my_X9_isFresh : gMy yX9_isFresh cX9_isFresh 5 (some .boolean) 3 := ⟨gws_of 1240 (by decide +kernel) (by decide +kernel), gws_of 115 (by decide +kernel) (by decide +kernel), by decide +kernel, by decide +kernel, by decide⟩
theorem my_X9_isGood : gMy yX9_isGood cX9_isGood 1 (some .boolean) 0 := ⟨gws_of 1203 (by decide +kernel) (by decide +kernel), gws_of 115 (by decide +kernel) (by decide +kernel), by decide +kernel, by decide +kernel, by decide⟩
theorem my_X9_isLoaded : gMy yX9_isLoaded cX9_isLoaded 2 (some .boolean) 1 := ⟨gws_of 1351 (by decide +kernel) (by decide +kernel), gws_of 115 (by decide +kernel) (by decide +kernel), by decide +kernel, by decide +kernel, by decide⟩
theorem my_X9_isMissing : gMy yX9_isMissing cX9_isMissing 3 (some .boolean) 2 := ⟨gws_of 1404 (by decide +kernel) (by decide +kernel), gws_of 115 (by decide +kernel) (by decide +kernel), by decide +kernel, by decide +kernel, by decide⟩
theorem my_X9_keepBindings : gMy yX9_keepBindings cX9_keepBindings 3 none 0 := ⟨gws_of 1452 (by decide +kernel) (by decide +kernel), gws_of 115 (by decide +kernel) (by decide +kernel), by decide +kernel, by decide +kernel, by decide⟩
theorem my_X9_layAll : gMy yX9_layAll cX9_layAll 2 none 0 := ⟨gws_of 1408 (by decide +kernel) (by decide +kernel), gws_of 115 (by decide +kernel) (by decide +kernel), by decide +kernel, by decide +kernel, by decide⟩
theorem my_X9_layName : gMy yX9_layName cX9_layName 7 none 1 := ⟨gws_of 1412 (by decide +kernel) (by decide +kernel), gws_of 115 (by decide +kernel) (by decide +kernel), by decide +kernel, by decide +kernel, by decide⟩
theorem my_X9_limited : gMy yX9_limited cX9_limited 2 (some .long) 1 := ⟨gws_of 1369 (by decide +kernel) (by decide +kernel), gws_of 115 (by decide +kernel) (by decide +kernel), by decide +kernel, by decide +kernel, by decide⟩
theorem my_X9_min : gMy yX9_min cX9_min 2 (some .int) 2 := ⟨gws_of 1262 (by decide +kernel) (by decide +kernel), gws_of 115 (by decide +kernel) (by decide +kernel), by decide +kernel, by decide +kernel, by decide⟩
theorem my_X9_next : gMy yX9_next cX9_next 1 (some .int) 0 := ⟨gws_of 1207 (by decide +kernel) (by decide +kernel), gws_of 115 (by decide +kernel) (by decide +kernel), by decide +kernel, by decide +kernel, by decide⟩
theorem my_X9_noLibrary : gMy yX9_noLibrary cX9_noLibrary 2 (some .boolean) 1 := ⟨gws_of 1339 (by decide +kernel) (by decide +kernel), gws_of 115 (by decide +kernel) (by decide +kernel), by decide +kernel, by decide +kernel, by decide⟩
theorem my_X9_noName : gMy yX9_noName cX9_noName 2 (some .boolean) 1 := ⟨gws_of 1380 (by decide +kernel) (by decide +kernel), gws_of 115 (by decide +kernel) (by decide +kernel), by decide +kernel, by decide +kernel, by decide⟩
theorem my_X9_number : gMy yX9_number cX9_number 4 (some .int) 2 := ⟨gws_of 1255 (by decide +kernel) (by decide +kernel), gws_of 115 (by decide +kernel) (by decide +kernel), by decide +kernel, by decide +kernel, by decide⟩
theorem my_X9_offersOf : gMy yX9_offersOf cX9_offersOf 4 (some .int) 1 := ⟨gws_of 1355 (by decide +kernel) (by decide +kernel), gws_of 115 (by decide +kernel) (by decide +kernel), by decide +kernel, by decide +kernel, by decide⟩
theorem my_X9_once : gMy yX9_once cX9_once 3 none 2 := ⟨gws_of 1287 (by decide +kernel) (by decide +kernel), gws_of 115 (by decide +kernel) (by decide +kernel), by decide +kernel, by decide +kernel, by decide⟩
theorem my_X9_operate : gMy yX9_operate cX9_operate 5 (some .long) 3 := ⟨gws_of 1366 (by decide +kernel) (by decide +kernel), gws_of 115 (by decide +kernel) (by decide +kernel), by decide +kernel, by decide +kernel, by decide⟩
theorem my_X9_placeOf : gMy yX9_placeOf cX9_placeOf 5 (some .int) 3 := ⟨gws_of 1243 (by decide +kernel) (by decide +kernel), gws_of 115 (by decide +kernel) (by decide +kernel), by decide +kernel, by decide +kernel, by decide⟩
theorem my_X9_prefers : gMy yX9_prefers cX9_prefers 5 (some .boolean) 3 := ⟨gws_of 1282 (by decide +kernel) (by decide +kernel), gws_of 115 (by decide +kernel) (by decide +kernel), by decide +kernel, by decide +kernel, by decide⟩
theorem my_X9_put : gMy yX9_put cX9_put 4 (some .int) 3 := ⟨gws_of 1468 (by decide +kernel) (by decide +kernel), gws_of 115 (by decide +kernel) (by decide +kernel), by decide +kernel, by decide +kernel, by decide⟩
theorem my_X9_rankOf : gMy yX9_rankOf cX9_rankOf 4 (some .int) 1 := ⟨gws_of 1347 (by decide +kernel) (by decide +kernel), gws_of 115 (by decide +kernel) (by decide +kernel), by decide +kernel, by decide +kernel, by decide⟩
theorem my_X9_readKnown : gMy yX9_readKnown cX9_readKnown 4 (some .int) 2 := ⟨gws_of 1272 (by decide +kernel) (by decide +kernel), gws_of 115 (by decide +kernel) (by decide +kernel), by decide +kernel, by decide +kernel, by decide⟩
theorem my_X9_readLibrary : gMy yX9_readLibrary cX9_readLibrary 7 none 1 := ⟨gws_of 1248 (by decide +kernel) (by decide +kernel), gws_of 115 (by decide +kernel) (by decide +kernel), by decide +kernel, by decide +kernel, by decide⟩
theorem my_X9_readName : gMy yX9_readName cX9_readName 4 none 1 := ⟨gws_of 1230 (by decide +kernel) (by decide +kernel), gws_of 115 (by decide +kernel) (by decide +kernel), by decide +kernel, by decide +kernel, by decide⟩
theorem my_X9_readOffer : gMy yX9_readOffer cX9_readOffer 4 none 0 := ⟨gws_of 1268 (by decide +kernel) (by decide +kernel), gws_of 115 (by decide +kernel) (by decide +kernel), by decide +kernel, by decide +kernel, by decide⟩
theorem my_X9_readPreference : gMy yX9_readPreference cX9_readPreference 3 none 0 := ⟨gws_of 1278 (by decide +kernel) (by decide +kernel), gws_of 115 (by decide +kernel) (by decide +kernel), by decide +kernel, by decide +kernel, by decide⟩
theorem my_X9_readWord : gMy yX9_readWord cX9_readWord 3 (some .long) 0 := ⟨gws_of 1234 (by decide +kernel) (by decide +kernel), gws_of 115 (by decide +kernel) (by decide +kernel), by decide +kernel, by decide +kernel, by decide⟩
theorem my_X9_remember : gMy yX9_remember cX9_remember 2 none 0 := ⟨gws_of 1312 (by decide +kernel) (by decide +kernel), gws_of 115 (by decide +kernel) (by decide +kernel), by decide +kernel, by decide +kernel, by decide⟩
theorem my_X9_report : gMy yX9_report cX9_report 3 none 2 := ⟨gws_of 1217 (by decide +kernel) (by decide +kernel), gws_of 115 (by decide +kernel) (by decide +kernel), by decide +kernel, by decide +kernel, by decide⟩
theorem my_X9_statement : gMy yX9_statement cX9_statement 2 none 0 := ⟨gws_of 1225 (by decide +kernel) (by decide +kernel), gws_of 115 (by decide +kernel) (by decide +kernel), by decide +kernel, by decide +kernel, by decide⟩
theorem my_X9_sum : gMy yX9_sum cX9_sum 2 none 0 := ⟨gws_of 1292 (by decide +kernel) (by decide +kernel), gws_of 115 (by decide +kernel) (by decide +kernel), by decide +kernel, by decide +kernel, by decide⟩
theorem my_X9_takeWord : gMy yX9_takeWord cX9_takeWord 3 (some .boolean) 1 := ⟨gws_of 1199 (by decide +kernel) (by decide +kernel), gws_of 115 (by decide +kernel) (by decide +kernel), by decide +kernel, by decide +kernel, by decide⟩
theorem my_X9_term : gMy yX9_term cX9_term 2 none 0 := ⟨gws_of 1296 (by decide +kernel) (by decide +kernel), gws_of 115 (by decide +kernel) (by decide +kernel), by decide +kernel, by decide +kernel, by decide⟩
theorem my_X9_told : gMy yX9_told cX9_told 3 (some .int) 2 := ⟨gws_of 1343 (by decide +kernel) (by decide +kernel), gws_of 115 (by decide +kernel) (by decide +kernel), by decide +kernel, by decide +kernel, by decide⟩
theorem my_X9_voteOf : gMy yX9_voteOf cX9_voteOf 5 (some .int) 2 := ⟨gws_of 1396 (by decide +kernel) (by decide +kernel), gws_of 115 (by decide +kernel) (by decide +kernel), by decide +kernel, by decide +kernel, by decide⟩
theorem my_X9_weightOf : gMy yX9_weightOf cX9_weightOf 6 (some .int) 1 := ⟨gws_of 1359 (by decide +kernel) (by decide +kernel), gws_of 115 (by decide +kernel) (by decide +kernel), by decide +kernel, by decide +kernel, by decide⟩
theorem thr_RX8_63 : gThr RX8 63 67 1 := ⟨gws_of 629 (by decide +kernel) (by decide +kernel), gws_of 119 (by decide +kernel) (by decide +kernel), by decide +kernel, by decide +kernel⟩
theorem thr_RX8_173 : gThr RX8 173 177 3 := ⟨gws_of 995 (by decide +kernel) (by decide +kernel), gws_of 128 (by decide +kernel) (by decide +kernel), by decide +kernel, by decide +kernel⟩
theorem thr_RX8_232 : gThr RX8 232 236 2 := ⟨gws_of 561 (by decide +kernel) (by decide +kernel), gws_of 127 (by decide +kernel) (by decide +kernel), by decide +kernel, by decide +kernel⟩
end
section
theorem kw_1092 : Cond.classLink RX9 23 "[[I" ∈ gWS := gws_of 1092 (by decide +kernel) (by decide +kernel)
end
section
/-! THE FUNCTIONS read off the bytecode -/
def f_X3_init (T : gT) (M : gM) (a0 : Nat) : Option (gT × gM) :=
  (gnew T (si (si (si M a0 0 (0 : Int32)) a0 1 (0 : Int32)) a0 2 (-1 : Int32)) (11, 12)).bind fun x2 =>
  (gnew x2.2.1 (sr x2.2.2 a0 3 (some x2.1)) (11, 8)).bind fun x4 =>
  some (x4.2.1, (si (sr x4.2.2 a0 4 (some x4.1)) a0 5 (0 : Int32)))
def f_X3_copyFrom (T : gT) (M : gM) (a0 : Nat) (a1 : Nat) : Option (gM) :=
  (chk ((gi (si M a0 0 (gi M a1 0)) a1 1) = 0 ∨ (gi (si M a0 0 (gi M a1 0)) a1 1) = 1)).bind fun _ =>
  (ldr T (si (si (si M a0 0 (gi M a1 0)) a0 1 (gi (si M a0 0 (gi M a1 0)) a1 1)) a0 2 (gi (si (si M a0 0 (gi M a1 0)) a0 1 (gi (si M a0 0 (gi M a1 0)) a1 1)) a1 2)) a1 3 11).bind fun b2 =>
  (ldr T (si (si (si M a0 0 (gi M a1 0)) a0 1 (gi (si M a0 0 (gi M a1 0)) a1 1)) a0 2 (gi (si (si M a0 0 (gi M a1 0)) a0 1 (gi (si M a0 0 (gi M a1 0)) a1 1)) a1 2)) a0 3 11).bind fun b3 =>
  (acp T (si (si (si M a0 0 (gi M a1 0)) a0 1 (gi (si M a0 0 (gi M a1 0)) a1 1)) a0 2 (gi (si (si M a0 0 (gi M a1 0)) a0 1 (gi (si M a0 0 (gi M a1 0)) a1 1)) a1 2)) b2 (0 : Int32) b3 (0 : Int32) (12 : Int32)).bind fun M4 =>
  (ldr T M4 a1 4 11).bind fun b5 =>
  (ldr T M4 a0 4 11).bind fun b6 =>
  (acp T M4 b5 (0 : Int32) b6 (0 : Int32) (8 : Int32)).bind fun M7 =>
  some (si M7 a0 5 (gi M7 a1 5))
def f_X3_isLoaded (T : gT) (M : gM) (a0 : Nat) : Option (Int32) :=
  if (gi M a0 2) = (-1 : Int32) then
  (
    some (0 : Int32)
  )
  else
  (
    some (1 : Int32)
  )
def f_X3_hasOffer (T : gT) (M : gM) (a0 : Nat) (i1 : Int32) : Option (Int32) :=
  (ldr T M a0 3 11).bind fun b1 =>
  (ald T M b1 i1).bind fun v2 =>
  if v2 = (-1 : Int32) then
  (
    some (0 : Int32)
  )
  else
  (
    some (1 : Int32)
  )
def f_X3_prefers_B2 (T : gT) (M : gM) (a0 : Nat) (i1 : Int32) (i2 : Int32) : Option ((Int32) ⊕ (Int32)) :=
  if (gi M a0 5) ≤ i2 then
  (
    some (.inl (0 : Int32))
  )
  else
  (
    (ldr T M a0 4 11).bind fun b2 =>
    (ald T M b2 i2).bind fun v3 =>
    if ¬ v3 = i1 then
    (
      some (.inr (i2 + (1 : Int32)))
    )
    else
    (
      some (.inl (1 : Int32))
    )
  )
def f_X3_prefers (T : gT) (M : gM) (a0 : Nat) (i1 : Int32) : Option (Int32) :=
  (gloop (fun x => f_X3_prefers_B2 T M a0 i1 x) gFU (0 : Int32)).bind fun x5 =>
  some x5
def f_X3_countOffers_21 (T : gT) (M : gM) (a0 : Nat) (i1 : Int32) (i2 : Int32) : Option ((Int32) ⊕ (Int32 × Int32)) :=
  some (.inr (i1, (i2 + (1 : Int32))))
def f_X3_countOffers_B4 (T : gT) (M : gM) (a0 : Nat) (i1 : Int32) (i2 : Int32) : Option ((Int32) ⊕ (Int32 × Int32)) :=
  if (12 : Int32) ≤ i2 then
  (
    some (.inl i1)
  )
  else
  (
    (f_X3_hasOffer T M a0 i2).bind fun x2 =>
    if x2 = 0 then
    (
      f_X3_countOffers_21 T M a0 i1 i2
    )
    else
    (
      f_X3_countOffers_21 T M a0 (i1 + (1 : Int32)) i2
    )
  )
def f_X3_countOffers (T : gT) (M : gM) (a0 : Nat) : Option (Int32) :=
  (gloop (fun x => f_X3_countOffers_B4 T M a0 x.1 x.2) gFU ((0 : Int32), (0 : Int32))).bind fun x4 =>
  some x4
def f_J7_fill_53178_B5 (T : gT) (M : gM) (a0 : Nat) (i1 : Int32) (i2 : Int32) (i3 : Int32) : Option ((gM) ⊕ (Int32 × gM)) :=
  if i3 ≤ i2 then
  (
    some (.inl M)
  )
  else
  (
    (ast T M a0 i2 i1).bind fun M2 =>
    some (.inr ((i2 + (1 : Int32)), M2))
  )
def f_J7_fill_53178 (T : gT) (M : gM) (a0 : Nat) (i1 : Int32) : Option (gM) :=
  (gloop (fun x => f_J7_fill_53178_B5 T x.2 a0 i1 x.1 (Int32.ofNat (alen T a0))) gFU ((0 : Int32), M)).bind fun x3 =>
  some x3
def f_X3_startAs (T : gT) (M : gM) (a0 : Nat) (i1 : Int32) (i2 : Int32) : Option (gM) :=
  (ldr T (si (si (si M a0 0 i1) a0 1 (0 : Int32)) a0 2 i2) a0 3 11).bind fun b1 =>
  (f_J7_fill_53178 T (si (si (si M a0 0 i1) a0 1 (0 : Int32)) a0 2 i2) b1 (-1 : Int32)).bind fun x2 =>
  some (si x2 a0 5 (0 : Int32))
def f_X3_addPreference (T : gT) (M : gM) (a0 : Nat) (i1 : Int32) : Option (gM) :=
  if (8 : Int32) ≤ (gi M a0 5) then
  (
    some M
  )
  else
  (
    (ldr T M a0 4 11).bind fun b2 =>
    (ast T M b2 (gi M a0 5) i1).bind fun M3 =>
    some (si M3 a0 5 ((gi M3 a0 5) + (1 : Int32)))
  )
abbrev gRecT_X5_readSum : Type := gT → gM → Nat → Int32 → Option (Int32 × gM)
def f_J7_copyOf_59c91 (T : gT) (M : gM) (a0 : Nat) (i1 : Int32) : Option (Nat × gT × gM) :=
  if ¬ i1 = (Int32.ofNat (alen T a0)) then
  (
    (gnewa T M 11 i1 800).bind fun x2 =>
    (acp x2.2.1 x2.2.2 a0 (0 : Int32) x2.1 (0 : Int32) (imin (Int32.ofNat (alen x2.2.1 a0)) i1)).bind fun M5 =>
    some (x2.1, x2.2.1, M5)
  )
  else
  (
    none
  )
abbrev gRecT_X9_sum : Type := gT → gM → Nat → Option (gM)
end
section
/-! THE WALKS -/
theorem t_X3_init {Z : gZ} {d mc ms : Nat} {Acc : Option Value → (Nat → Nat) → gT → gM → Prop} {AccX : Nat → (Nat → Nat) → gT → gM → Prop} {ad : Nat → Nat} {T : gT} {M : gM} {m_a0 : Nat} {a0 : Nat} {o : gT × gM} (hF : gFix Z cX3_init RX3 "<init>" none d mc ms Acc AccX) (hn : Z.2.2.2.2.2.1 = 1) (hd : 1 ≤ d) (hmc : 2 ≤ mc) (hms : 20 ≤ ms) (q0 : T[a0]? = some (3, m_a0)) (h : f_X3_init T M a0 = some o) (hR : ∀ ad1 : Nat → Nat, gExt T o.1 → (∀ a : Nat, a < T.length → ad1 a = ad a) → Acc none ad1 o.1 o.2) : gG Z ad T M 0 0 0 [(0, .ref a0)] [] := by
  unfold f_X3_init at h
  refine g_aload_n hF 0 rfl rfl dX3_init_0 ?_
  refine g_obj hF kw_205 kw_135 kw_136 (by omega) (Nat.le_of_ble_eq_true rfl) dX3_init_1 ?_
  refine g_aload_n hF 0 rfl rfl dX3_init_4 ?_
  refine g_iconst (v := (0 : Int32)) hF rfl dX3_init_5 ?_
  refine g_put_i hF rfl rfl fl_RX3_9 q0 dX3_init_6 ?_
  refine g_aload_n hF 0 rfl rfl dX3_init_9 ?_
  refine g_iconst (v := (0 : Int32)) hF rfl dX3_init_10 ?_
  refine g_put_i hF rfl rfl fl_RX3_15 q0 dX3_init_11 ?_
  refine g_aload_n hF 0 rfl rfl dX3_init_14 ?_
  refine g_iconst (v := (-1 : Int32)) hF rfl dX3_init_15 ?_
  refine g_put_i hF rfl rfl fl_RX3_19 q0 dX3_init_16 ?_
  refine g_aload_n hF 0 rfl rfl dX3_init_19 ?_
  refine g_bipush (v := (12 : Int32)) hF rfl dX3_init_20 ?_
  obtain ⟨x2, h2, h⟩ := gbnd h
  have g2 : gnew T (si (si (si M a0 0 (0 : Int32)) a0 1 (0 : Int32)) a0 2 (-1 : Int32)) (11, 12) = some (x2.1, x2.2.1, x2.2.2) := h2
  refine g_newa_int (N := 12) hF (by decide) (by decide) (by decide) kw_200 g2 (gnew_lt g2) (gFr_r (gT_ne q0) gFr_0) (gFr_r (gT_ne q0) gFr_0) (by omega) (by omega) dX3_init_22 (fun ad2 z2 => ?_)
  have X2 := gExt.tr gExt.rf (gnew_ext g2)
  have W2 := gad_new g2 z2 gExt.rf (fun _ _ => rfl)
  have q_3 := gnew_ext g2 _ _ q0
  have q_y2 := gnew_at g2
  refine g_putF_r hF (fun _ => rfl) (fun _ => rfl) (gT_lt q_y2) rfl (fun R9 T9 N9 t9 q9 => g_own3 q9) fl_RX3_22 q_3 dX3_init_24 ?_
  refine g_aload_n hF 0 rfl rfl dX3_init_27 ?_
  refine g_bipush (v := (8 : Int32)) hF rfl dX3_init_28 ?_
  obtain ⟨x4, h4, h⟩ := gbnd h
  have g4 : gnew x2.2.1 (sr x2.2.2 a0 3 (some x2.1)) (11, 8) = some (x4.1, x4.2.1, x4.2.2) := h4
  refine g_newa_int (N := 8) hF (by decide) (by decide) (by decide) kw_200 g4 (gnew_lt g4) (gFr_r (gT_ne q_3) gFr_0) (gFr_r (gT_ne q_3) gFr_0) (by omega) (by omega) dX3_init_30 (fun ad4 z4 => ?_)
  have X4 := gExt.tr X2 (gnew_ext g4)
  have W4 := gad_new g4 z4 X2 W2
  have q_5 := gnew_ext g4 _ _ q_3
  have q_y4 := gnew_at g4
  refine g_putF_r hF (fun _ => rfl) (fun _ => rfl) (gT_lt q_y4) rfl (fun R9 T9 N9 t9 q9 => g_own3 q9) fl_RX3_26 q_5 dX3_init_32 ?_
  refine g_aload_n hF 0 rfl rfl dX3_init_35 ?_
  refine g_iconst (v := (0 : Int32)) hF rfl dX3_init_36 ?_
  refine g_put_i hF rfl rfl fl_RX3_29 q_5 dX3_init_37 ?_
  cases h
  exact g_ret_v hF rfl dX3_init_40 (hR ad4 X4 W4) (by omega) (by omega)
theorem c_X3_init {d : Nat} {T : gT} {M : gM} {m_a0 : Nat} {a0 : Nat} {r : gT × gM} (hd : 1 ≤ d) (q0 : T[a0]? = some (3, m_a0)) (h : f_X3_init T M a0 = some (r)) : gRet d yX3_init cX3_init 1 none 2 20 [.ref a0] T M (gMade T none r.1 r.2) := by
  refine gRet_of (own := RX3) (by decide) rfl (Nat.le_of_ble_eq_true rfl) (fun Z ad0 hn h0 hF => ?_)
  exact t_X3_init hF hn hd (Nat.le_refl _) (Nat.le_refl _) q0 h (fun ad1 x1 y1 => ⟨rfl, rfl, rfl, x1, y1⟩)
theorem t_X3_copyFrom {Z : gZ} {d mc ms : Nat} {Acc : Option Value → (Nat → Nat) → gT → gM → Prop} {AccX : Nat → (Nat → Nat) → gT → gM → Prop} {ad : Nat → Nat} {T : gT} {M : gM} {m_a0 m_a1 : Nat} {a0 : Nat} {a1 : Nat} {o : gM} (hF : gFix Z cX3_copyFrom RX3 "copyFrom" none d mc ms Acc AccX) (hn : Z.2.2.2.2.2.1 = 2) (hd : 1 ≤ d) (q0 : T[a0]? = some (3, m_a0)) (q1 : T[a1]? = some (3, m_a1)) (h : f_X3_copyFrom T M a0 a1 = some o) (hR : Acc none ad T o) : gG Z ad T M 0 0 0 [(0, .ref a0), (1, .ref a1)] [] := by
  unfold f_X3_copyFrom at h
  refine g_aload_n hF 0 rfl rfl dX3_copyFrom_0 ?_
  refine g_aload_n hF 1 rfl rfl dX3_copyFrom_1 ?_
  refine g_get_i hF fl_RX3_9 q1 dX3_copyFrom_2 ?_
  refine g_put_i hF rfl rfl fl_RX3_9 q0 dX3_copyFrom_5 ?_
  refine g_aload_n hF 0 rfl rfl dX3_copyFrom_8 ?_
  refine g_aload_n hF 1 rfl rfl dX3_copyFrom_9 ?_
  refine g_get_i hF fl_RX3_15 q1 dX3_copyFrom_10 ?_
  obtain ⟨_, h1, h⟩ := gbnd h
  refine g_put_i hF (gbool (chk_sp h1)) (gboolf (chk_sp h1)) fl_RX3_15 q0 dX3_copyFrom_13 ?_
  refine g_aload_n hF 0 rfl rfl dX3_copyFrom_16 ?_
  refine g_aload_n hF 1 rfl rfl dX3_copyFrom_17 ?_
  refine g_get_i hF fl_RX3_19 q1 dX3_copyFrom_18 ?_
  refine g_put_i hF rfl rfl fl_RX3_19 q0 dX3_copyFrom_21 ?_
  refine g_aload_n hF 1 rfl rfl dX3_copyFrom_24 ?_
  obtain ⟨b2, h2, h⟩ := gbnd h
  obtain ⟨g2, l2, q_b2⟩ := ldr_sp h2
  refine g_get_r hF g2 fl_RX3_22 q1 dX3_copyFrom_25 ?_
  refine g_iconst (v := (0 : Int32)) hF rfl dX3_copyFrom_28 ?_
  refine g_aload_n hF 0 rfl rfl dX3_copyFrom_29 ?_
  obtain ⟨b3, h3, h⟩ := gbnd h
  obtain ⟨g3, l3, q_b3⟩ := ldr_sp h3
  refine g_get_r hF g3 fl_RX3_22 q0 dX3_copyFrom_30 ?_
  refine g_iconst (v := (0 : Int32)) hF rfl dX3_copyFrom_33 ?_
  refine g_bipush (v := (12 : Int32)) hF rfl dX3_copyFrom_34 ?_
  obtain ⟨M4, h4, h⟩ := gbnd h
  obtain ⟨k4a, k4b, k4c, k4d, k4e, e4v⟩ := acp_sp q_b2 q_b3 h4
  refine g_copy_i hF kw_451 q_b2 q_b3 k4a k4b k4c k4d k4e (by omega) (Nat.le_of_ble_eq_true rfl) dX3_copyFrom_36 ?_
  rw [← e4v]
  refine g_aload_n hF 1 rfl rfl dX3_copyFrom_39 ?_
  obtain ⟨b5, h5, h⟩ := gbnd h
  obtain ⟨g5, l5, q_b5⟩ := ldr_sp h5
  refine g_get_r hF g5 fl_RX3_26 q1 dX3_copyFrom_40 ?_
  refine g_iconst (v := (0 : Int32)) hF rfl dX3_copyFrom_43 ?_
  refine g_aload_n hF 0 rfl rfl dX3_copyFrom_44 ?_
  obtain ⟨b6, h6, h⟩ := gbnd h
  obtain ⟨g6, l6, q_b6⟩ := ldr_sp h6
  refine g_get_r hF g6 fl_RX3_26 q0 dX3_copyFrom_45 ?_
  refine g_iconst (v := (0 : Int32)) hF rfl dX3_copyFrom_48 ?_
  refine g_bipush (v := (8 : Int32)) hF rfl dX3_copyFrom_49 ?_
  obtain ⟨M7, h7, h⟩ := gbnd h
  obtain ⟨k7a, k7b, k7c, k7d, k7e, e7v⟩ := acp_sp q_b5 q_b6 h7
  refine g_copy_i hF kw_451 q_b5 q_b6 k7a k7b k7c k7d k7e (by omega) (Nat.le_of_ble_eq_true rfl) dX3_copyFrom_51 ?_
  rw [← e7v]
  refine g_aload_n hF 0 rfl rfl dX3_copyFrom_54 ?_
  refine g_aload_n hF 1 rfl rfl dX3_copyFrom_55 ?_
  refine g_get_i hF fl_RX3_29 q1 dX3_copyFrom_56 ?_
  refine g_put_i hF rfl rfl fl_RX3_29 q0 dX3_copyFrom_59 ?_
  cases h
  exact g_ret_v hF rfl dX3_copyFrom_62 hR (Nat.zero_le _) (Nat.zero_le _)
theorem c_X3_copyFrom {d : Nat} {T : gT} {M : gM} {m_a0 m_a1 : Nat} {a0 : Nat} {a1 : Nat} {r : gM} (hd : 1 ≤ d) (q0 : T[a0]? = some (3, m_a0)) (q1 : T[a1]? = some (3, m_a1)) (h : f_X3_copyFrom T M a0 a1 = some (r)) : gRet d yX3_copyFrom cX3_copyFrom 2 none 0 0 [.ref a0, .ref a1] T M (gSame T none r) := by
  refine gRet_of (own := RX3) (by decide) rfl (Nat.le_of_ble_eq_true rfl) (fun Z ad0 hn h0 hF => ?_)
  exact t_X3_copyFrom hF hn hd q0 q1 h ⟨rfl, rfl, rfl, rfl⟩
theorem t_X3_isLoaded {Z : gZ} {d mc ms : Nat} {Acc : Option Value → (Nat → Nat) → gT → gM → Prop} {AccX : Nat → (Nat → Nat) → gT → gM → Prop} {ad : Nat → Nat} {T : gT} {M : gM} {m_a0 : Nat} {a0 : Nat} {o : Int32} (hF : gFix Z cX3_isLoaded RX3 "isLoaded" (some .boolean) d mc ms Acc AccX) (hn : Z.2.2.2.2.2.1 = 1) (hd : 1 ≤ d) (q0 : T[a0]? = some (3, m_a0)) (h : f_X3_isLoaded T M a0 = some o) (hR : Acc (some (.int o)) ad T M) : gG Z ad T M 0 0 0 [(0, .ref a0)] [] := by
  unfold f_X3_isLoaded at h
  refine g_aload_n hF 0 rfl rfl dX3_isLoaded_0 ?_
  refine g_get_i hF fl_RX3_19 q0 dX3_isLoaded_1 ?_
  refine g_iconst (v := (-1 : Int32)) hF rfl dX3_isLoaded_4 ?_
  refine g_icmp_eq (tgt := 12) hF dX3_isLoaded_5 (by decide) (fun c1 => ?_) (fun c1 => ?_)
  · replace h := gif_t c1 h
    refine g_iconst (v := (0 : Int32)) hF rfl dX3_isLoaded_12 ?_
    cases h
    exact g_ret_i hF rfl rfl dX3_isLoaded_13 hR (Nat.zero_le _) (Nat.zero_le _)
  · replace h := gif_f c1 h
    refine g_iconst (v := (1 : Int32)) hF rfl dX3_isLoaded_8 ?_
    refine g_goto (tgt := 13) hF dX3_isLoaded_9 (by decide) ?_
    cases h
    exact g_ret_i hF rfl rfl dX3_isLoaded_13 hR (Nat.zero_le _) (Nat.zero_le _)
theorem c_X3_isLoaded {d : Nat} {T : gT} {M : gM} {m_a0 : Nat} {a0 : Nat} {r : Int32} (hd : 1 ≤ d) (q0 : T[a0]? = some (3, m_a0)) (h : f_X3_isLoaded T M a0 = some (r)) : gRet d yX3_isLoaded cX3_isLoaded 1 (some .boolean) 0 0 [.ref a0] T M (gSame T (some (.int r)) M) := by
  refine gRet_of (own := RX3) (by decide) rfl (Nat.le_of_ble_eq_true rfl) (fun Z ad0 hn h0 hF => ?_)
  exact t_X3_isLoaded hF hn hd q0 h ⟨rfl, rfl, rfl, rfl⟩
theorem t_X3_hasOffer {Z : gZ} {d mc ms : Nat} {Acc : Option Value → (Nat → Nat) → gT → gM → Prop} {AccX : Nat → (Nat → Nat) → gT → gM → Prop} {ad : Nat → Nat} {T : gT} {M : gM} {m_a0 : Nat} {a0 : Nat} {i1 : Int32} {o : Int32} (hF : gFix Z cX3_hasOffer RX3 "hasOffer" (some .boolean) d mc ms Acc AccX) (hn : Z.2.2.2.2.2.1 = 2) (hd : 1 ≤ d) (q0 : T[a0]? = some (3, m_a0)) (h : f_X3_hasOffer T M a0 i1 = some o) (hR : Acc (some (.int o)) ad T M) : gG Z ad T M 0 0 0 [(0, .ref a0), (1, .int i1)] [] := by
  unfold f_X3_hasOffer at h
  refine g_aload_n hF 0 rfl rfl dX3_hasOffer_0 ?_
  obtain ⟨b1, h1, h⟩ := gbnd h
  obtain ⟨g1, l1, q_b1⟩ := ldr_sp h1
  refine g_get_r hF g1 fl_RX3_22 q0 dX3_hasOffer_1 ?_
  refine g_iload_n hF 1 rfl rfl dX3_hasOffer_4 ?_
  obtain ⟨v2, h2, h⟩ := gbnd h
  obtain ⟨i2h, e2v⟩ := ald_sp q_b1 h2
  refine g_iald hF q_b1 i2h dX3_hasOffer_5 ?_
  rw [← e2v]
  refine g_iconst (v := (-1 : Int32)) hF rfl dX3_hasOffer_6 ?_
  refine g_icmp_eq (tgt := 14) hF dX3_hasOffer_7 (by decide) (fun c3 => ?_) (fun c3 => ?_)
  · replace h := gif_t c3 h
    refine g_iconst (v := (0 : Int32)) hF rfl dX3_hasOffer_14 ?_
    cases h
    exact g_ret_i hF rfl rfl dX3_hasOffer_15 hR (Nat.zero_le _) (Nat.zero_le _)
  · replace h := gif_f c3 h
    refine g_iconst (v := (1 : Int32)) hF rfl dX3_hasOffer_10 ?_
    refine g_goto (tgt := 15) hF dX3_hasOffer_11 (by decide) ?_
    cases h
    exact g_ret_i hF rfl rfl dX3_hasOffer_15 hR (Nat.zero_le _) (Nat.zero_le _)
theorem c_X3_hasOffer {d : Nat} {T : gT} {M : gM} {m_a0 : Nat} {a0 : Nat} {i1 : Int32} {r : Int32} (hd : 1 ≤ d) (q0 : T[a0]? = some (3, m_a0)) (h : f_X3_hasOffer T M a0 i1 = some (r)) : gRet d yX3_hasOffer cX3_hasOffer 2 (some .boolean) 0 0 [.ref a0, .int i1] T M (gSame T (some (.int r)) M) := by
  refine gRet_of (own := RX3) (by decide) rfl (Nat.le_of_ble_eq_true rfl) (fun Z ad0 hn h0 hF => ?_)
  exact t_X3_hasOffer hF hn hd q0 h ⟨rfl, rfl, rfl, rfl⟩
theorem t_X3_prefers_B2 {Z : gZ} {d mc ms : Nat} {Acc : Option Value → (Nat → Nat) → gT → gM → Prop} {AccX : Nat → (Nat → Nat) → gT → gM → Prop} {ad : Nat → Nat} {T : gT} {M : gM} {m_a0 : Nat} {a0 : Nat} {i1 : Int32} {i2 : Int32} {o : (Int32) ⊕ (Int32)} (hF : gFix Z cX3_prefers RX3 "prefers" (some .boolean) d mc ms Acc AccX) (hn : Z.2.2.2.2.2.1 = 3) (hd : 1 ≤ d) (q0 : T[a0]? = some (3, m_a0)) (h : f_X3_prefers_B2 T M a0 i1 i2 = some o) (hR : ∀ r9, o = .inl r9 → Acc (some (.int r9)) ad T M) (hN : ∀ n9, o = .inr n9 → gG Z ad T M 0 0 2 [(0, .ref a0), (1, .int i1), (2, .int n9)] []) : gG Z ad T M 0 0 2 [(0, .ref a0), (1, .int i1), (2, .int i2)] [] := by
  unfold f_X3_prefers_B2 at h
  refine g_iload_n hF 2 rfl rfl dX3_prefers_2 ?_
  refine g_aload_n hF 0 rfl rfl dX3_prefers_3 ?_
  refine g_get_i hF fl_RX3_29 q0 dX3_prefers_4 ?_
  refine g_icmp_ge (tgt := 28) hF dX3_prefers_7 (by decide) (fun c1 => ?_) (fun c1 => ?_)
  · replace h := gif_t c1 h
    refine g_iconst (v := (0 : Int32)) hF rfl dX3_prefers_28 ?_
    cases h
    exact g_ret_i hF rfl rfl dX3_prefers_29 (hR _ rfl) (Nat.zero_le _) (Nat.zero_le _)
  · replace h := gif_f c1 h
    refine g_aload_n hF 0 rfl rfl dX3_prefers_10 ?_
    obtain ⟨b2, h2, h⟩ := gbnd h
    obtain ⟨g2, l2, q_b2⟩ := ldr_sp h2
    refine g_get_r hF g2 fl_RX3_26 q0 dX3_prefers_11 ?_
    refine g_iload_n hF 2 rfl rfl dX3_prefers_14 ?_
    obtain ⟨v3, h3, h⟩ := gbnd h
    obtain ⟨i3h, e3v⟩ := ald_sp q_b2 h3
    refine g_iald hF q_b2 i3h dX3_prefers_15 ?_
    rw [← e3v]
    refine g_iload_n hF 1 rfl rfl dX3_prefers_16 ?_
    refine g_icmp_ne (tgt := 22) hF dX3_prefers_17 (by decide) (fun c4 => ?_) (fun c4 => ?_)
    · replace h := gif_t c4 h
      refine g_iinc (v := (i2 + (1 : Int32))) (ls' := [(2, .int (i2 + (1 : Int32))), (0, .ref a0), (1, .int i1)]) hF 2 rfl rfl (by rw [hn]; decide) rfl dX3_prefers_22 ?_
      refine g_goto (tgt := 2) hF dX3_prefers_25 (by decide) ?_
      exact gG_sub [1, 2, 0] rfl (hN _ (Option.some.inj h).symm)
    · replace h := gif_n c4 h
      refine g_iconst (v := (1 : Int32)) hF rfl dX3_prefers_20 ?_
      cases h
      exact g_ret_i hF rfl rfl dX3_prefers_21 (hR _ rfl) (Nat.zero_le _) (Nat.zero_le _)
theorem t_X3_prefers_L2 {Z : gZ} {d mc ms : Nat} {Acc : Option Value → (Nat → Nat) → gT → gM → Prop} {AccX : Nat → (Nat → Nat) → gT → gM → Prop} {ad : Nat → Nat} {T : gT} {M : gM} {m_a0 : Nat} {a0 : Nat} {i1 : Int32} {i2 : Int32} {o : Int32} (hF : gFix Z cX3_prefers RX3 "prefers" (some .boolean) d mc ms Acc AccX) (hn : Z.2.2.2.2.2.1 = 3) (hd : 1 ≤ d) (q0 : T[a0]? = some (3, m_a0)) (h : gloop (fun x => f_X3_prefers_B2 T M a0 i1 x) gFU i2 = some o) (hR : Acc (some (.int o)) ad T M) : gG Z ad T M 0 0 2 [(0, .ref a0), (1, .int i1), (2, .int i2)] [] := by
  refine gloop_ind (P := fun x0 : Int32 => gG Z ad T M 0 0 2 [(0, .ref a0), (1, .int i1), (2, .int x0)] []) (e := o) (fun x0 y hy hl hr => ?_) gFU i2 h
  exact t_X3_prefers_B2 hF hn hd q0 hy (fun r9 q9 => by rw [hl _ q9]; exact hR) (fun n9 q9 => hr n9 q9)
theorem t_X3_prefers {Z : gZ} {d mc ms : Nat} {Acc : Option Value → (Nat → Nat) → gT → gM → Prop} {AccX : Nat → (Nat → Nat) → gT → gM → Prop} {ad : Nat → Nat} {T : gT} {M : gM} {m_a0 : Nat} {a0 : Nat} {i1 : Int32} {o : Int32} (hF : gFix Z cX3_prefers RX3 "prefers" (some .boolean) d mc ms Acc AccX) (hn : Z.2.2.2.2.2.1 = 3) (hd : 1 ≤ d) (q0 : T[a0]? = some (3, m_a0)) (h : f_X3_prefers T M a0 i1 = some o) (hR : Acc (some (.int o)) ad T M) : gG Z ad T M 0 0 0 [(0, .ref a0), (1, .int i1)] [] := by
  unfold f_X3_prefers at h
  refine g_iconst (v := (0 : Int32)) hF rfl dX3_prefers_0 ?_
  refine g_istore_n (ls' := [(2, .int (0 : Int32)), (0, .ref a0), (1, .int i1)]) hF rfl (by rw [hn]; decide) rfl dX3_prefers_1 ?_
  obtain ⟨x5, h5, h⟩ := gbnd h
  cases h
  exact gG_sub [1, 2, 0] rfl (t_X3_prefers_L2 hF hn hd q0 h5 hR)
theorem c_X3_prefers {d : Nat} {T : gT} {M : gM} {m_a0 : Nat} {a0 : Nat} {i1 : Int32} {r : Int32} (hd : 1 ≤ d) (q0 : T[a0]? = some (3, m_a0)) (h : f_X3_prefers T M a0 i1 = some (r)) : gRet d yX3_prefers cX3_prefers 3 (some .boolean) 0 0 [.ref a0, .int i1] T M (gSame T (some (.int r)) M) := by
  refine gRet_of (own := RX3) (by decide) rfl (Nat.le_of_ble_eq_true rfl) (fun Z ad0 hn h0 hF => ?_)
  exact t_X3_prefers hF hn hd q0 h ⟨rfl, rfl, rfl, rfl⟩
theorem t_X3_countOffers_21 {Z : gZ} {d mc ms : Nat} {Acc : Option Value → (Nat → Nat) → gT → gM → Prop} {AccX : Nat → (Nat → Nat) → gT → gM → Prop} {ad : Nat → Nat} {T : gT} {M : gM} {m_a0 : Nat} {a0 : Nat} {i1 : Int32} {i2 : Int32} {o : (Int32) ⊕ (Int32 × Int32)} (hF : gFix Z cX3_countOffers RX3 "countOffers" (some .int) d mc ms Acc AccX) (hn : Z.2.2.2.2.2.1 = 3) (hd : 2 ≤ d) (q0 : T[a0]? = some (3, m_a0)) (h : f_X3_countOffers_21 T M a0 i1 i2 = some o) (hE : ∀ e9, o = .inl e9 → gG Z ad T M 0 0 27 [(1, .int e9)] []) (hN : ∀ n9, o = .inr n9 → gG Z ad T M 0 0 4 [(0, .ref a0), (1, .int n9.1), (2, .int n9.2)] []) : gG Z ad T M 0 0 21 [(0, .ref a0), (1, .int i1), (2, .int i2)] [] := by
  unfold f_X3_countOffers_21 at h
  refine g_iinc (v := (i2 + (1 : Int32))) (ls' := [(2, .int (i2 + (1 : Int32))), (0, .ref a0), (1, .int i1)]) hF 2 rfl rfl (by rw [hn]; decide) rfl dX3_countOffers_21 ?_
  refine g_goto (tgt := 4) hF dX3_countOffers_24 (by decide) ?_
  exact gG_sub [1, 2, 0] rfl (hN _ (Option.some.inj h).symm)
theorem t_X3_countOffers_B4 {Z : gZ} {d mc ms : Nat} {Acc : Option Value → (Nat → Nat) → gT → gM → Prop} {AccX : Nat → (Nat → Nat) → gT → gM → Prop} {ad : Nat → Nat} {T : gT} {M : gM} {m_a0 : Nat} {a0 : Nat} {i1 : Int32} {i2 : Int32} {o : (Int32) ⊕ (Int32 × Int32)} (hF : gFix Z cX3_countOffers RX3 "countOffers" (some .int) d mc ms Acc AccX) (hn : Z.2.2.2.2.2.1 = 3) (hd : 2 ≤ d) (q0 : T[a0]? = some (3, m_a0)) (h : f_X3_countOffers_B4 T M a0 i1 i2 = some o) (hE : ∀ e9, o = .inl e9 → gG Z ad T M 0 0 27 [(1, .int e9)] []) (hN : ∀ n9, o = .inr n9 → gG Z ad T M 0 0 4 [(0, .ref a0), (1, .int n9.1), (2, .int n9.2)] []) : gG Z ad T M 0 0 4 [(0, .ref a0), (1, .int i1), (2, .int i2)] [] := by
  unfold f_X3_countOffers_B4 at h
  refine g_iload_n hF 2 rfl rfl dX3_countOffers_4 ?_
  refine g_bipush (v := (12 : Int32)) hF rfl dX3_countOffers_5 ?_
  refine g_icmp_ge (tgt := 27) hF dX3_countOffers_7 (by decide) (fun c1 => ?_) (fun c1 => ?_)
  · replace h := gif_t c1 h
    exact gG_sub [1] rfl (hE _ (Option.some.inj h).symm)
  · replace h := gif_f c1 h
    refine g_aload_n hF 0 rfl rfl dX3_countOffers_10 ?_
    refine g_iload_n hF 2 rfl rfl dX3_countOffers_11 ?_
    obtain ⟨x2, h2, h⟩ := gbnd h
    refine g_callV hF my_X3_hasOffer kw_470 kw_472 kw_8 gC_3.1 (by decide) q0 (c_X3_hasOffer (d := d - 1) (by omega) q0 h2) (by omega) (Nat.zero_le _) (Nat.zero_le _) rfl rfl (Nat.le_of_ble_eq_true rfl) dX3_countOffers_12 (g_sameS ?_)
    refine g_if_eq (tgt := 21) hF dX3_countOffers_15 (by decide) (fun c3 => ?_) (fun c3 => ?_)
    · replace h := gif_t c3 h
      exact gG_sub [0, 1, 2] rfl (t_X3_countOffers_21 hF hn hd q0 h hE hN)
    · replace h := gif_f c3 h
      refine g_iinc (v := (i1 + (1 : Int32))) (ls' := [(1, .int (i1 + (1 : Int32))), (0, .ref a0), (2, .int i2)]) hF 1 rfl rfl (by rw [hn]; decide) rfl dX3_countOffers_18 ?_
      exact gG_sub [1, 0, 2] rfl (t_X3_countOffers_21 hF hn hd q0 h hE hN)
theorem t_X3_countOffers_L4 {Z : gZ} {d mc ms : Nat} {Acc : Option Value → (Nat → Nat) → gT → gM → Prop} {AccX : Nat → (Nat → Nat) → gT → gM → Prop} {ad : Nat → Nat} {T : gT} {M : gM} {m_a0 : Nat} {a0 : Nat} {i1 : Int32} {i2 : Int32} {o : Int32} (hF : gFix Z cX3_countOffers RX3 "countOffers" (some .int) d mc ms Acc AccX) (hn : Z.2.2.2.2.2.1 = 3) (hd : 2 ≤ d) (q0 : T[a0]? = some (3, m_a0)) (h : gloop (fun x => f_X3_countOffers_B4 T M a0 x.1 x.2) gFU (i1, i2) = some o) (hE : gG Z ad T M 0 0 27 [(1, .int o)] []) : gG Z ad T M 0 0 4 [(0, .ref a0), (1, .int i1), (2, .int i2)] [] := by
  refine gloop_ind (P := fun x0 : Int32 × Int32 => gG Z ad T M 0 0 4 [(0, .ref a0), (1, .int x0.1), (2, .int x0.2)] []) (e := o) (fun x0 y hy hl hr => ?_) gFU (i1, i2) h
  exact t_X3_countOffers_B4 hF hn hd q0 hy (fun e9 q9 => by rw [hl _ q9]; exact hE) (fun n9 q9 => hr n9 q9)
theorem t_X3_countOffers {Z : gZ} {d mc ms : Nat} {Acc : Option Value → (Nat → Nat) → gT → gM → Prop} {AccX : Nat → (Nat → Nat) → gT → gM → Prop} {ad : Nat → Nat} {T : gT} {M : gM} {m_a0 : Nat} {a0 : Nat} {o : Int32} (hF : gFix Z cX3_countOffers RX3 "countOffers" (some .int) d mc ms Acc AccX) (hn : Z.2.2.2.2.2.1 = 3) (hd : 2 ≤ d) (q0 : T[a0]? = some (3, m_a0)) (h : f_X3_countOffers T M a0 = some o) (hR : Acc (some (.int o)) ad T M) : gG Z ad T M 0 0 0 [(0, .ref a0)] [] := by
  unfold f_X3_countOffers at h
  refine g_iconst (v := (0 : Int32)) hF rfl dX3_countOffers_0 ?_
  refine g_istore_n (ls' := [(1, .int (0 : Int32)), (0, .ref a0)]) hF rfl (by rw [hn]; decide) rfl dX3_countOffers_1 ?_
  refine g_iconst (v := (0 : Int32)) hF rfl dX3_countOffers_2 ?_
  refine g_istore_n (ls' := [(2, .int (0 : Int32)), (1, .int (0 : Int32)), (0, .ref a0)]) hF rfl (by rw [hn]; decide) rfl dX3_countOffers_3 ?_
  obtain ⟨x4, h4, h⟩ := gbnd h
  refine gG_sub [2, 1, 0] rfl (t_X3_countOffers_L4 hF hn hd q0 h4 ?_)
  refine g_iload_n hF 0 rfl rfl dX3_countOffers_27 ?_
  cases h
  exact g_ret_i hF rfl rfl dX3_countOffers_28 hR (Nat.zero_le _) (Nat.zero_le _)
theorem c_X3_countOffers {d : Nat} {T : gT} {M : gM} {m_a0 : Nat} {a0 : Nat} {r : Int32} (hd : 2 ≤ d) (q0 : T[a0]? = some (3, m_a0)) (h : f_X3_countOffers T M a0 = some (r)) : gRet d yX3_countOffers cX3_countOffers 3 (some .int) 0 0 [.ref a0] T M (gSame T (some (.int r)) M) := by
  refine gRet_of (own := RX3) (by decide) rfl (Nat.le_of_ble_eq_true rfl) (fun Z ad0 hn h0 hF => ?_)
  exact t_X3_countOffers hF hn hd q0 h ⟨rfl, rfl, rfl, rfl⟩
theorem t_J7_fill_53178_B5 {Z : gZ} {d mc ms : Nat} {Acc : Option Value → (Nat → Nat) → gT → gM → Prop} {AccX : Nat → (Nat → Nat) → gT → gM → Prop} {ad : Nat → Nat} {T : gT} {M : gM} {m_a0 : Nat} {a0 : Nat} {i1 : Int32} {i2 : Int32} {i3 : Int32} {o : (gM) ⊕ (Int32 × gM)} (hF : gFix Z cJ7_fill_53178 RJ7 "fill" none d mc ms Acc AccX) (hn : Z.2.2.2.2.2.1 = 4) (hd : 1 ≤ d) (q0 : T[a0]? = some (11, m_a0)) (h : f_J7_fill_53178_B5 T M a0 i1 i2 i3 = some o) (hE : ∀ e9, o = .inl e9 → gG Z ad T e9 0 0 20 [] []) (hN : ∀ n9, o = .inr n9 → gG Z ad T n9.2 0 0 5 [(0, .ref a0), (1, .int i1), (2, .int n9.1), (3, .int i3)] []) : gG Z ad T M 0 0 5 [(0, .ref a0), (1, .int i1), (2, .int i2), (3, .int i3)] [] := by
  unfold f_J7_fill_53178_B5 at h
  refine g_iload_n hF 2 rfl rfl dJ7_fill_53178_5 ?_
  refine g_iload_n hF 3 rfl rfl dJ7_fill_53178_6 ?_
  refine g_icmp_ge (tgt := 20) hF dJ7_fill_53178_7 (by decide) (fun c1 => ?_) (fun c1 => ?_)
  · replace h := gif_t c1 h
    exact gG_sub [] rfl (hE _ (Option.some.inj h).symm)
  · replace h := gif_f c1 h
    refine g_aload_n hF 0 rfl rfl dJ7_fill_53178_10 ?_
    refine g_iload_n hF 2 rfl rfl dJ7_fill_53178_11 ?_
    refine g_iload_n hF 1 rfl rfl dJ7_fill_53178_12 ?_
    obtain ⟨M2, h2, h⟩ := gbnd h
    obtain ⟨i2h, e2v⟩ := ast_sp q0 h2
    refine g_iast hF q0 i2h dJ7_fill_53178_13 ?_
    rw [← e2v]
    refine g_iinc (v := (i2 + (1 : Int32))) (ls' := [(2, .int (i2 + (1 : Int32))), (0, .ref a0), (1, .int i1), (3, .int i3)]) hF 2 rfl rfl (by rw [hn]; decide) rfl dJ7_fill_53178_14 ?_
    refine g_goto (tgt := 5) hF dJ7_fill_53178_17 (by decide) ?_
    exact gG_sub [1, 2, 0, 3] rfl (hN _ (Option.some.inj h).symm)
theorem t_J7_fill_53178_L5 {Z : gZ} {d mc ms : Nat} {Acc : Option Value → (Nat → Nat) → gT → gM → Prop} {AccX : Nat → (Nat → Nat) → gT → gM → Prop} {ad : Nat → Nat} {T : gT} {M : gM} {m_a0 : Nat} {a0 : Nat} {i1 : Int32} {i2 : Int32} {i3 : Int32} {o : gM} (hF : gFix Z cJ7_fill_53178 RJ7 "fill" none d mc ms Acc AccX) (hn : Z.2.2.2.2.2.1 = 4) (hd : 1 ≤ d) (q0 : T[a0]? = some (11, m_a0)) (h : gloop (fun x => f_J7_fill_53178_B5 T x.2 a0 i1 x.1 i3) gFU (i2, M) = some o) (hE : gG Z ad T o 0 0 20 [] []) : gG Z ad T M 0 0 5 [(0, .ref a0), (1, .int i1), (2, .int i2), (3, .int i3)] [] := by
  refine gloop_ind (P := fun x0 : Int32 × gM => gG Z ad T x0.2 0 0 5 [(0, .ref a0), (1, .int i1), (2, .int x0.1), (3, .int i3)] []) (e := o) (fun x0 y hy hl hr => ?_) gFU (i2, M) h
  exact t_J7_fill_53178_B5 hF hn hd q0 hy (fun e9 q9 => by rw [hl _ q9]; exact hE) (fun n9 q9 => hr n9 q9)
theorem t_J7_fill_53178 {Z : gZ} {d mc ms : Nat} {Acc : Option Value → (Nat → Nat) → gT → gM → Prop} {AccX : Nat → (Nat → Nat) → gT → gM → Prop} {ad : Nat → Nat} {T : gT} {M : gM} {m_a0 : Nat} {a0 : Nat} {i1 : Int32} {o : gM} (hF : gFix Z cJ7_fill_53178 RJ7 "fill" none d mc ms Acc AccX) (hn : Z.2.2.2.2.2.1 = 4) (hd : 1 ≤ d) (q0 : T[a0]? = some (11, m_a0)) (h : f_J7_fill_53178 T M a0 i1 = some o) (hR : Acc none ad T o) : gG Z ad T M 0 0 0 [(0, .ref a0), (1, .int i1)] [] := by
  unfold f_J7_fill_53178 at h
  refine g_iconst (v := (0 : Int32)) hF rfl dJ7_fill_53178_0 ?_
  refine g_istore_n (ls' := [(2, .int (0 : Int32)), (0, .ref a0), (1, .int i1)]) hF rfl (by rw [hn]; decide) rfl dJ7_fill_53178_1 ?_
  refine g_aload_n hF 1 rfl rfl dJ7_fill_53178_2 ?_
  refine g_alenA hF q0 (by decide) dJ7_fill_53178_3 ?_
  refine g_istore_n (ls' := [(3, .int (Int32.ofNat (alen T a0))), (2, .int (0 : Int32)), (0, .ref a0), (1, .int i1)]) hF rfl (by rw [hn]; decide) rfl dJ7_fill_53178_4 ?_
  obtain ⟨x3, h3, h⟩ := gbnd h
  refine gG_sub [2, 3, 1, 0] rfl (t_J7_fill_53178_L5 hF hn hd q0 h3 ?_)
  cases h
  exact g_ret_v hF rfl dJ7_fill_53178_20 hR (Nat.zero_le _) (Nat.zero_le _)
theorem c_J7_fill_53178 {d : Nat} {T : gT} {M : gM} {m_a0 : Nat} {a0 : Nat} {i1 : Int32} {r : gM} (hd : 1 ≤ d) (q0 : T[a0]? = some (11, m_a0)) (h : f_J7_fill_53178 T M a0 i1 = some (r)) : gRet d yJ7_fill_53178 cJ7_fill_53178 4 none 0 0 [.ref a0, .int i1] T M (gSame T none r) := by
  refine gRet_of (own := RJ7) (by decide) rfl (Nat.le_of_ble_eq_true rfl) (fun Z ad0 hn h0 hF => ?_)
  exact t_J7_fill_53178 hF hn hd q0 h ⟨rfl, rfl, rfl, rfl⟩
theorem t_X3_startAs {Z : gZ} {d mc ms : Nat} {Acc : Option Value → (Nat → Nat) → gT → gM → Prop} {AccX : Nat → (Nat → Nat) → gT → gM → Prop} {ad : Nat → Nat} {T : gT} {M : gM} {m_a0 : Nat} {a0 : Nat} {i1 : Int32} {i2 : Int32} {o : gM} (hF : gFix Z cX3_startAs RX3 "startAs" none d mc ms Acc AccX) (hn : Z.2.2.2.2.2.1 = 3) (hd : 2 ≤ d) (q0 : T[a0]? = some (3, m_a0)) (h : f_X3_startAs T M a0 i1 i2 = some o) (hR : Acc none ad T o) : gG Z ad T M 0 0 0 [(0, .ref a0), (1, .int i1), (2, .int i2)] [] := by
  unfold f_X3_startAs at h
  refine g_aload_n hF 0 rfl rfl dX3_startAs_0 ?_
  refine g_iload_n hF 1 rfl rfl dX3_startAs_1 ?_
  refine g_put_i hF rfl rfl fl_RX3_9 q0 dX3_startAs_2 ?_
  refine g_aload_n hF 0 rfl rfl dX3_startAs_5 ?_
  refine g_iconst (v := (0 : Int32)) hF rfl dX3_startAs_6 ?_
  refine g_put_i hF rfl rfl fl_RX3_15 q0 dX3_startAs_7 ?_
  refine g_aload_n hF 0 rfl rfl dX3_startAs_10 ?_
  refine g_iload_n hF 2 rfl rfl dX3_startAs_11 ?_
  refine g_put_i hF rfl rfl fl_RX3_19 q0 dX3_startAs_12 ?_
  refine g_aload_n hF 0 rfl rfl dX3_startAs_15 ?_
  obtain ⟨b1, h1, h⟩ := gbnd h
  obtain ⟨g1, l1, q_b1⟩ := ldr_sp h1
  refine g_get_r hF g1 fl_RX3_22 q0 dX3_startAs_16 ?_
  refine g_iconst (v := (-1 : Int32)) hF rfl dX3_startAs_19 ?_
  obtain ⟨x2, h2, h⟩ := gbnd h
  refine g_callS hF my_J7_fill_53178 kw_828 kw_668 (c_J7_fill_53178 (d := d - 1) (by omega) q_b1 h2) (by omega) (Nat.zero_le _) (Nat.zero_le _) rfl rfl (Nat.le_of_ble_eq_true rfl) dX3_startAs_20 (g_sameN ?_)
  refine g_aload_n hF 0 rfl rfl dX3_startAs_23 ?_
  refine g_iconst (v := (0 : Int32)) hF rfl dX3_startAs_24 ?_
  refine g_put_i hF rfl rfl fl_RX3_29 q0 dX3_startAs_25 ?_
  cases h
  exact g_ret_v hF rfl dX3_startAs_28 hR (Nat.zero_le _) (Nat.zero_le _)
theorem c_X3_startAs {d : Nat} {T : gT} {M : gM} {m_a0 : Nat} {a0 : Nat} {i1 : Int32} {i2 : Int32} {r : gM} (hd : 2 ≤ d) (q0 : T[a0]? = some (3, m_a0)) (h : f_X3_startAs T M a0 i1 i2 = some (r)) : gRet d yX3_startAs cX3_startAs 3 none 0 0 [.ref a0, .int i1, .int i2] T M (gSame T none r) := by
  refine gRet_of (own := RX3) (by decide) rfl (Nat.le_of_ble_eq_true rfl) (fun Z ad0 hn h0 hF => ?_)
  exact t_X3_startAs hF hn hd q0 h ⟨rfl, rfl, rfl, rfl⟩
theorem t_X3_addPreference {Z : gZ} {d mc ms : Nat} {Acc : Option Value → (Nat → Nat) → gT → gM → Prop} {AccX : Nat → (Nat → Nat) → gT → gM → Prop} {ad : Nat → Nat} {T : gT} {M : gM} {m_a0 : Nat} {a0 : Nat} {i1 : Int32} {o : gM} (hF : gFix Z cX3_addPreference RX3 "addPreference" none d mc ms Acc AccX) (hn : Z.2.2.2.2.2.1 = 2) (hd : 1 ≤ d) (q0 : T[a0]? = some (3, m_a0)) (h : f_X3_addPreference T M a0 i1 = some o) (hR : Acc none ad T o) : gG Z ad T M 0 0 0 [(0, .ref a0), (1, .int i1)] [] := by
  unfold f_X3_addPreference at h
  refine g_aload_n hF 0 rfl rfl dX3_addPreference_0 ?_
  refine g_get_i hF fl_RX3_29 q0 dX3_addPreference_1 ?_
  refine g_bipush (v := (8 : Int32)) hF rfl dX3_addPreference_4 ?_
  refine g_icmp_ge (tgt := 29) hF dX3_addPreference_6 (by decide) (fun c1 => ?_) (fun c1 => ?_)
  · replace h := gif_t c1 h
    cases h
    exact g_ret_v hF rfl dX3_addPreference_29 hR (Nat.zero_le _) (Nat.zero_le _)
  · replace h := gif_f c1 h
    refine g_aload_n hF 0 rfl rfl dX3_addPreference_9 ?_
    obtain ⟨b2, h2, h⟩ := gbnd h
    obtain ⟨g2, l2, q_b2⟩ := ldr_sp h2
    refine g_get_r hF g2 fl_RX3_26 q0 dX3_addPreference_10 ?_
    refine g_aload_n hF 0 rfl rfl dX3_addPreference_13 ?_
    refine g_get_i hF fl_RX3_29 q0 dX3_addPreference_14 ?_
    refine g_iload_n hF 1 rfl rfl dX3_addPreference_17 ?_
    obtain ⟨M3, h3, h⟩ := gbnd h
    obtain ⟨i3h, e3v⟩ := ast_sp q_b2 h3
    refine g_iast hF q_b2 i3h dX3_addPreference_18 ?_
    rw [← e3v]
    refine g_aload_n hF 0 rfl rfl dX3_addPreference_19 ?_
    refine g_dup hF rfl dX3_addPreference_20 ?_
    refine g_get_i hF fl_RX3_29 q0 dX3_addPreference_21 ?_
    refine g_iconst (v := (1 : Int32)) hF rfl dX3_addPreference_24 ?_
    refine g_iadd hF dX3_addPreference_25 ?_
    refine g_put_i hF rfl rfl fl_RX3_29 q0 dX3_addPreference_26 ?_
    cases h
    exact g_ret_v hF rfl dX3_addPreference_29 hR (Nat.zero_le _) (Nat.zero_le _)
theorem c_X3_addPreference {d : Nat} {T : gT} {M : gM} {m_a0 : Nat} {a0 : Nat} {i1 : Int32} {r : gM} (hd : 1 ≤ d) (q0 : T[a0]? = some (3, m_a0)) (h : f_X3_addPreference T M a0 i1 = some (r)) : gRet d yX3_addPreference cX3_addPreference 2 none 0 0 [.ref a0, .int i1] T M (gSame T none r) := by
  refine gRet_of (own := RX3) (by decide) rfl (Nat.le_of_ble_eq_true rfl) (fun Z ad0 hn h0 hF => ?_)
  exact t_X3_addPreference hF hn hd q0 h ⟨rfl, rfl, rfl, rfl⟩
theorem t_J7_copyOf_59c91 {Z : gZ} {d mc ms : Nat} {Acc : Option Value → (Nat → Nat) → gT → gM → Prop} {AccX : Nat → (Nat → Nat) → gT → gM → Prop} {ad : Nat → Nat} {T : gT} {M : gM} {m_a0 : Nat} {a0 : Nat} {i1 : Int32} {o : Nat × gT × gM} (hF : gFix Z cJ7_copyOf_59c91 RJ7 "copyOf" (some (.array .int)) d mc ms Acc AccX) (hn : Z.2.2.2.2.2.1 = 3) (hd : 1 ≤ d) (hmc : 1 ≤ mc) (hms : 800 ≤ ms) (q0 : T[a0]? = some (11, m_a0)) (h : f_J7_copyOf_59c91 T M a0 i1 = some o) (hR : ∀ ad1 : Nat → Nat, gExt T o.2.1 → (∀ a : Nat, a < T.length → ad1 a = ad a) → Acc (some (.ref o.1)) ad1 o.2.1 o.2.2) : gG Z ad T M 0 0 0 [(0, .ref a0), (1, .int i1)] [] := by
  unfold f_J7_copyOf_59c91 at h
  refine g_iload_n hF 1 rfl rfl dJ7_copyOf_59c91_0 ?_
  refine g_aload_n hF 0 rfl rfl dJ7_copyOf_59c91_1 ?_
  refine g_alenA hF q0 (by decide) dJ7_copyOf_59c91_2 ?_
  refine g_icmp_ne (tgt := 14) hF dJ7_copyOf_59c91_3 (by decide) (fun c1 => ?_) (fun c1 => ?_)
  · replace h := gif_t c1 h
    refine g_iload_n hF 1 rfl rfl dJ7_copyOf_59c91_14 ?_
    obtain ⟨x2, h2, h⟩ := gbnd h
    obtain ⟨n20, n21, n2h⟩ := gnewa_sp h2
    refine g_newa_int hF n20 rfl (Nat.le_trans n21 (by decide)) kw_200 n2h (gnew_lt n2h) (gFr_r (gT_ne q0) (gFr_i gFr_0)) gFr_0 (by omega) (by omega) dJ7_copyOf_59c91_15 (fun ad2 z2 => ?_)
    refine gG_wid (k := 1) (n := 800) hF (by omega) (by omega) ?_
    have X2 := gExt.tr gExt.rf (gnew_ext n2h)
    have W2 := gad_new n2h z2 gExt.rf (fun _ _ => rfl)
    have q_3 := gnew_ext n2h _ _ q0
    have q_y2 := gnew_at n2h
    refine g_astore_n (ls' := [(2, .ref x2.1), (0, .ref a0), (1, .int i1)]) hF rfl (by rw [hn]; decide) rfl dJ7_copyOf_59c91_17 ?_
    refine g_aload_n hF 1 rfl rfl dJ7_copyOf_59c91_18 ?_
    refine g_iconst (v := (0 : Int32)) hF rfl dJ7_copyOf_59c91_19 ?_
    refine g_aload_n hF 0 rfl rfl dJ7_copyOf_59c91_20 ?_
    refine g_iconst (v := (0 : Int32)) hF rfl dJ7_copyOf_59c91_21 ?_
    refine g_aload_n hF 1 rfl rfl dJ7_copyOf_59c91_22 ?_
    refine g_alenA hF q_3 (by decide) dJ7_copyOf_59c91_23 ?_
    refine g_iload_n hF 2 rfl rfl dJ7_copyOf_59c91_24 ?_
    refine g_min hF kw_900 (by omega) (by omega) (by omega) (Nat.le_of_ble_eq_true rfl) dJ7_copyOf_59c91_25 ?_
    obtain ⟨M5, h5, h⟩ := gbnd h
    obtain ⟨k5a, k5b, k5c, k5d, k5e, e5v⟩ := acp_sp q_3 q_y2 h5
    refine g_copy_i hF kw_901 q_3 q_y2 k5a k5b k5c k5d k5e (by omega) (Nat.le_of_ble_eq_true rfl) dJ7_copyOf_59c91_28 ?_
    rw [← e5v]
    refine g_aload_n hF 0 rfl rfl dJ7_copyOf_59c91_31 ?_
    cases h
    exact g_ret_a hF rfl (Or.inr ⟨_, rfl⟩) dJ7_copyOf_59c91_32 (hR ad2 X2 W2) (by omega) (by omega)
  · replace h := gif_n c1 h
    refine g_aload_n hF 0 rfl rfl dJ7_copyOf_59c91_6 ?_
    cases h
theorem c_J7_copyOf_59c91 {d : Nat} {T : gT} {M : gM} {m_a0 : Nat} {a0 : Nat} {i1 : Int32} {r : Nat × gT × gM} (hd : 1 ≤ d) (q0 : T[a0]? = some (11, m_a0)) (h : f_J7_copyOf_59c91 T M a0 i1 = some (r)) : gRet d yJ7_copyOf_59c91 cJ7_copyOf_59c91 3 (some (.array .int)) 1 800 [.ref a0, .int i1] T M (gMade T (some (.ref r.1)) r.2.1 r.2.2) := by
  refine gRet_of (own := RJ7) (by decide) rfl (Nat.le_of_ble_eq_true rfl) (fun Z ad0 hn h0 hF => ?_)
  exact t_J7_copyOf_59c91 hF hn hd (Nat.le_refl _) (Nat.le_refl _) q0 h (fun ad1 x1 y1 => ⟨rfl, rfl, rfl, x1, y1⟩)
end
