section
-- ===== PART A: goes FIRST, ahead of the names: the tables' words, and 'selects' of the private methods out of them =====
/-- a private method of a class that the tables say can be made, by its rows of tables_1 -/
def lw_okq (q : MethodName × Nat) : Prop := (q.1.cls ≠ "java/lang/invoke/MethodHandle" ∧ q.1.cls ≠ "java/lang/invoke/VarHandle") ∧ Cond.instantiable q.1.cls q.2 ∈ tables_1 ∧ Cond.privateMethod q.1 ∈ tables_1 ∧ Cond.instanceMethod q.1 ∈ tables_1
theorem lw_p0 : lw_okq (⟨"NotaryBook", "putFourBytes", "(I)V"⟩, 15) := ⟨⟨by decide +kernel, by decide +kernel⟩, List.mem_of_getElem? (i := 32) (by decide +kernel), List.mem_of_getElem? (i := 431) (by decide +kernel), List.mem_of_getElem? (i := 432) (by decide +kernel)⟩
theorem lw_p1 : lw_okq (⟨"NotaryBook", "requireBytes", "(I)V"⟩, 15) := ⟨⟨by decide +kernel, by decide +kernel⟩, List.mem_of_getElem? (i := 32) (by decide +kernel), List.mem_of_getElem? (i := 460) (by decide +kernel), List.mem_of_getElem? (i := 461) (by decide +kernel)⟩
theorem lw_p2 : lw_okq (⟨"java/lang/Throwable", "fillInStackTrace", "(I)Ljava/lang/Throwable;"⟩, 6) := ⟨⟨by decide +kernel, by decide +kernel⟩, List.mem_of_getElem? (i := 504) (by decide +kernel), List.mem_of_getElem? (i := 502) (by decide +kernel), List.mem_of_getElem? (i := 503) (by decide +kernel)⟩
theorem lw_p3 : lw_okq (⟨"NotaryBook$Scanner", "readWord", "()V"⟩, 7) := ⟨⟨by decide +kernel, by decide +kernel⟩, List.mem_of_getElem? (i := 283) (by decide +kernel), List.mem_of_getElem? (i := 555) (by decide +kernel), List.mem_of_getElem? (i := 556) (by decide +kernel)⟩
theorem lw_p4 : lw_okq (⟨"NotaryBook$Scanner", "readNumber", "()V"⟩, 7) := ⟨⟨by decide +kernel, by decide +kernel⟩, List.mem_of_getElem? (i := 283) (by decide +kernel), List.mem_of_getElem? (i := 565) (by decide +kernel), List.mem_of_getElem? (i := 566) (by decide +kernel)⟩
theorem lw_p5 : lw_okq (⟨"NotaryBook$Parser", "readHead", "()Z"⟩, 5) := ⟨⟨by decide +kernel, by decide +kernel⟩, List.mem_of_getElem? (i := 277) (by decide +kernel), List.mem_of_getElem? (i := 572) (by decide +kernel), List.mem_of_getElem? (i := 573) (by decide +kernel)⟩
theorem lw_p6 : lw_okq (⟨"NotaryBook$Parser", "isAtWord", "(Ljava/lang/String;)Z"⟩, 5) := ⟨⟨by decide +kernel, by decide +kernel⟩, List.mem_of_getElem? (i := 277) (by decide +kernel), List.mem_of_getElem? (i := 577) (by decide +kernel), List.mem_of_getElem? (i := 578) (by decide +kernel)⟩
theorem lw_p7 : lw_okq (⟨"NotaryBook$Parser", "fail", "(I)Z"⟩, 5) := ⟨⟨by decide +kernel, by decide +kernel⟩, List.mem_of_getElem? (i := 277) (by decide +kernel), List.mem_of_getElem? (i := 632) (by decide +kernel), List.mem_of_getElem? (i := 633) (by decide +kernel)⟩
theorem lw_p8 : lw_okq (⟨"NotaryBook$Parser", "checkNextNumber", "(II)Z"⟩, 5) := ⟨⟨by decide +kernel, by decide +kernel⟩, List.mem_of_getElem? (i := 277) (by decide +kernel), List.mem_of_getElem? (i := 636) (by decide +kernel), List.mem_of_getElem? (i := 637) (by decide +kernel)⟩
theorem lw_p9 : lw_okq (⟨"NotaryBook$Parser", "checkNumber", "(II)Z"⟩, 5) := ⟨⟨by decide +kernel, by decide +kernel⟩, List.mem_of_getElem? (i := 277) (by decide +kernel), List.mem_of_getElem? (i := 641) (by decide +kernel), List.mem_of_getElem? (i := 642) (by decide +kernel)⟩
theorem lw_p10 : lw_okq (⟨"NotaryBook$Parser", "finishLine", "()Z"⟩, 5) := ⟨⟨by decide +kernel, by decide +kernel⟩, List.mem_of_getElem? (i := 277) (by decide +kernel), List.mem_of_getElem? (i := 645) (by decide +kernel), List.mem_of_getElem? (i := 646) (by decide +kernel)⟩
theorem lw_p11 : lw_okq (⟨"NotaryBook$Parser", "readLine", "()Z"⟩, 5) := ⟨⟨by decide +kernel, by decide +kernel⟩, List.mem_of_getElem? (i := 277) (by decide +kernel), List.mem_of_getElem? (i := 649) (by decide +kernel), List.mem_of_getElem? (i := 650) (by decide +kernel)⟩
theorem lw_p12 : lw_okq (⟨"NotaryBook$Parser", "readActLine", "()Z"⟩, 5) := ⟨⟨by decide +kernel, by decide +kernel⟩, List.mem_of_getElem? (i := 277) (by decide +kernel), List.mem_of_getElem? (i := 654) (by decide +kernel), List.mem_of_getElem? (i := 655) (by decide +kernel)⟩
theorem lw_p13 : lw_okq (⟨"NotaryBook$Parser", "kindAtWord", "()I"⟩, 5) := ⟨⟨by decide +kernel, by decide +kernel⟩, List.mem_of_getElem? (i := 277) (by decide +kernel), List.mem_of_getElem? (i := 662) (by decide +kernel), List.mem_of_getElem? (i := 663) (by decide +kernel)⟩
theorem lw_p14 : lw_okq (⟨"NotaryBook$Parser", "readBody", "()Z"⟩, 5) := ⟨⟨by decide +kernel, by decide +kernel⟩, List.mem_of_getElem? (i := 277) (by decide +kernel), List.mem_of_getElem? (i := 669) (by decide +kernel), List.mem_of_getElem? (i := 670) (by decide +kernel)⟩
theorem lw_p15 : lw_okq (⟨"NotaryBook$Parser", "readStrikeLine", "()Z"⟩, 5) := ⟨⟨by decide +kernel, by decide +kernel⟩, List.mem_of_getElem? (i := 277) (by decide +kernel), List.mem_of_getElem? (i := 732) (by decide +kernel), List.mem_of_getElem? (i := 733) (by decide +kernel)⟩
def lw_privs_1 : List (MethodName × Nat) := [(⟨"NotaryBook", "putFourBytes", "(I)V"⟩, 15), (⟨"NotaryBook", "requireBytes", "(I)V"⟩, 15), (⟨"java/lang/Throwable", "fillInStackTrace", "(I)Ljava/lang/Throwable;"⟩, 6), (⟨"NotaryBook$Scanner", "readWord", "()V"⟩, 7), (⟨"NotaryBook$Scanner", "readNumber", "()V"⟩, 7), (⟨"NotaryBook$Parser", "readHead", "()Z"⟩, 5), (⟨"NotaryBook$Parser", "isAtWord", "(Ljava/lang/String;)Z"⟩, 5), (⟨"NotaryBook$Parser", "fail", "(I)Z"⟩, 5), (⟨"NotaryBook$Parser", "checkNextNumber", "(II)Z"⟩, 5), (⟨"NotaryBook$Parser", "checkNumber", "(II)Z"⟩, 5), (⟨"NotaryBook$Parser", "finishLine", "()Z"⟩, 5), (⟨"NotaryBook$Parser", "readLine", "()Z"⟩, 5), (⟨"NotaryBook$Parser", "readActLine", "()Z"⟩, 5), (⟨"NotaryBook$Parser", "kindAtWord", "()I"⟩, 5), (⟨"NotaryBook$Parser", "readBody", "()Z"⟩, 5), (⟨"NotaryBook$Parser", "readStrikeLine", "()Z"⟩, 5)]
theorem lw_r1 : ∀ q ∈ lw_privs_1, lw_okq q := List.forall_mem_cons.mpr ⟨lw_p0, List.forall_mem_cons.mpr ⟨lw_p1, List.forall_mem_cons.mpr ⟨lw_p2, List.forall_mem_cons.mpr ⟨lw_p3, List.forall_mem_cons.mpr ⟨lw_p4, List.forall_mem_cons.mpr ⟨lw_p5, List.forall_mem_cons.mpr ⟨lw_p6, List.forall_mem_cons.mpr ⟨lw_p7, List.forall_mem_cons.mpr ⟨lw_p8, List.forall_mem_cons.mpr ⟨lw_p9, List.forall_mem_cons.mpr ⟨lw_p10, List.forall_mem_cons.mpr ⟨lw_p11, List.forall_mem_cons.mpr ⟨lw_p12, List.forall_mem_cons.mpr ⟨lw_p13, List.forall_mem_cons.mpr ⟨lw_p14, List.forall_mem_cons.mpr ⟨lw_p15, fun _ h => absurd h List.not_mem_nil⟩⟩⟩⟩⟩⟩⟩⟩⟩⟩⟩⟩⟩⟩⟩⟩
theorem lw_p16 : lw_okq (⟨"NotaryBook$Parser", "readOutLine", "()Z"⟩, 5) := ⟨⟨by decide +kernel, by decide +kernel⟩, List.mem_of_getElem? (i := 277) (by decide +kernel), List.mem_of_getElem? (i := 758) (by decide +kernel), List.mem_of_getElem? (i := 759) (by decide +kernel)⟩
theorem lw_p17 : lw_okq (⟨"NotaryBook$Clause", "followFrom", "(LNotaryBook$Script;LNotaryBook$Act;I)V"⟩, 4) := ⟨⟨by decide +kernel, by decide +kernel⟩, List.mem_of_getElem? (i := 120) (by decide +kernel), List.mem_of_getElem? (i := 778) (by decide +kernel), List.mem_of_getElem? (i := 779) (by decide +kernel)⟩
theorem lw_p18 : lw_okq (⟨"NotaryBook$Parser", "readInsertLine", "()Z"⟩, 5) := ⟨⟨by decide +kernel, by decide +kernel⟩, List.mem_of_getElem? (i := 277) (by decide +kernel), List.mem_of_getElem? (i := 788) (by decide +kernel), List.mem_of_getElem? (i := 789) (by decide +kernel)⟩
theorem lw_p19 : lw_okq (⟨"NotaryBook$Parser", "readSealLine", "()Z"⟩, 5) := ⟨⟨by decide +kernel, by decide +kernel⟩, List.mem_of_getElem? (i := 277) (by decide +kernel), List.mem_of_getElem? (i := 806) (by decide +kernel), List.mem_of_getElem? (i := 807) (by decide +kernel)⟩
theorem lw_p20 : lw_okq (⟨"NotaryBook$Parser", "readCancelLine", "()Z"⟩, 5) := ⟨⟨by decide +kernel, by decide +kernel⟩, List.mem_of_getElem? (i := 277) (by decide +kernel), List.mem_of_getElem? (i := 831) (by decide +kernel), List.mem_of_getElem? (i := 832) (by decide +kernel)⟩
theorem lw_p21 : lw_okq (⟨"NotaryBook$Parser", "readCopyLine", "()Z"⟩, 5) := ⟨⟨by decide +kernel, by decide +kernel⟩, List.mem_of_getElem? (i := 277) (by decide +kernel), List.mem_of_getElem? (i := 840) (by decide +kernel), List.mem_of_getElem? (i := 841) (by decide +kernel)⟩
theorem lw_p22 : lw_okq (⟨"NotaryBook$Leaves", "loosenMateOf", "(I)V"⟩, 4) := ⟨⟨by decide +kernel, by decide +kernel⟩, List.mem_of_getElem? (i := 96) (by decide +kernel), List.mem_of_getElem? (i := 882) (by decide +kernel), List.mem_of_getElem? (i := 883) (by decide +kernel)⟩
theorem lw_p23 : lw_okq (⟨"NotaryBook$Parser", "readLeafLine", "()Z"⟩, 5) := ⟨⟨by decide +kernel, by decide +kernel⟩, List.mem_of_getElem? (i := 277) (by decide +kernel), List.mem_of_getElem? (i := 886) (by decide +kernel), List.mem_of_getElem? (i := 887) (by decide +kernel)⟩
theorem lw_p24 : lw_okq (⟨"NotaryBook", "forgetPast", "()V"⟩, 15) := ⟨⟨by decide +kernel, by decide +kernel⟩, List.mem_of_getElem? (i := 32) (by decide +kernel), List.mem_of_getElem? (i := 925) (by decide +kernel), List.mem_of_getElem? (i := 926) (by decide +kernel)⟩
theorem lw_p25 : lw_okq (⟨"NotaryBook", "requireBook", "()V"⟩, 15) := ⟨⟨by decide +kernel, by decide +kernel⟩, List.mem_of_getElem? (i := 32) (by decide +kernel), List.mem_of_getElem? (i := 937) (by decide +kernel), List.mem_of_getElem? (i := 938) (by decide +kernel)⟩
theorem lw_p26 : lw_okq (⟨"NotaryBook", "requireAct", "(I)LNotaryBook$Act;"⟩, 15) := ⟨⟨by decide +kernel, by decide +kernel⟩, List.mem_of_getElem? (i := 32) (by decide +kernel), List.mem_of_getElem? (i := 989) (by decide +kernel), List.mem_of_getElem? (i := 990) (by decide +kernel)⟩
theorem lw_p27 : lw_okq (⟨"NotaryBook", "requireLeaf", "(I)V"⟩, 15) := ⟨⟨by decide +kernel, by decide +kernel⟩, List.mem_of_getElem? (i := 32) (by decide +kernel), List.mem_of_getElem? (i := 1064) (by decide +kernel), List.mem_of_getElem? (i := 1065) (by decide +kernel)⟩
theorem lw_p28 : lw_okq (⟨"NotaryBook$Book", "isOn", "(LNotaryBook$Act;I)Z"⟩, 12) := ⟨⟨by decide +kernel, by decide +kernel⟩, List.mem_of_getElem? (i := 40) (by decide +kernel), List.mem_of_getElem? (i := 1079) (by decide +kernel), List.mem_of_getElem? (i := 1080) (by decide +kernel)⟩
theorem lw_p29 : lw_okq (⟨"NotaryBook", "requireCopy", "(I)LNotaryBook$Copy;"⟩, 15) := ⟨⟨by decide +kernel, by decide +kernel⟩, List.mem_of_getElem? (i := 32) (by decide +kernel), List.mem_of_getElem? (i := 1096) (by decide +kernel), List.mem_of_getElem? (i := 1097) (by decide +kernel)⟩
theorem lw_p30 : lw_okq (⟨"NotaryBook", "inputWord", "(I)J"⟩, 15) := ⟨⟨by decide +kernel, by decide +kernel⟩, List.mem_of_getElem? (i := 32) (by decide +kernel), List.mem_of_getElem? (i := 1261) (by decide +kernel), List.mem_of_getElem? (i := 1262) (by decide +kernel)⟩
theorem lw_p31 : lw_okq (⟨"NotaryBook$Pen", "putBlank", "()V"⟩, 1) := ⟨⟨by decide +kernel, by decide +kernel⟩, List.mem_of_getElem? (i := 338) (by decide +kernel), List.mem_of_getElem? (i := 1574) (by decide +kernel), List.mem_of_getElem? (i := 1575) (by decide +kernel)⟩
def lw_privs_2 : List (MethodName × Nat) := [(⟨"NotaryBook$Parser", "readOutLine", "()Z"⟩, 5), (⟨"NotaryBook$Clause", "followFrom", "(LNotaryBook$Script;LNotaryBook$Act;I)V"⟩, 4), (⟨"NotaryBook$Parser", "readInsertLine", "()Z"⟩, 5), (⟨"NotaryBook$Parser", "readSealLine", "()Z"⟩, 5), (⟨"NotaryBook$Parser", "readCancelLine", "()Z"⟩, 5), (⟨"NotaryBook$Parser", "readCopyLine", "()Z"⟩, 5), (⟨"NotaryBook$Leaves", "loosenMateOf", "(I)V"⟩, 4), (⟨"NotaryBook$Parser", "readLeafLine", "()Z"⟩, 5), (⟨"NotaryBook", "forgetPast", "()V"⟩, 15), (⟨"NotaryBook", "requireBook", "()V"⟩, 15), (⟨"NotaryBook", "requireAct", "(I)LNotaryBook$Act;"⟩, 15), (⟨"NotaryBook", "requireLeaf", "(I)V"⟩, 15), (⟨"NotaryBook$Book", "isOn", "(LNotaryBook$Act;I)Z"⟩, 12), (⟨"NotaryBook", "requireCopy", "(I)LNotaryBook$Copy;"⟩, 15), (⟨"NotaryBook", "inputWord", "(I)J"⟩, 15), (⟨"NotaryBook$Pen", "putBlank", "()V"⟩, 1)]
theorem lw_r2 : ∀ q ∈ lw_privs_2, lw_okq q := List.forall_mem_cons.mpr ⟨lw_p16, List.forall_mem_cons.mpr ⟨lw_p17, List.forall_mem_cons.mpr ⟨lw_p18, List.forall_mem_cons.mpr ⟨lw_p19, List.forall_mem_cons.mpr ⟨lw_p20, List.forall_mem_cons.mpr ⟨lw_p21, List.forall_mem_cons.mpr ⟨lw_p22, List.forall_mem_cons.mpr ⟨lw_p23, List.forall_mem_cons.mpr ⟨lw_p24, List.forall_mem_cons.mpr ⟨lw_p25, List.forall_mem_cons.mpr ⟨lw_p26, List.forall_mem_cons.mpr ⟨lw_p27, List.forall_mem_cons.mpr ⟨lw_p28, List.forall_mem_cons.mpr ⟨lw_p29, List.forall_mem_cons.mpr ⟨lw_p30, List.forall_mem_cons.mpr ⟨lw_p31, fun _ h => absurd h List.not_mem_nil⟩⟩⟩⟩⟩⟩⟩⟩⟩⟩⟩⟩⟩⟩⟩⟩
theorem lw_p32 : lw_okq (⟨"NotaryBook$Pen", "putLetters", "(J)V"⟩, 1) := ⟨⟨by decide +kernel, by decide +kernel⟩, List.mem_of_getElem? (i := 338) (by decide +kernel), List.mem_of_getElem? (i := 1596) (by decide +kernel), List.mem_of_getElem? (i := 1597) (by decide +kernel)⟩
theorem lw_p33 : lw_okq (⟨"NotaryBook", "writeInserts", "(I)V"⟩, 15) := ⟨⟨by decide +kernel, by decide +kernel⟩, List.mem_of_getElem? (i := 32) (by decide +kernel), List.mem_of_getElem? (i := 1614) (by decide +kernel), List.mem_of_getElem? (i := 1615) (by decide +kernel)⟩
theorem lw_p34 : lw_okq (⟨"NotaryBook", "endOfWords", "()I"⟩, 15) := ⟨⟨by decide +kernel, by decide +kernel⟩, List.mem_of_getElem? (i := 32) (by decide +kernel), List.mem_of_getElem? (i := 1618) (by decide +kernel), List.mem_of_getElem? (i := 1619) (by decide +kernel)⟩
theorem lw_p35 : lw_okq (⟨"NotaryBook", "remember", "()V"⟩, 15) := ⟨⟨by decide +kernel, by decide +kernel⟩, List.mem_of_getElem? (i := 32) (by decide +kernel), List.mem_of_getElem? (i := 1678) (by decide +kernel), List.mem_of_getElem? (i := 1679) (by decide +kernel)⟩
theorem lw_p36 : lw_okq (⟨"NotaryBook", "requireLeafAt", "(IZ)V"⟩, 15) := ⟨⟨by decide +kernel, by decide +kernel⟩, List.mem_of_getElem? (i := 32) (by decide +kernel), List.mem_of_getElem? (i := 1777) (by decide +kernel), List.mem_of_getElem? (i := 1778) (by decide +kernel)⟩
theorem lw_p37 : lw_okq (⟨"NotaryBookModel", "four", "(I)V"⟩, 24) := ⟨⟨by decide +kernel, by decide +kernel⟩, List.mem_of_getElem? (i := 1834) (by decide +kernel), List.mem_of_getElem? (i := 1922) (by decide +kernel), List.mem_of_getElem? (i := 1923) (by decide +kernel)⟩
theorem lw_p38 : lw_okq (⟨"NotaryBookModel", "may", "(ZZZ)Z"⟩, 24) := ⟨⟨by decide +kernel, by decide +kernel⟩, List.mem_of_getElem? (i := 1834) (by decide +kernel), List.mem_of_getElem? (i := 1945) (by decide +kernel), List.mem_of_getElem? (i := 1946) (by decide +kernel)⟩
theorem lw_p39 : lw_okq (⟨"NotaryBookModel", "begins", "(I)V"⟩, 24) := ⟨⟨by decide +kernel, by decide +kernel⟩, List.mem_of_getElem? (i := 1834) (by decide +kernel), List.mem_of_getElem? (i := 1949) (by decide +kernel), List.mem_of_getElem? (i := 1950) (by decide +kernel)⟩
theorem lw_p40 : lw_okq (⟨"NotaryBookModel", "thinks", "()V"⟩, 24) := ⟨⟨by decide +kernel, by decide +kernel⟩, List.mem_of_getElem? (i := 1834) (by decide +kernel), List.mem_of_getElem? (i := 1953) (by decide +kernel), List.mem_of_getElem? (i := 1954) (by decide +kernel)⟩
theorem lw_p41 : lw_okq (⟨"NotaryBookModel", "readsText", "()V"⟩, 24) := ⟨⟨by decide +kernel, by decide +kernel⟩, List.mem_of_getElem? (i := 1834) (by decide +kernel), List.mem_of_getElem? (i := 1960) (by decide +kernel), List.mem_of_getElem? (i := 1961) (by decide +kernel)⟩
theorem lw_p42 : lw_okq (⟨"NotaryBookModel", "goes", "()V"⟩, 24) := ⟨⟨by decide +kernel, by decide +kernel⟩, List.mem_of_getElem? (i := 1834) (by decide +kernel), List.mem_of_getElem? (i := 1964) (by decide +kernel), List.mem_of_getElem? (i := 1965) (by decide +kernel)⟩
theorem lw_p43 : lw_okq (⟨"NotaryBookModel", "isLetter", "(I)Z"⟩, 24) := ⟨⟨by decide +kernel, by decide +kernel⟩, List.mem_of_getElem? (i := 1834) (by decide +kernel), List.mem_of_getElem? (i := 1968) (by decide +kernel), List.mem_of_getElem? (i := 1969) (by decide +kernel)⟩
theorem lw_p44 : lw_okq (⟨"NotaryBookModel", "isDigit", "(I)Z"⟩, 24) := ⟨⟨by decide +kernel, by decide +kernel⟩, List.mem_of_getElem? (i := 1834) (by decide +kernel), List.mem_of_getElem? (i := 1972) (by decide +kernel), List.mem_of_getElem? (i := 1973) (by decide +kernel)⟩
theorem lw_p45 : lw_okq (⟨"NotaryBookModel", "isWord", "(Ljava/lang/String;)Z"⟩, 24) := ⟨⟨by decide +kernel, by decide +kernel⟩, List.mem_of_getElem? (i := 1834) (by decide +kernel), List.mem_of_getElem? (i := 1980) (by decide +kernel), List.mem_of_getElem? (i := 1981) (by decide +kernel)⟩
theorem lw_p46 : lw_okq (⟨"NotaryBookModel", "is", "(I)Z"⟩, 24) := ⟨⟨by decide +kernel, by decide +kernel⟩, List.mem_of_getElem? (i := 1834) (by decide +kernel), List.mem_of_getElem? (i := 1984) (by decide +kernel), List.mem_of_getElem? (i := 1985) (by decide +kernel)⟩
theorem lw_p47 : lw_okq (⟨"NotaryBookModel", "faults", "(I)V"⟩, 24) := ⟨⟨by decide +kernel, by decide +kernel⟩, List.mem_of_getElem? (i := 1834) (by decide +kernel), List.mem_of_getElem? (i := 1990) (by decide +kernel), List.mem_of_getElem? (i := 1991) (by decide +kernel)⟩
def lw_privs_3 : List (MethodName × Nat) := [(⟨"NotaryBook$Pen", "putLetters", "(J)V"⟩, 1), (⟨"NotaryBook", "writeInserts", "(I)V"⟩, 15), (⟨"NotaryBook", "endOfWords", "()I"⟩, 15), (⟨"NotaryBook", "remember", "()V"⟩, 15), (⟨"NotaryBook", "requireLeafAt", "(IZ)V"⟩, 15), (⟨"NotaryBookModel", "four", "(I)V"⟩, 24), (⟨"NotaryBookModel", "may", "(ZZZ)Z"⟩, 24), (⟨"NotaryBookModel", "begins", "(I)V"⟩, 24), (⟨"NotaryBookModel", "thinks", "()V"⟩, 24), (⟨"NotaryBookModel", "readsText", "()V"⟩, 24), (⟨"NotaryBookModel", "goes", "()V"⟩, 24), (⟨"NotaryBookModel", "isLetter", "(I)Z"⟩, 24), (⟨"NotaryBookModel", "isDigit", "(I)Z"⟩, 24), (⟨"NotaryBookModel", "isWord", "(Ljava/lang/String;)Z"⟩, 24), (⟨"NotaryBookModel", "is", "(I)Z"⟩, 24), (⟨"NotaryBookModel", "faults", "(I)V"⟩, 24)]
theorem lw_r3 : ∀ q ∈ lw_privs_3, lw_okq q := List.forall_mem_cons.mpr ⟨lw_p32, List.forall_mem_cons.mpr ⟨lw_p33, List.forall_mem_cons.mpr ⟨lw_p34, List.forall_mem_cons.mpr ⟨lw_p35, List.forall_mem_cons.mpr ⟨lw_p36, List.forall_mem_cons.mpr ⟨lw_p37, List.forall_mem_cons.mpr ⟨lw_p38, List.forall_mem_cons.mpr ⟨lw_p39, List.forall_mem_cons.mpr ⟨lw_p40, List.forall_mem_cons.mpr ⟨lw_p41, List.forall_mem_cons.mpr ⟨lw_p42, List.forall_mem_cons.mpr ⟨lw_p43, List.forall_mem_cons.mpr ⟨lw_p44, List.forall_mem_cons.mpr ⟨lw_p45, List.forall_mem_cons.mpr ⟨lw_p46, List.forall_mem_cons.mpr ⟨lw_p47, fun _ h => absurd h List.not_mem_nil⟩⟩⟩⟩⟩⟩⟩⟩⟩⟩⟩⟩⟩⟩⟩⟩
theorem lw_p48 : lw_okq (⟨"NotaryBookModel", "number", "(II)I"⟩, 24) := ⟨⟨by decide +kernel, by decide +kernel⟩, List.mem_of_getElem? (i := 1834) (by decide +kernel), List.mem_of_getElem? (i := 1994) (by decide +kernel), List.mem_of_getElem? (i := 1995) (by decide +kernel)⟩
theorem lw_p49 : lw_okq (⟨"NotaryBookModel", "numberHere", "(II)I"⟩, 24) := ⟨⟨by decide +kernel, by decide +kernel⟩, List.mem_of_getElem? (i := 1834) (by decide +kernel), List.mem_of_getElem? (i := 1998) (by decide +kernel), List.mem_of_getElem? (i := 1999) (by decide +kernel)⟩
theorem lw_p50 : lw_okq (⟨"NotaryBookModel", "readsLine", "()V"⟩, 24) := ⟨⟨by decide +kernel, by decide +kernel⟩, List.mem_of_getElem? (i := 1834) (by decide +kernel), List.mem_of_getElem? (i := 2002) (by decide +kernel), List.mem_of_getElem? (i := 2003) (by decide +kernel)⟩
theorem lw_p51 : lw_okq (⟨"NotaryBookModel", "readsAct", "()V"⟩, 24) := ⟨⟨by decide +kernel, by decide +kernel⟩, List.mem_of_getElem? (i := 1834) (by decide +kernel), List.mem_of_getElem? (i := 2007) (by decide +kernel), List.mem_of_getElem? (i := 2008) (by decide +kernel)⟩
theorem lw_p52 : lw_okq (⟨"NotaryBookModel", "openAct", "()I"⟩, 24) := ⟨⟨by decide +kernel, by decide +kernel⟩, List.mem_of_getElem? (i := 1834) (by decide +kernel), List.mem_of_getElem? (i := 2011) (by decide +kernel), List.mem_of_getElem? (i := 2012) (by decide +kernel)⟩
theorem lw_p53 : lw_okq (⟨"NotaryBookModel", "ofAct", "(II)I"⟩, 24) := ⟨⟨by decide +kernel, by decide +kernel⟩, List.mem_of_getElem? (i := 1834) (by decide +kernel), List.mem_of_getElem? (i := 2015) (by decide +kernel), List.mem_of_getElem? (i := 2016) (by decide +kernel)⟩
theorem lw_p54 : lw_okq (⟨"NotaryBookModel", "kindHere", "()I"⟩, 24) := ⟨⟨by decide +kernel, by decide +kernel⟩, List.mem_of_getElem? (i := 1834) (by decide +kernel), List.mem_of_getElem? (i := 2019) (by decide +kernel), List.mem_of_getElem? (i := 2020) (by decide +kernel)⟩
theorem lw_p55 : lw_okq (⟨"NotaryBookModel", "addsAct", "(I)I"⟩, 24) := ⟨⟨by decide +kernel, by decide +kernel⟩, List.mem_of_getElem? (i := 1834) (by decide +kernel), List.mem_of_getElem? (i := 2026) (by decide +kernel), List.mem_of_getElem? (i := 2027) (by decide +kernel)⟩
theorem lw_p56 : lw_okq (⟨"NotaryBookModel", "putsAct", "(III)V"⟩, 24) := ⟨⟨by decide +kernel, by decide +kernel⟩, List.mem_of_getElem? (i := 1834) (by decide +kernel), List.mem_of_getElem? (i := 2030) (by decide +kernel), List.mem_of_getElem? (i := 2031) (by decide +kernel)⟩
theorem lw_p57 : lw_okq (⟨"NotaryBookModel", "readsBody", "(I)V"⟩, 24) := ⟨⟨by decide +kernel, by decide +kernel⟩, List.mem_of_getElem? (i := 1834) (by decide +kernel), List.mem_of_getElem? (i := 2034) (by decide +kernel), List.mem_of_getElem? (i := 2035) (by decide +kernel)⟩
theorem lw_p58 : lw_okq (⟨"NotaryBookModel", "readsItem", "(I)V"⟩, 24) := ⟨⟨by decide +kernel, by decide +kernel⟩, List.mem_of_getElem? (i := 1834) (by decide +kernel), List.mem_of_getElem? (i := 2038) (by decide +kernel), List.mem_of_getElem? (i := 2039) (by decide +kernel)⟩
theorem lw_p59 : lw_okq (⟨"NotaryBookModel", "addsWord", "(I)V"⟩, 24) := ⟨⟨by decide +kernel, by decide +kernel⟩, List.mem_of_getElem? (i := 1834) (by decide +kernel), List.mem_of_getElem? (i := 2042) (by decide +kernel), List.mem_of_getElem? (i := 2043) (by decide +kernel)⟩
theorem lw_p60 : lw_okq (⟨"NotaryBookModel", "partOf", "(III)I"⟩, 24) := ⟨⟨by decide +kernel, by decide +kernel⟩, List.mem_of_getElem? (i := 1834) (by decide +kernel), List.mem_of_getElem? (i := 2046) (by decide +kernel), List.mem_of_getElem? (i := 2047) (by decide +kernel)⟩
theorem lw_p61 : lw_okq (⟨"NotaryBookModel", "comesLeaf", "(I)V"⟩, 24) := ⟨⟨by decide +kernel, by decide +kernel⟩, List.mem_of_getElem? (i := 1834) (by decide +kernel), List.mem_of_getElem? (i := 2053) (by decide +kernel), List.mem_of_getElem? (i := 2054) (by decide +kernel)⟩
theorem lw_p62 : lw_okq (⟨"NotaryBookModel", "mateOf", "(I)I"⟩, 24) := ⟨⟨by decide +kernel, by decide +kernel⟩, List.mem_of_getElem? (i := 1834) (by decide +kernel), List.mem_of_getElem? (i := 2057) (by decide +kernel), List.mem_of_getElem? (i := 2058) (by decide +kernel)⟩
theorem lw_p63 : lw_okq (⟨"NotaryBookModel", "leaves", "()I"⟩, 24) := ⟨⟨by decide +kernel, by decide +kernel⟩, List.mem_of_getElem? (i := 1834) (by decide +kernel), List.mem_of_getElem? (i := 2061) (by decide +kernel), List.mem_of_getElem? (i := 2062) (by decide +kernel)⟩
def lw_privs_4 : List (MethodName × Nat) := [(⟨"NotaryBookModel", "number", "(II)I"⟩, 24), (⟨"NotaryBookModel", "numberHere", "(II)I"⟩, 24), (⟨"NotaryBookModel", "readsLine", "()V"⟩, 24), (⟨"NotaryBookModel", "readsAct", "()V"⟩, 24), (⟨"NotaryBookModel", "openAct", "()I"⟩, 24), (⟨"NotaryBookModel", "ofAct", "(II)I"⟩, 24), (⟨"NotaryBookModel", "kindHere", "()I"⟩, 24), (⟨"NotaryBookModel", "addsAct", "(I)I"⟩, 24), (⟨"NotaryBookModel", "putsAct", "(III)V"⟩, 24), (⟨"NotaryBookModel", "readsBody", "(I)V"⟩, 24), (⟨"NotaryBookModel", "readsItem", "(I)V"⟩, 24), (⟨"NotaryBookModel", "addsWord", "(I)V"⟩, 24), (⟨"NotaryBookModel", "partOf", "(III)I"⟩, 24), (⟨"NotaryBookModel", "comesLeaf", "(I)V"⟩, 24), (⟨"NotaryBookModel", "mateOf", "(I)I"⟩, 24), (⟨"NotaryBookModel", "leaves", "()I"⟩, 24)]
theorem lw_r4 : ∀ q ∈ lw_privs_4, lw_okq q := List.forall_mem_cons.mpr ⟨lw_p48, List.forall_mem_cons.mpr ⟨lw_p49, List.forall_mem_cons.mpr ⟨lw_p50, List.forall_mem_cons.mpr ⟨lw_p51, List.forall_mem_cons.mpr ⟨lw_p52, List.forall_mem_cons.mpr ⟨lw_p53, List.forall_mem_cons.mpr ⟨lw_p54, List.forall_mem_cons.mpr ⟨lw_p55, List.forall_mem_cons.mpr ⟨lw_p56, List.forall_mem_cons.mpr ⟨lw_p57, List.forall_mem_cons.mpr ⟨lw_p58, List.forall_mem_cons.mpr ⟨lw_p59, List.forall_mem_cons.mpr ⟨lw_p60, List.forall_mem_cons.mpr ⟨lw_p61, List.forall_mem_cons.mpr ⟨lw_p62, List.forall_mem_cons.mpr ⟨lw_p63, fun _ h => absurd h List.not_mem_nil⟩⟩⟩⟩⟩⟩⟩⟩⟩⟩⟩⟩⟩⟩⟩⟩
theorem lw_p64 : lw_okq (⟨"NotaryBookModel", "opensClause", "(I)V"⟩, 24) := ⟨⟨by decide +kernel, by decide +kernel⟩, List.mem_of_getElem? (i := 1834) (by decide +kernel), List.mem_of_getElem? (i := 2065) (by decide +kernel), List.mem_of_getElem? (i := 2066) (by decide +kernel)⟩
theorem lw_p65 : lw_okq (⟨"NotaryBookModel", "closesClause", "()V"⟩, 24) := ⟨⟨by decide +kernel, by decide +kernel⟩, List.mem_of_getElem? (i := 1834) (by decide +kernel), List.mem_of_getElem? (i := 2069) (by decide +kernel), List.mem_of_getElem? (i := 2070) (by decide +kernel)⟩
theorem lw_p66 : lw_okq (⟨"NotaryBookModel", "ofClause", "(II)I"⟩, 24) := ⟨⟨by decide +kernel, by decide +kernel⟩, List.mem_of_getElem? (i := 1834) (by decide +kernel), List.mem_of_getElem? (i := 2073) (by decide +kernel), List.mem_of_getElem? (i := 2074) (by decide +kernel)⟩
theorem lw_p67 : lw_okq (⟨"NotaryBookModel", "readsStrike", "()V"⟩, 24) := ⟨⟨by decide +kernel, by decide +kernel⟩, List.mem_of_getElem? (i := 1834) (by decide +kernel), List.mem_of_getElem? (i := 2078) (by decide +kernel), List.mem_of_getElem? (i := 2079) (by decide +kernel)⟩
theorem lw_p68 : lw_okq (⟨"NotaryBookModel", "wordHere", "()I"⟩, 24) := ⟨⟨by decide +kernel, by decide +kernel⟩, List.mem_of_getElem? (i := 1834) (by decide +kernel), List.mem_of_getElem? (i := 2082) (by decide +kernel), List.mem_of_getElem? (i := 2083) (by decide +kernel)⟩
theorem lw_p69 : lw_okq (⟨"NotaryBookModel", "whyStrike", "(I)I"⟩, 24) := ⟨⟨by decide +kernel, by decide +kernel⟩, List.mem_of_getElem? (i := 1834) (by decide +kernel), List.mem_of_getElem? (i := 2086) (by decide +kernel), List.mem_of_getElem? (i := 2087) (by decide +kernel)⟩
theorem lw_p70 : lw_okq (⟨"NotaryBookModel", "openWord", "(I)I"⟩, 24) := ⟨⟨by decide +kernel, by decide +kernel⟩, List.mem_of_getElem? (i := 1834) (by decide +kernel), List.mem_of_getElem? (i := 2090) (by decide +kernel), List.mem_of_getElem? (i := 2091) (by decide +kernel)⟩
theorem lw_p71 : lw_okq (⟨"NotaryBookModel", "stands", "(I)Z"⟩, 24) := ⟨⟨by decide +kernel, by decide +kernel⟩, List.mem_of_getElem? (i := 1834) (by decide +kernel), List.mem_of_getElem? (i := 2094) (by decide +kernel), List.mem_of_getElem? (i := 2095) (by decide +kernel)⟩
theorem lw_p72 : lw_okq (⟨"NotaryBookModel", "ofWord", "(II)I"⟩, 24) := ⟨⟨by decide +kernel, by decide +kernel⟩, List.mem_of_getElem? (i := 1834) (by decide +kernel), List.mem_of_getElem? (i := 2098) (by decide +kernel), List.mem_of_getElem? (i := 2099) (by decide +kernel)⟩
theorem lw_p73 : lw_okq (⟨"NotaryBookModel", "strikes", "(I)V"⟩, 24) := ⟨⟨by decide +kernel, by decide +kernel⟩, List.mem_of_getElem? (i := 1834) (by decide +kernel), List.mem_of_getElem? (i := 2102) (by decide +kernel), List.mem_of_getElem? (i := 2103) (by decide +kernel)⟩
theorem lw_p74 : lw_okq (⟨"NotaryBookModel", "putsWord", "(III)V"⟩, 24) := ⟨⟨by decide +kernel, by decide +kernel⟩, List.mem_of_getElem? (i := 1834) (by decide +kernel), List.mem_of_getElem? (i := 2106) (by decide +kernel), List.mem_of_getElem? (i := 2107) (by decide +kernel)⟩
theorem lw_p75 : lw_okq (⟨"NotaryBookModel", "marks", "(I)V"⟩, 24) := ⟨⟨by decide +kernel, by decide +kernel⟩, List.mem_of_getElem? (i := 1834) (by decide +kernel), List.mem_of_getElem? (i := 2110) (by decide +kernel), List.mem_of_getElem? (i := 2111) (by decide +kernel)⟩
theorem lw_p76 : lw_okq (⟨"NotaryBookModel", "readsOut", "()V"⟩, 24) := ⟨⟨by decide +kernel, by decide +kernel⟩, List.mem_of_getElem? (i := 1834) (by decide +kernel), List.mem_of_getElem? (i := 2115) (by decide +kernel), List.mem_of_getElem? (i := 2116) (by decide +kernel)⟩
theorem lw_p77 : lw_okq (⟨"NotaryBookModel", "clauseOf", "(I)I"⟩, 24) := ⟨⟨by decide +kernel, by decide +kernel⟩, List.mem_of_getElem? (i := 1834) (by decide +kernel), List.mem_of_getElem? (i := 2119) (by decide +kernel), List.mem_of_getElem? (i := 2120) (by decide +kernel)⟩
theorem lw_p78 : lw_okq (⟨"NotaryBookModel", "strikesClause", "(I)I"⟩, 24) := ⟨⟨by decide +kernel, by decide +kernel⟩, List.mem_of_getElem? (i := 1834) (by decide +kernel), List.mem_of_getElem? (i := 2123) (by decide +kernel), List.mem_of_getElem? (i := 2124) (by decide +kernel)⟩
theorem lw_p79 : lw_okq (⟨"NotaryBookModel", "readsInsert", "()V"⟩, 24) := ⟨⟨by decide +kernel, by decide +kernel⟩, List.mem_of_getElem? (i := 1834) (by decide +kernel), List.mem_of_getElem? (i := 2131) (by decide +kernel), List.mem_of_getElem? (i := 2132) (by decide +kernel)⟩
def lw_privs_5 : List (MethodName × Nat) := [(⟨"NotaryBookModel", "opensClause", "(I)V"⟩, 24), (⟨"NotaryBookModel", "closesClause", "()V"⟩, 24), (⟨"NotaryBookModel", "ofClause", "(II)I"⟩, 24), (⟨"NotaryBookModel", "readsStrike", "()V"⟩, 24), (⟨"NotaryBookModel", "wordHere", "()I"⟩, 24), (⟨"NotaryBookModel", "whyStrike", "(I)I"⟩, 24), (⟨"NotaryBookModel", "openWord", "(I)I"⟩, 24), (⟨"NotaryBookModel", "stands", "(I)Z"⟩, 24), (⟨"NotaryBookModel", "ofWord", "(II)I"⟩, 24), (⟨"NotaryBookModel", "strikes", "(I)V"⟩, 24), (⟨"NotaryBookModel", "putsWord", "(III)V"⟩, 24), (⟨"NotaryBookModel", "marks", "(I)V"⟩, 24), (⟨"NotaryBookModel", "readsOut", "()V"⟩, 24), (⟨"NotaryBookModel", "clauseOf", "(I)I"⟩, 24), (⟨"NotaryBookModel", "strikesClause", "(I)I"⟩, 24), (⟨"NotaryBookModel", "readsInsert", "()V"⟩, 24)]
theorem lw_r5 : ∀ q ∈ lw_privs_5, lw_okq q := List.forall_mem_cons.mpr ⟨lw_p64, List.forall_mem_cons.mpr ⟨lw_p65, List.forall_mem_cons.mpr ⟨lw_p66, List.forall_mem_cons.mpr ⟨lw_p67, List.forall_mem_cons.mpr ⟨lw_p68, List.forall_mem_cons.mpr ⟨lw_p69, List.forall_mem_cons.mpr ⟨lw_p70, List.forall_mem_cons.mpr ⟨lw_p71, List.forall_mem_cons.mpr ⟨lw_p72, List.forall_mem_cons.mpr ⟨lw_p73, List.forall_mem_cons.mpr ⟨lw_p74, List.forall_mem_cons.mpr ⟨lw_p75, List.forall_mem_cons.mpr ⟨lw_p76, List.forall_mem_cons.mpr ⟨lw_p77, List.forall_mem_cons.mpr ⟨lw_p78, List.forall_mem_cons.mpr ⟨lw_p79, fun _ h => absurd h List.not_mem_nil⟩⟩⟩⟩⟩⟩⟩⟩⟩⟩⟩⟩⟩⟩⟩⟩
theorem lw_p80 : lw_okq (⟨"NotaryBookModel", "interlines", "(III)V"⟩, 24) := ⟨⟨by decide +kernel, by decide +kernel⟩, List.mem_of_getElem? (i := 1834) (by decide +kernel), List.mem_of_getElem? (i := 2135) (by decide +kernel), List.mem_of_getElem? (i := 2136) (by decide +kernel)⟩
theorem lw_p81 : lw_okq (⟨"NotaryBookModel", "readsSeal", "()V"⟩, 24) := ⟨⟨by decide +kernel, by decide +kernel⟩, List.mem_of_getElem? (i := 1834) (by decide +kernel), List.mem_of_getElem? (i := 2140) (by decide +kernel), List.mem_of_getElem? (i := 2141) (by decide +kernel)⟩
theorem lw_p82 : lw_okq (⟨"NotaryBookModel", "whySeal", "(II)I"⟩, 24) := ⟨⟨by decide +kernel, by decide +kernel⟩, List.mem_of_getElem? (i := 1834) (by decide +kernel), List.mem_of_getElem? (i := 2144) (by decide +kernel), List.mem_of_getElem? (i := 2145) (by decide +kernel)⟩
theorem lw_p83 : lw_okq (⟨"NotaryBookModel", "standing", "(I)I"⟩, 24) := ⟨⟨by decide +kernel, by decide +kernel⟩, List.mem_of_getElem? (i := 1834) (by decide +kernel), List.mem_of_getElem? (i := 2148) (by decide +kernel), List.mem_of_getElem? (i := 2149) (by decide +kernel)⟩
theorem lw_p84 : lw_okq (⟨"NotaryBookModel", "lastOf", "(I)I"⟩, 24) := ⟨⟨by decide +kernel, by decide +kernel⟩, List.mem_of_getElem? (i := 1834) (by decide +kernel), List.mem_of_getElem? (i := 2152) (by decide +kernel), List.mem_of_getElem? (i := 2153) (by decide +kernel)⟩
theorem lw_p85 : lw_okq (⟨"NotaryBookModel", "seals", "(I)I"⟩, 24) := ⟨⟨by decide +kernel, by decide +kernel⟩, List.mem_of_getElem? (i := 1834) (by decide +kernel), List.mem_of_getElem? (i := 2156) (by decide +kernel), List.mem_of_getElem? (i := 2157) (by decide +kernel)⟩
theorem lw_p86 : lw_okq (⟨"NotaryBookModel", "readsCancel", "()V"⟩, 24) := ⟨⟨by decide +kernel, by decide +kernel⟩, List.mem_of_getElem? (i := 1834) (by decide +kernel), List.mem_of_getElem? (i := 2161) (by decide +kernel), List.mem_of_getElem? (i := 2162) (by decide +kernel)⟩
theorem lw_p87 : lw_okq (⟨"NotaryBookModel", "readsCopy", "()V"⟩, 24) := ⟨⟨by decide +kernel, by decide +kernel⟩, List.mem_of_getElem? (i := 1834) (by decide +kernel), List.mem_of_getElem? (i := 2166) (by decide +kernel), List.mem_of_getElem? (i := 2167) (by decide +kernel)⟩
theorem lw_p88 : lw_okq (⟨"NotaryBookModel", "whyCopy", "(II)I"⟩, 24) := ⟨⟨by decide +kernel, by decide +kernel⟩, List.mem_of_getElem? (i := 1834) (by decide +kernel), List.mem_of_getElem? (i := 2170) (by decide +kernel), List.mem_of_getElem? (i := 2171) (by decide +kernel)⟩
theorem lw_p89 : lw_okq (⟨"NotaryBookModel", "hasBy", "(III)Z"⟩, 24) := ⟨⟨by decide +kernel, by decide +kernel⟩, List.mem_of_getElem? (i := 1834) (by decide +kernel), List.mem_of_getElem? (i := 2174) (by decide +kernel), List.mem_of_getElem? (i := 2175) (by decide +kernel)⟩
theorem lw_p90 : lw_okq (⟨"NotaryBookModel", "firstStanding", "(I)I"⟩, 24) := ⟨⟨by decide +kernel, by decide +kernel⟩, List.mem_of_getElem? (i := 1834) (by decide +kernel), List.mem_of_getElem? (i := 2178) (by decide +kernel), List.mem_of_getElem? (i := 2179) (by decide +kernel)⟩
theorem lw_p91 : lw_okq (⟨"NotaryBookModel", "lastStanding", "(I)I"⟩, 24) := ⟨⟨by decide +kernel, by decide +kernel⟩, List.mem_of_getElem? (i := 1834) (by decide +kernel), List.mem_of_getElem? (i := 2182) (by decide +kernel), List.mem_of_getElem? (i := 2183) (by decide +kernel)⟩
theorem lw_p92 : lw_okq (⟨"NotaryBookModel", "isKnown", "(I)Z"⟩, 24) := ⟨⟨by decide +kernel, by decide +kernel⟩, List.mem_of_getElem? (i := 1834) (by decide +kernel), List.mem_of_getElem? (i := 2186) (by decide +kernel), List.mem_of_getElem? (i := 2187) (by decide +kernel)⟩
theorem lw_p93 : lw_okq (⟨"NotaryBookModel", "isOnLost", "(I)Z"⟩, 24) := ⟨⟨by decide +kernel, by decide +kernel⟩, List.mem_of_getElem? (i := 1834) (by decide +kernel), List.mem_of_getElem? (i := 2190) (by decide +kernel), List.mem_of_getElem? (i := 2191) (by decide +kernel)⟩
theorem lw_p94 : lw_okq (⟨"NotaryBookModel", "statusOf", "(I)I"⟩, 24) := ⟨⟨by decide +kernel, by decide +kernel⟩, List.mem_of_getElem? (i := 1834) (by decide +kernel), List.mem_of_getElem? (i := 2194) (by decide +kernel), List.mem_of_getElem? (i := 2195) (by decide +kernel)⟩
theorem lw_p95 : lw_okq (⟨"NotaryBookModel", "copiesWith", "(I)I"⟩, 24) := ⟨⟨by decide +kernel, by decide +kernel⟩, List.mem_of_getElem? (i := 1834) (by decide +kernel), List.mem_of_getElem? (i := 2198) (by decide +kernel), List.mem_of_getElem? (i := 2199) (by decide +kernel)⟩
def lw_privs_6 : List (MethodName × Nat) := [(⟨"NotaryBookModel", "interlines", "(III)V"⟩, 24), (⟨"NotaryBookModel", "readsSeal", "()V"⟩, 24), (⟨"NotaryBookModel", "whySeal", "(II)I"⟩, 24), (⟨"NotaryBookModel", "standing", "(I)I"⟩, 24), (⟨"NotaryBookModel", "lastOf", "(I)I"⟩, 24), (⟨"NotaryBookModel", "seals", "(I)I"⟩, 24), (⟨"NotaryBookModel", "readsCancel", "()V"⟩, 24), (⟨"NotaryBookModel", "readsCopy", "()V"⟩, 24), (⟨"NotaryBookModel", "whyCopy", "(II)I"⟩, 24), (⟨"NotaryBookModel", "hasBy", "(III)Z"⟩, 24), (⟨"NotaryBookModel", "firstStanding", "(I)I"⟩, 24), (⟨"NotaryBookModel", "lastStanding", "(I)I"⟩, 24), (⟨"NotaryBookModel", "isKnown", "(I)Z"⟩, 24), (⟨"NotaryBookModel", "isOnLost", "(I)Z"⟩, 24), (⟨"NotaryBookModel", "statusOf", "(I)I"⟩, 24), (⟨"NotaryBookModel", "copiesWith", "(I)I"⟩, 24)]
theorem lw_r6 : ∀ q ∈ lw_privs_6, lw_okq q := List.forall_mem_cons.mpr ⟨lw_p80, List.forall_mem_cons.mpr ⟨lw_p81, List.forall_mem_cons.mpr ⟨lw_p82, List.forall_mem_cons.mpr ⟨lw_p83, List.forall_mem_cons.mpr ⟨lw_p84, List.forall_mem_cons.mpr ⟨lw_p85, List.forall_mem_cons.mpr ⟨lw_p86, List.forall_mem_cons.mpr ⟨lw_p87, List.forall_mem_cons.mpr ⟨lw_p88, List.forall_mem_cons.mpr ⟨lw_p89, List.forall_mem_cons.mpr ⟨lw_p90, List.forall_mem_cons.mpr ⟨lw_p91, List.forall_mem_cons.mpr ⟨lw_p92, List.forall_mem_cons.mpr ⟨lw_p93, List.forall_mem_cons.mpr ⟨lw_p94, List.forall_mem_cons.mpr ⟨lw_p95, fun _ h => absurd h List.not_mem_nil⟩⟩⟩⟩⟩⟩⟩⟩⟩⟩⟩⟩⟩⟩⟩⟩
theorem lw_p96 : lw_okq (⟨"NotaryBookModel", "hasWord", "(II)Z"⟩, 24) := ⟨⟨by decide +kernel, by decide +kernel⟩, List.mem_of_getElem? (i := 1834) (by decide +kernel), List.mem_of_getElem? (i := 2202) (by decide +kernel), List.mem_of_getElem? (i := 2203) (by decide +kernel)⟩
theorem lw_p97 : lw_okq (⟨"NotaryBookModel", "ofCopy", "(II)I"⟩, 24) := ⟨⟨by decide +kernel, by decide +kernel⟩, List.mem_of_getElem? (i := 1834) (by decide +kernel), List.mem_of_getElem? (i := 2206) (by decide +kernel), List.mem_of_getElem? (i := 2207) (by decide +kernel)⟩
theorem lw_p98 : lw_okq (⟨"NotaryBookModel", "actOf", "(I)I"⟩, 24) := ⟨⟨by decide +kernel, by decide +kernel⟩, List.mem_of_getElem? (i := 1834) (by decide +kernel), List.mem_of_getElem? (i := 2210) (by decide +kernel), List.mem_of_getElem? (i := 2211) (by decide +kernel)⟩
theorem lw_p99 : lw_okq (⟨"NotaryBookModel", "copies", "(II)V"⟩, 24) := ⟨⟨by decide +kernel, by decide +kernel⟩, List.mem_of_getElem? (i := 1834) (by decide +kernel), List.mem_of_getElem? (i := 2214) (by decide +kernel), List.mem_of_getElem? (i := 2215) (by decide +kernel)⟩
theorem lw_p100 : lw_okq (⟨"NotaryBookModel", "readsLeafLine", "()V"⟩, 24) := ⟨⟨by decide +kernel, by decide +kernel⟩, List.mem_of_getElem? (i := 1834) (by decide +kernel), List.mem_of_getElem? (i := 2221) (by decide +kernel), List.mem_of_getElem? (i := 2222) (by decide +kernel)⟩
theorem lw_p101 : lw_okq (⟨"NotaryBookModel", "readsLose", "()V"⟩, 24) := ⟨⟨by decide +kernel, by decide +kernel⟩, List.mem_of_getElem? (i := 1834) (by decide +kernel), List.mem_of_getElem? (i := 2226) (by decide +kernel), List.mem_of_getElem? (i := 2227) (by decide +kernel)⟩
theorem lw_p102 : lw_okq (⟨"NotaryBookModel", "leafHere", "()I"⟩, 24) := ⟨⟨by decide +kernel, by decide +kernel⟩, List.mem_of_getElem? (i := 1834) (by decide +kernel), List.mem_of_getElem? (i := 2230) (by decide +kernel), List.mem_of_getElem? (i := 2231) (by decide +kernel)⟩
theorem lw_p103 : lw_okq (⟨"NotaryBookModel", "loses", "(I)V"⟩, 24) := ⟨⟨by decide +kernel, by decide +kernel⟩, List.mem_of_getElem? (i := 1834) (by decide +kernel), List.mem_of_getElem? (i := 2234) (by decide +kernel), List.mem_of_getElem? (i := 2235) (by decide +kernel)⟩
theorem lw_p104 : lw_okq (⟨"NotaryBookModel", "loosens", "(I)V"⟩, 24) := ⟨⟨by decide +kernel, by decide +kernel⟩, List.mem_of_getElem? (i := 1834) (by decide +kernel), List.mem_of_getElem? (i := 2238) (by decide +kernel), List.mem_of_getElem? (i := 2239) (by decide +kernel)⟩
theorem lw_p105 : lw_okq (⟨"NotaryBookModel", "readsFind", "()V"⟩, 24) := ⟨⟨by decide +kernel, by decide +kernel⟩, List.mem_of_getElem? (i := 1834) (by decide +kernel), List.mem_of_getElem? (i := 2243) (by decide +kernel), List.mem_of_getElem? (i := 2244) (by decide +kernel)⟩
theorem lw_p106 : lw_okq (⟨"NotaryBookModel", "recovers", "(I)V"⟩, 24) := ⟨⟨by decide +kernel, by decide +kernel⟩, List.mem_of_getElem? (i := 1834) (by decide +kernel), List.mem_of_getElem? (i := 2247) (by decide +kernel), List.mem_of_getElem? (i := 2248) (by decide +kernel)⟩
theorem lw_p107 : lw_okq (⟨"NotaryBookModel", "readsSew", "()V"⟩, 24) := ⟨⟨by decide +kernel, by decide +kernel⟩, List.mem_of_getElem? (i := 1834) (by decide +kernel), List.mem_of_getElem? (i := 2252) (by decide +kernel), List.mem_of_getElem? (i := 2253) (by decide +kernel)⟩
theorem lw_p108 : lw_okq (⟨"NotaryBookModel", "readsShake", "()V"⟩, 24) := ⟨⟨by decide +kernel, by decide +kernel⟩, List.mem_of_getElem? (i := 1834) (by decide +kernel), List.mem_of_getElem? (i := 2257) (by decide +kernel), List.mem_of_getElem? (i := 2258) (by decide +kernel)⟩
theorem lw_p109 : lw_okq (⟨"NotaryBookModel", "shakes", "()I"⟩, 24) := ⟨⟨by decide +kernel, by decide +kernel⟩, List.mem_of_getElem? (i := 1834) (by decide +kernel), List.mem_of_getElem? (i := 2261) (by decide +kernel), List.mem_of_getElem? (i := 2262) (by decide +kernel)⟩
theorem lw_p110 : lw_okq (⟨"NotaryBookModel", "back", "(I)I"⟩, 24) := ⟨⟨by decide +kernel, by decide +kernel⟩, List.mem_of_getElem? (i := 1834) (by decide +kernel), List.mem_of_getElem? (i := 2265) (by decide +kernel), List.mem_of_getElem? (i := 2266) (by decide +kernel)⟩
theorem lw_p111 : lw_okq (⟨"NotaryBookModel", "mayTwo", "(ZZ)Z"⟩, 24) := ⟨⟨by decide +kernel, by decide +kernel⟩, List.mem_of_getElem? (i := 1834) (by decide +kernel), List.mem_of_getElem? (i := 2273) (by decide +kernel), List.mem_of_getElem? (i := 2274) (by decide +kernel)⟩
def lw_privs_7 : List (MethodName × Nat) := [(⟨"NotaryBookModel", "hasWord", "(II)Z"⟩, 24), (⟨"NotaryBookModel", "ofCopy", "(II)I"⟩, 24), (⟨"NotaryBookModel", "actOf", "(I)I"⟩, 24), (⟨"NotaryBookModel", "copies", "(II)V"⟩, 24), (⟨"NotaryBookModel", "readsLeafLine", "()V"⟩, 24), (⟨"NotaryBookModel", "readsLose", "()V"⟩, 24), (⟨"NotaryBookModel", "leafHere", "()I"⟩, 24), (⟨"NotaryBookModel", "loses", "(I)V"⟩, 24), (⟨"NotaryBookModel", "loosens", "(I)V"⟩, 24), (⟨"NotaryBookModel", "readsFind", "()V"⟩, 24), (⟨"NotaryBookModel", "recovers", "(I)V"⟩, 24), (⟨"NotaryBookModel", "readsSew", "()V"⟩, 24), (⟨"NotaryBookModel", "readsShake", "()V"⟩, 24), (⟨"NotaryBookModel", "shakes", "()I"⟩, 24), (⟨"NotaryBookModel", "back", "(I)I"⟩, 24), (⟨"NotaryBookModel", "mayTwo", "(ZZ)Z"⟩, 24)]
theorem lw_r7 : ∀ q ∈ lw_privs_7, lw_okq q := List.forall_mem_cons.mpr ⟨lw_p96, List.forall_mem_cons.mpr ⟨lw_p97, List.forall_mem_cons.mpr ⟨lw_p98, List.forall_mem_cons.mpr ⟨lw_p99, List.forall_mem_cons.mpr ⟨lw_p100, List.forall_mem_cons.mpr ⟨lw_p101, List.forall_mem_cons.mpr ⟨lw_p102, List.forall_mem_cons.mpr ⟨lw_p103, List.forall_mem_cons.mpr ⟨lw_p104, List.forall_mem_cons.mpr ⟨lw_p105, List.forall_mem_cons.mpr ⟨lw_p106, List.forall_mem_cons.mpr ⟨lw_p107, List.forall_mem_cons.mpr ⟨lw_p108, List.forall_mem_cons.mpr ⟨lw_p109, List.forall_mem_cons.mpr ⟨lw_p110, List.forall_mem_cons.mpr ⟨lw_p111, fun _ h => absurd h List.not_mem_nil⟩⟩⟩⟩⟩⟩⟩⟩⟩⟩⟩⟩⟩⟩⟩⟩
theorem lw_p112 : lw_okq (⟨"NotaryBookModel", "withStatus", "(I)I"⟩, 24) := ⟨⟨by decide +kernel, by decide +kernel⟩, List.mem_of_getElem? (i := 1834) (by decide +kernel), List.mem_of_getElem? (i := 2277) (by decide +kernel), List.mem_of_getElem? (i := 2278) (by decide +kernel)⟩
theorem lw_p113 : lw_okq (⟨"NotaryBookModel", "ofAllActs", "(I)I"⟩, 24) := ⟨⟨by decide +kernel, by decide +kernel⟩, List.mem_of_getElem? (i := 1834) (by decide +kernel), List.mem_of_getElem? (i := 2281) (by decide +kernel), List.mem_of_getElem? (i := 2282) (by decide +kernel)⟩
theorem lw_p114 : lw_okq (⟨"NotaryBookModel", "standingAll", "(Z)I"⟩, 24) := ⟨⟨by decide +kernel, by decide +kernel⟩, List.mem_of_getElem? (i := 1834) (by decide +kernel), List.mem_of_getElem? (i := 2285) (by decide +kernel), List.mem_of_getElem? (i := 2286) (by decide +kernel)⟩
theorem lw_p115 : lw_okq (⟨"NotaryBookModel", "actsWith", "(I)I"⟩, 24) := ⟨⟨by decide +kernel, by decide +kernel⟩, List.mem_of_getElem? (i := 1834) (by decide +kernel), List.mem_of_getElem? (i := 2289) (by decide +kernel), List.mem_of_getElem? (i := 2290) (by decide +kernel)⟩
theorem lw_p116 : lw_okq (⟨"NotaryBookModel", "unknown", "()I"⟩, 24) := ⟨⟨by decide +kernel, by decide +kernel⟩, List.mem_of_getElem? (i := 1834) (by decide +kernel), List.mem_of_getElem? (i := 2293) (by decide +kernel), List.mem_of_getElem? (i := 2294) (by decide +kernel)⟩
theorem lw_p117 : lw_okq (⟨"NotaryBookModel", "isAct", "(I)Z"⟩, 24) := ⟨⟨by decide +kernel, by decide +kernel⟩, List.mem_of_getElem? (i := 1834) (by decide +kernel), List.mem_of_getElem? (i := 2301) (by decide +kernel), List.mem_of_getElem? (i := 2302) (by decide +kernel)⟩
theorem lw_p118 : lw_okq (⟨"NotaryBookModel", "deepest", "(I)I"⟩, 24) := ⟨⟨by decide +kernel, by decide +kernel⟩, List.mem_of_getElem? (i := 1834) (by decide +kernel), List.mem_of_getElem? (i := 2305) (by decide +kernel), List.mem_of_getElem? (i := 2306) (by decide +kernel)⟩
theorem lw_p119 : lw_okq (⟨"NotaryBookModel", "depthOf", "(I)I"⟩, 24) := ⟨⟨by decide +kernel, by decide +kernel⟩, List.mem_of_getElem? (i := 1834) (by decide +kernel), List.mem_of_getElem? (i := 2309) (by decide +kernel), List.mem_of_getElem? (i := 2310) (by decide +kernel)⟩
theorem lw_p120 : lw_okq (⟨"NotaryBookModel", "copiesOf", "(I)I"⟩, 24) := ⟨⟨by decide +kernel, by decide +kernel⟩, List.mem_of_getElem? (i := 1834) (by decide +kernel), List.mem_of_getElem? (i := 2314) (by decide +kernel), List.mem_of_getElem? (i := 2315) (by decide +kernel)⟩
theorem lw_p121 : lw_okq (⟨"NotaryBookModel", "isWordOf", "(II)Z"⟩, 24) := ⟨⟨by decide +kernel, by decide +kernel⟩, List.mem_of_getElem? (i := 1834) (by decide +kernel), List.mem_of_getElem? (i := 2322) (by decide +kernel), List.mem_of_getElem? (i := 2323) (by decide +kernel)⟩
theorem lw_p122 : lw_okq (⟨"NotaryBookModel", "globalOf", "(II)I"⟩, 24) := ⟨⟨by decide +kernel, by decide +kernel⟩, List.mem_of_getElem? (i := 1834) (by decide +kernel), List.mem_of_getElem? (i := 2326) (by decide +kernel), List.mem_of_getElem? (i := 2327) (by decide +kernel)⟩
theorem lw_p123 : lw_okq (⟨"NotaryBookModel", "clauseNumber", "(I)I"⟩, 24) := ⟨⟨by decide +kernel, by decide +kernel⟩, List.mem_of_getElem? (i := 1834) (by decide +kernel), List.mem_of_getElem? (i := 2336) (by decide +kernel), List.mem_of_getElem? (i := 2337) (by decide +kernel)⟩
theorem lw_p124 : lw_okq (⟨"NotaryBookModel", "standingWritten", "(II)I"⟩, 24) := ⟨⟨by decide +kernel, by decide +kernel⟩, List.mem_of_getElem? (i := 1834) (by decide +kernel), List.mem_of_getElem? (i := 2352) (by decide +kernel), List.mem_of_getElem? (i := 2353) (by decide +kernel)⟩
theorem lw_p125 : lw_okq (⟨"NotaryBookModel", "clausesIn", "(II)I"⟩, 24) := ⟨⟨by decide +kernel, by decide +kernel⟩, List.mem_of_getElem? (i := 1834) (by decide +kernel), List.mem_of_getElem? (i := 2356) (by decide +kernel), List.mem_of_getElem? (i := 2357) (by decide +kernel)⟩
theorem lw_p126 : lw_okq (⟨"NotaryBookModel", "isLeaf", "(I)Z"⟩, 24) := ⟨⟨by decide +kernel, by decide +kernel⟩, List.mem_of_getElem? (i := 1834) (by decide +kernel), List.mem_of_getElem? (i := 2364) (by decide +kernel), List.mem_of_getElem? (i := 2365) (by decide +kernel)⟩
theorem lw_p127 : lw_okq (⟨"NotaryBookModel", "lastOn", "(I)I"⟩, 24) := ⟨⟨by decide +kernel, by decide +kernel⟩, List.mem_of_getElem? (i := 1834) (by decide +kernel), List.mem_of_getElem? (i := 2368) (by decide +kernel), List.mem_of_getElem? (i := 2369) (by decide +kernel)⟩
def lw_privs_8 : List (MethodName × Nat) := [(⟨"NotaryBookModel", "withStatus", "(I)I"⟩, 24), (⟨"NotaryBookModel", "ofAllActs", "(I)I"⟩, 24), (⟨"NotaryBookModel", "standingAll", "(Z)I"⟩, 24), (⟨"NotaryBookModel", "actsWith", "(I)I"⟩, 24), (⟨"NotaryBookModel", "unknown", "()I"⟩, 24), (⟨"NotaryBookModel", "isAct", "(I)Z"⟩, 24), (⟨"NotaryBookModel", "deepest", "(I)I"⟩, 24), (⟨"NotaryBookModel", "depthOf", "(I)I"⟩, 24), (⟨"NotaryBookModel", "copiesOf", "(I)I"⟩, 24), (⟨"NotaryBookModel", "isWordOf", "(II)Z"⟩, 24), (⟨"NotaryBookModel", "globalOf", "(II)I"⟩, 24), (⟨"NotaryBookModel", "clauseNumber", "(I)I"⟩, 24), (⟨"NotaryBookModel", "standingWritten", "(II)I"⟩, 24), (⟨"NotaryBookModel", "clausesIn", "(II)I"⟩, 24), (⟨"NotaryBookModel", "isLeaf", "(I)Z"⟩, 24), (⟨"NotaryBookModel", "lastOn", "(I)I"⟩, 24)]
theorem lw_r8 : ∀ q ∈ lw_privs_8, lw_okq q := List.forall_mem_cons.mpr ⟨lw_p112, List.forall_mem_cons.mpr ⟨lw_p113, List.forall_mem_cons.mpr ⟨lw_p114, List.forall_mem_cons.mpr ⟨lw_p115, List.forall_mem_cons.mpr ⟨lw_p116, List.forall_mem_cons.mpr ⟨lw_p117, List.forall_mem_cons.mpr ⟨lw_p118, List.forall_mem_cons.mpr ⟨lw_p119, List.forall_mem_cons.mpr ⟨lw_p120, List.forall_mem_cons.mpr ⟨lw_p121, List.forall_mem_cons.mpr ⟨lw_p122, List.forall_mem_cons.mpr ⟨lw_p123, List.forall_mem_cons.mpr ⟨lw_p124, List.forall_mem_cons.mpr ⟨lw_p125, List.forall_mem_cons.mpr ⟨lw_p126, List.forall_mem_cons.mpr ⟨lw_p127, fun _ h => absurd h List.not_mem_nil⟩⟩⟩⟩⟩⟩⟩⟩⟩⟩⟩⟩⟩⟩⟩⟩
theorem lw_p128 : lw_okq (⟨"NotaryBookModel", "firstOn", "(I)I"⟩, 24) := ⟨⟨by decide +kernel, by decide +kernel⟩, List.mem_of_getElem? (i := 1834) (by decide +kernel), List.mem_of_getElem? (i := 2373) (by decide +kernel), List.mem_of_getElem? (i := 2374) (by decide +kernel)⟩
theorem lw_p129 : lw_okq (⟨"NotaryBookModel", "isCopy", "(I)Z"⟩, 24) := ⟨⟨by decide +kernel, by decide +kernel⟩, List.mem_of_getElem? (i := 1834) (by decide +kernel), List.mem_of_getElem? (i := 2381) (by decide +kernel), List.mem_of_getElem? (i := 2382) (by decide +kernel)⟩
theorem lw_p130 : lw_okq (⟨"NotaryBookModel", "wordsBy", "(II)I"⟩, 24) := ⟨⟨by decide +kernel, by decide +kernel⟩, List.mem_of_getElem? (i := 1834) (by decide +kernel), List.mem_of_getElem? (i := 2385) (by decide +kernel), List.mem_of_getElem? (i := 2386) (by decide +kernel)⟩
theorem lw_p131 : lw_okq (⟨"NotaryBookModel", "knownBy", "(I)I"⟩, 24) := ⟨⟨by decide +kernel, by decide +kernel⟩, List.mem_of_getElem? (i := 1834) (by decide +kernel), List.mem_of_getElem? (i := 2389) (by decide +kernel), List.mem_of_getElem? (i := 2390) (by decide +kernel)⟩
theorem lw_p132 : lw_okq (⟨"NotaryBookModel", "mayAct", "(I)Z"⟩, 24) := ⟨⟨by decide +kernel, by decide +kernel⟩, List.mem_of_getElem? (i := 1834) (by decide +kernel), List.mem_of_getElem? (i := 2401) (by decide +kernel), List.mem_of_getElem? (i := 2402) (by decide +kernel)⟩
theorem lw_p133 : lw_okq (⟨"NotaryBookModel", "mayLook", "()Z"⟩, 24) := ⟨⟨by decide +kernel, by decide +kernel⟩, List.mem_of_getElem? (i := 1834) (by decide +kernel), List.mem_of_getElem? (i := 2413) (by decide +kernel), List.mem_of_getElem? (i := 2414) (by decide +kernel)⟩
theorem lw_p134 : lw_okq (⟨"NotaryBookModel", "standingByClauses", "(I)I"⟩, 24) := ⟨⟨by decide +kernel, by decide +kernel⟩, List.mem_of_getElem? (i := 1834) (by decide +kernel), List.mem_of_getElem? (i := 2417) (by decide +kernel), List.mem_of_getElem? (i := 2418) (by decide +kernel)⟩
theorem lw_p135 : lw_okq (⟨"NotaryBookModel", "standingIn", "(II)I"⟩, 24) := ⟨⟨by decide +kernel, by decide +kernel⟩, List.mem_of_getElem? (i := 1834) (by decide +kernel), List.mem_of_getElem? (i := 2421) (by decide +kernel), List.mem_of_getElem? (i := 2422) (by decide +kernel)⟩
theorem lw_p136 : lw_okq (⟨"NotaryBookModel", "mayLeaf", "(I)Z"⟩, 24) := ⟨⟨by decide +kernel, by decide +kernel⟩, List.mem_of_getElem? (i := 1834) (by decide +kernel), List.mem_of_getElem? (i := 2445) (by decide +kernel), List.mem_of_getElem? (i := 2446) (by decide +kernel)⟩
theorem lw_p137 : lw_okq (⟨"NotaryBookModel", "lostBy", "(I)I"⟩, 24) := ⟨⟨by decide +kernel, by decide +kernel⟩, List.mem_of_getElem? (i := 1834) (by decide +kernel), List.mem_of_getElem? (i := 2449) (by decide +kernel), List.mem_of_getElem? (i := 2450) (by decide +kernel)⟩
theorem lw_p138 : lw_okq (⟨"NotaryBookModel", "knownWith", "(II)I"⟩, 24) := ⟨⟨by decide +kernel, by decide +kernel⟩, List.mem_of_getElem? (i := 1834) (by decide +kernel), List.mem_of_getElem? (i := 2473) (by decide +kernel), List.mem_of_getElem? (i := 2474) (by decide +kernel)⟩
theorem lw_p139 : lw_okq (⟨"NotaryBookModel", "isAsked", "(IZ)Z"⟩, 24) := ⟨⟨by decide +kernel, by decide +kernel⟩, List.mem_of_getElem? (i := 1834) (by decide +kernel), List.mem_of_getElem? (i := 2481) (by decide +kernel), List.mem_of_getElem? (i := 2482) (by decide +kernel)⟩
theorem lw_p140 : lw_okq (⟨"NotaryBookModel", "standingWithout", "(IZ)I"⟩, 24) := ⟨⟨by decide +kernel, by decide +kernel⟩, List.mem_of_getElem? (i := 1834) (by decide +kernel), List.mem_of_getElem? (i := 2485) (by decide +kernel), List.mem_of_getElem? (i := 2486) (by decide +kernel)⟩
theorem lw_p141 : lw_okq (⟨"NotaryBookModel", "areLetters", "(I)Z"⟩, 24) := ⟨⟨by decide +kernel, by decide +kernel⟩, List.mem_of_getElem? (i := 1834) (by decide +kernel), List.mem_of_getElem? (i := 2493) (by decide +kernel), List.mem_of_getElem? (i := 2494) (by decide +kernel)⟩
theorem lw_p142 : lw_okq (⟨"NotaryBookModel", "actWith", "(II)I"⟩, 24) := ⟨⟨by decide +kernel, by decide +kernel⟩, List.mem_of_getElem? (i := 1834) (by decide +kernel), List.mem_of_getElem? (i := 2497) (by decide +kernel), List.mem_of_getElem? (i := 2498) (by decide +kernel)⟩
theorem lw_p143 : lw_okq (⟨"NotaryBookModel", "standsAt", "(III)Z"⟩, 24) := ⟨⟨by decide +kernel, by decide +kernel⟩, List.mem_of_getElem? (i := 1834) (by decide +kernel), List.mem_of_getElem? (i := 2501) (by decide +kernel), List.mem_of_getElem? (i := 2502) (by decide +kernel)⟩
def lw_privs_9 : List (MethodName × Nat) := [(⟨"NotaryBookModel", "firstOn", "(I)I"⟩, 24), (⟨"NotaryBookModel", "isCopy", "(I)Z"⟩, 24), (⟨"NotaryBookModel", "wordsBy", "(II)I"⟩, 24), (⟨"NotaryBookModel", "knownBy", "(I)I"⟩, 24), (⟨"NotaryBookModel", "mayAct", "(I)Z"⟩, 24), (⟨"NotaryBookModel", "mayLook", "()Z"⟩, 24), (⟨"NotaryBookModel", "standingByClauses", "(I)I"⟩, 24), (⟨"NotaryBookModel", "standingIn", "(II)I"⟩, 24), (⟨"NotaryBookModel", "mayLeaf", "(I)Z"⟩, 24), (⟨"NotaryBookModel", "lostBy", "(I)I"⟩, 24), (⟨"NotaryBookModel", "knownWith", "(II)I"⟩, 24), (⟨"NotaryBookModel", "isAsked", "(IZ)Z"⟩, 24), (⟨"NotaryBookModel", "standingWithout", "(IZ)I"⟩, 24), (⟨"NotaryBookModel", "areLetters", "(I)Z"⟩, 24), (⟨"NotaryBookModel", "actWith", "(II)I"⟩, 24), (⟨"NotaryBookModel", "standsAt", "(III)Z"⟩, 24)]
theorem lw_r9 : ∀ q ∈ lw_privs_9, lw_okq q := List.forall_mem_cons.mpr ⟨lw_p128, List.forall_mem_cons.mpr ⟨lw_p129, List.forall_mem_cons.mpr ⟨lw_p130, List.forall_mem_cons.mpr ⟨lw_p131, List.forall_mem_cons.mpr ⟨lw_p132, List.forall_mem_cons.mpr ⟨lw_p133, List.forall_mem_cons.mpr ⟨lw_p134, List.forall_mem_cons.mpr ⟨lw_p135, List.forall_mem_cons.mpr ⟨lw_p136, List.forall_mem_cons.mpr ⟨lw_p137, List.forall_mem_cons.mpr ⟨lw_p138, List.forall_mem_cons.mpr ⟨lw_p139, List.forall_mem_cons.mpr ⟨lw_p140, List.forall_mem_cons.mpr ⟨lw_p141, List.forall_mem_cons.mpr ⟨lw_p142, List.forall_mem_cons.mpr ⟨lw_p143, fun _ h => absurd h List.not_mem_nil⟩⟩⟩⟩⟩⟩⟩⟩⟩⟩⟩⟩⟩⟩⟩⟩
theorem lw_p144 : lw_okq (⟨"NotaryBookModel", "isAlike", "(III)Z"⟩, 24) := ⟨⟨by decide +kernel, by decide +kernel⟩, List.mem_of_getElem? (i := 1834) (by decide +kernel), List.mem_of_getElem? (i := 2505) (by decide +kernel), List.mem_of_getElem? (i := 2506) (by decide +kernel)⟩
theorem lw_p145 : lw_okq (⟨"NotaryBookModel", "isWrittenIn", "(III)Z"⟩, 24) := ⟨⟨by decide +kernel, by decide +kernel⟩, List.mem_of_getElem? (i := 1834) (by decide +kernel), List.mem_of_getElem? (i := 2517) (by decide +kernel), List.mem_of_getElem? (i := 2518) (by decide +kernel)⟩
theorem lw_p146 : lw_okq (⟨"NotaryBookModel", "writesOpening", "(II)V"⟩, 24) := ⟨⟨by decide +kernel, by decide +kernel⟩, List.mem_of_getElem? (i := 1834) (by decide +kernel), List.mem_of_getElem? (i := 2533) (by decide +kernel), List.mem_of_getElem? (i := 2534) (by decide +kernel)⟩
theorem lw_p147 : lw_okq (⟨"NotaryBookModel", "writesBlank", "()V"⟩, 24) := ⟨⟨by decide +kernel, by decide +kernel⟩, List.mem_of_getElem? (i := 1834) (by decide +kernel), List.mem_of_getElem? (i := 2537) (by decide +kernel), List.mem_of_getElem? (i := 2538) (by decide +kernel)⟩
theorem lw_p148 : lw_okq (⟨"NotaryBookModel", "writesByte", "(I)V"⟩, 24) := ⟨⟨by decide +kernel, by decide +kernel⟩, List.mem_of_getElem? (i := 1834) (by decide +kernel), List.mem_of_getElem? (i := 2541) (by decide +kernel), List.mem_of_getElem? (i := 2542) (by decide +kernel)⟩
theorem lw_p149 : lw_okq (⟨"NotaryBookModel", "writesWord", "(IZ)V"⟩, 24) := ⟨⟨by decide +kernel, by decide +kernel⟩, List.mem_of_getElem? (i := 1834) (by decide +kernel), List.mem_of_getElem? (i := 2545) (by decide +kernel), List.mem_of_getElem? (i := 2546) (by decide +kernel)⟩
theorem lw_p150 : lw_okq (⟨"NotaryBookModel", "writesLetters", "(I)V"⟩, 24) := ⟨⟨by decide +kernel, by decide +kernel⟩, List.mem_of_getElem? (i := 1834) (by decide +kernel), List.mem_of_getElem? (i := 2549) (by decide +kernel), List.mem_of_getElem? (i := 2550) (by decide +kernel)⟩
theorem lw_p151 : lw_okq (⟨"NotaryBookModel", "writesInner", "(II)V"⟩, 24) := ⟨⟨by decide +kernel, by decide +kernel⟩, List.mem_of_getElem? (i := 1834) (by decide +kernel), List.mem_of_getElem? (i := 2553) (by decide +kernel), List.mem_of_getElem? (i := 2554) (by decide +kernel)⟩
theorem lw_p152 : lw_okq (⟨"NotaryBookModel", "writesClosing", "(II)V"⟩, 24) := ⟨⟨by decide +kernel, by decide +kernel⟩, List.mem_of_getElem? (i := 1834) (by decide +kernel), List.mem_of_getElem? (i := 2557) (by decide +kernel), List.mem_of_getElem? (i := 2558) (by decide +kernel)⟩
theorem lw_p153 : lw_okq (⟨"NotaryBookModel", "written", "()I"⟩, 24) := ⟨⟨by decide +kernel, by decide +kernel⟩, List.mem_of_getElem? (i := 1834) (by decide +kernel), List.mem_of_getElem? (i := 2565) (by decide +kernel), List.mem_of_getElem? (i := 2566) (by decide +kernel)⟩
theorem lw_p154 : lw_okq (⟨"NotaryBookModel", "writesOnLeaf", "(I)V"⟩, 24) := ⟨⟨by decide +kernel, by decide +kernel⟩, List.mem_of_getElem? (i := 1834) (by decide +kernel), List.mem_of_getElem? (i := 2573) (by decide +kernel), List.mem_of_getElem? (i := 2574) (by decide +kernel)⟩
theorem lw_p155 : lw_okq (⟨"NotaryBookModel", "writesNumber", "(I)V"⟩, 24) := ⟨⟨by decide +kernel, by decide +kernel⟩, List.mem_of_getElem? (i := 1834) (by decide +kernel), List.mem_of_getElem? (i := 2577) (by decide +kernel), List.mem_of_getElem? (i := 2578) (by decide +kernel)⟩
theorem lw_p156 : lw_okq (⟨"NotaryBookModel", "mayCopy", "(I)Z"⟩, 24) := ⟨⟨by decide +kernel, by decide +kernel⟩, List.mem_of_getElem? (i := 1834) (by decide +kernel), List.mem_of_getElem? (i := 2585) (by decide +kernel), List.mem_of_getElem? (i := 2586) (by decide +kernel)⟩
theorem lw_p157 : lw_okq (⟨"NotaryBookModel", "canBegin", "(I)Z"⟩, 24) := ⟨⟨by decide +kernel, by decide +kernel⟩, List.mem_of_getElem? (i := 1834) (by decide +kernel), List.mem_of_getElem? (i := 2597) (by decide +kernel), List.mem_of_getElem? (i := 2598) (by decide +kernel)⟩
theorem lw_p158 : lw_okq (⟨"NotaryBookModel", "isRead", "(II)Z"⟩, 24) := ⟨⟨by decide +kernel, by decide +kernel⟩, List.mem_of_getElem? (i := 1834) (by decide +kernel), List.mem_of_getElem? (i := 2601) (by decide +kernel), List.mem_of_getElem? (i := 2602) (by decide +kernel)⟩
theorem lw_p159 : lw_okq (⟨"NotaryBookModel", "remembers", "()V"⟩, 24) := ⟨⟨by decide +kernel, by decide +kernel⟩, List.mem_of_getElem? (i := 1834) (by decide +kernel), List.mem_of_getElem? (i := 2605) (by decide +kernel), List.mem_of_getElem? (i := 2606) (by decide +kernel)⟩
def lw_privs_10 : List (MethodName × Nat) := [(⟨"NotaryBookModel", "isAlike", "(III)Z"⟩, 24), (⟨"NotaryBookModel", "isWrittenIn", "(III)Z"⟩, 24), (⟨"NotaryBookModel", "writesOpening", "(II)V"⟩, 24), (⟨"NotaryBookModel", "writesBlank", "()V"⟩, 24), (⟨"NotaryBookModel", "writesByte", "(I)V"⟩, 24), (⟨"NotaryBookModel", "writesWord", "(IZ)V"⟩, 24), (⟨"NotaryBookModel", "writesLetters", "(I)V"⟩, 24), (⟨"NotaryBookModel", "writesInner", "(II)V"⟩, 24), (⟨"NotaryBookModel", "writesClosing", "(II)V"⟩, 24), (⟨"NotaryBookModel", "written", "()I"⟩, 24), (⟨"NotaryBookModel", "writesOnLeaf", "(I)V"⟩, 24), (⟨"NotaryBookModel", "writesNumber", "(I)V"⟩, 24), (⟨"NotaryBookModel", "mayCopy", "(I)Z"⟩, 24), (⟨"NotaryBookModel", "canBegin", "(I)Z"⟩, 24), (⟨"NotaryBookModel", "isRead", "(II)Z"⟩, 24), (⟨"NotaryBookModel", "remembers", "()V"⟩, 24)]
theorem lw_r10 : ∀ q ∈ lw_privs_10, lw_okq q := List.forall_mem_cons.mpr ⟨lw_p144, List.forall_mem_cons.mpr ⟨lw_p145, List.forall_mem_cons.mpr ⟨lw_p146, List.forall_mem_cons.mpr ⟨lw_p147, List.forall_mem_cons.mpr ⟨lw_p148, List.forall_mem_cons.mpr ⟨lw_p149, List.forall_mem_cons.mpr ⟨lw_p150, List.forall_mem_cons.mpr ⟨lw_p151, List.forall_mem_cons.mpr ⟨lw_p152, List.forall_mem_cons.mpr ⟨lw_p153, List.forall_mem_cons.mpr ⟨lw_p154, List.forall_mem_cons.mpr ⟨lw_p155, List.forall_mem_cons.mpr ⟨lw_p156, List.forall_mem_cons.mpr ⟨lw_p157, List.forall_mem_cons.mpr ⟨lw_p158, List.forall_mem_cons.mpr ⟨lw_p159, fun _ h => absurd h List.not_mem_nil⟩⟩⟩⟩⟩⟩⟩⟩⟩⟩⟩⟩⟩⟩⟩⟩
theorem lw_p160 : lw_okq (⟨"NotaryBookModel", "canInterline", "(II)Z"⟩, 24) := ⟨⟨by decide +kernel, by decide +kernel⟩, List.mem_of_getElem? (i := 1834) (by decide +kernel), List.mem_of_getElem? (i := 2622) (by decide +kernel), List.mem_of_getElem? (i := 2623) (by decide +kernel)⟩
def lw_privs_11 : List (MethodName × Nat) := [(⟨"NotaryBookModel", "canInterline", "(II)Z"⟩, 24)]
theorem lw_r11 : ∀ q ∈ lw_privs_11, lw_okq q := List.forall_mem_cons.mpr ⟨lw_p160, fun _ h => absurd h List.not_mem_nil⟩
def lw_privs : List (MethodName × Nat) := lw_privs_1 ++ (lw_privs_2 ++ (lw_privs_3 ++ (lw_privs_4 ++ (lw_privs_5 ++ (lw_privs_6 ++ (lw_privs_7 ++ (lw_privs_8 ++ (lw_privs_9 ++ (lw_privs_10 ++ (lw_privs_11))))))))))
def lw_tbl : List Cond := k2_sels lw_privs ++ tables_1
theorem lw_privs_ok : ∀ q ∈ lw_privs, lw_okq q := by
  show ∀ q ∈ lw_privs_1 ++ (lw_privs_2 ++ (lw_privs_3 ++ (lw_privs_4 ++ (lw_privs_5 ++ (lw_privs_6 ++ (lw_privs_7 ++ (lw_privs_8 ++ (lw_privs_9 ++ (lw_privs_10 ++ (lw_privs_11)))))))))), lw_okq q
  exact List.forall_mem_append.mpr ⟨lw_r1, List.forall_mem_append.mpr ⟨lw_r2, List.forall_mem_append.mpr ⟨lw_r3, List.forall_mem_append.mpr ⟨lw_r4, List.forall_mem_append.mpr ⟨lw_r5, List.forall_mem_append.mpr ⟨lw_r6, List.forall_mem_append.mpr ⟨lw_r7, List.forall_mem_append.mpr ⟨lw_r8, List.forall_mem_append.mpr ⟨lw_r9, List.forall_mem_append.mpr ⟨lw_r10, lw_r11⟩⟩⟩⟩⟩⟩⟩⟩⟩⟩
/-- the streams that the claim lets the run draw from -/
abbrev lw_cs : List Choice := [Jvm.Choice.named "NaN.bits"]
theorem lw_bits : nanBits ∈ lw_cs := by first | decide | exact List.mem_cons_self | simp [lw_cs, nanBits]
-- ===== end of PART A; then your names; then what follows =====
end
section
/-! ===== BEGIN words of one list among another's, by their places ===== -/
theorem goodIn_r {big : List Cond} (ws : List Cond) (ps : List Nat) (hp : ws = ps.filterMap (fun i => big[i]?)) (h : ws.all goodWord = true) : GoodIn big ws := by
  intro w hw
  have h1 := List.all_eq_true.mp h w hw
  rw [hp] at hw
  obtain ⟨i, -, hi⟩ := List.mem_filterMap.mp hw
  have hm : w ∈ big := by first | exact List.mem_of_getElem? hi | exact List.getElem?_mem hi
  exact ⟨hm, good_of_word h1⟩
theorem goodIn_app {big a b : List Cond} (ha : GoodIn big a) (hb : GoodIn big b) : GoodIn big (a ++ b) := fun w h => (List.mem_append.mp h).elim (ha w) (hb w)
theorem goodIn_ca {big a b : List Cond} {c : Cond} (ha : GoodIn big (c :: a)) (hb : GoodIn big b) : GoodIn big (c :: (a ++ b)) := fun w h => (List.mem_cons.mp h).elim (fun e => ha w (List.mem_cons.mpr (Or.inl e))) (fun h => (List.mem_append.mp h).elim (fun h => ha w (List.mem_cons.mpr (Or.inr h))) (hb w))
theorem goodIn_sub {big ws : List Cond} (hm : ∀ w ∈ ws, w ∈ big) (h : ws.all goodWord = true) : GoodIn big ws := fun w hw => ⟨hm w hw, good_of_word (List.all_eq_true.mp h w hw)⟩
/-! ===== END ===== -/
/-! ===== BEGIN exceptions that leave a method, and their catching by the caller (launches without stack traces) ===== -/
section VXA
/-! The laws vx_back, vx_callV, vx_callS, vx_callSW, vx_throw0, vx_throwS follow proofs of the library, with one case more: JvmDerived/Free/Laws.lean (Back.of_free), Shelf42/LK1.lean (callV, callS), Shelf/KitTraced.lean (throwNew0V, throwNewS). -/
/-- where a method has thrown q: the class by its name, the cell, what was written, the world -/
def vx_T (XC : String → State → State → Prop) (st : State) (q : Addr) (t : State) (mc ms : Nat) (free : Addr → Prop) : Prop :=
  ∃ (E : String) (ce : Cell) (L : List Loc), XC E st t ∧ t.heap[q]? = some ce ∧ ce.vm = .none ∧ st.vm.findClass E = some ce.cls ∧ st.WarmedH t.vm ∧ st.sameButNew ({ t with vm := st.vm } : State) L mc ms ∧ ∀ z ∈ L, free z.base
def vx_Q (Qc : Array Value → State → Outcome → State → Prop) (XC : String → State → State → Prop) (mc ms : Nat) (free : Addr → Prop) : Array Value → State → Outcome → State → Prop := fun a st o t =>
  (Qc a st o t ∧ ∃ L, FrameEnd st o t L mc ms ∧ ∀ q ∈ L, free q.base) ∨ ∃ q, o = .threw q ∧ vx_T XC st q t mc ms free
/-- a callee that returns or throws -/
def vx_Met (l : Launch) (y : MethodName) (ws : List Cond) (rm : Room) (Pc : Array Value → State → Prop) (Qc : Array Value → State → Outcome → State → Prop) (XC : String → State → State → Prop) (mc ms : Nat) (free : Addr → Prop) : Prop :=
  MetFree l y (headSpec ws rm) Pc (fun _ _ _ _ _ => True) (vx_Q Qc XC mc ms free)
def vx_Post (XC : String → State → State → Prop) (mc ms : Nat) (free : Addr → Prop) : Pt → Array Value → Addr → Pt → Prop := fun A a q B =>
  ∃ (g : JFrame) (mk : MethodId) (t : State) (L : List Loc) (E : String) (ce : Cell), B.U.heap = t.heap ∧ B.U.vm = t.vm ∧ XC E (A.U.calling g mk a) t ∧ t.heap[q]? = some ce ∧ ce.vm = .none ∧ A.U.vm.findClass E = some ce.cls ∧ B.locs = A.locs ++ L ∧ (∀ z ∈ L, free z.base) ∧ B.cells = A.cells + mc ∧ B.slots = A.slots + ms
def vx_Back (l : Launch) (R : Room) (p : Program) (e : Env) (below : List Frame) (s : State) (sargs : Array Value) (y : MethodName) (len W9 : Nat)
    (Pre : Pt → Array Value → Prop) (Post : Pt → Array Value → Option Value → Pt → Prop) (PostX : Pt → Array Value → Addr → Pt → Prop) : Prop :=
  ∀ (m : MethodId) (meth : Method) (c : Code) (A : Pt) (g : JFrame) (ig : Instr) (mk : MethodId) (a : Array Value),
    Stand p l e R s m sargs below meth c A.U A.locs A.cells A.slots → g.method = m → g.locals.size = c.maxLocals → decode c.code g.pc = .ok (ig, len) →
    2 * g.monitorRoom + (g.stack.map fun v => v.category).sum ≤ W9 → A.U.methodNamed? y = some mk → Pre A a →
    (∃ (v : Option Value) (B : Pt), Stand p l e R s m sargs below meth c B.U B.locs B.cells B.slots ∧ Post A a v B ∧
      Steps p.tables e below (doInvoke e (A.U.setTop g) [] mk a).1 (B.U.setTop { g with pc := g.pc + len, stack := v.toList ++ g.stack })) ∨
    (∃ (q : Addr) (B : Pt), Stand p l e R s m sargs below meth c B.U B.locs B.cells B.slots ∧ PostX A a q B ∧
      Steps p.tables e below (doInvoke e (A.U.setTop g) [] mk a).1 ((B.U.setTop g).pushFrame (.throwing q)))
section Payer
variable {l : Launch} {R : Room} {p : Program} {e : Env} {below : List Frame} {s : State} {sargs : Array Value} {y : MethodName} {len W9 : Nat}
theorem vx_back {ws : List Cond} {rm : Room} {Pc : Array Value → State → Prop} {Qc : Array Value → State → Outcome → State → Prop} {XC : String → State → State → Prop} {mc ms : Nat} {free : Addr → Prop} {bytes : ByteArray} {maxL : Nat} {ret : Option FieldType}
    (hM : vx_Met l y ws rm Pc Qc XC mc ms free) (hblind : FrameBlind Pc) (hrc : rm.cells = mc) (hrs : rm.slots = ms)
    (hframes : rm.frames + 1 ≤ R.frames) (hlocals : W9 + (maxL + 11) + rm.locals ≤ R.locals)
    (hws : ∀ w ∈ ws, ∀ a' U, s.WarmedH U.vm → w.before a' U = true) (hcode : Cond.code y bytes maxL ret ∈ ws) (hinit : ∀ a' U, s.WarmedH U.vm → (Cond.initialized y.cls).before a' U = true) :
    vx_Back l R p e below s sargs y len W9 (PreOf R mc ms Pc) (PostOf Qc mc ms free) (vx_Post XC mc ms free) := by
  intro m meth c A g ig mk a X hg hsize hdg hW hn hp
  have h1 : (headSpec ws rm).pre.before a A.U = true := atoms_intro fun w hw => hws w hw _ _ X.warmed
  have h2 : (Cond.code y bytes maxL ret).before a A.U = true := hws _ hcode _ _ X.warmed
  have h3 : (Cond.initialized y.cls).before a A.U = true := hinit _ _ X.warmed
  have h4 : A.cells + (headSpec ws rm).room.cells ≤ R.cells := by rw [show (headSpec ws rm).room.cells = mc from hrc]; exact hp.1
  have h5 : A.slots + (headSpec ws rm).room.slots ≤ R.slots := by rw [show (headSpec ws rm).room.slots = ms from hrs]; exact hp.2.1
  have hPc : Pc a (A.U.calling g mk a) := hblind _ _ _ _ hp.2.2
  obtain ⟨U, Ls, c0, s0⟩ := A
  dsimp only [Pt.U, Pt.locs, Pt.cells, Pt.slots] at h1 h2 h3 h4 h5 X hn hPc ⊢
  obtain ⟨methY, cY, hmY, hcY, -, hlY, -, -, -, -⟩ := Cond.code_spec hn h2
  obtain ⟨kY, hkY, -⟩ := className_of_methodNamed hn
  have hinitY : kY.init = .initialized := Cond.initialized_spec (findClass_of_methodNamed hn) hkY h3
  have h : At U g.method c below := by rw [hg]; exact X.here
  have hlocals9 : W9 + (maxL + 11) + (headSpec ws rm).room.locals ≤ R.locals := hlocals
  have happ : (headSpec ws rm).appliesLoose y e.platform (U.calling g mk a) = true :=
    Spec.appliesLoose_calling (g := g) h hdg hn hkY hinitY
      (X.room_calling (g := g) (R' := (headSpec ws rm).room) hsize hmY hcY hframes (by rw [hlY]; omega) h4 h5) h1
  obtain ⟨mid, hmid⟩ := h.above
  have hfr : (U.setTop g).frames = (.java g :: mid) ++ below := by rw [State.frames_setTop' g h.top, hmid]; rfl
  obtain ⟨o, s₂, hsteps, -, hend, hq⟩ := Steps.callFree hM p X.admits X.cas X.clock (acts := []) hfr happ hPc trivial
  have hq' : vx_Q Qc XC mc ms free a (U.calling g mk a) o s₂ := hq
  rw [State.frames_setTop' g h.top] at hend
  obtain ⟨g₀, hg0⟩ := Option.isSome_iff_exists.mp h.top
  obtain ⟨r, hr⟩ := State.topJava?_eq_some.mp hg0
  have hr' : (({ U with heap := s₂.heap, slotsUsed := s₂.slotsUsed } : State).setVm s₂.vm).frames = .java g₀ :: r := hr
  rcases hq' with ⟨hqc, L, hfe, hL⟩ | ⟨q, rfl, E, ce, L, hx, hce, hcv, hcl, hW₂, hsm, hL⟩
  · obtain ⟨⟨v, rfl⟩, hW₂, e2, q2, q3, q4, q5, q6⟩ := id hfe
    have e3 : s₂ = ({ (U.calling g mk a).setFrames s₂.frames with heap := s₂.heap, slotsUsed := s₂.slotsUsed } : State).setVm s₂.vm := by
      have : s₂ = ({ s₂ with vm := (U.calling g mk a).vm } : State).setVm s₂.vm := rfl
      rw [e2] at this
      exact this
    obtain ⟨c₂, i₂, len₂, hc₂, hd₂, hf₂⟩ := hend
    have hW' : U.WarmedH s₂.vm := hW₂
    have hcc : c₂ = c := by
      have h1 : s₂.code? g.method = U.code? g.method := by
        rw [State.code?_eq, State.code?_eq, hW'.alike.method?]
      exact Option.some.inj (hc₂.symm.trans (h1.trans h.code))
    subst hcc
    have hlen : len₂ = len := by rw [hdg] at hd₂; cases hd₂; rfl
    subst hlen
    have hs₂ : s₂ = (({ U with heap := s₂.heap, slotsUsed := s₂.slotsUsed } : State).setVm s₂.vm).setTop { g with pc := g.pc + len₂, stack := v.toList ++ g.stack } := by
      refine e3.trans ?_
      rw [hf₂, State.calling_eq h.top, State.setFrames_setFrames, State.setTop_of_frames _ hr', hr]
      rfl
    have hsame : U.sameButNew ({ U with heap := s₂.heap, slotsUsed := s₂.slotsUsed } : State) L mc ms := by
      refine ⟨?_, q2, q3, q4, q5, q6⟩
      obtain ⟨t, ht, -⟩ := State.frames_cons hr
      show ({ U with heap := s₂.heap, slotsUsed := s₂.slotsUsed } : State) = { U.setFrames U.frames with heap := s₂.heap, slotsUsed := s₂.slotsUsed }
      rw [State.setFrames_self ht]
    subst hg
    refine Or.inl ⟨v, ⟨(({ U with heap := s₂.heap, slotsUsed := s₂.slotsUsed } : State).setVm s₂.vm), Ls ++ L, c0 + mc, s0 + ms⟩,
      ⟨X.admits, X.cas, X.clock, X.frames, X.room, X.hears, X.method, X.code, (X.here.setHeapUsed s₂.heap s₂.slotsUsed).setVm hW'.alike, X.tail, State.WarmedH.trans X.warmed hW', X.limits, X.bytes, X.same.trans (hsame.setVm s.vm)⟩,
      ⟨g, mk, s₂, L, rfl, rfl, hqc, rfl, hL, rfl, rfl⟩, ?_⟩
    show Steps p.tables e below _ ((({ U with heap := s₂.heap, slotsUsed := s₂.slotsUsed } : State).setVm s₂.vm).setTop { g with pc := g.pc + len₂, stack := v.toList ++ g.stack })
    rw [← hs₂]
    exact hsteps
  · obtain ⟨e2, q2, q3, q4, q5, q6⟩ := id hsm
    have e3 : s₂ = ({ (U.calling g mk a).setFrames s₂.frames with heap := s₂.heap, slotsUsed := s₂.slotsUsed } : State).setVm s₂.vm := by
      have : s₂ = ({ s₂ with vm := (U.calling g mk a).vm } : State).setVm s₂.vm := rfl
      rw [e2] at this
      exact this
    have hf₂ : s₂.frames = .throwing q :: .java g :: U.frames.tail := hend
    have hW' : U.WarmedH s₂.vm := hW₂
    have hs₂ : s₂ = ((({ U with heap := s₂.heap, slotsUsed := s₂.slotsUsed } : State).setVm s₂.vm).setTop g).pushFrame (.throwing q) := by
      refine e3.trans ?_
      rw [hf₂, State.calling_eq h.top, State.setFrames_setFrames, State.pushFrame, State.frames_setTop _ hr', State.setTop_of_frames _ hr', State.setFrames_setFrames, hr]
      rfl
    have hsame : U.sameButNew ({ U with heap := s₂.heap, slotsUsed := s₂.slotsUsed } : State) L mc ms := by
      refine ⟨?_, q2, q3, q4, q5, q6⟩
      obtain ⟨t, ht, -⟩ := State.frames_cons hr
      show ({ U with heap := s₂.heap, slotsUsed := s₂.slotsUsed } : State) = { U.setFrames U.frames with heap := s₂.heap, slotsUsed := s₂.slotsUsed }
      rw [State.setFrames_self ht]
    subst hg
    refine Or.inr ⟨q, ⟨(({ U with heap := s₂.heap, slotsUsed := s₂.slotsUsed } : State).setVm s₂.vm), Ls ++ L, c0 + mc, s0 + ms⟩,
      ⟨X.admits, X.cas, X.clock, X.frames, X.room, X.hears, X.method, X.code, (X.here.setHeapUsed s₂.heap s₂.slotsUsed).setVm hW'.alike, X.tail, State.WarmedH.trans X.warmed hW', X.limits, X.bytes, X.same.trans (hsame.setVm s.vm)⟩,
      ⟨g, mk, s₂, L, E, ce, rfl, rfl, hx, hce, hcv, hcl, rfl, hL, rfl, rfl⟩, ?_⟩
    show Steps p.tables e below _ (((({ U with heap := s₂.heap, slotsUsed := s₂.slotsUsed } : State).setVm s₂.vm).setTop g).pushFrame (.throwing q))
    rw [← hs₂]
    exact hsteps
end Payer
section Calls
variable {p : Program} {l : Launch} {e : Env} {R : Room} {s : State} {m : MethodId} {args : Array Value} {below : List Frame} {meth : Method} {c : Code} {T : State} {locs : List Loc} {cells slots : Nat}
theorem vx_callV (X : Stand p l e R s m args below meth c T locs cells slots) (hexec : p.tables.exec = Jvm.exec) {own C : String} {index : Nat} {y : MethodName} {bytes : ByteArray} {maxL : Nat} {ret : Option FieldType}
    (hown : s.vm.findClass own = some m.cls) (hlink : (Cond.methodLink own index y).before args s = true) (hinst : (Cond.instanceMethod y).before args s = true) (hsel : (Cond.selects C y y).before args s = true)
    (hcode : (Cond.code y bytes maxL ret).before args s = true) (hy : y.cls ≠ "java/lang/invoke/MethodHandle" ∧ y.cls ≠ "java/lang/invoke/VarHandle")
    {W9 : Nat} {Pre : Pt → Array Value → Prop} {Post : Pt → Array Value → Option Value → Pt → Prop} {PostX : Pt → Array Value → Addr → Pt → Prop} (hK : vx_Back l R p e below s args y 3 W9 Pre Post PostX)
    {b : Addr} {cellB : Cell} (hcell : T.heap[b]? = some cellB) (hobj : cellB.vm.isStatics = false) (hcls : s.vm.findClass C = some cellB.cls)
    {g : JFrame} (hg : g.method = m) (hsize : g.locals.size = c.maxLocals) {argsL rest : List Value} (hlen : ∀ sig, parseMethodDescriptor y.desc = some sig → argsL.length = sig.parameters.length)
    (hstack : g.stack = argsL.reverse ++ .ref b :: rest) (hW : 2 * g.monitorRoom + (rest.map fun v => v.category).sum ≤ W9) (hdg : decode c.code g.pc = .ok (.invokevirtual index, 3))
    (hpre : ∀ vm₁, s.WarmedH vm₁ → Pre ⟨T.setVm vm₁, locs, cells, slots⟩ (Value.ref b :: argsL).toArray) :
    (∃ (v : Option Value) (vm₁ : Vm) (B : Pt), s.WarmedH vm₁ ∧ Stand p l e R s m args below meth c B.U B.locs B.cells B.slots ∧ Post ⟨T.setVm vm₁, locs, cells, slots⟩ (Value.ref b :: argsL).toArray v B ∧
      ∀ target, Steps p.tables e below (B.U.setTop { g with pc := g.pc + 3, stack := v.toList ++ rest }) target → Steps p.tables e below (T.setTop g) target) ∨
    (∃ (q : Addr) (vm₁ : Vm) (B : Pt), s.WarmedH vm₁ ∧ Stand p l e R s m args below meth c B.U B.locs B.cells B.slots ∧ PostX ⟨T.setVm vm₁, locs, cells, slots⟩ (Value.ref b :: argsL).toArray q B ∧
      Steps p.tables e below (T.setTop g) ((B.U.setTop { g with stack := rest }).pushFrame (.throwing q))) := by
  obtain ⟨mk, methM, hnamed, hmethM, hstM, habM⟩ := Cond.instanceMethod_spec hinst
  obtain ⟨methM', cM, hmethM', -, -, -, -, -, -, hsigM⟩ := Cond.code_spec hnamed hcode
  cases hmethM.symm.trans hmethM'
  obtain ⟨c2, r2, m2, q1, q2, q3, q4, kP, hkP, hkPi⟩ := Cond.selects_spec hsel
  cases hcls.symm.trans q1
  cases (State.methodFound?_of_named hnamed hy).symm.trans q2
  cases hnamed.symm.trans q3
  have hselP : selectMethod e.platform s.vm cellB.cls mk = .method mk := by rw [Launch.admits_selectMethod X.admits]; exact q4
  obtain ⟨vm₁, X₁, hstep₁⟩ := X.invokevirtual hexec hown hlink hnamed hmethM hstM hkP hkPi hy (a := b) (cell := cellB) hcell
    (fun z h => by rw [h] at hobj; cases hobj) hselP hmethM habM hkP hkPi (g := g) hg (argsL := argsL) (rest := rest) (hlen _ hsigM) hstack hdg
  rcases hK m meth c ⟨T.setVm vm₁, locs, cells, slots⟩ { g with stack := rest } (.invokevirtual index) mk (Value.ref b :: argsL).toArray X₁ hg hsize hdg hW (X₁.named hnamed) (hpre vm₁ X₁.warmed) with ⟨v, B, X', hpost, hsteps⟩ | ⟨q, B, X', hpost, hsteps⟩
  · exact Or.inl ⟨v, vm₁, B, X₁.warmed, X', hpost, fun target h => hstep₁ _ fun acts => by rw [doInvoke_state]; exact hsteps.trans h⟩
  · exact Or.inr ⟨q, vm₁, B, X₁.warmed, X', hpost, hstep₁ _ fun acts => by rw [doInvoke_state]; exact hsteps⟩
theorem vx_callS (X : Stand p l e R s m args below meth c T locs cells slots) (hexec : p.tables.exec = Jvm.exec) {own : String} {index : Nat} {y : MethodName} {bytes : ByteArray} {maxL : Nat} {ret : Option FieldType}
    (hown : s.vm.findClass own = some m.cls) (hlink : (Cond.methodLink own index y).before args s = true) (hstat : (Cond.static y).before args s = true) (hinit : (Cond.initialized y.cls).before args s = true)
    (hcode : (Cond.code y bytes maxL ret).before args s = true) (hy : y.cls ≠ "java/lang/invoke/MethodHandle" ∧ y.cls ≠ "java/lang/invoke/VarHandle")
    {W9 : Nat} {Pre : Pt → Array Value → Prop} {Post : Pt → Array Value → Option Value → Pt → Prop} {PostX : Pt → Array Value → Addr → Pt → Prop} (hK : vx_Back l R p e below s args y 3 W9 Pre Post PostX)
    {g : JFrame} (hg : g.method = m) (hsize : g.locals.size = c.maxLocals) {argsL rest : List Value} (hlen : ∀ sig, parseMethodDescriptor y.desc = some sig → argsL.length = sig.parameters.length)
    (hstack : g.stack = argsL.reverse ++ rest) (hW : 2 * g.monitorRoom + (rest.map fun v => v.category).sum ≤ W9) (hdg : decode c.code g.pc = .ok (.invokestatic index, 3))
    (hpre : ∀ vm₁, s.WarmedH vm₁ → Pre ⟨T.setVm vm₁, locs, cells, slots⟩ argsL.toArray) :
    (∃ (v : Option Value) (vm₁ : Vm) (B : Pt), s.WarmedH vm₁ ∧ Stand p l e R s m args below meth c B.U B.locs B.cells B.slots ∧ Post ⟨T.setVm vm₁, locs, cells, slots⟩ argsL.toArray v B ∧
      ∀ target, Steps p.tables e below (B.U.setTop { g with pc := g.pc + 3, stack := v.toList ++ rest }) target → Steps p.tables e below (T.setTop g) target) ∨
    (∃ (q : Addr) (vm₁ : Vm) (B : Pt), s.WarmedH vm₁ ∧ Stand p l e R s m args below meth c B.U B.locs B.cells B.slots ∧ PostX ⟨T.setVm vm₁, locs, cells, slots⟩ argsL.toArray q B ∧
      Steps p.tables e below (T.setTop g) ((B.U.setTop { g with stack := rest }).pushFrame (.throwing q))) := by
  obtain ⟨mk, hnamed⟩ := Cond.code_named hcode
  obtain ⟨methM, cM, hmethM, -, -, -, -, -, -, hsigM⟩ := Cond.code_spec hnamed hcode
  have hstatic : methM.isStatic = true := Cond.static_spec hnamed hmethM hstat
  obtain ⟨kP, hkP, -⟩ := className_of_methodNamed hnamed
  have hinitP : kP.init = .initialized := Cond.initialized_spec (findClass_of_methodNamed hnamed) hkP hinit
  obtain ⟨vm₁, X₁, hstep₁⟩ := X.invokestatic hexec hown hlink hnamed hmethM hstatic hkP hinitP hy (g := g) hg (argsL := argsL) (rest := rest) (hlen _ hsigM) hstack hdg
  rcases hK m meth c ⟨T.setVm vm₁, locs, cells, slots⟩ { g with stack := rest } (.invokestatic index) mk argsL.toArray X₁ hg hsize hdg hW (X₁.named hnamed) (hpre vm₁ X₁.warmed) with ⟨v, B, X', hpost, hsteps⟩ | ⟨q, B, X', hpost, hsteps⟩
  · exact Or.inl ⟨v, vm₁, B, X₁.warmed, X', hpost, fun target h => hstep₁ _ fun acts => by rw [doInvoke_state]; exact hsteps.trans h⟩
  · exact Or.inr ⟨q, vm₁, B, X₁.warmed, X', hpost, hstep₁ _ fun acts => by rw [doInvoke_state]; exact hsteps⟩
end Calls
theorem vx_cls {s : State} {T : State} {vm₁ : Vm} {E : String} {k : ClassId} (hW : s.WarmedH vm₁) (h : (T.setVm vm₁).vm.findClass E = some k) : s.vm.findClass E = some k := by
  have h1 : vm₁.findClass E = some k := h
  rw [hW.alike.findClass] at h1
  exact h1
/-- the method's frame g, with q thrown over it -/
def vx_W (p : Program) (l : Launch) (e : Env) (R : Room) (s : State) (m : MethodId) (args : Array Value) (below : List Frame) (meth : Method) (c : Code) (H : Heap) (locs : List Loc) (cells slots : Nat) (Q : State → Prop) (g : JFrame) (q : Addr) : Prop :=
  ∀ T : State, T.heap = H → Stand p l e R s m args below meth c T locs cells slots → ∃ t, Steps p.tables e below ((T.setTop g).pushFrame (.throwing q)) t ∧ Q t
def vx_Run (p : Program) (l : Launch) (e : Env) (R : Room) (s : State) (m : MethodId) (args : Array Value) (below : List Frame) (meth : Method) (c : Code) (H : Heap) (locs : List Loc) (cells slots mc ms : Nat) (g : JFrame) (rest : List Value) (Qa : State → Outcome → State → Prop) (XC : String → State → State → Prop) (free : Addr → Prop) : Prop :=
  ∀ T : State, T.heap = H → Stand p l e R s m args below meth c T locs cells slots →
    (∃ (v : Option Value) (st₀ t T' : State) (L : List Loc), st₀.heap = H ∧ Stand p l e R s m args below meth c T' (locs ++ L) (cells + mc) (slots + ms) ∧ (∀ q ∈ L, free q.base) ∧ T'.heap = t.heap ∧ T'.vm = t.vm ∧ Qa st₀ (.returned v) t ∧
      Goes p e below T g T' { g with pc := g.pc + 3, stack := v.toList ++ rest }) ∨
    (∃ (q : Addr) (st₀ t T' : State) (L : List Loc) (E : String) (ce : Cell), st₀.heap = H ∧ Stand p l e R s m args below meth c T' (locs ++ L) (cells + mc) (slots + ms) ∧ (∀ z ∈ L, free z.base) ∧ T'.heap = t.heap ∧ T'.vm = t.vm ∧ XC E st₀ t ∧ t.heap[q]? = some ce ∧ ce.vm = .none ∧ s.vm.findClass E = some ce.cls ∧
      Steps p.tables e below (T.setTop g) ((T'.setTop { g with stack := rest }).pushFrame (.throwing q)))
def vx_X {S : Type} (px : S → Prop) (B : String → S → State → Prop) (A : Nat → Prop) : String → State → State → Prop := fun E st t => ∃ u : S, px u ∧ B E u t ∧ va_F A st t
section Runs
variable {p : Program} {l : Launch} {e : Env} {R : Room} {s : State} {m : MethodId} {args : Array Value} {below : List Frame} {meth : Method} {c : Code} {H : Heap} {locs : List Loc} {cells slots : Nat}
variable {y : MethodName} {bytes cc : ByteArray} {maxL nL mc ms n index : Nat} {ret : Option FieldType} {ws : List Cond} {rm : Room} {Pc : Array Value → State → Prop} {Qc : Array Value → State → Outcome → State → Prop} {XC : String → State → State → Prop} {free : Addr → Prop} {Ts : List Cond} {own C : String} {b : Addr} {As rest : List Value} {g : JFrame}
theorem vx_callBack (cb : CallB R s args own index y bytes maxL ret ws rm mc ms n) (hM : vx_Met l y ws rm Pc Qc XC mc ms free) (hbl : FrameBlind Pc) : vx_Back l R p e below s args y 3 8 (PreOf R mc ms Pc) (PostOf Qc mc ms free) (vx_Post XC mc ms free) := by
  obtain ⟨hrc, hrs, hfr, hlo, hws, hcw, -, hini, -⟩ := cb
  exact vx_back (bytes := bytes) (maxL := maxL) (ret := ret) hM hbl hrc hrs hfr hlo hws hcw (fun a' U hW => word_at hW (Or.inl (by first | rfl | simp [Cond.onTables, Cond.keeps, Cond.steady])) hini)
theorem vx_runV (S : CallFix p m c cc nL s args Ts own) (hM : vx_Met l y ws rm Pc Qc XC mc ms free) (cw : CallW R s args own C index y bytes maxL ret ws rm mc ms n) (hp : PreV s H C b Pc As)
    (hg : g.method = m) (hn : As.length = n) (hsize : g.locals.size = nL) (hstack : g.stack = As.reverse ++ .ref b :: rest) (hW : 2 * g.monitorRoom + (rest.map fun v => v.category).sum ≤ 8) (hdg : decode cc g.pc = .ok (.invokevirtual index, 3)) (hf : cells + mc ≤ R.cells ∧ slots + ms ≤ R.slots) :
    vx_Run p l e R s m args below meth c H locs cells slots mc ms g rest (Qc (Value.ref b :: As).toArray) XC free := by
  have hK : vx_Back l R p e below s args y 3 8 (PreOf R mc ms Pc) (PostOf Qc mc ms free) (vx_Post XC mc ms free) := vx_callBack cw.1 hM hp.1
  obtain ⟨⟨-, -, -, -, -, -, hcode, -, hy, hlen, hl⟩, hin, hse⟩ := cw
  obtain ⟨hx, hb, hml, ho, -⟩ := S
  obtain ⟨-, ⟨cellB, hcB, hoB, hclB⟩, hPc⟩ := hp
  intro T hT X
  rcases vx_callV X hx (C := C) (bytes := bytes) (maxL := maxL) (ret := ret) ho hl hin hse hcode hy hK (by rw [hT]; exact hcB) hoB hclB hg (hsize.trans hml.symm) (argsL := As) (rest := rest) (fun sig h => hn.trans (hlen sig h)) hstack hW (by rw [hb]; exact hdg)
    (fun vm₁ hW₁ => ⟨hf.1, hf.2, hPc (T.setVm vm₁) hT hW₁⟩) with ⟨v, vm₁, ⟨U', l2, c2, s2⟩, hW₁, X', ⟨g', mk, t, L, e1, e2, hq, h1, hL, h2, h3⟩, st⟩ | ⟨q, vm₁, ⟨U', l2, c2, s2⟩, hW₁, X', ⟨g', mk, t, L, E, ce, e1, e2, hq, hce, hcv, hcl, h1, hL, h2, h3⟩, st⟩
  · dsimp only [Pt.U, Pt.locs, Pt.cells, Pt.slots] at X' e1 e2 h1 h2 h3 st
    subst h1; subst h2; subst h3
    exact Or.inl ⟨v, (T.setVm vm₁).calling g' mk (Value.ref b :: As).toArray, t, U', L, hT, X', hL, e1, e2, hq, st⟩
  · dsimp only [Pt.U, Pt.locs, Pt.cells, Pt.slots] at X' e1 e2 h1 h2 h3 st hcl
    subst h1; subst h2; subst h3
    exact Or.inr ⟨q, (T.setVm vm₁).calling g' mk (Value.ref b :: As).toArray, t, U', L, E, ce, hT, X', hL, e1, e2, hq, hce, hcv, vx_cls hW₁ hcl, st⟩
theorem vx_runS (S : CallFix p m c cc nL s args Ts own) (hM : vx_Met l y ws rm Pc Qc XC mc ms free) (cw : CallB R s args own index y bytes maxL ret ws rm mc ms n ∧ (Cond.static y).before args s = true) (hp : PreS s H Pc As)
    (hg : g.method = m) (hn : As.length = n) (hsize : g.locals.size = nL) (hstack : g.stack = As.reverse ++ rest) (hW : 2 * g.monitorRoom + (rest.map fun v => v.category).sum ≤ 8) (hdg : decode cc g.pc = .ok (.invokestatic index, 3)) (hf : cells + mc ≤ R.cells ∧ slots + ms ≤ R.slots) :
    vx_Run p l e R s m args below meth c H locs cells slots mc ms g rest (Qc As.toArray) XC free := by
  have hK : vx_Back l R p e below s args y 3 8 (PreOf R mc ms Pc) (PostOf Qc mc ms free) (vx_Post XC mc ms free) := vx_callBack cw.1 hM hp.1
  obtain ⟨⟨-, -, -, -, -, -, hcode, hini, hy, hlen, hl⟩, hstt⟩ := cw
  obtain ⟨hx, hb, hml, ho, -⟩ := S
  intro T hT X
  rcases vx_callS X hx (bytes := bytes) (maxL := maxL) (ret := ret) ho hl hstt hini hcode hy hK hg (hsize.trans hml.symm) (argsL := As) (rest := rest) (fun sig h => hn.trans (hlen sig h)) hstack hW (by rw [hb]; exact hdg)
    (fun vm₁ hW₁ => ⟨hf.1, hf.2, hp.2 (T.setVm vm₁) hT hW₁⟩) with ⟨v, vm₁, ⟨U', l2, c2, s2⟩, hW₁, X', ⟨g', mk, t, L, e1, e2, hq, h1, hL, h2, h3⟩, st⟩ | ⟨q, vm₁, ⟨U', l2, c2, s2⟩, hW₁, X', ⟨g', mk, t, L, E, ce, e1, e2, hq, hce, hcv, hcl, h1, hL, h2, h3⟩, st⟩
  · dsimp only [Pt.U, Pt.locs, Pt.cells, Pt.slots] at X' e1 e2 h1 h2 h3 st
    subst h1; subst h2; subst h3
    exact Or.inl ⟨v, (T.setVm vm₁).calling g' mk As.toArray, t, U', L, hT, X', hL, e1, e2, hq, st⟩
  · dsimp only [Pt.U, Pt.locs, Pt.cells, Pt.slots] at X' e1 e2 h1 h2 h3 st hcl
    subst h1; subst h2; subst h3
    exact Or.inr ⟨q, (T.setVm vm₁).calling g' mk As.toArray, t, U', L, E, ce, hT, X', hL, e1, e2, hq, hce, hcv, vx_cls hW₁ hcl, st⟩
end Runs
section Rows
variable {p : Program} {l : Launch} {e : Env} {R : Room} {s : State} {m : MethodId} {args : Array Value} {below : List Frame} {meth : Method} {c : Code} {H : Heap} {locs : List Loc} {cells slots : Nat} {Q : State → Prop}
variable {mc ms : Nat} {free : Addr → Prop} {A0 A1 : Nat → Prop} {H0 : Heap} {a : Array Value} {pc : Nat} {ls : Array Slot} {st0 rest : List Value}
theorem vx_keep {st₀ t T' : State} {L : List Loc} (h0 : st₀.heap = H) (e1 : T'.heap = t.heap) (hS : va_S A0 H0 H locs) (hA : ∀ q, q < H.size → A1 q → A0 q) (hf : ∀ q, free q → A0 q) (hL : ∀ q ∈ L, free q.base) (hF : va_F A1 st₀ t) :
    H.size ≤ T'.heap.size ∧ (∀ q : Nat, q < H.size → ¬ A1 q → T'.heap[q]? = H[q]?) ∧ va_S A0 H0 T'.heap (locs ++ L) := by
  obtain ⟨hz, hk⟩ := hF
  rw [h0] at hz hk
  exact ⟨by rw [e1]; exact hz, fun q h1 h2 => by rw [e1]; exact hk q h1 h2,
    ⟨Nat.le_trans hS.1 (by rw [e1]; exact hz), fun q h1 h2 => by rw [e1, hk q (Nat.lt_of_lt_of_le h1 hS.1) (fun z => h2 (hA q (Nat.lt_of_lt_of_le h1 hS.1) z))]; exact hS.2.1 q h1 h2, fun q hq => by
      rcases List.mem_append.mp hq with h | h
      · exact hS.2.2 q h
      · exact hf _ (hL q h)⟩⟩
theorem vx_calli {S SX : Type} {post : Int32 → S → Prop} {px : SX → Prop} {B : S → State → Prop} {BX : String → SX → State → Prop} {AX : Nat → Prop} (hr : vx_Run p l e R s m args below meth c H locs cells slots mc ms (F0 m pc ls st0) rest (va_Qi post B A1 a) (vx_X px BX AX) free) (hS : va_S A0 H0 H locs) (hA : ∀ q, q < H.size → A1 q → A0 q) (hf : ∀ q, free q → A0 q) (hAX : ∀ q, q < H.size → AX q → A0 q)
    (kx : ∀ (E : String) (ce : Cell) (q9 : Addr) (u : SX) (t : State) (H1 : Heap) (locs1 : List Loc), t.heap = H1 → s.vm.Alike t.vm → px u → BX E u t → H.size ≤ H1.size → (∀ q : Nat, q < H.size → ¬ AX q → H1[q]? = H[q]?) → va_S A0 H0 H1 locs1 → H1[q9]? = some ce → ce.vm = .none → s.vm.findClass E = some ce.cls → vx_W p l e R s m args below meth c H1 locs1 (cells + mc) (slots + ms) Q (F0 m pc ls rest) q9)
    (kk : ∀ (r : Int32) (u : S) (t : State) (H1 : Heap) (locs1 : List Loc), t.heap = H1 → s.vm.Alike t.vm → post r u → B u t → H.size ≤ H1.size → (∀ q : Nat, q < H.size → ¬ A1 q → H1[q]? = H[q]?) → va_S A0 H0 H1 locs1 → W p l e R s m args below meth c H1 locs1 (cells + mc) (slots + ms) Q (F0 m (pc + 3) ls (.int r :: rest))) : W p l e R s m args below meth c H locs cells slots Q (F0 m pc ls st0) := by
  intro T hT X
  rcases hr T hT X with ⟨v, st₀, t, T', L, h0, X', hL, e1, e2, ⟨⟨r, u, hv, hp, hb⟩, hF⟩, st⟩ | ⟨q, st₀, t, T', L, E, ce, h0, X', hL, e1, e2, ⟨u, hp, hb, hF⟩, hce, hcv, hcl, st⟩
  · cases hv
    obtain ⟨k1, k2, k3⟩ := vx_keep h0 e1 hS hA hf hL hF
    obtain ⟨t2, a1, b1⟩ := kk r u t T'.heap (locs ++ L) e1.symm (by rw [← e2]; exact X'.warmed.alike) hp hb k1 k2 k3 T' rfl X'
    exact ⟨t2, st t2 a1, b1⟩
  · obtain ⟨k1, k2, k3⟩ := vx_keep h0 e1 hS hAX hf hL hF
    obtain ⟨t2, a1, b1⟩ := kx E ce q u t T'.heap (locs ++ L) e1.symm (by rw [← e2]; exact X'.warmed.alike) hp hb k1 k2 k3 (by rw [e1]; exact hce) hcv hcl T' rfl X'
    exact ⟨t2, st.trans a1, b1⟩
theorem vx_calll {S SX : Type} {post : Int64 → S → Prop} {px : SX → Prop} {B : S → State → Prop} {BX : String → SX → State → Prop} {AX : Nat → Prop} (hr : vx_Run p l e R s m args below meth c H locs cells slots mc ms (F0 m pc ls st0) rest (va_Ql post B A1 a) (vx_X px BX AX) free) (hS : va_S A0 H0 H locs) (hA : ∀ q, q < H.size → A1 q → A0 q) (hf : ∀ q, free q → A0 q) (hAX : ∀ q, q < H.size → AX q → A0 q)
    (kx : ∀ (E : String) (ce : Cell) (q9 : Addr) (u : SX) (t : State) (H1 : Heap) (locs1 : List Loc), t.heap = H1 → s.vm.Alike t.vm → px u → BX E u t → H.size ≤ H1.size → (∀ q : Nat, q < H.size → ¬ AX q → H1[q]? = H[q]?) → va_S A0 H0 H1 locs1 → H1[q9]? = some ce → ce.vm = .none → s.vm.findClass E = some ce.cls → vx_W p l e R s m args below meth c H1 locs1 (cells + mc) (slots + ms) Q (F0 m pc ls rest) q9)
    (kk : ∀ (r : Int64) (u : S) (t : State) (H1 : Heap) (locs1 : List Loc), t.heap = H1 → s.vm.Alike t.vm → post r u → B u t → H.size ≤ H1.size → (∀ q : Nat, q < H.size → ¬ A1 q → H1[q]? = H[q]?) → va_S A0 H0 H1 locs1 → W p l e R s m args below meth c H1 locs1 (cells + mc) (slots + ms) Q (F0 m (pc + 3) ls (.long r :: rest))) : W p l e R s m args below meth c H locs cells slots Q (F0 m pc ls st0) := by
  intro T hT X
  rcases hr T hT X with ⟨v, st₀, t, T', L, h0, X', hL, e1, e2, ⟨⟨r, u, hv, hp, hb⟩, hF⟩, st⟩ | ⟨q, st₀, t, T', L, E, ce, h0, X', hL, e1, e2, ⟨u, hp, hb, hF⟩, hce, hcv, hcl, st⟩
  · cases hv
    obtain ⟨k1, k2, k3⟩ := vx_keep h0 e1 hS hA hf hL hF
    obtain ⟨t2, a1, b1⟩ := kk r u t T'.heap (locs ++ L) e1.symm (by rw [← e2]; exact X'.warmed.alike) hp hb k1 k2 k3 T' rfl X'
    exact ⟨t2, st t2 a1, b1⟩
  · obtain ⟨k1, k2, k3⟩ := vx_keep h0 e1 hS hAX hf hL hF
    obtain ⟨t2, a1, b1⟩ := kx E ce q u t T'.heap (locs ++ L) e1.symm (by rw [← e2]; exact X'.warmed.alike) hp hb k1 k2 k3 (by rw [e1]; exact hce) hcv hcl T' rfl X'
    exact ⟨t2, st.trans a1, b1⟩
theorem vx_callf {S SX : Type} {post : UInt32 → S → Prop} {px : SX → Prop} {B : S → State → Prop} {BX : String → SX → State → Prop} {AX : Nat → Prop} (hr : vx_Run p l e R s m args below meth c H locs cells slots mc ms (F0 m pc ls st0) rest (va_Qf post B A1 a) (vx_X px BX AX) free) (hS : va_S A0 H0 H locs) (hA : ∀ q, q < H.size → A1 q → A0 q) (hf : ∀ q, free q → A0 q) (hAX : ∀ q, q < H.size → AX q → A0 q)
    (kx : ∀ (E : String) (ce : Cell) (q9 : Addr) (u : SX) (t : State) (H1 : Heap) (locs1 : List Loc), t.heap = H1 → s.vm.Alike t.vm → px u → BX E u t → H.size ≤ H1.size → (∀ q : Nat, q < H.size → ¬ AX q → H1[q]? = H[q]?) → va_S A0 H0 H1 locs1 → H1[q9]? = some ce → ce.vm = .none → s.vm.findClass E = some ce.cls → vx_W p l e R s m args below meth c H1 locs1 (cells + mc) (slots + ms) Q (F0 m pc ls rest) q9)
    (kk : ∀ (r : UInt32) (u : S) (t : State) (H1 : Heap) (locs1 : List Loc), t.heap = H1 → s.vm.Alike t.vm → post r u → B u t → H.size ≤ H1.size → (∀ q : Nat, q < H.size → ¬ A1 q → H1[q]? = H[q]?) → va_S A0 H0 H1 locs1 → W p l e R s m args below meth c H1 locs1 (cells + mc) (slots + ms) Q (F0 m (pc + 3) ls (.float r :: rest))) : W p l e R s m args below meth c H locs cells slots Q (F0 m pc ls st0) := by
  intro T hT X
  rcases hr T hT X with ⟨v, st₀, t, T', L, h0, X', hL, e1, e2, ⟨⟨r, u, hv, hp, hb⟩, hF⟩, st⟩ | ⟨q, st₀, t, T', L, E, ce, h0, X', hL, e1, e2, ⟨u, hp, hb, hF⟩, hce, hcv, hcl, st⟩
  · cases hv
    obtain ⟨k1, k2, k3⟩ := vx_keep h0 e1 hS hA hf hL hF
    obtain ⟨t2, a1, b1⟩ := kk r u t T'.heap (locs ++ L) e1.symm (by rw [← e2]; exact X'.warmed.alike) hp hb k1 k2 k3 T' rfl X'
    exact ⟨t2, st t2 a1, b1⟩
  · obtain ⟨k1, k2, k3⟩ := vx_keep h0 e1 hS hAX hf hL hF
    obtain ⟨t2, a1, b1⟩ := kx E ce q u t T'.heap (locs ++ L) e1.symm (by rw [← e2]; exact X'.warmed.alike) hp hb k1 k2 k3 (by rw [e1]; exact hce) hcv hcl T' rfl X'
    exact ⟨t2, st.trans a1, b1⟩
theorem vx_calld {S SX : Type} {post : UInt64 → S → Prop} {px : SX → Prop} {B : S → State → Prop} {BX : String → SX → State → Prop} {AX : Nat → Prop} (hr : vx_Run p l e R s m args below meth c H locs cells slots mc ms (F0 m pc ls st0) rest (va_Qd post B A1 a) (vx_X px BX AX) free) (hS : va_S A0 H0 H locs) (hA : ∀ q, q < H.size → A1 q → A0 q) (hf : ∀ q, free q → A0 q) (hAX : ∀ q, q < H.size → AX q → A0 q)
    (kx : ∀ (E : String) (ce : Cell) (q9 : Addr) (u : SX) (t : State) (H1 : Heap) (locs1 : List Loc), t.heap = H1 → s.vm.Alike t.vm → px u → BX E u t → H.size ≤ H1.size → (∀ q : Nat, q < H.size → ¬ AX q → H1[q]? = H[q]?) → va_S A0 H0 H1 locs1 → H1[q9]? = some ce → ce.vm = .none → s.vm.findClass E = some ce.cls → vx_W p l e R s m args below meth c H1 locs1 (cells + mc) (slots + ms) Q (F0 m pc ls rest) q9)
    (kk : ∀ (r : UInt64) (u : S) (t : State) (H1 : Heap) (locs1 : List Loc), t.heap = H1 → s.vm.Alike t.vm → post r u → B u t → H.size ≤ H1.size → (∀ q : Nat, q < H.size → ¬ A1 q → H1[q]? = H[q]?) → va_S A0 H0 H1 locs1 → W p l e R s m args below meth c H1 locs1 (cells + mc) (slots + ms) Q (F0 m (pc + 3) ls (.double r :: rest))) : W p l e R s m args below meth c H locs cells slots Q (F0 m pc ls st0) := by
  intro T hT X
  rcases hr T hT X with ⟨v, st₀, t, T', L, h0, X', hL, e1, e2, ⟨⟨r, u, hv, hp, hb⟩, hF⟩, st⟩ | ⟨q, st₀, t, T', L, E, ce, h0, X', hL, e1, e2, ⟨u, hp, hb, hF⟩, hce, hcv, hcl, st⟩
  · cases hv
    obtain ⟨k1, k2, k3⟩ := vx_keep h0 e1 hS hA hf hL hF
    obtain ⟨t2, a1, b1⟩ := kk r u t T'.heap (locs ++ L) e1.symm (by rw [← e2]; exact X'.warmed.alike) hp hb k1 k2 k3 T' rfl X'
    exact ⟨t2, st t2 a1, b1⟩
  · obtain ⟨k1, k2, k3⟩ := vx_keep h0 e1 hS hAX hf hL hF
    obtain ⟨t2, a1, b1⟩ := kx E ce q u t T'.heap (locs ++ L) e1.symm (by rw [← e2]; exact X'.warmed.alike) hp hb k1 k2 k3 (by rw [e1]; exact hce) hcv hcl T' rfl X'
    exact ⟨t2, st.trans a1, b1⟩
theorem vx_callv {S SX : Type} {post : S → Prop} {px : SX → Prop} {B : S → State → Prop} {BX : String → SX → State → Prop} {AX : Nat → Prop} (hr : vx_Run p l e R s m args below meth c H locs cells slots mc ms (F0 m pc ls st0) rest (va_Qv post B A1 a) (vx_X px BX AX) free) (hS : va_S A0 H0 H locs) (hA : ∀ q, q < H.size → A1 q → A0 q) (hf : ∀ q, free q → A0 q) (hAX : ∀ q, q < H.size → AX q → A0 q)
    (kx : ∀ (E : String) (ce : Cell) (q9 : Addr) (u : SX) (t : State) (H1 : Heap) (locs1 : List Loc), t.heap = H1 → s.vm.Alike t.vm → px u → BX E u t → H.size ≤ H1.size → (∀ q : Nat, q < H.size → ¬ AX q → H1[q]? = H[q]?) → va_S A0 H0 H1 locs1 → H1[q9]? = some ce → ce.vm = .none → s.vm.findClass E = some ce.cls → vx_W p l e R s m args below meth c H1 locs1 (cells + mc) (slots + ms) Q (F0 m pc ls rest) q9)
    (kk : ∀ (u : S) (t : State) (H1 : Heap) (locs1 : List Loc), t.heap = H1 → s.vm.Alike t.vm → post u → B u t → H.size ≤ H1.size → (∀ q : Nat, q < H.size → ¬ A1 q → H1[q]? = H[q]?) → va_S A0 H0 H1 locs1 → W p l e R s m args below meth c H1 locs1 (cells + mc) (slots + ms) Q (F0 m (pc + 3) ls (rest))) : W p l e R s m args below meth c H locs cells slots Q (F0 m pc ls st0) := by
  intro T hT X
  rcases hr T hT X with ⟨v, st₀, t, T', L, h0, X', hL, e1, e2, ⟨⟨u, hv, hp, hb⟩, hF⟩, st⟩ | ⟨q, st₀, t, T', L, E, ce, h0, X', hL, e1, e2, ⟨u, hp, hb, hF⟩, hce, hcv, hcl, st⟩
  · cases hv
    obtain ⟨k1, k2, k3⟩ := vx_keep h0 e1 hS hA hf hL hF
    obtain ⟨t2, a1, b1⟩ := kk u t T'.heap (locs ++ L) e1.symm (by rw [← e2]; exact X'.warmed.alike) hp hb k1 k2 k3 T' rfl X'
    exact ⟨t2, st t2 a1, b1⟩
  · obtain ⟨k1, k2, k3⟩ := vx_keep h0 e1 hS hAX hf hL hF
    obtain ⟨t2, a1, b1⟩ := kx E ce q u t T'.heap (locs ++ L) e1.symm (by rw [← e2]; exact X'.warmed.alike) hp hb k1 k2 k3 (by rw [e1]; exact hce) hcv hcl T' rfl X'
    exact ⟨t2, st.trans a1, b1⟩
/-- caught by the row x of this method's table; the rows ahead don't take it -/
theorem vx_catch {own name : String} {E : String} {ce : Cell} {q : Addr} (hown : s.vm.findClass own = some m.cls) (pre : List ExceptionTableEntry) (x : ExceptionTableEntry) (suf : List ExceptionTableEntry) (hsplit : c.exceptionTable.toList = pre ++ x :: suf)
    (hpass : ∀ z ∈ pre, covers z pc = false ∨ (z.catchType ≠ 0 ∧ ∃ nm : String, (Cond.classLink own z.catchType nm).before args s = true ∧ va_Nc E nm s)) (hx : covers x pc = true) (h0 : x.catchType ≠ 0)
    (hlink : (Cond.classLink own x.catchType name).before args s = true) (hcast : (Cond.castable E name).before args s = true) (hcell : H[q]? = some ce) (hv : ce.vm = .none) (hcl : s.vm.findClass E = some ce.cls)
    (kk : W p l e R s m args below meth c H locs cells slots Q (F0 m x.handlerPc ls [.ref q])) : vx_W p l e R s m args below meth c H locs cells slots Q (F0 m pc ls rest) q := by
  intro T hT X
  have hpl : e.platform.magicAccessors = ({} : Platform).magicAccessors := by rw [X.admits.platform]
  obtain ⟨c3, c4, hc3, hc4, hasg⟩ := Cond.castable_spec hcast
  cases Option.some.inj (hc3.symm.trans hcl)
  obtain ⟨c5, hc5, hcl5⟩ := Cond.classLink_spec hown hlink e.platform hpl
  cases Option.some.inj (hc4.symm.trans hc5)
  obtain ⟨vm', X', st⟩ := X.thenCaughtThrough q (g := F0 m pc ls rest) rfl (Steps.refl _) (by rw [hT]; exact hcell) (by rw [hv]; rfl) (by obtain ⟨k9, h9, -⟩ := Vm.findClass_spec hcl; exact ⟨k9, h9⟩) pre x suf hsplit
    (fun z hz => by
      rcases hpass z hz with h | ⟨hz0, nm, hl1, hn1⟩
      · exact Or.inl h
      · obtain ⟨c6, hc6, hcl6⟩ := Cond.classLink_spec hown hl1 e.platform hpl
        obtain ⟨a8, b8, h1, h2, h3⟩ := hn1
        cases Option.some.inj (h1.symm.trans hcl)
        cases Option.some.inj (h2.symm.trans hc6)
        exact Or.inr ⟨hz0, _, hcl6, h3⟩) hx (Or.inr ⟨h0, c4, hcl5, hasg⟩)
  obtain ⟨t, a1, b1⟩ := kk (T.setVm vm') hT X'
  exact ⟨t, st.trans a1, b1⟩
end Rows
section Ends
variable {p : Program} {l : Launch} {e : Env} {R : Room} {s : State} {m : MethodId} {args : Array Value} {below : List Frame} {meth : Method} {c : Code} {H : Heap} {locs : List Loc} {cells slots : Nat} {Q : State → Prop}
variable {mc ms : Nat} {free : Addr → Prop} {A0 A1 : Nat → Prop} {H0 : Heap} {a : Array Value} {ls : Array Slot} {st0 rest : List Value}
variable {Qc : Array Value → State → Outcome → State → Prop} {XC : String → State → State → Prop}
/-- what a body that may throw owes at its end -/
def vx_MQ (below : List Frame) (Qc : Array Value → State → Outcome → State → Prop) (XC : String → State → State → Prop) (a : Array Value) (s : State) (mc ms : Nat) (free : Addr → Prop) : State → Prop := fun t =>
  ∃ o, t.status = .running ∧ Ended t below o ∧ vx_Q Qc XC mc ms free a s o t
theorem vx_ret {g : JFrame} {mc ms : Nat} (k : W p l e R s m args below meth c H locs cells slots (MQ below Qc args s mc ms free) g) : W p l e R s m args below meth c H locs cells slots (vx_MQ below Qc XC args s mc ms free) g := by
  intro T hT X
  obtain ⟨t, a1, o, b1, b2, b3, b4⟩ := k T hT X
  exact ⟨t, a1, o, b1, b2, Or.inl ⟨b3, b4⟩⟩
/-- not caught here: it goes on to the caller -/
theorem vx_widen {g : JFrame} {q : Addr} {k n : Nat} (h1 : cells ≤ k) (h2 : slots ≤ n) (kk : vx_W p l e R s m args below meth c H locs k n Q g q) : vx_W p l e R s m args below meth c H locs cells slots Q g q := fun T hT X => kk T hT (stand_widen X h1 h2)
theorem vx_out {pc : Nat} {E : String} {ce : Cell} {q : Addr} {mc ms : Nat} (hout : ∀ x ∈ c.exceptionTable.toList, covers x pc = false) (hlocks : meth.locks = false) (hcell : H[q]? = some ce) (hv : ce.vm = .none) (hcl : s.vm.findClass E = some ce.cls)
    (hx : ∀ t : State, t.heap = H → s.vm.Alike t.vm → XC E s t) (hf : ∀ z ∈ locs, free z.base) (hc : cells ≤ mc) (hs : slots ≤ ms) :
    vx_W p l e R s m args below meth c H locs cells slots (vx_MQ below Qc XC args s mc ms free) (F0 m pc ls rest) q := by
  intro T hT X
  obtain ⟨st1, hrun, hend, hW, hsm⟩ := X.leaveThrown q (g := F0 m pc ls rest) rfl rfl rfl hout hlocks
  have hcell9 : (T.setFrames (.throwing q :: below)).heap[q]? = some ce := by
    show T.heap[q]? = some ce
    rw [hT]; exact hcell
  exact ⟨_, st1, .threw q, hrun, hend, Or.inr ⟨q, rfl, E, ce, locs, hx _ hT hW.alike, hcell9, hv, hcl, hW, hsm.mono hc hs, hf⟩⟩
theorem vx_frame {U : State} {k n : Nat} (h : s.sameButNew ({ U with vm := s.vm } : State) locs k n) : s.heap.size ≤ U.heap.size ∧ ∀ q : Nat, q < s.heap.size → (∀ z ∈ locs, z.base ≠ q) → U.heap[q]? = s.heap[q]? := by
  obtain ⟨-, h2, -, -, -, h6⟩ := h
  refine ⟨h2, fun q hq hz => ?_⟩
  obtain ⟨c9, e1, e2, e3, e4⟩ := h6 q _ (Array.getElem?_eq_getElem hq)
  have hs : c9.slots = (s.heap[q]).slots := Array.ext_getElem? fun i => e4 i fun hm => hz _ hm rfl
  have h9 : c9 = s.heap[q] := by
    rw [hs] at e2
    exact e2
  have e5 : U.heap[q]? = some c9 := e1
  rw [e5, h9, Array.getElem?_eq_getElem hq]
/-- the words of a throw but the four that speak of the heap -/
def vx_no (w : Cond) : Bool := decide (w ≠ .isRef (.static Bundle.tN "UNASSIGNED_STACK" Bundle.steD)) && decide (w ≠ .isRef (.static Bundle.tN "SUPPRESSED_SENTINEL" Bundle.listD)) && decide (w ≠ .laysStatic Bundle.tN "UNASSIGNED_STACK" Bundle.steD) && decide (w ≠ .laysStatic Bundle.tN "SUPPRESSED_SENTINEL" Bundle.listD)
def vx_at0 (own : String) (ic : Nat) (X : String) (names : List String) : List Cond := (Bundle.ownAtoms0 own ic X names).filter vx_no
def vx_atS (own : String) (ic : Nat) (X : String) (names : List String) : List Cond := (Bundle.ownAtoms own ic X names).filter vx_no
/-- a word that the tables alone decide, or a good one -/
def vx_ot (w : Cond) : Bool := w.onTables || goodWord w
theorem vx_ot_at {args a' : Array Value} {s U : State} {w : Cond} (hW : s.WarmedH U.vm) (hvm : s.vm = U.vm) (hg : vx_ot w = true) (h : w.before args s = true) : w.before a' U = true := by
  simp only [vx_ot, Bool.or_eq_true] at hg
  rcases hg with hg | hg
  · exact va_tabs hg hvm h
  · exact word_at hW (good_of_word hg) h
/-- a list's words: the good ones out of the method's own list, the others by premises of their own -/
theorem vx_hat {args : Array Value} {s : State} {L B : List Cond} (h1 : ∀ w ∈ L.filter goodWord, w.before args s = true) (h2 : ∀ w ∈ L.filter (fun w => !goodWord w), w ∈ B) (h3 : ∀ w ∈ B, w.before args s = true) : ∀ w ∈ L, w.before args s = true := by
  intro w hw
  by_cases g : goodWord w = true
  · exact h1 w (List.mem_filter.mpr ⟨hw, g⟩)
  · refine h3 w (h2 w (List.mem_filter.mpr ⟨hw, ?_⟩))
    show (!goodWord w) = true
    cases hgw : goodWord w
    · rfl
    · exact absurd hgw g
theorem vx_c {args : Array Value} {s : State} {w : Cond} {B : List Cond} (h : w.before args s = true) (t : ∀ w ∈ B, w.before args s = true) : ∀ w' ∈ w :: B, w'.before args s = true := fun w' h' => (List.mem_cons.mp h').elim (fun e => by rw [e]; exact h) (t w')
theorem vx_n {args : Array Value} {s : State} : ∀ w ∈ ([] : List Cond), w.before args s = true := fun _ h => nomatch h
theorem vx_own {args : Array Value} {s : State} {L : List Cond} (h1 : ∀ w ∈ L.filter vx_no, w.before args s = true)
    (hU : (Cond.isRef (.static Bundle.tN "UNASSIGNED_STACK" Bundle.steD)).before args s = true) (hN : (Cond.isRef (.static Bundle.tN "SUPPRESSED_SENTINEL" Bundle.listD)).before args s = true)
    (lU : (Cond.laysStatic Bundle.tN "UNASSIGNED_STACK" Bundle.steD).before args s = true) (lN : (Cond.laysStatic Bundle.tN "SUPPRESSED_SENTINEL" Bundle.listD).before args s = true) : ∀ w ∈ L, w.before args s = true := by
  intro w hw
  by_cases e1 : w = .isRef (.static Bundle.tN "UNASSIGNED_STACK" Bundle.steD)
  · rw [e1]; exact hU
  · by_cases e2 : w = .isRef (.static Bundle.tN "SUPPRESSED_SENTINEL" Bundle.listD)
    · rw [e2]; exact hN
    · by_cases e3 : w = .laysStatic Bundle.tN "UNASSIGNED_STACK" Bundle.steD
      · rw [e3]; exact lU
      · by_cases e4 : w = .laysStatic Bundle.tN "SUPPRESSED_SENTINEL" Bundle.listD
        · rw [e4]; exact lN
        · exact h1 w (List.mem_filter.mpr ⟨hw, by unfold vx_no; rw [decide_eq_true e1, decide_eq_true e2, decide_eq_true e3, decide_eq_true e4]; rfl⟩)
/-- where a static field lies, its class's statics cell in H -/
def vx_L (C n d : String) (A : Nat → Prop) (U : State) (H : Heap) : Prop := ∃ (c : ClassId) (k : Class) (i : Nat) (f : Field) (a : Nat) (cell : Cell), U.vm.findClass C = some c ∧ U.fieldFound? C n d = some (c, k, i, f) ∧ f.isStatic = true ∧ k.statics = some a ∧ H[a]? = some cell ∧ cell.vm.isStatics = true ∧ cell.cls = c ∧ f.slot < cell.slots.size ∧ k.staticTypes[f.slot]? = some f.type ∧ ¬ A a
theorem vx_L.moved {C n d : String} {A : Nat → Prop} {u U : State} {H : Heap} (hvm : u.vm.Alike U.vm) (h : vx_L C n d A u H) : vx_L C n d A U H := by
  obtain ⟨c, k, i, f, a, cell, h1, h2, h3, h4, h5, h6, h7, h8, h9, h10⟩ := h
  obtain ⟨k', hi', he⟩ := State.fieldFound?_setVm hvm h2
  exact ⟨c, k', i, f, a, cell, by rw [hvm.findClass]; exact h1, hi', h3, by rw [he]; exact h4, h5, h6, h7, h8, by rw [he]; exact h9, h10⟩
theorem vx_L.kept {C n d : String} {A : Nat → Prop} {U : State} {H H1 : Heap} (h : vx_L C n d A U H) (hq : ∀ a : Nat, a < H.size → ¬ A a → H1[a]? = H[a]?) : vx_L C n d A U H1 := by
  obtain ⟨c, k, i, f, a, cell, h1, h2, h3, h4, h5, h6, h7, h8, h9, h10⟩ := h
  exact ⟨c, k, i, f, a, cell, h1, h2, h3, h4, by rw [hq a (Array.getElem?_eq_some_iff.mp h5).1 h10]; exact h5, h6, h7, h8, h9, h10⟩
theorem vx_L.narrow {C n d : String} {A B : Nat → Prop} {U : State} {H : Heap} (h : vx_L C n d A U H) (hAB : ∀ q, B q → A q) : vx_L C n d B U H := by
  obtain ⟨c, k, i, f, a, cell, h1, h2, h3, h4, h5, h6, h7, h8, h9, h10⟩ := h
  exact ⟨c, k, i, f, a, cell, h1, h2, h3, h4, h5, h6, h7, h8, h9, fun z => h10 (hAB _ z)⟩
theorem vx_L.word {C n d : String} {A : Nat → Prop} {s : State} {args : Array Value} (h : vx_L C n d A s s.heap) : (Cond.laysStatic C n d).before args s = true := by
  obtain ⟨c, k, i, f, a, cell, h1, h2, h3, h4, h5, h6, h7, h8, h9, -⟩ := h
  show (Cond.laysStatic C n d).holds args s none s [] = true
  exact Cond.laysStatic_of h1 h2 h3 h4 h5 h6 h7 h8 h9
/-- .. and what it holds: null or some reference -/
def vx_Zq (C n d : String) (A : Nat → Prop) (U : State) (H : Heap) : Prop := va_Zq C n d A U H ∧ vx_L C n d A U H
theorem vx_Zq.moved {C n d : String} {A : Nat → Prop} {u U : State} {H : Heap} (hvm : u.vm.Alike U.vm) (h : vx_Zq C n d A u H) : vx_Zq C n d A U H := ⟨va_Zq.moved hvm h.1, vx_L.moved hvm h.2⟩
theorem vx_Zq.kept {C n d : String} {A : Nat → Prop} {U : State} {H H1 : Heap} (h : vx_Zq C n d A U H) (hq : ∀ a : Nat, a < H.size → ¬ A a → H1[a]? = H[a]?) : vx_Zq C n d A U H1 := ⟨va_Zq.kept h.1 hq, vx_L.kept h.2 hq⟩
theorem vx_Zq.narrow {C n d : String} {A B : Nat → Prop} {U : State} {H : Heap} (h : vx_Zq C n d A U H) (hAB : ∀ q, B q → A q) : vx_Zq C n d B U H := ⟨va_Zq.narrow h.1 hAB, vx_L.narrow h.2 hAB⟩
theorem vx_Zqof {args : Array Value} {s : State} {C n d : String} {A : Nat → Prop} (hl : (Cond.laysStatic C n d).before args s = true) (hini : (Cond.initialized C).before args s = true) (h : (Cond.isRef (.static C n d)).before args s = true) (hA : ∀ a : Nat, a < s.heap.size → ¬ A a) : vx_Zq C n d A s s.heap := by
  refine ⟨va_Zqof hl hini h hA, ?_⟩
  obtain ⟨c, k, i, f, a, cell, h1, h2, h3, h4, h5, h6, h7, h8, h9⟩ := Cond.laysStatic_spec hl
  exact ⟨c, k, i, f, a, cell, h1, h2, h3, h4, h5, h6, h7, h8, h9, hA a (Array.getElem?_eq_some_iff.mp h5).1⟩
theorem vx_isRef {C n d : String} {v : Value} {A : Nat → Prop} {s : State} {args : Array Value} (h : va_Z C n d v A s s.heap) (hv : v.isRef = true) : (Cond.isRef (.static C n d)).before args s = true := by
  obtain ⟨cf, kf, fi, f, a, cell, h1, h2, h3, h4, h5, h6, h7, -⟩ := h
  have he : (Term.static C n d).eval args s none [] s = some v := by
    simp [Term.eval, State.fieldNamed?, h1, h2, h4, h5, h6, h7]
  simp only [Cond.before, Cond.holds, Cond.value, he]
  cases v <;> simp_all [Value.isRef]
theorem vx_isRefq {C n d : String} {A : Nat → Prop} {s : State} {args : Array Value} (h : va_Zq C n d A s s.heap) : (Cond.isRef (.static C n d)).before args s = true := by
  rcases h with h | ⟨t, h⟩
  · exact vx_isRef h rfl
  · exact vx_isRef h rfl
/-- the same frame, seen from here: as if the method were called anew in this heap -/
theorem vx_rebase {T : State} (X : Stand p l e R s m args below meth c T locs cells slots) {R' : Room} (hf : R'.frames ≤ R.frames) (hl : R'.locals ≤ R.locals) (hc : cells + R'.cells ≤ R.cells) (hs : slots + R'.slots ≤ R.slots) :
    Stand p l e R' ((T.setVm s.vm).setFrames (.invoking m args :: below)) m args below meth c T [] 0 0 := by
  have htop : (T.setVm s.vm).topJava?.isSome := X.here.top
  have hF : ((T.setVm s.vm).setFrames (.invoking m args :: below)).frames = .invoking m args :: below := State.frames_setFrames _ (State.cur_lt_of_top htop)
  obtain ⟨g₀, hg0⟩ := Option.isSome_iff_exists.mp htop
  obtain ⟨r, hr⟩ := State.topJava?_eq_some.mp hg0
  have hl9 : e.platform.stackLimits (T.setVm s.vm).me = e.platform.stackLimits s.me := X.limits
  have hb9 : (T.setVm s.vm).me.stackBytes = s.me.stackBytes := X.bytes
  refine ⟨X.admits, X.cas, X.clock, hF, ?_, X.hears, X.method, X.code, X.here, X.tail, X.warmed, ?_, ?_, ?_⟩
  · have h := X.room
    have hU : ((T.setVm s.vm).setFrames (.invoking m args :: below)).localsInUse = s.localsInUse := by
      rw [State.localsInUse_invoking hF (meth := meth) (c := c) X.method X.code, State.localsInUse_invoking X.frames X.method X.code]
    simp only [State.hasRoom, Bool.and_eq_true, decide_eq_true_eq] at h ⊢
    obtain ⟨⟨⟨⟨h1, h2, h3, h4, h5, h6⟩, h7⟩, h8⟩, h9⟩ := h
    rw [X.frames, List.length_cons] at h2 h3
    have q1 := X.heapSize
    have q2 := X.used
    simp only [hF, hU, List.length_cons, State.stackLimits_setFrames, State.stackBytes_setFrames, hl9, hb9]
    refine ⟨⟨⟨⟨by omega, by omega, by omega, by omega, by omega, h6⟩, ?_⟩, ?_⟩, X.book⟩
    · show T.heap.size + R'.cells ≤ e.platform.maxCells
      omega
    · show T.slotsUsed + R'.slots ≤ e.platform.maxSlots
      omega
  · rw [State.stackLimits_setFrames]; rfl
  · rw [State.stackBytes_setFrames]; rfl
  · refine ⟨?_, Nat.le_refl _, Nat.le_refl _, ?_, ?_, fun a c9 h9 => ⟨c9, h9, rfl, rfl, fun _ _ => rfl⟩⟩
    · obtain ⟨t, ht, -⟩ := State.frames_cons hr
      show T.setVm s.vm = { ((T.setVm s.vm).setFrames (.invoking m args :: below)).setFrames (T.setVm s.vm).frames with heap := T.heap, slotsUsed := T.slotsUsed }
      rw [State.setFrames_setFrames, State.setFrames_self ht]
      rfl
    · show T.slotsUsed = T.slotsUsed + ((T.heap.toList.drop T.heap.size).map (·.slots.size)).sum
      rw [List.drop_eq_nil_of_le (Nat.le_of_eq Array.length_toList)]
      rfl
    · show ((T.heap.toList.drop T.heap.size).map (·.slots.size)).sum ≤ 0
      rw [List.drop_eq_nil_of_le (Nat.le_of_eq Array.length_toList)]
      exact Nat.le_refl _
/-- 'throw new E()': new; dup; invokespecial; athrow -/
theorem vx_throw0 {cc : ByteArray} {pc : Nat} (hexec : p.tables.exec = Jvm.exec) (hb : c.code = cc) (hl : l.stackTraces = false) {own cls : String} {names : List String} {ik ic mc ms : Nat} {A : Nat → Prop}
    (hown : s.vm.findClass own = some m.cls) (hcls : Bundle.fit cls = true) (hnames : ∀ n ∈ names, Bundle.fit n = true)
    (hk : (Cond.classLink own ik cls).before args s = true) (hini : (Cond.initialized cls).before args s = true) (hat : ∀ w ∈ vx_at0 own ic cls names, w.before args s = true)
    (hgood : ∀ w ∈ Cond.classLink own ik cls :: Cond.initialized cls :: vx_at0 own ic cls names, vx_ot w = true)
    (hU : vx_Zq Bundle.tN "UNASSIGNED_STACK" Bundle.steD A s s.heap) (hN : vx_Zq Bundle.tN "SUPPRESSED_SENTINEL" Bundle.listD A s s.heap) (hS : va_S A s.heap H locs) (hsize : ls.size = c.maxLocals)
    (d0 : decode cc pc = .ok (.new ik, 3)) (d3 : decode cc (pc + 3) = .ok (.dup, 1)) (d4 : decode cc (pc + 4) = .ok (.invokespecial ic, 3)) (d7 : decode cc (pc + 7) = .ok (.athrow, 1))
    (hout : ∀ x ∈ c.exceptionTable.toList, covers x (pc + 7) = false)
    (hRframes : names.length + 3 < R.frames) (hRlocals : (rest.map fun v => v.category).sum + (13 * (names.length + 1) + 42) ≤ R.locals) (hRcells : cells + 1 ≤ R.cells) (hRslots : slots + 6 ≤ R.slots) (hlocks : meth.locks = false)
    (hx : ∀ t : State, s.vm.Alike t.vm → H.size ≤ t.heap.size → (∀ q : Nat, q < H.size → t.heap[q]? = H[q]?) → XC cls s t)
    (hf : ∀ z ∈ locs, free z.base) (hc : cells + 1 ≤ mc) (hs : slots + 6 ≤ ms) :
    W p l e R s m args below meth c H locs cells slots (vx_MQ below Qc XC args s mc ms free) (F0 m pc ls rest) := by
  intro T hT X
  have htr : e.platform.stackTraces = false := (show e.platform.stackTraces = l.stackTraces by rw [X.admits.platform]).trans hl
  have Y := vx_rebase X (R' := { frames := R.frames, locals := R.locals, cells := 1, slots := 6 }) (Nat.le_refl _) (Nat.le_refl _) hRcells hRslots
  obtain ⟨s', hA⟩ : ∃ z, z = (T.setVm s.vm).setFrames (.invoking m args :: below) := ⟨_, rfl⟩
  rw [← hA] at Y
  have hvm : s'.vm = s.vm := by rw [hA]; rfl
  have hhp : s'.heap = H := by rw [hA]; exact hT
  have hW0 : s.WarmedH s'.vm := by rw [hvm]; exact State.WarmedH.refl s
  have hat' : ∀ w ∈ vx_at0 own ic cls names, w.before args s' = true := fun w hw => vx_ot_at hW0 hvm.symm (hgood w (List.mem_cons_of_mem _ (List.mem_cons_of_mem _ hw))) (hat w hw)
  have hk' : (Cond.classLink own ik cls).before args s' = true := vx_ot_at hW0 hvm.symm (hgood _ List.mem_cons_self) hk
  have hini' : (Cond.initialized cls).before args s' = true := vx_ot_at hW0 hvm.symm (hgood _ (List.mem_cons_of_mem _ List.mem_cons_self)) hini
  have hU' : vx_Zq Bundle.tN "UNASSIGNED_STACK" Bundle.steD A s' s'.heap := by rw [hhp]; exact vx_Zq.moved hW0.alike (hU.kept hS.2.1)
  have hN' : vx_Zq Bundle.tN "SUPPRESSED_SENTINEL" Bundle.listD A s' s'.heap := by rw [hhp]; exact vx_Zq.moved hW0.alike (hN.kept hS.2.1)
  have h : ∀ w ∈ Bundle.ownAtoms0 own ic cls names, w.before args s' = true := vx_own hat' (vx_isRefq hU'.1) (vx_isRefq hN'.1) hU'.2.word hN'.2.word
  have hown' : s'.vm.findClass own = some m.cls := by rw [hvm]; exact hown
  have hins : (Cond.instantiable cls 6).before args s' = true := h _ (by simp [Bundle.ownAtoms0])
  obtain ⟨vm₁, cX, kX, hfX, hkX, -, -, X₁, st1⟩ := Y.newCold hexec (own := own) (C := cls) (index := ik) (n := 6) hown' hk' hins hini'
    (g := F0 m pc ls rest) rfl (by rw [hb]; exact d0) (Nat.le_refl _) (Nat.le_refl _)
  generalize hT1 : (T.setVm vm₁).pushCell { cls := cX, slots := kX.instanceTypes.map defaultValue, vm := .none } = T1 at X₁ st1
  have hcat : (Value.ref T.heap.size).category = 1 := rfl
  have hcellA : T1.heap[T.heap.size]? = some (freshCell cX kX) := by rw [← hT1]; exact State.heap_pushCell_size _ _
  have d3' : decode c.code (pc + 3) = .ok (.dup, 1) := by rw [hb]; exact d3
  obtain ⟨U, hsteps, hrun, hend, hW, hsame, ce, hce, hO⟩ := X₁.ctorThrow0 hexec htr (own := own) (cls := cls) (names := names) (ic := ic) hown' hcls hnames h (fun x hx => nomatch hx) hfX hkX hcellA (by rw [hhp, hT]; exact Nat.le_refl _)
    (g := { method := m, pc := pc + 4, locals := ls, stack := .ref T.heap.size :: .ref T.heap.size :: rest, locked := none }) rfl hsize rfl rfl (rest := rest) rfl
    (by rw [hb]; exact d4) (by rw [hb]; exact d7) hout hRframes (by simp only [List.map_cons, List.sum_cons, hcat]; omega) hlocks
  obtain ⟨f1, f2⟩ := vx_frame hsame
  rw [hhp] at f1 f2
  have hWs : s.WarmedH U.vm := State.WarmedH.trans hW0 hW
  have hcl : s.vm.findClass cls = some ce.cls := by
    have h9 := hO.cls
    rw [hvm] at h9
    exact h9
  have hall : s.sameButNew ({ U with vm := s.vm } : State) locs mc ms := by
    subst hA
    obtain ⟨e1, e2⟩ := hsame
    rw [State.setFrames_setFrames] at e1
    have h2 : (T.setVm s.vm).sameButNew ({ U with vm := s.vm } : State) [] (0 + 1) (0 + 6) := ⟨e1, e2⟩
    have h3 := X.same.trans h2
    rw [List.append_nil] at h3
    exact h3.mono hc hs
  refine ⟨U, ?_, .threw T.heap.size, hrun, hend, Or.inr ⟨T.heap.size, rfl, cls, ce, locs, hx U hWs.alike f1 (fun q hq => f2 q hq (fun z hz => nomatch hz)), hce, hO.vm, hcl, hWs, hall, hf⟩⟩
  refine st1 _ ?_
  show Steps p.tables e below (T1.setTop { method := m, pc := pc + 3, locals := ls, stack := .ref T.heap.size :: rest, locked := none }) _
  jvm_step X₁.here [X₁.here.top, hexec, d3', Value.category]
  exact hsteps
/-- 'throw new E("text")': new; dup; ldc; invokespecial; athrow -/
theorem vx_throwS {cc : ByteArray} {pc : Nat} (hexec : p.tables.exec = Jvm.exec) (hb : c.code = cc) (hl : l.stackTraces = false) {own cls text : String} {names : List String} {ik is ic mc ms sa : Nat} {A : Nat → Prop}
    (hown : s.vm.findClass own = some m.cls) (hcls : Bundle.fit cls = true) (hnames : ∀ n ∈ names, Bundle.fit n = true)
    (hk : (Cond.classLink own ik cls).before args s = true) (hini : (Cond.initialized cls).before args s = true) (hstr : vk_R own is text sa s) (hat : ∀ w ∈ vx_atS own ic cls names, w.before args s = true)
    (hgood : ∀ w ∈ Cond.classLink own ik cls :: Cond.initialized cls :: vx_atS own ic cls names, vx_ot w = true)
    (hU : vx_Zq Bundle.tN "UNASSIGNED_STACK" Bundle.steD A s s.heap) (hN : vx_Zq Bundle.tN "SUPPRESSED_SENTINEL" Bundle.listD A s s.heap) (hS : va_S A s.heap H locs) (hsize : ls.size = c.maxLocals)
    (d0 : decode cc pc = .ok (.new ik, 3)) (d3 : decode cc (pc + 3) = .ok (.dup, 1)) (d4 : decode cc (pc + 4) = .ok (.ldc is, 2)) (d6 : decode cc (pc + 6) = .ok (.invokespecial ic, 3)) (d9 : decode cc (pc + 9) = .ok (.athrow, 1))
    (hout : ∀ x ∈ c.exceptionTable.toList, covers x (pc + 9) = false)
    (hRframes : names.length + 3 < R.frames) (hRlocals : (rest.map fun v => v.category).sum + (13 * (names.length + 1) + 43) ≤ R.locals) (hRcells : cells + 1 ≤ R.cells) (hRslots : slots + 6 ≤ R.slots) (hlocks : meth.locks = false)
    (hx : ∀ t : State, s.vm.Alike t.vm → H.size ≤ t.heap.size → (∀ q : Nat, q < H.size → t.heap[q]? = H[q]?) → XC cls s t)
    (hf : ∀ z ∈ locs, free z.base) (hc : cells + 1 ≤ mc) (hs : slots + 6 ≤ ms) :
    W p l e R s m args below meth c H locs cells slots (vx_MQ below Qc XC args s mc ms free) (F0 m pc ls rest) := by
  intro T hT X
  have htr : e.platform.stackTraces = false := (show e.platform.stackTraces = l.stackTraces by rw [X.admits.platform]).trans hl
  have Y := vx_rebase X (R' := { frames := R.frames, locals := R.locals, cells := 1, slots := 6 }) (Nat.le_refl _) (Nat.le_refl _) hRcells hRslots
  obtain ⟨s', hA⟩ : ∃ z, z = (T.setVm s.vm).setFrames (.invoking m args :: below) := ⟨_, rfl⟩
  rw [← hA] at Y
  have hvm : s'.vm = s.vm := by rw [hA]; rfl
  have hhp : s'.heap = H := by rw [hA]; exact hT
  have hW0 : s.WarmedH s'.vm := by rw [hvm]; exact State.WarmedH.refl s
  have hat' : ∀ w ∈ vx_atS own ic cls names, w.before args s' = true := fun w hw => vx_ot_at hW0 hvm.symm (hgood w (List.mem_cons_of_mem _ (List.mem_cons_of_mem _ hw))) (hat w hw)
  have hk' : (Cond.classLink own ik cls).before args s' = true := vx_ot_at hW0 hvm.symm (hgood _ List.mem_cons_self) hk
  have hini' : (Cond.initialized cls).before args s' = true := vx_ot_at hW0 hvm.symm (hgood _ (List.mem_cons_of_mem _ List.mem_cons_self)) hini
  have hU' : vx_Zq Bundle.tN "UNASSIGNED_STACK" Bundle.steD A s' s'.heap := by rw [hhp]; exact vx_Zq.moved hW0.alike (hU.kept hS.2.1)
  have hN' : vx_Zq Bundle.tN "SUPPRESSED_SENTINEL" Bundle.listD A s' s'.heap := by rw [hhp]; exact vx_Zq.moved hW0.alike (hN.kept hS.2.1)
  have h : ∀ w ∈ Bundle.ownAtoms own ic cls names, w.before args s' = true := vx_own hat' (vx_isRefq hU'.1) (vx_isRefq hN'.1) hU'.2.word hN'.2.word
  have hown' : s'.vm.findClass own = some m.cls := by rw [hvm]; exact hown
  have hins : (Cond.instantiable cls 6).before args s' = true := h _ (by simp [Bundle.ownAtoms])
  obtain ⟨vm₁, cX, kX, hfX, hkX, -, -, X₁, st1⟩ := Y.newCold hexec (own := own) (C := cls) (index := ik) (n := 6) hown' hk' hins hini'
    (g := F0 m pc ls rest) rfl (by rw [hb]; exact d0) (Nat.le_refl _) (Nat.le_refl _)
  generalize hT1 : (T.setVm vm₁).pushCell { cls := cX, slots := kX.instanceTypes.map defaultValue, vm := .none } = T1 at X₁ st1
  have hcat : (Value.ref T.heap.size).category = 1 := rfl
  have hcellA : T1.heap[T.heap.size]? = some (freshCell cX kX) := by rw [← hT1]; exact State.heap_pushCell_size _ _
  have d3' : decode c.code (pc + 3) = .ok (.dup, 1) := by rw [hb]; exact d3
  have d4' : decode c.code (pc + 4) = .ok (.ldc is, 2) := by rw [hb]; exact d4
  have hstr' : vk_R own is text sa s' := vk_R.warm hW0 hstr
  obtain ⟨U, hsteps, hrun, hend, hW, hsame, ce, hce, hO⟩ := X₁.ctorThrowS hexec htr (own := own) (cls := cls) (names := names) (ic := ic) hown' hcls hnames h (fun x hx => nomatch hx) hfX hkX hcellA (by rw [hhp, hT]; exact Nat.le_refl _) (msg := .ref sa) rfl
    (g := { method := m, pc := pc + 6, locals := ls, stack := .ref sa :: .ref T.heap.size :: .ref T.heap.size :: rest, locked := none }) rfl hsize rfl rfl (rest := rest) rfl
    (by rw [hb]; exact d6) (by rw [hb]; exact d9) hout hRframes (by simp only [List.map_cons, List.sum_cons, hcat]; omega) hlocks
  obtain ⟨f1, f2⟩ := vx_frame hsame
  rw [hhp] at f1 f2
  have hWs : s.WarmedH U.vm := State.WarmedH.trans hW0 hW
  have hcl : s.vm.findClass cls = some ce.cls := by
    have h9 := hO.cls
    rw [hvm] at h9
    exact h9
  have hall : s.sameButNew ({ U with vm := s.vm } : State) locs mc ms := by
    subst hA
    obtain ⟨e1, e2⟩ := hsame
    rw [State.setFrames_setFrames] at e1
    have h2 : (T.setVm s.vm).sameButNew ({ U with vm := s.vm } : State) [] (0 + 1) (0 + 6) := ⟨e1, e2⟩
    have h3 := X.same.trans h2
    rw [List.append_nil] at h3
    exact h3.mono hc hs
  refine ⟨U, ?_, .threw T.heap.size, hrun, hend, Or.inr ⟨T.heap.size, rfl, cls, ce, locs, hx U hWs.alike f1 (fun q hq => f2 q hq (fun z hz => nomatch hz)), hce, hO.vm, hcl, hWs, hall, hf⟩⟩
  refine st1 _ ?_
  show Steps p.tables e below (T1.setTop { method := m, pc := pc + 3, locals := ls, stack := .ref T.heap.size :: rest, locked := none }) _
  jvm_step X₁.here [X₁.here.top, hexec, d3', Value.category]
  exact X₁.ldcString hexec (own := own) (text := text) (index := is) (a := sa) hown' hstr'.1 hstr'.2
    (g := { method := m, pc := pc + 4, locals := ls, stack := .ref T.heap.size :: .ref T.heap.size :: rest, locked := none }) rfl d4' _ hsteps
/-- 'throw new E("text")', the text by a wide index -/
theorem vx_throwSW {cc : ByteArray} {pc : Nat} (hexec : p.tables.exec = Jvm.exec) (hb : c.code = cc) (hl : l.stackTraces = false) {own cls text : String} {names : List String} {ik is ic mc ms sa : Nat} {A : Nat → Prop}
    (hown : s.vm.findClass own = some m.cls) (hcls : Bundle.fit cls = true) (hnames : ∀ n ∈ names, Bundle.fit n = true)
    (hk : (Cond.classLink own ik cls).before args s = true) (hini : (Cond.initialized cls).before args s = true) (hstr : vk_R own is text sa s) (hat : ∀ w ∈ vx_atS own ic cls names, w.before args s = true)
    (hgood : ∀ w ∈ Cond.classLink own ik cls :: Cond.initialized cls :: vx_atS own ic cls names, vx_ot w = true)
    (hU : vx_Zq Bundle.tN "UNASSIGNED_STACK" Bundle.steD A s s.heap) (hN : vx_Zq Bundle.tN "SUPPRESSED_SENTINEL" Bundle.listD A s s.heap) (hS : va_S A s.heap H locs) (hsize : ls.size = c.maxLocals)
    (d0 : decode cc pc = .ok (.new ik, 3)) (d3 : decode cc (pc + 3) = .ok (.dup, 1)) (d4 : decode cc (pc + 4) = .ok (.ldc_w is, 3)) (d7 : decode cc (pc + 7) = .ok (.invokespecial ic, 3)) (d10 : decode cc (pc + 10) = .ok (.athrow, 1))
    (hout : ∀ x ∈ c.exceptionTable.toList, covers x (pc + 10) = false)
    (hRframes : names.length + 3 < R.frames) (hRlocals : (rest.map fun v => v.category).sum + (13 * (names.length + 1) + 43) ≤ R.locals) (hRcells : cells + 1 ≤ R.cells) (hRslots : slots + 6 ≤ R.slots) (hlocks : meth.locks = false)
    (hx : ∀ t : State, s.vm.Alike t.vm → H.size ≤ t.heap.size → (∀ q : Nat, q < H.size → t.heap[q]? = H[q]?) → XC cls s t)
    (hf : ∀ z ∈ locs, free z.base) (hc : cells + 1 ≤ mc) (hs : slots + 6 ≤ ms) :
    W p l e R s m args below meth c H locs cells slots (vx_MQ below Qc XC args s mc ms free) (F0 m pc ls rest) := by
  intro T hT X
  have htr : e.platform.stackTraces = false := (show e.platform.stackTraces = l.stackTraces by rw [X.admits.platform]).trans hl
  have Y := vx_rebase X (R' := { frames := R.frames, locals := R.locals, cells := 1, slots := 6 }) (Nat.le_refl _) (Nat.le_refl _) hRcells hRslots
  obtain ⟨s', hA⟩ : ∃ z, z = (T.setVm s.vm).setFrames (.invoking m args :: below) := ⟨_, rfl⟩
  rw [← hA] at Y
  have hvm : s'.vm = s.vm := by rw [hA]; rfl
  have hhp : s'.heap = H := by rw [hA]; exact hT
  have hW0 : s.WarmedH s'.vm := by rw [hvm]; exact State.WarmedH.refl s
  have hat' : ∀ w ∈ vx_atS own ic cls names, w.before args s' = true := fun w hw => vx_ot_at hW0 hvm.symm (hgood w (List.mem_cons_of_mem _ (List.mem_cons_of_mem _ hw))) (hat w hw)
  have hk' : (Cond.classLink own ik cls).before args s' = true := vx_ot_at hW0 hvm.symm (hgood _ List.mem_cons_self) hk
  have hini' : (Cond.initialized cls).before args s' = true := vx_ot_at hW0 hvm.symm (hgood _ (List.mem_cons_of_mem _ List.mem_cons_self)) hini
  have hU' : vx_Zq Bundle.tN "UNASSIGNED_STACK" Bundle.steD A s' s'.heap := by rw [hhp]; exact vx_Zq.moved hW0.alike (hU.kept hS.2.1)
  have hN' : vx_Zq Bundle.tN "SUPPRESSED_SENTINEL" Bundle.listD A s' s'.heap := by rw [hhp]; exact vx_Zq.moved hW0.alike (hN.kept hS.2.1)
  have h : ∀ w ∈ Bundle.ownAtoms own ic cls names, w.before args s' = true := vx_own hat' (vx_isRefq hU'.1) (vx_isRefq hN'.1) hU'.2.word hN'.2.word
  have hown' : s'.vm.findClass own = some m.cls := by rw [hvm]; exact hown
  have hins : (Cond.instantiable cls 6).before args s' = true := h _ (by simp [Bundle.ownAtoms])
  obtain ⟨vm₁, cX, kX, hfX, hkX, -, -, X₁, st1⟩ := Y.newCold hexec (own := own) (C := cls) (index := ik) (n := 6) hown' hk' hins hini'
    (g := F0 m pc ls rest) rfl (by rw [hb]; exact d0) (Nat.le_refl _) (Nat.le_refl _)
  generalize hT1 : (T.setVm vm₁).pushCell { cls := cX, slots := kX.instanceTypes.map defaultValue, vm := .none } = T1 at X₁ st1
  have hcat : (Value.ref T.heap.size).category = 1 := rfl
  have hcellA : T1.heap[T.heap.size]? = some (freshCell cX kX) := by rw [← hT1]; exact State.heap_pushCell_size _ _
  have d3' : decode c.code (pc + 3) = .ok (.dup, 1) := by rw [hb]; exact d3
  have d4' : decode c.code (pc + 4) = .ok (.ldc_w is, 3) := by rw [hb]; exact d4
  have hstr' : vk_R own is text sa s' := vk_R.warm hW0 hstr
  obtain ⟨U, hsteps, hrun, hend, hW, hsame, ce, hce, hO⟩ := X₁.ctorThrowS hexec htr (own := own) (cls := cls) (names := names) (ic := ic) hown' hcls hnames h (fun x hx => nomatch hx) hfX hkX hcellA (by rw [hhp, hT]; exact Nat.le_refl _) (msg := .ref sa) rfl
    (g := { method := m, pc := pc + 7, locals := ls, stack := .ref sa :: .ref T.heap.size :: .ref T.heap.size :: rest, locked := none }) rfl hsize rfl rfl (rest := rest) rfl
    (by rw [hb]; exact d7) (by rw [hb]; exact d10) hout hRframes (by simp only [List.map_cons, List.sum_cons, hcat]; omega) hlocks
  obtain ⟨f1, f2⟩ := vx_frame hsame
  rw [hhp] at f1 f2
  have hWs : s.WarmedH U.vm := State.WarmedH.trans hW0 hW
  have hcl : s.vm.findClass cls = some ce.cls := by
    have h9 := hO.cls
    rw [hvm] at h9
    exact h9
  have hall : s.sameButNew ({ U with vm := s.vm } : State) locs mc ms := by
    subst hA
    obtain ⟨e1, e2⟩ := hsame
    rw [State.setFrames_setFrames] at e1
    have h2 : (T.setVm s.vm).sameButNew ({ U with vm := s.vm } : State) [] (0 + 1) (0 + 6) := ⟨e1, e2⟩
    have h3 := X.same.trans h2
    rw [List.append_nil] at h3
    exact h3.mono hc hs
  refine ⟨U, ?_, .threw T.heap.size, hrun, hend, Or.inr ⟨T.heap.size, rfl, cls, ce, locs, hx U hWs.alike f1 (fun q hq => f2 q hq (fun z hz => nomatch hz)), hce, hO.vm, hcl, hWs, hall, hf⟩⟩
  refine st1 _ ?_
  show Steps p.tables e below (T1.setTop { method := m, pc := pc + 3, locals := ls, stack := .ref T.heap.size :: rest, locked := none }) _
  jvm_step X₁.here [X₁.here.top, hexec, d3', Value.category]
  exact X₁.ldcStringW hexec (own := own) (text := text) (index := is) (a := sa) hown' hstr'.1 hstr'.2
    (g := { method := m, pc := pc + 4, locals := ls, stack := .ref T.heap.size :: .ref T.heap.size :: rest, locked := none }) rfl d4' _ hsteps
end Ends
section Bodies
variable {l : Launch}
theorem vx_ofW {y : MethodName} {ws ws' : List Cond} {rm : Room} {Pc : Array Value → State → Prop} {Qc : Array Value → State → Outcome → State → Prop} {XC : String → State → State → Prop} {mc ms : Nat} {free : Addr → Prop} {cc : ByteArray} {maxL : Nat} {ret : Option FieldType}
    (hy : plainName y.cls = true) (hw : ws = Cond.code y cc maxL ret :: ws')
    (body : ∀ p e s m args below meth c s₁, BodyLoose p l y (headSpec ws rm) cc maxL ret e s m args below meth c s₁ → c.maxLocals = maxL → (∀ x ∈ c.exceptionTable.toList, False) → Pc args s →
      W p l e (headSpec ws rm).room s m args below meth c s.heap [] 0 0 (vx_MQ below Qc XC args s mc ms free) (entryFrame m args maxL)) : vx_Met l y ws rm Pc Qc XC mc ms free := by
  refine MetFree.of_bodyS (code := cc) (maxLocals := maxL) (ret := ret) hy ?_ ?_
  · intro args s m h hn
    obtain ⟨meth, c, h1, h2, h3, h4, h5, h6, -, -⟩ := Cond.code_spec hn (atoms_spec (ws := ws) h _ (by rw [hw]; exact List.mem_cons_self))
    exact ⟨meth, c, h1, h2, h3, h4, h5, h6⟩
  · intro p e s m args below meth c s₁ B hml hP _
    have hh0 : s₁.heap = s.heap := by rw [B.state]; rfl
    have ht : ∀ x ∈ c.exceptionTable.toList, False := by
      obtain ⟨meth9, c9, h1, h2, -, -, -, -, h7, -⟩ := Cond.code_spec B.named (atoms_spec (ws := ws) B.pre _ (by rw [hw]; exact List.mem_cons_self))
      cases Option.some.inj (h1.symm.trans B.method)
      cases Option.some.inj (h2.symm.trans (Stand.of_body B).code)
      intro x hx
      rw [Array.isEmpty_iff.mp h7] at hx
      cases hx
    obtain ⟨t, a1, o, b1, b2, b3⟩ := body p e s m args below meth c s₁ B hml ht hP s₁ hh0 (Stand.of_body B)
    exact ⟨t, o, a1, b1, b2, b3⟩
/-- the table of a body with handlers -/
theorem vx_table {p : Program} {x y : MethodName} {S : Spec} {cc bytes : ByteArray} {maxL maxL' : Nat} {ret ret' : Option FieldType} {e : Env} {s s₁ : State} {m : MethodId} {args : Array Value} {below : List Frame} {meth : Method} {c : Code} {hh : List (Nat × Nat × Nat × Nat)}
    (B : BodyLoose p l y S cc maxL ret e s m args below meth c s₁) (h : (Cond.codeWith y bytes maxL' ret' hh).before args s = true) : c.exceptionTable.toList = tableOf hh := by
  obtain ⟨m9, meth9, c9, hn9, h1, h2, -, -, h6, -⟩ := Cond.codeWith_spec h
  cases Option.some.inj (hn9.symm.trans B.named)
  cases Option.some.inj (h1.symm.trans B.method)
  cases Option.some.inj (h2.symm.trans (Stand.of_body B).code)
  rw [← h6, table_eq]
end Bodies
end VXA
/-! ===== END ===== -/
/-! ===== BEGIN a static call of a method with an exception table ===== -/
section VXS
variable {p : Program} {l : Launch} {e : Env} {R : Room} {s : State} {m : MethodId} {args : Array Value} {below : List Frame} {meth : Method} {c : Code} {T : State} {H : Heap} {locs : List Loc} {cells slots : Nat}
abbrev vx_CSW (R : Room) (s : State) (args : Array Value) (own : String) (index : Nat) (y : MethodName) (bytes : ByteArray) (maxL : Nat) (ret : Option FieldType) (hh : List (Nat × Nat × Nat × Nat)) (ws : List Cond) (rm : Room) (mc ms n : Nat) : Prop :=
  (rm.cells = mc ∧ rm.slots = ms ∧ rm.frames + 1 ≤ R.frames ∧ 8 + (maxL + 11) + rm.locals ≤ R.locals ∧ (∀ w ∈ ws, ∀ (a' : Array Value) (U : State), s.WarmedH U.vm → w.before a' U = true) ∧ Cond.codeWith y bytes maxL ret hh ∈ ws) ∧
  (Cond.codeWith y bytes maxL ret hh).before args s = true ∧ (Cond.initialized y.cls).before args s = true ∧ (y.cls ≠ "java/lang/invoke/MethodHandle" ∧ y.cls ≠ "java/lang/invoke/VarHandle") ∧
  (∀ sig, parseMethodDescriptor y.desc = some sig → n = sig.parameters.length) ∧ (Cond.methodLink own index y).before args s = true ∧ (Cond.static y).before args s = true
theorem vx_cwSW {own : String} {index maxL mc ms : Nat} {y : MethodName} {bytes : ByteArray} {ret : Option FieldType} {hh : List (Nat × Nat × Nat × Nat)} {Ts ws ws' : List Cond} {rm : Room} (n : Nat) (ht : ∀ w ∈ Ts, w.before args s = true) (hT : GoodIn Ts (va_wsS own index y ws)) (hw : ws = Cond.codeWith y bytes maxL ret hh :: ws') (hrc : rm.cells = mc) (hrs : rm.slots = ms)
    (hd : y.cls ≠ "java/lang/invoke/MethodHandle" ∧ y.cls ≠ "java/lang/invoke/VarHandle" ∧ (parseMethodDescriptor y.desc).map (fun d => d.parameters.length) = some n) (hR : rm.frames + 1 ≤ R.frames ∧ 8 + (maxL + 11) + rm.locals ≤ R.locals) :
    vx_CSW R s args own index y bytes maxL ret hh ws rm mc ms n := by
  have ok : ∀ w ∈ va_wsS own index y ws, w.before args s = true := fun w h => ht w (hT w h).1
  have hG : GoodIn Ts ws := fun w h => hT w (by unfold va_wsS; exact List.mem_append_right _ h)
  have hc : Cond.codeWith y bytes maxL ret hh ∈ ws := by rw [hw]; exact List.mem_cons_self
  refine ⟨⟨hrc, hrs, hR.1, hR.2, pay_in ht hG, hc⟩, ht _ (hG _ hc).1, ok _ (by simp [va_wsS]), ⟨hd.1, hd.2.1⟩, fun sig h => ?_, ok _ (by simp [va_wsS]), ok _ (by simp [va_wsS])⟩
  have h2 := hd.2.2
  rw [h] at h2
  exact (Option.some.inj h2).symm
theorem vx_callSW (X : Stand p l e R s m args below meth c T locs cells slots) (hexec : p.tables.exec = Jvm.exec) {own : String} {index : Nat} {y : MethodName} {bytes : ByteArray} {maxL : Nat} {ret : Option FieldType} {hh : List (Nat × Nat × Nat × Nat)}
    (hown : s.vm.findClass own = some m.cls) (hlink : (Cond.methodLink own index y).before args s = true) (hstat : (Cond.static y).before args s = true) (hinit : (Cond.initialized y.cls).before args s = true)
    (hcode : (Cond.codeWith y bytes maxL ret hh).before args s = true) (hy : y.cls ≠ "java/lang/invoke/MethodHandle" ∧ y.cls ≠ "java/lang/invoke/VarHandle")
    {W9 : Nat} {Pre : Pt → Array Value → Prop} {Post : Pt → Array Value → Option Value → Pt → Prop} (hK : Back l R p e below s args y 3 W9 Pre Post)
    {g : JFrame} (hg : g.method = m) (hsize : g.locals.size = c.maxLocals) {argsL rest : List Value} (hlen : ∀ sig, parseMethodDescriptor y.desc = some sig → argsL.length = sig.parameters.length)
    (hstack : g.stack = argsL.reverse ++ rest) (hW : 2 * g.monitorRoom + (rest.map fun v => v.category).sum ≤ W9) (hdg : decode c.code g.pc = .ok (.invokestatic index, 3))
    (hpre : ∀ vm₁, s.WarmedH vm₁ → Pre ⟨T.setVm vm₁, locs, cells, slots⟩ argsL.toArray) :
    ∃ (v : Option Value) (vm₁ : Vm) (B : Pt), s.WarmedH vm₁ ∧ Stand p l e R s m args below meth c B.U B.locs B.cells B.slots ∧ Post ⟨T.setVm vm₁, locs, cells, slots⟩ argsL.toArray v B ∧
      ∀ target, Steps p.tables e below (B.U.setTop { g with pc := g.pc + 3, stack := v.toList ++ rest }) target → Steps p.tables e below (T.setTop g) target := by
  obtain ⟨mk, methM, cM, hnamed, hmethM, -, -, -, -, -, -, hsigM⟩ := Cond.codeWith_spec hcode
  have hstatic : methM.isStatic = true := Cond.static_spec hnamed hmethM hstat
  obtain ⟨kP, hkP, -⟩ := className_of_methodNamed hnamed
  have hinitP : kP.init = .initialized := Cond.initialized_spec (findClass_of_methodNamed hnamed) hkP hinit
  obtain ⟨vm₁, X₁, hstep₁⟩ := X.invokestatic hexec hown hlink hnamed hmethM hstatic hkP hinitP hy (g := g) hg (argsL := argsL) (rest := rest) (hlen _ hsigM) hstack hdg
  obtain ⟨v, B, X', hpost, hsteps⟩ := hK m meth c ⟨T.setVm vm₁, locs, cells, slots⟩ { g with stack := rest } (.invokestatic index) mk argsL.toArray X₁ hg hsize hdg hW (X₁.named hnamed) (hpre vm₁ X₁.warmed)
  exact ⟨v, vm₁, B, X₁.warmed, X', hpost, fun target h => hstep₁ _ fun acts => by rw [doInvoke_state]; exact hsteps.trans h⟩
theorem vx_runSW {y : MethodName} {bytes cc : ByteArray} {maxL nL mc ms n index : Nat} {ret : Option FieldType} {hh : List (Nat × Nat × Nat × Nat)} {ws : List Cond} {rm : Room} {Pc : Array Value → State → Prop} {Qc : Array Value → State → Outcome → State → Prop} {free : Addr → Prop} {Ts : List Cond} {own : String} {As rest : List Value} {g : JFrame}
    (S : CallFix p m c cc nL s args Ts own) (hM : Met l y ws rm Pc Qc mc ms free) (cw : vx_CSW R s args own index y bytes maxL ret hh ws rm mc ms n) (hp : PreS s H Pc As)
    (hg : g.method = m) (hn : As.length = n) (hsize : g.locals.size = nL) (hstack : g.stack = As.reverse ++ rest) (hW : 2 * g.monitorRoom + (rest.map fun v => v.category).sum ≤ 8) (hdg : decode cc g.pc = .ok (.invokestatic index, 3)) (hf : cells + mc ≤ R.cells ∧ slots + ms ≤ R.slots) :
    va_Run p l e R s m args below meth c H locs cells slots mc ms g rest (Qc As.toArray) (free) := by
  obtain ⟨⟨hrc, hrs, hfr, hlo, hws, hcw⟩, hcode, hini, hy, hlen, hl, hstt⟩ := cw
  have hK : Back l R p e below s args y 3 8 (PreOf R mc ms Pc) (PostOf Qc mc ms free) := va_backW (hh := hh) (bytes := bytes) (maxL := maxL) (ret := ret) hM hp.1 hrc hrs hfr hlo hws hcw (fun a' U hW => word_at hW (Or.inl (by first | rfl | simp [Cond.onTables, Cond.keeps, Cond.steady])) hini)
  obtain ⟨hx, hb, hml, ho, -⟩ := S
  intro T hT X
  obtain ⟨v, vm₁, ⟨U', l2, c2, s2⟩, hW₁, X', ⟨g', mk, t, L, e1, e2, hq, h1, hL, h2, h3⟩, st⟩ := vx_callSW X hx (hh := hh) (bytes := bytes) (maxL := maxL) (ret := ret) ho hl hstt hini hcode hy hK hg (hsize.trans hml.symm) (argsL := As) (rest := rest) (fun sig h => hn.trans (hlen sig h)) hstack hW (by rw [hb]; exact hdg)
    (fun vm₁ hW₁ => ⟨hf.1, hf.2, hp.2 (T.setVm vm₁) hT hW₁⟩)
  dsimp only [Pt.U, Pt.locs, Pt.cells, Pt.slots] at X' e1 e2 h1 h2 h3 st
  subst h1; subst h2; subst h3
  exact ⟨v, (T.setVm vm₁).calling g' mk As.toArray, t, U', L, hT, X', hL, e1, e2, hq, st⟩
/-- not caught here, past rows that name other classes: it goes on to the caller -/
theorem vx_outP {p : Program} {l : Launch} {e : Env} {R : Room} {s : State} {m : MethodId} {args : Array Value} {below : List Frame} {meth : Method} {c : Code} {H : Heap} {locs : List Loc} {cells slots : Nat} {free : Addr → Prop} {ls : Array Slot} {rest : List Value} {Qc : Array Value → State → Outcome → State → Prop} {XC : String → State → State → Prop}
    {pc : Nat} {own E : String} {ce : Cell} {q : Addr} {mc ms : Nat} (hown : s.vm.findClass own = some m.cls) (hlocks : meth.locks = false)
    (hpass : ∀ z ∈ c.exceptionTable.toList, covers z pc = false ∨ (z.catchType ≠ 0 ∧ ∃ nm : String, (Cond.classLink own z.catchType nm).before args s = true ∧ va_Nc E nm s)) (hcell : H[q]? = some ce) (hv : ce.vm = .none) (hcl : s.vm.findClass E = some ce.cls)
    (hx : ∀ t : State, t.heap = H → s.vm.Alike t.vm → XC E s t) (hf : ∀ z ∈ locs, free z.base) (hc : cells ≤ mc) (hs : slots ≤ ms) :
    vx_W p l e R s m args below meth c H locs cells slots (vx_MQ below Qc XC args s mc ms free) (F0 m pc ls rest) q := by
  intro T hT X
  have hpl : e.platform.magicAccessors = ({} : Platform).magicAccessors := by rw [X.admits.platform]
  obtain ⟨vm', hW', X', st⟩ := X.outThrough hlocks q (g := F0 m pc ls rest) rfl rfl rfl (cell := ce) (by rw [hT]; exact hcell) (by rw [hv]; rfl)
    (by obtain ⟨k9, h9, -⟩ := Vm.findClass_spec hcl; exact ⟨k9, h9⟩) (fun z hz => by
      rcases hpass z hz with h | ⟨hz0, nm, hl1, hn1⟩
      · exact Or.inl h
      · obtain ⟨c6, hc6, hcl6⟩ := Cond.classLink_spec hown hl1 e.platform hpl
        obtain ⟨a8, b8, h1, h2, h3⟩ := hn1
        cases Option.some.inj (h1.symm.trans hcl)
        cases Option.some.inj (h2.symm.trans hc6)
        exact Or.inr ⟨hz0, _, hcl6, h3⟩)
  obtain ⟨g₀, hfr⟩ := X'.frames_eq
  have hcell9 : ((T.setVm vm').setFrames (.throwing q :: below)).heap[q]? = some ce := by
    show T.heap[q]? = some ce
    rw [hT]; exact hcell
  have hend : Ended ((T.setVm vm').setFrames (.throwing q :: below)) below (.threw q) := State.frames_setFrames _ (State.cur_lt_of_frames hfr)
  refine ⟨(T.setVm vm').setFrames (.throwing q :: below), ?_, .threw q, X'.here.running, hend, Or.inr ⟨q, rfl, E, ce, locs, hx _ hT (X'.ends _).1.alike, hcell9, hv, hcl, (X'.ends _).1, (X'.ends _).2.mono hc hs, hf⟩⟩
  rw [X.pushThrowing_eq]
  exact st
/-- a thing of a world lies in the heap -/
theorem vx_lt {D : va_G} {cl : List vw_C} {ws : va_W} {H1 : Heap} (h : va_P D cl ws H1) {k : Nat} {q : Nat × va_E} (hk : ws[k]? = some q) : q.1 < H1.size := (h k q hk).lt
end VXS
/-! ===== END ===== -/
/-! ===== BEGIN methods with a table of their own: called by a name, returning or throwing ===== -/
section VXH
/-! vx_backW, vx_callVX, vx_callSX, vx_callVW, vx_runVW, vx_runVX, vx_runSX, vx_ofWH follow the same proofs as their sisters above (Free/Laws.lean, Shelf42/LK1.lean); vx_outP calls Shelf42/NT130.lean (outThrough). -/
section
variable {l : Launch} {R : Room} {p : Program} {e : Env} {below : List Frame} {s : State} {sargs : Array Value} {y : MethodName} {len W9 : Nat}
theorem vx_backW {ws : List Cond} {rm : Room} {Pc : Array Value → State → Prop} {Qc : Array Value → State → Outcome → State → Prop} {XC : String → State → State → Prop} {mc ms : Nat} {free : Addr → Prop} {bytes : ByteArray} {maxL : Nat} {ret : Option FieldType} {hh : List (Nat × Nat × Nat × Nat)}
    (hM : vx_Met l y ws rm Pc Qc XC mc ms free) (hblind : FrameBlind Pc) (hrc : rm.cells = mc) (hrs : rm.slots = ms)
    (hframes : rm.frames + 1 ≤ R.frames) (hlocals : W9 + (maxL + 11) + rm.locals ≤ R.locals)
    (hws : ∀ w ∈ ws, ∀ a' U, s.WarmedH U.vm → w.before a' U = true) (hcode : Cond.codeWith y bytes maxL ret hh ∈ ws) (hinit : ∀ a' U, s.WarmedH U.vm → (Cond.initialized y.cls).before a' U = true) :
    vx_Back l R p e below s sargs y len W9 (PreOf R mc ms Pc) (PostOf Qc mc ms free) (vx_Post XC mc ms free) := by
  intro m meth c A g ig mk a X hg hsize hdg hW hn hp
  have h1 : (headSpec ws rm).pre.before a A.U = true := atoms_intro fun w hw => hws w hw _ _ X.warmed
  have h2 : (Cond.codeWith y bytes maxL ret hh).before a A.U = true := hws _ hcode _ _ X.warmed
  have h3 : (Cond.initialized y.cls).before a A.U = true := hinit _ _ X.warmed
  have h4 : A.cells + (headSpec ws rm).room.cells ≤ R.cells := by rw [show (headSpec ws rm).room.cells = mc from hrc]; exact hp.1
  have h5 : A.slots + (headSpec ws rm).room.slots ≤ R.slots := by rw [show (headSpec ws rm).room.slots = ms from hrs]; exact hp.2.1
  have hPc : Pc a (A.U.calling g mk a) := hblind _ _ _ _ hp.2.2
  obtain ⟨U, Ls, c0, s0⟩ := A
  dsimp only [Pt.U, Pt.locs, Pt.cells, Pt.slots] at h1 h2 h3 h4 h5 X hn hPc ⊢
  obtain ⟨m9, methY, cY, hn9, hmY, hcY, -, hlY, -⟩ := Cond.codeWith_spec h2
  cases Option.some.inj (hn9.symm.trans hn)
  obtain ⟨kY, hkY, -⟩ := className_of_methodNamed hn
  have hinitY : kY.init = .initialized := Cond.initialized_spec (findClass_of_methodNamed hn) hkY h3
  have h : At U g.method c below := by rw [hg]; exact X.here
  have hlocals9 : W9 + (maxL + 11) + (headSpec ws rm).room.locals ≤ R.locals := hlocals
  have happ : (headSpec ws rm).appliesLoose y e.platform (U.calling g mk a) = true :=
    Spec.appliesLoose_calling (g := g) h hdg hn hkY hinitY
      (X.room_calling (g := g) (R' := (headSpec ws rm).room) hsize hmY hcY hframes (by rw [hlY]; omega) h4 h5) h1
  obtain ⟨mid, hmid⟩ := h.above
  have hfr : (U.setTop g).frames = (.java g :: mid) ++ below := by rw [State.frames_setTop' g h.top, hmid]; rfl
  obtain ⟨o, s₂, hsteps, -, hend, hq⟩ := Steps.callFree hM p X.admits X.cas X.clock (acts := []) hfr happ hPc trivial
  have hq' : vx_Q Qc XC mc ms free a (U.calling g mk a) o s₂ := hq
  rw [State.frames_setTop' g h.top] at hend
  obtain ⟨g₀, hg0⟩ := Option.isSome_iff_exists.mp h.top
  obtain ⟨r, hr⟩ := State.topJava?_eq_some.mp hg0
  have hr' : (({ U with heap := s₂.heap, slotsUsed := s₂.slotsUsed } : State).setVm s₂.vm).frames = .java g₀ :: r := hr
  rcases hq' with ⟨hqc, L, hfe, hL⟩ | ⟨q, rfl, E, ce, L, hx, hce, hcv, hcl, hW₂, hsm, hL⟩
  · obtain ⟨⟨v, rfl⟩, hW₂, e2, q2, q3, q4, q5, q6⟩ := id hfe
    have e3 : s₂ = ({ (U.calling g mk a).setFrames s₂.frames with heap := s₂.heap, slotsUsed := s₂.slotsUsed } : State).setVm s₂.vm := by
      have : s₂ = ({ s₂ with vm := (U.calling g mk a).vm } : State).setVm s₂.vm := rfl
      rw [e2] at this
      exact this
    obtain ⟨c₂, i₂, len₂, hc₂, hd₂, hf₂⟩ := hend
    have hW' : U.WarmedH s₂.vm := hW₂
    have hcc : c₂ = c := by
      have h1 : s₂.code? g.method = U.code? g.method := by
        rw [State.code?_eq, State.code?_eq, hW'.alike.method?]
      exact Option.some.inj (hc₂.symm.trans (h1.trans h.code))
    subst hcc
    have hlen : len₂ = len := by rw [hdg] at hd₂; cases hd₂; rfl
    subst hlen
    have hs₂ : s₂ = (({ U with heap := s₂.heap, slotsUsed := s₂.slotsUsed } : State).setVm s₂.vm).setTop { g with pc := g.pc + len₂, stack := v.toList ++ g.stack } := by
      refine e3.trans ?_
      rw [hf₂, State.calling_eq h.top, State.setFrames_setFrames, State.setTop_of_frames _ hr', hr]
      rfl
    have hsame : U.sameButNew ({ U with heap := s₂.heap, slotsUsed := s₂.slotsUsed } : State) L mc ms := by
      refine ⟨?_, q2, q3, q4, q5, q6⟩
      obtain ⟨t, ht, -⟩ := State.frames_cons hr
      show ({ U with heap := s₂.heap, slotsUsed := s₂.slotsUsed } : State) = { U.setFrames U.frames with heap := s₂.heap, slotsUsed := s₂.slotsUsed }
      rw [State.setFrames_self ht]
    subst hg
    refine Or.inl ⟨v, ⟨(({ U with heap := s₂.heap, slotsUsed := s₂.slotsUsed } : State).setVm s₂.vm), Ls ++ L, c0 + mc, s0 + ms⟩,
      ⟨X.admits, X.cas, X.clock, X.frames, X.room, X.hears, X.method, X.code, (X.here.setHeapUsed s₂.heap s₂.slotsUsed).setVm hW'.alike, X.tail, State.WarmedH.trans X.warmed hW', X.limits, X.bytes, X.same.trans (hsame.setVm s.vm)⟩,
      ⟨g, mk, s₂, L, rfl, rfl, hqc, rfl, hL, rfl, rfl⟩, ?_⟩
    show Steps p.tables e below _ ((({ U with heap := s₂.heap, slotsUsed := s₂.slotsUsed } : State).setVm s₂.vm).setTop { g with pc := g.pc + len₂, stack := v.toList ++ g.stack })
    rw [← hs₂]
    exact hsteps
  · obtain ⟨e2, q2, q3, q4, q5, q6⟩ := id hsm
    have e3 : s₂ = ({ (U.calling g mk a).setFrames s₂.frames with heap := s₂.heap, slotsUsed := s₂.slotsUsed } : State).setVm s₂.vm := by
      have : s₂ = ({ s₂ with vm := (U.calling g mk a).vm } : State).setVm s₂.vm := rfl
      rw [e2] at this
      exact this
    have hf₂ : s₂.frames = .throwing q :: .java g :: U.frames.tail := hend
    have hW' : U.WarmedH s₂.vm := hW₂
    have hs₂ : s₂ = ((({ U with heap := s₂.heap, slotsUsed := s₂.slotsUsed } : State).setVm s₂.vm).setTop g).pushFrame (.throwing q) := by
      refine e3.trans ?_
      rw [hf₂, State.calling_eq h.top, State.setFrames_setFrames, State.pushFrame, State.frames_setTop _ hr', State.setTop_of_frames _ hr', State.setFrames_setFrames, hr]
      rfl
    have hsame : U.sameButNew ({ U with heap := s₂.heap, slotsUsed := s₂.slotsUsed } : State) L mc ms := by
      refine ⟨?_, q2, q3, q4, q5, q6⟩
      obtain ⟨t, ht, -⟩ := State.frames_cons hr
      show ({ U with heap := s₂.heap, slotsUsed := s₂.slotsUsed } : State) = { U.setFrames U.frames with heap := s₂.heap, slotsUsed := s₂.slotsUsed }
      rw [State.setFrames_self ht]
    subst hg
    refine Or.inr ⟨q, ⟨(({ U with heap := s₂.heap, slotsUsed := s₂.slotsUsed } : State).setVm s₂.vm), Ls ++ L, c0 + mc, s0 + ms⟩,
      ⟨X.admits, X.cas, X.clock, X.frames, X.room, X.hears, X.method, X.code, (X.here.setHeapUsed s₂.heap s₂.slotsUsed).setVm hW'.alike, X.tail, State.WarmedH.trans X.warmed hW', X.limits, X.bytes, X.same.trans (hsame.setVm s.vm)⟩,
      ⟨g, mk, s₂, L, E, ce, rfl, rfl, hx, hce, hcv, hcl, rfl, hL, rfl, rfl⟩, ?_⟩
    show Steps p.tables e below _ (((({ U with heap := s₂.heap, slotsUsed := s₂.slotsUsed } : State).setVm s₂.vm).setTop g).pushFrame (.throwing q))
    rw [← hs₂]
    exact hsteps
end
variable {p : Program} {l : Launch} {e : Env} {R : Room} {s : State} {m : MethodId} {args : Array Value} {below : List Frame} {meth : Method} {c : Code} {T : State} {H : Heap} {locs : List Loc} {cells slots : Nat}
theorem vx_callVX (X : Stand p l e R s m args below meth c T locs cells slots) (hexec : p.tables.exec = Jvm.exec) {own C : String} {index : Nat} {y : MethodName} {bytes : ByteArray} {maxL : Nat} {ret : Option FieldType} {hh : List (Nat × Nat × Nat × Nat)}
    (hown : s.vm.findClass own = some m.cls) (hlink : (Cond.methodLink own index y).before args s = true) (hinst : (Cond.instanceMethod y).before args s = true) (hsel : (Cond.selects C y y).before args s = true)
    (hcode : (Cond.codeWith y bytes maxL ret hh).before args s = true) (hy : y.cls ≠ "java/lang/invoke/MethodHandle" ∧ y.cls ≠ "java/lang/invoke/VarHandle")
    {W9 : Nat} {Pre : Pt → Array Value → Prop} {Post : Pt → Array Value → Option Value → Pt → Prop} {PostX : Pt → Array Value → Addr → Pt → Prop} (hK : vx_Back l R p e below s args y 3 W9 Pre Post PostX)
    {b : Addr} {cellB : Cell} (hcell : T.heap[b]? = some cellB) (hobj : cellB.vm.isStatics = false) (hcls : s.vm.findClass C = some cellB.cls)
    {g : JFrame} (hg : g.method = m) (hsize : g.locals.size = c.maxLocals) {argsL rest : List Value} (hlen : ∀ sig, parseMethodDescriptor y.desc = some sig → argsL.length = sig.parameters.length)
    (hstack : g.stack = argsL.reverse ++ .ref b :: rest) (hW : 2 * g.monitorRoom + (rest.map fun v => v.category).sum ≤ W9) (hdg : decode c.code g.pc = .ok (.invokevirtual index, 3))
    (hpre : ∀ vm₁, s.WarmedH vm₁ → Pre ⟨T.setVm vm₁, locs, cells, slots⟩ (Value.ref b :: argsL).toArray) :
    (∃ (v : Option Value) (vm₁ : Vm) (B : Pt), s.WarmedH vm₁ ∧ Stand p l e R s m args below meth c B.U B.locs B.cells B.slots ∧ Post ⟨T.setVm vm₁, locs, cells, slots⟩ (Value.ref b :: argsL).toArray v B ∧
      ∀ target, Steps p.tables e below (B.U.setTop { g with pc := g.pc + 3, stack := v.toList ++ rest }) target → Steps p.tables e below (T.setTop g) target) ∨
    (∃ (q : Addr) (vm₁ : Vm) (B : Pt), s.WarmedH vm₁ ∧ Stand p l e R s m args below meth c B.U B.locs B.cells B.slots ∧ PostX ⟨T.setVm vm₁, locs, cells, slots⟩ (Value.ref b :: argsL).toArray q B ∧
      Steps p.tables e below (T.setTop g) ((B.U.setTop { g with stack := rest }).pushFrame (.throwing q))) := by
  obtain ⟨mk, methM, hnamed, hmethM, hstM, habM⟩ := Cond.instanceMethod_spec hinst
  obtain ⟨m8, methM', cM, hn8, hmethM', -, -, -, -, -, -, hsigM⟩ := Cond.codeWith_spec hcode
  cases Option.some.inj (hn8.symm.trans hnamed)
  cases hmethM.symm.trans hmethM'
  obtain ⟨c2, r2, m2, q1, q2, q3, q4, kP, hkP, hkPi⟩ := Cond.selects_spec hsel
  cases hcls.symm.trans q1
  cases (State.methodFound?_of_named hnamed hy).symm.trans q2
  cases hnamed.symm.trans q3
  have hselP : selectMethod e.platform s.vm cellB.cls mk = .method mk := by rw [Launch.admits_selectMethod X.admits]; exact q4
  obtain ⟨vm₁, X₁, hstep₁⟩ := X.invokevirtual hexec hown hlink hnamed hmethM hstM hkP hkPi hy (a := b) (cell := cellB) hcell
    (fun z h => by rw [h] at hobj; cases hobj) hselP hmethM habM hkP hkPi (g := g) hg (argsL := argsL) (rest := rest) (hlen _ hsigM) hstack hdg
  rcases hK m meth c ⟨T.setVm vm₁, locs, cells, slots⟩ { g with stack := rest } (.invokevirtual index) mk (Value.ref b :: argsL).toArray X₁ hg hsize hdg hW (X₁.named hnamed) (hpre vm₁ X₁.warmed) with ⟨v, B, X', hpost, hsteps⟩ | ⟨q, B, X', hpost, hsteps⟩
  · exact Or.inl ⟨v, vm₁, B, X₁.warmed, X', hpost, fun target h => hstep₁ _ fun acts => by rw [doInvoke_state]; exact hsteps.trans h⟩
  · exact Or.inr ⟨q, vm₁, B, X₁.warmed, X', hpost, hstep₁ _ fun acts => by rw [doInvoke_state]; exact hsteps⟩
theorem vx_callSX (X : Stand p l e R s m args below meth c T locs cells slots) (hexec : p.tables.exec = Jvm.exec) {own : String} {index : Nat} {y : MethodName} {bytes : ByteArray} {maxL : Nat} {ret : Option FieldType} {hh : List (Nat × Nat × Nat × Nat)}
    (hown : s.vm.findClass own = some m.cls) (hlink : (Cond.methodLink own index y).before args s = true) (hstat : (Cond.static y).before args s = true) (hinit : (Cond.initialized y.cls).before args s = true)
    (hcode : (Cond.codeWith y bytes maxL ret hh).before args s = true) (hy : y.cls ≠ "java/lang/invoke/MethodHandle" ∧ y.cls ≠ "java/lang/invoke/VarHandle")
    {W9 : Nat} {Pre : Pt → Array Value → Prop} {Post : Pt → Array Value → Option Value → Pt → Prop} {PostX : Pt → Array Value → Addr → Pt → Prop} (hK : vx_Back l R p e below s args y 3 W9 Pre Post PostX)
    {g : JFrame} (hg : g.method = m) (hsize : g.locals.size = c.maxLocals) {argsL rest : List Value} (hlen : ∀ sig, parseMethodDescriptor y.desc = some sig → argsL.length = sig.parameters.length)
    (hstack : g.stack = argsL.reverse ++ rest) (hW : 2 * g.monitorRoom + (rest.map fun v => v.category).sum ≤ W9) (hdg : decode c.code g.pc = .ok (.invokestatic index, 3))
    (hpre : ∀ vm₁, s.WarmedH vm₁ → Pre ⟨T.setVm vm₁, locs, cells, slots⟩ argsL.toArray) :
    (∃ (v : Option Value) (vm₁ : Vm) (B : Pt), s.WarmedH vm₁ ∧ Stand p l e R s m args below meth c B.U B.locs B.cells B.slots ∧ Post ⟨T.setVm vm₁, locs, cells, slots⟩ argsL.toArray v B ∧
      ∀ target, Steps p.tables e below (B.U.setTop { g with pc := g.pc + 3, stack := v.toList ++ rest }) target → Steps p.tables e below (T.setTop g) target) ∨
    (∃ (q : Addr) (vm₁ : Vm) (B : Pt), s.WarmedH vm₁ ∧ Stand p l e R s m args below meth c B.U B.locs B.cells B.slots ∧ PostX ⟨T.setVm vm₁, locs, cells, slots⟩ argsL.toArray q B ∧
      Steps p.tables e below (T.setTop g) ((B.U.setTop { g with stack := rest }).pushFrame (.throwing q))) := by
  obtain ⟨mk, methM, cM, hnamed, hmethM, -, -, -, -, -, -, hsigM⟩ := Cond.codeWith_spec hcode
  have hstatic : methM.isStatic = true := Cond.static_spec hnamed hmethM hstat
  obtain ⟨kP, hkP, -⟩ := className_of_methodNamed hnamed
  have hinitP : kP.init = .initialized := Cond.initialized_spec (findClass_of_methodNamed hnamed) hkP hinit
  obtain ⟨vm₁, X₁, hstep₁⟩ := X.invokestatic hexec hown hlink hnamed hmethM hstatic hkP hinitP hy (g := g) hg (argsL := argsL) (rest := rest) (hlen _ hsigM) hstack hdg
  rcases hK m meth c ⟨T.setVm vm₁, locs, cells, slots⟩ { g with stack := rest } (.invokestatic index) mk argsL.toArray X₁ hg hsize hdg hW (X₁.named hnamed) (hpre vm₁ X₁.warmed) with ⟨v, B, X', hpost, hsteps⟩ | ⟨q, B, X', hpost, hsteps⟩
  · exact Or.inl ⟨v, vm₁, B, X₁.warmed, X', hpost, fun target h => hstep₁ _ fun acts => by rw [doInvoke_state]; exact hsteps.trans h⟩
  · exact Or.inr ⟨q, vm₁, B, X₁.warmed, X', hpost, hstep₁ _ fun acts => by rw [doInvoke_state]; exact hsteps⟩
theorem vx_callVW (X : Stand p l e R s m args below meth c T locs cells slots) (hexec : p.tables.exec = Jvm.exec) {own C : String} {index : Nat} {y : MethodName} {bytes : ByteArray} {maxL : Nat} {ret : Option FieldType} {hh : List (Nat × Nat × Nat × Nat)}
    (hown : s.vm.findClass own = some m.cls) (hlink : (Cond.methodLink own index y).before args s = true) (hinst : (Cond.instanceMethod y).before args s = true) (hsel : (Cond.selects C y y).before args s = true)
    (hcode : (Cond.codeWith y bytes maxL ret hh).before args s = true) (hy : y.cls ≠ "java/lang/invoke/MethodHandle" ∧ y.cls ≠ "java/lang/invoke/VarHandle")
    {W9 : Nat} {Pre : Pt → Array Value → Prop} {Post : Pt → Array Value → Option Value → Pt → Prop} (hK : Back l R p e below s args y 3 W9 Pre Post)
    {b : Addr} {cellB : Cell} (hcell : T.heap[b]? = some cellB) (hobj : cellB.vm.isStatics = false) (hcls : s.vm.findClass C = some cellB.cls)
    {g : JFrame} (hg : g.method = m) (hsize : g.locals.size = c.maxLocals) {argsL rest : List Value} (hlen : ∀ sig, parseMethodDescriptor y.desc = some sig → argsL.length = sig.parameters.length)
    (hstack : g.stack = argsL.reverse ++ .ref b :: rest) (hW : 2 * g.monitorRoom + (rest.map fun v => v.category).sum ≤ W9) (hdg : decode c.code g.pc = .ok (.invokevirtual index, 3))
    (hpre : ∀ vm₁, s.WarmedH vm₁ → Pre ⟨T.setVm vm₁, locs, cells, slots⟩ (Value.ref b :: argsL).toArray) :
    ∃ (v : Option Value) (vm₁ : Vm) (B : Pt), s.WarmedH vm₁ ∧ Stand p l e R s m args below meth c B.U B.locs B.cells B.slots ∧ Post ⟨T.setVm vm₁, locs, cells, slots⟩ (Value.ref b :: argsL).toArray v B ∧
      ∀ target, Steps p.tables e below (B.U.setTop { g with pc := g.pc + 3, stack := v.toList ++ rest }) target → Steps p.tables e below (T.setTop g) target := by
  obtain ⟨mk, methM, hnamed, hmethM, hstM, habM⟩ := Cond.instanceMethod_spec hinst
  obtain ⟨m8, methM', cM, hn8, hmethM', -, -, -, -, -, -, hsigM⟩ := Cond.codeWith_spec hcode
  cases Option.some.inj (hn8.symm.trans hnamed)
  cases hmethM.symm.trans hmethM'
  obtain ⟨c2, r2, m2, q1, q2, q3, q4, kP, hkP, hkPi⟩ := Cond.selects_spec hsel
  cases hcls.symm.trans q1
  cases (State.methodFound?_of_named hnamed hy).symm.trans q2
  cases hnamed.symm.trans q3
  have hselP : selectMethod e.platform s.vm cellB.cls mk = .method mk := by rw [Launch.admits_selectMethod X.admits]; exact q4
  obtain ⟨vm₁, X₁, hstep₁⟩ := X.invokevirtual hexec hown hlink hnamed hmethM hstM hkP hkPi hy (a := b) (cell := cellB) hcell
    (fun z h => by rw [h] at hobj; cases hobj) hselP hmethM habM hkP hkPi (g := g) hg (argsL := argsL) (rest := rest) (hlen _ hsigM) hstack hdg
  obtain ⟨v, B, X', hpost, hsteps⟩ := hK m meth c ⟨T.setVm vm₁, locs, cells, slots⟩ { g with stack := rest } (.invokevirtual index) mk (Value.ref b :: argsL).toArray X₁ hg hsize hdg hW (X₁.named hnamed) (hpre vm₁ X₁.warmed)
  exact ⟨v, vm₁, B, X₁.warmed, X', hpost, fun target h => hstep₁ _ fun acts => by rw [doInvoke_state]; exact hsteps.trans h⟩
abbrev vx_CVW (R : Room) (s : State) (args : Array Value) (own C : String) (index : Nat) (y : MethodName) (bytes : ByteArray) (maxL : Nat) (ret : Option FieldType) (hh : List (Nat × Nat × Nat × Nat)) (ws : List Cond) (rm : Room) (mc ms n : Nat) : Prop :=
  (rm.cells = mc ∧ rm.slots = ms ∧ rm.frames + 1 ≤ R.frames ∧ 8 + (maxL + 11) + rm.locals ≤ R.locals ∧ (∀ w ∈ ws, ∀ (a' : Array Value) (U : State), s.WarmedH U.vm → w.before a' U = true) ∧ Cond.codeWith y bytes maxL ret hh ∈ ws) ∧
  (Cond.codeWith y bytes maxL ret hh).before args s = true ∧ (Cond.initialized y.cls).before args s = true ∧ (y.cls ≠ "java/lang/invoke/MethodHandle" ∧ y.cls ≠ "java/lang/invoke/VarHandle") ∧
  (∀ sig, parseMethodDescriptor y.desc = some sig → n = sig.parameters.length) ∧ (Cond.methodLink own index y).before args s = true ∧ (Cond.instanceMethod y).before args s = true ∧ (Cond.selects C y y).before args s = true
theorem vx_cwVW {own C : String} {index maxL mc ms : Nat} {y : MethodName} {bytes : ByteArray} {ret : Option FieldType} {hh : List (Nat × Nat × Nat × Nat)} {Ts ws ws' : List Cond} {rm : Room} (n : Nat) (ht : ∀ w ∈ Ts, w.before args s = true) (hT : GoodIn Ts (wsV own index C y ws)) (hw : ws = Cond.codeWith y bytes maxL ret hh :: ws') (hrc : rm.cells = mc) (hrs : rm.slots = ms)
    (hd : y.cls = C ∧ y.cls ≠ "java/lang/invoke/MethodHandle" ∧ y.cls ≠ "java/lang/invoke/VarHandle" ∧ (parseMethodDescriptor y.desc).map (fun d => d.parameters.length) = some n) (hR : rm.frames + 1 ≤ R.frames ∧ 8 + (maxL + 11) + rm.locals ≤ R.locals) :
    vx_CVW R s args own C index y bytes maxL ret hh ws rm mc ms n := by
  obtain ⟨hC, hd⟩ := hd
  subst hC
  have ok : ∀ w ∈ wsV own index y.cls y ws, w.before args s = true := fun w h => ht w (hT w h).1
  have hG : GoodIn Ts ws := fun w h => hT w (by unfold wsV; exact List.mem_append_right _ h)
  have hc : Cond.codeWith y bytes maxL ret hh ∈ ws := by rw [hw]; exact List.mem_cons_self
  refine ⟨⟨hrc, hrs, hR.1, hR.2, pay_in ht hG, hc⟩, ht _ (hG _ hc).1, ok _ (by simp [wsV]), ⟨hd.1, hd.2.1⟩, fun sig h => ?_, ok _ (by simp [wsV]), ok _ (by simp [wsV]), ok _ (by simp [wsV])⟩
  have h2 := hd.2.2
  rw [h] at h2
  exact (Option.some.inj h2).symm
theorem vx_runVW {y : MethodName} {bytes cc : ByteArray} {maxL nL mc ms n index : Nat} {ret : Option FieldType} {hh : List (Nat × Nat × Nat × Nat)} {ws : List Cond} {rm : Room} {Pc : Array Value → State → Prop} {Qc : Array Value → State → Outcome → State → Prop} {free : Addr → Prop} {Ts : List Cond} {own C : String} {b : Addr} {As rest : List Value} {g : JFrame}
    (S : CallFix p m c cc nL s args Ts own) (hM : Met l y ws rm Pc Qc mc ms free) (cw : vx_CVW R s args own C index y bytes maxL ret hh ws rm mc ms n) (hp : PreV s H C b Pc As)
    (hg : g.method = m) (hn : As.length = n) (hsize : g.locals.size = nL) (hstack : g.stack = As.reverse ++ .ref b :: rest) (hW : 2 * g.monitorRoom + (rest.map fun v => v.category).sum ≤ 8) (hdg : decode cc g.pc = .ok (.invokevirtual index, 3)) (hf : cells + mc ≤ R.cells ∧ slots + ms ≤ R.slots) :
    va_Run p l e R s m args below meth c H locs cells slots mc ms g rest (Qc (Value.ref b :: As).toArray) free := by
  obtain ⟨⟨hrc, hrs, hfr, hlo, hws, hcw⟩, hcode, hini, hy, hlen, hl, hin, hse⟩ := cw
  have hK : Back l R p e below s args y 3 8 (PreOf R mc ms Pc) (PostOf Qc mc ms free) := va_backW (hh := hh) (bytes := bytes) (maxL := maxL) (ret := ret) hM hp.1 hrc hrs hfr hlo hws hcw (fun a' U hW => word_at hW (Or.inl (by first | rfl | simp [Cond.onTables, Cond.keeps, Cond.steady])) hini)
  obtain ⟨hx, hb, hml, ho, -⟩ := S
  obtain ⟨-, ⟨cellB, hcB, hoB, hclB⟩, hPc⟩ := hp
  intro T hT X
  obtain ⟨v, vm₁, ⟨U', l2, c2, s2⟩, hW₁, X', ⟨g', mk, t, L, e1, e2, hq, h1, hL, h2, h3⟩, st⟩ := vx_callVW X hx (C := C) (hh := hh) (bytes := bytes) (maxL := maxL) (ret := ret) ho hl hin hse hcode hy hK (by rw [hT]; exact hcB) hoB hclB hg (hsize.trans hml.symm) (argsL := As) (rest := rest) (fun sig h => hn.trans (hlen sig h)) hstack hW (by rw [hb]; exact hdg)
    (fun vm₁ hW₁ => ⟨hf.1, hf.2, hPc (T.setVm vm₁) hT hW₁⟩)
  dsimp only [Pt.U, Pt.locs, Pt.cells, Pt.slots] at X' e1 e2 h1 h2 h3 st
  subst h1; subst h2; subst h3
  exact ⟨v, (T.setVm vm₁).calling g' mk (Value.ref b :: As).toArray, t, U', L, hT, X', hL, e1, e2, hq, st⟩
section
variable {y : MethodName} {bytes cc : ByteArray} {maxL nL mc ms n index : Nat} {ret : Option FieldType} {ws : List Cond} {rm : Room} {Pc : Array Value → State → Prop} {Qc : Array Value → State → Outcome → State → Prop} {XC : String → State → State → Prop} {free : Addr → Prop} {Ts : List Cond} {own C : String} {b : Addr} {As rest : List Value} {g : JFrame}
theorem vx_runVX {hh : List (Nat × Nat × Nat × Nat)} (S : CallFix p m c cc nL s args Ts own) (hM : vx_Met l y ws rm Pc Qc XC mc ms free) (cw : vx_CVW R s args own C index y bytes maxL ret hh ws rm mc ms n) (hp : PreV s H C b Pc As)
    (hg : g.method = m) (hn : As.length = n) (hsize : g.locals.size = nL) (hstack : g.stack = As.reverse ++ .ref b :: rest) (hW : 2 * g.monitorRoom + (rest.map fun v => v.category).sum ≤ 8) (hdg : decode cc g.pc = .ok (.invokevirtual index, 3)) (hf : cells + mc ≤ R.cells ∧ slots + ms ≤ R.slots) :
    vx_Run p l e R s m args below meth c H locs cells slots mc ms g rest (Qc (Value.ref b :: As).toArray) XC free := by
  obtain ⟨⟨hrc, hrs, hfr, hlo, hws, hcw⟩, hcode, hini, hy, hlen, hl, hin, hse⟩ := cw
  have hK : vx_Back l R p e below s args y 3 8 (PreOf R mc ms Pc) (PostOf Qc mc ms free) (vx_Post XC mc ms free) := vx_backW (hh := hh) (bytes := bytes) (maxL := maxL) (ret := ret) hM hp.1 hrc hrs hfr hlo hws hcw (fun a' U hW => word_at hW (Or.inl (by first | rfl | simp [Cond.onTables, Cond.keeps, Cond.steady])) hini)
  obtain ⟨hx, hb, hml, ho, -⟩ := S
  obtain ⟨-, ⟨cellB, hcB, hoB, hclB⟩, hPc⟩ := hp
  intro T hT X
  rcases vx_callVX X hx (C := C) (hh := hh) (bytes := bytes) (maxL := maxL) (ret := ret) ho hl hin hse hcode hy hK (by rw [hT]; exact hcB) hoB hclB hg (hsize.trans hml.symm) (argsL := As) (rest := rest) (fun sig h => hn.trans (hlen sig h)) hstack hW (by rw [hb]; exact hdg)
    (fun vm₁ hW₁ => ⟨hf.1, hf.2, hPc (T.setVm vm₁) hT hW₁⟩) with ⟨v, vm₁, ⟨U', l2, c2, s2⟩, hW₁, X', ⟨g', mk, t, L, e1, e2, hq, h1, hL, h2, h3⟩, st⟩ | ⟨q, vm₁, ⟨U', l2, c2, s2⟩, hW₁, X', ⟨g', mk, t, L, E, ce, e1, e2, hq, hce, hcv, hcl, h1, hL, h2, h3⟩, st⟩
  · dsimp only [Pt.U, Pt.locs, Pt.cells, Pt.slots] at X' e1 e2 h1 h2 h3 st
    subst h1; subst h2; subst h3
    exact Or.inl ⟨v, (T.setVm vm₁).calling g' mk (Value.ref b :: As).toArray, t, U', L, hT, X', hL, e1, e2, hq, st⟩
  · dsimp only [Pt.U, Pt.locs, Pt.cells, Pt.slots] at X' e1 e2 h1 h2 h3 st hcl
    subst h1; subst h2; subst h3
    exact Or.inr ⟨q, (T.setVm vm₁).calling g' mk (Value.ref b :: As).toArray, t, U', L, E, ce, hT, X', hL, e1, e2, hq, hce, hcv, vx_cls hW₁ hcl, st⟩
theorem vx_runSX {hh : List (Nat × Nat × Nat × Nat)} (S : CallFix p m c cc nL s args Ts own) (hM : vx_Met l y ws rm Pc Qc XC mc ms free) (cw : vx_CSW R s args own index y bytes maxL ret hh ws rm mc ms n) (hp : PreS s H Pc As)
    (hg : g.method = m) (hn : As.length = n) (hsize : g.locals.size = nL) (hstack : g.stack = As.reverse ++ rest) (hW : 2 * g.monitorRoom + (rest.map fun v => v.category).sum ≤ 8) (hdg : decode cc g.pc = .ok (.invokestatic index, 3)) (hf : cells + mc ≤ R.cells ∧ slots + ms ≤ R.slots) :
    vx_Run p l e R s m args below meth c H locs cells slots mc ms g rest (Qc As.toArray) XC free := by
  obtain ⟨⟨hrc, hrs, hfr, hlo, hws, hcw⟩, hcode, hini, hy, hlen, hl, hstt⟩ := cw
  have hK : vx_Back l R p e below s args y 3 8 (PreOf R mc ms Pc) (PostOf Qc mc ms free) (vx_Post XC mc ms free) := vx_backW (hh := hh) (bytes := bytes) (maxL := maxL) (ret := ret) hM hp.1 hrc hrs hfr hlo hws hcw (fun a' U hW => word_at hW (Or.inl (by first | rfl | simp [Cond.onTables, Cond.keeps, Cond.steady])) hini)
  obtain ⟨hx, hb, hml, ho, -⟩ := S
  intro T hT X
  rcases vx_callSX X hx (hh := hh) (bytes := bytes) (maxL := maxL) (ret := ret) ho hl hstt hini hcode hy hK hg (hsize.trans hml.symm) (argsL := As) (rest := rest) (fun sig h => hn.trans (hlen sig h)) hstack hW (by rw [hb]; exact hdg)
    (fun vm₁ hW₁ => ⟨hf.1, hf.2, hp.2 (T.setVm vm₁) hT hW₁⟩) with ⟨v, vm₁, ⟨U', l2, c2, s2⟩, hW₁, X', ⟨g', mk, t, L, e1, e2, hq, h1, hL, h2, h3⟩, st⟩ | ⟨q, vm₁, ⟨U', l2, c2, s2⟩, hW₁, X', ⟨g', mk, t, L, E, ce, e1, e2, hq, hce, hcv, hcl, h1, hL, h2, h3⟩, st⟩
  · dsimp only [Pt.U, Pt.locs, Pt.cells, Pt.slots] at X' e1 e2 h1 h2 h3 st
    subst h1; subst h2; subst h3
    exact Or.inl ⟨v, (T.setVm vm₁).calling g' mk As.toArray, t, U', L, hT, X', hL, e1, e2, hq, st⟩
  · dsimp only [Pt.U, Pt.locs, Pt.cells, Pt.slots] at X' e1 e2 h1 h2 h3 st hcl
    subst h1; subst h2; subst h3
    exact Or.inr ⟨q, (T.setVm vm₁).calling g' mk As.toArray, t, U', L, E, ce, hT, X', hL, e1, e2, hq, hce, hcv, vx_cls hW₁ hcl, st⟩
end
end VXH
theorem vx_ofWH {l : Launch} {y : MethodName} {ws ws' : List Cond} {rm : Room} {Pc : Array Value → State → Prop} {Qc : Array Value → State → Outcome → State → Prop} {XC : String → State → State → Prop} {mc ms : Nat} {free : Addr → Prop} {cc : ByteArray} {maxL : Nat} {ret : Option FieldType} {hh : List (Nat × Nat × Nat × Nat)}
    (hy : plainName y.cls = true) (hw : ws = Cond.codeWith y cc maxL ret hh :: ws')
    (body : ∀ p e s m args below meth c s₁, BodyLoose p l y (headSpec ws rm) cc maxL ret e s m args below meth c s₁ → c.maxLocals = maxL → Pc args s →
      W p l e (headSpec ws rm).room s m args below meth c s.heap [] 0 0 (vx_MQ below Qc XC args s mc ms free) (entryFrame m args maxL)) : vx_Met l y ws rm Pc Qc XC mc ms free := by
  refine MetFree.of_bodyS (code := cc) (maxLocals := maxL) (ret := ret) hy ?_ ?_
  · intro args s m h hn
    obtain ⟨m9, meth, c, hn9, h1, h2, h3, h4, -, h5, h6, -⟩ := Cond.codeWith_spec (atoms_spec (ws := ws) h _ (by rw [hw]; exact List.mem_cons_self))
    cases hn.symm.trans hn9
    exact ⟨meth, c, h1, h2, h3, h4, h5, h6⟩
  · intro p e s m args below meth c s₁ B hml hP _
    have hh0 : s₁.heap = s.heap := by rw [B.state]; rfl
    obtain ⟨t, a1, o, b1, b2, b3⟩ := body p e s m args below meth c s₁ B hml hP s₁ hh0 (Stand.of_body B)
    exact ⟨t, o, a1, b1, b2, b3⟩
/-! ===== END ===== -/
/-! ===== BEGIN what the machine throws by itself, no traces kept ===== -/
section VXM
set_option maxHeartbeats 1000000 in
/-- the machine throws cls with the message text, no traces kept: from its note over the frame g to 'throwing' over the same frame (follows the proofs of Stand.vmThrowsMessage, Shelf/KitTracedVmS.lean, and Stand.throwsMessageColdBareV, StandMessageColdV.lean, without the step out of the frame) -/
theorem vx_vmAt {p : Program} {l : Launch} {e : Env} {R : Room} {s : State} {m₀ : MethodId} {args : Array Value} {below : List Frame} {meth : Method} {c : Code} {W : State} {locs : List Loc} {cells slots : Nat}
    (X : Stand p l e R s m₀ args below meth c W locs cells slots) (hexec : p.tables.exec = Jvm.exec) (htr : e.platform.stackTraces = false) {cls : String} {names : List String} {text : String}
    (hcls : Bundle.fit cls = true) (hnames : ∀ n ∈ names, Bundle.fit n = true) (hsoe : (cls == "java/lang/StackOverflowError") = false) (hoom : (cls == "java/lang/OutOfMemoryError") = false)
    (h : ∀ a ∈ Bundle.messageArmAtoms cls names, a.before args s = true)
    (hlocs : ∀ x ∈ locs, ∀ cell, s.heap[x.base]? = some cell → cell.vm.isStatics = false)
    (htext : (text == notModelled) = false) (hlimit : ¬ (stringBytes (stringToUtf16 text)).size > e.platform.arrayLengthLimit) (hheap : ¬ (stringBytes (stringToUtf16 text)).size * componentBytes .byte > e.platform.maxHeapBytes)
    {g : JFrame} (hg : g.method = m₀) (hsize : g.locals.size = c.maxLocals)
    (hRframes : names.length + 4 < R.frames) (hRlocals : 2 * g.monitorRoom + (g.stack.map fun v => v.category).sum + 10240 ≤ R.locals) (hshort : 13 * names.length + 55 ≤ 10240)
    (hRcells : cells + 3 ≤ R.cells) (hRslots : slots + ((stringBytes (stringToUtf16 text)).size + 4 + 6) ≤ R.slots) (hlocks : meth.locks = false) :
    ∃ (S : State) (q : Addr) (ce : Cell), (∀ target, Steps p.tables e below ((S.setTop g).pushFrame (.throwing q)) target → Steps p.tables e below ((W.setTop g).pushFrame (.throwNew cls (some text) none)) target) ∧
      Stand p l e R s m₀ args below meth c S locs (cells + 3) (slots + ((stringBytes (stringToUtf16 text)).size + 4 + 6)) ∧ S.heap[q]? = some ce ∧ s.vm.findClass cls = some ce.cls ∧ ce.vm = .none := by
  have howns : e.platform.frameOwnsMonitors = true := by rw [X.admits.platform]
  have hfin : e.platform.finalization = false := by rw [X.admits.platform]
  have hpl : e.platform.magicAccessors = ({} : Platform).magicAccessors := by rw [X.admits.platform]
  have a : ∀ x, x ∈ Bundle.messageArmAtoms cls names → x.holds args s none s [] = true := fun x hx => h x hx
  obtain ⟨T, Z0, L, -, Y⟩ := ThrowableC.of_atoms (args := args) howns hfin hpl (fun x hx => h x (by simp [Bundle.messageArmAtoms, hx]))
  obtain ⟨Z, M, LZ, LM, hnZ⟩ := Init0T.ofS_atoms (args := args) hpl L Y (fun x hx => h x (by simp [Bundle.messageArmAtoms, hx]))
  obtain ⟨P1, Ps, hlen, L1, hL, hP1m, hlink1, hlink⟩ := Bundle.chainS (args := args) hpl hnZ names cls hcls hnames (fun x hx => h x (by simp [Bundle.messageArmAtoms, hx]))
  obtain ⟨Zs, LZs, hn4, hfitv, hfitc⟩ := StringT.of_atoms (args := args) (fun x hx => h x (by simp [Bundle.messageArmAtoms, hx]))
  have hfound : s.vm.findClass cls = some P1.m.cls := findClass_of_methodNamed hP1m
  obtain ⟨c1, kX, hc1, hk, hord, -, -, hn6⟩ := Cond.instantiable_spec (a (.instantiable cls 6) (by simp [Bundle.messageArmAtoms]))
  cases Option.some.inj (hc1.symm.trans hfound)
  have hinit := Cond.initialized_spec hfound hk (a (.initialized cls) (by simp [Bundle.messageArmAtoms]))
  have hctor : kX.findMethod "<init>" "(Ljava/lang/String;)V" = some P1.m.idx := findMethod_of_methodNamed hP1m hk
  have hsel0 : selectMethod e.platform s.vm P1.m.cls T.fill0 = .method T.fill0 := by
    obtain ⟨c2, r2, m2, q1, q2, q3, q4, -⟩ := Cond.selects_spec (a (.selects cls Bundle.tFill0 Bundle.tFill0) (by simp [Bundle.messageArmAtoms]))
    cases Option.some.inj (q1.symm.trans hfound)
    cases Option.some.inj (q2.symm.trans (State.methodFound?_of_named Y.fill0 (by decide)))
    cases Option.some.inj (q3.symm.trans Y.fill0)
    rw [Launch.admits_selectMethod X.admits]; exact q4
  have hselF : selectMethod e.platform s.vm P1.m.cls T.fill = .method T.fill := by
    obtain ⟨c2, r2, m2, q1, q2, q3, q4, -⟩ := Cond.selects_spec (a (.selects cls Bundle.tFill Bundle.tFill) (by simp [Bundle.messageArmAtoms]))
    cases Option.some.inj (q1.symm.trans hfound)
    cases Option.some.inj (q2.symm.trans (State.methodFound?_of_named Y.fill (by decide)))
    cases Option.some.inj (q3.symm.trans Y.fill)
    rw [Launch.admits_selectMethod X.admits]; exact q4
  obtain ⟨cellS0, hcS0, hiss⟩ := Y.statics
  obtain ⟨u0, hu0⟩ := Cond.staticRefV Y.unassigned L.unassignedStatic L.statics hcS0 hiss (a (.isRef (.static Bundle.tN "UNASSIGNED_STACK" Bundle.steD)) (by simp [Bundle.messageArmAtoms]))
  obtain ⟨sen, hsen⟩ := Cond.staticRefV Y.sentinel L.sentinelStatic L.statics hcS0 hiss (a (.isRef (.static Bundle.tN "SUPPRESSED_SENTINEL" Bundle.listD)) (by simp [Bundle.messageArmAtoms]))
  obtain ⟨ci198, i198, fB, hk198, hg198, ha198, hsB, -, hnB, htB, hffB⟩ := Cond.ownField (t := .object "java/lang/Object") Y.found L.cls (by decide +kernel) (a (.fieldLink Bundle.tN 198 Bundle.tN "backtrace" "Ljava/lang/Object;") (by simp [Bundle.messageArmAtoms])) (a (.lays Bundle.tN Bundle.tN "backtrace" "Ljava/lang/Object;") (by simp [Bundle.messageArmAtoms])) e.platform hpl
  obtain ⟨cellS, hcS', heS, -, hkeep⟩ := X.same.2.2.2.2.2 T.aS cellS0 hcS0
  have hcellS : W.heap[T.aS]? = some cellS := hcS'
  have hout' : ∀ i, (⟨T.aS, i⟩ : Loc) ∉ locs := fun i hmem => by
    have := hlocs _ hmem cellS0 hcS0
    rw [hiss] at this; cases this
  have hknownS : cellS.vm ≠ .unknown := by
    rw [heS]; intro hu
    rw [show cellS0.vm = .unknown from hu] at hiss
    cases hiss
  have hvU : cellS.slots[T.fUnassigned.slot]? = some u0.v := by rw [hkeep _ (hout' _)]; exact hu0
  have hvSen : cellS.slots[T.fSentinel.slot]? = some sen.v := by rw [hkeep _ (hout' _)]; exact hsen
  obtain ⟨iM, hffM⟩ := Y.msg
  obtain ⟨tyC, dC, hdC, hdnC⟩ := Cond.laysAt hfound hk Y.cause (a (.lays cls Bundle.tN "cause" "Ljava/lang/Throwable;") (by simp [Bundle.messageArmAtoms]))
  obtain ⟨tyS, dS, hdS, hdnS⟩ := Cond.laysAt hfound hk Y.stack (a (.lays cls Bundle.tN "stackTrace" Bundle.steD) (by simp [Bundle.messageArmAtoms]))
  obtain ⟨tyP, dP, hdP, hdnP⟩ := Cond.laysAt hfound hk Y.supp (a (.lays cls Bundle.tN "suppressedExceptions" Bundle.listD) (by simp [Bundle.messageArmAtoms]))
  obtain ⟨tyM, dM, hdM, hdnM⟩ := Cond.laysAt hfound hk hffM (a (.lays cls Bundle.tN "detailMessage" "Ljava/lang/String;") (by simp [Bundle.messageArmAtoms]))
  obtain ⟨tyB, dB, hdB, hdnB⟩ := Cond.laysAt hfound hk hffB (a (.lays cls Bundle.tN "backtrace" "Ljava/lang/Object;") (by simp [Bundle.messageArmAtoms]))
  have bC := Cond.laysApart hdB hdC hdnB hdnC (by rw [hnB, Y.causeName]; decide)
  have bS := Cond.laysApart hdB hdS hdnB hdnS (by rw [hnB, Y.stackName]; decide)
  have bP := Cond.laysApart hdB hdP hdnB hdnP (by rw [hnB, Y.suppName]; decide)
  have hbk : ((preparedCellV T.toThrowableT (freshCell P1.m.cls kX) (W.heap.size + 2) u0 sen).withEntry W.cur).slots[fB.slot]? = some .null := by
    have := fresh_default (c := P1.m.cls) tyB
    rw [htB] at this
    simpa [preparedCellV, Cell.setSlot, Cell.withEntry, Array.getElem?_setIfInBounds, bC, bS, bP, bC.symm, bS.symm, bP.symm, defaultValue] using this
  have tkC := Takes.of_laid (v := .ref (W.heap.size + 2)) hk hord tyC (by rw [Y.causeType]; rfl)
  have tkS := Takes.of_laid (v := u0.v) hk hord tyS (by rw [Y.stackType]; exact fits_refV_array _ u0)
  have tkP := Takes.of_laid (v := sen.v) hk hord tyP (by rw [Y.suppType]; exact fits_refV_object _ sen)
  have tkM := Takes.of_laid (v := .ref (W.heap.size + 1)) hk hord tyM (by rw [Y.msgType]; rfl)
  have hskip : SkipFacts T e.platform s (fun u => u) u0 ((preparedCellV T.toThrowableT (freshCell P1.m.cls kX) (W.heap.size + 2) u0 sen).withEntry W.cur) := ⟨{ ci198 := ci198, i198 := i198, fBack := fB }, ⟨hk198, hg198, ha198, hsB⟩, hbk, fun _ _ => rfl⟩
  have h0 : At W g.method c below := by rw [hg]; exact X.here
  obtain ⟨hbeyond, hfreeW⟩ := X.vmMayThrow hsize (.throwNew cls (some text) none) (fun f hf => by cases hf) rfl hRlocals
  have hfr' : W.frames.length + Ps.length + 4 < (e.platform.stackLimits W.me).1 := by have := X.framesAbove hRframes; omega
  have hwd' : (stackUse (.java g :: W.frames.tail)).2 + 13 * Ps.length + 55 ≤ (e.platform.stackLimits W.me).2 := by have := X.stackAbove hsize (K := 13 * Ps.length + 55) (by omega); omega
  have hslots : W.slotsUsed + (stringBytes (stringToUtf16 text)).size + Zs.kS.instanceTypes.size + kX.instanceTypes.size ≤ e.platform.maxSlots := by
    have := X.slotsAbove hRslots
    rw [hn4, hn6]
    omega
  obtain ⟨vm', hW', st⟩ := Steps.vmThrowsMessageColdByV p (s₀ := s) (S := W) (g := g) h0 hexec T L Z LZ M LM X.warmed (t := W.cur) rfl Zs LZs P1 L1 Ps hL hlink1 hlink hsoe hoom hfound hk hinit hord hctor
    (Launch.admits_hotImplicitExceptions X.admits) hbeyond hfreeW htext hlimit hheap (X.cellsAbove hRcells) hslots (hfitv _) (hfitc _)
    (Nn := fun u => u) heapOnly_id (fun _ _ => rfl) (fun _ => rfl) (fun u x y => setCell_twice _ _ _ _) (fun _ => Nat.le_refl _) (cN := ((preparedCellV T.toThrowableT (freshCell P1.m.cls kX) (W.heap.size + 2) u0 sen).withEntry W.cur))
    hsel0 hcellS hknownS hvU tkS (fun _ hu => hu) (fun _ hu => hu) rfl rfl rfl (by simp [preparedCellV, Cell.setSlot, Cell.withEntry]) hskip (fun _ _ hA hW _ hroom _ hrest => L.nativeOff p htr hA hW hroom hrest) hselF hvSen tkC tkP tkM Y.objLocals rfl hfr' hwd'
  rw [plainBareV_eq T.toThrowableT (W.heap.size + 2) u0 sen (.ref (W.heap.size + 1)) W.cur rfl rfl] at st
  obtain ⟨-, -, w3, w4, -, -, -⟩ := withThrown_facts e.platform W Zs text P1.m.cls kX
  have X3 := ((X.pushed (bytesOf Zs.cB (stringToUtf16 text))).pushed (stringAt Zs.cS Zs.kS Zs.fv Zs.fc (stringToUtf16 text) W.heap.size)).pushed (freshCell P1.m.cls kX)
  rw [← withString_eq] at X3
  have X4 := X3.noted hW'
  have ha : (W.heap.size + 2) < ((withThrown W Zs text P1.m.cls kX).setVm vm').heap.size := by show _ < (withThrown W Zs text P1.m.cls kX).heap.size; rw [w3]; omega
  have hcell : ((withThrown W Zs text P1.m.cls kX).setVm vm').heap[(W.heap.size + 2)]? = some (freshCell P1.m.cls kX) := w4
  have X5 := ((((X4.stored hcell T.fCause.slot (.ref (W.heap.size + 2))).storedAgain ha T.fStack.slot u0.v).storedAgain ha T.fSupp.slot sen.v).storedAgain ha T.fStack.slot u0.v).storedAgain ha T.fMsg.slot (.ref (W.heap.size + 1))
  obtain ⟨g₁, hfrM⟩ := X5.frames_eq
  have hU : ((((withThrown W Zs text P1.m.cls kX).setVm vm').setCell (W.heap.size + 2) (plainBareV T.toThrowableT (freshCell P1.m.cls kX) (W.heap.size + 2) u0 sen (.ref (W.heap.size + 1)))).setTop g).pushFrame (.throwing (W.heap.size + 2)) = (((withThrown W Zs text P1.m.cls kX).setVm vm').setCell (W.heap.size + 2) (plainBareV T.toThrowableT (freshCell P1.m.cls kX) (W.heap.size + 2) u0 sen (.ref (W.heap.size + 1)))).setFrames (.throwing (W.heap.size + 2) :: .java g :: below) := by
    rw [State.pushFrame, State.frames_setTop _ hfrM, State.setTop_of_frames _ hfrM, State.setFrames_setFrames]
  have b1 : (bytesOf Zs.cB (stringToUtf16 text)).slots.size = (stringBytes (stringToUtf16 text)).size := by
    rw [(Cell.writeAll_facts _ _).2.2]; simp [bytes0]
  have b2 : (stringAt Zs.cS Zs.kS Zs.fv Zs.fc (stringToUtf16 text) W.heap.size).slots.size = 4 := by simp [string0, Cell.setSlot, hn4]
  have b3 : (freshCell P1.m.cls kX).slots.size = 6 := by simp [hn6]
  rw [b1, b2, b3] at X5
  have e9 : slots + (stringBytes (stringToUtf16 text)).size + 4 + 6 = slots + ((stringBytes (stringToUtf16 text)).size + 4 + 6) := by omega
  rw [e9] at X5
  simp only [List.append_assoc, List.cons_append, List.nil_append] at X5
  refine ⟨((withThrown W Zs text P1.m.cls kX).setVm vm').setCell (W.heap.size + 2) (plainBareV T.toThrowableT (freshCell P1.m.cls kX) (W.heap.size + 2) u0 sen (.ref (W.heap.size + 1))), W.heap.size + 2, _, fun target ht => st _ (by rw [X.tail, ← hU]; exact ht),
    X5.forget (fun y hy => ?_), heapAt_setCell_self _ ha, hfound, rfl⟩
  simp only [List.mem_cons, List.not_mem_nil, or_false] at hy
  have hge : s.heap.size ≤ W.heap.size := X.same.2.1
  rcases hy with rfl | rfl | rfl | rfl | rfl <;> exact Nat.le_trans hge (Nat.le_add_right _ 2)
set_option maxHeartbeats 1000000 in
/-- the machine throws NullPointerException, no traces kept: from its note over the frame g to 'throwing' over the same frame (follows the proof of Stand.vmThrowsNpe, Shelf42/KT2.lean; throwsNpeColdBareVAt, Shelf42/NT91.lean, called) -/
theorem vx_npeAt {p : Program} {l : Launch} {e : Env} {R : Room} {s : State} {m₀ : MethodId} {args : Array Value} {below : List Frame} {meth : Method} {c : Code} {W : State} {locs : List Loc} {cells slots : Nat}
    (X : Stand p l e R s m₀ args below meth c W locs cells slots) (hexec : p.tables.exec = Jvm.exec) (htr : e.platform.stackTraces = false) {n : Nat}
    (h : ∀ a ∈ Bundle.npeArmAtoms n, a.before args s = true)
    (hlocs : ∀ x ∈ locs, ∀ cell, s.heap[x.base]? = some cell → cell.vm.isStatics = false)
    {g : JFrame} (hg : g.method = m₀) (hsize : g.locals.size = c.maxLocals)
    (hRframes : 7 < R.frames) (hRlocals : 2 * g.monitorRoom + (g.stack.map fun v => v.category).sum + 10240 ≤ R.locals)
    (hRcells : cells + 1 ≤ R.cells) (hRslots : slots + n ≤ R.slots) (hlocks : meth.locks = false) :
    ∃ (S : State) (q : Addr) (ce : Cell), (∀ target, Steps p.tables e below ((S.setTop g).pushFrame (.throwing q)) target → Steps p.tables e below ((W.setTop g).pushFrame (.throwNew "java/lang/NullPointerException" none none)) target) ∧
      Stand p l e R s m₀ args below meth c S locs (cells + 1) (slots + n) ∧ S.heap[q]? = some ce ∧ s.vm.findClass "java/lang/NullPointerException" = some ce.cls ∧ ce.vm = .none := by
  have howns : e.platform.frameOwnsMonitors = true := by rw [X.admits.platform]
  have hfin : e.platform.finalization = false := by rw [X.admits.platform]
  have hpl : e.platform.magicAccessors = ({} : Platform).magicAccessors := by rw [X.admits.platform]
  have hpl2 : e.platform.arrayCloneIsPublic = true := by rw [X.admits.platform]
  have a' : ∀ x, x ∈ Bundle.npeArmAtoms n → x.holds args s none s [] = true := fun x hx => h x hx
  obtain ⟨T, Z, L, LZ, Y⟩ := ThrowableC.of_atoms (args := args) howns hfin hpl (fun x hx => h x (by simp [Bundle.npeArmAtoms, hx]))
  obtain ⟨N, LN, hcN, hnNF, hordN, hffS⟩ := NpeC.of_atoms (args := args) hpl hpl2 L Y (fun x hx => h x (by simp [Bundle.npeArmAtoms, hx]))
  obtain ⟨P1, L1, hP1m, hP1s⟩ := PassC.of_atoms (args := args) (s := s) hpl (X := Bundle.nN) (Y := Bundle.rN) (by decide) (by decide) LibCode.NullPointerException.Init0.at_0 LibCode.NullPointerException.Init0.at_1 LibCode.NullPointerException.Init0.at_4 (fun x hx => h x (by simp [Bundle.npeArmAtoms, hx]))
  obtain ⟨PR, LR, hPRm, hPRs⟩ := PassC.of_atoms (args := args) (s := s) hpl (X := Bundle.rN) (Y := Bundle.eN) (by decide) (by decide) LibCode.RuntimeException.Init0.at_0 LibCode.RuntimeException.Init0.at_1 LibCode.RuntimeException.Init0.at_4 (fun x hx => h x (by simp [Bundle.npeArmAtoms, hx]))
  obtain ⟨PE, LEx, hPEm, hPEs⟩ := PassC.of_atoms (args := args) (s := s) hpl (X := Bundle.eN) (Y := Bundle.tN) (by decide) (by decide) LibCode.Exception.Init0.at_0 LibCode.Exception.Init0.at_1 LibCode.Exception.Init0.at_4 (fun x hx => h x (by simp [Bundle.npeArmAtoms, hx]))
  have hfound : s.vm.findClass Bundle.nN = some P1.m.cls := findClass_of_methodNamed hP1m
  have ecls : N.cN = P1.m.cls := Option.some.inj (hcN.symm.trans hfound)
  have hk : s.vm.classes[P1.m.cls]? = some N.kN := by rw [← ecls]; exact LN.cls
  have hinit := Cond.initialized_spec hfound hk (a' (.initialized Bundle.nN) (by simp [Bundle.npeArmAtoms]))
  have hctor : N.kN.findMethod "<init>" "()V" = some P1.m.idx := findMethod_of_methodNamed hP1m hk
  obtain ⟨c1, k1, hc1, hk1, -, -, -, hn⟩ := Cond.instantiable_spec (a' (.instantiable Bundle.nN n) (by simp [Bundle.npeArmAtoms]))
  cases Option.some.inj (hc1.symm.trans hfound)
  cases Option.some.inj (hk1.symm.trans hk)
  have hfsz : (freshCell P1.m.cls N.kN).slots.size = n := by simp [hn]
  have hlink1 : P1.sup = PR.m := Option.some.inj (hP1s.symm.trans hPRm)
  have hlinkR : PR.sup = PE.m := Option.some.inj (hPRs.symm.trans hPEm)
  have hlinkE : PE.sup = Z.m T.toThrowableT := Option.some.inj (hPEs.symm.trans Y.init0)
  have hLs : ∀ P, P ∈ [PR, PE] → P.Links0 e.platform s := fun P hP => by
    simp only [List.mem_cons, List.not_mem_nil, or_false] at hP
    rcases hP with rfl | rfl
    · exact LR
    · exact LEx
  have hsel0 : selectMethod e.platform s.vm P1.m.cls T.fill0 = .method T.fill0 := by
    obtain ⟨c2, r2, m2, q1, q2, q3, q4, -⟩ := Cond.selects_spec (a' (.selects Bundle.nN Bundle.tFill0 Bundle.tFill0) (by simp [Bundle.npeArmAtoms]))
    cases Option.some.inj (q1.symm.trans hfound)
    cases Option.some.inj (q2.symm.trans (State.methodFound?_of_named Y.fill0 (by decide)))
    cases Option.some.inj (q3.symm.trans Y.fill0)
    rw [Launch.admits_selectMethod X.admits]; exact q4
  have hselF : selectMethod e.platform s.vm P1.m.cls T.fill = .method N.fill := by
    obtain ⟨c2, r2, m2, q1, q2, q3, q4, -⟩ := Cond.selects_spec (a' (.selects Bundle.nN Bundle.tFill Bundle.nFill) (by simp [Bundle.npeArmAtoms]))
    cases Option.some.inj (q1.symm.trans hfound)
    cases Option.some.inj (q2.symm.trans (State.methodFound?_of_named Y.fill (by decide)))
    cases Option.some.inj (q3.symm.trans hnNF)
    rw [Launch.admits_selectMethod X.admits]; exact q4
  obtain ⟨cellS0, hcS0, hiss⟩ := Y.statics
  obtain ⟨u0, hu0⟩ := Cond.staticRefV Y.unassigned L.unassignedStatic L.statics hcS0 hiss (a' (.isRef (.static Bundle.tN "UNASSIGNED_STACK" Bundle.steD)) (by simp [Bundle.npeArmAtoms]))
  obtain ⟨sen, hsen⟩ := Cond.staticRefV Y.sentinel L.sentinelStatic L.statics hcS0 hiss (a' (.isRef (.static Bundle.tN "SUPPRESSED_SENTINEL" Bundle.listD)) (by simp [Bundle.npeArmAtoms]))
  obtain ⟨ci198, i198, fB, hk198, hg198, ha198, hsB, -, hnB, htB, hffB⟩ := Cond.ownField (t := .object "java/lang/Object") Y.found L.cls (by decide +kernel) (a' (.fieldLink Bundle.tN 198 Bundle.tN "backtrace" Bundle.objD) (by simp [Bundle.npeArmAtoms])) (a' (.lays Bundle.tN Bundle.tN "backtrace" Bundle.objD) (by simp [Bundle.npeArmAtoms])) e.platform hpl
  obtain ⟨cellS, hcS', heS, -, hkeep⟩ := X.same.2.2.2.2.2 T.aS cellS0 hcS0
  have hcellS : W.heap[T.aS]? = some cellS := hcS'
  have hout' : ∀ i, (⟨T.aS, i⟩ : Loc) ∉ locs := fun i hmem => by
    have := hlocs _ hmem cellS0 hcS0
    rw [hiss] at this; cases this
  have hknownS : cellS.vm ≠ .unknown := by
    rw [heS]; intro hu
    rw [show cellS0.vm = .unknown from hu] at hiss
    cases hiss
  have hvU : cellS.slots[T.fUnassigned.slot]? = some u0.v := by rw [hkeep _ (hout' _)]; exact hu0
  have hvSen : cellS.slots[T.fSentinel.slot]? = some sen.v := by rw [hkeep _ (hout' _)]; exact hsen
  obtain ⟨tyC, dC, hdC, hdnC⟩ := Cond.laysAt hfound hk Y.cause (a' (.lays Bundle.nN Bundle.tN "cause" "Ljava/lang/Throwable;") (by simp [Bundle.npeArmAtoms]))
  obtain ⟨tyS, dS, hdS, hdnS⟩ := Cond.laysAt hfound hk Y.stack (a' (.lays Bundle.nN Bundle.tN "stackTrace" Bundle.steD) (by simp [Bundle.npeArmAtoms]))
  obtain ⟨tyP, dP, hdP, hdnP⟩ := Cond.laysAt hfound hk Y.supp (a' (.lays Bundle.nN Bundle.tN "suppressedExceptions" Bundle.listD) (by simp [Bundle.npeArmAtoms]))
  obtain ⟨tyX, dX, hdX, hdnX⟩ := Cond.laysAt hfound hk hffS (a' (.lays Bundle.nN Bundle.nN "extendedMessageState" "I") (by simp [Bundle.npeArmAtoms, Bundle.npeAtoms]))
  obtain ⟨hnX, htX⟩ := State.fieldFound?_type hffS (t := .int) (by decide +kernel)
  have xC := Cond.laysApart hdC hdX hdnC hdnX (by rw [hnX, Y.causeName]; decide)
  have xS := Cond.laysApart hdS hdX hdnS hdnX (by rw [hnX, Y.stackName]; decide)
  have xP := Cond.laysApart hdP hdX hdnP hdnX (by rw [hnX, Y.suppName]; decide)
  have hv0 : (freshCell P1.m.cls N.kN).slots[N.fState.slot]? = some (.int 0) := by
    have := fresh_default (c := P1.m.cls) tyX
    rw [htX] at this; exact this
  obtain ⟨tyB, dB, hdB, hdnB⟩ := Cond.laysAt hfound hk hffB (a' (.lays Bundle.nN Bundle.tN "backtrace" Bundle.objD) (by simp [Bundle.npeArmAtoms]))
  have bC := Cond.laysApart hdB hdC hdnB hdnC (by rw [hnB, Y.causeName]; decide)
  have bS := Cond.laysApart hdB hdS hdnB hdnS (by rw [hnB, Y.stackName]; decide)
  have bP := Cond.laysApart hdB hdP hdnB hdnP (by rw [hnB, Y.suppName]; decide)
  have bX := Cond.laysApart hdB hdX hdnB hdnX (by rw [hnB, hnX]; decide)
  have hbk : ((npeCell N.toNpeT (preparedCellV T.toThrowableT (freshCell P1.m.cls N.kN) W.heap.size u0 sen) W.cur).withEntry W.cur).slots[fB.slot]? = some .null := by
    have := fresh_default (c := P1.m.cls) tyB
    rw [htB] at this
    simpa [npeCell, preparedCellV, Cell.setSlot, Cell.withEntry, Array.getElem?_setIfInBounds, bC, bS, bP, bX, bC.symm, bS.symm, bP.symm, bX.symm, defaultValue] using this
  have tkC := Takes.of_laid (v := .ref W.heap.size) hk hordN tyC (by rw [Y.causeType]; rfl)
  have tkS := Takes.of_laid (v := u0.v) hk hordN tyS (by rw [Y.stackType]; exact fits_refV_array _ u0)
  have tkP := Takes.of_laid (v := sen.v) hk hordN tyP (by rw [Y.suppType]; exact fits_refV_object _ sen)
  have tkX := Takes.of_laid (v := .int 1) hk hordN tyX (by rw [htX]; rfl)
  have hskip : SkipFacts T e.platform s (fun u => u) u0 ((npeCell N.toNpeT (preparedCellV T.toThrowableT (freshCell P1.m.cls N.kN) W.heap.size u0 sen) W.cur).withEntry W.cur) := ⟨{ ci198 := ci198, i198 := i198, fBack := fB }, ⟨hk198, hg198, ha198, hsB⟩, hbk, fun _ _ => rfl⟩
  obtain ⟨vm', X3, st, -⟩ := X.throwsNpeColdBareVAt hexec hg hsize T L Z LZ N LN P1 L1 [PR, PE] hLs hlink1 ⟨hlinkR, hlinkE, trivial⟩ hfound hk hinit hordN hctor hsel0 hselF hcellS hknownS hvU hvSen
    hv0 xC xS xP tkC tkS tkP tkX Y.objLocals hskip (fun _ _ hA hW _ hroom _ hrest => L.nativeOff p htr hA hW hroom hrest) (by simpa using hRframes) hRlocals (by simp) hRcells (by rw [hn]; exact hRslots)
  have hlt : W.heap.size < ((W.pushCell (freshCell P1.m.cls N.kN)).setVm vm').heap.size := by
    show W.heap.size < (W.pushCell (freshCell P1.m.cls N.kN)).heap.size
    rw [State.heap_size_pushCell]; omega
  rw [hfsz] at X3
  obtain ⟨g₁, hfrM⟩ := X3.frames_eq
  have hU : ((((W.pushCell (freshCell P1.m.cls N.kN)).setVm vm').setCell W.heap.size (npeBareV T.toThrowableT N.toNpeT (freshCell P1.m.cls N.kN) W.heap.size u0 sen)).setTop g).pushFrame (.throwing W.heap.size) = (((W.pushCell (freshCell P1.m.cls N.kN)).setVm vm').setCell W.heap.size (npeBareV T.toThrowableT N.toNpeT (freshCell P1.m.cls N.kN) W.heap.size u0 sen)).setFrames (.throwing W.heap.size :: .java g :: below) := by
    rw [State.pushFrame, State.frames_setTop _ hfrM, State.setTop_of_frames _ hfrM, State.setFrames_setFrames]
  refine ⟨_, W.heap.size, _, fun target ht => st.trans (by rw [← hU]; exact ht), X3.forget (fun y hy => ?_), heapAt_setCell_self _ hlt, hfound, rfl⟩
  simp only [List.mem_cons, List.not_mem_nil, or_false] at hy
  have hge : s.heap.size ≤ W.heap.size := X.same.2.1
  rcases hy with rfl | rfl | rfl | rfl | rfl <;> exact hge
/-- the words of a machine's NullPointerException, but the four that speak of the heap -/
def vx_atN (n : Nat) : List Cond := (Bundle.npeArmAtoms n).filter vx_no
/-- the words of a machine's throw with a message, but the four that speak of the heap -/
def vx_atM (X : String) (names : List String) : List Cond := (Bundle.messageArmAtoms X names).filter vx_no
section
variable {p : Program} {l : Launch} {e : Env} {R : Room} {s : State} {m : MethodId} {args : Array Value} {below : List Frame} {meth : Method} {c : Code} {H : Heap} {locs : List Loc} {cells slots : Nat}
/-- a frame seen from a rebased start, seen from the first start again -/
theorem vx_back9 {T S : State} {R' : Room} {k n : Nat} (X : Stand p l e R s m args below meth c T locs cells slots) (Y : Stand p l e R' ((T.setVm s.vm).setFrames (.invoking m args :: below)) m args below meth c T [] 0 0) (Z : Stand p l e R' ((T.setVm s.vm).setFrames (.invoking m args :: below)) m args below meth c S [] k n) :
    Stand p l e R s m args below meth c S locs (cells + k) (slots + n) := by
  have hW0 : s.WarmedH ((T.setVm s.vm).setFrames (.invoking m args :: below)).vm := State.WarmedH.refl s
  refine { admits := X.admits, cas := X.cas, clock := X.clock, frames := X.frames, room := X.room, hears := X.hears, method := X.method, code := X.code, here := Z.here, tail := Z.tail, warmed := State.WarmedH.trans hW0 Z.warmed, limits := Z.limits.trans (Y.limits.symm.trans X.limits), bytes := Z.bytes.trans (Y.bytes.symm.trans X.bytes), same := ?_ }
  obtain ⟨e1, e2⟩ := Z.same
  rw [State.setFrames_setFrames] at e1
  have h2 : (T.setVm s.vm).sameButNew (S.setVm s.vm) [] k n := ⟨e1, e2⟩
  have h3 := X.same.trans h2
  rw [List.append_nil] at h3
  exact h3
/-- from the machine's note that E is thrown here with this text -/
def vx_Note (p : Program) (l : Launch) (e : Env) (R : Room) (s : State) (m : MethodId) (args : Array Value) (below : List Frame) (meth : Method) (c : Code) (H : Heap) (locs : List Loc) (cells slots : Nat) (Q : State → Prop) (g : JFrame) (E text : String) : Prop :=
  ∀ T : State, T.heap = H → Stand p l e R s m args below meth c T locs cells slots → ∃ t, Steps p.tables e below ((T.setTop g).pushFrame (.throwNew E (some text) none)) t ∧ Q t
theorem vx_vm {pc : Nat} {ls : Array Slot} {rest : List Value} {Q : State → Prop} (hexec : p.tables.exec = Jvm.exec) (hl : l.stackTraces = false) {cls text : String} {names : List String} {nb : Nat} {A : Nat → Prop}
    (hcls : Bundle.fit cls = true) (hnames : ∀ n ∈ names, Bundle.fit n = true) (hsoe : (cls == "java/lang/StackOverflowError") = false) (hoom : (cls == "java/lang/OutOfMemoryError") = false)
    (hat : ∀ w ∈ vx_atM cls names, w.before args s = true) (hgood : ∀ w ∈ vx_atM cls names, vx_ot w = true)
    (hU : vx_Zq Bundle.tN "UNASSIGNED_STACK" Bundle.steD A s s.heap) (hN : vx_Zq Bundle.tN "SUPPRESSED_SENTINEL" Bundle.listD A s s.heap) (hS : va_S A s.heap H locs) (hsize : ls.size = c.maxLocals)
    (htext : (text == notModelled) = false) (hnb : (stringBytes (stringToUtf16 text)).size ≤ nb) (hnb1 : nb ≤ 1000)
    (hRframes : names.length + 4 < R.frames) (hRlocals : (rest.map fun v => v.category).sum + 10240 ≤ R.locals) (hshort : 13 * names.length + 55 ≤ 10240) (hRcells : cells + 3 ≤ R.cells) (hRslots : slots + (nb + 10) ≤ R.slots) (hlocks : meth.locks = false)
    (k : ∀ (H1 : Heap) (q9 : Addr) (ce : Cell), H.size ≤ H1.size → (∀ q : Nat, q < H.size → H1[q]? = H[q]?) → va_S A s.heap H1 locs → H1[q9]? = some ce → ce.vm = .none → s.vm.findClass cls = some ce.cls → vx_W p l e R s m args below meth c H1 locs (cells + 3) (slots + (nb + 10)) Q (F0 m pc ls rest) q9) :
    vx_Note p l e R s m args below meth c H locs cells slots Q (F0 m pc ls rest) cls text := by
  intro T hT X
  have htr : e.platform.stackTraces = false := (show e.platform.stackTraces = l.stackTraces by rw [X.admits.platform]).trans hl
  have Y := vx_rebase X (R' := { frames := R.frames, locals := R.locals, cells := 3, slots := nb + 10 }) (Nat.le_refl _) (Nat.le_refl _) hRcells hRslots
  have hhp : ((T.setVm s.vm).setFrames (.invoking m args :: below)).heap = H := hT
  have hW0 : s.WarmedH ((T.setVm s.vm).setFrames (.invoking m args :: below)).vm := State.WarmedH.refl s
  have hat' : ∀ w ∈ vx_atM cls names, w.before args ((T.setVm s.vm).setFrames (.invoking m args :: below)) = true := fun w hw => vx_ot_at hW0 rfl (hgood w hw) (hat w hw)
  have hU' : vx_Zq Bundle.tN "UNASSIGNED_STACK" Bundle.steD A ((T.setVm s.vm).setFrames (.invoking m args :: below)) ((T.setVm s.vm).setFrames (.invoking m args :: below)).heap := by rw [hhp]; exact vx_Zq.moved hW0.alike (hU.kept hS.2.1)
  have hN' : vx_Zq Bundle.tN "SUPPRESSED_SENTINEL" Bundle.listD A ((T.setVm s.vm).setFrames (.invoking m args :: below)) ((T.setVm s.vm).setFrames (.invoking m args :: below)).heap := by rw [hhp]; exact vx_Zq.moved hW0.alike (hN.kept hS.2.1)
  obtain ⟨S, q, ce, st, Z, hce, hcl', hv⟩ := vx_vmAt Y hexec htr (cls := cls) (names := names) (text := text) hcls hnames hsoe hoom (vx_own hat' (vx_isRefq hU'.1) (vx_isRefq hN'.1) hU'.2.word hN'.2.word) (fun x hx => nomatch hx) htext
    (by rw [Launch.admits_arrayLengthLimit X.admits]; omega) (by rw [Launch.admits_maxHeapBytes X.admits]; simp only [componentBytes]; omega)
    (g := F0 m pc ls rest) rfl hsize hRframes (by show 2 * 0 + (rest.map fun v => v.category).sum + 10240 ≤ R.locals; omega) hshort (by show 0 + 3 ≤ 3; omega) (by show 0 + (_ + 4 + 6) ≤ nb + 10; omega) hlocks
  obtain ⟨f1, f2⟩ := vx_frame Z.same
  have f1' : H.size ≤ S.heap.size := by rw [← hT]; exact f1
  have f2' : ∀ q : Nat, q < H.size → S.heap[q]? = H[q]? := fun q hq => by
    rw [← hT]
    exact f2 q (by rw [← hT] at hq; exact hq) (fun z hz => nomatch hz)
  have X5 := vx_back9 X Y Z
  have X6 : Stand p l e R s m args below meth c S locs (cells + 3) (slots + (nb + 10)) := { X5 with same := X5.same.mono (by omega) (by omega) }
  obtain ⟨t, a1, b1⟩ := k S.heap q ce f1' f2' ⟨Nat.le_trans hS.1 f1', fun q h1 h2 => (f2' q (Nat.lt_of_lt_of_le h1 hS.1)).trans (hS.2.1 q h1 h2), hS.2.2⟩ hce hv hcl' S rfl X6
  exact ⟨t, st t a1, b1⟩
/-- from the machine's note that NullPointerException is thrown here -/
def vx_NoteN (p : Program) (l : Launch) (e : Env) (R : Room) (s : State) (m : MethodId) (args : Array Value) (below : List Frame) (meth : Method) (c : Code) (H : Heap) (locs : List Loc) (cells slots : Nat) (Q : State → Prop) (g : JFrame) : Prop :=
  ∀ T : State, T.heap = H → Stand p l e R s m args below meth c T locs cells slots → ∃ t, Steps p.tables e below ((T.setTop g).pushFrame (.throwNew "java/lang/NullPointerException" none none)) t ∧ Q t
theorem vx_npe {pc : Nat} {ls : Array Slot} {rest : List Value} {Q : State → Prop} (hexec : p.tables.exec = Jvm.exec) (hl : l.stackTraces = false) {nb : Nat} {A : Nat → Prop}
    (hat : ∀ w ∈ vx_atN nb, w.before args s = true) (hgood : ∀ w ∈ vx_atN nb, vx_ot w = true)
    (hU : vx_Zq Bundle.tN "UNASSIGNED_STACK" Bundle.steD A s s.heap) (hN : vx_Zq Bundle.tN "SUPPRESSED_SENTINEL" Bundle.listD A s s.heap) (hS : va_S A s.heap H locs) (hsize : ls.size = c.maxLocals)
    (hRframes : 7 < R.frames) (hRlocals : (rest.map fun v => v.category).sum + 10240 ≤ R.locals) (hRcells : cells + 1 ≤ R.cells) (hRslots : slots + nb ≤ R.slots) (hlocks : meth.locks = false)
    (k : ∀ (H1 : Heap) (q9 : Addr) (ce : Cell), H.size ≤ H1.size → (∀ q : Nat, q < H.size → H1[q]? = H[q]?) → va_S A s.heap H1 locs → H1[q9]? = some ce → ce.vm = .none → s.vm.findClass "java/lang/NullPointerException" = some ce.cls → vx_W p l e R s m args below meth c H1 locs (cells + 1) (slots + nb) Q (F0 m pc ls rest) q9) :
    vx_NoteN p l e R s m args below meth c H locs cells slots Q (F0 m pc ls rest) := by
  intro T hT X
  have htr : e.platform.stackTraces = false := (show e.platform.stackTraces = l.stackTraces by rw [X.admits.platform]).trans hl
  have Y := vx_rebase X (R' := { frames := R.frames, locals := R.locals, cells := 1, slots := nb }) (Nat.le_refl _) (Nat.le_refl _) hRcells hRslots
  have hhp : ((T.setVm s.vm).setFrames (.invoking m args :: below)).heap = H := hT
  have hW0 : s.WarmedH ((T.setVm s.vm).setFrames (.invoking m args :: below)).vm := State.WarmedH.refl s
  have hat' : ∀ w ∈ vx_atN nb, w.before args ((T.setVm s.vm).setFrames (.invoking m args :: below)) = true := fun w hw => vx_ot_at hW0 rfl (hgood w hw) (hat w hw)
  have hU' : vx_Zq Bundle.tN "UNASSIGNED_STACK" Bundle.steD A ((T.setVm s.vm).setFrames (.invoking m args :: below)) ((T.setVm s.vm).setFrames (.invoking m args :: below)).heap := by rw [hhp]; exact vx_Zq.moved hW0.alike (hU.kept hS.2.1)
  have hN' : vx_Zq Bundle.tN "SUPPRESSED_SENTINEL" Bundle.listD A ((T.setVm s.vm).setFrames (.invoking m args :: below)) ((T.setVm s.vm).setFrames (.invoking m args :: below)).heap := by rw [hhp]; exact vx_Zq.moved hW0.alike (hN.kept hS.2.1)
  obtain ⟨S, q, ce, st, Z, hce, hcl', hv⟩ := vx_npeAt Y hexec htr (n := nb) (vx_own hat' (vx_isRefq hU'.1) (vx_isRefq hN'.1) hU'.2.word hN'.2.word) (fun x hx => nomatch hx)
    (g := F0 m pc ls rest) rfl hsize hRframes (by show 2 * 0 + (rest.map fun v => v.category).sum + 10240 ≤ R.locals; omega) (by show 0 + 1 ≤ 1; omega) (by show 0 + nb ≤ nb; omega) hlocks
  obtain ⟨f1, f2⟩ := vx_frame Z.same
  have f1' : H.size ≤ S.heap.size := by rw [← hT]; exact f1
  have f2' : ∀ q : Nat, q < H.size → S.heap[q]? = H[q]? := fun q hq => by
    rw [← hT]
    exact f2 q (by rw [← hT] at hq; exact hq) (fun z hz => nomatch hz)
  have X5 := vx_back9 X Y Z
  have X6 : Stand p l e R s m args below meth c S locs (cells + 1) (slots + nb) := { X5 with same := X5.same.mono (by omega) (by omega) }
  obtain ⟨t, a1, b1⟩ := k S.heap q ce f1' f2' ⟨Nat.le_trans hS.1 f1', fun q h1 h2 => (f2' q (Nat.lt_of_lt_of_le h1 hS.1)).trans (hS.2.1 q h1 h2), hS.2.2⟩ hce hv hcl' S rfl X6
  exact ⟨t, st t a1, b1⟩
variable {Q : State → Prop} {cc : ByteArray} {pc : Nat} {ls : Array Slot} {rest : List Value}
theorem vx_idivZ (hexec : p.tables.exec = Jvm.exec) (hb : c.code = cc) {a b : Int32} (h0 : b = 0) (d : decode cc pc = .ok (.idiv, 1)) (k : vx_Note p l e R s m args below meth c H locs cells slots Q (F0 m pc ls rest) "java/lang/ArithmeticException" "/ by zero") :
    W p l e R s m args below meth c H locs cells slots Q (F0 m pc ls (.int b :: .int a :: rest)) := by
  intro T hT X
  obtain ⟨t, st, q⟩ := k T hT X
  exact ⟨t, X.idivZero hexec (g := F0 m pc ls (.int b :: .int a :: rest)) rfl (a := a) (rest := rest) (by rw [h0]) (by rw [hb]; exact d) t st, q⟩
theorem vx_iremZ (hexec : p.tables.exec = Jvm.exec) (hb : c.code = cc) {a b : Int32} (h0 : b = 0) (d : decode cc pc = .ok (.irem, 1)) (k : vx_Note p l e R s m args below meth c H locs cells slots Q (F0 m pc ls rest) "java/lang/ArithmeticException" "/ by zero") :
    W p l e R s m args below meth c H locs cells slots Q (F0 m pc ls (.int b :: .int a :: rest)) := by
  intro T hT X
  obtain ⟨t, st, q⟩ := k T hT X
  exact ⟨t, X.iremZero hexec (g := F0 m pc ls (.int b :: .int a :: rest)) rfl (a := a) (rest := rest) (by rw [h0]) (by rw [hb]; exact d) t st, q⟩
theorem vx_ldivZ (hexec : p.tables.exec = Jvm.exec) (hb : c.code = cc) {a b : Int64} (h0 : b = 0) (d : decode cc pc = .ok (.ldiv, 1)) (k : vx_Note p l e R s m args below meth c H locs cells slots Q (F0 m pc ls rest) "java/lang/ArithmeticException" "/ by zero") :
    W p l e R s m args below meth c H locs cells slots Q (F0 m pc ls (.long b :: .long a :: rest)) := by
  intro T hT X
  obtain ⟨t, st, q⟩ := k T hT X
  exact ⟨t, X.ldivZero hexec (g := F0 m pc ls (.long b :: .long a :: rest)) rfl (a := a) (rest := rest) (by rw [h0]) (by rw [hb]; exact d) t st, q⟩
theorem vx_lremZ (hexec : p.tables.exec = Jvm.exec) (hb : c.code = cc) {a b : Int64} (h0 : b = 0) (d : decode cc pc = .ok (.lrem, 1)) (k : vx_Note p l e R s m args below meth c H locs cells slots Q (F0 m pc ls rest) "java/lang/ArithmeticException" "/ by zero") :
    W p l e R s m args below meth c H locs cells slots Q (F0 m pc ls (.long b :: .long a :: rest)) := by
  intro T hT X
  obtain ⟨t, st, q⟩ := k T hT X
  exact ⟨t, X.lremZero hexec (g := F0 m pc ls (.long b :: .long a :: rest)) rfl (a := a) (rest := rest) (by rw [h0]) (by rw [hb]; exact d) t st, q⟩
theorem vx_ialdZ {D : va_G} {cl : List vw_C} {ws : va_W} {tys : List (ClassId × FieldType)} {a : Nat} (hexec : p.tables.exec = Jvm.exec) (hb : c.code = cc) (hK : va_K D cl tys s) (hP : va_P D cl ws H) (q0 t0 : Nat) {cA : ClassId} {n : Nat} {f : Nat → Int32} (ha : ws[q0]? = some (a, .inl (cA, n, .inl f))) (ht : tys[t0]? = some (cA, .int)) {i : Int32} (hout : ¬ vp_in i n) (hdg : decode cc pc = .ok (.iaload, 1))
    (k : ∀ tx : String, tx = (toString "Index " ++ toString i ++ toString " out of bounds for length " ++ toString n : String) → vx_Note p l e R s m args below meth c H locs cells slots Q (F0 m pc ls rest) "java/lang/ArrayIndexOutOfBoundsException" tx) : W p l e R s m args below meth c H locs cells slots Q (F0 m pc ls (.int i :: .ref a :: rest)) := by
  intro T hT X
  obtain ⟨t, st, q⟩ := k _ rfl T hT X
  refine ⟨t, ?_, q⟩
  have h1 := X.ialoadOut hexec (by rw [hT]; exact hP q0 _ ha) ((hK.2 t0 _ ht).1 n (fun j => .int (f j))) (j := i) (by show (i < 0 ∨ (arrV _ _ _).slots.size ≤ _); rw [arrV_size]; exact Classical.byContradiction hout) (g := F0 m pc ls (.int i :: .ref a :: rest)) rfl (rest := rest) rfl (by rw [hb]; exact hdg) t
  simp only [arrV_size] at h1
  exact h1 st
theorem vx_iastZ {D : va_G} {cl : List vw_C} {ws : va_W} {tys : List (ClassId × FieldType)} {a : Nat} (hexec : p.tables.exec = Jvm.exec) (hb : c.code = cc) (hK : va_K D cl tys s) (hP : va_P D cl ws H) (q0 t0 : Nat) {cA : ClassId} {n : Nat} {f : Nat → Int32} (ha : ws[q0]? = some (a, .inl (cA, n, .inl f))) (ht : tys[t0]? = some (cA, .int)) {i : Int32} {x : Int32} (hout : ¬ vp_in i n) (hdg : decode cc pc = .ok (.iastore, 1))
    (k : ∀ tx : String, tx = (toString "Index " ++ toString i ++ toString " out of bounds for length " ++ toString n : String) → vx_Note p l e R s m args below meth c H locs cells slots Q (F0 m pc ls rest) "java/lang/ArrayIndexOutOfBoundsException" tx) : W p l e R s m args below meth c H locs cells slots Q (F0 m pc ls (.int x :: .int i :: .ref a :: rest)) := by
  intro T hT X
  obtain ⟨t, st, q⟩ := k _ rfl T hT X
  refine ⟨t, ?_, q⟩
  have h1 := X.iastoreOut hexec (by rw [hT]; exact hP q0 _ ha) ((hK.2 t0 _ ht).1 n (fun j => .int (f j))) (j := i) (by show (i < 0 ∨ (arrV _ _ _).slots.size ≤ _); rw [arrV_size]; exact Classical.byContradiction hout) (g := F0 m pc ls (.int x :: .int i :: .ref a :: rest)) rfl (rest := rest) rfl (by rw [hb]; exact hdg) t
  simp only [arrV_size] at h1
  exact h1 st
theorem vx_baldZ {D : va_G} {cl : List vw_C} {ws : va_W} {tys : List (ClassId × FieldType)} {a : Nat} (hexec : p.tables.exec = Jvm.exec) (hb : c.code = cc) (hK : va_K D cl tys s) (hP : va_P D cl ws H) (q0 t0 : Nat) {cA : ClassId} {n : Nat} {f : Nat → Int32} (ha : ws[q0]? = some (a, .inl (cA, n, .inl f))) (ht : tys[t0]? = some (cA, .byte)) {i : Int32} (hout : ¬ vp_in i n) (hdg : decode cc pc = .ok (.baload, 1))
    (k : ∀ tx : String, tx = (toString "Index " ++ toString i ++ toString " out of bounds for length " ++ toString n : String) → vx_Note p l e R s m args below meth c H locs cells slots Q (F0 m pc ls rest) "java/lang/ArrayIndexOutOfBoundsException" tx) : W p l e R s m args below meth c H locs cells slots Q (F0 m pc ls (.int i :: .ref a :: rest)) := by
  intro T hT X
  obtain ⟨t, st, q⟩ := k _ rfl T hT X
  refine ⟨t, ?_, q⟩
  have h1 := X.baloadOut hexec (by rw [hT]; exact hP q0 _ ha) ((hK.2 t0 _ ht).1 n (fun j => .int (f j))) (j := i) (by show (i < 0 ∨ (arrV _ _ _).slots.size ≤ _); rw [arrV_size]; exact Classical.byContradiction hout) (g := F0 m pc ls (.int i :: .ref a :: rest)) rfl (rest := rest) rfl (by rw [hb]; exact hdg) t
  simp only [arrV_size] at h1
  exact h1 st
theorem vx_bastZ {D : va_G} {cl : List vw_C} {ws : va_W} {tys : List (ClassId × FieldType)} {a : Nat} (hexec : p.tables.exec = Jvm.exec) (hb : c.code = cc) (hK : va_K D cl tys s) (hP : va_P D cl ws H) (q0 t0 : Nat) {cA : ClassId} {n : Nat} {f : Nat → Int32} (ha : ws[q0]? = some (a, .inl (cA, n, .inl f))) (ht : tys[t0]? = some (cA, .byte)) {i : Int32} {x : Int32} (hout : ¬ vp_in i n) (hdg : decode cc pc = .ok (.bastore, 1))
    (k : ∀ tx : String, tx = (toString "Index " ++ toString i ++ toString " out of bounds for length " ++ toString n : String) → vx_Note p l e R s m args below meth c H locs cells slots Q (F0 m pc ls rest) "java/lang/ArrayIndexOutOfBoundsException" tx) : W p l e R s m args below meth c H locs cells slots Q (F0 m pc ls (.int x :: .int i :: .ref a :: rest)) := by
  intro T hT X
  obtain ⟨t, st, q⟩ := k _ rfl T hT X
  refine ⟨t, ?_, q⟩
  have h1 := X.bastoreOut hexec (by rw [hT]; exact hP q0 _ ha) ((hK.2 t0 _ ht).1 n (fun j => .int (f j))) (j := i) (by show (i < 0 ∨ (arrV _ _ _).slots.size ≤ _); rw [arrV_size]; exact Classical.byContradiction hout) (g := F0 m pc ls (.int x :: .int i :: .ref a :: rest)) rfl (rest := rest) rfl (by rw [hb]; exact hdg) t
  simp only [arrV_size] at h1
  exact h1 st
theorem vx_zaldZ {D : va_G} {cl : List vw_C} {ws : va_W} {tys : List (ClassId × FieldType)} {a : Nat} (hexec : p.tables.exec = Jvm.exec) (hb : c.code = cc) (hK : va_K D cl tys s) (hP : va_P D cl ws H) (q0 t0 : Nat) {cA : ClassId} {n : Nat} {f : Nat → Int32} (ha : ws[q0]? = some (a, .inl (cA, n, .inl f))) (ht : tys[t0]? = some (cA, .boolean)) {i : Int32} (hout : ¬ vp_in i n) (hdg : decode cc pc = .ok (.baload, 1))
    (k : ∀ tx : String, tx = (toString "Index " ++ toString i ++ toString " out of bounds for length " ++ toString n : String) → vx_Note p l e R s m args below meth c H locs cells slots Q (F0 m pc ls rest) "java/lang/ArrayIndexOutOfBoundsException" tx) : W p l e R s m args below meth c H locs cells slots Q (F0 m pc ls (.int i :: .ref a :: rest)) := by
  intro T hT X
  obtain ⟨t, st, q⟩ := k _ rfl T hT X
  refine ⟨t, ?_, q⟩
  have h1 := X.baloadOut hexec (by rw [hT]; exact hP q0 _ ha) ((hK.2 t0 _ ht).1 n (fun j => .int (f j))) (j := i) (by show (i < 0 ∨ (arrV _ _ _).slots.size ≤ _); rw [arrV_size]; exact Classical.byContradiction hout) (g := F0 m pc ls (.int i :: .ref a :: rest)) rfl (rest := rest) rfl (by rw [hb]; exact hdg) t
  simp only [arrV_size] at h1
  exact h1 st
theorem vx_zastZ {D : va_G} {cl : List vw_C} {ws : va_W} {tys : List (ClassId × FieldType)} {a : Nat} (hexec : p.tables.exec = Jvm.exec) (hb : c.code = cc) (hK : va_K D cl tys s) (hP : va_P D cl ws H) (q0 t0 : Nat) {cA : ClassId} {n : Nat} {f : Nat → Int32} (ha : ws[q0]? = some (a, .inl (cA, n, .inl f))) (ht : tys[t0]? = some (cA, .boolean)) {i : Int32} {x : Int32} (hout : ¬ vp_in i n) (hdg : decode cc pc = .ok (.bastore, 1))
    (k : ∀ tx : String, tx = (toString "Index " ++ toString i ++ toString " out of bounds for length " ++ toString n : String) → vx_Note p l e R s m args below meth c H locs cells slots Q (F0 m pc ls rest) "java/lang/ArrayIndexOutOfBoundsException" tx) : W p l e R s m args below meth c H locs cells slots Q (F0 m pc ls (.int x :: .int i :: .ref a :: rest)) := by
  intro T hT X
  obtain ⟨t, st, q⟩ := k _ rfl T hT X
  refine ⟨t, ?_, q⟩
  have h1 := X.bastoreOut hexec (by rw [hT]; exact hP q0 _ ha) ((hK.2 t0 _ ht).1 n (fun j => .int (f j))) (j := i) (by show (i < 0 ∨ (arrV _ _ _).slots.size ≤ _); rw [arrV_size]; exact Classical.byContradiction hout) (g := F0 m pc ls (.int x :: .int i :: .ref a :: rest)) rfl (rest := rest) rfl (by rw [hb]; exact hdg) t
  simp only [arrV_size] at h1
  exact h1 st
theorem vx_caldZ {D : va_G} {cl : List vw_C} {ws : va_W} {tys : List (ClassId × FieldType)} {a : Nat} (hexec : p.tables.exec = Jvm.exec) (hb : c.code = cc) (hK : va_K D cl tys s) (hP : va_P D cl ws H) (q0 t0 : Nat) {cA : ClassId} {n : Nat} {f : Nat → Int32} (ha : ws[q0]? = some (a, .inl (cA, n, .inl f))) (ht : tys[t0]? = some (cA, .char)) {i : Int32} (hout : ¬ vp_in i n) (hdg : decode cc pc = .ok (.caload, 1))
    (k : ∀ tx : String, tx = (toString "Index " ++ toString i ++ toString " out of bounds for length " ++ toString n : String) → vx_Note p l e R s m args below meth c H locs cells slots Q (F0 m pc ls rest) "java/lang/ArrayIndexOutOfBoundsException" tx) : W p l e R s m args below meth c H locs cells slots Q (F0 m pc ls (.int i :: .ref a :: rest)) := by
  intro T hT X
  obtain ⟨t, st, q⟩ := k _ rfl T hT X
  refine ⟨t, ?_, q⟩
  have h1 := X.caloadOut hexec (by rw [hT]; exact hP q0 _ ha) ((hK.2 t0 _ ht).1 n (fun j => .int (f j))) (j := i) (by show (i < 0 ∨ (arrV _ _ _).slots.size ≤ _); rw [arrV_size]; exact Classical.byContradiction hout) (g := F0 m pc ls (.int i :: .ref a :: rest)) rfl (rest := rest) rfl (by rw [hb]; exact hdg) t
  simp only [arrV_size] at h1
  exact h1 st
theorem vx_castZ {D : va_G} {cl : List vw_C} {ws : va_W} {tys : List (ClassId × FieldType)} {a : Nat} (hexec : p.tables.exec = Jvm.exec) (hb : c.code = cc) (hK : va_K D cl tys s) (hP : va_P D cl ws H) (q0 t0 : Nat) {cA : ClassId} {n : Nat} {f : Nat → Int32} (ha : ws[q0]? = some (a, .inl (cA, n, .inl f))) (ht : tys[t0]? = some (cA, .char)) {i : Int32} {x : Int32} (hout : ¬ vp_in i n) (hdg : decode cc pc = .ok (.castore, 1))
    (k : ∀ tx : String, tx = (toString "Index " ++ toString i ++ toString " out of bounds for length " ++ toString n : String) → vx_Note p l e R s m args below meth c H locs cells slots Q (F0 m pc ls rest) "java/lang/ArrayIndexOutOfBoundsException" tx) : W p l e R s m args below meth c H locs cells slots Q (F0 m pc ls (.int x :: .int i :: .ref a :: rest)) := by
  intro T hT X
  obtain ⟨t, st, q⟩ := k _ rfl T hT X
  refine ⟨t, ?_, q⟩
  have h1 := X.castoreOut hexec (by rw [hT]; exact hP q0 _ ha) ((hK.2 t0 _ ht).1 n (fun j => .int (f j))) (j := i) (by show (i < 0 ∨ (arrV _ _ _).slots.size ≤ _); rw [arrV_size]; exact Classical.byContradiction hout) (g := F0 m pc ls (.int x :: .int i :: .ref a :: rest)) rfl (rest := rest) rfl (by rw [hb]; exact hdg) t
  simp only [arrV_size] at h1
  exact h1 st
theorem vx_saldZ {D : va_G} {cl : List vw_C} {ws : va_W} {tys : List (ClassId × FieldType)} {a : Nat} (hexec : p.tables.exec = Jvm.exec) (hb : c.code = cc) (hK : va_K D cl tys s) (hP : va_P D cl ws H) (q0 t0 : Nat) {cA : ClassId} {n : Nat} {f : Nat → Int32} (ha : ws[q0]? = some (a, .inl (cA, n, .inl f))) (ht : tys[t0]? = some (cA, .short)) {i : Int32} (hout : ¬ vp_in i n) (hdg : decode cc pc = .ok (.saload, 1))
    (k : ∀ tx : String, tx = (toString "Index " ++ toString i ++ toString " out of bounds for length " ++ toString n : String) → vx_Note p l e R s m args below meth c H locs cells slots Q (F0 m pc ls rest) "java/lang/ArrayIndexOutOfBoundsException" tx) : W p l e R s m args below meth c H locs cells slots Q (F0 m pc ls (.int i :: .ref a :: rest)) := by
  intro T hT X
  obtain ⟨t, st, q⟩ := k _ rfl T hT X
  refine ⟨t, ?_, q⟩
  have h1 := X.saloadOut hexec (by rw [hT]; exact hP q0 _ ha) ((hK.2 t0 _ ht).1 n (fun j => .int (f j))) (j := i) (by show (i < 0 ∨ (arrV _ _ _).slots.size ≤ _); rw [arrV_size]; exact Classical.byContradiction hout) (g := F0 m pc ls (.int i :: .ref a :: rest)) rfl (rest := rest) rfl (by rw [hb]; exact hdg) t
  simp only [arrV_size] at h1
  exact h1 st
theorem vx_sastZ {D : va_G} {cl : List vw_C} {ws : va_W} {tys : List (ClassId × FieldType)} {a : Nat} (hexec : p.tables.exec = Jvm.exec) (hb : c.code = cc) (hK : va_K D cl tys s) (hP : va_P D cl ws H) (q0 t0 : Nat) {cA : ClassId} {n : Nat} {f : Nat → Int32} (ha : ws[q0]? = some (a, .inl (cA, n, .inl f))) (ht : tys[t0]? = some (cA, .short)) {i : Int32} {x : Int32} (hout : ¬ vp_in i n) (hdg : decode cc pc = .ok (.sastore, 1))
    (k : ∀ tx : String, tx = (toString "Index " ++ toString i ++ toString " out of bounds for length " ++ toString n : String) → vx_Note p l e R s m args below meth c H locs cells slots Q (F0 m pc ls rest) "java/lang/ArrayIndexOutOfBoundsException" tx) : W p l e R s m args below meth c H locs cells slots Q (F0 m pc ls (.int x :: .int i :: .ref a :: rest)) := by
  intro T hT X
  obtain ⟨t, st, q⟩ := k _ rfl T hT X
  refine ⟨t, ?_, q⟩
  have h1 := X.sastoreOut hexec (by rw [hT]; exact hP q0 _ ha) ((hK.2 t0 _ ht).1 n (fun j => .int (f j))) (j := i) (by show (i < 0 ∨ (arrV _ _ _).slots.size ≤ _); rw [arrV_size]; exact Classical.byContradiction hout) (g := F0 m pc ls (.int x :: .int i :: .ref a :: rest)) rfl (rest := rest) rfl (by rw [hb]; exact hdg) t
  simp only [arrV_size] at h1
  exact h1 st
theorem vx_laldZ {D : va_G} {cl : List vw_C} {ws : va_W} {tys : List (ClassId × FieldType)} {a : Nat} (hexec : p.tables.exec = Jvm.exec) (hb : c.code = cc) (hK : va_K D cl tys s) (hP : va_P D cl ws H) (q0 t0 : Nat) {cA : ClassId} {n : Nat} {f : Nat → Int64} (ha : ws[q0]? = some (a, .inl (cA, n, .inr (.inl f)))) (ht : tys[t0]? = some (cA, .long)) {i : Int32} (hout : ¬ vp_in i n) (hdg : decode cc pc = .ok (.laload, 1))
    (k : ∀ tx : String, tx = (toString "Index " ++ toString i ++ toString " out of bounds for length " ++ toString n : String) → vx_Note p l e R s m args below meth c H locs cells slots Q (F0 m pc ls rest) "java/lang/ArrayIndexOutOfBoundsException" tx) : W p l e R s m args below meth c H locs cells slots Q (F0 m pc ls (.int i :: .ref a :: rest)) := by
  intro T hT X
  obtain ⟨t, st, q⟩ := k _ rfl T hT X
  refine ⟨t, ?_, q⟩
  have h1 := X.laloadOut hexec (by rw [hT]; exact hP q0 _ ha) ((hK.2 t0 _ ht).1 n (fun j => .long (f j))) (j := i) (by show (i < 0 ∨ (arrV _ _ _).slots.size ≤ _); rw [arrV_size]; exact Classical.byContradiction hout) (g := F0 m pc ls (.int i :: .ref a :: rest)) rfl (rest := rest) rfl (by rw [hb]; exact hdg) t
  simp only [arrV_size] at h1
  exact h1 st
theorem vx_lastZ {D : va_G} {cl : List vw_C} {ws : va_W} {tys : List (ClassId × FieldType)} {a : Nat} (hexec : p.tables.exec = Jvm.exec) (hb : c.code = cc) (hK : va_K D cl tys s) (hP : va_P D cl ws H) (q0 t0 : Nat) {cA : ClassId} {n : Nat} {f : Nat → Int64} (ha : ws[q0]? = some (a, .inl (cA, n, .inr (.inl f)))) (ht : tys[t0]? = some (cA, .long)) {i : Int32} {x : Int64} (hout : ¬ vp_in i n) (hdg : decode cc pc = .ok (.lastore, 1))
    (k : ∀ tx : String, tx = (toString "Index " ++ toString i ++ toString " out of bounds for length " ++ toString n : String) → vx_Note p l e R s m args below meth c H locs cells slots Q (F0 m pc ls rest) "java/lang/ArrayIndexOutOfBoundsException" tx) : W p l e R s m args below meth c H locs cells slots Q (F0 m pc ls (.long x :: .int i :: .ref a :: rest)) := by
  intro T hT X
  obtain ⟨t, st, q⟩ := k _ rfl T hT X
  refine ⟨t, ?_, q⟩
  have h1 := X.lastoreOut hexec (by rw [hT]; exact hP q0 _ ha) ((hK.2 t0 _ ht).1 n (fun j => .long (f j))) (j := i) (by show (i < 0 ∨ (arrV _ _ _).slots.size ≤ _); rw [arrV_size]; exact Classical.byContradiction hout) (g := F0 m pc ls (.long x :: .int i :: .ref a :: rest)) rfl (rest := rest) rfl (by rw [hb]; exact hdg) t
  simp only [arrV_size] at h1
  exact h1 st
theorem vx_faldZ {D : va_G} {cl : List vw_C} {ws : va_W} {tys : List (ClassId × FieldType)} {a : Nat} (hexec : p.tables.exec = Jvm.exec) (hb : c.code = cc) (hK : va_K D cl tys s) (hP : va_P D cl ws H) (q0 t0 : Nat) {cA : ClassId} {n : Nat} {f : Nat → UInt32} (ha : ws[q0]? = some (a, .inl (cA, n, .inr (.inr (.inl f))))) (ht : tys[t0]? = some (cA, .float)) {i : Int32} (hout : ¬ vp_in i n) (hdg : decode cc pc = .ok (.faload, 1))
    (k : ∀ tx : String, tx = (toString "Index " ++ toString i ++ toString " out of bounds for length " ++ toString n : String) → vx_Note p l e R s m args below meth c H locs cells slots Q (F0 m pc ls rest) "java/lang/ArrayIndexOutOfBoundsException" tx) : W p l e R s m args below meth c H locs cells slots Q (F0 m pc ls (.int i :: .ref a :: rest)) := by
  intro T hT X
  obtain ⟨t, st, q⟩ := k _ rfl T hT X
  refine ⟨t, ?_, q⟩
  have h1 := X.faloadOut hexec (by rw [hT]; exact hP q0 _ ha) ((hK.2 t0 _ ht).1 n (fun j => .float (f j))) (j := i) (by show (i < 0 ∨ (arrV _ _ _).slots.size ≤ _); rw [arrV_size]; exact Classical.byContradiction hout) (g := F0 m pc ls (.int i :: .ref a :: rest)) rfl (rest := rest) rfl (by rw [hb]; exact hdg) t
  simp only [arrV_size] at h1
  exact h1 st
theorem vx_fastZ {D : va_G} {cl : List vw_C} {ws : va_W} {tys : List (ClassId × FieldType)} {a : Nat} (hexec : p.tables.exec = Jvm.exec) (hb : c.code = cc) (hK : va_K D cl tys s) (hP : va_P D cl ws H) (q0 t0 : Nat) {cA : ClassId} {n : Nat} {f : Nat → UInt32} (ha : ws[q0]? = some (a, .inl (cA, n, .inr (.inr (.inl f))))) (ht : tys[t0]? = some (cA, .float)) {i : Int32} {x : UInt32} (hout : ¬ vp_in i n) (hdg : decode cc pc = .ok (.fastore, 1))
    (k : ∀ tx : String, tx = (toString "Index " ++ toString i ++ toString " out of bounds for length " ++ toString n : String) → vx_Note p l e R s m args below meth c H locs cells slots Q (F0 m pc ls rest) "java/lang/ArrayIndexOutOfBoundsException" tx) : W p l e R s m args below meth c H locs cells slots Q (F0 m pc ls (.float x :: .int i :: .ref a :: rest)) := by
  intro T hT X
  obtain ⟨t, st, q⟩ := k _ rfl T hT X
  refine ⟨t, ?_, q⟩
  have h1 := X.fastoreOut hexec (by rw [hT]; exact hP q0 _ ha) ((hK.2 t0 _ ht).1 n (fun j => .float (f j))) (j := i) (by show (i < 0 ∨ (arrV _ _ _).slots.size ≤ _); rw [arrV_size]; exact Classical.byContradiction hout) (g := F0 m pc ls (.float x :: .int i :: .ref a :: rest)) rfl (rest := rest) rfl (by rw [hb]; exact hdg) t
  simp only [arrV_size] at h1
  exact h1 st
theorem vx_daldZ {D : va_G} {cl : List vw_C} {ws : va_W} {tys : List (ClassId × FieldType)} {a : Nat} (hexec : p.tables.exec = Jvm.exec) (hb : c.code = cc) (hK : va_K D cl tys s) (hP : va_P D cl ws H) (q0 t0 : Nat) {cA : ClassId} {n : Nat} {f : Nat → UInt64} (ha : ws[q0]? = some (a, .inl (cA, n, .inr (.inr (.inr (.inl f)))))) (ht : tys[t0]? = some (cA, .double)) {i : Int32} (hout : ¬ vp_in i n) (hdg : decode cc pc = .ok (.daload, 1))
    (k : ∀ tx : String, tx = (toString "Index " ++ toString i ++ toString " out of bounds for length " ++ toString n : String) → vx_Note p l e R s m args below meth c H locs cells slots Q (F0 m pc ls rest) "java/lang/ArrayIndexOutOfBoundsException" tx) : W p l e R s m args below meth c H locs cells slots Q (F0 m pc ls (.int i :: .ref a :: rest)) := by
  intro T hT X
  obtain ⟨t, st, q⟩ := k _ rfl T hT X
  refine ⟨t, ?_, q⟩
  have h1 := X.daloadOut hexec (by rw [hT]; exact hP q0 _ ha) ((hK.2 t0 _ ht).1 n (fun j => .double (f j))) (j := i) (by show (i < 0 ∨ (arrV _ _ _).slots.size ≤ _); rw [arrV_size]; exact Classical.byContradiction hout) (g := F0 m pc ls (.int i :: .ref a :: rest)) rfl (rest := rest) rfl (by rw [hb]; exact hdg) t
  simp only [arrV_size] at h1
  exact h1 st
theorem vx_dastZ {D : va_G} {cl : List vw_C} {ws : va_W} {tys : List (ClassId × FieldType)} {a : Nat} (hexec : p.tables.exec = Jvm.exec) (hb : c.code = cc) (hK : va_K D cl tys s) (hP : va_P D cl ws H) (q0 t0 : Nat) {cA : ClassId} {n : Nat} {f : Nat → UInt64} (ha : ws[q0]? = some (a, .inl (cA, n, .inr (.inr (.inr (.inl f)))))) (ht : tys[t0]? = some (cA, .double)) {i : Int32} {x : UInt64} (hout : ¬ vp_in i n) (hdg : decode cc pc = .ok (.dastore, 1))
    (k : ∀ tx : String, tx = (toString "Index " ++ toString i ++ toString " out of bounds for length " ++ toString n : String) → vx_Note p l e R s m args below meth c H locs cells slots Q (F0 m pc ls rest) "java/lang/ArrayIndexOutOfBoundsException" tx) : W p l e R s m args below meth c H locs cells slots Q (F0 m pc ls (.double x :: .int i :: .ref a :: rest)) := by
  intro T hT X
  obtain ⟨t, st, q⟩ := k _ rfl T hT X
  refine ⟨t, ?_, q⟩
  have h1 := X.dastoreOut hexec (by rw [hT]; exact hP q0 _ ha) ((hK.2 t0 _ ht).1 n (fun j => .double (f j))) (j := i) (by show (i < 0 ∨ (arrV _ _ _).slots.size ≤ _); rw [arrV_size]; exact Classical.byContradiction hout) (g := F0 m pc ls (.double x :: .int i :: .ref a :: rest)) rfl (rest := rest) rfl (by rw [hb]; exact hdg) t
  simp only [arrV_size] at h1
  exact h1 st
theorem vx_arraylengthN (hexec : p.tables.exec = Jvm.exec) (hb : c.code = cc) (hdg : decode cc pc = .ok (.arraylength, 1)) (k : vx_NoteN p l e R s m args below meth c H locs cells slots Q (F0 m pc ls rest)) : W p l e R s m args below meth c H locs cells slots Q (F0 m pc ls (.null :: rest)) := by
  intro T hT X
  obtain ⟨t, st, q⟩ := k T hT X
  exact ⟨t, X.arraylengthNull hexec (g := F0 m pc ls (.null :: rest)) rfl (rest := rest) rfl (by rw [hb]; exact hdg) t st, q⟩
theorem vx_ialoadN (hexec : p.tables.exec = Jvm.exec) (hb : c.code = cc) {i : Int32} (hdg : decode cc pc = .ok (.iaload, 1)) (k : vx_NoteN p l e R s m args below meth c H locs cells slots Q (F0 m pc ls rest)) : W p l e R s m args below meth c H locs cells slots Q (F0 m pc ls (.int i :: .null :: rest)) := by
  intro T hT X
  obtain ⟨t, st, q⟩ := k T hT X
  exact ⟨t, X.ialoadNull hexec (g := F0 m pc ls (.int i :: .null :: rest)) rfl (rest := rest) rfl (by rw [hb]; exact hdg) t st, q⟩
theorem vx_laloadN (hexec : p.tables.exec = Jvm.exec) (hb : c.code = cc) {i : Int32} (hdg : decode cc pc = .ok (.laload, 1)) (k : vx_NoteN p l e R s m args below meth c H locs cells slots Q (F0 m pc ls rest)) : W p l e R s m args below meth c H locs cells slots Q (F0 m pc ls (.int i :: .null :: rest)) := by
  intro T hT X
  obtain ⟨t, st, q⟩ := k T hT X
  exact ⟨t, X.laloadNull hexec (g := F0 m pc ls (.int i :: .null :: rest)) rfl (rest := rest) rfl (by rw [hb]; exact hdg) t st, q⟩
theorem vx_faloadN (hexec : p.tables.exec = Jvm.exec) (hb : c.code = cc) {i : Int32} (hdg : decode cc pc = .ok (.faload, 1)) (k : vx_NoteN p l e R s m args below meth c H locs cells slots Q (F0 m pc ls rest)) : W p l e R s m args below meth c H locs cells slots Q (F0 m pc ls (.int i :: .null :: rest)) := by
  intro T hT X
  obtain ⟨t, st, q⟩ := k T hT X
  exact ⟨t, X.faloadNull hexec (g := F0 m pc ls (.int i :: .null :: rest)) rfl (rest := rest) rfl (by rw [hb]; exact hdg) t st, q⟩
theorem vx_daloadN (hexec : p.tables.exec = Jvm.exec) (hb : c.code = cc) {i : Int32} (hdg : decode cc pc = .ok (.daload, 1)) (k : vx_NoteN p l e R s m args below meth c H locs cells slots Q (F0 m pc ls rest)) : W p l e R s m args below meth c H locs cells slots Q (F0 m pc ls (.int i :: .null :: rest)) := by
  intro T hT X
  obtain ⟨t, st, q⟩ := k T hT X
  exact ⟨t, X.daloadNull hexec (g := F0 m pc ls (.int i :: .null :: rest)) rfl (rest := rest) rfl (by rw [hb]; exact hdg) t st, q⟩
theorem vx_aaloadN (hexec : p.tables.exec = Jvm.exec) (hb : c.code = cc) {i : Int32} (hdg : decode cc pc = .ok (.aaload, 1)) (k : vx_NoteN p l e R s m args below meth c H locs cells slots Q (F0 m pc ls rest)) : W p l e R s m args below meth c H locs cells slots Q (F0 m pc ls (.int i :: .null :: rest)) := by
  intro T hT X
  obtain ⟨t, st, q⟩ := k T hT X
  exact ⟨t, X.aaloadNull hexec (g := F0 m pc ls (.int i :: .null :: rest)) rfl (rest := rest) rfl (by rw [hb]; exact hdg) t st, q⟩
theorem vx_baloadN (hexec : p.tables.exec = Jvm.exec) (hb : c.code = cc) {i : Int32} (hdg : decode cc pc = .ok (.baload, 1)) (k : vx_NoteN p l e R s m args below meth c H locs cells slots Q (F0 m pc ls rest)) : W p l e R s m args below meth c H locs cells slots Q (F0 m pc ls (.int i :: .null :: rest)) := by
  intro T hT X
  obtain ⟨t, st, q⟩ := k T hT X
  exact ⟨t, X.baloadNull hexec (g := F0 m pc ls (.int i :: .null :: rest)) rfl (rest := rest) rfl (by rw [hb]; exact hdg) t st, q⟩
theorem vx_caloadN (hexec : p.tables.exec = Jvm.exec) (hb : c.code = cc) {i : Int32} (hdg : decode cc pc = .ok (.caload, 1)) (k : vx_NoteN p l e R s m args below meth c H locs cells slots Q (F0 m pc ls rest)) : W p l e R s m args below meth c H locs cells slots Q (F0 m pc ls (.int i :: .null :: rest)) := by
  intro T hT X
  obtain ⟨t, st, q⟩ := k T hT X
  exact ⟨t, X.caloadNull hexec (g := F0 m pc ls (.int i :: .null :: rest)) rfl (rest := rest) rfl (by rw [hb]; exact hdg) t st, q⟩
theorem vx_saloadN (hexec : p.tables.exec = Jvm.exec) (hb : c.code = cc) {i : Int32} (hdg : decode cc pc = .ok (.saload, 1)) (k : vx_NoteN p l e R s m args below meth c H locs cells slots Q (F0 m pc ls rest)) : W p l e R s m args below meth c H locs cells slots Q (F0 m pc ls (.int i :: .null :: rest)) := by
  intro T hT X
  obtain ⟨t, st, q⟩ := k T hT X
  exact ⟨t, X.saloadNull hexec (g := F0 m pc ls (.int i :: .null :: rest)) rfl (rest := rest) rfl (by rw [hb]; exact hdg) t st, q⟩
theorem vx_iastoreN (hexec : p.tables.exec = Jvm.exec) (hb : c.code = cc) {x : Int32} {i : Int32} (hdg : decode cc pc = .ok (.iastore, 1)) (k : vx_NoteN p l e R s m args below meth c H locs cells slots Q (F0 m pc ls rest)) : W p l e R s m args below meth c H locs cells slots Q (F0 m pc ls (.int x :: .int i :: .null :: rest)) := by
  intro T hT X
  obtain ⟨t, st, q⟩ := k T hT X
  exact ⟨t, X.iastoreNull hexec (g := F0 m pc ls (.int x :: .int i :: .null :: rest)) rfl (rest := rest) rfl (by rw [hb]; exact hdg) t st, q⟩
theorem vx_lastoreN (hexec : p.tables.exec = Jvm.exec) (hb : c.code = cc) {x : Int64} {i : Int32} (hdg : decode cc pc = .ok (.lastore, 1)) (k : vx_NoteN p l e R s m args below meth c H locs cells slots Q (F0 m pc ls rest)) : W p l e R s m args below meth c H locs cells slots Q (F0 m pc ls (.long x :: .int i :: .null :: rest)) := by
  intro T hT X
  obtain ⟨t, st, q⟩ := k T hT X
  exact ⟨t, X.lastoreNull hexec (g := F0 m pc ls (.long x :: .int i :: .null :: rest)) rfl (rest := rest) rfl (by rw [hb]; exact hdg) t st, q⟩
theorem vx_fastoreN (hexec : p.tables.exec = Jvm.exec) (hb : c.code = cc) {x : UInt32} {i : Int32} (hdg : decode cc pc = .ok (.fastore, 1)) (k : vx_NoteN p l e R s m args below meth c H locs cells slots Q (F0 m pc ls rest)) : W p l e R s m args below meth c H locs cells slots Q (F0 m pc ls (.float x :: .int i :: .null :: rest)) := by
  intro T hT X
  obtain ⟨t, st, q⟩ := k T hT X
  exact ⟨t, X.fastoreNull hexec (g := F0 m pc ls (.float x :: .int i :: .null :: rest)) rfl (rest := rest) rfl (by rw [hb]; exact hdg) t st, q⟩
theorem vx_dastoreN (hexec : p.tables.exec = Jvm.exec) (hb : c.code = cc) {x : UInt64} {i : Int32} (hdg : decode cc pc = .ok (.dastore, 1)) (k : vx_NoteN p l e R s m args below meth c H locs cells slots Q (F0 m pc ls rest)) : W p l e R s m args below meth c H locs cells slots Q (F0 m pc ls (.double x :: .int i :: .null :: rest)) := by
  intro T hT X
  obtain ⟨t, st, q⟩ := k T hT X
  exact ⟨t, X.dastoreNull hexec (g := F0 m pc ls (.double x :: .int i :: .null :: rest)) rfl (rest := rest) rfl (by rw [hb]; exact hdg) t st, q⟩
theorem vx_bastoreN (hexec : p.tables.exec = Jvm.exec) (hb : c.code = cc) {x : Int32} {i : Int32} (hdg : decode cc pc = .ok (.bastore, 1)) (k : vx_NoteN p l e R s m args below meth c H locs cells slots Q (F0 m pc ls rest)) : W p l e R s m args below meth c H locs cells slots Q (F0 m pc ls (.int x :: .int i :: .null :: rest)) := by
  intro T hT X
  obtain ⟨t, st, q⟩ := k T hT X
  exact ⟨t, X.bastoreNull hexec (g := F0 m pc ls (.int x :: .int i :: .null :: rest)) rfl (rest := rest) rfl (by rw [hb]; exact hdg) t st, q⟩
theorem vx_castoreN (hexec : p.tables.exec = Jvm.exec) (hb : c.code = cc) {x : Int32} {i : Int32} (hdg : decode cc pc = .ok (.castore, 1)) (k : vx_NoteN p l e R s m args below meth c H locs cells slots Q (F0 m pc ls rest)) : W p l e R s m args below meth c H locs cells slots Q (F0 m pc ls (.int x :: .int i :: .null :: rest)) := by
  intro T hT X
  obtain ⟨t, st, q⟩ := k T hT X
  exact ⟨t, X.castoreNull hexec (g := F0 m pc ls (.int x :: .int i :: .null :: rest)) rfl (rest := rest) rfl (by rw [hb]; exact hdg) t st, q⟩
theorem vx_sastoreN (hexec : p.tables.exec = Jvm.exec) (hb : c.code = cc) {x : Int32} {i : Int32} (hdg : decode cc pc = .ok (.sastore, 1)) (k : vx_NoteN p l e R s m args below meth c H locs cells slots Q (F0 m pc ls rest)) : W p l e R s m args below meth c H locs cells slots Q (F0 m pc ls (.int x :: .int i :: .null :: rest)) := by
  intro T hT X
  obtain ⟨t, st, q⟩ := k T hT X
  exact ⟨t, X.sastoreNull hexec (g := F0 m pc ls (.int x :: .int i :: .null :: rest)) rfl (rest := rest) rfl (by rw [hb]; exact hdg) t st, q⟩
theorem vx_invokeN {own C : String} {index maxL : Nat} {y : MethodName} {bytes : ByteArray} {ret : Option FieldType} (hexec : p.tables.exec = Jvm.exec) (hb : c.code = cc) (hown : s.vm.findClass own = some m.cls) (hlink : (Cond.methodLink own index y).before args s = true) (hinst : (Cond.instanceMethod y).before args s = true) (hcode : (Cond.code y bytes maxL ret).before args s = true) (hsel : (Cond.selects C y y).before args s = true)
    (hx : y.cls ≠ "java/lang/invoke/MethodHandle" ∧ y.cls ≠ "java/lang/invoke/VarHandle") {As : List Value} (hlen : (parseMethodDescriptor y.desc).map (fun d => d.parameters.length) = some As.length) (hdg : decode cc pc = .ok (.invokevirtual index, 3))
    (k : vx_NoteN p l e R s m args below meth c H locs cells slots Q (F0 m pc ls rest)) {st0 : List Value} (hst : st0 = As.reverse ++ .null :: rest) : W p l e R s m args below meth c H locs cells slots Q (F0 m pc ls st0) := by
  intro T hT X
  obtain ⟨r0, r, hn, hrm, hstR, hsigR⟩ := va_Decl.of hinst hcode
  obtain ⟨c2, r2, m2, q1, q2, q3, q4, kP, hkP, hkPi⟩ := Cond.selects_spec hsel
  cases hn.symm.trans q3
  have hl9 : As.length = r.sig.parameters.length := by
    rw [hsigR] at hlen
    exact (Option.some.inj hlen).symm
  obtain ⟨vm', X1, st1⟩ := X.invokevirtualNull hexec hown hlink hn hrm hstR hkP hkPi hx (g := F0 m pc ls st0) rfl (argsL := As) (rest := rest) hl9 hst (by rw [hb]; exact hdg)
  obtain ⟨t, st, q⟩ := k (T.setVm vm') hT X1
  exact ⟨t, st1 t st, q⟩
theorem vx_newarrayZ {atype : ArrayType} (hexec : p.tables.exec = Jvm.exec) (hb : c.code = cc) {n : Int32} (h0 : n < 0) (hdg : decode cc pc = .ok (.newarray atype, 2)) (k : ∀ tx : String, tx = toString n → vx_Note p l e R s m args below meth c H locs cells slots Q (F0 m pc ls rest) "java/lang/NegativeArraySizeException" tx) : W p l e R s m args below meth c H locs cells slots Q (F0 m pc ls (.int n :: rest)) := by
  intro T hT X
  obtain ⟨t, st, q⟩ := k _ rfl T hT X
  exact ⟨t, X.newarrayNegative hexec (g := F0 m pc ls (.int n :: rest)) rfl h0 (rest := rest) rfl (by rw [hb]; exact hdg) t st, q⟩
end
end VXM
/-! ===== END ===== -/
/-! ===== BEGIN an exception as an object: made, kept, thrown later (no traces kept) ===== -/
section VXK
variable {p : Program} {l : Launch} {e : Env} {R : Room} {s : State} {m₀ : MethodId} {args : Array Value} {below : List Frame} {meth : Method} {c : Code} {W : State} {locs : List Loc} {cells slots : Nat}
set_option maxHeartbeats 1000000 in
theorem vx_ctorMadeS (X : Stand p l e R s m₀ args below meth c W locs cells slots) (hexec : p.tables.exec = Jvm.exec) (htr : e.platform.stackTraces = false) {own cls : String} {names : List String} {ic : Nat}
    (hown : s.vm.findClass own = some m₀.cls) (hcls : Bundle.fit cls = true) (hnames : ∀ n ∈ names, Bundle.fit n = true)
    (h : ∀ a ∈ Bundle.ownAtoms own ic cls names, a.before args s = true)
    (hlocs : ∀ x ∈ locs, ∀ cell, s.heap[x.base]? = some cell → cell.vm.isStatics = false)
    {a : Addr} {cX : ClassId} {kX : Class} (hfoundX : s.vm.findClass cls = some cX) (hkX : s.vm.classes[cX]? = some kX) (hcell : W.heap[a]? = some (freshCell cX kX)) (hnew : s.heap.size ≤ a)
    {msg : Value} (hmsg : msg.isRef = true)
    {g : JFrame} (hg : g.method = m₀) (hsize : g.locals.size = c.maxLocals) {rest : List Value} (hstack : g.stack = msg :: .ref a :: .ref a :: rest)
    (hd6 : decode c.code g.pc = .ok (.invokespecial ic, 3))
    (hRframes : names.length + 3 < R.frames) (hRlocals : 2 * g.monitorRoom + ((Value.ref a :: rest).map fun v => v.category).sum + (13 * (names.length + 1) + 42) ≤ R.locals) :
    ∃ (V : State) (ce : Cell) (L : List Loc), Stand p l e R s m₀ args below meth c (V.setCell a ce) (locs ++ L) cells slots ∧ (∀ y ∈ L, y.base = a) ∧ a < V.heap.size ∧ ce.cls = cX ∧ ce.vm = .none ∧
      ∀ target, Steps p.tables e below ((V.setCell a ce).setTop { g with stack := .ref a :: rest, pc := g.pc + 3 }) target → Steps p.tables e below (W.setTop g) target := by
  have howns : e.platform.frameOwnsMonitors = true := by rw [X.admits.platform]
  have hfin : e.platform.finalization = false := by rw [X.admits.platform]
  have hpl : e.platform.magicAccessors = ({} : Platform).magicAccessors := by rw [X.admits.platform]
  have a' : ∀ x, x ∈ Bundle.ownAtoms own ic cls names → x.holds args s none s [] = true := fun x hx => h x hx
  obtain ⟨T, Z0, L, -, Y⟩ := ThrowableC.of_atoms (args := args) howns hfin hpl (fun x hx => h x (by simp [Bundle.ownAtoms, hx]))
  obtain ⟨Z, M, LZ, LM, hnZ⟩ := Init0T.ofS_atoms (args := args) hpl L Y (fun x hx => h x (by simp [Bundle.ownAtoms, hx]))
  obtain ⟨P1, Ps, hlen, L1, hL, hP1m, hlink1, hlink⟩ := Bundle.chainS (args := args) hpl hnZ names cls hcls hnames (fun x hx => h x (by simp [Bundle.ownAtoms, hx]))
  have hfound : s.vm.findClass cls = some P1.m.cls := findClass_of_methodNamed hP1m
  cases Option.some.inj (hfoundX.symm.trans hfound)
  obtain ⟨c1, kX', hc1, hk, hord, -, -, hn6⟩ := Cond.instantiable_spec (a' (.instantiable cls 6) (by simp [Bundle.ownAtoms]))
  cases Option.some.inj (hc1.symm.trans hfound)
  cases Option.some.inj (hkX.symm.trans hk)
  have hsel0 : selectMethod e.platform s.vm P1.m.cls T.fill0 = .method T.fill0 := by
    obtain ⟨c2, r2, m2, q1, q2, q3, q4, -⟩ := Cond.selects_spec (a' (.selects cls Bundle.tFill0 Bundle.tFill0) (by simp [Bundle.ownAtoms]))
    cases Option.some.inj (q1.symm.trans hfound)
    cases Option.some.inj (q2.symm.trans (State.methodFound?_of_named Y.fill0 (by decide)))
    cases Option.some.inj (q3.symm.trans Y.fill0)
    rw [Launch.admits_selectMethod X.admits]; exact q4
  have hselF : selectMethod e.platform s.vm P1.m.cls T.fill = .method T.fill := by
    obtain ⟨c2, r2, m2, q1, q2, q3, q4, -⟩ := Cond.selects_spec (a' (.selects cls Bundle.tFill Bundle.tFill) (by simp [Bundle.ownAtoms]))
    cases Option.some.inj (q1.symm.trans hfound)
    cases Option.some.inj (q2.symm.trans (State.methodFound?_of_named Y.fill (by decide)))
    cases Option.some.inj (q3.symm.trans Y.fill)
    rw [Launch.admits_selectMethod X.admits]; exact q4
  obtain ⟨cellS0, hcS0, hiss⟩ := Y.statics
  obtain ⟨u0, hu0⟩ := Cond.staticRefV Y.unassigned L.unassignedStatic L.statics hcS0 hiss (a' (.isRef (.static Bundle.tN "UNASSIGNED_STACK" Bundle.steD)) (by simp [Bundle.ownAtoms]))
  obtain ⟨sen, hsen⟩ := Cond.staticRefV Y.sentinel L.sentinelStatic L.statics hcS0 hiss (a' (.isRef (.static Bundle.tN "SUPPRESSED_SENTINEL" Bundle.listD)) (by simp [Bundle.ownAtoms]))
  obtain ⟨ci198, i198, fB, hk198, hg198, ha198, hsB, -, hnB, htB, hffB⟩ := Cond.ownField (t := .object "java/lang/Object") Y.found L.cls (by decide +kernel) (a' (.fieldLink Bundle.tN 198 Bundle.tN "backtrace" "Ljava/lang/Object;") (by simp [Bundle.ownAtoms])) (a' (.lays Bundle.tN Bundle.tN "backtrace" "Ljava/lang/Object;") (by simp [Bundle.ownAtoms])) e.platform hpl
  obtain ⟨cellS, hcS', heS, -, hkeep⟩ := X.same.2.2.2.2.2 T.aS cellS0 hcS0
  have hcellS : W.heap[T.aS]? = some cellS := hcS'
  have hout' : ∀ i, (⟨T.aS, i⟩ : Loc) ∉ locs := fun i hmem => by
    have := hlocs _ hmem cellS0 hcS0
    rw [hiss] at this; cases this
  have hknownS : cellS.vm ≠ .unknown := by
    rw [heS]; intro hu
    rw [show cellS0.vm = .unknown from hu] at hiss
    cases hiss
  have hneS : T.aS ≠ a := Nat.ne_of_lt (Nat.lt_of_lt_of_le (Array.getElem?_eq_some_iff.mp hcS0).1 hnew)
  obtain ⟨iM, hffM⟩ := Y.msg
  obtain ⟨tyC, dC, hdC, hdnC⟩ := Cond.laysAt hfound hk Y.cause (a' (.lays cls Bundle.tN "cause" "Ljava/lang/Throwable;") (by simp [Bundle.ownAtoms]))
  obtain ⟨tyS, dS, hdS, hdnS⟩ := Cond.laysAt hfound hk Y.stack (a' (.lays cls Bundle.tN "stackTrace" Bundle.steD) (by simp [Bundle.ownAtoms]))
  obtain ⟨tyP, dP, hdP, hdnP⟩ := Cond.laysAt hfound hk Y.supp (a' (.lays cls Bundle.tN "suppressedExceptions" Bundle.listD) (by simp [Bundle.ownAtoms]))
  obtain ⟨tyM, dM, hdM, hdnM⟩ := Cond.laysAt hfound hk hffM (a' (.lays cls Bundle.tN "detailMessage" "Ljava/lang/String;") (by simp [Bundle.ownAtoms]))
  obtain ⟨tyB, dB, hdB, hdnB⟩ := Cond.laysAt hfound hk hffB (a' (.lays cls Bundle.tN "backtrace" "Ljava/lang/Object;") (by simp [Bundle.ownAtoms]))
  have bC := Cond.laysApart hdB hdC hdnB hdnC (by rw [hnB, Y.causeName]; decide)
  have bS := Cond.laysApart hdB hdS hdnB hdnS (by rw [hnB, Y.stackName]; decide)
  have bP := Cond.laysApart hdB hdP hdnB hdnP (by rw [hnB, Y.suppName]; decide)
  have hskip : SkipFacts T e.platform s (fun u => u) u0 ((preparedCellV T.toThrowableT (freshCell P1.m.cls kX) a u0 sen).withEntry W.cur) :=
    ⟨{ ci198 := ci198, i198 := i198, fBack := fB }, ⟨hk198, hg198, ha198, hsB⟩, by
      have := fresh_default (c := P1.m.cls) tyB
      rw [htB] at this
      simpa [preparedCellV, Cell.setSlot, Cell.withEntry, Array.getElem?_setIfInBounds, bC, bS, bP, bC.symm, bS.symm, bP.symm, defaultValue] using this, fun _ _ => rfl⟩
  obtain ⟨tm, methC, cdC, kC, vm₁, hnC, -, -, -, -, -, -, -, hW₁, st1⟩ := Steps.initColdS (tb := p.tables) (e := e) (below := below) (s := s) (U := W) X.here hexec X.warmed hpl hown (t := Bundle.initS cls) rfl rfl (Bundle.fit_spec hcls).2
    (a' (.methodLink own ic (Bundle.initS cls)) (by simp [Bundle.ownAtoms])) (h (.instanceMethod (Bundle.initS cls)) (by cases names <;> simp [Bundle.ownAtoms, Bundle.chainSAtoms, Bundle.passSAtoms])) (bytes := Bundle.six) (maxL := 2) (h (.code (Bundle.initS cls) Bundle.six 2 none) (by cases names <;> simp [Bundle.ownAtoms, Bundle.chainSAtoms, Bundle.passSAtoms]))
    (f := g) hg (a := a) (msg := msg) (rest := .ref a :: rest) hstack hd6
  cases Option.some.inj (hnC.symm.trans hP1m)
  have X₁ := X.noted hW₁
  obtain ⟨vm₂, X₂, st2⟩ := X₁.ctorMessageOffV hexec (g := { g with stack := .ref a :: rest }) hg hsize T L Z LZ M LM (P1 :: Ps)
    (fun P hP => by rcases List.mem_cons.mp hP with rfl | hP; exact L1; exact hL P hP) ⟨hlink1, hlink⟩ (u0 := u0) (sen := sen) (self := a) hmsg (cell := freshCell P1.m.cls kX) (cellS := cellS)
    hcell (fun _ => by simp) (by simp) rfl rfl hsel0 hselF hcellS hneS hknownS (by rw [hkeep _ (hout' _)]; exact hu0) (by rw [hkeep _ (hout' _)]; exact hsen)
    (Takes.of_laid hk hord tyC (by rw [Y.causeType]; rfl)) (Takes.of_laid hk hord tyS (by rw [Y.stackType]; exact fits_refV_array _ u0)) (Takes.of_laid hk hord tyP (by rw [Y.suppType]; exact fits_refV_object _ sen))
    (Takes.of_laid hk hord tyM (by rw [Y.msgType]; exact fits_refV_object _ ⟨msg, hmsg⟩)) Y.objLocals hskip htr [] hd6
    (by simp only [List.length_cons, hlen]; omega) (by simp only [List.length_cons, hlen]; exact hRlocals)
  have hlt : a < ((W.setVm vm₁).setVm vm₂).heap.size := (Array.getElem?_eq_some_iff.mp hcell).1
  refine ⟨(W.setVm vm₁).setVm vm₂, _, _, X₂, fun y hy => ?_, hlt, rfl, rfl, fun target hwalk => st1 _ (fun acts => ?_)⟩
  · simp only [List.mem_cons, List.not_mem_nil, or_false] at hy
    rcases hy with rfl | rfl | rfl | rfl | rfl <;> rfl
  · rw [doInvoke_state]
    exact st2 _ hwalk
set_option maxHeartbeats 1000000 in
theorem vx_ctorMade0 (X : Stand p l e R s m₀ args below meth c W locs cells slots) (hexec : p.tables.exec = Jvm.exec) (htr : e.platform.stackTraces = false) {own cls : String} {names : List String} {ic : Nat}
    (hown : s.vm.findClass own = some m₀.cls) (hcls : Bundle.fit cls = true) (hnames : ∀ n ∈ names, Bundle.fit n = true)
    (h : ∀ a ∈ Bundle.ownAtoms0 own ic cls names, a.before args s = true)
    (hlocs : ∀ x ∈ locs, ∀ cell, s.heap[x.base]? = some cell → cell.vm.isStatics = false)
    {a : Addr} {cX : ClassId} {kX : Class} (hfoundX : s.vm.findClass cls = some cX) (hkX : s.vm.classes[cX]? = some kX) (hcell : W.heap[a]? = some (freshCell cX kX)) (hnew : s.heap.size ≤ a)
    {g : JFrame} (hg : g.method = m₀) (hsize : g.locals.size = c.maxLocals) {rest : List Value} (hstack : g.stack = .ref a :: .ref a :: rest)
    (hd6 : decode c.code g.pc = .ok (.invokespecial ic, 3))
    (hRframes : names.length + 3 < R.frames) (hRlocals : 2 * g.monitorRoom + ((Value.ref a :: rest).map fun v => v.category).sum + (13 * (names.length + 1) + 41) ≤ R.locals) :
    ∃ (V : State) (ce : Cell) (L : List Loc), Stand p l e R s m₀ args below meth c (V.setCell a ce) (locs ++ L) cells slots ∧ (∀ y ∈ L, y.base = a) ∧ a < V.heap.size ∧ ce.cls = cX ∧ ce.vm = .none ∧
      ∀ target, Steps p.tables e below ((V.setCell a ce).setTop { g with stack := .ref a :: rest, pc := g.pc + 3 }) target → Steps p.tables e below (W.setTop g) target := by
  have howns : e.platform.frameOwnsMonitors = true := by rw [X.admits.platform]
  have hfin : e.platform.finalization = false := by rw [X.admits.platform]
  have hpl : e.platform.magicAccessors = ({} : Platform).magicAccessors := by rw [X.admits.platform]
  have a' : ∀ x, x ∈ Bundle.ownAtoms0 own ic cls names → x.holds args s none s [] = true := fun x hx => h x hx
  obtain ⟨T, Z, L, LZ, Y⟩ := ThrowableC.of_atoms (args := args) howns hfin hpl (fun x hx => h x (by simp [Bundle.ownAtoms0, hx]))
  obtain ⟨P1, Ps, hlen, L1, hL, hP1m, hlink1, hlink⟩ := Bundle.chain0 (args := args) hpl Y.init0 names cls hcls hnames (fun x hx => h x (by simp [Bundle.ownAtoms0, hx]))
  have hfound : s.vm.findClass cls = some P1.m.cls := findClass_of_methodNamed hP1m
  cases Option.some.inj (hfoundX.symm.trans hfound)
  obtain ⟨c1, kX', hc1, hk, hord, -, -, hn6⟩ := Cond.instantiable_spec (a' (.instantiable cls 6) (by simp [Bundle.ownAtoms0]))
  cases Option.some.inj (hc1.symm.trans hfound)
  cases Option.some.inj (hkX.symm.trans hk)
  have hsel0 : selectMethod e.platform s.vm P1.m.cls T.fill0 = .method T.fill0 := by
    obtain ⟨c2, r2, m2, q1, q2, q3, q4, -⟩ := Cond.selects_spec (a' (.selects cls Bundle.tFill0 Bundle.tFill0) (by simp [Bundle.ownAtoms0]))
    cases Option.some.inj (q1.symm.trans hfound)
    cases Option.some.inj (q2.symm.trans (State.methodFound?_of_named Y.fill0 (by decide)))
    cases Option.some.inj (q3.symm.trans Y.fill0)
    rw [Launch.admits_selectMethod X.admits]; exact q4
  have hselF : selectMethod e.platform s.vm P1.m.cls T.fill = .method T.fill := by
    obtain ⟨c2, r2, m2, q1, q2, q3, q4, -⟩ := Cond.selects_spec (a' (.selects cls Bundle.tFill Bundle.tFill) (by simp [Bundle.ownAtoms0]))
    cases Option.some.inj (q1.symm.trans hfound)
    cases Option.some.inj (q2.symm.trans (State.methodFound?_of_named Y.fill (by decide)))
    cases Option.some.inj (q3.symm.trans Y.fill)
    rw [Launch.admits_selectMethod X.admits]; exact q4
  obtain ⟨cellS0, hcS0, hiss⟩ := Y.statics
  obtain ⟨u0, hu0⟩ := Cond.staticRefV Y.unassigned L.unassignedStatic L.statics hcS0 hiss (a' (.isRef (.static Bundle.tN "UNASSIGNED_STACK" Bundle.steD)) (by simp [Bundle.ownAtoms0]))
  obtain ⟨sen, hsen⟩ := Cond.staticRefV Y.sentinel L.sentinelStatic L.statics hcS0 hiss (a' (.isRef (.static Bundle.tN "SUPPRESSED_SENTINEL" Bundle.listD)) (by simp [Bundle.ownAtoms0]))
  obtain ⟨ci198, i198, fB, hk198, hg198, ha198, hsB, -, hnB, htB, hffB⟩ := Cond.ownField (t := .object "java/lang/Object") Y.found L.cls (by decide +kernel) (a' (.fieldLink Bundle.tN 198 Bundle.tN "backtrace" "Ljava/lang/Object;") (by simp [Bundle.ownAtoms0])) (a' (.lays Bundle.tN Bundle.tN "backtrace" "Ljava/lang/Object;") (by simp [Bundle.ownAtoms0])) e.platform hpl
  obtain ⟨cellS, hcS', heS, -, hkeep⟩ := X.same.2.2.2.2.2 T.aS cellS0 hcS0
  have hcellS : W.heap[T.aS]? = some cellS := hcS'
  have hout' : ∀ i, (⟨T.aS, i⟩ : Loc) ∉ locs := fun i hmem => by
    have := hlocs _ hmem cellS0 hcS0
    rw [hiss] at this; cases this
  have hknownS : cellS.vm ≠ .unknown := by
    rw [heS]; intro hu
    rw [show cellS0.vm = .unknown from hu] at hiss
    cases hiss
  have hneS : T.aS ≠ a := Nat.ne_of_lt (Nat.lt_of_lt_of_le (Array.getElem?_eq_some_iff.mp hcS0).1 hnew)
  obtain ⟨iM, hffM⟩ := Y.msg
  obtain ⟨tyC, dC, hdC, hdnC⟩ := Cond.laysAt hfound hk Y.cause (a' (.lays cls Bundle.tN "cause" "Ljava/lang/Throwable;") (by simp [Bundle.ownAtoms0]))
  obtain ⟨tyS, dS, hdS, hdnS⟩ := Cond.laysAt hfound hk Y.stack (a' (.lays cls Bundle.tN "stackTrace" Bundle.steD) (by simp [Bundle.ownAtoms0]))
  obtain ⟨tyP, dP, hdP, hdnP⟩ := Cond.laysAt hfound hk Y.supp (a' (.lays cls Bundle.tN "suppressedExceptions" Bundle.listD) (by simp [Bundle.ownAtoms0]))
  obtain ⟨tyM, dM, hdM, hdnM⟩ := Cond.laysAt hfound hk hffM (a' (.lays cls Bundle.tN "detailMessage" "Ljava/lang/String;") (by simp [Bundle.ownAtoms0]))
  obtain ⟨tyB, dB, hdB, hdnB⟩ := Cond.laysAt hfound hk hffB (a' (.lays cls Bundle.tN "backtrace" "Ljava/lang/Object;") (by simp [Bundle.ownAtoms0]))
  have bC := Cond.laysApart hdB hdC hdnB hdnC (by rw [hnB, Y.causeName]; decide)
  have bS := Cond.laysApart hdB hdS hdnB hdnS (by rw [hnB, Y.stackName]; decide)
  have bP := Cond.laysApart hdB hdP hdnB hdnP (by rw [hnB, Y.suppName]; decide)
  have hskip : SkipFacts T e.platform s (fun u => u) u0 ((preparedCellV T.toThrowableT (freshCell P1.m.cls kX) a u0 sen).withEntry W.cur) :=
    ⟨{ ci198 := ci198, i198 := i198, fBack := fB }, ⟨hk198, hg198, ha198, hsB⟩, by
      have := fresh_default (c := P1.m.cls) tyB
      rw [htB] at this
      simpa [preparedCellV, Cell.setSlot, Cell.withEntry, Array.getElem?_setIfInBounds, bC, bS, bP, bC.symm, bS.symm, bP.symm, defaultValue] using this, fun _ _ => rfl⟩
  obtain ⟨tm, methC, cdC, kC, vm₁, hnC, -, -, -, -, -, -, -, hW₁, st1⟩ := Steps.initCold (tb := p.tables) (e := e) (below := below) (s := s) (U := W) X.here hexec X.warmed hpl hown (t := Bundle.init0 cls) rfl rfl (Bundle.fit_spec hcls).2
    (a' (.methodLink own ic (Bundle.init0 cls)) (by simp [Bundle.ownAtoms0])) (h (.instanceMethod (Bundle.init0 cls)) (by cases names <;> simp [Bundle.ownAtoms0, Bundle.chain0Atoms, Bundle.passAtoms])) (bytes := Bundle.five) (maxL := 1) (h (.code (Bundle.init0 cls) Bundle.five 1 none) (by cases names <;> simp [Bundle.ownAtoms0, Bundle.chain0Atoms, Bundle.passAtoms]))
    (f := g) hg (a := a) (rest := .ref a :: rest) hstack hd6
  cases Option.some.inj (hnC.symm.trans hP1m)
  have X₁ := X.noted hW₁
  obtain ⟨vm₂, X₂, st2⟩ := X₁.ctorPlainOffV hexec (g := { g with stack := .ref a :: rest }) hg hsize T L Z LZ (P1 :: Ps)
    (fun P hP => by rcases List.mem_cons.mp hP with rfl | hP; exact L1; exact hL P hP) ⟨hlink1, hlink⟩ (u0 := u0) (sen := sen) (self := a) (cell := freshCell P1.m.cls kX) (cellS := cellS)
    hcell (fun _ => by simp) (by simp) rfl rfl hsel0 hselF hcellS hneS hknownS (by rw [hkeep _ (hout' _)]; exact hu0) (by rw [hkeep _ (hout' _)]; exact hsen)
    (Takes.of_laid hk hord tyC (by rw [Y.causeType]; rfl)) (Takes.of_laid hk hord tyS (by rw [Y.stackType]; exact fits_refV_array _ u0)) (Takes.of_laid hk hord tyP (by rw [Y.suppType]; exact fits_refV_object _ sen)) Y.objLocals hskip htr [] hd6
    (by simp only [List.length_cons, hlen]; omega) (by simp only [List.length_cons, hlen]; exact hRlocals)
  have hlt : a < ((W.setVm vm₁).setVm vm₂).heap.size := (Array.getElem?_eq_some_iff.mp hcell).1
  refine ⟨(W.setVm vm₁).setVm vm₂, _, _, X₂, fun y hy => ?_, hlt, rfl, rfl, fun target hwalk => st1 _ (fun acts => ?_)⟩
  · simp only [List.mem_cons, List.not_mem_nil, or_false] at hy
    rcases hy with rfl | rfl | rfl | rfl <;> rfl
  · rw [doInvoke_state]
    exact st2 _ hwalk
end VXK
section VXK2
variable {p : Program} {l : Launch} {e : Env} {R : Room} {s : State} {m : MethodId} {args : Array Value} {below : List Frame} {meth : Method} {c : Code} {H : Heap} {locs : List Loc} {cells slots : Nat} {Q : State → Prop}
variable {ls : Array Slot} {rest : List Value} {D : va_G} {cl : List vw_C} {tys : List (ClassId × FieldType)} {ws : va_W}
/-- 'new E("text")' that isn't thrown at once: the object goes on the stack -/
theorem vx_makeS {cc : ByteArray} {pc : Nat} (hexec : p.tables.exec = Jvm.exec) (hb : c.code = cc) (hl : l.stackTraces = false) {own cls text : String} {names : List String} {ik is ic sa ci : Nat} {A : Nat → Prop} {T0 : u_T}
    (hown : s.vm.findClass own = some m.cls) (hcls : Bundle.fit cls = true) (hnames : ∀ n ∈ names, Bundle.fit n = true)
    (hk : (Cond.classLink own ik cls).before args s = true) (hini : (Cond.initialized cls).before args s = true) (hstr : vk_R own is text sa s) (hat : ∀ w ∈ vx_atS own ic cls names, w.before args s = true)
    (hgood : ∀ w ∈ Cond.classLink own ik cls :: Cond.initialized cls :: vx_atS own ic cls names, vx_ot w = true)
    (hU : vx_Zq Bundle.tN "UNASSIGNED_STACK" Bundle.steD A s s.heap) (hN : vx_Zq Bundle.tN "SUPPRESSED_SENTINEL" Bundle.listD A s s.heap) (hS : va_S A s.heap H locs) (hsize : ls.size = c.maxLocals)
    (d0 : decode cc pc = .ok (.new ik, 3)) (d3 : decode cc (pc + 3) = .ok (.dup, 1)) (d4 : decode cc (pc + 4) = .ok (.ldc is, 2)) (d6 : decode cc (pc + 6) = .ok (.invokespecial ic, 3))
    (hK : va_K D cl tys s) (hP : va_P D cl ws H) (hD : va_D A ws) (hA : ∀ q, s.heap.size ≤ q → A q) (hc : cl[ci]? = some (cls, T0, 0))
    (hRframes : names.length + 3 < R.frames) (hRlocals : (rest.map fun v => v.category).sum + (13 * (names.length + 1) + 43) ≤ R.locals) (hRcells : cells + 1 ≤ R.cells) (hRslots : slots + 6 ≤ R.slots)
    (kk : ∀ (q : Nat) (H1 : Heap), va_P D cl (ws ++ [(q, .inr (ci, []))]) H1 → va_D A (ws ++ [(q, .inr (ci, []))]) → va_S A s.heap H1 locs → W p l e R s m args below meth c H1 locs (cells + 1) (slots + 6) Q (F0 m (pc + 9) ls (.ref q :: rest))) :
    W p l e R s m args below meth c H locs cells slots Q (F0 m pc ls rest) := by
  intro T hT X
  subst hT
  have htr : e.platform.stackTraces = false := (show e.platform.stackTraces = l.stackTraces by rw [X.admits.platform]).trans hl
  have Y := vx_rebase X (R' := { frames := R.frames, locals := R.locals, cells := 1, slots := 6 }) (Nat.le_refl _) (Nat.le_refl _) hRcells hRslots
  obtain ⟨s', hA'⟩ : ∃ z, z = (T.setVm s.vm).setFrames (.invoking m args :: below) := ⟨_, rfl⟩
  rw [← hA'] at Y
  have hvm : s'.vm = s.vm := by rw [hA']; rfl
  have hhp : s'.heap = T.heap := by rw [hA']; rfl
  have hW0 : s.WarmedH s'.vm := by rw [hvm]; exact State.WarmedH.refl s
  have hat' : ∀ w ∈ vx_atS own ic cls names, w.before args s' = true := fun w hw => vx_ot_at hW0 hvm.symm (hgood w (List.mem_cons_of_mem _ (List.mem_cons_of_mem _ hw))) (hat w hw)
  have hk' : (Cond.classLink own ik cls).before args s' = true := vx_ot_at hW0 hvm.symm (hgood _ List.mem_cons_self) hk
  have hini' : (Cond.initialized cls).before args s' = true := vx_ot_at hW0 hvm.symm (hgood _ (List.mem_cons_of_mem _ List.mem_cons_self)) hini
  have hU' : vx_Zq Bundle.tN "UNASSIGNED_STACK" Bundle.steD A s' s'.heap := by rw [hhp]; exact vx_Zq.moved hW0.alike (hU.kept hS.2.1)
  have hN' : vx_Zq Bundle.tN "SUPPRESSED_SENTINEL" Bundle.listD A s' s'.heap := by rw [hhp]; exact vx_Zq.moved hW0.alike (hN.kept hS.2.1)
  have h : ∀ w ∈ Bundle.ownAtoms own ic cls names, w.before args s' = true := vx_own hat' (vx_isRefq hU'.1) (vx_isRefq hN'.1) hU'.2.word hN'.2.word
  have hown' : s'.vm.findClass own = some m.cls := by rw [hvm]; exact hown
  have hins : (Cond.instantiable cls 6).before args s' = true := h _ (by simp [Bundle.ownAtoms])
  obtain ⟨vm₁, cX, kX, hfX, hkX, -, -, X₁, st1⟩ := Y.newCold hexec (own := own) (C := cls) (index := ik) (n := 6) hown' hk' hins hini'
    (g := F0 m pc ls rest) rfl (by rw [hb]; exact d0) (Nat.le_refl _) (Nat.le_refl _)
  generalize hT1 : (T.setVm vm₁).pushCell { cls := cX, slots := kX.instanceTypes.map defaultValue, vm := .none } = T1 at X₁ st1
  have hcat : (Value.ref T.heap.size).category = 1 := rfl
  have hcellA : T1.heap[T.heap.size]? = some (freshCell cX kX) := by rw [← hT1]; exact State.heap_pushCell_size _ _
  have d3' : decode c.code (pc + 3) = .ok (.dup, 1) := by rw [hb]; exact d3
  have d4' : decode c.code (pc + 4) = .ok (.ldc is, 2) := by rw [hb]; exact d4
  have hstr' : vk_R own is text sa s' := vk_R.warm hW0 hstr
  obtain ⟨V, ce, L, Z, hL, hlt, hcl9, hvm9, st⟩ := vx_ctorMadeS X₁ hexec htr (own := own) (cls := cls) (names := names) (ic := ic) hown' hcls hnames h (fun x hx => nomatch hx) hfX hkX hcellA (by rw [hhp]; exact Nat.le_refl _) (msg := .ref sa) rfl
    (g := { method := m, pc := pc + 6, locals := ls, stack := .ref sa :: .ref T.heap.size :: .ref T.heap.size :: rest, locked := none }) rfl hsize (rest := rest) rfl
    (by rw [hb]; exact d6) hRframes (by simp only [List.map_cons, List.sum_cons, hcat]; omega)
  have Z0 := Stand.forget (locs := []) Z (fun y hy => by rw [hL y hy, hhp]; exact Nat.le_refl _)
  obtain ⟨f1, f2⟩ := vx_frame Z0.same
  rw [hhp] at f1 f2
  have hcid : ce.cls = D.1 ci := by
    rw [hcl9]
    have h1 := (hK.1 ci _ hc).2.1
    rw [hvm] at hfX
    exact Option.some.inj (hfX.symm.trans h1)
  have hh : (V.setCell T.heap.size ce).heap[T.heap.size]? = some ce := heapAt_setCell_self (s := V) ce hlt
  subst hA'
  have X5 := vx_back9 X Y Z0
  have X6 : Stand p l e R s m args below meth c (V.setCell T.heap.size ce) locs (cells + 1) (slots + 6) := { X5 with same := X5.same.mono (by omega) (by omega) }
  have hk9 : ∀ (k : Nat) (x : Nat × va_E), ws[k]? = some x → (V.setCell T.heap.size ce).heap[x.1]? = T.heap[x.1]? := fun k x hx => f2 x.1 ((hP k x hx).lt) (fun z hz => nomatch hz)
  obtain ⟨t, a1, b1⟩ := kk T.heap.size (V.setCell T.heap.size ce).heap ((hP.kept hk9).app (fun k x hx => by
      have hz : k < 1 := (List.getElem?_eq_some_iff.mp hx).1
      rw [show k = 0 by omega] at hx
      cases hx
      exact ⟨_, hc, ce, hh, hcid, hvm9, fun k hk => absurd hk (Nat.not_lt_zero k)⟩)) (hD.push hP rfl (hA _ hS.1)) ⟨Nat.le_trans hS.1 f1, fun q h1 h2 => (f2 q (Nat.lt_of_lt_of_le h1 hS.1) (fun z hz => nomatch hz)).trans (hS.2.1 q h1 h2), hS.2.2⟩ _ rfl X6
  refine ⟨t, st1 _ ?_, b1⟩
  show Steps p.tables e below (T1.setTop { method := m, pc := pc + 3, locals := ls, stack := .ref T.heap.size :: rest, locked := none }) _
  jvm_step X₁.here [X₁.here.top, hexec, d3', Value.category]
  exact X₁.ldcString hexec (own := own) (text := text) (index := is) (a := sa) hown' hstr'.1 hstr'.2
    (g := { method := m, pc := pc + 4, locals := ls, stack := .ref T.heap.size :: .ref T.heap.size :: rest, locked := none }) rfl d4' _ (st _ a1)
/-- 'new E()' that isn't thrown at once: the object goes on the stack -/
theorem vx_make0 {cc : ByteArray} {pc : Nat} (hexec : p.tables.exec = Jvm.exec) (hb : c.code = cc) (hl : l.stackTraces = false) {own cls : String} {names : List String} {ik ic ci : Nat} {A : Nat → Prop} {T0 : u_T}
    (hown : s.vm.findClass own = some m.cls) (hcls : Bundle.fit cls = true) (hnames : ∀ n ∈ names, Bundle.fit n = true)
    (hk : (Cond.classLink own ik cls).before args s = true) (hini : (Cond.initialized cls).before args s = true) (hat : ∀ w ∈ vx_at0 own ic cls names, w.before args s = true)
    (hgood : ∀ w ∈ Cond.classLink own ik cls :: Cond.initialized cls :: vx_at0 own ic cls names, vx_ot w = true)
    (hU : vx_Zq Bundle.tN "UNASSIGNED_STACK" Bundle.steD A s s.heap) (hN : vx_Zq Bundle.tN "SUPPRESSED_SENTINEL" Bundle.listD A s s.heap) (hS : va_S A s.heap H locs) (hsize : ls.size = c.maxLocals)
    (d0 : decode cc pc = .ok (.new ik, 3)) (d3 : decode cc (pc + 3) = .ok (.dup, 1)) (d4 : decode cc (pc + 4) = .ok (.invokespecial ic, 3))
    (hK : va_K D cl tys s) (hP : va_P D cl ws H) (hD : va_D A ws) (hA : ∀ q, s.heap.size ≤ q → A q) (hc : cl[ci]? = some (cls, T0, 0))
    (hRframes : names.length + 3 < R.frames) (hRlocals : (rest.map fun v => v.category).sum + (13 * (names.length + 1) + 42) ≤ R.locals) (hRcells : cells + 1 ≤ R.cells) (hRslots : slots + 6 ≤ R.slots)
    (kk : ∀ (q : Nat) (H1 : Heap), va_P D cl (ws ++ [(q, .inr (ci, []))]) H1 → va_D A (ws ++ [(q, .inr (ci, []))]) → va_S A s.heap H1 locs → W p l e R s m args below meth c H1 locs (cells + 1) (slots + 6) Q (F0 m (pc + 7) ls (.ref q :: rest))) :
    W p l e R s m args below meth c H locs cells slots Q (F0 m pc ls rest) := by
  intro T hT X
  subst hT
  have htr : e.platform.stackTraces = false := (show e.platform.stackTraces = l.stackTraces by rw [X.admits.platform]).trans hl
  have Y := vx_rebase X (R' := { frames := R.frames, locals := R.locals, cells := 1, slots := 6 }) (Nat.le_refl _) (Nat.le_refl _) hRcells hRslots
  obtain ⟨s', hA'⟩ : ∃ z, z = (T.setVm s.vm).setFrames (.invoking m args :: below) := ⟨_, rfl⟩
  rw [← hA'] at Y
  have hvm : s'.vm = s.vm := by rw [hA']; rfl
  have hhp : s'.heap = T.heap := by rw [hA']; rfl
  have hW0 : s.WarmedH s'.vm := by rw [hvm]; exact State.WarmedH.refl s
  have hat' : ∀ w ∈ vx_at0 own ic cls names, w.before args s' = true := fun w hw => vx_ot_at hW0 hvm.symm (hgood w (List.mem_cons_of_mem _ (List.mem_cons_of_mem _ hw))) (hat w hw)
  have hk' : (Cond.classLink own ik cls).before args s' = true := vx_ot_at hW0 hvm.symm (hgood _ List.mem_cons_self) hk
  have hini' : (Cond.initialized cls).before args s' = true := vx_ot_at hW0 hvm.symm (hgood _ (List.mem_cons_of_mem _ List.mem_cons_self)) hini
  have hU' : vx_Zq Bundle.tN "UNASSIGNED_STACK" Bundle.steD A s' s'.heap := by rw [hhp]; exact vx_Zq.moved hW0.alike (hU.kept hS.2.1)
  have hN' : vx_Zq Bundle.tN "SUPPRESSED_SENTINEL" Bundle.listD A s' s'.heap := by rw [hhp]; exact vx_Zq.moved hW0.alike (hN.kept hS.2.1)
  have h : ∀ w ∈ Bundle.ownAtoms0 own ic cls names, w.before args s' = true := vx_own hat' (vx_isRefq hU'.1) (vx_isRefq hN'.1) hU'.2.word hN'.2.word
  have hown' : s'.vm.findClass own = some m.cls := by rw [hvm]; exact hown
  have hins : (Cond.instantiable cls 6).before args s' = true := h _ (by simp [Bundle.ownAtoms0])
  obtain ⟨vm₁, cX, kX, hfX, hkX, -, -, X₁, st1⟩ := Y.newCold hexec (own := own) (C := cls) (index := ik) (n := 6) hown' hk' hins hini'
    (g := F0 m pc ls rest) rfl (by rw [hb]; exact d0) (Nat.le_refl _) (Nat.le_refl _)
  generalize hT1 : (T.setVm vm₁).pushCell { cls := cX, slots := kX.instanceTypes.map defaultValue, vm := .none } = T1 at X₁ st1
  have hcat : (Value.ref T.heap.size).category = 1 := rfl
  have hcellA : T1.heap[T.heap.size]? = some (freshCell cX kX) := by rw [← hT1]; exact State.heap_pushCell_size _ _
  have d3' : decode c.code (pc + 3) = .ok (.dup, 1) := by rw [hb]; exact d3
  obtain ⟨V, ce, L, Z, hL, hlt, hcl9, hvm9, st⟩ := vx_ctorMade0 X₁ hexec htr (own := own) (cls := cls) (names := names) (ic := ic) hown' hcls hnames h (fun x hx => nomatch hx) hfX hkX hcellA (by rw [hhp]; exact Nat.le_refl _)
    (g := { method := m, pc := pc + 4, locals := ls, stack := .ref T.heap.size :: .ref T.heap.size :: rest, locked := none }) rfl hsize (rest := rest) rfl
    (by rw [hb]; exact d4) hRframes (by simp only [List.map_cons, List.sum_cons, hcat]; omega)
  have Z0 := Stand.forget (locs := []) Z (fun y hy => by rw [hL y hy, hhp]; exact Nat.le_refl _)
  obtain ⟨f1, f2⟩ := vx_frame Z0.same
  rw [hhp] at f1 f2
  have hcid : ce.cls = D.1 ci := by
    rw [hcl9]
    have h1 := (hK.1 ci _ hc).2.1
    rw [hvm] at hfX
    exact Option.some.inj (hfX.symm.trans h1)
  have hh : (V.setCell T.heap.size ce).heap[T.heap.size]? = some ce := heapAt_setCell_self (s := V) ce hlt
  subst hA'
  have X5 := vx_back9 X Y Z0
  have X6 : Stand p l e R s m args below meth c (V.setCell T.heap.size ce) locs (cells + 1) (slots + 6) := { X5 with same := X5.same.mono (by omega) (by omega) }
  have hk9 : ∀ (k : Nat) (x : Nat × va_E), ws[k]? = some x → (V.setCell T.heap.size ce).heap[x.1]? = T.heap[x.1]? := fun k x hx => f2 x.1 ((hP k x hx).lt) (fun z hz => nomatch hz)
  obtain ⟨t, a1, b1⟩ := kk T.heap.size (V.setCell T.heap.size ce).heap ((hP.kept hk9).app (fun k x hx => by
      have hz : k < 1 := (List.getElem?_eq_some_iff.mp hx).1
      rw [show k = 0 by omega] at hx
      cases hx
      exact ⟨_, hc, ce, hh, hcid, hvm9, fun k hk => absurd hk (Nat.not_lt_zero k)⟩)) (hD.push hP rfl (hA _ hS.1)) ⟨Nat.le_trans hS.1 f1, fun q h1 h2 => (f2 q (Nat.lt_of_lt_of_le h1 hS.1) (fun z hz => nomatch hz)).trans (hS.2.1 q h1 h2), hS.2.2⟩ _ rfl X6
  refine ⟨t, st1 _ ?_, b1⟩
  show Steps p.tables e below (T1.setTop { method := m, pc := pc + 3, locals := ls, stack := .ref T.heap.size :: rest, locked := none }) _
  jvm_step X₁.here [X₁.here.top, hexec, d3', Value.category]
  exact st _ a1
/-- 'throw x' of an object that was made before -/
theorem vx_athrow {cc : ByteArray} {pc : Nat} (hexec : p.tables.exec = Jvm.exec) (hb : c.code = cc) {q : Addr} (hdg : decode cc pc = .ok (.athrow, 1)) (k : vx_W p l e R s m args below meth c H locs cells slots Q (F0 m pc ls rest) q) : W p l e R s m args below meth c H locs cells slots Q (F0 m pc ls (.ref q :: rest)) := by
  intro T hT X
  obtain ⟨t, st, hq⟩ := k T hT X
  refine ⟨t, ?_, hq⟩
  have hdg' : decode c.code pc = .ok (.athrow, 1) := by rw [hb]; exact hdg
  jvm_step X.here [X.here.top, hexec, hdg', athrow.wp_sem]
  exact st
end VXK2
/-! ===== END ===== -/
/-! ===== BEGIN a constructor that throws (launches without stack traces) ===== -/
section VXIA
variable {p : Program} {l : Launch} {e : Env} {R : Room} {s : State} {m : MethodId} {args : Array Value} {below : List Frame} {meth : Method} {c : Code} {T : State} {locs : List Loc} {cells slots : Nat}
theorem vx_callI (X : Stand p l e R s m args below meth c T locs cells slots) (hexec : p.tables.exec = Jvm.exec) {own : String} {index : Nat} {y : MethodName} {bytes : ByteArray} {maxL : Nat}
    (hown : s.vm.findClass own = some m.cls) (hy1 : y.name = "<init>") (hlink : (Cond.methodLink own index y).before args s = true) (hinst : (Cond.instanceMethod y).before args s = true)
    (hcode : (Cond.code y bytes maxL none).before args s = true) (hy : y.cls ≠ "java/lang/invoke/MethodHandle" ∧ y.cls ≠ "java/lang/invoke/VarHandle")
    {W9 : Nat} {Pre : Pt → Array Value → Prop} {Post : Pt → Array Value → Option Value → Pt → Prop} {PostX : Pt → Array Value → Addr → Pt → Prop} (hK : vx_Back l R p e below s args y 3 W9 Pre Post PostX)
    {g : JFrame} (hg : g.method = m) (hsize : g.locals.size = c.maxLocals) {a : Addr} {argsL rest : List Value} (hlen : ∀ sig, parseMethodDescriptor y.desc = some sig → argsL.length = sig.parameters.length)
    (hstack : g.stack = argsL.reverse ++ .ref a :: rest) (hW : 2 * g.monitorRoom + (rest.map fun v => v.category).sum ≤ W9) (hdg : decode c.code g.pc = .ok (.invokespecial index, 3))
    (hpre : ∀ vm₁, s.WarmedH vm₁ → Pre ⟨T.setVm vm₁, locs, cells, slots⟩ (Value.ref a :: argsL).toArray) :
    (∃ (v : Option Value) (vm₁ : Vm) (B : Pt), s.WarmedH vm₁ ∧ Stand p l e R s m args below meth c B.U B.locs B.cells B.slots ∧ Post ⟨T.setVm vm₁, locs, cells, slots⟩ (Value.ref a :: argsL).toArray v B ∧
      ∀ target, Steps p.tables e below (B.U.setTop { g with pc := g.pc + 3, stack := v.toList ++ rest }) target → Steps p.tables e below (T.setTop g) target) ∨
    (∃ (q : Addr) (vm₁ : Vm) (B : Pt), s.WarmedH vm₁ ∧ Stand p l e R s m args below meth c B.U B.locs B.cells B.slots ∧ PostX ⟨T.setVm vm₁, locs, cells, slots⟩ (Value.ref a :: argsL).toArray q B ∧
      Steps p.tables e below (T.setTop g) ((B.U.setTop { g with stack := rest }).pushFrame (.throwing q))) := by
  subst hg
  have hpl : e.platform.magicAccessors = ({} : Platform).magicAccessors := by rw [X.admits.platform]
  obtain ⟨mk, methM, cM, kP, vm₁, hnamed, hmethM, hcodeM, -, hlocalsM, -, hkP, -, hW₁, hstep₁⟩ := Steps.initColdArgs (e := e) X.here hexec X.warmed hpl hown hy1 hy hlink hinst hcode (f := g) rfl hlen hstack hdg
  have X₁ := X.noted hW₁
  rcases hK g.method meth c ⟨T.setVm vm₁, locs, cells, slots⟩ { g with stack := rest } (.invokespecial index) mk (Value.ref a :: argsL).toArray X₁ rfl hsize hdg hW (X₁.named hnamed) (hpre vm₁ X₁.warmed) with ⟨v, B, X', hpost, hsteps⟩ | ⟨q, B, X', hpost, hsteps⟩
  · exact Or.inl ⟨v, vm₁, B, X₁.warmed, X', hpost, fun target h => hstep₁ _ fun acts => by rw [doInvoke_state]; exact hsteps.trans h⟩
  · exact Or.inr ⟨q, vm₁, B, X₁.warmed, X', hpost, hstep₁ _ fun acts => by rw [doInvoke_state]; exact hsteps⟩
end VXIA
section VXIB
variable {p : Program} {l : Launch} {e : Env} {R : Room} {s : State} {m : MethodId} {args : Array Value} {below : List Frame} {meth : Method} {c : Code} {H : Heap} {locs : List Loc} {cells slots : Nat}
variable {y : MethodName} {bytes cc : ByteArray} {maxL nL mc ms n index : Nat} {ret : Option FieldType} {ws : List Cond} {rm : Room} {Pc : Array Value → State → Prop} {Qc : Array Value → State → Outcome → State → Prop} {XC : String → State → State → Prop} {free : Addr → Prop} {Ts : List Cond} {own C : String} {b : Addr} {As rest : List Value} {g : JFrame}
theorem vx_runI (S : CallFix p m c cc nL s args Ts own) (hM : vx_Met l y ws rm Pc Qc XC mc ms free) (cw : CallB R s args own index y bytes maxL none ws rm mc ms n ∧ y.name = "<init>" ∧ (Cond.instanceMethod y).before args s = true) (hp : PreS s H Pc (.ref b :: As))
    (hg : g.method = m) (hn : As.length = n) (hsize : g.locals.size = nL) (hstack : g.stack = As.reverse ++ .ref b :: rest) (hW : 2 * g.monitorRoom + (rest.map fun v => v.category).sum ≤ 8) (hdg : decode cc g.pc = .ok (.invokespecial index, 3)) (hf : cells + mc ≤ R.cells ∧ slots + ms ≤ R.slots) :
    vx_Run p l e R s m args below meth c H locs cells slots mc ms g rest (Qc (Value.ref b :: As).toArray) XC free := by
  have hK : vx_Back l R p e below s args y 3 8 (PreOf R mc ms Pc) (PostOf Qc mc ms free) (vx_Post XC mc ms free) := vx_callBack cw.1 hM hp.1
  obtain ⟨⟨-, -, -, -, -, -, hcode, -, hy, hlen, hl⟩, hy1, hin⟩ := cw
  obtain ⟨hx, hb, hml, ho, -⟩ := S
  have hPc := hp.2
  intro T hT X
  rcases vx_callI X hx (bytes := bytes) (maxL := maxL) ho hy1 hl hin hcode hy hK hg (hsize.trans hml.symm) (a := b) (argsL := As) (rest := rest) (fun sig h => hn.trans (hlen sig h)) hstack hW (by rw [hb]; exact hdg)
    (fun vm₁ hW₁ => ⟨hf.1, hf.2, hPc (T.setVm vm₁) hT hW₁⟩) with ⟨v, vm₁, ⟨U', l2, c2, s2⟩, hW₁, X', ⟨g', mk, t, L, e1, e2, hq, h1, hL, h2, h3⟩, st⟩ | ⟨q, vm₁, ⟨U', l2, c2, s2⟩, hW₁, X', ⟨g', mk, t, L, E, ce, e1, e2, hq, hce, hcv, hcl, h1, hL, h2, h3⟩, st⟩
  · dsimp only [Pt.U, Pt.locs, Pt.cells, Pt.slots] at X' e1 e2 h1 h2 h3 st
    subst h1; subst h2; subst h3
    exact Or.inl ⟨v, (T.setVm vm₁).calling g' mk (Value.ref b :: As).toArray, t, U', L, hT, X', hL, e1, e2, hq, st⟩
  · dsimp only [Pt.U, Pt.locs, Pt.cells, Pt.slots] at X' e1 e2 h1 h2 h3 st hcl
    subst h1; subst h2; subst h3
    exact Or.inr ⟨q, (T.setVm vm₁).calling g' mk (Value.ref b :: As).toArray, t, U', L, E, ce, hT, X', hL, e1, e2, hq, hce, hcv, vx_cls hW₁ hcl, st⟩
end VXIB
/-! ===== END ===== -/
/-! ===== BEGIN a private constructor of a nest mate that throws ===== -/
section VXIC
variable {p : Program} {l : Launch} {e : Env} {R : Room} {s : State} {m : MethodId} {args : Array Value} {below : List Frame} {meth : Method} {c : Code} {T : State} {locs : List Loc} {cells slots : Nat}
theorem vx_callIN (X : Stand p l e R s m args below meth c T locs cells slots) (hexec : p.tables.exec = Jvm.exec) {own : String} {index : Nat} {host : String} {y : MethodName} {bytes : ByteArray} {maxL : Nat}
    (hown : s.vm.findClass own = some m.cls) (hy1 : y.name = "<init>") (hlink : (Cond.methodLinkNest own index y host).before args s = true) (hinst : (Cond.instanceMethod y).before args s = true)
    (hcode : (Cond.code y bytes maxL none).before args s = true) (hy : y.cls ≠ "java/lang/invoke/MethodHandle" ∧ y.cls ≠ "java/lang/invoke/VarHandle")
    {W9 : Nat} {Pre : Pt → Array Value → Prop} {Post : Pt → Array Value → Option Value → Pt → Prop} {PostX : Pt → Array Value → Addr → Pt → Prop} (hK : vx_Back l R p e below s args y 3 W9 Pre Post PostX)
    {g : JFrame} (hg : g.method = m) (hsize : g.locals.size = c.maxLocals) {a : Addr} {argsL rest : List Value} (hlen : ∀ sig, parseMethodDescriptor y.desc = some sig → argsL.length = sig.parameters.length)
    (hstack : g.stack = argsL.reverse ++ .ref a :: rest) (hW : 2 * g.monitorRoom + (rest.map fun v => v.category).sum ≤ W9) (hdg : decode c.code g.pc = .ok (.invokespecial index, 3))
    (hpre : ∀ vm₁, s.WarmedH vm₁ → Pre ⟨T.setVm vm₁, locs, cells, slots⟩ (Value.ref a :: argsL).toArray) :
    (∃ (v : Option Value) (vm₁ : Vm) (B : Pt), s.WarmedH vm₁ ∧ Stand p l e R s m args below meth c B.U B.locs B.cells B.slots ∧ Post ⟨T.setVm vm₁, locs, cells, slots⟩ (Value.ref a :: argsL).toArray v B ∧
      ∀ target, Steps p.tables e below (B.U.setTop { g with pc := g.pc + 3, stack := v.toList ++ rest }) target → Steps p.tables e below (T.setTop g) target) ∨
    (∃ (q : Addr) (vm₁ : Vm) (B : Pt), s.WarmedH vm₁ ∧ Stand p l e R s m args below meth c B.U B.locs B.cells B.slots ∧ PostX ⟨T.setVm vm₁, locs, cells, slots⟩ (Value.ref a :: argsL).toArray q B ∧
      Steps p.tables e below (T.setTop g) ((B.U.setTop { g with stack := rest }).pushFrame (.throwing q))) := by
  subst hg
  have hpl : e.platform.magicAccessors = ({} : Platform).magicAccessors := by rw [X.admits.platform]
  obtain ⟨mk, methM, cM, kP, vm₁, hnamed, hmethM, hcodeM, -, hlocalsM, -, hkP, -, hW₁, hstep₁⟩ := Steps.initColdArgsNest (e := e) X.here hexec X.warmed hpl hown hy1 hy hlink hinst hcode (f := g) rfl hlen hstack hdg
  have X₁ := X.noted hW₁
  rcases hK g.method meth c ⟨T.setVm vm₁, locs, cells, slots⟩ { g with stack := rest } (.invokespecial index) mk (Value.ref a :: argsL).toArray X₁ rfl hsize hdg hW (X₁.named hnamed) (hpre vm₁ X₁.warmed) with ⟨v, B, X', hpost, hsteps⟩ | ⟨q, B, X', hpost, hsteps⟩
  · exact Or.inl ⟨v, vm₁, B, X₁.warmed, X', hpost, fun target h => hstep₁ _ fun acts => by rw [doInvoke_state]; exact hsteps.trans h⟩
  · exact Or.inr ⟨q, vm₁, B, X₁.warmed, X', hpost, hstep₁ _ fun acts => by rw [doInvoke_state]; exact hsteps⟩
end VXIC
section VXID
variable {p : Program} {l : Launch} {e : Env} {R : Room} {s : State} {m : MethodId} {args : Array Value} {below : List Frame} {meth : Method} {c : Code} {H : Heap} {locs : List Loc} {cells slots : Nat}
theorem vx_runIN {y : MethodName} {bytes cc : ByteArray} {maxL nL mc ms n index : Nat} {ws : List Cond} {rm : Room} {Pc : Array Value → State → Prop} {Qc : Array Value → State → Outcome → State → Prop} {XC : String → State → State → Prop} {free : Addr → Prop} {Ts : List Cond} {own host : String} {b : Addr} {As rest : List Value} {g : JFrame}
    (S : CallFix p m c cc nL s args Ts own) (hM : vx_Met l y ws rm Pc Qc XC mc ms free) (cw : va_CN R s args own index y host bytes maxL none ws rm mc ms n ∧ y.name = "<init>" ∧ (Cond.instanceMethod y).before args s = true) (hp : PreS s H Pc (.ref b :: As))
    (hg : g.method = m) (hn : As.length = n) (hsize : g.locals.size = nL) (hstack : g.stack = As.reverse ++ .ref b :: rest) (hW : 2 * g.monitorRoom + (rest.map fun v => v.category).sum ≤ 8) (hdg : decode cc g.pc = .ok (.invokespecial index, 3)) (hf : cells + mc ≤ R.cells ∧ slots + ms ≤ R.slots) :
    vx_Run p l e R s m args below meth c H locs cells slots mc ms g rest (Qc (Value.ref b :: As).toArray) XC free := by
  obtain ⟨⟨⟨hrc, hrs, hfr, hlo, hws, hcw⟩, hcode, hini, hy, hlen, hl⟩, hx1, hx2⟩ := cw
  have hK : vx_Back l R p e below s args y 3 8 (PreOf R mc ms Pc) (PostOf Qc mc ms free) (vx_Post XC mc ms free) := vx_back (bytes := bytes) (maxL := maxL) (ret := none) hM hp.1 hrc hrs hfr hlo hws hcw (fun a' U hW => word_at hW (Or.inl (by first | rfl | simp [Cond.onTables, Cond.keeps, Cond.steady])) hini)
  obtain ⟨hx, hb, hml, ho, -⟩ := S
  have hPc := hp.2
  intro T hT X
  rcases vx_callIN X hx (bytes := bytes) (maxL := maxL) ho hx1 hl hx2 hcode hy hK hg (hsize.trans hml.symm) (a := b) (argsL := As) (rest := rest) (fun sig h => hn.trans (hlen sig h)) hstack hW (by rw [hb]; exact hdg)
    (fun vm₁ hW₁ => ⟨hf.1, hf.2, hPc (T.setVm vm₁) hT hW₁⟩) with ⟨v, vm₁, ⟨U', l2, c2, s2⟩, hW₁, X', ⟨g', mk, t, L, e1, e2, hq, h1, hL, h2, h3⟩, st⟩ | ⟨q, vm₁, ⟨U', l2, c2, s2⟩, hW₁, X', ⟨g', mk, t, L, E, ce, e1, e2, hq, hce, hcv, hcl, h1, hL, h2, h3⟩, st⟩
  · dsimp only [Pt.U, Pt.locs, Pt.cells, Pt.slots] at X' e1 e2 h1 h2 h3 st
    subst h1; subst h2; subst h3
    exact Or.inl ⟨v, (T.setVm vm₁).calling g' mk (Value.ref b :: As).toArray, t, U', L, hT, X', hL, e1, e2, hq, st⟩
  · dsimp only [Pt.U, Pt.locs, Pt.cells, Pt.slots] at X' e1 e2 h1 h2 h3 st hcl
    subst h1; subst h2; subst h3
    exact Or.inr ⟨q, (T.setVm vm₁).calling g' mk (Value.ref b :: As).toArray, t, U', L, E, ce, hT, X', hL, e1, e2, hq, hce, hcv, vx_cls hW₁ hcl, st⟩
end VXID
/-! ===== END ===== -/
/-! ===== BEGIN a method of a class above, found by the receiver, that may throw (follows va_callVU, va_runU of this kit) ===== -/
section
variable {p : Program} {l : Launch} {e : Env} {R : Room} {s : State} {m : MethodId} {args : Array Value} {below : List Frame} {meth : Method} {c : Code} {H : Heap} {locs : List Loc} {cells slots : Nat}
theorem vx_callVU {T : State} {locs : List Loc} {cells slots : Nat} (X : Stand p l e R s m args below meth c T locs cells slots) (hexec : p.tables.exec = Jvm.exec) {own C owner : String} {index : Nat} {x y : MethodName} {bytes : ByteArray} {maxL : Nat} {ret : Option FieldType}
    (hown : s.vm.findClass own = some m.cls) (hlink : (Cond.methodLink own index x).before args s = true) (hsame : (Cond.sameMethod x.cls owner x.name x.desc).before args s = true)
    (hd0 : va_Decl s ⟨owner, x.name, x.desc⟩) (howner : owner ≠ "java/lang/invoke/MethodHandle" ∧ owner ≠ "java/lang/invoke/VarHandle")
    (hsel : (Cond.selects C x y).before args s = true) (hinst : (Cond.instanceMethod y).before args s = true) (hcode : (Cond.code y bytes maxL ret).before args s = true)
    {W : Nat} {Pre : Pt → Array Value → Prop} {Post : Pt → Array Value → Option Value → Pt → Prop} {PostX : Pt → Array Value → Addr → Pt → Prop} (hK : vx_Back l R p e below s args y 3 W Pre Post PostX)
    {b : Addr} {cellB : Cell} (hcell : T.heap[b]? = some cellB) (hobj : cellB.vm.isStatics = false) (hcls : s.vm.findClass C = some cellB.cls)
    {g : JFrame} (hg : g.method = m) (hsize : g.locals.size = c.maxLocals) {argsL rest : List Value} (hlen : ∀ sig, parseMethodDescriptor x.desc = some sig → argsL.length = sig.parameters.length)
    (hstack : g.stack = argsL.reverse ++ .ref b :: rest) (hW : 2 * g.monitorRoom + (rest.map fun v => v.category).sum ≤ W) (hdg : decode c.code g.pc = .ok (.invokevirtual index, 3))
    (hpre : ∀ vm₁, s.WarmedH vm₁ → Pre ⟨T.setVm vm₁, locs, cells, slots⟩ (Value.ref b :: argsL).toArray) :
    (∃ (v : Option Value) (vm₁ : Vm) (B : Pt), s.WarmedH vm₁ ∧ Stand p l e R s m args below meth c B.U B.locs B.cells B.slots ∧ Post ⟨T.setVm vm₁, locs, cells, slots⟩ (Value.ref b :: argsL).toArray v B ∧
      ∀ target, Steps p.tables e below (B.U.setTop { g with pc := g.pc + 3, stack := v.toList ++ rest }) target → Steps p.tables e below (T.setTop g) target) ∨
    (∃ (q : Addr) (vm₁ : Vm) (B : Pt), s.WarmedH vm₁ ∧ Stand p l e R s m args below meth c B.U B.locs B.cells B.slots ∧ PostX ⟨T.setVm vm₁, locs, cells, slots⟩ (Value.ref b :: argsL).toArray q B ∧
      Steps p.tables e below (T.setTop g) ((B.U.setTop { g with stack := rest }).pushFrame (.throwing q))) := by
  obtain ⟨r0, r, hn, hrm, hstR, hsigR⟩ := hd0
  obtain ⟨cn, ck, r1, hcn, hck, hni, hf, hn1⟩ := Cond.sameMethod_found hsame
  cases hn.symm.trans hn1
  obtain ⟨mk, methM, hnamed, hmethM, -, habM⟩ := Cond.instanceMethod_spec hinst
  obtain ⟨c2, r2, m2, q1, q2, q3, q4, kP, hkP, hkPi⟩ := Cond.selects_spec hsel
  cases hcls.symm.trans q1
  cases hf.symm.trans q2
  cases hnamed.symm.trans q3
  have hselP : selectMethod e.platform s.vm cellB.cls r0 = .method mk := by rw [Launch.admits_selectMethod X.admits]; exact q4
  obtain ⟨vm₁, X₁, hstep₁⟩ := X.invokevirtualUp hexec hown hlink hsame howner hn hrm hstR (a := b) (cell := cellB) hcell
    (fun z h => by rw [h] at hobj; cases hobj) hselP hmethM habM hkP hkPi (g := g) hg (argsL := argsL) (rest := rest) (hlen _ hsigR) hstack hdg
  rcases hK m meth c ⟨T.setVm vm₁, locs, cells, slots⟩ { g with stack := rest } (.invokevirtual index) mk (Value.ref b :: argsL).toArray X₁ hg hsize hdg hW (X₁.named hnamed) (hpre vm₁ X₁.warmed) with ⟨v, B, X', hpost, hsteps⟩ | ⟨q, B, X', hpost, hsteps⟩
  · exact Or.inl ⟨v, vm₁, B, X₁.warmed, X', hpost, fun target h => hstep₁ _ fun acts => by rw [doInvoke_state]; exact hsteps.trans h⟩
  · exact Or.inr ⟨q, vm₁, B, X₁.warmed, X', hpost, hstep₁ _ fun acts => by rw [doInvoke_state]; exact hsteps⟩
theorem vx_runU {x y : MethodName} {bytes cc : ByteArray} {maxL nL mc ms n index : Nat} {ret : Option FieldType} {ws : List Cond} {rm : Room} {Pc : Array Value → State → Prop} {Qc : Array Value → State → Outcome → State → Prop} {XC : String → State → State → Prop} {free : Addr → Prop} {Ts : List Cond} {own C owner : String} {b : Addr} {As rest : List Value} {g : JFrame}
    (S : CallFix p m c cc nL s args Ts own) (hM : vx_Met l y ws rm Pc Qc XC mc ms free) (cw : va_CU R s args own C owner index x y bytes maxL ret ws rm mc ms n) (hp : PreV s H C b Pc As)
    (hg : g.method = m) (hn : As.length = n) (hsize : g.locals.size = nL) (hstack : g.stack = As.reverse ++ .ref b :: rest) (hW : 2 * g.monitorRoom + (rest.map fun v => v.category).sum ≤ 8) (hdg : decode cc g.pc = .ok (.invokevirtual index, 3)) (hf : cells + mc ≤ R.cells ∧ slots + ms ≤ R.slots) :
    vx_Run p l e R s m args below meth c H locs cells slots mc ms g rest (Qc (Value.ref b :: As).toArray) XC free := by
  obtain ⟨hrc, hrs, hfr, hlo, hws, hcw⟩ := cw.back
  have hini := cw.init
  have hK : vx_Back l R p e below s args y 3 8 (PreOf R mc ms Pc) (PostOf Qc mc ms free) (vx_Post XC mc ms free) := vx_back (bytes := bytes) (maxL := maxL) (ret := ret) hM hp.1 hrc hrs hfr hlo hws hcw (fun a' U hW => word_at hW (Or.inl (by first | rfl | simp [Cond.onTables, Cond.keeps, Cond.steady])) hini)
  obtain ⟨hx, hb, hml, ho, -⟩ := S
  obtain ⟨-, ⟨cellB, hcB, hoB, hclB⟩, hPc⟩ := hp
  intro T hT X
  rcases vx_callVU X hx (C := C) (owner := owner) (bytes := bytes) (maxL := maxL) (ret := ret) ho cw.link cw.same cw.decl cw.notMH cw.sel cw.inst cw.code hK (by rw [hT]; exact hcB) hoB hclB hg (hsize.trans hml.symm) (argsL := As) (rest := rest) (fun sig h => hn.trans (cw.len sig h)) hstack hW (by rw [hb]; exact hdg)
    (fun vm₁ hW₁ => ⟨hf.1, hf.2, hPc (T.setVm vm₁) hT hW₁⟩) with ⟨v, vm₁, ⟨U', l2, c2, s2⟩, hW₁, X', ⟨g', mk, t, L, e1, e2, hq, h1, hL, h2, h3⟩, st⟩ | ⟨q, vm₁, ⟨U', l2, c2, s2⟩, hW₁, X', ⟨g', mk, t, L, E, ce, e1, e2, hq, hce, hcv, hcl, h1, hL, h2, h3⟩, st⟩
  · dsimp only [Pt.U, Pt.locs, Pt.cells, Pt.slots] at X' e1 e2 h1 h2 h3 st
    subst h1; subst h2; subst h3
    exact Or.inl ⟨v, (T.setVm vm₁).calling g' mk (Value.ref b :: As).toArray, t, U', L, hT, X', hL, e1, e2, hq, st⟩
  · dsimp only [Pt.U, Pt.locs, Pt.cells, Pt.slots] at X' e1 e2 h1 h2 h3 st hcl
    subst h1; subst h2; subst h3
    exact Or.inr ⟨q, (T.setVm vm₁).calling g' mk (Value.ref b :: As).toArray, t, U', L, E, ce, hT, X', hL, e1, e2, hq, hce, hcv, vx_cls hW₁ hcl, st⟩
end
/-! ===== END ===== -/
/-! ===== BEGIN super.m(..) that may throw (follows va_callSU, va_runSU) ===== -/
section
variable {p : Program} {l : Launch} {e : Env} {R : Room} {s : State} {m : MethodId} {args : Array Value} {below : List Frame} {meth : Method} {c : Code} {H : Heap} {locs : List Loc} {cells slots : Nat}
theorem vx_callSU {T : State} {locs : List Loc} {cells slots : Nat} (X : Stand p l e R s m args below meth c T locs cells slots) (hexec : p.tables.exec = Jvm.exec) {own : String} {index : Nat} {y : MethodName} {bytes : ByteArray} {maxL : Nat} {ret : Option FieldType}
    (hown : s.vm.findClass own = some m.cls) (hlink : (Cond.methodLink own index y).before args s = true) (hsame : (Cond.sameMethod y.cls y.cls y.name y.desc).before args s = true) (hsup : (Cond.superclass own y.cls).before args s = true)
    (hinst : (Cond.instanceMethod y).before args s = true) (hcode : (Cond.code y bytes maxL ret).before args s = true) (hno : y.name ≠ "<init>")
    {W : Nat} {Pre : Pt → Array Value → Prop} {Post : Pt → Array Value → Option Value → Pt → Prop} {PostX : Pt → Array Value → Addr → Pt → Prop} (hK : vx_Back l R p e below s args y 3 W Pre Post PostX)
    {b : Addr} {cellB : Cell} {kB : Class} (hcell : T.heap[b]? = some cellB) (hobj : cellB.vm.isStatics = false) (hkB : s.vm.classes[cellB.cls]? = some kB)
    {g : JFrame} (hg : g.method = m) (hsize : g.locals.size = c.maxLocals) {argsL rest : List Value} (hlen : ∀ sig, parseMethodDescriptor y.desc = some sig → argsL.length = sig.parameters.length)
    (hstack : g.stack = argsL.reverse ++ .ref b :: rest) (hW : 2 * g.monitorRoom + (rest.map fun v => v.category).sum ≤ W) (hdg : decode c.code g.pc = .ok (.invokespecial index, 3))
    (hpre : ∀ vm₁, s.WarmedH vm₁ → Pre ⟨T.setVm vm₁, locs, cells, slots⟩ (Value.ref b :: argsL).toArray) :
    (∃ (v : Option Value) (vm₁ : Vm) (B : Pt), s.WarmedH vm₁ ∧ Stand p l e R s m args below meth c B.U B.locs B.cells B.slots ∧ Post ⟨T.setVm vm₁, locs, cells, slots⟩ (Value.ref b :: argsL).toArray v B ∧
      ∀ target, Steps p.tables e below (B.U.setTop { g with pc := g.pc + 3, stack := v.toList ++ rest }) target → Steps p.tables e below (T.setTop g) target) ∨
    (∃ (q : Addr) (vm₁ : Vm) (B : Pt), s.WarmedH vm₁ ∧ Stand p l e R s m args below meth c B.U B.locs B.cells B.slots ∧ PostX ⟨T.setVm vm₁, locs, cells, slots⟩ (Value.ref b :: argsL).toArray q B ∧
      Steps p.tables e below (T.setTop g) ((B.U.setTop { g with stack := rest }).pushFrame (.throwing q))) := by
  obtain ⟨mk, methM, hnamed, hmethM, hstM, habM⟩ := Cond.instanceMethod_spec hinst
  obtain ⟨methM', cM, hmethM', -, -, -, -, -, -, hsigM⟩ := Cond.code_spec hnamed hcode
  cases hmethM.symm.trans hmethM'
  obtain ⟨ps, dk, kp, hps, hdk, hkp, hsuper, -, -, hnid⟩ := Cond.superclass_spec hown hsup
  have hn : s.methodNamed? ⟨y.cls, y.name, y.desc⟩ = some mk := hnamed
  have hpm : ps = mk.cls := Option.some.inj (hps.symm.trans (findClass_of_methodNamed hnamed))
  have hsub : s.vm.isSubclass ps mk.cls = true := by rw [hpm]; simp [Vm.isSubclass, Vm.isSubclassAux]
  obtain ⟨vm₁, X₁, hstep₁⟩ := X.invokespecialUp hexec hown hlink hsame hn hmethM hstM habM hno hdk hnid hps hsuper hsub (a := b) (cell := cellB) hcell
    (fun z h => by rw [h] at hobj; cases hobj) hkB (g := g) hg (argsL := argsL) (rest := rest) (hlen _ hsigM) hstack hdg
  rcases hK m meth c ⟨T.setVm vm₁, locs, cells, slots⟩ { g with stack := rest } (.invokespecial index) mk (Value.ref b :: argsL).toArray X₁ hg hsize hdg hW (X₁.named hnamed) (hpre vm₁ X₁.warmed) with ⟨v, B, X', hpost, hsteps⟩ | ⟨q, B, X', hpost, hsteps⟩
  · exact Or.inl ⟨v, vm₁, B, X₁.warmed, X', hpost, fun target h => hstep₁ _ (by rw [doInvoke_state]; exact hsteps.trans h)⟩
  · exact Or.inr ⟨q, vm₁, B, X₁.warmed, X', hpost, hstep₁ _ (by rw [doInvoke_state]; exact hsteps)⟩
theorem vx_runSU {y : MethodName} {bytes cc : ByteArray} {maxL nL mc ms n index : Nat} {ret : Option FieldType} {ws : List Cond} {rm : Room} {Pc : Array Value → State → Prop} {Qc : Array Value → State → Outcome → State → Prop} {XC : String → State → State → Prop} {free : Addr → Prop} {Ts : List Cond} {own C : String} {cC : ClassId} {b : Addr} {As rest : List Value} {g : JFrame}
    (hat : ClassAt s C cC) (S : CallFix p m c cc nL s args Ts own) (hM : vx_Met l y ws rm Pc Qc XC mc ms free) (cw : va_CS R s args own index y bytes maxL ret ws rm mc ms n) (hp : PreV s H C b Pc As)
    (hg : g.method = m) (hn : As.length = n) (hsize : g.locals.size = nL) (hstack : g.stack = As.reverse ++ .ref b :: rest) (hW : 2 * g.monitorRoom + (rest.map fun v => v.category).sum ≤ 8) (hdg : decode cc g.pc = .ok (.invokespecial index, 3)) (hf : cells + mc ≤ R.cells ∧ slots + ms ≤ R.slots) :
    vx_Run p l e R s m args below meth c H locs cells slots mc ms g rest (Qc (Value.ref b :: As).toArray) XC free := by
  obtain ⟨⟨hrc, hrs, hfr, hlo, hws, hcw⟩, hl1, hl2, hl3, hl4, hini, hcode, hno, hlen⟩ := cw
  have hK : vx_Back l R p e below s args y 3 8 (PreOf R mc ms Pc) (PostOf Qc mc ms free) (vx_Post XC mc ms free) := vx_back (bytes := bytes) (maxL := maxL) (ret := ret) hM hp.1 hrc hrs hfr hlo hws hcw (fun a' U hW => word_at hW (Or.inl (by first | rfl | simp [Cond.onTables, Cond.keeps, Cond.steady])) hini)
  obtain ⟨hx, hb, hml, ho, -⟩ := S
  obtain ⟨-, ⟨cellB, hcB, hoB, hclB⟩, hPc⟩ := hp
  obtain ⟨hfc, kB, hkB, -⟩ := hat
  cases hfc.symm.trans hclB
  intro T hT X
  rcases vx_callSU X hx (bytes := bytes) (maxL := maxL) (ret := ret) ho hl1 hl2 hl3 hl4 hcode hno hK (by rw [hT]; exact hcB) hoB hkB hg (hsize.trans hml.symm) (argsL := As) (rest := rest) (fun sig h => hn.trans (hlen sig h)) hstack hW (by rw [hb]; exact hdg)
    (fun vm₁ hW₁ => ⟨hf.1, hf.2, hPc (T.setVm vm₁) hT hW₁⟩) with ⟨v, vm₁, ⟨U', l2, c2, s2⟩, hW₁, X', ⟨g', mk, t, L, e1, e2, hq, h1, hL, h2, h3⟩, st⟩ | ⟨q, vm₁, ⟨U', l2, c2, s2⟩, hW₁, X', ⟨g', mk, t, L, E, ce, e1, e2, hq, hce, hcv, hcl, h1, hL, h2, h3⟩, st⟩
  · dsimp only [Pt.U, Pt.locs, Pt.cells, Pt.slots] at X' e1 e2 h1 h2 h3 st
    subst h1; subst h2; subst h3
    exact Or.inl ⟨v, (T.setVm vm₁).calling g' mk (Value.ref b :: As).toArray, t, U', L, hT, X', hL, e1, e2, hq, st⟩
  · dsimp only [Pt.U, Pt.locs, Pt.cells, Pt.slots] at X' e1 e2 h1 h2 h3 st hcl
    subst h1; subst h2; subst h3
    exact Or.inr ⟨q, (T.setVm vm₁).calling g' mk (Value.ref b :: As).toArray, t, U', L, E, ce, hT, X', hL, e1, e2, hq, hce, hcv, vx_cls hW₁ hcl, st⟩
end
/-! ===== END ===== -/
/-! ===== BEGIN a private method of a nest mate that may throw (follows va_callVN, va_callSN, va_runVN, va_runSN) ===== -/
section
variable {p : Program} {l : Launch} {e : Env} {R : Room} {s : State} {m : MethodId} {args : Array Value} {below : List Frame} {meth : Method} {c : Code} {H : Heap} {locs : List Loc} {cells slots : Nat}
variable {T : State}
theorem vx_callVN (X : Stand p l e R s m args below meth c T locs cells slots) (hexec : p.tables.exec = Jvm.exec) {own C : String} {index : Nat} {host : String} {y : MethodName} {bytes : ByteArray} {maxL : Nat} {ret : Option FieldType}
    (hown : s.vm.findClass own = some m.cls) (hlink : (Cond.methodLinkNest own index y host).before args s = true) (hinst : (Cond.instanceMethod y).before args s = true) (hsel : (Cond.selects C y y).before args s = true)
    (hcode : (Cond.code y bytes maxL ret).before args s = true) (hy : y.cls ≠ "java/lang/invoke/MethodHandle" ∧ y.cls ≠ "java/lang/invoke/VarHandle")
    {W : Nat} {Pre : Pt → Array Value → Prop} {Post : Pt → Array Value → Option Value → Pt → Prop} {PostX : Pt → Array Value → Addr → Pt → Prop} (hK : vx_Back l R p e below s args y 3 W Pre Post PostX)
    {b : Addr} {cellB : Cell} (hcell : T.heap[b]? = some cellB) (hobj : cellB.vm.isStatics = false) (hcls : s.vm.findClass C = some cellB.cls)
    {g : JFrame} (hg : g.method = m) (hsize : g.locals.size = c.maxLocals) {argsL rest : List Value} (hlen : ∀ sig, parseMethodDescriptor y.desc = some sig → argsL.length = sig.parameters.length)
    (hstack : g.stack = argsL.reverse ++ .ref b :: rest) (hW : 2 * g.monitorRoom + (rest.map fun v => v.category).sum ≤ W) (hdg : decode c.code g.pc = .ok (.invokevirtual index, 3))
    (hpre : ∀ vm₁, s.WarmedH vm₁ → Pre ⟨T.setVm vm₁, locs, cells, slots⟩ (Value.ref b :: argsL).toArray) :
    (∃ (v : Option Value) (vm₁ : Vm) (B : Pt), s.WarmedH vm₁ ∧ Stand p l e R s m args below meth c B.U B.locs B.cells B.slots ∧ Post ⟨T.setVm vm₁, locs, cells, slots⟩ (Value.ref b :: argsL).toArray v B ∧
      ∀ target, Steps p.tables e below (B.U.setTop { g with pc := g.pc + 3, stack := v.toList ++ rest }) target → Steps p.tables e below (T.setTop g) target) ∨
    (∃ (q : Addr) (vm₁ : Vm) (B : Pt), s.WarmedH vm₁ ∧ Stand p l e R s m args below meth c B.U B.locs B.cells B.slots ∧ PostX ⟨T.setVm vm₁, locs, cells, slots⟩ (Value.ref b :: argsL).toArray q B ∧
      Steps p.tables e below (T.setTop g) ((B.U.setTop { g with stack := rest }).pushFrame (.throwing q))) := by
  obtain ⟨mk, methM, hnamed, hmethM, hstM, habM⟩ := Cond.instanceMethod_spec hinst
  obtain ⟨methM', cM, hmethM', -, -, -, -, -, -, hsigM⟩ := Cond.code_spec hnamed hcode
  cases hmethM.symm.trans hmethM'
  obtain ⟨c2, r2, m2, q1, q2, q3, q4, kP, hkP, hkPi⟩ := Cond.selects_spec hsel
  cases hcls.symm.trans q1
  cases (State.methodFound?_of_named hnamed hy).symm.trans q2
  cases hnamed.symm.trans q3
  have hselP : selectMethod e.platform s.vm cellB.cls mk = .method mk := by rw [Launch.admits_selectMethod X.admits]; exact q4
  obtain ⟨vm₁, X₁, hstep₁⟩ := X.invokevirtualNest hexec hown hlink hnamed hmethM hstM hkP hkPi hy (a := b) (cell := cellB) hcell
    (fun z h => by rw [h] at hobj; cases hobj) hselP hmethM habM hkP hkPi (g := g) hg (argsL := argsL) (rest := rest) (hlen _ hsigM) hstack hdg
  rcases hK m meth c ⟨T.setVm vm₁, locs, cells, slots⟩ { g with stack := rest } (.invokevirtual index) mk (Value.ref b :: argsL).toArray X₁ hg hsize hdg hW (X₁.named hnamed) (hpre vm₁ X₁.warmed) with ⟨v, B, X', hpost, hsteps⟩ | ⟨q, B, X', hpost, hsteps⟩
  · exact Or.inl ⟨v, vm₁, B, X₁.warmed, X', hpost, fun target h => hstep₁ _ fun acts => by rw [doInvoke_state]; exact hsteps.trans h⟩
  · exact Or.inr ⟨q, vm₁, B, X₁.warmed, X', hpost, hstep₁ _ fun acts => by rw [doInvoke_state]; exact hsteps⟩
theorem vx_callSN (X : Stand p l e R s m args below meth c T locs cells slots) (hexec : p.tables.exec = Jvm.exec) {own : String} {index : Nat} {host : String} {y : MethodName} {bytes : ByteArray} {maxL : Nat} {ret : Option FieldType}
    (hown : s.vm.findClass own = some m.cls) (hlink : (Cond.methodLinkNest own index y host).before args s = true) (hstat : (Cond.static y).before args s = true) (hinit : (Cond.initialized y.cls).before args s = true)
    (hcode : (Cond.code y bytes maxL ret).before args s = true) (hy : y.cls ≠ "java/lang/invoke/MethodHandle" ∧ y.cls ≠ "java/lang/invoke/VarHandle")
    {W : Nat} {Pre : Pt → Array Value → Prop} {Post : Pt → Array Value → Option Value → Pt → Prop} {PostX : Pt → Array Value → Addr → Pt → Prop} (hK : vx_Back l R p e below s args y 3 W Pre Post PostX)
    {g : JFrame} (hg : g.method = m) (hsize : g.locals.size = c.maxLocals) {argsL rest : List Value} (hlen : ∀ sig, parseMethodDescriptor y.desc = some sig → argsL.length = sig.parameters.length)
    (hstack : g.stack = argsL.reverse ++ rest) (hW : 2 * g.monitorRoom + (rest.map fun v => v.category).sum ≤ W) (hdg : decode c.code g.pc = .ok (.invokestatic index, 3))
    (hpre : ∀ vm₁, s.WarmedH vm₁ → Pre ⟨T.setVm vm₁, locs, cells, slots⟩ argsL.toArray) :
    (∃ (v : Option Value) (vm₁ : Vm) (B : Pt), s.WarmedH vm₁ ∧ Stand p l e R s m args below meth c B.U B.locs B.cells B.slots ∧ Post ⟨T.setVm vm₁, locs, cells, slots⟩ argsL.toArray v B ∧
      ∀ target, Steps p.tables e below (B.U.setTop { g with pc := g.pc + 3, stack := v.toList ++ rest }) target → Steps p.tables e below (T.setTop g) target) ∨
    (∃ (q : Addr) (vm₁ : Vm) (B : Pt), s.WarmedH vm₁ ∧ Stand p l e R s m args below meth c B.U B.locs B.cells B.slots ∧ PostX ⟨T.setVm vm₁, locs, cells, slots⟩ argsL.toArray q B ∧
      Steps p.tables e below (T.setTop g) ((B.U.setTop { g with stack := rest }).pushFrame (.throwing q))) := by
  obtain ⟨mk, hnamed⟩ := Cond.code_named hcode
  obtain ⟨methM, cM, hmethM, -, -, -, -, -, -, hsigM⟩ := Cond.code_spec hnamed hcode
  have hstatic : methM.isStatic = true := Cond.static_spec hnamed hmethM hstat
  obtain ⟨kP, hkP, -⟩ := className_of_methodNamed hnamed
  have hinitP : kP.init = .initialized := Cond.initialized_spec (findClass_of_methodNamed hnamed) hkP hinit
  obtain ⟨vm₁, X₁, hstep₁⟩ := X.invokestaticNest hexec hown hlink hnamed hmethM hstatic hkP hinitP hy (g := g) hg (argsL := argsL) (rest := rest) (hlen _ hsigM) hstack hdg
  rcases hK m meth c ⟨T.setVm vm₁, locs, cells, slots⟩ { g with stack := rest } (.invokestatic index) mk argsL.toArray X₁ hg hsize hdg hW (X₁.named hnamed) (hpre vm₁ X₁.warmed) with ⟨v, B, X', hpost, hsteps⟩ | ⟨q, B, X', hpost, hsteps⟩
  · exact Or.inl ⟨v, vm₁, B, X₁.warmed, X', hpost, fun target h => hstep₁ _ fun acts => by rw [doInvoke_state]; exact hsteps.trans h⟩
  · exact Or.inr ⟨q, vm₁, B, X₁.warmed, X', hpost, hstep₁ _ fun acts => by rw [doInvoke_state]; exact hsteps⟩
theorem vx_runVN {y : MethodName} {bytes cc : ByteArray} {maxL nL mc ms n index : Nat} {ret : Option FieldType} {ws : List Cond} {rm : Room} {Pc : Array Value → State → Prop} {Qc : Array Value → State → Outcome → State → Prop} {XC : String → State → State → Prop} {free : Addr → Prop} {Ts : List Cond} {own C host : String} {b : Addr} {As rest : List Value} {g : JFrame}
    (S : CallFix p m c cc nL s args Ts own) (hM : vx_Met l y ws rm Pc Qc XC mc ms free) (cw : va_CN R s args own index y host bytes maxL ret ws rm mc ms n ∧ (Cond.instanceMethod y).before args s = true ∧ (Cond.selects C y y).before args s = true) (hp : PreV s H C b Pc As)
    (hg : g.method = m) (hn : As.length = n) (hsize : g.locals.size = nL) (hstack : g.stack = As.reverse ++ .ref b :: rest) (hW : 2 * g.monitorRoom + (rest.map fun v => v.category).sum ≤ 8) (hdg : decode cc g.pc = .ok (.invokevirtual index, 3)) (hf : cells + mc ≤ R.cells ∧ slots + ms ≤ R.slots) :
    vx_Run p l e R s m args below meth c H locs cells slots mc ms g rest (Qc (Value.ref b :: As).toArray) XC free := by
  obtain ⟨⟨⟨hrc, hrs, hfr, hlo, hws, hcw⟩, hcode, hini, hy, hlen, hl⟩, hx1, hx2⟩ := cw
  have hK : vx_Back l R p e below s args y 3 8 (PreOf R mc ms Pc) (PostOf Qc mc ms free) (vx_Post XC mc ms free) := vx_back (bytes := bytes) (maxL := maxL) (ret := ret) hM hp.1 hrc hrs hfr hlo hws hcw (fun a' U hW => word_at hW (Or.inl (by first | rfl | simp [Cond.onTables, Cond.keeps, Cond.steady])) hini)
  obtain ⟨hx, hb, hml, ho, -⟩ := S
  obtain ⟨-, ⟨cellB, hcB, hoB, hclB⟩, hPc⟩ := hp
  intro T hT X
  rcases vx_callVN X hx (C := C) (bytes := bytes) (maxL := maxL) (ret := ret) ho hl hx1 hx2 hcode hy hK (by rw [hT]; exact hcB) hoB hclB hg (hsize.trans hml.symm) (argsL := As) (rest := rest) (fun sig h => hn.trans (hlen sig h)) hstack hW (by rw [hb]; exact hdg)
    (fun vm₁ hW₁ => ⟨hf.1, hf.2, hPc (T.setVm vm₁) hT hW₁⟩) with ⟨v, vm₁, ⟨U', l2, c2, s2⟩, hW₁, X', ⟨g', mk, t, L, e1, e2, hq, h1, hL, h2, h3⟩, st⟩ | ⟨q, vm₁, ⟨U', l2, c2, s2⟩, hW₁, X', ⟨g', mk, t, L, E, ce, e1, e2, hq, hce, hcv, hcl, h1, hL, h2, h3⟩, st⟩
  · dsimp only [Pt.U, Pt.locs, Pt.cells, Pt.slots] at X' e1 e2 h1 h2 h3 st
    subst h1; subst h2; subst h3
    exact Or.inl ⟨v, (T.setVm vm₁).calling g' mk (Value.ref b :: As).toArray, t, U', L, hT, X', hL, e1, e2, hq, st⟩
  · dsimp only [Pt.U, Pt.locs, Pt.cells, Pt.slots] at X' e1 e2 h1 h2 h3 st hcl
    subst h1; subst h2; subst h3
    exact Or.inr ⟨q, (T.setVm vm₁).calling g' mk (Value.ref b :: As).toArray, t, U', L, E, ce, hT, X', hL, e1, e2, hq, hce, hcv, vx_cls hW₁ hcl, st⟩
theorem vx_runSN {y : MethodName} {bytes cc : ByteArray} {maxL nL mc ms n index : Nat} {ret : Option FieldType} {ws : List Cond} {rm : Room} {Pc : Array Value → State → Prop} {Qc : Array Value → State → Outcome → State → Prop} {XC : String → State → State → Prop} {free : Addr → Prop} {Ts : List Cond} {own host : String} {As rest : List Value} {g : JFrame}
    (S : CallFix p m c cc nL s args Ts own) (hM : vx_Met l y ws rm Pc Qc XC mc ms free) (cw : va_CN R s args own index y host bytes maxL ret ws rm mc ms n ∧ (Cond.static y).before args s = true ∧ True) (hp : PreS s H Pc As)
    (hg : g.method = m) (hn : As.length = n) (hsize : g.locals.size = nL) (hstack : g.stack = As.reverse ++ rest) (hW : 2 * g.monitorRoom + (rest.map fun v => v.category).sum ≤ 8) (hdg : decode cc g.pc = .ok (.invokestatic index, 3)) (hf : cells + mc ≤ R.cells ∧ slots + ms ≤ R.slots) :
    vx_Run p l e R s m args below meth c H locs cells slots mc ms g rest (Qc As.toArray) XC free := by
  obtain ⟨⟨⟨hrc, hrs, hfr, hlo, hws, hcw⟩, hcode, hini, hy, hlen, hl⟩, hx1, hx2⟩ := cw
  have hK : vx_Back l R p e below s args y 3 8 (PreOf R mc ms Pc) (PostOf Qc mc ms free) (vx_Post XC mc ms free) := vx_back (bytes := bytes) (maxL := maxL) (ret := ret) hM hp.1 hrc hrs hfr hlo hws hcw (fun a' U hW => word_at hW (Or.inl (by first | rfl | simp [Cond.onTables, Cond.keeps, Cond.steady])) hini)
  obtain ⟨hx, hb, hml, ho, -⟩ := S
  have hPc := hp.2
  intro T hT X
  rcases vx_callSN X hx (bytes := bytes) (maxL := maxL) (ret := ret) ho hl hx1 hini hcode hy hK hg (hsize.trans hml.symm) (argsL := As) (rest := rest) (fun sig h => hn.trans (hlen sig h)) hstack hW (by rw [hb]; exact hdg)
    (fun vm₁ hW₁ => ⟨hf.1, hf.2, hPc (T.setVm vm₁) hT hW₁⟩) with ⟨v, vm₁, ⟨U', l2, c2, s2⟩, hW₁, X', ⟨g', mk, t, L, e1, e2, hq, h1, hL, h2, h3⟩, st⟩ | ⟨q, vm₁, ⟨U', l2, c2, s2⟩, hW₁, X', ⟨g', mk, t, L, E, ce, e1, e2, hq, hce, hcv, hcl, h1, hL, h2, h3⟩, st⟩
  · dsimp only [Pt.U, Pt.locs, Pt.cells, Pt.slots] at X' e1 e2 h1 h2 h3 st
    subst h1; subst h2; subst h3
    exact Or.inl ⟨v, (T.setVm vm₁).calling g' mk As.toArray, t, U', L, hT, X', hL, e1, e2, hq, st⟩
  · dsimp only [Pt.U, Pt.locs, Pt.cells, Pt.slots] at X' e1 e2 h1 h2 h3 st hcl
    subst h1; subst h2; subst h3
    exact Or.inr ⟨q, (T.setVm vm₁).calling g' mk As.toArray, t, U', L, E, ce, hT, X', hL, e1, e2, hq, hce, hcv, vx_cls hW₁ hcl, st⟩
end
/-! ===== END ===== -/
/-! ===== BEGIN calls by an interface of methods that may throw (vx_callIF, vx_runF follow va_callIF, va_runF of this kit) ===== -/
section
variable {p : Program} {l : Launch} {e : Env} {R : Room} {s : State} {m : MethodId} {args : Array Value} {below : List Frame} {meth : Method} {c : Code} {H : Heap} {locs : List Loc} {cells slots : Nat} {Q : State → Prop}
variable {mc ms : Nat} {free : Addr → Prop} {A0 A1 : Nat → Prop} {H0 : Heap} {a : Array Value} {pc : Nat} {ls : Array Slot} {st0 rest : List Value}
def vx_Run5 (p : Program) (l : Launch) (e : Env) (R : Room) (s : State) (m : MethodId) (args : Array Value) (below : List Frame) (meth : Method) (c : Code) (H : Heap) (locs : List Loc) (cells slots mc ms : Nat) (g : JFrame) (rest : List Value) (Qa : State → Outcome → State → Prop) (XC : String → State → State → Prop) (free : Addr → Prop) : Prop :=
  ∀ T : State, T.heap = H → Stand p l e R s m args below meth c T locs cells slots →
    (∃ (v : Option Value) (st₀ t T' : State) (L : List Loc), st₀.heap = H ∧ Stand p l e R s m args below meth c T' (locs ++ L) (cells + mc) (slots + ms) ∧ (∀ q ∈ L, free q.base) ∧ T'.heap = t.heap ∧ T'.vm = t.vm ∧ Qa st₀ (.returned v) t ∧
      Goes p e below T g T' { g with pc := g.pc + 5, stack := v.toList ++ rest }) ∨
    (∃ (q : Addr) (st₀ t T' : State) (L : List Loc) (E : String) (ce : Cell), st₀.heap = H ∧ Stand p l e R s m args below meth c T' (locs ++ L) (cells + mc) (slots + ms) ∧ (∀ z ∈ L, free z.base) ∧ T'.heap = t.heap ∧ T'.vm = t.vm ∧ XC E st₀ t ∧ t.heap[q]? = some ce ∧ ce.vm = .none ∧ s.vm.findClass E = some ce.cls ∧
      Steps p.tables e below (T.setTop g) ((T'.setTop { g with stack := rest }).pushFrame (.throwing q)))
theorem vx_callIF {T : State} (X : Stand p l e R s m args below meth c T locs cells slots) (hexec : p.tables.exec = Jvm.exec) {own C : String} {index count : Nat} {x y : MethodName} {bytes : ByteArray} {maxL : Nat} {ret : Option FieldType}
    (hown : s.vm.findClass own = some m.cls) (hlink : (Cond.methodLink own index x).before args s = true) (hdecl : (Cond.declares x).before args s = true) (hface : (Cond.interfaceMethod x.cls x.cls x.name x.desc).before args s = true)
    (hsel : (Cond.selects C x y).before args s = true) (hinst : (Cond.instanceMethod y).before args s = true) (hpub : (Cond.publicMethod y).before args s = true) (hunh : (Cond.unhidden C x.name x.desc).before args s = true)
    (hcast : (Cond.castable C x.cls).before args s = true) (hcode : (Cond.code y bytes maxL ret).before args s = true) (hx : x.cls ≠ "java/lang/invoke/MethodHandle" ∧ x.cls ≠ "java/lang/invoke/VarHandle")
    {W9 : Nat} {Pre : Pt → Array Value → Prop} {Post : Pt → Array Value → Option Value → Pt → Prop} {PostX : Pt → Array Value → Addr → Pt → Prop} (hK : vx_Back l R p e below s args y 5 W9 Pre Post PostX)
    {b : Addr} {cellB : Cell} {kB : Class} (hcell : T.heap[b]? = some cellB) (hobj : cellB.vm.isStatics = false) (hcls : s.vm.findClass C = some cellB.cls) (hkB : s.vm.classes[cellB.cls]? = some kB)
    {g : JFrame} (hg : g.method = m) (hsize : g.locals.size = c.maxLocals) {argsL rest : List Value} (hlen : ∀ sig, parseMethodDescriptor x.desc = some sig → argsL.length = sig.parameters.length)
    (hstack : g.stack = argsL.reverse ++ .ref b :: rest) (hW : 2 * g.monitorRoom + (rest.map fun v => v.category).sum ≤ W9) (hdg : decode c.code g.pc = .ok (.invokeinterface index count, 5))
    (hpre : ∀ vm₁, s.WarmedH vm₁ → Pre ⟨T.setVm vm₁, locs, cells, slots⟩ (Value.ref b :: argsL).toArray) :
    (∃ (v : Option Value) (vm₁ : Vm) (B : Pt), s.WarmedH vm₁ ∧ Stand p l e R s m args below meth c B.U B.locs B.cells B.slots ∧ Post ⟨T.setVm vm₁, locs, cells, slots⟩ (Value.ref b :: argsL).toArray v B ∧
      ∀ target, Steps p.tables e below (B.U.setTop { g with pc := g.pc + 5, stack := v.toList ++ rest }) target → Steps p.tables e below (T.setTop g) target) ∨
    (∃ (q : Addr) (vm₁ : Vm) (B : Pt), s.WarmedH vm₁ ∧ Stand p l e R s m args below meth c B.U B.locs B.cells B.slots ∧ PostX ⟨T.setVm vm₁, locs, cells, slots⟩ (Value.ref b :: argsL).toArray q B ∧
      Steps p.tables e below (T.setTop g) ((B.U.setTop { g with stack := rest }).pushFrame (.throwing q))) := by
  obtain ⟨r0, r, hn, hrm, hstR, hsigR⟩ := Cond.declares_spec hdecl
  obtain ⟨cL, kL, r1, hcL, hkL, hiL, hfoundL, hn1⟩ := Cond.interfaceMethod_spec hface
  cases hn.symm.trans hn1
  have hr0cls : r0.cls = cL := Option.some.inj ((findClass_of_methodNamed hn).symm.trans hcL)
  obtain ⟨hnameR, hdescR⟩ := name_of_methodNamed hn hrm
  obtain ⟨mk, methM, hnamed, hmethM, -, habM⟩ := Cond.instanceMethod_spec hinst
  obtain ⟨c2, r2, m2, q1, q2, q3, q4, -⟩ := Cond.selects_spec hsel
  cases hcls.symm.trans q1
  cases hfoundL.symm.trans q2
  cases hnamed.symm.trans q3
  have hselP : selectMethod e.platform s.vm cellB.cls r0 = .method mk := by rw [Launch.admits_selectMethod X.admits]; exact q4
  have hpubM : hasFlag methM.accessFlags Acc.public_ = true := Cond.publicMethod_spec hnamed hmethM hpub
  have hway : ((cellB.cls :: s.vm.superclasses cellB.cls).any fun k => (declaredIn s.vm r.name r.desc k).any fun (_, z) => z.isPrivate || z.isStatic) = false := by
    rw [hnameR, hdescR]; exact Cond.unhidden_spec hcls hunh
  obtain ⟨c3, t3, w1, w2, w3⟩ := Cond.castable_spec hcast
  cases hcls.symm.trans w1
  cases hcL.symm.trans w2
  obtain ⟨vm₁, X₁, hstep₁⟩ := X.invokeinterface hexec hown hlink hn hrm hstR (by rw [hr0cls]; exact hkL) hiL hx (a := b) (cell := cellB) (kcell := kB) hcell
    (fun z h => by rw [h] at hobj; cases hobj) hkB (by rw [hr0cls]; exact w3) hselP hmethM hway hpubM habM (g := g) hg (argsL := argsL) (rest := rest) (hlen _ hsigR) hstack hdg
  rcases hK m meth c ⟨T.setVm vm₁, locs, cells, slots⟩ { g with stack := rest } (.invokeinterface index count) mk (Value.ref b :: argsL).toArray X₁ hg hsize hdg hW (X₁.named hnamed) (hpre vm₁ X₁.warmed) with ⟨v, B, X', hpost, hsteps⟩ | ⟨q, B, X', hpost, hsteps⟩
  · exact Or.inl ⟨v, vm₁, B, X₁.warmed, X', hpost, fun target h => hstep₁ _ fun acts => by rw [doInvoke_state]; exact hsteps.trans h⟩
  · exact Or.inr ⟨q, vm₁, B, X₁.warmed, X', hpost, hstep₁ _ fun acts => by rw [doInvoke_state]; exact hsteps⟩
theorem vx_runF {x y : MethodName} {bytes cc : ByteArray} {maxL nL mc ms n index count : Nat} {ret : Option FieldType} {ws : List Cond} {rm : Room} {Pc : Array Value → State → Prop} {Qc : Array Value → State → Outcome → State → Prop} {XC : String → State → State → Prop} {free : Addr → Prop} {Ts : List Cond} {own C : String} {cC : ClassId} {b : Addr} {As rest : List Value} {g : JFrame}
    (hat : ClassAt s C cC) (S : CallFix p m c cc nL s args Ts own) (hM : vx_Met l y ws rm Pc Qc XC mc ms free) (cw : va_CI R s args own C index x y bytes maxL ret ws rm mc ms n) (hp : PreV s H C b Pc As)
    (hg : g.method = m) (hn : As.length = n) (hsize : g.locals.size = nL) (hstack : g.stack = As.reverse ++ .ref b :: rest) (hW : 2 * g.monitorRoom + (rest.map fun v => v.category).sum ≤ 8) (hdg : decode cc g.pc = .ok (.invokeinterface index count, 5)) (hf : cells + mc ≤ R.cells ∧ slots + ms ≤ R.slots) :
    vx_Run5 p l e R s m args below meth c H locs cells slots mc ms g rest (Qc (Value.ref b :: As).toArray) XC free := by
  obtain ⟨hrc, hrs, hfr, hlo, hws, hcw⟩ := cw.back
  have hini := cw.init
  have hK : vx_Back l R p e below s args y 5 8 (PreOf R mc ms Pc) (PostOf Qc mc ms free) (vx_Post XC mc ms free) := vx_back (bytes := bytes) (maxL := maxL) (ret := ret) hM hp.1 hrc hrs hfr hlo hws hcw (fun a' U hW => word_at hW (Or.inl (by first | rfl | simp [Cond.onTables, Cond.keeps, Cond.steady])) hini)
  obtain ⟨hx, hb, hml, ho, -⟩ := S
  obtain ⟨-, ⟨cellB, hcB, hoB, hclB⟩, hPc⟩ := hp
  obtain ⟨hfc, kB, hkB, -⟩ := hat
  cases hfc.symm.trans hclB
  intro T hT X
  rcases vx_callIF X hx (C := C) (bytes := bytes) (maxL := maxL) (ret := ret) ho cw.link cw.decl cw.face cw.sel cw.inst cw.pub cw.unh cw.cast cw.code cw.notMH hK (by rw [hT]; exact hcB) hoB hclB hkB hg (hsize.trans hml.symm) (argsL := As) (rest := rest) (fun sig h => hn.trans (cw.len sig h)) hstack hW (by rw [hb]; exact hdg)
    (fun vm₁ hW₁ => ⟨hf.1, hf.2, hPc (T.setVm vm₁) hT hW₁⟩) with ⟨v, vm₁, ⟨U', l2, c2, s2⟩, hW₁, X', ⟨g', mk, t, L, e1, e2, hq, h1, hL, h2, h3⟩, st⟩ | ⟨q, vm₁, ⟨U', l2, c2, s2⟩, hW₁, X', ⟨g', mk, t, L, E, ce, e1, e2, hq, hce, hcv, hcl, h1, hL, h2, h3⟩, st⟩
  · dsimp only [Pt.U, Pt.locs, Pt.cells, Pt.slots] at X' e1 e2 h1 h2 h3 st
    subst h1; subst h2; subst h3
    exact Or.inl ⟨v, (T.setVm vm₁).calling g' mk (Value.ref b :: As).toArray, t, U', L, hT, X', hL, e1, e2, hq, st⟩
  · dsimp only [Pt.U, Pt.locs, Pt.cells, Pt.slots] at X' e1 e2 h1 h2 h3 st hcl
    subst h1; subst h2; subst h3
    exact Or.inr ⟨q, (T.setVm vm₁).calling g' mk (Value.ref b :: As).toArray, t, U', L, E, ce, hT, X', hL, e1, e2, hq, hce, hcv, vx_cls hW₁ hcl, st⟩
theorem vx_callFv {S SX : Type} {post : S → Prop} {px : SX → Prop} {B : S → State → Prop} {BX : String → SX → State → Prop} {AX : Nat → Prop} (hr : vx_Run5 p l e R s m args below meth c H locs cells slots mc ms (F0 m pc ls st0) rest (va_Qv post B A1 a) (vx_X px BX AX) free) (hS : va_S A0 H0 H locs) (hA : ∀ q, q < H.size → A1 q → A0 q) (hf : ∀ q, free q → A0 q) (hAX : ∀ q, q < H.size → AX q → A0 q)
    (kx : ∀ (E : String) (ce : Cell) (q9 : Addr) (u : SX) (t : State) (H1 : Heap) (locs1 : List Loc), t.heap = H1 → s.vm.Alike t.vm → px u → BX E u t → H.size ≤ H1.size → (∀ q : Nat, q < H.size → ¬ AX q → H1[q]? = H[q]?) → va_S A0 H0 H1 locs1 → H1[q9]? = some ce → ce.vm = .none → s.vm.findClass E = some ce.cls → vx_W p l e R s m args below meth c H1 locs1 (cells + mc) (slots + ms) Q (F0 m pc ls rest) q9)
    (kk : ∀ (u : S) (t : State) (H1 : Heap) (locs1 : List Loc), t.heap = H1 → s.vm.Alike t.vm → post u → B u t → H.size ≤ H1.size → (∀ q : Nat, q < H.size → ¬ A1 q → H1[q]? = H[q]?) → va_S A0 H0 H1 locs1 → W p l e R s m args below meth c H1 locs1 (cells + mc) (slots + ms) Q (F0 m (pc + 5) ls (rest))) : W p l e R s m args below meth c H locs cells slots Q (F0 m pc ls st0) := by
  intro T hT X
  rcases hr T hT X with ⟨v, st₀, t, T', L, h0, X', hL, e1, e2, ⟨⟨u, hv, hp, hb⟩, hF⟩, st⟩ | ⟨q, st₀, t, T', L, E, ce, h0, X', hL, e1, e2, ⟨u, hp, hb, hF⟩, hce, hcv, hcl, st⟩
  · cases hv
    obtain ⟨k1, k2, k3⟩ := vx_keep h0 e1 hS hA hf hL hF
    obtain ⟨t2, a1, b1⟩ := kk u t T'.heap (locs ++ L) e1.symm (by rw [← e2]; exact X'.warmed.alike) hp hb k1 k2 k3 T' rfl X'
    exact ⟨t2, st t2 a1, b1⟩
  · obtain ⟨k1, k2, k3⟩ := vx_keep h0 e1 hS hAX hf hL hF
    obtain ⟨t2, a1, b1⟩ := kx E ce q u t T'.heap (locs ++ L) e1.symm (by rw [← e2]; exact X'.warmed.alike) hp hb k1 k2 k3 (by rw [e1]; exact hce) hcv hcl T' rfl X'
    exact ⟨t2, st.trans a1, b1⟩
theorem vx_callFi {S SX : Type} {post : Int32 → S → Prop} {px : SX → Prop} {B : S → State → Prop} {BX : String → SX → State → Prop} {AX : Nat → Prop} (hr : vx_Run5 p l e R s m args below meth c H locs cells slots mc ms (F0 m pc ls st0) rest (va_Qi post B A1 a) (vx_X px BX AX) free) (hS : va_S A0 H0 H locs) (hA : ∀ q, q < H.size → A1 q → A0 q) (hf : ∀ q, free q → A0 q) (hAX : ∀ q, q < H.size → AX q → A0 q)
    (kx : ∀ (E : String) (ce : Cell) (q9 : Addr) (u : SX) (t : State) (H1 : Heap) (locs1 : List Loc), t.heap = H1 → s.vm.Alike t.vm → px u → BX E u t → H.size ≤ H1.size → (∀ q : Nat, q < H.size → ¬ AX q → H1[q]? = H[q]?) → va_S A0 H0 H1 locs1 → H1[q9]? = some ce → ce.vm = .none → s.vm.findClass E = some ce.cls → vx_W p l e R s m args below meth c H1 locs1 (cells + mc) (slots + ms) Q (F0 m pc ls rest) q9)
    (kk : ∀ (r : Int32) (u : S) (t : State) (H1 : Heap) (locs1 : List Loc), t.heap = H1 → s.vm.Alike t.vm → post r u → B u t → H.size ≤ H1.size → (∀ q : Nat, q < H.size → ¬ A1 q → H1[q]? = H[q]?) → va_S A0 H0 H1 locs1 → W p l e R s m args below meth c H1 locs1 (cells + mc) (slots + ms) Q (F0 m (pc + 5) ls (.int r :: rest))) : W p l e R s m args below meth c H locs cells slots Q (F0 m pc ls st0) := by
  intro T hT X
  rcases hr T hT X with ⟨v, st₀, t, T', L, h0, X', hL, e1, e2, ⟨⟨r, u, hv, hp, hb⟩, hF⟩, st⟩ | ⟨q, st₀, t, T', L, E, ce, h0, X', hL, e1, e2, ⟨u, hp, hb, hF⟩, hce, hcv, hcl, st⟩
  · cases hv
    obtain ⟨k1, k2, k3⟩ := vx_keep h0 e1 hS hA hf hL hF
    obtain ⟨t2, a1, b1⟩ := kk r u t T'.heap (locs ++ L) e1.symm (by rw [← e2]; exact X'.warmed.alike) hp hb k1 k2 k3 T' rfl X'
    exact ⟨t2, st t2 a1, b1⟩
  · obtain ⟨k1, k2, k3⟩ := vx_keep h0 e1 hS hAX hf hL hF
    obtain ⟨t2, a1, b1⟩ := kx E ce q u t T'.heap (locs ++ L) e1.symm (by rw [← e2]; exact X'.warmed.alike) hp hb k1 k2 k3 (by rw [e1]; exact hce) hcv hcl T' rfl X'
    exact ⟨t2, st.trans a1, b1⟩
theorem vx_callFl {S SX : Type} {post : Int64 → S → Prop} {px : SX → Prop} {B : S → State → Prop} {BX : String → SX → State → Prop} {AX : Nat → Prop} (hr : vx_Run5 p l e R s m args below meth c H locs cells slots mc ms (F0 m pc ls st0) rest (va_Ql post B A1 a) (vx_X px BX AX) free) (hS : va_S A0 H0 H locs) (hA : ∀ q, q < H.size → A1 q → A0 q) (hf : ∀ q, free q → A0 q) (hAX : ∀ q, q < H.size → AX q → A0 q)
    (kx : ∀ (E : String) (ce : Cell) (q9 : Addr) (u : SX) (t : State) (H1 : Heap) (locs1 : List Loc), t.heap = H1 → s.vm.Alike t.vm → px u → BX E u t → H.size ≤ H1.size → (∀ q : Nat, q < H.size → ¬ AX q → H1[q]? = H[q]?) → va_S A0 H0 H1 locs1 → H1[q9]? = some ce → ce.vm = .none → s.vm.findClass E = some ce.cls → vx_W p l e R s m args below meth c H1 locs1 (cells + mc) (slots + ms) Q (F0 m pc ls rest) q9)
    (kk : ∀ (r : Int64) (u : S) (t : State) (H1 : Heap) (locs1 : List Loc), t.heap = H1 → s.vm.Alike t.vm → post r u → B u t → H.size ≤ H1.size → (∀ q : Nat, q < H.size → ¬ A1 q → H1[q]? = H[q]?) → va_S A0 H0 H1 locs1 → W p l e R s m args below meth c H1 locs1 (cells + mc) (slots + ms) Q (F0 m (pc + 5) ls (.long r :: rest))) : W p l e R s m args below meth c H locs cells slots Q (F0 m pc ls st0) := by
  intro T hT X
  rcases hr T hT X with ⟨v, st₀, t, T', L, h0, X', hL, e1, e2, ⟨⟨r, u, hv, hp, hb⟩, hF⟩, st⟩ | ⟨q, st₀, t, T', L, E, ce, h0, X', hL, e1, e2, ⟨u, hp, hb, hF⟩, hce, hcv, hcl, st⟩
  · cases hv
    obtain ⟨k1, k2, k3⟩ := vx_keep h0 e1 hS hA hf hL hF
    obtain ⟨t2, a1, b1⟩ := kk r u t T'.heap (locs ++ L) e1.symm (by rw [← e2]; exact X'.warmed.alike) hp hb k1 k2 k3 T' rfl X'
    exact ⟨t2, st t2 a1, b1⟩
  · obtain ⟨k1, k2, k3⟩ := vx_keep h0 e1 hS hAX hf hL hF
    obtain ⟨t2, a1, b1⟩ := kx E ce q u t T'.heap (locs ++ L) e1.symm (by rw [← e2]; exact X'.warmed.alike) hp hb k1 k2 k3 (by rw [e1]; exact hce) hcv hcl T' rfl X'
    exact ⟨t2, st.trans a1, b1⟩
theorem vx_callFf {S SX : Type} {post : UInt32 → S → Prop} {px : SX → Prop} {B : S → State → Prop} {BX : String → SX → State → Prop} {AX : Nat → Prop} (hr : vx_Run5 p l e R s m args below meth c H locs cells slots mc ms (F0 m pc ls st0) rest (va_Qf post B A1 a) (vx_X px BX AX) free) (hS : va_S A0 H0 H locs) (hA : ∀ q, q < H.size → A1 q → A0 q) (hf : ∀ q, free q → A0 q) (hAX : ∀ q, q < H.size → AX q → A0 q)
    (kx : ∀ (E : String) (ce : Cell) (q9 : Addr) (u : SX) (t : State) (H1 : Heap) (locs1 : List Loc), t.heap = H1 → s.vm.Alike t.vm → px u → BX E u t → H.size ≤ H1.size → (∀ q : Nat, q < H.size → ¬ AX q → H1[q]? = H[q]?) → va_S A0 H0 H1 locs1 → H1[q9]? = some ce → ce.vm = .none → s.vm.findClass E = some ce.cls → vx_W p l e R s m args below meth c H1 locs1 (cells + mc) (slots + ms) Q (F0 m pc ls rest) q9)
    (kk : ∀ (r : UInt32) (u : S) (t : State) (H1 : Heap) (locs1 : List Loc), t.heap = H1 → s.vm.Alike t.vm → post r u → B u t → H.size ≤ H1.size → (∀ q : Nat, q < H.size → ¬ A1 q → H1[q]? = H[q]?) → va_S A0 H0 H1 locs1 → W p l e R s m args below meth c H1 locs1 (cells + mc) (slots + ms) Q (F0 m (pc + 5) ls (.float r :: rest))) : W p l e R s m args below meth c H locs cells slots Q (F0 m pc ls st0) := by
  intro T hT X
  rcases hr T hT X with ⟨v, st₀, t, T', L, h0, X', hL, e1, e2, ⟨⟨r, u, hv, hp, hb⟩, hF⟩, st⟩ | ⟨q, st₀, t, T', L, E, ce, h0, X', hL, e1, e2, ⟨u, hp, hb, hF⟩, hce, hcv, hcl, st⟩
  · cases hv
    obtain ⟨k1, k2, k3⟩ := vx_keep h0 e1 hS hA hf hL hF
    obtain ⟨t2, a1, b1⟩ := kk r u t T'.heap (locs ++ L) e1.symm (by rw [← e2]; exact X'.warmed.alike) hp hb k1 k2 k3 T' rfl X'
    exact ⟨t2, st t2 a1, b1⟩
  · obtain ⟨k1, k2, k3⟩ := vx_keep h0 e1 hS hAX hf hL hF
    obtain ⟨t2, a1, b1⟩ := kx E ce q u t T'.heap (locs ++ L) e1.symm (by rw [← e2]; exact X'.warmed.alike) hp hb k1 k2 k3 (by rw [e1]; exact hce) hcv hcl T' rfl X'
    exact ⟨t2, st.trans a1, b1⟩
theorem vx_callFd {S SX : Type} {post : UInt64 → S → Prop} {px : SX → Prop} {B : S → State → Prop} {BX : String → SX → State → Prop} {AX : Nat → Prop} (hr : vx_Run5 p l e R s m args below meth c H locs cells slots mc ms (F0 m pc ls st0) rest (va_Qd post B A1 a) (vx_X px BX AX) free) (hS : va_S A0 H0 H locs) (hA : ∀ q, q < H.size → A1 q → A0 q) (hf : ∀ q, free q → A0 q) (hAX : ∀ q, q < H.size → AX q → A0 q)
    (kx : ∀ (E : String) (ce : Cell) (q9 : Addr) (u : SX) (t : State) (H1 : Heap) (locs1 : List Loc), t.heap = H1 → s.vm.Alike t.vm → px u → BX E u t → H.size ≤ H1.size → (∀ q : Nat, q < H.size → ¬ AX q → H1[q]? = H[q]?) → va_S A0 H0 H1 locs1 → H1[q9]? = some ce → ce.vm = .none → s.vm.findClass E = some ce.cls → vx_W p l e R s m args below meth c H1 locs1 (cells + mc) (slots + ms) Q (F0 m pc ls rest) q9)
    (kk : ∀ (r : UInt64) (u : S) (t : State) (H1 : Heap) (locs1 : List Loc), t.heap = H1 → s.vm.Alike t.vm → post r u → B u t → H.size ≤ H1.size → (∀ q : Nat, q < H.size → ¬ A1 q → H1[q]? = H[q]?) → va_S A0 H0 H1 locs1 → W p l e R s m args below meth c H1 locs1 (cells + mc) (slots + ms) Q (F0 m (pc + 5) ls (.double r :: rest))) : W p l e R s m args below meth c H locs cells slots Q (F0 m pc ls st0) := by
  intro T hT X
  rcases hr T hT X with ⟨v, st₀, t, T', L, h0, X', hL, e1, e2, ⟨⟨r, u, hv, hp, hb⟩, hF⟩, st⟩ | ⟨q, st₀, t, T', L, E, ce, h0, X', hL, e1, e2, ⟨u, hp, hb, hF⟩, hce, hcv, hcl, st⟩
  · cases hv
    obtain ⟨k1, k2, k3⟩ := vx_keep h0 e1 hS hA hf hL hF
    obtain ⟨t2, a1, b1⟩ := kk r u t T'.heap (locs ++ L) e1.symm (by rw [← e2]; exact X'.warmed.alike) hp hb k1 k2 k3 T' rfl X'
    exact ⟨t2, st t2 a1, b1⟩
  · obtain ⟨k1, k2, k3⟩ := vx_keep h0 e1 hS hAX hf hL hF
    obtain ⟨t2, a1, b1⟩ := kx E ce q u t T'.heap (locs ++ L) e1.symm (by rw [← e2]; exact X'.warmed.alike) hp hb k1 k2 k3 (by rw [e1]; exact hce) hcv hcl T' rfl X'
    exact ⟨t2, st.trans a1, b1⟩
end
/-! ===== END ===== -/
/-! ===== BEGIN by an interface, a method with a table of its own that may throw (follows va_callIFW, va_runFW) ===== -/
section
variable {p : Program} {l : Launch} {e : Env} {R : Room} {s : State} {m : MethodId} {args : Array Value} {below : List Frame} {meth : Method} {c : Code} {H : Heap} {locs : List Loc} {cells slots : Nat}
theorem vx_callIFW {T : State} (X : Stand p l e R s m args below meth c T locs cells slots) (hexec : p.tables.exec = Jvm.exec) {own C : String} {index count : Nat} {x y : MethodName} {bytes : ByteArray} {maxL : Nat} {ret : Option FieldType} {hh : List (Nat × Nat × Nat × Nat)}
    (hown : s.vm.findClass own = some m.cls) (hlink : (Cond.methodLink own index x).before args s = true) (hdecl : (Cond.declares x).before args s = true) (hface : (Cond.interfaceMethod x.cls x.cls x.name x.desc).before args s = true)
    (hsel : (Cond.selects C x y).before args s = true) (hinst : (Cond.instanceMethod y).before args s = true) (hpub : (Cond.publicMethod y).before args s = true) (hunh : (Cond.unhidden C x.name x.desc).before args s = true)
    (hcast : (Cond.castable C x.cls).before args s = true) (hcode : (Cond.codeWith y bytes maxL ret hh).before args s = true) (hx : x.cls ≠ "java/lang/invoke/MethodHandle" ∧ x.cls ≠ "java/lang/invoke/VarHandle")
    {W : Nat} {Pre : Pt → Array Value → Prop} {Post : Pt → Array Value → Option Value → Pt → Prop} {PostX : Pt → Array Value → Addr → Pt → Prop} (hK : vx_Back l R p e below s args y 5 W Pre Post PostX)
    {b : Addr} {cellB : Cell} {kB : Class} (hcell : T.heap[b]? = some cellB) (hobj : cellB.vm.isStatics = false) (hcls : s.vm.findClass C = some cellB.cls) (hkB : s.vm.classes[cellB.cls]? = some kB)
    {g : JFrame} (hg : g.method = m) (hsize : g.locals.size = c.maxLocals) {argsL rest : List Value} (hlen : ∀ sig, parseMethodDescriptor x.desc = some sig → argsL.length = sig.parameters.length)
    (hstack : g.stack = argsL.reverse ++ .ref b :: rest) (hW : 2 * g.monitorRoom + (rest.map fun v => v.category).sum ≤ W) (hdg : decode c.code g.pc = .ok (.invokeinterface index count, 5))
    (hpre : ∀ vm₁, s.WarmedH vm₁ → Pre ⟨T.setVm vm₁, locs, cells, slots⟩ (Value.ref b :: argsL).toArray) :
    (∃ (v : Option Value) (vm₁ : Vm) (B : Pt), s.WarmedH vm₁ ∧ Stand p l e R s m args below meth c B.U B.locs B.cells B.slots ∧ Post ⟨T.setVm vm₁, locs, cells, slots⟩ (Value.ref b :: argsL).toArray v B ∧
      ∀ target, Steps p.tables e below (B.U.setTop { g with pc := g.pc + 5, stack := v.toList ++ rest }) target → Steps p.tables e below (T.setTop g) target) ∨
    (∃ (q : Addr) (vm₁ : Vm) (B : Pt), s.WarmedH vm₁ ∧ Stand p l e R s m args below meth c B.U B.locs B.cells B.slots ∧ PostX ⟨T.setVm vm₁, locs, cells, slots⟩ (Value.ref b :: argsL).toArray q B ∧
      Steps p.tables e below (T.setTop g) ((B.U.setTop { g with stack := rest }).pushFrame (.throwing q))) := by
  obtain ⟨r0, r, hn, hrm, hstR, hsigR⟩ := Cond.declares_spec hdecl
  obtain ⟨cL, kL, r1, hcL, hkL, hiL, hfoundL, hn1⟩ := Cond.interfaceMethod_spec hface
  cases hn.symm.trans hn1
  have hr0cls : r0.cls = cL := Option.some.inj ((findClass_of_methodNamed hn).symm.trans hcL)
  obtain ⟨hnameR, hdescR⟩ := name_of_methodNamed hn hrm
  obtain ⟨mk, methM, hnamed, hmethM, -, habM⟩ := Cond.instanceMethod_spec hinst
  obtain ⟨c2, r2, m2, q1, q2, q3, q4, -⟩ := Cond.selects_spec hsel
  cases hcls.symm.trans q1
  cases hfoundL.symm.trans q2
  cases hnamed.symm.trans q3
  have hselP : selectMethod e.platform s.vm cellB.cls r0 = .method mk := by rw [Launch.admits_selectMethod X.admits]; exact q4
  have hpubM : hasFlag methM.accessFlags Acc.public_ = true := Cond.publicMethod_spec hnamed hmethM hpub
  have hway : ((cellB.cls :: s.vm.superclasses cellB.cls).any fun k => (declaredIn s.vm r.name r.desc k).any fun (_, z) => z.isPrivate || z.isStatic) = false := by
    rw [hnameR, hdescR]; exact Cond.unhidden_spec hcls hunh
  obtain ⟨c3, t3, w1, w2, w3⟩ := Cond.castable_spec hcast
  cases hcls.symm.trans w1
  cases hcL.symm.trans w2
  obtain ⟨vm₁, X₁, hstep₁⟩ := X.invokeinterface hexec hown hlink hn hrm hstR (by rw [hr0cls]; exact hkL) hiL hx (a := b) (cell := cellB) (kcell := kB) hcell
    (fun z h => by rw [h] at hobj; cases hobj) hkB (by rw [hr0cls]; exact w3) hselP hmethM hway hpubM habM (g := g) hg (argsL := argsL) (rest := rest) (hlen _ hsigR) hstack hdg
  rcases hK m meth c ⟨T.setVm vm₁, locs, cells, slots⟩ { g with stack := rest } (.invokeinterface index count) mk (Value.ref b :: argsL).toArray X₁ hg hsize hdg hW (X₁.named hnamed) (hpre vm₁ X₁.warmed) with ⟨v, B, X', hpost, hsteps⟩ | ⟨q, B, X', hpost, hsteps⟩
  · exact Or.inl ⟨v, vm₁, B, X₁.warmed, X', hpost, fun target h => hstep₁ _ fun acts => by rw [doInvoke_state]; exact hsteps.trans h⟩
  · exact Or.inr ⟨q, vm₁, B, X₁.warmed, X', hpost, hstep₁ _ fun acts => by rw [doInvoke_state]; exact hsteps⟩
theorem vx_runFW {x y : MethodName} {bytes cc : ByteArray} {maxL nL mc ms n index count : Nat} {ret : Option FieldType} {hh : List (Nat × Nat × Nat × Nat)} {ws : List Cond} {rm : Room} {Pc : Array Value → State → Prop} {Qc : Array Value → State → Outcome → State → Prop} {XC : String → State → State → Prop} {free : Addr → Prop} {Ts : List Cond} {own C : String} {cC : ClassId} {b : Addr} {As rest : List Value} {g : JFrame}
    (hat : ClassAt s C cC) (S : CallFix p m c cc nL s args Ts own) (hM : vx_Met l y ws rm Pc Qc XC mc ms free) (cw : va_CIW R s args own C index x y bytes maxL ret hh ws rm mc ms n) (hp : PreV s H C b Pc As)
    (hg : g.method = m) (hn : As.length = n) (hsize : g.locals.size = nL) (hstack : g.stack = As.reverse ++ .ref b :: rest) (hW : 2 * g.monitorRoom + (rest.map fun v => v.category).sum ≤ 8) (hdg : decode cc g.pc = .ok (.invokeinterface index count, 5)) (hf : cells + mc ≤ R.cells ∧ slots + ms ≤ R.slots) :
    vx_Run5 p l e R s m args below meth c H locs cells slots mc ms g rest (Qc (Value.ref b :: As).toArray) XC free := by
  obtain ⟨hrc, hrs, hfr, hlo, hws, hcw⟩ := cw.back
  have hini := cw.init
  have hK : vx_Back l R p e below s args y 5 8 (PreOf R mc ms Pc) (PostOf Qc mc ms free) (vx_Post XC mc ms free) := vx_backW (hh := hh) (bytes := bytes) (maxL := maxL) (ret := ret) hM hp.1 hrc hrs hfr hlo hws hcw (fun a' U hW => word_at hW (Or.inl (by first | rfl | simp [Cond.onTables, Cond.keeps, Cond.steady])) hini)
  obtain ⟨hx, hb, hml, ho, -⟩ := S
  obtain ⟨-, ⟨cellB, hcB, hoB, hclB⟩, hPc⟩ := hp
  obtain ⟨hfc, kB, hkB, -⟩ := hat
  cases hfc.symm.trans hclB
  intro T hT X
  rcases vx_callIFW X hx (C := C) (hh := hh) (bytes := bytes) (maxL := maxL) (ret := ret) ho cw.link cw.decl cw.face cw.sel cw.inst cw.pub cw.unh cw.cast cw.code cw.notMH hK (by rw [hT]; exact hcB) hoB hclB hkB hg (hsize.trans hml.symm) (argsL := As) (rest := rest) (fun sig h => hn.trans (cw.len sig h)) hstack hW (by rw [hb]; exact hdg)
    (fun vm₁ hW₁ => ⟨hf.1, hf.2, hPc (T.setVm vm₁) hT hW₁⟩) with ⟨v, vm₁, ⟨U', l2, c2, s2⟩, hW₁, X', ⟨g', mk, t, L, e1, e2, hq, h1, hL, h2, h3⟩, st⟩ | ⟨q, vm₁, ⟨U', l2, c2, s2⟩, hW₁, X', ⟨g', mk, t, L, E, ce, e1, e2, hq, hce, hcv, hcl, h1, hL, h2, h3⟩, st⟩
  · dsimp only [Pt.U, Pt.locs, Pt.cells, Pt.slots] at X' e1 e2 h1 h2 h3 st
    subst h1; subst h2; subst h3
    exact Or.inl ⟨v, (T.setVm vm₁).calling g' mk (Value.ref b :: As).toArray, t, U', L, hT, X', hL, e1, e2, hq, st⟩
  · dsimp only [Pt.U, Pt.locs, Pt.cells, Pt.slots] at X' e1 e2 h1 h2 h3 st hcl
    subst h1; subst h2; subst h3
    exact Or.inr ⟨q, (T.setVm vm₁).calling g' mk (Value.ref b :: As).toArray, t, U', L, E, ce, hT, X', hL, e1, e2, hq, hce, hcv, vx_cls hW₁ hcl, st⟩
end
/-! ===== END ===== -/
/-! ===== BEGIN .. of methods that hand back an object of the pool ===== -/
section
variable {p : Program} {l : Launch} {e : Env} {R : Room} {s : State} {m : MethodId} {args : Array Value} {below : List Frame} {meth : Method} {c : Code} {H : Heap} {locs : List Loc} {cells slots : Nat} {Q : State → Prop}
variable {mc ms : Nat} {free : Addr → Prop} {A0 A1 : Nat → Prop} {H0 : Heap} {a : Array Value} {pc : Nat} {ls : Array Slot} {st0 rest : List Value}
theorem vx_callq {S SX : Type} {post : Option Nat → S → Prop} {px : SX → Prop} {B : S → State → Prop} {BX : String → SX → State → Prop} {AX : Nat → Prop} (hr : vx_Run p l e R s m args below meth c H locs cells slots mc ms (F0 m pc ls st0) rest (va_Qq post B A1 a) (vx_X px BX AX) free) (hS : va_S A0 H0 H locs) (hA : ∀ q, q < H.size → A1 q → A0 q) (hf : ∀ q, free q → A0 q) (hAX : ∀ q, q < H.size → AX q → A0 q)
    (kx : ∀ (E : String) (ce : Cell) (q9 : Addr) (u : SX) (t : State) (H1 : Heap) (locs1 : List Loc), t.heap = H1 → s.vm.Alike t.vm → px u → BX E u t → H.size ≤ H1.size → (∀ q : Nat, q < H.size → ¬ AX q → H1[q]? = H[q]?) → va_S A0 H0 H1 locs1 → H1[q9]? = some ce → ce.vm = .none → s.vm.findClass E = some ce.cls → vx_W p l e R s m args below meth c H1 locs1 (cells + mc) (slots + ms) Q (F0 m pc ls rest) q9)
    (kk : ∀ (r : Option Nat) (u : S) (t : State) (H1 : Heap) (locs1 : List Loc), t.heap = H1 → s.vm.Alike t.vm → post r u → B u t → H.size ≤ H1.size → (∀ q : Nat, q < H.size → ¬ A1 q → H1[q]? = H[q]?) → va_S A0 H0 H1 locs1 → W p l e R s m args below meth c H1 locs1 (cells + mc) (slots + ms) Q (F0 m (pc + 3) ls (va_rf r :: rest))) : W p l e R s m args below meth c H locs cells slots Q (F0 m pc ls st0) := by
  intro T hT X
  rcases hr T hT X with ⟨v, st₀, t, T', L, h0, X', hL, e1, e2, ⟨⟨r, u, hv, hp, hb⟩, hF⟩, st⟩ | ⟨q, st₀, t, T', L, E, ce, h0, X', hL, e1, e2, ⟨u, hp, hb, hF⟩, hce, hcv, hcl, st⟩
  · cases hv
    obtain ⟨k1, k2, k3⟩ := vx_keep h0 e1 hS hA hf hL hF
    obtain ⟨t2, a1, b1⟩ := kk r u t T'.heap (locs ++ L) e1.symm (by rw [← e2]; exact X'.warmed.alike) hp hb k1 k2 k3 T' rfl X'
    exact ⟨t2, st t2 a1, b1⟩
  · obtain ⟨k1, k2, k3⟩ := vx_keep h0 e1 hS hAX hf hL hF
    obtain ⟨t2, a1, b1⟩ := kx E ce q u t T'.heap (locs ++ L) e1.symm (by rw [← e2]; exact X'.warmed.alike) hp hb k1 k2 k3 (by rw [e1]; exact hce) hcv hcl T' rfl X'
    exact ⟨t2, st.trans a1, b1⟩
end
/-! ===== END ===== -/
/-! ===== BEGIN .. a constant ===== -/
section
variable {p : Program} {l : Launch} {e : Env} {R : Room} {s : State} {m : MethodId} {args : Array Value} {below : List Frame} {meth : Method} {c : Code} {H : Heap} {locs : List Loc} {cells slots : Nat} {Q : State → Prop}
variable {mc ms : Nat} {free : Addr → Prop} {A0 A1 : Nat → Prop} {H0 : Heap} {a : Array Value} {pc : Nat} {ls : Array Slot} {st0 rest : List Value}
theorem vx_calle {ad : Nat → Nat} {S SX : Type} {post : Option Nat → S → Prop} {px : SX → Prop} {B : S → State → Prop} {BX : String → SX → State → Prop} {AX : Nat → Prop} (hr : vx_Run p l e R s m args below meth c H locs cells slots mc ms (F0 m pc ls st0) rest (va_Qe ad post B A1 a) (vx_X px BX AX) free) (hS : va_S A0 H0 H locs) (hA : ∀ q, q < H.size → A1 q → A0 q) (hf : ∀ q, free q → A0 q) (hAX : ∀ q, q < H.size → AX q → A0 q)
    (kx : ∀ (E : String) (ce : Cell) (q9 : Addr) (u : SX) (t : State) (H1 : Heap) (locs1 : List Loc), t.heap = H1 → s.vm.Alike t.vm → px u → BX E u t → H.size ≤ H1.size → (∀ q : Nat, q < H.size → ¬ AX q → H1[q]? = H[q]?) → va_S A0 H0 H1 locs1 → H1[q9]? = some ce → ce.vm = .none → s.vm.findClass E = some ce.cls → vx_W p l e R s m args below meth c H1 locs1 (cells + mc) (slots + ms) Q (F0 m pc ls rest) q9)
    (kk : ∀ (r : Option Nat) (u : S) (t : State) (H1 : Heap) (locs1 : List Loc), t.heap = H1 → s.vm.Alike t.vm → post r u → B u t → H.size ≤ H1.size → (∀ q : Nat, q < H.size → ¬ A1 q → H1[q]? = H[q]?) → va_S A0 H0 H1 locs1 → W p l e R s m args below meth c H1 locs1 (cells + mc) (slots + ms) Q (F0 m (pc + 3) ls (va_re ad r :: rest))) : W p l e R s m args below meth c H locs cells slots Q (F0 m pc ls st0) := by
  intro T hT X
  rcases hr T hT X with ⟨v, st₀, t, T', L, h0, X', hL, e1, e2, ⟨⟨r, u, hv, hp, hb⟩, hF⟩, st⟩ | ⟨q, st₀, t, T', L, E, ce, h0, X', hL, e1, e2, ⟨u, hp, hb, hF⟩, hce, hcv, hcl, st⟩
  · cases hv
    obtain ⟨k1, k2, k3⟩ := vx_keep h0 e1 hS hA hf hL hF
    obtain ⟨t2, a1, b1⟩ := kk r u t T'.heap (locs ++ L) e1.symm (by rw [← e2]; exact X'.warmed.alike) hp hb k1 k2 k3 T' rfl X'
    exact ⟨t2, st t2 a1, b1⟩
  · obtain ⟨k1, k2, k3⟩ := vx_keep h0 e1 hS hAX hf hL hF
    obtain ⟨t2, a1, b1⟩ := kx E ce q u t T'.heap (locs ++ L) e1.symm (by rw [← e2]; exact X'.warmed.alike) hp hb k1 k2 k3 (by rw [e1]; exact hce) hcv hcl T' rfl X'
    exact ⟨t2, st.trans a1, b1⟩
end
/-! ===== END ===== -/
/-! ===== BEGIN .. by an interface, an object ===== -/
section
variable {p : Program} {l : Launch} {e : Env} {R : Room} {s : State} {m : MethodId} {args : Array Value} {below : List Frame} {meth : Method} {c : Code} {H : Heap} {locs : List Loc} {cells slots : Nat} {Q : State → Prop}
variable {mc ms : Nat} {free : Addr → Prop} {A0 A1 : Nat → Prop} {H0 : Heap} {a : Array Value} {pc : Nat} {ls : Array Slot} {st0 rest : List Value}
theorem vx_callFq {S SX : Type} {post : Option Nat → S → Prop} {px : SX → Prop} {B : S → State → Prop} {BX : String → SX → State → Prop} {AX : Nat → Prop} (hr : vx_Run5 p l e R s m args below meth c H locs cells slots mc ms (F0 m pc ls st0) rest (va_Qq post B A1 a) (vx_X px BX AX) free) (hS : va_S A0 H0 H locs) (hA : ∀ q, q < H.size → A1 q → A0 q) (hf : ∀ q, free q → A0 q) (hAX : ∀ q, q < H.size → AX q → A0 q)
    (kx : ∀ (E : String) (ce : Cell) (q9 : Addr) (u : SX) (t : State) (H1 : Heap) (locs1 : List Loc), t.heap = H1 → s.vm.Alike t.vm → px u → BX E u t → H.size ≤ H1.size → (∀ q : Nat, q < H.size → ¬ AX q → H1[q]? = H[q]?) → va_S A0 H0 H1 locs1 → H1[q9]? = some ce → ce.vm = .none → s.vm.findClass E = some ce.cls → vx_W p l e R s m args below meth c H1 locs1 (cells + mc) (slots + ms) Q (F0 m pc ls rest) q9)
    (kk : ∀ (r : Option Nat) (u : S) (t : State) (H1 : Heap) (locs1 : List Loc), t.heap = H1 → s.vm.Alike t.vm → post r u → B u t → H.size ≤ H1.size → (∀ q : Nat, q < H.size → ¬ A1 q → H1[q]? = H[q]?) → va_S A0 H0 H1 locs1 → W p l e R s m args below meth c H1 locs1 (cells + mc) (slots + ms) Q (F0 m (pc + 5) ls (va_rf r :: rest))) : W p l e R s m args below meth c H locs cells slots Q (F0 m pc ls st0) := by
  intro T hT X
  rcases hr T hT X with ⟨v, st₀, t, T', L, h0, X', hL, e1, e2, ⟨⟨r, u, hv, hp, hb⟩, hF⟩, st⟩ | ⟨q, st₀, t, T', L, E, ce, h0, X', hL, e1, e2, ⟨u, hp, hb, hF⟩, hce, hcv, hcl, st⟩
  · cases hv
    obtain ⟨k1, k2, k3⟩ := vx_keep h0 e1 hS hA hf hL hF
    obtain ⟨t2, a1, b1⟩ := kk r u t T'.heap (locs ++ L) e1.symm (by rw [← e2]; exact X'.warmed.alike) hp hb k1 k2 k3 T' rfl X'
    exact ⟨t2, st t2 a1, b1⟩
  · obtain ⟨k1, k2, k3⟩ := vx_keep h0 e1 hS hAX hf hL hF
    obtain ⟨t2, a1, b1⟩ := kx E ce q u t T'.heap (locs ++ L) e1.symm (by rw [← e2]; exact X'.warmed.alike) hp hb k1 k2 k3 (by rw [e1]; exact hce) hcv hcl T' rfl X'
    exact ⟨t2, st.trans a1, b1⟩
end
/-! ===== END ===== -/
/-! ===== BEGIN .. by an interface, a constant ===== -/
section
variable {p : Program} {l : Launch} {e : Env} {R : Room} {s : State} {m : MethodId} {args : Array Value} {below : List Frame} {meth : Method} {c : Code} {H : Heap} {locs : List Loc} {cells slots : Nat} {Q : State → Prop}
variable {mc ms : Nat} {free : Addr → Prop} {A0 A1 : Nat → Prop} {H0 : Heap} {a : Array Value} {pc : Nat} {ls : Array Slot} {st0 rest : List Value}
theorem vx_callFe {ad : Nat → Nat} {S SX : Type} {post : Option Nat → S → Prop} {px : SX → Prop} {B : S → State → Prop} {BX : String → SX → State → Prop} {AX : Nat → Prop} (hr : vx_Run5 p l e R s m args below meth c H locs cells slots mc ms (F0 m pc ls st0) rest (va_Qe ad post B A1 a) (vx_X px BX AX) free) (hS : va_S A0 H0 H locs) (hA : ∀ q, q < H.size → A1 q → A0 q) (hf : ∀ q, free q → A0 q) (hAX : ∀ q, q < H.size → AX q → A0 q)
    (kx : ∀ (E : String) (ce : Cell) (q9 : Addr) (u : SX) (t : State) (H1 : Heap) (locs1 : List Loc), t.heap = H1 → s.vm.Alike t.vm → px u → BX E u t → H.size ≤ H1.size → (∀ q : Nat, q < H.size → ¬ AX q → H1[q]? = H[q]?) → va_S A0 H0 H1 locs1 → H1[q9]? = some ce → ce.vm = .none → s.vm.findClass E = some ce.cls → vx_W p l e R s m args below meth c H1 locs1 (cells + mc) (slots + ms) Q (F0 m pc ls rest) q9)
    (kk : ∀ (r : Option Nat) (u : S) (t : State) (H1 : Heap) (locs1 : List Loc), t.heap = H1 → s.vm.Alike t.vm → post r u → B u t → H.size ≤ H1.size → (∀ q : Nat, q < H.size → ¬ A1 q → H1[q]? = H[q]?) → va_S A0 H0 H1 locs1 → W p l e R s m args below meth c H1 locs1 (cells + mc) (slots + ms) Q (F0 m (pc + 5) ls (va_re ad r :: rest))) : W p l e R s m args below meth c H locs cells slots Q (F0 m pc ls st0) := by
  intro T hT X
  rcases hr T hT X with ⟨v, st₀, t, T', L, h0, X', hL, e1, e2, ⟨⟨r, u, hv, hp, hb⟩, hF⟩, st⟩ | ⟨q, st₀, t, T', L, E, ce, h0, X', hL, e1, e2, ⟨u, hp, hb, hF⟩, hce, hcv, hcl, st⟩
  · cases hv
    obtain ⟨k1, k2, k3⟩ := vx_keep h0 e1 hS hA hf hL hF
    obtain ⟨t2, a1, b1⟩ := kk r u t T'.heap (locs ++ L) e1.symm (by rw [← e2]; exact X'.warmed.alike) hp hb k1 k2 k3 T' rfl X'
    exact ⟨t2, st t2 a1, b1⟩
  · obtain ⟨k1, k2, k3⟩ := vx_keep h0 e1 hS hAX hf hL hF
    obtain ⟨t2, a1, b1⟩ := kx E ce q u t T'.heap (locs ++ L) e1.symm (by rw [← e2]; exact X'.warmed.alike) hp hb k1 k2 k3 (by rw [e1]; exact hce) hcv hcl T' rfl X'
    exact ⟨t2, st.trans a1, b1⟩
end
/-! ===== END ===== -/
/-! ===== BEGIN what the machine throws by itself: null at a field, at athrow ===== -/
section VXM2
variable {p : Program} {l : Launch} {e : Env} {R : Room} {s : State} {m : MethodId} {args : Array Value} {below : List Frame} {meth : Method} {c : Code} {H : Heap} {locs : List Loc} {cells slots : Nat}
variable {Q : State → Prop} {cc : ByteArray} {pc : Nat} {ls : Array Slot} {rest : List Value}
theorem vx_getfN {D cl tys} {own ref C : String} {T : u_T} {N ci index : Nat} {Ts : List Cond} (hexec : p.tables.exec = Jvm.exec) (hb : c.code = cc) (hts : ∀ w ∈ Ts, w.before args s = true) (hin : ∀ w ∈ u_ws C T N, w ∈ Ts) (hown : s.vm.findClass own = some m.cls) (hK : va_K D cl tys s) (hc : cl[ci]? = some (C, T, N)) (k : Nat) (hk : k < N) (hlink : (Cond.fieldLink own index ref (T k).2.1 (T k).2.2.1).before args s = true) (hsame : ∀ x, s.fieldFound? (T k).1 (T k).2.1 (T k).2.2.1 = some x → s.fieldFound? ref (T k).2.1 (T k).2.2.1 = some x) (hdg : decode cc pc = .ok (.getfield index, 3)) (kk : vx_NoteN p l e R s m args below meth c H locs cells slots Q (F0 m pc ls rest)) : W p l e R s m args below meth c H locs cells slots Q (F0 m pc ls (.null :: rest)) := by
  obtain ⟨hS, hfc, kC, hkC, -⟩ := hK.1 ci _ hc
  obtain ⟨cf, kf, fi, f, hi, -⟩ := hS k hk
  intro U hU X
  obtain ⟨vm', X1, st1⟩ := X.getfieldNull hexec hown hlink (hsame _ hi) (u_facts hfc hkC (u_lays hts hin hk) hi).1 (g := F0 m pc ls (.null :: rest)) rfl (rest := rest) rfl (by rw [hb]; exact hdg)
  obtain ⟨t, st, q⟩ := kk (U.setVm vm') hU X1
  exact ⟨t, st1 t st, q⟩
theorem vx_getfNN {D cl tys} {own ref C host : String} {T : u_T} {N ci index : Nat} {Ts : List Cond} (hexec : p.tables.exec = Jvm.exec) (hb : c.code = cc) (hts : ∀ w ∈ Ts, w.before args s = true) (hin : ∀ w ∈ u_ws C T N, w ∈ Ts) (hown : s.vm.findClass own = some m.cls) (hK : va_K D cl tys s) (hc : cl[ci]? = some (C, T, N)) (k : Nat) (hk : k < N) (hlink : (Cond.fieldLinkNest own index ref (T k).2.1 (T k).2.2.1 host).before args s = true) (hsame : ∀ x, s.fieldFound? (T k).1 (T k).2.1 (T k).2.2.1 = some x → s.fieldFound? ref (T k).2.1 (T k).2.2.1 = some x) (hdg : decode cc pc = .ok (.getfield index, 3)) (kk : vx_NoteN p l e R s m args below meth c H locs cells slots Q (F0 m pc ls rest)) : W p l e R s m args below meth c H locs cells slots Q (F0 m pc ls (.null :: rest)) := by
  obtain ⟨hS, hfc, kC, hkC, -⟩ := hK.1 ci _ hc
  obtain ⟨cf, kf, fi, f, hi, -⟩ := hS k hk
  intro U hU X
  obtain ⟨vm', X1, st1⟩ := X.getfieldNullNest hexec hown hlink (hsame _ hi) (u_facts hfc hkC (u_lays hts hin hk) hi).1 (g := F0 m pc ls (.null :: rest)) rfl (rest := rest) rfl (by rw [hb]; exact hdg)
  obtain ⟨t, st, q⟩ := kk (U.setVm vm') hU X1
  exact ⟨t, st1 t st, q⟩
theorem vx_putfN {D cl tys} {own ref C : String} {T : u_T} {N ci index : Nat} {Ts : List Cond} (hexec : p.tables.exec = Jvm.exec) (hb : c.code = cc) (hts : ∀ w ∈ Ts, w.before args s = true) (hin : ∀ w ∈ u_ws C T N, w ∈ Ts) (hown : s.vm.findClass own = some m.cls) (hK : va_K D cl tys s) (hc : cl[ci]? = some (C, T, N)) (k : Nat) (hk : k < N) (hlink : (Cond.fieldLink own index ref (T k).2.1 (T k).2.2.1).before args s = true) (hsame : ∀ x, s.fieldFound? (T k).1 (T k).2.1 (T k).2.2.1 = some x → s.fieldFound? ref (T k).2.1 (T k).2.2.1 = some x) (hfin : (T k).2.2.2 = false) {v : Value} (hdg : decode cc pc = .ok (.putfield index, 3)) (kk : vx_NoteN p l e R s m args below meth c H locs cells slots Q (F0 m pc ls rest)) : W p l e R s m args below meth c H locs cells slots Q (F0 m pc ls (v :: .null :: rest)) := by
  obtain ⟨hS, hfc, kC, hkC, -⟩ := hK.1 ci _ hc
  obtain ⟨cf, kf, fi, f, hi, -⟩ := hS k hk
  have hlay := hts _ (hin _ (u_in_lay hk))
  unfold u_lay at hlay
  rw [if_neg (by rw [hfin]; decide)] at hlay
  obtain ⟨c9, k9, cf9, kf9, fi9, f9, -, -, hi9, hst9, hnf9, -⟩ := Cond.lays_spec hlay
  cases hi.symm.trans hi9
  intro U hU X
  obtain ⟨vm', X1, st1⟩ := X.putfieldNull hexec hown hlink (hsame _ hi) hst9 hnf9 (g := F0 m pc ls (v :: .null :: rest)) rfl (v := v) (rest := rest) rfl (by rw [hb]; exact hdg)
  obtain ⟨t, st, q⟩ := kk (U.setVm vm') hU X1
  exact ⟨t, st1 t st, q⟩
theorem vx_putfNN {D cl tys} {own ref C host : String} {T : u_T} {N ci index : Nat} {Ts : List Cond} (hexec : p.tables.exec = Jvm.exec) (hb : c.code = cc) (hts : ∀ w ∈ Ts, w.before args s = true) (hin : ∀ w ∈ u_ws C T N, w ∈ Ts) (hown : s.vm.findClass own = some m.cls) (hK : va_K D cl tys s) (hc : cl[ci]? = some (C, T, N)) (k : Nat) (hk : k < N) (hlink : (Cond.fieldLinkNest own index ref (T k).2.1 (T k).2.2.1 host).before args s = true) (hsame : ∀ x, s.fieldFound? (T k).1 (T k).2.1 (T k).2.2.1 = some x → s.fieldFound? ref (T k).2.1 (T k).2.2.1 = some x) (hfin : (T k).2.2.2 = false) {v : Value} (hdg : decode cc pc = .ok (.putfield index, 3)) (kk : vx_NoteN p l e R s m args below meth c H locs cells slots Q (F0 m pc ls rest)) : W p l e R s m args below meth c H locs cells slots Q (F0 m pc ls (v :: .null :: rest)) := by
  obtain ⟨hS, hfc, kC, hkC, -⟩ := hK.1 ci _ hc
  obtain ⟨cf, kf, fi, f, hi, -⟩ := hS k hk
  have hlay := hts _ (hin _ (u_in_lay hk))
  unfold u_lay at hlay
  rw [if_neg (by rw [hfin]; decide)] at hlay
  obtain ⟨c9, k9, cf9, kf9, fi9, f9, -, -, hi9, hst9, hnf9, -⟩ := Cond.lays_spec hlay
  cases hi.symm.trans hi9
  intro U hU X
  obtain ⟨vm', X1, st1⟩ := X.putfieldNullNest hexec hown hlink (hsame _ hi) hst9 hnf9 (g := F0 m pc ls (v :: .null :: rest)) rfl (v := v) (rest := rest) rfl (by rw [hb]; exact hdg)
  obtain ⟨t, st, q⟩ := kk (U.setVm vm') hU X1
  exact ⟨t, st1 t st, q⟩
theorem vx_athrowN (hexec : p.tables.exec = Jvm.exec) (hb : c.code = cc) (hdg : decode cc pc = .ok (.athrow, 1)) (k : vx_NoteN p l e R s m args below meth c H locs cells slots Q (F0 m pc ls rest)) : W p l e R s m args below meth c H locs cells slots Q (F0 m pc ls (.null :: rest)) := by
  intro T hT X
  obtain ⟨t, st, q⟩ := k T hT X
  exact ⟨t, X.athrowNull hexec (g := F0 m pc ls (.null :: rest)) rfl (rest := rest) rfl (by rw [hb]; exact hdg) t st, q⟩
end VXM2
/-! ===== END ===== -/
end
section
def RX0 : String := "NotaryBook$Act"
def TX0 : u_T := fun k => match k with
  | 0 => ("NotaryBook$Act", "number", "I", false)
  | 1 => ("NotaryBook$Act", "kind", "I", false)
  | 2 => ("NotaryBook$Act", "stage", "I", false)
  | 3 => ("NotaryBook$Act", "witnesses", "I", false)
  | 4 => ("NotaryBook$Act", "marks", "I", false)
  | 5 => ("NotaryBook$Act", "first", "I", false)
  | 6 => ("NotaryBook$Act", "size", "I", false)
  | _ => ("NotaryBook$Act", "fee", "I", false)
def tyX0 : Nat → FieldType := fun k => match k with
  | 0 => .int
  | 1 => .int
  | 2 => .int
  | 3 => .int
  | 4 => .int
  | 5 => .int
  | 6 => .int
  | _ => .int
theorem nmX0 : ∀ a, a < 8 → ∀ b, b < 8 → a ≠ b → (TX0 a).2.1 ≠ (TX0 b).2.1 := by decide +kernel
theorem tyX0_ok : ∀ k, k < 8 → parseFieldDescriptor (TX0 k).2.2.1 = some (tyX0 k) := by decide +kernel
abbrev cX0_init : ByteArray := prog_2_method_1_code
def yX0_init : MethodName := ⟨RX0, "<init>", "()V"⟩
abbrev cX0_take : ByteArray := prog_2_method_2_code
def yX0_take : MethodName := ⟨RX0, "take", "(LNotaryBook$Act;)V"⟩
abbrev cX0_start : ByteArray := prog_2_method_3_code
def yX0_start : MethodName := ⟨RX0, "start", "(IIII)V"⟩
abbrev cX0_baseFee : ByteArray := prog_2_method_4_code
def yX0_baseFee : MethodName := ⟨RX0, "baseFee", "()I"⟩
def RX1 : String := "NotaryBook$Book"
def TX1 : u_T := fun k => match k with
  | 0 => ("NotaryBook$Book", "room", "I", false)
  | 1 => ("NotaryBook$Book", "need", "I", false)
  | 2 => ("NotaryBook$Book", "actCount", "I", false)
  | 3 => ("NotaryBook$Book", "copyCount", "I", false)
  | 4 => ("NotaryBook$Book", "cash", "I", false)
  | 5 => ("NotaryBook$Book", "burntFees", "I", false)
  | 6 => ("NotaryBook$Book", "acts", "[LNotaryBook$Act;", true)
  | 7 => ("NotaryBook$Book", "copies", "[LNotaryBook$Copy;", true)
  | 8 => ("NotaryBook$Book", "script", "LNotaryBook$Script;", true)
  | 9 => ("NotaryBook$Book", "leaves", "LNotaryBook$Leaves;", true)
  | 10 => ("NotaryBook$Book", "clause", "LNotaryBook$Clause;", true)
  | _ => ("NotaryBook$Book", "trialCopy", "LNotaryBook$Copy;", true)
def tyX1 : Nat → FieldType := fun k => match k with
  | 0 => .int
  | 1 => .int
  | 2 => .int
  | 3 => .int
  | 4 => .int
  | 5 => .int
  | 6 => .array (.object "NotaryBook$Act")
  | 7 => .array (.object "NotaryBook$Copy")
  | 8 => .object "NotaryBook$Script"
  | 9 => .object "NotaryBook$Leaves"
  | 10 => .object "NotaryBook$Clause"
  | _ => .object "NotaryBook$Copy"
theorem nmX1 : ∀ a, a < 12 → ∀ b, b < 12 → a ≠ b → (TX1 a).2.1 ≠ (TX1 b).2.1 := by decide +kernel
theorem tyX1_ok : ∀ k, k < 12 → parseFieldDescriptor (TX1 k).2.2.1 = some (tyX1 k) := by decide +kernel
abbrev cX1_init : ByteArray := prog_3_method_1_code
def yX1_init : MethodName := ⟨RX1, "<init>", "()V"⟩
abbrev cX1_take : ByteArray := prog_3_method_2_code
def yX1_take : MethodName := ⟨RX1, "take", "(LNotaryBook$Book;)V"⟩
abbrev cX1_clear : ByteArray := prog_3_method_3_code
def yX1_clear : MethodName := ⟨RX1, "clear", "()V"⟩
abbrev cX1_openAct : ByteArray := prog_3_method_4_code
def yX1_openAct : MethodName := ⟨RX1, "openAct", "()LNotaryBook$Act;"⟩
abbrev cX1_openNumber : ByteArray := prog_3_method_5_code
def yX1_openNumber : MethodName := ⟨RX1, "openNumber", "()I"⟩
abbrev cX1_openSize : ByteArray := prog_3_method_6_code
def yX1_openSize : MethodName := ⟨RX1, "openSize", "()I"⟩
abbrev cX1_openStanding : ByteArray := prog_3_method_7_code
def yX1_openStanding : MethodName := ⟨RX1, "openStanding", "()I"⟩
abbrev cX1_marksOfAll : ByteArray := prog_3_method_8_code
def yX1_marksOfAll : MethodName := ⟨RX1, "marksOfAll", "()I"⟩
abbrev cX1_actsAt : ByteArray := prog_3_method_9_code
def yX1_actsAt : MethodName := ⟨RX1, "actsAt", "(I)I"⟩
abbrev cX1_standingOfSealed : ByteArray := prog_3_method_10_code
def yX1_standingOfSealed : MethodName := ⟨RX1, "standingOfSealed", "()I"⟩
abbrev cX1_firstActWith : ByteArray := prog_3_method_11_code
def yX1_firstActWith : MethodName := ⟨RX1, "firstActWith", "(J)I"⟩
abbrev cX1_actBegunAt : ByteArray := prog_3_method_12_code
def yX1_actBegunAt : MethodName := ⟨RX1, "actBegunAt", "(I)I"⟩
abbrev cX1_seekClauseAround : ByteArray := prog_3_method_13_code
def yX1_seekClauseAround : MethodName := ⟨RX1, "seekClauseAround", "(I)Z"⟩
abbrev cX1_leavesOf : ByteArray := prog_3_method_14_code
def yX1_leavesOf : MethodName := ⟨RX1, "leavesOf", "(I)I"⟩
abbrev cX1_leafOf : ByteArray := prog_3_method_15_code
def yX1_leafOf : MethodName := ⟨RX1, "leafOf", "(I)I"⟩
abbrev cX1_mostWords : ByteArray := prog_3_method_16_code
def yX1_mostWords : MethodName := ⟨RX1, "mostWords", "()I"⟩
abbrev cX1_wordsOn : ByteArray := prog_3_method_17_code
def yX1_wordsOn : MethodName := ⟨RX1, "wordsOn", "(I)I"⟩
abbrev cX1_isOn : ByteArray := prog_3_method_18_code
def yX1_isOn : MethodName := ⟨RX1, "isOn", "(LNotaryBook$Act;I)Z"⟩
abbrev cX1_actsOn : ByteArray := prog_3_method_19_code
def yX1_actsOn : MethodName := ⟨RX1, "actsOn", "(I)I"⟩
abbrev cX1_firstActOn : ByteArray := prog_3_method_20_code
def yX1_firstActOn : MethodName := ⟨RX1, "firstActOn", "(I)I"⟩
abbrev cX1_copiesWith : ByteArray := prog_3_method_21_code
def yX1_copiesWith : MethodName := ⟨RX1, "copiesWith", "(I)I"⟩
abbrev cX1_isKnown : ByteArray := prog_3_method_22_code
def yX1_isKnown : MethodName := ⟨RX1, "isKnown", "(I)Z"⟩
abbrev cX1_unknownFrom : ByteArray := prog_3_method_23_code
def yX1_unknownFrom : MethodName := ⟨RX1, "unknownFrom", "(II)I"⟩
abbrev cX1_wouldBeUnknown : ByteArray := prog_3_method_24_code
def yX1_wouldBeUnknown : MethodName := ⟨RX1, "wouldBeUnknown", "(I)I"⟩
abbrev cX1_copiesOf : ByteArray := prog_3_method_25_code
def yX1_copiesOf : MethodName := ⟨RX1, "copiesOf", "(I)I"⟩
abbrev cX1_knownByAlone : ByteArray := prog_3_method_26_code
def yX1_knownByAlone : MethodName := ⟨RX1, "knownByAlone", "(LNotaryBook$Copy;)I"⟩
abbrev cX1_copyReason : ByteArray := prog_3_method_27_code
def yX1_copyReason : MethodName := ⟨RX1, "copyReason", "(II)I"⟩
abbrev cX1_copiedWith : ByteArray := prog_3_method_28_code
def yX1_copiedWith : MethodName := ⟨RX1, "copiedWith", "(LNotaryBook$Act;I)I"⟩
abbrev cX1_makeCopy : ByteArray := prog_3_method_29_code
def yX1_makeCopy : MethodName := ⟨RX1, "makeCopy", "(II)V"⟩
abbrev cX1_burnCopy : ByteArray := prog_3_method_30_code
def yX1_burnCopy : MethodName := ⟨RX1, "burnCopy", "(I)V"⟩
abbrev cX1_beginAct : ByteArray := prog_3_method_31_code
def yX1_beginAct : MethodName := ⟨RX1, "beginAct", "(II)V"⟩
abbrev cX1_strikeReason : ByteArray := prog_3_method_32_code
def yX1_strikeReason : MethodName := ⟨RX1, "strikeReason", "(I)I"⟩
abbrev cX1_strikeWord : ByteArray := prog_3_method_33_code
def yX1_strikeWord : MethodName := ⟨RX1, "strikeWord", "(I)V"⟩
abbrev cX1_strikeAround : ByteArray := prog_3_method_34_code
def yX1_strikeAround : MethodName := ⟨RX1, "strikeAround", "(I)I"⟩
abbrev cX1_canInsert : ByteArray := prog_3_method_35_code
def yX1_canInsert : MethodName := ⟨RX1, "canInsert", "(I)Z"⟩
abbrev cX1_insertWord : ByteArray := prog_3_method_36_code
def yX1_insertWord : MethodName := ⟨RX1, "insertWord", "(IJ)V"⟩
abbrev cX1_sealReason : ByteArray := prog_3_method_37_code
def yX1_sealReason : MethodName := ⟨RX1, "sealReason", "(II)I"⟩
abbrev cX1_sealOpen : ByteArray := prog_3_method_38_code
def yX1_sealOpen : MethodName := ⟨RX1, "sealOpen", "(I)I"⟩
abbrev cX1_cancelOpen : ByteArray := prog_3_method_39_code
def yX1_cancelOpen : MethodName := ⟨RX1, "cancelOpen", "()V"⟩
abbrev cX1_wordsGap : ByteArray := prog_3_method_40_code
def yX1_wordsGap : MethodName := ⟨RX1, "wordsGap", "()I"⟩
abbrev cX1_standingGap : ByteArray := prog_3_method_41_code
def yX1_standingGap : MethodName := ⟨RX1, "standingGap", "()I"⟩
abbrev cX1_cashGap : ByteArray := prog_3_method_42_code
def yX1_cashGap : MethodName := ⟨RX1, "cashGap", "()I"⟩
abbrev cX1_numbersGap : ByteArray := prog_3_method_43_code
def yX1_numbersGap : MethodName := ⟨RX1, "numbersGap", "()I"⟩
def RX2 : String := "NotaryBook$Clause"
def TX2 : u_T := fun k => match k with
  | 0 => ("NotaryBook$Clause", "first", "I", false)
  | 1 => ("NotaryBook$Clause", "size", "I", false)
  | 2 => ("NotaryBook$Clause", "depth", "I", false)
  | _ => ("NotaryBook$Clause", "children", "I", false)
def tyX2 : Nat → FieldType := fun k => match k with
  | 0 => .int
  | 1 => .int
  | 2 => .int
  | _ => .int
theorem nmX2 : ∀ a, a < 4 → ∀ b, b < 4 → a ≠ b → (TX2 a).2.1 ≠ (TX2 b).2.1 := by decide +kernel
theorem tyX2_ok : ∀ k, k < 4 → parseFieldDescriptor (TX2 k).2.2.1 = some (tyX2 k) := by decide +kernel
abbrev cX2_init : ByteArray := prog_4_method_1_code
def yX2_init : MethodName := ⟨RX2, "<init>", "()V"⟩
abbrev cX2_seek : ByteArray := prog_4_method_2_code
def yX2_seek : MethodName := ⟨RX2, "seek", "(LNotaryBook$Script;LNotaryBook$Act;I)Z"⟩
abbrev cX2_followFrom : ByteArray := prog_4_method_3_code
def yX2_followFrom : MethodName := ⟨RX2, "followFrom", "(LNotaryBook$Script;LNotaryBook$Act;I)V"⟩
def RX3 : String := "NotaryBook$Copy"
def TX3 : u_T := fun k => match k with
  | 0 => ("NotaryBook$Copy", "act", "I", false)
  | 1 => ("NotaryBook$Copy", "grade", "I", false)
  | 2 => ("NotaryBook$Copy", "first", "I", false)
  | 3 => ("NotaryBook$Copy", "last", "I", false)
  | _ => ("NotaryBook$Copy", "size", "I", false)
def tyX3 : Nat → FieldType := fun k => match k with
  | 0 => .int
  | 1 => .int
  | 2 => .int
  | 3 => .int
  | _ => .int
theorem nmX3 : ∀ a, a < 5 → ∀ b, b < 5 → a ≠ b → (TX3 a).2.1 ≠ (TX3 b).2.1 := by decide +kernel
theorem tyX3_ok : ∀ k, k < 5 → parseFieldDescriptor (TX3 k).2.2.1 = some (tyX3 k) := by decide +kernel
abbrev cX3_init : ByteArray := prog_5_method_1_code
def yX3_init : MethodName := ⟨RX3, "<init>", "()V"⟩
abbrev cX3_take : ByteArray := prog_5_method_2_code
def yX3_take : MethodName := ⟨RX3, "take", "(LNotaryBook$Copy;)V"⟩
abbrev cX3_draw : ByteArray := prog_5_method_3_code
def yX3_draw : MethodName := ⟨RX3, "draw", "(LNotaryBook$Script;LNotaryBook$Act;I)V"⟩
abbrev cX3_holds : ByteArray := prog_5_method_4_code
def yX3_holds : MethodName := ⟨RX3, "holds", "(LNotaryBook$Script;I)Z"⟩
abbrev cX3_fee : ByteArray := prog_5_method_5_code
def yX3_fee : MethodName := ⟨RX3, "fee", "()I"⟩
def RX4 : String := "NotaryBook$Leaves"
def TX4 : u_T := fun k => match k with
  | 0 => ("NotaryBook$Leaves", "gather", "I", false)
  | 1 => ("NotaryBook$Leaves", "size", "I", false)
  | 2 => ("NotaryBook$Leaves", "states", "[I", true)
  | _ => ("NotaryBook$Leaves", "fallen", "[Z", true)
def tyX4 : Nat → FieldType := fun k => match k with
  | 0 => .int
  | 1 => .int
  | 2 => .array .int
  | _ => .array .boolean
theorem nmX4 : ∀ a, a < 4 → ∀ b, b < 4 → a ≠ b → (TX4 a).2.1 ≠ (TX4 b).2.1 := by decide +kernel
theorem tyX4_ok : ∀ k, k < 4 → parseFieldDescriptor (TX4 k).2.2.1 = some (tyX4 k) := by decide +kernel
abbrev cX4_init : ByteArray := prog_6_method_1_code
def yX4_init : MethodName := ⟨RX4, "<init>", "()V"⟩
abbrev cX4_take : ByteArray := prog_6_method_2_code
def yX4_take : MethodName := ⟨RX4, "take", "(LNotaryBook$Leaves;)V"⟩
abbrev cX4_isThere : ByteArray := prog_6_method_3_code
def yX4_isThere : MethodName := ⟨RX4, "isThere", "(I)Z"⟩
abbrev cX4_stateOf : ByteArray := prog_6_method_4_code
def yX4_stateOf : MethodName := ⟨RX4, "stateOf", "(I)I"⟩
abbrev cX4_isLost : ByteArray := prog_6_method_5_code
def yX4_isLost : MethodName := ⟨RX4, "isLost", "(I)Z"⟩
abbrev cX4_isLoose : ByteArray := prog_6_method_6_code
def yX4_isLoose : MethodName := ⟨RX4, "isLoose", "(I)Z"⟩
abbrev cX4_countOf : ByteArray := prog_6_method_7_code
def yX4_countOf : MethodName := ⟨RX4, "countOf", "(I)I"⟩
abbrev cX4_gatheringOf : ByteArray := prog_6_method_8_code
def yX4_gatheringOf : MethodName := ⟨RX4, "gatheringOf", "(I)I"⟩
abbrev cX4_mateOf : ByteArray := prog_6_method_9_code
def yX4_mateOf : MethodName := ⟨RX4, "mateOf", "(I)I"⟩
abbrev cX4_fasten : ByteArray := prog_6_method_10_code
def yX4_fasten : MethodName := ⟨RX4, "fasten", "(I)V"⟩
abbrev cX4_drop : ByteArray := prog_6_method_11_code
def yX4_drop : MethodName := ⟨RX4, "drop", "(I)V"⟩
abbrev cX4_loosenMateOf : ByteArray := prog_6_method_12_code
def yX4_loosenMateOf : MethodName := ⟨RX4, "loosenMateOf", "(I)V"⟩
abbrev cX4_bringBack : ByteArray := prog_6_method_13_code
def yX4_bringBack : MethodName := ⟨RX4, "bringBack", "(I)V"⟩
abbrev cX4_dropLoose : ByteArray := prog_6_method_14_code
def yX4_dropLoose : MethodName := ⟨RX4, "dropLoose", "()I"⟩
abbrev cX4_extendTo : ByteArray := prog_6_method_15_code
def yX4_extendTo : MethodName := ⟨RX4, "extendTo", "(I)V"⟩
def RX5 : String := "NotaryBook$Parser"
def TX5 : u_T := fun k => match k with
  | 0 => ("NotaryBook$Parser", "errorCode", "I", false)
  | 1 => ("NotaryBook$Parser", "errorPlace", "I", false)
  | 2 => ("NotaryBook$Parser", "staged", "I", false)
  | 3 => ("NotaryBook$Parser", "scanner", "LNotaryBook$Scanner;", true)
  | _ => ("NotaryBook$Parser", "book", "LNotaryBook$Book;", false)
def tyX5 : Nat → FieldType := fun k => match k with
  | 0 => .int
  | 1 => .int
  | 2 => .int
  | 3 => .object "NotaryBook$Scanner"
  | _ => .object "NotaryBook$Book"
theorem nmX5 : ∀ a, a < 5 → ∀ b, b < 5 → a ≠ b → (TX5 a).2.1 ≠ (TX5 b).2.1 := by decide +kernel
theorem tyX5_ok : ∀ k, k < 5 → parseFieldDescriptor (TX5 k).2.2.1 = some (tyX5 k) := by decide +kernel
abbrev cX5_init : ByteArray := prog_7_method_1_code
def yX5_init : MethodName := ⟨RX5, "<init>", "()V"⟩
abbrev cX5_fail : ByteArray := prog_7_method_2_code
def yX5_fail : MethodName := ⟨RX5, "fail", "(I)Z"⟩
abbrev cX5_readText : ByteArray := prog_7_method_3_code
def yX5_readText : MethodName := ⟨RX5, "readText", "([BILNotaryBook$Book;)Z"⟩
abbrev cX5_readBodyAlone : ByteArray := prog_7_method_4_code
def yX5_readBodyAlone : MethodName := ⟨RX5, "readBodyAlone", "([BILNotaryBook$Book;)Z"⟩
abbrev cX5_isAtWord : ByteArray := prog_7_method_5_code
def yX5_isAtWord : MethodName := ⟨RX5, "isAtWord", "(Ljava/lang/String;)Z"⟩
abbrev cX5_checkNumber : ByteArray := prog_7_method_6_code
def yX5_checkNumber : MethodName := ⟨RX5, "checkNumber", "(II)Z"⟩
abbrev cX5_checkNextNumber : ByteArray := prog_7_method_7_code
def yX5_checkNextNumber : MethodName := ⟨RX5, "checkNextNumber", "(II)Z"⟩
abbrev cX5_finishLine : ByteArray := prog_7_method_8_code
def yX5_finishLine : MethodName := ⟨RX5, "finishLine", "()Z"⟩
abbrev cX5_readHead : ByteArray := prog_7_method_9_code
def yX5_readHead : MethodName := ⟨RX5, "readHead", "()Z"⟩
abbrev cX5_readLine : ByteArray := prog_7_method_10_code
def yX5_readLine : MethodName := ⟨RX5, "readLine", "()Z"⟩
abbrev cX5_readActLine : ByteArray := prog_7_method_11_code
def yX5_readActLine : MethodName := ⟨RX5, "readActLine", "()Z"⟩
abbrev cX5_kindAtWord : ByteArray := prog_7_method_12_code
def yX5_kindAtWord : MethodName := ⟨RX5, "kindAtWord", "()I"⟩
abbrev cX5_readBody : ByteArray := prog_7_method_13_code
def yX5_readBody : MethodName := ⟨RX5, "readBody", "()Z"⟩
abbrev cX5_readStrikeLine : ByteArray := prog_7_method_14_code
def yX5_readStrikeLine : MethodName := ⟨RX5, "readStrikeLine", "()Z"⟩
abbrev cX5_readOutLine : ByteArray := prog_7_method_15_code
def yX5_readOutLine : MethodName := ⟨RX5, "readOutLine", "()Z"⟩
abbrev cX5_readInsertLine : ByteArray := prog_7_method_16_code
def yX5_readInsertLine : MethodName := ⟨RX5, "readInsertLine", "()Z"⟩
abbrev cX5_readSealLine : ByteArray := prog_7_method_17_code
def yX5_readSealLine : MethodName := ⟨RX5, "readSealLine", "()Z"⟩
abbrev cX5_readCancelLine : ByteArray := prog_7_method_18_code
def yX5_readCancelLine : MethodName := ⟨RX5, "readCancelLine", "()Z"⟩
abbrev cX5_readCopyLine : ByteArray := prog_7_method_19_code
def yX5_readCopyLine : MethodName := ⟨RX5, "readCopyLine", "()Z"⟩
abbrev cX5_readLeafLine : ByteArray := prog_7_method_20_code
def yX5_readLeafLine : MethodName := ⟨RX5, "readLeafLine", "()Z"⟩
def RX6 : String := "NotaryBook$Pen"
def TX6 : u_T := fun k => match k with
  | _ => ("NotaryBook$Pen", "text", "Ljava/lang/StringBuilder;", true)
def tyX6 : Nat → FieldType := fun k => match k with
  | _ => .object "java/lang/StringBuilder"
theorem nmX6 : ∀ a, a < 1 → ∀ b, b < 1 → a ≠ b → (TX6 a).2.1 ≠ (TX6 b).2.1 := by decide +kernel
theorem tyX6_ok : ∀ k, k < 1 → parseFieldDescriptor (TX6 k).2.2.1 = some (tyX6 k) := by decide +kernel
abbrev cX6_init : ByteArray := prog_8_method_1_code
def yX6_init : MethodName := ⟨RX6, "<init>", "()V"⟩
abbrev cX6_startText : ByteArray := prog_8_method_2_code
def yX6_startText : MethodName := ⟨RX6, "startText", "()V"⟩
abbrev cX6_putBlank : ByteArray := prog_8_method_3_code
def yX6_putBlank : MethodName := ⟨RX6, "putBlank", "()V"⟩
abbrev cX6_putLetters : ByteArray := prog_8_method_4_code
def yX6_putLetters : MethodName := ⟨RX6, "putLetters", "(J)V"⟩
abbrev cX6_putWord : ByteArray := prog_8_method_5_code
def yX6_putWord : MethodName := ⟨RX6, "putWord", "(J)V"⟩
abbrev cX6_putMarkedWord : ByteArray := prog_8_method_6_code
def yX6_putMarkedWord : MethodName := ⟨RX6, "putMarkedWord", "(CJ)V"⟩
abbrev cX6_putNumberedWord : ByteArray := prog_8_method_7_code
def yX6_putNumberedWord : MethodName := ⟨RX6, "putNumberedWord", "(IJ)V"⟩
abbrev cX6_putSigns : ByteArray := prog_8_method_8_code
def yX6_putSigns : MethodName := ⟨RX6, "putSigns", "(CI)V"⟩
def RX7 : String := "NotaryBook$Scanner"
def TX7 : u_T := fun k => match k with
  | 0 => ("NotaryBook$Scanner", "bytes", "[B", false)
  | 1 => ("NotaryBook$Scanner", "next", "I", false)
  | 2 => ("NotaryBook$Scanner", "end", "I", false)
  | 3 => ("NotaryBook$Scanner", "kind", "I", false)
  | 4 => ("NotaryBook$Scanner", "start", "I", false)
  | 5 => ("NotaryBook$Scanner", "number", "I", false)
  | _ => ("NotaryBook$Scanner", "word", "J", false)
def tyX7 : Nat → FieldType := fun k => match k with
  | 0 => .array .byte
  | 1 => .int
  | 2 => .int
  | 3 => .int
  | 4 => .int
  | 5 => .int
  | _ => .long
theorem nmX7 : ∀ a, a < 7 → ∀ b, b < 7 → a ≠ b → (TX7 a).2.1 ≠ (TX7 b).2.1 := by decide +kernel
theorem tyX7_ok : ∀ k, k < 7 → parseFieldDescriptor (TX7 k).2.2.1 = some (tyX7 k) := by decide +kernel
abbrev cX7_init : ByteArray := prog_9_method_1_code
def yX7_init : MethodName := ⟨RX7, "<init>", "()V"⟩
abbrev cX7_startAt : ByteArray := prog_9_method_2_code
def yX7_startAt : MethodName := ⟨RX7, "startAt", "([BI)V"⟩
abbrev cX7_step : ByteArray := prog_9_method_3_code
def yX7_step : MethodName := ⟨RX7, "step", "()V"⟩
abbrev cX7_isDigit : ByteArray := prog_9_method_4_code
def yX7_isDigit : MethodName := ⟨RX7, "isDigit", "(I)Z"⟩
abbrev cX7_kindOfSign : ByteArray := prog_9_method_5_code
def yX7_kindOfSign : MethodName := ⟨RX7, "kindOfSign", "(I)I"⟩
abbrev cX7_readWord : ByteArray := prog_9_method_6_code
def yX7_readWord : MethodName := ⟨RX7, "readWord", "()V"⟩
abbrev cX7_readNumber : ByteArray := prog_9_method_7_code
def yX7_readNumber : MethodName := ⟨RX7, "readNumber", "()V"⟩
def RX8 : String := "NotaryBook$Script"
def TX8 : u_T := fun k => match k with
  | 0 => ("NotaryBook$Script", "size", "I", false)
  | 1 => ("NotaryBook$Script", "words", "[J", true)
  | 2 => ("NotaryBook$Script", "opens", "[I", true)
  | 3 => ("NotaryBook$Script", "closes", "[I", true)
  | 4 => ("NotaryBook$Script", "struck", "[Z", true)
  | 5 => ("NotaryBook$Script", "inserted", "[I", true)
  | _ => ("NotaryBook$Script", "inserts", "[J", true)
def tyX8 : Nat → FieldType := fun k => match k with
  | 0 => .int
  | 1 => .array .long
  | 2 => .array .int
  | 3 => .array .int
  | 4 => .array .boolean
  | 5 => .array .int
  | _ => .array .long
theorem nmX8 : ∀ a, a < 7 → ∀ b, b < 7 → a ≠ b → (TX8 a).2.1 ≠ (TX8 b).2.1 := by decide +kernel
theorem tyX8_ok : ∀ k, k < 7 → parseFieldDescriptor (TX8 k).2.2.1 = some (tyX8 k) := by decide +kernel
abbrev cX8_init : ByteArray := prog_10_method_1_code
def yX8_init : MethodName := ⟨RX8, "<init>", "()V"⟩
abbrev cX8_take : ByteArray := prog_10_method_2_code
def yX8_take : MethodName := ⟨RX8, "take", "(LNotaryBook$Script;)V"⟩
abbrev cX8_stage : ByteArray := prog_10_method_3_code
def yX8_stage : MethodName := ⟨RX8, "stage", "(IJI)V"⟩
abbrev cX8_closeBehind : ByteArray := prog_10_method_4_code
def yX8_closeBehind : MethodName := ⟨RX8, "closeBehind", "(I)V"⟩
abbrev cX8_insert : ByteArray := prog_10_method_5_code
def yX8_insert : MethodName := ⟨RX8, "insert", "(IJ)V"⟩
abbrev cX8_insertOf : ByteArray := prog_10_method_6_code
def yX8_insertOf : MethodName := ⟨RX8, "insertOf", "(II)J"⟩
abbrev cX8_unstruckFrom : ByteArray := prog_10_method_7_code
def yX8_unstruckFrom : MethodName := ⟨RX8, "unstruckFrom", "(II)I"⟩
abbrev cX8_standingFrom : ByteArray := prog_10_method_8_code
def yX8_standingFrom : MethodName := ⟨RX8, "standingFrom", "(II)I"⟩
abbrev cX8_standingByClauses : ByteArray := prog_10_method_9_code
def yX8_standingByClauses : MethodName := ⟨RX8, "standingByClauses", "(II)I"⟩
abbrev cX8_strikeFrom : ByteArray := prog_10_method_10_code
def yX8_strikeFrom : MethodName := ⟨RX8, "strikeFrom", "(II)I"⟩
abbrev cX8_standsWritten : ByteArray := prog_10_method_11_code
def yX8_standsWritten : MethodName := ⟨RX8, "standsWritten", "(LNotaryBook$Act;J)Z"⟩
abbrev cX8_standsInterlined : ByteArray := prog_10_method_12_code
def yX8_standsInterlined : MethodName := ⟨RX8, "standsInterlined", "(LNotaryBook$Act;J)Z"⟩
abbrev cX8_clausesFrom : ByteArray := prog_10_method_13_code
def yX8_clausesFrom : MethodName := ⟨RX8, "clausesFrom", "(II)I"⟩
abbrev cX8_greatestDepth : ByteArray := prog_10_method_14_code
def yX8_greatestDepth : MethodName := ⟨RX8, "greatestDepth", "(II)I"⟩
abbrev cX8_depthOf : ByteArray := prog_10_method_15_code
def yX8_depthOf : MethodName := ⟨RX8, "depthOf", "(II)I"⟩
abbrev cX8_innermostOf : ByteArray := prog_10_method_16_code
def yX8_innermostOf : MethodName := ⟨RX8, "innermostOf", "(II)I"⟩
def RX9 : String := "NotaryBook"
def TX9 : u_T := fun k => match k with
  | 0 => ("NotaryBook", "input", "[B", true)
  | 1 => ("NotaryBook", "inputSize", "I", false)
  | 2 => ("NotaryBook", "errorCode", "I", false)
  | 3 => ("NotaryBook", "errorPlace", "I", false)
  | 4 => ("NotaryBook", "loaded", "Z", false)
  | 5 => ("NotaryBook", "book", "LNotaryBook$Book;", false)
  | 6 => ("NotaryBook", "spare", "LNotaryBook$Book;", false)
  | 7 => ("NotaryBook", "parser", "LNotaryBook$Parser;", true)
  | 8 => ("NotaryBook", "past", "[LNotaryBook$Book;", true)
  | 9 => ("NotaryBook", "pastStart", "I", false)
  | 10 => ("NotaryBook", "pastSize", "I", false)
  | 11 => ("NotaryBook", "slots", "[LNotaryBook$Book;", true)
  | 12 => ("NotaryBook", "slotFilled", "[Z", true)
  | 13 => ("NotaryBook", "trialLeaves", "LNotaryBook$Leaves;", true)
  | _ => ("NotaryBook", "pen", "LNotaryBook$Pen;", true)
def tyX9 : Nat → FieldType := fun k => match k with
  | 0 => .array .byte
  | 1 => .int
  | 2 => .int
  | 3 => .int
  | 4 => .boolean
  | 5 => .object "NotaryBook$Book"
  | 6 => .object "NotaryBook$Book"
  | 7 => .object "NotaryBook$Parser"
  | 8 => .array (.object "NotaryBook$Book")
  | 9 => .int
  | 10 => .int
  | 11 => .array (.object "NotaryBook$Book")
  | 12 => .array .boolean
  | 13 => .object "NotaryBook$Leaves"
  | _ => .object "NotaryBook$Pen"
theorem nmX9 : ∀ a, a < 15 → ∀ b, b < 15 → a ≠ b → (TX9 a).2.1 ≠ (TX9 b).2.1 := by decide +kernel
theorem tyX9_ok : ∀ k, k < 15 → parseFieldDescriptor (TX9 k).2.2.1 = some (tyX9 k) := by decide +kernel
abbrev cX9_init : ByteArray := prog_1_method_1_code
def yX9_init : MethodName := ⟨RX9, "<init>", "()V"⟩
abbrev cX9_append : ByteArray := prog_1_method_2_code
def yX9_append : MethodName := ⟨RX9, "append", "(IIIII)I"⟩
abbrev cX9_putFourBytes : ByteArray := prog_1_method_3_code
def yX9_putFourBytes : MethodName := ⟨RX9, "putFourBytes", "(I)V"⟩
abbrev cX9_load : ByteArray := prog_1_method_4_code
def yX9_load : MethodName := ⟨RX9, "load", "(I)I"⟩
abbrev cX9_parseError : ByteArray := prog_1_method_5_code
def yX9_parseError : MethodName := ⟨RX9, "parseError", "()I"⟩
abbrev cX9_errorPosition : ByteArray := prog_1_method_6_code
def yX9_errorPosition : MethodName := ⟨RX9, "errorPosition", "()I"⟩
abbrev cX9_buffered : ByteArray := prog_1_method_7_code
def yX9_buffered : MethodName := ⟨RX9, "buffered", "()I"⟩
abbrev cX9_count : ByteArray := prog_1_method_8_code
def yX9_count : MethodName := ⟨RX9, "count", "(I)I"⟩
abbrev cX9_act : ByteArray := prog_1_method_9_code
def yX9_act : MethodName := ⟨RX9, "act", "(II)I"⟩
abbrev cX9_word : ByteArray := prog_1_method_10_code
def yX9_word : MethodName := ⟨RX9, "word", "(III)I"⟩
abbrev cX9_letter : ByteArray := prog_1_method_11_code
def yX9_letter : MethodName := ⟨RX9, "letter", "(III)I"⟩
abbrev cX9_innerLetter : ByteArray := prog_1_method_12_code
def yX9_innerLetter : MethodName := ⟨RX9, "innerLetter", "(IIII)I"⟩
abbrev cX9_clause : ByteArray := prog_1_method_13_code
def yX9_clause : MethodName := ⟨RX9, "clause", "(III)I"⟩
abbrev cX9_leaf : ByteArray := prog_1_method_14_code
def yX9_leaf : MethodName := ⟨RX9, "leaf", "(II)I"⟩
abbrev cX9_copy : ByteArray := prog_1_method_15_code
def yX9_copy : MethodName := ⟨RX9, "copy", "(II)I"⟩
abbrev cX9_has : ByteArray := prog_1_method_16_code
def yX9_has : MethodName := ⟨RX9, "has", "(II)Z"⟩
abbrev cX9_known : ByteArray := prog_1_method_17_code
def yX9_known : MethodName := ⟨RX9, "known", "(I)I"⟩
abbrev cX9_firstUnknown : ByteArray := prog_1_method_18_code
def yX9_firstUnknown : MethodName := ⟨RX9, "firstUnknown", "(I)I"⟩
abbrev cX9_gap : ByteArray := prog_1_method_19_code
def yX9_gap : MethodName := ⟨RX9, "gap", "()I"⟩
abbrev cX9_whyNotSeal : ByteArray := prog_1_method_20_code
def yX9_whyNotSeal : MethodName := ⟨RX9, "whyNotSeal", "(II)I"⟩
abbrev cX9_whyNotCopy : ByteArray := prog_1_method_21_code
def yX9_whyNotCopy : MethodName := ⟨RX9, "whyNotCopy", "(II)I"⟩
abbrev cX9_whyNotStrike : ByteArray := prog_1_method_22_code
def yX9_whyNotStrike : MethodName := ⟨RX9, "whyNotStrike", "(I)I"⟩
abbrev cX9_unknownIf : ByteArray := prog_1_method_23_code
def yX9_unknownIf : MethodName := ⟨RX9, "unknownIf", "(I)I"⟩
abbrev cX9_worstLeaf : ByteArray := prog_1_method_24_code
def yX9_worstLeaf : MethodName := ⟨RX9, "worstLeaf", "()I"⟩
abbrev cX9_shakenOut : ByteArray := prog_1_method_25_code
def yX9_shakenOut : MethodName := ⟨RX9, "shakenOut", "()I"⟩
abbrev cX9_leavesFor : ByteArray := prog_1_method_26_code
def yX9_leavesFor : MethodName := ⟨RX9, "leavesFor", "(I)I"⟩
abbrev cX9_copyWords : ByteArray := prog_1_method_27_code
def yX9_copyWords : MethodName := ⟨RX9, "copyWords", "(II)I"⟩
abbrev cX9_bestCopy : ByteArray := prog_1_method_28_code
def yX9_bestCopy : MethodName := ⟨RX9, "bestCopy", "(I)I"⟩
abbrev cX9_standingIf : ByteArray := prog_1_method_29_code
def yX9_standingIf : MethodName := ⟨RX9, "standingIf", "(IZ)I"⟩
abbrev cX9_findWord : ByteArray := prog_1_method_30_code
def yX9_findWord : MethodName := ⟨RX9, "findWord", "(I)I"⟩
abbrev cX9_longest : ByteArray := prog_1_method_31_code
def yX9_longest : MethodName := ⟨RX9, "longest", "(I)I"⟩
abbrev cX9_common : ByteArray := prog_1_method_32_code
def yX9_common : MethodName := ⟨RX9, "common", "(II)I"⟩
abbrev cX9_knownShare : ByteArray := prog_1_method_33_code
def yX9_knownShare : MethodName := ⟨RX9, "knownShare", "()F"⟩
abbrev cX9_meanWords : ByteArray := prog_1_method_34_code
def yX9_meanWords : MethodName := ⟨RX9, "meanWords", "()D"⟩
abbrev cX9_writeAct : ByteArray := prog_1_method_35_code
def yX9_writeAct : MethodName := ⟨RX9, "writeAct", "(I)I"⟩
abbrev cX9_writeStanding : ByteArray := prog_1_method_36_code
def yX9_writeStanding : MethodName := ⟨RX9, "writeStanding", "(I)I"⟩
abbrev cX9_writeLeaf : ByteArray := prog_1_method_37_code
def yX9_writeLeaf : MethodName := ⟨RX9, "writeLeaf", "(I)I"⟩
abbrev cX9_writeCopy : ByteArray := prog_1_method_38_code
def yX9_writeCopy : MethodName := ⟨RX9, "writeCopy", "(I)I"⟩
abbrev cX9_writeInserts : ByteArray := prog_1_method_39_code
def yX9_writeInserts : MethodName := ⟨RX9, "writeInserts", "(I)V"⟩
abbrev cX9_endOfWords : ByteArray := prog_1_method_40_code
def yX9_endOfWords : MethodName := ⟨RX9, "endOfWords", "()I"⟩
abbrev cX9_textByte : ByteArray := prog_1_method_41_code
def yX9_textByte : MethodName := ⟨RX9, "textByte", "(I)I"⟩
abbrev cX9_begin : ByteArray := prog_1_method_42_code
def yX9_begin : MethodName := ⟨RX9, "begin", "(II)I"⟩
abbrev cX9_strike : ByteArray := prog_1_method_43_code
def yX9_strike : MethodName := ⟨RX9, "strike", "(I)I"⟩
abbrev cX9_strikeClause : ByteArray := prog_1_method_44_code
def yX9_strikeClause : MethodName := ⟨RX9, "strikeClause", "(I)I"⟩
abbrev cX9_interline : ByteArray := prog_1_method_45_code
def yX9_interline : MethodName := ⟨RX9, "interline", "(II)I"⟩
abbrev cX9_seal : ByteArray := prog_1_method_46_code
def yX9_seal : MethodName := ⟨RX9, "seal", "(II)I"⟩
abbrev cX9_cancel : ByteArray := prog_1_method_47_code
def yX9_cancel : MethodName := ⟨RX9, "cancel", "()I"⟩
abbrev cX9_addCopy : ByteArray := prog_1_method_48_code
def yX9_addCopy : MethodName := ⟨RX9, "addCopy", "(II)I"⟩
abbrev cX9_burn : ByteArray := prog_1_method_49_code
def yX9_burn : MethodName := ⟨RX9, "burn", "(I)I"⟩
abbrev cX9_lose : ByteArray := prog_1_method_50_code
def yX9_lose : MethodName := ⟨RX9, "lose", "(I)I"⟩
abbrev cX9_recover : ByteArray := prog_1_method_51_code
def yX9_recover : MethodName := ⟨RX9, "recover", "(I)I"⟩
abbrev cX9_sew : ByteArray := prog_1_method_52_code
def yX9_sew : MethodName := ⟨RX9, "sew", "(I)I"⟩
abbrev cX9_shake : ByteArray := prog_1_method_53_code
def yX9_shake : MethodName := ⟨RX9, "shake", "()I"⟩
abbrev cX9_undo : ByteArray := prog_1_method_54_code
def yX9_undo : MethodName := ⟨RX9, "undo", "()I"⟩
abbrev cX9_undoable : ByteArray := prog_1_method_55_code
def yX9_undoable : MethodName := ⟨RX9, "undoable", "()I"⟩
abbrev cX9_save : ByteArray := prog_1_method_56_code
def yX9_save : MethodName := ⟨RX9, "save", "(I)I"⟩
abbrev cX9_restore : ByteArray := prog_1_method_57_code
def yX9_restore : MethodName := ⟨RX9, "restore", "(I)I"⟩
abbrev cX9_remember : ByteArray := prog_1_method_58_code
def yX9_remember : MethodName := ⟨RX9, "remember", "()V"⟩
abbrev cX9_forgetPast : ByteArray := prog_1_method_59_code
def yX9_forgetPast : MethodName := ⟨RX9, "forgetPast", "()V"⟩
abbrev cX9_rowAt : ByteArray := prog_1_method_60_code
def yX9_rowAt : MethodName := ⟨RX9, "rowAt", "([LNotaryBook$Book;I)LNotaryBook$Book;"⟩
abbrev cX9_requireBook : ByteArray := prog_1_method_61_code
def yX9_requireBook : MethodName := ⟨RX9, "requireBook", "()V"⟩
abbrev cX9_requireBytes : ByteArray := prog_1_method_62_code
def yX9_requireBytes : MethodName := ⟨RX9, "requireBytes", "(I)V"⟩
abbrev cX9_requireUpTo : ByteArray := prog_1_method_63_code
def yX9_requireUpTo : MethodName := ⟨RX9, "requireUpTo", "(II)V"⟩
abbrev cX9_requireAct : ByteArray := prog_1_method_64_code
def yX9_requireAct : MethodName := ⟨RX9, "requireAct", "(I)LNotaryBook$Act;"⟩
abbrev cX9_requireWord : ByteArray := prog_1_method_65_code
def yX9_requireWord : MethodName := ⟨RX9, "requireWord", "(LNotaryBook$Act;I)I"⟩
abbrev cX9_requireCopy : ByteArray := prog_1_method_66_code
def yX9_requireCopy : MethodName := ⟨RX9, "requireCopy", "(I)LNotaryBook$Copy;"⟩
abbrev cX9_requireLeaf : ByteArray := prog_1_method_67_code
def yX9_requireLeaf : MethodName := ⟨RX9, "requireLeaf", "(I)V"⟩
abbrev cX9_requireLeafAt : ByteArray := prog_1_method_68_code
def yX9_requireLeafAt : MethodName := ⟨RX9, "requireLeafAt", "(IZ)V"⟩
abbrev cX9_requireSlot : ByteArray := prog_1_method_69_code
def yX9_requireSlot : MethodName := ⟨RX9, "requireSlot", "(I)V"⟩
abbrev cX9_isLetter : ByteArray := prog_1_method_70_code
def yX9_isLetter : MethodName := ⟨RX9, "isLetter", "(I)Z"⟩
abbrev cX9_joined : ByteArray := prog_1_method_71_code
def yX9_joined : MethodName := ⟨RX9, "joined", "(JI)J"⟩
abbrev cX9_lettersIn : ByteArray := prog_1_method_72_code
def yX9_lettersIn : MethodName := ⟨RX9, "lettersIn", "(J)I"⟩
abbrev cX9_letterOf : ByteArray := prog_1_method_73_code
def yX9_letterOf : MethodName := ⟨RX9, "letterOf", "(JI)I"⟩
abbrev cX9_packed : ByteArray := prog_1_method_74_code
def yX9_packed : MethodName := ⟨RX9, "packed", "(Ljava/lang/String;)J"⟩
abbrev cX9_inputWord : ByteArray := prog_1_method_75_code
def yX9_inputWord : MethodName := ⟨RX9, "inputWord", "(I)J"⟩
def RX10 : String := "NotaryBookModel"
def TX10 : u_T := fun k => match k with
  | 0 => ("NotaryBookModel", "thrown", "I", false)
  | 1 => ("NotaryBookModel", "now", "[I", true)
  | 2 => ("NotaryBookModel", "aside", "[I", true)
  | 3 => ("NotaryBookModel", "undos", "[I", true)
  | 4 => ("NotaryBookModel", "saved", "[I", true)
  | 5 => ("NotaryBookModel", "isSaved", "[Z", true)
  | 6 => ("NotaryBookModel", "isThere", "Z", false)
  | 7 => ("NotaryBookModel", "undoMany", "I", false)
  | 8 => ("NotaryBookModel", "buffer", "[B", true)
  | 9 => ("NotaryBookModel", "buffered", "I", false)
  | 10 => ("NotaryBookModel", "parseCode", "I", false)
  | 11 => ("NotaryBookModel", "parseAt", "I", false)
  | 12 => ("NotaryBookModel", "size", "I", false)
  | 13 => ("NotaryBookModel", "cursor", "I", false)
  | 14 => ("NotaryBookModel", "start", "I", false)
  | 15 => ("NotaryBookModel", "token", "I", false)
  | 16 => ("NotaryBookModel", "told", "I", false)
  | 17 => ("NotaryBookModel", "fault", "I", false)
  | 18 => ("NotaryBookModel", "faultAt", "I", false)
  | 19 => ("NotaryBookModel", "around", "I", false)
  | 20 => ("NotaryBookModel", "depth", "I", false)
  | 21 => ("NotaryBookModel", "isShaken", "[Z", true)
  | 22 => ("NotaryBookModel", "page", "[B", true)
  | _ => ("NotaryBookModel", "pageSize", "I", false)
def tyX10 : Nat → FieldType := fun k => match k with
  | 0 => .int
  | 1 => .array .int
  | 2 => .array .int
  | 3 => .array .int
  | 4 => .array .int
  | 5 => .array .boolean
  | 6 => .boolean
  | 7 => .int
  | 8 => .array .byte
  | 9 => .int
  | 10 => .int
  | 11 => .int
  | 12 => .int
  | 13 => .int
  | 14 => .int
  | 15 => .int
  | 16 => .int
  | 17 => .int
  | 18 => .int
  | 19 => .int
  | 20 => .int
  | 21 => .array .boolean
  | 22 => .array .byte
  | _ => .int
theorem nmX10 : ∀ a, a < 24 → ∀ b, b < 24 → a ≠ b → (TX10 a).2.1 ≠ (TX10 b).2.1 := by decide +kernel
theorem tyX10_ok : ∀ k, k < 24 → parseFieldDescriptor (TX10 k).2.2.1 = some (tyX10 k) := by decide +kernel
abbrev cX10_init : ByteArray := prog_12_method_1_code
def yX10_init : MethodName := ⟨RX10, "<init>", "()V"⟩
abbrev cX10_thrown : ByteArray := prog_12_method_2_code
def yX10_thrown : MethodName := ⟨RX10, "thrown", "()I"⟩
abbrev cX10_in : ByteArray := prog_12_method_3_code
def yX10_in : MethodName := ⟨RX10, "in", "(III)Z"⟩
abbrev cX10_one : ByteArray := prog_12_method_4_code
def yX10_one : MethodName := ⟨RX10, "one", "(Z)I"⟩
abbrev cX10_may : ByteArray := prog_12_method_5_code
def yX10_may : MethodName := ⟨RX10, "may", "(ZZZ)Z"⟩
abbrev cX10_mayTwo : ByteArray := prog_12_method_6_code
def yX10_mayTwo : MethodName := ⟨RX10, "mayTwo", "(ZZ)Z"⟩
abbrev cX10_mayLook : ByteArray := prog_12_method_7_code
def yX10_mayLook : MethodName := ⟨RX10, "mayLook", "()Z"⟩
abbrev cX10_lays : ByteArray := prog_12_method_8_code
def yX10_lays : MethodName := ⟨RX10, "lays", "([II[II)V"⟩
abbrev cX10_thinks : ByteArray := prog_12_method_9_code
def yX10_thinks : MethodName := ⟨RX10, "thinks", "()V"⟩
abbrev cX10_back : ByteArray := prog_12_method_10_code
def yX10_back : MethodName := ⟨RX10, "back", "(I)I"⟩
abbrev cX10_append : ByteArray := prog_12_method_11_code
def yX10_append : MethodName := ⟨RX10, "append", "(IIIII)I"⟩
abbrev cX10_four : ByteArray := prog_12_method_12_code
def yX10_four : MethodName := ⟨RX10, "four", "(I)V"⟩
abbrev cX10_parseError : ByteArray := prog_12_method_13_code
def yX10_parseError : MethodName := ⟨RX10, "parseError", "()I"⟩
abbrev cX10_errorPosition : ByteArray := prog_12_method_14_code
def yX10_errorPosition : MethodName := ⟨RX10, "errorPosition", "()I"⟩
abbrev cX10_buffered : ByteArray := prog_12_method_15_code
def yX10_buffered : MethodName := ⟨RX10, "buffered", "()I"⟩
abbrev cX10_isLetter : ByteArray := prog_12_method_16_code
def yX10_isLetter : MethodName := ⟨RX10, "isLetter", "(I)Z"⟩
abbrev cX10_isDigit : ByteArray := prog_12_method_17_code
def yX10_isDigit : MethodName := ⟨RX10, "isDigit", "(I)Z"⟩
abbrev cX10_signOf : ByteArray := prog_12_method_18_code
def yX10_signOf : MethodName := ⟨RX10, "signOf", "(I)I"⟩
abbrev cX10_goes : ByteArray := prog_12_method_19_code
def yX10_goes : MethodName := ⟨RX10, "goes", "()V"⟩
abbrev cX10_faults : ByteArray := prog_12_method_20_code
def yX10_faults : MethodName := ⟨RX10, "faults", "(I)V"⟩
abbrev cX10_is : ByteArray := prog_12_method_21_code
def yX10_is : MethodName := ⟨RX10, "is", "(I)Z"⟩
abbrev cX10_isWord : ByteArray := prog_12_method_22_code
def yX10_isWord : MethodName := ⟨RX10, "isWord", "(Ljava/lang/String;)Z"⟩
abbrev cX10_numberHere : ByteArray := prog_12_method_23_code
def yX10_numberHere : MethodName := ⟨RX10, "numberHere", "(II)I"⟩
abbrev cX10_number : ByteArray := prog_12_method_24_code
def yX10_number : MethodName := ⟨RX10, "number", "(II)I"⟩
abbrev cX10_begins : ByteArray := prog_12_method_25_code
def yX10_begins : MethodName := ⟨RX10, "begins", "(I)V"⟩
abbrev cX10_valueOf : ByteArray := prog_12_method_26_code
def yX10_valueOf : MethodName := ⟨RX10, "valueOf", "(I)I"⟩
abbrev cX10_partOf : ByteArray := prog_12_method_27_code
def yX10_partOf : MethodName := ⟨RX10, "partOf", "(III)I"⟩
abbrev cX10_letterOf : ByteArray := prog_12_method_28_code
def yX10_letterOf : MethodName := ⟨RX10, "letterOf", "(III)I"⟩
abbrev cX10_lengthOf : ByteArray := prog_12_method_29_code
def yX10_lengthOf : MethodName := ⟨RX10, "lengthOf", "(II)I"⟩
abbrev cX10_opensClause : ByteArray := prog_12_method_30_code
def yX10_opensClause : MethodName := ⟨RX10, "opensClause", "(I)V"⟩
abbrev cX10_closesClause : ByteArray := prog_12_method_31_code
def yX10_closesClause : MethodName := ⟨RX10, "closesClause", "()V"⟩
abbrev cX10_readsItem : ByteArray := prog_12_method_32_code
def yX10_readsItem : MethodName := ⟨RX10, "readsItem", "(I)V"⟩
abbrev cX10_readsBody : ByteArray := prog_12_method_33_code
def yX10_readsBody : MethodName := ⟨RX10, "readsBody", "(I)V"⟩
abbrev cX10_addsWord : ByteArray := prog_12_method_34_code
def yX10_addsWord : MethodName := ⟨RX10, "addsWord", "(I)V"⟩
abbrev cX10_comesLeaf : ByteArray := prog_12_method_35_code
def yX10_comesLeaf : MethodName := ⟨RX10, "comesLeaf", "(I)V"⟩
abbrev cX10_addsAct : ByteArray := prog_12_method_36_code
def yX10_addsAct : MethodName := ⟨RX10, "addsAct", "(I)I"⟩
abbrev cX10_kindHere : ByteArray := prog_12_method_37_code
def yX10_kindHere : MethodName := ⟨RX10, "kindHere", "()I"⟩
abbrev cX10_readsAct : ByteArray := prog_12_method_38_code
def yX10_readsAct : MethodName := ⟨RX10, "readsAct", "()V"⟩
abbrev cX10_wordHere : ByteArray := prog_12_method_39_code
def yX10_wordHere : MethodName := ⟨RX10, "wordHere", "()I"⟩
abbrev cX10_readsStrike : ByteArray := prog_12_method_40_code
def yX10_readsStrike : MethodName := ⟨RX10, "readsStrike", "()V"⟩
abbrev cX10_readsOut : ByteArray := prog_12_method_41_code
def yX10_readsOut : MethodName := ⟨RX10, "readsOut", "()V"⟩
abbrev cX10_readsInsert : ByteArray := prog_12_method_42_code
def yX10_readsInsert : MethodName := ⟨RX10, "readsInsert", "()V"⟩
abbrev cX10_readsSeal : ByteArray := prog_12_method_43_code
def yX10_readsSeal : MethodName := ⟨RX10, "readsSeal", "()V"⟩
abbrev cX10_readsCancel : ByteArray := prog_12_method_44_code
def yX10_readsCancel : MethodName := ⟨RX10, "readsCancel", "()V"⟩
abbrev cX10_readsCopy : ByteArray := prog_12_method_45_code
def yX10_readsCopy : MethodName := ⟨RX10, "readsCopy", "()V"⟩
abbrev cX10_leafHere : ByteArray := prog_12_method_46_code
def yX10_leafHere : MethodName := ⟨RX10, "leafHere", "()I"⟩
abbrev cX10_readsLose : ByteArray := prog_12_method_47_code
def yX10_readsLose : MethodName := ⟨RX10, "readsLose", "()V"⟩
abbrev cX10_readsFind : ByteArray := prog_12_method_48_code
def yX10_readsFind : MethodName := ⟨RX10, "readsFind", "()V"⟩
abbrev cX10_readsSew : ByteArray := prog_12_method_49_code
def yX10_readsSew : MethodName := ⟨RX10, "readsSew", "()V"⟩
abbrev cX10_readsShake : ByteArray := prog_12_method_50_code
def yX10_readsShake : MethodName := ⟨RX10, "readsShake", "()V"⟩
abbrev cX10_readsLine : ByteArray := prog_12_method_51_code
def yX10_readsLine : MethodName := ⟨RX10, "readsLine", "()V"⟩
abbrev cX10_readsLeafLine : ByteArray := prog_12_method_52_code
def yX10_readsLeafLine : MethodName := ⟨RX10, "readsLeafLine", "()V"⟩
abbrev cX10_readsText : ByteArray := prog_12_method_53_code
def yX10_readsText : MethodName := ⟨RX10, "readsText", "()V"⟩
abbrev cX10_load : ByteArray := prog_12_method_54_code
def yX10_load : MethodName := ⟨RX10, "load", "(I)I"⟩
abbrev cX10_ofAct : ByteArray := prog_12_method_55_code
def yX10_ofAct : MethodName := ⟨RX10, "ofAct", "(II)I"⟩
abbrev cX10_putsAct : ByteArray := prog_12_method_56_code
def yX10_putsAct : MethodName := ⟨RX10, "putsAct", "(III)V"⟩
abbrev cX10_ofWord : ByteArray := prog_12_method_57_code
def yX10_ofWord : MethodName := ⟨RX10, "ofWord", "(II)I"⟩
abbrev cX10_putsWord : ByteArray := prog_12_method_58_code
def yX10_putsWord : MethodName := ⟨RX10, "putsWord", "(III)V"⟩
abbrev cX10_ofClause : ByteArray := prog_12_method_59_code
def yX10_ofClause : MethodName := ⟨RX10, "ofClause", "(II)I"⟩
abbrev cX10_openAct : ByteArray := prog_12_method_60_code
def yX10_openAct : MethodName := ⟨RX10, "openAct", "()I"⟩
abbrev cX10_openWord : ByteArray := prog_12_method_61_code
def yX10_openWord : MethodName := ⟨RX10, "openWord", "(I)I"⟩
abbrev cX10_lastOf : ByteArray := prog_12_method_62_code
def yX10_lastOf : MethodName := ⟨RX10, "lastOf", "(I)I"⟩
abbrev cX10_actOf : ByteArray := prog_12_method_63_code
def yX10_actOf : MethodName := ⟨RX10, "actOf", "(I)I"⟩
abbrev cX10_clauseOf : ByteArray := prog_12_method_64_code
def yX10_clauseOf : MethodName := ⟨RX10, "clauseOf", "(I)I"⟩
abbrev cX10_stands : ByteArray := prog_12_method_65_code
def yX10_stands : MethodName := ⟨RX10, "stands", "(I)Z"⟩
abbrev cX10_depthOf : ByteArray := prog_12_method_66_code
def yX10_depthOf : MethodName := ⟨RX10, "depthOf", "(I)I"⟩
abbrev cX10_standing : ByteArray := prog_12_method_67_code
def yX10_standing : MethodName := ⟨RX10, "standing", "(I)I"⟩
abbrev cX10_marks : ByteArray := prog_12_method_68_code
def yX10_marks : MethodName := ⟨RX10, "marks", "(I)V"⟩
abbrev cX10_whyStrike : ByteArray := prog_12_method_69_code
def yX10_whyStrike : MethodName := ⟨RX10, "whyStrike", "(I)I"⟩
abbrev cX10_strikes : ByteArray := prog_12_method_70_code
def yX10_strikes : MethodName := ⟨RX10, "strikes", "(I)V"⟩
abbrev cX10_strikesClause : ByteArray := prog_12_method_71_code
def yX10_strikesClause : MethodName := ⟨RX10, "strikesClause", "(I)I"⟩
abbrev cX10_interlines : ByteArray := prog_12_method_72_code
def yX10_interlines : MethodName := ⟨RX10, "interlines", "(III)V"⟩
abbrev cX10_whySeal : ByteArray := prog_12_method_73_code
def yX10_whySeal : MethodName := ⟨RX10, "whySeal", "(II)I"⟩
abbrev cX10_seals : ByteArray := prog_12_method_74_code
def yX10_seals : MethodName := ⟨RX10, "seals", "(I)I"⟩
abbrev cX10_leaves : ByteArray := prog_12_method_75_code
def yX10_leaves : MethodName := ⟨RX10, "leaves", "()I"⟩
abbrev cX10_statusOf : ByteArray := prog_12_method_76_code
def yX10_statusOf : MethodName := ⟨RX10, "statusOf", "(I)I"⟩
abbrev cX10_mateOf : ByteArray := prog_12_method_77_code
def yX10_mateOf : MethodName := ⟨RX10, "mateOf", "(I)I"⟩
abbrev cX10_loosens : ByteArray := prog_12_method_78_code
def yX10_loosens : MethodName := ⟨RX10, "loosens", "(I)V"⟩
abbrev cX10_loses : ByteArray := prog_12_method_79_code
def yX10_loses : MethodName := ⟨RX10, "loses", "(I)V"⟩
abbrev cX10_recovers : ByteArray := prog_12_method_80_code
def yX10_recovers : MethodName := ⟨RX10, "recovers", "(I)V"⟩
abbrev cX10_shakes : ByteArray := prog_12_method_81_code
def yX10_shakes : MethodName := ⟨RX10, "shakes", "()I"⟩
abbrev cX10_withStatus : ByteArray := prog_12_method_82_code
def yX10_withStatus : MethodName := ⟨RX10, "withStatus", "(I)I"⟩
abbrev cX10_ofCopy : ByteArray := prog_12_method_83_code
def yX10_ofCopy : MethodName := ⟨RX10, "ofCopy", "(II)I"⟩
abbrev cX10_feeOf : ByteArray := prog_12_method_84_code
def yX10_feeOf : MethodName := ⟨RX10, "feeOf", "(I)I"⟩
abbrev cX10_firstStanding : ByteArray := prog_12_method_85_code
def yX10_firstStanding : MethodName := ⟨RX10, "firstStanding", "(I)I"⟩
abbrev cX10_lastStanding : ByteArray := prog_12_method_86_code
def yX10_lastStanding : MethodName := ⟨RX10, "lastStanding", "(I)I"⟩
abbrev cX10_hasBy : ByteArray := prog_12_method_87_code
def yX10_hasBy : MethodName := ⟨RX10, "hasBy", "(III)Z"⟩
abbrev cX10_hasWord : ByteArray := prog_12_method_88_code
def yX10_hasWord : MethodName := ⟨RX10, "hasWord", "(II)Z"⟩
abbrev cX10_copiesWith : ByteArray := prog_12_method_89_code
def yX10_copiesWith : MethodName := ⟨RX10, "copiesWith", "(I)I"⟩
abbrev cX10_isOnLost : ByteArray := prog_12_method_90_code
def yX10_isOnLost : MethodName := ⟨RX10, "isOnLost", "(I)Z"⟩
abbrev cX10_isKnown : ByteArray := prog_12_method_91_code
def yX10_isKnown : MethodName := ⟨RX10, "isKnown", "(I)Z"⟩
abbrev cX10_unknown : ByteArray := prog_12_method_92_code
def yX10_unknown : MethodName := ⟨RX10, "unknown", "()I"⟩
abbrev cX10_whyCopy : ByteArray := prog_12_method_93_code
def yX10_whyCopy : MethodName := ⟨RX10, "whyCopy", "(II)I"⟩
abbrev cX10_copies : ByteArray := prog_12_method_94_code
def yX10_copies : MethodName := ⟨RX10, "copies", "(II)V"⟩
abbrev cX10_wordsBy : ByteArray := prog_12_method_95_code
def yX10_wordsBy : MethodName := ⟨RX10, "wordsBy", "(II)I"⟩
abbrev cX10_ofAllActs : ByteArray := prog_12_method_96_code
def yX10_ofAllActs : MethodName := ⟨RX10, "ofAllActs", "(I)I"⟩
abbrev cX10_standingAll : ByteArray := prog_12_method_97_code
def yX10_standingAll : MethodName := ⟨RX10, "standingAll", "(Z)I"⟩
abbrev cX10_actsWith : ByteArray := prog_12_method_98_code
def yX10_actsWith : MethodName := ⟨RX10, "actsWith", "(I)I"⟩
abbrev cX10_count : ByteArray := prog_12_method_99_code
def yX10_count : MethodName := ⟨RX10, "count", "(I)I"⟩
abbrev cX10_isAct : ByteArray := prog_12_method_100_code
def yX10_isAct : MethodName := ⟨RX10, "isAct", "(I)Z"⟩
abbrev cX10_isWordOf : ByteArray := prog_12_method_101_code
def yX10_isWordOf : MethodName := ⟨RX10, "isWordOf", "(II)Z"⟩
abbrev cX10_isLeaf : ByteArray := prog_12_method_102_code
def yX10_isLeaf : MethodName := ⟨RX10, "isLeaf", "(I)Z"⟩
abbrev cX10_isCopy : ByteArray := prog_12_method_103_code
def yX10_isCopy : MethodName := ⟨RX10, "isCopy", "(I)Z"⟩
abbrev cX10_isGrade : ByteArray := prog_12_method_104_code
def yX10_isGrade : MethodName := ⟨RX10, "isGrade", "(I)Z"⟩
abbrev cX10_mayAct : ByteArray := prog_12_method_105_code
def yX10_mayAct : MethodName := ⟨RX10, "mayAct", "(I)Z"⟩
abbrev cX10_mayLeaf : ByteArray := prog_12_method_106_code
def yX10_mayLeaf : MethodName := ⟨RX10, "mayLeaf", "(I)Z"⟩
abbrev cX10_mayCopy : ByteArray := prog_12_method_107_code
def yX10_mayCopy : MethodName := ⟨RX10, "mayCopy", "(I)Z"⟩
abbrev cX10_globalOf : ByteArray := prog_12_method_108_code
def yX10_globalOf : MethodName := ⟨RX10, "globalOf", "(II)I"⟩
abbrev cX10_deepest : ByteArray := prog_12_method_109_code
def yX10_deepest : MethodName := ⟨RX10, "deepest", "(I)I"⟩
abbrev cX10_copiesOf : ByteArray := prog_12_method_110_code
def yX10_copiesOf : MethodName := ⟨RX10, "copiesOf", "(I)I"⟩
abbrev cX10_act : ByteArray := prog_12_method_111_code
def yX10_act : MethodName := ⟨RX10, "act", "(II)I"⟩
abbrev cX10_clauseNumber : ByteArray := prog_12_method_112_code
def yX10_clauseNumber : MethodName := ⟨RX10, "clauseNumber", "(I)I"⟩
abbrev cX10_word : ByteArray := prog_12_method_113_code
def yX10_word : MethodName := ⟨RX10, "word", "(III)I"⟩
abbrev cX10_letter : ByteArray := prog_12_method_114_code
def yX10_letter : MethodName := ⟨RX10, "letter", "(III)I"⟩
abbrev cX10_innerLetter : ByteArray := prog_12_method_115_code
def yX10_innerLetter : MethodName := ⟨RX10, "innerLetter", "(IIII)I"⟩
abbrev cX10_standingWritten : ByteArray := prog_12_method_116_code
def yX10_standingWritten : MethodName := ⟨RX10, "standingWritten", "(II)I"⟩
abbrev cX10_clausesIn : ByteArray := prog_12_method_117_code
def yX10_clausesIn : MethodName := ⟨RX10, "clausesIn", "(II)I"⟩
abbrev cX10_clause : ByteArray := prog_12_method_118_code
def yX10_clause : MethodName := ⟨RX10, "clause", "(III)I"⟩
abbrev cX10_firstOn : ByteArray := prog_12_method_119_code
def yX10_firstOn : MethodName := ⟨RX10, "firstOn", "(I)I"⟩
abbrev cX10_lastOn : ByteArray := prog_12_method_120_code
def yX10_lastOn : MethodName := ⟨RX10, "lastOn", "(I)I"⟩
abbrev cX10_leaf : ByteArray := prog_12_method_121_code
def yX10_leaf : MethodName := ⟨RX10, "leaf", "(II)I"⟩
abbrev cX10_knownBy : ByteArray := prog_12_method_122_code
def yX10_knownBy : MethodName := ⟨RX10, "knownBy", "(I)I"⟩
abbrev cX10_copy : ByteArray := prog_12_method_123_code
def yX10_copy : MethodName := ⟨RX10, "copy", "(II)I"⟩
abbrev cX10_has : ByteArray := prog_12_method_124_code
def yX10_has : MethodName := ⟨RX10, "has", "(II)Z"⟩
abbrev cX10_known : ByteArray := prog_12_method_125_code
def yX10_known : MethodName := ⟨RX10, "known", "(I)I"⟩
abbrev cX10_firstUnknown : ByteArray := prog_12_method_126_code
def yX10_firstUnknown : MethodName := ⟨RX10, "firstUnknown", "(I)I"⟩
abbrev cX10_standingByClauses : ByteArray := prog_12_method_127_code
def yX10_standingByClauses : MethodName := ⟨RX10, "standingByClauses", "(I)I"⟩
abbrev cX10_standingIn : ByteArray := prog_12_method_128_code
def yX10_standingIn : MethodName := ⟨RX10, "standingIn", "(II)I"⟩
abbrev cX10_gap : ByteArray := prog_12_method_129_code
def yX10_gap : MethodName := ⟨RX10, "gap", "()I"⟩
abbrev cX10_whyNotSeal : ByteArray := prog_12_method_130_code
def yX10_whyNotSeal : MethodName := ⟨RX10, "whyNotSeal", "(II)I"⟩
abbrev cX10_whyNotCopy : ByteArray := prog_12_method_131_code
def yX10_whyNotCopy : MethodName := ⟨RX10, "whyNotCopy", "(II)I"⟩
abbrev cX10_whyNotStrike : ByteArray := prog_12_method_132_code
def yX10_whyNotStrike : MethodName := ⟨RX10, "whyNotStrike", "(I)I"⟩
abbrev cX10_lostBy : ByteArray := prog_12_method_133_code
def yX10_lostBy : MethodName := ⟨RX10, "lostBy", "(I)I"⟩
abbrev cX10_unknownIf : ByteArray := prog_12_method_134_code
def yX10_unknownIf : MethodName := ⟨RX10, "unknownIf", "(I)I"⟩
abbrev cX10_worstLeaf : ByteArray := prog_12_method_135_code
def yX10_worstLeaf : MethodName := ⟨RX10, "worstLeaf", "()I"⟩
abbrev cX10_shakenOut : ByteArray := prog_12_method_136_code
def yX10_shakenOut : MethodName := ⟨RX10, "shakenOut", "()I"⟩
abbrev cX10_leavesFor : ByteArray := prog_12_method_137_code
def yX10_leavesFor : MethodName := ⟨RX10, "leavesFor", "(I)I"⟩
abbrev cX10_copyWords : ByteArray := prog_12_method_138_code
def yX10_copyWords : MethodName := ⟨RX10, "copyWords", "(II)I"⟩
abbrev cX10_knownWith : ByteArray := prog_12_method_139_code
def yX10_knownWith : MethodName := ⟨RX10, "knownWith", "(II)I"⟩
abbrev cX10_bestCopy : ByteArray := prog_12_method_140_code
def yX10_bestCopy : MethodName := ⟨RX10, "bestCopy", "(I)I"⟩
abbrev cX10_standingWithout : ByteArray := prog_12_method_141_code
def yX10_standingWithout : MethodName := ⟨RX10, "standingWithout", "(IZ)I"⟩
abbrev cX10_isAsked : ByteArray := prog_12_method_142_code
def yX10_isAsked : MethodName := ⟨RX10, "isAsked", "(IZ)Z"⟩
abbrev cX10_standingIf : ByteArray := prog_12_method_143_code
def yX10_standingIf : MethodName := ⟨RX10, "standingIf", "(IZ)I"⟩
abbrev cX10_areLetters : ByteArray := prog_12_method_144_code
def yX10_areLetters : MethodName := ⟨RX10, "areLetters", "(I)Z"⟩
abbrev cX10_isAlike : ByteArray := prog_12_method_145_code
def yX10_isAlike : MethodName := ⟨RX10, "isAlike", "(III)Z"⟩
abbrev cX10_standsAt : ByteArray := prog_12_method_146_code
def yX10_standsAt : MethodName := ⟨RX10, "standsAt", "(III)Z"⟩
abbrev cX10_actWith : ByteArray := prog_12_method_147_code
def yX10_actWith : MethodName := ⟨RX10, "actWith", "(II)I"⟩
abbrev cX10_findWord : ByteArray := prog_12_method_148_code
def yX10_findWord : MethodName := ⟨RX10, "findWord", "(I)I"⟩
abbrev cX10_longest : ByteArray := prog_12_method_149_code
def yX10_longest : MethodName := ⟨RX10, "longest", "(I)I"⟩
abbrev cX10_isWrittenIn : ByteArray := prog_12_method_150_code
def yX10_isWrittenIn : MethodName := ⟨RX10, "isWrittenIn", "(III)Z"⟩
abbrev cX10_common : ByteArray := prog_12_method_151_code
def yX10_common : MethodName := ⟨RX10, "common", "(II)I"⟩
abbrev cX10_knownShare : ByteArray := prog_12_method_152_code
def yX10_knownShare : MethodName := ⟨RX10, "knownShare", "()F"⟩
abbrev cX10_meanWords : ByteArray := prog_12_method_153_code
def yX10_meanWords : MethodName := ⟨RX10, "meanWords", "()D"⟩
abbrev cX10_writesByte : ByteArray := prog_12_method_154_code
def yX10_writesByte : MethodName := ⟨RX10, "writesByte", "(I)V"⟩
abbrev cX10_writesBlank : ByteArray := prog_12_method_155_code
def yX10_writesBlank : MethodName := ⟨RX10, "writesBlank", "()V"⟩
abbrev cX10_writesLetters : ByteArray := prog_12_method_156_code
def yX10_writesLetters : MethodName := ⟨RX10, "writesLetters", "(I)V"⟩
abbrev cX10_writesInner : ByteArray := prog_12_method_157_code
def yX10_writesInner : MethodName := ⟨RX10, "writesInner", "(II)V"⟩
abbrev cX10_writesOpening : ByteArray := prog_12_method_158_code
def yX10_writesOpening : MethodName := ⟨RX10, "writesOpening", "(II)V"⟩
abbrev cX10_writesClosing : ByteArray := prog_12_method_159_code
def yX10_writesClosing : MethodName := ⟨RX10, "writesClosing", "(II)V"⟩
abbrev cX10_writesWord : ByteArray := prog_12_method_160_code
def yX10_writesWord : MethodName := ⟨RX10, "writesWord", "(IZ)V"⟩
abbrev cX10_writeAct : ByteArray := prog_12_method_161_code
def yX10_writeAct : MethodName := ⟨RX10, "writeAct", "(I)I"⟩
abbrev cX10_written : ByteArray := prog_12_method_162_code
def yX10_written : MethodName := ⟨RX10, "written", "()I"⟩
abbrev cX10_writeStanding : ByteArray := prog_12_method_163_code
def yX10_writeStanding : MethodName := ⟨RX10, "writeStanding", "(I)I"⟩
abbrev cX10_writesNumber : ByteArray := prog_12_method_164_code
def yX10_writesNumber : MethodName := ⟨RX10, "writesNumber", "(I)V"⟩
abbrev cX10_writesOnLeaf : ByteArray := prog_12_method_165_code
def yX10_writesOnLeaf : MethodName := ⟨RX10, "writesOnLeaf", "(I)V"⟩
abbrev cX10_writeLeaf : ByteArray := prog_12_method_166_code
def yX10_writeLeaf : MethodName := ⟨RX10, "writeLeaf", "(I)I"⟩
abbrev cX10_writeCopy : ByteArray := prog_12_method_167_code
def yX10_writeCopy : MethodName := ⟨RX10, "writeCopy", "(I)I"⟩
abbrev cX10_textByte : ByteArray := prog_12_method_168_code
def yX10_textByte : MethodName := ⟨RX10, "textByte", "(I)I"⟩
abbrev cX10_remembers : ByteArray := prog_12_method_169_code
def yX10_remembers : MethodName := ⟨RX10, "remembers", "()V"⟩
abbrev cX10_isRead : ByteArray := prog_12_method_170_code
def yX10_isRead : MethodName := ⟨RX10, "isRead", "(II)Z"⟩
abbrev cX10_canBegin : ByteArray := prog_12_method_171_code
def yX10_canBegin : MethodName := ⟨RX10, "canBegin", "(I)Z"⟩
abbrev cX10_begin : ByteArray := prog_12_method_172_code
def yX10_begin : MethodName := ⟨RX10, "begin", "(II)I"⟩
abbrev cX10_strike : ByteArray := prog_12_method_173_code
def yX10_strike : MethodName := ⟨RX10, "strike", "(I)I"⟩
abbrev cX10_strikeClause : ByteArray := prog_12_method_174_code
def yX10_strikeClause : MethodName := ⟨RX10, "strikeClause", "(I)I"⟩
abbrev cX10_canInterline : ByteArray := prog_12_method_175_code
def yX10_canInterline : MethodName := ⟨RX10, "canInterline", "(II)Z"⟩
abbrev cX10_interline : ByteArray := prog_12_method_176_code
def yX10_interline : MethodName := ⟨RX10, "interline", "(II)I"⟩
abbrev cX10_seal : ByteArray := prog_12_method_177_code
def yX10_seal : MethodName := ⟨RX10, "seal", "(II)I"⟩
abbrev cX10_cancel : ByteArray := prog_12_method_178_code
def yX10_cancel : MethodName := ⟨RX10, "cancel", "()I"⟩
abbrev cX10_addCopy : ByteArray := prog_12_method_179_code
def yX10_addCopy : MethodName := ⟨RX10, "addCopy", "(II)I"⟩
abbrev cX10_burn : ByteArray := prog_12_method_180_code
def yX10_burn : MethodName := ⟨RX10, "burn", "(I)I"⟩
abbrev cX10_lose : ByteArray := prog_12_method_181_code
def yX10_lose : MethodName := ⟨RX10, "lose", "(I)I"⟩
abbrev cX10_recover : ByteArray := prog_12_method_182_code
def yX10_recover : MethodName := ⟨RX10, "recover", "(I)I"⟩
abbrev cX10_sew : ByteArray := prog_12_method_183_code
def yX10_sew : MethodName := ⟨RX10, "sew", "(I)I"⟩
abbrev cX10_shake : ByteArray := prog_12_method_184_code
def yX10_shake : MethodName := ⟨RX10, "shake", "()I"⟩
abbrev cX10_undo : ByteArray := prog_12_method_185_code
def yX10_undo : MethodName := ⟨RX10, "undo", "()I"⟩
abbrev cX10_undoable : ByteArray := prog_12_method_186_code
def yX10_undoable : MethodName := ⟨RX10, "undoable", "()I"⟩
abbrev cX10_isSlot : ByteArray := prog_12_method_187_code
def yX10_isSlot : MethodName := ⟨RX10, "isSlot", "(I)Z"⟩
abbrev cX10_save : ByteArray := prog_12_method_188_code
def yX10_save : MethodName := ⟨RX10, "save", "(I)I"⟩
abbrev cX10_restore : ByteArray := prog_12_method_189_code
def yX10_restore : MethodName := ⟨RX10, "restore", "(I)I"⟩
def RJ5 : String := "java/lang/AbstractStringBuilder"
def TJ5 : u_T := fun k => match k with
  | _ => ("", "", "", false)
def tyJ5 : Nat → FieldType := fun k => match k with
  | _ => .int
theorem nmJ5 : ∀ a, a < 0 → ∀ b, b < 0 → a ≠ b → (TJ5 a).2.1 ≠ (TJ5 b).2.1 := by decide +kernel
theorem tyJ5_ok : ∀ k, k < 0 → parseFieldDescriptor (TJ5 k).2.2.1 = some (tyJ5 k) := by decide +kernel
abbrev cJ5_init_d00df : ByteArray := prog_13_method_2_code
def yJ5_init_d00df : MethodName := ⟨RJ5, "<init>", "(I)V"⟩
abbrev cJ5_length_8abf5 : ByteArray := prog_13_method_6_code
def yJ5_length_8abf5 : MethodName := ⟨RJ5, "length", "()I"⟩
abbrev cJ5_ensureCapacityInternal_d00df : ByteArray := prog_13_method_9_code
def yJ5_ensureCapacityInternal_d00df : MethodName := ⟨RJ5, "ensureCapacityInternal", "(I)V"⟩
abbrev cJ5_newCapacity_0f7a4 : ByteArray := prog_13_method_10_code
def yJ5_newCapacity_0f7a4 : MethodName := ⟨RJ5, "newCapacity", "(I)I"⟩
abbrev cJ5_inflate_da8c8 : ByteArray := prog_13_method_11_code
def yJ5_inflate_da8c8 : MethodName := ⟨RJ5, "inflate", "()V"⟩
abbrev cJ5_setLength_d00df : ByteArray := prog_13_method_13_code
def yJ5_setLength_d00df : MethodName := ⟨RJ5, "setLength", "(I)V"⟩
abbrev cJ5_charAt_5068e : ByteArray := prog_13_method_14_code
def yJ5_charAt_5068e : MethodName := ⟨RJ5, "charAt", "(I)C"⟩
abbrev cJ5_append_cf1ce : ByteArray := prog_13_method_22_code
def yJ5_append_cf1ce : MethodName := ⟨RJ5, "append", "(Ljava/lang/String;)Ljava/lang/AbstractStringBuilder;"⟩
abbrev cJ5_appendNull_278bc : ByteArray := prog_13_method_26_code
def yJ5_appendNull_278bc : MethodName := ⟨RJ5, "appendNull", "()Ljava/lang/AbstractStringBuilder;"⟩
abbrev cJ5_append_3fe6f : ByteArray := prog_13_method_31_code
def yJ5_append_3fe6f : MethodName := ⟨RJ5, "append", "(C)Ljava/lang/AbstractStringBuilder;"⟩
abbrev cJ5_append_c97b9 : ByteArray := prog_13_method_32_code
def yJ5_append_c97b9 : MethodName := ⟨RJ5, "append", "(I)Ljava/lang/AbstractStringBuilder;"⟩
abbrev cJ5_getValue_6d5f1 : ByteArray := prog_13_method_64_code
def yJ5_getValue_6d5f1 : MethodName := ⟨RJ5, "getValue", "()[B"⟩
abbrev cJ5_isLatin1_aae02 : ByteArray := prog_13_method_68_code
def yJ5_isLatin1_aae02 : MethodName := ⟨RJ5, "isLatin1", "()Z"⟩
abbrev cJ5_inflateIfNeededFor_a7421 : ByteArray := prog_13_method_71_code
def yJ5_inflateIfNeededFor_a7421 : MethodName := ⟨RJ5, "inflateIfNeededFor", "(Ljava/lang/String;)V"⟩
abbrev cJ5_putStringAt_47b60 : ByteArray := prog_13_method_73_code
def yJ5_putStringAt_47b60 : MethodName := ⟨RJ5, "putStringAt", "(ILjava/lang/String;)V"⟩
def RJx00060 : String := "java/lang/ArrayIndexOutOfBoundsException"
def TJx00060 : u_T := fun k => match k with
  | 0 => ("java/lang/Throwable", "cause", "Ljava/lang/Throwable;", false)
  | 1 => ("java/lang/Throwable", "stackTrace", "[Ljava/lang/StackTraceElement;", false)
  | 2 => ("java/lang/Throwable", "suppressedExceptions", "Ljava/util/List;", false)
  | 3 => ("java/lang/Throwable", "detailMessage", "Ljava/lang/String;", false)
  | 4 => ("java/lang/Throwable", "backtrace", "Ljava/lang/Object;", false)
  | _ => ("java/lang/Throwable", "depth", "I", false)
def tyJx00060 : Nat → FieldType := fun k => match k with
  | 0 => .object "java/lang/Throwable"
  | 1 => .array (.object "java/lang/StackTraceElement")
  | 2 => .object "java/util/List"
  | 3 => .object "java/lang/String"
  | 4 => .object "java/lang/Object"
  | _ => .int
theorem nmJx00060 : ∀ a, a < 6 → ∀ b, b < 6 → a ≠ b → (TJx00060 a).2.1 ≠ (TJx00060 b).2.1 := by decide +kernel
theorem tyJx00060_ok : ∀ k, k < 6 → parseFieldDescriptor (TJx00060 k).2.2.1 = some (tyJx00060 k) := by decide +kernel
abbrev cJx00060_init_d00df : ByteArray := prog_14_method_3_code
def yJx00060_init_d00df : MethodName := ⟨RJx00060, "<init>", "(I)V"⟩
def RJx8e188 : String := "java/lang/Cloneable"
def TJx8e188 : u_T := fun k => match k with
  | _ => ("", "", "", false)
def tyJx8e188 : Nat → FieldType := fun k => match k with
  | _ => .int
theorem nmJx8e188 : ∀ a, a < 0 → ∀ b, b < 0 → a ≠ b → (TJx8e188 a).2.1 ≠ (TJx8e188 b).2.1 := by decide +kernel
theorem tyJx8e188_ok : ∀ k, k < 0 → parseFieldDescriptor (TJx8e188 k).2.2.1 = some (tyJx8e188 k) := by decide +kernel
def RJ6 : String := "java/lang/Integer"
def TJ6 : u_T := fun k => match k with
  | _ => ("", "", "", false)
def tyJ6 : Nat → FieldType := fun k => match k with
  | _ => .int
theorem nmJ6 : ∀ a, a < 0 → ∀ b, b < 0 → a ≠ b → (TJ6 a).2.1 ≠ (TJ6 b).2.1 := by decide +kernel
theorem tyJ6_ok : ∀ k, k < 0 → parseFieldDescriptor (TJ6 k).2.2.1 = some (tyJ6 k) := by decide +kernel
abbrev cJ6_getChars_ba4f3 : ByteArray := prog_20_method_12_code
def yJ6_getChars_ba4f3 : MethodName := ⟨RJ6, "getChars", "(II[B)I"⟩
abbrev cJ6_stringSize_0f7a4 : ByteArray := prog_20_method_13_code
def yJ6_stringSize_0f7a4 : MethodName := ⟨RJ6, "stringSize", "(I)I"⟩
def RJ9 : String := "java/lang/Math"
def TJ9 : u_T := fun k => match k with
  | _ => ("", "", "", false)
def tyJ9 : Nat → FieldType := fun k => match k with
  | _ => .int
theorem nmJ9 : ∀ a, a < 0 → ∀ b, b < 0 → a ≠ b → (TJ9 a).2.1 ≠ (TJ9 b).2.1 := by decide +kernel
theorem tyJ9_ok : ∀ k, k < 0 → parseFieldDescriptor (TJ9 k).2.2.1 = some (tyJ9 k) := by decide +kernel
abbrev cJ9_abs_0f7a4 : ByteArray := prog_21_method_59_code
def yJ9_abs_0f7a4 : MethodName := ⟨RJ9, "abs", "(I)I"⟩
abbrev cJ9_max_7cf53 : ByteArray := prog_21_method_65_code
def yJ9_max_7cf53 : MethodName := ⟨RJ9, "max", "(II)I"⟩
abbrev cJ9_min_7cf53 : ByteArray := prog_21_method_69_code
def yJ9_min_7cf53 : MethodName := ⟨RJ9, "min", "(II)I"⟩
def RJ0 : String := "java/lang/String"
def TJ0 : u_T := fun k => match k with
  | 0 => ("java/lang/String", "value", "[B", true)
  | 1 => ("java/lang/String", "coder", "B", true)
  | 2 => ("java/lang/String", "hash", "I", false)
  | _ => ("java/lang/String", "hashIsZero", "Z", false)
def tyJ0 : Nat → FieldType := fun k => match k with
  | 0 => .array .byte
  | 1 => .byte
  | 2 => .int
  | _ => .boolean
theorem nmJ0 : ∀ a, a < 4 → ∀ b, b < 4 → a ≠ b → (TJ0 a).2.1 ≠ (TJ0 b).2.1 := by decide +kernel
theorem tyJ0_ok : ∀ k, k < 4 → parseFieldDescriptor (TJ0 k).2.2.1 = some (tyJ0 k) := by decide +kernel
abbrev cJ0_init_81219 : ByteArray := prog_23_method_53_code
def yJ0_init_81219 : MethodName := ⟨RJ0, "<init>", "(Ljava/lang/StringBuilder;)V"⟩
abbrev cJ0_length_8abf5 : ByteArray := prog_23_method_54_code
def yJ0_length_8abf5 : MethodName := ⟨RJ0, "length", "()I"⟩
abbrev cJ0_charAt_5068e : ByteArray := prog_23_method_56_code
def yJ0_charAt_5068e : MethodName := ⟨RJ0, "charAt", "(I)C"⟩
abbrev cJ0_getBytes_840e7 : ByteArray := prog_23_method_147_code
def yJ0_getBytes_840e7 : MethodName := ⟨RJ0, "getBytes", "([BIB)V"⟩
abbrev cJ0_init_db425 : ByteArray := prog_23_method_150_code
def yJ0_init_db425 : MethodName := ⟨RJ0, "<init>", "(Ljava/lang/AbstractStringBuilder;Ljava/lang/Void;)V"⟩
abbrev cJ0_coder_7d493 : ByteArray := prog_23_method_152_code
def yJ0_coder_7d493 : MethodName := ⟨RJ0, "coder", "()B"⟩
abbrev cJ0_isLatin1_aae02 : ByteArray := prog_23_method_154_code
def yJ0_isLatin1_aae02 : MethodName := ⟨RJ0, "isLatin1", "()Z"⟩
abbrev cJ0_checkIndex_df160 : ByteArray := prog_23_method_155_code
def yJ0_checkIndex_df160 : MethodName := ⟨RJ0, "checkIndex", "(II)V"⟩
abbrev cJ0_checkBoundsOffCount_cabcc : ByteArray := prog_23_method_157_code
def yJ0_checkBoundsOffCount_cabcc : MethodName := ⟨RJ0, "checkBoundsOffCount", "(III)I"⟩
abbrev cJ0_checkBoundsBeginEnd_23922 : ByteArray := prog_23_method_158_code
def yJ0_checkBoundsBeginEnd_23922 : MethodName := ⟨RJ0, "checkBoundsBeginEnd", "(III)V"⟩
def RJ4 : String := "java/lang/StringBuilder"
def TJ4 : u_T := fun k => match k with
  | 0 => ("java/lang/AbstractStringBuilder", "value", "[B", false)
  | 1 => ("java/lang/AbstractStringBuilder", "coder", "B", false)
  | 2 => ("java/lang/AbstractStringBuilder", "maybeLatin1", "Z", false)
  | _ => ("java/lang/AbstractStringBuilder", "count", "I", false)
def tyJ4 : Nat → FieldType := fun k => match k with
  | 0 => .array .byte
  | 1 => .byte
  | 2 => .boolean
  | _ => .int
theorem nmJ4 : ∀ a, a < 4 → ∀ b, b < 4 → a ≠ b → (TJ4 a).2.1 ≠ (TJ4 b).2.1 := by decide +kernel
theorem tyJ4_ok : ∀ k, k < 4 → parseFieldDescriptor (TJ4 k).2.2.1 = some (tyJ4 k) := by decide +kernel
abbrev cJ4_init_da8c8 : ByteArray := prog_24_method_1_code
def yJ4_init_da8c8 : MethodName := ⟨RJ4, "<init>", "()V"⟩
abbrev cJ4_append_15ec4 : ByteArray := prog_24_method_7_code
def yJ4_append_15ec4 : MethodName := ⟨RJ4, "append", "(Ljava/lang/String;)Ljava/lang/StringBuilder;"⟩
abbrev cJ4_append_cf468 : ByteArray := prog_24_method_14_code
def yJ4_append_cf468 : MethodName := ⟨RJ4, "append", "(C)Ljava/lang/StringBuilder;"⟩
abbrev cJ4_append_bf812 : ByteArray := prog_24_method_15_code
def yJ4_append_bf812 : MethodName := ⟨RJ4, "append", "(I)Ljava/lang/StringBuilder;"⟩
abbrev cJ4_toString_0e30d : ByteArray := prog_24_method_42_code
def yJ4_toString_0e30d : MethodName := ⟨RJ4, "toString", "()Ljava/lang/String;"⟩
abbrev cJ4_charAt_5068e : ByteArray := prog_24_method_88_code
def yJ4_charAt_5068e : MethodName := ⟨RJ4, "charAt", "(I)C"⟩
abbrev cJ4_setLength_d00df : ByteArray := prog_24_method_89_code
def yJ4_setLength_d00df : MethodName := ⟨RJ4, "setLength", "(I)V"⟩
abbrev cJ4_length_8abf5 : ByteArray := prog_24_method_93_code
def yJ4_length_8abf5 : MethodName := ⟨RJ4, "length", "()I"⟩
def RJx7c733 : String := "java/lang/StringIndexOutOfBoundsException"
def TJx7c733 : u_T := fun k => match k with
  | 0 => ("java/lang/Throwable", "backtrace", "Ljava/lang/Object;", false)
  | 1 => ("java/lang/Throwable", "detailMessage", "Ljava/lang/String;", false)
  | 2 => ("java/lang/Throwable", "cause", "Ljava/lang/Throwable;", false)
  | 3 => ("java/lang/Throwable", "stackTrace", "[Ljava/lang/StackTraceElement;", false)
  | 4 => ("java/lang/Throwable", "depth", "I", false)
  | _ => ("java/lang/Throwable", "suppressedExceptions", "Ljava/util/List;", false)
def tyJx7c733 : Nat → FieldType := fun k => match k with
  | 0 => .object "java/lang/Object"
  | 1 => .object "java/lang/String"
  | 2 => .object "java/lang/Throwable"
  | 3 => .array (.object "java/lang/StackTraceElement")
  | 4 => .int
  | _ => .object "java/util/List"
theorem nmJx7c733 : ∀ a, a < 6 → ∀ b, b < 6 → a ≠ b → (TJx7c733 a).2.1 ≠ (TJx7c733 b).2.1 := by decide +kernel
theorem tyJx7c733_ok : ∀ k, k < 6 → parseFieldDescriptor (TJx7c733 k).2.2.1 = some (tyJx7c733 k) := by decide +kernel
abbrev cJx7c733_init_d00df : ByteArray := prog_25_method_3_code
def yJx7c733_init_d00df : MethodName := ⟨RJx7c733, "<init>", "(I)V"⟩
def RJ1 : String := "java/lang/StringLatin1"
def TJ1 : u_T := fun k => match k with
  | _ => ("", "", "", false)
def tyJ1 : Nat → FieldType := fun k => match k with
  | _ => .int
theorem nmJ1 : ∀ a, a < 0 → ∀ b, b < 0 → a ≠ b → (TJ1 a).2.1 ≠ (TJ1 b).2.1 := by decide +kernel
theorem tyJ1_ok : ∀ k, k < 0 → parseFieldDescriptor (TJ1 k).2.2.1 = some (tyJ1 k) := by decide +kernel
abbrev cJ1_charAt_3b067 : ByteArray := prog_26_method_2_code
def yJ1_charAt_3b067 : MethodName := ⟨RJ1, "charAt", "([BI)C"⟩
abbrev cJ1_canEncode_fc78d : ByteArray := prog_26_method_3_code
def yJ1_canEncode_fc78d : MethodName := ⟨RJ1, "canEncode", "(C)Z"⟩
abbrev cJ1_fillNull_b72d1 : ByteArray := prog_26_method_48_code
def yJ1_fillNull_b72d1 : MethodName := ⟨RJ1, "fillNull", "([BII)V"⟩
abbrev cJ1_inflate_0e8fd : ByteArray := prog_26_method_50_code
def yJ1_inflate_0e8fd : MethodName := ⟨RJ1, "inflate", "([BI[BII)V"⟩
def RJ2 : String := "java/lang/StringUTF16"
def TJ2 : u_T := fun k => match k with
  | _ => ("", "", "", false)
def tyJ2 : Nat → FieldType := fun k => match k with
  | _ => .int
theorem nmJ2 : ∀ a, a < 0 → ∀ b, b < 0 → a ≠ b → (TJ2 a).2.1 ≠ (TJ2 b).2.1 := by decide +kernel
theorem tyJ2_ok : ∀ k, k < 0 → parseFieldDescriptor (TJ2 k).2.2.1 = some (tyJ2 k) := by decide +kernel
abbrev cJ2_newBytesFor_77867 : ByteArray := prog_27_method_2_code
def yJ2_newBytesFor_77867 : MethodName := ⟨RJ2, "newBytesFor", "(I)[B"⟩
abbrev cJ2_newBytesLength_0f7a4 : ByteArray := prog_27_method_3_code
def yJ2_newBytesLength_0f7a4 : MethodName := ⟨RJ2, "newBytesLength", "(I)I"⟩
abbrev cJ2_putChar_b72d1 : ByteArray := prog_27_method_4_code
def yJ2_putChar_b72d1 : MethodName := ⟨RJ2, "putChar", "([BII)V"⟩
abbrev cJ2_getChar_3b067 : ByteArray := prog_27_method_5_code
def yJ2_getChar_3b067 : MethodName := ⟨RJ2, "getChar", "([BI)C"⟩
abbrev cJ2_length_9d52b : ByteArray := prog_27_method_6_code
def yJ2_length_9d52b : MethodName := ⟨RJ2, "length", "([B)I"⟩
abbrev cJ2_coderFromArrayLen_85cad : ByteArray := prog_27_method_15_code
def yJ2_coderFromArrayLen_85cad : MethodName := ⟨RJ2, "coderFromArrayLen", "([BI)B"⟩
abbrev cJ2_compress_39247 : ByteArray := prog_27_method_17_code
def yJ2_compress_39247 : MethodName := ⟨RJ2, "compress", "([BII)[B"⟩
abbrev cJ2_compress_5af95 : ByteArray := prog_27_method_22_code
def yJ2_compress_5af95 : MethodName := ⟨RJ2, "compress", "([BI[BII)I"⟩
abbrev cJ2_fillNull_b72d1 : ByteArray := prog_27_method_70_code
def yJ2_fillNull_b72d1 : MethodName := ⟨RJ2, "fillNull", "([BII)V"⟩
abbrev cJ2_putCharSB_b72d1 : ByteArray := prog_27_method_71_code
def yJ2_putCharSB_b72d1 : MethodName := ⟨RJ2, "putCharSB", "([BII)V"⟩
abbrev cJ2_getChars_46870 : ByteArray := prog_27_method_77_code
def yJ2_getChars_46870 : MethodName := ⟨RJ2, "getChars", "(III[B)I"⟩
abbrev cJ2_putCharsAt_cd4e5 : ByteArray := prog_27_method_81_code
def yJ2_putCharsAt_cd4e5 : MethodName := ⟨RJ2, "putCharsAt", "([BICCCC)I"⟩
abbrev cJ2_charAt_3b067 : ByteArray := prog_27_method_83_code
def yJ2_charAt_3b067 : MethodName := ⟨RJ2, "charAt", "([BI)C"⟩
abbrev cJ2_inflate_0e8fd : ByteArray := prog_27_method_86_code
def yJ2_inflate_0e8fd : MethodName := ⟨RJ2, "inflate", "([BI[BII)V"⟩
abbrev cJ2_getChars_ba4f3 : ByteArray := prog_27_method_89_code
def yJ2_getChars_ba4f3 : MethodName := ⟨RJ2, "getChars", "(II[B)I"⟩
abbrev cJ2_checkIndex_2214a : ByteArray := prog_27_method_91_code
def yJ2_checkIndex_2214a : MethodName := ⟨RJ2, "checkIndex", "(I[B)V"⟩
abbrev cJ2_checkBoundsBeginEnd_d044e : ByteArray := prog_27_method_93_code
def yJ2_checkBoundsBeginEnd_d044e : MethodName := ⟨RJ2, "checkBoundsBeginEnd", "(II[B)V"⟩
abbrev cJ2_checkBoundsOffCount_d044e : ByteArray := prog_27_method_94_code
def yJ2_checkBoundsOffCount_d044e : MethodName := ⟨RJ2, "checkBoundsOffCount", "(II[B)V"⟩
def RJ10 : String := "java/lang/System"
def TJ10 : u_T := fun k => match k with
  | _ => ("", "", "", false)
def tyJ10 : Nat → FieldType := fun k => match k with
  | _ => .int
theorem nmJ10 : ∀ a, a < 0 → ∀ b, b < 0 → a ≠ b → (TJ10 a).2.1 ≠ (TJ10 b).2.1 := by decide +kernel
theorem tyJ10_ok : ∀ k, k < 0 → parseFieldDescriptor (TJ10 k).2.2.1 = some (tyJ10 k) := by decide +kernel
def RJ7 : String := "java/util/Arrays"
def TJ7 : u_T := fun k => match k with
  | _ => ("", "", "", false)
def tyJ7 : Nat → FieldType := fun k => match k with
  | _ => .int
theorem nmJ7 : ∀ a, a < 0 → ∀ b, b < 0 → a ≠ b → (TJ7 a).2.1 ≠ (TJ7 b).2.1 := by decide +kernel
theorem tyJ7_ok : ∀ k, k < 0 → parseFieldDescriptor (TJ7 k).2.2.1 = some (tyJ7 k) := by decide +kernel
abbrev cJ7_rangeCheck_23922 : ByteArray := prog_30_method_30_code
def yJ7_rangeCheck_23922 : MethodName := ⟨RJ7, "rangeCheck", "(III)V"⟩
abbrev cJ7_fill_eb02e : ByteArray := prog_30_method_110_code
def yJ7_fill_eb02e : MethodName := ⟨RJ7, "fill", "([BIIB)V"⟩
abbrev cJ7_copyOf_9075b : ByteArray := prog_30_method_121_code
def yJ7_copyOf_9075b : MethodName := ⟨RJ7, "copyOf", "([BI)[B"⟩
abbrev cJ7_checkLength_df160 : ByteArray := prog_30_method_131_code
def yJ7_checkLength_df160 : MethodName := ⟨RJ7, "checkLength", "(II)V"⟩
abbrev cJ7_copyOfRange_39247 : ByteArray := prog_30_method_132_code
def yJ7_copyOfRange_39247 : MethodName := ⟨RJ7, "copyOfRange", "([BII)[B"⟩
abbrev cJ7_copyOfRangeByte_39247 : ByteArray := prog_30_method_133_code
def yJ7_copyOfRangeByte_39247 : MethodName := ⟨RJ7, "copyOfRangeByte", "([BII)[B"⟩
def RJ8 : String := "jdk/internal/util/ArraysSupport"
def TJ8 : u_T := fun k => match k with
  | _ => ("", "", "", false)
def tyJ8 : Nat → FieldType := fun k => match k with
  | _ => .int
theorem nmJ8 : ∀ a, a < 0 → ∀ b, b < 0 → a ≠ b → (TJ8 a).2.1 ≠ (TJ8 b).2.1 := by decide +kernel
theorem tyJ8_ok : ∀ k, k < 0 → parseFieldDescriptor (TJ8 k).2.2.1 = some (tyJ8 k) := by decide +kernel
abbrev cJ8_newLength_cabcc : ByteArray := prog_31_method_27_code
def yJ8_newLength_cabcc : MethodName := ⟨RJ8, "newLength", "(III)I"⟩
abbrev cJ8_hugeLength_7cf53 : ByteArray := prog_31_method_28_code
def yJ8_hugeLength_7cf53 : MethodName := ⟨RJ8, "hugeLength", "(II)I"⟩
def RJ3 : String := "jdk/internal/util/Preconditions"
def TJ3 : u_T := fun k => match k with
  | _ => ("", "", "", false)
def tyJ3 : Nat → FieldType := fun k => match k with
  | _ => .int
theorem nmJ3 : ∀ a, a < 0 → ∀ b, b < 0 → a ≠ b → (TJ3 a).2.1 ≠ (TJ3 b).2.1 := by decide +kernel
theorem tyJ3_ok : ∀ k, k < 0 → parseFieldDescriptor (TJ3 k).2.2.1 = some (tyJ3 k) := by decide +kernel
abbrev cJ3_checkIndex_8e157 : ByteArray := prog_32_method_11_code
def yJ3_checkIndex_8e157 : MethodName := ⟨RJ3, "checkIndex", "(IILjava/util/function/BiFunction;)I"⟩
abbrev cJ3_checkFromToIndex_8c36e : ByteArray := prog_32_method_12_code
def yJ3_checkFromToIndex_8c36e : MethodName := ⟨RJ3, "checkFromToIndex", "(IIILjava/util/function/BiFunction;)I"⟩
abbrev cJ3_checkFromIndexSize_8c36e : ByteArray := prog_32_method_13_code
def yJ3_checkFromIndexSize_8c36e : MethodName := ⟨RJ3, "checkFromIndexSize", "(IIILjava/util/function/BiFunction;)I"⟩
def RL : String := "NotaryBookLaw"
abbrev cL_load : ByteArray := method_3_code
def yL_load : MethodName := ⟨RL, "load", "(LNotaryBook;I[J)I"⟩
abbrev cL_count : ByteArray := method_4_code
def yL_count : MethodName := ⟨RL, "count", "(LNotaryBook;I[J)I"⟩
abbrev cL_act : ByteArray := method_5_code
def yL_act : MethodName := ⟨RL, "act", "(LNotaryBook;II[J)I"⟩
abbrev cL_word : ByteArray := method_6_code
def yL_word : MethodName := ⟨RL, "word", "(LNotaryBook;III[J)I"⟩
abbrev cL_letter : ByteArray := method_7_code
def yL_letter : MethodName := ⟨RL, "letter", "(LNotaryBook;III[J)I"⟩
abbrev cL_innerLetter : ByteArray := method_8_code
def yL_innerLetter : MethodName := ⟨RL, "innerLetter", "(LNotaryBook;IIII[J)I"⟩
abbrev cL_clause : ByteArray := method_9_code
def yL_clause : MethodName := ⟨RL, "clause", "(LNotaryBook;III[J)I"⟩
abbrev cL_leaf : ByteArray := method_10_code
def yL_leaf : MethodName := ⟨RL, "leaf", "(LNotaryBook;II[J)I"⟩
abbrev cL_copy : ByteArray := method_11_code
def yL_copy : MethodName := ⟨RL, "copy", "(LNotaryBook;II[J)I"⟩
abbrev cL_has : ByteArray := method_12_code
def yL_has : MethodName := ⟨RL, "has", "(LNotaryBook;II[J)I"⟩
abbrev cL_known : ByteArray := method_13_code
def yL_known : MethodName := ⟨RL, "known", "(LNotaryBook;I[J)I"⟩
abbrev cL_firstUnknown : ByteArray := method_14_code
def yL_firstUnknown : MethodName := ⟨RL, "firstUnknown", "(LNotaryBook;I[J)I"⟩
abbrev cL_gap : ByteArray := method_15_code
def yL_gap : MethodName := ⟨RL, "gap", "(LNotaryBook;[J)I"⟩
abbrev cL_whyNotSeal : ByteArray := method_16_code
def yL_whyNotSeal : MethodName := ⟨RL, "whyNotSeal", "(LNotaryBook;II[J)I"⟩
abbrev cL_whyNotCopy : ByteArray := method_17_code
def yL_whyNotCopy : MethodName := ⟨RL, "whyNotCopy", "(LNotaryBook;II[J)I"⟩
abbrev cL_whyNotStrike : ByteArray := method_18_code
def yL_whyNotStrike : MethodName := ⟨RL, "whyNotStrike", "(LNotaryBook;I[J)I"⟩
abbrev cL_unknownIf : ByteArray := method_19_code
def yL_unknownIf : MethodName := ⟨RL, "unknownIf", "(LNotaryBook;I[J)I"⟩
abbrev cL_worstLeaf : ByteArray := method_20_code
def yL_worstLeaf : MethodName := ⟨RL, "worstLeaf", "(LNotaryBook;[J)I"⟩
abbrev cL_shakenOut : ByteArray := method_21_code
def yL_shakenOut : MethodName := ⟨RL, "shakenOut", "(LNotaryBook;[J)I"⟩
abbrev cL_leavesFor : ByteArray := method_22_code
def yL_leavesFor : MethodName := ⟨RL, "leavesFor", "(LNotaryBook;I[J)I"⟩
abbrev cL_copyWords : ByteArray := method_23_code
def yL_copyWords : MethodName := ⟨RL, "copyWords", "(LNotaryBook;II[J)I"⟩
abbrev cL_bestCopy : ByteArray := method_24_code
def yL_bestCopy : MethodName := ⟨RL, "bestCopy", "(LNotaryBook;I[J)I"⟩
abbrev cL_standingIf : ByteArray := method_25_code
def yL_standingIf : MethodName := ⟨RL, "standingIf", "(LNotaryBook;IZ[J)I"⟩
abbrev cL_findWord : ByteArray := method_26_code
def yL_findWord : MethodName := ⟨RL, "findWord", "(LNotaryBook;I[J)I"⟩
abbrev cL_longest : ByteArray := method_27_code
def yL_longest : MethodName := ⟨RL, "longest", "(LNotaryBook;I[J)I"⟩
abbrev cL_common : ByteArray := method_28_code
def yL_common : MethodName := ⟨RL, "common", "(LNotaryBook;II[J)I"⟩
abbrev cL_knownShare : ByteArray := method_29_code
def yL_knownShare : MethodName := ⟨RL, "knownShare", "(LNotaryBook;[D)I"⟩
abbrev cL_meanWords : ByteArray := method_30_code
def yL_meanWords : MethodName := ⟨RL, "meanWords", "(LNotaryBook;[D)I"⟩
abbrev cL_writeAct : ByteArray := method_31_code
def yL_writeAct : MethodName := ⟨RL, "writeAct", "(LNotaryBook;I[J)I"⟩
abbrev cL_writeStanding : ByteArray := method_32_code
def yL_writeStanding : MethodName := ⟨RL, "writeStanding", "(LNotaryBook;I[J)I"⟩
abbrev cL_writeLeaf : ByteArray := method_33_code
def yL_writeLeaf : MethodName := ⟨RL, "writeLeaf", "(LNotaryBook;I[J)I"⟩
abbrev cL_writeCopy : ByteArray := method_34_code
def yL_writeCopy : MethodName := ⟨RL, "writeCopy", "(LNotaryBook;I[J)I"⟩
abbrev cL_textByte : ByteArray := method_35_code
def yL_textByte : MethodName := ⟨RL, "textByte", "(LNotaryBook;I[J)I"⟩
abbrev cL_begin : ByteArray := method_36_code
def yL_begin : MethodName := ⟨RL, "begin", "(LNotaryBook;II[J)I"⟩
abbrev cL_strike : ByteArray := method_37_code
def yL_strike : MethodName := ⟨RL, "strike", "(LNotaryBook;I[J)I"⟩
abbrev cL_strikeClause : ByteArray := method_38_code
def yL_strikeClause : MethodName := ⟨RL, "strikeClause", "(LNotaryBook;I[J)I"⟩
abbrev cL_interline : ByteArray := method_39_code
def yL_interline : MethodName := ⟨RL, "interline", "(LNotaryBook;II[J)I"⟩
abbrev cL_seal : ByteArray := method_40_code
def yL_seal : MethodName := ⟨RL, "seal", "(LNotaryBook;II[J)I"⟩
abbrev cL_cancel : ByteArray := method_41_code
def yL_cancel : MethodName := ⟨RL, "cancel", "(LNotaryBook;[J)I"⟩
abbrev cL_addCopy : ByteArray := method_42_code
def yL_addCopy : MethodName := ⟨RL, "addCopy", "(LNotaryBook;II[J)I"⟩
abbrev cL_burn : ByteArray := method_43_code
def yL_burn : MethodName := ⟨RL, "burn", "(LNotaryBook;I[J)I"⟩
abbrev cL_lose : ByteArray := method_44_code
def yL_lose : MethodName := ⟨RL, "lose", "(LNotaryBook;I[J)I"⟩
abbrev cL_recover : ByteArray := method_45_code
def yL_recover : MethodName := ⟨RL, "recover", "(LNotaryBook;I[J)I"⟩
abbrev cL_sew : ByteArray := method_46_code
def yL_sew : MethodName := ⟨RL, "sew", "(LNotaryBook;I[J)I"⟩
abbrev cL_shake : ByteArray := method_47_code
def yL_shake : MethodName := ⟨RL, "shake", "(LNotaryBook;[J)I"⟩
abbrev cL_undo : ByteArray := method_48_code
def yL_undo : MethodName := ⟨RL, "undo", "(LNotaryBook;[J)I"⟩
abbrev cL_save : ByteArray := method_49_code
def yL_save : MethodName := ⟨RL, "save", "(LNotaryBook;I[J)I"⟩
abbrev cL_restore : ByteArray := method_50_code
def yL_restore : MethodName := ⟨RL, "restore", "(LNotaryBook;I[J)I"⟩
abbrev cL_law : ByteArray := code
def yL_law : MethodName := ⟨RL, "law", "([I)Z"⟩
end
section
/-- the String constants: whose, which entry, which text -/
def stT : List (String × Nat × String) := [("NotaryBook", 516, "the buffer has not so many bytes"), ("NotaryBook$Parser", 79, "book"), ("NotaryBook$Parser", 105, "act"), ("NotaryBook$Parser", 166, "sale"), ("NotaryBook$Parser", 168, "will"), ("NotaryBook$Parser", 170, "loan"), ("NotaryBook$Parser", 110, "strike"), ("NotaryBook$Parser", 115, "out"), ("NotaryBook$Parser", 120, "insert"), ("NotaryBook$Parser", 125, "seal"), ("NotaryBook$Parser", 130, "cancel"), ("NotaryBook$Parser", 135, "copy"), ("NotaryBook$Parser", 140, "shake"), ("NotaryBook$Parser", 234, "lose"), ("NotaryBook$Parser", 236, "find"), ("NotaryBook$Parser", 238, "sew"), ("NotaryBook", 80, "the text is no book"), ("NotaryBook", 514, "no text was loaded"), ("NotaryBook", 518, "a number is out of its range"), ("NotaryBook", 520, "there is no such act"), ("NotaryBook", 526, "there is no such word"), ("NotaryBook", 240, "there is no such clause"), ("NotaryBook", 537, "there is no such leaf"), ("NotaryBook", 528, "there is no such copy"), ("NotaryBook", 343, "there is no such word of an open act"), ("NotaryBook", 351, "the word is in no clause"), ("java/lang/StringIndexOutOfBoundsException", 13, "String index out of range: "), ("java/util/Arrays", 337, " > "), ("java/util/Arrays", 48, "fromIndex("), ("java/util/Arrays", 57, ") > toIndex("), ("java/util/Arrays", 59, ")"), ("java/lang/ArrayIndexOutOfBoundsException", 13, "Array index out of range: "), ("NotaryBook", 413, "there is no such byte"), ("NotaryBook", 423, "no act can be begun"), ("NotaryBook", 428, "the bytes are no body for which there is room"), ("NotaryBook", 439, "the word can not be struck"), ("NotaryBook", 444, "there is no such word in a clause of an open act"), ("NotaryBook", 452, "the bytes can not be interlined there"), ("NotaryBook", 457, "the act can not be sealed"), ("NotaryBook", 462, "no act is open"), ("NotaryBook", 467, "the act can not be copied"), ("NotaryBook", 539, "the leaf is not so"), ("NotaryBook", 496, "there is no change to undo"), ("NotaryBook", 541, "there is no such slot"), ("NotaryBook", 512, "nothing is saved there"), ("NotaryBookModel", 307, "book"), ("NotaryBookModel", 249, "act"), ("NotaryBookModel", 169, "sale"), ("NotaryBookModel", 175, "will"), ("NotaryBookModel", 177, "loan"), ("NotaryBookModel", 254, "strike"), ("NotaryBookModel", 259, "out"), ("NotaryBookModel", 264, "insert"), ("NotaryBookModel", 269, "seal"), ("NotaryBookModel", 274, "cancel"), ("NotaryBookModel", 279, "copy"), ("NotaryBookModel", 287, "lose"), ("NotaryBookModel", 292, "find"), ("NotaryBookModel", 297, "sew"), ("NotaryBookModel", 302, "shake")]
def nSt : Nat := 60
def bySL : List (List Int32) := [[116, 104, 101, 32, 98, 117, 102, 102, 101, 114, 32, 104, 97, 115, 32, 110, 111, 116, 32, 115, 111, 32, 109, 97, 110, 121, 32, 98, 121, 116, 101, 115], [98, 111, 111, 107], [97, 99, 116], [115, 97, 108, 101], [119, 105, 108, 108], [108, 111, 97, 110], [115, 116, 114, 105, 107, 101], [111, 117, 116], [105, 110, 115, 101, 114, 116], [115, 101, 97, 108], [99, 97, 110, 99, 101, 108], [99, 111, 112, 121], [115, 104, 97, 107, 101], [108, 111, 115, 101], [102, 105, 110, 100], [115, 101, 119], [116, 104, 101, 32, 116, 101, 120, 116, 32, 105, 115, 32, 110, 111, 32, 98, 111, 111, 107], [110, 111, 32, 116, 101, 120, 116, 32, 119, 97, 115, 32, 108, 111, 97, 100, 101, 100], [97, 32, 110, 117, 109, 98, 101, 114, 32, 105, 115, 32, 111, 117, 116, 32, 111, 102, 32, 105, 116, 115, 32, 114, 97, 110, 103, 101], [116, 104, 101, 114, 101, 32, 105, 115, 32, 110, 111, 32, 115, 117, 99, 104, 32, 97, 99, 116], [116, 104, 101, 114, 101, 32, 105, 115, 32, 110, 111, 32, 115, 117, 99, 104, 32, 119, 111, 114, 100], [116, 104, 101, 114, 101, 32, 105, 115, 32, 110, 111, 32, 115, 117, 99, 104, 32, 99, 108, 97, 117, 115, 101], [116, 104, 101, 114, 101, 32, 105, 115, 32, 110, 111, 32, 115, 117, 99, 104, 32, 108, 101, 97, 102], [116, 104, 101, 114, 101, 32, 105, 115, 32, 110, 111, 32, 115, 117, 99, 104, 32, 99, 111, 112, 121], [116, 104, 101, 114, 101, 32, 105, 115, 32, 110, 111, 32, 115, 117, 99, 104, 32, 119, 111, 114, 100, 32, 111, 102, 32, 97, 110, 32, 111, 112, 101, 110, 32, 97, 99, 116], [116, 104, 101, 32, 119, 111, 114, 100, 32, 105, 115, 32, 105, 110, 32, 110, 111, 32, 99, 108, 97, 117, 115, 101], [83, 116, 114, 105, 110, 103, 32, 105, 110, 100, 101, 120, 32, 111, 117, 116, 32, 111, 102, 32, 114, 97, 110, 103, 101, 58, 32], [32, 62, 32], [102, 114, 111, 109, 73, 110, 100, 101, 120, 40], [41, 32, 62, 32, 116, 111, 73, 110, 100, 101, 120, 40], [41], [65, 114, 114, 97, 121, 32, 105, 110, 100, 101, 120, 32, 111, 117, 116, 32, 111, 102, 32, 114, 97, 110, 103, 101, 58, 32], [116, 104, 101, 114, 101, 32, 105, 115, 32, 110, 111, 32, 115, 117, 99, 104, 32, 98, 121, 116, 101], [110, 111, 32, 97, 99, 116, 32, 99, 97, 110, 32, 98, 101, 32, 98, 101, 103, 117, 110], [116, 104, 101, 32, 98, 121, 116, 101, 115, 32, 97, 114, 101, 32, 110, 111, 32, 98, 111, 100, 121, 32, 102, 111, 114, 32, 119, 104, 105, 99, 104, 32, 116, 104, 101, 114, 101, 32, 105, 115, 32, 114, 111, 111, 109], [116, 104, 101, 32, 119, 111, 114, 100, 32, 99, 97, 110, 32, 110, 111, 116, 32, 98, 101, 32, 115, 116, 114, 117, 99, 107], [116, 104, 101, 114, 101, 32, 105, 115, 32, 110, 111, 32, 115, 117, 99, 104, 32, 119, 111, 114, 100, 32, 105, 110, 32, 97, 32, 99, 108, 97, 117, 115, 101, 32, 111, 102, 32, 97, 110, 32, 111, 112, 101, 110, 32, 97, 99, 116], [116, 104, 101, 32, 98, 121, 116, 101, 115, 32, 99, 97, 110, 32, 110, 111, 116, 32, 98, 101, 32, 105, 110, 116, 101, 114, 108, 105, 110, 101, 100, 32, 116, 104, 101, 114, 101], [116, 104, 101, 32, 97, 99, 116, 32, 99, 97, 110, 32, 110, 111, 116, 32, 98, 101, 32, 115, 101, 97, 108, 101, 100], [110, 111, 32, 97, 99, 116, 32, 105, 115, 32, 111, 112, 101, 110], [116, 104, 101, 32, 97, 99, 116, 32, 99, 97, 110, 32, 110, 111, 116, 32, 98, 101, 32, 99, 111, 112, 105, 101, 100], [116, 104, 101, 32, 108, 101, 97, 102, 32, 105, 115, 32, 110, 111, 116, 32, 115, 111], [116, 104, 101, 114, 101, 32, 105, 115, 32, 110, 111, 32, 99, 104, 97, 110, 103, 101, 32, 116, 111, 32, 117, 110, 100, 111], [116, 104, 101, 114, 101, 32, 105, 115, 32, 110, 111, 32, 115, 117, 99, 104, 32, 115, 108, 111, 116], [110, 111, 116, 104, 105, 110, 103, 32, 105, 115, 32, 115, 97, 118, 101, 100, 32, 116, 104, 101, 114, 101], [98, 111, 111, 107], [97, 99, 116], [115, 97, 108, 101], [119, 105, 108, 108], [108, 111, 97, 110], [115, 116, 114, 105, 107, 101], [111, 117, 116], [105, 110, 115, 101, 114, 116], [115, 101, 97, 108], [99, 97, 110, 99, 101, 108], [99, 111, 112, 121], [108, 111, 115, 101], [102, 105, 110, 100], [115, 101, 119], [115, 104, 97, 107, 101]]
def byS (j : Nat) : List Int32 := bySL.getD j []
/-! THE CLEAN HEAP: cells by their order of making, each slot typed; what is given of constants lies from BIG on -/
def BIG : Nat := 1000000
abbrev HpT : Type := Nat × (Nat → Nat) × (Nat → Nat) × (Nat → Nat → Int32) × (Nat → Nat → Int64) × (Nat → Nat → Option Nat) × (Nat → Nat → UInt64)
/-- the constants: a String is BIG + j, its bytes BIG + 100 + j, the tables of digits BIG + 200, BIG + 201 -/
def cK (a : Nat) : Nat := if a < BIG then 99 else if a < BIG + nSt then 12 else if a < BIG + 100 then 99 else if a < BIG + 100 + nSt then 22 else if a = BIG + 200 ∨ a = BIG + 201 then 22 else 99
def cZ (a : Nat) : Nat := if a < BIG + 200 then (byS (a - (BIG + 100))).length else 100
def cI (a k : Nat) : Int32 := if a < BIG + 100 then 0 else if a < BIG + 200 then (byS (a - (BIG + 100))).getD k 0 else if a = BIG + 200 then Int32.ofNat (48 + k % 10) else Int32.ofNat (48 + k / 10)
def cR (a _k : Nat) : Option Nat := some (a + 100)
def hN (σ : HpT) : Nat := σ.1
def hK (σ : HpT) (a : Nat) : Nat := if a < σ.1 then σ.2.1 a else cK a
def hZ (σ : HpT) (a : Nat) : Nat := if a < σ.1 then σ.2.2.1 a else cZ a
def hI (σ : HpT) (a k : Nat) : Int32 := if a < σ.1 then σ.2.2.2.1 a k else cI a k
def hJ (σ : HpT) (a k : Nat) : Int64 := if a < σ.1 then σ.2.2.2.2.1 a k else 0
def hR (σ : HpT) (a k : Nat) : Option Nat := if a < σ.1 then σ.2.2.2.2.2.1 a k else cR a k
def hD (σ : HpT) (a k : Nat) : UInt64 := if a < σ.1 then σ.2.2.2.2.2.2 a k else 0
def wI (σ : HpT) (a k : Nat) (x : Int32) : HpT := (σ.1, σ.2.1, σ.2.2.1, fun b j => if b = a ∧ j = k then x else σ.2.2.2.1 b j, σ.2.2.2.2.1, σ.2.2.2.2.2.1, σ.2.2.2.2.2.2)
def wJ (σ : HpT) (a k : Nat) (x : Int64) : HpT := (σ.1, σ.2.1, σ.2.2.1, σ.2.2.2.1, fun b j => if b = a ∧ j = k then x else σ.2.2.2.2.1 b j, σ.2.2.2.2.2.1, σ.2.2.2.2.2.2)
def wR (σ : HpT) (a k : Nat) (x : Option Nat) : HpT := (σ.1, σ.2.1, σ.2.2.1, σ.2.2.2.1, σ.2.2.2.2.1, fun b j => if b = a ∧ j = k then x else σ.2.2.2.2.2.1 b j, σ.2.2.2.2.2.2)
def wD (σ : HpT) (a k : Nat) (x : UInt64) : HpT := (σ.1, σ.2.1, σ.2.2.1, σ.2.2.2.1, σ.2.2.2.2.1, σ.2.2.2.2.2.1, fun b j => if b = a ∧ j = k then x else σ.2.2.2.2.2.2 b j)
/-- a run of ints, of longs, over a cell -/
def wIr (σ : HpT) (a : Nat) (f : Nat → Int32) : HpT := (σ.1, σ.2.1, σ.2.2.1, fun b j => if b = a then f j else σ.2.2.2.1 b j, σ.2.2.2.2.1, σ.2.2.2.2.2.1, σ.2.2.2.2.2.2)
def wJr (σ : HpT) (a : Nat) (f : Nat → Int64) : HpT := (σ.1, σ.2.1, σ.2.2.1, σ.2.2.2.1, fun b j => if b = a then f j else σ.2.2.2.2.1 b j, σ.2.2.2.2.2.1, σ.2.2.2.2.2.2)
/-- a new cell -/
def wN (σ : HpT) (κ z : Nat) : HpT := (σ.1 + 1, fun b => if b = σ.1 then κ else σ.2.1 b, fun b => if b = σ.1 then z else σ.2.2.1 b, fun b j => if b = σ.1 then 0 else σ.2.2.2.1 b j, fun b j => if b = σ.1 then 0 else σ.2.2.2.2.1 b j, fun b j => if b = σ.1 then none else σ.2.2.2.2.2.1 b j, fun b j => if b = σ.1 then 0 else σ.2.2.2.2.2.2 b j)
section HL
variable (σ : HpT) (a b k j : Nat)
theorem hN_wI (x : Int32) : hN (wI σ a k x) = hN σ := rfl
theorem hN_wJ (x : Int64) : hN (wJ σ a k x) = hN σ := rfl
theorem hN_wR (x : Option Nat) : hN (wR σ a k x) = hN σ := rfl
theorem hN_wD (x : UInt64) : hN (wD σ a k x) = hN σ := rfl
theorem hN_wIr (f : Nat → Int32) : hN (wIr σ a f) = hN σ := rfl
theorem hN_wJr (f : Nat → Int64) : hN (wJr σ a f) = hN σ := rfl
theorem hN_wN (κ z : Nat) : hN (wN σ κ z) = hN σ + 1 := rfl
theorem hK_wI (x : Int32) : hK (wI σ a k x) b = hK σ b := rfl
theorem hK_wJ (x : Int64) : hK (wJ σ a k x) b = hK σ b := rfl
theorem hK_wR (x : Option Nat) : hK (wR σ a k x) b = hK σ b := rfl
theorem hK_wD (x : UInt64) : hK (wD σ a k x) b = hK σ b := rfl
theorem hK_wIr (f : Nat → Int32) : hK (wIr σ a f) b = hK σ b := rfl
theorem hK_wJr (f : Nat → Int64) : hK (wJr σ a f) b = hK σ b := rfl
theorem hZ_wI (x : Int32) : hZ (wI σ a k x) b = hZ σ b := rfl
theorem hZ_wJ (x : Int64) : hZ (wJ σ a k x) b = hZ σ b := rfl
theorem hZ_wR (x : Option Nat) : hZ (wR σ a k x) b = hZ σ b := rfl
theorem hZ_wD (x : UInt64) : hZ (wD σ a k x) b = hZ σ b := rfl
theorem hZ_wIr (f : Nat → Int32) : hZ (wIr σ a f) b = hZ σ b := rfl
theorem hZ_wJr (f : Nat → Int64) : hZ (wJr σ a f) b = hZ σ b := rfl
theorem hI_wJ (x : Int64) : hI (wJ σ a k x) b j = hI σ b j := rfl
theorem hI_wR (x : Option Nat) : hI (wR σ a k x) b j = hI σ b j := rfl
theorem hI_wD (x : UInt64) : hI (wD σ a k x) b j = hI σ b j := rfl
theorem hI_wJr (f : Nat → Int64) : hI (wJr σ a f) b j = hI σ b j := rfl
theorem hJ_wI (x : Int32) : hJ (wI σ a k x) b j = hJ σ b j := rfl
theorem hJ_wR (x : Option Nat) : hJ (wR σ a k x) b j = hJ σ b j := rfl
theorem hJ_wD (x : UInt64) : hJ (wD σ a k x) b j = hJ σ b j := rfl
theorem hJ_wIr (f : Nat → Int32) : hJ (wIr σ a f) b j = hJ σ b j := rfl
theorem hR_wI (x : Int32) : hR (wI σ a k x) b j = hR σ b j := rfl
theorem hR_wJ (x : Int64) : hR (wJ σ a k x) b j = hR σ b j := rfl
theorem hR_wD (x : UInt64) : hR (wD σ a k x) b j = hR σ b j := rfl
theorem hR_wIr (f : Nat → Int32) : hR (wIr σ a f) b j = hR σ b j := rfl
theorem hR_wJr (f : Nat → Int64) : hR (wJr σ a f) b j = hR σ b j := rfl
theorem hD_wI (x : Int32) : hD (wI σ a k x) b j = hD σ b j := rfl
theorem hD_wJ (x : Int64) : hD (wJ σ a k x) b j = hD σ b j := rfl
theorem hD_wR (x : Option Nat) : hD (wR σ a k x) b j = hD σ b j := rfl
theorem hD_wIr (f : Nat → Int32) : hD (wIr σ a f) b j = hD σ b j := rfl
theorem hD_wJr (f : Nat → Int64) : hD (wJr σ a f) b j = hD σ b j := rfl
theorem hI_wI (x : Int32) (h : a < hN σ) : hI (wI σ a k x) b j = if b = a ∧ j = k then x else hI σ b j := by
  by_cases e : b = a ∧ j = k
  · rw [if_pos e]
    obtain ⟨rfl, rfl⟩ := e
    have h2 : b < σ.1 := h
    simp [hI, wI, h2]
  · rw [if_neg e]
    simp [hI, wI, e]
theorem hJ_wJ (x : Int64) (h : a < hN σ) : hJ (wJ σ a k x) b j = if b = a ∧ j = k then x else hJ σ b j := by
  by_cases e : b = a ∧ j = k
  · rw [if_pos e]
    obtain ⟨rfl, rfl⟩ := e
    have h2 : b < σ.1 := h
    simp [hJ, wJ, h2]
  · rw [if_neg e]
    simp [hJ, wJ, e]
theorem hR_wR (x : Option Nat) (h : a < hN σ) : hR (wR σ a k x) b j = if b = a ∧ j = k then x else hR σ b j := by
  by_cases e : b = a ∧ j = k
  · rw [if_pos e]
    obtain ⟨rfl, rfl⟩ := e
    have h2 : b < σ.1 := h
    simp [hR, wR, h2]
  · rw [if_neg e]
    simp [hR, wR, e]
theorem hD_wD (x : UInt64) (h : a < hN σ) : hD (wD σ a k x) b j = if b = a ∧ j = k then x else hD σ b j := by
  by_cases e : b = a ∧ j = k
  · rw [if_pos e]
    obtain ⟨rfl, rfl⟩ := e
    have h2 : b < σ.1 := h
    simp [hD, wD, h2]
  · rw [if_neg e]
    simp [hD, wD, e]
theorem hI_wIr (f : Nat → Int32) (h : a < hN σ) : hI (wIr σ a f) b j = if b = a then f j else hI σ b j := by
  by_cases e : b = a
  · rw [if_pos e]
    subst e
    have h2 : b < σ.1 := h
    simp [hI, wIr, h2]
  · rw [if_neg e]
    simp [hI, wIr, e]
theorem hJ_wJr (f : Nat → Int64) (h : a < hN σ) : hJ (wJr σ a f) b j = if b = a then f j else hJ σ b j := by
  by_cases e : b = a
  · rw [if_pos e]
    subst e
    have h2 : b < σ.1 := h
    simp [hJ, wJr, h2]
  · rw [if_neg e]
    simp [hJ, wJr, e]
theorem hK_wN (κ z : Nat) : hK (wN σ κ z) b = if b = hN σ then κ else hK σ b := by
  by_cases e : b = σ.1
  · subst e
    simp [hK, wN, hN]
  · by_cases h : b < σ.1
    · have h2 : b < σ.1 + 1 := by omega
      simp [hK, wN, hN, e, h, h2]
    · have h2 : ¬ b < σ.1 + 1 := by omega
      simp [hK, wN, hN, e, h, h2]
theorem hZ_wN (κ z : Nat) : hZ (wN σ κ z) b = if b = hN σ then z else hZ σ b := by
  by_cases e : b = σ.1
  · subst e
    simp [hZ, wN, hN]
  · by_cases h : b < σ.1
    · have h2 : b < σ.1 + 1 := by omega
      simp [hZ, wN, hN, e, h, h2]
    · have h2 : ¬ b < σ.1 + 1 := by omega
      simp [hZ, wN, hN, e, h, h2]
theorem hI_wN (κ z : Nat) : hI (wN σ κ z) b j = if b = hN σ then 0 else hI σ b j := by
  by_cases e : b = σ.1
  · subst e
    simp [hI, wN, hN]
  · by_cases h : b < σ.1
    · have h2 : b < σ.1 + 1 := by omega
      simp [hI, wN, hN, e, h, h2]
    · have h2 : ¬ b < σ.1 + 1 := by omega
      simp [hI, wN, hN, e, h, h2]
theorem hJ_wN (κ z : Nat) : hJ (wN σ κ z) b j = if b = hN σ then 0 else hJ σ b j := by
  by_cases e : b = σ.1
  · subst e
    simp [hJ, wN, hN]
  · by_cases h : b < σ.1
    · have h2 : b < σ.1 + 1 := by omega
      simp [hJ, wN, hN, e, h, h2]
    · have h2 : ¬ b < σ.1 + 1 := by omega
      simp [hJ, wN, hN, e, h, h2]
theorem hR_wN (κ z : Nat) : hR (wN σ κ z) b j = if b = hN σ then none else hR σ b j := by
  by_cases e : b = σ.1
  · subst e
    simp [hR, wN, hN]
  · by_cases h : b < σ.1
    · have h2 : b < σ.1 + 1 := by omega
      simp [hR, wN, hN, e, h, h2]
    · have h2 : ¬ b < σ.1 + 1 := by omega
      simp [hR, wN, hN, e, h, h2]
theorem hD_wN (κ z : Nat) : hD (wN σ κ z) b j = if b = hN σ then 0 else hD σ b j := by
  by_cases e : b = σ.1
  · subst e
    simp [hD, wN, hN]
  · by_cases h : b < σ.1
    · have h2 : b < σ.1 + 1 := by omega
      simp [hD, wN, hN, e, h, h2]
    · have h2 : ¬ b < σ.1 + 1 := by omega
      simp [hD, wN, hN, e, h, h2]
end HL
/-- the classes of the cells: kinds 0 .. 11; arrays from 20 on: int, long, byte, boolean, double, Act, Copy, Book -/
abbrev gcl : List vw_C := [(RX0, TX0, 8), (RX1, TX1, 12), (RX2, TX2, 4), (RX3, TX3, 5), (RX4, TX4, 4), (RX5, TX5, 5), (RX6, TX6, 1), (RX7, TX7, 7), (RX8, TX8, 7), (RX9, TX9, 15), (RX10, TX10, 24), (RJ4, TJ4, 4)]
def nF : Nat → Nat
  | 0 => 8
  | 1 => 12
  | 2 => 4
  | 3 => 5
  | 4 => 4
  | 5 => 5
  | 6 => 1
  | 7 => 7
  | 8 => 7
  | 9 => 15
  | 10 => 24
  | 11 => 4
  | _ => 0
def fT : Nat → Nat → Nat
  | 1, 6 => 2
  | 1, 7 => 2
  | 1, 8 => 2
  | 1, 9 => 2
  | 1, 10 => 2
  | 1, 11 => 2
  | 4, 2 => 2
  | 4, 3 => 2
  | 5, 3 => 2
  | 5, 4 => 2
  | 6, 0 => 2
  | 7, 0 => 2
  | 7, 6 => 1
  | 8, 1 => 2
  | 8, 2 => 2
  | 8, 3 => 2
  | 8, 4 => 2
  | 8, 5 => 2
  | 8, 6 => 2
  | 9, 0 => 2
  | 9, 5 => 2
  | 9, 6 => 2
  | 9, 7 => 2
  | 9, 8 => 2
  | 9, 11 => 2
  | 9, 12 => 2
  | 9, 13 => 2
  | 9, 14 => 2
  | 10, 1 => 2
  | 10, 2 => 2
  | 10, 3 => 2
  | 10, 4 => 2
  | 10, 5 => 2
  | 10, 8 => 2
  | 10, 21 => 2
  | 10, 22 => 2
  | 11, 0 => 2
  | _, _ => 0
end
section
/-- two private methods of StringBuilder's class above it, chosen for a StringBuilder -/
def exW : List Cond := [.selects "java/lang/StringBuilder" yJ5_ensureCapacityInternal_d00df yJ5_ensureCapacityInternal_d00df, .selects "java/lang/StringBuilder" yJ5_newCapacity_0f7a4 yJ5_newCapacity_0f7a4]
def ALLw : List Cond := lw_tbl.filter goodWord ++ exW
theorem ALLw_good {w : Cond} (h : w ∈ ALLw) : goodWord w = true := by
  rcases List.mem_append.mp h with h | h
  · exact (List.mem_filter.mp h).2
  · rcases List.mem_cons.mp h with e | h
    · rw [e]; rfl
    · rcases List.mem_cons.mp h with e | h
      · rw [e]; rfl
      · cases h
theorem mx0 : Cond.selects "java/lang/StringBuilder" yJ5_ensureCapacityInternal_d00df yJ5_ensureCapacityInternal_d00df ∈ ALLw := List.mem_append_right _ List.mem_cons_self
theorem mx1 : Cond.selects "java/lang/StringBuilder" yJ5_newCapacity_0f7a4 yJ5_newCapacity_0f7a4 ∈ ALLw := List.mem_append_right _ (List.mem_cons_of_mem _ List.mem_cons_self)
def nestWord : Cond → Bool
  | .methodLinkNest _ _ _ _ => true
  | .fieldLinkNest _ _ _ _ _ _ => true
  | .declares _ => true
  | .castable _ _ => true
  | _ => false
def ALLn : List Cond := lw_tbl.filter nestWord
theorem ALLn_warm {w : Cond} {s U : State} (hw : w ∈ ALLn) (hW : s.WarmedH U.vm) (h : va_Nw w s) : va_Nw w U := by
  have h2 := (List.mem_filter.mp hw).2
  cases w <;> first | exact va_Nw.warmM hW h | exact va_Nw.warmF hW h | exact va_Nw.warmD hW h | exact va_Nw.warmC hW h | exact absurd h2 (by simp [nestWord])
theorem mw {w : Cond} {i : Nat} (h : lw_tbl[i]? = some w) (hg : goodWord w = true) : w ∈ ALLw := List.mem_append_left _ (List.mem_filter.mpr ⟨List.mem_of_getElem? h, hg⟩)
theorem mn {w : Cond} {i : Nat} (h : lw_tbl[i]? = some w) (hg : nestWord w = true) : w ∈ ALLn := List.mem_filter.mpr ⟨List.mem_of_getElem? h, hg⟩
/-! THE CLEAN HEAP OVER THE MACHINE'S -/
def fv (φ : Nat → Nat) (σ : HpT) (i κ k : Nat) : Value := if fT κ k = 0 then .int (hI σ i k) else if fT κ k = 1 then .long (hJ σ i k) else va_rf ((hR σ i k).map φ)
def flds (φ : Nat → Nat) (σ : HpT) (i κ : Nat) : List Value := (List.range (nF κ)).map (fv φ σ i κ)
def arrE (aC : Nat → ClassId) (φ : Nat → Nat) (σ : HpT) (i κ : Nat) : va_E :=
  if κ = 20 then .inl (aC 0, hZ σ i, .inl (hI σ i)) else if κ = 21 then .inl (aC 1, hZ σ i, .inr (.inl (hJ σ i))) else if κ = 22 then .inl (aC 2, hZ σ i, .inl (hI σ i))
  else if κ = 23 then .inl (aC 3, hZ σ i, .inl (hI σ i)) else if κ = 24 then .inl (aC 4, hZ σ i, .inr (.inr (.inr (.inl (hD σ i))))) else .inl (aC (κ - 20), hZ σ i, .inr (.inr (.inr (.inr (fun k => (hR σ i k).map φ)))))
def ent (aC : Nat → ClassId) (φ : Nat → Nat) (σ : HpT) (i : Nat) : va_E := if hK σ i < 20 then .inr (hK σ i, flds φ σ i (hK σ i)) else arrE aC φ σ i (hK σ i)
def wsOf (aC : Nat → ClassId) (φ : Nat → Nat) (σ : HpT) : va_W := (List.range (hN σ)).map (fun i => (φ i, ent aC φ σ i))
abbrev tysOf (aC : Nat → ClassId) : List (ClassId × FieldType) := [(aC 0, .int), (aC 1, .long), (aC 2, .byte), (aC 3, .boolean), (aC 4, .double), (aC 5, .object RX0), (aC 6, .object RX3), (aC 7, .object RX1)]
/-- D, the arrays' classes, where the constants lie, from where on cells are the law's own; the method's start: where its cells lie, its heap -/
abbrev AmbT : Type := va_G × (Nat → ClassId) × (Nat → Nat) × Nat × (Nat → Nat) × HpT
abbrev CtxT : Type := Program × Launch × Env × Room × State × MethodId × Array Value × List Frame × Method × Code × (State → Prop)
def en (φ : Nat → Nat) : Value → Value
  | .ref j => .ref (φ j)
  | v => v
def CLn (σ : HpT) (j : Nat) : Prop := j < hN σ ∨ BIG ≤ j
def CL (σ : HpT) : Value → Prop
  | .ref j => CLn σ j
  | _ => True
def AA (Δ : AmbT) : Nat → Prop := fun q => Δ.2.2.2.1 ≤ q
def WFh (σ : HpT) : Prop := hN σ ≤ BIG ∧ (∀ i k j, i < hN σ → hR σ i k = some j → CLn σ j) ∧ ∀ i k, hK σ i = 22 → (hI σ i k).toInt8.toInt32 = hI σ i k
/-- what is given of the constants: Strings, and statics that are never written -/
def Ev (Δ : AmbT) (U : State) (H : Heap) : Prop :=
  (∀ j, j < nSt → ∀ q, stT[j]? = some q → vk_R q.1 q.2.1 q.2.2 (Δ.2.2.1 (BIG + j)) U) ∧
  (∀ j, j < nSt → va_OF "java/lang/String" "coder" "B" (.int 0) (Δ.2.2.1 (BIG + j)) (AA Δ) U H ∧ va_OF "java/lang/String" "value" "[B" (.ref (Δ.2.2.1 (BIG + 100 + j))) (Δ.2.2.1 (BIG + j)) (AA Δ) U H ∧ va_O "java/lang/String" (Δ.2.2.1 (BIG + j)) (AA Δ) U H ∧ va_T .byte (Δ.2.2.1 (BIG + 100 + j)) (byS j).length (fun i => .int ((byS j).getD i 0)) (AA Δ) U H) ∧
  va_Z "java/lang/String" "COMPACT_STRINGS" "Z" (.int 1) (AA Δ) U H ∧ va_Z "java/lang/Integer" "DigitOnes" "[B" (.ref (Δ.2.2.1 (BIG + 200))) (AA Δ) U H ∧ va_Z "java/lang/Integer" "DigitTens" "[B" (.ref (Δ.2.2.1 (BIG + 201))) (AA Δ) U H ∧
  va_T .byte (Δ.2.2.1 (BIG + 200)) 100 (fun i => .int (cI (BIG + 200) i)) (AA Δ) U H ∧ va_T .byte (Δ.2.2.1 (BIG + 201)) 100 (fun i => .int (cI (BIG + 201) i)) (AA Δ) U H ∧
  (va_Z "jdk/internal/util/Preconditions" "SIOOBE_FORMATTER" "Ljava/util/function/BiFunction;" .null (AA Δ) U H ∨ va_Z "jdk/internal/util/Preconditions" "SIOOBE_FORMATTER" "Ljava/util/function/BiFunction;" (.ref (Δ.2.2.1 (BIG + 202))) (AA Δ) U H) ∧
  vx_Zq Bundle.tN "UNASSIGNED_STACK" Bundle.steD (AA Δ) U H ∧ vx_Zq Bundle.tN "SUPPRESSED_SENTINEL" Bundle.listD (AA Δ) U H ∧
  ∀ w ∈ ALLn, va_Nw w U
theorem Ev.moved {Δ : AmbT} {u U : State} {H : Heap} (hW : u.WarmedH U.vm) (h : Ev Δ u H) : Ev Δ U H := by
  obtain ⟨h1, h2, h3, h4, h5, h6, h7, h8, h9, h10, h11⟩ := h
  have hv := hW.alike
  exact ⟨fun j hj q hq => vk_R.warm hW (h1 j hj q hq), fun j hj => ⟨va_OF.moved hv (h2 j hj).1, va_OF.moved hv (h2 j hj).2.1, va_O.moved hv (h2 j hj).2.2.1, va_T.moved hv (h2 j hj).2.2.2⟩,
    va_Z.moved hv h3, va_Z.moved hv h4, va_Z.moved hv h5, va_T.moved hv h6, va_T.moved hv h7, h8.imp (va_Z.moved hv) (va_Z.moved hv), vx_Zq.moved hv h9, vx_Zq.moved hv h10, fun w hw => ALLn_warm hw hW (h11 w hw)⟩
theorem Ev.kept {Δ : AmbT} {U : State} {H H1 : Heap} (hq : ∀ a : Nat, a < H.size → ¬ AA Δ a → H1[a]? = H[a]?) (h : Ev Δ U H) : Ev Δ U H1 := by
  obtain ⟨h1, h2, h3, h4, h5, h6, h7, h8, h9, h10, h11⟩ := h
  exact ⟨h1, fun j hj => ⟨(h2 j hj).1.kept hq, (h2 j hj).2.1.kept hq, (h2 j hj).2.2.1.kept hq, (h2 j hj).2.2.2.kept hq⟩, h3.kept hq, h4.kept hq, h5.kept hq, h6.kept hq, h7.kept hq, h8.imp (fun h => h.kept hq) (fun h => h.kept hq), h9.kept hq, h10.kept hq, h11⟩
/-- where a walk stands: the heap H is the clean heap σ, its cells lie by φ -/
def Rp (Δ : AmbT) (s : State) (φ : Nat → Nat) (σ : HpT) (H : Heap) (locs : List Loc) : Prop :=
  va_P Δ.1 gcl (wsOf Δ.2.1 φ σ) H ∧ va_D (AA Δ) (wsOf Δ.2.1 φ σ) ∧ va_S (AA Δ) s.heap H locs ∧ (∀ j, BIG ≤ j → φ j = Δ.2.2.1 j) ∧ WFh σ ∧ (∀ j, CLn Δ.2.2.2.2.2 j → φ j = Δ.2.2.2.2.1 j) ∧ hN Δ.2.2.2.2.2 ≤ hN σ
def SC (σ : HpT) (st : List Value) : Prop := ∀ v ∈ st, CL σ v
def enL (φ : Nat → Nat) (L : List (Nat × Value)) : List (Nat × Value) := L.map (fun q => (q.1, en φ q.2))
/-- THE WALK'S GOAL over the clean heap: at pc, with these locals, this stack, this heap, the method comes to its end -/
def GW (Δ : AmbT) (Γ : CtxT) (kc ks pc : Nat) (L : List (Nat × Value)) (st : List Value) (σ : HpT) : Prop :=
  ∀ (φ : Nat → Nat) (H : Heap) (locs : List Loc) (ls : Array Slot), Rp Δ Γ.2.2.2.2.1 φ σ H locs → SC σ st → (∀ q ∈ L, CL σ q.2) → lv_has ls Γ.2.2.2.2.2.2.2.2.2.1.maxLocals (enL φ L) →
    W Γ.1 Γ.2.1 Γ.2.2.1 Γ.2.2.2.1 Γ.2.2.2.2.1 Γ.2.2.2.2.2.1 Γ.2.2.2.2.2.2.1 Γ.2.2.2.2.2.2.2.1 Γ.2.2.2.2.2.2.2.2.1 Γ.2.2.2.2.2.2.2.2.2.1 H locs kc ks Γ.2.2.2.2.2.2.2.2.2.2 (F0 Γ.2.2.2.2.2.1 pc ls (st.map (en φ)))
/-- what is known throughout a method's body -/
def Bd (Δ : AmbT) (Γ : CtxT) (own : String) (cc : ByteArray) (nL fr lo Kc Ks : Nat) : Prop :=
  Γ.1.tables.exec = Jvm.exec ∧ Γ.2.2.2.2.2.2.2.2.2.1.code = cc ∧ Γ.2.2.2.2.2.2.2.2.2.1.maxLocals = nL ∧ Γ.2.2.2.2.1.vm.findClass own = some Γ.2.2.2.2.2.1.cls ∧ (∀ w ∈ ALLw, w.before Γ.2.2.2.2.2.2.1 Γ.2.2.2.2.1 = true) ∧
  va_K Δ.1 gcl (tysOf Δ.2.1) Γ.2.2.2.2.1 ∧ Δ.2.2.2.1 ≤ Γ.2.2.2.2.1.heap.size ∧ Ev Δ Γ.2.2.2.2.1 Γ.2.2.2.2.1.heap ∧ Γ.2.2.2.1.frames = fr ∧ Γ.2.2.2.1.locals = lo ∧ Γ.2.2.2.1.cells = Kc ∧ Γ.2.2.2.1.slots = Ks ∧ Γ.2.2.2.2.2.2.2.2.1.locks = false ∧ Γ.2.1.stackTraces = false
/-! the lists of it -/
theorem ws_at {aC : Nat → ClassId} {φ : Nat → Nat} {σ : HpT} {i : Nat} (h : i < hN σ) : (wsOf aC φ σ)[i]? = some (φ i, ent aC φ σ i) := by
  unfold wsOf
  rw [List.getElem?_map, List.getElem?_range h]
  rfl
theorem ws_len {aC : Nat → ClassId} {φ : Nat → Nat} {σ : HpT} : (wsOf aC φ σ).length = hN σ := by simp [wsOf]
theorem fl_at {φ : Nat → Nat} {σ : HpT} {i κ k : Nat} (h : k < nF κ) : (flds φ σ i κ)[k]? = some (fv φ σ i κ k) := by
  unfold flds
  rw [List.getElem?_map, List.getElem?_range h]
  rfl
theorem fl_len {φ : Nat → Nat} {σ : HpT} {i κ : Nat} : (flds φ σ i κ).length = nF κ := by simp [flds]
theorem rg_set {α : Type} (n i : Nat) (f : Nat → α) (x : α) : ((List.range n).map f).set i x = (List.range n).map (fun j => if j = i then x else f j) := by
  apply List.ext_getElem?
  intro j
  by_cases hj : j < n
  · by_cases e : j = i
    · subst e
      rw [List.getElem?_set_self (by simpa using hj), List.getElem?_map, List.getElem?_range hj]
      simp
    · rw [List.getElem?_set_ne (Ne.symm e), List.getElem?_map, List.getElem?_map, List.getElem?_range hj]
      simp [e]
  · rw [List.getElem?_eq_none (by simp; omega), List.getElem?_eq_none (by simp; omega)]
/-- one cell is another, the others as before -/
theorem ws_set {aC : Nat → ClassId} {φ : Nat → Nat} {σ σ' : HpT} {i : Nat} {e : va_E} (hn : hN σ' = hN σ) (ho : ∀ j, j < hN σ → j ≠ i → ent aC φ σ' j = ent aC φ σ j) (hi : i < hN σ → ent aC φ σ' i = e) : (wsOf aC φ σ).set i (φ i, e) = wsOf aC φ σ' := by
  unfold wsOf
  rw [rg_set, hn]
  apply List.map_congr_left
  intro j hj
  have hj : j < hN σ := List.mem_range.mp hj
  by_cases h : j = i
  · subst h
    rw [if_pos rfl, hi hj]
  · rw [if_neg h, ho j hj h]
theorem ws_push {aC : Nat → ClassId} {φ φ' : Nat → Nat} {σ σ' : HpT} {e : va_E} {q : Nat} (hn : hN σ' = hN σ + 1) (ho : ∀ j, j < hN σ → φ' j = φ j ∧ ent aC φ' σ' j = ent aC φ σ j) (hq : φ' (hN σ) = q) (hi : ent aC φ' σ' (hN σ) = e) : wsOf aC φ σ ++ [(q, e)] = wsOf aC φ' σ' := by
  unfold wsOf
  rw [hn, List.range_succ, List.map_append, List.map_cons, List.map_nil, hq, hi]
  congr 1
  apply List.map_congr_left
  intro j hj
  obtain ⟨h1, h2⟩ := ho j (List.mem_range.mp hj)
  rw [h1, h2]
theorem entC {aC : Nat → ClassId} {φ : Nat → Nat} {σ : HpT} {i κ : Nat} (h : hK σ i = κ) (hκ : κ < 20) : ent aC φ σ i = .inr (κ, flds φ σ i κ) := by
  unfold ent
  rw [h, if_pos hκ]
theorem entA {aC : Nat → ClassId} {φ : Nat → Nat} {σ : HpT} {i κ : Nat} (h : hK σ i = κ) (hκ : 20 ≤ κ) : ent aC φ σ i = arrE aC φ σ i κ := by
  unfold ent
  rw [h, if_neg (by omega)]
/-- an entry speaks of its own cell alone -/
theorem ent_same {aC : Nat → ClassId} {φ φ' : Nat → Nat} {σ σ' : HpT} {i : Nat} (h1 : hK σ' i = hK σ i) (h2 : hZ σ' i = hZ σ i) (h3 : ∀ k, hI σ' i k = hI σ i k) (h4 : ∀ k, hJ σ' i k = hJ σ i k) (h5 : ∀ k, (hR σ' i k).map φ' = (hR σ i k).map φ) (h6 : ∀ k, hD σ' i k = hD σ i k) : ent aC φ' σ' i = ent aC φ σ i := by
  have e3 : hI σ' i = hI σ i := funext h3
  have e4 : hJ σ' i = hJ σ i := funext h4
  have e5 : (fun k => (hR σ' i k).map φ') = (fun k => (hR σ i k).map φ) := funext h5
  have e6 : hD σ' i = hD σ i := funext h6
  have e7 : ∀ κ, flds φ' σ' i κ = flds φ σ i κ := by
    intro κ
    unfold flds
    apply List.map_congr_left
    intro k _
    unfold fv
    rw [h3, h4, h5]
  unfold ent arrE
  rw [h1, h2, e3, e4, e5, e6, e7]
theorem BIG_pos : 0 < BIG := by decide
theorem hK_big {σ : HpT} {i κ : Nat} (hw : WFh σ) (h : hK σ i = κ) (h2 : κ ≠ 99) : i < hN σ ∨ BIG ≤ i := by
  by_cases a : i < σ.1
  · exact Or.inl a
  · by_cases b : BIG ≤ i
    · exact Or.inr b
    · unfold hK cK at h
      rw [if_neg a, if_pos (by omega)] at h
      exact absurd h.symm h2
theorem en_of {φ φ' : Nat → Nat} {σ : HpT} {v : Value} (h : ∀ j, CLn σ j → φ' j = φ j) (hv : CL σ v) : en φ' v = en φ v := by
  cases v with
  | ref j => exact congrArg Value.ref (h j hv)
  | _ => rfl
theorem en_rf (φ : Nat → Nat) (r : Option Nat) : en φ (va_rf r) = va_rf (r.map φ) := by cases r <;> rfl
theorem en_cat (φ : Nat → Nat) (v : Value) : (en φ v).category = v.category := by cases v <;> rfl
theorem CL.mono {σ σ' : HpT} {v : Value} (h : hN σ ≤ hN σ') (hv : CL σ v) : CL σ' v := by
  cases v with
  | ref j =>
    rcases hv with a | a
    · exact Or.inl (Nat.lt_of_lt_of_le a h)
    · exact Or.inr a
  | _ => trivial
end
section
/-! ROWS OVER THE CLEAN HEAP -/
def bI (b : Bool) : Int32 := if b then 1 else 0
theorem SC.t {σ : HpT} {v : Value} {st : List Value} (h : SC σ (v :: st)) : SC σ st := fun w hw => h w (List.mem_cons_of_mem _ hw)
theorem SC.h {σ : HpT} {v : Value} {st : List Value} (h : SC σ (v :: st)) : CL σ v := h v List.mem_cons_self
theorem SC.c {σ : HpT} {v : Value} {st : List Value} (h : CL σ v) (k : SC σ st) : SC σ (v :: st) := fun w hw => by
  rcases List.mem_cons.mp hw with e | e
  · rw [e]; exact h
  · exact k w e
theorem rf_cat (r : Option Nat) : (va_rf r).category = 1 := by cases r <;> rfl
/-- locals, by places -/
theorem enL_at {φ : Nat → Nat} {L : List (Nat × Value)} {ls : Array Slot} {nL : Nat} (hl : lv_has ls nL (enL φ L)) (k : Nat) {i : Nat} {v : Value} (hk : L[k]? = some (i, v)) : ls[i]? = some (.val (en φ v)) := by
  refine lv_at hl k ?_
  unfold enL
  rw [List.getElem?_map, hk]
  rfl
theorem enL_sub {φ : Nat → Nat} {L L' : List (Nat × Value)} {ls : Array Slot} {nL : Nat} (hl : lv_has ls nL (enL φ L)) (ks : List Nat) (h : lv_pick L ks = L') : lv_has ls nL (enL φ L') := by
  refine lv_sub hl ks ?_
  rw [← h]
  unfold lv_pick enL
  rw [List.map_filterMap]
  congr 1
  funext k
  rw [List.getElem?_map]
theorem LC_at {σ : HpT} {L : List (Nat × Value)} (h : ∀ q ∈ L, CL σ q.2) (k : Nat) {i : Nat} {v : Value} (hk : L[k]? = some (i, v)) : CL σ v := h (i, v) (List.mem_of_getElem? hk)
theorem LC_pick {σ : HpT} {L L' : List (Nat × Value)} (h : ∀ q ∈ L, CL σ q.2) (ks : List Nat) (e : lv_pick L ks = L') : ∀ q ∈ L', CL σ q.2 := by
  intro q hq
  rw [← e] at hq
  obtain ⟨k, -, hk⟩ := List.mem_filterMap.mp hq
  exact h q (List.mem_of_getElem? hk)
def st1 (i : Nat) (v : Value) (L : List (Nat × Value)) : List (Nat × Value) := (i, v) :: L.filter (fun q => !(q.1 == i) && !(q.1 + 1 == i && q.2.category == 2))
def st2 (i : Nat) (v : Value) (L : List (Nat × Value)) : List (Nat × Value) := (i, v) :: L.filter (fun q => !(q.1 == i) && (!(q.1 == i + 1) && !(q.1 + 1 == i && q.2.category == 2)))
theorem enL_st1 {φ : Nat → Nat} {L : List (Nat × Value)} {i : Nat} {v : Value} : (i, en φ v) :: (enL φ L).filter (fun q => !(q.1 == i) && !(q.1 + 1 == i && q.2.category == 2)) = enL φ (st1 i v L) := by
  unfold enL st1
  rw [List.map_cons, List.filter_map]
  congr 2
  apply List.filter_congr
  intro q _
  simp only [Function.comp_apply, en_cat]
theorem enL_st2 {φ : Nat → Nat} {L : List (Nat × Value)} {i : Nat} {v : Value} : (i, en φ v) :: (enL φ L).filter (fun q => !(q.1 == i) && (!(q.1 == i + 1) && !(q.1 + 1 == i && q.2.category == 2))) = enL φ (st2 i v L) := by
  unfold enL st2
  rw [List.map_cons, List.filter_map]
  congr 2
  apply List.filter_congr
  intro q _
  simp only [Function.comp_apply, en_cat]
theorem LC_st {σ : HpT} {L : List (Nat × Value)} {i : Nat} {v : Value} {p : Nat × Value → Bool} (h : ∀ q ∈ L, CL σ q.2) (hv : CL σ v) : ∀ q ∈ (i, v) :: L.filter p, CL σ q.2 := by
  intro q hq
  rcases List.mem_cons.mp hq with e | e
  · rw [e]; exact hv
  · exact h q (List.mem_filter.mp e).1
section GR
variable {Δ : AmbT} {Γ : CtxT} {own : String} {cc : ByteArray} {nL fr lo Kc Ks kc ks pc : Nat} {L : List (Nat × Value)} {st : List Value} {σ : HpT}
/-- fewer locals, in any order -/
theorem g_sub {L' : List (Nat × Value)} (js : List Nat) (h : lv_pick L js = L') (k : GW Δ Γ kc ks pc L' st σ) : GW Δ Γ kc ks pc L st σ := fun φ H locs ls hR hst hL hl => k φ H locs ls hR hst (LC_pick hL js h) (enL_sub hl js h)
theorem g_iconst (B : Bd Δ Γ own cc nL fr lo Kc Ks) {n : Int} {v : Int32} (d : decode cc pc = .ok (.iconst n, 1)) (hv : Int32.ofInt n = v) (k : GW Δ Γ kc ks (pc + 1) L (.int (v) :: st) σ) : GW Δ Γ kc ks pc L (st) σ := fun φ H locs ls hR hst hL hl => lv_iconst B.1 B.2.1 d hv (k φ H locs ls hR (SC.c (v := .int (v)) True.intro (hst)) hL hl)
theorem g_bipush (B : Bd Δ Γ own cc nL fr lo Kc Ks) {n : Int} {v : Int32} (d : decode cc pc = .ok (.bipush n, 2)) (hv : (Int8.ofInt n).toInt32 = v) (k : GW Δ Γ kc ks (pc + 2) L (.int (v) :: st) σ) : GW Δ Γ kc ks pc L (st) σ := fun φ H locs ls hR hst hL hl => lv_bipush B.1 B.2.1 d hv (k φ H locs ls hR (SC.c (v := .int (v)) True.intro (hst)) hL hl)
theorem g_sipush (B : Bd Δ Γ own cc nL fr lo Kc Ks) {n : Int} {v : Int32} (d : decode cc pc = .ok (.sipush n, 3)) (hv : (Int16.ofInt n).toInt32 = v) (k : GW Δ Γ kc ks (pc + 3) L (.int (v) :: st) σ) : GW Δ Γ kc ks pc L (st) σ := fun φ H locs ls hR hst hL hl => lv_sipush B.1 B.2.1 d hv (k φ H locs ls hR (SC.c (v := .int (v)) True.intro (hst)) hL hl)
theorem g_lconst (B : Bd Δ Γ own cc nL fr lo Kc Ks) {n : Fin 2} {v : Int64} (d : decode cc pc = .ok (.lconst n, 1)) (hv : Int64.ofNat (n : Nat) = v) (k : GW Δ Γ kc ks (pc + 1) L (.long (v) :: st) σ) : GW Δ Γ kc ks pc L (st) σ := fun φ H locs ls hR hst hL hl => lv_lconst B.1 B.2.1 d hv (k φ H locs ls hR (SC.c (v := .long (v)) True.intro (hst)) hL hl)
theorem g_iadd (B : Bd Δ Γ own cc nL fr lo Kc Ks) {x y : Int32} (d : decode cc pc = .ok (.iadd, 1))  (k : GW Δ Γ kc ks (pc + 1) L (.int (x + y) :: st) σ) : GW Δ Γ kc ks pc L (.int y :: .int x :: st) σ := fun φ H locs ls hR hst hL hl => lv_iadd B.1 B.2.1 d  (k φ H locs ls hR (SC.c (v := .int (x + y)) True.intro (hst.t.t)) hL hl)
theorem g_isub (B : Bd Δ Γ own cc nL fr lo Kc Ks) {x y : Int32} (d : decode cc pc = .ok (.isub, 1))  (k : GW Δ Γ kc ks (pc + 1) L (.int (x - y) :: st) σ) : GW Δ Γ kc ks pc L (.int y :: .int x :: st) σ := fun φ H locs ls hR hst hL hl => lv_isub B.1 B.2.1 d  (k φ H locs ls hR (SC.c (v := .int (x - y)) True.intro (hst.t.t)) hL hl)
theorem g_imul (B : Bd Δ Γ own cc nL fr lo Kc Ks) {x y : Int32} (d : decode cc pc = .ok (.imul, 1))  (k : GW Δ Γ kc ks (pc + 1) L (.int (x * y) :: st) σ) : GW Δ Γ kc ks pc L (.int y :: .int x :: st) σ := fun φ H locs ls hR hst hL hl => lv_imul B.1 B.2.1 d  (k φ H locs ls hR (SC.c (v := .int (x * y)) True.intro (hst.t.t)) hL hl)
theorem g_iand (B : Bd Δ Γ own cc nL fr lo Kc Ks) {x y : Int32} (d : decode cc pc = .ok (.iand, 1))  (k : GW Δ Γ kc ks (pc + 1) L (.int (x &&& y) :: st) σ) : GW Δ Γ kc ks pc L (.int y :: .int x :: st) σ := fun φ H locs ls hR hst hL hl => lv_iand B.1 B.2.1 d  (k φ H locs ls hR (SC.c (v := .int (x &&& y)) True.intro (hst.t.t)) hL hl)
theorem g_ior (B : Bd Δ Γ own cc nL fr lo Kc Ks) {x y : Int32} (d : decode cc pc = .ok (.ior, 1))  (k : GW Δ Γ kc ks (pc + 1) L (.int (x ||| y) :: st) σ) : GW Δ Γ kc ks pc L (.int y :: .int x :: st) σ := fun φ H locs ls hR hst hL hl => lv_ior B.1 B.2.1 d  (k φ H locs ls hR (SC.c (v := .int (x ||| y)) True.intro (hst.t.t)) hL hl)
theorem g_ixor (B : Bd Δ Γ own cc nL fr lo Kc Ks) {x y : Int32} (d : decode cc pc = .ok (.ixor, 1))  (k : GW Δ Γ kc ks (pc + 1) L (.int (x ^^^ y) :: st) σ) : GW Δ Γ kc ks pc L (.int y :: .int x :: st) σ := fun φ H locs ls hR hst hL hl => lv_ixor B.1 B.2.1 d  (k φ H locs ls hR (SC.c (v := .int (x ^^^ y)) True.intro (hst.t.t)) hL hl)
theorem g_ishl (B : Bd Δ Γ own cc nL fr lo Kc Ks) {x y : Int32} (d : decode cc pc = .ok (.ishl, 1))  (k : GW Δ Γ kc ks (pc + 1) L (.int (x <<< (y &&& 31)) :: st) σ) : GW Δ Γ kc ks pc L (.int y :: .int x :: st) σ := fun φ H locs ls hR hst hL hl => lv_ishl B.1 B.2.1 d  (k φ H locs ls hR (SC.c (v := .int (x <<< (y &&& 31))) True.intro (hst.t.t)) hL hl)
theorem g_ishr (B : Bd Δ Γ own cc nL fr lo Kc Ks) {x y : Int32} (d : decode cc pc = .ok (.ishr, 1))  (k : GW Δ Γ kc ks (pc + 1) L (.int (x >>> (y &&& 31)) :: st) σ) : GW Δ Γ kc ks pc L (.int y :: .int x :: st) σ := fun φ H locs ls hR hst hL hl => lv_ishr B.1 B.2.1 d  (k φ H locs ls hR (SC.c (v := .int (x >>> (y &&& 31))) True.intro (hst.t.t)) hL hl)
theorem g_idiv (B : Bd Δ Γ own cc nL fr lo Kc Ks) {x y : Int32} (d : decode cc pc = .ok (.idiv, 1)) (hne : ¬ y = 0) (k : GW Δ Γ kc ks (pc + 1) L (.int (x / y) :: st) σ) : GW Δ Γ kc ks pc L (.int y :: .int x :: st) σ := fun φ H locs ls hR hst hL hl => lv_idiv B.1 B.2.1 d hne (k φ H locs ls hR (SC.c (v := .int (x / y)) True.intro (hst.t.t)) hL hl)
theorem g_irem (B : Bd Δ Γ own cc nL fr lo Kc Ks) {x y : Int32} (d : decode cc pc = .ok (.irem, 1)) (hne : ¬ y = 0) (k : GW Δ Γ kc ks (pc + 1) L (.int (x - x / y * y) :: st) σ) : GW Δ Γ kc ks pc L (.int y :: .int x :: st) σ := fun φ H locs ls hR hst hL hl => lv_irem B.1 B.2.1 d hne (k φ H locs ls hR (SC.c (v := .int (x - x / y * y)) True.intro (hst.t.t)) hL hl)
theorem g_ladd (B : Bd Δ Γ own cc nL fr lo Kc Ks) {x y : Int64} (d : decode cc pc = .ok (.ladd, 1))  (k : GW Δ Γ kc ks (pc + 1) L (.long (x + y) :: st) σ) : GW Δ Γ kc ks pc L (.long y :: .long x :: st) σ := fun φ H locs ls hR hst hL hl => lv_ladd B.1 B.2.1 d  (k φ H locs ls hR (SC.c (v := .long (x + y)) True.intro (hst.t.t)) hL hl)
theorem g_lsub (B : Bd Δ Γ own cc nL fr lo Kc Ks) {x y : Int64} (d : decode cc pc = .ok (.lsub, 1))  (k : GW Δ Γ kc ks (pc + 1) L (.long (x - y) :: st) σ) : GW Δ Γ kc ks pc L (.long y :: .long x :: st) σ := fun φ H locs ls hR hst hL hl => lv_lsub B.1 B.2.1 d  (k φ H locs ls hR (SC.c (v := .long (x - y)) True.intro (hst.t.t)) hL hl)
theorem g_land (B : Bd Δ Γ own cc nL fr lo Kc Ks) {x y : Int64} (d : decode cc pc = .ok (.land, 1))  (k : GW Δ Γ kc ks (pc + 1) L (.long (x &&& y) :: st) σ) : GW Δ Γ kc ks pc L (.long y :: .long x :: st) σ := fun φ H locs ls hR hst hL hl => lv_land B.1 B.2.1 d  (k φ H locs ls hR (SC.c (v := .long (x &&& y)) True.intro (hst.t.t)) hL hl)
theorem g_lor (B : Bd Δ Γ own cc nL fr lo Kc Ks) {x y : Int64} (d : decode cc pc = .ok (.lor, 1))  (k : GW Δ Γ kc ks (pc + 1) L (.long (x ||| y) :: st) σ) : GW Δ Γ kc ks pc L (.long y :: .long x :: st) σ := fun φ H locs ls hR hst hL hl => lv_lor B.1 B.2.1 d  (k φ H locs ls hR (SC.c (v := .long (x ||| y)) True.intro (hst.t.t)) hL hl)
theorem g_iushr (B : Bd Δ Γ own cc nL fr lo Kc Ks) {x y : Int32} (d : decode cc pc = .ok (.iushr, 1))  (k : GW Δ Γ kc ks (pc + 1) L (.int ((x.toUInt32 >>> (y.toUInt32 &&& Int32.toUInt32 31)).toInt32) :: st) σ) : GW Δ Γ kc ks pc L (.int y :: .int x :: st) σ := fun φ H locs ls hR hst hL hl => lv_iushr B.1 B.2.1 d rfl (k φ H locs ls hR (SC.c (v := .int ((x.toUInt32 >>> (y.toUInt32 &&& Int32.toUInt32 31)).toInt32)) True.intro (hst.t.t)) hL hl)
theorem g_lushr (B : Bd Δ Γ own cc nL fr lo Kc Ks) {x : Int64} {y : Int32} (d : decode cc pc = .ok (.lushr, 1))  (k : GW Δ Γ kc ks (pc + 1) L (.long ((x.toUInt64 >>> (y.toInt64.toUInt64 &&& Int64.toUInt64 63)).toInt64) :: st) σ) : GW Δ Γ kc ks pc L (.int y :: .long x :: st) σ := fun φ H locs ls hR hst hL hl => lv_lushr B.1 B.2.1 d rfl (k φ H locs ls hR (SC.c (v := .long ((x.toUInt64 >>> (y.toInt64.toUInt64 &&& Int64.toUInt64 63)).toInt64)) True.intro (hst.t.t)) hL hl)
theorem g_lshl (B : Bd Δ Γ own cc nL fr lo Kc Ks) {x : Int64} {y : Int32} (d : decode cc pc = .ok (.lshl, 1))  (k : GW Δ Γ kc ks (pc + 1) L (.long (x <<< (y.toInt64 &&& 63)) :: st) σ) : GW Δ Γ kc ks pc L (.int y :: .long x :: st) σ := fun φ H locs ls hR hst hL hl => lv_lshl B.1 B.2.1 d rfl (k φ H locs ls hR (SC.c (v := .long (x <<< (y.toInt64 &&& 63))) True.intro (hst.t.t)) hL hl)
theorem g_ineg (B : Bd Δ Γ own cc nL fr lo Kc Ks) {x : Int32} (d : decode cc pc = .ok (.ineg, 1))  (k : GW Δ Γ kc ks (pc + 1) L (.int (-x) :: st) σ) : GW Δ Γ kc ks pc L (.int x :: st) σ := fun φ H locs ls hR hst hL hl => lv_ineg B.1 B.2.1 d  (k φ H locs ls hR (SC.c (v := .int (-x)) True.intro (hst.t)) hL hl)
theorem g_i2l (B : Bd Δ Γ own cc nL fr lo Kc Ks) {x : Int32} (d : decode cc pc = .ok (.i2l, 1))  (k : GW Δ Γ kc ks (pc + 1) L (.long (x.toInt64) :: st) σ) : GW Δ Γ kc ks pc L (.int x :: st) σ := fun φ H locs ls hR hst hL hl => lv_i2l B.1 B.2.1 d rfl (k φ H locs ls hR (SC.c (v := .long (x.toInt64)) True.intro (hst.t)) hL hl)
theorem g_l2i (B : Bd Δ Γ own cc nL fr lo Kc Ks) {x : Int64} (d : decode cc pc = .ok (.l2i, 1))  (k : GW Δ Γ kc ks (pc + 1) L (.int (x.toInt32) :: st) σ) : GW Δ Γ kc ks pc L (.long x :: st) σ := fun φ H locs ls hR hst hL hl => lv_l2i B.1 B.2.1 d rfl (k φ H locs ls hR (SC.c (v := .int (x.toInt32)) True.intro (hst.t)) hL hl)
theorem g_i2b (B : Bd Δ Γ own cc nL fr lo Kc Ks) {x : Int32} (d : decode cc pc = .ok (.i2b, 1))  (k : GW Δ Γ kc ks (pc + 1) L (.int (x.toInt8.toInt32) :: st) σ) : GW Δ Γ kc ks pc L (.int x :: st) σ := fun φ H locs ls hR hst hL hl => lv_i2b B.1 B.2.1 d rfl (k φ H locs ls hR (SC.c (v := .int (x.toInt8.toInt32)) True.intro (hst.t)) hL hl)
theorem g_i2c (B : Bd Δ Γ own cc nL fr lo Kc Ks) {x : Int32} (d : decode cc pc = .ok (.i2c, 1))  (k : GW Δ Γ kc ks (pc + 1) L (.int ((x.toUInt32 % 65536).toInt32) :: st) σ) : GW Δ Γ kc ks pc L (.int x :: st) σ := fun φ H locs ls hR hst hL hl => lv_i2c B.1 B.2.1 d rfl (k φ H locs ls hR (SC.c (v := .int ((x.toUInt32 % 65536).toInt32)) True.intro (hst.t)) hL hl)
theorem g_i2f (B : Bd Δ Γ own cc nL fr lo Kc Ks) {x : Int32} (d : decode cc pc = .ok (.i2f, 1))  (k : GW Δ Γ kc ks (pc + 1) L (.float (FP.i2f x) :: st) σ) : GW Δ Γ kc ks pc L (.int x :: st) σ := fun φ H locs ls hR hst hL hl => lv_i2f B.1 B.2.1 d  (k φ H locs ls hR (SC.c (v := .float (FP.i2f x)) True.intro (hst.t)) hL hl)
theorem g_i2d (B : Bd Δ Γ own cc nL fr lo Kc Ks) {x : Int32} (d : decode cc pc = .ok (.i2d, 1))  (k : GW Δ Γ kc ks (pc + 1) L (.double (FP.i2d x) :: st) σ) : GW Δ Γ kc ks pc L (.int x :: st) σ := fun φ H locs ls hR hst hL hl => lv_i2d B.1 B.2.1 d  (k φ H locs ls hR (SC.c (v := .double (FP.i2d x)) True.intro (hst.t)) hL hl)
theorem g_f2d (B : Bd Δ Γ own cc nL fr lo Kc Ks) {x : UInt32} (d : decode cc pc = .ok (.f2d, 1)) (hne : vf_n64 (FP.f2d x)) (k : GW Δ Γ kc ks (pc + 1) L (.double (FP.f2d x) :: st) σ) : GW Δ Γ kc ks pc L (.float x :: st) σ := fun φ H locs ls hR hst hL hl => lv_f2d B.1 B.2.1 d hne (k φ H locs ls hR (SC.c (v := .double (FP.f2d x)) True.intro (hst.t)) hL hl)
theorem g_fdiv (B : Bd Δ Γ own cc nL fr lo Kc Ks) {x y : UInt32} (d : decode cc pc = .ok (.fdiv, 1)) (hne : vf_n32 (FP.fdiv x y)) (k : GW Δ Γ kc ks (pc + 1) L (.float (FP.fdiv x y) :: st) σ) : GW Δ Γ kc ks pc L (.float y :: .float x :: st) σ := fun φ H locs ls hR hst hL hl => lv_fdiv B.1 B.2.1 d hne (k φ H locs ls hR (SC.c (v := .float (FP.fdiv x y)) True.intro (hst.t.t)) hL hl)
theorem g_ddiv (B : Bd Δ Γ own cc nL fr lo Kc Ks) {x y : UInt64} (d : decode cc pc = .ok (.ddiv, 1)) (hne : vf_n64 (FP.ddiv x y)) (k : GW Δ Γ kc ks (pc + 1) L (.double (FP.ddiv x y) :: st) σ) : GW Δ Γ kc ks pc L (.double y :: .double x :: st) σ := fun φ H locs ls hR hst hL hl => lv_ddiv B.1 B.2.1 d hne (k φ H locs ls hR (SC.c (v := .double (FP.ddiv x y)) True.intro (hst.t.t)) hL hl)
theorem g_dcmp (B : Bd Δ Γ own cc nL fr lo Kc Ks) {x y : UInt64} {op : CmpOp} (d : decode cc pc = .ok (.dcmp op, 1))  (k : GW Δ Γ kc ks (pc + 1) L (.int (Op.cmpValue (FP.dcmp x y) op) :: st) σ) : GW Δ Γ kc ks pc L (.double y :: .double x :: st) σ := fun φ H locs ls hR hst hL hl => lv_dcmp B.1 B.2.1 d  (k φ H locs ls hR (SC.c (v := .int (Op.cmpValue (FP.dcmp x y) op)) True.intro (hst.t.t)) hL hl)
theorem g_fcmp (B : Bd Δ Γ own cc nL fr lo Kc Ks) {x y : UInt32} {op : CmpOp} (d : decode cc pc = .ok (.fcmp op, 1))  (k : GW Δ Γ kc ks (pc + 1) L (.int (Op.cmpValue (FP.fcmp x y) op) :: st) σ) : GW Δ Γ kc ks pc L (.float y :: .float x :: st) σ := fun φ H locs ls hR hst hL hl => lv_fcmp B.1 B.2.1 d  (k φ H locs ls hR (SC.c (v := .int (Op.cmpValue (FP.fcmp x y) op)) True.intro (hst.t.t)) hL hl)
theorem g_fconst0 (B : Bd Δ Γ own cc nL fr lo Kc Ks)  (d : decode cc pc = .ok (.fconst 0, 1))  (k : GW Δ Γ kc ks (pc + 1) L (.float (FP.fconst0) :: st) σ) : GW Δ Γ kc ks pc L (st) σ := fun φ H locs ls hR hst hL hl => lv_fconst0 B.1 B.2.1 d  (k φ H locs ls hR (SC.c (v := .float (FP.fconst0)) True.intro (hst)) hL hl)
theorem g_dconst0 (B : Bd Δ Γ own cc nL fr lo Kc Ks)  (d : decode cc pc = .ok (.dconst 0, 1))  (k : GW Δ Γ kc ks (pc + 1) L (.double (FP.dconst0) :: st) σ) : GW Δ Γ kc ks pc L (st) σ := fun φ H locs ls hR hst hL hl => lv_dconst0 B.1 B.2.1 d  (k φ H locs ls hR (SC.c (v := .double (FP.dconst0)) True.intro (hst)) hL hl)
theorem g_lcmp (B : Bd Δ Γ own cc nL fr lo Kc Ks) {x y : Int64} (d : decode cc pc = .ok (.lcmp, 1))  (k : GW Δ Γ kc ks (pc + 1) L (.int (lg_cmp x y) :: st) σ) : GW Δ Γ kc ks pc L (.long y :: .long x :: st) σ := fun φ H locs ls hR hst hL hl => W.lcmp B.1 B.2.1 d  (k φ H locs ls hR (SC.c (v := .int (lg_cmp x y)) True.intro (hst.t.t)) hL hl)
theorem g_null (B : Bd Δ Γ own cc nL fr lo Kc Ks) (d : decode cc pc = .ok (.aconst_null, 1)) (k : GW Δ Γ kc ks (pc + 1) L (va_rf none :: st) σ) : GW Δ Γ kc ks pc L st σ := fun φ H locs ls hR hst hL hl => lv_null B.1 B.2.1 d (k φ H locs ls hR (SC.c (v := .null) True.intro hst) hL hl)
theorem g_dup (B : Bd Δ Γ own cc nL fr lo Kc Ks) {v : Value} (d : decode cc pc = .ok (.dup, 1)) (hc : v.category = 1) (k : GW Δ Γ kc ks (pc + 1) L (v :: v :: st) σ) : GW Δ Γ kc ks pc L (v :: st) σ := fun φ H locs ls hR hst hL hl => lv_dup B.1 B.2.1 d (by rw [en_cat]; exact hc) (k φ H locs ls hR (SC.c hst.h hst) hL hl)
theorem g_dup2 (B : Bd Δ Γ own cc nL fr lo Kc Ks) {v w : Value} (d : decode cc pc = .ok (.dup2, 1)) (hc : v.category = 1) (hc2 : w.category = 1) (k : GW Δ Γ kc ks (pc + 1) L (v :: w :: v :: w :: st) σ) : GW Δ Γ kc ks pc L (v :: w :: st) σ := fun φ H locs ls hR hst hL hl => lv_dup2_11 B.1 B.2.1 d (by rw [en_cat]; exact hc) (by rw [en_cat]; exact hc2) (k φ H locs ls hR (SC.c hst.h (SC.c hst.t.h hst)) hL hl)
theorem g_dup_x1 (B : Bd Δ Γ own cc nL fr lo Kc Ks) {v w : Value} (d : decode cc pc = .ok (.dup_x1, 1)) (hc : v.category = 1) (hc2 : w.category = 1) (k : GW Δ Γ kc ks (pc + 1) L (v :: w :: v :: st) σ) : GW Δ Γ kc ks pc L (v :: w :: st) σ := fun φ H locs ls hR hst hL hl => lv_dup_x1 B.1 B.2.1 d (by rw [en_cat]; exact hc) (by rw [en_cat]; exact hc2) (k φ H locs ls hR (SC.c hst.h (SC.c hst.t.h (SC.c hst.h hst.t.t))) hL hl)
theorem g_pop (B : Bd Δ Γ own cc nL fr lo Kc Ks) {v : Value} (d : decode cc pc = .ok (.pop, 1)) (hc : v.category = 1) (k : GW Δ Γ kc ks (pc + 1) L st σ) : GW Δ Γ kc ks pc L (v :: st) σ := fun φ H locs ls hR hst hL hl => lv_pop B.1 B.2.1 d (by rw [en_cat]; exact hc) (k φ H locs ls hR hst.t hL hl)
theorem g_iload_n (B : Bd Δ Γ own cc nL fr lo Kc Ks) {n : Fin 4} {i : Nat} {x : Int32} (j : Nat) (d : decode cc pc = .ok (.iload_n n, 1)) (hi : (n : Nat) = i) (hl0 : L[j]? = some (i, .int x)) (k : GW Δ Γ kc ks (pc + 1) L (.int x :: st) σ) : GW Δ Γ kc ks pc L st σ := fun φ H locs ls hR hst hL hl => lv_iload_n B.1 B.2.1 d hi (enL_at hl j hl0) (k φ H locs ls hR (SC.c (v := .int x) True.intro hst) hL hl)
theorem g_iload (B : Bd Δ Γ own cc nL fr lo Kc Ks) {i : Nat} {x : Int32} (j : Nat) (d : decode cc pc = .ok (.iload i, 2)) (hl0 : L[j]? = some (i, .int x)) (k : GW Δ Γ kc ks (pc + 2) L (.int x :: st) σ) : GW Δ Γ kc ks pc L st σ := fun φ H locs ls hR hst hL hl => lv_iload B.1 B.2.1 d (enL_at hl j hl0) (k φ H locs ls hR (SC.c (v := .int x) True.intro hst) hL hl)
theorem g_istore_n (B : Bd Δ Γ own cc nL fr lo Kc Ks) {n : Fin 4} {i : Nat} {x : Int32} {L' : List (Nat × Value)} (d : decode cc pc = .ok (.istore_n n, 1)) (hi : (n : Nat) = i) (hn : i < nL) (hL' : st1 i (.int x) L = L') (k : GW Δ Γ kc ks (pc + 1) L' st σ) : GW Δ Γ kc ks pc L (.int x :: st) σ := fun φ H locs ls hR hst hL hl => lv_istore_n B.1 B.2.1 d hi (B.2.2.1 ▸ hl) hn (enL_st1 (v := .int x)) (fun ls2 hl2 => k φ H locs ls2 hR hst.t (hL' ▸ LC_st hL (v := .int x) True.intro) (B.2.2.1.symm ▸ hL' ▸ hl2))
theorem g_istore (B : Bd Δ Γ own cc nL fr lo Kc Ks) {i : Nat} {x : Int32} {L' : List (Nat × Value)} (d : decode cc pc = .ok (.istore i, 2)) (hn : i < nL) (hL' : st1 i (.int x) L = L') (k : GW Δ Γ kc ks (pc + 2) L' st σ) : GW Δ Γ kc ks pc L (.int x :: st) σ := fun φ H locs ls hR hst hL hl => lv_istore B.1 B.2.1 d (B.2.2.1 ▸ hl) hn (enL_st1 (v := .int x)) (fun ls2 hl2 => k φ H locs ls2 hR hst.t (hL' ▸ LC_st hL (v := .int x) True.intro) (B.2.2.1.symm ▸ hL' ▸ hl2))
theorem g_lload_n (B : Bd Δ Γ own cc nL fr lo Kc Ks) {n : Fin 4} {i : Nat} {x : Int64} (j : Nat) (d : decode cc pc = .ok (.lload_n n, 1)) (hi : (n : Nat) = i) (hl0 : L[j]? = some (i, .long x)) (k : GW Δ Γ kc ks (pc + 1) L (.long x :: st) σ) : GW Δ Γ kc ks pc L st σ := fun φ H locs ls hR hst hL hl => lv_lload_n B.1 B.2.1 d hi (enL_at hl j hl0) (k φ H locs ls hR (SC.c (v := .long x) True.intro hst) hL hl)
theorem g_lload (B : Bd Δ Γ own cc nL fr lo Kc Ks) {i : Nat} {x : Int64} (j : Nat) (d : decode cc pc = .ok (.lload i, 2)) (hl0 : L[j]? = some (i, .long x)) (k : GW Δ Γ kc ks (pc + 2) L (.long x :: st) σ) : GW Δ Γ kc ks pc L st σ := fun φ H locs ls hR hst hL hl => lv_lload B.1 B.2.1 d (enL_at hl j hl0) (k φ H locs ls hR (SC.c (v := .long x) True.intro hst) hL hl)
theorem g_lstore_n (B : Bd Δ Γ own cc nL fr lo Kc Ks) {n : Fin 4} {i : Nat} {x : Int64} {L' : List (Nat × Value)} (d : decode cc pc = .ok (.lstore_n n, 1)) (hi : (n : Nat) = i) (hn : i + 1 < nL) (hL' : st2 i (.long x) L = L') (k : GW Δ Γ kc ks (pc + 1) L' st σ) : GW Δ Γ kc ks pc L (.long x :: st) σ := fun φ H locs ls hR hst hL hl => lv_lstore_n B.1 B.2.1 d hi (B.2.2.1 ▸ hl) hn (enL_st2 (v := .long x)) (fun ls2 hl2 => k φ H locs ls2 hR hst.t (hL' ▸ LC_st hL (v := .long x) True.intro) (B.2.2.1.symm ▸ hL' ▸ hl2))
theorem g_lstore (B : Bd Δ Γ own cc nL fr lo Kc Ks) {i : Nat} {x : Int64} {L' : List (Nat × Value)} (d : decode cc pc = .ok (.lstore i, 2)) (hn : i + 1 < nL) (hL' : st2 i (.long x) L = L') (k : GW Δ Γ kc ks (pc + 2) L' st σ) : GW Δ Γ kc ks pc L (.long x :: st) σ := fun φ H locs ls hR hst hL hl => lv_lstore B.1 B.2.1 d (B.2.2.1 ▸ hl) hn (enL_st2 (v := .long x)) (fun ls2 hl2 => k φ H locs ls2 hR hst.t (hL' ▸ LC_st hL (v := .long x) True.intro) (B.2.2.1.symm ▸ hL' ▸ hl2))
theorem g_fload_n (B : Bd Δ Γ own cc nL fr lo Kc Ks) {n : Fin 4} {i : Nat} {x : UInt32} (j : Nat) (d : decode cc pc = .ok (.fload_n n, 1)) (hi : (n : Nat) = i) (hl0 : L[j]? = some (i, .float x)) (k : GW Δ Γ kc ks (pc + 1) L (.float x :: st) σ) : GW Δ Γ kc ks pc L st σ := fun φ H locs ls hR hst hL hl => lv_fload_n B.1 B.2.1 d hi (enL_at hl j hl0) (k φ H locs ls hR (SC.c (v := .float x) True.intro hst) hL hl)
theorem g_fload (B : Bd Δ Γ own cc nL fr lo Kc Ks) {i : Nat} {x : UInt32} (j : Nat) (d : decode cc pc = .ok (.fload i, 2)) (hl0 : L[j]? = some (i, .float x)) (k : GW Δ Γ kc ks (pc + 2) L (.float x :: st) σ) : GW Δ Γ kc ks pc L st σ := fun φ H locs ls hR hst hL hl => lv_fload B.1 B.2.1 d (enL_at hl j hl0) (k φ H locs ls hR (SC.c (v := .float x) True.intro hst) hL hl)
theorem g_fstore_n (B : Bd Δ Γ own cc nL fr lo Kc Ks) {n : Fin 4} {i : Nat} {x : UInt32} {L' : List (Nat × Value)} (d : decode cc pc = .ok (.fstore_n n, 1)) (hi : (n : Nat) = i) (hn : i < nL) (hL' : st1 i (.float x) L = L') (k : GW Δ Γ kc ks (pc + 1) L' st σ) : GW Δ Γ kc ks pc L (.float x :: st) σ := fun φ H locs ls hR hst hL hl => lv_fstore_n B.1 B.2.1 d hi (B.2.2.1 ▸ hl) hn (enL_st1 (v := .float x)) (fun ls2 hl2 => k φ H locs ls2 hR hst.t (hL' ▸ LC_st hL (v := .float x) True.intro) (B.2.2.1.symm ▸ hL' ▸ hl2))
theorem g_fstore (B : Bd Δ Γ own cc nL fr lo Kc Ks) {i : Nat} {x : UInt32} {L' : List (Nat × Value)} (d : decode cc pc = .ok (.fstore i, 2)) (hn : i < nL) (hL' : st1 i (.float x) L = L') (k : GW Δ Γ kc ks (pc + 2) L' st σ) : GW Δ Γ kc ks pc L (.float x :: st) σ := fun φ H locs ls hR hst hL hl => lv_fstore B.1 B.2.1 d (B.2.2.1 ▸ hl) hn (enL_st1 (v := .float x)) (fun ls2 hl2 => k φ H locs ls2 hR hst.t (hL' ▸ LC_st hL (v := .float x) True.intro) (B.2.2.1.symm ▸ hL' ▸ hl2))
theorem g_dload_n (B : Bd Δ Γ own cc nL fr lo Kc Ks) {n : Fin 4} {i : Nat} {x : UInt64} (j : Nat) (d : decode cc pc = .ok (.dload_n n, 1)) (hi : (n : Nat) = i) (hl0 : L[j]? = some (i, .double x)) (k : GW Δ Γ kc ks (pc + 1) L (.double x :: st) σ) : GW Δ Γ kc ks pc L st σ := fun φ H locs ls hR hst hL hl => lv_dload_n B.1 B.2.1 d hi (enL_at hl j hl0) (k φ H locs ls hR (SC.c (v := .double x) True.intro hst) hL hl)
theorem g_dload (B : Bd Δ Γ own cc nL fr lo Kc Ks) {i : Nat} {x : UInt64} (j : Nat) (d : decode cc pc = .ok (.dload i, 2)) (hl0 : L[j]? = some (i, .double x)) (k : GW Δ Γ kc ks (pc + 2) L (.double x :: st) σ) : GW Δ Γ kc ks pc L st σ := fun φ H locs ls hR hst hL hl => lv_dload B.1 B.2.1 d (enL_at hl j hl0) (k φ H locs ls hR (SC.c (v := .double x) True.intro hst) hL hl)
theorem g_dstore_n (B : Bd Δ Γ own cc nL fr lo Kc Ks) {n : Fin 4} {i : Nat} {x : UInt64} {L' : List (Nat × Value)} (d : decode cc pc = .ok (.dstore_n n, 1)) (hi : (n : Nat) = i) (hn : i + 1 < nL) (hL' : st2 i (.double x) L = L') (k : GW Δ Γ kc ks (pc + 1) L' st σ) : GW Δ Γ kc ks pc L (.double x :: st) σ := fun φ H locs ls hR hst hL hl => lv_dstore_n B.1 B.2.1 d hi (B.2.2.1 ▸ hl) hn (enL_st2 (v := .double x)) (fun ls2 hl2 => k φ H locs ls2 hR hst.t (hL' ▸ LC_st hL (v := .double x) True.intro) (B.2.2.1.symm ▸ hL' ▸ hl2))
theorem g_dstore (B : Bd Δ Γ own cc nL fr lo Kc Ks) {i : Nat} {x : UInt64} {L' : List (Nat × Value)} (d : decode cc pc = .ok (.dstore i, 2)) (hn : i + 1 < nL) (hL' : st2 i (.double x) L = L') (k : GW Δ Γ kc ks (pc + 2) L' st σ) : GW Δ Γ kc ks pc L (.double x :: st) σ := fun φ H locs ls hR hst hL hl => lv_dstore B.1 B.2.1 d (B.2.2.1 ▸ hl) hn (enL_st2 (v := .double x)) (fun ls2 hl2 => k φ H locs ls2 hR hst.t (hL' ▸ LC_st hL (v := .double x) True.intro) (B.2.2.1.symm ▸ hL' ▸ hl2))
theorem g_aload_n (B : Bd Δ Γ own cc nL fr lo Kc Ks) {n : Fin 4} {i : Nat} {r : Option Nat} (j : Nat) (d : decode cc pc = .ok (.aload_n n, 1)) (hi : (n : Nat) = i) (hl0 : L[j]? = some (i, va_rf r)) (k : GW Δ Γ kc ks (pc + 1) L (va_rf r :: st) σ) : GW Δ Γ kc ks pc L st σ := fun φ H locs ls hR hst hL hl => by
  have h1 := enL_at hl j hl0
  have h2 := k φ H locs ls hR (SC.c (LC_at hL j hl0) hst) hL hl
  cases r with
  | none => exact lv_aload_nN B.1 B.2.1 d hi h1 h2
  | some a => exact lv_aload_n B.1 B.2.1 d hi h1 h2
theorem g_astore_n (B : Bd Δ Γ own cc nL fr lo Kc Ks) {n : Fin 4} {i : Nat} {r : Option Nat} {L' : List (Nat × Value)} (d : decode cc pc = .ok (.astore_n n, 1)) (hi : (n : Nat) = i) (hn : i < nL) (hL' : st1 i (va_rf r) L = L') (k : GW Δ Γ kc ks (pc + 1) L' st σ) : GW Δ Γ kc ks pc L (va_rf r :: st) σ := fun φ H locs ls hR hst hL hl => by
  have hl0 : lv_has ls nL (enL φ L) := B.2.2.1 ▸ hl
  have h2 : ∀ ls2, lv_has ls2 nL (enL φ (st1 i (va_rf r) L)) → _ := fun ls2 hl2 => k φ H locs ls2 hR hst.t (hL' ▸ LC_st hL hst.h) (B.2.2.1.symm ▸ hL' ▸ hl2)
  rw [← enL_st1] at h2
  cases r with
  | none => exact lv_astore_nN B.1 B.2.1 d hi hl0 hn rfl h2
  | some a => exact lv_astore_n B.1 B.2.1 d hi hl0 hn rfl h2
theorem g_aload (B : Bd Δ Γ own cc nL fr lo Kc Ks) {i : Nat} {r : Option Nat} (j : Nat) (d : decode cc pc = .ok (.aload i, 2)) (hl0 : L[j]? = some (i, va_rf r)) (k : GW Δ Γ kc ks (pc + 2) L (va_rf r :: st) σ) : GW Δ Γ kc ks pc L st σ := fun φ H locs ls hR hst hL hl => by
  have h1 := enL_at hl j hl0
  have h2 := k φ H locs ls hR (SC.c (LC_at hL j hl0) hst) hL hl
  cases r with
  | none => exact lv_aloadN B.1 B.2.1 d h1 h2
  | some a => exact lv_aload B.1 B.2.1 d h1 h2
theorem g_astore (B : Bd Δ Γ own cc nL fr lo Kc Ks) {i : Nat} {r : Option Nat} {L' : List (Nat × Value)} (d : decode cc pc = .ok (.astore i, 2)) (hn : i < nL) (hL' : st1 i (va_rf r) L = L') (k : GW Δ Γ kc ks (pc + 2) L' st σ) : GW Δ Γ kc ks pc L (va_rf r :: st) σ := fun φ H locs ls hR hst hL hl => by
  have hl0 : lv_has ls nL (enL φ L) := B.2.2.1 ▸ hl
  have h2 : ∀ ls2, lv_has ls2 nL (enL φ (st1 i (va_rf r) L)) → _ := fun ls2 hl2 => k φ H locs ls2 hR hst.t (hL' ▸ LC_st hL hst.h) (B.2.2.1.symm ▸ hL' ▸ hl2)
  rw [← enL_st1] at h2
  cases r with
  | none => exact lv_astoreN B.1 B.2.1 d hl0 hn rfl h2
  | some a => exact lv_astore B.1 B.2.1 d hl0 hn rfl h2
theorem g_iinc (B : Bd Δ Γ own cc nL fr lo Kc Ks) {i : Nat} {n : Int} {x v : Int32} {L' : List (Nat × Value)} (j : Nat) (d : decode cc pc = .ok (.iinc i n, 3)) (hl0 : L[j]? = some (i, .int x)) (hv : x + Int32.ofInt n = v) (hn : i < nL) (hL' : st1 i (.int v) L = L') (k : GW Δ Γ kc ks (pc + 3) L' st σ) : GW Δ Γ kc ks pc L st σ := fun φ H locs ls hR hst hL hl => lv_iinc B.1 B.2.1 d (B.2.2.1 ▸ hl) (k := j) (by unfold enL; rw [List.getElem?_map, hl0]; rfl) hv hn (enL_st1 (v := .int v)) (fun ls2 hl2 => k φ H locs ls2 hR hst (hL' ▸ LC_st hL (v := .int v) True.intro) (B.2.2.1.symm ▸ hL' ▸ hl2))
theorem g_if_eq (B : Bd Δ Γ own cc nL fr lo Kc Ks) {x : Int32} {off : Int} (tgt : Nat) (d : decode cc pc = .ok (.ifCond .eq off, 3)) (ht : (pc : Int) + off = (tgt : Int)) (kt : x = 0 → GW Δ Γ kc ks tgt L st σ) (kf : ¬ x = 0 → GW Δ Γ kc ks (pc + 3) L st σ) : GW Δ Γ kc ks pc L (.int x :: st) σ := fun φ H locs ls hR hst hL hl => lv_if_eq B.1 B.2.1 d ht (fun h => kt h φ H locs ls hR hst.t hL hl) (fun h => kf h φ H locs ls hR hst.t hL hl)
theorem g_if_ne (B : Bd Δ Γ own cc nL fr lo Kc Ks) {x : Int32} {off : Int} (tgt : Nat) (d : decode cc pc = .ok (.ifCond .ne off, 3)) (ht : (pc : Int) + off = (tgt : Int)) (kt : ¬ x = 0 → GW Δ Γ kc ks tgt L st σ) (kf : x = 0 → GW Δ Γ kc ks (pc + 3) L st σ) : GW Δ Γ kc ks pc L (.int x :: st) σ := fun φ H locs ls hR hst hL hl => lv_if_ne B.1 B.2.1 d ht (fun h => kt h φ H locs ls hR hst.t hL hl) (fun h => kf h φ H locs ls hR hst.t hL hl)
theorem g_if_lt (B : Bd Δ Γ own cc nL fr lo Kc Ks) {x : Int32} {off : Int} (tgt : Nat) (d : decode cc pc = .ok (.ifCond .lt off, 3)) (ht : (pc : Int) + off = (tgt : Int)) (kt : x < 0 → GW Δ Γ kc ks tgt L st σ) (kf : ¬ x < 0 → GW Δ Γ kc ks (pc + 3) L st σ) : GW Δ Γ kc ks pc L (.int x :: st) σ := fun φ H locs ls hR hst hL hl => lv_if_lt B.1 B.2.1 d ht (fun h => kt h φ H locs ls hR hst.t hL hl) (fun h => kf h φ H locs ls hR hst.t hL hl)
theorem g_if_ge (B : Bd Δ Γ own cc nL fr lo Kc Ks) {x : Int32} {off : Int} (tgt : Nat) (d : decode cc pc = .ok (.ifCond .ge off, 3)) (ht : (pc : Int) + off = (tgt : Int)) (kt : 0 ≤ x → GW Δ Γ kc ks tgt L st σ) (kf : ¬ 0 ≤ x → GW Δ Γ kc ks (pc + 3) L st σ) : GW Δ Γ kc ks pc L (.int x :: st) σ := fun φ H locs ls hR hst hL hl => lv_if_ge B.1 B.2.1 d ht (fun h => kt h φ H locs ls hR hst.t hL hl) (fun h => kf h φ H locs ls hR hst.t hL hl)
theorem g_if_gt (B : Bd Δ Γ own cc nL fr lo Kc Ks) {x : Int32} {off : Int} (tgt : Nat) (d : decode cc pc = .ok (.ifCond .gt off, 3)) (ht : (pc : Int) + off = (tgt : Int)) (kt : 0 < x → GW Δ Γ kc ks tgt L st σ) (kf : ¬ 0 < x → GW Δ Γ kc ks (pc + 3) L st σ) : GW Δ Γ kc ks pc L (.int x :: st) σ := fun φ H locs ls hR hst hL hl => lv_if_gt B.1 B.2.1 d ht (fun h => kt h φ H locs ls hR hst.t hL hl) (fun h => kf h φ H locs ls hR hst.t hL hl)
theorem g_if_le (B : Bd Δ Γ own cc nL fr lo Kc Ks) {x : Int32} {off : Int} (tgt : Nat) (d : decode cc pc = .ok (.ifCond .le off, 3)) (ht : (pc : Int) + off = (tgt : Int)) (kt : x ≤ 0 → GW Δ Γ kc ks tgt L st σ) (kf : ¬ x ≤ 0 → GW Δ Γ kc ks (pc + 3) L st σ) : GW Δ Γ kc ks pc L (.int x :: st) σ := fun φ H locs ls hR hst hL hl => lv_if_le B.1 B.2.1 d ht (fun h => kt h φ H locs ls hR hst.t hL hl) (fun h => kf h φ H locs ls hR hst.t hL hl)
theorem g_icmp_eq (B : Bd Δ Γ own cc nL fr lo Kc Ks) {x y : Int32} {off : Int} (tgt : Nat) (d : decode cc pc = .ok (.if_icmp .eq off, 3)) (ht : (pc : Int) + off = (tgt : Int)) (kt : x = y → GW Δ Γ kc ks tgt L st σ) (kf : ¬ x = y → GW Δ Γ kc ks (pc + 3) L st σ) : GW Δ Γ kc ks pc L (.int y :: .int x :: st) σ := fun φ H locs ls hR hst hL hl => lv_icmp_eq B.1 B.2.1 d ht (fun h => kt h φ H locs ls hR hst.t.t hL hl) (fun h => kf h φ H locs ls hR hst.t.t hL hl)
theorem g_icmp_ne (B : Bd Δ Γ own cc nL fr lo Kc Ks) {x y : Int32} {off : Int} (tgt : Nat) (d : decode cc pc = .ok (.if_icmp .ne off, 3)) (ht : (pc : Int) + off = (tgt : Int)) (kt : ¬ x = y → GW Δ Γ kc ks tgt L st σ) (kf : x = y → GW Δ Γ kc ks (pc + 3) L st σ) : GW Δ Γ kc ks pc L (.int y :: .int x :: st) σ := fun φ H locs ls hR hst hL hl => lv_icmp_ne B.1 B.2.1 d ht (fun h => kt h φ H locs ls hR hst.t.t hL hl) (fun h => kf h φ H locs ls hR hst.t.t hL hl)
theorem g_icmp_lt (B : Bd Δ Γ own cc nL fr lo Kc Ks) {x y : Int32} {off : Int} (tgt : Nat) (d : decode cc pc = .ok (.if_icmp .lt off, 3)) (ht : (pc : Int) + off = (tgt : Int)) (kt : x < y → GW Δ Γ kc ks tgt L st σ) (kf : ¬ x < y → GW Δ Γ kc ks (pc + 3) L st σ) : GW Δ Γ kc ks pc L (.int y :: .int x :: st) σ := fun φ H locs ls hR hst hL hl => lv_icmp_lt B.1 B.2.1 d ht (fun h => kt h φ H locs ls hR hst.t.t hL hl) (fun h => kf h φ H locs ls hR hst.t.t hL hl)
theorem g_icmp_ge (B : Bd Δ Γ own cc nL fr lo Kc Ks) {x y : Int32} {off : Int} (tgt : Nat) (d : decode cc pc = .ok (.if_icmp .ge off, 3)) (ht : (pc : Int) + off = (tgt : Int)) (kt : y ≤ x → GW Δ Γ kc ks tgt L st σ) (kf : ¬ y ≤ x → GW Δ Γ kc ks (pc + 3) L st σ) : GW Δ Γ kc ks pc L (.int y :: .int x :: st) σ := fun φ H locs ls hR hst hL hl => lv_icmp_ge B.1 B.2.1 d ht (fun h => kt h φ H locs ls hR hst.t.t hL hl) (fun h => kf h φ H locs ls hR hst.t.t hL hl)
theorem g_icmp_gt (B : Bd Δ Γ own cc nL fr lo Kc Ks) {x y : Int32} {off : Int} (tgt : Nat) (d : decode cc pc = .ok (.if_icmp .gt off, 3)) (ht : (pc : Int) + off = (tgt : Int)) (kt : y < x → GW Δ Γ kc ks tgt L st σ) (kf : ¬ y < x → GW Δ Γ kc ks (pc + 3) L st σ) : GW Δ Γ kc ks pc L (.int y :: .int x :: st) σ := fun φ H locs ls hR hst hL hl => lv_icmp_gt B.1 B.2.1 d ht (fun h => kt h φ H locs ls hR hst.t.t hL hl) (fun h => kf h φ H locs ls hR hst.t.t hL hl)
theorem g_icmp_le (B : Bd Δ Γ own cc nL fr lo Kc Ks) {x y : Int32} {off : Int} (tgt : Nat) (d : decode cc pc = .ok (.if_icmp .le off, 3)) (ht : (pc : Int) + off = (tgt : Int)) (kt : x ≤ y → GW Δ Γ kc ks tgt L st σ) (kf : ¬ x ≤ y → GW Δ Γ kc ks (pc + 3) L st σ) : GW Δ Γ kc ks pc L (.int y :: .int x :: st) σ := fun φ H locs ls hR hst hL hl => lv_icmp_le B.1 B.2.1 d ht (fun h => kt h φ H locs ls hR hst.t.t hL hl) (fun h => kf h φ H locs ls hR hst.t.t hL hl)
theorem g_goto (B : Bd Δ Γ own cc nL fr lo Kc Ks) {off : Int} (tgt : Nat) (d : decode cc pc = .ok (.goto off, 3)) (ht : (pc : Int) + off = (tgt : Int)) (k : GW Δ Γ kc ks tgt L st σ) : GW Δ Γ kc ks pc L st σ := fun φ H locs ls hR hst hL hl => lv_goto B.1 B.2.1 d ht (k φ H locs ls hR hst hL hl)
theorem g_ifnull (B : Bd Δ Γ own cc nL fr lo Kc Ks) {r : Option Nat} {off : Int} (tgt : Nat) (d : decode cc pc = .ok (.ifnull off, 3)) (ht : (pc : Int) + off = (tgt : Int)) (kt : r = none → GW Δ Γ kc ks tgt L st σ) (kf : ¬ r = none → GW Δ Γ kc ks (pc + 3) L st σ) : GW Δ Γ kc ks pc L (va_rf r :: st) σ := fun φ H locs ls hR hst hL hl => by
  cases r with
  | none => exact lv_ifnullN B.1 B.2.1 d ht (kt rfl φ H locs ls hR hst.t hL hl)
  | some a => exact lv_ifnull B.1 B.2.1 d (kf (by simp) φ H locs ls hR hst.t hL hl)
theorem g_ifnonnull (B : Bd Δ Γ own cc nL fr lo Kc Ks) {r : Option Nat} {off : Int} (tgt : Nat) (d : decode cc pc = .ok (.ifnonnull off, 3)) (ht : (pc : Int) + off = (tgt : Int)) (kt : ¬ r = none → GW Δ Γ kc ks tgt L st σ) (kf : r = none → GW Δ Γ kc ks (pc + 3) L st σ) : GW Δ Γ kc ks pc L (va_rf r :: st) σ := fun φ H locs ls hR hst hL hl => by
  cases r with
  | none => exact lv_ifnonnullN B.1 B.2.1 d (kf rfl φ H locs ls hR hst.t hL hl)
  | some a => exact lv_ifnonnull B.1 B.2.1 d ht (kt (by simp) φ H locs ls hR hst.t hL hl)
theorem g_tableIn (B : Bd Δ Γ own cc nL fr lo Kc Ks) {dflt lo0 hi : Int} {offs : Array Int} {len : Nat} {x : Int32} {off : Int} (tgt : Nat) (d : decode cc pc = .ok (.tableswitch dflt lo0 hi offs, len)) (h1 : ¬ x.toInt < lo0) (h2 : ¬ hi < x.toInt) (ho : offs[(x.toInt - lo0).toNat]? = some off) (ht : (pc : Int) + off = (tgt : Int)) (k : GW Δ Γ kc ks tgt L st σ) : GW Δ Γ kc ks pc L (.int x :: st) σ := fun φ H locs ls hR hst hL hl => lv_tableIn B.1 B.2.1 d h1 h2 ho ht (k φ H locs ls hR hst.t hL hl)
theorem g_tableOut (B : Bd Δ Γ own cc nL fr lo Kc Ks) {dflt lo0 hi : Int} {offs : Array Int} {len : Nat} {x : Int32} (tgt : Nat) (d : decode cc pc = .ok (.tableswitch dflt lo0 hi offs, len)) (h : x.toInt < lo0 ∨ hi < x.toInt) (ht : (pc : Int) + dflt = (tgt : Int)) (k : GW Δ Γ kc ks tgt L st σ) : GW Δ Γ kc ks pc L (.int x :: st) σ := fun φ H locs ls hR hst hL hl => lv_tableOut B.1 B.2.1 d h ht (k φ H locs ls hR hst.t hL hl)
theorem g_lookup (B : Bd Δ Γ own cc nL fr lo Kc Ks) {dflt : Int} {ps : Array (Int × Int)} {len : Nat} {x : Int32} {off : Int} (tgt : Nat) (d : decode cc pc = .ok (.lookupswitch dflt ps, len)) (hp : (ps.toList.zip (ps.toList.drop 1)).all (fun (a, next) => a.1 < next.1) = true) (ho : Op.lookupswitch.offset ps.toList dflt x.toInt = off) (ht : (pc : Int) + off = (tgt : Int)) (k : GW Δ Γ kc ks tgt L st σ) : GW Δ Γ kc ks pc L (.int x :: st) σ := fun φ H locs ls hR hst hL hl => lv_lookup B.1 B.2.1 d hp ho ht (k φ H locs ls hR hst.t hL hl)
theorem g_ldc (B : Bd Δ Γ own cc nL fr lo Kc Ks) {index : Nat} {v : Int32} (hc : Jvm.Cond.constant own index v ∈ ALLw) (d : decode cc pc = .ok (.ldc index, 2)) (k : GW Δ Γ kc ks (pc + 2) L (.int v :: st) σ) : GW Δ Γ kc ks pc L st σ := fun φ H locs ls hR hst hL hl => lv_ldc B.1 B.2.1 B.2.2.2.1 (B.2.2.2.2.1 _ hc) d (k φ H locs ls hR (SC.c (v := .int v) True.intro hst) hL hl)
theorem g_ldcw (B : Bd Δ Γ own cc nL fr lo Kc Ks) {index : Nat} {v : Int32} (hc : Jvm.Cond.constant own index v ∈ ALLw) (d : decode cc pc = .ok (.ldc_w index, 3)) (k : GW Δ Γ kc ks (pc + 3) L (.int v :: st) σ) : GW Δ Γ kc ks pc L st σ := fun φ H locs ls hR hst hL hl => lv_ldcw B.1 B.2.1 B.2.2.2.1 (B.2.2.2.2.1 _ hc) d (k φ H locs ls hR (SC.c (v := .int v) True.intro hst) hL hl)
end GR
end
section
/-! MEMORY: fields and arrays -/
def gI (σ : HpT) (r : Option Nat) (κ k : Nat) : Option Int32 := match r with
  | none => none
  | some a => if hK σ a = κ then some (hI σ a k) else none
def gJ (σ : HpT) (r : Option Nat) (κ k : Nat) : Option Int64 := match r with
  | none => none
  | some a => if hK σ a = κ then some (hJ σ a k) else none
def gR (σ : HpT) (r : Option Nat) (κ k : Nat) : Option (Option Nat) := match r with
  | none => none
  | some a => if hK σ a = κ then some (hR σ a k) else none
def inb (i : Int32) (n : Nat) : Prop := 0 ≤ i.toInt ∧ i.toInt < n
def inbB (i : Int32) (n : Nat) : Bool := decide (0 ≤ i.toInt) && decide (i.toInt < n)
theorem inbB_in {i : Int32} {n : Nat} (h : inbB i n = true) : vp_in i n := by
  simp only [inbB, Bool.and_eq_true, decide_eq_true_eq] at h
  exact vp_in_iff.mpr h
def aI (σ : HpT) (r : Option Nat) (κ : Nat) (i : Int32) : Option Int32 := match r with
  | none => none
  | some a => if hK σ a = κ ∧ inbB i (hZ σ a) = true then some (hI σ a i.toNatClampNeg) else none
def aJ (σ : HpT) (r : Option Nat) (i : Int32) : Option Int64 := match r with
  | none => none
  | some a => if hK σ a = 21 ∧ inbB i (hZ σ a) = true then some (hJ σ a i.toNatClampNeg) else none
def aD (σ : HpT) (r : Option Nat) (i : Int32) : Option UInt64 := match r with
  | none => none
  | some a => if hK σ a = 24 ∧ inbB i (hZ σ a) = true then some (hD σ a i.toNatClampNeg) else none
def aR (σ : HpT) (r : Option Nat) (κ : Nat) (i : Int32) : Option (Option Nat) := match r with
  | none => none
  | some a => if hK σ a = κ ∧ inbB i (hZ σ a) = true then some (hR σ a i.toNatClampNeg) else none
def aL (σ : HpT) (r : Option Nat) (κ : Nat) : Option Int32 := match r with
  | none => none
  | some a => if hK σ a = κ then some (Int32.ofNat (hZ σ a)) else none
/-- a store into a constant is none -/
def pI (σ : HpT) (r : Option Nat) (κ k : Nat) (x : Int32) : Option HpT := match r with
  | none => none
  | some a => if hK σ a = κ ∧ a < hN σ then some (wI σ a k x) else none
def pZ (σ : HpT) (r : Option Nat) (κ k : Nat) (x : Int32) : Option HpT := if x = 0 ∨ x = 1 then pI σ r κ k x else none
def pB (σ : HpT) (r : Option Nat) (κ k : Nat) (x : Int32) : Option HpT := if x.toInt8.toInt32 = x then pI σ r κ k x else none
def pJ (σ : HpT) (r : Option Nat) (κ k : Nat) (x : Int64) : Option HpT := match r with
  | none => none
  | some a => if hK σ a = κ ∧ a < hN σ then some (wJ σ a k x) else none
def pR (σ : HpT) (r : Option Nat) (κ k : Nat) (x : Option Nat) : Option HpT := match r with
  | none => none
  | some a => if hK σ a = κ ∧ a < hN σ then some (wR σ a k x) else none
def sI (σ : HpT) (r : Option Nat) (i x : Int32) : Option HpT := match r with
  | none => none
  | some a => if (hK σ a = 20 ∧ inbB i (hZ σ a) = true) ∧ a < hN σ then some (wI σ a i.toNatClampNeg x) else none
def sB (σ : HpT) (r : Option Nat) (i x : Int32) : Option HpT := match r with
  | none => none
  | some a => if (hK σ a = 22 ∧ inbB i (hZ σ a) = true) ∧ a < hN σ then some (wI σ a i.toNatClampNeg x.toInt8.toInt32) else none
def sZ (σ : HpT) (r : Option Nat) (i x : Int32) : Option HpT := match r with
  | none => none
  | some a => if (hK σ a = 23 ∧ inbB i (hZ σ a) = true) ∧ a < hN σ then some (wI σ a i.toNatClampNeg (vp_nar .boolean x)) else none
def sJ (σ : HpT) (r : Option Nat) (i : Int32) (x : Int64) : Option HpT := match r with
  | none => none
  | some a => if (hK σ a = 21 ∧ inbB i (hZ σ a) = true) ∧ a < hN σ then some (wJ σ a i.toNatClampNeg x) else none
def sD (σ : HpT) (r : Option Nat) (i : Int32) (x : UInt64) : Option HpT := match r with
  | none => none
  | some a => if (hK σ a = 24 ∧ inbB i (hZ σ a) = true) ∧ a < hN σ then some (wD σ a i.toNatClampNeg x) else none
/-- a row of objects of kind κ2 -/
def sR (σ : HpT) (r : Option Nat) (κ κ2 : Nat) (i : Int32) (x : Option Nat) : Option HpT := match r, x with
  | some a, some b => if ((hK σ a = κ ∧ inbB i (hZ σ a) = true) ∧ a < hN σ) ∧ hK σ b = κ2 ∧ b < hN σ then some (wR σ a i.toNatClampNeg (some b)) else none
  | _, _ => none
theorem gI_s {σ : HpT} {r : Option Nat} {κ k : Nat} {v : Int32} (h : gI σ r κ k = some v) : ∃ a, r = some a ∧ hK σ a = κ ∧ hI σ a k = v := by
  cases r with
  | none => cases h
  | some a =>
    unfold gI at h
    dsimp only at h
    split at h
    · rename_i h1
      exact ⟨a, rfl, h1, Option.some.inj h⟩
    · cases h
theorem gJ_s {σ : HpT} {r : Option Nat} {κ k : Nat} {v : Int64} (h : gJ σ r κ k = some v) : ∃ a, r = some a ∧ hK σ a = κ ∧ hJ σ a k = v := by
  cases r with
  | none => cases h
  | some a =>
    unfold gJ at h
    dsimp only at h
    split at h
    · rename_i h1
      exact ⟨a, rfl, h1, Option.some.inj h⟩
    · cases h
theorem gR_s {σ : HpT} {r : Option Nat} {κ k : Nat} {v : Option Nat} (h : gR σ r κ k = some v) : ∃ a, r = some a ∧ hK σ a = κ ∧ hR σ a k = v := by
  cases r with
  | none => cases h
  | some a =>
    unfold gR at h
    dsimp only at h
    split at h
    · rename_i h1
      exact ⟨a, rfl, h1, Option.some.inj h⟩
    · cases h
theorem aI_s {σ : HpT} {r : Option Nat} {κ : Nat} {i v : Int32} (h : aI σ r κ i = some v) : ∃ a, r = some a ∧ hK σ a = κ ∧ vp_in i (hZ σ a) ∧ hI σ a i.toNatClampNeg = v := by
  cases r with
  | none => cases h
  | some a =>
    unfold aI at h
    dsimp only at h
    split at h
    · rename_i h1
      exact ⟨a, rfl, h1.1, inbB_in h1.2, Option.some.inj h⟩
    · cases h
theorem aJ_s {σ : HpT} {r : Option Nat} {i : Int32} {v : Int64} (h : aJ σ r i = some v) : ∃ a, r = some a ∧ hK σ a = 21 ∧ vp_in i (hZ σ a) ∧ hJ σ a i.toNatClampNeg = v := by
  cases r with
  | none => cases h
  | some a =>
    unfold aJ at h
    dsimp only at h
    split at h
    · rename_i h1
      exact ⟨a, rfl, h1.1, inbB_in h1.2, Option.some.inj h⟩
    · cases h
theorem aD_s {σ : HpT} {r : Option Nat} {i : Int32} {v : UInt64} (h : aD σ r i = some v) : ∃ a, r = some a ∧ hK σ a = 24 ∧ vp_in i (hZ σ a) ∧ hD σ a i.toNatClampNeg = v := by
  cases r with
  | none => cases h
  | some a =>
    unfold aD at h
    dsimp only at h
    split at h
    · rename_i h1
      exact ⟨a, rfl, h1.1, inbB_in h1.2, Option.some.inj h⟩
    · cases h
theorem aR_s {σ : HpT} {r : Option Nat} {κ : Nat} {i : Int32} {v : Option Nat} (h : aR σ r κ i = some v) : ∃ a, r = some a ∧ hK σ a = κ ∧ vp_in i (hZ σ a) ∧ hR σ a i.toNatClampNeg = v := by
  cases r with
  | none => cases h
  | some a =>
    unfold aR at h
    dsimp only at h
    split at h
    · rename_i h1
      exact ⟨a, rfl, h1.1, inbB_in h1.2, Option.some.inj h⟩
    · cases h
theorem aL_s {σ : HpT} {r : Option Nat} {κ : Nat} {v : Int32} (h : aL σ r κ = some v) : ∃ a, r = some a ∧ hK σ a = κ ∧ Int32.ofNat (hZ σ a) = v := by
  cases r with
  | none => cases h
  | some a =>
    unfold aL at h
    dsimp only at h
    split at h
    · rename_i h1
      exact ⟨a, rfl, h1, Option.some.inj h⟩
    · cases h
theorem pI_s {σ σ' : HpT} {r : Option Nat} {κ k : Nat} {x : Int32} (h : pI σ r κ k x = some σ') : ∃ a, r = some a ∧ hK σ a = κ ∧ a < hN σ ∧ wI σ a k x = σ' := by
  cases r with
  | none => cases h
  | some a =>
    unfold pI at h
    dsimp only at h
    split at h
    · rename_i h1
      exact ⟨a, rfl, h1.1, h1.2, Option.some.inj h⟩
    · cases h
theorem pZ_s {σ σ' : HpT} {r : Option Nat} {κ k : Nat} {x : Int32} (h : pZ σ r κ k x = some σ') : (x = 0 ∨ x = 1) ∧ pI σ r κ k x = some σ' := by
  unfold pZ at h
  split at h
  · rename_i h1
    exact ⟨h1, h⟩
  · cases h
theorem pB_s {σ σ' : HpT} {r : Option Nat} {κ k : Nat} {x : Int32} (h : pB σ r κ k x = some σ') : x.toInt8.toInt32 = x ∧ pI σ r κ k x = some σ' := by
  unfold pB at h
  split at h
  · rename_i h1
    exact ⟨h1, h⟩
  · cases h
theorem pJ_s {σ σ' : HpT} {r : Option Nat} {κ k : Nat} {x : Int64} (h : pJ σ r κ k x = some σ') : ∃ a, r = some a ∧ hK σ a = κ ∧ a < hN σ ∧ wJ σ a k x = σ' := by
  cases r with
  | none => cases h
  | some a =>
    unfold pJ at h
    dsimp only at h
    split at h
    · rename_i h1
      exact ⟨a, rfl, h1.1, h1.2, Option.some.inj h⟩
    · cases h
theorem pR_s {σ σ' : HpT} {r : Option Nat} {κ k : Nat} {x : Option Nat} (h : pR σ r κ k x = some σ') : ∃ a, r = some a ∧ hK σ a = κ ∧ a < hN σ ∧ wR σ a k x = σ' := by
  cases r with
  | none => cases h
  | some a =>
    unfold pR at h
    dsimp only at h
    split at h
    · rename_i h1
      exact ⟨a, rfl, h1.1, h1.2, Option.some.inj h⟩
    · cases h
theorem sI_s {σ σ' : HpT} {r : Option Nat} {i x : Int32} (h : sI σ r i x = some σ') : ∃ a, r = some a ∧ hK σ a = 20 ∧ vp_in i (hZ σ a) ∧ a < hN σ ∧ wI σ a i.toNatClampNeg x = σ' := by
  cases r with
  | none => cases h
  | some a =>
    unfold sI at h
    dsimp only at h
    split at h
    · rename_i h1
      exact ⟨a, rfl, h1.1.1, inbB_in h1.1.2, h1.2, Option.some.inj h⟩
    · cases h
theorem sB_s {σ σ' : HpT} {r : Option Nat} {i x : Int32} (h : sB σ r i x = some σ') : ∃ a, r = some a ∧ hK σ a = 22 ∧ vp_in i (hZ σ a) ∧ a < hN σ ∧ wI σ a i.toNatClampNeg x.toInt8.toInt32 = σ' := by
  cases r with
  | none => cases h
  | some a =>
    unfold sB at h
    dsimp only at h
    split at h
    · rename_i h1
      exact ⟨a, rfl, h1.1.1, inbB_in h1.1.2, h1.2, Option.some.inj h⟩
    · cases h
theorem sZ_s {σ σ' : HpT} {r : Option Nat} {i x : Int32} (h : sZ σ r i x = some σ') : ∃ a, r = some a ∧ hK σ a = 23 ∧ vp_in i (hZ σ a) ∧ a < hN σ ∧ wI σ a i.toNatClampNeg (vp_nar .boolean x) = σ' := by
  cases r with
  | none => cases h
  | some a =>
    unfold sZ at h
    dsimp only at h
    split at h
    · rename_i h1
      exact ⟨a, rfl, h1.1.1, inbB_in h1.1.2, h1.2, Option.some.inj h⟩
    · cases h
theorem sJ_s {σ σ' : HpT} {r : Option Nat} {i : Int32} {x : Int64} (h : sJ σ r i x = some σ') : ∃ a, r = some a ∧ hK σ a = 21 ∧ vp_in i (hZ σ a) ∧ a < hN σ ∧ wJ σ a i.toNatClampNeg x = σ' := by
  cases r with
  | none => cases h
  | some a =>
    unfold sJ at h
    dsimp only at h
    split at h
    · rename_i h1
      exact ⟨a, rfl, h1.1.1, inbB_in h1.1.2, h1.2, Option.some.inj h⟩
    · cases h
theorem sD_s {σ σ' : HpT} {r : Option Nat} {i : Int32} {x : UInt64} (h : sD σ r i x = some σ') : ∃ a, r = some a ∧ hK σ a = 24 ∧ vp_in i (hZ σ a) ∧ a < hN σ ∧ wD σ a i.toNatClampNeg x = σ' := by
  cases r with
  | none => cases h
  | some a =>
    unfold sD at h
    dsimp only at h
    split at h
    · rename_i h1
      exact ⟨a, rfl, h1.1.1, inbB_in h1.1.2, h1.2, Option.some.inj h⟩
    · cases h
theorem sR_s {σ σ' : HpT} {r x : Option Nat} {κ κ2 : Nat} {i : Int32} (h : sR σ r κ κ2 i x = some σ') : ∃ a b, r = some a ∧ x = some b ∧ hK σ a = κ ∧ vp_in i (hZ σ a) ∧ a < hN σ ∧ hK σ b = κ2 ∧ b < hN σ ∧ wR σ a i.toNatClampNeg (some b) = σ' := by
  cases r with
  | none => cases h
  | some a =>
    cases x with
    | none => cases h
    | some b =>
      unfold sR at h
      dsimp only at h
      split at h
      · rename_i h1
        exact ⟨a, b, rfl, rfl, h1.1.1.1, inbB_in h1.1.1.2, h1.1.2, h1.2.1, h1.2.2, Option.some.inj h⟩
      · cases h
/-- a field, by the class's own words and the link -/
def Fl (own : String) (idx κ k : Nat) (ty : FieldType) (fin : Bool) : Prop :=
  ∃ (C : String) (T : u_T) (N : Nat) (ty0 : Nat → FieldType), gcl[κ]? = some (C, T, N) ∧ k < N ∧ N = nF κ ∧ (∀ w ∈ u_ws C T N, w ∈ ALLw) ∧ Cond.fieldLink own idx (T k).1 (T k).2.1 (T k).2.2.1 ∈ ALLw ∧
    (∀ j, j < N → parseFieldDescriptor (T j).2.2.1 = some (ty0 j)) ∧ (∀ a, a < N → ∀ b, b < N → a ≠ b → (T a).2.1 ≠ (T b).2.1) ∧ parseFieldDescriptor (T k).2.2.1 = some ty ∧ (T k).2.2.2 = fin ∧ κ < 20 ∧ (fin = true → (T k).1 = own)
theorem Rp_set {Δ : AmbT} {s : State} {φ : Nat → Nat} {σ σ' : HpT} {H H1 : Heap} {locs locs1 : List Loc} {i : Nat} {e : va_E} (hR : Rp Δ s φ σ H locs) (hn : hN σ' = hN σ) (ho : ∀ j, j < hN σ → j ≠ i → ent Δ.2.1 φ σ' j = ent Δ.2.1 φ σ j) (hi : ent Δ.2.1 φ σ' i = e) (hw : WFh σ')
    (hP : va_P Δ.1 gcl ((wsOf Δ.2.1 φ σ).set i (φ i, e)) H1) (hD : va_D (AA Δ) ((wsOf Δ.2.1 φ σ).set i (φ i, e))) (hS : va_S (AA Δ) s.heap H1 locs1) : Rp Δ s φ σ' H1 locs1 := by
  obtain ⟨-, -, -, h4, -, h6, h7⟩ := hR
  rw [ws_set hn ho (fun _ => hi)] at hP hD
  exact ⟨hP, hD, hS, h4, hw, h6, by rw [hn]; exact h7⟩
section W1
variable {aC : Nat → ClassId} {φ : Nat → Nat} {σ : HpT} {a k : Nat}
theorem CL_n {σ σ' : HpT} {st : List Value} (h : hN σ' = hN σ) (k : SC σ st) : SC σ' st := fun v hv => (k v hv).mono (by rw [h]; exact Nat.le_refl _)
theorem LC_n {σ σ' : HpT} {L : List (Nat × Value)} (h : hN σ' = hN σ) (k : ∀ q ∈ L, CL σ q.2) : ∀ q ∈ L, CL σ' q.2 := fun v hv => (k v hv).mono (by rw [h]; exact Nat.le_refl _)
theorem ent_wI (x : Int32) (ha : a < hN σ) (j : Nat) (hj : j ≠ a) : ent aC φ (wI σ a k x) j = ent aC φ σ j := ent_same rfl rfl (fun i => by rw [hI_wI _ _ _ _ _ _ ha, if_neg (fun h => hj h.1)]) (fun _ => rfl) (fun _ => rfl) (fun _ => rfl)
theorem ent_wJ (x : Int64) (ha : a < hN σ) (j : Nat) (hj : j ≠ a) : ent aC φ (wJ σ a k x) j = ent aC φ σ j := ent_same rfl rfl (fun _ => rfl) (fun i => by rw [hJ_wJ _ _ _ _ _ _ ha, if_neg (fun h => hj h.1)]) (fun _ => rfl) (fun _ => rfl)
theorem ent_wR (x : Option Nat) (ha : a < hN σ) (j : Nat) (hj : j ≠ a) : ent aC φ (wR σ a k x) j = ent aC φ σ j := ent_same rfl rfl (fun _ => rfl) (fun _ => rfl) (fun i => by rw [hR_wR _ _ _ _ _ _ ha, if_neg (fun h => hj h.1)]) (fun _ => rfl)
theorem ent_wD (x : UInt64) (ha : a < hN σ) (j : Nat) (hj : j ≠ a) : ent aC φ (wD σ a k x) j = ent aC φ σ j := ent_same rfl rfl (fun _ => rfl) (fun _ => rfl) (fun _ => rfl) (fun i => by rw [hD_wD _ _ _ _ _ _ ha, if_neg (fun h => hj h.1)])
theorem fl_wI {κ : Nat} (x : Int32) (ha : a < hN σ) (ht : fT κ k = 0) : flds φ (wI σ a k x) a κ = (flds φ σ a κ).set k (.int x) := by
  unfold flds
  rw [rg_set]
  apply List.map_congr_left
  intro j _
  by_cases h : j = k
  · subst h
    rw [if_pos rfl]
    unfold fv
    rw [if_pos ht, hI_wI _ _ _ _ _ _ ha, if_pos ⟨rfl, rfl⟩]
  · rw [if_neg h]
    unfold fv
    rw [show hI (wI σ a k x) a j = hI σ a j from by rw [hI_wI _ _ _ _ _ _ ha, if_neg (fun q => h q.2)]]
    rfl
theorem fl_wJ {κ : Nat} (x : Int64) (ha : a < hN σ) (ht : fT κ k = 1) : flds φ (wJ σ a k x) a κ = (flds φ σ a κ).set k (.long x) := by
  unfold flds
  rw [rg_set]
  apply List.map_congr_left
  intro j _
  by_cases h : j = k
  · subst h
    rw [if_pos rfl]
    unfold fv
    rw [if_neg (by rw [ht]; decide), if_pos ht, hJ_wJ _ _ _ _ _ _ ha, if_pos ⟨rfl, rfl⟩]
  · rw [if_neg h]
    unfold fv
    rw [show hJ (wJ σ a k x) a j = hJ σ a j from by rw [hJ_wJ _ _ _ _ _ _ ha, if_neg (fun q => h q.2)]]
    rfl
theorem fl_wR {κ : Nat} (x : Option Nat) (ha : a < hN σ) (ht : fT κ k = 2) : flds φ (wR σ a k x) a κ = (flds φ σ a κ).set k (va_rf (x.map φ)) := by
  unfold flds
  rw [rg_set]
  apply List.map_congr_left
  intro j _
  by_cases h : j = k
  · subst h
    rw [if_pos rfl]
    unfold fv
    rw [if_neg (by rw [ht]; decide), if_neg (by rw [ht]; decide), hR_wR _ _ _ _ _ _ ha, if_pos ⟨rfl, rfl⟩]
  · rw [if_neg h]
    unfold fv
    rw [show hR (wR σ a k x) a j = hR σ a j from by rw [hR_wR _ _ _ _ _ _ ha, if_neg (fun q => h q.2)]]
    rfl
theorem WF_wI (hw : WFh σ) (x : Int32) (ha : a < hN σ) (hx : hK σ a = 22 → x.toInt8.toInt32 = x) : WFh (wI σ a k x) := by
  refine ⟨hw.1, fun i k j hi h => hw.2.1 i k j hi h, fun i j h => ?_⟩
  rw [hI_wI _ _ _ _ _ _ ha]
  split
  · rename_i h1
    rw [h1.1] at h
    exact hx h
  · exact hw.2.2 i j h
theorem WF_wJ (hw : WFh σ) (x : Int64) : WFh (wJ σ a k x) := ⟨hw.1, fun i k j hi h => hw.2.1 i k j hi h, fun i j h => hw.2.2 i j h⟩
theorem WF_wD (hw : WFh σ) (x : UInt64) : WFh (wD σ a k x) := ⟨hw.1, fun i k j hi h => hw.2.1 i k j hi h, fun i j h => hw.2.2 i j h⟩
theorem WF_wR (hw : WFh σ) (x : Option Nat) (ha : a < hN σ) (hx : ∀ j, x = some j → CLn σ j) : WFh (wR σ a k x) := by
  refine ⟨hw.1, fun i k2 j hi h => ?_, fun i j h => hw.2.2 i j h⟩
  rw [hR_wR _ _ _ _ _ _ ha] at h
  split at h
  · exact hx j h
  · exact hw.2.1 i k2 j hi h
theorem CL_rf {σ : HpT} {x : Option Nat} (h : CL σ (va_rf x)) : ∀ j, x = some j → CLn σ j := fun j e => by subst e; exact h
end W1
theorem nar_byte {x : Int32} (h : x.toInt8.toInt32 = x) : narrow .byte (.int x) = .int x := by
  show Value.int x.toInt8.toInt32 = _
  rw [h]
theorem fit_byte {x : Int32} (h : x.toInt8.toInt32 = x) : fits .byte (.int x) = true := by rw [← h]; exact pk_fb x
theorem byte2 (x : Int32) : x.toInt8.toInt32.toInt8.toInt32 = x.toInt8.toInt32 := by
  have h := vp_nar_byte x.toInt8.toInt32
  rw [pk_vb] at h
  exact h.symm
theorem nar_ref {ty : FieldType} (h : (∃ n, ty = .object n) ∨ ∃ t, ty = .array t) (x : Option Nat) : narrow ty (va_rf x) = va_rf x := by
  rcases h with ⟨n, rfl⟩ | ⟨t, rfl⟩ <;> cases x <;> rfl
theorem fit_ref {ty : FieldType} (h : (∃ n, ty = .object n) ∨ ∃ t, ty = .array t) (x : Option Nat) : fits ty (va_rf x) = true := by
  rcases h with ⟨n, rfl⟩ | ⟨t, rfl⟩ <;> cases x <;> rfl
theorem arrE_len (aC : Nat → ClassId) (φ : Nat → Nat) (σ : HpT) (a : Nat) {κ : Nat} (h : 20 ≤ κ ∧ κ < 28) : ∃ x : vp_A, arrE aC φ σ a κ = .inl (aC (κ - 20), x) ∧ x.1 = hZ σ a := by
  unfold arrE
  repeat' split
  · rename_i e; subst e; exact ⟨_, rfl, rfl⟩
  · rename_i e; subst e; exact ⟨_, rfl, rfl⟩
  · rename_i e; subst e; exact ⟨_, rfl, rfl⟩
  · rename_i e; subst e; exact ⟨_, rfl, rfl⟩
  · rename_i e; subst e; exact ⟨_, rfl, rfl⟩
  · exact ⟨_, rfl, rfl⟩
theorem tys_at (aC : Nat → ClassId) {κ : Nat} (h : 20 ≤ κ ∧ κ < 28) : ∃ ty, (tysOf aC)[κ - 20]? = some (aC (κ - 20), ty) := by
  obtain ⟨h1, h2⟩ := h
  have : κ = 20 ∨ κ = 21 ∨ κ = 22 ∨ κ = 23 ∨ κ = 24 ∨ κ = 25 ∨ κ = 26 ∨ κ = 27 := by omega
  rcases this with e | e | e | e | e | e | e | e <;> subst e <;> exact ⟨_, rfl⟩
section ARR
variable {aC : Nat → ClassId} {φ : Nat → Nat} {σ : HpT} {a k : Nat}
theorem hI_upd (x : Int32) (ha : a < hN σ) : hI (wI σ a k x) a = upd (hI σ a) k x := by
  funext j
  rw [hI_wI _ _ _ _ _ _ ha]
  unfold upd
  by_cases e : j = k <;> simp [e]
theorem arr_wI20 (x : Int32) (ha : a < hN σ) : arrE aC φ (wI σ a k x) a 20 = .inl (aC 0, hZ σ a, .inl (upd (hI σ a) k x)) := by rw [← hI_upd x ha]; rfl
theorem arr_wI22 (x : Int32) (ha : a < hN σ) : arrE aC φ (wI σ a k x) a 22 = .inl (aC 2, hZ σ a, .inl (upd (hI σ a) k x)) := by rw [← hI_upd x ha]; rfl
theorem arr_wI23 (x : Int32) (ha : a < hN σ) : arrE aC φ (wI σ a k x) a 23 = .inl (aC 3, hZ σ a, .inl (upd (hI σ a) k x)) := by rw [← hI_upd x ha]; rfl
theorem arr_wJ21 (x : Int64) (ha : a < hN σ) : arrE aC φ (wJ σ a k x) a 21 = .inl (aC 1, hZ σ a, .inr (.inl (vp_updL (hJ σ a) k x))) := by
  have : hJ (wJ σ a k x) a = vp_updL (hJ σ a) k x := by
    funext j
    rw [hJ_wJ _ _ _ _ _ _ ha]
    unfold vp_updL
    by_cases e : j = k <;> simp [e]
  rw [← this]; rfl
theorem arr_wD24 (x : UInt64) (ha : a < hN σ) : arrE aC φ (wD σ a k x) a 24 = .inl (aC 4, hZ σ a, .inr (.inr (.inr (.inl (vf_upd (hD σ a) k x))))) := by
  have : hD (wD σ a k x) a = vf_upd (hD σ a) k x := by
    funext j
    rw [hD_wD _ _ _ _ _ _ ha]
    unfold vf_upd
    by_cases e : j = k <;> simp [e]
  rw [← this]; rfl
theorem arr_wR {κ : Nat} (x : Option Nat) (ha : a < hN σ) (h : 25 ≤ κ ∧ κ < 28) : arrE aC φ (wR σ a k x) a κ = .inl (aC (κ - 20), hZ σ a, .inr (.inr (.inr (.inr (va_up (fun j => (hR σ a j).map φ) k (x.map φ)))))) := by
  unfold arrE
  rw [if_neg (by omega), if_neg (by omega), if_neg (by omega), if_neg (by omega), if_neg (by omega)]
  have : (fun j => (hR (wR σ a k x) a j).map φ) = va_up (fun j => (hR σ a j).map φ) k (x.map φ) := by
    funext j
    rw [hR_wR _ _ _ _ _ _ ha]
    unfold va_up
    by_cases e : j = k <;> simp [e]
  rw [← this]
  rfl
end ARR
theorem big_22 {Δ : AmbT} {s : State} {φ : Nat → Nat} {σ : HpT} {H : Heap} {locs : List Loc} {a κ : Nat} (hp : Rp Δ s φ σ H locs) (h : hK σ a = κ) (ha : BIG ≤ a) (h2 : 20 ≤ κ ∧ κ < 28) : hK σ a = 22 := by
  have hn := hp.2.2.2.2.1.1
  have e : ¬ a < σ.1 := fun q => by have : hN σ = σ.1 := rfl; omega
  rw [h]
  unfold hK cK at h
  rw [if_neg e, if_neg (by omega)] at h
  repeat' split at h
  all_goals omega
theorem byteT {Δ : AmbT} {s : State} {φ : Nat → Nat} {σ : HpT} {H : Heap} {locs : List Loc} {a : Nat} (hp : Rp Δ s φ σ H locs) (hE : Ev Δ s s.heap) (h : hK σ a = 22) (ha : BIG ≤ a) : va_T .byte (φ a) (hZ σ a) (fun i => .int (hI σ a i)) (AA Δ) s s.heap ∧ True := by
  have hn := hp.2.2.2.2.1.1
  have e : ¬ a < σ.1 := fun q => by have : hN σ = σ.1 := rfl; omega
  rw [hp.2.2.2.1 a ha]
  have h0 := h
  unfold hK cK at h
  rw [if_neg e, if_neg (by omega)] at h
  refine ⟨?_, trivial⟩
  split at h
  · cases h
  rename_i n1
  split at h
  · cases h
  rename_i n2
  split at h
  · rename_i n3
    have hj : a - (BIG + 100) < nSt := by omega
    have h1 := (hE.2.1 (a - (BIG + 100)) hj).2.2.2
    have e1 : BIG + 100 + (a - (BIG + 100)) = a := by omega
    rw [e1] at h1
    have e2 : hZ σ a = (byS (a - (BIG + 100))).length := by
      unfold hZ cZ
      have : nSt = 60 := rfl
      rw [if_neg e, if_pos (by omega)]
    have e3 : (fun i => Value.int (hI σ a i)) = (fun i => Value.int ((byS (a - (BIG + 100))).getD i 0)) := by
      funext i
      unfold hI cI
      have : nSt = 60 := rfl
      rw [if_neg e, if_neg (by omega), if_pos (by omega)]
    rw [e2, e3]
    exact h1
  · rename_i n3
    split at h
    · rename_i n4
      have e2 : hZ σ a = 100 := by
        unfold hZ cZ
        rw [if_neg e, if_neg (by omega)]
      have e3 : (fun i => Value.int (hI σ a i)) = (fun i => Value.int (cI a i)) := by
        funext i
        unfold hI
        rw [if_neg e]
      rw [e2, e3]
      rcases n4 with n4 | n4
      · rw [n4]; exact hE.2.2.2.2.2.1
      · rw [n4]; exact hE.2.2.2.2.2.2.1
    · cases h
section GM
variable {Δ : AmbT} {Γ : CtxT} {own : String} {cc : ByteArray} {nL fr lo Kc Ks kc ks pc : Nat} {L : List (Nat × Value)} {st : List Value} {σ : HpT}
theorem at_lt {φ : Nat → Nat} {H : Heap} {locs : List Loc} {s : State} (hR : Rp Δ s φ σ H locs) {a κ : Nat} (h : hK σ a = κ) (h1 : κ < 12) : a < hN σ := by
  rcases hK_big hR.2.2.2.2.1 h (by omega) with q | q
  · exact q
  · by_cases e : a < σ.1
    · exact e
    · exfalso
      unfold hK cK at h
      rw [if_neg e, if_neg (by omega)] at h
      repeat' split at h
      all_goals omega
theorem at_lt2 {φ : Nat → Nat} {H : Heap} {locs : List Loc} {s : State} (hR : Rp Δ s φ σ H locs) {a κ : Nat} (h : hK σ a = κ) (h1 : κ ≠ 12) (h2 : κ ≠ 22) (h3 : κ ≠ 99) : a < hN σ := by
  rcases hK_big hR.2.2.2.2.1 h (by omega) with q | q
  · exact q
  · by_cases e : a < σ.1
    · exact e
    · exfalso
      unfold hK cK at h
      rw [if_neg e, if_neg (by omega)] at h
      repeat' split at h
      all_goals omega
theorem g_getI (B : Bd Δ Γ own cc nL fr lo Kc Ks) {r : Option Nat} {v : Int32} {idx κ k : Nat} {ty : FieldType} {fin : Bool} (f : Fl own idx κ k ty fin) (ht : fT κ k = 0 ∧ κ < 12) (d : decode cc pc = .ok (.getfield idx, 3)) (h : gI σ r κ k = some v) (kk : GW Δ Γ kc ks (pc + 3) L (.int v :: st) σ) : GW Δ Γ kc ks pc L (va_rf r :: st) σ := fun φ H locs ls hp hst hL hl => by
  obtain ⟨a, rfl, hk, rfl⟩ := gI_s h
  obtain ⟨C, T, N, ty0, f1, f2, f3, f4, f5, -⟩ := f
  have ha := at_lt hp hk ht.2
  have e := ws_at (aC := Δ.2.1) (φ := φ) ha
  rw [entC hk (by omega)] at e
  exact va_get B.1 B.2.1 B.2.2.2.2.1 f4 B.2.2.2.1 B.2.2.2.2.2.1 hp.1 a e f1 k f2 (B.2.2.2.2.1 _ f5) (fun _ q => q) (v := .int (hI σ a k)) (by rw [fl_at (by omega)]; unfold fv; rw [if_pos ht.1]) d (kk φ H locs ls hp (SC.c (v := .int _) True.intro hst.t) hL hl)
theorem g_getJ (B : Bd Δ Γ own cc nL fr lo Kc Ks) {r : Option Nat} {v : Int64} {idx κ k : Nat} {ty : FieldType} {fin : Bool} (f : Fl own idx κ k ty fin) (ht : fT κ k = 1 ∧ κ < 12) (d : decode cc pc = .ok (.getfield idx, 3)) (h : gJ σ r κ k = some v) (kk : GW Δ Γ kc ks (pc + 3) L (.long v :: st) σ) : GW Δ Γ kc ks pc L (va_rf r :: st) σ := fun φ H locs ls hp hst hL hl => by
  obtain ⟨a, rfl, hk, rfl⟩ := gJ_s h
  obtain ⟨C, T, N, ty0, f1, f2, f3, f4, f5, -⟩ := f
  have ha := at_lt hp hk ht.2
  have e := ws_at (aC := Δ.2.1) (φ := φ) ha
  rw [entC hk (by omega)] at e
  exact va_get B.1 B.2.1 B.2.2.2.2.1 f4 B.2.2.2.1 B.2.2.2.2.2.1 hp.1 a e f1 k f2 (B.2.2.2.2.1 _ f5) (fun _ q => q) (v := .long (hJ σ a k)) (by rw [fl_at (by omega)]; unfold fv; rw [if_neg (by omega), if_pos ht.1]) d (kk φ H locs ls hp (SC.c (v := .long _) True.intro hst.t) hL hl)
theorem CL_hR {σ : HpT} (hw : WFh σ) {a k : Nat} (ha : a < hN σ) : CL σ (va_rf (hR σ a k)) := by
  cases e : hR σ a k with
  | none => trivial
  | some j => exact hw.2.1 a k j ha e
theorem g_getR (B : Bd Δ Γ own cc nL fr lo Kc Ks) {r v : Option Nat} {idx κ k : Nat} {ty : FieldType} {fin : Bool} (f : Fl own idx κ k ty fin) (ht : fT κ k = 2 ∧ κ < 12) (d : decode cc pc = .ok (.getfield idx, 3)) (h : gR σ r κ k = some v) (kk : GW Δ Γ kc ks (pc + 3) L (va_rf v :: st) σ) : GW Δ Γ kc ks pc L (va_rf r :: st) σ := fun φ H locs ls hp hst hL hl => by
  obtain ⟨a, rfl, hk, rfl⟩ := gR_s h
  obtain ⟨C, T, N, ty0, f1, f2, f3, f4, f5, -⟩ := f
  have ha := at_lt hp hk ht.2
  have e := ws_at (aC := Δ.2.1) (φ := φ) ha
  rw [entC hk (by omega)] at e
  exact va_get B.1 B.2.1 B.2.2.2.2.1 f4 B.2.2.2.1 B.2.2.2.2.2.1 hp.1 a e f1 k f2 (B.2.2.2.2.1 _ f5) (fun _ q => q) (v := en φ (va_rf (hR σ a k))) (by rw [fl_at (by omega), en_rf]; unfold fv; rw [if_neg (by omega), if_neg (by omega)]) d (kk φ H locs ls hp (SC.c (CL_hR hp.2.2.2.2.1 ha) hst.t) hL hl)
theorem g_putI (B : Bd Δ Γ own cc nL fr lo Kc Ks) {r : Option Nat} {x : Int32} {σ' : HpT} {idx κ k : Nat} (f : Fl own idx κ k .int false) (ht : fT κ k = 0 ∧ κ < 12) (d : decode cc pc = .ok (.putfield idx, 3)) (h : pI σ r κ k x = some σ') (kk : GW Δ Γ kc ks (pc + 3) L st σ') : GW Δ Γ kc ks pc L (.int x :: va_rf r :: st) σ := fun φ H locs ls hp hst hL hl => by
  obtain ⟨a, rfl, hk, ha, rfl⟩ := pI_s h
  obtain ⟨C, T, N, ty0, f1, f2, f3, f4, f5, f6, f7, f8, f9, f10, f11⟩ := f
  have e := ws_at (aC := Δ.2.1) (φ := φ) ha
  rw [entC hk (by omega)] at e
  refine va_put B.1 B.2.1 B.2.2.2.2.1 f4 ty0 f6 f7 B.2.2.2.1 B.2.2.2.2.2.1 hp.1 hp.2.1 hp.2.2.1 a e f1 k f2 (B.2.2.2.2.1 _ f5) (fun _ q => q) f9 f8 (hn := rfl) (hfit := rfl) (by rw [fl_len]; omega) d (fun H1 locs1 hP hD hS => ?_)
  exact kk φ H1 locs1 ls (Rp_set hp rfl (fun j _ => ent_wI x ha j) ((entC (σ := wI σ a k x) (κ := κ) hk (by omega)).trans (congrArg (fun l => Sum.inr (κ, l)) (fl_wI x ha ht.1))) (WF_wI hp.2.2.2.2.1 x ha (fun q => by omega)) hP hD hS) (CL_n rfl hst.t.t) (LC_n rfl hL) hl
theorem g_putZ (B : Bd Δ Γ own cc nL fr lo Kc Ks) {r : Option Nat} {x : Int32} {σ' : HpT} {idx κ k : Nat} (f : Fl own idx κ k .boolean false) (ht : fT κ k = 0 ∧ κ < 12) (d : decode cc pc = .ok (.putfield idx, 3)) (h : pZ σ r κ k x = some σ') (kk : GW Δ Γ kc ks (pc + 3) L st σ') : GW Δ Γ kc ks pc L (.int x :: va_rf r :: st) σ := fun φ H locs ls hp hst hL hl => by
  obtain ⟨hx, h⟩ := pZ_s h
  obtain ⟨a, rfl, hk, ha, rfl⟩ := pI_s h
  obtain ⟨C, T, N, ty0, f1, f2, f3, f4, f5, f6, f7, f8, f9, f10, f11⟩ := f
  have e := ws_at (aC := Δ.2.1) (φ := φ) ha
  rw [entC hk (by omega)] at e
  refine va_put B.1 B.2.1 B.2.2.2.2.1 f4 ty0 f6 f7 B.2.2.2.1 B.2.2.2.2.2.1 hp.1 hp.2.1 hp.2.2.1 a e f1 k f2 (B.2.2.2.2.1 _ f5) (fun _ q => q) f9 f8 (hn := by rcases hx with e | e <;> rw [e] <;> rfl) (hfit := by rcases hx with e | e <;> rw [e] <;> rfl) (by rw [fl_len]; omega) d (fun H1 locs1 hP hD hS => ?_)
  exact kk φ H1 locs1 ls (Rp_set hp rfl (fun j _ => ent_wI x ha j) ((entC (σ := wI σ a k x) (κ := κ) hk (by omega)).trans (congrArg (fun l => Sum.inr (κ, l)) (fl_wI x ha ht.1))) (WF_wI hp.2.2.2.2.1 x ha (fun q => by omega)) hP hD hS) (CL_n rfl hst.t.t) (LC_n rfl hL) hl
theorem g_putB (B : Bd Δ Γ own cc nL fr lo Kc Ks) {r : Option Nat} {x : Int32} {σ' : HpT} {idx κ k : Nat} (f : Fl own idx κ k .byte false) (ht : fT κ k = 0 ∧ κ < 12) (d : decode cc pc = .ok (.putfield idx, 3)) (h : pB σ r κ k x = some σ') (kk : GW Δ Γ kc ks (pc + 3) L st σ') : GW Δ Γ kc ks pc L (.int x :: va_rf r :: st) σ := fun φ H locs ls hp hst hL hl => by
  obtain ⟨hx, h⟩ := pB_s h
  obtain ⟨a, rfl, hk, ha, rfl⟩ := pI_s h
  obtain ⟨C, T, N, ty0, f1, f2, f3, f4, f5, f6, f7, f8, f9, f10, f11⟩ := f
  have e := ws_at (aC := Δ.2.1) (φ := φ) ha
  rw [entC hk (by omega)] at e
  refine va_put B.1 B.2.1 B.2.2.2.2.1 f4 ty0 f6 f7 B.2.2.2.1 B.2.2.2.2.2.1 hp.1 hp.2.1 hp.2.2.1 a e f1 k f2 (B.2.2.2.2.1 _ f5) (fun _ q => q) f9 f8 (hn := by have := vp_nar_byte x; rw [hx] at this; exact nar_byte hx) (hfit := fit_byte hx) (by rw [fl_len]; omega) d (fun H1 locs1 hP hD hS => ?_)
  exact kk φ H1 locs1 ls (Rp_set hp rfl (fun j _ => ent_wI x ha j) ((entC (σ := wI σ a k x) (κ := κ) hk (by omega)).trans (congrArg (fun l => Sum.inr (κ, l)) (fl_wI x ha ht.1))) (WF_wI hp.2.2.2.2.1 x ha (fun q => by omega)) hP hD hS) (CL_n rfl hst.t.t) (LC_n rfl hL) hl
theorem g_putJ (B : Bd Δ Γ own cc nL fr lo Kc Ks) {r : Option Nat} {x : Int64} {σ' : HpT} {idx κ k : Nat} (f : Fl own idx κ k .long false) (ht : fT κ k = 1 ∧ κ < 12) (d : decode cc pc = .ok (.putfield idx, 3)) (h : pJ σ r κ k x = some σ') (kk : GW Δ Γ kc ks (pc + 3) L st σ') : GW Δ Γ kc ks pc L (.long x :: va_rf r :: st) σ := fun φ H locs ls hp hst hL hl => by
  obtain ⟨a, rfl, hk, ha, rfl⟩ := pJ_s h
  obtain ⟨C, T, N, ty0, f1, f2, f3, f4, f5, f6, f7, f8, f9, f10, f11⟩ := f
  have e := ws_at (aC := Δ.2.1) (φ := φ) ha
  rw [entC hk (by omega)] at e
  refine va_put B.1 B.2.1 B.2.2.2.2.1 f4 ty0 f6 f7 B.2.2.2.1 B.2.2.2.2.2.1 hp.1 hp.2.1 hp.2.2.1 a e f1 k f2 (B.2.2.2.2.1 _ f5) (fun _ q => q) f9 f8 (hn := rfl) (hfit := rfl) (by rw [fl_len]; omega) d (fun H1 locs1 hP hD hS => ?_)
  exact kk φ H1 locs1 ls (Rp_set hp rfl (fun j _ => ent_wJ x ha j) ((entC (σ := wJ σ a k x) (κ := κ) hk (by omega)).trans (congrArg (fun l => Sum.inr (κ, l)) (fl_wJ x ha ht.1))) (WF_wJ hp.2.2.2.2.1 x) hP hD hS) (CL_n rfl hst.t.t) (LC_n rfl hL) hl
theorem g_putR (B : Bd Δ Γ own cc nL fr lo Kc Ks) {r x : Option Nat} {σ' : HpT} {idx κ k : Nat} {ty : FieldType} (f : Fl own idx κ k ty false) (ht : fT κ k = 2 ∧ κ < 12) (hty : (∃ n, ty = .object n) ∨ ∃ t, ty = .array t) (d : decode cc pc = .ok (.putfield idx, 3)) (h : pR σ r κ k x = some σ') (kk : GW Δ Γ kc ks (pc + 3) L st σ') : GW Δ Γ kc ks pc L (va_rf x :: va_rf r :: st) σ := fun φ H locs ls hp hst hL hl => by
  obtain ⟨a, rfl, hk, ha, rfl⟩ := pR_s h
  obtain ⟨C, T, N, ty0, f1, f2, f3, f4, f5, f6, f7, f8, f9, f10, f11⟩ := f
  have e := ws_at (aC := Δ.2.1) (φ := φ) ha
  rw [entC hk (by omega)] at e
  have hx := CL_rf hst.h
  show W _ _ _ _ _ _ _ _ _ _ _ _ _ _ _ (F0 _ pc ls (en φ (va_rf x) :: _))
  rw [en_rf]
  refine va_put B.1 B.2.1 B.2.2.2.2.1 f4 ty0 f6 f7 B.2.2.2.1 B.2.2.2.2.2.1 hp.1 hp.2.1 hp.2.2.1 a e f1 k f2 (B.2.2.2.2.1 _ f5) (fun _ q => q) f9 f8 (hn := nar_ref hty _) (hfit := fit_ref hty _) (by rw [fl_len]; omega) d (fun H1 locs1 hP hD hS => ?_)
  exact kk φ H1 locs1 ls (Rp_set hp rfl (fun j _ => ent_wR x ha j) ((entC (σ := wR σ a k x) (κ := κ) hk (by omega)).trans (congrArg (fun l => Sum.inr (κ, l)) (fl_wR x ha ht.1))) (WF_wR hp.2.2.2.2.1 x ha hx) hP hD hS) (CL_n rfl hst.t.t) (LC_n rfl hL) hl
theorem g_putIF (B : Bd Δ Γ own cc nL fr lo Kc Ks) {r : Option Nat} {x : Int32} {σ' : HpT} {idx κ k : Nat} (f : Fl own idx κ k .int true) (ht : fT κ k = 0 ∧ κ < 12) (hin : Γ.2.2.2.2.2.2.2.2.1.name = "<init>") (d : decode cc pc = .ok (.putfield idx, 3)) (h : pI σ r κ k x = some σ') (kk : GW Δ Γ kc ks (pc + 3) L st σ') : GW Δ Γ kc ks pc L (.int x :: va_rf r :: st) σ := fun φ H locs ls hp hst hL hl => by
  obtain ⟨a, rfl, hk, ha, rfl⟩ := pI_s h
  obtain ⟨C, T, N, ty0, f1, f2, f3, f4, f5, f6, f7, f8, f9, f10, f11⟩ := f
  have e := ws_at (aC := Δ.2.1) (φ := φ) ha
  rw [entC hk (by omega)] at e
  refine va_putF B.1 B.2.1 B.2.2.2.2.1 f4 ty0 f6 f7 B.2.2.2.1 B.2.2.2.2.2.1 hp.1 hp.2.1 hp.2.2.1 a e f1 k f2 (B.2.2.2.2.1 _ f5) (fun _ q => q) f9 hin (f11 rfl) f8 (hn := rfl) (hfit := rfl) (by rw [fl_len]; omega) d (fun H1 locs1 hP hD hS => ?_)
  exact kk φ H1 locs1 ls (Rp_set hp rfl (fun j _ => ent_wI x ha j) ((entC (σ := wI σ a k x) (κ := κ) hk (by omega)).trans (congrArg (fun l => Sum.inr (κ, l)) (fl_wI x ha ht.1))) (WF_wI hp.2.2.2.2.1 x ha (fun q => by omega)) hP hD hS) (CL_n rfl hst.t.t) (LC_n rfl hL) hl
theorem g_putRF (B : Bd Δ Γ own cc nL fr lo Kc Ks) {r x : Option Nat} {σ' : HpT} {idx κ k : Nat} {ty : FieldType} (f : Fl own idx κ k ty true) (ht : fT κ k = 2 ∧ κ < 12) (hty : (∃ n, ty = .object n) ∨ ∃ t, ty = .array t) (hin : Γ.2.2.2.2.2.2.2.2.1.name = "<init>") (d : decode cc pc = .ok (.putfield idx, 3)) (h : pR σ r κ k x = some σ') (kk : GW Δ Γ kc ks (pc + 3) L st σ') : GW Δ Γ kc ks pc L (va_rf x :: va_rf r :: st) σ := fun φ H locs ls hp hst hL hl => by
  obtain ⟨a, rfl, hk, ha, rfl⟩ := pR_s h
  obtain ⟨C, T, N, ty0, f1, f2, f3, f4, f5, f6, f7, f8, f9, f10, f11⟩ := f
  have e := ws_at (aC := Δ.2.1) (φ := φ) ha
  rw [entC hk (by omega)] at e
  have hx := CL_rf hst.h
  show W _ _ _ _ _ _ _ _ _ _ _ _ _ _ _ (F0 _ pc ls (en φ (va_rf x) :: _))
  rw [en_rf]
  refine va_putF B.1 B.2.1 B.2.2.2.2.1 f4 ty0 f6 f7 B.2.2.2.1 B.2.2.2.2.2.1 hp.1 hp.2.1 hp.2.2.1 a e f1 k f2 (B.2.2.2.2.1 _ f5) (fun _ q => q) f9 hin (f11 rfl) f8 (hn := nar_ref hty _) (hfit := fit_ref hty _) (by rw [fl_len]; omega) d (fun H1 locs1 hP hD hS => ?_)
  exact kk φ H1 locs1 ls (Rp_set hp rfl (fun j _ => ent_wR x ha j) ((entC (σ := wR σ a k x) (κ := κ) hk (by omega)).trans (congrArg (fun l => Sum.inr (κ, l)) (fl_wR x ha ht.1))) (WF_wR hp.2.2.2.2.1 x ha hx) hP hD hS) (CL_n rfl hst.t.t) (LC_n rfl hL) hl
theorem g_iald (B : Bd Δ Γ own cc nL fr lo Kc Ks) {r : Option Nat} {i : Int32} {v : Int32} (d : decode cc pc = .ok (.iaload, 1)) (h : aI σ r 20 i = some v) (kk : GW Δ Γ kc ks (pc + 1) L (.int v :: st) σ) : GW Δ Γ kc ks pc L (.int i :: va_rf r :: st) σ := fun φ H locs ls hp hst hL hl => by
  obtain ⟨a, rfl, hk, hi, rfl⟩ := aI_s h
  have ha := at_lt2 hp hk (by decide) (by decide) (by decide)
  have e := ws_at (aC := Δ.2.1) (φ := φ) ha
  rw [entA hk (by decide)] at e
  exact va_iald B.1 B.2.1 B.2.2.2.2.2.1 hp.1 a 0 e rfl hi d (kk φ H locs ls hp (SC.c (v := .int _) True.intro hst.t.t) hL hl)
theorem g_zald (B : Bd Δ Γ own cc nL fr lo Kc Ks) {r : Option Nat} {i : Int32} {v : Int32} (d : decode cc pc = .ok (.baload, 1)) (h : aI σ r 23 i = some v) (kk : GW Δ Γ kc ks (pc + 1) L (.int v :: st) σ) : GW Δ Γ kc ks pc L (.int i :: va_rf r :: st) σ := fun φ H locs ls hp hst hL hl => by
  obtain ⟨a, rfl, hk, hi, rfl⟩ := aI_s h
  have ha := at_lt2 hp hk (by decide) (by decide) (by decide)
  have e := ws_at (aC := Δ.2.1) (φ := φ) ha
  rw [entA hk (by decide)] at e
  exact va_zald B.1 B.2.1 B.2.2.2.2.2.1 hp.1 a 3 e rfl hi d (kk φ H locs ls hp (SC.c (v := .int _) True.intro hst.t.t) hL hl)
theorem g_lald (B : Bd Δ Γ own cc nL fr lo Kc Ks) {r : Option Nat} {i : Int32} {v : Int64} (d : decode cc pc = .ok (.laload, 1)) (h : aJ σ r i = some v) (kk : GW Δ Γ kc ks (pc + 1) L (.long v :: st) σ) : GW Δ Γ kc ks pc L (.int i :: va_rf r :: st) σ := fun φ H locs ls hp hst hL hl => by
  obtain ⟨a, rfl, hk, hi, rfl⟩ := aJ_s h
  have ha := at_lt2 hp hk (by decide) (by decide) (by decide)
  have e := ws_at (aC := Δ.2.1) (φ := φ) ha
  rw [entA hk (by decide)] at e
  exact va_lald B.1 B.2.1 B.2.2.2.2.2.1 hp.1 a 1 e rfl hi d (kk φ H locs ls hp (SC.c (v := .long _) True.intro hst.t.t) hL hl)
theorem g_dald (B : Bd Δ Γ own cc nL fr lo Kc Ks) {r : Option Nat} {i : Int32} {v : UInt64} (d : decode cc pc = .ok (.daload, 1)) (h : aD σ r i = some v) (kk : GW Δ Γ kc ks (pc + 1) L (.double v :: st) σ) : GW Δ Γ kc ks pc L (.int i :: va_rf r :: st) σ := fun φ H locs ls hp hst hL hl => by
  obtain ⟨a, rfl, hk, hi, rfl⟩ := aD_s h
  have ha := at_lt2 hp hk (by decide) (by decide) (by decide)
  have e := ws_at (aC := Δ.2.1) (φ := φ) ha
  rw [entA hk (by decide)] at e
  exact va_dald B.1 B.2.1 B.2.2.2.2.2.1 hp.1 a 4 e rfl hi d (kk φ H locs ls hp (SC.c (v := .double _) True.intro hst.t.t) hL hl)
theorem g_bald (B : Bd Δ Γ own cc nL fr lo Kc Ks) {r : Option Nat} {i v : Int32} (d : decode cc pc = .ok (.baload, 1)) (h : aI σ r 22 i = some v) (kk : GW Δ Γ kc ks (pc + 1) L (.int v :: st) σ) : GW Δ Γ kc ks pc L (.int i :: va_rf r :: st) σ := fun φ H locs ls hp hst hL hl => by
  obtain ⟨a, rfl, hk, hi, rfl⟩ := aI_s h
  have kk := kk φ H locs ls hp (SC.c (v := .int _) True.intro hst.t.t) hL hl
  rcases hK_big hp.2.2.2.2.1 hk (by decide) with ha | ha
  · have e := ws_at (aC := Δ.2.1) (φ := φ) ha
    rw [entA hk (by decide)] at e
    exact va_bald B.1 B.2.1 B.2.2.2.2.2.1 hp.1 a 2 e rfl hi d kk
  · obtain ⟨hT, hz⟩ := byteT hp B.2.2.2.2.2.2.2.1 hk ha
    exact va_tb B.1 B.2.1 hT hp.2.2.1 hi rfl d kk
theorem g_ralds (B : Bd Δ Γ own cc nL fr lo Kc Ks) {r v : Option Nat} {i : Int32} {κ : Nat} {C : String} (hκ : 25 ≤ κ ∧ κ < 28) (hC : (tysOf Δ.2.1)[κ - 20]? = some (Δ.2.1 (κ - 20), .object C)) (d : decode cc pc = .ok (.aaload, 1)) (h : aR σ r κ i = some v) (kk : GW Δ Γ kc ks (pc + 1) L (va_rf v :: st) σ) : GW Δ Γ kc ks pc L (.int i :: va_rf r :: st) σ := fun φ H locs ls hp hst hL hl => by
  obtain ⟨a, rfl, hk, hi, rfl⟩ := aR_s h
  have ha := at_lt2 hp hk (by omega) (by omega) (by omega)
  have e := ws_at (aC := Δ.2.1) (φ := φ) ha
  rw [entA hk (by omega)] at e
  unfold arrE at e
  rw [if_neg (by omega), if_neg (by omega), if_neg (by omega), if_neg (by omega), if_neg (by omega)] at e
  refine va_aldq B.1 B.2.1 B.2.2.2.2.2.1 hp.1 a (κ - 20) e hC hi d ?_
  have kk := kk φ H locs ls hp (SC.c (CL_hR hp.2.2.2.2.1 ha) hst.t.t) hL hl
  rw [List.map_cons, en_rf] at kk
  exact kk
theorem g_alen (B : Bd Δ Γ own cc nL fr lo Kc Ks) {r : Option Nat} {v : Int32} {κ : Nat} (hκ : 20 ≤ κ ∧ κ < 28) (d : decode cc pc = .ok (.arraylength, 1)) (h : aL σ r κ = some v) (kk : GW Δ Γ kc ks (pc + 1) L (.int v :: st) σ) : GW Δ Γ kc ks pc L (va_rf r :: st) σ := fun φ H locs ls hp hst hL hl => by
  obtain ⟨a, rfl, hk, rfl⟩ := aL_s h
  have kk := kk φ H locs ls hp (SC.c (v := .int _) True.intro hst.t) hL hl
  rcases hK_big hp.2.2.2.2.1 hk (by omega) with ha | ha
  · have e := ws_at (aC := Δ.2.1) (φ := φ) ha
    rw [entA hk hκ.1] at e
    obtain ⟨x, hx, hz⟩ := arrE_len Δ.2.1 φ σ a hκ
    rw [hx] at e
    obtain ⟨ty, hty⟩ := tys_at Δ.2.1 hκ
    exact va_alen B.1 B.2.1 B.2.2.2.2.2.1 hp.1 a (κ - 20) e hty (by rw [hz]) d kk
  · have hk2 := big_22 hp hk ha (by omega)
    obtain ⟨hT, hz⟩ := byteT hp B.2.2.2.2.2.2.2.1 hk2 ha
    exact va_tlen B.1 B.2.1 hT hp.2.2.1 rfl d kk
theorem g_iast (B : Bd Δ Γ own cc nL fr lo Kc Ks) {r : Option Nat} {i : Int32} {x : Int32} {σ' : HpT} (d : decode cc pc = .ok (.iastore, 1)) (h : sI σ r i x = some σ') (kk : GW Δ Γ kc ks (pc + 1) L st σ') : GW Δ Γ kc ks pc L (.int x :: .int i :: va_rf r :: st) σ := fun φ H locs ls hp hst hL hl => by
  obtain ⟨a, rfl, hk, hi, ha, rfl⟩ := sI_s h
  have e := ws_at (aC := Δ.2.1) (φ := φ) ha
  rw [entA hk (by decide)] at e
  refine va_iast B.1 B.2.1 B.2.2.2.2.2.1 hp.1 hp.2.1 hp.2.2.1 a 0 e rfl hi d (fun H1 locs1 hP hD hS => ?_)
  skip
  exact kk φ H1 locs1 ls (Rp_set hp rfl (fun j _ => ent_wI _ ha j) ((entA (σ := wI σ a i.toNatClampNeg x) (κ := 20) hk (by decide)).trans (arr_wI20 x ha)) (WF_wI hp.2.2.2.2.1 _ ha (fun q => by omega)) hP hD hS) (CL_n rfl hst.t.t.t) (LC_n rfl hL) hl
theorem g_bast (B : Bd Δ Γ own cc nL fr lo Kc Ks) {r : Option Nat} {i : Int32} {x : Int32} {σ' : HpT} (d : decode cc pc = .ok (.bastore, 1)) (h : sB σ r i x = some σ') (kk : GW Δ Γ kc ks (pc + 1) L st σ') : GW Δ Γ kc ks pc L (.int x :: .int i :: va_rf r :: st) σ := fun φ H locs ls hp hst hL hl => by
  obtain ⟨a, rfl, hk, hi, ha, rfl⟩ := sB_s h
  have e := ws_at (aC := Δ.2.1) (φ := φ) ha
  rw [entA hk (by decide)] at e
  refine va_bast B.1 B.2.1 B.2.2.2.2.2.1 hp.1 hp.2.1 hp.2.2.1 a 2 e rfl hi d (fun H1 locs1 hP hD hS => ?_)
  rw [vp_nar_byte] at hP hD
  exact kk φ H1 locs1 ls (Rp_set hp rfl (fun j _ => ent_wI _ ha j) ((entA (σ := wI σ a i.toNatClampNeg x.toInt8.toInt32) (κ := 22) hk (by decide)).trans (arr_wI22 x.toInt8.toInt32 ha)) (WF_wI hp.2.2.2.2.1 _ ha (fun q => byte2 _)) hP hD hS) (CL_n rfl hst.t.t.t) (LC_n rfl hL) hl
theorem g_zast (B : Bd Δ Γ own cc nL fr lo Kc Ks) {r : Option Nat} {i : Int32} {x : Int32} {σ' : HpT} (d : decode cc pc = .ok (.bastore, 1)) (h : sZ σ r i x = some σ') (kk : GW Δ Γ kc ks (pc + 1) L st σ') : GW Δ Γ kc ks pc L (.int x :: .int i :: va_rf r :: st) σ := fun φ H locs ls hp hst hL hl => by
  obtain ⟨a, rfl, hk, hi, ha, rfl⟩ := sZ_s h
  have e := ws_at (aC := Δ.2.1) (φ := φ) ha
  rw [entA hk (by decide)] at e
  refine va_zast B.1 B.2.1 B.2.2.2.2.2.1 hp.1 hp.2.1 hp.2.2.1 a 3 e rfl hi d (fun H1 locs1 hP hD hS => ?_)
  skip
  exact kk φ H1 locs1 ls (Rp_set hp rfl (fun j _ => ent_wI _ ha j) ((entA (σ := wI σ a i.toNatClampNeg (vp_nar .boolean x)) (κ := 23) hk (by decide)).trans (arr_wI23 (vp_nar .boolean x) ha)) (WF_wI hp.2.2.2.2.1 _ ha (fun q => by omega)) hP hD hS) (CL_n rfl hst.t.t.t) (LC_n rfl hL) hl
theorem g_last (B : Bd Δ Γ own cc nL fr lo Kc Ks) {r : Option Nat} {i : Int32} {x : Int64} {σ' : HpT} (d : decode cc pc = .ok (.lastore, 1)) (h : sJ σ r i x = some σ') (kk : GW Δ Γ kc ks (pc + 1) L st σ') : GW Δ Γ kc ks pc L (.long x :: .int i :: va_rf r :: st) σ := fun φ H locs ls hp hst hL hl => by
  obtain ⟨a, rfl, hk, hi, ha, rfl⟩ := sJ_s h
  have e := ws_at (aC := Δ.2.1) (φ := φ) ha
  rw [entA hk (by decide)] at e
  refine va_last B.1 B.2.1 B.2.2.2.2.2.1 hp.1 hp.2.1 hp.2.2.1 a 1 e rfl hi d (fun H1 locs1 hP hD hS => ?_)
  skip
  exact kk φ H1 locs1 ls (Rp_set hp rfl (fun j _ => ent_wJ _ ha j) ((entA (σ := wJ σ a i.toNatClampNeg x) (κ := 21) hk (by decide)).trans (arr_wJ21 x ha)) (WF_wJ hp.2.2.2.2.1 _) hP hD hS) (CL_n rfl hst.t.t.t) (LC_n rfl hL) hl
theorem g_dast (B : Bd Δ Γ own cc nL fr lo Kc Ks) {r : Option Nat} {i : Int32} {x : UInt64} {σ' : HpT} (d : decode cc pc = .ok (.dastore, 1)) (h : sD σ r i x = some σ') (kk : GW Δ Γ kc ks (pc + 1) L st σ') : GW Δ Γ kc ks pc L (.double x :: .int i :: va_rf r :: st) σ := fun φ H locs ls hp hst hL hl => by
  obtain ⟨a, rfl, hk, hi, ha, rfl⟩ := sD_s h
  have e := ws_at (aC := Δ.2.1) (φ := φ) ha
  rw [entA hk (by decide)] at e
  refine va_dast B.1 B.2.1 B.2.2.2.2.2.1 hp.1 hp.2.1 hp.2.2.1 a 4 e rfl hi d (fun H1 locs1 hP hD hS => ?_)
  skip
  exact kk φ H1 locs1 ls (Rp_set hp rfl (fun j _ => ent_wD _ ha j) ((entA (σ := wD σ a i.toNatClampNeg x) (κ := 24) hk (by decide)).trans (arr_wD24 x ha)) (WF_wD hp.2.2.2.2.1 _) hP hD hS) (CL_n rfl hst.t.t.t) (LC_n rfl hL) hl
theorem g_rast (B : Bd Δ Γ own cc nL fr lo Kc Ks) {r x : Option Nat} {i : Int32} {κ κ2 : Nat} {σ' : HpT} {q : vw_C} (hκ : 25 ≤ κ ∧ κ < 28) (hκ2 : κ2 < 12) (hq : gcl[κ2]? = some q) (hC : ∀ aC : Nat → ClassId, (tysOf aC)[κ - 20]? = some (aC (κ - 20), .object q.1)) (d : decode cc pc = .ok (.aastore, 1)) (h : sR σ r κ κ2 i x = some σ') (kk : GW Δ Γ kc ks (pc + 1) L st σ') : GW Δ Γ kc ks pc L (va_rf x :: .int i :: va_rf r :: st) σ := fun φ H locs ls hp hst hL hl => by
  obtain ⟨a, b, rfl, rfl, hk, hi, ha, hk2, hb, rfl⟩ := sR_s h
  have e := ws_at (aC := Δ.2.1) (φ := φ) ha
  rw [entA hk (by omega)] at e
  unfold arrE at e
  rw [if_neg (by omega), if_neg (by omega), if_neg (by omega), if_neg (by omega), if_neg (by omega)] at e
  have e2 := ws_at (aC := Δ.2.1) (φ := φ) hb
  rw [entC hk2 (by omega)] at e2
  refine va_astq B.1 B.2.1 B.2.2.2.2.2.1 hp.1 hp.2.1 hp.2.2.1 a (κ - 20) b κ2 e (hC _) e2 hq hi d (fun H1 locs1 hP hD hS => ?_)
  exact kk φ H1 locs1 ls (Rp_set hp rfl (fun j _ => ent_wR _ ha j) ((entA (σ := wR σ a i.toNatClampNeg (some b)) (κ := κ) hk (by omega)).trans (arr_wR (some b) ha hκ)) (WF_wR hp.2.2.2.2.1 _ ha (fun j e => by cases e; exact Or.inl hb)) hP hD hS) (CL_n rfl hst.t.t.t) (LC_n rfl hL) hl
end GM
end
section
/-! CONTRACTS over the clean heap, calls, makings, ends -/
def exN : Nat → String
  | 0 => "java/lang/IllegalStateException"
  | 1 => "java/lang/IndexOutOfBoundsException"
  | _ => "java/lang/IllegalArgumentException"
/-- behind a method: the heap is σ', its cells lie by φ', where cells were they are -/
def Pst (Δ : AmbT) (φ' : Nat → Nat) (σ' : HpT) (H : Heap) : Prop :=
  (∀ j, CLn Δ.2.2.2.2.2 j → φ' j = Δ.2.2.2.2.1 j) ∧ hN Δ.2.2.2.2.2 ≤ hN σ' ∧ va_P Δ.1 gcl (wsOf Δ.2.1 φ' σ') H ∧ va_D (AA Δ) (wsOf Δ.2.1 φ' σ') ∧ (∀ j, BIG ≤ j → φ' j = Δ.2.2.1 j) ∧ WFh σ'
def Qr (Δ : AmbT) (o : Except Nat (Option Value)) (σ' : HpT) : Array Value → State → Outcome → State → Prop := fun _ st oc t =>
  (∃ (φ' : Nat → Nat) (v : Option Value), o = .ok v ∧ oc = .returned (v.map (en φ')) ∧ Pst Δ φ' σ' t.heap ∧ ∀ w, v = some w → CL σ' w) ∧ va_F (AA Δ) st t
def Qx (Δ : AmbT) (o : Except Nat (Option Value)) (σ' : HpT) : String → State → State → Prop := fun E st t =>
  (∃ (φ' : Nat → Nat) (n : Nat), o = .error n ∧ E = exN n ∧ Pst Δ φ' σ' t.heap) ∧ va_F (AA Δ) st t
def Pre (Δ : AmbT) (as : List Value) (U : State) : Prop :=
  va_P Δ.1 gcl (wsOf Δ.2.1 Δ.2.2.2.2.1 Δ.2.2.2.2.2) U.heap ∧ va_D (AA Δ) (wsOf Δ.2.1 Δ.2.2.2.2.1 Δ.2.2.2.2.2) ∧ va_K Δ.1 gcl (tysOf Δ.2.1) U ∧ Δ.2.2.2.1 ≤ U.heap.size ∧ (∀ j, BIG ≤ j → Δ.2.2.2.2.1 j = Δ.2.2.1 j) ∧ WFh Δ.2.2.2.2.2 ∧ Ev Δ U U.heap ∧ SC Δ.2.2.2.2.2 as
/-- THE CONTRACT: called with these values in this heap, the method ends so, and leaves that heap -/
def Ct (l : Launch) (y : MethodName) (cc : ByteArray) (nL : Nat) (ret : Option FieldType) (fr lo : Nat) (as : List Value) (σ : HpT) (o : Except Nat (Option Value)) (σ' : HpT) (Kc Ks : Nat) : Prop :=
  l.stackTraces = false → ∀ (D : va_G) (aC : Nat → ClassId) (φ0 : Nat → Nat) (N0 : Nat) (φ : Nat → Nat),
    vx_Met l y (Cond.code y cc nL ret :: ALLw) ({ frames := fr, locals := lo, cells := Kc, slots := Ks } : Room) (va_Pc (as.map (en φ)) (Pre (D, aC, φ0, N0, φ, σ) as)) (Qr (D, aC, φ0, N0, φ, σ) o σ') (Qx (D, aC, φ0, N0, φ, σ) o σ') Kc Ks (AA (D, aC, φ0, N0, φ, σ))
def En (Δ : AmbT) (Γ : CtxT) (o : Except Nat (Option Value)) (σ' : HpT) (Kc Ks : Nat) (ret : Option FieldType) : Prop :=
  Γ.2.2.2.2.2.2.2.2.2.2 = vx_MQ Γ.2.2.2.2.2.2.2.1 (Qr Δ o σ') (Qx Δ o σ') Γ.2.2.2.2.2.2.1 Γ.2.2.2.2.1 Kc Ks (AA Δ) ∧ Γ.2.2.2.2.2.2.2.2.1.sig.returnType = ret ∧ ∀ x ∈ Γ.2.2.2.2.2.2.2.2.2.1.exceptionTable.toList, False
theorem en_args (φ : Nat → Nat) : ∀ (vs : List Value) (k : Nat), lv_args k (vs.map (en φ)) = enL φ (lv_args k vs) := by
  intro vs
  induction vs with
  | nil => intro k; rfl
  | cons v vs ih =>
    intro k
    cases v <;> simp [lv_args, en, enL, ih, Value.category]
theorem en_sl (φ : Nat → Nat) (vs : List Value) : (lg_sl (vs.map (en φ))).length = (lg_sl vs).length := by
  unfold lg_sl
  rw [List.length_flatMap, List.length_flatMap, List.map_map]
  congr 1
  apply List.map_congr_left
  intro v _
  simp only [Function.comp]
  rw [en_cat]
  split <;> rfl
theorem LC_args {σ : HpT} : ∀ (vs : List Value) (k : Nat), SC σ vs → ∀ q ∈ lv_args k vs, CL σ q.2 := by
  intro vs
  induction vs with
  | nil => intro k _ q hq; exact absurd hq List.not_mem_nil
  | cons v vs ih =>
    intro k h q hq
    have h1 := h v List.mem_cons_self
    have h2 : SC σ vs := SC.t h
    cases v <;> (simp only [lv_args, Value.category, List.mem_cons] at hq; rcases hq with e | e <;> first | (rw [e]; exact h1) | exact ih _ h2 q e)
theorem ct_start {l : Launch} {y : MethodName} {cc : ByteArray} {nL : Nat} {ret : Option FieldType} {own : String} {fr lo : Nat} {as : List Value} {σ σ' : HpT} {o : Except Nat (Option Value)} {Kc Ks : Nat} (hy : plainName y.cls = true) (hc : y.cls = own) {L : List (Nat × Value)} (hn : (lg_sl as).length ≤ nL) (hL : lv_args 0 as = L)
    (body : ∀ (Δ : AmbT) (Γ : CtxT), Bd Δ Γ own cc nL fr lo Kc Ks → En Δ Γ o σ' Kc Ks ret → Γ.2.2.2.2.2.2.2.2.1.name = y.name → GW Δ Γ 0 0 0 L [] σ) : Ct l y cc nL ret fr lo as σ o σ' Kc Ks := by
  intro hl D aC φ0 N0 φ
  refine vx_ofW (cc := cc) (maxL := nL) (ret := ret) hy rfl ?_
  intro p e s m args below meth c s₁ B hml hex hv
  obtain ⟨rfl, hP, hD, hK, hN0, hφ, hw, hE, hs⟩ := hv
  have hts := atoms_spec (ws := Cond.code y cc nL ret :: ALLw) B.pre
  have hown : s.vm.findClass own = some m.cls := hc ▸ findClass_of_methodNamed B.named
  have hin : meth.name = y.name := (name_of_methodNamed B.named B.method).1
  have k := body (D, aC, φ0, N0, φ, σ) (p, l, e, ({ frames := fr, locals := lo, cells := Kc, slots := Ks } : Room), s, m, (as.map (en φ)).toArray, below, meth, c, vx_MQ below (Qr (D, aC, φ0, N0, φ, σ) o σ') (Qx (D, aC, φ0, N0, φ, σ) o σ') (as.map (en φ)).toArray s Kc Ks (AA (D, aC, φ0, N0, φ, σ))) ⟨B.exec, B.bytes, hml, hown, fun w h => hts w (List.mem_cons_of_mem _ h), hK, hN0, hE, rfl, rfl, rfl, rfl, B.notSynchronized, hl⟩ ⟨rfl, B.returns, hex⟩ hin
  have h1 := lv_entry (as.map (en φ)) (n := nL) (by rw [en_sl]; exact hn)
  rw [lg_entry_eq]
  rw [en_args, hL, ← hml] at h1
  rw [← hml]
  exact k φ s.heap [] _ ⟨hP, hD, va_S.rf, hφ, hw, fun _ _ => rfl, Nat.le_refl _⟩ (fun _ h => absurd h List.not_mem_nil) (hL ▸ LC_args as 0 hs) h1
section GE
variable {Δ : AmbT} {Γ : CtxT} {own : String} {cc : ByteArray} {nL fr lo Kc Ks kc ks pc : Nat} {L : List (Nat × Value)} {st : List Value} {σ : HpT}
theorem Rp.pst {s : State} {φ : Nat → Nat} {H : Heap} {locs : List Loc} (h : Rp Δ s φ σ H locs) : Pst Δ φ σ H := ⟨h.2.2.2.2.2.1, h.2.2.2.2.2.2, h.1, h.2.1, h.2.2.2.1, h.2.2.2.2.1⟩
theorem Rp.va_F {s t : State} {φ : Nat → Nat} {H : Heap} {locs : List Loc} (h : Rp Δ s φ σ H locs) (ht : t.heap = H) : va_F (AA Δ) s t := h.2.2.1.F ht
theorem g_iret (B : Bd Δ Γ own cc nL fr lo Kc Ks) {v : Int32} (E : En Δ Γ (.ok (some (.int v))) σ Kc Ks (some .int)) (hc : kc ≤ Kc) (hs : ks ≤ Ks) (d : decode cc pc = .ok (.ireturn, 1)) : GW Δ Γ kc ks pc L [.int v] σ := by
  intro φ H locs ls hp hst hL hl
  obtain ⟨p, l, e, R, s, m, args, below, meth, c, Q⟩ := Γ
  obtain ⟨hQ, hr, -⟩ := E
  dsimp only at hQ hr ⊢
  rw [hQ]
  refine W.widen hc hs (vx_ret ?_)
  have hlocks : meth.locks = false := B.2.2.2.2.2.2.2.2.2.2.2.2.1
  exact W.iret B.1 B.2.1 hr (fun t ht _ => ⟨⟨φ, _, rfl, rfl, by rw [ht]; exact hp.pst, fun w e => by cases e; trivial⟩, hp.va_F ht⟩) hp.2.2.1.2.2 d
theorem g_zret (B : Bd Δ Γ own cc nL fr lo Kc Ks) {v : Int32} {ty : FieldType} (E : En Δ Γ (.ok (some (.int v))) σ Kc Ks (some ty)) (hn : narrow ty (.int v) = .int v) (hc : kc ≤ Kc) (hs : ks ≤ Ks) (d : decode cc pc = .ok (.ireturn, 1)) : GW Δ Γ kc ks pc L [.int v] σ := by
  intro φ H locs ls hp hst hL hl
  obtain ⟨p, l, e, R, s, m, args, below, meth, c, Q⟩ := Γ
  obtain ⟨hQ, hr, -⟩ := E
  dsimp only at hQ hr ⊢
  rw [hQ]
  refine W.widen hc hs (vx_ret ?_)
  have hlocks : meth.locks = false := B.2.2.2.2.2.2.2.2.2.2.2.2.1
  exact W.zret B.1 B.2.1 hr hn (fun t ht _ => ⟨⟨φ, _, rfl, rfl, by rw [ht]; exact hp.pst, fun w e => by cases e; trivial⟩, hp.va_F ht⟩) hp.2.2.1.2.2 d
theorem g_lret (B : Bd Δ Γ own cc nL fr lo Kc Ks) {v : Int64} (E : En Δ Γ (.ok (some (.long v))) σ Kc Ks (some .long)) (hc : kc ≤ Kc) (hs : ks ≤ Ks) (d : decode cc pc = .ok (.lreturn, 1)) : GW Δ Γ kc ks pc L [.long v] σ := by
  intro φ H locs ls hp hst hL hl
  obtain ⟨p, l, e, R, s, m, args, below, meth, c, Q⟩ := Γ
  obtain ⟨hQ, hr, -⟩ := E
  dsimp only at hQ hr ⊢
  rw [hQ]
  refine W.widen hc hs (vx_ret ?_)
  have hlocks : meth.locks = false := B.2.2.2.2.2.2.2.2.2.2.2.2.1
  exact W.lret B.1 B.2.1 hr (fun t ht _ => ⟨⟨φ, _, rfl, rfl, by rw [ht]; exact hp.pst, fun w e => by cases e; trivial⟩, hp.va_F ht⟩) hp.2.2.1.2.2 d
theorem g_fret (B : Bd Δ Γ own cc nL fr lo Kc Ks) {v : UInt32} (E : En Δ Γ (.ok (some (.float v))) σ Kc Ks (some .float)) (hc : kc ≤ Kc) (hs : ks ≤ Ks) (d : decode cc pc = .ok (.freturn, 1)) : GW Δ Γ kc ks pc L [.float v] σ := by
  intro φ H locs ls hp hst hL hl
  obtain ⟨p, l, e, R, s, m, args, below, meth, c, Q⟩ := Γ
  obtain ⟨hQ, hr, -⟩ := E
  dsimp only at hQ hr ⊢
  rw [hQ]
  refine W.widen hc hs (vx_ret ?_)
  have hlocks : meth.locks = false := B.2.2.2.2.2.2.2.2.2.2.2.2.1
  exact W.fret B.1 B.2.1 hr (fun t ht _ => ⟨⟨φ, _, rfl, rfl, by rw [ht]; exact hp.pst, fun w e => by cases e; trivial⟩, hp.va_F ht⟩) hp.2.2.1.2.2 d
theorem g_dret (B : Bd Δ Γ own cc nL fr lo Kc Ks) {v : UInt64} (E : En Δ Γ (.ok (some (.double v))) σ Kc Ks (some .double)) (hc : kc ≤ Kc) (hs : ks ≤ Ks) (d : decode cc pc = .ok (.dreturn, 1)) : GW Δ Γ kc ks pc L [.double v] σ := by
  intro φ H locs ls hp hst hL hl
  obtain ⟨p, l, e, R, s, m, args, below, meth, c, Q⟩ := Γ
  obtain ⟨hQ, hr, -⟩ := E
  dsimp only at hQ hr ⊢
  rw [hQ]
  refine W.widen hc hs (vx_ret ?_)
  have hlocks : meth.locks = false := B.2.2.2.2.2.2.2.2.2.2.2.2.1
  exact W.dret B.1 B.2.1 hr (fun t ht _ => ⟨⟨φ, _, rfl, rfl, by rw [ht]; exact hp.pst, fun w e => by cases e; trivial⟩, hp.va_F ht⟩) hp.2.2.1.2.2 d
theorem g_vret (B : Bd Δ Γ own cc nL fr lo Kc Ks) (E : En Δ Γ (.ok none) σ Kc Ks none) (hc : kc ≤ Kc) (hs : ks ≤ Ks) (d : decode cc pc = .ok (.return_, 1)) : GW Δ Γ kc ks pc L [] σ := by
  intro φ H locs ls hp hst hL hl
  obtain ⟨p, l, e, R, s, m, args, below, meth, c, Q⟩ := Γ
  obtain ⟨hQ, hr, -⟩ := E
  dsimp only at hQ hr ⊢
  rw [hQ]
  refine W.widen hc hs (vx_ret ?_)
  have hlocks : meth.locks = false := B.2.2.2.2.2.2.2.2.2.2.2.2.1
  exact W.vret B.1 B.2.1 hr (fun t ht _ => ⟨⟨φ, _, rfl, rfl, by rw [ht]; exact hp.pst, fun w e => by cases e⟩, hp.va_F ht⟩) hp.2.2.1.2.2 d
theorem g_aret (B : Bd Δ Γ own cc nL fr lo Kc Ks) {v : Option Nat} {ty : FieldType} (E : En Δ Γ (.ok (some (va_rf v))) σ Kc Ks (some ty)) (hty : (∃ n, ty = .object n) ∨ ∃ t, ty = .array t) (hc : kc ≤ Kc) (hs : ks ≤ Ks) (d : decode cc pc = .ok (.areturn, 1)) : GW Δ Γ kc ks pc L [va_rf v] σ := by
  intro φ H locs ls hp hst hL hl
  obtain ⟨p, l, e, R, s, m, args, below, meth, c, Q⟩ := Γ
  obtain ⟨hQ, hr, -⟩ := E
  dsimp only at hQ hr ⊢
  rw [hQ]
  refine W.widen hc hs (vx_ret ?_)
  have hlocks : meth.locks = false := B.2.2.2.2.2.2.2.2.2.2.2.2.1
  exact W.aret B.1 B.2.1 hr hty (by cases v; exact Or.inl rfl; exact Or.inr ⟨_, rfl⟩) (fun t ht _ => ⟨⟨φ, _, rfl, rfl, by rw [ht]; exact hp.pst, fun w e => by cases e; exact hst.h⟩, hp.va_F ht⟩) hp.2.2.1.2.2 d
/-! calls -/
theorem pay {w : Cond} {s : State} {args : Array Value} (hm : w ∈ ALLw) (h : ∀ w ∈ ALLw, w.before args s = true) (a' : Array Value) (U : State) (hW : s.WarmedH U.vm) : w.before a' U = true := word_at hW (good_of_word (ALLw_good hm)) (h w hm)
/-- what is known of a method's name and code -/
def MI (y : MethodName) (cc : ByteArray) (nL : Nat) (ret : Option FieldType) (n : Nat) : Prop :=
  plainName y.cls = true ∧ Cond.code y cc nL ret ∈ ALLw ∧ Cond.initialized y.cls ∈ ALLw ∧ (y.cls ≠ "java/lang/invoke/MethodHandle" ∧ y.cls ≠ "java/lang/invoke/VarHandle") ∧ (parseMethodDescriptor y.desc).map (fun d => d.parameters.length) = some n
theorem MI.n {y : MethodName} {cc : ByteArray} {nL : Nat} {ret : Option FieldType} {n : Nat} (h : MI y cc nL ret n) : ∀ sig, parseMethodDescriptor y.desc = some sig → n = sig.parameters.length := fun sig e => by
  have h2 := h.2.2.2.2
  rw [e] at h2
  exact (Option.some.inj h2).symm
theorem blind {Δ : AmbT} {av as : List Value} : FrameBlind (va_Pc av (Pre Δ as)) := fun a U g mk q => by
  obtain ⟨h0, h1, h2, h3, h4, h5, h6, h7, h8⟩ := q
  exact ⟨h0, h1, h2, va_K.moved (u := U) (U := U.calling g mk a) (Vm.Alike.refl U.vm) h3, h4, h5, h6, Ev.moved (u := U) (U := U.calling g mk a) (State.WarmedH.refl U) h7, h8⟩
/-- the callee's start, out of where the caller's walk stands -/
theorem pre_of {s U : State} {φ : Nat → Nat} {H : Heap} {locs : List Loc} {as : List Value} (hp : Rp Δ s φ σ H locs) (hK : va_K Δ.1 gcl (tysOf Δ.2.1) s) (hN : Δ.2.2.2.1 ≤ s.heap.size) (hE : Ev Δ s s.heap) (hs : SC σ as) (hU : U.heap = H) (hW : s.WarmedH U.vm) : Pre (Δ.1, Δ.2.1, Δ.2.2.1, Δ.2.2.2.1, φ, σ) as U := by
  refine ⟨by rw [hU]; exact hp.1, hp.2.1, va_K.moved hW.alike hK, by rw [hU]; exact Nat.le_trans hN hp.2.2.1.1, hp.2.2.2.1, hp.2.2.2.2.1, ?_, hs⟩
  rw [hU]
  exact Ev.moved (Δ := (Δ.1, Δ.2.1, Δ.2.2.1, Δ.2.2.2.1, φ, σ)) hW (Ev.kept (Δ := (Δ.1, Δ.2.1, Δ.2.2.1, Δ.2.2.2.1, φ, σ)) (fun q h1 h2 => hp.2.2.1.2.1 q h1 h2) hE)
theorem en_map {φ φ' : Nat → Nat} {σ : HpT} (h : ∀ j, CLn σ j → φ' j = φ j) : ∀ (st : List Value), SC σ st → st.map (en φ) = st.map (en φ') := by
  intro st hs
  apply List.map_congr_left
  intro v hv
  exact (en_of h (hs v hv)).symm
theorem enL_map {φ φ' : Nat → Nat} {σ : HpT} (h : ∀ j, CLn σ j → φ' j = φ j) (L : List (Nat × Value)) (hs : ∀ q ∈ L, CL σ q.2) : enL φ L = enL φ' L := by
  unfold enL
  apply List.map_congr_left
  intro q hq
  rw [en_of h (hs q hq)]
/-- where the walk stands behind a call -/
theorem Rp.behind {s t : State} {st₀ : State} {T' : State} {φ φ' : Nat → Nat} {σ1 : HpT} {H : Heap} {locs L9 : List Loc} (hp : Rp Δ s φ σ H locs) (hPs : Pst (Δ.1, Δ.2.1, Δ.2.2.1, Δ.2.2.2.1, φ, σ) φ' σ1 t.heap) (h0 : st₀.heap = H) (e1 : T'.heap = t.heap) (hN0 : Δ.2.2.2.1 ≤ s.heap.size) (hL : ∀ q ∈ L9, AA Δ q.base) (hF : _root_.Jvm.Pilot.@@N@@.va_F (AA Δ) st₀ t) : Rp Δ s φ' σ1 T'.heap (locs ++ L9) := by
  obtain ⟨k1, k2, k3, k4, k5, k6⟩ := hPs
  obtain ⟨h1, h2, h3, h4, h5, h6, h7⟩ := hp
  obtain ⟨-, -, g3⟩ := vx_keep (A1 := AA Δ) h0 e1 h3 (fun q _ h => h) (fun _ h => h) hL hF
  refine ⟨by rw [e1]; exact k3, k4, g3, k5, k6, fun j hj => ?_, Nat.le_trans h7 k2⟩
  have hj2 : CLn σ j := by
    rcases hj with q | q
    · exact Or.inl (Nat.lt_of_lt_of_le q h7)
    · exact Or.inr q
  exact (k1 j hj2).trans (h6 j hj)
end GE
end
section
/-! CALLS -/
def isK (σ : HpT) (r : Option Nat) (κ : Nat) : Option Unit := match r with
  | none => none
  | some a => if hK σ a = κ then some () else none
def IsK (σ : HpT) (r : Option Nat) (κ : Nat) : Prop := ∃ a, r = some a ∧ hK σ a = κ
theorem isK_s {σ : HpT} {r : Option Nat} {κ : Nat} {u : Unit} (h : isK σ r κ = some u) : IsK σ r κ := by
  cases r with
  | none => cases h
  | some a =>
    unfold isK at h
    dsimp only at h
    split at h
    · rename_i h1
      exact ⟨a, rfl, h1⟩
    · cases h
def LV (own : String) (idx : Nat) (y : MethodName) : Prop := Cond.methodLink own idx y ∈ ALLw ∧ Cond.instanceMethod y ∈ ALLw ∧ Cond.selects y.cls y y ∈ ALLw
def LSt (own : String) (idx : Nat) (y : MethodName) : Prop := Cond.methodLink own idx y ∈ ALLw ∧ Cond.static y ∈ ALLw
def LI (own : String) (idx : Nat) (y : MethodName) : Prop := Cond.methodLink own idx y ∈ ALLw ∧ Cond.instanceMethod y ∈ ALLw ∧ y.name = "<init>"
def LNI (own host : String) (idx : Nat) (y : MethodName) : Prop := Cond.methodLinkNest own idx y host ∈ ALLn ∧ Cond.instanceMethod y ∈ ALLw ∧ y.name = "<init>"
def LNS (own host : String) (idx : Nat) (y : MethodName) : Prop := Cond.methodLinkNest own idx y host ∈ ALLn ∧ Cond.static y ∈ ALLw
section GC
variable {Δ : AmbT} {Γ : CtxT} {own : String} {cc : ByteArray} {nL fr lo Kc Ks kc ks pc : Nat} {L : List (Nat × Value)} {st : List Value} {σ : HpT}
theorem cat_le (φ : Nat → Nat) : ∀ (st : List Value) (n : Nat), st.length ≤ n → ((st.map (en φ)).map fun v => v.category).sum ≤ 2 * n := by
  intro st
  induction st with
  | nil => intro n _; simp
  | cons v st ih =>
    intro n h
    cases n with
    | zero => simp at h
    | succ n =>
      have h1 := ih n (by simp at h; omega)
      have h2 : v.category ≤ 2 := by rcases lv_cat v with e | e <;> omega
      simp only [List.map_cons, List.sum_cons, en_cat]
      omega
theorem SC.tol {σ : HpT} {v : Option Value} (h : ∀ w, v = some w → CL σ w) (k : SC σ st) : SC σ (v.toList ++ st) := by
  intro w hw
  rcases List.mem_append.mp hw with e | e
  · cases v with
    | none => cases e
    | some x =>
      have e2 : w = x := by simpa using e
      rw [e2]
      exact h x rfl
  · exact k w e
/-- behind a call that returned -/
theorem of_run (B : Bd Δ Γ own cc nL fr lo Kc Ks) {st0 : List Value} {v : Option Value} {σ1 : HpT} {k1c k1s : Nat} {φ : Nat → Nat} {H : Heap} {locs : List Loc} {ls : Array Slot} {a0 : Array Value} (hp : Rp Δ Γ.2.2.2.2.1 φ σ H locs) (hst : SC σ st) (hL : ∀ q ∈ L, CL σ q.2) (hl : lv_has ls Γ.2.2.2.2.2.2.2.2.2.1.maxLocals (enL φ L))
    (hr : vx_Run Γ.1 Γ.2.1 Γ.2.2.1 Γ.2.2.2.1 Γ.2.2.2.2.1 Γ.2.2.2.2.2.1 Γ.2.2.2.2.2.2.1 Γ.2.2.2.2.2.2.2.1 Γ.2.2.2.2.2.2.2.2.1 Γ.2.2.2.2.2.2.2.2.2.1 H locs kc ks k1c k1s (F0 Γ.2.2.2.2.2.1 pc ls st0) (st.map (en φ)) (Qr (Δ.1, Δ.2.1, Δ.2.2.1, Δ.2.2.2.1, φ, σ) (.ok v) σ1 a0) (Qx (Δ.1, Δ.2.1, Δ.2.2.1, Δ.2.2.2.1, φ, σ) (.ok v) σ1) (AA Δ))
    (kk : GW Δ Γ (kc + k1c) (ks + k1s) (pc + 3) L (v.toList ++ st) σ1) : W Γ.1 Γ.2.1 Γ.2.2.1 Γ.2.2.2.1 Γ.2.2.2.2.1 Γ.2.2.2.2.2.1 Γ.2.2.2.2.2.2.1 Γ.2.2.2.2.2.2.2.1 Γ.2.2.2.2.2.2.2.2.1 Γ.2.2.2.2.2.2.2.2.2.1 H locs kc ks Γ.2.2.2.2.2.2.2.2.2.2 (F0 Γ.2.2.2.2.2.1 pc ls st0) := by
  intro T hT X
  rcases hr T hT X with ⟨v1, st₀, t, T', L9, h0, X', hL9, e1, e2, ⟨⟨φ', v2, hv, hov, hPs, hcl⟩, hF⟩, stp⟩ | ⟨q, st₀, t, T', L9, E, ce, h0, X', hL9, e1, e2, ⟨⟨φ', n, hv, -⟩, -⟩, -⟩
  · cases hv
    cases hov
    have hB := hp.behind hPs h0 e1 B.2.2.2.2.2.2.1 hL9 hF
    have hm : ∀ j, CLn σ j → φ' j = φ j := hPs.1
    have hn : hN σ ≤ hN σ1 := hPs.2.1
    have hst1 : SC σ1 st := fun w hw => (hst w hw).mono hn
    obtain ⟨t2, a1, b1⟩ := kk φ' T'.heap (locs ++ L9) ls hB (SC.tol hcl hst1) (fun q hq => (hL q hq).mono hn) (by rw [← enL_map hm L hL]; exact hl) T' rfl X'
    refine ⟨t2, stp t2 ?_, b1⟩
    have e : (v.toList ++ st).map (en φ') = (v.map (en φ')).toList ++ st.map (en φ) := by
      rw [List.map_append, ← en_map hm st hst]
      cases v <;> rfl
    rw [e] at a1
    exact a1
  · cases hv
/-- behind a call that threw, where nobody catches -/
theorem of_runX (B : Bd Δ Γ own cc nL fr lo Kc Ks) {st0 : List Value} {n : Nat} {σ1 : HpT} {k1c k1s : Nat} {ret : Option FieldType} {φ : Nat → Nat} {H : Heap} {locs : List Loc} {ls : Array Slot} {a0 : Array Value} (hp : Rp Δ Γ.2.2.2.2.1 φ σ H locs)
    (hr : vx_Run Γ.1 Γ.2.1 Γ.2.2.1 Γ.2.2.2.1 Γ.2.2.2.2.1 Γ.2.2.2.2.2.1 Γ.2.2.2.2.2.2.1 Γ.2.2.2.2.2.2.2.1 Γ.2.2.2.2.2.2.2.2.1 Γ.2.2.2.2.2.2.2.2.2.1 H locs kc ks k1c k1s (F0 Γ.2.2.2.2.2.1 pc ls st0) (st.map (en φ)) (Qr (Δ.1, Δ.2.1, Δ.2.2.1, Δ.2.2.2.1, φ, σ) (.error n) σ1 a0) (Qx (Δ.1, Δ.2.1, Δ.2.2.1, Δ.2.2.2.1, φ, σ) (.error n) σ1) (AA Δ))
    (E : En Δ Γ (.error n) σ1 Kc Ks ret) (hc : kc + k1c ≤ Kc) (hs : ks + k1s ≤ Ks) : W Γ.1 Γ.2.1 Γ.2.2.1 Γ.2.2.2.1 Γ.2.2.2.2.1 Γ.2.2.2.2.2.1 Γ.2.2.2.2.2.2.1 Γ.2.2.2.2.2.2.2.1 Γ.2.2.2.2.2.2.2.2.1 Γ.2.2.2.2.2.2.2.2.2.1 H locs kc ks Γ.2.2.2.2.2.2.2.2.2.2 (F0 Γ.2.2.2.2.2.1 pc ls st0) := by
  intro T hT X
  rcases hr T hT X with ⟨v1, st₀, t, T', L9, h0, X', hL9, e1, e2, ⟨⟨φ', v2, hv, -⟩, -⟩, -⟩ | ⟨q, st₀, t, T', L9, E9, ce, h0, X', hL9, e1, e2, ⟨⟨φ', n2, hv, hE9, hPs⟩, hF⟩, hce, hcv, hcl, stp⟩
  · cases hv
  · cases hv
    have hB := hp.behind hPs h0 e1 B.2.2.2.2.2.2.1 hL9 hF
    have hW := X'.warmed.alike
    rw [e2] at hW
    have k : vx_W Γ.1 Γ.2.1 Γ.2.2.1 Γ.2.2.2.1 Γ.2.2.2.2.1 Γ.2.2.2.2.2.1 Γ.2.2.2.2.2.2.1 Γ.2.2.2.2.2.2.2.1 Γ.2.2.2.2.2.2.2.2.1 Γ.2.2.2.2.2.2.2.2.2.1 T'.heap (locs ++ L9) (kc + k1c) (ks + k1s) (vx_MQ Γ.2.2.2.2.2.2.2.1 (Qr Δ (.error n) σ1) (Qx Δ (.error n) σ1) Γ.2.2.2.2.2.2.1 Γ.2.2.2.2.1 Kc Ks (AA Δ)) (F0 Γ.2.2.2.2.2.1 pc ls (st.map (en φ))) q :=
      vx_out (E := E9) (ce := ce) (fun x hx => (E.2.2 x hx).elim) B.2.2.2.2.2.2.2.2.2.2.2.2.1 (by rw [e1]; exact hce) hcv hcl (fun t9 ht9 _ => ⟨⟨φ', n, rfl, hE9, by rw [ht9]; exact hB.pst⟩, hB.va_F ht9⟩) hB.2.2.1.2.2 hc hs
    obtain ⟨t2, a1, b1⟩ := k T' rfl X'
    rw [E.1]
    exact ⟨t2, stp.trans a1, b1⟩
section CR
variable {y : MethodName} {cc1 : ByteArray} {nL1 : Nat} {ret1 : Option FieldType} {n fr1 lo1 idx : Nat} {as : List Value} {o : Except Nat (Option Value)} {σ1 : HpT} {k1c k1s : Nat} {φ : Nat → Nat} {H : Heap} {locs : List Loc} {ls : Array Slot}
theorem callB (B : Bd Δ Γ own cc nL fr lo Kc Ks) (hM : MI y cc1 nL1 ret1 n) (hlink : Cond.methodLink own idx y ∈ ALLw) (hR : fr1 + 1 ≤ fr ∧ 8 + (nL1 + 11) + lo1 ≤ lo) : CallB Γ.2.2.2.1 Γ.2.2.2.2.1 Γ.2.2.2.2.2.2.1 own idx y cc1 nL1 ret1 (Cond.code y cc1 nL1 ret1 :: ALLw) ({ frames := fr1, locals := lo1, cells := k1c, slots := k1s } : Room) k1c k1s n := by
  have hts := B.2.2.2.2.1
  refine ⟨rfl, rfl, by rw [B.2.2.2.2.2.2.2.2.1]; exact hR.1, by rw [B.2.2.2.2.2.2.2.2.2.1]; exact hR.2, fun w hw a' U hW => ?_, List.mem_cons_self, hts _ hM.2.1, hts _ hM.2.2.1, hM.2.2.2.1, hM.n, hts _ hlink⟩
  rcases List.mem_cons.mp hw with e | e
  · rw [e]; exact pay hM.2.1 hts a' U hW
  · exact pay e hts a' U hW
theorem callCN {host : String} (B : Bd Δ Γ own cc nL fr lo Kc Ks) (hM : MI y cc1 nL1 ret1 n) (hlink : Cond.methodLinkNest own idx y host ∈ ALLn) (hR : fr1 + 1 ≤ fr ∧ 8 + (nL1 + 11) + lo1 ≤ lo) : va_CN Γ.2.2.2.1 Γ.2.2.2.2.1 Γ.2.2.2.2.2.2.1 own idx y host cc1 nL1 ret1 (Cond.code y cc1 nL1 ret1 :: ALLw) ({ frames := fr1, locals := lo1, cells := k1c, slots := k1s } : Room) k1c k1s n := by
  have hts := B.2.2.2.2.1
  refine ⟨⟨rfl, rfl, by rw [B.2.2.2.2.2.2.2.2.1]; exact hR.1, by rw [B.2.2.2.2.2.2.2.2.2.1]; exact hR.2, fun w hw a' U hW => ?_, List.mem_cons_self⟩, hts _ hM.2.1, hts _ hM.2.2.1, hM.2.2.2.1, hM.n, va_Nw.use rfl (B.2.2.2.2.2.2.2.1.2.2.2.2.2.2.2.2.2.2 _ hlink)⟩
  rcases List.mem_cons.mp hw with e | e
  · rw [e]; exact pay hM.2.1 hts a' U hW
  · exact pay e hts a' U hW
theorem preV (B : Bd Δ Γ own cc nL fr lo Kc Ks) {a κ : Nat} {q : vw_C} (hp : Rp Δ Γ.2.2.2.2.1 φ σ H locs) (hk : hK σ a = κ) (h12 : κ < 12) (hq : gcl[κ]? = some q) (hs : SC σ (.ref a :: as)) : PreV Γ.2.2.2.2.1 H q.1 (φ a) (va_Pc ((Value.ref a :: as).map (en φ)) (Pre (Δ.1, Δ.2.1, Δ.2.2.1, Δ.2.2.2.1, φ, σ) (.ref a :: as))) (as.map (en φ)) := by
  have ha := at_lt hp hk h12
  have e := ws_at (aC := Δ.2.1) (φ := φ) ha
  rw [entC hk (by omega)] at e
  exact ⟨blind, va_recv B.2.2.2.2.2.1 hp.1 hq e, fun U hU hW => ⟨rfl, pre_of hp B.2.2.2.2.2.1 B.2.2.2.2.2.2.1 B.2.2.2.2.2.2.2.1 hs hU hW⟩⟩
theorem preS (B : Bd Δ Γ own cc nL fr lo Kc Ks) (hp : Rp Δ Γ.2.2.2.2.1 φ σ H locs) (hs : SC σ as) : PreS Γ.2.2.2.2.1 H (va_Pc (as.map (en φ)) (Pre (Δ.1, Δ.2.1, Δ.2.2.1, Δ.2.2.2.1, φ, σ) as)) (as.map (en φ)) :=
  ⟨blind, fun U hU hW => ⟨rfl, pre_of hp B.2.2.2.2.2.1 B.2.2.2.2.2.2.1 B.2.2.2.2.2.2.2.1 hs hU hW⟩⟩
theorem SC.app {σ : HpT} {s1 s2 : List Value} (h : SC σ (s1 ++ s2)) : SC σ s1 ∧ SC σ s2 := ⟨fun v hv => h v (List.mem_append_left _ hv), fun v hv => h v (List.mem_append_right _ hv)⟩
theorem SC.rev {σ : HpT} {s1 : List Value} (h : SC σ s1.reverse) : SC σ s1 := fun v hv => h v (List.mem_reverse.mpr hv)
theorem runV (B : Bd Δ Γ own cc nL fr lo Kc Ks) {κ : Nat} {r : Option Nat} {q : vw_C} (hk : IsK σ r κ) (h12 : κ < 12) (hq : gcl[κ]? = some q) (hy : q.1 = y.cls) (hC : Ct Γ.2.1 y cc1 nL1 ret1 fr1 lo1 (va_rf r :: as) σ o σ1 k1c k1s) (hM : MI y cc1 nL1 ret1 n) (hl0 : LV own idx y) (hR : fr1 + 1 ≤ fr ∧ 8 + (nL1 + 11) + lo1 ≤ lo) (hn : as.length = n) {stk : List Value} (hstk : stk = as.reverse ++ (va_rf r :: st)) (h4 : st.length ≤ 4) (d : decode cc pc = .ok (.invokevirtual idx, 3)) (hc : kc + k1c ≤ Kc) (hs : ks + k1s ≤ Ks)
    (hp : Rp Δ Γ.2.2.2.2.1 φ σ H locs) (hst : SC σ stk) (hl : lv_has ls Γ.2.2.2.2.2.2.2.2.2.1.maxLocals (enL φ L)) :
    vx_Run Γ.1 Γ.2.1 Γ.2.2.1 Γ.2.2.2.1 Γ.2.2.2.2.1 Γ.2.2.2.2.2.1 Γ.2.2.2.2.2.2.1 Γ.2.2.2.2.2.2.2.1 Γ.2.2.2.2.2.2.2.2.1 Γ.2.2.2.2.2.2.2.2.2.1 H locs kc ks k1c k1s (F0 Γ.2.2.2.2.2.1 pc ls (stk.map (en φ))) (st.map (en φ)) (Qr (Δ.1, Δ.2.1, Δ.2.2.1, Δ.2.2.2.1, φ, σ) o σ1 ((va_rf r :: as).map (en φ)).toArray) (Qx (Δ.1, Δ.2.1, Δ.2.2.1, Δ.2.2.2.1, φ, σ) o σ1) (AA Δ) := by
  obtain ⟨a, rfl, hk⟩ := hk
  rw [hstk] at hst
  have hs1 : SC σ (.ref a :: as) := SC.c (SC.h (SC.app hst).2) (SC.rev (SC.app hst).1)
  have hcat := cat_le φ st 4 h4
  exact vx_runV (C := q.1) (nL := nL) (As := as.map (en φ)) (b := φ a) (Ts := ALLw) ⟨B.1, B.2.1, B.2.2.1, B.2.2.2.1, B.2.2.2.2.1⟩ (hC B.2.2.2.2.2.2.2.2.2.2.2.2.2 Δ.1 Δ.2.1 Δ.2.2.1 Δ.2.2.2.1 φ) ⟨callB B hM hl0.1 hR, B.2.2.2.2.1 _ hl0.2.1, by rw [hy]; exact B.2.2.2.2.1 _ hl0.2.2⟩ (preV B hp hk h12 hq hs1) rfl (by rw [List.length_map]; exact hn) (by rw [← B.2.2.1]; exact hl.1) (by rw [hstk, List.map_append, List.map_reverse]; rfl) (by show 2 * 0 + _ ≤ 8; omega) d ⟨by rw [B.2.2.2.2.2.2.2.2.2.2.1]; exact hc, by rw [B.2.2.2.2.2.2.2.2.2.2.2.1]; exact hs⟩
theorem runS (B : Bd Δ Γ own cc nL fr lo Kc Ks) (hC : Ct Γ.2.1 y cc1 nL1 ret1 fr1 lo1 as σ o σ1 k1c k1s) (hM : MI y cc1 nL1 ret1 n) (hl0 : LSt own idx y) (hR : fr1 + 1 ≤ fr ∧ 8 + (nL1 + 11) + lo1 ≤ lo) (hn : as.length = n) {stk : List Value} (hstk : stk = as.reverse ++ st) (h4 : st.length ≤ 4) (d : decode cc pc = .ok (.invokestatic idx, 3)) (hc : kc + k1c ≤ Kc) (hs : ks + k1s ≤ Ks)
    (hp : Rp Δ Γ.2.2.2.2.1 φ σ H locs) (hst : SC σ stk) (hl : lv_has ls Γ.2.2.2.2.2.2.2.2.2.1.maxLocals (enL φ L)) :
    vx_Run Γ.1 Γ.2.1 Γ.2.2.1 Γ.2.2.2.1 Γ.2.2.2.2.1 Γ.2.2.2.2.2.1 Γ.2.2.2.2.2.2.1 Γ.2.2.2.2.2.2.2.1 Γ.2.2.2.2.2.2.2.2.1 Γ.2.2.2.2.2.2.2.2.2.1 H locs kc ks k1c k1s (F0 Γ.2.2.2.2.2.1 pc ls (stk.map (en φ))) (st.map (en φ)) (Qr (Δ.1, Δ.2.1, Δ.2.2.1, Δ.2.2.2.1, φ, σ) o σ1 (as.map (en φ)).toArray) (Qx (Δ.1, Δ.2.1, Δ.2.2.1, Δ.2.2.2.1, φ, σ) o σ1) (AA Δ) := by
  rw [hstk] at hst
  have hcat := cat_le φ st 4 h4
  exact vx_runS (nL := nL) (As := as.map (en φ)) (Ts := ALLw) ⟨B.1, B.2.1, B.2.2.1, B.2.2.2.1, B.2.2.2.2.1⟩ (hC B.2.2.2.2.2.2.2.2.2.2.2.2.2 Δ.1 Δ.2.1 Δ.2.2.1 Δ.2.2.2.1 φ) ⟨callB B hM hl0.1 hR, B.2.2.2.2.1 _ hl0.2⟩ (preS B hp (SC.rev (SC.app hst).1)) rfl (by rw [List.length_map]; exact hn) (by rw [← B.2.2.1]; exact hl.1) (by rw [hstk, List.map_append, List.map_reverse]) (by show 2 * 0 + _ ≤ 8; omega) d ⟨by rw [B.2.2.2.2.2.2.2.2.2.2.1]; exact hc, by rw [B.2.2.2.2.2.2.2.2.2.2.2.1]; exact hs⟩
theorem runNS {host : String} (B : Bd Δ Γ own cc nL fr lo Kc Ks) (hC : Ct Γ.2.1 y cc1 nL1 ret1 fr1 lo1 as σ o σ1 k1c k1s) (hM : MI y cc1 nL1 ret1 n) (hl0 : LNS own host idx y) (hR : fr1 + 1 ≤ fr ∧ 8 + (nL1 + 11) + lo1 ≤ lo) (hn : as.length = n) {stk : List Value} (hstk : stk = as.reverse ++ st) (h4 : st.length ≤ 4) (d : decode cc pc = .ok (.invokestatic idx, 3)) (hc : kc + k1c ≤ Kc) (hs : ks + k1s ≤ Ks)
    (hp : Rp Δ Γ.2.2.2.2.1 φ σ H locs) (hst : SC σ stk) (hl : lv_has ls Γ.2.2.2.2.2.2.2.2.2.1.maxLocals (enL φ L)) :
    vx_Run Γ.1 Γ.2.1 Γ.2.2.1 Γ.2.2.2.1 Γ.2.2.2.2.1 Γ.2.2.2.2.2.1 Γ.2.2.2.2.2.2.1 Γ.2.2.2.2.2.2.2.1 Γ.2.2.2.2.2.2.2.2.1 Γ.2.2.2.2.2.2.2.2.2.1 H locs kc ks k1c k1s (F0 Γ.2.2.2.2.2.1 pc ls (stk.map (en φ))) (st.map (en φ)) (Qr (Δ.1, Δ.2.1, Δ.2.2.1, Δ.2.2.2.1, φ, σ) o σ1 (as.map (en φ)).toArray) (Qx (Δ.1, Δ.2.1, Δ.2.2.1, Δ.2.2.2.1, φ, σ) o σ1) (AA Δ) := by
  rw [hstk] at hst
  have hcat := cat_le φ st 4 h4
  exact vx_runSN (nL := nL) (As := as.map (en φ)) (Ts := ALLw) ⟨B.1, B.2.1, B.2.2.1, B.2.2.2.1, B.2.2.2.2.1⟩ (hC B.2.2.2.2.2.2.2.2.2.2.2.2.2 Δ.1 Δ.2.1 Δ.2.2.1 Δ.2.2.2.1 φ) ⟨callCN B hM hl0.1 hR, B.2.2.2.2.1 _ hl0.2, trivial⟩ (preS B hp (SC.rev (SC.app hst).1)) rfl (by rw [List.length_map]; exact hn) (by rw [← B.2.2.1]; exact hl.1) (by rw [hstk, List.map_append, List.map_reverse]) (by show 2 * 0 + _ ≤ 8; omega) d ⟨by rw [B.2.2.2.2.2.2.2.2.2.2.1]; exact hc, by rw [B.2.2.2.2.2.2.2.2.2.2.2.1]; exact hs⟩
theorem runI (B : Bd Δ Γ own cc nL fr lo Kc Ks) {a : Nat} (hC : Ct Γ.2.1 y cc1 nL1 none fr1 lo1 (.ref a :: as) σ o σ1 k1c k1s) (hM : MI y cc1 nL1 none n) (hl0 : LI own idx y) (hR : fr1 + 1 ≤ fr ∧ 8 + (nL1 + 11) + lo1 ≤ lo) (hn : as.length = n) {stk : List Value} (hstk : stk = as.reverse ++ (.ref a :: st)) (h4 : st.length ≤ 4) (d : decode cc pc = .ok (.invokespecial idx, 3)) (hc : kc + k1c ≤ Kc) (hs : ks + k1s ≤ Ks)
    (hp : Rp Δ Γ.2.2.2.2.1 φ σ H locs) (hst : SC σ stk) (hl : lv_has ls Γ.2.2.2.2.2.2.2.2.2.1.maxLocals (enL φ L)) :
    vx_Run Γ.1 Γ.2.1 Γ.2.2.1 Γ.2.2.2.1 Γ.2.2.2.2.1 Γ.2.2.2.2.2.1 Γ.2.2.2.2.2.2.1 Γ.2.2.2.2.2.2.2.1 Γ.2.2.2.2.2.2.2.2.1 Γ.2.2.2.2.2.2.2.2.2.1 H locs kc ks k1c k1s (F0 Γ.2.2.2.2.2.1 pc ls (stk.map (en φ))) (st.map (en φ)) (Qr (Δ.1, Δ.2.1, Δ.2.2.1, Δ.2.2.2.1, φ, σ) o σ1 ((.ref a :: as).map (en φ)).toArray) (Qx (Δ.1, Δ.2.1, Δ.2.2.1, Δ.2.2.2.1, φ, σ) o σ1) (AA Δ) := by
  rw [hstk] at hst
  have hs1 : SC σ (.ref a :: as) := SC.c (SC.h (SC.app hst).2) (SC.rev (SC.app hst).1)
  have hcat := cat_le φ st 4 h4
  exact vx_runI (nL := nL) (As := as.map (en φ)) (b := φ a) (Ts := ALLw) ⟨B.1, B.2.1, B.2.2.1, B.2.2.2.1, B.2.2.2.2.1⟩ (hC B.2.2.2.2.2.2.2.2.2.2.2.2.2 Δ.1 Δ.2.1 Δ.2.2.1 Δ.2.2.2.1 φ) ⟨callB B hM hl0.1 hR, hl0.2.2, B.2.2.2.2.1 _ hl0.2.1⟩ (preS B hp hs1) rfl (by rw [List.length_map]; exact hn) (by rw [← B.2.2.1]; exact hl.1) (by rw [hstk, List.map_append, List.map_reverse]; rfl) (by show 2 * 0 + _ ≤ 8; omega) d ⟨by rw [B.2.2.2.2.2.2.2.2.2.2.1]; exact hc, by rw [B.2.2.2.2.2.2.2.2.2.2.2.1]; exact hs⟩
theorem runNI {host : String} (B : Bd Δ Γ own cc nL fr lo Kc Ks) {a : Nat} (hC : Ct Γ.2.1 y cc1 nL1 none fr1 lo1 (.ref a :: as) σ o σ1 k1c k1s) (hM : MI y cc1 nL1 none n) (hl0 : LNI own host idx y) (hR : fr1 + 1 ≤ fr ∧ 8 + (nL1 + 11) + lo1 ≤ lo) (hn : as.length = n) {stk : List Value} (hstk : stk = as.reverse ++ (.ref a :: st)) (h4 : st.length ≤ 4) (d : decode cc pc = .ok (.invokespecial idx, 3)) (hc : kc + k1c ≤ Kc) (hs : ks + k1s ≤ Ks)
    (hp : Rp Δ Γ.2.2.2.2.1 φ σ H locs) (hst : SC σ stk) (hl : lv_has ls Γ.2.2.2.2.2.2.2.2.2.1.maxLocals (enL φ L)) :
    vx_Run Γ.1 Γ.2.1 Γ.2.2.1 Γ.2.2.2.1 Γ.2.2.2.2.1 Γ.2.2.2.2.2.1 Γ.2.2.2.2.2.2.1 Γ.2.2.2.2.2.2.2.1 Γ.2.2.2.2.2.2.2.2.1 Γ.2.2.2.2.2.2.2.2.2.1 H locs kc ks k1c k1s (F0 Γ.2.2.2.2.2.1 pc ls (stk.map (en φ))) (st.map (en φ)) (Qr (Δ.1, Δ.2.1, Δ.2.2.1, Δ.2.2.2.1, φ, σ) o σ1 ((.ref a :: as).map (en φ)).toArray) (Qx (Δ.1, Δ.2.1, Δ.2.2.1, Δ.2.2.2.1, φ, σ) o σ1) (AA Δ) := by
  rw [hstk] at hst
  have hs1 : SC σ (.ref a :: as) := SC.c (SC.h (SC.app hst).2) (SC.rev (SC.app hst).1)
  have hcat := cat_le φ st 4 h4
  exact vx_runIN (nL := nL) (As := as.map (en φ)) (b := φ a) (Ts := ALLw) ⟨B.1, B.2.1, B.2.2.1, B.2.2.2.1, B.2.2.2.2.1⟩ (hC B.2.2.2.2.2.2.2.2.2.2.2.2.2 Δ.1 Δ.2.1 Δ.2.2.1 Δ.2.2.2.1 φ) ⟨callCN B hM hl0.1 hR, hl0.2.2, B.2.2.2.2.1 _ hl0.2.1⟩ (preS B hp hs1) rfl (by rw [List.length_map]; exact hn) (by rw [← B.2.2.1]; exact hl.1) (by rw [hstk, List.map_append, List.map_reverse]; rfl) (by show 2 * 0 + _ ≤ 8; omega) d ⟨by rw [B.2.2.2.2.2.2.2.2.2.2.1]; exact hc, by rw [B.2.2.2.2.2.2.2.2.2.2.2.1]; exact hs⟩
end CR
end GC
end
section
/-! THE ROWS OF CALLS, MAKINGS, THROWS -/
section CMB
variable {α β γ : Type}
def bnP (o : Option α) (f : α → Option γ) : Option γ := match o with
  | none => none
  | some a => f a
def bnS (o : Option (α × HpT)) (f : α → HpT → Option γ) : Option γ := match o with
  | none => none
  | some (a, σ) => f a σ
def bnX (o : Option (Except Nat α)) (f : α → Option (Except Nat β)) : Option (Except Nat β) := match o with
  | none => none
  | some (.error e) => some (.error e)
  | some (.ok a) => f a
abbrev AT (α : Type) : Type := Option (Except Nat α × HpT × Nat × Nat)
def bnXA (σ : HpT) (o : Option (Except Nat α)) (f : α → AT β) : AT β := match o with
  | none => none
  | some (.error e) => some (.error e, σ, 1, 6)
  | some (.ok a) => f a
def bnA (o : AT α) (f : α → HpT → AT β) : AT β := match o with
  | none => none
  | some (.error e, σ, a, b) => some (.error e, σ, a, b)
  | some (.ok v, σ, a, b) => match f v σ with
    | none => none
    | some (o2, σ2, a2, b2) => some (o2, σ2, a + a2, b + b2)
theorem bnP_s {o : Option α} {f : α → Option γ} {y : γ} (h : bnP o f = some y) : ∃ a, o = some a ∧ f a = some y := by
  cases o with
  | none => cases h
  | some a => exact ⟨a, rfl, h⟩
theorem bnS_s {o : Option (α × HpT)} {f : α → HpT → Option γ} {y : γ} (h : bnS o f = some y) : ∃ a σ, o = some (a, σ) ∧ f a σ = some y := by
  cases o with
  | none => cases h
  | some a => exact ⟨a.1, a.2, rfl, h⟩
theorem bnX_s {o : Option (Except Nat α)} {f : α → Option (Except Nat β)} {y : Except Nat β} (h : bnX o f = some y) : (∃ e, o = some (.error e) ∧ y = .error e) ∨ ∃ a, o = some (.ok a) ∧ f a = some y := by
  cases o with
  | none => cases h
  | some a =>
    cases a with
    | error e => exact Or.inl ⟨e, rfl, (Option.some.inj h).symm⟩
    | ok a => exact Or.inr ⟨a, rfl, h⟩
theorem bnXA_s {σ : HpT} {o : Option (Except Nat α)} {f : α → AT β} {y : Except Nat β} {σ' : HpT} {a b : Nat} (h : bnXA σ o f = some (y, σ', a, b)) : (∃ e, o = some (.error e) ∧ y = .error e ∧ σ' = σ ∧ a = 1 ∧ b = 6) ∨ ∃ v, o = some (.ok v) ∧ f v = some (y, σ', a, b) := by
  cases o with
  | none => cases h
  | some x =>
    cases x with
    | error e =>
      have h := Option.some.inj h
      cases h
      exact Or.inl ⟨e, rfl, rfl, rfl, rfl, rfl⟩
    | ok v => exact Or.inr ⟨v, rfl, h⟩
theorem bnA_s {o : AT α} {f : α → HpT → AT β} {y : Except Nat β} {σ' : HpT} {a b : Nat} (h : bnA o f = some (y, σ', a, b)) : (∃ e, o = some (.error e, σ', a, b) ∧ y = .error e) ∨ ∃ v σ1 a1 b1 a2 b2, o = some (.ok v, σ1, a1, b1) ∧ f v σ1 = some (y, σ', a2, b2) ∧ a = a1 + a2 ∧ b = b1 + b2 := by
  cases o with
  | none => cases h
  | some x =>
    obtain ⟨x, σ1, a1, b1⟩ := x
    cases x with
    | error e =>
      have h := Option.some.inj h
      cases h
      exact Or.inl ⟨e, rfl, rfl⟩
    | ok v =>
      unfold bnA at h
      dsimp only at h
      cases e : f v σ1 with
      | none => rw [e] at h; cases h
      | some z =>
        obtain ⟨o2, σ2, a2, b2⟩ := z
        rw [e] at h
        have h := Option.some.inj h
        cases h
        exact Or.inr ⟨v, σ1, a1, b1, a2, b2, rfl, e, rfl, rfl⟩
/-! loops: a step goes on with new values, or ends -/
def lpP (f : α → Option (α ⊕ β)) : Nat → α → Option β
  | 0, _ => none
  | n + 1, a => match f a with
    | none => none
    | some (.inl a') => lpP f n a'
    | some (.inr b) => some b
def lpS (f : α → HpT → Option ((α ⊕ β) × HpT)) : Nat → α → HpT → Option (β × HpT)
  | 0, _, _ => none
  | n + 1, a, σ => match f a σ with
    | none => none
    | some (.inl a', σ') => lpS f n a' σ'
    | some (.inr b, σ') => some (b, σ')
def lpX (f : α → Option (Except Nat (α ⊕ β))) : Nat → α → Option (Except Nat β)
  | 0, _ => none
  | n + 1, a => match f a with
    | none => none
    | some (.error e) => some (.error e)
    | some (.ok (.inl a')) => lpX f n a'
    | some (.ok (.inr b)) => some (.ok b)
def lpA (f : α → HpT → AT (α ⊕ β)) : Nat → α → HpT → AT β
  | 0, _, _ => none
  | n + 1, a, σ => match f a σ with
    | none => none
    | some (.error e, σ', i, j) => some (.error e, σ', i, j)
    | some (.ok (.inl a'), σ', i, j) => match lpA f n a' σ' with
      | none => none
      | some (o2, σ2, i2, j2) => some (o2, σ2, i + i2, j + j2)
    | some (.ok (.inr b), σ', i, j) => some (.ok b, σ', i, j)
def FUEL : Nat := 200000
theorem lpP_w {f : α → Option (α ⊕ β)} {I : α → Prop} {r : β} (hb : ∀ a x, f a = some x → (∀ a', x = .inl a' → I a') → (∀ b, x = .inr b → b = r) → I a) : ∀ (n : Nat) (a : α), lpP f n a = some r → I a := by
  intro n
  induction n with
  | zero => intro a h; cases h
  | succ n ih =>
    intro a h
    unfold lpP at h
    cases e : f a with
    | none => rw [e] at h; cases h
    | some x =>
      rw [e] at h
      refine hb a x e (fun a' hx => ?_) (fun b hx => ?_)
      · subst hx; exact ih a' h
      · subst hx; exact Option.some.inj h
theorem lpS_w {f : α → HpT → Option ((α ⊕ β) × HpT)} {I : α → HpT → Prop} {r : β} {σr : HpT} (hb : ∀ a σ x σ', f a σ = some (x, σ') → (∀ a', x = .inl a' → I a' σ') → (∀ b, x = .inr b → b = r ∧ σ' = σr) → I a σ) : ∀ (n : Nat) (a : α) (σ : HpT), lpS f n a σ = some (r, σr) → I a σ := by
  intro n
  induction n with
  | zero => intro a σ h; cases h
  | succ n ih =>
    intro a σ h
    unfold lpS at h
    cases e : f a σ with
    | none => rw [e] at h; cases h
    | some x =>
      obtain ⟨x, σ'⟩ := x
      rw [e] at h
      refine hb a σ x σ' e (fun a' hx => ?_) (fun b hx => ?_)
      · subst hx; exact ih a' σ' h
      · subst hx
        have h := Option.some.inj h
        cases h
        exact ⟨rfl, rfl⟩
theorem lpX_w {f : α → Option (Except Nat (α ⊕ β))} {I : α → Prop} {r : Except Nat β} (hb : ∀ a x, f a = some x → (∀ a', x = .ok (.inl a') → I a') → (∀ b, x = .ok (.inr b) → r = .ok b) → (∀ e, x = .error e → r = .error e) → I a) : ∀ (n : Nat) (a : α), lpX f n a = some r → I a := by
  intro n
  induction n with
  | zero => intro a h; cases h
  | succ n ih =>
    intro a h
    unfold lpX at h
    cases e : f a with
    | none => rw [e] at h; cases h
    | some x =>
      rw [e] at h
      refine hb a x e (fun a' hx => ?_) (fun b hx => ?_) (fun b hx => ?_)
      · subst hx; exact ih a' h
      · subst hx; exact (Option.some.inj h).symm
      · subst hx; exact (Option.some.inj h).symm
theorem lpA_w {f : α → HpT → AT (α ⊕ β)} {I : α → HpT → Nat → Nat → Prop} {r : Except Nat β} {σr : HpT} {A B : Nat}
    (hb : ∀ a σ i j x σ' i1 j1, f a σ = some (x, σ', i1, j1) → (∀ a', x = .ok (.inl a') → I a' σ' (i + i1) (j + j1)) → (∀ a', x = .ok (.inl a') → i + i1 ≤ A ∧ j + j1 ≤ B) → (∀ b, x = .ok (.inr b) → r = .ok b ∧ σr = σ' ∧ i + i1 = A ∧ j + j1 = B) → (∀ e, x = .error e → r = .error e ∧ σr = σ' ∧ i + i1 = A ∧ j + j1 = B) → I a σ i j) :
    ∀ (n : Nat) (a : α) (σ : HpT) (i j k l : Nat), lpA f n a σ = some (r, σr, k, l) → i + k = A → j + l = B → I a σ i j := by
  intro n
  induction n with
  | zero => intro a σ i j k l h; cases h
  | succ n ih =>
    intro a σ i j k l h hi hj
    unfold lpA at h
    cases e : f a σ with
    | none => rw [e] at h; cases h
    | some x =>
      obtain ⟨x, σ', i1, j1⟩ := x
      rw [e] at h
      refine hb a σ i j x σ' i1 j1 e (fun a' hx => ?_) (fun a' hx => ?_) (fun b hx => ?_) (fun b hx => ?_)
      · subst hx
        dsimp only at h
        cases e2 : lpA f n a' σ' with
        | none => rw [e2] at h; cases h
        | some z =>
          obtain ⟨o2, σ2, i2, j2⟩ := z
          rw [e2] at h
          have h := Option.some.inj h
          cases h
          exact ih a' σ' (i + i1) (j + j1) i2 j2 e2 (by omega) (by omega)
      · subst hx
        dsimp only at h
        cases e2 : lpA f n a' σ' with
        | none => rw [e2] at h; cases h
        | some z =>
          obtain ⟨o2, σ2, i2, j2⟩ := z
          rw [e2] at h
          have h := Option.some.inj h
          cases h
          exact ⟨by omega, by omega⟩
      · subst hx
        have h := Option.some.inj h
        cases h
        exact ⟨rfl, rfl, hi, hj⟩
      · subst hx
        have h := Option.some.inj h
        cases h
        exact ⟨rfl, rfl, hi, hj⟩
end CMB
/-- what a read-only call that may throw costs -/
def xc {α : Type} : Except Nat α → Nat
  | .ok _ => 0
  | .error _ => 1
def xs {α : Type} : Except Nat α → Nat
  | .ok _ => 0
  | .error _ => 6
/-- makings -/
def nwA (κ : Nat) (σ : HpT) : AT (Option Nat) := if hN σ < BIG then some (.ok (some (hN σ)), wN σ κ 0, 1, nF κ) else none
def nwR (κ : Nat) (n : Int32) (σ : HpT) : AT (Option Nat) := if hN σ < BIG ∧ 0 ≤ n.toInt ∧ n.toInt ≤ 1000000 then some (.ok (some (hN σ)), wN σ κ n.toNatClampNeg, 1, n.toNatClampNeg) else none
/-- System.arraycopy of ints, bytes; of longs -/
def cpI (κ : Nat) (σ : HpT) (r : Option Nat) (sp : Int32) (r2 : Option Nat) (dp n : Int32) : Option HpT := match r, r2 with
  | some a, some b => if hK σ a = κ ∧ hK σ b = κ ∧ a < hN σ ∧ b < hN σ ∧ 0 ≤ sp.toInt ∧ 0 ≤ dp.toInt ∧ 0 ≤ n.toInt ∧ sp.toNatClampNeg + n.toNatClampNeg ≤ hZ σ a ∧ dp.toNatClampNeg + n.toNatClampNeg ≤ hZ σ b then some (wIr σ b (va_cpy (hI σ a) (hI σ b) sp.toNatClampNeg dp.toNatClampNeg n.toNatClampNeg)) else none
  | _, _ => none
def cpJ (σ : HpT) (r : Option Nat) (sp : Int32) (r2 : Option Nat) (dp n : Int32) : Option HpT := match r, r2 with
  | some a, some b => if hK σ a = 21 ∧ hK σ b = 21 ∧ a < hN σ ∧ b < hN σ ∧ 0 ≤ sp.toInt ∧ 0 ≤ dp.toInt ∧ 0 ≤ n.toInt ∧ sp.toNatClampNeg + n.toNatClampNeg ≤ hZ σ a ∧ dp.toNatClampNeg + n.toNatClampNeg ≤ hZ σ b then some (wJr σ b (va_cpy (hJ σ a) (hJ σ b) sp.toNatClampNeg dp.toNatClampNeg n.toNatClampNeg)) else none
  | _, _ => none
/-- a divisor that isn't 0; a boolean -/
def nz (x : Int32) : Option Unit := if x = 0 then none else some ()
theorem nz_s {x : Int32} {u : Unit} (h : nz x = some u) : ¬ x = 0 := by
  unfold nz at h
  split at h
  · cases h
  · assumption
def toB (x : Int32) : Option Bool := if x = 0 then some false else if x = 1 then some true else none
theorem toB_s {x : Int32} {b : Bool} (h : toB x = some b) : x = bI b := by
  unfold toB at h
  split at h
  · rename_i e; cases h; exact e
  · split at h
    · rename_i e; cases h; exact e
    · cases h
theorem nar_bI (b : Bool) : narrow .boolean (.int (bI b)) = .int (bI b) := by cases b <;> rfl
def chF (x : UInt32) : Option Unit := if x &&& 0x7fffffff ≤ 0x7f800000 then some () else none
def chD (x : UInt64) : Option Unit := if x &&& 0x7fffffffffffffff ≤ 0x7ff0000000000000 then some () else none
theorem chF_s {x : UInt32} {u : Unit} (h : chF x = some u) : vf_n32 x := by
  unfold chF at h
  split at h
  · assumption
  · cases h
theorem chD_s {x : UInt64} {u : Unit} (h : chD x = some u) : vf_n64 x := by
  unfold chD at h
  split at h
  · assumption
  · cases h
section GN
variable {Δ : AmbT} {Γ : CtxT} {own : String} {cc : ByteArray} {nL fr lo Kc Ks kc ks pc : Nat} {L : List (Nat × Value)} {st stk : List Value} {σ σ1 : HpT}
variable {y : MethodName} {cc1 : ByteArray} {nL1 : Nat} {ret1 ret : Option FieldType} {n fr1 lo1 idx κ k1c k1s : Nat} {as : List Value} {r : Option Nat} {v : Option Value} {x : Nat} {q : vw_C}
theorem g_callV (B : Bd Δ Γ own cc nL fr lo Kc Ks) (hC : IsK σ r κ ∧ Ct Γ.2.1 y cc1 nL1 ret1 fr1 lo1 (va_rf r :: as) σ (.ok v) σ1 k1c k1s) (h12 : κ < 12) (hq : gcl[κ]? = some q) (hy : q.1 = y.cls) (hM : MI y cc1 nL1 ret1 n) (hl0 : LV own idx y) (hR : fr1 + 1 ≤ fr ∧ 8 + (nL1 + 11) + lo1 ≤ lo) (hn : as.length = n) (hstk : stk = as.reverse ++ (va_rf r :: st)) (h4 : st.length ≤ 4) (d : decode cc pc = .ok (.invokevirtual idx, 3)) (hc : kc + k1c ≤ Kc) (hs : ks + k1s ≤ Ks) (kk : GW Δ Γ (kc + k1c) (ks + k1s) (pc + 3) L (v.toList ++ st) σ1) : GW Δ Γ kc ks pc L stk σ :=
  fun φ H locs ls hp hst hL hl => of_run B hp (by rw [hstk] at hst; exact (SC.app hst).2.t) hL hl (runV B hC.1 h12 hq hy hC.2 hM hl0 hR hn hstk h4 d hc hs hp hst hl) kk
theorem g_callVx (B : Bd Δ Γ own cc nL fr lo Kc Ks) (hC : IsK σ r κ ∧ Ct Γ.2.1 y cc1 nL1 ret1 fr1 lo1 (va_rf r :: as) σ (.error x) σ1 k1c k1s) (h12 : κ < 12) (hq : gcl[κ]? = some q) (hy : q.1 = y.cls) (hM : MI y cc1 nL1 ret1 n) (hl0 : LV own idx y) (hR : fr1 + 1 ≤ fr ∧ 8 + (nL1 + 11) + lo1 ≤ lo) (hn : as.length = n) (hstk : stk = as.reverse ++ (va_rf r :: st)) (h4 : st.length ≤ 4) (d : decode cc pc = .ok (.invokevirtual idx, 3)) (hc : kc + k1c ≤ Kc) (hs : ks + k1s ≤ Ks) (E : En Δ Γ (.error x) σ1 Kc Ks ret) : GW Δ Γ kc ks pc L stk σ :=
  fun φ H locs ls hp hst hL hl => of_runX B hp (runV B hC.1 h12 hq hy hC.2 hM hl0 hR hn hstk h4 d hc hs hp hst hl) E hc hs
theorem g_callS (B : Bd Δ Γ own cc nL fr lo Kc Ks) (hC : Ct Γ.2.1 y cc1 nL1 ret1 fr1 lo1 as σ (.ok v) σ1 k1c k1s) (hM : MI y cc1 nL1 ret1 n) (hl0 : LSt own idx y) (hR : fr1 + 1 ≤ fr ∧ 8 + (nL1 + 11) + lo1 ≤ lo) (hn : as.length = n) (hstk : stk = as.reverse ++ st) (h4 : st.length ≤ 4) (d : decode cc pc = .ok (.invokestatic idx, 3)) (hc : kc + k1c ≤ Kc) (hs : ks + k1s ≤ Ks) (kk : GW Δ Γ (kc + k1c) (ks + k1s) (pc + 3) L (v.toList ++ st) σ1) : GW Δ Γ kc ks pc L stk σ :=
  fun φ H locs ls hp hst hL hl => of_run B hp (by rw [hstk] at hst; exact (SC.app hst).2) hL hl (runS B hC hM hl0 hR hn hstk h4 d hc hs hp hst hl) kk
theorem g_callSx (B : Bd Δ Γ own cc nL fr lo Kc Ks) (hC : Ct Γ.2.1 y cc1 nL1 ret1 fr1 lo1 as σ (.error x) σ1 k1c k1s) (hM : MI y cc1 nL1 ret1 n) (hl0 : LSt own idx y) (hR : fr1 + 1 ≤ fr ∧ 8 + (nL1 + 11) + lo1 ≤ lo) (hn : as.length = n) (hstk : stk = as.reverse ++ st) (h4 : st.length ≤ 4) (d : decode cc pc = .ok (.invokestatic idx, 3)) (hc : kc + k1c ≤ Kc) (hs : ks + k1s ≤ Ks) (E : En Δ Γ (.error x) σ1 Kc Ks ret) : GW Δ Γ kc ks pc L stk σ :=
  fun φ H locs ls hp hst hL hl => of_runX B hp (runS B hC hM hl0 hR hn hstk h4 d hc hs hp hst hl) E hc hs
theorem g_callNS {host : String} (B : Bd Δ Γ own cc nL fr lo Kc Ks) (hC : Ct Γ.2.1 y cc1 nL1 ret1 fr1 lo1 as σ (.ok v) σ1 k1c k1s) (hM : MI y cc1 nL1 ret1 n) (hl0 : LNS own host idx y) (hR : fr1 + 1 ≤ fr ∧ 8 + (nL1 + 11) + lo1 ≤ lo) (hn : as.length = n) (hstk : stk = as.reverse ++ st) (h4 : st.length ≤ 4) (d : decode cc pc = .ok (.invokestatic idx, 3)) (hc : kc + k1c ≤ Kc) (hs : ks + k1s ≤ Ks) (kk : GW Δ Γ (kc + k1c) (ks + k1s) (pc + 3) L (v.toList ++ st) σ1) : GW Δ Γ kc ks pc L stk σ :=
  fun φ H locs ls hp hst hL hl => of_run B hp (by rw [hstk] at hst; exact (SC.app hst).2) hL hl (runNS B hC hM hl0 hR hn hstk h4 d hc hs hp hst hl) kk
theorem g_callI (B : Bd Δ Γ own cc nL fr lo Kc Ks) (hC : IsK σ r κ ∧ Ct Γ.2.1 y cc1 nL1 none fr1 lo1 (va_rf r :: as) σ (.ok v) σ1 k1c k1s) (hM : MI y cc1 nL1 none n) (hl0 : LI own idx y) (hR : fr1 + 1 ≤ fr ∧ 8 + (nL1 + 11) + lo1 ≤ lo) (hn : as.length = n) (hstk : stk = as.reverse ++ (va_rf r :: st)) (h4 : st.length ≤ 4) (d : decode cc pc = .ok (.invokespecial idx, 3)) (hc : kc + k1c ≤ Kc) (hs : ks + k1s ≤ Ks) (kk : GW Δ Γ (kc + k1c) (ks + k1s) (pc + 3) L (v.toList ++ st) σ1) : GW Δ Γ kc ks pc L stk σ := by
  obtain ⟨⟨a, rfl, -⟩, hC⟩ := hC
  exact fun φ H locs ls hp hst hL hl => of_run B hp (by rw [hstk] at hst; exact (SC.app hst).2.t) hL hl (runI B hC hM hl0 hR hn hstk h4 d hc hs hp hst hl) kk
theorem g_callNI {host : String} (B : Bd Δ Γ own cc nL fr lo Kc Ks) (hC : IsK σ r κ ∧ Ct Γ.2.1 y cc1 nL1 none fr1 lo1 (va_rf r :: as) σ (.ok v) σ1 k1c k1s) (hM : MI y cc1 nL1 none n) (hl0 : LNI own host idx y) (hR : fr1 + 1 ≤ fr ∧ 8 + (nL1 + 11) + lo1 ≤ lo) (hn : as.length = n) (hstk : stk = as.reverse ++ (va_rf r :: st)) (h4 : st.length ≤ 4) (d : decode cc pc = .ok (.invokespecial idx, 3)) (hc : kc + k1c ≤ Kc) (hs : ks + k1s ≤ Ks) (kk : GW Δ Γ (kc + k1c) (ks + k1s) (pc + 3) L (v.toList ++ st) σ1) : GW Δ Γ kc ks pc L stk σ := by
  obtain ⟨⟨a, rfl, -⟩, hC⟩ := hC
  exact fun φ H locs ls hp hst hL hl => of_run B hp (by rw [hstk] at hst; exact (SC.app hst).2.t) hL hl (runNI B hC hM hl0 hR hn hstk h4 d hc hs hp hst hl) kk
/-- Object's own constructor -/
theorem g_objInit (B : Bd Δ Γ own cc nL fr lo Kc Ks) {a : Nat} (hl0 : Cond.methodLink own idx Lib.objectInit ∈ ALLw) (hi : Cond.instanceMethod Lib.objectInit ∈ ALLw) (hcd : Cond.code Lib.objectInit ⟨#[0xb1]⟩ 1 none ∈ ALLw) (hR : 1 ≤ fr ∧ 20 ≤ lo) (h4 : st.length ≤ 4) (d : decode cc pc = .ok (.invokespecial idx, 3)) (kk : GW Δ Γ kc ks (pc + 3) L st σ) : GW Δ Γ kc ks pc L (va_rf (some a) :: st) σ := fun φ H locs ls hp hst hL hl => by
  have hcat := cat_le φ st 4 h4
  refine W.objInit B.1 B.2.1 B.2.2.2.1 (B.2.2.2.2.1 _ hl0) (B.2.2.2.2.1 _ hi) (B.2.2.2.2.1 _ hcd) rfl hl.1 rfl d (by rw [B.2.2.2.2.2.2.2.2.1]; exact hR.1) (by rw [B.2.2.2.2.2.2.2.2.2.1]; show 2 * 0 + _ + 12 ≤ lo; omega) ?_
  exact kk φ H locs ls hp hst.t hL hl
/-- where the walk stands behind a making -/
theorem Rp.made {s : State} {φ : Nat → Nat} {H H1 : Heap} {locs : List Loc} {z p : Nat} {e : va_E} (hp : Rp Δ s φ σ H locs) (hb : hN σ < BIG) (hκ : κ ≠ 99) (hP : va_P Δ.1 gcl (wsOf Δ.2.1 φ σ ++ [(p, e)]) H1) (hD : va_D (AA Δ) (wsOf Δ.2.1 φ σ ++ [(p, e)])) (hS : va_S (AA Δ) s.heap H1 locs) (he : ent Δ.2.1 (va_up φ (hN σ) p) (wN σ κ z) (hN σ) = e) : Rp Δ s (va_up φ (hN σ) p) (wN σ κ z) H1 locs ∧ ∀ j, CLn σ j → va_up φ (hN σ) p j = φ j := by
  obtain ⟨h1, h2, h3, h4, h5, h6, h7⟩ := hp
  have hj : ∀ j, CLn σ j → va_up φ (hN σ) p j = φ j := fun j hj => va_up_ne _ _ (by rcases hj with q | q <;> omega)
  have hw : wsOf Δ.2.1 φ σ ++ [(p, e)] = wsOf Δ.2.1 (va_up φ (hN σ) p) (wN σ κ z) := by
    refine ws_push (hN_wN σ κ z) (fun j hj2 => ⟨hj j (Or.inl hj2), ent_same ?_ ?_ (fun k => ?_) (fun k => ?_) (fun k => ?_) (fun k => ?_)⟩) (va_up_self _ _ _) he
    · rw [hK_wN, if_neg (by omega)]
    · rw [hZ_wN, if_neg (by omega)]
    · rw [hI_wN, if_neg (by omega)]
    · rw [hJ_wN, if_neg (by omega)]
    · rw [hR_wN, if_neg (by omega)]
      cases e9 : hR σ j k with
      | none => rfl
      | some j9 => exact congrArg some (hj j9 (h5.2.1 j k j9 hj2 e9))
    · rw [hD_wN, if_neg (by omega)]
  rw [hw] at hP hD
  refine ⟨⟨hP, hD, hS, fun j hj9 => (hj j (Or.inr hj9)).trans (h4 j hj9), ⟨?_, fun i k j hi h => ?_, fun i k h => ?_⟩, fun j hj9 => ?_, by rw [hN_wN]; omega⟩, hj⟩
  · rw [hN_wN]; omega
  · rw [hR_wN] at h
    split at h
    · cases h
    · have hi2 : i < hN σ := by rw [hN_wN] at hi; omega
      rcases h5.2.1 i k j hi2 h with q | q
      · exact Or.inl (by rw [hN_wN]; omega)
      · exact Or.inr q
  · rw [hI_wN]
    split
    · rfl
    · rename_i hne
      rw [hK_wN, if_neg hne] at h
      exact h5.2.2 i k h
  · have : CLn σ j := by
      rcases hj9 with q | q
      · exact Or.inl (Nat.lt_of_lt_of_le q h7)
      · exact Or.inr q
    exact (hj j this).trans (h6 j hj9)
theorem SC.up {z : Nat} (h : SC σ st) : SC (wN σ κ z) st := fun v hv => (h v hv).mono (by rw [hN_wN]; omega)
theorem LC.up {z : Nat} (h : ∀ q ∈ L, CL σ q.2) : ∀ q ∈ L, CL (wN σ κ z) q.2 := fun v hv => (h v hv).mono (by rw [hN_wN]; omega)
/-- a class that can be made -/
def NW (own : String) (idx κ : Nat) : Prop := ∃ (C : String) (T : u_T) (N : Nat) (ty0 : Nat → FieldType), gcl[κ]? = some (C, T, N) ∧ N = nF κ ∧ (∀ w ∈ u_ws C T N, w ∈ ALLw) ∧ (∀ j, j < N → parseFieldDescriptor (T j).2.2.1 = some (ty0 j)) ∧ Cond.classLink own idx C ∈ ALLw ∧ Cond.instantiable C N ∈ ALLw ∧ Cond.initialized C ∈ ALLw ∧ κ < 20 ∧
  ∀ j, j < N → defaultValue (ty0 j) = (if fT κ j = 0 then .int 0 else if fT κ j = 1 then .long 0 else .null)
theorem g_new (B : Bd Δ Γ own cc nL fr lo Kc Ks) {r0 : Option Nat} (hN9 : NW own idx κ) (d : decode cc pc = .ok (.new idx, 3)) (h : nwA κ σ = some (.ok r0, σ1, k1c, k1s)) (hc : kc + k1c ≤ Kc) (hs : ks + k1s ≤ Ks) (kk : GW Δ Γ (kc + k1c) (ks + k1s) (pc + 3) L (va_rf r0 :: st) σ1) : GW Δ Γ kc ks pc L st σ := fun φ H locs ls hp hst hL hl => by
  obtain ⟨C, T, N, ty0, f1, f2, f3, f4, f5, f6, f7, f8, f9⟩ := hN9
  unfold nwA at h
  split at h
  · rename_i hb
    have h := Option.some.inj h
    cases h
    refine va_new B.1 B.2.1 B.2.2.2.2.1 f3 ty0 f4 B.2.2.2.1 (B.2.2.2.2.1 _ f5) (B.2.2.2.2.1 _ f6) (B.2.2.2.2.1 _ f7) B.2.2.2.2.2.1 hp.1 hp.2.1 hp.2.2.1 (fun z hz => Nat.le_trans B.2.2.2.2.2.2.1 hz) f1 (fs := flds φ (wN σ κ 0) (hN σ) κ) (fun j hj => ?_) (by rw [B.2.2.2.2.2.2.2.2.2.2.1]; exact hc) (by rw [B.2.2.2.2.2.2.2.2.2.2.2.1, f2]; exact hs) d (fun p H1 hP hD hS => ?_)
    · rw [f9 j hj]
      unfold vp_V
      rw [List.getD_eq_getElem?_getD, fl_at (by omega)]
      unfold fv
      rw [hI_wN, if_pos rfl, hJ_wN, if_pos rfl, hR_wN, if_pos rfl]
      rfl
    · have hk : hK (wN σ κ 0) (hN σ) = κ := by rw [hK_wN, if_pos rfl]
      have he : ent Δ.2.1 (va_up φ (hN σ) p) (wN σ κ 0) (hN σ) = .inr (κ, flds φ (wN σ κ 0) (hN σ) κ) := by
        rw [entC hk f8]
        refine congrArg (fun l => Sum.inr (κ, l)) ?_
        unfold flds
        apply List.map_congr_left
        intro k _
        unfold fv
        rw [hR_wN, if_pos rfl]
        rfl
      obtain ⟨h8, h9⟩ := hp.made hb (by omega) hP hD hS he
      have kk := kk (va_up φ (hN σ) p) H1 locs ls h8 (SC.c (v := .ref (hN σ)) (Or.inl (by rw [hN_wN]; omega)) (SC.up hst)) (LC.up hL) (by rw [← enL_map h9 L hL]; exact hl)
      rw [List.map_cons, ← en_map h9 st hst] at kk
      have e : en (va_up φ (hN σ) p) (va_rf (some (hN σ))) = .ref p := congrArg Value.ref (va_up_self _ _ _)
      rw [e] at kk
      rw [f2]
      exact kk
  · cases h
end GN
end
section
section GO
variable {Δ : AmbT} {Γ : CtxT} {own : String} {cc : ByteArray} {nL fr lo Kc Ks kc ks pc : Nat} {L : List (Nat × Value)} {st stk : List Value} {σ σ1 : HpT} {idx κ k1c k1s : Nat}
/-- the kinds of arrays of numbers: type, default entry -/
def nwT (κ : Nat) (at0 : ArrayType) : Prop := (κ = 20 ∧ newarray.typeOf at0 = .int) ∨ (κ = 21 ∧ newarray.typeOf at0 = .long) ∨ (κ = 22 ∧ newarray.typeOf at0 = .byte) ∨ (κ = 23 ∧ newarray.typeOf at0 = .boolean) ∨ (κ = 24 ∧ newarray.typeOf at0 = .double)
theorem made_arr {s : State} {φ : Nat → Nat} {H H1 : Heap} {locs : List Loc} {ls : Array Slot} {z p nL9 : Nat} {e : va_E} {Q : State → Prop} (hp : Rp Δ Γ.2.2.2.2.1 φ σ H locs) (hst : SC σ st) (hL : ∀ q ∈ L, CL σ q.2) (hl : lv_has ls Γ.2.2.2.2.2.2.2.2.2.1.maxLocals (enL φ L)) (hb : hN σ < BIG) (hκ : 20 ≤ κ ∧ κ < 28) (hP : va_P Δ.1 gcl (wsOf Δ.2.1 φ σ ++ [(p, e)]) H1) (hD : va_D (AA Δ) (wsOf Δ.2.1 φ σ ++ [(p, e)])) (hS : va_S (AA Δ) Γ.2.2.2.2.1.heap H1 locs) (he : ∀ φ', arrE Δ.2.1 φ' (wN σ κ z) (hN σ) κ = e) {pc9 : Nat} (kk : GW Δ Γ kc ks pc9 L (va_rf (some (hN σ)) :: st) (wN σ κ z)) :
    W Γ.1 Γ.2.1 Γ.2.2.1 Γ.2.2.2.1 Γ.2.2.2.2.1 Γ.2.2.2.2.2.1 Γ.2.2.2.2.2.2.1 Γ.2.2.2.2.2.2.2.1 Γ.2.2.2.2.2.2.2.2.1 Γ.2.2.2.2.2.2.2.2.2.1 H1 locs kc ks Γ.2.2.2.2.2.2.2.2.2.2 (F0 Γ.2.2.2.2.2.1 pc9 ls (.ref p :: st.map (en φ))) := by
  have hk : hK (wN σ κ z) (hN σ) = κ := by rw [hK_wN, if_pos rfl]
  obtain ⟨h8, h9⟩ := hp.made (κ := κ) hb (by omega) hP hD hS (by rw [entA hk hκ.1]; exact he _)
  have kk := kk (va_up φ (hN σ) p) H1 locs ls h8 (SC.c (v := .ref (hN σ)) (Or.inl (by rw [hN_wN]; omega)) (SC.up hst)) (LC.up hL) (by rw [← enL_map h9 L hL]; exact hl)
  rw [List.map_cons, ← en_map h9 st hst] at kk
  have e : en (va_up φ (hN σ) p) (va_rf (some (hN σ))) = .ref p := congrArg Value.ref (va_up_self _ _ _)
  rw [e] at kk
  exact kk
theorem g_newarr (B : Bd Δ Γ own cc nL fr lo Kc Ks) {r0 : Option Nat} {n : Int32} {at0 : ArrayType} (hT : nwT κ at0) (hw : Cond.arrayClass (newarray.typeOf at0) ∈ ALLw) (d : decode cc pc = .ok (.newarray at0, 2)) (h : nwR κ n σ = some (.ok r0, σ1, k1c, k1s)) (hc : kc + k1c ≤ Kc) (hs : ks + k1s ≤ Ks) (kk : GW Δ Γ (kc + k1c) (ks + k1s) (pc + 2) L (va_rf r0 :: st) σ1) : GW Δ Γ kc ks pc L (.int n :: st) σ := fun φ H locs ls hp hst hL hl => by
  unfold nwR at h
  split at h
  · rename_i hb
    obtain ⟨hb, hn0, hn1⟩ := hb
    have h := Option.some.inj h
    cases h
    have hn2 : n.toNatClampNeg ≤ 1000000 := by
      show n.toInt.toNat ≤ 1000000
      omega
    have hneg : ¬ n < 0 := by
      intro q
      have q2 : n.toInt < (0 : Int32).toInt := Int32.lt_iff_toInt_lt.mp q
      have : (0 : Int32).toInt = 0 := rfl
      omega
    have hK := B.2.2.2.2.2.1
    have hA : ∀ z : Nat, Γ.2.2.2.2.1.heap.size ≤ z → AA Δ z := fun z hz => Nat.le_trans B.2.2.2.2.2.2.1 hz
    have hc2 : kc + 1 ≤ Γ.2.2.2.1.cells := by rw [B.2.2.2.2.2.2.2.2.2.2.1]; exact hc
    have hs2 : ks + n.toNatClampNeg ≤ Γ.2.2.2.1.slots := by rw [B.2.2.2.2.2.2.2.2.2.2.2.1]; exact hs
    rcases hT with ⟨rfl, e⟩ | ⟨rfl, e⟩ | ⟨rfl, e⟩ | ⟨rfl, e⟩ | ⟨rfl, e⟩
    · refine va_newa B.1 B.2.1 (B.2.2.2.2.1 _ hw) e hK hp.1 hp.2.1 hp.2.2.1 hA (a0 := (n.toNatClampNeg, .inl (fun _ => 0))) (fun _ => rfl) hneg rfl (by show n.toNatClampNeg * 4 ≤ 536870912; omega) hc2 hs2 d (fun p cA H1 hK2 hP hD hS => ?_)
      have eA : cA = Δ.2.1 0 := Option.some.inj ((va_nm_int (hK2.2 8 (cA, .int) rfl).2).symm.trans (va_nm_int (hK.2 0 (Δ.2.1 0, .int) rfl).2))
      subst eA
      refine made_arr (Q := fun _ => True) (s := Γ.2.2.2.2.1) (nL9 := 0) hp hst.t hL hl hb (by decide) hP hD hS (fun φ' => ?_) kk
      show Sum.inl (Δ.2.1 0, hZ (wN σ 20 n.toNatClampNeg) (hN σ), Sum.inl (hI (wN σ 20 n.toNatClampNeg) (hN σ))) = _
      rw [hZ_wN, if_pos rfl, show hI (wN σ 20 n.toNatClampNeg) (hN σ) = fun _ => 0 from funext fun j => by rw [hI_wN, if_pos rfl]]
    · refine va_newa B.1 B.2.1 (B.2.2.2.2.1 _ hw) e hK hp.1 hp.2.1 hp.2.2.1 hA (a0 := (n.toNatClampNeg, .inr (.inl (fun _ => 0)))) (fun _ => rfl) hneg rfl (by show n.toNatClampNeg * 8 ≤ 536870912; omega) hc2 hs2 d (fun p cA H1 hK2 hP hD hS => ?_)
      have eA : cA = Δ.2.1 1 := Option.some.inj ((va_nm_long (hK2.2 8 (cA, .long) rfl).2).symm.trans (va_nm_long (hK.2 1 (Δ.2.1 1, .long) rfl).2))
      subst eA
      refine made_arr (Q := fun _ => True) (s := Γ.2.2.2.2.1) (nL9 := 0) hp hst.t hL hl hb (by decide) hP hD hS (fun φ' => ?_) kk
      show Sum.inl (Δ.2.1 1, hZ (wN σ 21 n.toNatClampNeg) (hN σ), Sum.inr (Sum.inl (hJ (wN σ 21 n.toNatClampNeg) (hN σ)))) = _
      rw [hZ_wN, if_pos rfl, show hJ (wN σ 21 n.toNatClampNeg) (hN σ) = fun _ => 0 from funext fun j => by rw [hJ_wN, if_pos rfl]]
    · refine va_newa B.1 B.2.1 (B.2.2.2.2.1 _ hw) e hK hp.1 hp.2.1 hp.2.2.1 hA (a0 := (n.toNatClampNeg, .inl (fun _ => 0))) (fun _ => rfl) hneg rfl (by show n.toNatClampNeg * 1 ≤ 536870912; omega) hc2 hs2 d (fun p cA H1 hK2 hP hD hS => ?_)
      have eA : cA = Δ.2.1 2 := Option.some.inj ((va_nm_byte (hK2.2 8 (cA, .byte) rfl).2).symm.trans (va_nm_byte (hK.2 2 (Δ.2.1 2, .byte) rfl).2))
      subst eA
      refine made_arr (Q := fun _ => True) (s := Γ.2.2.2.2.1) (nL9 := 0) hp hst.t hL hl hb (by decide) hP hD hS (fun φ' => ?_) kk
      show Sum.inl (Δ.2.1 2, hZ (wN σ 22 n.toNatClampNeg) (hN σ), Sum.inl (hI (wN σ 22 n.toNatClampNeg) (hN σ))) = _
      rw [hZ_wN, if_pos rfl, show hI (wN σ 22 n.toNatClampNeg) (hN σ) = fun _ => 0 from funext fun j => by rw [hI_wN, if_pos rfl]]
    · refine va_newa B.1 B.2.1 (B.2.2.2.2.1 _ hw) e hK hp.1 hp.2.1 hp.2.2.1 hA (a0 := (n.toNatClampNeg, .inl (fun _ => 0))) (fun _ => rfl) hneg rfl (by show n.toNatClampNeg * 1 ≤ 536870912; omega) hc2 hs2 d (fun p cA H1 hK2 hP hD hS => ?_)
      have eA : cA = Δ.2.1 3 := Option.some.inj ((va_nm_boolean (hK2.2 8 (cA, .boolean) rfl).2).symm.trans (va_nm_boolean (hK.2 3 (Δ.2.1 3, .boolean) rfl).2))
      subst eA
      refine made_arr (Q := fun _ => True) (s := Γ.2.2.2.2.1) (nL9 := 0) hp hst.t hL hl hb (by decide) hP hD hS (fun φ' => ?_) kk
      show Sum.inl (Δ.2.1 3, hZ (wN σ 23 n.toNatClampNeg) (hN σ), Sum.inl (hI (wN σ 23 n.toNatClampNeg) (hN σ))) = _
      rw [hZ_wN, if_pos rfl, show hI (wN σ 23 n.toNatClampNeg) (hN σ) = fun _ => 0 from funext fun j => by rw [hI_wN, if_pos rfl]]
    · refine va_newa B.1 B.2.1 (B.2.2.2.2.1 _ hw) e hK hp.1 hp.2.1 hp.2.2.1 hA (a0 := (n.toNatClampNeg, .inr (.inr (.inr (.inl (fun _ => 0)))))) (fun _ => rfl) hneg rfl (by show n.toNatClampNeg * 8 ≤ 536870912; omega) hc2 hs2 d (fun p cA H1 hK2 hP hD9 hS => ?_)
      have eA : cA = Δ.2.1 4 := Option.some.inj ((va_nm_double (hK2.2 8 (cA, .double) rfl).2).symm.trans (va_nm_double (hK.2 4 (Δ.2.1 4, .double) rfl).2))
      subst eA
      refine made_arr (Q := fun _ => True) (s := Γ.2.2.2.2.1) (nL9 := 0) hp hst.t hL hl hb (by decide) hP hD9 hS (fun φ' => ?_) kk
      show Sum.inl (Δ.2.1 4, hZ (wN σ 24 n.toNatClampNeg) (hN σ), Sum.inr (Sum.inr (Sum.inr (Sum.inl (hD (wN σ 24 n.toNatClampNeg) (hN σ)))))) = _
      rw [hZ_wN, if_pos rfl, show hD (wN σ 24 n.toNatClampNeg) (hN σ) = fun _ => 0 from funext fun j => by rw [hD_wN, if_pos rfl]]
  · cases h
/-- a row of references -/
theorem g_anew (B : Bd Δ Γ own cc nL fr lo Kc Ks) {r0 : Option Nat} {n : Int32} {C nm : String} (hκ : 25 ≤ κ ∧ κ < 28) (hcl : Cond.classLink own idx C ∈ ALLw) (hov : Cond.arrayOver (.object C) ∈ ALLw) (hC : ∀ aC : Nat → ClassId, (tysOf aC)[κ - 20]? = some (aC (κ - 20), .object C)) (hnm : "[" ++ (FieldType.object C).toString = nm) (d : decode cc pc = .ok (.anewarray idx, 3)) (h : nwR κ n σ = some (.ok r0, σ1, k1c, k1s)) (hc : kc + k1c ≤ Kc) (hs : ks + k1s ≤ Ks) (kk : GW Δ Γ (kc + k1c) (ks + k1s) (pc + 3) L (va_rf r0 :: st) σ1) : GW Δ Γ kc ks pc L (.int n :: st) σ := fun φ H locs ls hp hst hL hl => by
  unfold nwR at h
  split at h
  · rename_i hb
    obtain ⟨hb, hn0, hn1⟩ := hb
    have h := Option.some.inj h
    cases h
    have hn2 : n.toNatClampNeg ≤ 1000000 := by
      show n.toInt.toNat ≤ 1000000
      omega
    have hneg : ¬ n < 0 := by
      intro q
      have q2 : n.toInt < (0 : Int32).toInt := Int32.lt_iff_toInt_lt.mp q
      have : (0 : Int32).toInt = 0 := rfl
      omega
    have hK := B.2.2.2.2.2.1
    have hA : ∀ z : Nat, Γ.2.2.2.2.1.heap.size ≤ z → AA Δ z := fun z hz => Nat.le_trans B.2.2.2.2.2.2.1 hz
    refine va_newq B.1 B.2.1 B.2.2.2.1 (B.2.2.2.2.1 _ hcl) (va_AO.of (B.2.2.2.2.1 _ hov)) hK hp.1 hp.2.1 hp.2.2.1 hA hneg rfl (by omega) (by rw [B.2.2.2.2.2.2.2.2.2.2.1]; exact hc) (by rw [B.2.2.2.2.2.2.2.2.2.2.2.1]; exact hs) d (fun p cA H1 hK2 hP hD hS => ?_)
    have eA : cA = Δ.2.1 (κ - 20) := Option.some.inj ((va_nmO (hK2.2 8 (cA, .object C) rfl).2 hnm).symm.trans (va_nmO (hK.2 (κ - 20) (Δ.2.1 (κ - 20), .object C) (hC _)).2 hnm))
    subst eA
    refine made_arr (Q := fun _ => True) (s := Γ.2.2.2.2.1) (nL9 := 0) hp hst.t hL hl hb ⟨by omega, hκ.2⟩ hP hD hS (fun φ' => ?_) kk
    unfold arrE
    rw [if_neg (by omega), if_neg (by omega), if_neg (by omega), if_neg (by omega), if_neg (by omega), hZ_wN, if_pos rfl]
    rw [show (fun k => (hR (wN σ κ n.toNatClampNeg) (hN σ) k).map φ') = fun _ => none from funext fun j => by rw [hR_wN, if_pos rfl]; rfl]
  · cases h
end GO
end
section
section GP
variable {Δ : AmbT} {Γ : CtxT} {own : String} {cc : ByteArray} {nL fr lo Kc Ks kc ks pc : Nat} {L : List (Nat × Value)} {st stk : List Value} {σ σ1 : HpT}
variable {y : MethodName} {cc1 : ByteArray} {nL1 : Nat} {ret1 ret : Option FieldType} {n fr1 lo1 idx κ k1c k1s : Nat} {as : List Value} {r : Option Nat} {v : Option Value} {x : Nat} {q : vw_C} {o : Except Nat (Option Value)}
/-- a private method, or one that isn't overridden, of a class above the receiver's -/
theorem sel_sub {C : String} {y0 : MethodName} {s : State} {args : Array Value} (h1 : (Cond.selects C y0 y0).before args s = true) (hcls : y0.cls = y.cls) (hi0 : (Cond.instanceMethod y0).before args s = true) (hpriv : (Cond.privateMethod y).before args s = true) (hinst : (Cond.instanceMethod y).before args s = true) (hy : y.cls ≠ "java/lang/invoke/MethodHandle" ∧ y.cls ≠ "java/lang/invoke/VarHandle") : (Cond.selects C y y).before args s = true := by
  obtain ⟨c, r0, m0, hc, -, hn0, -, mk0, hk0, hni⟩ := Cond.selects_spec h1
  obtain ⟨mk, methM, hnamed, hmethM, -, -⟩ := Cond.instanceMethod_spec hinst
  have hfound : s.methodFound? y.cls y.name y.desc = some mk := State.methodFound?_of_named hnamed hy
  have hcm : mk.cls = m0.cls := by
    have a1 := findClass_of_methodNamed hnamed
    have a2 := findClass_of_methodNamed hn0
    rw [hcls, a1] at a2
    exact Option.some.inj a2
  have hsel : selectMethod {} s.vm c mk = .method mk := selectMethod_private hmethM (Cond.privateMethod_at hpriv mk methM hnamed hmethM)
  simp only [Cond.before, Cond.holds, Cond.value, hc, hfound, hnamed, hsel, hcm, hk0]
  simp; exact hni
def LVc (own : String) (idx : Nat) (y : MethodName) (C : String) : Prop := Cond.methodLink own idx y ∈ ALLw ∧ Cond.instanceMethod y ∈ ALLw ∧ ∀ (args : Array Value) (s : State), (∀ w ∈ ALLw, w.before args s = true) → (Cond.selects C y y).before args s = true
theorem LVc.of {C : String} (h1 : Cond.methodLink own idx y ∈ ALLw) (h2 : Cond.instanceMethod y ∈ ALLw) (h3 : Cond.selects C y y ∈ ALLw) : LVc own idx y C := ⟨h1, h2, fun _ _ h => h _ h3⟩
theorem LVc.priv {C : String} {y0 : MethodName} (h1 : Cond.methodLink own idx y ∈ ALLw) (h2 : Cond.instanceMethod y ∈ ALLw) (h3 : Cond.selects C y0 y0 ∈ ALLw) (h4 : Cond.instanceMethod y0 ∈ ALLw) (h5 : Cond.privateMethod y ∈ ALLw) (h6 : y0.cls = y.cls) (hy : y.cls ≠ "java/lang/invoke/MethodHandle" ∧ y.cls ≠ "java/lang/invoke/VarHandle") : LVc own idx y C := ⟨h1, h2, fun _ _ h => sel_sub (h _ h3) h6 (h _ h4) (h _ h5) (h _ h2) hy⟩
theorem g_callVc (B : Bd Δ Γ own cc nL fr lo Kc Ks) (hC : IsK σ r κ ∧ Ct Γ.2.1 y cc1 nL1 ret1 fr1 lo1 (va_rf r :: as) σ (.ok v) σ1 k1c k1s) (h12 : κ < 12) (hq : gcl[κ]? = some q) (hM : MI y cc1 nL1 ret1 n) (hl0 : LVc own idx y q.1) (hR : fr1 + 1 ≤ fr ∧ 8 + (nL1 + 11) + lo1 ≤ lo) (hn : as.length = n) (hstk : stk = as.reverse ++ (va_rf r :: st)) (h4 : st.length ≤ 4) (d : decode cc pc = .ok (.invokevirtual idx, 3)) (hc : kc + k1c ≤ Kc) (hs : ks + k1s ≤ Ks) (kk : GW Δ Γ (kc + k1c) (ks + k1s) (pc + 3) L (v.toList ++ st) σ1) : GW Δ Γ kc ks pc L stk σ := fun φ H locs ls hp hst hL hl => by
  obtain ⟨⟨a, rfl, hk⟩, hC⟩ := hC
  refine of_run (a0 := ((Value.ref a :: as).map (en φ)).toArray) B hp (by rw [hstk] at hst; exact (SC.app hst).2.t) hL hl ?_ kk
  rw [hstk] at hst
  have hs1 : SC σ (.ref a :: as) := SC.c (SC.h (SC.app hst).2) (SC.rev (SC.app hst).1)
  have hcat := cat_le φ st 4 h4
  exact vx_runV (C := q.1) (nL := nL) (As := as.map (en φ)) (b := φ a) (Ts := ALLw) ⟨B.1, B.2.1, B.2.2.1, B.2.2.2.1, B.2.2.2.2.1⟩ (hC B.2.2.2.2.2.2.2.2.2.2.2.2.2 Δ.1 Δ.2.1 Δ.2.2.1 Δ.2.2.2.1 φ) ⟨callB B hM hl0.1 hR, B.2.2.2.2.1 _ hl0.2.1, hl0.2.2 _ _ B.2.2.2.2.1⟩ (preV B hp hk h12 hq hs1) rfl (by rw [List.length_map]; exact hn) (by rw [← B.2.2.1]; exact hl.1) (by rw [hstk, List.map_append, List.map_reverse]; rfl) (by show 2 * 0 + _ ≤ 8; omega) d ⟨by rw [B.2.2.2.2.2.2.2.2.2.2.1]; exact hc, by rw [B.2.2.2.2.2.2.2.2.2.2.2.1]; exact hs⟩
/-- super.m(..) -/
def LSU (own : String) (idx : Nat) (y : MethodName) : Prop := Cond.methodLink own idx y ∈ ALLw ∧ Cond.sameMethod y.cls y.cls y.name y.desc ∈ ALLw ∧ Cond.superclass own y.cls ∈ ALLw ∧ Cond.instanceMethod y ∈ ALLw ∧ y.name ≠ "<init>"
theorem g_callSU (B : Bd Δ Γ own cc nL fr lo Kc Ks) (hC : IsK σ r κ ∧ Ct Γ.2.1 y cc1 nL1 ret1 fr1 lo1 (va_rf r :: as) σ (.ok v) σ1 k1c k1s) (h12 : κ < 12) (hq : gcl[κ]? = some q) (hM : MI y cc1 nL1 ret1 n) (hl0 : LSU own idx y) (hR : fr1 + 1 ≤ fr ∧ 8 + (nL1 + 11) + lo1 ≤ lo) (hn : as.length = n) (hstk : stk = as.reverse ++ (va_rf r :: st)) (h4 : st.length ≤ 4) (d : decode cc pc = .ok (.invokespecial idx, 3)) (hc : kc + k1c ≤ Kc) (hs : ks + k1s ≤ Ks) (kk : GW Δ Γ (kc + k1c) (ks + k1s) (pc + 3) L (v.toList ++ st) σ1) : GW Δ Γ kc ks pc L stk σ := fun φ H locs ls hp hst hL hl => by
  obtain ⟨⟨a, rfl, hk⟩, hC⟩ := hC
  refine of_run (a0 := ((Value.ref a :: as).map (en φ)).toArray) B hp (by rw [hstk] at hst; exact (SC.app hst).2.t) hL hl ?_ kk
  rw [hstk] at hst
  have hs1 : SC σ (.ref a :: as) := SC.c (SC.h (SC.app hst).2) (SC.rev (SC.app hst).1)
  have hcat := cat_le φ st 4 h4
  have hts := B.2.2.2.2.1
  refine vx_runSU (C := q.1) (nL := nL) (As := as.map (en φ)) (b := φ a) (Ts := ALLw) (B.2.2.2.2.2.1.1 κ q hq).2 ⟨B.1, B.2.1, B.2.2.1, B.2.2.2.1, B.2.2.2.2.1⟩ (hC B.2.2.2.2.2.2.2.2.2.2.2.2.2 Δ.1 Δ.2.1 Δ.2.2.1 Δ.2.2.2.1 φ) ⟨⟨rfl, rfl, by rw [B.2.2.2.2.2.2.2.2.1]; exact hR.1, by rw [B.2.2.2.2.2.2.2.2.2.1]; exact hR.2, fun w hw a' U hW => ?_, List.mem_cons_self⟩, hts _ hl0.1, hts _ hl0.2.1, hts _ hl0.2.2.1, hts _ hl0.2.2.2.1, hts _ hM.2.2.1, hts _ hM.2.1, hl0.2.2.2.2, hM.n⟩ (preV B hp hk h12 hq hs1) rfl (by rw [List.length_map]; exact hn) (by rw [← B.2.2.1]; exact hl.1) (by rw [hstk, List.map_append, List.map_reverse]; rfl) (by show 2 * 0 + _ ≤ 8; omega) d ⟨by rw [B.2.2.2.2.2.2.2.2.2.2.1]; exact hc, by rw [B.2.2.2.2.2.2.2.2.2.2.2.1]; exact hs⟩
  rcases List.mem_cons.mp hw with e | e
  · rw [e]; exact pay hM.2.1 hts a' U hW
  · exact pay e hts a' U hW
/-! constants -/
theorem g_ldcS (B : Bd Δ Γ own cc nL fr lo Kc Ks) {j : Nat} {tx : String} (hj : stT[j]? = some (own, idx, tx)) (d : decode cc pc = .ok (.ldc idx, 2)) (kk : GW Δ Γ kc ks (pc + 2) L (va_rf (some (BIG + j)) :: st) σ) : GW Δ Γ kc ks pc L st σ := fun φ H locs ls hp hst hL hl => by
  have hj2 : j < nSt := (List.getElem?_eq_some_iff.mp hj).1
  have h := B.2.2.2.2.2.2.2.1.1 j hj2 _ hj
  refine va_ldcS B.1 B.2.1 B.2.2.2.1 h d ?_
  have kk := kk φ H locs ls hp (SC.c (v := .ref (BIG + j)) (Or.inr (Nat.le_add_right _ _)) hst) hL hl
  have e : en φ (va_rf (some (BIG + j))) = .ref (Δ.2.2.1 (BIG + j)) := congrArg Value.ref (hp.2.2.2.1 _ (Nat.le_add_right _ _))
  rw [List.map_cons, e] at kk
  exact kk
theorem big_str {φ : Nat → Nat} {H : Heap} {locs : List Loc} {s : State} {a : Nat} (hp : Rp Δ s φ σ H locs) (h : hK σ a = 12) : ∃ j, j < nSt ∧ a = BIG + j := by
  have hn := hp.2.2.2.2.1.1
  by_cases ha : a < hN σ
  · exfalso
    have e := ws_at (aC := Δ.2.1) (φ := φ) ha
    rw [entC h (by omega)] at e
    obtain ⟨q9, h9, -⟩ := hp.1 a _ e
    cases h9
  · have e : ¬ a < σ.1 := ha
    unfold hK cK at h
    rw [if_neg e] at h
    split at h
    · cases h
    · rename_i n1
      split at h
      · rename_i n2
        exact ⟨a - BIG, by omega, by omega⟩
      · repeat' split at h
        all_goals omega
/-- String.value, String.coder, of a constant -/
theorem g_getSV (B : Bd Δ Γ own cc nL fr lo Kc Ks) {v9 : Option Nat} (hl0 : Cond.fieldLink own idx "java/lang/String" "value" "[B" ∈ ALLw) (d : decode cc pc = .ok (.getfield idx, 3)) (h : gR σ r 12 0 = some v9) (kk : GW Δ Γ kc ks (pc + 3) L (va_rf v9 :: st) σ) : GW Δ Γ kc ks pc L (va_rf r :: st) σ := fun φ H locs ls hp hst hL hl => by
  obtain ⟨a, rfl, hk, rfl⟩ := gR_s h
  obtain ⟨j, hj, rfl⟩ := big_str hp hk
  have hn := hp.2.2.2.2.1.1
  have hR : hR σ (BIG + j) 0 = some (BIG + j + 100) := by
    unfold hR cR
    rw [if_neg (fun q => by have : hN σ = σ.1 := rfl; omega)]
  rw [hR] at kk
  have hE := (B.2.2.2.2.2.2.2.1.2.1 j hj).2.1
  have hf := hp.2.2.2.1 (BIG + j) (Nat.le_add_right _ _)
  have kk := kk φ H locs ls hp (SC.c (v := .ref (BIG + j + 100)) (Or.inr (by omega)) hst.t) hL hl
  have e : en φ (va_rf (some (BIG + j + 100))) = .ref (Δ.2.2.1 (BIG + 100 + j)) := congrArg Value.ref (by rw [hp.2.2.2.1 _ (by omega), Nat.add_right_comm])
  rw [List.map_cons, e] at kk
  show W _ _ _ _ _ _ _ _ _ _ _ _ _ _ _ (F0 _ pc ls (.ref (φ (BIG + j)) :: _))
  rw [hf]
  exact vk_getf B.1 B.2.1 hE hp.2.2.1 B.2.2.2.1 (B.2.2.2.2.1 _ hl0) (fun _ q => q) d kk
theorem g_getSC (B : Bd Δ Γ own cc nL fr lo Kc Ks) {v9 : Int32} (hl0 : Cond.fieldLink own idx "java/lang/String" "coder" "B" ∈ ALLw) (d : decode cc pc = .ok (.getfield idx, 3)) (h : gI σ r 12 1 = some v9) (kk : GW Δ Γ kc ks (pc + 3) L (.int v9 :: st) σ) : GW Δ Γ kc ks pc L (va_rf r :: st) σ := fun φ H locs ls hp hst hL hl => by
  obtain ⟨a, rfl, hk, rfl⟩ := gI_s h
  obtain ⟨j, hj, rfl⟩ := big_str hp hk
  have hn := hp.2.2.2.2.1.1
  have hI9 : hI σ (BIG + j) 1 = 0 := by
    unfold hI cI
    have : nSt = 60 := rfl
    rw [if_neg (fun q => by have : hN σ = σ.1 := rfl; omega), if_pos (by omega)]
  rw [hI9] at kk
  have hE := (B.2.2.2.2.2.2.2.1.2.1 j hj).1
  have hf := hp.2.2.2.1 (BIG + j) (Nat.le_add_right _ _)
  have kk := kk φ H locs ls hp (SC.c (v := .int 0) True.intro hst.t) hL hl
  show W _ _ _ _ _ _ _ _ _ _ _ _ _ _ _ (F0 _ pc ls (.ref (φ (BIG + j)) :: _))
  rw [hf]
  exact vk_getf B.1 B.2.1 hE hp.2.2.1 B.2.2.2.1 (B.2.2.2.2.1 _ hl0) (fun _ q => q) d kk
theorem g_gstC (B : Bd Δ Γ own cc nL fr lo Kc Ks) (hl0 : Cond.fieldLink own idx "java/lang/String" "COMPACT_STRINGS" "Z" ∈ ALLw) (d : decode cc pc = .ok (.getstatic idx, 3)) (kk : GW Δ Γ kc ks (pc + 3) L (.int 1 :: st) σ) : GW Δ Γ kc ks pc L st σ := fun φ H locs ls hp hst hL hl =>
  va_gets B.1 B.2.1 B.2.2.2.2.2.2.2.1.2.2.1 hp.2.2.1 B.2.2.2.1 (B.2.2.2.2.1 _ hl0) (fun _ q => q) d (kk φ H locs ls hp (SC.c (v := .int 1) True.intro hst) hL hl)
theorem g_gstO (B : Bd Δ Γ own cc nL fr lo Kc Ks) (hl0 : Cond.fieldLink own idx "java/lang/Integer" "DigitOnes" "[B" ∈ ALLw) (d : decode cc pc = .ok (.getstatic idx, 3)) (kk : GW Δ Γ kc ks (pc + 3) L (va_rf (some (BIG + 200)) :: st) σ) : GW Δ Γ kc ks pc L st σ := fun φ H locs ls hp hst hL hl => by
  have kk := kk φ H locs ls hp (SC.c (v := .ref (BIG + 200)) (Or.inr (Nat.le_add_right _ _)) hst) hL hl
  have e : en φ (va_rf (some (BIG + 200))) = .ref (Δ.2.2.1 (BIG + 200)) := congrArg Value.ref (hp.2.2.2.1 _ (Nat.le_add_right _ _))
  rw [List.map_cons, e] at kk
  exact va_gets B.1 B.2.1 B.2.2.2.2.2.2.2.1.2.2.2.1 hp.2.2.1 B.2.2.2.1 (B.2.2.2.2.1 _ hl0) (fun _ q => q) d kk
theorem g_gstT (B : Bd Δ Γ own cc nL fr lo Kc Ks) (hl0 : Cond.fieldLink own idx "java/lang/Integer" "DigitTens" "[B" ∈ ALLw) (d : decode cc pc = .ok (.getstatic idx, 3)) (kk : GW Δ Γ kc ks (pc + 3) L (va_rf (some (BIG + 201)) :: st) σ) : GW Δ Γ kc ks pc L st σ := fun φ H locs ls hp hst hL hl => by
  have kk := kk φ H locs ls hp (SC.c (v := .ref (BIG + 201)) (Or.inr (Nat.le_add_right _ _)) hst) hL hl
  have e : en φ (va_rf (some (BIG + 201))) = .ref (Δ.2.2.1 (BIG + 201)) := congrArg Value.ref (hp.2.2.2.1 _ (Nat.le_add_right _ _))
  rw [List.map_cons, e] at kk
  exact va_gets B.1 B.2.1 B.2.2.2.2.2.2.2.1.2.2.2.2.1 hp.2.2.1 B.2.2.2.1 (B.2.2.2.2.1 _ hl0) (fun _ q => q) d kk
/-! throws -/
def TW (own : String) (idx ic x : Nat) : Prop := Cond.classLink own idx (exN x) ∈ ALLw ∧ Cond.initialized (exN x) ∈ ALLw ∧ (∀ w ∈ vx_atS own ic (exN x) ["java/lang/RuntimeException", "java/lang/Exception"], w ∈ ALLw ∨ (w ∈ ALLn ∧ w.onTables = true)) ∧ (∀ w ∈ Cond.classLink own idx (exN x) :: Cond.initialized (exN x) :: vx_atS own ic (exN x) ["java/lang/RuntimeException", "java/lang/Exception"], vx_ot w = true) ∧ Bundle.fit (exN x) = true
theorem rp_grown {s t : State} {φ : Nat → Nat} {H : Heap} {locs : List Loc} (hp : Rp Δ s φ σ H locs) (h1 : H.size ≤ t.heap.size) (h2 : ∀ q : Nat, q < H.size → t.heap[q]? = H[q]?) : Pst Δ φ σ t.heap ∧ va_F (AA Δ) s t := by
  refine ⟨⟨hp.2.2.2.2.2.1, hp.2.2.2.2.2.2, hp.1.kept (fun k q hk => h2 q.1 (hp.1 k q hk).lt), hp.2.1, hp.2.2.2.1, hp.2.2.2.2.1⟩, Nat.le_trans hp.2.2.1.1 h1, fun q h3 h4 => ?_⟩
  rw [h2 q (Nat.lt_of_lt_of_le h3 hp.2.2.1.1)]
  exact hp.2.2.1.2.1 q h3 h4
theorem g_throw (B : Bd Δ Γ own cc nL fr lo Kc Ks) {ik is ic j : Nat} {tx : String} (hT : TW own ik ic x) (hj : stT[j]? = some (own, is, tx)) (E : En Δ Γ (.error x) σ Kc Ks ret) (hR : 6 ≤ fr ∧ 90 ≤ lo) (h4 : st.length ≤ 4)
    (d0 : decode cc pc = .ok (.new ik, 3)) (d3 : decode cc (pc + 3) = .ok (.dup, 1)) (d4 : decode cc (pc + 4) = .ok (.ldc is, 2)) (d6 : decode cc (pc + 6) = .ok (.invokespecial ic, 3)) (d9 : decode cc (pc + 9) = .ok (.athrow, 1)) (hc : kc + 1 ≤ Kc) (hs : ks + 6 ≤ Ks) : GW Δ Γ kc ks pc L st σ := fun φ H locs ls hp hst hL hl => by
  have hj2 : j < nSt := (List.getElem?_eq_some_iff.mp hj).1
  have hcat := cat_le φ st 4 h4
  rw [E.1]
  refine vx_throwS (names := ["java/lang/RuntimeException", "java/lang/Exception"]) (A := AA Δ) B.1 B.2.1 B.2.2.2.2.2.2.2.2.2.2.2.2.2 B.2.2.2.1 hT.2.2.2.2 (by decide) (B.2.2.2.2.1 _ hT.1) (B.2.2.2.2.1 _ hT.2.1) (B.2.2.2.2.2.2.2.1.1 j hj2 _ hj) (fun w hw => ?_) hT.2.2.2.1 B.2.2.2.2.2.2.2.1.2.2.2.2.2.2.2.2.1 B.2.2.2.2.2.2.2.1.2.2.2.2.2.2.2.2.2.1 hp.2.2.1 hl.1 d0 d3 d4 d6 d9 (fun x hx => (E.2.2 x hx).elim) (by rw [B.2.2.2.2.2.2.2.2.1]; show 5 < fr; omega) (by rw [B.2.2.2.2.2.2.2.2.2.1]; show _ + (13 * 3 + 43) ≤ lo; omega) (by rw [B.2.2.2.2.2.2.2.2.2.2.1]; exact hc) (by rw [B.2.2.2.2.2.2.2.2.2.2.2.1]; exact hs) B.2.2.2.2.2.2.2.2.2.2.2.2.1 (fun t _ h1 h2 => ?_) hp.2.2.1.2.2 hc hs
  · rcases hT.2.2.1 w hw with e | ⟨e, e2⟩
    · exact B.2.2.2.2.1 w e
    · exact va_Nw.use e2 (B.2.2.2.2.2.2.2.1.2.2.2.2.2.2.2.2.2.2 w e)
  · obtain ⟨g1, g2⟩ := rp_grown hp h1 h2
    exact ⟨⟨φ, x, rfl, rfl, g1⟩, g2⟩
theorem g_throwW (B : Bd Δ Γ own cc nL fr lo Kc Ks) {ik is ic j : Nat} {tx : String} (hT : TW own ik ic x) (hj : stT[j]? = some (own, is, tx)) (E : En Δ Γ (.error x) σ Kc Ks ret) (hR : 6 ≤ fr ∧ 90 ≤ lo) (h4 : st.length ≤ 4)
    (d0 : decode cc pc = .ok (.new ik, 3)) (d3 : decode cc (pc + 3) = .ok (.dup, 1)) (d4 : decode cc (pc + 4) = .ok (.ldc_w is, 3)) (d7 : decode cc (pc + 7) = .ok (.invokespecial ic, 3)) (d10 : decode cc (pc + 10) = .ok (.athrow, 1)) (hc : kc + 1 ≤ Kc) (hs : ks + 6 ≤ Ks) : GW Δ Γ kc ks pc L st σ := fun φ H locs ls hp hst hL hl => by
  have hj2 : j < nSt := (List.getElem?_eq_some_iff.mp hj).1
  have hcat := cat_le φ st 4 h4
  rw [E.1]
  refine vx_throwSW (names := ["java/lang/RuntimeException", "java/lang/Exception"]) (A := AA Δ) B.1 B.2.1 B.2.2.2.2.2.2.2.2.2.2.2.2.2 B.2.2.2.1 hT.2.2.2.2 (by decide) (B.2.2.2.2.1 _ hT.1) (B.2.2.2.2.1 _ hT.2.1) (B.2.2.2.2.2.2.2.1.1 j hj2 _ hj) (fun w hw => ?_) hT.2.2.2.1 B.2.2.2.2.2.2.2.1.2.2.2.2.2.2.2.2.1 B.2.2.2.2.2.2.2.1.2.2.2.2.2.2.2.2.2.1 hp.2.2.1 hl.1 d0 d3 d4 d7 d10 (fun x hx => (E.2.2 x hx).elim) (by rw [B.2.2.2.2.2.2.2.2.1]; show 5 < fr; omega) (by rw [B.2.2.2.2.2.2.2.2.2.1]; show _ + (13 * 3 + 43) ≤ lo; omega) (by rw [B.2.2.2.2.2.2.2.2.2.2.1]; exact hc) (by rw [B.2.2.2.2.2.2.2.2.2.2.2.1]; exact hs) B.2.2.2.2.2.2.2.2.2.2.2.2.1 (fun t _ h1 h2 => ?_) hp.2.2.1.2.2 hc hs
  · rcases hT.2.2.1 w hw with e | ⟨e, e2⟩
    · exact B.2.2.2.2.1 w e
    · exact va_Nw.use e2 (B.2.2.2.2.2.2.2.1.2.2.2.2.2.2.2.2.2.2 w e)
  · obtain ⟨g1, g2⟩ := rp_grown hp h1 h2
    exact ⟨⟨φ, x, rfl, rfl, g1⟩, g2⟩
/-! System.arraycopy -/
def CPW (own : String) (idx : Nat) : Prop := Cond.methodLink own idx arraycopyName ∈ ALLw ∧ Cond.native arraycopyName ∈ ALLw ∧ Cond.static arraycopyName ∈ ALLw ∧ Cond.initialized "java/lang/System" ∈ ALLw
theorem nlt0 {x : Int32} (h : 0 ≤ x.toInt) : ¬ x < 0 := fun q => by
  have q2 : x.toInt < (0 : Int32).toInt := Int32.lt_iff_toInt_lt.mp q
  have : (0 : Int32).toInt = 0 := rfl
  omega
theorem ent_wIr {aC : Nat → ClassId} {φ : Nat → Nat} {a : Nat} (f : Nat → Int32) (ha : a < hN σ) (j : Nat) (hj : j ≠ a) : ent aC φ (wIr σ a f) j = ent aC φ σ j := ent_same rfl rfl (fun i => by rw [hI_wIr _ _ _ _ _ ha, if_neg hj]) (fun _ => rfl) (fun _ => rfl) (fun _ => rfl)
theorem ent_wJr {aC : Nat → ClassId} {φ : Nat → Nat} {a : Nat} (f : Nat → Int64) (ha : a < hN σ) (j : Nat) (hj : j ≠ a) : ent aC φ (wJr σ a f) j = ent aC φ σ j := ent_same rfl rfl (fun _ => rfl) (fun i => by rw [hJ_wJr _ _ _ _ _ ha, if_neg hj]) (fun _ => rfl) (fun _ => rfl)
theorem g_cpI (B : Bd Δ Γ own cc nL fr lo Kc Ks) {r2 : Option Nat} {sp dp m9 : Int32} {σ' : HpT} (hκ : κ = 20 ∨ κ = 22) (hl0 : CPW own idx) (hR : 1 ≤ fr ∧ 60 ≤ lo) (h4 : st.length ≤ 4) (d : decode cc pc = .ok (.invokestatic idx, 3)) (h : cpI κ σ r sp r2 dp m9 = some σ') (kk : GW Δ Γ kc ks (pc + 3) L st σ') : GW Δ Γ kc ks pc L (.int m9 :: .int dp :: va_rf r2 :: .int sp :: va_rf r :: st) σ := fun φ H locs ls hp hst hL hl => by
  have hcat := cat_le φ st 4 h4
  have hR1 : 1 ≤ Γ.2.2.2.1.frames := by rw [B.2.2.2.2.2.2.2.2.1]; exact hR.1
  have hR2 : ((st.map (en φ)).map fun v => v.category).sum + (nativeFrameWords "java/lang/System" "arraycopy" 5 + 11) ≤ Γ.2.2.2.1.locals := by
    rw [B.2.2.2.2.2.2.2.2.2.1]
    have : nativeFrameWords "java/lang/System" "arraycopy" 5 + 11 ≤ 50 := by decide +kernel
    omega
  cases r with
  | none => cases h
  | some a =>
    cases r2 with
    | none => cases h
    | some b =>
      unfold cpI at h
      dsimp only at h
      split at h
      · rename_i hh
        obtain ⟨k1, k2, ha, hb, h1, h2, h3, h5, h6⟩ := hh
        have h := Option.some.inj h
        subst h
        have e1 := ws_at (aC := Δ.2.1) (φ := φ) ha
        have e2 := ws_at (aC := Δ.2.1) (φ := φ) hb
        have hts := B.2.2.2.2.1
        rcases hκ with rfl | rfl
        · rw [entA k1 (by decide)] at e1
          rw [entA k2 (by decide)] at e2
          refine va_copyi (ty := .int) B.1 B.2.1 hl.1.symm B.2.2.2.1 (hts _ hl0.1) (hts _ hl0.2.1) (hts _ hl0.2.2.1) (hts _ hl0.2.2.2) B.2.2.2.2.2.1 hp.1 hp.2.1 hp.2.2.1 a b 0 0 e1 e2 rfl rfl rfl (nlt0 h1) (nlt0 h2) (nlt0 h3) h5 h6 (fun _ _ => rfl) hR1 hR2 d (fun H1 locs1 hP hD hS => ?_)
          refine kk φ H1 locs1 ls (Rp_set hp rfl (fun j _ => ent_wIr _ hb j) ?_ ?_ hP hD hS) (CL_n rfl hst.t.t.t.t.t) (LC_n rfl hL) hl
          · rw [entA (σ := wIr σ b _) (κ := 20) k2 (by decide)]
            show Sum.inl (Δ.2.1 0, hZ σ b, Sum.inl (hI (wIr σ b _) b)) = _
            rw [show hI (wIr σ b (va_cpy (hI σ a) (hI σ b) sp.toNatClampNeg dp.toNatClampNeg m9.toNatClampNeg)) b = va_cpy (hI σ a) (hI σ b) sp.toNatClampNeg dp.toNatClampNeg m9.toNatClampNeg from funext fun j => by rw [hI_wIr _ _ _ _ _ hb, if_pos rfl]]
          · refine ⟨hp.2.2.2.2.1.1, fun i k j hi hx => hp.2.2.2.2.1.2.1 i k j hi hx, fun i k hx => ?_⟩
            have hx2 : hK σ i = 22 := hx
            rw [hI_wIr _ _ _ _ _ hb, if_neg (fun q => by rw [q, k2] at hx2; cases hx2)]
            exact hp.2.2.2.2.1.2.2 i k hx2
        · rw [entA k1 (by decide)] at e1
          rw [entA k2 (by decide)] at e2
          refine va_copyi (ty := .byte) B.1 B.2.1 hl.1.symm B.2.2.2.1 (hts _ hl0.1) (hts _ hl0.2.1) (hts _ hl0.2.2.1) (hts _ hl0.2.2.2) B.2.2.2.2.2.1 hp.1 hp.2.1 hp.2.2.1 a b 2 2 e1 e2 rfl rfl rfl (nlt0 h1) (nlt0 h2) (nlt0 h3) h5 h6 (fun i _ => fit_byte (hp.2.2.2.2.1.2.2 a _ k1)) hR1 hR2 d (fun H1 locs1 hP hD hS => ?_)
          refine kk φ H1 locs1 ls (Rp_set hp rfl (fun j _ => ent_wIr _ hb j) ?_ ?_ hP hD hS) (CL_n rfl hst.t.t.t.t.t) (LC_n rfl hL) hl
          · rw [entA (σ := wIr σ b _) (κ := 22) k2 (by decide)]
            show Sum.inl (Δ.2.1 2, hZ σ b, Sum.inl (hI (wIr σ b _) b)) = _
            rw [show hI (wIr σ b (va_cpy (hI σ a) (hI σ b) sp.toNatClampNeg dp.toNatClampNeg m9.toNatClampNeg)) b = va_cpy (hI σ a) (hI σ b) sp.toNatClampNeg dp.toNatClampNeg m9.toNatClampNeg from funext fun j => by rw [hI_wIr _ _ _ _ _ hb, if_pos rfl]]
          · refine ⟨hp.2.2.2.2.1.1, fun i k j hi hx => hp.2.2.2.2.1.2.1 i k j hi hx, fun i k hx => ?_⟩
            have hx2 : hK σ i = 22 := hx
            rw [hI_wIr _ _ _ _ _ hb]
            split
            · unfold va_cpy
              split
              · exact hp.2.2.2.2.1.2.2 a _ k1
              · exact hp.2.2.2.2.1.2.2 b _ k2
            · exact hp.2.2.2.2.1.2.2 i k hx2
      · cases h
theorem g_cpJ (B : Bd Δ Γ own cc nL fr lo Kc Ks) {r2 : Option Nat} {sp dp m9 : Int32} {σ' : HpT} (hl0 : CPW own idx) (hR : 1 ≤ fr ∧ 60 ≤ lo) (h4 : st.length ≤ 4) (d : decode cc pc = .ok (.invokestatic idx, 3)) (h : cpJ σ r sp r2 dp m9 = some σ') (kk : GW Δ Γ kc ks (pc + 3) L st σ') : GW Δ Γ kc ks pc L (.int m9 :: .int dp :: va_rf r2 :: .int sp :: va_rf r :: st) σ := fun φ H locs ls hp hst hL hl => by
  have hcat := cat_le φ st 4 h4
  have hR1 : 1 ≤ Γ.2.2.2.1.frames := by rw [B.2.2.2.2.2.2.2.2.1]; exact hR.1
  have hR2 : ((st.map (en φ)).map fun v => v.category).sum + (nativeFrameWords "java/lang/System" "arraycopy" 5 + 11) ≤ Γ.2.2.2.1.locals := by
    rw [B.2.2.2.2.2.2.2.2.2.1]
    have : nativeFrameWords "java/lang/System" "arraycopy" 5 + 11 ≤ 50 := by decide +kernel
    omega
  cases r with
  | none => cases h
  | some a =>
    cases r2 with
    | none => cases h
    | some b =>
      unfold cpJ at h
      dsimp only at h
      split at h
      · rename_i hh
        obtain ⟨k1, k2, ha, hb, h1, h2, h3, h5, h6⟩ := hh
        have h := Option.some.inj h
        subst h
        have e1 := ws_at (aC := Δ.2.1) (φ := φ) ha
        have e2 := ws_at (aC := Δ.2.1) (φ := φ) hb
        have hts := B.2.2.2.2.1
        rw [entA k1 (by decide)] at e1
        rw [entA k2 (by decide)] at e2
        refine va_copyl (ty := .long) B.1 B.2.1 hl.1.symm B.2.2.2.1 (hts _ hl0.1) (hts _ hl0.2.1) (hts _ hl0.2.2.1) (hts _ hl0.2.2.2) B.2.2.2.2.2.1 hp.1 hp.2.1 hp.2.2.1 a b 1 1 e1 e2 rfl rfl rfl (nlt0 h1) (nlt0 h2) (nlt0 h3) h5 h6 (fun _ _ => rfl) hR1 hR2 d (fun H1 locs1 hP hD hS => ?_)
        refine kk φ H1 locs1 ls (Rp_set hp rfl (fun j _ => ent_wJr _ hb j) ?_ ?_ hP hD hS) (CL_n rfl hst.t.t.t.t.t) (LC_n rfl hL) hl
        · rw [entA (σ := wJr σ b _) (κ := 21) k2 (by decide)]
          show Sum.inl (Δ.2.1 1, hZ σ b, Sum.inr (Sum.inl (hJ (wJr σ b _) b))) = _
          rw [show hJ (wJr σ b (va_cpy (hJ σ a) (hJ σ b) sp.toNatClampNeg dp.toNatClampNeg m9.toNatClampNeg)) b = va_cpy (hJ σ a) (hJ σ b) sp.toNatClampNeg dp.toNatClampNeg m9.toNatClampNeg from funext fun j => by rw [hJ_wJr _ _ _ _ _ hb, if_pos rfl]]
        · exact ⟨hp.2.2.2.2.1.1, fun i k j hi hx => hp.2.2.2.2.1.2.1 i k j hi hx, fun i k hx => hp.2.2.2.2.1.2.2 i k hx⟩
      · cases h
end GP
end
section
/-! LOCALS BEHIND A STORE; small things for the printed walks -/
section FIL
variable {i j : Nat} {v w : Value} {t t' : List (Nat × Value)}
theorem f1_n : ([] : List (Nat × Value)).filter (fun q => !(q.1 == i) && !(q.1 + 1 == i && q.2.category == 2)) = [] := rfl
theorem f1_k (h : (j == i || j + 1 == i) = false) (k : t.filter (fun q => !(q.1 == i) && !(q.1 + 1 == i && q.2.category == 2)) = t') : ((j, v) :: t).filter (fun q => !(q.1 == i) && !(q.1 + 1 == i && q.2.category == 2)) = (j, v) :: t' := by
  have h2 := Bool.or_eq_false_iff.mp h
  rw [List.filter_cons_of_pos (by simp only [h2.1, h2.2]; rfl), k]
theorem f1_1 (h : (j == i) = false) (hc : v.category = 1) (k : t.filter (fun q => !(q.1 == i) && !(q.1 + 1 == i && q.2.category == 2)) = t') : ((j, v) :: t).filter (fun q => !(q.1 == i) && !(q.1 + 1 == i && q.2.category == 2)) = (j, v) :: t' := by
  rw [List.filter_cons_of_pos (by simp [h, hc]), k]
theorem f1_x (k : t.filter (fun q => !(q.1 == i) && !(q.1 + 1 == i && q.2.category == 2)) = t') : ((i, v) :: t).filter (fun q => !(q.1 == i) && !(q.1 + 1 == i && q.2.category == 2)) = t' := by
  rw [List.filter_cons_of_neg (by simp), k]
theorem f1_w (hc : v.category = 2) (k : t.filter (fun q => !(q.1 == j + 1) && !(q.1 + 1 == j + 1 && q.2.category == 2)) = t') : ((j, v) :: t).filter (fun q => !(q.1 == j + 1) && !(q.1 + 1 == j + 1 && q.2.category == 2)) = t' := by
  rw [List.filter_cons_of_neg (by simp [hc]), k]
theorem s1_c (k : t.filter (fun q => !(q.1 == i) && !(q.1 + 1 == i && q.2.category == 2)) = t') : st1 i w t = (i, w) :: t' := by
  unfold st1
  rw [k]
theorem f2_n : ([] : List (Nat × Value)).filter (fun q => !(q.1 == i) && (!(q.1 == i + 1) && !(q.1 + 1 == i && q.2.category == 2))) = [] := rfl
theorem f2_k (h : (j == i || (j == i + 1 || j + 1 == i)) = false) (k : t.filter (fun q => !(q.1 == i) && (!(q.1 == i + 1) && !(q.1 + 1 == i && q.2.category == 2))) = t') : ((j, v) :: t).filter (fun q => !(q.1 == i) && (!(q.1 == i + 1) && !(q.1 + 1 == i && q.2.category == 2))) = (j, v) :: t' := by
  have h2 := Bool.or_eq_false_iff.mp h
  have h3 := Bool.or_eq_false_iff.mp h2.2
  rw [List.filter_cons_of_pos (by simp only [h2.1, h3.1, h3.2]; rfl), k]
theorem f2_1 (h : (j == i || j == i + 1) = false) (hc : v.category = 1) (k : t.filter (fun q => !(q.1 == i) && (!(q.1 == i + 1) && !(q.1 + 1 == i && q.2.category == 2))) = t') : ((j, v) :: t).filter (fun q => !(q.1 == i) && (!(q.1 == i + 1) && !(q.1 + 1 == i && q.2.category == 2))) = (j, v) :: t' := by
  have h2 := Bool.or_eq_false_iff.mp h
  rw [List.filter_cons_of_pos (by simp only [h2.1, h2.2, hc]; simp), k]
theorem f2_x (k : t.filter (fun q => !(q.1 == i) && (!(q.1 == i + 1) && !(q.1 + 1 == i && q.2.category == 2))) = t') : ((i, v) :: t).filter (fun q => !(q.1 == i) && (!(q.1 == i + 1) && !(q.1 + 1 == i && q.2.category == 2))) = t' := by
  rw [List.filter_cons_of_neg (by simp), k]
theorem f2_y (k : t.filter (fun q => !(q.1 == i) && (!(q.1 == i + 1) && !(q.1 + 1 == i && q.2.category == 2))) = t') : ((i + 1, v) :: t).filter (fun q => !(q.1 == i) && (!(q.1 == i + 1) && !(q.1 + 1 == i && q.2.category == 2))) = t' := by
  rw [List.filter_cons_of_neg (by simp), k]
theorem s2_c (k : t.filter (fun q => !(q.1 == i) && (!(q.1 == i + 1) && !(q.1 + 1 == i && q.2.category == 2))) = t') : st2 i w t = (i, w) :: t' := by
  unfold st2
  rw [k]
end FIL
theorem ifp {α : Type} {c : Prop} {hd : Decidable c} (hc : c) {a b y : α} (h : (if c then a else b) = y) : a = y := by rw [if_pos hc] at h; exact h
theorem ifn {α : Type} {c : Prop} {hd : Decidable c} (hc : ¬ c) {a b y : α} (h : (if c then a else b) = y) : b = y := by rw [if_neg hc] at h; exact h
theorem bI0 {b : Bool} (h : bI b = 0) : ¬ b = true := by intro e; subst e; exact absurd h (by decide)
theorem bI1 {b : Bool} (h : ¬ bI b = 0) : b = true := by
  cases b with
  | false => exact absurd rfl h
  | true => rfl
theorem bk {k a1 a2 A : Nat} (h : k + (a1 + a2) = A) : k + a1 + a2 = A := (Nat.add_assoc _ _ _).trans h
theorem bl {k a1 a2 A : Nat} (h : k + (a1 + a2) = A) : k + a1 ≤ A := by omega
theorem bl0 {k a A : Nat} (h : k + a = A) : k + 0 ≤ A := by omega
def oU : Except Nat Unit → Except Nat (Option Value)
  | .ok _ => .ok none
  | .error e => .error e
def oI : Except Nat Int32 → Except Nat (Option Value)
  | .ok v => .ok (some (.int v))
  | .error e => .error e
def oB : Except Nat Bool → Except Nat (Option Value)
  | .ok v => .ok (some (.int (bI v)))
  | .error e => .error e
def oJ : Except Nat Int64 → Except Nat (Option Value)
  | .ok v => .ok (some (.long v))
  | .error e => .error e
def oF : Except Nat UInt32 → Except Nat (Option Value)
  | .ok v => .ok (some (.float v))
  | .error e => .error e
def oD : Except Nat UInt64 → Except Nat (Option Value)
  | .ok v => .ok (some (.double v))
  | .error e => .error e
def oA : Except Nat (Option Nat) → Except Nat (Option Value)
  | .ok v => .ok (some (va_rf v))
  | .error e => .error e
theorem tne {x y : Int32} (h : ¬ x = y) {k : Int} (hk : y.toInt = k) : x.toInt ≠ k := fun q => h (Int32.toInt_inj.mp (q.trans hk.symm))
end
section
section GQ
variable {Δ : AmbT} {Γ : CtxT} {own : String} {cc : ByteArray} {nL fr lo Kc Ks kc ks pc : Nat} {L : List (Nat × Value)} {st stk : List Value} {σ σ1 : HpT}
variable {y : MethodName} {cc1 : ByteArray} {nL1 : Nat} {ret1 ret : Option FieldType} {n fr1 lo1 idx κ k1c k1s : Nat} {as : List Value} {r : Option Nat} {v : Option Value} {w : Value} {x : Nat} {q : vw_C} {host : String}
theorem g_cost {kc2 ks2 : Nat} (e1 : kc = kc2) (e2 : ks = ks2) (k : GW Δ Γ kc2 ks2 pc L st σ) : GW Δ Γ kc ks pc L st σ := by rw [e1, e2]; exact k
theorem g_callVs0 (B : Bd Δ Γ own cc nL fr lo Kc Ks) (hC : IsK σ r κ ∧ Ct Γ.2.1 y cc1 nL1 ret1 fr1 lo1 (va_rf r :: as) σ (.ok (some w)) σ1 0 0) (h12 : κ < 12) (hq : gcl[κ]? = some q) (hy : q.1 = y.cls) (hM : MI y cc1 nL1 ret1 n) (hl0 : LV own idx y) (hR : fr1 + 1 ≤ fr ∧ 8 + (nL1 + 11) + lo1 ≤ lo) (hn : as.length = n) (hstk : stk = as.reverse ++ (va_rf r :: st)) (h4 : st.length ≤ 4) (d : decode cc pc = .ok (.invokevirtual idx, 3)) (hc : kc ≤ Kc) (hs : ks ≤ Ks) (kk : GW Δ Γ kc ks (pc + 3) L (w :: st) σ1) : GW Δ Γ kc ks pc L stk σ := g_callV B hC h12 hq hy hM hl0 hR hn hstk h4 d hc hs kk
theorem g_callVsA (B : Bd Δ Γ own cc nL fr lo Kc Ks) (hC : IsK σ r κ ∧ Ct Γ.2.1 y cc1 nL1 ret1 fr1 lo1 (va_rf r :: as) σ (.ok (some w)) σ1 k1c k1s) (h12 : κ < 12) (hq : gcl[κ]? = some q) (hy : q.1 = y.cls) (hM : MI y cc1 nL1 ret1 n) (hl0 : LV own idx y) (hR : fr1 + 1 ≤ fr ∧ 8 + (nL1 + 11) + lo1 ≤ lo) (hn : as.length = n) (hstk : stk = as.reverse ++ (va_rf r :: st)) (h4 : st.length ≤ 4) (d : decode cc pc = .ok (.invokevirtual idx, 3)) (hc : kc + k1c ≤ Kc) (hs : ks + k1s ≤ Ks) (kk : GW Δ Γ (kc + k1c) (ks + k1s) (pc + 3) L (w :: st) σ1) : GW Δ Γ kc ks pc L stk σ := g_callV B hC h12 hq hy hM hl0 hR hn hstk h4 d hc hs kk
theorem g_callVv0 (B : Bd Δ Γ own cc nL fr lo Kc Ks) (hC : IsK σ r κ ∧ Ct Γ.2.1 y cc1 nL1 ret1 fr1 lo1 (va_rf r :: as) σ (.ok none) σ1 0 0) (h12 : κ < 12) (hq : gcl[κ]? = some q) (hy : q.1 = y.cls) (hM : MI y cc1 nL1 ret1 n) (hl0 : LV own idx y) (hR : fr1 + 1 ≤ fr ∧ 8 + (nL1 + 11) + lo1 ≤ lo) (hn : as.length = n) (hstk : stk = as.reverse ++ (va_rf r :: st)) (h4 : st.length ≤ 4) (d : decode cc pc = .ok (.invokevirtual idx, 3)) (hc : kc ≤ Kc) (hs : ks ≤ Ks) (kk : GW Δ Γ kc ks (pc + 3) L (st) σ1) : GW Δ Γ kc ks pc L stk σ := g_callV B hC h12 hq hy hM hl0 hR hn hstk h4 d hc hs kk
theorem g_callVvA (B : Bd Δ Γ own cc nL fr lo Kc Ks) (hC : IsK σ r κ ∧ Ct Γ.2.1 y cc1 nL1 ret1 fr1 lo1 (va_rf r :: as) σ (.ok none) σ1 k1c k1s) (h12 : κ < 12) (hq : gcl[κ]? = some q) (hy : q.1 = y.cls) (hM : MI y cc1 nL1 ret1 n) (hl0 : LV own idx y) (hR : fr1 + 1 ≤ fr ∧ 8 + (nL1 + 11) + lo1 ≤ lo) (hn : as.length = n) (hstk : stk = as.reverse ++ (va_rf r :: st)) (h4 : st.length ≤ 4) (d : decode cc pc = .ok (.invokevirtual idx, 3)) (hc : kc + k1c ≤ Kc) (hs : ks + k1s ≤ Ks) (kk : GW Δ Γ (kc + k1c) (ks + k1s) (pc + 3) L (st) σ1) : GW Δ Γ kc ks pc L stk σ := g_callV B hC h12 hq hy hM hl0 hR hn hstk h4 d hc hs kk
theorem g_callSs0 (B : Bd Δ Γ own cc nL fr lo Kc Ks) (hC : Ct Γ.2.1 y cc1 nL1 ret1 fr1 lo1 as σ (.ok (some w)) σ1 0 0) (hM : MI y cc1 nL1 ret1 n) (hl0 : LSt own idx y) (hR : fr1 + 1 ≤ fr ∧ 8 + (nL1 + 11) + lo1 ≤ lo) (hn : as.length = n) (hstk : stk = as.reverse ++ st) (h4 : st.length ≤ 4) (d : decode cc pc = .ok (.invokestatic idx, 3)) (hc : kc ≤ Kc) (hs : ks ≤ Ks) (kk : GW Δ Γ kc ks (pc + 3) L (w :: st) σ1) : GW Δ Γ kc ks pc L stk σ := g_callS B hC hM hl0 hR hn hstk h4 d hc hs kk
theorem g_callSsA (B : Bd Δ Γ own cc nL fr lo Kc Ks) (hC : Ct Γ.2.1 y cc1 nL1 ret1 fr1 lo1 as σ (.ok (some w)) σ1 k1c k1s) (hM : MI y cc1 nL1 ret1 n) (hl0 : LSt own idx y) (hR : fr1 + 1 ≤ fr ∧ 8 + (nL1 + 11) + lo1 ≤ lo) (hn : as.length = n) (hstk : stk = as.reverse ++ st) (h4 : st.length ≤ 4) (d : decode cc pc = .ok (.invokestatic idx, 3)) (hc : kc + k1c ≤ Kc) (hs : ks + k1s ≤ Ks) (kk : GW Δ Γ (kc + k1c) (ks + k1s) (pc + 3) L (w :: st) σ1) : GW Δ Γ kc ks pc L stk σ := g_callS B hC hM hl0 hR hn hstk h4 d hc hs kk
theorem g_callSv0 (B : Bd Δ Γ own cc nL fr lo Kc Ks) (hC : Ct Γ.2.1 y cc1 nL1 ret1 fr1 lo1 as σ (.ok none) σ1 0 0) (hM : MI y cc1 nL1 ret1 n) (hl0 : LSt own idx y) (hR : fr1 + 1 ≤ fr ∧ 8 + (nL1 + 11) + lo1 ≤ lo) (hn : as.length = n) (hstk : stk = as.reverse ++ st) (h4 : st.length ≤ 4) (d : decode cc pc = .ok (.invokestatic idx, 3)) (hc : kc ≤ Kc) (hs : ks ≤ Ks) (kk : GW Δ Γ kc ks (pc + 3) L (st) σ1) : GW Δ Γ kc ks pc L stk σ := g_callS B hC hM hl0 hR hn hstk h4 d hc hs kk
theorem g_callSvA (B : Bd Δ Γ own cc nL fr lo Kc Ks) (hC : Ct Γ.2.1 y cc1 nL1 ret1 fr1 lo1 as σ (.ok none) σ1 k1c k1s) (hM : MI y cc1 nL1 ret1 n) (hl0 : LSt own idx y) (hR : fr1 + 1 ≤ fr ∧ 8 + (nL1 + 11) + lo1 ≤ lo) (hn : as.length = n) (hstk : stk = as.reverse ++ st) (h4 : st.length ≤ 4) (d : decode cc pc = .ok (.invokestatic idx, 3)) (hc : kc + k1c ≤ Kc) (hs : ks + k1s ≤ Ks) (kk : GW Δ Γ (kc + k1c) (ks + k1s) (pc + 3) L (st) σ1) : GW Δ Γ kc ks pc L stk σ := g_callS B hC hM hl0 hR hn hstk h4 d hc hs kk
theorem g_callNSs0 (B : Bd Δ Γ own cc nL fr lo Kc Ks) (hC : Ct Γ.2.1 y cc1 nL1 ret1 fr1 lo1 as σ (.ok (some w)) σ1 0 0) (hM : MI y cc1 nL1 ret1 n) (hl0 : LNS own host idx y) (hR : fr1 + 1 ≤ fr ∧ 8 + (nL1 + 11) + lo1 ≤ lo) (hn : as.length = n) (hstk : stk = as.reverse ++ st) (h4 : st.length ≤ 4) (d : decode cc pc = .ok (.invokestatic idx, 3)) (hc : kc ≤ Kc) (hs : ks ≤ Ks) (kk : GW Δ Γ kc ks (pc + 3) L (w :: st) σ1) : GW Δ Γ kc ks pc L stk σ := g_callNS B hC hM hl0 hR hn hstk h4 d hc hs kk
theorem g_callNSsA (B : Bd Δ Γ own cc nL fr lo Kc Ks) (hC : Ct Γ.2.1 y cc1 nL1 ret1 fr1 lo1 as σ (.ok (some w)) σ1 k1c k1s) (hM : MI y cc1 nL1 ret1 n) (hl0 : LNS own host idx y) (hR : fr1 + 1 ≤ fr ∧ 8 + (nL1 + 11) + lo1 ≤ lo) (hn : as.length = n) (hstk : stk = as.reverse ++ st) (h4 : st.length ≤ 4) (d : decode cc pc = .ok (.invokestatic idx, 3)) (hc : kc + k1c ≤ Kc) (hs : ks + k1s ≤ Ks) (kk : GW Δ Γ (kc + k1c) (ks + k1s) (pc + 3) L (w :: st) σ1) : GW Δ Γ kc ks pc L stk σ := g_callNS B hC hM hl0 hR hn hstk h4 d hc hs kk
theorem g_callNSv0 (B : Bd Δ Γ own cc nL fr lo Kc Ks) (hC : Ct Γ.2.1 y cc1 nL1 ret1 fr1 lo1 as σ (.ok none) σ1 0 0) (hM : MI y cc1 nL1 ret1 n) (hl0 : LNS own host idx y) (hR : fr1 + 1 ≤ fr ∧ 8 + (nL1 + 11) + lo1 ≤ lo) (hn : as.length = n) (hstk : stk = as.reverse ++ st) (h4 : st.length ≤ 4) (d : decode cc pc = .ok (.invokestatic idx, 3)) (hc : kc ≤ Kc) (hs : ks ≤ Ks) (kk : GW Δ Γ kc ks (pc + 3) L (st) σ1) : GW Δ Γ kc ks pc L stk σ := g_callNS B hC hM hl0 hR hn hstk h4 d hc hs kk
theorem g_callNSvA (B : Bd Δ Γ own cc nL fr lo Kc Ks) (hC : Ct Γ.2.1 y cc1 nL1 ret1 fr1 lo1 as σ (.ok none) σ1 k1c k1s) (hM : MI y cc1 nL1 ret1 n) (hl0 : LNS own host idx y) (hR : fr1 + 1 ≤ fr ∧ 8 + (nL1 + 11) + lo1 ≤ lo) (hn : as.length = n) (hstk : stk = as.reverse ++ st) (h4 : st.length ≤ 4) (d : decode cc pc = .ok (.invokestatic idx, 3)) (hc : kc + k1c ≤ Kc) (hs : ks + k1s ≤ Ks) (kk : GW Δ Γ (kc + k1c) (ks + k1s) (pc + 3) L (st) σ1) : GW Δ Γ kc ks pc L stk σ := g_callNS B hC hM hl0 hR hn hstk h4 d hc hs kk
theorem g_callIv0 (B : Bd Δ Γ own cc nL fr lo Kc Ks) (hC : IsK σ r κ ∧ Ct Γ.2.1 y cc1 nL1 none fr1 lo1 (va_rf r :: as) σ (.ok none) σ1 0 0) (hM : MI y cc1 nL1 none n) (hl0 : LI own idx y) (hR : fr1 + 1 ≤ fr ∧ 8 + (nL1 + 11) + lo1 ≤ lo) (hn : as.length = n) (hstk : stk = as.reverse ++ (va_rf r :: st)) (h4 : st.length ≤ 4) (d : decode cc pc = .ok (.invokespecial idx, 3)) (hc : kc ≤ Kc) (hs : ks ≤ Ks) (kk : GW Δ Γ kc ks (pc + 3) L (st) σ1) : GW Δ Γ kc ks pc L stk σ := g_callI B hC hM hl0 hR hn hstk h4 d hc hs kk
theorem g_callIvA (B : Bd Δ Γ own cc nL fr lo Kc Ks) (hC : IsK σ r κ ∧ Ct Γ.2.1 y cc1 nL1 none fr1 lo1 (va_rf r :: as) σ (.ok none) σ1 k1c k1s) (hM : MI y cc1 nL1 none n) (hl0 : LI own idx y) (hR : fr1 + 1 ≤ fr ∧ 8 + (nL1 + 11) + lo1 ≤ lo) (hn : as.length = n) (hstk : stk = as.reverse ++ (va_rf r :: st)) (h4 : st.length ≤ 4) (d : decode cc pc = .ok (.invokespecial idx, 3)) (hc : kc + k1c ≤ Kc) (hs : ks + k1s ≤ Ks) (kk : GW Δ Γ (kc + k1c) (ks + k1s) (pc + 3) L (st) σ1) : GW Δ Γ kc ks pc L stk σ := g_callI B hC hM hl0 hR hn hstk h4 d hc hs kk
theorem g_callNIv0 (B : Bd Δ Γ own cc nL fr lo Kc Ks) (hC : IsK σ r κ ∧ Ct Γ.2.1 y cc1 nL1 none fr1 lo1 (va_rf r :: as) σ (.ok none) σ1 0 0) (hM : MI y cc1 nL1 none n) (hl0 : LNI own host idx y) (hR : fr1 + 1 ≤ fr ∧ 8 + (nL1 + 11) + lo1 ≤ lo) (hn : as.length = n) (hstk : stk = as.reverse ++ (va_rf r :: st)) (h4 : st.length ≤ 4) (d : decode cc pc = .ok (.invokespecial idx, 3)) (hc : kc ≤ Kc) (hs : ks ≤ Ks) (kk : GW Δ Γ kc ks (pc + 3) L (st) σ1) : GW Δ Γ kc ks pc L stk σ := g_callNI B hC hM hl0 hR hn hstk h4 d hc hs kk
theorem g_callNIvA (B : Bd Δ Γ own cc nL fr lo Kc Ks) (hC : IsK σ r κ ∧ Ct Γ.2.1 y cc1 nL1 none fr1 lo1 (va_rf r :: as) σ (.ok none) σ1 k1c k1s) (hM : MI y cc1 nL1 none n) (hl0 : LNI own host idx y) (hR : fr1 + 1 ≤ fr ∧ 8 + (nL1 + 11) + lo1 ≤ lo) (hn : as.length = n) (hstk : stk = as.reverse ++ (va_rf r :: st)) (h4 : st.length ≤ 4) (d : decode cc pc = .ok (.invokespecial idx, 3)) (hc : kc + k1c ≤ Kc) (hs : ks + k1s ≤ Ks) (kk : GW Δ Γ (kc + k1c) (ks + k1s) (pc + 3) L (st) σ1) : GW Δ Γ kc ks pc L stk σ := g_callNI B hC hM hl0 hR hn hstk h4 d hc hs kk
theorem g_callVcs0 (B : Bd Δ Γ own cc nL fr lo Kc Ks) (hC : IsK σ r κ ∧ Ct Γ.2.1 y cc1 nL1 ret1 fr1 lo1 (va_rf r :: as) σ (.ok (some w)) σ1 0 0) (h12 : κ < 12) (hq : gcl[κ]? = some q) (hM : MI y cc1 nL1 ret1 n) (hl0 : LVc own idx y q.1) (hR : fr1 + 1 ≤ fr ∧ 8 + (nL1 + 11) + lo1 ≤ lo) (hn : as.length = n) (hstk : stk = as.reverse ++ (va_rf r :: st)) (h4 : st.length ≤ 4) (d : decode cc pc = .ok (.invokevirtual idx, 3)) (hc : kc ≤ Kc) (hs : ks ≤ Ks) (kk : GW Δ Γ kc ks (pc + 3) L (w :: st) σ1) : GW Δ Γ kc ks pc L stk σ := g_callVc B hC h12 hq hM hl0 hR hn hstk h4 d hc hs kk
theorem g_callVcsA (B : Bd Δ Γ own cc nL fr lo Kc Ks) (hC : IsK σ r κ ∧ Ct Γ.2.1 y cc1 nL1 ret1 fr1 lo1 (va_rf r :: as) σ (.ok (some w)) σ1 k1c k1s) (h12 : κ < 12) (hq : gcl[κ]? = some q) (hM : MI y cc1 nL1 ret1 n) (hl0 : LVc own idx y q.1) (hR : fr1 + 1 ≤ fr ∧ 8 + (nL1 + 11) + lo1 ≤ lo) (hn : as.length = n) (hstk : stk = as.reverse ++ (va_rf r :: st)) (h4 : st.length ≤ 4) (d : decode cc pc = .ok (.invokevirtual idx, 3)) (hc : kc + k1c ≤ Kc) (hs : ks + k1s ≤ Ks) (kk : GW Δ Γ (kc + k1c) (ks + k1s) (pc + 3) L (w :: st) σ1) : GW Δ Γ kc ks pc L stk σ := g_callVc B hC h12 hq hM hl0 hR hn hstk h4 d hc hs kk
theorem g_callVcv0 (B : Bd Δ Γ own cc nL fr lo Kc Ks) (hC : IsK σ r κ ∧ Ct Γ.2.1 y cc1 nL1 ret1 fr1 lo1 (va_rf r :: as) σ (.ok none) σ1 0 0) (h12 : κ < 12) (hq : gcl[κ]? = some q) (hM : MI y cc1 nL1 ret1 n) (hl0 : LVc own idx y q.1) (hR : fr1 + 1 ≤ fr ∧ 8 + (nL1 + 11) + lo1 ≤ lo) (hn : as.length = n) (hstk : stk = as.reverse ++ (va_rf r :: st)) (h4 : st.length ≤ 4) (d : decode cc pc = .ok (.invokevirtual idx, 3)) (hc : kc ≤ Kc) (hs : ks ≤ Ks) (kk : GW Δ Γ kc ks (pc + 3) L (st) σ1) : GW Δ Γ kc ks pc L stk σ := g_callVc B hC h12 hq hM hl0 hR hn hstk h4 d hc hs kk
theorem g_callVcvA (B : Bd Δ Γ own cc nL fr lo Kc Ks) (hC : IsK σ r κ ∧ Ct Γ.2.1 y cc1 nL1 ret1 fr1 lo1 (va_rf r :: as) σ (.ok none) σ1 k1c k1s) (h12 : κ < 12) (hq : gcl[κ]? = some q) (hM : MI y cc1 nL1 ret1 n) (hl0 : LVc own idx y q.1) (hR : fr1 + 1 ≤ fr ∧ 8 + (nL1 + 11) + lo1 ≤ lo) (hn : as.length = n) (hstk : stk = as.reverse ++ (va_rf r :: st)) (h4 : st.length ≤ 4) (d : decode cc pc = .ok (.invokevirtual idx, 3)) (hc : kc + k1c ≤ Kc) (hs : ks + k1s ≤ Ks) (kk : GW Δ Γ (kc + k1c) (ks + k1s) (pc + 3) L (st) σ1) : GW Δ Γ kc ks pc L stk σ := g_callVc B hC h12 hq hM hl0 hR hn hstk h4 d hc hs kk
theorem g_callSUs0 (B : Bd Δ Γ own cc nL fr lo Kc Ks) (hC : IsK σ r κ ∧ Ct Γ.2.1 y cc1 nL1 ret1 fr1 lo1 (va_rf r :: as) σ (.ok (some w)) σ1 0 0) (h12 : κ < 12) (hq : gcl[κ]? = some q) (hM : MI y cc1 nL1 ret1 n) (hl0 : LSU own idx y) (hR : fr1 + 1 ≤ fr ∧ 8 + (nL1 + 11) + lo1 ≤ lo) (hn : as.length = n) (hstk : stk = as.reverse ++ (va_rf r :: st)) (h4 : st.length ≤ 4) (d : decode cc pc = .ok (.invokespecial idx, 3)) (hc : kc ≤ Kc) (hs : ks ≤ Ks) (kk : GW Δ Γ kc ks (pc + 3) L (w :: st) σ1) : GW Δ Γ kc ks pc L stk σ := g_callSU B hC h12 hq hM hl0 hR hn hstk h4 d hc hs kk
theorem g_callSUsA (B : Bd Δ Γ own cc nL fr lo Kc Ks) (hC : IsK σ r κ ∧ Ct Γ.2.1 y cc1 nL1 ret1 fr1 lo1 (va_rf r :: as) σ (.ok (some w)) σ1 k1c k1s) (h12 : κ < 12) (hq : gcl[κ]? = some q) (hM : MI y cc1 nL1 ret1 n) (hl0 : LSU own idx y) (hR : fr1 + 1 ≤ fr ∧ 8 + (nL1 + 11) + lo1 ≤ lo) (hn : as.length = n) (hstk : stk = as.reverse ++ (va_rf r :: st)) (h4 : st.length ≤ 4) (d : decode cc pc = .ok (.invokespecial idx, 3)) (hc : kc + k1c ≤ Kc) (hs : ks + k1s ≤ Ks) (kk : GW Δ Γ (kc + k1c) (ks + k1s) (pc + 3) L (w :: st) σ1) : GW Δ Γ kc ks pc L stk σ := g_callSU B hC h12 hq hM hl0 hR hn hstk h4 d hc hs kk
theorem g_callSUv0 (B : Bd Δ Γ own cc nL fr lo Kc Ks) (hC : IsK σ r κ ∧ Ct Γ.2.1 y cc1 nL1 ret1 fr1 lo1 (va_rf r :: as) σ (.ok none) σ1 0 0) (h12 : κ < 12) (hq : gcl[κ]? = some q) (hM : MI y cc1 nL1 ret1 n) (hl0 : LSU own idx y) (hR : fr1 + 1 ≤ fr ∧ 8 + (nL1 + 11) + lo1 ≤ lo) (hn : as.length = n) (hstk : stk = as.reverse ++ (va_rf r :: st)) (h4 : st.length ≤ 4) (d : decode cc pc = .ok (.invokespecial idx, 3)) (hc : kc ≤ Kc) (hs : ks ≤ Ks) (kk : GW Δ Γ kc ks (pc + 3) L (st) σ1) : GW Δ Γ kc ks pc L stk σ := g_callSU B hC h12 hq hM hl0 hR hn hstk h4 d hc hs kk
theorem g_callSUvA (B : Bd Δ Γ own cc nL fr lo Kc Ks) (hC : IsK σ r κ ∧ Ct Γ.2.1 y cc1 nL1 ret1 fr1 lo1 (va_rf r :: as) σ (.ok none) σ1 k1c k1s) (h12 : κ < 12) (hq : gcl[κ]? = some q) (hM : MI y cc1 nL1 ret1 n) (hl0 : LSU own idx y) (hR : fr1 + 1 ≤ fr ∧ 8 + (nL1 + 11) + lo1 ≤ lo) (hn : as.length = n) (hstk : stk = as.reverse ++ (va_rf r :: st)) (h4 : st.length ≤ 4) (d : decode cc pc = .ok (.invokespecial idx, 3)) (hc : kc + k1c ≤ Kc) (hs : ks + k1s ≤ Ks) (kk : GW Δ Γ (kc + k1c) (ks + k1s) (pc + 3) L (st) σ1) : GW Δ Γ kc ks pc L stk σ := g_callSU B hC h12 hq hM hl0 hR hn hstk h4 d hc hs kk
end GQ
theorem bnX_o {α β : Type} {o : Option (Except Nat α)} {f : α → Option (Except Nat β)} {y : Except Nat β} (h : bnX o f = some y) : ∃ z, o = some z ∧ (∀ e, z = .error e → y = .error e) ∧ ∀ j, z = .ok j → f j = some y := by
  rcases bnX_s h with ⟨e, h1, h2⟩ | ⟨a, h1, h2⟩
  · exact ⟨_, h1, fun e' q => (by cases q; exact h2), fun j q => (by cases q)⟩
  · exact ⟨_, h1, fun e' q => (by cases q), fun j q => by cases q; exact h2⟩
theorem bnA_o {α β : Type} {o : AT α} {f : α → HpT → AT β} {y : Except Nat β} {σ' : HpT} {a b : Nat} (h : bnA o f = some (y, σ', a, b)) : ∃ z σ1 a1 b1, o = some (z, σ1, a1, b1) ∧ (∀ e, z = .error e → y = .error e ∧ σ' = σ1 ∧ a = a1 ∧ b = b1) ∧ (∀ j, z = .ok j → ∃ a2 b2, f j σ1 = some (y, σ', a2, b2) ∧ a = a1 + a2 ∧ b = b1 + b2) ∧ a1 ≤ a ∧ b1 ≤ b := by
  rcases bnA_s h with ⟨e, h1, h2⟩ | ⟨v, σ1, a1, b1, a2, b2, h1, h2, h3, h4⟩
  · exact ⟨_, _, _, _, h1, fun e' q => (by cases q; exact ⟨h2, rfl, rfl, rfl⟩), fun j q => (by cases q), Nat.le_refl _, Nat.le_refl _⟩
  · exact ⟨_, _, _, _, h1, fun e' q => (by cases q), fun j q => (by cases q; exact ⟨a2, b2, h2, h3, h4⟩), by omega, by omega⟩
end
section
/-! small things for the printed walks -/
theorem al_n : (lg_sl []).length = 0 := rfl
theorem al_1 {v : Value} {vs : List Value} {n : Nat} (hc : v.category = 1) (h : (lg_sl vs).length = n) : (lg_sl (v :: vs)).length = n + 1 := by
  simp only [lg_sl, List.flatMap_cons, hc, List.length_append] at h ⊢
  simp [h]; omega
theorem al_2 {v : Value} {vs : List Value} {n : Nat} (hc : v.category = 2) (h : (lg_sl vs).length = n) : (lg_sl (v :: vs)).length = n + 2 := by
  simp only [lg_sl, List.flatMap_cons, hc, List.length_append] at h ⊢
  simp [h]; omega
theorem al_le {vs : List Value} {n m : Nat} (h : (lg_sl vs).length = n) (hm : n ≤ m) : (lg_sl vs).length ≤ m := h ▸ hm
theorem ag_n {i : Nat} : lv_args i [] = [] := rfl
theorem ag_1 {i : Nat} {v : Value} {vs : List Value} {L : List (Nat × Value)} (hc : v.category = 1) (h : lv_args (i + 1) vs = L) : lv_args i (v :: vs) = (i, v) :: L := by
  unfold lv_args
  rw [if_neg (by rw [hc]; decide), h]
theorem ag_2 {i : Nat} {v : Value} {vs : List Value} {L : List (Nat × Value)} (hc : v.category = 2) (h : lv_args (i + 2) vs = L) : lv_args i (v :: vs) = (i, v) :: L := by
  unfold lv_args
  rw [if_pos hc, h]
theorem bj {k r a1 A : Nat} (h : k + r = A) (h1 : a1 ≤ r) : k + a1 ≤ A := by omega
def nrB (x : Int32) : Option Unit := if x.toInt8.toInt32 = x then some () else none
def nrC (x : Int32) : Option Unit := if (x.toUInt32 % 65536).toInt32 = x then some () else none
theorem nrB_s {x : Int32} {u : Unit} (h : nrB x = some u) : narrow .byte (.int x) = .int x := by
  unfold nrB at h
  split at h
  · rename_i e; exact congrArg Value.int e
  · cases h
theorem nrC_s {x : Int32} {u : Unit} (h : nrC x = some u) : narrow .char (.int x) = .int x := by
  unfold nrC at h
  split at h
  · rename_i e; exact congrArg Value.int e
  · cases h
theorem inS {α : Type} {x y : α} {s t : HpT} (h : some (x, s) = some (y, t)) : x = y ∧ s = t := Prod.mk.inj (Option.some.inj h)
theorem inA {α : Type} {x y : α} {s t : HpT} {a b c d : Nat} (h : some (x, s, a, b) = some (y, t, c, d)) : x = y ∧ s = t ∧ a = c ∧ b = d := by
  have h1 := Prod.mk.inj (Option.some.inj h)
  have h2 := Prod.mk.inj h1.2
  exact ⟨h1.1, h2.1, Prod.mk.inj h2.2⟩
def OBW (own : String) (idx : Nat) : Prop := Cond.methodLink own idx Lib.objectInit ∈ ALLw ∧ Cond.instanceMethod Lib.objectInit ∈ ALLw ∧ Cond.code Lib.objectInit ⟨#[0xb1]⟩ 1 none ∈ ALLw
section VW15
variable {p : Program} {l : Launch} {e : Env} {R : Room} {s : State} {m : MethodId} {args : Array Value} {below : List Frame} {meth : Method} {c : Code} {H : Heap} {locs : List Loc} {cells slots : Nat} {Q : State → Prop}
variable {cc : ByteArray} {pc : Nat} {ls : Array Slot} {rest : List Value}
theorem vz_ldcSW (hexec : p.tables.exec = Jvm.exec) (hb : c.code = cc) {own tx : String} {index q : Nat} (hown : s.vm.findClass own = some m.cls) (hZ : vk_R own index tx q s) (hdg : decode cc pc = .ok (.ldc_w index, 3))
    (k : W p l e R s m args below meth c H locs cells slots Q (F0 m (pc + 3) ls (.ref q :: rest))) : W p l e R s m args below meth c H locs cells slots Q (F0 m pc ls rest) := by
  intro T hT X
  obtain ⟨t, a1, b1⟩ := k T hT X
  exact ⟨t, X.ldcStringW hexec hown (text := tx) (a := q) hZ.1 hZ.2 (g := F0 m pc ls rest) rfl (by rw [hb]; exact hdg) t a1, b1⟩
end VW15
def mmx (x y : Int32) : Int32 := if x < y then y else x
def mmn (x y : Int32) : Int32 := if y < x then y else x
def mab (x : Int32) : Int32 := if 0 ≤ x then x else 0 - x
def MTW (own : String) (idx : Nat) (y : MethodName) (cc : ByteArray) (n : Nat) : Prop := Cond.methodLink own idx y ∈ ALLw ∧ Cond.static y ∈ ALLw ∧ Cond.initialized "java/lang/Math" ∈ ALLw ∧ Cond.code y cc n (some .int) ∈ ALLw
theorem bm {k r A : Nat} (h : k + r = A) : k ≤ A := by omega
section GW15
variable {Δ : AmbT} {Γ : CtxT} {own : String} {cc : ByteArray} {nL fr lo Kc Ks kc ks pc : Nat} {L : List (Nat × Value)} {st stk : List Value} {σ σ1 : HpT}
theorem g_objInit9 (B : Bd Δ Γ own cc nL fr lo Kc Ks) {idx κ : Nat} {r : Option Nat} {σ0 : HpT} (hk : IsK σ0 r κ) (ho : OBW own idx) (hR : 1 ≤ fr ∧ 20 ≤ lo) (h4 : st.length ≤ 4) (d : decode cc pc = .ok (.invokespecial idx, 3)) (kk : GW Δ Γ kc ks (pc + 3) L st σ) : GW Δ Γ kc ks pc L (va_rf r :: st) σ := by
  obtain ⟨a, rfl, -⟩ := hk
  exact g_objInit B ho.1 ho.2.1 ho.2.2 hR h4 d kk
theorem g_ldcSW (B : Bd Δ Γ own cc nL fr lo Kc Ks) {idx j : Nat} {tx : String} (hj : stT[j]? = some (own, idx, tx)) (d : decode cc pc = .ok (.ldc_w idx, 3)) (kk : GW Δ Γ kc ks (pc + 3) L (va_rf (some (BIG + j)) :: st) σ) : GW Δ Γ kc ks pc L st σ := fun φ H locs ls hp hst hL hl => by
  have hj2 : j < nSt := (List.getElem?_eq_some_iff.mp hj).1
  have h := B.2.2.2.2.2.2.2.1.1 j hj2 _ hj
  refine vz_ldcSW B.1 B.2.1 B.2.2.2.1 h d ?_
  have kk := kk φ H locs ls hp (SC.c (v := .ref (BIG + j)) (Or.inr (Nat.le_add_right _ _)) hst) hL hl
  have e : en φ (va_rf (some (BIG + j))) = .ref (Δ.2.2.1 (BIG + j)) := congrArg Value.ref (hp.2.2.2.1 _ (Nat.le_add_right _ _))
  rw [List.map_cons, e] at kk
  exact kk
theorem preQ (B : Bd Δ Γ own cc nL fr lo Kc Ks) {φ : Nat → Nat} {H : Heap} {locs : List Loc} {a : Nat} {as : List Value} (hp : Rp Δ Γ.2.2.2.2.1 φ σ H locs) (hk : hK σ a = 12) (hs : SC σ (.ref a :: as)) : PreV Γ.2.2.2.2.1 H "java/lang/String" (φ a) (va_Pc ((Value.ref a :: as).map (en φ)) (Pre (Δ.1, Δ.2.1, Δ.2.2.1, Δ.2.2.2.1, φ, σ) (.ref a :: as))) (as.map (en φ)) := by
  refine ⟨blind, ?_, fun U hU hW => ⟨rfl, pre_of hp B.2.2.2.2.2.1 B.2.2.2.2.2.2.1 B.2.2.2.2.2.2.2.1 hs hU hW⟩⟩
  obtain ⟨j, hj, rfl⟩ := big_str hp hk
  obtain ⟨cell, h1, h2, h3, -⟩ := ((B.2.2.2.2.2.2.2.1.2.1 j hj).2.2.1).kept hp.2.2.1.2.1
  exact ⟨cell, by rw [hp.2.2.2.1 _ (Nat.le_add_right _ _)]; exact h1, h2, h3⟩
theorem g_callQs0 (B : Bd Δ Γ own cc nL fr lo Kc Ks) {y : MethodName} {cc1 : ByteArray} {nL1 : Nat} {ret1 : Option FieldType} {n fr1 lo1 idx : Nat} {as : List Value} {r : Option Nat} {w : Value} (hC : IsK σ r 12 ∧ Ct Γ.2.1 y cc1 nL1 ret1 fr1 lo1 (va_rf r :: as) σ (.ok (some w)) σ1 0 0) (hy : "java/lang/String" = y.cls) (hM : MI y cc1 nL1 ret1 n) (hl0 : LV own idx y) (hR : fr1 + 1 ≤ fr ∧ 8 + (nL1 + 11) + lo1 ≤ lo) (hn : as.length = n) (hstk : stk = as.reverse ++ (va_rf r :: st)) (h4 : st.length ≤ 4) (d : decode cc pc = .ok (.invokevirtual idx, 3)) (hc : kc ≤ Kc) (hs : ks ≤ Ks) (kk : GW Δ Γ kc ks (pc + 3) L (w :: st) σ1) : GW Δ Γ kc ks pc L stk σ := fun φ H locs ls hp hst hL hl => by
  obtain ⟨⟨a, rfl, hk⟩, hC⟩ := hC
  refine of_run (v := some w) (k1c := 0) (k1s := 0) (a0 := ((Value.ref a :: as).map (en φ)).toArray) B hp (by rw [hstk] at hst; exact (SC.app hst).2.t) hL hl ?_ kk
  rw [hstk] at hst
  have hs1 : SC σ (.ref a :: as) := SC.c (SC.h (SC.app hst).2) (SC.rev (SC.app hst).1)
  have hcat := cat_le φ st 4 h4
  exact vx_runV (C := "java/lang/String") (nL := nL) (As := as.map (en φ)) (b := φ a) (Ts := ALLw) ⟨B.1, B.2.1, B.2.2.1, B.2.2.2.1, B.2.2.2.2.1⟩ (hC B.2.2.2.2.2.2.2.2.2.2.2.2.2 Δ.1 Δ.2.1 Δ.2.2.1 Δ.2.2.2.1 φ) ⟨callB B hM hl0.1 hR, B.2.2.2.2.1 _ hl0.2.1, by rw [hy]; exact B.2.2.2.2.1 _ hl0.2.2⟩ (preQ B hp hk hs1) rfl (by rw [List.length_map]; exact hn) (by rw [← B.2.2.1]; exact hl.1) (by rw [hstk, List.map_append, List.map_reverse]; rfl) (by show 2 * 0 + _ ≤ 8; omega) d ⟨by rw [B.2.2.2.2.2.2.2.2.2.2.1]; exact hc, by rw [B.2.2.2.2.2.2.2.2.2.2.2.1]; exact hs⟩
theorem g_mmax (B : Bd Δ Γ own cc nL fr lo Kc Ks) {idx : Nat} {x y : Int32} (hM : MTW own idx Lib.Math.max.name Lib.Math.max.code 2) (hR : 1 ≤ fr ∧ 21 ≤ lo) (h4 : st.length ≤ 4) (d : decode cc pc = .ok (.invokestatic idx, 3)) (hc : kc ≤ Kc) (hs : ks ≤ Ks) (kk : GW Δ Γ kc ks (pc + 3) L (.int (mmx x y) :: st) σ) : GW Δ Γ kc ks pc L (.int y :: .int x :: st) σ := fun φ H locs ls hp hst hL hl => by
  have hcat := cat_le φ st 4 h4
  exact va_mmax B.1 B.2.1 hl.1.symm B.2.2.2.1 (B.2.2.2.2.1 _ hM.1) (B.2.2.2.2.1 _ hM.2.1) (B.2.2.2.2.1 _ hM.2.2.1) (B.2.2.2.2.1 _ hM.2.2.2) (by rw [B.2.2.2.2.2.2.2.2.1]; exact hR.1) (by rw [B.2.2.2.2.2.2.2.2.2.1]; omega) (by rw [B.2.2.2.2.2.2.2.2.2.2.1]; exact hc) (by rw [B.2.2.2.2.2.2.2.2.2.2.2.1]; exact hs) d (kk φ H locs ls hp (SC.c (v := .int _) True.intro hst.t.t) hL hl)
theorem g_mmin (B : Bd Δ Γ own cc nL fr lo Kc Ks) {idx : Nat} {x y : Int32} (hM : MTW own idx Lib.Math.min.name Lib.Math.min.code 2) (hR : 1 ≤ fr ∧ 21 ≤ lo) (h4 : st.length ≤ 4) (d : decode cc pc = .ok (.invokestatic idx, 3)) (hc : kc ≤ Kc) (hs : ks ≤ Ks) (kk : GW Δ Γ kc ks (pc + 3) L (.int (mmn x y) :: st) σ) : GW Δ Γ kc ks pc L (.int y :: .int x :: st) σ := fun φ H locs ls hp hst hL hl => by
  have hcat := cat_le φ st 4 h4
  exact va_mmin B.1 B.2.1 hl.1.symm B.2.2.2.1 (B.2.2.2.2.1 _ hM.1) (B.2.2.2.2.1 _ hM.2.1) (B.2.2.2.2.1 _ hM.2.2.1) (B.2.2.2.2.1 _ hM.2.2.2) (by rw [B.2.2.2.2.2.2.2.2.1]; exact hR.1) (by rw [B.2.2.2.2.2.2.2.2.2.1]; omega) (by rw [B.2.2.2.2.2.2.2.2.2.2.1]; exact hc) (by rw [B.2.2.2.2.2.2.2.2.2.2.2.1]; exact hs) d (kk φ H locs ls hp (SC.c (v := .int _) True.intro hst.t.t) hL hl)
theorem g_mabs (B : Bd Δ Γ own cc nL fr lo Kc Ks) {idx : Nat} {x : Int32} (hM : MTW own idx Lib.Math.abs.name Lib.Math.abs.code 1) (hR : 1 ≤ fr ∧ 21 ≤ lo) (h4 : st.length ≤ 4) (d : decode cc pc = .ok (.invokestatic idx, 3)) (hc : kc ≤ Kc) (hs : ks ≤ Ks) (kk : GW Δ Γ kc ks (pc + 3) L (.int (mab x) :: st) σ) : GW Δ Γ kc ks pc L (.int x :: st) σ := fun φ H locs ls hp hst hL hl => by
  have hcat := cat_le φ st 4 h4
  exact va_mabs B.1 B.2.1 hl.1.symm B.2.2.2.1 (B.2.2.2.2.1 _ hM.1) (B.2.2.2.2.1 _ hM.2.1) (B.2.2.2.2.1 _ hM.2.2.1) (B.2.2.2.2.1 _ hM.2.2.2) (by rw [B.2.2.2.2.2.2.2.2.1]; exact hR.1) (by rw [B.2.2.2.2.2.2.2.2.2.1]; omega) (by rw [B.2.2.2.2.2.2.2.2.2.2.1]; exact hc) (by rw [B.2.2.2.2.2.2.2.2.2.2.2.1]; exact hs) d (kk φ H locs ls hp (SC.c (v := .int _) True.intro hst.t) hL hl)
theorem g_callNSx {host : String} (B : Bd Δ Γ own cc nL fr lo Kc Ks) {y : MethodName} {cc1 : ByteArray} {nL1 : Nat} {ret1 ret : Option FieldType} {n fr1 lo1 idx x k1c k1s : Nat} {as : List Value} (hC : Ct Γ.2.1 y cc1 nL1 ret1 fr1 lo1 as σ (.error x) σ1 k1c k1s) (hM : MI y cc1 nL1 ret1 n) (hl0 : LNS own host idx y) (hR : fr1 + 1 ≤ fr ∧ 8 + (nL1 + 11) + lo1 ≤ lo) (hn : as.length = n) (hstk : stk = as.reverse ++ st) (h4 : st.length ≤ 4) (d : decode cc pc = .ok (.invokestatic idx, 3)) (hc : kc + k1c ≤ Kc) (hs : ks + k1s ≤ Ks) (E : En Δ Γ (.error x) σ1 Kc Ks ret) : GW Δ Γ kc ks pc L stk σ := fun φ H locs ls hp hst hL hl => of_runX B hp (runNS B hC hM hl0 hR hn hstk h4 d hc hs hp hst hl) E hc hs
theorem g_callIx (B : Bd Δ Γ own cc nL fr lo Kc Ks) {y : MethodName} {cc1 : ByteArray} {nL1 : Nat} {ret : Option FieldType} {n fr1 lo1 idx x k1c k1s κ : Nat} {as : List Value} {r : Option Nat} (hC : IsK σ r κ ∧ Ct Γ.2.1 y cc1 nL1 none fr1 lo1 (va_rf r :: as) σ (.error x) σ1 k1c k1s) (hM : MI y cc1 nL1 none n) (hl0 : LI own idx y) (hR : fr1 + 1 ≤ fr ∧ 8 + (nL1 + 11) + lo1 ≤ lo) (hn : as.length = n) (hstk : stk = as.reverse ++ (va_rf r :: st)) (h4 : st.length ≤ 4) (d : decode cc pc = .ok (.invokespecial idx, 3)) (hc : kc + k1c ≤ Kc) (hs : ks + k1s ≤ Ks) (E : En Δ Γ (.error x) σ1 Kc Ks ret) : GW Δ Γ kc ks pc L stk σ := by
  obtain ⟨⟨a, rfl, -⟩, hC⟩ := hC
  exact fun φ H locs ls hp hst hL hl => of_runX B hp (runI B hC hM hl0 hR hn hstk h4 d hc hs hp hst hl) E hc hs
theorem g_callNIx {host : String} (B : Bd Δ Γ own cc nL fr lo Kc Ks) {y : MethodName} {cc1 : ByteArray} {nL1 : Nat} {ret : Option FieldType} {n fr1 lo1 idx x k1c k1s κ : Nat} {as : List Value} {r : Option Nat} (hC : IsK σ r κ ∧ Ct Γ.2.1 y cc1 nL1 none fr1 lo1 (va_rf r :: as) σ (.error x) σ1 k1c k1s) (hM : MI y cc1 nL1 none n) (hl0 : LNI own host idx y) (hR : fr1 + 1 ≤ fr ∧ 8 + (nL1 + 11) + lo1 ≤ lo) (hn : as.length = n) (hstk : stk = as.reverse ++ (va_rf r :: st)) (h4 : st.length ≤ 4) (d : decode cc pc = .ok (.invokespecial idx, 3)) (hc : kc + k1c ≤ Kc) (hs : ks + k1s ≤ Ks) (E : En Δ Γ (.error x) σ1 Kc Ks ret) : GW Δ Γ kc ks pc L stk σ := by
  obtain ⟨⟨a, rfl, -⟩, hC⟩ := hC
  exact fun φ H locs ls hp hst hL hl => of_runX B hp (runNI B hC hM hl0 hR hn hstk h4 d hc hs hp hst hl) E hc hs
theorem g_callVcx (B : Bd Δ Γ own cc nL fr lo Kc Ks) {y : MethodName} {cc1 : ByteArray} {nL1 : Nat} {ret1 ret : Option FieldType} {n fr1 lo1 idx x k1c k1s κ : Nat} {as : List Value} {r : Option Nat} {q : vw_C} (hC : IsK σ r κ ∧ Ct Γ.2.1 y cc1 nL1 ret1 fr1 lo1 (va_rf r :: as) σ (.error x) σ1 k1c k1s) (h12 : κ < 12) (hq : gcl[κ]? = some q) (hM : MI y cc1 nL1 ret1 n) (hl0 : LVc own idx y q.1) (hR : fr1 + 1 ≤ fr ∧ 8 + (nL1 + 11) + lo1 ≤ lo) (hn : as.length = n) (hstk : stk = as.reverse ++ (va_rf r :: st)) (h4 : st.length ≤ 4) (d : decode cc pc = .ok (.invokevirtual idx, 3)) (hc : kc + k1c ≤ Kc) (hs : ks + k1s ≤ Ks) (E : En Δ Γ (.error x) σ1 Kc Ks ret) : GW Δ Γ kc ks pc L stk σ := fun φ H locs ls hp hst hL hl => by
  obtain ⟨⟨a, rfl, hk⟩, hC⟩ := hC
  refine of_runX (st := st) (a0 := ((Value.ref a :: as).map (en φ)).toArray) B hp ?_ E hc hs
  rw [hstk] at hst
  have hs1 : SC σ (.ref a :: as) := SC.c (SC.h (SC.app hst).2) (SC.rev (SC.app hst).1)
  have hcat := cat_le φ st 4 h4
  exact vx_runV (C := q.1) (nL := nL) (As := as.map (en φ)) (b := φ a) (Ts := ALLw) ⟨B.1, B.2.1, B.2.2.1, B.2.2.2.1, B.2.2.2.2.1⟩ (hC B.2.2.2.2.2.2.2.2.2.2.2.2.2 Δ.1 Δ.2.1 Δ.2.2.1 Δ.2.2.2.1 φ) ⟨callB B hM hl0.1 hR, B.2.2.2.2.1 _ hl0.2.1, hl0.2.2 _ _ B.2.2.2.2.1⟩ (preV B hp hk h12 hq hs1) rfl (by rw [List.length_map]; exact hn) (by rw [← B.2.2.1]; exact hl.1) (by rw [hstk, List.map_append, List.map_reverse]; rfl) (by show 2 * 0 + _ ≤ 8; omega) d ⟨by rw [B.2.2.2.2.2.2.2.2.2.2.1]; exact hc, by rw [B.2.2.2.2.2.2.2.2.2.2.2.1]; exact hs⟩
theorem g_callSUx (B : Bd Δ Γ own cc nL fr lo Kc Ks) {y : MethodName} {cc1 : ByteArray} {nL1 : Nat} {ret1 ret : Option FieldType} {n fr1 lo1 idx x k1c k1s κ : Nat} {as : List Value} {r : Option Nat} {q : vw_C} (hC : IsK σ r κ ∧ Ct Γ.2.1 y cc1 nL1 ret1 fr1 lo1 (va_rf r :: as) σ (.error x) σ1 k1c k1s) (h12 : κ < 12) (hq : gcl[κ]? = some q) (hM : MI y cc1 nL1 ret1 n) (hl0 : LSU own idx y) (hR : fr1 + 1 ≤ fr ∧ 8 + (nL1 + 11) + lo1 ≤ lo) (hn : as.length = n) (hstk : stk = as.reverse ++ (va_rf r :: st)) (h4 : st.length ≤ 4) (d : decode cc pc = .ok (.invokespecial idx, 3)) (hc : kc + k1c ≤ Kc) (hs : ks + k1s ≤ Ks) (E : En Δ Γ (.error x) σ1 Kc Ks ret) : GW Δ Γ kc ks pc L stk σ := fun φ H locs ls hp hst hL hl => by
  obtain ⟨⟨a, rfl, hk⟩, hC⟩ := hC
  refine of_runX (st := st) (a0 := ((Value.ref a :: as).map (en φ)).toArray) B hp ?_ E hc hs
  rw [hstk] at hst
  have hs1 : SC σ (.ref a :: as) := SC.c (SC.h (SC.app hst).2) (SC.rev (SC.app hst).1)
  have hcat := cat_le φ st 4 h4
  have hts := B.2.2.2.2.1
  refine vx_runSU (C := q.1) (nL := nL) (As := as.map (en φ)) (b := φ a) (Ts := ALLw) (B.2.2.2.2.2.1.1 κ q hq).2 ⟨B.1, B.2.1, B.2.2.1, B.2.2.2.1, B.2.2.2.2.1⟩ (hC B.2.2.2.2.2.2.2.2.2.2.2.2.2 Δ.1 Δ.2.1 Δ.2.2.1 Δ.2.2.2.1 φ) ⟨⟨rfl, rfl, by rw [B.2.2.2.2.2.2.2.2.1]; exact hR.1, by rw [B.2.2.2.2.2.2.2.2.2.1]; exact hR.2, fun w hw a' U hW => ?_, List.mem_cons_self⟩, hts _ hl0.1, hts _ hl0.2.1, hts _ hl0.2.2.1, hts _ hl0.2.2.2.1, hts _ hM.2.2.1, hts _ hM.2.1, hl0.2.2.2.2, hM.n⟩ (preV B hp hk h12 hq hs1) rfl (by rw [List.length_map]; exact hn) (by rw [← B.2.2.1]; exact hl.1) (by rw [hstk, List.map_append, List.map_reverse]; rfl) (by show 2 * 0 + _ ≤ 8; omega) d ⟨by rw [B.2.2.2.2.2.2.2.2.2.2.1]; exact hc, by rw [B.2.2.2.2.2.2.2.2.2.2.2.1]; exact hs⟩
  rcases List.mem_cons.mp hw with e | e
  · rw [e]; exact pay hM.2.1 hts a' U hW
  · exact pay e hts a' U hW
theorem g_gstF (B : Bd Δ Γ own cc nL fr lo Kc Ks) {idx : Nat} (hl0 : Cond.fieldLink own idx "jdk/internal/util/Preconditions" "SIOOBE_FORMATTER" "Ljava/util/function/BiFunction;" ∈ ALLw) (d : decode cc pc = .ok (.getstatic idx, 3)) (kk : ∀ r : Option Nat, GW Δ Γ kc ks (pc + 3) L (va_rf r :: st) σ) : GW Δ Γ kc ks pc L st σ := fun φ H locs ls hp hst hL hl => by
  rcases B.2.2.2.2.2.2.2.1.2.2.2.2.2.2.2.1 with h | h
  · exact va_gets B.1 B.2.1 h hp.2.2.1 B.2.2.2.1 (B.2.2.2.2.1 _ hl0) (fun _ q => q) d (kk none φ H locs ls hp (SC.c (v := .null) True.intro hst) hL hl)
  · have kk := kk (some (BIG + 202)) φ H locs ls hp (SC.c (v := .ref (BIG + 202)) (Or.inr (Nat.le_add_right _ _)) hst) hL hl
    have e : en φ (va_rf (some (BIG + 202))) = .ref (Δ.2.2.1 (BIG + 202)) := congrArg Value.ref (hp.2.2.2.1 _ (Nat.le_add_right _ _))
    rw [List.map_cons, e] at kk
    exact va_gets B.1 B.2.1 h hp.2.2.1 B.2.2.2.1 (B.2.2.2.2.1 _ hl0) (fun _ q => q) d kk
end GW15
theorem lk_df2 {d k1 o1 k2 o2 x : Int} (h1 : x ≠ k1) (h2 : x ≠ k2) : Op.lookupswitch.offset [(k1, o1), (k2, o2)] d x = d := by
  simp [Op.lookupswitch.offset, h1, h2, Ne.symm h1, Ne.symm h2]
theorem lk_df3 {d k1 o1 k2 o2 k3 o3 x : Int} (h1 : x ≠ k1) (h2 : x ≠ k2) (h3 : x ≠ k3) : Op.lookupswitch.offset [(k1, o1), (k2, o2), (k3, o3)] d x = d := by
  simp [Op.lookupswitch.offset, h1, h2, h3, Ne.symm h1, Ne.symm h2, Ne.symm h3]
theorem tw_of {ws : List Cond} {ids : List Nat} (h : ws.map some = ids.map (fun i => lw_tbl[i]?)) (hg : ws.all (fun w => goodWord w || (nestWord w && w.onTables)) = true) : ∀ w ∈ ws, w ∈ ALLw ∨ (w ∈ ALLn ∧ w.onTables = true) := by
  intro w hw
  have h1 : some w ∈ ids.map (fun i => lw_tbl[i]?) := h ▸ List.mem_map.mpr ⟨w, hw, rfl⟩
  obtain ⟨i, -, hi⟩ := List.mem_map.mp h1
  have h2 := List.all_eq_true.mp hg w hw
  rcases Bool.or_eq_true_iff.mp h2 with g | g
  · exact Or.inl (mw hi g)
  · have g2 := Bool.and_eq_true_iff.mp g
    exact Or.inr ⟨mn hi g2.1, g2.2⟩
end
section
theorem lay_in {C : String} {T : u_T} {N : Nat} (h : ∀ k, k < N → u_lay C T k ∈ ALLw) : ∀ w ∈ u_ws C T N, w ∈ ALLw := by
  intro w hw
  obtain ⟨k, hk, rfl⟩ := List.mem_map.mp hw
  exact h k (List.mem_range.mp hk)
theorem lay_0 : ∀ w ∈ u_ws RX0 TX0 8, w ∈ ALLw := lay_in (fun k hk => match k, hk with
  | 0, _ => mw (i := 366) (by decide +kernel) rfl
  | 1, _ => mw (i := 368) (by decide +kernel) rfl
  | 2, _ => mw (i := 370) (by decide +kernel) rfl
  | 3, _ => mw (i := 372) (by decide +kernel) rfl
  | 4, _ => mw (i := 374) (by decide +kernel) rfl
  | 5, _ => mw (i := 376) (by decide +kernel) rfl
  | 6, _ => mw (i := 378) (by decide +kernel) rfl
  | 7, _ => mw (i := 380) (by decide +kernel) rfl
  | n + 8, h => absurd h (by omega))
theorem dv_0 : ∀ j, j < 8 → defaultValue (tyX0 j) = (if fT 0 j = 0 then .int 0 else if fT 0 j = 1 then .long 0 else .null) := fun j hj => match j, hj with
  | 0, _ => rfl
  | 1, _ => rfl
  | 2, _ => rfl
  | 3, _ => rfl
  | 4, _ => rfl
  | 5, _ => rfl
  | 6, _ => rfl
  | 7, _ => rfl
  | n + 8, h => absurd h (by omega)
theorem lay_1 : ∀ w ∈ u_ws RX1 TX1 12, w ∈ ALLw := lay_in (fun k hk => match k, hk with
  | 0, _ => mw (i := 412) (by decide +kernel) rfl
  | 1, _ => mw (i := 414) (by decide +kernel) rfl
  | 2, _ => mw (i := 416) (by decide +kernel) rfl
  | 3, _ => mw (i := 418) (by decide +kernel) rfl
  | 4, _ => mw (i := 420) (by decide +kernel) rfl
  | 5, _ => mw (i := 422) (by decide +kernel) rfl
  | 6, _ => mw (i := 424) (by decide +kernel) rfl
  | 7, _ => mw (i := 426) (by decide +kernel) rfl
  | 8, _ => mw (i := 428) (by decide +kernel) rfl
  | 9, _ => mw (i := 430) (by decide +kernel) rfl
  | 10, _ => mw (i := 432) (by decide +kernel) rfl
  | 11, _ => mw (i := 434) (by decide +kernel) rfl
  | n + 12, h => absurd h (by omega))
theorem dv_1 : ∀ j, j < 12 → defaultValue (tyX1 j) = (if fT 1 j = 0 then .int 0 else if fT 1 j = 1 then .long 0 else .null) := fun j hj => match j, hj with
  | 0, _ => rfl
  | 1, _ => rfl
  | 2, _ => rfl
  | 3, _ => rfl
  | 4, _ => rfl
  | 5, _ => rfl
  | 6, _ => rfl
  | 7, _ => rfl
  | 8, _ => rfl
  | 9, _ => rfl
  | 10, _ => rfl
  | 11, _ => rfl
  | n + 12, h => absurd h (by omega)
theorem lay_2 : ∀ w ∈ u_ws RX2 TX2 4, w ∈ ALLw := lay_in (fun k hk => match k, hk with
  | 0, _ => mw (i := 296) (by decide +kernel) rfl
  | 1, _ => mw (i := 298) (by decide +kernel) rfl
  | 2, _ => mw (i := 300) (by decide +kernel) rfl
  | 3, _ => mw (i := 302) (by decide +kernel) rfl
  | n + 4, h => absurd h (by omega))
theorem dv_2 : ∀ j, j < 4 → defaultValue (tyX2 j) = (if fT 2 j = 0 then .int 0 else if fT 2 j = 1 then .long 0 else .null) := fun j hj => match j, hj with
  | 0, _ => rfl
  | 1, _ => rfl
  | 2, _ => rfl
  | 3, _ => rfl
  | n + 4, h => absurd h (by omega)
theorem lay_3 : ∀ w ∈ u_ws RX3 TX3 5, w ∈ ALLw := lay_in (fun k hk => match k, hk with
  | 0, _ => mw (i := 321) (by decide +kernel) rfl
  | 1, _ => mw (i := 323) (by decide +kernel) rfl
  | 2, _ => mw (i := 325) (by decide +kernel) rfl
  | 3, _ => mw (i := 327) (by decide +kernel) rfl
  | 4, _ => mw (i := 329) (by decide +kernel) rfl
  | n + 5, h => absurd h (by omega))
theorem dv_3 : ∀ j, j < 5 → defaultValue (tyX3 j) = (if fT 3 j = 0 then .int 0 else if fT 3 j = 1 then .long 0 else .null) := fun j hj => match j, hj with
  | 0, _ => rfl
  | 1, _ => rfl
  | 2, _ => rfl
  | 3, _ => rfl
  | 4, _ => rfl
  | n + 5, h => absurd h (by omega)
theorem lay_4 : ∀ w ∈ u_ws RX4 TX4 4, w ∈ ALLw := lay_in (fun k hk => match k, hk with
  | 0, _ => mw (i := 271) (by decide +kernel) rfl
  | 1, _ => mw (i := 273) (by decide +kernel) rfl
  | 2, _ => mw (i := 275) (by decide +kernel) rfl
  | 3, _ => mw (i := 277) (by decide +kernel) rfl
  | n + 4, h => absurd h (by omega))
theorem dv_4 : ∀ j, j < 4 → defaultValue (tyX4 j) = (if fT 4 j = 0 then .int 0 else if fT 4 j = 1 then .long 0 else .null) := fun j hj => match j, hj with
  | 0, _ => rfl
  | 1, _ => rfl
  | 2, _ => rfl
  | 3, _ => rfl
  | n + 4, h => absurd h (by omega)
theorem lay_5 : ∀ w ∈ u_ws RX5 TX5 5, w ∈ ALLw := lay_in (fun k hk => match k, hk with
  | 0, _ => mw (i := 484) (by decide +kernel) rfl
  | 1, _ => mw (i := 486) (by decide +kernel) rfl
  | 2, _ => mw (i := 488) (by decide +kernel) rfl
  | 3, _ => mw (i := 490) (by decide +kernel) rfl
  | 4, _ => mw (i := 492) (by decide +kernel) rfl
  | n + 5, h => absurd h (by omega))
theorem dv_5 : ∀ j, j < 5 → defaultValue (tyX5 j) = (if fT 5 j = 0 then .int 0 else if fT 5 j = 1 then .long 0 else .null) := fun j hj => match j, hj with
  | 0, _ => rfl
  | 1, _ => rfl
  | 2, _ => rfl
  | 3, _ => rfl
  | 4, _ => rfl
  | n + 5, h => absurd h (by omega)
theorem lay_6 : ∀ w ∈ u_ws RX6 TX6 1, w ∈ ALLw := lay_in (fun k hk => match k, hk with
  | 0, _ => mw (i := 538) (by decide +kernel) rfl
  | n + 1, h => absurd h (by omega))
theorem dv_6 : ∀ j, j < 1 → defaultValue (tyX6 j) = (if fT 6 j = 0 then .int 0 else if fT 6 j = 1 then .long 0 else .null) := fun j hj => match j, hj with
  | 0, _ => rfl
  | n + 1, h => absurd h (by omega)
theorem lay_7 : ∀ w ∈ u_ws RX7 TX7 7, w ∈ ALLw := lay_in (fun k hk => match k, hk with
  | 0, _ => mw (i := 461) (by decide +kernel) rfl
  | 1, _ => mw (i := 463) (by decide +kernel) rfl
  | 2, _ => mw (i := 465) (by decide +kernel) rfl
  | 3, _ => mw (i := 467) (by decide +kernel) rfl
  | 4, _ => mw (i := 469) (by decide +kernel) rfl
  | 5, _ => mw (i := 471) (by decide +kernel) rfl
  | 6, _ => mw (i := 473) (by decide +kernel) rfl
  | n + 7, h => absurd h (by omega))
theorem dv_7 : ∀ j, j < 7 → defaultValue (tyX7 j) = (if fT 7 j = 0 then .int 0 else if fT 7 j = 1 then .long 0 else .null) := fun j hj => match j, hj with
  | 0, _ => rfl
  | 1, _ => rfl
  | 2, _ => rfl
  | 3, _ => rfl
  | 4, _ => rfl
  | 5, _ => rfl
  | 6, _ => rfl
  | n + 7, h => absurd h (by omega)
theorem lay_8 : ∀ w ∈ u_ws RX8 TX8 7, w ∈ ALLw := lay_in (fun k hk => match k, hk with
  | 0, _ => mw (i := 237) (by decide +kernel) rfl
  | 1, _ => mw (i := 239) (by decide +kernel) rfl
  | 2, _ => mw (i := 241) (by decide +kernel) rfl
  | 3, _ => mw (i := 243) (by decide +kernel) rfl
  | 4, _ => mw (i := 245) (by decide +kernel) rfl
  | 5, _ => mw (i := 247) (by decide +kernel) rfl
  | 6, _ => mw (i := 249) (by decide +kernel) rfl
  | n + 7, h => absurd h (by omega))
theorem dv_8 : ∀ j, j < 7 → defaultValue (tyX8 j) = (if fT 8 j = 0 then .int 0 else if fT 8 j = 1 then .long 0 else .null) := fun j hj => match j, hj with
  | 0, _ => rfl
  | 1, _ => rfl
  | 2, _ => rfl
  | 3, _ => rfl
  | 4, _ => rfl
  | 5, _ => rfl
  | 6, _ => rfl
  | n + 7, h => absurd h (by omega)
theorem lay_9 : ∀ w ∈ u_ws RX9 TX9 15, w ∈ ALLw := lay_in (fun k hk => match k, hk with
  | 0, _ => mw (i := 556) (by decide +kernel) rfl
  | 1, _ => mw (i := 558) (by decide +kernel) rfl
  | 2, _ => mw (i := 560) (by decide +kernel) rfl
  | 3, _ => mw (i := 562) (by decide +kernel) rfl
  | 4, _ => mw (i := 564) (by decide +kernel) rfl
  | 5, _ => mw (i := 566) (by decide +kernel) rfl
  | 6, _ => mw (i := 568) (by decide +kernel) rfl
  | 7, _ => mw (i := 570) (by decide +kernel) rfl
  | 8, _ => mw (i := 572) (by decide +kernel) rfl
  | 9, _ => mw (i := 574) (by decide +kernel) rfl
  | 10, _ => mw (i := 576) (by decide +kernel) rfl
  | 11, _ => mw (i := 578) (by decide +kernel) rfl
  | 12, _ => mw (i := 580) (by decide +kernel) rfl
  | 13, _ => mw (i := 582) (by decide +kernel) rfl
  | 14, _ => mw (i := 584) (by decide +kernel) rfl
  | n + 15, h => absurd h (by omega))
theorem dv_9 : ∀ j, j < 15 → defaultValue (tyX9 j) = (if fT 9 j = 0 then .int 0 else if fT 9 j = 1 then .long 0 else .null) := fun j hj => match j, hj with
  | 0, _ => rfl
  | 1, _ => rfl
  | 2, _ => rfl
  | 3, _ => rfl
  | 4, _ => rfl
  | 5, _ => rfl
  | 6, _ => rfl
  | 7, _ => rfl
  | 8, _ => rfl
  | 9, _ => rfl
  | 10, _ => rfl
  | 11, _ => rfl
  | 12, _ => rfl
  | 13, _ => rfl
  | 14, _ => rfl
  | n + 15, h => absurd h (by omega)
theorem lay_10 : ∀ w ∈ u_ws RX10 TX10 24, w ∈ ALLw := lay_in (fun k hk => match k, hk with
  | 0, _ => mw (i := 2025) (by decide +kernel) rfl
  | 1, _ => mw (i := 2027) (by decide +kernel) rfl
  | 2, _ => mw (i := 2029) (by decide +kernel) rfl
  | 3, _ => mw (i := 2031) (by decide +kernel) rfl
  | 4, _ => mw (i := 2033) (by decide +kernel) rfl
  | 5, _ => mw (i := 2035) (by decide +kernel) rfl
  | 6, _ => mw (i := 2037) (by decide +kernel) rfl
  | 7, _ => mw (i := 2039) (by decide +kernel) rfl
  | 8, _ => mw (i := 2041) (by decide +kernel) rfl
  | 9, _ => mw (i := 2043) (by decide +kernel) rfl
  | 10, _ => mw (i := 2045) (by decide +kernel) rfl
  | 11, _ => mw (i := 2047) (by decide +kernel) rfl
  | 12, _ => mw (i := 2049) (by decide +kernel) rfl
  | 13, _ => mw (i := 2051) (by decide +kernel) rfl
  | 14, _ => mw (i := 2053) (by decide +kernel) rfl
  | 15, _ => mw (i := 2055) (by decide +kernel) rfl
  | 16, _ => mw (i := 2057) (by decide +kernel) rfl
  | 17, _ => mw (i := 2059) (by decide +kernel) rfl
  | 18, _ => mw (i := 2061) (by decide +kernel) rfl
  | 19, _ => mw (i := 2063) (by decide +kernel) rfl
  | 20, _ => mw (i := 2065) (by decide +kernel) rfl
  | 21, _ => mw (i := 2067) (by decide +kernel) rfl
  | 22, _ => mw (i := 2069) (by decide +kernel) rfl
  | 23, _ => mw (i := 2071) (by decide +kernel) rfl
  | n + 24, h => absurd h (by omega))
theorem dv_10 : ∀ j, j < 24 → defaultValue (tyX10 j) = (if fT 10 j = 0 then .int 0 else if fT 10 j = 1 then .long 0 else .null) := fun j hj => match j, hj with
  | 0, _ => rfl
  | 1, _ => rfl
  | 2, _ => rfl
  | 3, _ => rfl
  | 4, _ => rfl
  | 5, _ => rfl
  | 6, _ => rfl
  | 7, _ => rfl
  | 8, _ => rfl
  | 9, _ => rfl
  | 10, _ => rfl
  | 11, _ => rfl
  | 12, _ => rfl
  | 13, _ => rfl
  | 14, _ => rfl
  | 15, _ => rfl
  | 16, _ => rfl
  | 17, _ => rfl
  | 18, _ => rfl
  | 19, _ => rfl
  | 20, _ => rfl
  | 21, _ => rfl
  | 22, _ => rfl
  | 23, _ => rfl
  | n + 24, h => absurd h (by omega)
theorem lay_11 : ∀ w ∈ u_ws RJ4 TJ4 4, w ∈ ALLw := lay_in (fun k hk => match k, hk with
  | 0, _ => mw (i := 527) (by decide +kernel) rfl
  | 1, _ => mw (i := 529) (by decide +kernel) rfl
  | 2, _ => mw (i := 531) (by decide +kernel) rfl
  | 3, _ => mw (i := 533) (by decide +kernel) rfl
  | n + 4, h => absurd h (by omega))
theorem dv_11 : ∀ j, j < 4 → defaultValue (tyJ4 j) = (if fT 11 j = 0 then .int 0 else if fT 11 j = 1 then .long 0 else .null) := fun j hj => match j, hj with
  | 0, _ => rfl
  | 1, _ => rfl
  | 2, _ => rfl
  | 3, _ => rfl
  | n + 4, h => absurd h (by omega)
end
section
theorem mi_J0_charAt_5068e : MI yJ0_charAt_5068e cJ0_charAt_5068e 2 (some .char) 1 := ⟨by decide +kernel, (mw (i := 756) (by decide +kernel) rfl), (mw (i := 174) (by decide +kernel) rfl), by decide +kernel, by decide +kernel⟩
theorem mi_J0_checkIndex_df160 : MI yJ0_checkIndex_df160 cJ0_checkIndex_df160 2 none 2 := ⟨by decide +kernel, (mw (i := 766) (by decide +kernel) rfl), (mw (i := 174) (by decide +kernel) rfl), by decide +kernel, by decide +kernel⟩
theorem mi_J0_coder_7d493 : MI yJ0_coder_7d493 cJ0_coder_7d493 1 (some .byte) 0 := ⟨by decide +kernel, (mw (i := 751) (by decide +kernel) rfl), (mw (i := 174) (by decide +kernel) rfl), by decide +kernel, by decide +kernel⟩
theorem mi_J0_isLatin1_aae02 : MI yJ0_isLatin1_aae02 cJ0_isLatin1_aae02 1 (some .boolean) 0 := ⟨by decide +kernel, (mw (i := 760) (by decide +kernel) rfl), (mw (i := 174) (by decide +kernel) rfl), by decide +kernel, by decide +kernel⟩
theorem mi_J0_length_8abf5 : MI yJ0_length_8abf5 cJ0_length_8abf5 1 (some .int) 0 := ⟨by decide +kernel, (mw (i := 747) (by decide +kernel) rfl), (mw (i := 174) (by decide +kernel) rfl), by decide +kernel, by decide +kernel⟩
theorem mi_J1_canEncode_fc78d : MI yJ1_canEncode_fc78d cJ1_canEncode_fc78d 1 (some .boolean) 1 := ⟨by decide +kernel, (mw (i := 1748) (by decide +kernel) rfl), (mw (i := 182) (by decide +kernel) rfl), by decide +kernel, by decide +kernel⟩
theorem mi_J1_charAt_3b067 : MI yJ1_charAt_3b067 cJ1_charAt_3b067 2 (some .char) 2 := ⟨by decide +kernel, (mw (i := 763) (by decide +kernel) rfl), (mw (i := 182) (by decide +kernel) rfl), by decide +kernel, by decide +kernel⟩
theorem mi_J3_checkIndex_8e157 : MI yJ3_checkIndex_8e157 cJ3_checkIndex_8e157 3 (some .int) 3 := ⟨by decide +kernel, (mw (i := 771) (by decide +kernel) rfl), (mw (i := 183) (by decide +kernel) rfl), by decide +kernel, by decide +kernel⟩
theorem mi_J4_append_bf812 : MI yJ4_append_bf812 cJ4_append_bf812 2 (some (.object "java/lang/StringBuilder")) 1 := ⟨by decide +kernel, (mw (i := 1596) (by decide +kernel) rfl), (mw (i := 173) (by decide +kernel) rfl), by decide +kernel, by decide +kernel⟩
theorem mi_J4_append_cf468 : MI yJ4_append_cf468 cJ4_append_cf468 2 (some (.object "java/lang/StringBuilder")) 1 := ⟨by decide +kernel, (mw (i := 1742) (by decide +kernel) rfl), (mw (i := 173) (by decide +kernel) rfl), by decide +kernel, by decide +kernel⟩
theorem mi_J4_charAt_5068e : MI yJ4_charAt_5068e cJ4_charAt_5068e 2 (some .char) 1 := ⟨by decide +kernel, (mw (i := 1817) (by decide +kernel) rfl), (mw (i := 173) (by decide +kernel) rfl), by decide +kernel, by decide +kernel⟩
theorem mi_J4_init_da8c8 : MI yJ4_init_da8c8 cJ4_init_da8c8 1 none 0 := ⟨by decide +kernel, (mw (i := 508) (by decide +kernel) rfl), (mw (i := 173) (by decide +kernel) rfl), by decide +kernel, by decide +kernel⟩
theorem mi_J4_length_8abf5 : MI yJ4_length_8abf5 cJ4_length_8abf5 1 (some .int) 0 := ⟨by decide +kernel, (mw (i := 1641) (by decide +kernel) rfl), (mw (i := 173) (by decide +kernel) rfl), by decide +kernel, by decide +kernel⟩
theorem mi_J4_setLength_d00df : MI yJ4_setLength_d00df cJ4_setLength_d00df 2 none 1 := ⟨by decide +kernel, (mw (i := 1486) (by decide +kernel) rfl), (mw (i := 173) (by decide +kernel) rfl), by decide +kernel, by decide +kernel⟩
theorem mi_J5_append_3fe6f : MI yJ5_append_3fe6f cJ5_append_3fe6f 2 (some (.object "java/lang/AbstractStringBuilder")) 1 := ⟨by decide +kernel, (mw (i := 1745) (by decide +kernel) rfl), (mw (i := 172) (by decide +kernel) rfl), by decide +kernel, by decide +kernel⟩
theorem mi_J5_append_c97b9 : MI yJ5_append_c97b9 cJ5_append_c97b9 4 (some (.object "java/lang/AbstractStringBuilder")) 1 := ⟨by decide +kernel, (mw (i := 1599) (by decide +kernel) rfl), (mw (i := 172) (by decide +kernel) rfl), by decide +kernel, by decide +kernel⟩
theorem mi_J5_charAt_5068e : MI yJ5_charAt_5068e cJ5_charAt_5068e 5 (some .char) 1 := ⟨by decide +kernel, (mw (i := 1820) (by decide +kernel) rfl), (mw (i := 172) (by decide +kernel) rfl), by decide +kernel, by decide +kernel⟩
theorem mi_J5_ensureCapacityInternal_d00df : MI yJ5_ensureCapacityInternal_d00df cJ5_ensureCapacityInternal_d00df 3 none 1 := ⟨by decide +kernel, (mw (i := 1512) (by decide +kernel) rfl), (mw (i := 172) (by decide +kernel) rfl), by decide +kernel, by decide +kernel⟩
theorem mi_J5_init_d00df : MI yJ5_init_d00df cJ5_init_d00df 2 none 1 := ⟨by decide +kernel, (mw (i := 511) (by decide +kernel) rfl), (mw (i := 172) (by decide +kernel) rfl), by decide +kernel, by decide +kernel⟩
theorem mi_J5_isLatin1_aae02 : MI yJ5_isLatin1_aae02 cJ5_isLatin1_aae02 1 (some .boolean) 0 := ⟨by decide +kernel, (mw (i := 1542) (by decide +kernel) rfl), (mw (i := 172) (by decide +kernel) rfl), by decide +kernel, by decide +kernel⟩
theorem mi_J5_length_8abf5 : MI yJ5_length_8abf5 cJ5_length_8abf5 1 (some .int) 0 := ⟨by decide +kernel, (mw (i := 1643) (by decide +kernel) rfl), (mw (i := 172) (by decide +kernel) rfl), by decide +kernel, by decide +kernel⟩
theorem mi_J5_newCapacity_0f7a4 : MI yJ5_newCapacity_0f7a4 cJ5_newCapacity_0f7a4 6 (some .int) 1 := ⟨by decide +kernel, (mw (i := 1516) (by decide +kernel) rfl), (mw (i := 172) (by decide +kernel) rfl), by decide +kernel, by decide +kernel⟩
theorem mi_J5_setLength_d00df : MI yJ5_setLength_d00df cJ5_setLength_d00df 2 none 1 := ⟨by decide +kernel, (mw (i := 1489) (by decide +kernel) rfl), (mw (i := 172) (by decide +kernel) rfl), by decide +kernel, by decide +kernel⟩
theorem mi_J6_getChars_ba4f3 : MI yJ6_getChars_ba4f3 cJ6_getChars_ba4f3 7 (some .int) 3 := ⟨by decide +kernel, (mw (i := 1605) (by decide +kernel) rfl), (mw (i := 190) (by decide +kernel) rfl), by decide +kernel, by decide +kernel⟩
theorem mi_J6_stringSize_0f7a4 : MI yJ6_stringSize_0f7a4 cJ6_stringSize_0f7a4 4 (some .int) 1 := ⟨by decide +kernel, (mw (i := 1602) (by decide +kernel) rfl), (mw (i := 190) (by decide +kernel) rfl), by decide +kernel, by decide +kernel⟩
theorem mi_J7_copyOf_9075b : MI yJ7_copyOf_9075b cJ7_copyOf_9075b 3 (some (.array .byte)) 2 := ⟨by decide +kernel, (mw (i := 1528) (by decide +kernel) rfl), (mw (i := 189) (by decide +kernel) rfl), by decide +kernel, by decide +kernel⟩
theorem mi_J8_newLength_cabcc : MI yJ8_newLength_cabcc cJ8_newLength_cabcc 4 (some .int) 3 := ⟨by decide +kernel, (mw (i := 1519) (by decide +kernel) rfl), (mw (i := 188) (by decide +kernel) rfl), by decide +kernel, by decide +kernel⟩
theorem fl_RJ5_15 : Fl RJ5 15 11 0 (.array .byte) false := ⟨RJ4, TJ4, 4, tyJ4, rfl, by decide, rfl, lay_11, (mw (i := 522) (by decide +kernel) rfl), tyJ4_ok, nmJ4, tyJ4_ok 0 (by decide), rfl, by decide, by decide⟩
theorem fl_RJ5_22 : Fl RJ5 22 11 1 .byte false := ⟨RJ4, TJ4, 4, tyJ4, rfl, by decide, rfl, lay_11, (mw (i := 523) (by decide +kernel) rfl), tyJ4_ok, nmJ4, tyJ4_ok 1 (by decide), rfl, by decide, by decide⟩
theorem fl_RJ5_73 : Fl RJ5 73 11 2 .boolean false := ⟨RJ4, TJ4, 4, tyJ4, rfl, by decide, rfl, lay_11, (mw (i := 524) (by decide +kernel) rfl), tyJ4_ok, nmJ4, tyJ4_ok 2 (by decide), rfl, by decide, by decide⟩
theorem fl_RJ5_79 : Fl RJ5 79 11 3 .int false := ⟨RJ4, TJ4, 4, tyJ4, rfl, by decide, rfl, lay_11, (mw (i := 526) (by decide +kernel) rfl), tyJ4_ok, nmJ4, tyJ4_ok 3 (by decide), rfl, by decide, by decide⟩
theorem lk_RJ0_335 : LV RJ0 335 yJ0_coder_7d493 := ⟨(mw (i := 748) (by decide +kernel) rfl), (mw (i := 749) (by decide +kernel) rfl), (mw (i := 750) (by decide +kernel) rfl)⟩
theorem lk_RJ0_492 : LV RJ0 492 yJ0_isLatin1_aae02 := ⟨(mw (i := 757) (by decide +kernel) rfl), (mw (i := 758) (by decide +kernel) rfl), (mw (i := 759) (by decide +kernel) rfl)⟩
theorem lk_RJ0_495 : LSt RJ0 495 yJ1_charAt_3b067 := ⟨(mw (i := 761) (by decide +kernel) rfl), (mw (i := 762) (by decide +kernel) rfl)⟩
theorem lk_RJ0_1059 : LSt RJ0 1059 yJ3_checkIndex_8e157 := ⟨(mw (i := 769) (by decide +kernel) rfl), (mw (i := 770) (by decide +kernel) rfl)⟩
theorem lk_RJ1_9 : LSt RJ1 9 yJ0_checkIndex_df160 := ⟨(mw (i := 764) (by decide +kernel) rfl), (mw (i := 765) (by decide +kernel) rfl)⟩
theorem lk_RJ4_1 : LI RJ4 1 yJ5_init_d00df := ⟨(mw (i := 509) (by decide +kernel) rfl), (mw (i := 510) (by decide +kernel) rfl), rfl⟩
theorem lk_RJ4_50 : LSU RJ4 50 yJ5_append_3fe6f := ⟨(mw (i := 1743) (by decide +kernel) rfl), (mw (i := 2849) (by decide +kernel) rfl), (mw (i := 535) (by decide +kernel) rfl), (mw (i := 1744) (by decide +kernel) rfl), by decide +kernel⟩
theorem lk_RJ4_53 : LSU RJ4 53 yJ5_append_c97b9 := ⟨(mw (i := 1597) (by decide +kernel) rfl), (mw (i := 2847) (by decide +kernel) rfl), (mw (i := 535) (by decide +kernel) rfl), (mw (i := 1598) (by decide +kernel) rfl), by decide +kernel⟩
theorem lk_RJ4_329 : LSU RJ4 329 yJ5_charAt_5068e := ⟨(mw (i := 1818) (by decide +kernel) rfl), (mw (i := 2850) (by decide +kernel) rfl), (mw (i := 535) (by decide +kernel) rfl), (mw (i := 1819) (by decide +kernel) rfl), by decide +kernel⟩
theorem lk_RJ4_333 : LSU RJ4 333 yJ5_setLength_d00df := ⟨(mw (i := 1487) (by decide +kernel) rfl), (mw (i := 2839) (by decide +kernel) rfl), (mw (i := 535) (by decide +kernel) rfl), (mw (i := 1488) (by decide +kernel) rfl), by decide +kernel⟩
theorem lk_RJ4_343 : LSU RJ4 343 yJ5_length_8abf5 := ⟨(mw (i := 1642) (by decide +kernel) rfl), (mw (i := 1638) (by decide +kernel) rfl), (mw (i := 535) (by decide +kernel) rfl), (mw (i := 1637) (by decide +kernel) rfl), by decide +kernel⟩
theorem lk_RJ5_83 : LVc RJ5 83 yJ5_isLatin1_aae02 RJ4 := .of (mw (i := 1538) (by decide +kernel) rfl) (mw (i := 1539) (by decide +kernel) rfl) (mw (i := 1541) (by decide +kernel) rfl)
theorem lk_RJ5_100 : LVc RJ5 100 yJ5_ensureCapacityInternal_d00df RJ4 := .of (mw (i := 1509) (by decide +kernel) rfl) (mw (i := 1511) (by decide +kernel) rfl) mx0
theorem lk_RJ5_104 : LVc RJ5 104 yJ5_newCapacity_0f7a4 RJ4 := .of (mw (i := 1513) (by decide +kernel) rfl) (mw (i := 1515) (by decide +kernel) rfl) mx1
theorem lk_RJ5_108 : LSt RJ5 108 yJ7_copyOf_9075b := ⟨(mw (i := 1526) (by decide +kernel) rfl), (mw (i := 1527) (by decide +kernel) rfl)⟩
theorem lk_RJ5_114 : LSt RJ5 114 yJ8_newLength_cabcc := ⟨(mw (i := 1517) (by decide +kernel) rfl), (mw (i := 1518) (by decide +kernel) rfl)⟩
theorem lk_RJ5_144 : LSt RJ5 144 yJ0_checkIndex_df160 := ⟨(mw (i := 1822) (by decide +kernel) rfl), (mw (i := 765) (by decide +kernel) rfl)⟩
theorem lk_RJ5_191 : LSt RJ5 191 yJ1_canEncode_fc78d := ⟨(mw (i := 1746) (by decide +kernel) rfl), (mw (i := 1747) (by decide +kernel) rfl)⟩
theorem lk_RJ5_245 : LSt RJ5 245 yJ6_stringSize_0f7a4 := ⟨(mw (i := 1600) (by decide +kernel) rfl), (mw (i := 1601) (by decide +kernel) rfl)⟩
theorem lk_RJ5_248 : LSt RJ5 248 yJ6_getChars_ba4f3 := ⟨(mw (i := 1603) (by decide +kernel) rfl), (mw (i := 1604) (by decide +kernel) rfl)⟩
theorem cs_RJ5_39 : Cond.constant RJ5 39 2147483647 ∈ ALLw := mw (i := 1525) (by decide +kernel) rfl
theorem cs_RJ8_200 : Cond.constant RJ8 200 2147483639 ∈ ALLw := mw (i := 1521) (by decide +kernel) rfl
theorem na_byte : Cond.arrayClass (newarray.typeOf .byte) ∈ ALLw := mw (i := 252) (by decide +kernel) rfl
theorem mt_RJ5_138 : MTW RJ5 138 Lib.Math.min.name Lib.Math.min.code 2 := ⟨(mw (i := 1821) (by decide +kernel) rfl), (mw (i := 706) (by decide +kernel) rfl), (mw (i := 181) (by decide +kernel) rfl), (mw (i := 707) (by decide +kernel) rfl)⟩
theorem mt_RJ7_304 : MTW RJ7 304 Lib.Math.min.name Lib.Math.min.code 2 := ⟨(mw (i := 1536) (by decide +kernel) rfl), (mw (i := 706) (by decide +kernel) rfl), (mw (i := 181) (by decide +kernel) rfl), (mw (i := 707) (by decide +kernel) rfl)⟩
theorem mt_RJ8_194 : MTW RJ8 194 Lib.Math.max.name Lib.Math.max.code 2 := ⟨(mw (i := 1520) (by decide +kernel) rfl), (mw (i := 864) (by decide +kernel) rfl), (mw (i := 181) (by decide +kernel) rfl), (mw (i := 865) (by decide +kernel) rfl)⟩
theorem cp_RJ7_150 : CPW RJ7 150 := ⟨(mw (i := 1537) (by decide +kernel) rfl), (mw (i := 1374) (by decide +kernel) rfl), (mw (i := 1373) (by decide +kernel) rfl), (mw (i := 186) (by decide +kernel) rfl)⟩
theorem obj_RJ5_3 : OBW RJ5 3 := ⟨(mw (i := 512) (by decide +kernel) rfl), (mw (i := 198) (by decide +kernel) rfl), (mw (i := 199) (by decide +kernel) rfl)⟩
theorem sv_RJ0_1053 : Cond.fieldLink RJ0 1053 "jdk/internal/util/Preconditions" "SIOOBE_FORMATTER" "Ljava/util/function/BiFunction;" ∈ ALLw := mw (i := 767) (by decide +kernel) rfl
theorem sv_RJ0_15 : Cond.fieldLink RJ0 15 "java/lang/String" "coder" "B" ∈ ALLw := mw (i := 1673) (by decide +kernel) rfl
theorem sv_RJ0_38 : Cond.fieldLink RJ0 38 "java/lang/String" "COMPACT_STRINGS" "Z" ∈ ALLw := mw (i := 752) (by decide +kernel) rfl
theorem sv_RJ0_9 : Cond.fieldLink RJ0 9 "java/lang/String" "value" "[B" ∈ ALLw := mw (i := 1672) (by decide +kernel) rfl
theorem sv_RJ5_18 : Cond.fieldLink RJ5 18 "java/lang/String" "COMPACT_STRINGS" "Z" ∈ ALLw := mw (i := 513) (by decide +kernel) rfl
theorem sv_RJ6_83 : Cond.fieldLink RJ6 83 "java/lang/Integer" "DigitOnes" "[B" ∈ ALLw := mw (i := 1606) (by decide +kernel) rfl
theorem sv_RJ6_87 : Cond.fieldLink RJ6 87 "java/lang/Integer" "DigitTens" "[B" ∈ ALLw := mw (i := 1608) (by decide +kernel) rfl
theorem dJ0_coder_7d493_0 : decode cJ0_coder_7d493 0 = .ok (.getstatic 38, 3) := by decide +kernel
theorem dJ0_coder_7d493_3 : decode cJ0_coder_7d493 3 = .ok (.ifCond .eq 10, 3) := by decide +kernel
theorem dJ0_coder_7d493_6 : decode cJ0_coder_7d493 6 = .ok (.aload_n 0, 1) := by decide +kernel
theorem dJ0_coder_7d493_7 : decode cJ0_coder_7d493 7 = .ok (.getfield 15, 3) := by decide +kernel
theorem dJ0_coder_7d493_10 : decode cJ0_coder_7d493 10 = .ok (.goto 4, 3) := by decide +kernel
theorem dJ0_coder_7d493_14 : decode cJ0_coder_7d493 14 = .ok (.ireturn, 1) := by decide +kernel
theorem dJ0_length_8abf5_0 : decode cJ0_length_8abf5 0 = .ok (.aload_n 0, 1) := by decide +kernel
theorem dJ0_length_8abf5_1 : decode cJ0_length_8abf5 1 = .ok (.getfield 9, 3) := by decide +kernel
theorem dJ0_length_8abf5_4 : decode cJ0_length_8abf5 4 = .ok (.arraylength, 1) := by decide +kernel
theorem dJ0_length_8abf5_5 : decode cJ0_length_8abf5 5 = .ok (.aload_n 0, 1) := by decide +kernel
theorem dJ0_length_8abf5_6 : decode cJ0_length_8abf5 6 = .ok (.invokevirtual 335, 3) := by decide +kernel
theorem dJ0_length_8abf5_9 : decode cJ0_length_8abf5 9 = .ok (.ishr, 1) := by decide +kernel
theorem dJ0_length_8abf5_10 : decode cJ0_length_8abf5 10 = .ok (.ireturn, 1) := by decide +kernel
theorem dJ0_isLatin1_aae02_0 : decode cJ0_isLatin1_aae02 0 = .ok (.getstatic 38, 3) := by decide +kernel
theorem dJ0_isLatin1_aae02_3 : decode cJ0_isLatin1_aae02 3 = .ok (.ifCond .eq 14, 3) := by decide +kernel
theorem dJ0_isLatin1_aae02_6 : decode cJ0_isLatin1_aae02 6 = .ok (.aload_n 0, 1) := by decide +kernel
theorem dJ0_isLatin1_aae02_7 : decode cJ0_isLatin1_aae02 7 = .ok (.getfield 15, 3) := by decide +kernel
theorem dJ0_isLatin1_aae02_10 : decode cJ0_isLatin1_aae02 10 = .ok (.ifCond .ne 7, 3) := by decide +kernel
theorem dJ0_isLatin1_aae02_13 : decode cJ0_isLatin1_aae02 13 = .ok (.iconst 1, 1) := by decide +kernel
theorem dJ0_isLatin1_aae02_14 : decode cJ0_isLatin1_aae02 14 = .ok (.goto 4, 3) := by decide +kernel
theorem dJ0_isLatin1_aae02_17 : decode cJ0_isLatin1_aae02 17 = .ok (.iconst 0, 1) := by decide +kernel
theorem dJ0_isLatin1_aae02_18 : decode cJ0_isLatin1_aae02 18 = .ok (.ireturn, 1) := by decide +kernel
theorem dJ3_checkIndex_8e157_0 : decode cJ3_checkIndex_8e157 0 = .ok (.iload_n 0, 1) := by decide +kernel
theorem dJ3_checkIndex_8e157_1 : decode cJ3_checkIndex_8e157 1 = .ok (.ifCond .lt 8, 3) := by decide +kernel
theorem dJ3_checkIndex_8e157_4 : decode cJ3_checkIndex_8e157 4 = .ok (.iload_n 0, 1) := by decide +kernel
theorem dJ3_checkIndex_8e157_5 : decode cJ3_checkIndex_8e157 5 = .ok (.iload_n 1, 1) := by decide +kernel
theorem dJ3_checkIndex_8e157_6 : decode cJ3_checkIndex_8e157 6 = .ok (.if_icmp .lt 10, 3) := by decide +kernel
theorem dJ3_checkIndex_8e157_9 : decode cJ3_checkIndex_8e157 9 = .ok (.aload_n 2, 1) := by decide +kernel
theorem dJ3_checkIndex_8e157_10 : decode cJ3_checkIndex_8e157 10 = .ok (.iload_n 0, 1) := by decide +kernel
theorem dJ3_checkIndex_8e157_11 : decode cJ3_checkIndex_8e157 11 = .ok (.iload_n 1, 1) := by decide +kernel
theorem dJ3_checkIndex_8e157_16 : decode cJ3_checkIndex_8e157 16 = .ok (.iload_n 0, 1) := by decide +kernel
theorem dJ3_checkIndex_8e157_17 : decode cJ3_checkIndex_8e157 17 = .ok (.ireturn, 1) := by decide +kernel
theorem dJ0_checkIndex_df160_0 : decode cJ0_checkIndex_df160 0 = .ok (.iload_n 0, 1) := by decide +kernel
theorem dJ0_checkIndex_df160_1 : decode cJ0_checkIndex_df160 1 = .ok (.iload_n 1, 1) := by decide +kernel
theorem dJ0_checkIndex_df160_2 : decode cJ0_checkIndex_df160 2 = .ok (.getstatic 1053, 3) := by decide +kernel
theorem dJ0_checkIndex_df160_5 : decode cJ0_checkIndex_df160 5 = .ok (.invokestatic 1059, 3) := by decide +kernel
theorem dJ0_checkIndex_df160_8 : decode cJ0_checkIndex_df160 8 = .ok (.pop, 1) := by decide +kernel
theorem dJ0_checkIndex_df160_9 : decode cJ0_checkIndex_df160 9 = .ok (.return_, 1) := by decide +kernel
theorem dJ1_charAt_3b067_0 : decode cJ1_charAt_3b067 0 = .ok (.iload_n 1, 1) := by decide +kernel
theorem dJ1_charAt_3b067_1 : decode cJ1_charAt_3b067 1 = .ok (.aload_n 0, 1) := by decide +kernel
theorem dJ1_charAt_3b067_2 : decode cJ1_charAt_3b067 2 = .ok (.arraylength, 1) := by decide +kernel
theorem dJ1_charAt_3b067_3 : decode cJ1_charAt_3b067 3 = .ok (.invokestatic 9, 3) := by decide +kernel
theorem dJ1_charAt_3b067_6 : decode cJ1_charAt_3b067 6 = .ok (.aload_n 0, 1) := by decide +kernel
theorem dJ1_charAt_3b067_7 : decode cJ1_charAt_3b067 7 = .ok (.iload_n 1, 1) := by decide +kernel
theorem dJ1_charAt_3b067_8 : decode cJ1_charAt_3b067 8 = .ok (.baload, 1) := by decide +kernel
theorem dJ1_charAt_3b067_9 : decode cJ1_charAt_3b067 9 = .ok (.sipush 255, 3) := by decide +kernel
theorem dJ1_charAt_3b067_12 : decode cJ1_charAt_3b067 12 = .ok (.iand, 1) := by decide +kernel
theorem dJ1_charAt_3b067_13 : decode cJ1_charAt_3b067 13 = .ok (.i2c, 1) := by decide +kernel
theorem dJ1_charAt_3b067_14 : decode cJ1_charAt_3b067 14 = .ok (.ireturn, 1) := by decide +kernel
theorem dJ0_charAt_5068e_0 : decode cJ0_charAt_5068e 0 = .ok (.aload_n 0, 1) := by decide +kernel
theorem dJ0_charAt_5068e_1 : decode cJ0_charAt_5068e 1 = .ok (.invokevirtual 492, 3) := by decide +kernel
theorem dJ0_charAt_5068e_4 : decode cJ0_charAt_5068e 4 = .ok (.ifCond .eq 12, 3) := by decide +kernel
theorem dJ0_charAt_5068e_7 : decode cJ0_charAt_5068e 7 = .ok (.aload_n 0, 1) := by decide +kernel
theorem dJ0_charAt_5068e_8 : decode cJ0_charAt_5068e 8 = .ok (.getfield 9, 3) := by decide +kernel
theorem dJ0_charAt_5068e_11 : decode cJ0_charAt_5068e 11 = .ok (.iload_n 1, 1) := by decide +kernel
theorem dJ0_charAt_5068e_12 : decode cJ0_charAt_5068e 12 = .ok (.invokestatic 495, 3) := by decide +kernel
theorem dJ0_charAt_5068e_15 : decode cJ0_charAt_5068e 15 = .ok (.ireturn, 1) := by decide +kernel
theorem dJ0_charAt_5068e_16 : decode cJ0_charAt_5068e 16 = .ok (.aload_n 0, 1) := by decide +kernel
theorem dJ0_charAt_5068e_17 : decode cJ0_charAt_5068e 17 = .ok (.getfield 9, 3) := by decide +kernel
theorem dJ0_charAt_5068e_20 : decode cJ0_charAt_5068e 20 = .ok (.iload_n 1, 1) := by decide +kernel
theorem dJ5_init_d00df_0 : decode cJ5_init_d00df 0 = .ok (.aload_n 0, 1) := by decide +kernel
theorem dJ5_init_d00df_1 : decode cJ5_init_d00df 1 = .ok (.invokespecial 3, 3) := by decide +kernel
theorem dJ5_init_d00df_4 : decode cJ5_init_d00df 4 = .ok (.getstatic 18, 3) := by decide +kernel
theorem dJ5_init_d00df_7 : decode cJ5_init_d00df 7 = .ok (.ifCond .eq 18, 3) := by decide +kernel
theorem dJ5_init_d00df_10 : decode cJ5_init_d00df 10 = .ok (.aload_n 0, 1) := by decide +kernel
theorem dJ5_init_d00df_11 : decode cJ5_init_d00df 11 = .ok (.iload_n 1, 1) := by decide +kernel
theorem dJ5_init_d00df_12 : decode cJ5_init_d00df 12 = .ok (.newarray .byte, 2) := by decide +kernel
theorem dJ5_init_d00df_14 : decode cJ5_init_d00df 14 = .ok (.putfield 15, 3) := by decide +kernel
theorem dJ5_init_d00df_17 : decode cJ5_init_d00df 17 = .ok (.aload_n 0, 1) := by decide +kernel
theorem dJ5_init_d00df_18 : decode cJ5_init_d00df 18 = .ok (.iconst 0, 1) := by decide +kernel
theorem dJ5_init_d00df_19 : decode cJ5_init_d00df 19 = .ok (.putfield 22, 3) := by decide +kernel
theorem dJ5_init_d00df_22 : decode cJ5_init_d00df 22 = .ok (.goto 16, 3) := by decide +kernel
theorem dJ5_init_d00df_38 : decode cJ5_init_d00df 38 = .ok (.return_, 1) := by decide +kernel
theorem dJ4_init_da8c8_0 : decode cJ4_init_da8c8 0 = .ok (.aload_n 0, 1) := by decide +kernel
theorem dJ4_init_da8c8_1 : decode cJ4_init_da8c8 1 = .ok (.bipush 16, 2) := by decide +kernel
theorem dJ4_init_da8c8_3 : decode cJ4_init_da8c8 3 = .ok (.invokespecial 1, 3) := by decide +kernel
theorem dJ4_init_da8c8_6 : decode cJ4_init_da8c8 6 = .ok (.return_, 1) := by decide +kernel
theorem dJ8_newLength_cabcc_0 : decode cJ8_newLength_cabcc 0 = .ok (.iload_n 0, 1) := by decide +kernel
theorem dJ8_newLength_cabcc_1 : decode cJ8_newLength_cabcc 1 = .ok (.iload_n 1, 1) := by decide +kernel
theorem dJ8_newLength_cabcc_2 : decode cJ8_newLength_cabcc 2 = .ok (.iload_n 2, 1) := by decide +kernel
theorem dJ8_newLength_cabcc_3 : decode cJ8_newLength_cabcc 3 = .ok (.invokestatic 194, 3) := by decide +kernel
theorem dJ8_newLength_cabcc_6 : decode cJ8_newLength_cabcc 6 = .ok (.iadd, 1) := by decide +kernel
theorem dJ8_newLength_cabcc_7 : decode cJ8_newLength_cabcc 7 = .ok (.istore_n 3, 1) := by decide +kernel
theorem dJ8_newLength_cabcc_8 : decode cJ8_newLength_cabcc 8 = .ok (.iconst 0, 1) := by decide +kernel
theorem dJ8_newLength_cabcc_9 : decode cJ8_newLength_cabcc 9 = .ok (.iload_n 3, 1) := by decide +kernel
theorem dJ8_newLength_cabcc_10 : decode cJ8_newLength_cabcc 10 = .ok (.if_icmp .ge 11, 3) := by decide +kernel
theorem dJ8_newLength_cabcc_13 : decode cJ8_newLength_cabcc 13 = .ok (.iload_n 3, 1) := by decide +kernel
theorem dJ8_newLength_cabcc_14 : decode cJ8_newLength_cabcc 14 = .ok (.ldc 200, 2) := by decide +kernel
theorem dJ8_newLength_cabcc_16 : decode cJ8_newLength_cabcc 16 = .ok (.if_icmp .gt 5, 3) := by decide +kernel
theorem dJ8_newLength_cabcc_19 : decode cJ8_newLength_cabcc 19 = .ok (.iload_n 3, 1) := by decide +kernel
theorem dJ8_newLength_cabcc_20 : decode cJ8_newLength_cabcc 20 = .ok (.ireturn, 1) := by decide +kernel
theorem dJ8_newLength_cabcc_21 : decode cJ8_newLength_cabcc 21 = .ok (.iload_n 0, 1) := by decide +kernel
theorem dJ8_newLength_cabcc_22 : decode cJ8_newLength_cabcc 22 = .ok (.iload_n 1, 1) := by decide +kernel
theorem dJ5_newCapacity_0f7a4_0 : decode cJ5_newCapacity_0f7a4 0 = .ok (.aload_n 0, 1) := by decide +kernel
theorem dJ5_newCapacity_0f7a4_1 : decode cJ5_newCapacity_0f7a4 1 = .ok (.getfield 15, 3) := by decide +kernel
theorem dJ5_newCapacity_0f7a4_4 : decode cJ5_newCapacity_0f7a4 4 = .ok (.arraylength, 1) := by decide +kernel
theorem dJ5_newCapacity_0f7a4_5 : decode cJ5_newCapacity_0f7a4 5 = .ok (.istore_n 2, 1) := by decide +kernel
theorem dJ5_newCapacity_0f7a4_6 : decode cJ5_newCapacity_0f7a4 6 = .ok (.iload_n 1, 1) := by decide +kernel
theorem dJ5_newCapacity_0f7a4_7 : decode cJ5_newCapacity_0f7a4 7 = .ok (.aload_n 0, 1) := by decide +kernel
theorem dJ5_newCapacity_0f7a4_8 : decode cJ5_newCapacity_0f7a4 8 = .ok (.getfield 22, 3) := by decide +kernel
theorem dJ5_newCapacity_0f7a4_11 : decode cJ5_newCapacity_0f7a4 11 = .ok (.ishl, 1) := by decide +kernel
theorem dJ5_newCapacity_0f7a4_12 : decode cJ5_newCapacity_0f7a4 12 = .ok (.istore_n 3, 1) := by decide +kernel
theorem dJ5_newCapacity_0f7a4_13 : decode cJ5_newCapacity_0f7a4 13 = .ok (.iload_n 3, 1) := by decide +kernel
theorem dJ5_newCapacity_0f7a4_14 : decode cJ5_newCapacity_0f7a4 14 = .ok (.iload_n 2, 1) := by decide +kernel
theorem dJ5_newCapacity_0f7a4_15 : decode cJ5_newCapacity_0f7a4 15 = .ok (.isub, 1) := by decide +kernel
theorem dJ5_newCapacity_0f7a4_16 : decode cJ5_newCapacity_0f7a4 16 = .ok (.istore 4, 2) := by decide +kernel
theorem dJ5_newCapacity_0f7a4_18 : decode cJ5_newCapacity_0f7a4 18 = .ok (.iload_n 2, 1) := by decide +kernel
theorem dJ5_newCapacity_0f7a4_19 : decode cJ5_newCapacity_0f7a4 19 = .ok (.iload 4, 2) := by decide +kernel
theorem dJ5_newCapacity_0f7a4_21 : decode cJ5_newCapacity_0f7a4 21 = .ok (.iload_n 2, 1) := by decide +kernel
theorem dJ5_newCapacity_0f7a4_22 : decode cJ5_newCapacity_0f7a4 22 = .ok (.iconst 2, 1) := by decide +kernel
theorem dJ5_newCapacity_0f7a4_23 : decode cJ5_newCapacity_0f7a4 23 = .ok (.aload_n 0, 1) := by decide +kernel
theorem dJ5_newCapacity_0f7a4_24 : decode cJ5_newCapacity_0f7a4 24 = .ok (.getfield 22, 3) := by decide +kernel
theorem dJ5_newCapacity_0f7a4_27 : decode cJ5_newCapacity_0f7a4 27 = .ok (.ishl, 1) := by decide +kernel
theorem dJ5_newCapacity_0f7a4_28 : decode cJ5_newCapacity_0f7a4 28 = .ok (.iadd, 1) := by decide +kernel
theorem dJ5_newCapacity_0f7a4_29 : decode cJ5_newCapacity_0f7a4 29 = .ok (.invokestatic 114, 3) := by decide +kernel
theorem dJ5_newCapacity_0f7a4_32 : decode cJ5_newCapacity_0f7a4 32 = .ok (.istore 5, 2) := by decide +kernel
theorem dJ5_newCapacity_0f7a4_34 : decode cJ5_newCapacity_0f7a4 34 = .ok (.iload 5, 2) := by decide +kernel
theorem dJ5_newCapacity_0f7a4_36 : decode cJ5_newCapacity_0f7a4 36 = .ok (.ldc 39, 2) := by decide +kernel
theorem dJ5_newCapacity_0f7a4_38 : decode cJ5_newCapacity_0f7a4 38 = .ok (.if_icmp .ne 13, 3) := by decide +kernel
theorem dJ5_newCapacity_0f7a4_51 : decode cJ5_newCapacity_0f7a4 51 = .ok (.iload 5, 2) := by decide +kernel
theorem dJ5_newCapacity_0f7a4_53 : decode cJ5_newCapacity_0f7a4 53 = .ok (.aload_n 0, 1) := by decide +kernel
theorem dJ5_newCapacity_0f7a4_54 : decode cJ5_newCapacity_0f7a4 54 = .ok (.getfield 22, 3) := by decide +kernel
theorem dJ5_newCapacity_0f7a4_57 : decode cJ5_newCapacity_0f7a4 57 = .ok (.ishr, 1) := by decide +kernel
theorem dJ5_newCapacity_0f7a4_58 : decode cJ5_newCapacity_0f7a4 58 = .ok (.ireturn, 1) := by decide +kernel
theorem dJ7_copyOf_9075b_0 : decode cJ7_copyOf_9075b 0 = .ok (.iload_n 1, 1) := by decide +kernel
theorem dJ7_copyOf_9075b_1 : decode cJ7_copyOf_9075b 1 = .ok (.aload_n 0, 1) := by decide +kernel
theorem dJ7_copyOf_9075b_2 : decode cJ7_copyOf_9075b 2 = .ok (.arraylength, 1) := by decide +kernel
theorem dJ7_copyOf_9075b_3 : decode cJ7_copyOf_9075b 3 = .ok (.if_icmp .ne 11, 3) := by decide +kernel
theorem dJ7_copyOf_9075b_6 : decode cJ7_copyOf_9075b 6 = .ok (.aload_n 0, 1) := by decide +kernel
theorem dJ7_copyOf_9075b_14 : decode cJ7_copyOf_9075b 14 = .ok (.iload_n 1, 1) := by decide +kernel
theorem dJ7_copyOf_9075b_15 : decode cJ7_copyOf_9075b 15 = .ok (.newarray .byte, 2) := by decide +kernel
theorem dJ7_copyOf_9075b_17 : decode cJ7_copyOf_9075b 17 = .ok (.astore_n 2, 1) := by decide +kernel
theorem dJ7_copyOf_9075b_18 : decode cJ7_copyOf_9075b 18 = .ok (.aload_n 0, 1) := by decide +kernel
theorem dJ7_copyOf_9075b_19 : decode cJ7_copyOf_9075b 19 = .ok (.iconst 0, 1) := by decide +kernel
theorem dJ7_copyOf_9075b_20 : decode cJ7_copyOf_9075b 20 = .ok (.aload_n 2, 1) := by decide +kernel
theorem dJ7_copyOf_9075b_21 : decode cJ7_copyOf_9075b 21 = .ok (.iconst 0, 1) := by decide +kernel
theorem dJ7_copyOf_9075b_22 : decode cJ7_copyOf_9075b 22 = .ok (.aload_n 0, 1) := by decide +kernel
theorem dJ7_copyOf_9075b_23 : decode cJ7_copyOf_9075b 23 = .ok (.arraylength, 1) := by decide +kernel
theorem dJ7_copyOf_9075b_24 : decode cJ7_copyOf_9075b 24 = .ok (.iload_n 1, 1) := by decide +kernel
theorem dJ7_copyOf_9075b_25 : decode cJ7_copyOf_9075b 25 = .ok (.invokestatic 304, 3) := by decide +kernel
theorem dJ7_copyOf_9075b_28 : decode cJ7_copyOf_9075b 28 = .ok (.invokestatic 150, 3) := by decide +kernel
theorem dJ7_copyOf_9075b_31 : decode cJ7_copyOf_9075b 31 = .ok (.aload_n 2, 1) := by decide +kernel
theorem dJ7_copyOf_9075b_32 : decode cJ7_copyOf_9075b 32 = .ok (.areturn, 1) := by decide +kernel
theorem dJ5_ensureCapacityInternal_d00df_0 : decode cJ5_ensureCapacityInternal_d00df 0 = .ok (.aload_n 0, 1) := by decide +kernel
theorem dJ5_ensureCapacityInternal_d00df_1 : decode cJ5_ensureCapacityInternal_d00df 1 = .ok (.getfield 15, 3) := by decide +kernel
theorem dJ5_ensureCapacityInternal_d00df_4 : decode cJ5_ensureCapacityInternal_d00df 4 = .ok (.arraylength, 1) := by decide +kernel
theorem dJ5_ensureCapacityInternal_d00df_5 : decode cJ5_ensureCapacityInternal_d00df 5 = .ok (.aload_n 0, 1) := by decide +kernel
theorem dJ5_ensureCapacityInternal_d00df_6 : decode cJ5_ensureCapacityInternal_d00df 6 = .ok (.getfield 22, 3) := by decide +kernel
theorem dJ5_ensureCapacityInternal_d00df_9 : decode cJ5_ensureCapacityInternal_d00df 9 = .ok (.ishr, 1) := by decide +kernel
theorem dJ5_ensureCapacityInternal_d00df_10 : decode cJ5_ensureCapacityInternal_d00df 10 = .ok (.istore_n 2, 1) := by decide +kernel
theorem dJ5_ensureCapacityInternal_d00df_11 : decode cJ5_ensureCapacityInternal_d00df 11 = .ok (.iload_n 1, 1) := by decide +kernel
theorem dJ5_ensureCapacityInternal_d00df_12 : decode cJ5_ensureCapacityInternal_d00df 12 = .ok (.iload_n 2, 1) := by decide +kernel
theorem dJ5_ensureCapacityInternal_d00df_13 : decode cJ5_ensureCapacityInternal_d00df 13 = .ok (.isub, 1) := by decide +kernel
theorem dJ5_ensureCapacityInternal_d00df_14 : decode cJ5_ensureCapacityInternal_d00df 14 = .ok (.ifCond .le 24, 3) := by decide +kernel
theorem dJ5_ensureCapacityInternal_d00df_17 : decode cJ5_ensureCapacityInternal_d00df 17 = .ok (.aload_n 0, 1) := by decide +kernel
theorem dJ5_ensureCapacityInternal_d00df_18 : decode cJ5_ensureCapacityInternal_d00df 18 = .ok (.aload_n 0, 1) := by decide +kernel
theorem dJ5_ensureCapacityInternal_d00df_19 : decode cJ5_ensureCapacityInternal_d00df 19 = .ok (.getfield 15, 3) := by decide +kernel
theorem dJ5_ensureCapacityInternal_d00df_22 : decode cJ5_ensureCapacityInternal_d00df 22 = .ok (.aload_n 0, 1) := by decide +kernel
theorem dJ5_ensureCapacityInternal_d00df_23 : decode cJ5_ensureCapacityInternal_d00df 23 = .ok (.iload_n 1, 1) := by decide +kernel
theorem dJ5_ensureCapacityInternal_d00df_24 : decode cJ5_ensureCapacityInternal_d00df 24 = .ok (.invokevirtual 104, 3) := by decide +kernel
theorem dJ5_ensureCapacityInternal_d00df_27 : decode cJ5_ensureCapacityInternal_d00df 27 = .ok (.aload_n 0, 1) := by decide +kernel
theorem dJ5_ensureCapacityInternal_d00df_28 : decode cJ5_ensureCapacityInternal_d00df 28 = .ok (.getfield 22, 3) := by decide +kernel
theorem dJ5_ensureCapacityInternal_d00df_31 : decode cJ5_ensureCapacityInternal_d00df 31 = .ok (.ishl, 1) := by decide +kernel
theorem dJ5_ensureCapacityInternal_d00df_32 : decode cJ5_ensureCapacityInternal_d00df 32 = .ok (.invokestatic 108, 3) := by decide +kernel
theorem dJ5_ensureCapacityInternal_d00df_35 : decode cJ5_ensureCapacityInternal_d00df 35 = .ok (.putfield 15, 3) := by decide +kernel
theorem dJ5_ensureCapacityInternal_d00df_38 : decode cJ5_ensureCapacityInternal_d00df 38 = .ok (.return_, 1) := by decide +kernel
theorem dJ5_isLatin1_aae02_0 : decode cJ5_isLatin1_aae02 0 = .ok (.getstatic 18, 3) := by decide +kernel
theorem dJ5_isLatin1_aae02_3 : decode cJ5_isLatin1_aae02 3 = .ok (.ifCond .eq 14, 3) := by decide +kernel
theorem dJ5_isLatin1_aae02_6 : decode cJ5_isLatin1_aae02 6 = .ok (.aload_n 0, 1) := by decide +kernel
theorem dJ5_isLatin1_aae02_7 : decode cJ5_isLatin1_aae02 7 = .ok (.getfield 22, 3) := by decide +kernel
theorem dJ5_isLatin1_aae02_10 : decode cJ5_isLatin1_aae02 10 = .ok (.ifCond .ne 7, 3) := by decide +kernel
theorem dJ5_isLatin1_aae02_13 : decode cJ5_isLatin1_aae02 13 = .ok (.iconst 1, 1) := by decide +kernel
theorem dJ5_isLatin1_aae02_14 : decode cJ5_isLatin1_aae02 14 = .ok (.goto 4, 3) := by decide +kernel
theorem dJ5_isLatin1_aae02_17 : decode cJ5_isLatin1_aae02 17 = .ok (.iconst 0, 1) := by decide +kernel
theorem dJ5_isLatin1_aae02_18 : decode cJ5_isLatin1_aae02 18 = .ok (.ireturn, 1) := by decide +kernel
theorem dJ5_setLength_d00df_0 : decode cJ5_setLength_d00df 0 = .ok (.iload_n 1, 1) := by decide +kernel
theorem dJ5_setLength_d00df_1 : decode cJ5_setLength_d00df 1 = .ok (.ifCond .ge 12, 3) := by decide +kernel
theorem dJ5_setLength_d00df_13 : decode cJ5_setLength_d00df 13 = .ok (.aload_n 0, 1) := by decide +kernel
theorem dJ5_setLength_d00df_14 : decode cJ5_setLength_d00df 14 = .ok (.iload_n 1, 1) := by decide +kernel
theorem dJ5_setLength_d00df_15 : decode cJ5_setLength_d00df 15 = .ok (.invokevirtual 100, 3) := by decide +kernel
theorem dJ5_setLength_d00df_18 : decode cJ5_setLength_d00df 18 = .ok (.aload_n 0, 1) := by decide +kernel
theorem dJ5_setLength_d00df_19 : decode cJ5_setLength_d00df 19 = .ok (.getfield 79, 3) := by decide +kernel
theorem dJ5_setLength_d00df_22 : decode cJ5_setLength_d00df 22 = .ok (.iload_n 1, 1) := by decide +kernel
theorem dJ5_setLength_d00df_23 : decode cJ5_setLength_d00df 23 = .ok (.if_icmp .ge 40, 3) := by decide +kernel
theorem dJ5_setLength_d00df_26 : decode cJ5_setLength_d00df 26 = .ok (.aload_n 0, 1) := by decide +kernel
theorem dJ5_setLength_d00df_27 : decode cJ5_setLength_d00df 27 = .ok (.invokevirtual 83, 3) := by decide +kernel
theorem dJ5_setLength_d00df_30 : decode cJ5_setLength_d00df 30 = .ok (.ifCond .eq 18, 3) := by decide +kernel
theorem dJ5_setLength_d00df_33 : decode cJ5_setLength_d00df 33 = .ok (.aload_n 0, 1) := by decide +kernel
theorem dJ5_setLength_d00df_34 : decode cJ5_setLength_d00df 34 = .ok (.getfield 15, 3) := by decide +kernel
theorem dJ5_setLength_d00df_37 : decode cJ5_setLength_d00df 37 = .ok (.aload_n 0, 1) := by decide +kernel
theorem dJ5_setLength_d00df_38 : decode cJ5_setLength_d00df 38 = .ok (.getfield 79, 3) := by decide +kernel
theorem dJ5_setLength_d00df_41 : decode cJ5_setLength_d00df 41 = .ok (.iload_n 1, 1) := by decide +kernel
theorem dJ5_setLength_d00df_48 : decode cJ5_setLength_d00df 48 = .ok (.aload_n 0, 1) := by decide +kernel
theorem dJ5_setLength_d00df_49 : decode cJ5_setLength_d00df 49 = .ok (.getfield 15, 3) := by decide +kernel
theorem dJ5_setLength_d00df_52 : decode cJ5_setLength_d00df 52 = .ok (.aload_n 0, 1) := by decide +kernel
theorem dJ5_setLength_d00df_53 : decode cJ5_setLength_d00df 53 = .ok (.getfield 79, 3) := by decide +kernel
theorem dJ5_setLength_d00df_56 : decode cJ5_setLength_d00df 56 = .ok (.iload_n 1, 1) := by decide +kernel
theorem dJ5_setLength_d00df_63 : decode cJ5_setLength_d00df 63 = .ok (.aload_n 0, 1) := by decide +kernel
theorem dJ5_setLength_d00df_64 : decode cJ5_setLength_d00df 64 = .ok (.getfield 79, 3) := by decide +kernel
theorem dJ5_setLength_d00df_67 : decode cJ5_setLength_d00df 67 = .ok (.iload_n 1, 1) := by decide +kernel
theorem dJ5_setLength_d00df_68 : decode cJ5_setLength_d00df 68 = .ok (.if_icmp .le 8, 3) := by decide +kernel
theorem dJ5_setLength_d00df_71 : decode cJ5_setLength_d00df 71 = .ok (.aload_n 0, 1) := by decide +kernel
theorem dJ5_setLength_d00df_72 : decode cJ5_setLength_d00df 72 = .ok (.iconst 1, 1) := by decide +kernel
theorem dJ5_setLength_d00df_73 : decode cJ5_setLength_d00df 73 = .ok (.putfield 73, 3) := by decide +kernel
theorem dJ5_setLength_d00df_76 : decode cJ5_setLength_d00df 76 = .ok (.aload_n 0, 1) := by decide +kernel
theorem dJ5_setLength_d00df_77 : decode cJ5_setLength_d00df 77 = .ok (.iload_n 1, 1) := by decide +kernel
theorem dJ5_setLength_d00df_78 : decode cJ5_setLength_d00df 78 = .ok (.putfield 79, 3) := by decide +kernel
theorem dJ5_setLength_d00df_81 : decode cJ5_setLength_d00df 81 = .ok (.return_, 1) := by decide +kernel
theorem dJ4_setLength_d00df_0 : decode cJ4_setLength_d00df 0 = .ok (.aload_n 0, 1) := by decide +kernel
theorem dJ4_setLength_d00df_1 : decode cJ4_setLength_d00df 1 = .ok (.iload_n 1, 1) := by decide +kernel
theorem dJ4_setLength_d00df_2 : decode cJ4_setLength_d00df 2 = .ok (.invokespecial 333, 3) := by decide +kernel
theorem dJ4_setLength_d00df_5 : decode cJ4_setLength_d00df 5 = .ok (.return_, 1) := by decide +kernel
theorem dJ5_length_8abf5_0 : decode cJ5_length_8abf5 0 = .ok (.aload_n 0, 1) := by decide +kernel
theorem dJ5_length_8abf5_1 : decode cJ5_length_8abf5 1 = .ok (.getfield 79, 3) := by decide +kernel
theorem dJ5_length_8abf5_4 : decode cJ5_length_8abf5 4 = .ok (.ireturn, 1) := by decide +kernel
theorem dJ4_length_8abf5_0 : decode cJ4_length_8abf5 0 = .ok (.aload_n 0, 1) := by decide +kernel
theorem dJ4_length_8abf5_1 : decode cJ4_length_8abf5 1 = .ok (.invokespecial 343, 3) := by decide +kernel
theorem dJ4_length_8abf5_4 : decode cJ4_length_8abf5 4 = .ok (.ireturn, 1) := by decide +kernel
theorem dJ1_canEncode_fc78d_0 : decode cJ1_canEncode_fc78d 0 = .ok (.iload_n 0, 1) := by decide +kernel
theorem dJ1_canEncode_fc78d_1 : decode cJ1_canEncode_fc78d 1 = .ok (.sipush 255, 3) := by decide +kernel
theorem dJ1_canEncode_fc78d_4 : decode cJ1_canEncode_fc78d 4 = .ok (.if_icmp .gt 7, 3) := by decide +kernel
theorem dJ1_canEncode_fc78d_7 : decode cJ1_canEncode_fc78d 7 = .ok (.iconst 1, 1) := by decide +kernel
theorem dJ1_canEncode_fc78d_8 : decode cJ1_canEncode_fc78d 8 = .ok (.goto 4, 3) := by decide +kernel
theorem dJ1_canEncode_fc78d_11 : decode cJ1_canEncode_fc78d 11 = .ok (.iconst 0, 1) := by decide +kernel
theorem dJ1_canEncode_fc78d_12 : decode cJ1_canEncode_fc78d 12 = .ok (.ireturn, 1) := by decide +kernel
theorem dJ5_append_3fe6f_0 : decode cJ5_append_3fe6f 0 = .ok (.aload_n 0, 1) := by decide +kernel
theorem dJ5_append_3fe6f_1 : decode cJ5_append_3fe6f 1 = .ok (.aload_n 0, 1) := by decide +kernel
theorem dJ5_append_3fe6f_2 : decode cJ5_append_3fe6f 2 = .ok (.getfield 79, 3) := by decide +kernel
theorem dJ5_append_3fe6f_5 : decode cJ5_append_3fe6f 5 = .ok (.iconst 1, 1) := by decide +kernel
theorem dJ5_append_3fe6f_6 : decode cJ5_append_3fe6f 6 = .ok (.iadd, 1) := by decide +kernel
theorem dJ5_append_3fe6f_7 : decode cJ5_append_3fe6f 7 = .ok (.invokevirtual 100, 3) := by decide +kernel
theorem dJ5_append_3fe6f_10 : decode cJ5_append_3fe6f 10 = .ok (.aload_n 0, 1) := by decide +kernel
theorem dJ5_append_3fe6f_11 : decode cJ5_append_3fe6f 11 = .ok (.invokevirtual 83, 3) := by decide +kernel
theorem dJ5_append_3fe6f_14 : decode cJ5_append_3fe6f 14 = .ok (.ifCond .eq 31, 3) := by decide +kernel
theorem dJ5_append_3fe6f_17 : decode cJ5_append_3fe6f 17 = .ok (.iload_n 1, 1) := by decide +kernel
theorem dJ5_append_3fe6f_18 : decode cJ5_append_3fe6f 18 = .ok (.invokestatic 191, 3) := by decide +kernel
theorem dJ5_append_3fe6f_21 : decode cJ5_append_3fe6f 21 = .ok (.ifCond .eq 24, 3) := by decide +kernel
theorem dJ5_append_3fe6f_24 : decode cJ5_append_3fe6f 24 = .ok (.aload_n 0, 1) := by decide +kernel
theorem dJ5_append_3fe6f_25 : decode cJ5_append_3fe6f 25 = .ok (.getfield 15, 3) := by decide +kernel
theorem dJ5_append_3fe6f_28 : decode cJ5_append_3fe6f 28 = .ok (.aload_n 0, 1) := by decide +kernel
theorem dJ5_append_3fe6f_29 : decode cJ5_append_3fe6f 29 = .ok (.dup, 1) := by decide +kernel
theorem dJ5_append_3fe6f_30 : decode cJ5_append_3fe6f 30 = .ok (.getfield 79, 3) := by decide +kernel
theorem dJ5_append_3fe6f_33 : decode cJ5_append_3fe6f 33 = .ok (.dup_x1, 1) := by decide +kernel
theorem dJ5_append_3fe6f_34 : decode cJ5_append_3fe6f 34 = .ok (.iconst 1, 1) := by decide +kernel
theorem dJ5_append_3fe6f_35 : decode cJ5_append_3fe6f 35 = .ok (.iadd, 1) := by decide +kernel
theorem dJ5_append_3fe6f_36 : decode cJ5_append_3fe6f 36 = .ok (.putfield 79, 3) := by decide +kernel
theorem dJ5_append_3fe6f_39 : decode cJ5_append_3fe6f 39 = .ok (.iload_n 1, 1) := by decide +kernel
theorem dJ5_append_3fe6f_40 : decode cJ5_append_3fe6f 40 = .ok (.i2b, 1) := by decide +kernel
theorem dJ5_append_3fe6f_41 : decode cJ5_append_3fe6f 41 = .ok (.bastore, 1) := by decide +kernel
theorem dJ5_append_3fe6f_42 : decode cJ5_append_3fe6f 42 = .ok (.goto 33, 3) := by decide +kernel
theorem dJ5_append_3fe6f_45 : decode cJ5_append_3fe6f 45 = .ok (.aload_n 0, 1) := by decide +kernel
theorem dJ5_append_3fe6f_46 : decode cJ5_append_3fe6f 46 = .ok (.invokevirtual 83, 3) := by decide +kernel
theorem dJ5_append_3fe6f_49 : decode cJ5_append_3fe6f 49 = .ok (.ifCond .eq 7, 3) := by decide +kernel
theorem dJ5_append_3fe6f_52 : decode cJ5_append_3fe6f 52 = .ok (.aload_n 0, 1) := by decide +kernel
theorem dJ5_append_3fe6f_56 : decode cJ5_append_3fe6f 56 = .ok (.aload_n 0, 1) := by decide +kernel
theorem dJ5_append_3fe6f_57 : decode cJ5_append_3fe6f 57 = .ok (.getfield 15, 3) := by decide +kernel
theorem dJ5_append_3fe6f_60 : decode cJ5_append_3fe6f 60 = .ok (.aload_n 0, 1) := by decide +kernel
theorem dJ5_append_3fe6f_61 : decode cJ5_append_3fe6f 61 = .ok (.dup, 1) := by decide +kernel
theorem dJ5_append_3fe6f_62 : decode cJ5_append_3fe6f 62 = .ok (.getfield 79, 3) := by decide +kernel
theorem dJ5_append_3fe6f_65 : decode cJ5_append_3fe6f 65 = .ok (.dup_x1, 1) := by decide +kernel
theorem dJ5_append_3fe6f_66 : decode cJ5_append_3fe6f 66 = .ok (.iconst 1, 1) := by decide +kernel
theorem dJ5_append_3fe6f_67 : decode cJ5_append_3fe6f 67 = .ok (.iadd, 1) := by decide +kernel
theorem dJ5_append_3fe6f_68 : decode cJ5_append_3fe6f 68 = .ok (.putfield 79, 3) := by decide +kernel
theorem dJ5_append_3fe6f_71 : decode cJ5_append_3fe6f 71 = .ok (.iload_n 1, 1) := by decide +kernel
theorem dJ5_append_3fe6f_75 : decode cJ5_append_3fe6f 75 = .ok (.aload_n 0, 1) := by decide +kernel
theorem dJ5_append_3fe6f_76 : decode cJ5_append_3fe6f 76 = .ok (.areturn, 1) := by decide +kernel
theorem dJ4_append_cf468_0 : decode cJ4_append_cf468 0 = .ok (.aload_n 0, 1) := by decide +kernel
theorem dJ4_append_cf468_1 : decode cJ4_append_cf468 1 = .ok (.iload_n 1, 1) := by decide +kernel
theorem dJ4_append_cf468_2 : decode cJ4_append_cf468 2 = .ok (.invokespecial 50, 3) := by decide +kernel
theorem dJ4_append_cf468_5 : decode cJ4_append_cf468 5 = .ok (.pop, 1) := by decide +kernel
theorem dJ4_append_cf468_6 : decode cJ4_append_cf468 6 = .ok (.aload_n 0, 1) := by decide +kernel
theorem dJ4_append_cf468_7 : decode cJ4_append_cf468 7 = .ok (.areturn, 1) := by decide +kernel
theorem dJ6_stringSize_0f7a4_0 : decode cJ6_stringSize_0f7a4 0 = .ok (.iconst 1, 1) := by decide +kernel
theorem dJ6_stringSize_0f7a4_1 : decode cJ6_stringSize_0f7a4 1 = .ok (.istore_n 1, 1) := by decide +kernel
theorem dJ6_stringSize_0f7a4_2 : decode cJ6_stringSize_0f7a4 2 = .ok (.iload_n 0, 1) := by decide +kernel
theorem dJ6_stringSize_0f7a4_3 : decode cJ6_stringSize_0f7a4 3 = .ok (.ifCond .lt 8, 3) := by decide +kernel
theorem dJ6_stringSize_0f7a4_6 : decode cJ6_stringSize_0f7a4 6 = .ok (.iconst 0, 1) := by decide +kernel
theorem dJ6_stringSize_0f7a4_7 : decode cJ6_stringSize_0f7a4 7 = .ok (.istore_n 1, 1) := by decide +kernel
theorem dJ6_stringSize_0f7a4_8 : decode cJ6_stringSize_0f7a4 8 = .ok (.iload_n 0, 1) := by decide +kernel
theorem dJ6_stringSize_0f7a4_9 : decode cJ6_stringSize_0f7a4 9 = .ok (.ineg, 1) := by decide +kernel
theorem dJ6_stringSize_0f7a4_10 : decode cJ6_stringSize_0f7a4 10 = .ok (.istore_n 0, 1) := by decide +kernel
theorem dJ6_stringSize_0f7a4_11 : decode cJ6_stringSize_0f7a4 11 = .ok (.bipush (-10), 2) := by decide +kernel
theorem dJ6_stringSize_0f7a4_13 : decode cJ6_stringSize_0f7a4 13 = .ok (.istore_n 2, 1) := by decide +kernel
theorem dJ6_stringSize_0f7a4_14 : decode cJ6_stringSize_0f7a4 14 = .ok (.iconst 1, 1) := by decide +kernel
theorem dJ6_stringSize_0f7a4_15 : decode cJ6_stringSize_0f7a4 15 = .ok (.istore_n 3, 1) := by decide +kernel
theorem dJ6_stringSize_0f7a4_16 : decode cJ6_stringSize_0f7a4 16 = .ok (.iload_n 3, 1) := by decide +kernel
theorem dJ6_stringSize_0f7a4_17 : decode cJ6_stringSize_0f7a4 17 = .ok (.bipush 10, 2) := by decide +kernel
theorem dJ6_stringSize_0f7a4_19 : decode cJ6_stringSize_0f7a4 19 = .ok (.if_icmp .ge 23, 3) := by decide +kernel
theorem dJ6_stringSize_0f7a4_22 : decode cJ6_stringSize_0f7a4 22 = .ok (.iload_n 0, 1) := by decide +kernel
theorem dJ6_stringSize_0f7a4_23 : decode cJ6_stringSize_0f7a4 23 = .ok (.iload_n 2, 1) := by decide +kernel
theorem dJ6_stringSize_0f7a4_24 : decode cJ6_stringSize_0f7a4 24 = .ok (.if_icmp .le 7, 3) := by decide +kernel
theorem dJ6_stringSize_0f7a4_27 : decode cJ6_stringSize_0f7a4 27 = .ok (.iload_n 3, 1) := by decide +kernel
theorem dJ6_stringSize_0f7a4_28 : decode cJ6_stringSize_0f7a4 28 = .ok (.iload_n 1, 1) := by decide +kernel
theorem dJ6_stringSize_0f7a4_29 : decode cJ6_stringSize_0f7a4 29 = .ok (.iadd, 1) := by decide +kernel
theorem dJ6_stringSize_0f7a4_30 : decode cJ6_stringSize_0f7a4 30 = .ok (.ireturn, 1) := by decide +kernel
theorem dJ6_stringSize_0f7a4_31 : decode cJ6_stringSize_0f7a4 31 = .ok (.bipush 10, 2) := by decide +kernel
theorem dJ6_stringSize_0f7a4_33 : decode cJ6_stringSize_0f7a4 33 = .ok (.iload_n 2, 1) := by decide +kernel
theorem dJ6_stringSize_0f7a4_34 : decode cJ6_stringSize_0f7a4 34 = .ok (.imul, 1) := by decide +kernel
theorem dJ6_stringSize_0f7a4_35 : decode cJ6_stringSize_0f7a4 35 = .ok (.istore_n 2, 1) := by decide +kernel
theorem dJ6_stringSize_0f7a4_36 : decode cJ6_stringSize_0f7a4 36 = .ok (.iinc 3 1, 3) := by decide +kernel
theorem dJ6_stringSize_0f7a4_39 : decode cJ6_stringSize_0f7a4 39 = .ok (.goto (-23), 3) := by decide +kernel
theorem dJ6_stringSize_0f7a4_42 : decode cJ6_stringSize_0f7a4 42 = .ok (.bipush 10, 2) := by decide +kernel
theorem dJ6_stringSize_0f7a4_44 : decode cJ6_stringSize_0f7a4 44 = .ok (.iload_n 1, 1) := by decide +kernel
theorem dJ6_stringSize_0f7a4_45 : decode cJ6_stringSize_0f7a4 45 = .ok (.iadd, 1) := by decide +kernel
theorem dJ6_stringSize_0f7a4_46 : decode cJ6_stringSize_0f7a4 46 = .ok (.ireturn, 1) := by decide +kernel
theorem dJ6_getChars_ba4f3_0 : decode cJ6_getChars_ba4f3 0 = .ok (.iload_n 1, 1) := by decide +kernel
theorem dJ6_getChars_ba4f3_1 : decode cJ6_getChars_ba4f3 1 = .ok (.istore 5, 2) := by decide +kernel
theorem dJ6_getChars_ba4f3_3 : decode cJ6_getChars_ba4f3 3 = .ok (.iload_n 0, 1) := by decide +kernel
theorem dJ6_getChars_ba4f3_4 : decode cJ6_getChars_ba4f3 4 = .ok (.ifCond .ge 7, 3) := by decide +kernel
theorem dJ6_getChars_ba4f3_7 : decode cJ6_getChars_ba4f3 7 = .ok (.iconst 1, 1) := by decide +kernel
theorem dJ6_getChars_ba4f3_8 : decode cJ6_getChars_ba4f3 8 = .ok (.goto 4, 3) := by decide +kernel
theorem dJ6_getChars_ba4f3_11 : decode cJ6_getChars_ba4f3 11 = .ok (.iconst 0, 1) := by decide +kernel
theorem dJ6_getChars_ba4f3_12 : decode cJ6_getChars_ba4f3 12 = .ok (.istore 6, 2) := by decide +kernel
theorem dJ6_getChars_ba4f3_14 : decode cJ6_getChars_ba4f3 14 = .ok (.iload 6, 2) := by decide +kernel
theorem dJ6_getChars_ba4f3_16 : decode cJ6_getChars_ba4f3 16 = .ok (.ifCond .ne 6, 3) := by decide +kernel
theorem dJ6_getChars_ba4f3_19 : decode cJ6_getChars_ba4f3 19 = .ok (.iload_n 0, 1) := by decide +kernel
theorem dJ6_getChars_ba4f3_20 : decode cJ6_getChars_ba4f3 20 = .ok (.ineg, 1) := by decide +kernel
theorem dJ6_getChars_ba4f3_21 : decode cJ6_getChars_ba4f3 21 = .ok (.istore_n 0, 1) := by decide +kernel
theorem dJ6_getChars_ba4f3_22 : decode cJ6_getChars_ba4f3 22 = .ok (.iload_n 0, 1) := by decide +kernel
theorem dJ6_getChars_ba4f3_23 : decode cJ6_getChars_ba4f3 23 = .ok (.bipush (-100), 2) := by decide +kernel
theorem dJ6_getChars_ba4f3_25 : decode cJ6_getChars_ba4f3 25 = .ok (.if_icmp .gt 47, 3) := by decide +kernel
theorem dJ6_getChars_ba4f3_28 : decode cJ6_getChars_ba4f3 28 = .ok (.iload_n 0, 1) := by decide +kernel
theorem dJ6_getChars_ba4f3_29 : decode cJ6_getChars_ba4f3 29 = .ok (.bipush 100, 2) := by decide +kernel
theorem dJ6_getChars_ba4f3_31 : decode cJ6_getChars_ba4f3 31 = .ok (.idiv, 1) := by decide +kernel
theorem dJ6_getChars_ba4f3_32 : decode cJ6_getChars_ba4f3 32 = .ok (.istore_n 3, 1) := by decide +kernel
theorem dJ6_getChars_ba4f3_33 : decode cJ6_getChars_ba4f3 33 = .ok (.iload_n 3, 1) := by decide +kernel
theorem dJ6_getChars_ba4f3_34 : decode cJ6_getChars_ba4f3 34 = .ok (.bipush 100, 2) := by decide +kernel
theorem dJ6_getChars_ba4f3_36 : decode cJ6_getChars_ba4f3 36 = .ok (.imul, 1) := by decide +kernel
theorem dJ6_getChars_ba4f3_37 : decode cJ6_getChars_ba4f3 37 = .ok (.iload_n 0, 1) := by decide +kernel
theorem dJ6_getChars_ba4f3_38 : decode cJ6_getChars_ba4f3 38 = .ok (.isub, 1) := by decide +kernel
theorem dJ6_getChars_ba4f3_39 : decode cJ6_getChars_ba4f3 39 = .ok (.istore 4, 2) := by decide +kernel
theorem dJ6_getChars_ba4f3_41 : decode cJ6_getChars_ba4f3 41 = .ok (.iload_n 3, 1) := by decide +kernel
theorem dJ6_getChars_ba4f3_42 : decode cJ6_getChars_ba4f3 42 = .ok (.istore_n 0, 1) := by decide +kernel
theorem dJ6_getChars_ba4f3_43 : decode cJ6_getChars_ba4f3 43 = .ok (.aload_n 2, 1) := by decide +kernel
theorem dJ6_getChars_ba4f3_44 : decode cJ6_getChars_ba4f3 44 = .ok (.iinc 5 (-1), 3) := by decide +kernel
theorem dJ6_getChars_ba4f3_47 : decode cJ6_getChars_ba4f3 47 = .ok (.iload 5, 2) := by decide +kernel
theorem dJ6_getChars_ba4f3_49 : decode cJ6_getChars_ba4f3 49 = .ok (.getstatic 83, 3) := by decide +kernel
theorem dJ6_getChars_ba4f3_52 : decode cJ6_getChars_ba4f3 52 = .ok (.iload 4, 2) := by decide +kernel
theorem dJ6_getChars_ba4f3_54 : decode cJ6_getChars_ba4f3 54 = .ok (.baload, 1) := by decide +kernel
theorem dJ6_getChars_ba4f3_55 : decode cJ6_getChars_ba4f3 55 = .ok (.bastore, 1) := by decide +kernel
theorem dJ6_getChars_ba4f3_56 : decode cJ6_getChars_ba4f3 56 = .ok (.aload_n 2, 1) := by decide +kernel
theorem dJ6_getChars_ba4f3_57 : decode cJ6_getChars_ba4f3 57 = .ok (.iinc 5 (-1), 3) := by decide +kernel
theorem dJ6_getChars_ba4f3_60 : decode cJ6_getChars_ba4f3 60 = .ok (.iload 5, 2) := by decide +kernel
theorem dJ6_getChars_ba4f3_62 : decode cJ6_getChars_ba4f3 62 = .ok (.getstatic 87, 3) := by decide +kernel
theorem dJ6_getChars_ba4f3_65 : decode cJ6_getChars_ba4f3 65 = .ok (.iload 4, 2) := by decide +kernel
theorem dJ6_getChars_ba4f3_67 : decode cJ6_getChars_ba4f3 67 = .ok (.baload, 1) := by decide +kernel
theorem dJ6_getChars_ba4f3_68 : decode cJ6_getChars_ba4f3 68 = .ok (.bastore, 1) := by decide +kernel
theorem dJ6_getChars_ba4f3_69 : decode cJ6_getChars_ba4f3 69 = .ok (.goto (-47), 3) := by decide +kernel
theorem dJ6_getChars_ba4f3_72 : decode cJ6_getChars_ba4f3 72 = .ok (.aload_n 2, 1) := by decide +kernel
theorem dJ6_getChars_ba4f3_73 : decode cJ6_getChars_ba4f3 73 = .ok (.iinc 5 (-1), 3) := by decide +kernel
theorem dJ6_getChars_ba4f3_76 : decode cJ6_getChars_ba4f3 76 = .ok (.iload 5, 2) := by decide +kernel
theorem dJ6_getChars_ba4f3_78 : decode cJ6_getChars_ba4f3 78 = .ok (.getstatic 83, 3) := by decide +kernel
theorem dJ6_getChars_ba4f3_81 : decode cJ6_getChars_ba4f3 81 = .ok (.iload_n 0, 1) := by decide +kernel
theorem dJ6_getChars_ba4f3_82 : decode cJ6_getChars_ba4f3 82 = .ok (.ineg, 1) := by decide +kernel
theorem dJ6_getChars_ba4f3_83 : decode cJ6_getChars_ba4f3 83 = .ok (.baload, 1) := by decide +kernel
theorem dJ6_getChars_ba4f3_84 : decode cJ6_getChars_ba4f3 84 = .ok (.bastore, 1) := by decide +kernel
theorem dJ6_getChars_ba4f3_85 : decode cJ6_getChars_ba4f3 85 = .ok (.iload_n 0, 1) := by decide +kernel
theorem dJ6_getChars_ba4f3_86 : decode cJ6_getChars_ba4f3 86 = .ok (.bipush (-9), 2) := by decide +kernel
theorem dJ6_getChars_ba4f3_88 : decode cJ6_getChars_ba4f3 88 = .ok (.if_icmp .ge 16, 3) := by decide +kernel
theorem dJ6_getChars_ba4f3_91 : decode cJ6_getChars_ba4f3 91 = .ok (.aload_n 2, 1) := by decide +kernel
theorem dJ6_getChars_ba4f3_92 : decode cJ6_getChars_ba4f3 92 = .ok (.iinc 5 (-1), 3) := by decide +kernel
theorem dJ6_getChars_ba4f3_95 : decode cJ6_getChars_ba4f3 95 = .ok (.iload 5, 2) := by decide +kernel
theorem dJ6_getChars_ba4f3_97 : decode cJ6_getChars_ba4f3 97 = .ok (.getstatic 87, 3) := by decide +kernel
theorem dJ6_getChars_ba4f3_100 : decode cJ6_getChars_ba4f3 100 = .ok (.iload_n 0, 1) := by decide +kernel
theorem dJ6_getChars_ba4f3_101 : decode cJ6_getChars_ba4f3 101 = .ok (.ineg, 1) := by decide +kernel
theorem dJ6_getChars_ba4f3_102 : decode cJ6_getChars_ba4f3 102 = .ok (.baload, 1) := by decide +kernel
theorem dJ6_getChars_ba4f3_103 : decode cJ6_getChars_ba4f3 103 = .ok (.bastore, 1) := by decide +kernel
theorem dJ6_getChars_ba4f3_104 : decode cJ6_getChars_ba4f3 104 = .ok (.iload 6, 2) := by decide +kernel
theorem dJ6_getChars_ba4f3_106 : decode cJ6_getChars_ba4f3 106 = .ok (.ifCond .eq 12, 3) := by decide +kernel
theorem dJ6_getChars_ba4f3_109 : decode cJ6_getChars_ba4f3 109 = .ok (.aload_n 2, 1) := by decide +kernel
theorem dJ6_getChars_ba4f3_110 : decode cJ6_getChars_ba4f3 110 = .ok (.iinc 5 (-1), 3) := by decide +kernel
theorem dJ6_getChars_ba4f3_113 : decode cJ6_getChars_ba4f3 113 = .ok (.iload 5, 2) := by decide +kernel
theorem dJ6_getChars_ba4f3_115 : decode cJ6_getChars_ba4f3 115 = .ok (.bipush 45, 2) := by decide +kernel
theorem dJ6_getChars_ba4f3_117 : decode cJ6_getChars_ba4f3 117 = .ok (.bastore, 1) := by decide +kernel
theorem dJ6_getChars_ba4f3_118 : decode cJ6_getChars_ba4f3 118 = .ok (.iload 5, 2) := by decide +kernel
theorem dJ6_getChars_ba4f3_120 : decode cJ6_getChars_ba4f3 120 = .ok (.ireturn, 1) := by decide +kernel
theorem dJ5_append_c97b9_0 : decode cJ5_append_c97b9 0 = .ok (.aload_n 0, 1) := by decide +kernel
theorem dJ5_append_c97b9_1 : decode cJ5_append_c97b9 1 = .ok (.getfield 79, 3) := by decide +kernel
theorem dJ5_append_c97b9_4 : decode cJ5_append_c97b9 4 = .ok (.istore_n 2, 1) := by decide +kernel
theorem dJ5_append_c97b9_5 : decode cJ5_append_c97b9 5 = .ok (.iload_n 2, 1) := by decide +kernel
theorem dJ5_append_c97b9_6 : decode cJ5_append_c97b9 6 = .ok (.iload_n 1, 1) := by decide +kernel
theorem dJ5_append_c97b9_7 : decode cJ5_append_c97b9 7 = .ok (.invokestatic 245, 3) := by decide +kernel
theorem dJ5_append_c97b9_10 : decode cJ5_append_c97b9 10 = .ok (.iadd, 1) := by decide +kernel
theorem dJ5_append_c97b9_11 : decode cJ5_append_c97b9 11 = .ok (.istore_n 3, 1) := by decide +kernel
theorem dJ5_append_c97b9_12 : decode cJ5_append_c97b9 12 = .ok (.aload_n 0, 1) := by decide +kernel
theorem dJ5_append_c97b9_13 : decode cJ5_append_c97b9 13 = .ok (.iload_n 3, 1) := by decide +kernel
theorem dJ5_append_c97b9_14 : decode cJ5_append_c97b9 14 = .ok (.invokevirtual 100, 3) := by decide +kernel
theorem dJ5_append_c97b9_17 : decode cJ5_append_c97b9 17 = .ok (.aload_n 0, 1) := by decide +kernel
theorem dJ5_append_c97b9_18 : decode cJ5_append_c97b9 18 = .ok (.invokevirtual 83, 3) := by decide +kernel
theorem dJ5_append_c97b9_21 : decode cJ5_append_c97b9 21 = .ok (.ifCond .eq 16, 3) := by decide +kernel
theorem dJ5_append_c97b9_24 : decode cJ5_append_c97b9 24 = .ok (.iload_n 1, 1) := by decide +kernel
theorem dJ5_append_c97b9_25 : decode cJ5_append_c97b9 25 = .ok (.iload_n 3, 1) := by decide +kernel
theorem dJ5_append_c97b9_26 : decode cJ5_append_c97b9 26 = .ok (.aload_n 0, 1) := by decide +kernel
theorem dJ5_append_c97b9_27 : decode cJ5_append_c97b9 27 = .ok (.getfield 15, 3) := by decide +kernel
theorem dJ5_append_c97b9_30 : decode cJ5_append_c97b9 30 = .ok (.invokestatic 248, 3) := by decide +kernel
theorem dJ5_append_c97b9_33 : decode cJ5_append_c97b9 33 = .ok (.pop, 1) := by decide +kernel
theorem dJ5_append_c97b9_34 : decode cJ5_append_c97b9 34 = .ok (.goto 14, 3) := by decide +kernel
theorem dJ5_append_c97b9_37 : decode cJ5_append_c97b9 37 = .ok (.iload_n 1, 1) := by decide +kernel
theorem dJ5_append_c97b9_38 : decode cJ5_append_c97b9 38 = .ok (.iload_n 2, 1) := by decide +kernel
theorem dJ5_append_c97b9_39 : decode cJ5_append_c97b9 39 = .ok (.iload_n 3, 1) := by decide +kernel
theorem dJ5_append_c97b9_40 : decode cJ5_append_c97b9 40 = .ok (.aload_n 0, 1) := by decide +kernel
theorem dJ5_append_c97b9_41 : decode cJ5_append_c97b9 41 = .ok (.getfield 15, 3) := by decide +kernel
theorem dJ5_append_c97b9_48 : decode cJ5_append_c97b9 48 = .ok (.aload_n 0, 1) := by decide +kernel
theorem dJ5_append_c97b9_49 : decode cJ5_append_c97b9 49 = .ok (.iload_n 3, 1) := by decide +kernel
theorem dJ5_append_c97b9_50 : decode cJ5_append_c97b9 50 = .ok (.putfield 79, 3) := by decide +kernel
theorem dJ5_append_c97b9_53 : decode cJ5_append_c97b9 53 = .ok (.aload_n 0, 1) := by decide +kernel
theorem dJ5_append_c97b9_54 : decode cJ5_append_c97b9 54 = .ok (.areturn, 1) := by decide +kernel
theorem dJ4_append_bf812_0 : decode cJ4_append_bf812 0 = .ok (.aload_n 0, 1) := by decide +kernel
theorem dJ4_append_bf812_1 : decode cJ4_append_bf812 1 = .ok (.iload_n 1, 1) := by decide +kernel
theorem dJ4_append_bf812_2 : decode cJ4_append_bf812 2 = .ok (.invokespecial 53, 3) := by decide +kernel
theorem dJ4_append_bf812_5 : decode cJ4_append_bf812 5 = .ok (.pop, 1) := by decide +kernel
theorem dJ4_append_bf812_6 : decode cJ4_append_bf812 6 = .ok (.aload_n 0, 1) := by decide +kernel
theorem dJ4_append_bf812_7 : decode cJ4_append_bf812 7 = .ok (.areturn, 1) := by decide +kernel
theorem dJ5_charAt_5068e_0 : decode cJ5_charAt_5068e 0 = .ok (.aload_n 0, 1) := by decide +kernel
theorem dJ5_charAt_5068e_1 : decode cJ5_charAt_5068e 1 = .ok (.getfield 22, 3) := by decide +kernel
theorem dJ5_charAt_5068e_4 : decode cJ5_charAt_5068e 4 = .ok (.istore_n 2, 1) := by decide +kernel
theorem dJ5_charAt_5068e_5 : decode cJ5_charAt_5068e 5 = .ok (.aload_n 0, 1) := by decide +kernel
theorem dJ5_charAt_5068e_6 : decode cJ5_charAt_5068e 6 = .ok (.getfield 15, 3) := by decide +kernel
theorem dJ5_charAt_5068e_9 : decode cJ5_charAt_5068e 9 = .ok (.astore_n 3, 1) := by decide +kernel
theorem dJ5_charAt_5068e_10 : decode cJ5_charAt_5068e 10 = .ok (.aload_n 0, 1) := by decide +kernel
theorem dJ5_charAt_5068e_11 : decode cJ5_charAt_5068e 11 = .ok (.getfield 79, 3) := by decide +kernel
theorem dJ5_charAt_5068e_14 : decode cJ5_charAt_5068e 14 = .ok (.aload_n 3, 1) := by decide +kernel
theorem dJ5_charAt_5068e_15 : decode cJ5_charAt_5068e 15 = .ok (.arraylength, 1) := by decide +kernel
theorem dJ5_charAt_5068e_16 : decode cJ5_charAt_5068e 16 = .ok (.iload_n 2, 1) := by decide +kernel
theorem dJ5_charAt_5068e_17 : decode cJ5_charAt_5068e 17 = .ok (.ishr, 1) := by decide +kernel
theorem dJ5_charAt_5068e_18 : decode cJ5_charAt_5068e 18 = .ok (.invokestatic 138, 3) := by decide +kernel
theorem dJ5_charAt_5068e_21 : decode cJ5_charAt_5068e 21 = .ok (.istore 4, 2) := by decide +kernel
theorem dJ5_charAt_5068e_23 : decode cJ5_charAt_5068e 23 = .ok (.iload_n 1, 1) := by decide +kernel
theorem dJ5_charAt_5068e_24 : decode cJ5_charAt_5068e 24 = .ok (.iload 4, 2) := by decide +kernel
theorem dJ5_charAt_5068e_26 : decode cJ5_charAt_5068e 26 = .ok (.invokestatic 144, 3) := by decide +kernel
theorem dJ5_charAt_5068e_29 : decode cJ5_charAt_5068e 29 = .ok (.iload_n 2, 1) := by decide +kernel
theorem dJ5_charAt_5068e_30 : decode cJ5_charAt_5068e 30 = .ok (.ifCond .ne 12, 3) := by decide +kernel
theorem dJ5_charAt_5068e_33 : decode cJ5_charAt_5068e 33 = .ok (.aload_n 3, 1) := by decide +kernel
theorem dJ5_charAt_5068e_34 : decode cJ5_charAt_5068e 34 = .ok (.iload_n 1, 1) := by decide +kernel
theorem dJ5_charAt_5068e_35 : decode cJ5_charAt_5068e 35 = .ok (.baload, 1) := by decide +kernel
theorem dJ5_charAt_5068e_36 : decode cJ5_charAt_5068e 36 = .ok (.sipush 255, 3) := by decide +kernel
theorem dJ5_charAt_5068e_39 : decode cJ5_charAt_5068e 39 = .ok (.iand, 1) := by decide +kernel
theorem dJ5_charAt_5068e_40 : decode cJ5_charAt_5068e 40 = .ok (.i2c, 1) := by decide +kernel
theorem dJ5_charAt_5068e_41 : decode cJ5_charAt_5068e 41 = .ok (.ireturn, 1) := by decide +kernel
theorem dJ5_charAt_5068e_42 : decode cJ5_charAt_5068e 42 = .ok (.aload_n 3, 1) := by decide +kernel
theorem dJ5_charAt_5068e_43 : decode cJ5_charAt_5068e 43 = .ok (.iload_n 1, 1) := by decide +kernel
theorem dJ4_charAt_5068e_0 : decode cJ4_charAt_5068e 0 = .ok (.aload_n 0, 1) := by decide +kernel
theorem dJ4_charAt_5068e_1 : decode cJ4_charAt_5068e 1 = .ok (.iload_n 1, 1) := by decide +kernel
theorem dJ4_charAt_5068e_2 : decode cJ4_charAt_5068e 2 = .ok (.invokespecial 329, 3) := by decide +kernel
theorem dJ4_charAt_5068e_5 : decode cJ4_charAt_5068e 5 = .ok (.ireturn, 1) := by decide +kernel
def fJ0_coder_7d493 (v0 : Option Nat) (σ : HpT) : Option (Int32) := bnP (isK σ v0 12) (fun _ => bnP (gI σ v0 12 1) (fun x1 => bnP (nrB x1) (fun u4 => some x1)))
def fJ0_length_8abf5 (v0 : Option Nat) (σ : HpT) : Option (Int32) := bnP (isK σ v0 12) (fun _ => bnP (gR σ v0 12 0) (fun x1 => bnP (aL σ x1 22) (fun x3 => bnP (fJ0_coder_7d493 v0 σ) (fun x5 => some (x3 >>> (x5 &&& 31))))))
def fJ0_isLatin1_aae02 (v0 : Option Nat) (σ : HpT) : Option (Bool) := bnP (isK σ v0 12) (fun _ => bnP (gI σ v0 12 1) (fun x1 => (if x1 = 0 then some true else some false)))
def fJ3_checkIndex_8e157 (v0 : Int32) (v1 : Int32) (v2 : Option Nat) (σ : HpT) : Option (Except Nat (Int32)) := (if v0 < 0 then none else (if v0 < v1 then some (.ok v0) else none))
def fJ0_checkIndex_df160 (v0 v1 : Int32) (σ : HpT) : Option Unit := bnP (fJ3_checkIndex_8e157 v0 v1 none σ) (fun _ => some ())
def fJ1_charAt_3b067 (v0 : Option Nat) (v1 : Int32) (σ : HpT) : Option (Int32) := bnP (aL σ v0 22) (fun x1 => bnP (fJ0_checkIndex_df160 v1 x1 σ) (fun x3 => bnP (aI σ v0 22 v1) (fun x5 => bnP (nrC ((((x5 &&& 255)).toUInt32 % 65536).toInt32)) (fun u8 => some ((((x5 &&& 255)).toUInt32 % 65536).toInt32)))))
def fJ0_charAt_5068e (v0 : Option Nat) (v1 : Int32) (σ : HpT) : Option (Int32) := bnP (isK σ v0 12) (fun _ => bnP (fJ0_isLatin1_aae02 v0 σ) (fun x1 => (if x1 = true then bnP (gR σ v0 12 0) (fun x5 => bnP (fJ1_charAt_3b067 x5 v1 σ) (fun x7 => bnP (nrC x7) (fun u10 => some x7))) else bnP (gR σ v0 12 0) (fun x3 => none))))
def fJ5_init_d00df (v0 : Option Nat) (v1 : Int32) (σ : HpT) : AT (Unit) := bnP (isK σ v0 11) (fun _ => bnA (nwR 22 v1 σ) (fun x1 s3 => bnP (pR s3 v0 11 0 x1) (fun s10 => bnP (pB s10 v0 11 1 0) (fun s13 => some (.ok (), s13, 0, 0)))))
def fJ4_init_da8c8 (v0 : Option Nat) (σ : HpT) : AT (Unit) := bnP (isK σ v0 11) (fun _ => bnA (fJ5_init_d00df v0 16 σ) (fun x1 s3 => some (.ok (), s3, 0, 0)))
def fJ8_newLength_cabcc (v0 : Int32) (v1 : Int32) (v2 : Int32) (σ : HpT) : Option (Int32) := (if (v0 + (mmx v1 v2)) ≤ 0 then none else (if 2147483639 < (v0 + (mmx v1 v2)) then none else some (v0 + (mmx v1 v2))))
def fJ5_newCapacity_0f7a4 (v0 : Option Nat) (v1 : Int32) (σ : HpT) : AT (Int32) := bnP (isK σ v0 11) (fun _ => bnP (gR σ v0 11 0) (fun x1 => bnP (aL σ x1 22) (fun x3 => bnP (gI σ v0 11 1) (fun x5 => bnP (gI σ v0 11 1) (fun x7 => bnP (fJ8_newLength_cabcc x3 ((v1 <<< (x5 &&& 31)) - x3) (x3 + (2 <<< (x7 &&& 31))) σ) (fun x9 => (if x9 = 2147483647 then none else bnP (gI σ v0 11 1) (fun x11 => some (.ok (x9 >>> (x11 &&& 31)), σ, 0, 0)))))))))
def fJ7_copyOf_9075b (v0 : Option Nat) (v1 : Int32) (σ : HpT) : AT (Option Nat) := bnP (aL σ v0 22) (fun x1 => (if v1 = x1 then none else bnA (nwR 22 v1 σ) (fun x3 s5 => bnP (aL s5 v0 22) (fun x10 => bnP (cpI 22 s5 v0 0 x3 0 (mmn x10 v1)) (fun s14 => some (.ok x3, s14, 0, 0))))))
def fJ5_ensureCapacityInternal_d00df (v0 : Option Nat) (v1 : Int32) (σ : HpT) : AT (Unit) := bnP (isK σ v0 11) (fun _ => bnP (gR σ v0 11 0) (fun x1 => bnP (aL σ x1 22) (fun x3 => bnP (gI σ v0 11 1) (fun x5 => (if (v1 - (x3 >>> (x5 &&& 31))) ≤ 0 then some (.ok (), σ, 0, 0) else bnP (gR σ v0 11 0) (fun x7 => bnA (fJ5_newCapacity_0f7a4 v0 v1 σ) (fun x9 s11 => bnP (gI s11 v0 11 1) (fun x16 => bnA (fJ7_copyOf_9075b x7 (x9 <<< (x16 &&& 31)) s11) (fun x18 s20 => bnP (pR s20 v0 11 0 x18) (fun s27 => some (.ok (), s27, 0, 0)))))))))))
def fJ5_isLatin1_aae02 (v0 : Option Nat) (σ : HpT) : Option (Bool) := bnP (isK σ v0 11) (fun _ => bnP (gI σ v0 11 1) (fun x1 => (if x1 = 0 then some true else some false)))
def fJ5_setLength_d00df (v0 : Option Nat) (v1 : Int32) (σ : HpT) : AT (Unit) := bnP (isK σ v0 11) (fun _ => (if 0 ≤ v1 then bnA (fJ5_ensureCapacityInternal_d00df v0 v1 σ) (fun x1 s3 => bnP (gI s3 v0 11 3) (fun x8 => bnS ((if v1 ≤ x8 then bnP (gI s3 v0 11 3) (fun x15 => (if x15 ≤ v1 then some ((), s3) else bnP (pZ s3 v0 11 2 1) (fun s19 => some ((), s19)))) else bnP (fJ5_isLatin1_aae02 v0 s3) (fun x20 => (if x20 = true then bnP (gR s3 v0 11 0) (fun x26 => bnP (gI s3 v0 11 3) (fun x28 => none)) else bnP (gR s3 v0 11 0) (fun x22 => bnP (gI s3 v0 11 3) (fun x24 => none)))))) (fun j10 s30 => bnP (pI s30 v0 11 3 v1) (fun s33 => some (.ok (), s33, 0, 0))))) else none))
def fJ4_setLength_d00df (v0 : Option Nat) (v1 : Int32) (σ : HpT) : AT (Unit) := bnP (isK σ v0 11) (fun _ => bnA (fJ5_setLength_d00df v0 v1 σ) (fun x1 s3 => some (.ok (), s3, 0, 0)))
def fJ5_length_8abf5 (v0 : Option Nat) (σ : HpT) : Option (Int32) := bnP (isK σ v0 11) (fun _ => bnP (gI σ v0 11 3) (fun x1 => some x1))
def fJ4_length_8abf5 (v0 : Option Nat) (σ : HpT) : Option (Int32) := bnP (isK σ v0 11) (fun _ => bnP (fJ5_length_8abf5 v0 σ) (fun x1 => some x1))
def fJ1_canEncode_fc78d (v0 : Int32) (σ : HpT) : Option (Bool) := (if 255 < v0 then some false else some true)
def fJ5_append_3fe6f (v0 : Option Nat) (v1 : Int32) (σ : HpT) : AT (Option Nat) := bnP (isK σ v0 11) (fun _ => bnP (gI σ v0 11 3) (fun x1 => bnA (fJ5_ensureCapacityInternal_d00df v0 (x1 + 1) σ) (fun x3 s5 => bnP (fJ5_isLatin1_aae02 v0 s5) (fun x10 => (if x10 = true then bnP (fJ1_canEncode_fc78d v1 s5) (fun x26 => (if x26 = true then bnP (gR s5 v0 11 0) (fun x42 => bnP (gI s5 v0 11 3) (fun x44 => bnP (pI s5 v0 11 3 (x44 + 1)) (fun s48 => bnP (sB s48 x42 x44 ((v1).toInt8.toInt32)) (fun s51 => some (.ok v0, s51, 0, 0))))) else bnP (fJ5_isLatin1_aae02 v0 s5) (fun x28 => bnP ((if x28 = true then none else some ())) (fun j30 => bnP (gR s5 v0 11 0) (fun x35 => bnP (gI s5 v0 11 3) (fun x37 => bnP (pI s5 v0 11 3 (x37 + 1)) (fun s41 => none))))))) else bnP (fJ5_isLatin1_aae02 v0 s5) (fun x12 => bnP ((if x12 = true then none else some ())) (fun j14 => bnP (gR s5 v0 11 0) (fun x19 => bnP (gI s5 v0 11 3) (fun x21 => bnP (pI s5 v0 11 3 (x21 + 1)) (fun s25 => none))))))))))
def fJ4_append_cf468 (v0 : Option Nat) (v1 : Int32) (σ : HpT) : AT (Option Nat) := bnP (isK σ v0 11) (fun _ => bnA (fJ5_append_3fe6f v0 v1 σ) (fun x1 s3 => some (.ok v0, s3, 0, 0)))
def fJ6_stringSize_0f7a4_l1 (c0 : Int32) (c1 : Int32) (s15 : HpT) (q6 : Int32 × Int32) : Option ((Int32 × Int32) ⊕ ((Unit) ⊕ (Int32))) := (if 10 ≤ q6.2 then some (.inr (.inl ())) else (if c0 ≤ q6.1 then some (.inl ((10 * q6.1), (q6.2 + 1))) else some (.inr (.inr (q6.2 + c1)))))
def fJ6_stringSize_0f7a4 (v0 : Int32) (σ : HpT) : Option (Int32) := bnP ((if v0 < 0 then some (v0, 1) else some ((-v0), 0))) (fun j1 => bnP (lpP (fJ6_stringSize_0f7a4_l1 j1.1 j1.2 σ) FUEL ((-10), 1)) (fun r7 => match r7 with | .inl y16 => some (10 + j1.2) | .inr v17 => some v17))
def fJ6_getChars_ba4f3_l1 (c2 : Option Nat) (c6 : Int32) (q11 : Int32 × Int32) (s20 : HpT) : Option (((Int32 × Int32) ⊕ (Int32 × Int32)) × HpT) := (if (-100) < q11.1 then some ((.inr (q11.1, q11.2)), s20) else bnP (aI s20 (some (BIG + 200)) 22 (((q11.1 / 100) * 100) - q11.1)) (fun x21 => bnP (sB s20 c2 (q11.2 + (-1)) x21) (fun s25 => bnP (aI s25 (some (BIG + 201)) 22 (((q11.1 / 100) * 100) - q11.1)) (fun x26 => bnP (sB s25 c2 ((q11.2 + (-1)) + (-1)) x26) (fun s30 => some ((.inl ((q11.1 / 100), ((q11.2 + (-1)) + (-1)))), s30))))))
def fJ6_getChars_ba4f3 (v0 : Int32) (v1 : Int32) (v2 : Option Nat) (σ : HpT) : Option (Int32 × HpT) := bnP ((if 0 ≤ v0 then some 0 else some 1)) (fun j1 => bnP ((if j1 = 0 then some (-v0) else some v0)) (fun j6 => bnS (lpS (fJ6_getChars_ba4f3_l1 v2 j1) FUEL (j6, v1) σ) (fun r12 s31 => bnP (aI s31 (some (BIG + 200)) 22 (-r12.1)) (fun x32 => bnP (sB s31 v2 (r12.2 + (-1)) x32) (fun s36 => bnS ((if (-9) ≤ r12.1 then some ((r12.2 + (-1)), s36) else bnP (aI s36 (some (BIG + 201)) 22 (-r12.1)) (fun x42 => bnP (sB s36 v2 ((r12.2 + (-1)) + (-1)) x42) (fun s46 => some (((r12.2 + (-1)) + (-1)), s46))))) (fun j37 s47 => (if j1 = 0 then some (j37, s47) else bnP (sB s47 v2 (j37 + (-1)) 45) (fun s50 => some ((j37 + (-1)), s50)))))))))
def fJ5_append_c97b9 (v0 : Option Nat) (v1 : Int32) (σ : HpT) : AT (Option Nat) := bnP (isK σ v0 11) (fun _ => bnP (gI σ v0 11 3) (fun x1 => bnP (fJ6_stringSize_0f7a4 v1 σ) (fun x3 => bnA (fJ5_ensureCapacityInternal_d00df v0 (x1 + x3) σ) (fun x5 s7 => bnP (fJ5_isLatin1_aae02 v0 s7) (fun x12 => bnS ((if x12 = true then bnP (gR s7 v0 11 0) (fun x21 => bnS (fJ6_getChars_ba4f3 v1 (x1 + x3) x21 s7) (fun x23 s25 => some ((), s25))) else bnP (gR s7 v0 11 0) (fun x19 => none))) (fun j14 s26 => bnP (pI s26 v0 11 3 (x1 + x3)) (fun s29 => some (.ok v0, s29, 0, 0))))))))
def fJ4_append_bf812 (v0 : Option Nat) (v1 : Int32) (σ : HpT) : AT (Option Nat) := bnP (isK σ v0 11) (fun _ => bnA (fJ5_append_c97b9 v0 v1 σ) (fun x1 s3 => some (.ok v0, s3, 0, 0)))
def fJ5_charAt_5068e (v0 : Option Nat) (v1 : Int32) (σ : HpT) : Option (Int32) := bnP (isK σ v0 11) (fun _ => bnP (gI σ v0 11 1) (fun x1 => bnP (gR σ v0 11 0) (fun x3 => bnP (gI σ v0 11 3) (fun x5 => bnP (aL σ x3 22) (fun x7 => bnP (fJ0_checkIndex_df160 v1 (mmn x5 (x7 >>> (x1 &&& 31))) σ) (fun x9 => (if x1 = 0 then bnP (aI σ x3 22 v1) (fun x11 => bnP (nrC ((((x11 &&& 255)).toUInt32 % 65536).toInt32)) (fun u14 => some ((((x11 &&& 255)).toUInt32 % 65536).toInt32))) else none)))))))
def fJ4_charAt_5068e (v0 : Option Nat) (v1 : Int32) (σ : HpT) : Option (Int32) := bnP (isK σ v0 11) (fun _ => bnP (fJ5_charAt_5068e v0 v1 σ) (fun x1 => bnP (nrC x1) (fun u4 => some x1)))
set_option maxRecDepth 100000 in
set_option maxHeartbeats 4000000 in
theorem cJ0_coder_7d493c {l : Launch} {v0 : Option Nat} {σ : HpT} {r : Int32} (h : fJ0_coder_7d493 v0 σ = some r) : IsK σ v0 12 ∧ Ct l yJ0_coder_7d493 cJ0_coder_7d493 1 (some .byte) 0 0 [va_rf v0] σ (.ok (some (.int r))) σ 0 0 := by
  unfold fJ0_coder_7d493 at h
  replace h := bnP_s h
  obtain ⟨u, hk, h⟩ := h
  replace hk := isK_s hk
  refine ⟨hk, ?_⟩
  refine ct_start mi_J0_coder_7d493.1 rfl (al_le (al_1 (rf_cat _) al_n) (Nat.le_of_ble_eq_true rfl)) (ag_1 (rf_cat _) ag_n) (fun Δ Γ B hE hnm => ?_)
  refine g_gstC B sv_RJ0_38 dJ0_coder_7d493_0 ?_
  refine g_if_eq B 13 dJ0_coder_7d493_3 (by decide) (fun hc => ?_) (fun hc => ?_)
  · exact absurd hc (by decide)
  · skip
    refine g_aload_n B 0 dJ0_coder_7d493_6 rfl rfl ?_
    replace h := bnP_s h
    obtain ⟨x1, h2, h⟩ := h
    refine g_getSC B sv_RJ0_15 dJ0_coder_7d493_7 h2 ?_
    refine g_goto B 14 dJ0_coder_7d493_10 (by decide) ?_
    replace h := bnP_s h
    obtain ⟨u4, h3, h⟩ := h
    replace h := Option.some.inj h
    subst h
    exact g_zret B hE (nrB_s h3) (Nat.zero_le _) (Nat.zero_le _) dJ0_coder_7d493_14
set_option maxRecDepth 100000 in
set_option maxHeartbeats 4000000 in
theorem cJ0_length_8abf5c {l : Launch} {v0 : Option Nat} {σ : HpT} {r : Int32} (h : fJ0_length_8abf5 v0 σ = some r) : IsK σ v0 12 ∧ Ct l yJ0_length_8abf5 cJ0_length_8abf5 1 (some .int) 1 20 [va_rf v0] σ (.ok (some (.int r))) σ 0 0 := by
  unfold fJ0_length_8abf5 at h
  replace h := bnP_s h
  obtain ⟨u, hk, h⟩ := h
  replace hk := isK_s hk
  refine ⟨hk, ?_⟩
  refine ct_start mi_J0_length_8abf5.1 rfl (al_le (al_1 (rf_cat _) al_n) (Nat.le_of_ble_eq_true rfl)) (ag_1 (rf_cat _) ag_n) (fun Δ Γ B hE hnm => ?_)
  refine g_aload_n B 0 dJ0_length_8abf5_0 rfl rfl ?_
  replace h := bnP_s h
  obtain ⟨x1, h2, h⟩ := h
  refine g_getSV B sv_RJ0_9 dJ0_length_8abf5_1 h2 ?_
  replace h := bnP_s h
  obtain ⟨x3, h4, h⟩ := h
  refine g_alen B (κ := 22) (by decide) dJ0_length_8abf5_4 h4 ?_
  refine g_aload_n B 0 dJ0_length_8abf5_5 rfl rfl ?_
  replace h := bnP_s h
  obtain ⟨x5, h6, h⟩ := h
  refine g_callQs0 (st := [.int x3]) B (cJ0_coder_7d493c h6) rfl mi_J0_coder_7d493 lk_RJ0_335 ⟨Nat.le_of_ble_eq_true rfl, Nat.le_of_ble_eq_true rfl⟩ rfl rfl (Nat.le_of_ble_eq_true rfl) dJ0_length_8abf5_6 (Nat.zero_le _) (Nat.zero_le _) ?_
  refine g_ishr B dJ0_length_8abf5_9 ?_
  replace h := Option.some.inj h
  subst h
  exact g_iret B hE (Nat.zero_le _) (Nat.zero_le _) dJ0_length_8abf5_10
set_option maxRecDepth 100000 in
set_option maxHeartbeats 4000000 in
theorem cJ0_isLatin1_aae02c {l : Launch} {v0 : Option Nat} {σ : HpT} {r : Bool} (h : fJ0_isLatin1_aae02 v0 σ = some r) : IsK σ v0 12 ∧ Ct l yJ0_isLatin1_aae02 cJ0_isLatin1_aae02 1 (some .boolean) 0 0 [va_rf v0] σ (.ok (some (.int (bI r)))) σ 0 0 := by
  unfold fJ0_isLatin1_aae02 at h
  replace h := bnP_s h
  obtain ⟨u, hk, h⟩ := h
  replace hk := isK_s hk
  refine ⟨hk, ?_⟩
  refine ct_start mi_J0_isLatin1_aae02.1 rfl (al_le (al_1 (rf_cat _) al_n) (Nat.le_of_ble_eq_true rfl)) (ag_1 (rf_cat _) ag_n) (fun Δ Γ B hE hnm => ?_)
  refine g_gstC B sv_RJ0_38 dJ0_isLatin1_aae02_0 ?_
  refine g_if_eq B 17 dJ0_isLatin1_aae02_3 (by decide) (fun hc => ?_) (fun hc => ?_)
  · exact absurd hc (by decide)
  · skip
    refine g_aload_n B 0 dJ0_isLatin1_aae02_6 rfl rfl ?_
    replace h := bnP_s h
    obtain ⟨x1, h2, h⟩ := h
    refine g_getSC B sv_RJ0_15 dJ0_isLatin1_aae02_7 h2 ?_
    refine g_if_ne B 17 dJ0_isLatin1_aae02_10 (by decide) (fun hc => ?_) (fun hc => ?_)
    · replace h := ifn hc h
      refine g_iconst (v := 0) B dJ0_isLatin1_aae02_17 (by decide) ?_
      replace h := Option.some.inj h
      subst h
      exact g_zret B hE rfl (Nat.zero_le _) (Nat.zero_le _) dJ0_isLatin1_aae02_18
    · replace h := ifp hc h
      refine g_iconst (v := 1) B dJ0_isLatin1_aae02_13 (by decide) ?_
      refine g_goto B 18 dJ0_isLatin1_aae02_14 (by decide) ?_
      replace h := Option.some.inj h
      subst h
      exact g_zret B hE rfl (Nat.zero_le _) (Nat.zero_le _) dJ0_isLatin1_aae02_18
set_option maxRecDepth 100000 in
set_option maxHeartbeats 4000000 in
theorem cJ3_checkIndex_8e157c {l : Launch} {v0 : Int32} {v1 : Int32} {v2 : Option Nat} {σ : HpT} {o : Except Nat (Int32)} (h : fJ3_checkIndex_8e157 v0 v1 v2 σ = some o) : Ct l yJ3_checkIndex_8e157 cJ3_checkIndex_8e157 3 (some .int) 0 0 [.int v0, .int v1, va_rf v2] σ (oI o) σ (xc o) (xs o) := by
  unfold fJ3_checkIndex_8e157 at h
  refine ct_start mi_J3_checkIndex_8e157.1 rfl (al_le (al_1 rfl (al_1 rfl (al_1 (rf_cat _) al_n))) (Nat.le_of_ble_eq_true rfl)) (ag_1 rfl (ag_1 rfl (ag_1 (rf_cat _) ag_n))) (fun Δ Γ B hE hnm => ?_)
  refine g_iload_n B 0 dJ3_checkIndex_8e157_0 rfl rfl ?_
  refine g_if_lt B 9 dJ3_checkIndex_8e157_1 (by decide) (fun hc => ?_) (fun hc => ?_)
  · replace h := ifp hc h
    refine g_aload_n B 2 dJ3_checkIndex_8e157_9 rfl rfl ?_
    refine g_iload_n B 0 dJ3_checkIndex_8e157_10 rfl rfl ?_
    refine g_iload_n B 1 dJ3_checkIndex_8e157_11 rfl rfl ?_
    cases h
  · replace h := ifn hc h
    refine g_iload_n B 0 dJ3_checkIndex_8e157_4 rfl rfl ?_
    refine g_iload_n B 1 dJ3_checkIndex_8e157_5 rfl rfl ?_
    refine g_icmp_lt B 16 dJ3_checkIndex_8e157_6 (by decide) (fun hc => ?_) (fun hc => ?_)
    · replace h := ifp hc h
      refine g_iload_n B 0 dJ3_checkIndex_8e157_16 rfl rfl ?_
      replace h := Option.some.inj h
      subst h
      exact g_iret B hE (Nat.zero_le _) (Nat.zero_le _) dJ3_checkIndex_8e157_17
    · replace h := ifn hc h
      refine g_aload_n B 2 dJ3_checkIndex_8e157_9 rfl rfl ?_
      refine g_iload_n B 0 dJ3_checkIndex_8e157_10 rfl rfl ?_
      refine g_iload_n B 1 dJ3_checkIndex_8e157_11 rfl rfl ?_
      cases h
theorem fJ3_any {v0 v1 : Int32} {σ : HpT} (r : Option Nat) : fJ3_checkIndex_8e157 v0 v1 none σ = fJ3_checkIndex_8e157 v0 v1 r σ := by
  unfold fJ3_checkIndex_8e157
  rfl
set_option maxRecDepth 100000 in
set_option maxHeartbeats 4000000 in
theorem cJ0_checkIndex_df160c {l : Launch} {v0 v1 : Int32} {σ : HpT} {r : Unit} (h : fJ0_checkIndex_df160 v0 v1 σ = some r) : Ct l yJ0_checkIndex_df160 cJ0_checkIndex_df160 2 none 1 22 [.int v0, .int v1] σ (.ok none) σ 0 0 := by
  unfold fJ0_checkIndex_df160 at h
  obtain ⟨x1, h1, h⟩ := bnP_s h
  refine ct_start mi_J0_checkIndex_df160.1 rfl (al_le (al_1 rfl (al_1 rfl al_n)) (Nat.le_of_ble_eq_true rfl)) (ag_1 rfl (ag_1 rfl ag_n)) (fun Δ Γ B hE hnm => ?_)
  refine g_iload_n B 0 dJ0_checkIndex_df160_0 rfl rfl ?_
  refine g_iload_n B 1 dJ0_checkIndex_df160_1 rfl rfl ?_
  refine g_gstF B sv_RJ0_1053 dJ0_checkIndex_df160_2 (fun r9 => ?_)
  rw [fJ3_any r9] at h1
  refine g_callSs0 (st := []) B (cJ3_checkIndex_8e157c h1) mi_J3_checkIndex_8e157 lk_RJ0_1059 ⟨Nat.le_of_ble_eq_true rfl, Nat.le_of_ble_eq_true rfl⟩ rfl rfl (Nat.le_of_ble_eq_true rfl) dJ0_checkIndex_df160_5 (Nat.zero_le _) (Nat.zero_le _) ?_
  refine g_pop B dJ0_checkIndex_df160_8 rfl ?_
  exact g_vret B hE (Nat.zero_le _) (Nat.zero_le _) dJ0_checkIndex_df160_9
set_option maxRecDepth 100000 in
set_option maxHeartbeats 4000000 in
theorem cJ1_charAt_3b067c {l : Launch} {v0 : Option Nat} {v1 : Int32} {σ : HpT} {r : Int32} (h : fJ1_charAt_3b067 v0 v1 σ = some r) : Ct l yJ1_charAt_3b067 cJ1_charAt_3b067 2 (some .char) 2 43 [va_rf v0, .int v1] σ (.ok (some (.int r))) σ 0 0 := by
  unfold fJ1_charAt_3b067 at h
  refine ct_start mi_J1_charAt_3b067.1 rfl (al_le (al_1 (rf_cat _) (al_1 rfl al_n)) (Nat.le_of_ble_eq_true rfl)) (ag_1 (rf_cat _) (ag_1 rfl ag_n)) (fun Δ Γ B hE hnm => ?_)
  refine g_iload_n B 1 dJ1_charAt_3b067_0 rfl rfl ?_
  refine g_aload_n B 0 dJ1_charAt_3b067_1 rfl rfl ?_
  replace h := bnP_s h
  obtain ⟨x1, h2, h⟩ := h
  refine g_alen B (κ := 22) (by decide) dJ1_charAt_3b067_2 h2 ?_
  replace h := bnP_s h
  obtain ⟨x3, h4, h⟩ := h
  refine g_callSv0 (st := []) B (cJ0_checkIndex_df160c h4) mi_J0_checkIndex_df160 lk_RJ1_9 ⟨Nat.le_of_ble_eq_true rfl, Nat.le_of_ble_eq_true rfl⟩ rfl rfl (Nat.le_of_ble_eq_true rfl) dJ1_charAt_3b067_3 (Nat.zero_le _) (Nat.zero_le _) ?_
  refine g_aload_n B 0 dJ1_charAt_3b067_6 rfl rfl ?_
  refine g_iload_n B 1 dJ1_charAt_3b067_7 rfl rfl ?_
  replace h := bnP_s h
  obtain ⟨x5, h6, h⟩ := h
  refine g_bald B dJ1_charAt_3b067_8 h6 ?_
  refine g_sipush (v := 255) B dJ1_charAt_3b067_9 (by decide) ?_
  refine g_iand B dJ1_charAt_3b067_12 ?_
  refine g_i2c B dJ1_charAt_3b067_13 ?_
  replace h := bnP_s h
  obtain ⟨u8, h7, h⟩ := h
  replace h := Option.some.inj h
  subst h
  exact g_zret B hE (nrC_s h7) (Nat.zero_le _) (Nat.zero_le _) dJ1_charAt_3b067_14
set_option maxRecDepth 100000 in
set_option maxHeartbeats 4000000 in
theorem cJ0_charAt_5068ec {l : Launch} {v0 : Option Nat} {v1 : Int32} {σ : HpT} {r : Int32} (h : fJ0_charAt_5068e v0 v1 σ = some r) : IsK σ v0 12 ∧ Ct l yJ0_charAt_5068e cJ0_charAt_5068e 2 (some .char) 3 64 [va_rf v0, .int v1] σ (.ok (some (.int r))) σ 0 0 := by
  unfold fJ0_charAt_5068e at h
  replace h := bnP_s h
  obtain ⟨u, hk, h⟩ := h
  replace hk := isK_s hk
  refine ⟨hk, ?_⟩
  refine ct_start mi_J0_charAt_5068e.1 rfl (al_le (al_1 (rf_cat _) (al_1 rfl al_n)) (Nat.le_of_ble_eq_true rfl)) (ag_1 (rf_cat _) (ag_1 rfl ag_n)) (fun Δ Γ B hE hnm => ?_)
  refine g_aload_n B 0 dJ0_charAt_5068e_0 rfl rfl ?_
  replace h := bnP_s h
  obtain ⟨x1, h2, h⟩ := h
  refine g_callQs0 (st := []) B (cJ0_isLatin1_aae02c h2) rfl mi_J0_isLatin1_aae02 lk_RJ0_492 ⟨Nat.le_of_ble_eq_true rfl, Nat.le_of_ble_eq_true rfl⟩ rfl rfl (Nat.le_of_ble_eq_true rfl) dJ0_charAt_5068e_1 (Nat.zero_le _) (Nat.zero_le _) ?_
  refine g_if_eq B 16 dJ0_charAt_5068e_4 (by decide) (fun hc => ?_) (fun hc => ?_)
  · replace h := ifn (bI0 hc) h
    refine g_aload_n B 0 dJ0_charAt_5068e_16 rfl rfl ?_
    replace h := bnP_s h
    obtain ⟨x3, h4, h⟩ := h
    refine g_getSV B sv_RJ0_9 dJ0_charAt_5068e_17 h4 ?_
    refine g_iload_n B 1 dJ0_charAt_5068e_20 rfl rfl ?_
    cases h
  · replace h := ifp (bI1 hc) h
    refine g_aload_n B 0 dJ0_charAt_5068e_7 rfl rfl ?_
    replace h := bnP_s h
    obtain ⟨x5, h6, h⟩ := h
    refine g_getSV B sv_RJ0_9 dJ0_charAt_5068e_8 h6 ?_
    refine g_iload_n B 1 dJ0_charAt_5068e_11 rfl rfl ?_
    replace h := bnP_s h
    obtain ⟨x7, h8, h⟩ := h
    refine g_callSs0 (st := []) B (cJ1_charAt_3b067c h8) mi_J1_charAt_3b067 lk_RJ0_495 ⟨Nat.le_of_ble_eq_true rfl, Nat.le_of_ble_eq_true rfl⟩ rfl rfl (Nat.le_of_ble_eq_true rfl) dJ0_charAt_5068e_12 (Nat.zero_le _) (Nat.zero_le _) ?_
    replace h := bnP_s h
    obtain ⟨u10, h9, h⟩ := h
    replace h := Option.some.inj h
    subst h
    exact g_zret B hE (nrC_s h9) (Nat.zero_le _) (Nat.zero_le _) dJ0_charAt_5068e_15
set_option maxRecDepth 100000 in
set_option maxHeartbeats 4000000 in
theorem cJ5_init_d00dfc {l : Launch} {v0 : Option Nat} {v1 : Int32} {σ : HpT} {o : Except Nat (Unit)} {σ' : HpT} {a b : Nat} (h : fJ5_init_d00df v0 v1 σ = some (o, σ', a, b)) : IsK σ v0 11 ∧ Ct l yJ5_init_d00df cJ5_init_d00df 2 none 1 21 [va_rf v0, .int v1] σ (oU o) σ' a b := by
  unfold fJ5_init_d00df at h
  replace h := bnP_s h
  obtain ⟨u, hk, h⟩ := h
  replace hk := isK_s hk
  refine ⟨hk, ?_⟩
  refine ct_start mi_J5_init_d00df.1 rfl (al_le (al_1 (rf_cat _) (al_1 rfl al_n)) (Nat.le_of_ble_eq_true rfl)) (ag_1 (rf_cat _) (ag_1 rfl ag_n)) (fun Δ Γ B hE hnm => ?_)
  have hka : 0 + a = a := Nat.zero_add a
  have hkb : 0 + b = b := Nat.zero_add b
  have hla : a ≤ a := Nat.le_refl a
  have hlb : b ≤ b := Nat.le_refl b
  refine g_aload_n B 0 dJ5_init_d00df_0 rfl rfl ?_
  refine g_objInit9 B hk obj_RJ5_3 (by decide) (Nat.le_of_ble_eq_true rfl) dJ5_init_d00df_1 ?_
  refine g_gstC B sv_RJ5_18 dJ5_init_d00df_4 ?_
  refine g_if_eq B 25 dJ5_init_d00df_7 (by decide) (fun hc => ?_) (fun hc => ?_)
  · exact absurd hc (by decide)
  · skip
    refine g_aload_n B 0 dJ5_init_d00df_10 rfl rfl ?_
    refine g_iload_n B 1 dJ5_init_d00df_11 rfl rfl ?_
    replace h := bnA_s h
    rcases h with ⟨e9, h2, e8⟩ | ⟨x1, s3, a4, b5, a6, b7, h2, h, ea, eb⟩
    · exact absurd h2 (by simp [nwA, nwR]; try (split <;> simp))
    · subst ea; subst eb
      have hka := bk hka
      have hkb := bk hkb
      refine g_newarr B (Or.inr (Or.inr (Or.inl ⟨rfl, rfl⟩))) na_byte dJ5_init_d00df_12 h2 (Nat.le_trans (bm hka) hla) (Nat.le_trans (bm hkb) hlb) ?_
      replace h := bnP_s h
      obtain ⟨s10, h9, h⟩ := h
      refine g_putR B fl_RJ5_15 (by decide) (Or.inr ⟨_, rfl⟩) dJ5_init_d00df_14 h9 ?_
      refine g_aload_n B 0 dJ5_init_d00df_17 rfl rfl ?_
      refine g_iconst (v := 0) B dJ5_init_d00df_18 (by decide) ?_
      replace h := bnP_s h
      obtain ⟨s13, h12, h⟩ := h
      refine g_putB B fl_RJ5_22 (by decide) dJ5_init_d00df_19 h12 ?_
      refine g_goto B 38 dJ5_init_d00df_22 (by decide) ?_
      obtain ⟨w1, w2, w3, w4⟩ := inA h
      clear h
      subst w1
      subst w2
      subst w3
      subst w4
      exact g_vret B hE (Nat.le_trans (Nat.le_of_eq hka) hla) (Nat.le_trans (Nat.le_of_eq hkb) hlb) dJ5_init_d00df_38
set_option maxRecDepth 100000 in
set_option maxHeartbeats 4000000 in
theorem cJ4_init_da8c8c {l : Launch} {v0 : Option Nat} {σ : HpT} {o : Except Nat (Unit)} {σ' : HpT} {a b : Nat} (h : fJ4_init_da8c8 v0 σ = some (o, σ', a, b)) : IsK σ v0 11 ∧ Ct l yJ4_init_da8c8 cJ4_init_da8c8 1 none 2 42 [va_rf v0] σ (oU o) σ' a b := by
  unfold fJ4_init_da8c8 at h
  replace h := bnP_s h
  obtain ⟨u, hk, h⟩ := h
  replace hk := isK_s hk
  refine ⟨hk, ?_⟩
  refine ct_start mi_J4_init_da8c8.1 rfl (al_le (al_1 (rf_cat _) al_n) (Nat.le_of_ble_eq_true rfl)) (ag_1 (rf_cat _) ag_n) (fun Δ Γ B hE hnm => ?_)
  have hka : 0 + a = a := Nat.zero_add a
  have hkb : 0 + b = b := Nat.zero_add b
  have hla : a ≤ a := Nat.le_refl a
  have hlb : b ≤ b := Nat.le_refl b
  refine g_aload_n B 0 dJ4_init_da8c8_0 rfl rfl ?_
  refine g_bipush (v := 16) B dJ4_init_da8c8_1 (by decide) ?_
  replace h := bnA_s h
  rcases h with ⟨e9, h2, e8⟩ | ⟨x1, s3, a4, b5, a6, b7, h2, h, ea, eb⟩
  · subst e8
    exact g_callIx (st := []) B (cJ5_init_d00dfc h2) mi_J5_init_d00df lk_RJ4_1 ⟨Nat.le_of_ble_eq_true rfl, Nat.le_of_ble_eq_true rfl⟩ rfl rfl (Nat.le_of_ble_eq_true rfl) dJ4_init_da8c8_3 (Nat.le_trans (Nat.le_of_eq hka) hla) (Nat.le_trans (Nat.le_of_eq hkb) hlb) hE
  · subst ea; subst eb
    have hka := bk hka
    have hkb := bk hkb
    refine g_callIvA (st := []) B (cJ5_init_d00dfc h2) mi_J5_init_d00df lk_RJ4_1 ⟨Nat.le_of_ble_eq_true rfl, Nat.le_of_ble_eq_true rfl⟩ rfl rfl (Nat.le_of_ble_eq_true rfl) dJ4_init_da8c8_3 (Nat.le_trans (bm hka) hla) (Nat.le_trans (bm hkb) hlb) ?_
    obtain ⟨w1, w2, w3, w4⟩ := inA h
    clear h
    subst w1
    subst w2
    subst w3
    subst w4
    exact g_vret B hE (Nat.le_trans (Nat.le_of_eq hka) hla) (Nat.le_trans (Nat.le_of_eq hkb) hlb) dJ4_init_da8c8_6
set_option maxRecDepth 100000 in
set_option maxHeartbeats 4000000 in
theorem cJ8_newLength_cabccc {l : Launch} {v0 : Int32} {v1 : Int32} {v2 : Int32} {σ : HpT} {r : Int32} (h : fJ8_newLength_cabcc v0 v1 v2 σ = some r) : Ct l yJ8_newLength_cabcc cJ8_newLength_cabcc 4 (some .int) 1 21 [.int v0, .int v1, .int v2] σ (.ok (some (.int r))) σ 0 0 := by
  unfold fJ8_newLength_cabcc at h
  refine ct_start mi_J8_newLength_cabcc.1 rfl (al_le (al_1 rfl (al_1 rfl (al_1 rfl al_n))) (Nat.le_of_ble_eq_true rfl)) (ag_1 rfl (ag_1 rfl (ag_1 rfl ag_n))) (fun Δ Γ B hE hnm => ?_)
  refine g_iload_n B 0 dJ8_newLength_cabcc_0 rfl rfl ?_
  refine g_iload_n B 1 dJ8_newLength_cabcc_1 rfl rfl ?_
  refine g_iload_n B 2 dJ8_newLength_cabcc_2 rfl rfl ?_
  refine g_mmax B mt_RJ8_194 (by decide) (Nat.le_of_ble_eq_true rfl) dJ8_newLength_cabcc_3 (Nat.zero_le _) (Nat.zero_le _) ?_
  refine g_iadd B dJ8_newLength_cabcc_6 ?_
  refine g_istore_n B dJ8_newLength_cabcc_7 rfl (Nat.le_of_ble_eq_true rfl) (s1_c (f1_k rfl (f1_k rfl (f1_1 rfl rfl f1_n)))) ?_
  refine g_iconst (v := 0) B dJ8_newLength_cabcc_8 (by decide) ?_
  refine g_iload_n B 0 dJ8_newLength_cabcc_9 rfl rfl ?_
  refine g_icmp_ge B 21 dJ8_newLength_cabcc_10 (by decide) (fun hc => ?_) (fun hc => ?_)
  · replace h := ifp hc h
    refine g_iload_n B 1 dJ8_newLength_cabcc_21 rfl rfl ?_
    refine g_iload_n B 2 dJ8_newLength_cabcc_22 rfl rfl ?_
    cases h
  · replace h := ifn hc h
    refine g_iload_n B 0 dJ8_newLength_cabcc_13 rfl rfl ?_
    refine g_ldc B cs_RJ8_200 dJ8_newLength_cabcc_14 ?_
    refine g_icmp_gt B 21 dJ8_newLength_cabcc_16 (by decide) (fun hc => ?_) (fun hc => ?_)
    · replace h := ifp hc h
      refine g_iload_n B 1 dJ8_newLength_cabcc_21 rfl rfl ?_
      refine g_iload_n B 2 dJ8_newLength_cabcc_22 rfl rfl ?_
      cases h
    · replace h := ifn hc h
      refine g_iload_n B 0 dJ8_newLength_cabcc_19 rfl rfl ?_
      replace h := Option.some.inj h
      subst h
      exact g_iret B hE (Nat.zero_le _) (Nat.zero_le _) dJ8_newLength_cabcc_20
set_option maxRecDepth 100000 in
set_option maxHeartbeats 4000000 in
theorem cJ5_newCapacity_0f7a4c {l : Launch} {v0 : Option Nat} {v1 : Int32} {σ : HpT} {o : Except Nat (Int32)} {σ' : HpT} {a b : Nat} (h : fJ5_newCapacity_0f7a4 v0 v1 σ = some (o, σ', a, b)) : IsK σ v0 11 ∧ Ct l yJ5_newCapacity_0f7a4 cJ5_newCapacity_0f7a4 6 (some .int) 2 44 [va_rf v0, .int v1] σ (oI o) σ' a b := by
  unfold fJ5_newCapacity_0f7a4 at h
  replace h := bnP_s h
  obtain ⟨u, hk, h⟩ := h
  replace hk := isK_s hk
  refine ⟨hk, ?_⟩
  refine ct_start mi_J5_newCapacity_0f7a4.1 rfl (al_le (al_1 (rf_cat _) (al_1 rfl al_n)) (Nat.le_of_ble_eq_true rfl)) (ag_1 (rf_cat _) (ag_1 rfl ag_n)) (fun Δ Γ B hE hnm => ?_)
  have hka : 0 + a = a := Nat.zero_add a
  have hkb : 0 + b = b := Nat.zero_add b
  have hla : a ≤ a := Nat.le_refl a
  have hlb : b ≤ b := Nat.le_refl b
  refine g_aload_n B 0 dJ5_newCapacity_0f7a4_0 rfl rfl ?_
  replace h := bnP_s h
  obtain ⟨x1, h2, h⟩ := h
  refine g_getR B fl_RJ5_15 (by decide) dJ5_newCapacity_0f7a4_1 h2 ?_
  replace h := bnP_s h
  obtain ⟨x3, h4, h⟩ := h
  refine g_alen B (κ := 22) (by decide) dJ5_newCapacity_0f7a4_4 h4 ?_
  refine g_istore_n B dJ5_newCapacity_0f7a4_5 rfl (Nat.le_of_ble_eq_true rfl) (s1_c (f1_k rfl (f1_1 rfl rfl f1_n))) ?_
  refine g_iload_n B 2 dJ5_newCapacity_0f7a4_6 rfl rfl ?_
  refine g_aload_n B 1 dJ5_newCapacity_0f7a4_7 rfl rfl ?_
  replace h := bnP_s h
  obtain ⟨x5, h6, h⟩ := h
  refine g_getI B fl_RJ5_22 (by decide) dJ5_newCapacity_0f7a4_8 h6 ?_
  refine g_ishl B dJ5_newCapacity_0f7a4_11 ?_
  refine g_istore_n B dJ5_newCapacity_0f7a4_12 rfl (Nat.le_of_ble_eq_true rfl) (s1_c (f1_1 rfl rfl (f1_k rfl (f1_k rfl f1_n)))) ?_
  refine g_iload_n B 0 dJ5_newCapacity_0f7a4_13 rfl rfl ?_
  refine g_iload_n B 1 dJ5_newCapacity_0f7a4_14 rfl rfl ?_
  refine g_isub B dJ5_newCapacity_0f7a4_15 ?_
  refine g_istore B dJ5_newCapacity_0f7a4_16 (Nat.le_of_ble_eq_true rfl) (s1_c (f1_1 rfl rfl (f1_k rfl (f1_k rfl (f1_k rfl f1_n))))) ?_
  refine g_iload_n B 2 dJ5_newCapacity_0f7a4_18 rfl rfl ?_
  refine g_iload B 0 dJ5_newCapacity_0f7a4_19 rfl ?_
  refine g_iload_n B 2 dJ5_newCapacity_0f7a4_21 rfl rfl ?_
  refine g_iconst (v := 2) B dJ5_newCapacity_0f7a4_22 (by decide) ?_
  refine g_aload_n B 3 dJ5_newCapacity_0f7a4_23 rfl rfl ?_
  replace h := bnP_s h
  obtain ⟨x7, h8, h⟩ := h
  refine g_getI B fl_RJ5_22 (by decide) dJ5_newCapacity_0f7a4_24 h8 ?_
  refine g_ishl B dJ5_newCapacity_0f7a4_27 ?_
  refine g_iadd B dJ5_newCapacity_0f7a4_28 ?_
  replace h := bnP_s h
  obtain ⟨x9, h10, h⟩ := h
  refine g_callSs0 (st := []) B (cJ8_newLength_cabccc h10) mi_J8_newLength_cabcc lk_RJ5_114 ⟨Nat.le_of_ble_eq_true rfl, Nat.le_of_ble_eq_true rfl⟩ rfl rfl (Nat.le_of_ble_eq_true rfl) dJ5_newCapacity_0f7a4_29 (Nat.le_trans (bm hka) hla) (Nat.le_trans (bm hkb) hlb) ?_
  refine g_istore B dJ5_newCapacity_0f7a4_32 (Nat.le_of_ble_eq_true rfl) (s1_c (f1_1 rfl rfl (f1_k rfl (f1_k rfl (f1_k rfl (f1_k rfl f1_n)))))) ?_
  refine g_iload B 0 dJ5_newCapacity_0f7a4_34 rfl ?_
  refine g_ldc B cs_RJ5_39 dJ5_newCapacity_0f7a4_36 ?_
  refine g_icmp_ne B 51 dJ5_newCapacity_0f7a4_38 (by decide) (fun hc => ?_) (fun hc => ?_)
  · replace h := ifn hc h
    refine g_iload B 0 dJ5_newCapacity_0f7a4_51 rfl ?_
    refine g_aload_n B 4 dJ5_newCapacity_0f7a4_53 rfl rfl ?_
    replace h := bnP_s h
    obtain ⟨x11, h12, h⟩ := h
    refine g_getI B fl_RJ5_22 (by decide) dJ5_newCapacity_0f7a4_54 h12 ?_
    refine g_ishr B dJ5_newCapacity_0f7a4_57 ?_
    obtain ⟨w1, w2, w3, w4⟩ := inA h
    clear h
    subst w1
    subst w2
    subst w3
    subst w4
    exact g_iret B hE (Nat.le_trans (Nat.le_of_eq hka) hla) (Nat.le_trans (Nat.le_of_eq hkb) hlb) dJ5_newCapacity_0f7a4_58
  · replace h := ifp hc h
    cases h
set_option maxRecDepth 100000 in
set_option maxHeartbeats 4000000 in
theorem cJ7_copyOf_9075bc {l : Launch} {v0 : Option Nat} {v1 : Int32} {σ : HpT} {o : Except Nat (Option Nat)} {σ' : HpT} {a b : Nat} (h : fJ7_copyOf_9075b v0 v1 σ = some (o, σ', a, b)) : Ct l yJ7_copyOf_9075b cJ7_copyOf_9075b 3 (some (.array .byte)) 1 60 [va_rf v0, .int v1] σ (oA o) σ' a b := by
  unfold fJ7_copyOf_9075b at h
  refine ct_start mi_J7_copyOf_9075b.1 rfl (al_le (al_1 (rf_cat _) (al_1 rfl al_n)) (Nat.le_of_ble_eq_true rfl)) (ag_1 (rf_cat _) (ag_1 rfl ag_n)) (fun Δ Γ B hE hnm => ?_)
  have hka : 0 + a = a := Nat.zero_add a
  have hkb : 0 + b = b := Nat.zero_add b
  have hla : a ≤ a := Nat.le_refl a
  have hlb : b ≤ b := Nat.le_refl b
  refine g_iload_n B 1 dJ7_copyOf_9075b_0 rfl rfl ?_
  refine g_aload_n B 0 dJ7_copyOf_9075b_1 rfl rfl ?_
  replace h := bnP_s h
  obtain ⟨x1, h2, h⟩ := h
  refine g_alen B (κ := 22) (by decide) dJ7_copyOf_9075b_2 h2 ?_
  refine g_icmp_ne B 14 dJ7_copyOf_9075b_3 (by decide) (fun hc => ?_) (fun hc => ?_)
  · replace h := ifn hc h
    refine g_iload_n B 1 dJ7_copyOf_9075b_14 rfl rfl ?_
    replace h := bnA_s h
    rcases h with ⟨e9, h4, e8⟩ | ⟨x3, s5, a6, b7, a8, b9, h4, h, ea, eb⟩
    · exact absurd h4 (by simp [nwA, nwR]; try (split <;> simp))
    · subst ea; subst eb
      have hka := bk hka
      have hkb := bk hkb
      refine g_newarr B (Or.inr (Or.inr (Or.inl ⟨rfl, rfl⟩))) na_byte dJ7_copyOf_9075b_15 h4 (Nat.le_trans (bm hka) hla) (Nat.le_trans (bm hkb) hlb) ?_
      refine g_astore_n B dJ7_copyOf_9075b_17 rfl (Nat.le_of_ble_eq_true rfl) (s1_c (f1_k rfl (f1_1 rfl rfl f1_n))) ?_
      refine g_aload_n B 1 dJ7_copyOf_9075b_18 rfl rfl ?_
      refine g_iconst (v := 0) B dJ7_copyOf_9075b_19 (by decide) ?_
      refine g_aload_n B 0 dJ7_copyOf_9075b_20 rfl rfl ?_
      refine g_iconst (v := 0) B dJ7_copyOf_9075b_21 (by decide) ?_
      refine g_aload_n B 1 dJ7_copyOf_9075b_22 rfl rfl ?_
      replace h := bnP_s h
      obtain ⟨x10, h11, h⟩ := h
      refine g_alen B (κ := 22) (by decide) dJ7_copyOf_9075b_23 h11 ?_
      refine g_iload_n B 2 dJ7_copyOf_9075b_24 rfl rfl ?_
      refine g_mmin B mt_RJ7_304 (by decide) (Nat.le_of_ble_eq_true rfl) dJ7_copyOf_9075b_25 (Nat.le_trans (bm hka) hla) (Nat.le_trans (bm hkb) hlb) ?_
      replace h := bnP_s h
      obtain ⟨s14, h13, h⟩ := h
      refine g_cpI B (κ := 22) (by decide) cp_RJ7_150 (by decide) (Nat.le_of_ble_eq_true rfl) dJ7_copyOf_9075b_28 h13 ?_
      refine g_aload_n B 0 dJ7_copyOf_9075b_31 rfl rfl ?_
      obtain ⟨w1, w2, w3, w4⟩ := inA h
      clear h
      subst w1
      subst w2
      subst w3
      subst w4
      exact g_aret B hE (Or.inr ⟨_, rfl⟩) (Nat.le_trans (Nat.le_of_eq hka) hla) (Nat.le_trans (Nat.le_of_eq hkb) hlb) dJ7_copyOf_9075b_32
  · replace h := ifp hc h
    refine g_aload_n B 0 dJ7_copyOf_9075b_6 rfl rfl ?_
    cases h
set_option maxRecDepth 100000 in
set_option maxHeartbeats 4000000 in
theorem cJ5_ensureCapacityInternal_d00dfc {l : Launch} {v0 : Option Nat} {v1 : Int32} {σ : HpT} {o : Except Nat (Unit)} {σ' : HpT} {a b : Nat} (h : fJ5_ensureCapacityInternal_d00df v0 v1 σ = some (o, σ', a, b)) : IsK σ v0 11 ∧ Ct l yJ5_ensureCapacityInternal_d00df cJ5_ensureCapacityInternal_d00df 3 none 3 82 [va_rf v0, .int v1] σ (oU o) σ' a b := by
  unfold fJ5_ensureCapacityInternal_d00df at h
  replace h := bnP_s h
  obtain ⟨u, hk, h⟩ := h
  replace hk := isK_s hk
  refine ⟨hk, ?_⟩
  refine ct_start mi_J5_ensureCapacityInternal_d00df.1 rfl (al_le (al_1 (rf_cat _) (al_1 rfl al_n)) (Nat.le_of_ble_eq_true rfl)) (ag_1 (rf_cat _) (ag_1 rfl ag_n)) (fun Δ Γ B hE hnm => ?_)
  have hka : 0 + a = a := Nat.zero_add a
  have hkb : 0 + b = b := Nat.zero_add b
  have hla : a ≤ a := Nat.le_refl a
  have hlb : b ≤ b := Nat.le_refl b
  refine g_aload_n B 0 dJ5_ensureCapacityInternal_d00df_0 rfl rfl ?_
  replace h := bnP_s h
  obtain ⟨x1, h2, h⟩ := h
  refine g_getR B fl_RJ5_15 (by decide) dJ5_ensureCapacityInternal_d00df_1 h2 ?_
  replace h := bnP_s h
  obtain ⟨x3, h4, h⟩ := h
  refine g_alen B (κ := 22) (by decide) dJ5_ensureCapacityInternal_d00df_4 h4 ?_
  refine g_aload_n B 0 dJ5_ensureCapacityInternal_d00df_5 rfl rfl ?_
  replace h := bnP_s h
  obtain ⟨x5, h6, h⟩ := h
  refine g_getI B fl_RJ5_22 (by decide) dJ5_ensureCapacityInternal_d00df_6 h6 ?_
  refine g_ishr B dJ5_ensureCapacityInternal_d00df_9 ?_
  refine g_istore_n B dJ5_ensureCapacityInternal_d00df_10 rfl (Nat.le_of_ble_eq_true rfl) (s1_c (f1_k rfl (f1_1 rfl rfl f1_n))) ?_
  refine g_iload_n B 2 dJ5_ensureCapacityInternal_d00df_11 rfl rfl ?_
  refine g_iload_n B 0 dJ5_ensureCapacityInternal_d00df_12 rfl rfl ?_
  refine g_isub B dJ5_ensureCapacityInternal_d00df_13 ?_
  refine g_if_le B 38 dJ5_ensureCapacityInternal_d00df_14 (by decide) (fun hc => ?_) (fun hc => ?_)
  · replace h := ifp hc h
    obtain ⟨w1, w2, w3, w4⟩ := inA h
    clear h
    subst w1
    subst w2
    subst w3
    subst w4
    exact g_vret B hE (Nat.le_trans (Nat.le_of_eq hka) hla) (Nat.le_trans (Nat.le_of_eq hkb) hlb) dJ5_ensureCapacityInternal_d00df_38
  · replace h := ifn hc h
    refine g_aload_n B 1 dJ5_ensureCapacityInternal_d00df_17 rfl rfl ?_
    refine g_aload_n B 1 dJ5_ensureCapacityInternal_d00df_18 rfl rfl ?_
    replace h := bnP_s h
    obtain ⟨x7, h8, h⟩ := h
    refine g_getR B fl_RJ5_15 (by decide) dJ5_ensureCapacityInternal_d00df_19 h8 ?_
    refine g_aload_n B 1 dJ5_ensureCapacityInternal_d00df_22 rfl rfl ?_
    refine g_iload_n B 2 dJ5_ensureCapacityInternal_d00df_23 rfl rfl ?_
    replace h := bnA_s h
    rcases h with ⟨e9, h10, e8⟩ | ⟨x9, s11, a12, b13, a14, b15, h10, h, ea, eb⟩
    · subst e8
      exact g_callVcx (st := [va_rf x7, va_rf v0]) B (cJ5_newCapacity_0f7a4c h10) (Nat.le_of_ble_eq_true rfl) rfl mi_J5_newCapacity_0f7a4 lk_RJ5_104 ⟨Nat.le_of_ble_eq_true rfl, Nat.le_of_ble_eq_true rfl⟩ rfl rfl (Nat.le_of_ble_eq_true rfl) dJ5_ensureCapacityInternal_d00df_24 (Nat.le_trans (Nat.le_of_eq hka) hla) (Nat.le_trans (Nat.le_of_eq hkb) hlb) hE
    · subst ea; subst eb
      have hka := bk hka
      have hkb := bk hkb
      refine g_callVcsA (st := [va_rf x7, va_rf v0]) B (cJ5_newCapacity_0f7a4c h10) (Nat.le_of_ble_eq_true rfl) rfl mi_J5_newCapacity_0f7a4 lk_RJ5_104 ⟨Nat.le_of_ble_eq_true rfl, Nat.le_of_ble_eq_true rfl⟩ rfl rfl (Nat.le_of_ble_eq_true rfl) dJ5_ensureCapacityInternal_d00df_24 (Nat.le_trans (bm hka) hla) (Nat.le_trans (bm hkb) hlb) ?_
      refine g_aload_n B 1 dJ5_ensureCapacityInternal_d00df_27 rfl rfl ?_
      replace h := bnP_s h
      obtain ⟨x16, h17, h⟩ := h
      refine g_getI B fl_RJ5_22 (by decide) dJ5_ensureCapacityInternal_d00df_28 h17 ?_
      refine g_ishl B dJ5_ensureCapacityInternal_d00df_31 ?_
      replace h := bnA_s h
      rcases h with ⟨e9, h19, e8⟩ | ⟨x18, s20, a21, b22, a23, b24, h19, h, ea, eb⟩
      · subst e8
        exact g_callSx (st := [va_rf v0]) B (cJ7_copyOf_9075bc h19) mi_J7_copyOf_9075b lk_RJ5_108 ⟨Nat.le_of_ble_eq_true rfl, Nat.le_of_ble_eq_true rfl⟩ rfl rfl (Nat.le_of_ble_eq_true rfl) dJ5_ensureCapacityInternal_d00df_32 (Nat.le_trans (Nat.le_of_eq hka) hla) (Nat.le_trans (Nat.le_of_eq hkb) hlb) hE
      · subst ea; subst eb
        have hka := bk hka
        have hkb := bk hkb
        refine g_callSsA (st := [va_rf v0]) B (cJ7_copyOf_9075bc h19) mi_J7_copyOf_9075b lk_RJ5_108 ⟨Nat.le_of_ble_eq_true rfl, Nat.le_of_ble_eq_true rfl⟩ rfl rfl (Nat.le_of_ble_eq_true rfl) dJ5_ensureCapacityInternal_d00df_32 (Nat.le_trans (bm hka) hla) (Nat.le_trans (bm hkb) hlb) ?_
        replace h := bnP_s h
        obtain ⟨s27, h26, h⟩ := h
        refine g_putR B fl_RJ5_15 (by decide) (Or.inr ⟨_, rfl⟩) dJ5_ensureCapacityInternal_d00df_35 h26 ?_
        obtain ⟨w1, w2, w3, w4⟩ := inA h
        clear h
        subst w1
        subst w2
        subst w3
        subst w4
        exact g_vret B hE (Nat.le_trans (Nat.le_of_eq hka) hla) (Nat.le_trans (Nat.le_of_eq hkb) hlb) dJ5_ensureCapacityInternal_d00df_38
set_option maxRecDepth 100000 in
set_option maxHeartbeats 4000000 in
theorem cJ5_isLatin1_aae02c {l : Launch} {v0 : Option Nat} {σ : HpT} {r : Bool} (h : fJ5_isLatin1_aae02 v0 σ = some r) : IsK σ v0 11 ∧ Ct l yJ5_isLatin1_aae02 cJ5_isLatin1_aae02 1 (some .boolean) 0 0 [va_rf v0] σ (.ok (some (.int (bI r)))) σ 0 0 := by
  unfold fJ5_isLatin1_aae02 at h
  replace h := bnP_s h
  obtain ⟨u, hk, h⟩ := h
  replace hk := isK_s hk
  refine ⟨hk, ?_⟩
  refine ct_start mi_J5_isLatin1_aae02.1 rfl (al_le (al_1 (rf_cat _) al_n) (Nat.le_of_ble_eq_true rfl)) (ag_1 (rf_cat _) ag_n) (fun Δ Γ B hE hnm => ?_)
  refine g_gstC B sv_RJ5_18 dJ5_isLatin1_aae02_0 ?_
  refine g_if_eq B 17 dJ5_isLatin1_aae02_3 (by decide) (fun hc => ?_) (fun hc => ?_)
  · exact absurd hc (by decide)
  · skip
    refine g_aload_n B 0 dJ5_isLatin1_aae02_6 rfl rfl ?_
    replace h := bnP_s h
    obtain ⟨x1, h2, h⟩ := h
    refine g_getI B fl_RJ5_22 (by decide) dJ5_isLatin1_aae02_7 h2 ?_
    refine g_if_ne B 17 dJ5_isLatin1_aae02_10 (by decide) (fun hc => ?_) (fun hc => ?_)
    · replace h := ifn hc h
      refine g_iconst (v := 0) B dJ5_isLatin1_aae02_17 (by decide) ?_
      replace h := Option.some.inj h
      subst h
      exact g_zret B hE rfl (Nat.zero_le _) (Nat.zero_le _) dJ5_isLatin1_aae02_18
    · replace h := ifp hc h
      refine g_iconst (v := 1) B dJ5_isLatin1_aae02_13 (by decide) ?_
      refine g_goto B 18 dJ5_isLatin1_aae02_14 (by decide) ?_
      replace h := Option.some.inj h
      subst h
      exact g_zret B hE rfl (Nat.zero_le _) (Nat.zero_le _) dJ5_isLatin1_aae02_18
set_option maxRecDepth 100000 in
set_option maxHeartbeats 4000000 in
theorem cJ5_setLength_d00dfc {l : Launch} {v0 : Option Nat} {v1 : Int32} {σ : HpT} {o : Except Nat (Unit)} {σ' : HpT} {a b : Nat} (h : fJ5_setLength_d00df v0 v1 σ = some (o, σ', a, b)) : IsK σ v0 11 ∧ Ct l yJ5_setLength_d00df cJ5_setLength_d00df 2 none 4 104 [va_rf v0, .int v1] σ (oU o) σ' a b := by
  unfold fJ5_setLength_d00df at h
  replace h := bnP_s h
  obtain ⟨u, hk, h⟩ := h
  replace hk := isK_s hk
  refine ⟨hk, ?_⟩
  refine ct_start mi_J5_setLength_d00df.1 rfl (al_le (al_1 (rf_cat _) (al_1 rfl al_n)) (Nat.le_of_ble_eq_true rfl)) (ag_1 (rf_cat _) (ag_1 rfl ag_n)) (fun Δ Γ B hE hnm => ?_)
  have hka : 0 + a = a := Nat.zero_add a
  have hkb : 0 + b = b := Nat.zero_add b
  have hla : a ≤ a := Nat.le_refl a
  have hlb : b ≤ b := Nat.le_refl b
  refine g_iload_n B 1 dJ5_setLength_d00df_0 rfl rfl ?_
  refine g_if_ge B 13 dJ5_setLength_d00df_1 (by decide) (fun hc => ?_) (fun hc => ?_)
  · replace h := ifp hc h
    refine g_aload_n B 0 dJ5_setLength_d00df_13 rfl rfl ?_
    refine g_iload_n B 1 dJ5_setLength_d00df_14 rfl rfl ?_
    replace h := bnA_s h
    rcases h with ⟨e9, h2, e8⟩ | ⟨x1, s3, a4, b5, a6, b7, h2, h, ea, eb⟩
    · subst e8
      exact g_callVcx (st := []) B (cJ5_ensureCapacityInternal_d00dfc h2) (Nat.le_of_ble_eq_true rfl) rfl mi_J5_ensureCapacityInternal_d00df lk_RJ5_100 ⟨Nat.le_of_ble_eq_true rfl, Nat.le_of_ble_eq_true rfl⟩ rfl rfl (Nat.le_of_ble_eq_true rfl) dJ5_setLength_d00df_15 (Nat.le_trans (Nat.le_of_eq hka) hla) (Nat.le_trans (Nat.le_of_eq hkb) hlb) hE
    · subst ea; subst eb
      have hka := bk hka
      have hkb := bk hkb
      refine g_callVcvA (st := []) B (cJ5_ensureCapacityInternal_d00dfc h2) (Nat.le_of_ble_eq_true rfl) rfl mi_J5_ensureCapacityInternal_d00df lk_RJ5_100 ⟨Nat.le_of_ble_eq_true rfl, Nat.le_of_ble_eq_true rfl⟩ rfl rfl (Nat.le_of_ble_eq_true rfl) dJ5_setLength_d00df_15 (Nat.le_trans (bm hka) hla) (Nat.le_trans (bm hkb) hlb) ?_
      refine g_aload_n B 0 dJ5_setLength_d00df_18 rfl rfl ?_
      replace h := bnP_s h
      obtain ⟨x8, h9, h⟩ := h
      refine g_getI B fl_RJ5_79 (by decide) dJ5_setLength_d00df_19 h9 ?_
      refine g_iload_n B 1 dJ5_setLength_d00df_22 rfl rfl ?_
      replace h := bnS_s h
      obtain ⟨j10, s30, h11, h⟩ := h
      have k13 : GW Δ Γ (0 + a4) (0 + b5) 76 [(0, va_rf v0), (1, .int v1)] [] s30 := by
        refine g_aload_n B 0 dJ5_setLength_d00df_76 rfl rfl ?_
        refine g_iload_n B 1 dJ5_setLength_d00df_77 rfl rfl ?_
        replace h := bnP_s h
        obtain ⟨s33, h32, h⟩ := h
        refine g_putI B fl_RJ5_79 (by decide) dJ5_setLength_d00df_78 h32 ?_
        obtain ⟨w1, w2, w3, w4⟩ := inA h
        clear h
        subst w1
        subst w2
        subst w3
        subst w4
        exact g_vret B hE (Nat.le_trans (Nat.le_of_eq hka) hla) (Nat.le_trans (Nat.le_of_eq hkb) hlb) dJ5_setLength_d00df_81
      clear h
      have h := h11
      clear h11
      refine g_icmp_ge B 63 dJ5_setLength_d00df_23 (by decide) (fun hc => ?_) (fun hc => ?_)
      · replace h := ifp hc h
        refine g_aload_n B 0 dJ5_setLength_d00df_63 rfl rfl ?_
        replace h := bnP_s h
        obtain ⟨x15, h16, h⟩ := h
        refine g_getI B fl_RJ5_79 (by decide) dJ5_setLength_d00df_64 h16 ?_
        refine g_iload_n B 1 dJ5_setLength_d00df_67 rfl rfl ?_
        refine g_icmp_le B 76 dJ5_setLength_d00df_68 (by decide) (fun hc => ?_) (fun hc => ?_)
        · replace h := ifp hc h
          obtain ⟨w1, w2⟩ := inS h
          clear h
          subst w1
          subst w2
          exact g_sub [0, 1] rfl k13
        · replace h := ifn hc h
          refine g_aload_n B 0 dJ5_setLength_d00df_71 rfl rfl ?_
          refine g_iconst (v := 1) B dJ5_setLength_d00df_72 (by decide) ?_
          replace h := bnP_s h
          obtain ⟨s19, h18, h⟩ := h
          refine g_putZ B fl_RJ5_73 (by decide) dJ5_setLength_d00df_73 h18 ?_
          obtain ⟨w1, w2⟩ := inS h
          clear h
          subst w1
          subst w2
          exact g_sub [0, 1] rfl k13
      · replace h := ifn hc h
        refine g_aload_n B 0 dJ5_setLength_d00df_26 rfl rfl ?_
        replace h := bnP_s h
        obtain ⟨x20, h21, h⟩ := h
        refine g_callVcs0 (st := []) B (cJ5_isLatin1_aae02c h21) (Nat.le_of_ble_eq_true rfl) rfl mi_J5_isLatin1_aae02 lk_RJ5_83 ⟨Nat.le_of_ble_eq_true rfl, Nat.le_of_ble_eq_true rfl⟩ rfl rfl (Nat.le_of_ble_eq_true rfl) dJ5_setLength_d00df_27 (Nat.le_trans (bm hka) hla) (Nat.le_trans (bm hkb) hlb) ?_
        refine g_if_eq B 48 dJ5_setLength_d00df_30 (by decide) (fun hc => ?_) (fun hc => ?_)
        · replace h := ifn (bI0 hc) h
          refine g_aload_n B 0 dJ5_setLength_d00df_48 rfl rfl ?_
          replace h := bnP_s h
          obtain ⟨x22, h23, h⟩ := h
          refine g_getR B fl_RJ5_15 (by decide) dJ5_setLength_d00df_49 h23 ?_
          refine g_aload_n B 0 dJ5_setLength_d00df_52 rfl rfl ?_
          replace h := bnP_s h
          obtain ⟨x24, h25, h⟩ := h
          refine g_getI B fl_RJ5_79 (by decide) dJ5_setLength_d00df_53 h25 ?_
          refine g_iload_n B 1 dJ5_setLength_d00df_56 rfl rfl ?_
          cases h
        · replace h := ifp (bI1 hc) h
          refine g_aload_n B 0 dJ5_setLength_d00df_33 rfl rfl ?_
          replace h := bnP_s h
          obtain ⟨x26, h27, h⟩ := h
          refine g_getR B fl_RJ5_15 (by decide) dJ5_setLength_d00df_34 h27 ?_
          refine g_aload_n B 0 dJ5_setLength_d00df_37 rfl rfl ?_
          replace h := bnP_s h
          obtain ⟨x28, h29, h⟩ := h
          refine g_getI B fl_RJ5_79 (by decide) dJ5_setLength_d00df_38 h29 ?_
          refine g_iload_n B 1 dJ5_setLength_d00df_41 rfl rfl ?_
          cases h
  · replace h := ifn hc h
    cases h
set_option maxRecDepth 100000 in
set_option maxHeartbeats 4000000 in
theorem cJ4_setLength_d00dfc {l : Launch} {v0 : Option Nat} {v1 : Int32} {σ : HpT} {o : Except Nat (Unit)} {σ' : HpT} {a b : Nat} (h : fJ4_setLength_d00df v0 v1 σ = some (o, σ', a, b)) : IsK σ v0 11 ∧ Ct l yJ4_setLength_d00df cJ4_setLength_d00df 2 none 5 125 [va_rf v0, .int v1] σ (oU o) σ' a b := by
  unfold fJ4_setLength_d00df at h
  replace h := bnP_s h
  obtain ⟨u, hk, h⟩ := h
  replace hk := isK_s hk
  refine ⟨hk, ?_⟩
  refine ct_start mi_J4_setLength_d00df.1 rfl (al_le (al_1 (rf_cat _) (al_1 rfl al_n)) (Nat.le_of_ble_eq_true rfl)) (ag_1 (rf_cat _) (ag_1 rfl ag_n)) (fun Δ Γ B hE hnm => ?_)
  have hka : 0 + a = a := Nat.zero_add a
  have hkb : 0 + b = b := Nat.zero_add b
  have hla : a ≤ a := Nat.le_refl a
  have hlb : b ≤ b := Nat.le_refl b
  refine g_aload_n B 0 dJ4_setLength_d00df_0 rfl rfl ?_
  refine g_iload_n B 1 dJ4_setLength_d00df_1 rfl rfl ?_
  replace h := bnA_s h
  rcases h with ⟨e9, h2, e8⟩ | ⟨x1, s3, a4, b5, a6, b7, h2, h, ea, eb⟩
  · subst e8
    exact g_callSUx (st := []) B (cJ5_setLength_d00dfc h2) (Nat.le_of_ble_eq_true rfl) rfl mi_J5_setLength_d00df lk_RJ4_333 ⟨Nat.le_of_ble_eq_true rfl, Nat.le_of_ble_eq_true rfl⟩ rfl rfl (Nat.le_of_ble_eq_true rfl) dJ4_setLength_d00df_2 (Nat.le_trans (Nat.le_of_eq hka) hla) (Nat.le_trans (Nat.le_of_eq hkb) hlb) hE
  · subst ea; subst eb
    have hka := bk hka
    have hkb := bk hkb
    refine g_callSUvA (st := []) B (cJ5_setLength_d00dfc h2) (Nat.le_of_ble_eq_true rfl) rfl mi_J5_setLength_d00df lk_RJ4_333 ⟨Nat.le_of_ble_eq_true rfl, Nat.le_of_ble_eq_true rfl⟩ rfl rfl (Nat.le_of_ble_eq_true rfl) dJ4_setLength_d00df_2 (Nat.le_trans (bm hka) hla) (Nat.le_trans (bm hkb) hlb) ?_
    obtain ⟨w1, w2, w3, w4⟩ := inA h
    clear h
    subst w1
    subst w2
    subst w3
    subst w4
    exact g_vret B hE (Nat.le_trans (Nat.le_of_eq hka) hla) (Nat.le_trans (Nat.le_of_eq hkb) hlb) dJ4_setLength_d00df_5
set_option maxRecDepth 100000 in
set_option maxHeartbeats 4000000 in
theorem cJ5_length_8abf5c {l : Launch} {v0 : Option Nat} {σ : HpT} {r : Int32} (h : fJ5_length_8abf5 v0 σ = some r) : IsK σ v0 11 ∧ Ct l yJ5_length_8abf5 cJ5_length_8abf5 1 (some .int) 0 0 [va_rf v0] σ (.ok (some (.int r))) σ 0 0 := by
  unfold fJ5_length_8abf5 at h
  replace h := bnP_s h
  obtain ⟨u, hk, h⟩ := h
  replace hk := isK_s hk
  refine ⟨hk, ?_⟩
  refine ct_start mi_J5_length_8abf5.1 rfl (al_le (al_1 (rf_cat _) al_n) (Nat.le_of_ble_eq_true rfl)) (ag_1 (rf_cat _) ag_n) (fun Δ Γ B hE hnm => ?_)
  refine g_aload_n B 0 dJ5_length_8abf5_0 rfl rfl ?_
  replace h := bnP_s h
  obtain ⟨x1, h2, h⟩ := h
  refine g_getI B fl_RJ5_79 (by decide) dJ5_length_8abf5_1 h2 ?_
  replace h := Option.some.inj h
  subst h
  exact g_iret B hE (Nat.zero_le _) (Nat.zero_le _) dJ5_length_8abf5_4
set_option maxRecDepth 100000 in
set_option maxHeartbeats 4000000 in
theorem cJ4_length_8abf5c {l : Launch} {v0 : Option Nat} {σ : HpT} {r : Int32} (h : fJ4_length_8abf5 v0 σ = some r) : IsK σ v0 11 ∧ Ct l yJ4_length_8abf5 cJ4_length_8abf5 1 (some .int) 1 20 [va_rf v0] σ (.ok (some (.int r))) σ 0 0 := by
  unfold fJ4_length_8abf5 at h
  replace h := bnP_s h
  obtain ⟨u, hk, h⟩ := h
  replace hk := isK_s hk
  refine ⟨hk, ?_⟩
  refine ct_start mi_J4_length_8abf5.1 rfl (al_le (al_1 (rf_cat _) al_n) (Nat.le_of_ble_eq_true rfl)) (ag_1 (rf_cat _) ag_n) (fun Δ Γ B hE hnm => ?_)
  refine g_aload_n B 0 dJ4_length_8abf5_0 rfl rfl ?_
  replace h := bnP_s h
  obtain ⟨x1, h2, h⟩ := h
  refine g_callSUs0 (st := []) B (cJ5_length_8abf5c h2) (Nat.le_of_ble_eq_true rfl) rfl mi_J5_length_8abf5 lk_RJ4_343 ⟨Nat.le_of_ble_eq_true rfl, Nat.le_of_ble_eq_true rfl⟩ rfl rfl (Nat.le_of_ble_eq_true rfl) dJ4_length_8abf5_1 (Nat.zero_le _) (Nat.zero_le _) ?_
  replace h := Option.some.inj h
  subst h
  exact g_iret B hE (Nat.zero_le _) (Nat.zero_le _) dJ4_length_8abf5_4
set_option maxRecDepth 100000 in
set_option maxHeartbeats 4000000 in
theorem cJ1_canEncode_fc78dc {l : Launch} {v0 : Int32} {σ : HpT} {r : Bool} (h : fJ1_canEncode_fc78d v0 σ = some r) : Ct l yJ1_canEncode_fc78d cJ1_canEncode_fc78d 1 (some .boolean) 0 0 [.int v0] σ (.ok (some (.int (bI r)))) σ 0 0 := by
  unfold fJ1_canEncode_fc78d at h
  refine ct_start mi_J1_canEncode_fc78d.1 rfl (al_le (al_1 rfl al_n) (Nat.le_of_ble_eq_true rfl)) (ag_1 rfl ag_n) (fun Δ Γ B hE hnm => ?_)
  refine g_iload_n B 0 dJ1_canEncode_fc78d_0 rfl rfl ?_
  refine g_sipush (v := 255) B dJ1_canEncode_fc78d_1 (by decide) ?_
  refine g_icmp_gt B 11 dJ1_canEncode_fc78d_4 (by decide) (fun hc => ?_) (fun hc => ?_)
  · replace h := ifp hc h
    refine g_iconst (v := 0) B dJ1_canEncode_fc78d_11 (by decide) ?_
    replace h := Option.some.inj h
    subst h
    exact g_zret B hE rfl (Nat.zero_le _) (Nat.zero_le _) dJ1_canEncode_fc78d_12
  · replace h := ifn hc h
    refine g_iconst (v := 1) B dJ1_canEncode_fc78d_7 (by decide) ?_
    refine g_goto B 12 dJ1_canEncode_fc78d_8 (by decide) ?_
    replace h := Option.some.inj h
    subst h
    exact g_zret B hE rfl (Nat.zero_le _) (Nat.zero_le _) dJ1_canEncode_fc78d_12
set_option maxRecDepth 100000 in
set_option maxHeartbeats 4000000 in
theorem cJ5_append_3fe6fc {l : Launch} {v0 : Option Nat} {v1 : Int32} {σ : HpT} {o : Except Nat (Option Nat)} {σ' : HpT} {a b : Nat} (h : fJ5_append_3fe6f v0 v1 σ = some (o, σ', a, b)) : IsK σ v0 11 ∧ Ct l yJ5_append_3fe6f cJ5_append_3fe6f 2 (some (.object "java/lang/AbstractStringBuilder")) 4 104 [va_rf v0, .int v1] σ (oA o) σ' a b := by
  unfold fJ5_append_3fe6f at h
  replace h := bnP_s h
  obtain ⟨u, hk, h⟩ := h
  replace hk := isK_s hk
  refine ⟨hk, ?_⟩
  refine ct_start mi_J5_append_3fe6f.1 rfl (al_le (al_1 (rf_cat _) (al_1 rfl al_n)) (Nat.le_of_ble_eq_true rfl)) (ag_1 (rf_cat _) (ag_1 rfl ag_n)) (fun Δ Γ B hE hnm => ?_)
  have hka : 0 + a = a := Nat.zero_add a
  have hkb : 0 + b = b := Nat.zero_add b
  have hla : a ≤ a := Nat.le_refl a
  have hlb : b ≤ b := Nat.le_refl b
  refine g_aload_n B 0 dJ5_append_3fe6f_0 rfl rfl ?_
  refine g_aload_n B 0 dJ5_append_3fe6f_1 rfl rfl ?_
  replace h := bnP_s h
  obtain ⟨x1, h2, h⟩ := h
  refine g_getI B fl_RJ5_79 (by decide) dJ5_append_3fe6f_2 h2 ?_
  refine g_iconst (v := 1) B dJ5_append_3fe6f_5 (by decide) ?_
  refine g_iadd B dJ5_append_3fe6f_6 ?_
  replace h := bnA_s h
  rcases h with ⟨e9, h4, e8⟩ | ⟨x3, s5, a6, b7, a8, b9, h4, h, ea, eb⟩
  · subst e8
    exact g_callVcx (st := []) B (cJ5_ensureCapacityInternal_d00dfc h4) (Nat.le_of_ble_eq_true rfl) rfl mi_J5_ensureCapacityInternal_d00df lk_RJ5_100 ⟨Nat.le_of_ble_eq_true rfl, Nat.le_of_ble_eq_true rfl⟩ rfl rfl (Nat.le_of_ble_eq_true rfl) dJ5_append_3fe6f_7 (Nat.le_trans (Nat.le_of_eq hka) hla) (Nat.le_trans (Nat.le_of_eq hkb) hlb) hE
  · subst ea; subst eb
    have hka := bk hka
    have hkb := bk hkb
    refine g_callVcvA (st := []) B (cJ5_ensureCapacityInternal_d00dfc h4) (Nat.le_of_ble_eq_true rfl) rfl mi_J5_ensureCapacityInternal_d00df lk_RJ5_100 ⟨Nat.le_of_ble_eq_true rfl, Nat.le_of_ble_eq_true rfl⟩ rfl rfl (Nat.le_of_ble_eq_true rfl) dJ5_append_3fe6f_7 (Nat.le_trans (bm hka) hla) (Nat.le_trans (bm hkb) hlb) ?_
    refine g_aload_n B 0 dJ5_append_3fe6f_10 rfl rfl ?_
    replace h := bnP_s h
    obtain ⟨x10, h11, h⟩ := h
    refine g_callVcs0 (st := []) B (cJ5_isLatin1_aae02c h11) (Nat.le_of_ble_eq_true rfl) rfl mi_J5_isLatin1_aae02 lk_RJ5_83 ⟨Nat.le_of_ble_eq_true rfl, Nat.le_of_ble_eq_true rfl⟩ rfl rfl (Nat.le_of_ble_eq_true rfl) dJ5_append_3fe6f_11 (Nat.le_trans (bm hka) hla) (Nat.le_trans (bm hkb) hlb) ?_
    refine g_if_eq B 45 dJ5_append_3fe6f_14 (by decide) (fun hc => ?_) (fun hc => ?_)
    · replace h := ifn (bI0 hc) h
      refine g_aload_n B 0 dJ5_append_3fe6f_45 rfl rfl ?_
      replace h := bnP_s h
      obtain ⟨x12, h13, h⟩ := h
      refine g_callVcs0 (st := []) B (cJ5_isLatin1_aae02c h13) (Nat.le_of_ble_eq_true rfl) rfl mi_J5_isLatin1_aae02 lk_RJ5_83 ⟨Nat.le_of_ble_eq_true rfl, Nat.le_of_ble_eq_true rfl⟩ rfl rfl (Nat.le_of_ble_eq_true rfl) dJ5_append_3fe6f_46 (Nat.le_trans (bm hka) hla) (Nat.le_trans (bm hkb) hlb) ?_
      replace h := bnP_s h
      obtain ⟨j14, h15, h⟩ := h
      have k17 : GW Δ Γ (0 + a6) (0 + b7) 56 [(0, va_rf v0), (1, .int v1)] [] s5 := by
        refine g_aload_n B 0 dJ5_append_3fe6f_56 rfl rfl ?_
        replace h := bnP_s h
        obtain ⟨x19, h20, h⟩ := h
        refine g_getR B fl_RJ5_15 (by decide) dJ5_append_3fe6f_57 h20 ?_
        refine g_aload_n B 0 dJ5_append_3fe6f_60 rfl rfl ?_
        refine g_dup B dJ5_append_3fe6f_61 (rf_cat _) ?_
        replace h := bnP_s h
        obtain ⟨x21, h22, h⟩ := h
        refine g_getI B fl_RJ5_79 (by decide) dJ5_append_3fe6f_62 h22 ?_
        refine g_dup_x1 B dJ5_append_3fe6f_65 rfl (rf_cat _) ?_
        refine g_iconst (v := 1) B dJ5_append_3fe6f_66 (by decide) ?_
        refine g_iadd B dJ5_append_3fe6f_67 ?_
        replace h := bnP_s h
        obtain ⟨s25, h24, h⟩ := h
        refine g_putI B fl_RJ5_79 (by decide) dJ5_append_3fe6f_68 h24 ?_
        refine g_iload_n B 1 dJ5_append_3fe6f_71 rfl rfl ?_
        cases h
      clear h
      have h := h15
      clear h15
      refine g_if_eq B 56 dJ5_append_3fe6f_49 (by decide) (fun hc => ?_) (fun hc => ?_)
      · replace h := ifn (bI0 hc) h
        replace h := Option.some.inj h
        subst h
        exact g_sub [0, 1] rfl k17
      · replace h := ifp (bI1 hc) h
        refine g_aload_n B 0 dJ5_append_3fe6f_52 rfl rfl ?_
        cases h
    · replace h := ifp (bI1 hc) h
      refine g_iload_n B 1 dJ5_append_3fe6f_17 rfl rfl ?_
      replace h := bnP_s h
      obtain ⟨x26, h27, h⟩ := h
      refine g_callSs0 (st := []) B (cJ1_canEncode_fc78dc h27) mi_J1_canEncode_fc78d lk_RJ5_191 ⟨Nat.le_of_ble_eq_true rfl, Nat.le_of_ble_eq_true rfl⟩ rfl rfl (Nat.le_of_ble_eq_true rfl) dJ5_append_3fe6f_18 (Nat.le_trans (bm hka) hla) (Nat.le_trans (bm hkb) hlb) ?_
      refine g_if_eq B 45 dJ5_append_3fe6f_21 (by decide) (fun hc => ?_) (fun hc => ?_)
      · replace h := ifn (bI0 hc) h
        refine g_aload_n B 0 dJ5_append_3fe6f_45 rfl rfl ?_
        replace h := bnP_s h
        obtain ⟨x28, h29, h⟩ := h
        refine g_callVcs0 (st := []) B (cJ5_isLatin1_aae02c h29) (Nat.le_of_ble_eq_true rfl) rfl mi_J5_isLatin1_aae02 lk_RJ5_83 ⟨Nat.le_of_ble_eq_true rfl, Nat.le_of_ble_eq_true rfl⟩ rfl rfl (Nat.le_of_ble_eq_true rfl) dJ5_append_3fe6f_46 (Nat.le_trans (bm hka) hla) (Nat.le_trans (bm hkb) hlb) ?_
        replace h := bnP_s h
        obtain ⟨j30, h31, h⟩ := h
        have k33 : GW Δ Γ (0 + a6) (0 + b7) 56 [(0, va_rf v0), (1, .int v1)] [] s5 := by
          refine g_aload_n B 0 dJ5_append_3fe6f_56 rfl rfl ?_
          replace h := bnP_s h
          obtain ⟨x35, h36, h⟩ := h
          refine g_getR B fl_RJ5_15 (by decide) dJ5_append_3fe6f_57 h36 ?_
          refine g_aload_n B 0 dJ5_append_3fe6f_60 rfl rfl ?_
          refine g_dup B dJ5_append_3fe6f_61 (rf_cat _) ?_
          replace h := bnP_s h
          obtain ⟨x37, h38, h⟩ := h
          refine g_getI B fl_RJ5_79 (by decide) dJ5_append_3fe6f_62 h38 ?_
          refine g_dup_x1 B dJ5_append_3fe6f_65 rfl (rf_cat _) ?_
          refine g_iconst (v := 1) B dJ5_append_3fe6f_66 (by decide) ?_
          refine g_iadd B dJ5_append_3fe6f_67 ?_
          replace h := bnP_s h
          obtain ⟨s41, h40, h⟩ := h
          refine g_putI B fl_RJ5_79 (by decide) dJ5_append_3fe6f_68 h40 ?_
          refine g_iload_n B 1 dJ5_append_3fe6f_71 rfl rfl ?_
          cases h
        clear h
        have h := h31
        clear h31
        refine g_if_eq B 56 dJ5_append_3fe6f_49 (by decide) (fun hc => ?_) (fun hc => ?_)
        · replace h := ifn (bI0 hc) h
          replace h := Option.some.inj h
          subst h
          exact g_sub [0, 1] rfl k33
        · replace h := ifp (bI1 hc) h
          refine g_aload_n B 0 dJ5_append_3fe6f_52 rfl rfl ?_
          cases h
      · replace h := ifp (bI1 hc) h
        refine g_aload_n B 0 dJ5_append_3fe6f_24 rfl rfl ?_
        replace h := bnP_s h
        obtain ⟨x42, h43, h⟩ := h
        refine g_getR B fl_RJ5_15 (by decide) dJ5_append_3fe6f_25 h43 ?_
        refine g_aload_n B 0 dJ5_append_3fe6f_28 rfl rfl ?_
        refine g_dup B dJ5_append_3fe6f_29 (rf_cat _) ?_
        replace h := bnP_s h
        obtain ⟨x44, h45, h⟩ := h
        refine g_getI B fl_RJ5_79 (by decide) dJ5_append_3fe6f_30 h45 ?_
        refine g_dup_x1 B dJ5_append_3fe6f_33 rfl (rf_cat _) ?_
        refine g_iconst (v := 1) B dJ5_append_3fe6f_34 (by decide) ?_
        refine g_iadd B dJ5_append_3fe6f_35 ?_
        replace h := bnP_s h
        obtain ⟨s48, h47, h⟩ := h
        refine g_putI B fl_RJ5_79 (by decide) dJ5_append_3fe6f_36 h47 ?_
        refine g_iload_n B 1 dJ5_append_3fe6f_39 rfl rfl ?_
        refine g_i2b B dJ5_append_3fe6f_40 ?_
        replace h := bnP_s h
        obtain ⟨s51, h50, h⟩ := h
        refine g_bast B dJ5_append_3fe6f_41 h50 ?_
        refine g_goto B 75 dJ5_append_3fe6f_42 (by decide) ?_
        refine g_aload_n B 0 dJ5_append_3fe6f_75 rfl rfl ?_
        obtain ⟨w1, w2, w3, w4⟩ := inA h
        clear h
        subst w1
        subst w2
        subst w3
        subst w4
        exact g_aret B hE (Or.inl ⟨_, rfl⟩) (Nat.le_trans (Nat.le_of_eq hka) hla) (Nat.le_trans (Nat.le_of_eq hkb) hlb) dJ5_append_3fe6f_76
set_option maxRecDepth 100000 in
set_option maxHeartbeats 4000000 in
theorem cJ4_append_cf468c {l : Launch} {v0 : Option Nat} {v1 : Int32} {σ : HpT} {o : Except Nat (Option Nat)} {σ' : HpT} {a b : Nat} (h : fJ4_append_cf468 v0 v1 σ = some (o, σ', a, b)) : IsK σ v0 11 ∧ Ct l yJ4_append_cf468 cJ4_append_cf468 2 (some (.object "java/lang/StringBuilder")) 5 125 [va_rf v0, .int v1] σ (oA o) σ' a b := by
  unfold fJ4_append_cf468 at h
  replace h := bnP_s h
  obtain ⟨u, hk, h⟩ := h
  replace hk := isK_s hk
  refine ⟨hk, ?_⟩
  refine ct_start mi_J4_append_cf468.1 rfl (al_le (al_1 (rf_cat _) (al_1 rfl al_n)) (Nat.le_of_ble_eq_true rfl)) (ag_1 (rf_cat _) (ag_1 rfl ag_n)) (fun Δ Γ B hE hnm => ?_)
  have hka : 0 + a = a := Nat.zero_add a
  have hkb : 0 + b = b := Nat.zero_add b
  have hla : a ≤ a := Nat.le_refl a
  have hlb : b ≤ b := Nat.le_refl b
  refine g_aload_n B 0 dJ4_append_cf468_0 rfl rfl ?_
  refine g_iload_n B 1 dJ4_append_cf468_1 rfl rfl ?_
  replace h := bnA_s h
  rcases h with ⟨e9, h2, e8⟩ | ⟨x1, s3, a4, b5, a6, b7, h2, h, ea, eb⟩
  · subst e8
    exact g_callSUx (st := []) B (cJ5_append_3fe6fc h2) (Nat.le_of_ble_eq_true rfl) rfl mi_J5_append_3fe6f lk_RJ4_50 ⟨Nat.le_of_ble_eq_true rfl, Nat.le_of_ble_eq_true rfl⟩ rfl rfl (Nat.le_of_ble_eq_true rfl) dJ4_append_cf468_2 (Nat.le_trans (Nat.le_of_eq hka) hla) (Nat.le_trans (Nat.le_of_eq hkb) hlb) hE
  · subst ea; subst eb
    have hka := bk hka
    have hkb := bk hkb
    refine g_callSUsA (st := []) B (cJ5_append_3fe6fc h2) (Nat.le_of_ble_eq_true rfl) rfl mi_J5_append_3fe6f lk_RJ4_50 ⟨Nat.le_of_ble_eq_true rfl, Nat.le_of_ble_eq_true rfl⟩ rfl rfl (Nat.le_of_ble_eq_true rfl) dJ4_append_cf468_2 (Nat.le_trans (bm hka) hla) (Nat.le_trans (bm hkb) hlb) ?_
    refine g_pop B dJ4_append_cf468_5 (rf_cat _) ?_
    refine g_aload_n B 0 dJ4_append_cf468_6 rfl rfl ?_
    obtain ⟨w1, w2, w3, w4⟩ := inA h
    clear h
    subst w1
    subst w2
    subst w3
    subst w4
    exact g_aret B hE (Or.inl ⟨_, rfl⟩) (Nat.le_trans (Nat.le_of_eq hka) hla) (Nat.le_trans (Nat.le_of_eq hkb) hlb) dJ4_append_cf468_7
set_option maxRecDepth 100000 in
set_option maxHeartbeats 4000000 in
theorem cJ6_stringSize_0f7a4c {l : Launch} {v0 : Int32} {σ : HpT} {r : Int32} (h : fJ6_stringSize_0f7a4 v0 σ = some r) : Ct l yJ6_stringSize_0f7a4 cJ6_stringSize_0f7a4 4 (some .int) 0 0 [.int v0] σ (.ok (some (.int r))) σ 0 0 := by
  unfold fJ6_stringSize_0f7a4 at h
  refine ct_start mi_J6_stringSize_0f7a4.1 rfl (al_le (al_1 rfl al_n) (Nat.le_of_ble_eq_true rfl)) (ag_1 rfl ag_n) (fun Δ Γ B hE hnm => ?_)
  refine g_iconst (v := 1) B dJ6_stringSize_0f7a4_0 (by decide) ?_
  refine g_istore_n B dJ6_stringSize_0f7a4_1 rfl (Nat.le_of_ble_eq_true rfl) (s1_c (f1_1 rfl rfl f1_n)) ?_
  refine g_iload_n B 1 dJ6_stringSize_0f7a4_2 rfl rfl ?_
  replace h := bnP_s h
  obtain ⟨j1, h2, h⟩ := h
  have k4 : GW Δ Γ (0) (0) 11 [(0, .int j1.1), (1, .int j1.2)] [] σ := by
    refine g_bipush (v := (-10)) B dJ6_stringSize_0f7a4_11 (by decide) ?_
    refine g_istore_n B dJ6_stringSize_0f7a4_13 rfl (Nat.le_of_ble_eq_true rfl) (s1_c (f1_k rfl (f1_1 rfl rfl f1_n))) ?_
    refine g_iconst (v := 1) B dJ6_stringSize_0f7a4_14 (by decide) ?_
    refine g_istore_n B dJ6_stringSize_0f7a4_15 rfl (Nat.le_of_ble_eq_true rfl) (s1_c (f1_1 rfl rfl (f1_k rfl (f1_k rfl f1_n)))) ?_
    replace h := bnP_s h
    obtain ⟨r7, h8, h⟩ := h
    have kE9 : ∀ y15, r7 = .inl y15 → GW Δ Γ (0) (0) 42 [(1, .int j1.2)] [] σ := by
      intro y15 er
      subst er
      dsimp only at h
      refine g_bipush (v := 10) B dJ6_stringSize_0f7a4_42 (by decide) ?_
      refine g_iload_n B 0 dJ6_stringSize_0f7a4_44 rfl rfl ?_
      refine g_iadd B dJ6_stringSize_0f7a4_45 ?_
      replace h := Option.some.inj h
      subst h
      exact g_iret B hE (Nat.zero_le _) (Nat.zero_le _) dJ6_stringSize_0f7a4_46
    have kR10 : ∀ vv, r7 = .inr vv → En Δ Γ (.ok (some (.int vv))) σ 0 0 (some .int) ∧ 0 ≤ 0 ∧ 0 ≤ 0 := by
      intro vv er
      subst er
      dsimp only at h
      replace h := Option.some.inj h
      subst h
      exact ⟨hE, Nat.zero_le _, Nat.zero_le _⟩
    clear h
    refine g_sub [2, 3, 1, 0] rfl ?_
    refine lpP_w (I := fun q6 => GW Δ Γ (0) (0) 16 [(0, .int j1.1), (1, .int j1.2), (2, .int q6.1), (3, .int q6.2)] [] σ) (r := r7) ?_ FUEL ((-10), 1) h8
    intro q6 x13 h hI11 hR12
    unfold fJ6_stringSize_0f7a4_l1 at h
    refine g_iload_n B 3 dJ6_stringSize_0f7a4_16 rfl rfl ?_
    refine g_bipush (v := 10) B dJ6_stringSize_0f7a4_17 (by decide) ?_
    refine g_icmp_ge B 42 dJ6_stringSize_0f7a4_19 (by decide) (fun hc => ?_) (fun hc => ?_)
    · replace h := ifp hc h
      replace h := Option.some.inj h
      subst h
      have e8 := hR12 _ rfl
      subst e8
      exact g_sub [1] rfl (kE9 _ rfl)
    · replace h := ifn hc h
      refine g_iload_n B 0 dJ6_stringSize_0f7a4_22 rfl rfl ?_
      refine g_iload_n B 2 dJ6_stringSize_0f7a4_23 rfl rfl ?_
      refine g_icmp_le B 31 dJ6_stringSize_0f7a4_24 (by decide) (fun hc => ?_) (fun hc => ?_)
      · replace h := ifp hc h
        refine g_bipush (v := 10) B dJ6_stringSize_0f7a4_31 (by decide) ?_
        refine g_iload_n B 2 dJ6_stringSize_0f7a4_33 rfl rfl ?_
        refine g_imul B dJ6_stringSize_0f7a4_34 ?_
        refine g_istore_n B dJ6_stringSize_0f7a4_35 rfl (Nat.le_of_ble_eq_true rfl) (s1_c (f1_k rfl (f1_1 rfl rfl (f1_x (f1_k rfl f1_n))))) ?_
        refine g_iinc (v := (q6.2 + 1)) B 3 dJ6_stringSize_0f7a4_36 rfl (by first | rfl | (congr 1; decide)) (Nat.le_of_ble_eq_true rfl) (s1_c (f1_1 rfl rfl (f1_k rfl (f1_k rfl (f1_x f1_n))))) ?_
        refine g_goto B 16 dJ6_stringSize_0f7a4_39 (by decide) ?_
        replace h := Option.some.inj h
        subst h
        exact g_sub [2, 3, 1, 0] rfl (hI11 _ rfl)
      · replace h := ifn hc h
        refine g_iload_n B 3 dJ6_stringSize_0f7a4_27 rfl rfl ?_
        refine g_iload_n B 1 dJ6_stringSize_0f7a4_28 rfl rfl ?_
        refine g_iadd B dJ6_stringSize_0f7a4_29 ?_
        replace h := Option.some.inj h
        subst h
        have e8 := hR12 _ rfl
        obtain ⟨hE, hc9, hs9⟩ := kR10 _ e8.symm
        exact g_iret B hE hc9 hs9 dJ6_stringSize_0f7a4_30
  clear h
  have h := h2
  clear h2
  refine g_if_lt B 11 dJ6_stringSize_0f7a4_3 (by decide) (fun hc => ?_) (fun hc => ?_)
  · replace h := ifp hc h
    replace h := Option.some.inj h
    subst h
    exact g_sub [1, 0] rfl k4
  · replace h := ifn hc h
    refine g_iconst (v := 0) B dJ6_stringSize_0f7a4_6 (by decide) ?_
    refine g_istore_n B dJ6_stringSize_0f7a4_7 rfl (Nat.le_of_ble_eq_true rfl) (s1_c (f1_x (f1_1 rfl rfl f1_n))) ?_
    refine g_iload_n B 1 dJ6_stringSize_0f7a4_8 rfl rfl ?_
    refine g_ineg B dJ6_stringSize_0f7a4_9 ?_
    refine g_istore_n B dJ6_stringSize_0f7a4_10 rfl (Nat.le_of_ble_eq_true rfl) (s1_c (f1_k rfl (f1_x f1_n))) ?_
    replace h := Option.some.inj h
    subst h
    exact g_sub [0, 1] rfl k4
set_option maxRecDepth 100000 in
set_option maxHeartbeats 4000000 in
theorem cJ6_getChars_ba4f3c {l : Launch} {v0 : Int32} {v1 : Int32} {v2 : Option Nat} {σ : HpT} {r : Int32} {σ' : HpT} (h : fJ6_getChars_ba4f3 v0 v1 v2 σ = some (r, σ')) : Ct l yJ6_getChars_ba4f3 cJ6_getChars_ba4f3 7 (some .int) 0 0 [.int v0, .int v1, va_rf v2] σ (.ok (some (.int r))) σ' 0 0 := by
  unfold fJ6_getChars_ba4f3 at h
  refine ct_start mi_J6_getChars_ba4f3.1 rfl (al_le (al_1 rfl (al_1 rfl (al_1 (rf_cat _) al_n))) (Nat.le_of_ble_eq_true rfl)) (ag_1 rfl (ag_1 rfl (ag_1 (rf_cat _) ag_n))) (fun Δ Γ B hE hnm => ?_)
  refine g_iload_n B 1 dJ6_getChars_ba4f3_0 rfl rfl ?_
  refine g_istore B dJ6_getChars_ba4f3_1 (Nat.le_of_ble_eq_true rfl) (s1_c (f1_k rfl (f1_k rfl (f1_k rfl f1_n)))) ?_
  refine g_iload_n B 1 dJ6_getChars_ba4f3_3 rfl rfl ?_
  replace h := bnP_s h
  obtain ⟨j1, h2, h⟩ := h
  have k4 : GW Δ Γ (0) (0) 12 [(0, .int v0), (2, va_rf v2), (5, .int v1)] [.int j1] σ := by
    refine g_istore B dJ6_getChars_ba4f3_12 (Nat.le_of_ble_eq_true rfl) (s1_c (f1_k rfl (f1_k rfl (f1_1 rfl rfl f1_n)))) ?_
    refine g_iload B 0 dJ6_getChars_ba4f3_14 rfl ?_
    replace h := bnP_s h
    obtain ⟨j6, h7, h⟩ := h
    have k9 : GW Δ Γ (0) (0) 22 [(0, .int j6), (2, va_rf v2), (5, .int v1), (6, .int j1)] [] σ := by
      replace h := bnS_s h
      obtain ⟨r12, s31, h13, h⟩ := h
      have kE14 : GW Δ Γ (0) (0) 72 [(0, .int r12.1), (2, va_rf v2), (5, .int r12.2), (6, .int j1)] [] s31 := by
        refine g_aload_n B 1 dJ6_getChars_ba4f3_72 rfl rfl ?_
        refine g_iinc (v := (r12.2 + (-1))) B 2 dJ6_getChars_ba4f3_73 rfl (by first | rfl | (congr 1; decide)) (Nat.le_of_ble_eq_true rfl) (s1_c (f1_k rfl (f1_k rfl (f1_x (f1_k rfl f1_n))))) ?_
        refine g_iload B 0 dJ6_getChars_ba4f3_76 rfl ?_
        refine g_gstO B sv_RJ6_83 dJ6_getChars_ba4f3_78 ?_
        refine g_iload_n B 1 dJ6_getChars_ba4f3_81 rfl rfl ?_
        refine g_ineg B dJ6_getChars_ba4f3_82 ?_
        replace h := bnP_s h
        obtain ⟨x32, h33, h⟩ := h
        refine g_bald B dJ6_getChars_ba4f3_83 h33 ?_
        replace h := bnP_s h
        obtain ⟨s36, h35, h⟩ := h
        refine g_bast B dJ6_getChars_ba4f3_84 h35 ?_
        refine g_iload_n B 1 dJ6_getChars_ba4f3_85 rfl rfl ?_
        refine g_bipush (v := (-9)) B dJ6_getChars_ba4f3_86 (by decide) ?_
        replace h := bnS_s h
        obtain ⟨j37, s47, h38, h⟩ := h
        have k40 : GW Δ Γ (0) (0) 104 [(2, va_rf v2), (5, .int j37), (6, .int j1)] [] s47 := by
          refine g_iload B 2 dJ6_getChars_ba4f3_104 rfl ?_
          refine g_if_eq B 118 dJ6_getChars_ba4f3_106 (by decide) (fun hc => ?_) (fun hc => ?_)
          · replace h := ifp hc h
            refine g_iload B 1 dJ6_getChars_ba4f3_118 rfl ?_
            obtain ⟨w1, w2⟩ := inS h
            clear h
            subst w1
            subst w2
            exact g_iret B hE (Nat.zero_le _) (Nat.zero_le _) dJ6_getChars_ba4f3_120
          · replace h := ifn hc h
            refine g_aload_n B 0 dJ6_getChars_ba4f3_109 rfl rfl ?_
            refine g_iinc (v := (j37 + (-1))) B 1 dJ6_getChars_ba4f3_110 rfl (by first | rfl | (congr 1; decide)) (Nat.le_of_ble_eq_true rfl) (s1_c (f1_k rfl (f1_x (f1_k rfl f1_n)))) ?_
            refine g_iload B 0 dJ6_getChars_ba4f3_113 rfl ?_
            refine g_bipush (v := 45) B dJ6_getChars_ba4f3_115 (by decide) ?_
            replace h := bnP_s h
            obtain ⟨s50, h49, h⟩ := h
            refine g_bast B dJ6_getChars_ba4f3_117 h49 ?_
            refine g_iload B 0 dJ6_getChars_ba4f3_118 rfl ?_
            obtain ⟨w1, w2⟩ := inS h
            clear h
            subst w1
            subst w2
            exact g_iret B hE (Nat.zero_le _) (Nat.zero_le _) dJ6_getChars_ba4f3_120
        clear h
        have h := h38
        clear h38
        refine g_icmp_ge B 104 dJ6_getChars_ba4f3_88 (by decide) (fun hc => ?_) (fun hc => ?_)
        · replace h := ifp hc h
          obtain ⟨w1, w2⟩ := inS h
          clear h
          subst w1
          subst w2
          exact g_sub [2, 0, 3] rfl k40
        · replace h := ifn hc h
          refine g_aload_n B 2 dJ6_getChars_ba4f3_91 rfl rfl ?_
          refine g_iinc (v := ((r12.2 + (-1)) + (-1))) B 0 dJ6_getChars_ba4f3_92 rfl (by first | rfl | (congr 1; decide)) (Nat.le_of_ble_eq_true rfl) (s1_c (f1_x (f1_k rfl (f1_k rfl (f1_k rfl f1_n))))) ?_
          refine g_iload B 0 dJ6_getChars_ba4f3_95 rfl ?_
          refine g_gstT B sv_RJ6_87 dJ6_getChars_ba4f3_97 ?_
          refine g_iload_n B 1 dJ6_getChars_ba4f3_100 rfl rfl ?_
          refine g_ineg B dJ6_getChars_ba4f3_101 ?_
          replace h := bnP_s h
          obtain ⟨x42, h43, h⟩ := h
          refine g_bald B dJ6_getChars_ba4f3_102 h43 ?_
          replace h := bnP_s h
          obtain ⟨s46, h45, h⟩ := h
          refine g_bast B dJ6_getChars_ba4f3_103 h45 ?_
          obtain ⟨w1, w2⟩ := inS h
          clear h
          subst w1
          subst w2
          exact g_sub [2, 0, 3] rfl k40
      clear h
      refine g_sub [0, 1, 2, 3] rfl ?_
      refine lpS_w (I := fun q11 s20 => GW Δ Γ (0) (0) 22 [(0, .int q11.1), (2, va_rf v2), (5, .int q11.2), (6, .int j1)] [] s20) (r := r12) (σr := s31) ?_ FUEL (j6, v1) σ h13
      intro q11 s20 x18 s9 h hI16 hR17
      unfold fJ6_getChars_ba4f3_l1 at h
      refine g_iload_n B 0 dJ6_getChars_ba4f3_22 rfl rfl ?_
      refine g_bipush (v := (-100)) B dJ6_getChars_ba4f3_23 (by decide) ?_
      refine g_icmp_gt B 72 dJ6_getChars_ba4f3_25 (by decide) (fun hc => ?_) (fun hc => ?_)
      · replace h := ifp hc h
        obtain ⟨w1, w2⟩ := inS h
        clear h
        subst w1
        subst w2
        obtain ⟨e8, e7⟩ := hR17 _ rfl
        subst e8
        subst e7
        exact g_sub [0, 1, 2, 3] rfl kE14
      · replace h := ifn hc h
        refine g_iload_n B 0 dJ6_getChars_ba4f3_28 rfl rfl ?_
        refine g_bipush (v := 100) B dJ6_getChars_ba4f3_29 (by decide) ?_
        refine g_idiv B dJ6_getChars_ba4f3_31 (by decide) ?_
        refine g_istore_n B dJ6_getChars_ba4f3_32 rfl (Nat.le_of_ble_eq_true rfl) (s1_c (f1_k rfl (f1_1 rfl (rf_cat _) (f1_k rfl (f1_k rfl f1_n))))) ?_
        refine g_iload_n B 0 dJ6_getChars_ba4f3_33 rfl rfl ?_
        refine g_bipush (v := 100) B dJ6_getChars_ba4f3_34 (by decide) ?_
        refine g_imul B dJ6_getChars_ba4f3_36 ?_
        refine g_iload_n B 1 dJ6_getChars_ba4f3_37 rfl rfl ?_
        refine g_isub B dJ6_getChars_ba4f3_38 ?_
        refine g_istore B dJ6_getChars_ba4f3_39 (Nat.le_of_ble_eq_true rfl) (s1_c (f1_1 rfl rfl (f1_k rfl (f1_k rfl (f1_k rfl (f1_k rfl f1_n)))))) ?_
        refine g_iload_n B 1 dJ6_getChars_ba4f3_41 rfl rfl ?_
        refine g_istore_n B dJ6_getChars_ba4f3_42 rfl (Nat.le_of_ble_eq_true rfl) (s1_c (f1_k rfl (f1_k rfl (f1_x (f1_k rfl (f1_k rfl (f1_k rfl f1_n))))))) ?_
        refine g_aload_n B 3 dJ6_getChars_ba4f3_43 rfl rfl ?_
        refine g_iinc (v := (q11.2 + (-1))) B 4 dJ6_getChars_ba4f3_44 rfl (by first | rfl | (congr 1; decide)) (Nat.le_of_ble_eq_true rfl) (s1_c (f1_k rfl (f1_1 rfl rfl (f1_k rfl (f1_k rfl (f1_x (f1_k rfl f1_n))))))) ?_
        refine g_iload B 0 dJ6_getChars_ba4f3_47 rfl ?_
        refine g_gstO B sv_RJ6_83 dJ6_getChars_ba4f3_49 ?_
        refine g_iload B 2 dJ6_getChars_ba4f3_52 rfl ?_
        replace h := bnP_s h
        obtain ⟨x21, h22, h⟩ := h
        refine g_bald B dJ6_getChars_ba4f3_54 h22 ?_
        replace h := bnP_s h
        obtain ⟨s25, h24, h⟩ := h
        refine g_bast B dJ6_getChars_ba4f3_55 h24 ?_
        refine g_aload_n B 4 dJ6_getChars_ba4f3_56 rfl rfl ?_
        refine g_iinc (v := ((q11.2 + (-1)) + (-1))) B 0 dJ6_getChars_ba4f3_57 rfl (by first | rfl | (congr 1; decide)) (Nat.le_of_ble_eq_true rfl) (s1_c (f1_x (f1_k rfl (f1_1 rfl rfl (f1_k rfl (f1_k rfl (f1_k rfl f1_n))))))) ?_
        refine g_iload B 0 dJ6_getChars_ba4f3_60 rfl ?_
        refine g_gstT B sv_RJ6_87 dJ6_getChars_ba4f3_62 ?_
        refine g_iload B 2 dJ6_getChars_ba4f3_65 rfl ?_
        replace h := bnP_s h
        obtain ⟨x26, h27, h⟩ := h
        refine g_bald B dJ6_getChars_ba4f3_67 h27 ?_
        replace h := bnP_s h
        obtain ⟨s30, h29, h⟩ := h
        refine g_bast B dJ6_getChars_ba4f3_68 h29 ?_
        refine g_goto B 22 dJ6_getChars_ba4f3_69 (by decide) ?_
        obtain ⟨w1, w2⟩ := inS h
        clear h
        subst w1
        subst w2
        exact g_sub [1, 4, 0, 5] rfl (hI16 _ rfl)
    clear h
    have h := h7
    clear h7
    refine g_if_ne B 22 dJ6_getChars_ba4f3_16 (by decide) (fun hc => ?_) (fun hc => ?_)
    · replace h := ifn hc h
      replace h := Option.some.inj h
      subst h
      exact g_sub [1, 2, 3, 0] rfl k9
    · replace h := ifp hc h
      refine g_iload_n B 1 dJ6_getChars_ba4f3_19 rfl rfl ?_
      refine g_ineg B dJ6_getChars_ba4f3_20 ?_
      refine g_istore_n B dJ6_getChars_ba4f3_21 rfl (Nat.le_of_ble_eq_true rfl) (s1_c (f1_k rfl (f1_x (f1_k rfl (f1_k rfl f1_n))))) ?_
      replace h := Option.some.inj h
      subst h
      exact g_sub [0, 2, 3, 1] rfl k9
  clear h
  have h := h2
  clear h2
  refine g_if_ge B 11 dJ6_getChars_ba4f3_4 (by decide) (fun hc => ?_) (fun hc => ?_)
  · replace h := ifp hc h
    refine g_iconst (v := 0) B dJ6_getChars_ba4f3_11 (by decide) ?_
    replace h := Option.some.inj h
    subst h
    exact g_sub [1, 3, 0] rfl k4
  · replace h := ifn hc h
    refine g_iconst (v := 1) B dJ6_getChars_ba4f3_7 (by decide) ?_
    refine g_goto B 12 dJ6_getChars_ba4f3_8 (by decide) ?_
    replace h := Option.some.inj h
    subst h
    exact g_sub [1, 3, 0] rfl k4
set_option maxRecDepth 100000 in
set_option maxHeartbeats 4000000 in
theorem cJ5_append_c97b9c {l : Launch} {v0 : Option Nat} {v1 : Int32} {σ : HpT} {o : Except Nat (Option Nat)} {σ' : HpT} {a b : Nat} (h : fJ5_append_c97b9 v0 v1 σ = some (o, σ', a, b)) : IsK σ v0 11 ∧ Ct l yJ5_append_c97b9 cJ5_append_c97b9 4 (some (.object "java/lang/AbstractStringBuilder")) 4 104 [va_rf v0, .int v1] σ (oA o) σ' a b := by
  unfold fJ5_append_c97b9 at h
  replace h := bnP_s h
  obtain ⟨u, hk, h⟩ := h
  replace hk := isK_s hk
  refine ⟨hk, ?_⟩
  refine ct_start mi_J5_append_c97b9.1 rfl (al_le (al_1 (rf_cat _) (al_1 rfl al_n)) (Nat.le_of_ble_eq_true rfl)) (ag_1 (rf_cat _) (ag_1 rfl ag_n)) (fun Δ Γ B hE hnm => ?_)
  have hka : 0 + a = a := Nat.zero_add a
  have hkb : 0 + b = b := Nat.zero_add b
  have hla : a ≤ a := Nat.le_refl a
  have hlb : b ≤ b := Nat.le_refl b
  refine g_aload_n B 0 dJ5_append_c97b9_0 rfl rfl ?_
  replace h := bnP_s h
  obtain ⟨x1, h2, h⟩ := h
  refine g_getI B fl_RJ5_79 (by decide) dJ5_append_c97b9_1 h2 ?_
  refine g_istore_n B dJ5_append_c97b9_4 rfl (Nat.le_of_ble_eq_true rfl) (s1_c (f1_k rfl (f1_1 rfl rfl f1_n))) ?_
  refine g_iload_n B 0 dJ5_append_c97b9_5 rfl rfl ?_
  refine g_iload_n B 2 dJ5_append_c97b9_6 rfl rfl ?_
  replace h := bnP_s h
  obtain ⟨x3, h4, h⟩ := h
  refine g_callSs0 (st := [.int x1]) B (cJ6_stringSize_0f7a4c h4) mi_J6_stringSize_0f7a4 lk_RJ5_245 ⟨Nat.le_of_ble_eq_true rfl, Nat.le_of_ble_eq_true rfl⟩ rfl rfl (Nat.le_of_ble_eq_true rfl) dJ5_append_c97b9_7 (Nat.le_trans (bm hka) hla) (Nat.le_trans (bm hkb) hlb) ?_
  refine g_iadd B dJ5_append_c97b9_10 ?_
  refine g_istore_n B dJ5_append_c97b9_11 rfl (Nat.le_of_ble_eq_true rfl) (s1_c (f1_1 rfl rfl (f1_k rfl (f1_k rfl f1_n)))) ?_
  refine g_aload_n B 2 dJ5_append_c97b9_12 rfl rfl ?_
  refine g_iload_n B 0 dJ5_append_c97b9_13 rfl rfl ?_
  replace h := bnA_s h
  rcases h with ⟨e9, h6, e8⟩ | ⟨x5, s7, a8, b9, a10, b11, h6, h, ea, eb⟩
  · subst e8
    exact g_callVcx (st := []) B (cJ5_ensureCapacityInternal_d00dfc h6) (Nat.le_of_ble_eq_true rfl) rfl mi_J5_ensureCapacityInternal_d00df lk_RJ5_100 ⟨Nat.le_of_ble_eq_true rfl, Nat.le_of_ble_eq_true rfl⟩ rfl rfl (Nat.le_of_ble_eq_true rfl) dJ5_append_c97b9_14 (Nat.le_trans (Nat.le_of_eq hka) hla) (Nat.le_trans (Nat.le_of_eq hkb) hlb) hE
  · subst ea; subst eb
    have hka := bk hka
    have hkb := bk hkb
    refine g_callVcvA (st := []) B (cJ5_ensureCapacityInternal_d00dfc h6) (Nat.le_of_ble_eq_true rfl) rfl mi_J5_ensureCapacityInternal_d00df lk_RJ5_100 ⟨Nat.le_of_ble_eq_true rfl, Nat.le_of_ble_eq_true rfl⟩ rfl rfl (Nat.le_of_ble_eq_true rfl) dJ5_append_c97b9_14 (Nat.le_trans (bm hka) hla) (Nat.le_trans (bm hkb) hlb) ?_
    refine g_aload_n B 2 dJ5_append_c97b9_17 rfl rfl ?_
    replace h := bnP_s h
    obtain ⟨x12, h13, h⟩ := h
    refine g_callVcs0 (st := []) B (cJ5_isLatin1_aae02c h13) (Nat.le_of_ble_eq_true rfl) rfl mi_J5_isLatin1_aae02 lk_RJ5_83 ⟨Nat.le_of_ble_eq_true rfl, Nat.le_of_ble_eq_true rfl⟩ rfl rfl (Nat.le_of_ble_eq_true rfl) dJ5_append_c97b9_18 (Nat.le_trans (bm hka) hla) (Nat.le_trans (bm hkb) hlb) ?_
    replace h := bnS_s h
    obtain ⟨j14, s26, h15, h⟩ := h
    have k17 : GW Δ Γ (0 + a8) (0 + b9) 48 [(0, va_rf v0), (3, .int (x1 + x3))] [] s26 := by
      refine g_aload_n B 0 dJ5_append_c97b9_48 rfl rfl ?_
      refine g_iload_n B 1 dJ5_append_c97b9_49 rfl rfl ?_
      replace h := bnP_s h
      obtain ⟨s29, h28, h⟩ := h
      refine g_putI B fl_RJ5_79 (by decide) dJ5_append_c97b9_50 h28 ?_
      refine g_aload_n B 0 dJ5_append_c97b9_53 rfl rfl ?_
      obtain ⟨w1, w2, w3, w4⟩ := inA h
      clear h
      subst w1
      subst w2
      subst w3
      subst w4
      exact g_aret B hE (Or.inl ⟨_, rfl⟩) (Nat.le_trans (Nat.le_of_eq hka) hla) (Nat.le_trans (Nat.le_of_eq hkb) hlb) dJ5_append_c97b9_54
    clear h
    have h := h15
    clear h15
    refine g_if_eq B 37 dJ5_append_c97b9_21 (by decide) (fun hc => ?_) (fun hc => ?_)
    · replace h := ifn (bI0 hc) h
      refine g_iload_n B 3 dJ5_append_c97b9_37 rfl rfl ?_
      refine g_iload_n B 1 dJ5_append_c97b9_38 rfl rfl ?_
      refine g_iload_n B 0 dJ5_append_c97b9_39 rfl rfl ?_
      refine g_aload_n B 2 dJ5_append_c97b9_40 rfl rfl ?_
      replace h := bnP_s h
      obtain ⟨x19, h20, h⟩ := h
      refine g_getR B fl_RJ5_15 (by decide) dJ5_append_c97b9_41 h20 ?_
      cases h
    · replace h := ifp (bI1 hc) h
      refine g_iload_n B 3 dJ5_append_c97b9_24 rfl rfl ?_
      refine g_iload_n B 0 dJ5_append_c97b9_25 rfl rfl ?_
      refine g_aload_n B 2 dJ5_append_c97b9_26 rfl rfl ?_
      replace h := bnP_s h
      obtain ⟨x21, h22, h⟩ := h
      refine g_getR B fl_RJ5_15 (by decide) dJ5_append_c97b9_27 h22 ?_
      replace h := bnS_s h
      obtain ⟨x23, s25, h24, h⟩ := h
      refine g_callSs0 (st := []) B (cJ6_getChars_ba4f3c h24) mi_J6_getChars_ba4f3 lk_RJ5_248 ⟨Nat.le_of_ble_eq_true rfl, Nat.le_of_ble_eq_true rfl⟩ rfl rfl (Nat.le_of_ble_eq_true rfl) dJ5_append_c97b9_30 (Nat.le_trans (bm hka) hla) (Nat.le_trans (bm hkb) hlb) ?_
      refine g_pop B dJ5_append_c97b9_33 rfl ?_
      refine g_goto B 48 dJ5_append_c97b9_34 (by decide) ?_
      obtain ⟨w1, w2⟩ := inS h
      clear h
      subst w1
      subst w2
      exact g_sub [2, 0] rfl k17
set_option maxRecDepth 100000 in
set_option maxHeartbeats 4000000 in
theorem cJ4_append_bf812c {l : Launch} {v0 : Option Nat} {v1 : Int32} {σ : HpT} {o : Except Nat (Option Nat)} {σ' : HpT} {a b : Nat} (h : fJ4_append_bf812 v0 v1 σ = some (o, σ', a, b)) : IsK σ v0 11 ∧ Ct l yJ4_append_bf812 cJ4_append_bf812 2 (some (.object "java/lang/StringBuilder")) 5 127 [va_rf v0, .int v1] σ (oA o) σ' a b := by
  unfold fJ4_append_bf812 at h
  replace h := bnP_s h
  obtain ⟨u, hk, h⟩ := h
  replace hk := isK_s hk
  refine ⟨hk, ?_⟩
  refine ct_start mi_J4_append_bf812.1 rfl (al_le (al_1 (rf_cat _) (al_1 rfl al_n)) (Nat.le_of_ble_eq_true rfl)) (ag_1 (rf_cat _) (ag_1 rfl ag_n)) (fun Δ Γ B hE hnm => ?_)
  have hka : 0 + a = a := Nat.zero_add a
  have hkb : 0 + b = b := Nat.zero_add b
  have hla : a ≤ a := Nat.le_refl a
  have hlb : b ≤ b := Nat.le_refl b
  refine g_aload_n B 0 dJ4_append_bf812_0 rfl rfl ?_
  refine g_iload_n B 1 dJ4_append_bf812_1 rfl rfl ?_
  replace h := bnA_s h
  rcases h with ⟨e9, h2, e8⟩ | ⟨x1, s3, a4, b5, a6, b7, h2, h, ea, eb⟩
  · subst e8
    exact g_callSUx (st := []) B (cJ5_append_c97b9c h2) (Nat.le_of_ble_eq_true rfl) rfl mi_J5_append_c97b9 lk_RJ4_53 ⟨Nat.le_of_ble_eq_true rfl, Nat.le_of_ble_eq_true rfl⟩ rfl rfl (Nat.le_of_ble_eq_true rfl) dJ4_append_bf812_2 (Nat.le_trans (Nat.le_of_eq hka) hla) (Nat.le_trans (Nat.le_of_eq hkb) hlb) hE
  · subst ea; subst eb
    have hka := bk hka
    have hkb := bk hkb
    refine g_callSUsA (st := []) B (cJ5_append_c97b9c h2) (Nat.le_of_ble_eq_true rfl) rfl mi_J5_append_c97b9 lk_RJ4_53 ⟨Nat.le_of_ble_eq_true rfl, Nat.le_of_ble_eq_true rfl⟩ rfl rfl (Nat.le_of_ble_eq_true rfl) dJ4_append_bf812_2 (Nat.le_trans (bm hka) hla) (Nat.le_trans (bm hkb) hlb) ?_
    refine g_pop B dJ4_append_bf812_5 (rf_cat _) ?_
    refine g_aload_n B 0 dJ4_append_bf812_6 rfl rfl ?_
    obtain ⟨w1, w2, w3, w4⟩ := inA h
    clear h
    subst w1
    subst w2
    subst w3
    subst w4
    exact g_aret B hE (Or.inl ⟨_, rfl⟩) (Nat.le_trans (Nat.le_of_eq hka) hla) (Nat.le_trans (Nat.le_of_eq hkb) hlb) dJ4_append_bf812_7
set_option maxRecDepth 100000 in
set_option maxHeartbeats 4000000 in
theorem cJ5_charAt_5068ec {l : Launch} {v0 : Option Nat} {v1 : Int32} {σ : HpT} {r : Int32} (h : fJ5_charAt_5068e v0 v1 σ = some r) : IsK σ v0 11 ∧ Ct l yJ5_charAt_5068e cJ5_charAt_5068e 5 (some .char) 2 43 [va_rf v0, .int v1] σ (.ok (some (.int r))) σ 0 0 := by
  unfold fJ5_charAt_5068e at h
  replace h := bnP_s h
  obtain ⟨u, hk, h⟩ := h
  replace hk := isK_s hk
  refine ⟨hk, ?_⟩
  refine ct_start mi_J5_charAt_5068e.1 rfl (al_le (al_1 (rf_cat _) (al_1 rfl al_n)) (Nat.le_of_ble_eq_true rfl)) (ag_1 (rf_cat _) (ag_1 rfl ag_n)) (fun Δ Γ B hE hnm => ?_)
  refine g_aload_n B 0 dJ5_charAt_5068e_0 rfl rfl ?_
  replace h := bnP_s h
  obtain ⟨x1, h2, h⟩ := h
  refine g_getI B fl_RJ5_22 (by decide) dJ5_charAt_5068e_1 h2 ?_
  refine g_istore_n B dJ5_charAt_5068e_4 rfl (Nat.le_of_ble_eq_true rfl) (s1_c (f1_k rfl (f1_1 rfl rfl f1_n))) ?_
  refine g_aload_n B 1 dJ5_charAt_5068e_5 rfl rfl ?_
  replace h := bnP_s h
  obtain ⟨x3, h4, h⟩ := h
  refine g_getR B fl_RJ5_15 (by decide) dJ5_charAt_5068e_6 h4 ?_
  refine g_astore_n B dJ5_charAt_5068e_9 rfl (Nat.le_of_ble_eq_true rfl) (s1_c (f1_1 rfl rfl (f1_k rfl (f1_k rfl f1_n)))) ?_
  refine g_aload_n B 2 dJ5_charAt_5068e_10 rfl rfl ?_
  replace h := bnP_s h
  obtain ⟨x5, h6, h⟩ := h
  refine g_getI B fl_RJ5_79 (by decide) dJ5_charAt_5068e_11 h6 ?_
  refine g_aload_n B 0 dJ5_charAt_5068e_14 rfl rfl ?_
  replace h := bnP_s h
  obtain ⟨x7, h8, h⟩ := h
  refine g_alen B (κ := 22) (by decide) dJ5_charAt_5068e_15 h8 ?_
  refine g_iload_n B 1 dJ5_charAt_5068e_16 rfl rfl ?_
  refine g_ishr B dJ5_charAt_5068e_17 ?_
  refine g_mmin B mt_RJ5_138 (by decide) (Nat.le_of_ble_eq_true rfl) dJ5_charAt_5068e_18 (Nat.zero_le _) (Nat.zero_le _) ?_
  refine g_istore B dJ5_charAt_5068e_21 (Nat.le_of_ble_eq_true rfl) (s1_c (f1_1 rfl (rf_cat _) (f1_k rfl (f1_k rfl (f1_k rfl f1_n))))) ?_
  refine g_iload_n B 4 dJ5_charAt_5068e_23 rfl rfl ?_
  refine g_iload B 0 dJ5_charAt_5068e_24 rfl ?_
  replace h := bnP_s h
  obtain ⟨x9, h10, h⟩ := h
  refine g_callSv0 (st := []) B (cJ0_checkIndex_df160c h10) mi_J0_checkIndex_df160 lk_RJ5_144 ⟨Nat.le_of_ble_eq_true rfl, Nat.le_of_ble_eq_true rfl⟩ rfl rfl (Nat.le_of_ble_eq_true rfl) dJ5_charAt_5068e_26 (Nat.zero_le _) (Nat.zero_le _) ?_
  refine g_iload_n B 2 dJ5_charAt_5068e_29 rfl rfl ?_
  refine g_if_ne B 42 dJ5_charAt_5068e_30 (by decide) (fun hc => ?_) (fun hc => ?_)
  · replace h := ifn hc h
    refine g_aload_n B 1 dJ5_charAt_5068e_42 rfl rfl ?_
    refine g_iload_n B 4 dJ5_charAt_5068e_43 rfl rfl ?_
    cases h
  · replace h := ifp hc h
    refine g_aload_n B 1 dJ5_charAt_5068e_33 rfl rfl ?_
    refine g_iload_n B 4 dJ5_charAt_5068e_34 rfl rfl ?_
    replace h := bnP_s h
    obtain ⟨x11, h12, h⟩ := h
    refine g_bald B dJ5_charAt_5068e_35 h12 ?_
    refine g_sipush (v := 255) B dJ5_charAt_5068e_36 (by decide) ?_
    refine g_iand B dJ5_charAt_5068e_39 ?_
    refine g_i2c B dJ5_charAt_5068e_40 ?_
    replace h := bnP_s h
    obtain ⟨u14, h13, h⟩ := h
    replace h := Option.some.inj h
    subst h
    exact g_zret B hE (nrC_s h13) (Nat.zero_le _) (Nat.zero_le _) dJ5_charAt_5068e_41
set_option maxRecDepth 100000 in
set_option maxHeartbeats 4000000 in
theorem cJ4_charAt_5068ec {l : Launch} {v0 : Option Nat} {v1 : Int32} {σ : HpT} {r : Int32} (h : fJ4_charAt_5068e v0 v1 σ = some r) : IsK σ v0 11 ∧ Ct l yJ4_charAt_5068e cJ4_charAt_5068e 2 (some .char) 3 67 [va_rf v0, .int v1] σ (.ok (some (.int r))) σ 0 0 := by
  unfold fJ4_charAt_5068e at h
  replace h := bnP_s h
  obtain ⟨u, hk, h⟩ := h
  replace hk := isK_s hk
  refine ⟨hk, ?_⟩
  refine ct_start mi_J4_charAt_5068e.1 rfl (al_le (al_1 (rf_cat _) (al_1 rfl al_n)) (Nat.le_of_ble_eq_true rfl)) (ag_1 (rf_cat _) (ag_1 rfl ag_n)) (fun Δ Γ B hE hnm => ?_)
  refine g_aload_n B 0 dJ4_charAt_5068e_0 rfl rfl ?_
  refine g_iload_n B 1 dJ4_charAt_5068e_1 rfl rfl ?_
  replace h := bnP_s h
  obtain ⟨x1, h2, h⟩ := h
  refine g_callSUs0 (st := []) B (cJ5_charAt_5068ec h2) (Nat.le_of_ble_eq_true rfl) rfl mi_J5_charAt_5068e lk_RJ4_329 ⟨Nat.le_of_ble_eq_true rfl, Nat.le_of_ble_eq_true rfl⟩ rfl rfl (Nat.le_of_ble_eq_true rfl) dJ4_charAt_5068e_2 (Nat.zero_le _) (Nat.zero_le _) ?_
  replace h := bnP_s h
  obtain ⟨u4, h3, h⟩ := h
  replace h := Option.some.inj h
  subst h
  exact g_zret B hE (nrC_s h3) (Nat.zero_le _) (Nat.zero_le _) dJ4_charAt_5068e_5
end
