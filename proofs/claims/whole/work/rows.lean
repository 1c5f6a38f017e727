section
/-- a private method of a class that the tables say can be made, by its rows of tables_1 -/
def lw_okq (q : MethodName × Nat) : Prop := (q.1.cls ≠ "java/lang/invoke/MethodHandle" ∧ q.1.cls ≠ "java/lang/invoke/VarHandle") ∧ Cond.instantiable q.1.cls q.2 ∈ tables_1 ∧ Cond.privateMethod q.1 ∈ tables_1 ∧ Cond.instanceMethod q.1 ∈ tables_1
theorem lw_p0 : lw_okq (⟨"AddressGrammar", "readingOf", "(I)LAddressGrammar$Reading;"⟩, 10) := ⟨⟨by decide +kernel, by decide +kernel⟩, List.mem_of_getElem? (i := 19) (by decide +kernel), List.mem_of_getElem? (i := 287) (by decide +kernel), List.mem_of_getElem? (i := 288) (by decide +kernel)⟩
theorem lw_p1 : lw_okq (⟨"AddressGrammar$Search", "reachAll", "()V"⟩, 15) := ⟨⟨by decide +kernel, by decide +kernel⟩, List.mem_of_getElem? (i := 110) (by decide +kernel), List.mem_of_getElem? (i := 299) (by decide +kernel), List.mem_of_getElem? (i := 300) (by decide +kernel)⟩
theorem lw_p2 : lw_okq (⟨"AddressGrammar$Search", "isReached", "(III)Z"⟩, 15) := ⟨⟨by decide +kernel, by decide +kernel⟩, List.mem_of_getElem? (i := 110) (by decide +kernel), List.mem_of_getElem? (i := 304) (by decide +kernel), List.mem_of_getElem? (i := 305) (by decide +kernel)⟩
theorem lw_p3 : lw_okq (⟨"AddressGrammar$Search", "reachFrom", "(III)V"⟩, 15) := ⟨⟨by decide +kernel, by decide +kernel⟩, List.mem_of_getElem? (i := 110) (by decide +kernel), List.mem_of_getElem? (i := 311) (by decide +kernel), List.mem_of_getElem? (i := 312) (by decide +kernel)⟩
theorem lw_p4 : lw_okq (⟨"AddressGrammar$Search", "stateBehind", "(III)I"⟩, 15) := ⟨⟨by decide +kernel, by decide +kernel⟩, List.mem_of_getElem? (i := 110) (by decide +kernel), List.mem_of_getElem? (i := 319) (by decide +kernel), List.mem_of_getElem? (i := 320) (by decide +kernel)⟩
theorem lw_p5 : lw_okq (⟨"AddressGrammar$Search", "reach", "(I)V"⟩, 15) := ⟨⟨by decide +kernel, by decide +kernel⟩, List.mem_of_getElem? (i := 110) (by decide +kernel), List.mem_of_getElem? (i := 327) (by decide +kernel), List.mem_of_getElem? (i := 328) (by decide +kernel)⟩
theorem lw_p6 : lw_okq (⟨"AddressGrammar$Search", "listPlaceValues", "()V"⟩, 15) := ⟨⟨by decide +kernel, by decide +kernel⟩, List.mem_of_getElem? (i := 110) (by decide +kernel), List.mem_of_getElem? (i := 340) (by decide +kernel), List.mem_of_getElem? (i := 341) (by decide +kernel)⟩
theorem lw_p7 : lw_okq (⟨"AddressGrammar$Search", "listPlaceValuesAt", "(II)V"⟩, 15) := ⟨⟨by decide +kernel, by decide +kernel⟩, List.mem_of_getElem? (i := 110) (by decide +kernel), List.mem_of_getElem? (i := 348) (by decide +kernel), List.mem_of_getElem? (i := 349) (by decide +kernel)⟩
theorem lw_p8 : lw_okq (⟨"AddressGrammar$Search", "listPlaceValue", "(I)V"⟩, 15) := ⟨⟨by decide +kernel, by decide +kernel⟩, List.mem_of_getElem? (i := 110) (by decide +kernel), List.mem_of_getElem? (i := 361) (by decide +kernel), List.mem_of_getElem? (i := 362) (by decide +kernel)⟩
theorem lw_p9 : lw_okq (⟨"AddressGrammar$Search", "assume", "(I)V"⟩, 15) := ⟨⟨by decide +kernel, by decide +kernel⟩, List.mem_of_getElem? (i := 110) (by decide +kernel), List.mem_of_getElem? (i := 365) (by decide +kernel), List.mem_of_getElem? (i := 366) (by decide +kernel)⟩
theorem lw_p10 : lw_okq (⟨"AddressGrammar$Search", "weigh", "(III)V"⟩, 15) := ⟨⟨by decide +kernel, by decide +kernel⟩, List.mem_of_getElem? (i := 110) (by decide +kernel), List.mem_of_getElem? (i := 369) (by decide +kernel), List.mem_of_getElem? (i := 370) (by decide +kernel)⟩
theorem lw_p11 : lw_okq (⟨"AddressGrammar$Search", "misfitCost", "(II)I"⟩, 15) := ⟨⟨by decide +kernel, by decide +kernel⟩, List.mem_of_getElem? (i := 110) (by decide +kernel), List.mem_of_getElem? (i := 378) (by decide +kernel), List.mem_of_getElem? (i := 379) (by decide +kernel)⟩
theorem lw_p12 : lw_okq (⟨"AddressGrammar$Search", "offer", "(IIII)V"⟩, 15) := ⟨⟨by decide +kernel, by decide +kernel⟩, List.mem_of_getElem? (i := 110) (by decide +kernel), List.mem_of_getElem? (i := 383) (by decide +kernel), List.mem_of_getElem? (i := 384) (by decide +kernel)⟩
theorem lw_p13 : lw_okq (⟨"AddressGrammar$Search", "keep", "(IIII)V"⟩, 15) := ⟨⟨by decide +kernel, by decide +kernel⟩, List.mem_of_getElem? (i := 110) (by decide +kernel), List.mem_of_getElem? (i := 387) (by decide +kernel), List.mem_of_getElem? (i := 388) (by decide +kernel)⟩
theorem lw_p14 : lw_okq (⟨"AddressGrammar$Search", "trace", "(I)V"⟩, 15) := ⟨⟨by decide +kernel, by decide +kernel⟩, List.mem_of_getElem? (i := 110) (by decide +kernel), List.mem_of_getElem? (i := 391) (by decide +kernel), List.mem_of_getElem? (i := 392) (by decide +kernel)⟩
theorem lw_p15 : lw_okq (⟨"AddressGrammar$Search", "admitCandidate", "()V"⟩, 15) := ⟨⟨by decide +kernel, by decide +kernel⟩, List.mem_of_getElem? (i := 110) (by decide +kernel), List.mem_of_getElem? (i := 407) (by decide +kernel), List.mem_of_getElem? (i := 408) (by decide +kernel)⟩
def lw_privs_1 : List (MethodName × Nat) := [(⟨"AddressGrammar", "readingOf", "(I)LAddressGrammar$Reading;"⟩, 10), (⟨"AddressGrammar$Search", "reachAll", "()V"⟩, 15), (⟨"AddressGrammar$Search", "isReached", "(III)Z"⟩, 15), (⟨"AddressGrammar$Search", "reachFrom", "(III)V"⟩, 15), (⟨"AddressGrammar$Search", "stateBehind", "(III)I"⟩, 15), (⟨"AddressGrammar$Search", "reach", "(I)V"⟩, 15), (⟨"AddressGrammar$Search", "listPlaceValues", "()V"⟩, 15), (⟨"AddressGrammar$Search", "listPlaceValuesAt", "(II)V"⟩, 15), (⟨"AddressGrammar$Search", "listPlaceValue", "(I)V"⟩, 15), (⟨"AddressGrammar$Search", "assume", "(I)V"⟩, 15), (⟨"AddressGrammar$Search", "weigh", "(III)V"⟩, 15), (⟨"AddressGrammar$Search", "misfitCost", "(II)I"⟩, 15), (⟨"AddressGrammar$Search", "offer", "(IIII)V"⟩, 15), (⟨"AddressGrammar$Search", "keep", "(IIII)V"⟩, 15), (⟨"AddressGrammar$Search", "trace", "(I)V"⟩, 15), (⟨"AddressGrammar$Search", "admitCandidate", "()V"⟩, 15)]
theorem lw_r1 : ∀ q ∈ lw_privs_1, lw_okq q := List.forall_mem_cons.mpr ⟨lw_p0, List.forall_mem_cons.mpr ⟨lw_p1, List.forall_mem_cons.mpr ⟨lw_p2, List.forall_mem_cons.mpr ⟨lw_p3, List.forall_mem_cons.mpr ⟨lw_p4, List.forall_mem_cons.mpr ⟨lw_p5, List.forall_mem_cons.mpr ⟨lw_p6, List.forall_mem_cons.mpr ⟨lw_p7, List.forall_mem_cons.mpr ⟨lw_p8, List.forall_mem_cons.mpr ⟨lw_p9, List.forall_mem_cons.mpr ⟨lw_p10, List.forall_mem_cons.mpr ⟨lw_p11, List.forall_mem_cons.mpr ⟨lw_p12, List.forall_mem_cons.mpr ⟨lw_p13, List.forall_mem_cons.mpr ⟨lw_p14, List.forall_mem_cons.mpr ⟨lw_p15, fun _ h => absurd h List.not_mem_nil⟩⟩⟩⟩⟩⟩⟩⟩⟩⟩⟩⟩⟩⟩⟩⟩
theorem lw_p16 : lw_okq (⟨"AddressGrammar", "putPart", "(II)V"⟩, 10) := ⟨⟨by decide +kernel, by decide +kernel⟩, List.mem_of_getElem? (i := 19) (by decide +kernel), List.mem_of_getElem? (i := 436) (by decide +kernel), List.mem_of_getElem? (i := 437) (by decide +kernel)⟩
theorem lw_p17 : lw_okq (⟨"AddressGrammar", "put", "(C)V"⟩, 10) := ⟨⟨by decide +kernel, by decide +kernel⟩, List.mem_of_getElem? (i := 19) (by decide +kernel), List.mem_of_getElem? (i := 489) (by decide +kernel), List.mem_of_getElem? (i := 490) (by decide +kernel)⟩
theorem lw_p18 : lw_okq (⟨"AddressGrammar$Form", "empty", "()V"⟩, 8) := ⟨⟨by decide +kernel, by decide +kernel⟩, List.mem_of_getElem? (i := 27) (by decide +kernel), List.mem_of_getElem? (i := 510) (by decide +kernel), List.mem_of_getElem? (i := 511) (by decide +kernel)⟩
theorem lw_p19 : lw_okq (⟨"AddressGrammar$Form", "take", "(C)Z"⟩, 8) := ⟨⟨by decide +kernel, by decide +kernel⟩, List.mem_of_getElem? (i := 27) (by decide +kernel), List.mem_of_getElem? (i := 514) (by decide +kernel), List.mem_of_getElem? (i := 515) (by decide +kernel)⟩
theorem lw_p20 : lw_okq (⟨"AddressGrammar$Form", "takeRowEnd", "()Z"⟩, 8) := ⟨⟨by decide +kernel, by decide +kernel⟩, List.mem_of_getElem? (i := 27) (by decide +kernel), List.mem_of_getElem? (i := 518) (by decide +kernel), List.mem_of_getElem? (i := 519) (by decide +kernel)⟩
theorem lw_p21 : lw_okq (⟨"AddressGrammar$Form", "takeMark", "()Z"⟩, 8) := ⟨⟨by decide +kernel, by decide +kernel⟩, List.mem_of_getElem? (i := 27) (by decide +kernel), List.mem_of_getElem? (i := 522) (by decide +kernel), List.mem_of_getElem? (i := 523) (by decide +kernel)⟩
theorem lw_p22 : lw_okq (⟨"AddressGrammar$Form", "takeDigit", "(I)Z"⟩, 8) := ⟨⟨by decide +kernel, by decide +kernel⟩, List.mem_of_getElem? (i := 27) (by decide +kernel), List.mem_of_getElem? (i := 526) (by decide +kernel), List.mem_of_getElem? (i := 527) (by decide +kernel)⟩
theorem lw_p23 : lw_okq (⟨"AddressGrammar$Form", "takePart", "(I)Z"⟩, 8) := ⟨⟨by decide +kernel, by decide +kernel⟩, List.mem_of_getElem? (i := 27) (by decide +kernel), List.mem_of_getElem? (i := 588) (by decide +kernel), List.mem_of_getElem? (i := 589) (by decide +kernel)⟩
theorem lw_p24 : lw_okq (⟨"java/lang/Throwable", "fillInStackTrace", "(I)Ljava/lang/Throwable;"⟩, 6) := ⟨⟨by decide +kernel, by decide +kernel⟩, List.mem_of_getElem? (i := 628) (by decide +kernel), List.mem_of_getElem? (i := 626) (by decide +kernel), List.mem_of_getElem? (i := 627) (by decide +kernel)⟩
theorem lw_p25 : lw_okq (⟨"AddressGrammarModel", "fault", "()I"⟩, 30) := ⟨⟨by decide +kernel, by decide +kernel⟩, List.mem_of_getElem? (i := 661) (by decide +kernel), List.mem_of_getElem? (i := 770) (by decide +kernel), List.mem_of_getElem? (i := 771) (by decide +kernel)⟩
theorem lw_p26 : lw_okq (⟨"AddressGrammarModel", "newKind", "(I)I"⟩, 30) := ⟨⟨by decide +kernel, by decide +kernel⟩, List.mem_of_getElem? (i := 661) (by decide +kernel), List.mem_of_getElem? (i := 774) (by decide +kernel), List.mem_of_getElem? (i := 775) (by decide +kernel)⟩
theorem lw_p27 : lw_okq (⟨"AddressGrammarModel", "isFit", "(III)Z"⟩, 30) := ⟨⟨by decide +kernel, by decide +kernel⟩, List.mem_of_getElem? (i := 661) (by decide +kernel), List.mem_of_getElem? (i := 798) (by decide +kernel), List.mem_of_getElem? (i := 799) (by decide +kernel)⟩
theorem lw_p28 : lw_okq (⟨"AddressGrammarModel", "isRank", "(I)Z"⟩, 30) := ⟨⟨by decide +kernel, by decide +kernel⟩, List.mem_of_getElem? (i := 661) (by decide +kernel), List.mem_of_getElem? (i := 806) (by decide +kernel), List.mem_of_getElem? (i := 807) (by decide +kernel)⟩
theorem lw_p29 : lw_okq (⟨"AddressGrammarModel", "look", "()V"⟩, 30) := ⟨⟨by decide +kernel, by decide +kernel⟩, List.mem_of_getElem? (i := 661) (by decide +kernel), List.mem_of_getElem? (i := 810) (by decide +kernel), List.mem_of_getElem? (i := 811) (by decide +kernel)⟩
theorem lw_p30 : lw_okq (⟨"AddressGrammarModel", "can", "(I)Z"⟩, 30) := ⟨⟨by decide +kernel, by decide +kernel⟩, List.mem_of_getElem? (i := 661) (by decide +kernel), List.mem_of_getElem? (i := 814) (by decide +kernel), List.mem_of_getElem? (i := 815) (by decide +kernel)⟩
theorem lw_p31 : lw_okq (⟨"AddressGrammarModel", "alternative", "(II)I"⟩, 30) := ⟨⟨by decide +kernel, by decide +kernel⟩, List.mem_of_getElem? (i := 661) (by decide +kernel), List.mem_of_getElem? (i := 818) (by decide +kernel), List.mem_of_getElem? (i := 819) (by decide +kernel)⟩
def lw_privs_2 : List (MethodName × Nat) := [(⟨"AddressGrammar", "putPart", "(II)V"⟩, 10), (⟨"AddressGrammar", "put", "(C)V"⟩, 10), (⟨"AddressGrammar$Form", "empty", "()V"⟩, 8), (⟨"AddressGrammar$Form", "take", "(C)Z"⟩, 8), (⟨"AddressGrammar$Form", "takeRowEnd", "()Z"⟩, 8), (⟨"AddressGrammar$Form", "takeMark", "()Z"⟩, 8), (⟨"AddressGrammar$Form", "takeDigit", "(I)Z"⟩, 8), (⟨"AddressGrammar$Form", "takePart", "(I)Z"⟩, 8), (⟨"java/lang/Throwable", "fillInStackTrace", "(I)Ljava/lang/Throwable;"⟩, 6), (⟨"AddressGrammarModel", "fault", "()I"⟩, 30), (⟨"AddressGrammarModel", "newKind", "(I)I"⟩, 30), (⟨"AddressGrammarModel", "isFit", "(III)Z"⟩, 30), (⟨"AddressGrammarModel", "isRank", "(I)Z"⟩, 30), (⟨"AddressGrammarModel", "look", "()V"⟩, 30), (⟨"AddressGrammarModel", "can", "(I)Z"⟩, 30), (⟨"AddressGrammarModel", "alternative", "(II)I"⟩, 30)]
theorem lw_r2 : ∀ q ∈ lw_privs_2, lw_okq q := List.forall_mem_cons.mpr ⟨lw_p16, List.forall_mem_cons.mpr ⟨lw_p17, List.forall_mem_cons.mpr ⟨lw_p18, List.forall_mem_cons.mpr ⟨lw_p19, List.forall_mem_cons.mpr ⟨lw_p20, List.forall_mem_cons.mpr ⟨lw_p21, List.forall_mem_cons.mpr ⟨lw_p22, List.forall_mem_cons.mpr ⟨lw_p23, List.forall_mem_cons.mpr ⟨lw_p24, List.forall_mem_cons.mpr ⟨lw_p25, List.forall_mem_cons.mpr ⟨lw_p26, List.forall_mem_cons.mpr ⟨lw_p27, List.forall_mem_cons.mpr ⟨lw_p28, List.forall_mem_cons.mpr ⟨lw_p29, List.forall_mem_cons.mpr ⟨lw_p30, List.forall_mem_cons.mpr ⟨lw_p31, fun _ h => absurd h List.not_mem_nil⟩⟩⟩⟩⟩⟩⟩⟩⟩⟩⟩⟩⟩⟩⟩⟩
theorem lw_p32 : lw_okq (⟨"AddressGrammarModel", "goes", "(I)Z"⟩, 30) := ⟨⟨by decide +kernel, by decide +kernel⟩, List.mem_of_getElem? (i := 661) (by decide +kernel), List.mem_of_getElem? (i := 822) (by decide +kernel), List.mem_of_getElem? (i := 823) (by decide +kernel)⟩
theorem lw_p33 : lw_okq (⟨"AddressGrammarModel", "keep", "()V"⟩, 30) := ⟨⟨by decide +kernel, by decide +kernel⟩, List.mem_of_getElem? (i := 661) (by decide +kernel), List.mem_of_getElem? (i := 826) (by decide +kernel), List.mem_of_getElem? (i := 827) (by decide +kernel)⟩
theorem lw_p34 : lw_okq (⟨"AddressGrammarModel", "extra", "(I)I"⟩, 30) := ⟨⟨by decide +kernel, by decide +kernel⟩, List.mem_of_getElem? (i := 661) (by decide +kernel), List.mem_of_getElem? (i := 830) (by decide +kernel), List.mem_of_getElem? (i := 831) (by decide +kernel)⟩
theorem lw_p35 : lw_okq (⟨"AddressGrammarModel", "valueOf", "(I)I"⟩, 30) := ⟨⟨by decide +kernel, by decide +kernel⟩, List.mem_of_getElem? (i := 661) (by decide +kernel), List.mem_of_getElem? (i := 834) (by decide +kernel), List.mem_of_getElem? (i := 835) (by decide +kernel)⟩
theorem lw_p36 : lw_okq (⟨"AddressGrammarModel", "there", "(I)I"⟩, 30) := ⟨⟨by decide +kernel, by decide +kernel⟩, List.mem_of_getElem? (i := 661) (by decide +kernel), List.mem_of_getElem? (i := 838) (by decide +kernel), List.mem_of_getElem? (i := 839) (by decide +kernel)⟩
theorem lw_p37 : lw_okq (⟨"AddressGrammarModel", "again", "(I)V"⟩, 30) := ⟨⟨by decide +kernel, by decide +kernel⟩, List.mem_of_getElem? (i := 661) (by decide +kernel), List.mem_of_getElem? (i := 852) (by decide +kernel), List.mem_of_getElem? (i := 853) (by decide +kernel)⟩
theorem lw_p38 : lw_okq (⟨"AddressGrammarModel", "mayMiss", "(I)Z"⟩, 30) := ⟨⟨by decide +kernel, by decide +kernel⟩, List.mem_of_getElem? (i := 661) (by decide +kernel), List.mem_of_getElem? (i := 860) (by decide +kernel), List.mem_of_getElem? (i := 861) (by decide +kernel)⟩
theorem lw_p39 : lw_okq (⟨"AddressGrammarModel", "takes", "(II)Z"⟩, 30) := ⟨⟨by decide +kernel, by decide +kernel⟩, List.mem_of_getElem? (i := 661) (by decide +kernel), List.mem_of_getElem? (i := 864) (by decide +kernel), List.mem_of_getElem? (i := 865) (by decide +kernel)⟩
theorem lw_p40 : lw_okq (⟨"AddressGrammarModel", "put", "(I)V"⟩, 30) := ⟨⟨by decide +kernel, by decide +kernel⟩, List.mem_of_getElem? (i := 661) (by decide +kernel), List.mem_of_getElem? (i := 872) (by decide +kernel), List.mem_of_getElem? (i := 873) (by decide +kernel)⟩
def lw_privs_3 : List (MethodName × Nat) := [(⟨"AddressGrammarModel", "goes", "(I)Z"⟩, 30), (⟨"AddressGrammarModel", "keep", "()V"⟩, 30), (⟨"AddressGrammarModel", "extra", "(I)I"⟩, 30), (⟨"AddressGrammarModel", "valueOf", "(I)I"⟩, 30), (⟨"AddressGrammarModel", "there", "(I)I"⟩, 30), (⟨"AddressGrammarModel", "again", "(I)V"⟩, 30), (⟨"AddressGrammarModel", "mayMiss", "(I)Z"⟩, 30), (⟨"AddressGrammarModel", "takes", "(II)Z"⟩, 30), (⟨"AddressGrammarModel", "put", "(I)V"⟩, 30)]
theorem lw_r3 : ∀ q ∈ lw_privs_3, lw_okq q := List.forall_mem_cons.mpr ⟨lw_p32, List.forall_mem_cons.mpr ⟨lw_p33, List.forall_mem_cons.mpr ⟨lw_p34, List.forall_mem_cons.mpr ⟨lw_p35, List.forall_mem_cons.mpr ⟨lw_p36, List.forall_mem_cons.mpr ⟨lw_p37, List.forall_mem_cons.mpr ⟨lw_p38, List.forall_mem_cons.mpr ⟨lw_p39, List.forall_mem_cons.mpr ⟨lw_p40, fun _ h => absurd h List.not_mem_nil⟩⟩⟩⟩⟩⟩⟩⟩⟩
def lw_privs : List (MethodName × Nat) := lw_privs_1 ++ (lw_privs_2 ++ (lw_privs_3))
def lw_tbl : List Cond := k2_sels lw_privs ++ tables_1
theorem lw_privs_ok : ∀ q ∈ lw_privs, lw_okq q := by
  show ∀ q ∈ lw_privs_1 ++ (lw_privs_2 ++ (lw_privs_3)), lw_okq q
  exact List.forall_mem_append.mpr ⟨lw_r1, List.forall_mem_append.mpr ⟨lw_r2, lw_r3⟩⟩
end
section
def nR0 : String := "AddressGrammar"
def nT0 : u_T := fun k => match k with
  | 0 => ("AddressGrammar", "text", "[C", true)
  | 1 => ("AddressGrammar", "textLength", "I", false)
  | 2 => ("AddressGrammar", "latestFault", "I", false)
  | 3 => ("AddressGrammar", "form", "LAddressGrammar$Form;", true)
  | 4 => ("AddressGrammar", "draft", "LAddressGrammar$Form;", true)
  | 5 => ("AddressGrammar", "lines", "LAddressGrammar$Lines;", true)
  | 6 => ("AddressGrammar", "pairs", "LAddressGrammar$Pairs;", true)
  | 7 => ("AddressGrammar", "search", "LAddressGrammar$Search;", true)
  | 8 => ("AddressGrammar", "printed", "[C", true)
  | _ => ("AddressGrammar", "printedLength", "I", false)
def nY0 : Nat → FieldType := fun k => match k with
  | 0 => (.array .char)
  | 1 => .int
  | 2 => .int
  | 3 => (.object "AddressGrammar$Form")
  | 4 => (.object "AddressGrammar$Form")
  | 5 => (.object "AddressGrammar$Lines")
  | 6 => (.object "AddressGrammar$Pairs")
  | 7 => (.object "AddressGrammar$Search")
  | 8 => (.array .char)
  | _ => .int
theorem nN0 : ∀ a, a < 10 → ∀ b, b < 10 → a ≠ b → (nT0 a).2.1 ≠ (nT0 b).2.1 := by decide +kernel
theorem nP0 : ∀ k, k < 10 → parseFieldDescriptor (nT0 k).2.2.1 = some (nY0 k) := by decide +kernel
def nR1 : String := "AddressGrammar$Form"
def nT1 : u_T := fun k => match k with
  | 0 => ("AddressGrammar$Form", "size", "I", false)
  | 1 => ("AddressGrammar$Form", "rows", "I", false)
  | 2 => ("AddressGrammar$Form", "kinds", "[I", true)
  | 3 => ("AddressGrammar$Form", "missingCosts", "[I", true)
  | 4 => ("AddressGrammar$Form", "rowEnds", "[Z", true)
  | 5 => ("AddressGrammar$Form", "used", "[Z", true)
  | 6 => ("AddressGrammar$Form", "partsInRow", "I", false)
  | _ => ("AddressGrammar$Form", "digits", "I", false)
def nY1 : Nat → FieldType := fun k => match k with
  | 0 => .int
  | 1 => .int
  | 2 => (.array .int)
  | 3 => (.array .int)
  | 4 => (.array .boolean)
  | 5 => (.array .boolean)
  | 6 => .int
  | _ => .int
theorem nN1 : ∀ a, a < 8 → ∀ b, b < 8 → a ≠ b → (nT1 a).2.1 ≠ (nT1 b).2.1 := by decide +kernel
theorem nP1 : ∀ k, k < 8 → parseFieldDescriptor (nT1 k).2.2.1 = some (nY1 k) := by decide +kernel
def nR2 : String := "AddressGrammar$Lines"
def nT2 : u_T := fun k => match k with
  | 0 => ("AddressGrammar$Lines", "count", "I", false)
  | 1 => ("AddressGrammar$Lines", "places", "[I", true)
  | 2 => ("AddressGrammar$Lines", "alternatives", "[I", true)
  | 3 => ("AddressGrammar$Lines", "kinds", "[I", true)
  | 4 => ("AddressGrammar$Lines", "values", "[I", true)
  | _ => ("AddressGrammar$Lines", "costs", "[I", true)
def nY2 : Nat → FieldType := fun k => match k with
  | 0 => .int
  | 1 => (.array .int)
  | 2 => (.array .int)
  | 3 => (.array .int)
  | 4 => (.array .int)
  | _ => (.array .int)
theorem nN2 : ∀ a, a < 6 → ∀ b, b < 6 → a ≠ b → (nT2 a).2.1 ≠ (nT2 b).2.1 := by decide +kernel
theorem nP2 : ∀ k, k < 6 → parseFieldDescriptor (nT2 k).2.2.1 = some (nY2 k) := by decide +kernel
def nR3 : String := "AddressGrammar$Pairs"
def nT3 : u_T := fun k => match k with
  | 0 => ("AddressGrammar$Pairs", "count", "I", false)
  | 1 => ("AddressGrammar$Pairs", "kinds", "[I", true)
  | 2 => ("AddressGrammar$Pairs", "values", "[I", true)
  | _ => ("AddressGrammar$Pairs", "others", "[I", true)
def nY3 : Nat → FieldType := fun k => match k with
  | 0 => .int
  | 1 => (.array .int)
  | 2 => (.array .int)
  | _ => (.array .int)
theorem nN3 : ∀ a, a < 4 → ∀ b, b < 4 → a ≠ b → (nT3 a).2.1 ≠ (nT3 b).2.1 := by decide +kernel
theorem nP3 : ∀ k, k < 4 → parseFieldDescriptor (nT3 k).2.2.1 = some (nY3 k) := by decide +kernel
def nR4 : String := "AddressGrammar$Search"
def nT4 : u_T := fun k => match k with
  | 0 => ("AddressGrammar$Search", "first", "LAddressGrammar$Reading;", false)
  | 1 => ("AddressGrammar$Search", "second", "LAddressGrammar$Reading;", false)
  | 2 => ("AddressGrammar$Search", "linesReached", "I", false)
  | 3 => ("AddressGrammar$Search", "candidate", "LAddressGrammar$Reading;", false)
  | 4 => ("AddressGrammar$Search", "found", "Z", false)
  | 5 => ("AddressGrammar$Search", "form", "LAddressGrammar$Form;", true)
  | 6 => ("AddressGrammar$Search", "lines", "LAddressGrammar$Lines;", true)
  | 7 => ("AddressGrammar$Search", "pairs", "LAddressGrammar$Pairs;", true)
  | 8 => ("AddressGrammar$Search", "reached", "[Z", true)
  | 9 => ("AddressGrammar$Search", "sums", "[I", true)
  | 10 => ("AddressGrammar$Search", "choices", "[I", true)
  | 11 => ("AddressGrammar$Search", "ranksBehind", "[I", true)
  | 12 => ("AddressGrammar$Search", "placeValues", "[I", true)
  | 13 => ("AddressGrammar$Search", "placeValueCount", "I", false)
  | _ => ("AddressGrammar$Search", "assumedPlace", "I", false)
def nY4 : Nat → FieldType := fun k => match k with
  | 0 => (.object "AddressGrammar$Reading")
  | 1 => (.object "AddressGrammar$Reading")
  | 2 => .int
  | 3 => (.object "AddressGrammar$Reading")
  | 4 => .boolean
  | 5 => (.object "AddressGrammar$Form")
  | 6 => (.object "AddressGrammar$Lines")
  | 7 => (.object "AddressGrammar$Pairs")
  | 8 => (.array .boolean)
  | 9 => (.array .int)
  | 10 => (.array .int)
  | 11 => (.array .int)
  | 12 => (.array .int)
  | 13 => .int
  | _ => .int
theorem nN4 : ∀ a, a < 15 → ∀ b, b < 15 → a ≠ b → (nT4 a).2.1 ≠ (nT4 b).2.1 := by decide +kernel
theorem nP4 : ∀ k, k < 15 → parseFieldDescriptor (nT4 k).2.2.1 = some (nY4 k) := by decide +kernel
def nR5 : String := "AddressGrammar$Reading"
def nT5 : u_T := fun k => match k with
  | 0 => ("AddressGrammar$Reading", "size", "I", false)
  | 1 => ("AddressGrammar$Reading", "total", "I", false)
  | 2 => ("AddressGrammar$Reading", "choiceCount", "I", false)
  | 3 => ("AddressGrammar$Reading", "choices", "[I", true)
  | _ => ("AddressGrammar$Reading", "facts", "[I", true)
def nY5 : Nat → FieldType := fun k => match k with
  | 0 => .int
  | 1 => .int
  | 2 => .int
  | 3 => (.array .int)
  | _ => (.array .int)
theorem nN5 : ∀ a, a < 5 → ∀ b, b < 5 → a ≠ b → (nT5 a).2.1 ≠ (nT5 b).2.1 := by decide +kernel
theorem nP5 : ∀ k, k < 5 → parseFieldDescriptor (nT5 k).2.2.1 = some (nY5 k) := by decide +kernel
def nR6 : String := "AddressGrammarModel"
def nT6 : u_T := fun k => match k with
  | 0 => ("AddressGrammarModel", "thrown", "I", false)
  | 1 => ("AddressGrammarModel", "size", "I", false)
  | 2 => ("AddressGrammarModel", "text", "[I", true)
  | 3 => ("AddressGrammarModel", "wrong", "I", false)
  | 4 => ("AddressGrammarModel", "rows", "I", false)
  | 5 => ("AddressGrammarModel", "parts", "I", false)
  | 6 => ("AddressGrammarModel", "kinds", "[I", true)
  | 7 => ("AddressGrammarModel", "rowOf", "[I", true)
  | 8 => ("AddressGrammarModel", "missing", "[I", true)
  | 9 => ("AddressGrammarModel", "newParts", "I", false)
  | 10 => ("AddressGrammarModel", "newKinds", "[I", true)
  | 11 => ("AddressGrammarModel", "newRows", "[I", true)
  | 12 => ("AddressGrammarModel", "newMissing", "[I", true)
  | 13 => ("AddressGrammarModel", "lines", "I", false)
  | 14 => ("AddressGrammarModel", "placeCounts", "[I", true)
  | 15 => ("AddressGrammarModel", "counts", "[I", true)
  | 16 => ("AddressGrammarModel", "altKinds", "[I", true)
  | 17 => ("AddressGrammarModel", "altValues", "[I", true)
  | 18 => ("AddressGrammarModel", "altCosts", "[I", true)
  | 19 => ("AddressGrammarModel", "told", "I", false)
  | 20 => ("AddressGrammarModel", "tells", "[I", true)
  | 21 => ("AddressGrammarModel", "known", "Z", false)
  | 22 => ("AddressGrammarModel", "found", "I", false)
  | 23 => ("AddressGrammarModel", "best", "[I", true)
  | 24 => ("AddressGrammarModel", "sums", "[I", true)
  | 25 => ("AddressGrammarModel", "choices", "[I", true)
  | 26 => ("AddressGrammarModel", "lineAt", "[I", true)
  | 27 => ("AddressGrammarModel", "placeAt", "[I", true)
  | 28 => ("AddressGrammarModel", "printed", "I", false)
  | _ => ("AddressGrammarModel", "page", "[I", true)
def nY6 : Nat → FieldType := fun k => match k with
  | 0 => .int
  | 1 => .int
  | 2 => (.array .int)
  | 3 => .int
  | 4 => .int
  | 5 => .int
  | 6 => (.array .int)
  | 7 => (.array .int)
  | 8 => (.array .int)
  | 9 => .int
  | 10 => (.array .int)
  | 11 => (.array .int)
  | 12 => (.array .int)
  | 13 => .int
  | 14 => (.array .int)
  | 15 => (.array .int)
  | 16 => (.array .int)
  | 17 => (.array .int)
  | 18 => (.array .int)
  | 19 => .int
  | 20 => (.array .int)
  | 21 => .boolean
  | 22 => .int
  | 23 => (.array .int)
  | 24 => (.array .int)
  | 25 => (.array .int)
  | 26 => (.array .int)
  | 27 => (.array .int)
  | 28 => .int
  | _ => (.array .int)
theorem nN6 : ∀ a, a < 30 → ∀ b, b < 30 → a ≠ b → (nT6 a).2.1 ≠ (nT6 b).2.1 := by decide +kernel
theorem nP6 : ∀ k, k < 30 → parseFieldDescriptor (nT6 k).2.2.1 = some (nY6 k) := by decide +kernel
abbrev classes : List vw_C := [(nR0, nT0, 10), (nR1, nT1, 8), (nR2, nT2, 6), (nR3, nT3, 4), (nR4, nT4, 15), (nR5, nT5, 5), (nR6, nT6, 30)]
def am_ks : List (List Nat) := [[1, 0, 0, 1, 1, 1, 1, 1, 1, 0], [0, 0, 1, 1, 1, 1, 0, 0], [0, 1, 1, 1, 1, 1], [0, 1, 1, 1], [1, 1, 0, 1, 2, 1, 1, 1, 1, 1, 1, 1, 1, 0, 0], [0, 0, 0, 1, 1], [0, 0, 1, 0, 0, 0, 1, 1, 1, 0, 1, 1, 1, 0, 1, 1, 1, 1, 1, 0, 1, 2, 0, 1, 1, 1, 1, 1, 0, 1]]
def am_ty (ci k : Nat) : FieldType := match ci with
  | 0 => nY0 k
  | 1 => nY1 k
  | 2 => nY2 k
  | 3 => nY3 k
  | 4 => nY4 k
  | 5 => nY5 k
  | _ => nY6 k
def am_sh : List ((Nat × Nat) ⊕ Nat) := [.inr 0, .inl (1, 60), .inr 1, .inl (0, 9), .inl (0, 9), .inl (2, 9), .inl (2, 9), .inr 1, .inl (0, 9), .inl (0, 9), .inl (2, 9), .inl (2, 9), .inr 2, .inl (0, 6), .inl (0, 30), .inl (0, 120), .inl (0, 120), .inl (0, 120), .inr 3, .inl (0, 60), .inl (0, 60), .inl (0, 60), .inr 4, .inr 5, .inl (0, 9), .inl (0, 45), .inr 5, .inl (0, 9), .inl (0, 45), .inr 5, .inl (0, 9), .inl (0, 45), .inl (2, 420), .inl (0, 840), .inl (0, 840), .inl (0, 840), .inl (0, 120), .inl (1, 42), .inr 6, .inl (0, 60), .inl (0, 9), .inl (0, 9), .inl (0, 9), .inl (0, 9), .inl (0, 9), .inl (0, 9), .inl (0, 6), .inl (0, 30), .inl (0, 120), .inl (0, 120), .inl (0, 120), .inl (0, 180), .inl (0, 18), .inl (0, 2), .inl (0, 10), .inl (0, 10), .inl (0, 10), .inl (0, 80)]
-- cells: 0 x, 1 x.text, 2 form, 3 form.kinds, 4 form.missingCosts, 5 form.rowEnds, 6 form.used, 7 draft, 8 draft.kinds, 9 draft.missingCosts, 10 draft.rowEnds, 11 draft.used, 12 lines, 13 lines.places, 14 lines.alternatives, 15 lines.kinds, 16 lines.values, 17 lines.costs, 18 pairs, 19 pairs.kinds, 20 pairs.values, 21 pairs.others, 22 search, 23 first, 24 first.choices, 25 first.facts, 26 second, 27 second.choices, 28 second.facts, 29 candidate, 30 candidate.choices, 31 candidate.facts, 32 reached, 33 sums, 34 choices, 35 ranksBehind, 36 placeValues, 37 x.printed, 38 m, 39 m.text, 40 m.kinds, 41 m.rowOf, 42 m.missing, 43 m.newKinds, 44 m.newRows, 45 m.newMissing, 46 m.placeCounts, 47 m.counts, 48 m.altKinds, 49 m.altValues, 50 m.altCosts, 51 m.tells, 52 m.best, 53 m.sums, 54 m.choices, 55 m.lineAt, 56 m.placeAt, 57 m.page
def am_tyk (kd : Nat) (ty : FieldType) : Bool := match kd, ty with
  | 0, .int => true
  | 2, .boolean => true
  | 1, .object _ => true
  | 1, .array _ => true
  | _, _ => false
def am_strs : List (String × Nat × Nat) := [("AddressGrammar", 143, 0), ("AddressGrammar$Form", 56, 0), ("AddressGrammar", 65, 1)]
def am_texts : List String := ["NFSHXBCPL", "the text is not a form"]
def am_nest : List (String × Nat × MethodName × String) := [("AddressGrammar", 22, ⟨"AddressGrammar$Form", "<init>", "()V"⟩, "AddressGrammar"), ("AddressGrammar", 32, ⟨"AddressGrammar$Lines", "<init>", "()V"⟩, "AddressGrammar"), ("AddressGrammar", 39, ⟨"AddressGrammar$Pairs", "<init>", "()V"⟩, "AddressGrammar"), ("AddressGrammar$Search", 13, ⟨"AddressGrammar$Reading", "<init>", "()V"⟩, "AddressGrammar")]
end
section
/-! THE SMALL MACHINE: values are whole numbers, cells are told by their places in one fixed list, an instruction is a function. -/
abbrev am_V : Type := Int ⊕ (Int ⊕ Option Nat)
abbrev am_H : Type := Nat × (Nat → Nat → Int) × (Nat → Int → Int) × (Nat → Nat → Option Nat)
abbrev am_L : Type := List (Option am_V)
abbrev am_I : Type := Nat × Instr × Nat × List Nat × Int
abbrev am_M : Type := MethodName × ByteArray × Nat × Option FieldType × List am_I
abbrev am_O : Type := Option (Prop × Nat × am_L × List am_V × am_H)
def am_u1 (h : Nat → Nat → Int) (c j : Nat) (x : Int) : Nat → Nat → Int := fun a b => if a = c then (if b = j then x else h a b) else h a b
def am_u2 (r : Nat → Nat → Option Nat) (c j : Nat) (x : Option Nat) : Nat → Nat → Option Nat := fun a b => if a = c then (if b = j then x else r a b) else r a b
def am_u3 (g : Nat → Int → Int) (c : Nat) (j x : Int) : Nat → Int → Int := fun a b => if a = c then (if b = j then x else g a b) else g a b
def am_n3 (g : Nat → Int → Int) (n : Nat) : Nat → Int → Int := fun a b => if a = n then 0 else g a b
def am_n1 (h : Nat → Nat → Int) (n : Nat) : Nat → Nat → Int := fun a b => if a = n then 0 else h a b
def am_n2 (r : Nat → Nat → Option Nat) (n : Nat) : Nat → Nat → Option Nat := fun a b => if a = n then none else r a b
def am_at {α : Type} : List α → Nat → Option α
  | [], _ => none
  | a :: _, 0 => some a
  | _ :: l, i + 1 => am_at l i
theorem am_at_eq {α : Type} : ∀ (l : List α) (i : Nat), am_at l i = l[i]? := by
  intro l
  induction l with
  | nil => intro i; simp [am_at]
  | cons a l ih =>
    intro i
    cases i with
    | zero => simp [am_at]
    | succ i => simp [am_at, ih]
def am_get : am_L → Nat → Option am_V
  | [], _ => none
  | o :: _, 0 => o
  | _ :: l, i + 1 => am_get l i
def am_sto : am_L → Nat → am_V → Option am_L
  | [], _, _ => none
  | _ :: l, 0, v => some (some v :: l)
  | o :: l, i + 1, v => match o, i with
    | some (.inr (.inl _)), 0 => none
    | _, _ => match am_sto l i v with
      | some l' => some (o :: l')
      | none => none
def am_and (x y : Int) : Int := (Int32.ofInt x &&& Int32.ofInt y).toInt
def am_or (x y : Int) : Int := (Int32.ofInt x ||| Int32.ofInt y).toInt
def am_shl (x y : Int) : Int := (Int32.ofInt x <<< (Int32.ofInt y &&& 31)).toInt
def am_shr (x y : Int) : Int := (Int32.ofInt x >>> (Int32.ofInt y &&& 31)).toInt
def am_cmp (x y : Int) : Int := if y < x then 1 else if x = y then 0 else -1
/-- the kind of a field: 0 int, 1 reference, 2 boolean -/
def am_kd (ci j : Nat) : Option Nat := match am_at am_ks ci with
  | some l => am_at l j
  | none => none
def am_szc (c : Nat) : Nat := match am_at am_sh c with
  | some (.inl (_, n)) => n
  | some (.inr ci) => match am_at am_ks ci with
    | some l => l.length
    | none => 0
  | none => 0
def am_sz : Nat → Nat
  | 0 => 0
  | k + 1 => am_sz k + am_szc k
def am_ld (lv : am_L) (i nx : Nat) (kind : Nat) (st : List am_V) (σ : am_H) : am_O := match am_get lv i with
  | some (.inl x) => cond (Nat.beq kind 0) (some (True, nx, lv, .inl x :: st, σ)) none
  | some (.inr (.inl y)) => cond (Nat.beq kind 1) (some (True, nx, lv, .inr (.inl y) :: st, σ)) none
  | some (.inr (.inr (some k))) => cond (Nat.beq kind 2) (some (True, nx, lv, .inr (.inr (some k)) :: st, σ)) none
  | _ => none
def am_st (lv : am_L) (i nx : Nat) (kind : Nat) (st : List am_V) (σ : am_H) : am_O := match st with
  | .inl x :: r => cond (Nat.beq kind 0) (match am_sto lv i (.inl x) with
    | some l => some (True, nx, l, r, σ)
    | none => none) none
  | .inr (.inr (some k)) :: r => cond (Nat.beq kind 2) (match am_sto lv i (.inr (.inr (some k))) with
    | some l => some (True, nx, l, r, σ)
    | none => none) none
  | _ => none
def am_ald (ty nx : Nat) (lv : am_L) (st : List am_V) (σ : am_H) : am_O := match st with
  | .inl i :: .inr (.inr (some c)) :: r => match σ with
    | (n, h, g, rf) => match am_at am_sh c with
      | some (.inl (t, len)) => cond (Nat.beq t ty && Nat.blt c n) (some (0 ≤ i ∧ i < (len : Int), nx, lv, .inl (g c i) :: r, (n, h, g, rf))) none
      | _ => none
  | _ => none
def am_step (d n1 : Nat) (e : am_I) (lv : am_L) (st : List am_V) (σ : am_H) : am_O := match e with
  | (_, ins, nx, xs, kk) => match ins with
    | .iconst n => some (-2147483648 ≤ n ∧ n ≤ 2147483647, nx, lv, .inl n :: st, σ)
    | .bipush n => some (-128 ≤ n ∧ n ≤ 127, nx, lv, .inl n :: st, σ)
    | .sipush n => some (-32768 ≤ n ∧ n ≤ 32767, nx, lv, .inl n :: st, σ)
    | .ldc _ => match xs with
      | [] => some (-2147483648 ≤ kk ∧ kk ≤ 2147483647, nx, lv, .inl kk :: st, σ)
      | [q] => some (True, nx, lv, .inr (.inr (some (1000 + q))) :: st, σ)
      | _ => none
    | .ldc2_w _ => some (-9223372036854775808 ≤ kk ∧ kk ≤ 9223372036854775807, nx, lv, .inr (.inl kk) :: st, σ)
    | .lconst _ => some (0 ≤ kk ∧ kk ≤ 1, nx, lv, .inr (.inl kk) :: st, σ)
    | .iload_n k => am_ld lv k.val nx 0 st σ
    | .iload i => am_ld lv i nx 0 st σ
    | .lload i => am_ld lv i nx 1 st σ
    | .lload_n k => am_ld lv k.val nx 1 st σ
    | .aload_n k => am_ld lv k.val nx 2 st σ
    | .aload i => am_ld lv i nx 2 st σ
    | .istore_n k => am_st lv k.val nx 0 st σ
    | .istore i => am_st lv i nx 0 st σ
    | .astore_n k => am_st lv k.val nx 2 st σ
    | .astore i => am_st lv i nx 2 st σ
    | .iinc i n => match am_get lv i with
      | some (.inl x) => match am_sto lv i (.inl (x + n)) with
        | some l => some (-2147483648 ≤ x + n ∧ x + n ≤ 2147483647, nx, l, st, σ)
        | none => none
      | _ => none
    | .iadd => match st with
      | .inl y :: .inl x :: r => some (-2147483648 ≤ x + y ∧ x + y ≤ 2147483647, nx, lv, .inl (x + y) :: r, σ)
      | _ => none
    | .isub => match st with
      | .inl y :: .inl x :: r => some (-2147483648 ≤ x - y ∧ x - y ≤ 2147483647, nx, lv, .inl (x - y) :: r, σ)
      | _ => none
    | .imul => match st with
      | .inl y :: .inl x :: r => some (-2147483648 ≤ x * y ∧ x * y ≤ 2147483647, nx, lv, .inl (x * y) :: r, σ)
      | _ => none
    | .idiv => match st with
      | .inl y :: .inl x :: r => some (0 ≤ x ∧ 0 < y, nx, lv, .inl (x / y) :: r, σ)
      | _ => none
    | .irem => match st with
      | .inl y :: .inl x :: r => some (0 ≤ x ∧ 0 < y, nx, lv, .inl (x % y) :: r, σ)
      | _ => none
    | .iand => match st with
      | .inl y :: .inl x :: r => some (True, nx, lv, .inl (am_and x y) :: r, σ)
      | _ => none
    | .ior => match st with
      | .inl y :: .inl x :: r => some (True, nx, lv, .inl (am_or x y) :: r, σ)
      | _ => none
    | .ishl => match st with
      | .inl y :: .inl x :: r => some (True, nx, lv, .inl (am_shl x y) :: r, σ)
      | _ => none
    | .ishr => match st with
      | .inl y :: .inl x :: r => some (True, nx, lv, .inl (am_shr x y) :: r, σ)
      | _ => none
    | .lcmp => match st with
      | .inr (.inl y) :: .inr (.inl x) :: r => some (True, nx, lv, .inl (am_cmp x y) :: r, σ)
      | _ => none
    | .i2c => match st with
      | .inl x :: r => some (0 ≤ x ∧ x < 65536, nx, lv, .inl x :: r, σ)
      | _ => none
    | .i2l => match st with
      | .inl x :: r => some (True, nx, lv, .inr (.inl x) :: r, σ)
      | _ => none
    | .l2i => match st with
      | .inr (.inl x) :: r => some (-2147483648 ≤ x ∧ x ≤ 2147483647, nx, lv, .inl x :: r, σ)
      | _ => none
    | .dup => match st with
      | .inl x :: r => some (True, nx, lv, .inl x :: .inl x :: r, σ)
      | .inr (.inr k) :: r => some (True, nx, lv, .inr (.inr k) :: .inr (.inr k) :: r, σ)
      | _ => none
    | .dup2 => match st with
      | .inl x :: .inr (.inr k) :: r => some (True, nx, lv, .inl x :: .inr (.inr k) :: .inl x :: .inr (.inr k) :: r, σ)
      | _ => none
    | .goto _ => match xs with
      | [t] => some (True, t, lv, st, σ)
      | _ => none
    | .arraylength => match st with
      | .inr (.inr (some c)) :: r => match am_at am_sh c with
        | some (.inl (_, len)) => cond (Nat.blt c σ.1) (some (True, nx, lv, .inl (len : Int) :: r, σ)) none
        | _ => none
      | _ => none
    | .iaload => am_ald 0 nx lv st σ
    | .caload => am_ald 1 nx lv st σ
    | .baload => am_ald 2 nx lv st σ
    | .iastore => match st with
      | .inl x :: .inl i :: .inr (.inr (some c)) :: r => match σ with
        | (n, h, g, rf) => match am_at am_sh c with
          | some (.inl (t, len)) => cond (Nat.beq t 0 && Nat.blt c n) (some (0 ≤ i ∧ i < (len : Int), nx, lv, r, (n, h, am_u3 g c i x, rf))) none
          | _ => none
      | _ => none
    | .castore => match st with
      | .inl x :: .inl i :: .inr (.inr (some c)) :: r => match σ with
        | (n, h, g, rf) => match am_at am_sh c with
          | some (.inl (t, len)) => cond (Nat.beq t 1 && Nat.blt c n) (some ((0 ≤ i ∧ i < (len : Int)) ∧ 0 ≤ x ∧ x < 65536, nx, lv, r, (n, h, am_u3 g c i x, rf))) none
          | _ => none
      | _ => none
    | .bastore => match st with
      | .inl x :: .inl i :: .inr (.inr (some c)) :: r => match σ with
        | (n, h, g, rf) => match am_at am_sh c with
          | some (.inl (t, len)) => cond (Nat.beq t 2 && Nat.blt c n) (some ((0 ≤ i ∧ i < (len : Int)) ∧ (x = 0 ∨ x = 1), nx, lv, r, (n, h, am_u3 g c i x, rf))) none
          | _ => none
      | _ => none
    | .getfield _ => match st with
      | .inr (.inr (some c)) :: r => match xs, σ with
        | [ci, j], (n, h, g, rf) => match am_at am_sh c, am_kd ci j with
          | some (.inr ci'), some kd => cond (Nat.beq ci' ci && Nat.blt c n) (cond (Nat.beq kd 1) (some (True, nx, lv, .inr (.inr (rf c j)) :: r, (n, h, g, rf))) (some (True, nx, lv, .inl (h c j) :: r, (n, h, g, rf)))) none
          | _, _ => none
        | _, _ => none
      | _ => none
    | .putfield _ => match st with
      | .inl x :: .inr (.inr (some c)) :: r => match xs, σ with
        | [ci, j], (n, h, g, rf) => match am_at am_sh c, am_kd ci j with
          | some (.inr ci'), some 0 => cond (Nat.beq ci' ci && Nat.blt c n) (some (True, nx, lv, r, (n, am_u1 h c j x, g, rf))) none
          | some (.inr ci'), some 2 => cond (Nat.beq ci' ci && Nat.blt c n) (some ((x = 0 ∨ x = 1), nx, lv, r, (n, am_u1 h c j x, g, rf))) none
          | _, _ => none
        | _, _ => none
      | .inr (.inr (some k)) :: .inr (.inr (some c)) :: r => match xs, σ with
        | [ci, j], (n, h, g, rf) => match am_at am_sh c, am_kd ci j with
          | some (.inr ci'), some 1 => cond (Nat.beq ci' ci && Nat.blt c n && Nat.blt k n) (some (True, nx, lv, r, (n, h, g, am_u2 rf c j (some k)))) none
          | _, _ => none
        | _, _ => none
      | _ => none
    | .newarray _ => match st with
      | .inl x :: r => match xs, σ with
        | [ty], (n, h, g, rf) => match am_at am_sh n with
          | some (.inl (t, len)) => cond (Nat.beq t ty) (some (x = (len : Int) ∧ n < n1, nx, lv, .inr (.inr (some n)) :: r, (n + 1, am_n1 h n, am_n3 g n, am_n2 rf n))) none
          | _ => none
        | _, _ => none
      | _ => none
    | .new _ => match xs, σ with
      | [ci], (n, h, g, rf) => match am_at am_sh n with
        | some (.inr ci') => cond (Nat.beq ci' ci) (some (n < n1, nx, lv, .inr (.inr (some n)) :: st, (n + 1, am_n1 h n, am_n3 g n, am_n2 rf n))) none
        | _ => none
      | _, _ => none
    | .invokespecial _ => match xs, st with
      | [], .inr (.inr (some _)) :: r => some (0 < d ∧ r.length ≤ 8, nx, lv, r, σ)
      | _, _ => none
    | .invokestatic _ => match xs, st with
      | [], .inl y :: .inl x :: r => some (0 < d ∧ r.length ≤ 8 ∧ σ.1 ≤ n1, nx, lv, .inl (if x < y then y else x) :: r, σ)
      | _, _ => none
    | _ => none
def am_br (e : am_I) (st : List am_V) : Option (Prop × Nat × Nat × List am_V) := match e with
  | (_, ins, nx, xs, _) => match xs with
    | [t] => match ins with
      | .ifCond .eq _ => match st with | .inl x :: r => some (x = 0, t, nx, r) | _ => none
      | .ifCond .ne _ => match st with | .inl x :: r => some (¬ x = 0, t, nx, r) | _ => none
      | .ifCond .lt _ => match st with | .inl x :: r => some (x < 0, t, nx, r) | _ => none
      | .ifCond .ge _ => match st with | .inl x :: r => some (0 ≤ x, t, nx, r) | _ => none
      | .ifCond .gt _ => match st with | .inl x :: r => some (0 < x, t, nx, r) | _ => none
      | .ifCond .le _ => match st with | .inl x :: r => some (x ≤ 0, t, nx, r) | _ => none
      | .if_icmp .eq _ => match st with | .inl y :: .inl x :: r => some (x = y, t, nx, r) | _ => none
      | .if_icmp .ne _ => match st with | .inl y :: .inl x :: r => some (¬ x = y, t, nx, r) | _ => none
      | .if_icmp .lt _ => match st with | .inl y :: .inl x :: r => some (x < y, t, nx, r) | _ => none
      | .if_icmp .ge _ => match st with | .inl y :: .inl x :: r => some (y ≤ x, t, nx, r) | _ => none
      | .if_icmp .gt _ => match st with | .inl y :: .inl x :: r => some (y < x, t, nx, r) | _ => none
      | .if_icmp .le _ => match st with | .inl y :: .inl x :: r => some (x ≤ y, t, nx, r) | _ => none
      | _ => none
    | _ => none
end
section
def mm0_init : am_M := (⟨"AddressGrammar", "<init>", "()V"⟩, prog_1_method_1_code, 1, none, [(0, .aload_n 0, 1, [], 0), (1, .invokespecial 3, 2, [], 0), (4, .aload_n 0, 3, [], 0), (5, .bipush 60, 4, [], 0), (7, .newarray .char, 5, [1], 0), (9, .putfield 9, 6, [0, 0], 0), (12, .aload_n 0, 7, [], 0), (13, .iconst 0, 8, [], 0), (14, .putfield 13, 9, [0, 1], 0), (17, .aload_n 0, 10, [], 0), (18, .iconst (-1), 11, [], 0), (19, .putfield 17, 12, [0, 2], 0), (22, .aload_n 0, 13, [], 0), (23, .new 20, 14, [1], 0), (26, .dup, 15, [], 0), (27, .invokespecial 22, 16, [48, 1, 1], 0), (30, .putfield 23, 17, [0, 3], 0), (33, .aload_n 0, 18, [], 0), (34, .new 20, 19, [1], 0), (37, .dup, 20, [], 0), (38, .invokespecial 22, 21, [48, 1, 1], 0), (41, .putfield 27, 22, [0, 4], 0), (44, .aload_n 0, 23, [], 0), (45, .new 30, 24, [2], 0), (48, .dup, 25, [], 0), (49, .invokespecial 32, 26, [61, 1, 1], 0), (52, .putfield 33, 27, [0, 5], 0), (55, .aload_n 0, 28, [], 0), (56, .new 37, 29, [3], 0), (59, .dup, 30, [], 0), (60, .invokespecial 39, 31, [72, 1, 1], 0), (63, .putfield 40, 32, [0, 6], 0), (66, .aload_n 0, 33, [], 0), (67, .new 44, 34, [4], 0), (70, .dup, 35, [], 0), (71, .aload_n 0, 36, [], 0), (72, .getfield 23, 37, [0, 3], 0), (75, .aload_n 0, 38, [], 0), (76, .getfield 33, 39, [0, 5], 0), (79, .aload_n 0, 40, [], 0), (80, .getfield 40, 41, [0, 6], 0), (83, .invokespecial 46, 42, [82, 4], 0), (86, .putfield 49, 43, [0, 7], 0), (89, .aload_n 0, 44, [], 0), (90, .bipush 42, 45, [], 0), (92, .newarray .char, 46, [1], 0), (94, .putfield 53, 47, [0, 8], 0), (97, .aload_n 0, 48, [], 0), (98, .iconst 0, 49, [], 0), (99, .putfield 56, 50, [0, 9], 0), (102, .return_, 51, [], 0)])
def mm0_sign : am_M := (⟨"AddressGrammar", "sign", "(I)Z"⟩, prog_1_method_2_code, 2, (some (.boolean)), [(0, .iload_n 1, 1, [], 0), (1, .bipush 32, 2, [], 0), (3, .if_icmp .lt (21), 3, [12], 0), (6, .iload_n 1, 4, [], 0), (7, .bipush 126, 5, [], 0), (9, .if_icmp .gt (15), 6, [12], 0), (12, .aload_n 0, 7, [], 0), (13, .getfield 13, 8, [0, 1], 0), (16, .aload_n 0, 9, [], 0), (17, .getfield 9, 10, [0, 0], 0), (20, .arraylength, 11, [], 0), (21, .if_icmp .lt (5), 12, [14], 0), (24, .iconst 0, 13, [], 0), (25, .ireturn, 14, [], 0), (26, .aload_n 0, 15, [], 0), (27, .getfield 9, 16, [0, 0], 0), (30, .aload_n 0, 17, [], 0), (31, .getfield 13, 18, [0, 1], 0), (34, .iload_n 1, 19, [], 0), (35, .i2c, 20, [], 0), (36, .castore, 21, [], 0), (37, .aload_n 0, 22, [], 0), (38, .dup, 23, [], 0), (39, .getfield 13, 24, [0, 1], 0), (42, .iconst 1, 25, [], 0), (43, .iadd, 26, [], 0), (44, .putfield 13, 27, [0, 1], 0), (47, .iconst 1, 28, [], 0), (48, .ireturn, 29, [], 0)])
def mm0_read : am_M := (⟨"AddressGrammar", "read", "()I"⟩, prog_1_method_3_code, 2, (some (.int)), [(0, .aload_n 0, 1, [], 0), (1, .getfield 27, 2, [0, 4], 0), (4, .aload_n 0, 3, [], 0), (5, .getfield 9, 4, [0, 0], 0), (8, .aload_n 0, 5, [], 0), (9, .getfield 13, 6, [0, 1], 0), (12, .invokevirtual 59, 7, [49, 3], 0), (15, .istore_n 1, 8, [], 0), (16, .aload_n 0, 9, [], 0), (17, .iconst 0, 10, [], 0), (18, .putfield 13, 11, [0, 1], 0), (21, .iload_n 1, 12, [], 0), (22, .iconst (-1), 13, [], 0), (23, .if_icmp .eq (18), 14, [22], 0), (26, .aload_n 0, 15, [], 0), (27, .iload_n 1, 16, [], 0), (28, .putfield 17, 17, [0, 2], 0), (31, .new 63, 18, [], 0), (34, .dup, 19, [], 0), (35, .ldc 65, 20, [1], 0), (37, .invokespecial 67, 21, [9999], 0), (40, .athrow, 22, [], 0), (41, .aload_n 0, 23, [], 0), (42, .getfield 23, 24, [0, 3], 0), (45, .aload_n 0, 25, [], 0), (46, .getfield 27, 26, [0, 4], 0), (49, .invokevirtual 70, 27, [51, 2], 0), (52, .aload_n 0, 28, [], 0), (53, .getfield 49, 29, [0, 7], 0), (56, .invokevirtual 74, 30, [83, 1], 0), (59, .aload_n 0, 31, [], 0), (60, .getfield 23, 32, [0, 3], 0), (63, .getfield 77, 33, [1, 1], 0), (66, .ireturn, 34, [], 0)])
def mm0_wrong : am_M := (⟨"AddressGrammar", "wrong", "()I"⟩, prog_1_method_4_code, 1, (some (.int)), [(0, .aload_n 0, 1, [], 0), (1, .getfield 17, 2, [0, 2], 0), (4, .ireturn, 3, [], 0)])
def mm0_word : am_M := (⟨"AddressGrammar", "word", "(IIIJ)I"⟩, prog_1_method_5_code, 7, (some (.int)), [(0, .iload_n 1, 1, [], 0), (1, .ifCond .lt (19), 2, [10], 0), (4, .iload_n 1, 3, [], 0), (5, .bipush 6, 4, [], 0), (7, .if_icmp .ge (13), 5, [10], 0), (10, .iload_n 2, 6, [], 0), (11, .ifCond .lt (9), 7, [10], 0), (14, .iload_n 2, 8, [], 0), (15, .bipush 9, 9, [], 0), (17, .if_icmp .lt (6), 10, [12], 0), (20, .bipush (-12), 11, [], 0), (22, .ireturn, 12, [], 0), (23, .iload_n 3, 13, [], 0), (24, .ifCond .lt (26), 14, [25], 0), (27, .iload_n 3, 15, [], 0), (28, .sipush 5000, 16, [], 0), (31, .if_icmp .ge (19), 17, [25], 0), (34, .lload 4, 18, [], 0), (36, .lconst 0, 19, [], 0), (37, .lcmp, 20, [], 0), (38, .ifCond .lt (12), 21, [25], 0), (41, .lload 4, 22, [], 0), (43, .ldc2_w 80, 23, [], 1000), (46, .lcmp, 24, [], 0), (47, .ifCond .le (6), 25, [27], 0), (50, .bipush (-12), 26, [], 0), (52, .ireturn, 27, [], 0), (53, .iload_n 3, 28, [], 0), (54, .sipush 1000, 29, [], 0), (57, .idiv, 30, [], 0), (58, .istore 6, 31, [], 0), (60, .aload_n 0, 32, [], 0), (61, .getfield 33, 33, [0, 5], 0), (64, .iload_n 1, 34, [], 0), (65, .iload 6, 35, [], 0), (67, .invokevirtual 82, 36, [65, 3], 0), (70, .ifCond .eq (6), 37, [39], 0), (73, .bipush (-13), 38, [], 0), (75, .ireturn, 39, [], 0), (76, .aload_n 0, 40, [], 0), (77, .getfield 49, 41, [0, 7], 0), (80, .invokevirtual 74, 42, [83, 1], 0), (83, .aload_n 0, 43, [], 0), (84, .getfield 33, 44, [0, 5], 0), (87, .iload_n 1, 45, [], 0), (88, .iload 6, 46, [], 0), (90, .iload_n 2, 47, [], 0), (91, .iload_n 3, 48, [], 0), (92, .sipush 1000, 49, [], 0), (95, .irem, 50, [], 0), (96, .lload 4, 51, [], 0), (98, .l2i, 52, [], 0), (99, .invokevirtual 86, 53, [66, 6], 0), (102, .ireturn, 54, [], 0)])
def mm0_clear : am_M := (⟨"AddressGrammar", "clear", "()I"⟩, prog_1_method_6_code, 2, (some (.int)), [(0, .aload_n 0, 1, [], 0), (1, .getfield 33, 2, [0, 5], 0), (4, .getfield 90, 3, [2, 0], 0), (7, .istore_n 1, 4, [], 0), (8, .aload_n 0, 5, [], 0), (9, .getfield 33, 6, [0, 5], 0), (12, .invokevirtual 93, 7, [62, 1], 0), (15, .aload_n 0, 8, [], 0), (16, .getfield 49, 9, [0, 7], 0), (19, .invokevirtual 74, 10, [83, 1], 0), (22, .iload_n 1, 11, [], 0), (23, .ireturn, 12, [], 0)])
def mm0_fits : am_M := (⟨"AddressGrammar", "fits", "(III)Z"⟩, prog_1_method_7_code, 4, (some (.boolean)), [(0, .iload_n 1, 1, [], 0), (1, .iconst 2, 2, [], 0), (2, .if_icmp .eq (11), 3, [8], 0), (5, .iload_n 1, 4, [], 0), (6, .bipush 6, 5, [], 0), (8, .if_icmp .eq (5), 6, [8], 0), (11, .iconst 0, 7, [], 0), (12, .ireturn, 8, [], 0), (13, .iload_n 2, 9, [], 0), (14, .ifCond .lt (21), 10, [18], 0), (17, .iload_n 2, 11, [], 0), (18, .sipush 1000, 12, [], 0), (21, .if_icmp .ge (14), 13, [18], 0), (24, .iload_n 3, 14, [], 0), (25, .ifCond .lt (10), 15, [18], 0), (28, .iload_n 3, 16, [], 0), (29, .sipush 1000, 17, [], 0), (32, .if_icmp .lt (5), 18, [20], 0), (35, .iconst 0, 19, [], 0), (36, .ireturn, 20, [], 0), (37, .aload_n 0, 21, [], 0), (38, .getfield 40, 22, [0, 6], 0), (41, .iload_n 1, 23, [], 0), (42, .iload_n 2, 24, [], 0), (43, .iload_n 3, 25, [], 0), (44, .invokevirtual 96, 26, [74, 4], 0), (47, .ifCond .ne (5), 27, [29], 0), (50, .iconst 0, 28, [], 0), (51, .ireturn, 29, [], 0), (52, .aload_n 0, 30, [], 0), (53, .getfield 49, 31, [0, 7], 0), (56, .invokevirtual 74, 32, [83, 1], 0), (59, .iconst 1, 33, [], 0), (60, .ireturn, 34, [], 0)])
def mm0_derive : am_M := (⟨"AddressGrammar", "derive", "(I)I"⟩, prog_1_method_8_code, 2, (some (.int)), [(0, .iload_n 1, 1, [], 0), (1, .invokestatic 99, 2, [13, 1], 0), (4, .ifCond .eq (6), 3, [5], 0), (7, .bipush (-12), 4, [], 0), (9, .ireturn, 5, [], 0), (10, .aload_n 0, 6, [], 0), (11, .iload_n 1, 7, [], 0), (12, .invokevirtual 103, 8, [14, 2], 0), (15, .getfield 107, 9, [5, 0], 0), (18, .ireturn, 10, [], 0)])
def mm0_part : am_M := (⟨"AddressGrammar", "part", "(III)I"⟩, prog_1_method_9_code, 4, (some (.int)), [(0, .iload_n 1, 1, [], 0), (1, .invokestatic 99, 2, [13, 1], 0), (4, .ifCond .ne (12), 3, [8], 0), (7, .iload_n 3, 4, [], 0), (8, .ifCond .lt (8), 5, [8], 0), (11, .iload_n 3, 6, [], 0), (12, .iconst 5, 7, [], 0), (13, .if_icmp .lt (6), 8, [10], 0), (16, .bipush (-12), 9, [], 0), (18, .ireturn, 10, [], 0), (19, .aload_n 0, 11, [], 0), (20, .iload_n 1, 12, [], 0), (21, .invokevirtual 103, 13, [14, 2], 0), (24, .iload_n 2, 14, [], 0), (25, .iload_n 3, 15, [], 0), (26, .invokevirtual 112, 16, [80, 3], 0), (29, .ireturn, 17, [], 0)])
def mm0_sum : am_M := (⟨"AddressGrammar", "sum", "(I)J"⟩, prog_1_method_10_code, 2, (some (.long)), [(0, .iload_n 1, 1, [], 0), (1, .invokestatic 99, 2, [13, 1], 0), (4, .ifCond .eq (7), 3, [5], 0), (7, .ldc2_w 116, 4, [], (-12)), (10, .lreturn, 5, [], 0), (11, .aload_n 0, 6, [], 0), (12, .iload_n 1, 7, [], 0), (13, .invokevirtual 103, 8, [14, 2], 0), (16, .getfield 118, 9, [5, 1], 0), (19, .i2l, 10, [], 0), (20, .lreturn, 11, [], 0)])
def mm0_furthest : am_M := (⟨"AddressGrammar", "furthest", "()I"⟩, prog_1_method_11_code, 1, (some (.int)), [(0, .aload_n 0, 1, [], 0), (1, .getfield 23, 2, [0, 3], 0), (4, .getfield 121, 3, [1, 0], 0), (7, .ifCond .ne (5), 4, [6], 0), (10, .iconst (-1), 5, [], 0), (11, .ireturn, 6, [], 0), (12, .aload_n 0, 7, [], 0), (13, .getfield 49, 8, [0, 7], 0), (16, .invokevirtual 122, 9, [84, 1], 0), (19, .aload_n 0, 10, [], 0), (20, .getfield 49, 11, [0, 7], 0), (23, .getfield 125, 12, [4, 2], 0), (26, .ireturn, 13, [], 0)])
def mm0_print : am_M := (⟨"AddressGrammar", "print", "(I)I"⟩, prog_1_method_12_code, 4, (some (.int)), [(0, .iload_n 1, 1, [], 0), (1, .invokestatic 99, 2, [13, 1], 0), (4, .ifCond .eq (6), 3, [5], 0), (7, .bipush (-12), 4, [], 0), (9, .ireturn, 5, [], 0), (10, .aload_n 0, 6, [], 0), (11, .iconst 0, 7, [], 0), (12, .putfield 56, 8, [0, 9], 0), (15, .aload_n 0, 9, [], 0), (16, .iload_n 1, 10, [], 0), (17, .invokevirtual 103, 11, [14, 2], 0), (20, .astore_n 2, 12, [], 0), (21, .iconst 0, 13, [], 0), (22, .istore_n 3, 14, [], 0), (23, .iload_n 3, 15, [], 0), (24, .aload_n 2, 16, [], 0), (25, .getfield 107, 17, [5, 0], 0), (28, .if_icmp .ge (48), 18, [44], 0), (31, .aload_n 0, 19, [], 0), (32, .aload_n 2, 20, [], 0), (33, .iload_n 3, 21, [], 0), (34, .iconst 0, 22, [], 0), (35, .invokevirtual 112, 23, [80, 3], 0), (38, .aload_n 2, 24, [], 0), (39, .iload_n 3, 25, [], 0), (40, .iconst 3, 26, [], 0), (41, .invokevirtual 112, 27, [80, 3], 0), (44, .invokevirtual 128, 28, [15, 3], 0), (47, .aload_n 2, 29, [], 0), (48, .iload_n 3, 30, [], 0), (49, .iconst 1, 31, [], 0), (50, .invokevirtual 112, 32, [80, 3], 0), (53, .aload_n 2, 33, [], 0), (54, .iload_n 3, 34, [], 0), (55, .iconst 1, 35, [], 0), (56, .iadd, 36, [], 0), (57, .iconst 1, 37, [], 0), (58, .invokevirtual 112, 38, [80, 3], 0), (61, .if_icmp .eq (9), 39, [42], 0), (64, .aload_n 0, 40, [], 0), (65, .bipush 59, 41, [], 0), (67, .invokevirtual 132, 42, [16, 2], 0), (70, .iinc 3 1, 43, [], 0), (73, .goto (-50), 44, [14], 0), (76, .aload_n 0, 45, [], 0), (77, .getfield 56, 46, [0, 9], 0), (80, .ireturn, 47, [], 0)])
def mm0_at : am_M := (⟨"AddressGrammar", "at", "(I)I"⟩, prog_1_method_13_code, 2, (some (.int)), [(0, .iload_n 1, 1, [], 0), (1, .ifCond .lt (29), 2, [16], 0), (4, .iload_n 1, 3, [], 0), (5, .aload_n 0, 4, [], 0), (6, .getfield 56, 5, [0, 9], 0), (9, .if_icmp .ge (21), 6, [16], 0), (12, .iload_n 1, 7, [], 0), (13, .aload_n 0, 8, [], 0), (14, .getfield 53, 9, [0, 8], 0), (17, .arraylength, 10, [], 0), (18, .if_icmp .ge (12), 11, [16], 0), (21, .aload_n 0, 12, [], 0), (22, .getfield 53, 13, [0, 8], 0), (25, .iload_n 1, 14, [], 0), (26, .caload, 15, [], 0), (27, .goto (4), 16, [17], 0), (30, .iconst (-1), 17, [], 0), (31, .ireturn, 18, [], 0)])
def mm0_isNoRank : am_M := (⟨"AddressGrammar", "isNoRank", "(I)Z"⟩, prog_1_method_14_code, 1, (some (.boolean)), [(0, .iload_n 0, 1, [], 0), (1, .ifCond .lt (8), 2, [5], 0), (4, .iload_n 0, 3, [], 0), (5, .iconst 2, 4, [], 0), (6, .if_icmp .lt (7), 5, [7], 0), (9, .iconst 1, 6, [], 0), (10, .goto (4), 7, [8], 0), (13, .iconst 0, 8, [], 0), (14, .ireturn, 9, [], 0)])
def mm0_readingOf : am_M := (⟨"AddressGrammar", "readingOf", "(I)LAddressGrammar$Reading;"⟩, prog_1_method_15_code, 2, (some (.object "AddressGrammar$Reading")), [(0, .aload_n 0, 1, [], 0), (1, .getfield 49, 2, [0, 7], 0), (4, .invokevirtual 122, 3, [84, 1], 0), (7, .iload_n 1, 4, [], 0), (8, .ifCond .ne (13), 5, [9], 0), (11, .aload_n 0, 6, [], 0), (12, .getfield 49, 7, [0, 7], 0), (15, .getfield 136, 8, [4, 0], 0), (18, .goto (10), 9, [12], 0), (21, .aload_n 0, 10, [], 0), (22, .getfield 49, 11, [0, 7], 0), (25, .getfield 140, 12, [4, 1], 0), (28, .areturn, 13, [], 0)])
def mm0_putPart : am_M := (⟨"AddressGrammar", "putPart", "(II)V"⟩, prog_1_method_16_code, 3, none, [(0, .iload_n 1, 1, [], 0), (1, .ifCond .lt (12), 2, [6], 0), (4, .iload_n 1, 3, [], 0), (5, .ldc 143, 4, [0], 0), (7, .invokevirtual 145, 5, [101, 1], 0), (10, .if_icmp .lt (4), 6, [7], 0), (13, .return_, 7, [], 0), (14, .aload_n 0, 8, [], 0), (15, .ldc 143, 9, [0], 0), (17, .iload_n 1, 10, [], 0), (18, .invokevirtual 151, 11, [102, 2], 0), (21, .invokevirtual 132, 12, [16, 2], 0), (24, .iload_n 2, 13, [], 0), (25, .bipush 100, 14, [], 0), (27, .if_icmp .lt (15), 15, [23], 0), (30, .aload_n 0, 16, [], 0), (31, .bipush 48, 17, [], 0), (33, .iload_n 2, 18, [], 0), (34, .bipush 100, 19, [], 0), (36, .idiv, 20, [], 0), (37, .iadd, 21, [], 0), (38, .i2c, 22, [], 0), (39, .invokevirtual 132, 23, [16, 2], 0), (42, .iload_n 2, 24, [], 0), (43, .bipush 10, 25, [], 0), (45, .if_icmp .lt (18), 26, [36], 0), (48, .aload_n 0, 27, [], 0), (49, .bipush 48, 28, [], 0), (51, .iload_n 2, 29, [], 0), (52, .bipush 10, 30, [], 0), (54, .idiv, 31, [], 0), (55, .bipush 10, 32, [], 0), (57, .irem, 33, [], 0), (58, .iadd, 34, [], 0), (59, .i2c, 35, [], 0), (60, .invokevirtual 132, 36, [16, 2], 0), (63, .aload_n 0, 37, [], 0), (64, .bipush 48, 38, [], 0), (66, .iload_n 2, 39, [], 0), (67, .bipush 10, 40, [], 0), (69, .irem, 41, [], 0), (70, .iadd, 42, [], 0), (71, .i2c, 43, [], 0), (72, .invokevirtual 132, 44, [16, 2], 0), (75, .return_, 45, [], 0)])
def mm0_put : am_M := (⟨"AddressGrammar", "put", "(C)V"⟩, prog_1_method_17_code, 2, none, [(0, .aload_n 0, 1, [], 0), (1, .getfield 56, 2, [0, 9], 0), (4, .aload_n 0, 3, [], 0), (5, .getfield 53, 4, [0, 8], 0), (8, .arraylength, 5, [], 0), (9, .if_icmp .ge (23), 6, [18], 0), (12, .aload_n 0, 7, [], 0), (13, .getfield 53, 8, [0, 8], 0), (16, .aload_n 0, 9, [], 0), (17, .getfield 56, 10, [0, 9], 0), (20, .iload_n 1, 11, [], 0), (21, .castore, 12, [], 0), (22, .aload_n 0, 13, [], 0), (23, .dup, 14, [], 0), (24, .getfield 56, 15, [0, 9], 0), (27, .iconst 1, 16, [], 0), (28, .iadd, 17, [], 0), (29, .putfield 56, 18, [0, 9], 0), (32, .return_, 19, [], 0)])
def mm6_init : am_M := (⟨"AddressGrammarModel", "<init>", "()V"⟩, prog_8_method_1_code, 1, none, [(0, .aload_n 0, 1, [], 0), (1, .invokespecial 1, 2, [], 0), (4, .aload_n 0, 3, [], 0), (5, .bipush 60, 4, [], 0), (7, .newarray .int, 5, [0], 0), (9, .putfield 7, 6, [6, 2], 0), (12, .aload_n 0, 7, [], 0), (13, .iconst (-1), 8, [], 0), (14, .putfield 13, 9, [6, 3], 0), (17, .aload_n 0, 10, [], 0), (18, .bipush 9, 11, [], 0), (20, .newarray .int, 12, [0], 0), (22, .putfield 17, 13, [6, 6], 0), (25, .aload_n 0, 14, [], 0), (26, .bipush 9, 15, [], 0), (28, .newarray .int, 16, [0], 0), (30, .putfield 20, 17, [6, 7], 0), (33, .aload_n 0, 18, [], 0), (34, .bipush 9, 19, [], 0), (36, .newarray .int, 20, [0], 0), (38, .putfield 23, 21, [6, 8], 0), (41, .aload_n 0, 22, [], 0), (42, .bipush 9, 23, [], 0), (44, .newarray .int, 24, [0], 0), (46, .putfield 26, 25, [6, 10], 0), (49, .aload_n 0, 26, [], 0), (50, .bipush 9, 27, [], 0), (52, .newarray .int, 28, [0], 0), (54, .putfield 29, 29, [6, 11], 0), (57, .aload_n 0, 30, [], 0), (58, .bipush 9, 31, [], 0), (60, .newarray .int, 32, [0], 0), (62, .putfield 32, 33, [6, 12], 0), (65, .aload_n 0, 34, [], 0), (66, .bipush 6, 35, [], 0), (68, .newarray .int, 36, [0], 0), (70, .putfield 35, 37, [6, 14], 0), (73, .aload_n 0, 38, [], 0), (74, .bipush 30, 39, [], 0), (76, .newarray .int, 40, [0], 0), (78, .putfield 38, 41, [6, 15], 0), (81, .aload_n 0, 42, [], 0), (82, .bipush 120, 43, [], 0), (84, .newarray .int, 44, [0], 0), (86, .putfield 41, 45, [6, 16], 0), (89, .aload_n 0, 46, [], 0), (90, .bipush 120, 47, [], 0), (92, .newarray .int, 48, [0], 0), (94, .putfield 44, 49, [6, 17], 0), (97, .aload_n 0, 50, [], 0), (98, .bipush 120, 51, [], 0), (100, .newarray .int, 52, [0], 0), (102, .putfield 47, 53, [6, 18], 0), (105, .aload_n 0, 54, [], 0), (106, .sipush 180, 55, [], 0), (109, .newarray .int, 56, [0], 0), (111, .putfield 50, 57, [6, 20], 0), (114, .aload_n 0, 58, [], 0), (115, .bipush 18, 59, [], 0), (117, .newarray .int, 60, [0], 0), (119, .putfield 53, 61, [6, 23], 0), (122, .aload_n 0, 62, [], 0), (123, .iconst 2, 63, [], 0), (124, .newarray .int, 64, [0], 0), (126, .putfield 56, 65, [6, 24], 0), (129, .aload_n 0, 66, [], 0), (130, .bipush 10, 67, [], 0), (132, .newarray .int, 68, [0], 0), (134, .putfield 59, 69, [6, 25], 0), (137, .aload_n 0, 70, [], 0), (138, .bipush 10, 71, [], 0), (140, .newarray .int, 72, [0], 0), (142, .putfield 62, 73, [6, 26], 0), (145, .aload_n 0, 74, [], 0), (146, .bipush 10, 75, [], 0), (148, .newarray .int, 76, [0], 0), (150, .putfield 65, 77, [6, 27], 0), (153, .aload_n 0, 78, [], 0), (154, .bipush 80, 79, [], 0), (156, .newarray .int, 80, [0], 0), (158, .putfield 68, 81, [6, 29], 0), (161, .return_, 82, [], 0)])
def mm6_thrown : am_M := (⟨"AddressGrammarModel", "thrown", "()I"⟩, prog_8_method_2_code, 1, (some (.int)), [(0, .aload_n 0, 1, [], 0), (1, .getfield 71, 2, [6, 0], 0), (4, .ireturn, 3, [], 0)])
def mm6_sign : am_M := (⟨"AddressGrammarModel", "sign", "(I)Z"⟩, prog_8_method_3_code, 2, (some (.boolean)), [(0, .aload_n 0, 1, [], 0), (1, .iconst 0, 2, [], 0), (2, .putfield 71, 3, [6, 0], 0), (5, .iload_n 1, 4, [], 0), (6, .bipush 32, 5, [], 0), (8, .if_icmp .lt (18), 6, [13], 0), (11, .iload_n 1, 7, [], 0), (12, .bipush 126, 8, [], 0), (14, .if_icmp .gt (12), 9, [13], 0), (17, .aload_n 0, 10, [], 0), (18, .getfield 74, 11, [6, 1], 0), (21, .bipush 60, 12, [], 0), (23, .if_icmp .ne (5), 13, [15], 0), (26, .iconst 0, 14, [], 0), (27, .ireturn, 15, [], 0), (28, .aload_n 0, 16, [], 0), (29, .getfield 7, 17, [6, 2], 0), (32, .aload_n 0, 18, [], 0), (33, .getfield 74, 19, [6, 1], 0), (36, .iload_n 1, 20, [], 0), (37, .iastore, 21, [], 0), (38, .aload_n 0, 22, [], 0), (39, .dup, 23, [], 0), (40, .getfield 74, 24, [6, 1], 0), (43, .iconst 1, 25, [], 0), (44, .iadd, 26, [], 0), (45, .putfield 74, 27, [6, 1], 0), (48, .iconst 1, 28, [], 0), (49, .ireturn, 29, [], 0)])
def mm6_letter : am_M := (⟨"AddressGrammarModel", "letter", "(I)I"⟩, prog_8_method_4_code, 1, (some (.int)), [(0, .iload_n 0, 1, [], 0), (1, .tableswitch (71) 0 7 #[47, 50, 53, 56, 59, 62, 65, 68], 2, [18, 2, 4, 6, 8, 10, 12, 14, 16], 47), (48, .bipush 78, 3, [], 0), (50, .ireturn, 4, [], 0), (51, .bipush 70, 5, [], 0), (53, .ireturn, 6, [], 0), (54, .bipush 83, 7, [], 0), (56, .ireturn, 8, [], 0), (57, .bipush 72, 9, [], 0), (59, .ireturn, 10, [], 0), (60, .bipush 88, 11, [], 0), (62, .ireturn, 12, [], 0), (63, .bipush 66, 13, [], 0), (65, .ireturn, 14, [], 0), (66, .bipush 67, 15, [], 0), (68, .ireturn, 16, [], 0), (69, .bipush 80, 17, [], 0), (71, .ireturn, 18, [], 0), (72, .bipush 76, 19, [], 0), (74, .ireturn, 20, [], 0)])
def mm6_newKind : am_M := (⟨"AddressGrammarModel", "newKind", "(I)I"⟩, prog_8_method_5_code, 4, (some (.int)), [(0, .iconst (-1), 1, [], 0), (1, .istore_n 2, 2, [], 0), (2, .iconst 0, 3, [], 0), (3, .istore_n 3, 4, [], 0), (4, .iload_n 3, 5, [], 0), (5, .bipush 9, 6, [], 0), (7, .if_icmp .ge (23), 7, [17], 0), (10, .iload_n 3, 8, [], 0), (11, .invokestatic 77, 9, [20, 1], 0), (14, .iload_n 1, 10, [], 0), (15, .if_icmp .ne (7), 11, [13], 0), (18, .iload_n 3, 12, [], 0), (19, .goto (4), 13, [14], 0), (22, .iload_n 2, 14, [], 0), (23, .istore_n 2, 15, [], 0), (24, .iinc 3 1, 16, [], 0), (27, .goto (-23), 17, [4], 0), (30, .iconst 0, 18, [], 0), (31, .istore_n 3, 19, [], 0), (32, .iload_n 3, 20, [], 0), (33, .aload_n 0, 21, [], 0), (34, .getfield 81, 22, [6, 9], 0), (37, .if_icmp .ge (25), 23, [35], 0), (40, .aload_n 0, 24, [], 0), (41, .getfield 26, 25, [6, 10], 0), (44, .iload_n 3, 26, [], 0), (45, .iaload, 27, [], 0), (46, .iload_n 2, 28, [], 0), (47, .if_icmp .ne (7), 29, [31], 0), (50, .iconst (-1), 30, [], 0), (51, .goto (4), 31, [32], 0), (54, .iload_n 2, 32, [], 0), (55, .istore_n 2, 33, [], 0), (56, .iinc 3 1, 34, [], 0), (59, .goto (-27), 35, [19], 0), (62, .iload_n 2, 36, [], 0), (63, .ireturn, 37, [], 0)])
def mm6_fault : am_M := (⟨"AddressGrammarModel", "fault", "()I"⟩, prog_8_method_6_code, 6, (some (.int)), [(0, .aload_n 0, 1, [], 0), (1, .iconst 0, 2, [], 0), (2, .putfield 81, 3, [6, 9], 0), (5, .iconst 0, 4, [], 0), (6, .istore_n 1, 5, [], 0), (7, .iconst 0, 6, [], 0), (8, .istore_n 2, 7, [], 0), (9, .iconst 0, 8, [], 0), (10, .istore_n 3, 9, [], 0), (11, .iload_n 3, 10, [], 0), (12, .aload_n 0, 11, [], 0), (13, .getfield 74, 12, [6, 1], 0), (16, .if_icmp .ge (202), 13, [124], 0), (19, .aload_n 0, 14, [], 0), (20, .getfield 7, 15, [6, 2], 0), (23, .iload_n 3, 16, [], 0), (24, .iaload, 17, [], 0), (25, .istore 4, 18, [], 0), (27, .iload_n 2, 19, [], 0), (28, .iconst 2, 20, [], 0), (29, .if_icmp .ne (7), 21, [23], 0), (32, .iconst (-1), 22, [], 0), (33, .goto (9), 23, [26], 0), (36, .aload_n 0, 24, [], 0), (37, .iload 4, 25, [], 0), (39, .invokevirtual 84, 26, [21, 2], 0), (42, .istore 5, 27, [], 0), (44, .iload 5, 28, [], 0), (46, .iconst (-1), 29, [], 0), (47, .if_icmp .eq (49), 30, [57], 0), (50, .aload_n 0, 31, [], 0), (51, .getfield 26, 32, [6, 10], 0), (54, .aload_n 0, 33, [], 0), (55, .getfield 81, 34, [6, 9], 0), (58, .iload 5, 35, [], 0), (60, .iastore, 36, [], 0), (61, .aload_n 0, 37, [], 0), (62, .getfield 29, 38, [6, 11], 0), (65, .aload_n 0, 39, [], 0), (66, .getfield 81, 40, [6, 9], 0), (69, .iload_n 1, 41, [], 0), (70, .iastore, 42, [], 0), (71, .aload_n 0, 43, [], 0), (72, .getfield 32, 44, [6, 12], 0), (75, .aload_n 0, 45, [], 0), (76, .getfield 81, 46, [6, 9], 0), (79, .iconst (-1), 47, [], 0), (80, .iastore, 48, [], 0), (81, .aload_n 0, 49, [], 0), (82, .dup, 50, [], 0), (83, .getfield 81, 51, [6, 9], 0), (86, .iconst 1, 52, [], 0), (87, .iadd, 53, [], 0), (88, .putfield 81, 54, [6, 9], 0), (91, .iconst 1, 55, [], 0), (92, .istore_n 2, 56, [], 0), (93, .goto (119), 57, [122], 0), (96, .iload 4, 58, [], 0), (98, .bipush 59, 59, [], 0), (100, .if_icmp .ne (20), 60, [69], 0), (103, .iload_n 2, 61, [], 0), (104, .ifCond .eq (16), 62, [69], 0), (107, .iload_n 2, 63, [], 0), (108, .iconst 2, 64, [], 0), (109, .if_icmp .eq (11), 65, [69], 0), (112, .iinc 1 1, 66, [], 0), (115, .iconst 0, 67, [], 0), (116, .istore_n 2, 68, [], 0), (117, .goto (95), 69, [122], 0), (120, .iload 4, 70, [], 0), (122, .bipush 63, 71, [], 0), (124, .if_icmp .ne (25), 72, [86], 0), (127, .iload_n 2, 73, [], 0), (128, .iconst 1, 74, [], 0), (129, .if_icmp .ne (20), 75, [86], 0), (132, .aload_n 0, 76, [], 0), (133, .getfield 32, 77, [6, 12], 0), (136, .aload_n 0, 78, [], 0), (137, .getfield 81, 79, [6, 9], 0), (140, .iconst 1, 80, [], 0), (141, .isub, 81, [], 0), (142, .iconst 0, 82, [], 0), (143, .iastore, 83, [], 0), (144, .iconst 2, 84, [], 0), (145, .istore_n 2, 85, [], 0), (146, .goto (66), 86, [122], 0), (149, .iload 4, 87, [], 0), (151, .bipush 48, 88, [], 0), (153, .if_icmp .lt (57), 89, [120], 0), (156, .iload 4, 90, [], 0), (158, .bipush 57, 91, [], 0), (160, .if_icmp .gt (50), 92, [120], 0), (163, .iload_n 2, 93, [], 0), (164, .iconst 1, 94, [], 0), (165, .if_icmp .le (45), 95, [120], 0), (168, .iload_n 2, 96, [], 0), (169, .iconst 5, 97, [], 0), (170, .if_icmp .ge (40), 98, [120], 0), (173, .aload_n 0, 99, [], 0), (174, .getfield 32, 100, [6, 12], 0), (177, .aload_n 0, 101, [], 0), (178, .getfield 81, 102, [6, 9], 0), (181, .iconst 1, 103, [], 0), (182, .isub, 104, [], 0), (183, .bipush 10, 105, [], 0), (185, .aload_n 0, 106, [], 0), (186, .getfield 32, 107, [6, 12], 0), (189, .aload_n 0, 108, [], 0), (190, .getfield 81, 109, [6, 9], 0), (193, .iconst 1, 110, [], 0), (194, .isub, 111, [], 0), (195, .iaload, 112, [], 0), (196, .imul, 113, [], 0), (197, .iload 4, 114, [], 0), (199, .iadd, 115, [], 0), (200, .bipush 48, 116, [], 0), (202, .isub, 117, [], 0), (203, .iastore, 118, [], 0), (204, .iinc 2 1, 119, [], 0), (207, .goto (5), 120, [122], 0), (210, .iload_n 3, 121, [], 0), (211, .ireturn, 122, [], 0), (212, .iinc 3 1, 123, [], 0), (215, .goto (-204), 124, [9], 0), (218, .iload_n 2, 125, [], 0), (219, .ifCond .ne (7), 126, [128], 0), (222, .iload_n 1, 127, [], 0), (223, .ifCond .ne (10), 128, [131], 0), (226, .aload_n 0, 129, [], 0), (227, .getfield 74, 130, [6, 1], 0), (230, .goto (4), 131, [132], 0), (233, .iconst (-1), 132, [], 0), (234, .ireturn, 133, [], 0)])
def mm6_read : am_M := (⟨"AddressGrammarModel", "read", "()I"⟩, prog_8_method_7_code, 3, (some (.int)), [(0, .aload_n 0, 1, [], 0), (1, .invokevirtual 87, 2, [22, 1], 0), (4, .istore_n 1, 3, [], 0), (5, .aload_n 0, 4, [], 0), (6, .iconst 0, 5, [], 0), (7, .putfield 74, 6, [6, 1], 0), (10, .aload_n 0, 7, [], 0), (11, .iload_n 1, 8, [], 0), (12, .iconst (-1), 9, [], 0), (13, .if_icmp .eq (7), 10, [12], 0), (16, .iconst 1, 11, [], 0), (17, .goto (4), 12, [13], 0), (20, .iconst 0, 13, [], 0), (21, .putfield 71, 14, [6, 0], 0), (24, .aload_n 0, 15, [], 0), (25, .getfield 71, 16, [6, 0], 0), (28, .ifCond .le (10), 17, [22], 0), (31, .aload_n 0, 18, [], 0), (32, .iload_n 1, 19, [], 0), (33, .putfield 13, 20, [6, 3], 0), (36, .iconst 0, 21, [], 0), (37, .ireturn, 22, [], 0), (38, .aload_n 0, 23, [], 0), (39, .aload_n 0, 24, [], 0), (40, .getfield 81, 25, [6, 9], 0), (43, .putfield 91, 26, [6, 5], 0), (46, .iconst 0, 27, [], 0), (47, .istore_n 2, 28, [], 0), (48, .iload_n 2, 29, [], 0), (49, .aload_n 0, 30, [], 0), (50, .getfield 91, 31, [6, 5], 0), (53, .if_icmp .ge (45), 32, [58], 0), (56, .aload_n 0, 33, [], 0), (57, .getfield 17, 34, [6, 6], 0), (60, .iload_n 2, 35, [], 0), (61, .aload_n 0, 36, [], 0), (62, .getfield 26, 37, [6, 10], 0), (65, .iload_n 2, 38, [], 0), (66, .iaload, 39, [], 0), (67, .iastore, 40, [], 0), (68, .aload_n 0, 41, [], 0), (69, .getfield 20, 42, [6, 7], 0), (72, .iload_n 2, 43, [], 0), (73, .aload_n 0, 44, [], 0), (74, .getfield 29, 45, [6, 11], 0), (77, .iload_n 2, 46, [], 0), (78, .iaload, 47, [], 0), (79, .iastore, 48, [], 0), (80, .aload_n 0, 49, [], 0), (81, .getfield 23, 50, [6, 8], 0), (84, .iload_n 2, 51, [], 0), (85, .aload_n 0, 52, [], 0), (86, .getfield 32, 53, [6, 12], 0), (89, .iload_n 2, 54, [], 0), (90, .iaload, 55, [], 0), (91, .iastore, 56, [], 0), (92, .iinc 2 1, 57, [], 0), (95, .goto (-47), 58, [28], 0), (98, .aload_n 0, 59, [], 0), (99, .aload_n 0, 60, [], 0), (100, .getfield 20, 61, [6, 7], 0), (103, .aload_n 0, 62, [], 0), (104, .getfield 91, 63, [6, 5], 0), (107, .iconst 1, 64, [], 0), (108, .isub, 65, [], 0), (109, .iaload, 66, [], 0), (110, .iconst 1, 67, [], 0), (111, .iadd, 68, [], 0), (112, .putfield 94, 69, [6, 4], 0), (115, .aload_n 0, 70, [], 0), (116, .iconst 0, 71, [], 0), (117, .putfield 97, 72, [6, 21], 0), (120, .aload_n 0, 73, [], 0), (121, .getfield 94, 74, [6, 4], 0), (124, .ireturn, 75, [], 0)])
def mm6_wrong : am_M := (⟨"AddressGrammarModel", "wrong", "()I"⟩, prog_8_method_8_code, 1, (some (.int)), [(0, .aload_n 0, 1, [], 0), (1, .iconst 0, 2, [], 0), (2, .putfield 71, 3, [6, 0], 0), (5, .aload_n 0, 4, [], 0), (6, .getfield 13, 5, [6, 3], 0), (9, .ireturn, 6, [], 0)])
def mm6_word : am_M := (⟨"AddressGrammarModel", "word", "(IIIJ)I"⟩, prog_8_method_9_code, 10, (some (.int)), [(0, .aload_n 0, 1, [], 0), (1, .iconst 0, 2, [], 0), (2, .putfield 71, 3, [6, 0], 0), (5, .iload_n 1, 4, [], 0), (6, .ifCond .lt (46), 5, [26], 0), (9, .iload_n 1, 6, [], 0), (10, .bipush 6, 7, [], 0), (12, .if_icmp .ge (40), 8, [26], 0), (15, .iload_n 2, 9, [], 0), (16, .ifCond .lt (36), 10, [26], 0), (19, .iload_n 2, 11, [], 0), (20, .bipush 9, 12, [], 0), (22, .if_icmp .ge (30), 13, [26], 0), (25, .iload_n 3, 14, [], 0), (26, .ifCond .lt (26), 15, [26], 0), (29, .iload_n 3, 16, [], 0), (30, .sipush 4999, 17, [], 0), (33, .if_icmp .gt (19), 18, [26], 0), (36, .lload 4, 19, [], 0), (38, .lconst 0, 20, [], 0), (39, .lcmp, 21, [], 0), (40, .ifCond .lt (12), 22, [26], 0), (43, .lload 4, 23, [], 0), (45, .ldc2_w 101, 24, [], 1000), (48, .lcmp, 25, [], 0), (49, .ifCond .le (6), 26, [28], 0), (52, .bipush (-12), 27, [], 0), (54, .ireturn, 28, [], 0), (55, .iload_n 3, 29, [], 0), (56, .sipush 1000, 30, [], 0), (59, .idiv, 31, [], 0), (60, .istore 6, 32, [], 0), (62, .iload_n 1, 33, [], 0), (63, .aload_n 0, 34, [], 0), (64, .getfield 103, 35, [6, 13], 0), (67, .if_icmp .ge (12), 36, [41], 0), (70, .aload_n 0, 37, [], 0), (71, .getfield 35, 38, [6, 14], 0), (74, .iload_n 1, 39, [], 0), (75, .iaload, 40, [], 0), (76, .goto (4), 41, [42], 0), (79, .iconst 0, 42, [], 0), (80, .istore 7, 43, [], 0), (82, .iload_n 1, 44, [], 0), (83, .aload_n 0, 45, [], 0), (84, .getfield 103, 46, [6, 13], 0), (87, .if_icmp .gt (10), 47, [50], 0), (90, .iload 6, 48, [], 0), (92, .iload 7, 49, [], 0), (94, .if_icmp .le (6), 50, [52], 0), (97, .bipush (-13), 51, [], 0), (99, .ireturn, 52, [], 0), (100, .iconst 5, 53, [], 0), (101, .iload_n 1, 54, [], 0), (102, .imul, 55, [], 0), (103, .iload 6, 56, [], 0), (105, .iadd, 57, [], 0), (106, .istore 8, 58, [], 0), (108, .iload 6, 59, [], 0), (110, .iload 7, 60, [], 0), (112, .if_icmp .ge (13), 61, [66], 0), (115, .aload_n 0, 62, [], 0), (116, .getfield 38, 63, [6, 15], 0), (119, .iload 8, 64, [], 0), (121, .iaload, 65, [], 0), (122, .goto (4), 66, [67], 0), (125, .iconst 0, 67, [], 0), (126, .istore 9, 68, [], 0), (128, .iload 9, 69, [], 0), (130, .iconst 4, 70, [], 0), (131, .if_icmp .ne (6), 71, [73], 0), (134, .bipush (-14), 72, [], 0), (136, .ireturn, 73, [], 0), (137, .aload_n 0, 74, [], 0), (138, .iload_n 1, 75, [], 0), (139, .aload_n 0, 76, [], 0), (140, .getfield 103, 77, [6, 13], 0), (143, .if_icmp .ne (12), 78, [83], 0), (146, .aload_n 0, 79, [], 0), (147, .getfield 103, 80, [6, 13], 0), (150, .iconst 1, 81, [], 0), (151, .iadd, 82, [], 0), (152, .goto (7), 83, [85], 0), (155, .aload_n 0, 84, [], 0), (156, .getfield 103, 85, [6, 13], 0), (159, .putfield 103, 86, [6, 13], 0), (162, .aload_n 0, 87, [], 0), (163, .getfield 35, 88, [6, 14], 0), (166, .iload_n 1, 89, [], 0), (167, .iload 6, 90, [], 0), (169, .iload 7, 91, [], 0), (171, .if_icmp .ne (10), 92, [96], 0), (174, .iload 7, 93, [], 0), (176, .iconst 1, 94, [], 0), (177, .iadd, 95, [], 0), (178, .goto (5), 96, [97], 0), (181, .iload 7, 97, [], 0), (183, .iastore, 98, [], 0), (184, .aload_n 0, 99, [], 0), (185, .getfield 41, 100, [6, 16], 0), (188, .iconst 4, 101, [], 0), (189, .iload 8, 102, [], 0), (191, .imul, 103, [], 0), (192, .iload 9, 104, [], 0), (194, .iadd, 105, [], 0), (195, .iload_n 2, 106, [], 0), (196, .iastore, 107, [], 0), (197, .aload_n 0, 108, [], 0), (198, .getfield 44, 109, [6, 17], 0), (201, .iconst 4, 110, [], 0), (202, .iload 8, 111, [], 0), (204, .imul, 112, [], 0), (205, .iload 9, 113, [], 0), (207, .iadd, 114, [], 0), (208, .iload_n 3, 115, [], 0), (209, .sipush 1000, 116, [], 0), (212, .irem, 117, [], 0), (213, .iastore, 118, [], 0), (214, .aload_n 0, 119, [], 0), (215, .getfield 47, 120, [6, 18], 0), (218, .iconst 4, 121, [], 0), (219, .iload 8, 122, [], 0), (221, .imul, 123, [], 0), (222, .iload 9, 124, [], 0), (224, .iadd, 125, [], 0), (225, .lload 4, 126, [], 0), (227, .l2i, 127, [], 0), (228, .iastore, 128, [], 0), (229, .aload_n 0, 129, [], 0), (230, .getfield 38, 130, [6, 15], 0), (233, .iload 8, 131, [], 0), (235, .iload 9, 132, [], 0), (237, .iconst 1, 133, [], 0), (238, .iadd, 134, [], 0), (239, .iastore, 135, [], 0), (240, .aload_n 0, 136, [], 0), (241, .iconst 0, 137, [], 0), (242, .putfield 97, 138, [6, 21], 0), (245, .iload 9, 139, [], 0), (247, .ireturn, 140, [], 0)])
def mm6_clear : am_M := (⟨"AddressGrammarModel", "clear", "()I"⟩, prog_8_method_10_code, 2, (some (.int)), [(0, .aload_n 0, 1, [], 0), (1, .iconst 0, 2, [], 0), (2, .putfield 71, 3, [6, 0], 0), (5, .aload_n 0, 4, [], 0), (6, .getfield 103, 5, [6, 13], 0), (9, .istore_n 1, 6, [], 0), (10, .aload_n 0, 7, [], 0), (11, .iconst 0, 8, [], 0), (12, .putfield 103, 9, [6, 13], 0), (15, .aload_n 0, 10, [], 0), (16, .iconst 0, 11, [], 0), (17, .putfield 97, 12, [6, 21], 0), (20, .iload_n 1, 13, [], 0), (21, .ireturn, 14, [], 0)])
def mm6_isFit : am_M := (⟨"AddressGrammarModel", "isFit", "(III)Z"⟩, prog_8_method_11_code, 6, (some (.boolean)), [(0, .iconst 0, 1, [], 0), (1, .istore 4, 2, [], 0), (3, .iconst 0, 3, [], 0), (4, .istore 5, 4, [], 0), (6, .iload 5, 5, [], 0), (8, .aload_n 0, 6, [], 0), (9, .getfield 106, 7, [6, 19], 0), (12, .if_icmp .ge (64), 8, [44], 0), (15, .iload 4, 9, [], 0), (17, .ifCond .ne (46), 10, [38], 0), (20, .aload_n 0, 11, [], 0), (21, .getfield 50, 12, [6, 20], 0), (24, .iconst 3, 13, [], 0), (25, .iload 5, 14, [], 0), (27, .imul, 15, [], 0), (28, .iaload, 16, [], 0), (29, .iload_n 1, 17, [], 0), (30, .if_icmp .ne (37), 18, [40], 0), (33, .aload_n 0, 19, [], 0), (34, .getfield 50, 20, [6, 20], 0), (37, .iconst 3, 21, [], 0), (38, .iload 5, 22, [], 0), (40, .imul, 23, [], 0), (41, .iconst 1, 24, [], 0), (42, .iadd, 25, [], 0), (43, .iaload, 26, [], 0), (44, .iload_n 2, 27, [], 0), (45, .if_icmp .ne (22), 28, [40], 0), (48, .aload_n 0, 29, [], 0), (49, .getfield 50, 30, [6, 20], 0), (52, .iconst 3, 31, [], 0), (53, .iload 5, 32, [], 0), (55, .imul, 33, [], 0), (56, .iconst 2, 34, [], 0), (57, .iadd, 35, [], 0), (58, .iaload, 36, [], 0), (59, .iload_n 3, 37, [], 0), (60, .if_icmp .ne (7), 38, [40], 0), (63, .iconst 1, 39, [], 0), (64, .goto (4), 40, [41], 0), (67, .iconst 0, 41, [], 0), (68, .istore 4, 42, [], 0), (70, .iinc 5 1, 43, [], 0), (73, .goto (-67), 44, [4], 0), (76, .iload 4, 45, [], 0), (78, .ireturn, 46, [], 0)])
def mm6_fits : am_M := (⟨"AddressGrammarModel", "fits", "(III)Z"⟩, prog_8_method_12_code, 4, (some (.boolean)), [(0, .aload_n 0, 1, [], 0), (1, .iconst 0, 2, [], 0), (2, .putfield 71, 3, [6, 0], 0), (5, .iload_n 1, 4, [], 0), (6, .iconst 2, 5, [], 0), (7, .if_icmp .eq (9), 6, [9], 0), (10, .iload_n 1, 7, [], 0), (11, .bipush 6, 8, [], 0), (13, .if_icmp .ne (44), 9, [29], 0), (16, .iload_n 2, 10, [], 0), (17, .ifCond .lt (40), 11, [29], 0), (20, .iload_n 2, 12, [], 0), (21, .sipush 999, 13, [], 0), (24, .if_icmp .gt (33), 14, [29], 0), (27, .iload_n 3, 15, [], 0), (28, .ifCond .lt (29), 16, [29], 0), (31, .iload_n 3, 17, [], 0), (32, .sipush 999, 18, [], 0), (35, .if_icmp .gt (22), 19, [29], 0), (38, .aload_n 0, 20, [], 0), (39, .getfield 106, 21, [6, 19], 0), (42, .bipush 60, 22, [], 0), (44, .if_icmp .eq (13), 23, [29], 0), (47, .aload_n 0, 24, [], 0), (48, .iload_n 1, 25, [], 0), (49, .iload_n 2, 26, [], 0), (50, .iload_n 3, 27, [], 0), (51, .invokevirtual 109, 28, [27, 4], 0), (54, .ifCond .eq (5), 29, [31], 0), (57, .iconst 0, 30, [], 0), (58, .ireturn, 31, [], 0), (59, .aload_n 0, 32, [], 0), (60, .getfield 50, 33, [6, 20], 0), (63, .iconst 3, 34, [], 0), (64, .aload_n 0, 35, [], 0), (65, .getfield 106, 36, [6, 19], 0), (68, .imul, 37, [], 0), (69, .iload_n 1, 38, [], 0), (70, .iastore, 39, [], 0), (71, .aload_n 0, 40, [], 0), (72, .getfield 50, 41, [6, 20], 0), (75, .iconst 3, 42, [], 0), (76, .aload_n 0, 43, [], 0), (77, .getfield 106, 44, [6, 19], 0), (80, .imul, 45, [], 0), (81, .iconst 1, 46, [], 0), (82, .iadd, 47, [], 0), (83, .iload_n 2, 48, [], 0), (84, .iastore, 49, [], 0), (85, .aload_n 0, 50, [], 0), (86, .getfield 50, 51, [6, 20], 0), (89, .iconst 3, 52, [], 0), (90, .aload_n 0, 53, [], 0), (91, .getfield 106, 54, [6, 19], 0), (94, .imul, 55, [], 0), (95, .iconst 2, 56, [], 0), (96, .iadd, 57, [], 0), (97, .iload_n 3, 58, [], 0), (98, .iastore, 59, [], 0), (99, .aload_n 0, 60, [], 0), (100, .dup, 61, [], 0), (101, .getfield 106, 62, [6, 19], 0), (104, .iconst 1, 63, [], 0), (105, .iadd, 64, [], 0), (106, .putfield 106, 65, [6, 19], 0), (109, .aload_n 0, 66, [], 0), (110, .iconst 0, 67, [], 0), (111, .putfield 97, 68, [6, 21], 0), (114, .iconst 1, 69, [], 0), (115, .ireturn, 70, [], 0)])
def mm6_alternative : am_M := (⟨"AddressGrammarModel", "alternative", "(II)I"⟩, prog_8_method_13_code, 3, (some (.int)), [(0, .iconst 4, 1, [], 0), (1, .iconst 5, 2, [], 0), (2, .aload_n 0, 3, [], 0), (3, .getfield 62, 4, [6, 26], 0), (6, .iload_n 1, 5, [], 0), (7, .iaload, 6, [], 0), (8, .imul, 7, [], 0), (9, .aload_n 0, 8, [], 0), (10, .getfield 65, 9, [6, 27], 0), (13, .iload_n 1, 10, [], 0), (14, .iaload, 11, [], 0), (15, .iadd, 12, [], 0), (16, .imul, 13, [], 0), (17, .iload_n 2, 14, [], 0), (18, .iadd, 15, [], 0), (19, .ireturn, 16, [], 0)])
def mm6_can : am_M := (⟨"AddressGrammarModel", "can", "(I)Z"⟩, prog_8_method_14_code, 3, (some (.boolean)), [(0, .aload_n 0, 1, [], 0), (1, .getfield 59, 2, [6, 25], 0), (4, .iload_n 1, 3, [], 0), (5, .iaload, 4, [], 0), (6, .iconst 4, 5, [], 0), (7, .if_icmp .ne (19), 6, [16], 0), (10, .aload_n 0, 7, [], 0), (11, .getfield 23, 8, [6, 8], 0), (14, .iload_n 1, 9, [], 0), (15, .iaload, 10, [], 0), (16, .iconst (-1), 11, [], 0), (17, .if_icmp .eq (7), 12, [14], 0), (20, .iconst 1, 13, [], 0), (21, .goto (4), 14, [15], 0), (24, .iconst 0, 15, [], 0), (25, .ireturn, 16, [], 0), (26, .aload_n 0, 17, [], 0), (27, .getfield 62, 18, [6, 26], 0), (30, .iload_n 1, 19, [], 0), (31, .iaload, 20, [], 0), (32, .istore_n 2, 21, [], 0), (33, .iload_n 2, 22, [], 0), (34, .aload_n 0, 23, [], 0), (35, .getfield 103, 24, [6, 13], 0), (38, .if_icmp .ge (42), 25, [50], 0), (41, .aload_n 0, 26, [], 0), (42, .getfield 65, 27, [6, 27], 0), (45, .iload_n 1, 28, [], 0), (46, .iaload, 29, [], 0), (47, .aload_n 0, 30, [], 0), (48, .getfield 35, 31, [6, 14], 0), (51, .iload_n 2, 32, [], 0), (52, .iaload, 33, [], 0), (53, .if_icmp .ge (27), 34, [50], 0), (56, .aload_n 0, 35, [], 0), (57, .getfield 59, 36, [6, 25], 0), (60, .iload_n 1, 37, [], 0), (61, .iaload, 38, [], 0), (62, .aload_n 0, 39, [], 0), (63, .getfield 38, 40, [6, 15], 0), (66, .iconst 5, 41, [], 0), (67, .iload_n 2, 42, [], 0), (68, .imul, 43, [], 0), (69, .aload_n 0, 44, [], 0), (70, .getfield 65, 45, [6, 27], 0), (73, .iload_n 1, 46, [], 0), (74, .iaload, 47, [], 0), (75, .iadd, 48, [], 0), (76, .iaload, 49, [], 0), (77, .if_icmp .lt (5), 50, [52], 0), (80, .iconst 0, 51, [], 0), (81, .ireturn, 52, [], 0), (82, .aload_n 0, 53, [], 0), (83, .getfield 41, 54, [6, 16], 0), (86, .aload_n 0, 55, [], 0), (87, .iload_n 1, 56, [], 0), (88, .aload_n 0, 57, [], 0), (89, .getfield 59, 58, [6, 25], 0), (92, .iload_n 1, 59, [], 0), (93, .iaload, 60, [], 0), (94, .invokevirtual 113, 61, [29, 3], 0), (97, .iaload, 62, [], 0), (98, .aload_n 0, 63, [], 0), (99, .getfield 17, 64, [6, 6], 0), (102, .iload_n 1, 65, [], 0), (103, .iaload, 66, [], 0), (104, .if_icmp .ne (7), 67, [69], 0), (107, .iconst 1, 68, [], 0), (108, .goto (4), 69, [70], 0), (111, .iconst 0, 70, [], 0), (112, .ireturn, 71, [], 0)])
def mm6_goes : am_M := (⟨"AddressGrammarModel", "goes", "(I)Z"⟩, prog_8_method_15_code, 5, (some (.boolean)), [(0, .aload_n 0, 1, [], 0), (1, .getfield 62, 2, [6, 26], 0), (4, .iload_n 1, 3, [], 0), (5, .iaload, 4, [], 0), (6, .istore_n 2, 5, [], 0), (7, .aload_n 0, 6, [], 0), (8, .getfield 59, 7, [6, 25], 0), (11, .iload_n 1, 8, [], 0), (12, .iaload, 9, [], 0), (13, .iconst 4, 10, [], 0), (14, .if_icmp .ne (12), 11, [16], 0), (17, .aload_n 0, 12, [], 0), (18, .getfield 65, 13, [6, 27], 0), (21, .iload_n 1, 14, [], 0), (22, .iaload, 15, [], 0), (23, .goto (11), 16, [22], 0), (26, .aload_n 0, 17, [], 0), (27, .getfield 65, 18, [6, 27], 0), (30, .iload_n 1, 19, [], 0), (31, .iaload, 20, [], 0), (32, .iconst 1, 21, [], 0), (33, .iadd, 22, [], 0), (34, .istore_n 3, 23, [], 0), (35, .iload_n 1, 24, [], 0), (36, .iconst 1, 25, [], 0), (37, .iadd, 26, [], 0), (38, .aload_n 0, 27, [], 0), (39, .getfield 91, 28, [6, 5], 0), (42, .if_icmp .eq (20), 29, [40], 0), (45, .aload_n 0, 30, [], 0), (46, .getfield 20, 31, [6, 7], 0), (49, .iload_n 1, 32, [], 0), (50, .iconst 1, 33, [], 0), (51, .iadd, 34, [], 0), (52, .iaload, 35, [], 0), (53, .aload_n 0, 36, [], 0), (54, .getfield 20, 37, [6, 7], 0), (57, .iload_n 1, 38, [], 0), (58, .iaload, 39, [], 0), (59, .if_icmp .eq (7), 40, [42], 0), (62, .iconst 1, 41, [], 0), (63, .goto (4), 42, [43], 0), (66, .iconst 0, 43, [], 0), (67, .istore 4, 44, [], 0), (69, .iload 4, 45, [], 0), (71, .ifCond .eq (24), 46, [59], 0), (74, .iload_n 3, 47, [], 0), (75, .ifCond .le (20), 48, [59], 0), (78, .iload_n 3, 49, [], 0), (79, .aload_n 0, 50, [], 0), (80, .getfield 35, 51, [6, 14], 0), (83, .iload_n 2, 52, [], 0), (84, .iaload, 53, [], 0), (85, .if_icmp .eq (5), 54, [56], 0), (88, .iconst 0, 55, [], 0), (89, .ireturn, 56, [], 0), (90, .iinc 2 1, 57, [], 0), (93, .iconst 0, 58, [], 0), (94, .istore_n 3, 59, [], 0), (95, .aload_n 0, 60, [], 0), (96, .getfield 62, 61, [6, 26], 0), (99, .iload_n 1, 62, [], 0), (100, .iconst 1, 63, [], 0), (101, .iadd, 64, [], 0), (102, .iload_n 2, 65, [], 0), (103, .iastore, 66, [], 0), (104, .aload_n 0, 67, [], 0), (105, .getfield 65, 68, [6, 27], 0), (108, .iload_n 1, 69, [], 0), (109, .iconst 1, 70, [], 0), (110, .iadd, 71, [], 0), (111, .iload_n 3, 72, [], 0), (112, .iastore, 73, [], 0), (113, .iconst 1, 74, [], 0), (114, .ireturn, 75, [], 0)])
def mm6_valueOf : am_M := (⟨"AddressGrammarModel", "valueOf", "(I)I"⟩, prog_8_method_16_code, 4, (some (.int)), [(0, .iconst (-1), 1, [], 0), (1, .istore_n 2, 2, [], 0), (2, .iconst 0, 3, [], 0), (3, .istore_n 3, 4, [], 0), (4, .iload_n 3, 5, [], 0), (5, .aload_n 0, 6, [], 0), (6, .getfield 91, 7, [6, 5], 0), (9, .if_icmp .ge (50), 8, [35], 0), (12, .aload_n 0, 9, [], 0), (13, .getfield 17, 10, [6, 6], 0), (16, .iload_n 3, 11, [], 0), (17, .iaload, 12, [], 0), (18, .iload_n 1, 13, [], 0), (19, .if_icmp .ne (32), 14, [31], 0), (22, .aload_n 0, 15, [], 0), (23, .getfield 59, 16, [6, 25], 0), (26, .iload_n 3, 17, [], 0), (27, .iaload, 18, [], 0), (28, .iconst 4, 19, [], 0), (29, .if_icmp .eq (22), 20, [31], 0), (32, .aload_n 0, 21, [], 0), (33, .getfield 44, 22, [6, 17], 0), (36, .aload_n 0, 23, [], 0), (37, .iload_n 3, 24, [], 0), (38, .aload_n 0, 25, [], 0), (39, .getfield 59, 26, [6, 25], 0), (42, .iload_n 3, 27, [], 0), (43, .iaload, 28, [], 0), (44, .invokevirtual 113, 29, [29, 3], 0), (47, .iaload, 30, [], 0), (48, .goto (4), 31, [32], 0), (51, .iload_n 2, 32, [], 0), (52, .istore_n 2, 33, [], 0), (53, .iinc 3 1, 34, [], 0), (56, .goto (-52), 35, [4], 0), (59, .iload_n 2, 36, [], 0), (60, .ireturn, 37, [], 0)])
def mm6_extra : am_M := (⟨"AddressGrammarModel", "extra", "(I)I"⟩, prog_8_method_17_code, 4, (some (.int)), [(0, .aload_n 0, 1, [], 0), (1, .iload_n 1, 2, [], 0), (2, .invokevirtual 117, 3, [32, 2], 0), (5, .istore_n 2, 4, [], 0), (6, .aload_n 0, 5, [], 0), (7, .bipush 7, 6, [], 0), (9, .invokevirtual 117, 7, [32, 2], 0), (12, .istore_n 3, 8, [], 0), (13, .iload_n 2, 9, [], 0), (14, .iconst (-1), 10, [], 0), (15, .if_icmp .eq (23), 11, [22], 0), (18, .iload_n 3, 12, [], 0), (19, .iconst (-1), 13, [], 0), (20, .if_icmp .eq (18), 14, [22], 0), (23, .aload_n 0, 15, [], 0), (24, .iload_n 1, 16, [], 0), (25, .iload_n 2, 17, [], 0), (26, .iload_n 3, 18, [], 0), (27, .invokevirtual 109, 19, [27, 4], 0), (30, .ifCond .ne (8), 20, [22], 0), (33, .bipush 100, 21, [], 0), (35, .goto (4), 22, [23], 0), (38, .iconst 0, 23, [], 0), (39, .ireturn, 24, [], 0)])
def mm6_keep : am_M := (⟨"AddressGrammarModel", "keep", "()V"⟩, prog_8_method_18_code, 4, none, [(0, .aload_n 0, 1, [], 0), (1, .iconst 2, 2, [], 0), (2, .invokevirtual 120, 3, [33, 2], 0), (5, .aload_n 0, 4, [], 0), (6, .bipush 6, 5, [], 0), (8, .invokevirtual 120, 6, [33, 2], 0), (11, .iadd, 7, [], 0), (12, .istore_n 1, 8, [], 0), (13, .iconst 0, 9, [], 0), (14, .istore_n 2, 10, [], 0), (15, .iload_n 2, 11, [], 0), (16, .aload_n 0, 12, [], 0), (17, .getfield 91, 13, [6, 5], 0), (20, .if_icmp .ge (47), 14, [40], 0), (23, .iload_n 1, 15, [], 0), (24, .aload_n 0, 16, [], 0), (25, .getfield 59, 17, [6, 25], 0), (28, .iload_n 2, 18, [], 0), (29, .iaload, 19, [], 0), (30, .iconst 4, 20, [], 0), (31, .if_icmp .ne (12), 21, [26], 0), (34, .aload_n 0, 22, [], 0), (35, .getfield 23, 23, [6, 8], 0), (38, .iload_n 2, 24, [], 0), (39, .iaload, 25, [], 0), (40, .goto (19), 26, [36], 0), (43, .aload_n 0, 27, [], 0), (44, .getfield 47, 28, [6, 18], 0), (47, .aload_n 0, 29, [], 0), (48, .iload_n 2, 30, [], 0), (49, .aload_n 0, 31, [], 0), (50, .getfield 59, 32, [6, 25], 0), (53, .iload_n 2, 33, [], 0), (54, .iaload, 34, [], 0), (55, .invokevirtual 113, 35, [29, 3], 0), (58, .iaload, 36, [], 0), (59, .iadd, 37, [], 0), (60, .istore_n 1, 38, [], 0), (61, .iinc 2 1, 39, [], 0), (64, .goto (-49), 40, [10], 0), (67, .aload_n 0, 41, [], 0), (68, .getfield 123, 42, [6, 22], 0), (71, .istore_n 2, 43, [], 0), (72, .iload_n 2, 44, [], 0), (73, .ifCond .le (21), 45, [55], 0), (76, .iload_n 1, 46, [], 0), (77, .aload_n 0, 47, [], 0), (78, .getfield 56, 48, [6, 24], 0), (81, .iload_n 2, 49, [], 0), (82, .iconst 1, 50, [], 0), (83, .isub, 51, [], 0), (84, .iaload, 52, [], 0), (85, .if_icmp .ge (9), 53, [55], 0), (88, .iinc 2 (-1), 54, [], 0), (91, .goto (-19), 55, [43], 0), (94, .iload_n 2, 56, [], 0), (95, .iconst 1, 57, [], 0), (96, .if_icmp .le (4), 58, [59], 0), (99, .return_, 59, [], 0), (100, .iload_n 2, 60, [], 0), (101, .ifCond .ne (44), 61, [86], 0), (104, .aload_n 0, 62, [], 0), (105, .getfield 56, 63, [6, 24], 0), (108, .iconst 1, 64, [], 0), (109, .aload_n 0, 65, [], 0), (110, .getfield 56, 66, [6, 24], 0), (113, .iconst 0, 67, [], 0), (114, .iaload, 68, [], 0), (115, .iastore, 69, [], 0), (116, .iconst 0, 70, [], 0), (117, .istore_n 3, 71, [], 0), (118, .iload_n 3, 72, [], 0), (119, .bipush 9, 73, [], 0), (121, .if_icmp .ge (24), 74, [86], 0), (124, .aload_n 0, 75, [], 0), (125, .getfield 53, 76, [6, 23], 0), (128, .bipush 9, 77, [], 0), (130, .iload_n 3, 78, [], 0), (131, .iadd, 79, [], 0), (132, .aload_n 0, 80, [], 0), (133, .getfield 53, 81, [6, 23], 0), (136, .iload_n 3, 82, [], 0), (137, .iaload, 83, [], 0), (138, .iastore, 84, [], 0), (139, .iinc 3 1, 85, [], 0), (142, .goto (-24), 86, [71], 0), (145, .aload_n 0, 87, [], 0), (146, .getfield 56, 88, [6, 24], 0), (149, .iload_n 2, 89, [], 0), (150, .iload_n 1, 90, [], 0), (151, .iastore, 91, [], 0), (152, .iconst 0, 92, [], 0), (153, .istore_n 3, 93, [], 0), (154, .iload_n 3, 94, [], 0), (155, .aload_n 0, 95, [], 0), (156, .getfield 91, 96, [6, 5], 0), (159, .if_icmp .ge (26), 97, [111], 0), (162, .aload_n 0, 98, [], 0), (163, .getfield 53, 99, [6, 23], 0), (166, .bipush 9, 100, [], 0), (168, .iload_n 2, 101, [], 0), (169, .imul, 102, [], 0), (170, .iload_n 3, 103, [], 0), (171, .iadd, 104, [], 0), (172, .aload_n 0, 105, [], 0), (173, .getfield 59, 106, [6, 25], 0), (176, .iload_n 3, 107, [], 0), (177, .iaload, 108, [], 0), (178, .iastore, 109, [], 0), (179, .iinc 3 1, 110, [], 0), (182, .goto (-28), 111, [93], 0), (185, .aload_n 0, 112, [], 0), (186, .aload_n 0, 113, [], 0), (187, .getfield 123, 114, [6, 22], 0), (190, .iconst 2, 115, [], 0), (191, .if_icmp .ge (12), 116, [121], 0), (194, .aload_n 0, 117, [], 0), (195, .getfield 123, 118, [6, 22], 0), (198, .iconst 1, 119, [], 0), (199, .iadd, 120, [], 0), (200, .goto (4), 121, [122], 0), (203, .iconst 2, 122, [], 0), (204, .putfield 123, 123, [6, 22], 0), (207, .return_, 124, [], 0)])
def mm6_look : am_M := (⟨"AddressGrammarModel", "look", "()V"⟩, prog_8_method_19_code, 2, none, [(0, .aload_n 0, 1, [], 0), (1, .getfield 97, 2, [6, 21], 0), (4, .ifCond .eq (4), 3, [4], 0), (7, .return_, 4, [], 0), (8, .aload_n 0, 5, [], 0), (9, .iconst 1, 6, [], 0), (10, .putfield 97, 7, [6, 21], 0), (13, .aload_n 0, 8, [], 0), (14, .iconst 0, 9, [], 0), (15, .putfield 123, 10, [6, 22], 0), (18, .aload_n 0, 11, [], 0), (19, .getfield 91, 12, [6, 5], 0), (22, .ifCond .le (7), 13, [15], 0), (25, .iconst 0, 14, [], 0), (26, .goto (4), 15, [16], 0), (29, .iconst (-1), 16, [], 0), (30, .istore_n 1, 17, [], 0), (31, .aload_n 0, 18, [], 0), (32, .getfield 59, 19, [6, 25], 0), (35, .iconst 0, 20, [], 0), (36, .iconst (-1), 21, [], 0), (37, .iastore, 22, [], 0), (38, .aload_n 0, 23, [], 0), (39, .getfield 62, 24, [6, 26], 0), (42, .iconst 0, 25, [], 0), (43, .iconst 0, 26, [], 0), (44, .iastore, 27, [], 0), (45, .aload_n 0, 28, [], 0), (46, .getfield 65, 29, [6, 27], 0), (49, .iconst 0, 30, [], 0), (50, .iconst 0, 31, [], 0), (51, .iastore, 32, [], 0), (52, .iload_n 1, 33, [], 0), (53, .ifCond .lt (91), 34, [82], 0), (56, .aload_n 0, 35, [], 0), (57, .getfield 59, 36, [6, 25], 0), (60, .iload_n 1, 37, [], 0), (61, .dup2, 38, [], 0), (62, .iaload, 39, [], 0), (63, .iconst 1, 40, [], 0), (64, .iadd, 41, [], 0), (65, .iastore, 42, [], 0), (66, .aload_n 0, 43, [], 0), (67, .getfield 59, 44, [6, 25], 0), (70, .iload_n 1, 45, [], 0), (71, .iaload, 46, [], 0), (72, .iconst 4, 47, [], 0), (73, .if_icmp .le (9), 48, [50], 0), (76, .iinc 1 (-1), 49, [], 0), (79, .goto (-27), 50, [32], 0), (82, .aload_n 0, 51, [], 0), (83, .iload_n 1, 52, [], 0), (84, .invokevirtual 126, 53, [30, 2], 0), (87, .ifCond .eq (-35), 54, [32], 0), (90, .aload_n 0, 55, [], 0), (91, .iload_n 1, 56, [], 0), (92, .invokevirtual 130, 57, [31, 2], 0), (95, .ifCond .eq (-43), 58, [32], 0), (98, .iload_n 1, 59, [], 0), (99, .iconst 1, 60, [], 0), (100, .iadd, 61, [], 0), (101, .aload_n 0, 62, [], 0), (102, .getfield 91, 63, [6, 5], 0), (105, .if_icmp .ge (16), 64, [71], 0), (108, .iinc 1 1, 65, [], 0), (111, .aload_n 0, 66, [], 0), (112, .getfield 59, 67, [6, 25], 0), (115, .iload_n 1, 68, [], 0), (116, .iconst (-1), 69, [], 0), (117, .iastore, 70, [], 0), (118, .goto (-66), 71, [32], 0), (121, .aload_n 0, 72, [], 0), (122, .getfield 62, 73, [6, 26], 0), (125, .aload_n 0, 74, [], 0), (126, .getfield 91, 75, [6, 5], 0), (129, .iaload, 76, [], 0), (130, .aload_n 0, 77, [], 0), (131, .getfield 103, 78, [6, 13], 0), (134, .if_icmp .ne (-82), 79, [32], 0), (137, .aload_n 0, 80, [], 0), (138, .invokevirtual 133, 81, [34, 1], 0), (141, .goto (-89), 82, [32], 0), (144, .return_, 83, [], 0)])
def mm6_isRank : am_M := (⟨"AddressGrammarModel", "isRank", "(I)Z"⟩, prog_8_method_20_code, 2, (some (.boolean)), [(0, .aload_n 0, 1, [], 0), (1, .iconst 0, 2, [], 0), (2, .putfield 71, 3, [6, 0], 0), (5, .aload_n 0, 4, [], 0), (6, .invokevirtual 136, 5, [35, 1], 0), (9, .iload_n 1, 6, [], 0), (10, .ifCond .lt (12), 7, [12], 0), (13, .iload_n 1, 8, [], 0), (14, .iconst 2, 9, [], 0), (15, .if_icmp .ge (7), 10, [12], 0), (18, .iconst 1, 11, [], 0), (19, .goto (4), 12, [13], 0), (22, .iconst 0, 13, [], 0), (23, .ireturn, 14, [], 0)])
def mm6_there : am_M := (⟨"AddressGrammarModel", "there", "(I)I"⟩, prog_8_method_21_code, 4, (some (.int)), [(0, .iconst 0, 1, [], 0), (1, .istore_n 2, 2, [], 0), (2, .iconst 0, 3, [], 0), (3, .istore_n 3, 4, [], 0), (4, .iload_n 3, 5, [], 0), (5, .aload_n 0, 6, [], 0), (6, .getfield 91, 7, [6, 5], 0), (9, .if_icmp .ge (32), 8, [26], 0), (12, .aload_n 0, 9, [], 0), (13, .getfield 53, 10, [6, 23], 0), (16, .bipush 9, 11, [], 0), (18, .iload_n 1, 12, [], 0), (19, .imul, 13, [], 0), (20, .iload_n 3, 14, [], 0), (21, .iadd, 15, [], 0), (22, .iaload, 16, [], 0), (23, .iconst 4, 17, [], 0), (24, .if_icmp .eq (9), 18, [22], 0), (27, .iload_n 2, 19, [], 0), (28, .iconst 1, 20, [], 0), (29, .iadd, 21, [], 0), (30, .goto (4), 22, [23], 0), (33, .iload_n 2, 23, [], 0), (34, .istore_n 2, 24, [], 0), (35, .iinc 3 1, 25, [], 0), (38, .goto (-34), 26, [4], 0), (41, .iload_n 2, 27, [], 0), (42, .ireturn, 28, [], 0)])
def mm6_derive : am_M := (⟨"AddressGrammarModel", "derive", "(I)I"⟩, prog_8_method_22_code, 2, (some (.int)), [(0, .aload_n 0, 1, [], 0), (1, .iload_n 1, 2, [], 0), (2, .invokevirtual 139, 3, [36, 2], 0), (5, .ifCond .ne (6), 4, [6], 0), (8, .bipush (-12), 5, [], 0), (10, .ireturn, 6, [], 0), (11, .iload_n 1, 7, [], 0), (12, .aload_n 0, 8, [], 0), (13, .getfield 123, 9, [6, 22], 0), (16, .if_icmp .ge (11), 10, [14], 0), (19, .aload_n 0, 11, [], 0), (20, .iload_n 1, 12, [], 0), (21, .invokevirtual 142, 13, [37, 2], 0), (24, .goto (4), 14, [15], 0), (27, .iconst (-1), 15, [], 0), (28, .ireturn, 16, [], 0)])
def mm6_sum : am_M := (⟨"AddressGrammarModel", "sum", "(I)J"⟩, prog_8_method_23_code, 2, (some (.long)), [(0, .aload_n 0, 1, [], 0), (1, .iload_n 1, 2, [], 0), (2, .invokevirtual 139, 3, [36, 2], 0), (5, .ifCond .ne (7), 4, [6], 0), (8, .ldc2_w 145, 5, [], (-12)), (11, .lreturn, 6, [], 0), (12, .iload_n 1, 7, [], 0), (13, .aload_n 0, 8, [], 0), (14, .getfield 123, 9, [6, 22], 0), (17, .if_icmp .ge (13), 10, [16], 0), (20, .aload_n 0, 11, [], 0), (21, .getfield 56, 12, [6, 24], 0), (24, .iload_n 1, 13, [], 0), (25, .iaload, 14, [], 0), (26, .i2l, 15, [], 0), (27, .goto (6), 16, [17], 0), (30, .ldc2_w 147, 17, [], (-1)), (33, .lreturn, 18, [], 0)])
def mm6_again : am_M := (⟨"AddressGrammarModel", "again", "(I)V"⟩, prog_8_method_24_code, 4, none, [(0, .iconst 0, 1, [], 0), (1, .istore_n 2, 2, [], 0), (2, .iload_n 2, 3, [], 0), (3, .aload_n 0, 4, [], 0), (4, .getfield 91, 5, [6, 5], 0), (7, .if_icmp .ge (32), 6, [24], 0), (10, .aload_n 0, 7, [], 0), (11, .getfield 59, 8, [6, 25], 0), (14, .iload_n 2, 9, [], 0), (15, .aload_n 0, 10, [], 0), (16, .getfield 53, 11, [6, 23], 0), (19, .bipush 9, 12, [], 0), (21, .iload_n 1, 13, [], 0), (22, .imul, 14, [], 0), (23, .iload_n 2, 15, [], 0), (24, .iadd, 16, [], 0), (25, .iaload, 17, [], 0), (26, .iastore, 18, [], 0), (27, .aload_n 0, 19, [], 0), (28, .iload_n 2, 20, [], 0), (29, .invokevirtual 130, 21, [31, 2], 0), (32, .istore_n 3, 22, [], 0), (33, .iinc 2 1, 23, [], 0), (36, .goto (-34), 24, [2], 0), (39, .return_, 25, [], 0)])
def mm6_part : am_M := (⟨"AddressGrammarModel", "part", "(III)I"⟩, prog_8_method_25_code, 6, (some (.int)), [(0, .aload_n 0, 1, [], 0), (1, .iload_n 1, 2, [], 0), (2, .invokevirtual 139, 3, [36, 2], 0), (5, .ifCond .eq (12), 4, [9], 0), (8, .iload_n 3, 5, [], 0), (9, .ifCond .lt (8), 6, [9], 0), (12, .iload_n 3, 7, [], 0), (13, .iconst 4, 8, [], 0), (14, .if_icmp .le (6), 9, [11], 0), (17, .bipush (-12), 10, [], 0), (19, .ireturn, 11, [], 0), (20, .iload_n 1, 12, [], 0), (21, .aload_n 0, 13, [], 0), (22, .getfield 123, 14, [6, 22], 0), (25, .if_icmp .ge (16), 15, [22], 0), (28, .iload_n 2, 16, [], 0), (29, .ifCond .lt (12), 17, [22], 0), (32, .iload_n 2, 18, [], 0), (33, .aload_n 0, 19, [], 0), (34, .iload_n 1, 20, [], 0), (35, .invokevirtual 142, 21, [37, 2], 0), (38, .if_icmp .lt (5), 22, [24], 0), (41, .iconst (-1), 23, [], 0), (42, .ireturn, 24, [], 0), (43, .aload_n 0, 25, [], 0), (44, .iload_n 1, 26, [], 0), (45, .invokevirtual 149, 27, [40, 2], 0), (48, .iload_n 2, 28, [], 0), (49, .istore 4, 29, [], 0), (51, .iconst 0, 30, [], 0), (52, .istore 5, 31, [], 0), (54, .aload_n 0, 32, [], 0), (55, .getfield 59, 33, [6, 25], 0), (58, .iload 5, 34, [], 0), (60, .iaload, 35, [], 0), (61, .iconst 4, 36, [], 0), (62, .if_icmp .eq (8), 37, [39], 0), (65, .iload 4, 38, [], 0), (67, .ifCond .le (31), 39, [53], 0), (70, .aload_n 0, 40, [], 0), (71, .getfield 59, 41, [6, 25], 0), (74, .iload 5, 42, [], 0), (76, .iaload, 43, [], 0), (77, .iconst 4, 44, [], 0), (78, .if_icmp .ne (8), 45, [47], 0), (81, .iload 4, 46, [], 0), (83, .goto (7), 47, [50], 0), (86, .iload 4, 48, [], 0), (88, .iconst 1, 49, [], 0), (89, .isub, 50, [], 0), (90, .istore 4, 51, [], 0), (92, .iinc 5 1, 52, [], 0), (95, .goto (-41), 53, [31], 0), (98, .iload_n 3, 54, [], 0), (99, .ifCond .ne (13), 55, [60], 0), (102, .aload_n 0, 56, [], 0), (103, .getfield 17, 57, [6, 6], 0), (106, .iload 5, 58, [], 0), (108, .iaload, 59, [], 0), (109, .goto (66), 60, [94], 0), (112, .iload_n 3, 61, [], 0), (113, .iconst 1, 62, [], 0), (114, .if_icmp .ne (13), 63, [68], 0), (117, .aload_n 0, 64, [], 0), (118, .getfield 62, 65, [6, 26], 0), (121, .iload 5, 66, [], 0), (123, .iaload, 67, [], 0), (124, .goto (51), 68, [94], 0), (127, .iload_n 3, 69, [], 0), (128, .iconst 2, 70, [], 0), (129, .if_icmp .ne (13), 71, [76], 0), (132, .aload_n 0, 72, [], 0), (133, .getfield 65, 73, [6, 27], 0), (136, .iload 5, 74, [], 0), (138, .iaload, 75, [], 0), (139, .goto (36), 76, [94], 0), (142, .iload_n 3, 77, [], 0), (143, .iconst 3, 78, [], 0), (144, .if_icmp .ne (24), 79, [90], 0), (147, .aload_n 0, 80, [], 0), (148, .getfield 44, 81, [6, 17], 0), (151, .aload_n 0, 82, [], 0), (152, .iload 5, 83, [], 0), (154, .aload_n 0, 84, [], 0), (155, .getfield 59, 85, [6, 25], 0), (158, .iload 5, 86, [], 0), (160, .iaload, 87, [], 0), (161, .invokevirtual 113, 88, [29, 3], 0), (164, .iaload, 89, [], 0), (165, .goto (10), 90, [94], 0), (168, .aload_n 0, 91, [], 0), (169, .getfield 59, 92, [6, 25], 0), (172, .iload 5, 93, [], 0), (174, .iaload, 94, [], 0), (175, .ireturn, 95, [], 0)])
def mm6_takes : am_M := (⟨"AddressGrammarModel", "takes", "(II)Z"⟩, prog_8_method_26_code, 9, (some (.boolean)), [(0, .iconst 1, 1, [], 0), (1, .istore_n 3, 2, [], 0), (2, .iconst 0, 3, [], 0), (3, .istore 4, 4, [], 0), (5, .iload 4, 5, [], 0), (7, .aload_n 0, 6, [], 0), (8, .getfield 91, 7, [6, 5], 0), (11, .if_icmp .ge (156), 8, [94], 0), (14, .aload_n 0, 9, [], 0), (15, .getfield 20, 10, [6, 7], 0), (18, .iload 4, 11, [], 0), (20, .iaload, 12, [], 0), (21, .iload_n 1, 13, [], 0), (22, .if_icmp .ne (139), 14, [92], 0), (25, .aload_n 0, 15, [], 0), (26, .getfield 23, 16, [6, 8], 0), (29, .iload 4, 17, [], 0), (31, .iaload, 18, [], 0), (32, .iconst (-1), 19, [], 0), (33, .if_icmp .eq (7), 20, [22], 0), (36, .iload_n 3, 21, [], 0), (37, .goto (4), 22, [23], 0), (40, .iconst 0, 23, [], 0), (41, .istore 5, 24, [], 0), (43, .iconst 0, 25, [], 0), (44, .istore 6, 26, [], 0), (46, .iload 6, 27, [], 0), (48, .aload_n 0, 28, [], 0), (49, .getfield 35, 29, [6, 14], 0), (52, .iload_n 2, 30, [], 0), (53, .iaload, 31, [], 0), (54, .if_icmp .ge (104), 32, [90], 0), (57, .iconst 0, 33, [], 0), (58, .istore 7, 34, [], 0), (60, .iconst 0, 35, [], 0), (61, .istore 8, 36, [], 0), (63, .iload 8, 37, [], 0), (65, .aload_n 0, 38, [], 0), (66, .getfield 38, 39, [6, 15], 0), (69, .iconst 5, 40, [], 0), (70, .iload_n 2, 41, [], 0), (71, .imul, 42, [], 0), (72, .iload 6, 43, [], 0), (74, .iadd, 44, [], 0), (75, .iaload, 45, [], 0), (76, .if_icmp .ge (47), 46, [71], 0), (79, .iload 7, 47, [], 0), (81, .ifCond .ne (29), 48, [65], 0), (84, .aload_n 0, 49, [], 0), (85, .getfield 41, 50, [6, 16], 0), (88, .iconst 4, 51, [], 0), (89, .iconst 5, 52, [], 0), (90, .iload_n 2, 53, [], 0), (91, .imul, 54, [], 0), (92, .iload 6, 55, [], 0), (94, .iadd, 56, [], 0), (95, .imul, 57, [], 0), (96, .iload 8, 58, [], 0), (98, .iadd, 59, [], 0), (99, .iaload, 60, [], 0), (100, .aload_n 0, 61, [], 0), (101, .getfield 17, 62, [6, 6], 0), (104, .iload 4, 63, [], 0), (106, .iaload, 64, [], 0), (107, .if_icmp .ne (7), 65, [67], 0), (110, .iconst 1, 66, [], 0), (111, .goto (4), 67, [68], 0), (114, .iconst 0, 68, [], 0), (115, .istore 7, 69, [], 0), (117, .iinc 8 1, 70, [], 0), (120, .goto (-57), 71, [36], 0), (123, .iload_n 3, 72, [], 0), (124, .iload 6, 73, [], 0), (126, .ishr, 74, [], 0), (127, .iconst 1, 75, [], 0), (128, .iand, 76, [], 0), (129, .iconst 1, 77, [], 0), (130, .if_icmp .ne (18), 78, [86], 0), (133, .iload 7, 79, [], 0), (135, .ifCond .eq (13), 80, [86], 0), (138, .iload 5, 81, [], 0), (140, .iconst 2, 82, [], 0), (141, .iload 6, 83, [], 0), (143, .ishl, 84, [], 0), (144, .ior, 85, [], 0), (145, .goto (5), 86, [87], 0), (148, .iload 5, 87, [], 0), (150, .istore 5, 88, [], 0), (152, .iinc 6 1, 89, [], 0), (155, .goto (-109), 90, [26], 0), (158, .iload 5, 91, [], 0), (160, .istore_n 3, 92, [], 0), (161, .iinc 4 1, 93, [], 0), (164, .goto (-159), 94, [4], 0), (167, .iload_n 3, 95, [], 0), (168, .aload_n 0, 96, [], 0), (169, .getfield 35, 97, [6, 14], 0), (172, .iload_n 2, 98, [], 0), (173, .iaload, 99, [], 0), (174, .ishr, 100, [], 0), (175, .iconst 1, 101, [], 0), (176, .iand, 102, [], 0), (177, .iconst 1, 103, [], 0), (178, .if_icmp .ne (7), 104, [106], 0), (181, .iconst 1, 105, [], 0), (182, .goto (4), 106, [107], 0), (185, .iconst 0, 107, [], 0), (186, .ireturn, 108, [], 0)])
def mm6_mayMiss : am_M := (⟨"AddressGrammarModel", "mayMiss", "(I)Z"⟩, prog_8_method_27_code, 4, (some (.boolean)), [(0, .iconst 1, 1, [], 0), (1, .istore_n 2, 2, [], 0), (2, .iconst 0, 3, [], 0), (3, .istore_n 3, 4, [], 0), (4, .iload_n 3, 5, [], 0), (5, .aload_n 0, 6, [], 0), (6, .getfield 91, 7, [6, 5], 0), (9, .if_icmp .ge (39), 8, [28], 0), (12, .iload_n 2, 9, [], 0), (13, .ifCond .eq (27), 10, [24], 0), (16, .aload_n 0, 11, [], 0), (17, .getfield 20, 12, [6, 7], 0), (20, .iload_n 3, 13, [], 0), (21, .iaload, 14, [], 0), (22, .iload_n 1, 15, [], 0), (23, .if_icmp .ne (13), 16, [22], 0), (26, .aload_n 0, 17, [], 0), (27, .getfield 23, 18, [6, 8], 0), (30, .iload_n 3, 19, [], 0), (31, .iaload, 20, [], 0), (32, .iconst (-1), 21, [], 0), (33, .if_icmp .eq (7), 22, [24], 0), (36, .iconst 1, 23, [], 0), (37, .goto (4), 24, [25], 0), (40, .iconst 0, 25, [], 0), (41, .istore_n 2, 26, [], 0), (42, .iinc 3 1, 27, [], 0), (45, .goto (-41), 28, [4], 0), (48, .iload_n 2, 29, [], 0), (49, .ireturn, 30, [], 0)])
def mm6_furthest : am_M := (⟨"AddressGrammarModel", "furthest", "()I"⟩, prog_8_method_28_code, 6, (some (.int)), [(0, .aload_n 0, 1, [], 0), (1, .iconst 0, 2, [], 0), (2, .putfield 71, 3, [6, 0], 0), (5, .aload_n 0, 4, [], 0), (6, .getfield 91, 5, [6, 5], 0), (9, .ifCond .ne (5), 6, [8], 0), (12, .iconst (-1), 7, [], 0), (13, .ireturn, 8, [], 0), (14, .iconst 1, 9, [], 0), (15, .istore_n 1, 10, [], 0), (16, .iconst 1, 11, [], 0), (17, .istore_n 2, 12, [], 0), (18, .iconst 0, 13, [], 0), (19, .istore_n 3, 14, [], 0), (20, .iload_n 3, 15, [], 0), (21, .aload_n 0, 16, [], 0), (22, .getfield 94, 17, [6, 4], 0), (25, .if_icmp .ge (83), 18, [62], 0), (28, .aload_n 0, 19, [], 0), (29, .iload_n 3, 20, [], 0), (30, .invokevirtual 153, 21, [43, 2], 0), (33, .ifCond .eq (7), 22, [24], 0), (36, .iload_n 1, 23, [], 0), (37, .goto (4), 24, [25], 0), (40, .iconst 0, 25, [], 0), (41, .istore 4, 26, [], 0), (43, .iconst 0, 27, [], 0), (44, .istore 5, 28, [], 0), (46, .iload 5, 29, [], 0), (48, .aload_n 0, 30, [], 0), (49, .getfield 103, 31, [6, 13], 0), (52, .if_icmp .ge (43), 32, [54], 0), (55, .iload_n 1, 33, [], 0), (56, .iload 5, 34, [], 0), (58, .ishr, 35, [], 0), (59, .iconst 1, 36, [], 0), (60, .iand, 37, [], 0), (61, .iconst 1, 38, [], 0), (62, .if_icmp .ne (23), 39, [50], 0), (65, .aload_n 0, 40, [], 0), (66, .iload_n 3, 41, [], 0), (67, .iload 5, 42, [], 0), (69, .invokevirtual 156, 43, [42, 3], 0), (72, .ifCond .eq (13), 44, [50], 0), (75, .iload 4, 45, [], 0), (77, .iconst 2, 46, [], 0), (78, .iload 5, 47, [], 0), (80, .ishl, 48, [], 0), (81, .ior, 49, [], 0), (82, .goto (5), 50, [51], 0), (85, .iload 4, 51, [], 0), (87, .istore 4, 52, [], 0), (89, .iinc 5 1, 53, [], 0), (92, .goto (-46), 54, [28], 0), (95, .iload 4, 55, [], 0), (97, .istore_n 1, 56, [], 0), (98, .iload_n 2, 57, [], 0), (99, .iload_n 1, 58, [], 0), (100, .ior, 59, [], 0), (101, .istore_n 2, 60, [], 0), (102, .iinc 3 1, 61, [], 0), (105, .goto (-85), 62, [14], 0), (108, .iconst 0, 63, [], 0), (109, .istore_n 3, 64, [], 0), (110, .iconst 1, 65, [], 0), (111, .istore 4, 66, [], 0), (113, .iload 4, 67, [], 0), (115, .aload_n 0, 68, [], 0), (116, .getfield 103, 69, [6, 13], 0), (119, .if_icmp .gt (26), 70, [83], 0), (122, .iload_n 2, 71, [], 0), (123, .iload 4, 72, [], 0), (125, .ishr, 73, [], 0), (126, .iconst 1, 74, [], 0), (127, .iand, 75, [], 0), (128, .iconst 1, 76, [], 0), (129, .if_icmp .ne (8), 77, [79], 0), (132, .iload 4, 78, [], 0), (134, .goto (4), 79, [80], 0), (137, .iload_n 3, 80, [], 0), (138, .istore_n 3, 81, [], 0), (139, .iinc 4 1, 82, [], 0), (142, .goto (-29), 83, [66], 0), (145, .iload_n 3, 84, [], 0), (146, .ireturn, 85, [], 0)])
def mm6_put : am_M := (⟨"AddressGrammarModel", "put", "(I)V"⟩, prog_8_method_29_code, 2, none, [(0, .aload_n 0, 1, [], 0), (1, .getfield 68, 2, [6, 29], 0), (4, .aload_n 0, 3, [], 0), (5, .getfield 160, 4, [6, 28], 0), (8, .iload_n 1, 5, [], 0), (9, .iastore, 6, [], 0), (10, .aload_n 0, 7, [], 0), (11, .dup, 8, [], 0), (12, .getfield 160, 9, [6, 28], 0), (15, .iconst 1, 10, [], 0), (16, .iadd, 11, [], 0), (17, .putfield 160, 12, [6, 28], 0), (20, .return_, 13, [], 0)])
def mm6_print : am_M := (⟨"AddressGrammarModel", "print", "(I)I"⟩, prog_8_method_30_code, 4, (some (.int)), [(0, .aload_n 0, 1, [], 0), (1, .iload_n 1, 2, [], 0), (2, .invokevirtual 139, 3, [36, 2], 0), (5, .ifCond .ne (6), 4, [6], 0), (8, .bipush (-12), 5, [], 0), (10, .ireturn, 6, [], 0), (11, .aload_n 0, 7, [], 0), (12, .iconst 0, 8, [], 0), (13, .putfield 160, 9, [6, 28], 0), (16, .iload_n 1, 10, [], 0), (17, .aload_n 0, 11, [], 0), (18, .getfield 123, 12, [6, 22], 0), (21, .if_icmp .lt (5), 13, [15], 0), (24, .iconst 0, 14, [], 0), (25, .ireturn, 15, [], 0), (26, .aload_n 0, 16, [], 0), (27, .iload_n 1, 17, [], 0), (28, .invokevirtual 149, 18, [40, 2], 0), (31, .iconst 0, 19, [], 0), (32, .istore_n 2, 20, [], 0), (33, .iload_n 2, 21, [], 0), (34, .aload_n 0, 22, [], 0), (35, .getfield 91, 23, [6, 5], 0), (38, .if_icmp .ge (157), 24, [116], 0), (41, .aload_n 0, 25, [], 0), (42, .getfield 59, 26, [6, 25], 0), (45, .iload_n 2, 27, [], 0), (46, .iaload, 28, [], 0), (47, .iconst 4, 29, [], 0), (48, .if_icmp .eq (81), 30, [77], 0), (51, .aload_n 0, 31, [], 0), (52, .getfield 44, 32, [6, 17], 0), (55, .aload_n 0, 33, [], 0), (56, .iload_n 2, 34, [], 0), (57, .aload_n 0, 35, [], 0), (58, .getfield 59, 36, [6, 25], 0), (61, .iload_n 2, 37, [], 0), (62, .iaload, 38, [], 0), (63, .invokevirtual 113, 39, [29, 3], 0), (66, .iaload, 40, [], 0), (67, .istore_n 3, 41, [], 0), (68, .aload_n 0, 42, [], 0), (69, .aload_n 0, 43, [], 0), (70, .getfield 17, 44, [6, 6], 0), (73, .iload_n 2, 45, [], 0), (74, .iaload, 46, [], 0), (75, .invokestatic 77, 47, [20, 1], 0), (78, .invokevirtual 163, 48, [45, 2], 0), (81, .iload_n 3, 49, [], 0), (82, .bipush 99, 50, [], 0), (84, .if_icmp .le (14), 51, [58], 0), (87, .aload_n 0, 52, [], 0), (88, .bipush 48, 53, [], 0), (90, .iload_n 3, 54, [], 0), (91, .bipush 100, 55, [], 0), (93, .idiv, 56, [], 0), (94, .iadd, 57, [], 0), (95, .invokevirtual 163, 58, [45, 2], 0), (98, .iload_n 3, 59, [], 0), (99, .bipush 9, 60, [], 0), (101, .if_icmp .le (17), 61, [70], 0), (104, .aload_n 0, 62, [], 0), (105, .bipush 48, 63, [], 0), (107, .iload_n 3, 64, [], 0), (108, .bipush 10, 65, [], 0), (110, .idiv, 66, [], 0), (111, .bipush 10, 67, [], 0), (113, .irem, 68, [], 0), (114, .iadd, 69, [], 0), (115, .invokevirtual 163, 70, [45, 2], 0), (118, .aload_n 0, 71, [], 0), (119, .bipush 48, 72, [], 0), (121, .iload_n 3, 73, [], 0), (122, .bipush 10, 74, [], 0), (124, .irem, 75, [], 0), (125, .iadd, 76, [], 0), (126, .invokevirtual 163, 77, [45, 2], 0), (129, .iload_n 2, 78, [], 0), (130, .iconst 1, 79, [], 0), (131, .iadd, 80, [], 0), (132, .aload_n 0, 81, [], 0), (133, .getfield 91, 82, [6, 5], 0), (136, .if_icmp .eq (20), 83, [94], 0), (139, .aload_n 0, 84, [], 0), (140, .getfield 20, 85, [6, 7], 0), (143, .iload_n 2, 86, [], 0), (144, .iconst 1, 87, [], 0), (145, .iadd, 88, [], 0), (146, .iaload, 89, [], 0), (147, .aload_n 0, 90, [], 0), (148, .getfield 20, 91, [6, 7], 0), (151, .iload_n 2, 92, [], 0), (152, .iaload, 93, [], 0), (153, .if_icmp .eq (7), 94, [96], 0), (156, .iconst 1, 95, [], 0), (157, .goto (4), 96, [97], 0), (160, .iconst 0, 97, [], 0), (161, .istore_n 3, 98, [], 0), (162, .iload_n 3, 99, [], 0), (163, .ifCond .eq (26), 100, [114], 0), (166, .aload_n 0, 101, [], 0), (167, .getfield 62, 102, [6, 26], 0), (170, .iload_n 2, 103, [], 0), (171, .iconst 1, 104, [], 0), (172, .iadd, 105, [], 0), (173, .iaload, 106, [], 0), (174, .aload_n 0, 107, [], 0), (175, .getfield 62, 108, [6, 26], 0), (178, .iload_n 2, 109, [], 0), (179, .iaload, 110, [], 0), (180, .if_icmp .le (9), 111, [114], 0), (183, .aload_n 0, 112, [], 0), (184, .bipush 59, 113, [], 0), (186, .invokevirtual 163, 114, [45, 2], 0), (189, .iinc 2 1, 115, [], 0), (192, .goto (-159), 116, [20], 0), (195, .aload_n 0, 117, [], 0), (196, .getfield 160, 118, [6, 28], 0), (199, .ireturn, 119, [], 0)])
def mm6_at : am_M := (⟨"AddressGrammarModel", "at", "(I)I"⟩, prog_8_method_31_code, 2, (some (.int)), [(0, .aload_n 0, 1, [], 0), (1, .iconst 0, 2, [], 0), (2, .putfield 71, 3, [6, 0], 0), (5, .iload_n 1, 4, [], 0), (6, .ifCond .lt (20), 5, [14], 0), (9, .iload_n 1, 6, [], 0), (10, .aload_n 0, 7, [], 0), (11, .getfield 160, 8, [6, 28], 0), (14, .if_icmp .ge (12), 9, [14], 0), (17, .aload_n 0, 10, [], 0), (18, .getfield 68, 11, [6, 29], 0), (21, .iload_n 1, 12, [], 0), (22, .iaload, 13, [], 0), (23, .goto (4), 14, [15], 0), (26, .iconst (-1), 15, [], 0), (27, .ireturn, 16, [], 0)])
def mm1_init : am_M := (⟨"AddressGrammar$Form", "<init>", "()V"⟩, prog_2_method_1_code, 1, none, [(0, .aload_n 0, 1, [], 0), (1, .invokespecial 3, 2, [], 0), (4, .aload_n 0, 3, [], 0), (5, .iconst 0, 4, [], 0), (6, .putfield 9, 5, [1, 0], 0), (9, .aload_n 0, 6, [], 0), (10, .iconst 0, 7, [], 0), (11, .putfield 15, 8, [1, 1], 0), (14, .aload_n 0, 9, [], 0), (15, .bipush 9, 10, [], 0), (17, .newarray .int, 11, [0], 0), (19, .putfield 18, 12, [1, 2], 0), (22, .aload_n 0, 13, [], 0), (23, .bipush 9, 14, [], 0), (25, .newarray .int, 15, [0], 0), (27, .putfield 22, 16, [1, 3], 0), (30, .aload_n 0, 17, [], 0), (31, .bipush 9, 18, [], 0), (33, .newarray .boolean, 19, [2], 0), (35, .putfield 25, 20, [1, 4], 0), (38, .aload_n 0, 21, [], 0), (39, .bipush 9, 22, [], 0), (41, .newarray .boolean, 23, [2], 0), (43, .putfield 29, 24, [1, 5], 0), (46, .aload_n 0, 25, [], 0), (47, .iconst 0, 26, [], 0), (48, .putfield 32, 27, [1, 6], 0), (51, .aload_n 0, 28, [], 0), (52, .iconst (-1), 29, [], 0), (53, .putfield 35, 30, [1, 7], 0), (56, .return_, 31, [], 0)])
def mm1_fill : am_M := (⟨"AddressGrammar$Form", "fill", "([CI)I"⟩, prog_2_method_2_code, 4, (some (.int)), [(0, .aload_n 0, 1, [], 0), (1, .invokevirtual 38, 2, [50, 1], 0), (4, .iconst 0, 3, [], 0), (5, .istore_n 3, 4, [], 0), (6, .iload_n 3, 5, [], 0), (7, .iload_n 2, 6, [], 0), (8, .if_icmp .ge (27), 7, [21], 0), (11, .iload_n 3, 8, [], 0), (12, .aload_n 1, 9, [], 0), (13, .arraylength, 10, [], 0), (14, .if_icmp .ge (21), 11, [21], 0), (17, .aload_n 0, 12, [], 0), (18, .aload_n 1, 13, [], 0), (19, .iload_n 3, 14, [], 0), (20, .caload, 15, [], 0), (21, .invokevirtual 41, 16, [52, 2], 0), (24, .ifCond .ne (5), 17, [19], 0), (27, .iload_n 3, 18, [], 0), (28, .ireturn, 19, [], 0), (29, .iinc 3 1, 20, [], 0), (32, .goto (-26), 21, [4], 0), (35, .aload_n 0, 22, [], 0), (36, .getfield 15, 23, [1, 1], 0), (39, .ifCond .le (14), 24, [29], 0), (42, .aload_n 0, 25, [], 0), (43, .getfield 32, 26, [1, 6], 0), (46, .ifCond .ne (7), 27, [29], 0), (49, .iconst (-1), 28, [], 0), (50, .goto (4), 29, [30], 0), (53, .iload_n 2, 30, [], 0), (54, .ireturn, 31, [], 0)])
def mm1_empty : am_M := (⟨"AddressGrammar$Form", "empty", "()V"⟩, prog_2_method_3_code, 2, none, [(0, .aload_n 0, 1, [], 0), (1, .iconst 0, 2, [], 0), (2, .putfield 9, 3, [1, 0], 0), (5, .aload_n 0, 4, [], 0), (6, .iconst 0, 5, [], 0), (7, .putfield 15, 6, [1, 1], 0), (10, .aload_n 0, 7, [], 0), (11, .iconst 0, 8, [], 0), (12, .putfield 32, 9, [1, 6], 0), (15, .aload_n 0, 10, [], 0), (16, .iconst (-1), 11, [], 0), (17, .putfield 35, 12, [1, 7], 0), (20, .iconst 0, 13, [], 0), (21, .istore_n 1, 14, [], 0), (22, .iload_n 1, 15, [], 0), (23, .aload_n 0, 16, [], 0), (24, .getfield 29, 17, [1, 5], 0), (27, .arraylength, 18, [], 0), (28, .if_icmp .ge (16), 19, [26], 0), (31, .aload_n 0, 20, [], 0), (32, .getfield 29, 21, [1, 5], 0), (35, .iload_n 1, 22, [], 0), (36, .iconst 0, 23, [], 0), (37, .bastore, 24, [], 0), (38, .iinc 1 1, 25, [], 0), (41, .goto (-19), 26, [14], 0), (44, .return_, 27, [], 0)])
def mm1_become : am_M := (⟨"AddressGrammar$Form", "become", "(LAddressGrammar$Form;)V"⟩, prog_2_method_4_code, 3, none, [(0, .aload_n 0, 1, [], 0), (1, .aload_n 1, 2, [], 0), (2, .getfield 9, 3, [1, 0], 0), (5, .putfield 9, 4, [1, 0], 0), (8, .aload_n 0, 5, [], 0), (9, .aload_n 1, 6, [], 0), (10, .getfield 15, 7, [1, 1], 0), (13, .putfield 15, 8, [1, 1], 0), (16, .iconst 0, 9, [], 0), (17, .istore_n 2, 10, [], 0), (18, .iload_n 2, 11, [], 0), (19, .aload_n 0, 12, [], 0), (20, .getfield 9, 13, [1, 0], 0), (23, .if_icmp .ge (51), 14, [43], 0), (26, .iload_n 2, 15, [], 0), (27, .bipush 9, 16, [], 0), (29, .if_icmp .ge (45), 17, [43], 0), (32, .aload_n 0, 18, [], 0), (33, .getfield 18, 19, [1, 2], 0), (36, .iload_n 2, 20, [], 0), (37, .aload_n 1, 21, [], 0), (38, .getfield 18, 22, [1, 2], 0), (41, .iload_n 2, 23, [], 0), (42, .iaload, 24, [], 0), (43, .iastore, 25, [], 0), (44, .aload_n 0, 26, [], 0), (45, .getfield 22, 27, [1, 3], 0), (48, .iload_n 2, 28, [], 0), (49, .aload_n 1, 29, [], 0), (50, .getfield 22, 30, [1, 3], 0), (53, .iload_n 2, 31, [], 0), (54, .iaload, 32, [], 0), (55, .iastore, 33, [], 0), (56, .aload_n 0, 34, [], 0), (57, .getfield 25, 35, [1, 4], 0), (60, .iload_n 2, 36, [], 0), (61, .aload_n 1, 37, [], 0), (62, .getfield 25, 38, [1, 4], 0), (65, .iload_n 2, 39, [], 0), (66, .baload, 40, [], 0), (67, .bastore, 41, [], 0), (68, .iinc 2 1, 42, [], 0), (71, .goto (-53), 43, [10], 0), (74, .return_, 44, [], 0)])
def mm1_take : am_M := (⟨"AddressGrammar$Form", "take", "(C)Z"⟩, prog_2_method_5_code, 2, (some (.boolean)), [(0, .iload_n 1, 1, [], 0), (1, .bipush 59, 2, [], 0), (3, .if_icmp .ne (8), 3, [6], 0), (6, .aload_n 0, 4, [], 0), (7, .invokevirtual 45, 5, [53, 1], 0), (10, .ireturn, 6, [], 0), (11, .iload_n 1, 7, [], 0), (12, .bipush 63, 8, [], 0), (14, .if_icmp .ne (8), 9, [12], 0), (17, .aload_n 0, 10, [], 0), (18, .invokevirtual 49, 11, [54, 1], 0), (21, .ireturn, 12, [], 0), (22, .iload_n 1, 13, [], 0), (23, .bipush 48, 14, [], 0), (25, .if_icmp .lt (18), 15, [24], 0), (28, .iload_n 1, 16, [], 0), (29, .bipush 57, 17, [], 0), (31, .if_icmp .gt (12), 18, [24], 0), (34, .aload_n 0, 19, [], 0), (35, .iload_n 1, 20, [], 0), (36, .bipush 48, 21, [], 0), (38, .isub, 22, [], 0), (39, .invokevirtual 52, 23, [55, 2], 0), (42, .ireturn, 24, [], 0), (43, .aload_n 0, 25, [], 0), (44, .ldc 56, 26, [0], 0), (46, .iload_n 1, 27, [], 0), (47, .invokevirtual 58, 28, [103, 2], 0), (50, .invokevirtual 64, 29, [56, 2], 0), (53, .ireturn, 30, [], 0)])
def mm1_takeRowEnd : am_M := (⟨"AddressGrammar$Form", "takeRowEnd", "()Z"⟩, prog_2_method_6_code, 1, (some (.boolean)), [(0, .aload_n 0, 1, [], 0), (1, .getfield 32, 2, [1, 6], 0), (4, .ifCond .eq (17), 3, [9], 0), (7, .aload_n 0, 4, [], 0), (8, .getfield 35, 5, [1, 7], 0), (11, .ifCond .eq (10), 6, [9], 0), (14, .aload_n 0, 7, [], 0), (15, .getfield 9, 8, [1, 0], 0), (18, .ifCond .gt (5), 9, [11], 0), (21, .iconst 0, 10, [], 0), (22, .ireturn, 11, [], 0), (23, .aload_n 0, 12, [], 0), (24, .getfield 25, 13, [1, 4], 0), (27, .aload_n 0, 14, [], 0), (28, .getfield 9, 15, [1, 0], 0), (31, .iconst 1, 16, [], 0), (32, .isub, 17, [], 0), (33, .iconst 1, 18, [], 0), (34, .bastore, 19, [], 0), (35, .aload_n 0, 20, [], 0), (36, .dup, 21, [], 0), (37, .getfield 15, 22, [1, 1], 0), (40, .iconst 1, 23, [], 0), (41, .iadd, 24, [], 0), (42, .putfield 15, 25, [1, 1], 0), (45, .aload_n 0, 26, [], 0), (46, .iconst 0, 27, [], 0), (47, .putfield 32, 28, [1, 6], 0), (50, .aload_n 0, 29, [], 0), (51, .iconst (-1), 30, [], 0), (52, .putfield 35, 31, [1, 7], 0), (55, .iconst 1, 32, [], 0), (56, .ireturn, 33, [], 0)])
def mm1_takeMark : am_M := (⟨"AddressGrammar$Form", "takeMark", "()Z"⟩, prog_2_method_7_code, 1, (some (.boolean)), [(0, .aload_n 0, 1, [], 0), (1, .getfield 32, 2, [1, 6], 0), (4, .ifCond .eq (18), 3, [10], 0), (7, .aload_n 0, 4, [], 0), (8, .getfield 35, 5, [1, 7], 0), (11, .iconst (-1), 6, [], 0), (12, .if_icmp .ne (10), 7, [10], 0), (15, .aload_n 0, 8, [], 0), (16, .getfield 9, 9, [1, 0], 0), (19, .ifCond .gt (5), 10, [12], 0), (22, .iconst 0, 11, [], 0), (23, .ireturn, 12, [], 0), (24, .aload_n 0, 13, [], 0), (25, .getfield 22, 14, [1, 3], 0), (28, .aload_n 0, 15, [], 0), (29, .getfield 9, 16, [1, 0], 0), (32, .iconst 1, 17, [], 0), (33, .isub, 18, [], 0), (34, .iconst 0, 19, [], 0), (35, .iastore, 20, [], 0), (36, .aload_n 0, 21, [], 0), (37, .iconst 0, 22, [], 0), (38, .putfield 35, 23, [1, 7], 0), (41, .iconst 1, 24, [], 0), (42, .ireturn, 25, [], 0)])
def mm1_takeDigit : am_M := (⟨"AddressGrammar$Form", "takeDigit", "(I)Z"⟩, prog_2_method_8_code, 2, (some (.boolean)), [(0, .aload_n 0, 1, [], 0), (1, .getfield 35, 2, [1, 7], 0), (4, .iconst (-1), 3, [], 0), (5, .if_icmp .eq (18), 4, [11], 0), (8, .aload_n 0, 5, [], 0), (9, .getfield 35, 6, [1, 7], 0), (12, .iconst 3, 7, [], 0), (13, .if_icmp .ge (10), 8, [11], 0), (16, .aload_n 0, 9, [], 0), (17, .getfield 9, 10, [1, 0], 0), (20, .ifCond .gt (5), 11, [13], 0), (23, .iconst 0, 12, [], 0), (24, .ireturn, 13, [], 0), (25, .aload_n 0, 14, [], 0), (26, .getfield 22, 15, [1, 3], 0), (29, .aload_n 0, 16, [], 0), (30, .getfield 9, 17, [1, 0], 0), (33, .iconst 1, 18, [], 0), (34, .isub, 19, [], 0), (35, .aload_n 0, 20, [], 0), (36, .getfield 22, 21, [1, 3], 0), (39, .aload_n 0, 22, [], 0), (40, .getfield 9, 23, [1, 0], 0), (43, .iconst 1, 24, [], 0), (44, .isub, 25, [], 0), (45, .iaload, 26, [], 0), (46, .bipush 10, 27, [], 0), (48, .imul, 28, [], 0), (49, .iload_n 1, 29, [], 0), (50, .iadd, 30, [], 0), (51, .iastore, 31, [], 0), (52, .aload_n 0, 32, [], 0), (53, .dup, 33, [], 0), (54, .getfield 35, 34, [1, 7], 0), (57, .iconst 1, 35, [], 0), (58, .iadd, 36, [], 0), (59, .putfield 35, 37, [1, 7], 0), (62, .iconst 1, 38, [], 0), (63, .ireturn, 39, [], 0)])
def mm1_takePart : am_M := (⟨"AddressGrammar$Form", "takePart", "(I)Z"⟩, prog_2_method_9_code, 2, (some (.boolean)), [(0, .iload_n 1, 1, [], 0), (1, .ifCond .lt (34), 2, [17], 0), (4, .iload_n 1, 3, [], 0), (5, .bipush 9, 4, [], 0), (7, .if_icmp .ge (28), 5, [17], 0), (10, .aload_n 0, 6, [], 0), (11, .getfield 29, 7, [1, 5], 0), (14, .iload_n 1, 8, [], 0), (15, .baload, 9, [], 0), (16, .ifCond .ne (19), 10, [17], 0), (19, .aload_n 0, 11, [], 0), (20, .getfield 35, 12, [1, 7], 0), (23, .ifCond .eq (12), 13, [17], 0), (26, .aload_n 0, 14, [], 0), (27, .getfield 9, 15, [1, 0], 0), (30, .bipush 9, 16, [], 0), (32, .if_icmp .lt (5), 17, [19], 0), (35, .iconst 0, 18, [], 0), (36, .ireturn, 19, [], 0), (37, .aload_n 0, 20, [], 0), (38, .getfield 29, 21, [1, 5], 0), (41, .iload_n 1, 22, [], 0), (42, .iconst 1, 23, [], 0), (43, .bastore, 24, [], 0), (44, .aload_n 0, 25, [], 0), (45, .getfield 18, 26, [1, 2], 0), (48, .aload_n 0, 27, [], 0), (49, .getfield 9, 28, [1, 0], 0), (52, .iload_n 1, 29, [], 0), (53, .iastore, 30, [], 0), (54, .aload_n 0, 31, [], 0), (55, .getfield 22, 32, [1, 3], 0), (58, .aload_n 0, 33, [], 0), (59, .getfield 9, 34, [1, 0], 0), (62, .iconst (-1), 35, [], 0), (63, .iastore, 36, [], 0), (64, .aload_n 0, 37, [], 0), (65, .getfield 25, 38, [1, 4], 0), (68, .aload_n 0, 39, [], 0), (69, .getfield 9, 40, [1, 0], 0), (72, .iconst 0, 41, [], 0), (73, .bastore, 42, [], 0), (74, .aload_n 0, 43, [], 0), (75, .dup, 44, [], 0), (76, .getfield 9, 45, [1, 0], 0), (79, .iconst 1, 46, [], 0), (80, .iadd, 47, [], 0), (81, .putfield 9, 48, [1, 0], 0), (84, .aload_n 0, 49, [], 0), (85, .dup, 50, [], 0), (86, .getfield 32, 51, [1, 6], 0), (89, .iconst 1, 52, [], 0), (90, .iadd, 53, [], 0), (91, .putfield 32, 54, [1, 6], 0), (94, .aload_n 0, 55, [], 0), (95, .iconst (-1), 56, [], 0), (96, .putfield 35, 57, [1, 7], 0), (99, .iconst 1, 58, [], 0), (100, .ireturn, 59, [], 0)])
def mm1_kindOf : am_M := (⟨"AddressGrammar$Form", "kindOf", "(I)I"⟩, prog_2_method_10_code, 2, (some (.int)), [(0, .iload_n 1, 1, [], 0), (1, .ifCond .lt (20), 2, [11], 0), (4, .iload_n 1, 3, [], 0), (5, .aload_n 0, 4, [], 0), (6, .getfield 9, 5, [1, 0], 0), (9, .if_icmp .ge (12), 6, [11], 0), (12, .aload_n 0, 7, [], 0), (13, .getfield 18, 8, [1, 2], 0), (16, .iload_n 1, 9, [], 0), (17, .iaload, 10, [], 0), (18, .goto (4), 11, [12], 0), (21, .iconst (-1), 12, [], 0), (22, .ireturn, 13, [], 0)])
def mm1_missingCost : am_M := (⟨"AddressGrammar$Form", "missingCost", "(I)I"⟩, prog_2_method_11_code, 2, (some (.int)), [(0, .iload_n 1, 1, [], 0), (1, .ifCond .lt (20), 2, [11], 0), (4, .iload_n 1, 3, [], 0), (5, .aload_n 0, 4, [], 0), (6, .getfield 9, 5, [1, 0], 0), (9, .if_icmp .ge (12), 6, [11], 0), (12, .aload_n 0, 7, [], 0), (13, .getfield 22, 8, [1, 3], 0), (16, .iload_n 1, 9, [], 0), (17, .iaload, 10, [], 0), (18, .goto (4), 11, [12], 0), (21, .iconst (-1), 12, [], 0), (22, .ireturn, 13, [], 0)])
def mm1_endsRow : am_M := (⟨"AddressGrammar$Form", "endsRow", "(I)Z"⟩, prog_2_method_12_code, 2, (some (.boolean)), [(0, .iload_n 1, 1, [], 0), (1, .ifCond .lt (24), 2, [13], 0), (4, .iload_n 1, 3, [], 0), (5, .aload_n 0, 4, [], 0), (6, .getfield 9, 5, [1, 0], 0), (9, .if_icmp .ge (16), 6, [13], 0), (12, .aload_n 0, 7, [], 0), (13, .getfield 25, 8, [1, 4], 0), (16, .iload_n 1, 9, [], 0), (17, .baload, 10, [], 0), (18, .ifCond .eq (7), 11, [13], 0), (21, .iconst 1, 12, [], 0), (22, .goto (4), 13, [14], 0), (25, .iconst 0, 14, [], 0), (26, .ireturn, 15, [], 0)])
def mm1_partOfKind : am_M := (⟨"AddressGrammar$Form", "partOfKind", "(I)I"⟩, prog_2_method_13_code, 3, (some (.int)), [(0, .iconst 0, 1, [], 0), (1, .istore_n 2, 2, [], 0), (2, .iload_n 2, 3, [], 0), (3, .aload_n 0, 4, [], 0), (4, .getfield 9, 5, [1, 0], 0), (7, .if_icmp .ge (21), 6, [16], 0), (10, .aload_n 0, 7, [], 0), (11, .getfield 18, 8, [1, 2], 0), (14, .iload_n 2, 9, [], 0), (15, .iaload, 10, [], 0), (16, .iload_n 1, 11, [], 0), (17, .if_icmp .ne (5), 12, [14], 0), (20, .iload_n 2, 13, [], 0), (21, .ireturn, 14, [], 0), (22, .iinc 2 1, 15, [], 0), (25, .goto (-23), 16, [2], 0), (28, .iconst (-1), 17, [], 0), (29, .ireturn, 18, [], 0)])
def mm2_init : am_M := (⟨"AddressGrammar$Lines", "<init>", "()V"⟩, prog_3_method_1_code, 1, none, [(0, .aload_n 0, 1, [], 0), (1, .invokespecial 3, 2, [], 0), (4, .aload_n 0, 3, [], 0), (5, .iconst 0, 4, [], 0), (6, .putfield 9, 5, [2, 0], 0), (9, .aload_n 0, 6, [], 0), (10, .bipush 6, 7, [], 0), (12, .newarray .int, 8, [0], 0), (14, .putfield 15, 9, [2, 1], 0), (17, .aload_n 0, 10, [], 0), (18, .bipush 30, 11, [], 0), (20, .newarray .int, 12, [0], 0), (22, .putfield 19, 13, [2, 2], 0), (25, .aload_n 0, 14, [], 0), (26, .bipush 120, 15, [], 0), (28, .newarray .int, 16, [0], 0), (30, .putfield 22, 17, [2, 3], 0), (33, .aload_n 0, 18, [], 0), (34, .bipush 120, 19, [], 0), (36, .newarray .int, 20, [0], 0), (38, .putfield 25, 21, [2, 4], 0), (41, .aload_n 0, 22, [], 0), (42, .bipush 120, 23, [], 0), (44, .newarray .int, 24, [0], 0), (46, .putfield 28, 25, [2, 5], 0), (49, .return_, 26, [], 0)])
def mm2_removeAll : am_M := (⟨"AddressGrammar$Lines", "removeAll", "()V"⟩, prog_3_method_2_code, 2, none, [(0, .aload_n 0, 1, [], 0), (1, .iconst 0, 2, [], 0), (2, .putfield 9, 3, [2, 0], 0), (5, .iconst 0, 4, [], 0), (6, .istore_n 1, 5, [], 0), (7, .iload_n 1, 6, [], 0), (8, .aload_n 0, 7, [], 0), (9, .getfield 15, 8, [2, 1], 0), (12, .arraylength, 9, [], 0), (13, .if_icmp .ge (16), 10, [17], 0), (16, .aload_n 0, 11, [], 0), (17, .getfield 15, 12, [2, 1], 0), (20, .iload_n 1, 13, [], 0), (21, .iconst 0, 14, [], 0), (22, .iastore, 15, [], 0), (23, .iinc 1 1, 16, [], 0), (26, .goto (-19), 17, [5], 0), (29, .iconst 0, 18, [], 0), (30, .istore_n 1, 19, [], 0), (31, .iload_n 1, 20, [], 0), (32, .aload_n 0, 21, [], 0), (33, .getfield 19, 22, [2, 2], 0), (36, .arraylength, 23, [], 0), (37, .if_icmp .ge (16), 24, [31], 0), (40, .aload_n 0, 25, [], 0), (41, .getfield 19, 26, [2, 2], 0), (44, .iload_n 1, 27, [], 0), (45, .iconst 0, 28, [], 0), (46, .iastore, 29, [], 0), (47, .iinc 1 1, 30, [], 0), (50, .goto (-19), 31, [19], 0), (53, .return_, 32, [], 0)])
def mm2_placesIn : am_M := (⟨"AddressGrammar$Lines", "placesIn", "(I)I"⟩, prog_3_method_3_code, 2, (some (.int)), [(0, .iload_n 1, 1, [], 0), (1, .ifCond .lt (18), 2, [10], 0), (4, .iload_n 1, 3, [], 0), (5, .bipush 6, 4, [], 0), (7, .if_icmp .ge (12), 5, [10], 0), (10, .aload_n 0, 6, [], 0), (11, .getfield 15, 7, [2, 1], 0), (14, .iload_n 1, 8, [], 0), (15, .iaload, 9, [], 0), (16, .goto (4), 10, [11], 0), (19, .iconst 0, 11, [], 0), (20, .ireturn, 12, [], 0)])
def mm2_alternativesAt : am_M := (⟨"AddressGrammar$Lines", "alternativesAt", "(II)I"⟩, prog_3_method_4_code, 4, (some (.int)), [(0, .iload_n 1, 1, [], 0), (1, .ifCond .lt (22), 2, [12], 0), (4, .iload_n 1, 3, [], 0), (5, .bipush 6, 4, [], 0), (7, .if_icmp .ge (16), 5, [12], 0), (10, .iload_n 2, 6, [], 0), (11, .ifCond .lt (12), 7, [12], 0), (14, .iload_n 2, 8, [], 0), (15, .iconst 5, 9, [], 0), (16, .if_icmp .ge (7), 10, [12], 0), (19, .iconst 1, 11, [], 0), (20, .goto (4), 12, [13], 0), (23, .iconst 0, 13, [], 0), (24, .istore_n 3, 14, [], 0), (25, .iload_n 3, 15, [], 0), (26, .ifCond .eq (16), 16, [25], 0), (29, .aload_n 0, 17, [], 0), (30, .getfield 19, 18, [2, 2], 0), (33, .iload_n 1, 19, [], 0), (34, .iconst 5, 20, [], 0), (35, .imul, 21, [], 0), (36, .iload_n 2, 22, [], 0), (37, .iadd, 23, [], 0), (38, .iaload, 24, [], 0), (39, .goto (4), 25, [26], 0), (42, .iconst 0, 26, [], 0), (43, .ireturn, 27, [], 0)])
def mm2_isBehindNext : am_M := (⟨"AddressGrammar$Lines", "isBehindNext", "(II)Z"⟩, prog_3_method_5_code, 3, (some (.boolean)), [(0, .iload_n 1, 1, [], 0), (1, .aload_n 0, 2, [], 0), (2, .getfield 9, 3, [2, 0], 0), (5, .if_icmp .gt (12), 4, [9], 0), (8, .iload_n 2, 5, [], 0), (9, .aload_n 0, 6, [], 0), (10, .iload_n 1, 7, [], 0), (11, .invokevirtual 31, 8, [63, 2], 0), (14, .if_icmp .le (7), 9, [11], 0), (17, .iconst 1, 10, [], 0), (18, .goto (4), 11, [12], 0), (21, .iconst 0, 12, [], 0), (22, .ireturn, 13, [], 0)])
def mm2_add : am_M := (⟨"AddressGrammar$Lines", "add", "(IIIII)I"⟩, prog_3_method_6_code, 8, (some (.int)), [(0, .aload_n 0, 1, [], 0), (1, .iload_n 1, 2, [], 0), (2, .iload_n 2, 3, [], 0), (3, .invokevirtual 35, 4, [64, 3], 0), (6, .istore 6, 5, [], 0), (8, .iload_n 1, 6, [], 0), (9, .iload_n 2, 7, [], 0), (10, .iload 6, 8, [], 0), (12, .invokestatic 39, 9, [71, 3], 0), (15, .istore 7, 10, [], 0), (17, .iload 7, 11, [], 0), (19, .iconst (-1), 12, [], 0), (20, .if_icmp .ne (6), 13, [15], 0), (23, .bipush (-14), 14, [], 0), (25, .ireturn, 15, [], 0), (26, .aload_n 0, 16, [], 0), (27, .getfield 22, 17, [2, 3], 0), (30, .iload 7, 18, [], 0), (32, .iload_n 3, 19, [], 0), (33, .iastore, 20, [], 0), (34, .aload_n 0, 21, [], 0), (35, .getfield 25, 22, [2, 4], 0), (38, .iload 7, 23, [], 0), (40, .iload 4, 24, [], 0), (42, .iastore, 25, [], 0), (43, .aload_n 0, 26, [], 0), (44, .getfield 28, 27, [2, 5], 0), (47, .iload 7, 28, [], 0), (49, .iload 5, 29, [], 0), (51, .iastore, 30, [], 0), (52, .aload_n 0, 31, [], 0), (53, .aload_n 0, 32, [], 0), (54, .getfield 9, 33, [2, 0], 0), (57, .iload_n 1, 34, [], 0), (58, .iconst 1, 35, [], 0), (59, .iadd, 36, [], 0), (60, .invokestatic 43, 37, [], 0), (63, .putfield 9, 38, [2, 0], 0), (66, .aload_n 0, 39, [], 0), (67, .getfield 15, 40, [2, 1], 0), (70, .iload_n 1, 41, [], 0), (71, .aload_n 0, 42, [], 0), (72, .getfield 15, 43, [2, 1], 0), (75, .iload_n 1, 44, [], 0), (76, .iaload, 45, [], 0), (77, .iload_n 2, 46, [], 0), (78, .iconst 1, 47, [], 0), (79, .iadd, 48, [], 0), (80, .invokestatic 43, 49, [], 0), (83, .iastore, 50, [], 0), (84, .aload_n 0, 51, [], 0), (85, .getfield 19, 52, [2, 2], 0), (88, .iload_n 1, 53, [], 0), (89, .iconst 5, 54, [], 0), (90, .imul, 55, [], 0), (91, .iload_n 2, 56, [], 0), (92, .iadd, 57, [], 0), (93, .iload 6, 58, [], 0), (95, .iconst 1, 59, [], 0), (96, .iadd, 60, [], 0), (97, .iastore, 61, [], 0), (98, .iload 6, 62, [], 0), (100, .ireturn, 63, [], 0)])
def mm2_kindOf : am_M := (⟨"AddressGrammar$Lines", "kindOf", "(III)I"⟩, prog_3_method_7_code, 5, (some (.int)), [(0, .iload_n 1, 1, [], 0), (1, .iload_n 2, 2, [], 0), (2, .iload_n 3, 3, [], 0), (3, .invokestatic 39, 4, [71, 3], 0), (6, .istore 4, 5, [], 0), (8, .iload 4, 6, [], 0), (10, .iconst (-1), 7, [], 0), (11, .if_icmp .ne (7), 8, [10], 0), (14, .iconst (-1), 9, [], 0), (15, .goto (10), 10, [14], 0), (18, .aload_n 0, 11, [], 0), (19, .getfield 22, 12, [2, 3], 0), (22, .iload 4, 13, [], 0), (24, .iaload, 14, [], 0), (25, .ireturn, 15, [], 0)])
def mm2_valueOf : am_M := (⟨"AddressGrammar$Lines", "valueOf", "(III)I"⟩, prog_3_method_8_code, 5, (some (.int)), [(0, .iload_n 1, 1, [], 0), (1, .iload_n 2, 2, [], 0), (2, .iload_n 3, 3, [], 0), (3, .invokestatic 39, 4, [71, 3], 0), (6, .istore 4, 5, [], 0), (8, .iload 4, 6, [], 0), (10, .iconst (-1), 7, [], 0), (11, .if_icmp .ne (7), 8, [10], 0), (14, .iconst (-1), 9, [], 0), (15, .goto (10), 10, [14], 0), (18, .aload_n 0, 11, [], 0), (19, .getfield 25, 12, [2, 4], 0), (22, .iload 4, 13, [], 0), (24, .iaload, 14, [], 0), (25, .ireturn, 15, [], 0)])
def mm2_costOf : am_M := (⟨"AddressGrammar$Lines", "costOf", "(III)I"⟩, prog_3_method_9_code, 5, (some (.int)), [(0, .iload_n 1, 1, [], 0), (1, .iload_n 2, 2, [], 0), (2, .iload_n 3, 3, [], 0), (3, .invokestatic 39, 4, [71, 3], 0), (6, .istore 4, 5, [], 0), (8, .iload 4, 6, [], 0), (10, .iconst (-1), 7, [], 0), (11, .if_icmp .ne (7), 8, [10], 0), (14, .iconst (-1), 9, [], 0), (15, .goto (10), 10, [14], 0), (18, .aload_n 0, 11, [], 0), (19, .getfield 28, 12, [2, 5], 0), (22, .iload 4, 13, [], 0), (24, .iaload, 14, [], 0), (25, .ireturn, 15, [], 0)])
def mm2_hasKind : am_M := (⟨"AddressGrammar$Lines", "hasKind", "(III)Z"⟩, prog_3_method_10_code, 7, (some (.boolean)), [(0, .iload_n 1, 1, [], 0), (1, .iload_n 2, 2, [], 0), (2, .iconst 0, 3, [], 0), (3, .invokestatic 39, 4, [71, 3], 0), (6, .istore 4, 5, [], 0), (8, .iload 4, 6, [], 0), (10, .iconst (-1), 7, [], 0), (11, .if_icmp .ne (5), 8, [10], 0), (14, .iconst 0, 9, [], 0), (15, .ireturn, 10, [], 0), (16, .aload_n 0, 11, [], 0), (17, .iload_n 1, 12, [], 0), (18, .iload_n 2, 13, [], 0), (19, .invokevirtual 35, 14, [64, 3], 0), (22, .istore 5, 15, [], 0), (24, .iconst 0, 16, [], 0), (25, .istore 6, 17, [], 0), (27, .iload 6, 18, [], 0), (29, .iload 5, 19, [], 0), (31, .if_icmp .ge (31), 20, [35], 0), (34, .iload 6, 21, [], 0), (36, .iconst 4, 22, [], 0), (37, .if_icmp .ge (25), 23, [35], 0), (40, .aload_n 0, 24, [], 0), (41, .getfield 22, 25, [2, 3], 0), (44, .iload 4, 26, [], 0), (46, .iload 6, 27, [], 0), (48, .iadd, 28, [], 0), (49, .iaload, 29, [], 0), (50, .iload_n 3, 30, [], 0), (51, .if_icmp .ne (5), 31, [33], 0), (54, .iconst 1, 32, [], 0), (55, .ireturn, 33, [], 0), (56, .iinc 6 1, 34, [], 0), (59, .goto (-32), 35, [17], 0), (62, .iconst 0, 36, [], 0), (63, .ireturn, 37, [], 0)])
def mm2_slotOf : am_M := (⟨"AddressGrammar$Lines", "slotOf", "(III)I"⟩, prog_3_method_11_code, 3, (some (.int)), [(0, .iload_n 0, 1, [], 0), (1, .ifCond .lt (18), 2, [10], 0), (4, .iload_n 0, 3, [], 0), (5, .bipush 6, 4, [], 0), (7, .if_icmp .ge (12), 5, [10], 0), (10, .iload_n 1, 6, [], 0), (11, .ifCond .lt (8), 7, [10], 0), (14, .iload_n 1, 8, [], 0), (15, .iconst 5, 9, [], 0), (16, .if_icmp .lt (5), 10, [12], 0), (19, .iconst (-1), 11, [], 0), (20, .ireturn, 12, [], 0), (21, .iload_n 2, 13, [], 0), (22, .ifCond .lt (8), 14, [17], 0), (25, .iload_n 2, 15, [], 0), (26, .iconst 4, 16, [], 0), (27, .if_icmp .lt (5), 17, [19], 0), (30, .iconst (-1), 18, [], 0), (31, .ireturn, 19, [], 0), (32, .iload_n 0, 20, [], 0), (33, .iconst 5, 21, [], 0), (34, .imul, 22, [], 0), (35, .iload_n 1, 23, [], 0), (36, .iadd, 24, [], 0), (37, .iconst 4, 25, [], 0), (38, .imul, 26, [], 0), (39, .iload_n 2, 27, [], 0), (40, .iadd, 28, [], 0), (41, .ireturn, 29, [], 0)])
def mm3_init : am_M := (⟨"AddressGrammar$Pairs", "<init>", "()V"⟩, prog_4_method_1_code, 1, none, [(0, .aload_n 0, 1, [], 0), (1, .invokespecial 3, 2, [], 0), (4, .aload_n 0, 3, [], 0), (5, .iconst 0, 4, [], 0), (6, .putfield 9, 5, [3, 0], 0), (9, .aload_n 0, 6, [], 0), (10, .bipush 60, 7, [], 0), (12, .newarray .int, 8, [0], 0), (14, .putfield 15, 9, [3, 1], 0), (17, .aload_n 0, 10, [], 0), (18, .bipush 60, 11, [], 0), (20, .newarray .int, 12, [0], 0), (22, .putfield 19, 13, [3, 2], 0), (25, .aload_n 0, 14, [], 0), (26, .bipush 60, 15, [], 0), (28, .newarray .int, 16, [0], 0), (30, .putfield 22, 17, [3, 3], 0), (33, .return_, 18, [], 0)])
def mm3_holds : am_M := (⟨"AddressGrammar$Pairs", "holds", "(III)Z"⟩, prog_4_method_2_code, 5, (some (.boolean)), [(0, .iconst 0, 1, [], 0), (1, .istore 4, 2, [], 0), (3, .iload 4, 3, [], 0), (5, .aload_n 0, 4, [], 0), (6, .getfield 9, 5, [3, 0], 0), (9, .if_icmp .ge (51), 6, [31], 0), (12, .iload 4, 7, [], 0), (14, .bipush 60, 8, [], 0), (16, .if_icmp .ge (44), 9, [31], 0), (19, .aload_n 0, 10, [], 0), (20, .getfield 15, 11, [3, 1], 0), (23, .iload 4, 12, [], 0), (25, .iaload, 13, [], 0), (26, .iload_n 1, 14, [], 0), (27, .if_icmp .ne (27), 15, [29], 0), (30, .aload_n 0, 16, [], 0), (31, .getfield 19, 17, [3, 2], 0), (34, .iload 4, 18, [], 0), (36, .iaload, 19, [], 0), (37, .iload_n 2, 20, [], 0), (38, .if_icmp .ne (16), 21, [29], 0), (41, .aload_n 0, 22, [], 0), (42, .getfield 22, 23, [3, 3], 0), (45, .iload 4, 24, [], 0), (47, .iaload, 25, [], 0), (48, .iload_n 3, 26, [], 0), (49, .if_icmp .ne (5), 27, [29], 0), (52, .iconst 1, 28, [], 0), (53, .ireturn, 29, [], 0), (54, .iinc 4 1, 30, [], 0), (57, .goto (-54), 31, [2], 0), (60, .iconst 0, 32, [], 0), (61, .ireturn, 33, [], 0)])
def mm3_add : am_M := (⟨"AddressGrammar$Pairs", "add", "(III)Z"⟩, prog_4_method_3_code, 4, (some (.boolean)), [(0, .aload_n 0, 1, [], 0), (1, .getfield 9, 2, [3, 0], 0), (4, .bipush 60, 3, [], 0), (6, .if_icmp .ge (13), 4, [10], 0), (9, .aload_n 0, 5, [], 0), (10, .iload_n 1, 6, [], 0), (11, .iload_n 2, 7, [], 0), (12, .iload_n 3, 8, [], 0), (13, .invokevirtual 25, 9, [73, 4], 0), (16, .ifCond .eq (5), 10, [12], 0), (19, .iconst 0, 11, [], 0), (20, .ireturn, 12, [], 0), (21, .aload_n 0, 13, [], 0), (22, .getfield 15, 14, [3, 1], 0), (25, .aload_n 0, 15, [], 0), (26, .getfield 9, 16, [3, 0], 0), (29, .iload_n 1, 17, [], 0), (30, .iastore, 18, [], 0), (31, .aload_n 0, 19, [], 0), (32, .getfield 19, 20, [3, 2], 0), (35, .aload_n 0, 21, [], 0), (36, .getfield 9, 22, [3, 0], 0), (39, .iload_n 2, 23, [], 0), (40, .iastore, 24, [], 0), (41, .aload_n 0, 25, [], 0), (42, .getfield 22, 26, [3, 3], 0), (45, .aload_n 0, 27, [], 0), (46, .getfield 9, 28, [3, 0], 0), (49, .iload_n 3, 29, [], 0), (50, .iastore, 30, [], 0), (51, .aload_n 0, 31, [], 0), (52, .dup, 32, [], 0), (53, .getfield 9, 33, [3, 0], 0), (56, .iconst 1, 34, [], 0), (57, .iadd, 35, [], 0), (58, .putfield 9, 36, [3, 0], 0), (61, .iconst 1, 37, [], 0), (62, .ireturn, 38, [], 0)])
def mm5_init : am_M := (⟨"AddressGrammar$Reading", "<init>", "()V"⟩, prog_5_method_1_code, 1, none, [(0, .aload_n 0, 1, [], 0), (1, .invokespecial 3, 2, [], 0), (4, .aload_n 0, 3, [], 0), (5, .iconst (-1), 4, [], 0), (6, .putfield 9, 5, [5, 0], 0), (9, .aload_n 0, 6, [], 0), (10, .iconst (-1), 7, [], 0), (11, .putfield 15, 8, [5, 1], 0), (14, .aload_n 0, 9, [], 0), (15, .iconst 0, 10, [], 0), (16, .putfield 18, 11, [5, 2], 0), (19, .aload_n 0, 12, [], 0), (20, .bipush 9, 13, [], 0), (22, .newarray .int, 14, [0], 0), (24, .putfield 21, 15, [5, 3], 0), (27, .aload_n 0, 16, [], 0), (28, .bipush 45, 17, [], 0), (30, .newarray .int, 18, [0], 0), (32, .putfield 25, 19, [5, 4], 0), (35, .return_, 20, [], 0)])
def mm5_drop : am_M := (⟨"AddressGrammar$Reading", "drop", "()V"⟩, prog_5_method_2_code, 1, none, [(0, .aload_n 0, 1, [], 0), (1, .iconst (-1), 2, [], 0), (2, .putfield 9, 3, [5, 0], 0), (5, .aload_n 0, 4, [], 0), (6, .iconst (-1), 5, [], 0), (7, .putfield 15, 6, [5, 1], 0), (10, .aload_n 0, 7, [], 0), (11, .iconst 0, 8, [], 0), (12, .putfield 18, 9, [5, 2], 0), (15, .return_, 10, [], 0)])
def mm5_begin : am_M := (⟨"AddressGrammar$Reading", "begin", "(I)V"⟩, prog_5_method_3_code, 2, none, [(0, .aload_n 0, 1, [], 0), (1, .iconst 0, 2, [], 0), (2, .putfield 9, 3, [5, 0], 0), (5, .aload_n 0, 4, [], 0), (6, .iload_n 1, 5, [], 0), (7, .putfield 15, 6, [5, 1], 0), (10, .aload_n 0, 7, [], 0), (11, .iconst 0, 8, [], 0), (12, .putfield 18, 9, [5, 2], 0), (15, .return_, 10, [], 0)])
def mm5_choose : am_M := (⟨"AddressGrammar$Reading", "choose", "(I)V"⟩, prog_5_method_4_code, 2, none, [(0, .aload_n 0, 1, [], 0), (1, .getfield 18, 2, [5, 2], 0), (4, .aload_n 0, 3, [], 0), (5, .getfield 21, 4, [5, 3], 0), (8, .arraylength, 5, [], 0), (9, .if_icmp .ge (23), 6, [18], 0), (12, .aload_n 0, 7, [], 0), (13, .getfield 21, 8, [5, 3], 0), (16, .aload_n 0, 9, [], 0), (17, .getfield 18, 10, [5, 2], 0), (20, .iload_n 1, 11, [], 0), (21, .iastore, 12, [], 0), (22, .aload_n 0, 13, [], 0), (23, .dup, 14, [], 0), (24, .getfield 18, 15, [5, 2], 0), (27, .iconst 1, 16, [], 0), (28, .iadd, 17, [], 0), (29, .putfield 18, 18, [5, 2], 0), (32, .return_, 19, [], 0)])
def mm5_addPart : am_M := (⟨"AddressGrammar$Reading", "addPart", "(IIII)V"⟩, prog_5_method_5_code, 6, none, [(0, .aload_n 0, 1, [], 0), (1, .getfield 9, 2, [5, 0], 0), (4, .ifCond .lt (19), 3, [10], 0), (7, .aload_n 0, 4, [], 0), (8, .getfield 9, 5, [5, 0], 0), (11, .bipush 9, 6, [], 0), (13, .if_icmp .ge (10), 7, [10], 0), (16, .aload_n 0, 8, [], 0), (17, .getfield 18, 9, [5, 2], 0), (20, .ifCond .gt (4), 10, [11], 0), (23, .return_, 11, [], 0), (24, .aload_n 0, 12, [], 0), (25, .getfield 9, 13, [5, 0], 0), (28, .iconst 5, 14, [], 0), (29, .imul, 15, [], 0), (30, .istore 5, 16, [], 0), (32, .aload_n 0, 17, [], 0), (33, .getfield 25, 18, [5, 4], 0), (36, .iload 5, 19, [], 0), (38, .iload_n 1, 20, [], 0), (39, .iastore, 21, [], 0), (40, .aload_n 0, 22, [], 0), (41, .getfield 25, 23, [5, 4], 0), (44, .iload 5, 24, [], 0), (46, .iconst 1, 25, [], 0), (47, .iadd, 26, [], 0), (48, .iload_n 2, 27, [], 0), (49, .iastore, 28, [], 0), (50, .aload_n 0, 29, [], 0), (51, .getfield 25, 30, [5, 4], 0), (54, .iload 5, 31, [], 0), (56, .iconst 2, 32, [], 0), (57, .iadd, 33, [], 0), (58, .iload_n 3, 34, [], 0), (59, .iastore, 35, [], 0), (60, .aload_n 0, 36, [], 0), (61, .getfield 25, 37, [5, 4], 0), (64, .iload 5, 38, [], 0), (66, .iconst 3, 39, [], 0), (67, .iadd, 40, [], 0), (68, .iload 4, 41, [], 0), (70, .iastore, 42, [], 0), (71, .aload_n 0, 43, [], 0), (72, .getfield 25, 44, [5, 4], 0), (75, .iload 5, 45, [], 0), (77, .iconst 4, 46, [], 0), (78, .iadd, 47, [], 0), (79, .aload_n 0, 48, [], 0), (80, .getfield 21, 49, [5, 3], 0), (83, .aload_n 0, 50, [], 0), (84, .getfield 18, 51, [5, 2], 0), (87, .iconst 1, 52, [], 0), (88, .isub, 53, [], 0), (89, .iaload, 54, [], 0), (90, .iastore, 55, [], 0), (91, .aload_n 0, 56, [], 0), (92, .dup, 57, [], 0), (93, .getfield 9, 58, [5, 0], 0), (96, .iconst 1, 59, [], 0), (97, .iadd, 60, [], 0), (98, .putfield 9, 61, [5, 0], 0), (101, .return_, 62, [], 0)])
def mm5_fact : am_M := (⟨"AddressGrammar$Reading", "fact", "(II)I"⟩, prog_5_method_6_code, 4, (some (.int)), [(0, .iload_n 1, 1, [], 0), (1, .ifCond .lt (24), 2, [13], 0), (4, .iload_n 1, 3, [], 0), (5, .aload_n 0, 4, [], 0), (6, .getfield 9, 5, [5, 0], 0), (9, .if_icmp .ge (16), 6, [13], 0), (12, .iload_n 2, 7, [], 0), (13, .ifCond .lt (12), 8, [13], 0), (16, .iload_n 2, 9, [], 0), (17, .iconst 5, 10, [], 0), (18, .if_icmp .ge (7), 11, [13], 0), (21, .iconst 1, 12, [], 0), (22, .goto (4), 13, [14], 0), (25, .iconst 0, 14, [], 0), (26, .istore_n 3, 15, [], 0), (27, .iload_n 3, 16, [], 0), (28, .ifCond .eq (16), 17, [26], 0), (31, .aload_n 0, 18, [], 0), (32, .getfield 25, 19, [5, 4], 0), (35, .iload_n 1, 20, [], 0), (36, .iconst 5, 21, [], 0), (37, .imul, 22, [], 0), (38, .iload_n 2, 23, [], 0), (39, .iadd, 24, [], 0), (40, .iaload, 25, [], 0), (41, .goto (4), 26, [27], 0), (44, .iconst (-1), 27, [], 0), (45, .ireturn, 28, [], 0)])
def mm5_isBefore : am_M := (⟨"AddressGrammar$Reading", "isBefore", "(LAddressGrammar$Reading;)Z"⟩, prog_5_method_7_code, 3, (some (.boolean)), [(0, .aload_n 0, 1, [], 0), (1, .getfield 15, 2, [5, 1], 0), (4, .aload_n 1, 3, [], 0), (5, .getfield 15, 4, [5, 1], 0), (8, .if_icmp .eq (20), 5, [14], 0), (11, .aload_n 0, 6, [], 0), (12, .getfield 15, 7, [5, 1], 0), (15, .aload_n 1, 8, [], 0), (16, .getfield 15, 9, [5, 1], 0), (19, .if_icmp .ge (7), 10, [12], 0), (22, .iconst 1, 11, [], 0), (23, .goto (4), 12, [13], 0), (26, .iconst 0, 13, [], 0), (27, .ireturn, 14, [], 0), (28, .iconst 0, 15, [], 0), (29, .istore_n 2, 16, [], 0), (30, .iload_n 2, 17, [], 0), (31, .aload_n 0, 18, [], 0), (32, .getfield 18, 19, [5, 2], 0), (35, .if_icmp .ge (53), 20, [48], 0), (38, .iload_n 2, 21, [], 0), (39, .aload_n 1, 22, [], 0), (40, .getfield 18, 23, [5, 2], 0), (43, .if_icmp .ge (45), 24, [48], 0), (46, .aload_n 0, 25, [], 0), (47, .getfield 21, 26, [5, 3], 0), (50, .iload_n 2, 27, [], 0), (51, .iaload, 28, [], 0), (52, .aload_n 1, 29, [], 0), (53, .getfield 21, 30, [5, 3], 0), (56, .iload_n 2, 31, [], 0), (57, .iaload, 32, [], 0), (58, .if_icmp .eq (24), 33, [46], 0), (61, .aload_n 0, 34, [], 0), (62, .getfield 21, 35, [5, 3], 0), (65, .iload_n 2, 36, [], 0), (66, .iaload, 37, [], 0), (67, .aload_n 1, 38, [], 0), (68, .getfield 21, 39, [5, 3], 0), (71, .iload_n 2, 40, [], 0), (72, .iaload, 41, [], 0), (73, .if_icmp .ge (7), 42, [44], 0), (76, .iconst 1, 43, [], 0), (77, .goto (4), 44, [45], 0), (80, .iconst 0, 45, [], 0), (81, .ireturn, 46, [], 0), (82, .iinc 2 1, 47, [], 0), (85, .goto (-55), 48, [16], 0), (88, .iconst 0, 49, [], 0), (89, .ireturn, 50, [], 0)])
def mm4_init : am_M := (⟨"AddressGrammar$Search", "<init>", "(LAddressGrammar$Form;LAddressGrammar$Lines;LAddressGrammar$Pairs;)V"⟩, prog_6_method_1_code, 4, none, [(0, .aload_n 0, 1, [], 0), (1, .invokespecial 5, 2, [], 0), (4, .aload_n 0, 3, [], 0), (5, .new 11, 4, [5], 0), (8, .dup, 5, [], 0), (9, .invokespecial 13, 6, [75, 1, 1], 0), (12, .putfield 14, 7, [4, 0], 0), (15, .aload_n 0, 8, [], 0), (16, .new 11, 9, [5], 0), (19, .dup, 10, [], 0), (20, .invokespecial 13, 11, [75, 1, 1], 0), (23, .putfield 18, 12, [4, 1], 0), (26, .aload_n 0, 13, [], 0), (27, .iconst 0, 14, [], 0), (28, .putfield 21, 15, [4, 2], 0), (31, .aload_n 0, 16, [], 0), (32, .new 11, 17, [5], 0), (35, .dup, 18, [], 0), (36, .invokespecial 13, 19, [75, 1, 1], 0), (39, .putfield 25, 20, [4, 3], 0), (42, .aload_n 0, 21, [], 0), (43, .iconst 0, 22, [], 0), (44, .putfield 28, 23, [4, 4], 0), (47, .aload_n 0, 24, [], 0), (48, .sipush 420, 25, [], 0), (51, .newarray .boolean, 26, [2], 0), (53, .putfield 32, 27, [4, 8], 0), (56, .aload_n 0, 28, [], 0), (57, .sipush 840, 29, [], 0), (60, .newarray .int, 30, [0], 0), (62, .putfield 36, 31, [4, 9], 0), (65, .aload_n 0, 32, [], 0), (66, .sipush 840, 33, [], 0), (69, .newarray .int, 34, [0], 0), (71, .putfield 40, 35, [4, 10], 0), (74, .aload_n 0, 36, [], 0), (75, .sipush 840, 37, [], 0), (78, .newarray .int, 38, [0], 0), (80, .putfield 43, 39, [4, 11], 0), (83, .aload_n 0, 40, [], 0), (84, .bipush 120, 41, [], 0), (86, .newarray .int, 42, [0], 0), (88, .putfield 46, 43, [4, 12], 0), (91, .aload_n 0, 44, [], 0), (92, .iconst 0, 45, [], 0), (93, .putfield 49, 46, [4, 13], 0), (96, .aload_n 0, 47, [], 0), (97, .iconst (-1), 48, [], 0), (98, .putfield 52, 49, [4, 14], 0), (101, .aload_n 0, 50, [], 0), (102, .aload_n 1, 51, [], 0), (103, .putfield 55, 52, [4, 5], 0), (106, .aload_n 0, 53, [], 0), (107, .aload_n 2, 54, [], 0), (108, .putfield 59, 55, [4, 6], 0), (111, .aload_n 0, 56, [], 0), (112, .aload_n 3, 57, [], 0), (113, .putfield 63, 58, [4, 7], 0), (116, .return_, 59, [], 0)])
def mm4_forget : am_M := (⟨"AddressGrammar$Search", "forget", "()V"⟩, prog_6_method_2_code, 1, none, [(0, .aload_n 0, 1, [], 0), (1, .iconst 0, 2, [], 0), (2, .putfield 28, 3, [4, 4], 0), (5, .return_, 4, [], 0)])
def mm4_find : am_M := (⟨"AddressGrammar$Search", "find", "()V"⟩, prog_6_method_3_code, 2, none, [(0, .aload_n 0, 1, [], 0), (1, .getfield 28, 2, [4, 4], 0), (4, .ifCond .eq (4), 3, [4], 0), (7, .return_, 4, [], 0), (8, .aload_n 0, 5, [], 0), (9, .iconst 1, 6, [], 0), (10, .putfield 28, 7, [4, 4], 0), (13, .aload_n 0, 8, [], 0), (14, .getfield 14, 9, [4, 0], 0), (17, .invokevirtual 67, 10, [76, 1], 0), (20, .aload_n 0, 11, [], 0), (21, .getfield 18, 12, [4, 1], 0), (24, .invokevirtual 67, 13, [76, 1], 0), (27, .aload_n 0, 14, [], 0), (28, .getfield 55, 15, [4, 5], 0), (31, .getfield 70, 16, [1, 0], 0), (34, .ifCond .ne (4), 17, [18], 0), (37, .return_, 18, [], 0), (38, .aload_n 0, 19, [], 0), (39, .invokevirtual 75, 20, [88, 1], 0), (42, .aload_n 0, 21, [], 0), (43, .invokevirtual 78, 22, [91, 1], 0), (46, .aload_n 0, 23, [], 0), (47, .iconst (-1), 24, [], 0), (48, .invokevirtual 81, 25, [94, 2], 0), (51, .iconst 0, 26, [], 0), (52, .istore_n 1, 27, [], 0), (53, .iload_n 1, 28, [], 0), (54, .aload_n 0, 29, [], 0), (55, .getfield 49, 30, [4, 13], 0), (58, .if_icmp .ge (28), 31, [44], 0), (61, .iload_n 1, 32, [], 0), (62, .aload_n 0, 33, [], 0), (63, .getfield 46, 34, [4, 12], 0), (66, .arraylength, 35, [], 0), (67, .if_icmp .ge (19), 36, [44], 0), (70, .aload_n 0, 37, [], 0), (71, .aload_n 0, 38, [], 0), (72, .getfield 46, 39, [4, 12], 0), (75, .iload_n 1, 40, [], 0), (76, .iaload, 41, [], 0), (77, .invokevirtual 81, 42, [94, 2], 0), (80, .iinc 1 1, 43, [], 0), (83, .goto (-30), 44, [27], 0), (86, .return_, 45, [], 0)])
def mm4_stateOf : am_M := (⟨"AddressGrammar$Search", "stateOf", "(III)I"⟩, prog_6_method_4_code, 3, (some (.int)), [(0, .iload_n 0, 1, [], 0), (1, .bipush 7, 2, [], 0), (3, .imul, 3, [], 0), (4, .iload_n 1, 4, [], 0), (5, .iadd, 5, [], 0), (6, .bipush 6, 6, [], 0), (8, .imul, 7, [], 0), (9, .iload_n 2, 8, [], 0), (10, .iadd, 9, [], 0), (11, .ireturn, 10, [], 0)])
def mm4_isReached : am_M := (⟨"AddressGrammar$Search", "isReached", "(III)Z"⟩, prog_6_method_5_code, 5, (some (.boolean)), [(0, .iload_n 1, 1, [], 0), (1, .iload_n 2, 2, [], 0), (2, .iload_n 3, 3, [], 0), (3, .invokestatic 85, 4, [85, 3], 0), (6, .istore 4, 5, [], 0), (8, .iload 4, 6, [], 0), (10, .ifCond .lt (25), 7, [17], 0), (13, .iload 4, 8, [], 0), (15, .sipush 420, 9, [], 0), (18, .if_icmp .ge (17), 10, [17], 0), (21, .aload_n 0, 11, [], 0), (22, .getfield 32, 12, [4, 8], 0), (25, .iload 4, 13, [], 0), (27, .baload, 14, [], 0), (28, .ifCond .eq (7), 15, [17], 0), (31, .iconst 1, 16, [], 0), (32, .goto (4), 17, [18], 0), (35, .iconst 0, 18, [], 0), (36, .ireturn, 19, [], 0)])
def mm4_stateBehind : am_M := (⟨"AddressGrammar$Search", "stateBehind", "(III)I"⟩, prog_6_method_6_code, 4, (some (.int)), [(0, .aload_n 0, 1, [], 0), (1, .getfield 55, 2, [4, 5], 0), (4, .iload_n 1, 3, [], 0), (5, .invokevirtual 89, 4, [59, 2], 0), (8, .ifCond .eq (7), 5, [7], 0), (11, .iload_n 3, 6, [], 0), (12, .ifCond .ne (12), 7, [14], 0), (15, .iload_n 1, 8, [], 0), (16, .iconst 1, 9, [], 0), (17, .iadd, 10, [], 0), (18, .iload_n 2, 11, [], 0), (19, .iload_n 3, 12, [], 0), (20, .invokestatic 85, 13, [85, 3], 0), (23, .ireturn, 14, [], 0), (24, .iload_n 3, 15, [], 0), (25, .aload_n 0, 16, [], 0), (26, .getfield 59, 17, [4, 6], 0), (29, .iload_n 2, 18, [], 0), (30, .invokevirtual 93, 19, [63, 2], 0), (33, .if_icmp .ne (16), 20, [29], 0), (36, .iload_n 1, 21, [], 0), (37, .iconst 1, 22, [], 0), (38, .iadd, 23, [], 0), (39, .iload_n 2, 24, [], 0), (40, .iconst 1, 25, [], 0), (41, .iadd, 26, [], 0), (42, .iconst 0, 27, [], 0), (43, .invokestatic 85, 28, [85, 3], 0), (46, .goto (4), 29, [30], 0), (49, .iconst (-1), 30, [], 0), (50, .ireturn, 31, [], 0)])
def mm4_reachAll : am_M := (⟨"AddressGrammar$Search", "reachAll", "()V"⟩, prog_6_method_7_code, 4, none, [(0, .iconst 0, 1, [], 0), (1, .istore_n 1, 2, [], 0), (2, .iload_n 1, 3, [], 0), (3, .sipush 420, 4, [], 0), (6, .if_icmp .ge (16), 5, [12], 0), (9, .aload_n 0, 6, [], 0), (10, .getfield 32, 7, [4, 8], 0), (13, .iload_n 1, 8, [], 0), (14, .iconst 0, 9, [], 0), (15, .bastore, 10, [], 0), (16, .iinc 1 1, 11, [], 0), (19, .goto (-17), 12, [2], 0), (22, .aload_n 0, 13, [], 0), (23, .iconst 0, 14, [], 0), (24, .putfield 21, 15, [4, 2], 0), (27, .aload_n 0, 16, [], 0), (28, .getfield 32, 17, [4, 8], 0), (31, .iconst 0, 18, [], 0), (32, .iconst 1, 19, [], 0), (33, .bastore, 20, [], 0), (34, .iconst 0, 21, [], 0), (35, .istore_n 1, 22, [], 0), (36, .iload_n 1, 23, [], 0), (37, .aload_n 0, 24, [], 0), (38, .getfield 55, 25, [4, 5], 0), (41, .getfield 70, 26, [1, 0], 0), (44, .if_icmp .ge (65), 27, [59], 0), (47, .iconst 0, 28, [], 0), (48, .istore_n 2, 29, [], 0), (49, .iload_n 2, 30, [], 0), (50, .aload_n 0, 31, [], 0), (51, .getfield 59, 32, [4, 6], 0), (54, .getfield 99, 33, [2, 0], 0), (57, .if_icmp .gt (46), 34, [57], 0), (60, .iconst 0, 35, [], 0), (61, .istore_n 3, 36, [], 0), (62, .iload_n 3, 37, [], 0), (63, .aload_n 0, 38, [], 0), (64, .getfield 59, 39, [4, 6], 0), (67, .iload_n 2, 40, [], 0), (68, .invokevirtual 93, 41, [63, 2], 0), (71, .if_icmp .gt (26), 42, [55], 0), (74, .aload_n 0, 43, [], 0), (75, .iload_n 1, 44, [], 0), (76, .iload_n 2, 45, [], 0), (77, .iload_n 3, 46, [], 0), (78, .invokevirtual 102, 47, [86, 4], 0), (81, .ifCond .eq (10), 48, [53], 0), (84, .aload_n 0, 49, [], 0), (85, .iload_n 1, 50, [], 0), (86, .iload_n 2, 51, [], 0), (87, .iload_n 3, 52, [], 0), (88, .invokevirtual 106, 53, [89, 4], 0), (91, .iinc 3 1, 54, [], 0), (94, .goto (-32), 55, [36], 0), (97, .iinc 2 1, 56, [], 0), (100, .goto (-51), 57, [29], 0), (103, .iinc 1 1, 58, [], 0), (106, .goto (-70), 59, [22], 0), (109, .return_, 60, [], 0)])
def mm4_reachFrom : am_M := (⟨"AddressGrammar$Search", "reachFrom", "(III)V"⟩, prog_6_method_8_code, 4, none, [(0, .aload_n 0, 1, [], 0), (1, .getfield 55, 2, [4, 5], 0), (4, .iload_n 1, 3, [], 0), (5, .invokevirtual 110, 4, [58, 2], 0), (8, .iconst (-1), 5, [], 0), (9, .if_icmp .eq (14), 6, [13], 0), (12, .aload_n 0, 7, [], 0), (13, .aload_n 0, 8, [], 0), (14, .iload_n 1, 9, [], 0), (15, .iload_n 2, 10, [], 0), (16, .iload_n 3, 11, [], 0), (17, .invokevirtual 113, 12, [87, 4], 0), (20, .invokevirtual 116, 13, [90, 2], 0), (23, .aload_n 0, 14, [], 0), (24, .getfield 59, 15, [4, 6], 0), (27, .iload_n 2, 16, [], 0), (28, .iload_n 3, 17, [], 0), (29, .aload_n 0, 18, [], 0), (30, .getfield 55, 19, [4, 5], 0), (33, .iload_n 1, 20, [], 0), (34, .invokevirtual 119, 21, [57, 2], 0), (37, .invokevirtual 122, 22, [70, 4], 0), (40, .ifCond .eq (16), 23, [32], 0), (43, .aload_n 0, 24, [], 0), (44, .aload_n 0, 25, [], 0), (45, .iload_n 1, 26, [], 0), (46, .iload_n 2, 27, [], 0), (47, .iload_n 3, 28, [], 0), (48, .iconst 1, 29, [], 0), (49, .iadd, 30, [], 0), (50, .invokevirtual 113, 31, [87, 4], 0), (53, .invokevirtual 116, 32, [90, 2], 0), (56, .return_, 33, [], 0)])
def mm4_reach : am_M := (⟨"AddressGrammar$Search", "reach", "(I)V"⟩, prog_6_method_9_code, 2, none, [(0, .iload_n 1, 1, [], 0), (1, .ifCond .lt (10), 2, [5], 0), (4, .iload_n 1, 3, [], 0), (5, .sipush 420, 4, [], 0), (8, .if_icmp .lt (4), 5, [6], 0), (11, .return_, 6, [], 0), (12, .aload_n 0, 7, [], 0), (13, .getfield 32, 8, [4, 8], 0), (16, .iload_n 1, 9, [], 0), (17, .iconst 1, 10, [], 0), (18, .bastore, 11, [], 0), (19, .aload_n 0, 12, [], 0), (20, .aload_n 0, 13, [], 0), (21, .getfield 21, 14, [4, 2], 0), (24, .iload_n 1, 15, [], 0), (25, .bipush 6, 16, [], 0), (27, .idiv, 17, [], 0), (28, .bipush 7, 18, [], 0), (30, .irem, 19, [], 0), (31, .invokestatic 125, 20, [], 0), (34, .putfield 21, 21, [4, 2], 0), (37, .return_, 22, [], 0)])
def mm4_listPlaceValues : am_M := (⟨"AddressGrammar$Search", "listPlaceValues", "()V"⟩, prog_6_method_10_code, 4, none, [(0, .aload_n 0, 1, [], 0), (1, .iconst 0, 2, [], 0), (2, .putfield 49, 3, [4, 13], 0), (5, .aload_n 0, 4, [], 0), (6, .getfield 55, 5, [4, 5], 0), (9, .bipush 7, 6, [], 0), (11, .invokevirtual 131, 7, [60, 2], 0), (14, .istore_n 1, 8, [], 0), (15, .iload_n 1, 9, [], 0), (16, .iconst (-1), 10, [], 0), (17, .if_icmp .ne (4), 11, [12], 0), (20, .return_, 12, [], 0), (21, .iconst 0, 13, [], 0), (22, .istore_n 2, 14, [], 0), (23, .iload_n 2, 15, [], 0), (24, .aload_n 0, 16, [], 0), (25, .getfield 59, 17, [4, 6], 0), (28, .getfield 99, 18, [2, 0], 0), (31, .if_icmp .ge (45), 19, [41], 0), (34, .iconst 0, 20, [], 0), (35, .istore_n 3, 21, [], 0), (36, .iload_n 3, 22, [], 0), (37, .aload_n 0, 23, [], 0), (38, .getfield 59, 24, [4, 6], 0), (41, .iload_n 2, 25, [], 0), (42, .invokevirtual 93, 26, [63, 2], 0), (45, .if_icmp .ge (25), 27, [39], 0), (48, .aload_n 0, 28, [], 0), (49, .iload_n 1, 29, [], 0), (50, .iload_n 2, 30, [], 0), (51, .iload_n 3, 31, [], 0), (52, .invokevirtual 102, 32, [86, 4], 0), (55, .ifCond .eq (9), 33, [37], 0), (58, .aload_n 0, 34, [], 0), (59, .iload_n 2, 35, [], 0), (60, .iload_n 3, 36, [], 0), (61, .invokevirtual 134, 37, [92, 3], 0), (64, .iinc 3 1, 38, [], 0), (67, .goto (-31), 39, [21], 0), (70, .iinc 2 1, 40, [], 0), (73, .goto (-50), 41, [14], 0), (76, .return_, 42, [], 0)])
def mm4_listPlaceValuesAt : am_M := (⟨"AddressGrammar$Search", "listPlaceValuesAt", "(II)V"⟩, prog_6_method_11_code, 5, none, [(0, .aload_n 0, 1, [], 0), (1, .getfield 59, 2, [4, 6], 0), (4, .iload_n 1, 3, [], 0), (5, .iload_n 2, 4, [], 0), (6, .invokevirtual 138, 5, [64, 3], 0), (9, .istore_n 3, 6, [], 0), (10, .iconst 0, 7, [], 0), (11, .istore 4, 8, [], 0), (13, .iload 4, 9, [], 0), (15, .iload_n 3, 10, [], 0), (16, .if_icmp .ge (40), 11, [29], 0), (19, .aload_n 0, 12, [], 0), (20, .getfield 59, 13, [4, 6], 0), (23, .iload_n 1, 14, [], 0), (24, .iload_n 2, 15, [], 0), (25, .iload 4, 16, [], 0), (27, .invokevirtual 141, 17, [67, 4], 0), (30, .bipush 7, 18, [], 0), (32, .if_icmp .ne (18), 19, [27], 0), (35, .aload_n 0, 20, [], 0), (36, .aload_n 0, 21, [], 0), (37, .getfield 59, 22, [4, 6], 0), (40, .iload_n 1, 23, [], 0), (41, .iload_n 2, 24, [], 0), (42, .iload 4, 25, [], 0), (44, .invokevirtual 143, 26, [68, 4], 0), (47, .invokevirtual 146, 27, [93, 2], 0), (50, .iinc 4 1, 28, [], 0), (53, .goto (-40), 29, [8], 0), (56, .return_, 30, [], 0)])
def mm4_listPlaceValue : am_M := (⟨"AddressGrammar$Search", "listPlaceValue", "(I)V"⟩, prog_6_method_12_code, 3, none, [(0, .iconst 0, 1, [], 0), (1, .istore_n 2, 2, [], 0), (2, .iload_n 2, 3, [], 0), (3, .aload_n 0, 4, [], 0), (4, .getfield 49, 5, [4, 13], 0), (7, .if_icmp .ge (29), 6, [20], 0), (10, .iload_n 2, 7, [], 0), (11, .aload_n 0, 8, [], 0), (12, .getfield 46, 9, [4, 12], 0), (15, .arraylength, 10, [], 0), (16, .if_icmp .ge (20), 11, [20], 0), (19, .aload_n 0, 12, [], 0), (20, .getfield 46, 13, [4, 12], 0), (23, .iload_n 2, 14, [], 0), (24, .iaload, 15, [], 0), (25, .iload_n 1, 16, [], 0), (26, .if_icmp .ne (4), 17, [18], 0), (29, .return_, 18, [], 0), (30, .iinc 2 1, 19, [], 0), (33, .goto (-31), 20, [2], 0), (36, .aload_n 0, 21, [], 0), (37, .getfield 49, 22, [4, 13], 0), (40, .aload_n 0, 23, [], 0), (41, .getfield 46, 24, [4, 12], 0), (44, .arraylength, 25, [], 0), (45, .if_icmp .ge (23), 26, [38], 0), (48, .aload_n 0, 27, [], 0), (49, .getfield 46, 28, [4, 12], 0), (52, .aload_n 0, 29, [], 0), (53, .getfield 49, 30, [4, 13], 0), (56, .iload_n 1, 31, [], 0), (57, .iastore, 32, [], 0), (58, .aload_n 0, 33, [], 0), (59, .dup, 34, [], 0), (60, .getfield 49, 35, [4, 13], 0), (63, .iconst 1, 36, [], 0), (64, .iadd, 37, [], 0), (65, .putfield 49, 38, [4, 13], 0), (68, .return_, 39, [], 0)])
def mm4_assume : am_M := (⟨"AddressGrammar$Search", "assume", "(I)V"⟩, prog_6_method_13_code, 5, none, [(0, .aload_n 0, 1, [], 0), (1, .iload_n 1, 2, [], 0), (2, .putfield 52, 3, [4, 14], 0), (5, .aload_n 0, 4, [], 0), (6, .getfield 55, 5, [4, 5], 0), (9, .getfield 70, 6, [1, 0], 0), (12, .istore_n 2, 7, [], 0), (13, .iload_n 2, 8, [], 0), (14, .ifCond .lt (69), 9, [41], 0), (17, .iconst 0, 10, [], 0), (18, .istore_n 3, 11, [], 0), (19, .iload_n 3, 12, [], 0), (20, .aload_n 0, 13, [], 0), (21, .getfield 59, 14, [4, 6], 0), (24, .getfield 99, 15, [2, 0], 0), (27, .if_icmp .gt (50), 16, [39], 0), (30, .iconst 0, 17, [], 0), (31, .istore 4, 18, [], 0), (33, .iload 4, 19, [], 0), (35, .aload_n 0, 20, [], 0), (36, .getfield 59, 21, [4, 6], 0), (39, .iload_n 3, 22, [], 0), (40, .invokevirtual 93, 23, [63, 2], 0), (43, .if_icmp .gt (28), 24, [37], 0), (46, .aload_n 0, 25, [], 0), (47, .iload_n 2, 26, [], 0), (48, .iload_n 3, 27, [], 0), (49, .iload 4, 28, [], 0), (51, .invokevirtual 102, 29, [86, 4], 0), (54, .ifCond .eq (11), 30, [35], 0), (57, .aload_n 0, 31, [], 0), (58, .iload_n 2, 32, [], 0), (59, .iload_n 3, 33, [], 0), (60, .iload 4, 34, [], 0), (62, .invokevirtual 149, 35, [95, 4], 0), (65, .iinc 4 1, 36, [], 0), (68, .goto (-35), 37, [18], 0), (71, .iinc 3 1, 38, [], 0), (74, .goto (-55), 39, [11], 0), (77, .iinc 2 (-1), 40, [], 0), (80, .goto (-67), 41, [7], 0), (83, .iconst 0, 42, [], 0), (84, .istore_n 2, 43, [], 0), (85, .iload_n 2, 44, [], 0), (86, .iconst 2, 45, [], 0), (87, .if_icmp .ge (29), 46, [59], 0), (90, .aload_n 0, 47, [], 0), (91, .getfield 36, 48, [4, 9], 0), (94, .iload_n 2, 49, [], 0), (95, .iaload, 50, [], 0), (96, .ldc 152, 51, [], 1000000), (98, .if_icmp .eq (12), 52, [57], 0), (101, .aload_n 0, 53, [], 0), (102, .iload_n 2, 54, [], 0), (103, .invokevirtual 153, 55, [99, 2], 0), (106, .aload_n 0, 56, [], 0), (107, .invokevirtual 156, 57, [100, 1], 0), (110, .iinc 2 1, 58, [], 0), (113, .goto (-28), 59, [43], 0), (116, .return_, 60, [], 0)])
def mm4_weigh : am_M := (⟨"AddressGrammar$Search", "weigh", "(III)V"⟩, prog_6_method_14_code, 10, none, [(0, .iload_n 1, 1, [], 0), (1, .iload_n 2, 2, [], 0), (2, .iload_n 3, 3, [], 0), (3, .invokestatic 85, 4, [85, 3], 0), (6, .istore 4, 5, [], 0), (8, .iload 4, 6, [], 0), (10, .ifCond .lt (11), 7, [10], 0), (13, .iload 4, 8, [], 0), (15, .sipush 420, 9, [], 0), (18, .if_icmp .lt (4), 10, [11], 0), (21, .return_, 11, [], 0), (22, .aload_n 0, 12, [], 0), (23, .getfield 36, 13, [4, 9], 0), (26, .iload 4, 14, [], 0), (28, .iconst 2, 15, [], 0), (29, .imul, 16, [], 0), (30, .ldc 152, 17, [], 1000000), (32, .iastore, 18, [], 0), (33, .aload_n 0, 19, [], 0), (34, .getfield 36, 20, [4, 9], 0), (37, .iload 4, 21, [], 0), (39, .iconst 2, 22, [], 0), (40, .imul, 23, [], 0), (41, .iconst 1, 24, [], 0), (42, .iadd, 25, [], 0), (43, .ldc 152, 26, [], 1000000), (45, .iastore, 27, [], 0), (46, .iload_n 1, 28, [], 0), (47, .aload_n 0, 29, [], 0), (48, .getfield 55, 30, [4, 5], 0), (51, .getfield 70, 31, [1, 0], 0), (54, .if_icmp .ne (30), 32, [47], 0), (57, .aload_n 0, 33, [], 0), (58, .getfield 36, 34, [4, 9], 0), (61, .iload 4, 35, [], 0), (63, .iconst 2, 36, [], 0), (64, .imul, 37, [], 0), (65, .iload_n 2, 38, [], 0), (66, .aload_n 0, 39, [], 0), (67, .getfield 59, 40, [4, 6], 0), (70, .getfield 99, 41, [2, 0], 0), (73, .if_icmp .ne (7), 42, [44], 0), (76, .iconst 0, 43, [], 0), (77, .goto (5), 44, [45], 0), (80, .ldc 152, 45, [], 1000000), (82, .iastore, 46, [], 0), (83, .return_, 47, [], 0), (84, .aload_n 0, 48, [], 0), (85, .getfield 55, 49, [4, 5], 0), (88, .iload_n 1, 50, [], 0), (89, .invokevirtual 119, 51, [57, 2], 0), (92, .istore 5, 52, [], 0), (94, .aload_n 0, 53, [], 0), (95, .getfield 59, 54, [4, 6], 0), (98, .iload_n 2, 55, [], 0), (99, .iload_n 3, 56, [], 0), (100, .invokevirtual 138, 57, [64, 3], 0), (103, .istore 6, 58, [], 0), (105, .iconst 0, 59, [], 0), (106, .istore 7, 60, [], 0), (108, .iload 7, 61, [], 0), (110, .iload 6, 62, [], 0), (112, .if_icmp .ge (95), 63, [111], 0), (115, .aload_n 0, 64, [], 0), (116, .getfield 59, 65, [4, 6], 0), (119, .iload_n 2, 66, [], 0), (120, .iload_n 3, 67, [], 0), (121, .iload 7, 68, [], 0), (123, .invokevirtual 141, 69, [67, 4], 0), (126, .iload 5, 70, [], 0), (128, .if_icmp .ne (73), 71, [109], 0), (131, .aload_n 0, 72, [], 0), (132, .getfield 59, 73, [4, 6], 0), (135, .iload_n 2, 74, [], 0), (136, .iload_n 3, 75, [], 0), (137, .iload 7, 76, [], 0), (139, .invokevirtual 143, 77, [68, 4], 0), (142, .istore 8, 78, [], 0), (144, .iload 5, 79, [], 0), (146, .bipush 7, 80, [], 0), (148, .if_icmp .ne (12), 81, [85], 0), (151, .iload 8, 82, [], 0), (153, .aload_n 0, 83, [], 0), (154, .getfield 52, 84, [4, 14], 0), (157, .if_icmp .ne (44), 85, [109], 0), (160, .aload_n 0, 86, [], 0), (161, .getfield 59, 87, [4, 6], 0), (164, .iload_n 2, 88, [], 0), (165, .iload_n 3, 89, [], 0), (166, .iload 7, 90, [], 0), (168, .invokevirtual 159, 91, [69, 4], 0), (171, .aload_n 0, 92, [], 0), (172, .iload 5, 93, [], 0), (174, .iload 8, 94, [], 0), (176, .invokevirtual 162, 95, [96, 3], 0), (179, .iadd, 96, [], 0), (180, .istore 9, 97, [], 0), (182, .aload_n 0, 98, [], 0), (183, .iload 4, 99, [], 0), (185, .iload 7, 100, [], 0), (187, .iload 9, 101, [], 0), (189, .aload_n 0, 102, [], 0), (190, .iload_n 1, 103, [], 0), (191, .iload_n 2, 104, [], 0), (192, .iload_n 3, 105, [], 0), (193, .iconst 1, 106, [], 0), (194, .iadd, 107, [], 0), (195, .invokevirtual 113, 108, [87, 4], 0), (198, .invokevirtual 165, 109, [97, 5], 0), (201, .iinc 7 1, 110, [], 0), (204, .goto (-96), 111, [60], 0), (207, .aload_n 0, 112, [], 0), (208, .getfield 55, 113, [4, 5], 0), (211, .iload_n 1, 114, [], 0), (212, .invokevirtual 110, 115, [58, 2], 0), (215, .istore 7, 116, [], 0), (217, .iload 7, 117, [], 0), (219, .iconst (-1), 118, [], 0), (220, .if_icmp .eq (34), 119, [136], 0), (223, .iload 5, 120, [], 0), (225, .bipush 7, 121, [], 0), (227, .if_icmp .ne (11), 122, [126], 0), (230, .aload_n 0, 123, [], 0), (231, .getfield 52, 124, [4, 14], 0), (234, .iconst (-1), 125, [], 0), (235, .if_icmp .ne (19), 126, [136], 0), (238, .aload_n 0, 127, [], 0), (239, .iload 4, 128, [], 0), (241, .iconst 4, 129, [], 0), (242, .iload 7, 130, [], 0), (244, .aload_n 0, 131, [], 0), (245, .iload_n 1, 132, [], 0), (246, .iload_n 2, 133, [], 0), (247, .iload_n 3, 134, [], 0), (248, .invokevirtual 113, 135, [87, 4], 0), (251, .invokevirtual 165, 136, [97, 5], 0), (254, .return_, 137, [], 0)])
def mm4_misfitCost : am_M := (⟨"AddressGrammar$Search", "misfitCost", "(II)I"⟩, prog_6_method_15_code, 3, (some (.int)), [(0, .aload_n 0, 1, [], 0), (1, .getfield 52, 2, [4, 14], 0), (4, .iconst (-1), 3, [], 0), (5, .if_icmp .eq (14), 4, [10], 0), (8, .iload_n 1, 5, [], 0), (9, .iconst 2, 6, [], 0), (10, .if_icmp .eq (11), 7, [12], 0), (13, .iload_n 1, 8, [], 0), (14, .bipush 6, 9, [], 0), (16, .if_icmp .eq (5), 10, [12], 0), (19, .iconst 0, 11, [], 0), (20, .ireturn, 12, [], 0), (21, .aload_n 0, 13, [], 0), (22, .getfield 63, 14, [4, 7], 0), (25, .iload_n 1, 15, [], 0), (26, .iload_n 2, 16, [], 0), (27, .aload_n 0, 17, [], 0), (28, .getfield 52, 18, [4, 14], 0), (31, .invokevirtual 169, 19, [73, 4], 0), (34, .ifCond .eq (7), 20, [22], 0), (37, .iconst 0, 21, [], 0), (38, .goto (5), 22, [23], 0), (41, .bipush 100, 23, [], 0), (43, .ireturn, 24, [], 0)])
def mm4_offer : am_M := (⟨"AddressGrammar$Search", "offer", "(IIII)V"⟩, prog_6_method_16_code, 7, none, [(0, .iload 4, 1, [], 0), (2, .ifCond .lt (11), 2, [5], 0), (5, .iload 4, 3, [], 0), (7, .sipush 420, 4, [], 0), (10, .if_icmp .lt (4), 5, [6], 0), (13, .return_, 6, [], 0), (14, .iconst 0, 7, [], 0), (15, .istore 5, 8, [], 0), (17, .iload 5, 9, [], 0), (19, .iconst 2, 10, [], 0), (20, .if_icmp .ge (42), 11, [33], 0), (23, .aload_n 0, 12, [], 0), (24, .getfield 36, 13, [4, 9], 0), (27, .iload 4, 14, [], 0), (29, .iconst 2, 15, [], 0), (30, .imul, 16, [], 0), (31, .iload 5, 17, [], 0), (33, .iadd, 18, [], 0), (34, .iaload, 19, [], 0), (35, .istore 6, 20, [], 0), (37, .iload 6, 21, [], 0), (39, .ldc 152, 22, [], 1000000), (41, .if_icmp .eq (15), 23, [31], 0), (44, .aload_n 0, 24, [], 0), (45, .iload_n 1, 25, [], 0), (46, .iload_n 2, 26, [], 0), (47, .iload_n 3, 27, [], 0), (48, .iload 6, 28, [], 0), (50, .iadd, 29, [], 0), (51, .iload 5, 30, [], 0), (53, .invokevirtual 174, 31, [98, 5], 0), (56, .iinc 5 1, 32, [], 0), (59, .goto (-42), 33, [8], 0), (62, .return_, 34, [], 0)])
def mm4_keep : am_M := (⟨"AddressGrammar$Search", "keep", "(IIII)V"⟩, prog_6_method_17_code, 7, none, [(0, .iload_n 1, 1, [], 0), (1, .ifCond .lt (10), 2, [5], 0), (4, .iload_n 1, 3, [], 0), (5, .sipush 420, 4, [], 0), (8, .if_icmp .lt (4), 5, [6], 0), (11, .return_, 6, [], 0), (12, .iload_n 1, 7, [], 0), (13, .iconst 2, 8, [], 0), (14, .imul, 9, [], 0), (15, .istore 5, 10, [], 0), (17, .iload 5, 11, [], 0), (19, .iconst 1, 12, [], 0), (20, .iadd, 13, [], 0), (21, .istore 6, 14, [], 0), (23, .iload_n 3, 15, [], 0), (24, .aload_n 0, 16, [], 0), (25, .getfield 36, 17, [4, 9], 0), (28, .iload 5, 18, [], 0), (30, .iaload, 19, [], 0), (31, .if_icmp .ge (73), 20, [60], 0), (34, .aload_n 0, 21, [], 0), (35, .getfield 36, 22, [4, 9], 0), (38, .iload 6, 23, [], 0), (40, .aload_n 0, 24, [], 0), (41, .getfield 36, 25, [4, 9], 0), (44, .iload 5, 26, [], 0), (46, .iaload, 27, [], 0), (47, .iastore, 28, [], 0), (48, .aload_n 0, 29, [], 0), (49, .getfield 40, 30, [4, 10], 0), (52, .iload 6, 31, [], 0), (54, .aload_n 0, 32, [], 0), (55, .getfield 40, 33, [4, 10], 0), (58, .iload 5, 34, [], 0), (60, .iaload, 35, [], 0), (61, .iastore, 36, [], 0), (62, .aload_n 0, 37, [], 0), (63, .getfield 43, 38, [4, 11], 0), (66, .iload 6, 39, [], 0), (68, .aload_n 0, 40, [], 0), (69, .getfield 43, 41, [4, 11], 0), (72, .iload 5, 42, [], 0), (74, .iaload, 43, [], 0), (75, .iastore, 44, [], 0), (76, .aload_n 0, 45, [], 0), (77, .getfield 36, 46, [4, 9], 0), (80, .iload 5, 47, [], 0), (82, .iload_n 3, 48, [], 0), (83, .iastore, 49, [], 0), (84, .aload_n 0, 50, [], 0), (85, .getfield 40, 51, [4, 10], 0), (88, .iload 5, 52, [], 0), (90, .iload_n 2, 53, [], 0), (91, .iastore, 54, [], 0), (92, .aload_n 0, 55, [], 0), (93, .getfield 43, 56, [4, 11], 0), (96, .iload 5, 57, [], 0), (98, .iload 4, 58, [], 0), (100, .iastore, 59, [], 0), (101, .goto (39), 60, [81], 0), (104, .iload_n 3, 61, [], 0), (105, .aload_n 0, 62, [], 0), (106, .getfield 36, 63, [4, 9], 0), (109, .iload 6, 64, [], 0), (111, .iaload, 65, [], 0), (112, .if_icmp .ge (28), 66, [81], 0), (115, .aload_n 0, 67, [], 0), (116, .getfield 36, 68, [4, 9], 0), (119, .iload 6, 69, [], 0), (121, .iload_n 3, 70, [], 0), (122, .iastore, 71, [], 0), (123, .aload_n 0, 72, [], 0), (124, .getfield 40, 73, [4, 10], 0), (127, .iload 6, 74, [], 0), (129, .iload_n 2, 75, [], 0), (130, .iastore, 76, [], 0), (131, .aload_n 0, 77, [], 0), (132, .getfield 43, 78, [4, 11], 0), (135, .iload 6, 79, [], 0), (137, .iload 4, 80, [], 0), (139, .iastore, 81, [], 0), (140, .return_, 82, [], 0)])
def mm4_trace : am_M := (⟨"AddressGrammar$Search", "trace", "(I)V"⟩, prog_6_method_18_code, 8, none, [(0, .iload_n 1, 1, [], 0), (1, .ifCond .lt (8), 2, [5], 0), (4, .iload_n 1, 3, [], 0), (5, .iconst 2, 4, [], 0), (6, .if_icmp .lt (4), 5, [6], 0), (9, .return_, 6, [], 0), (10, .aload_n 0, 7, [], 0), (11, .getfield 25, 8, [4, 3], 0), (14, .aload_n 0, 9, [], 0), (15, .getfield 36, 10, [4, 9], 0), (18, .iload_n 1, 11, [], 0), (19, .iaload, 12, [], 0), (20, .invokevirtual 177, 13, [77, 2], 0), (23, .iload_n 1, 14, [], 0), (24, .istore_n 2, 15, [], 0), (25, .iconst 0, 16, [], 0), (26, .istore_n 3, 17, [], 0), (27, .iconst 0, 18, [], 0), (28, .istore 4, 19, [], 0), (30, .iconst 0, 20, [], 0), (31, .istore 5, 21, [], 0), (33, .iload 5, 22, [], 0), (35, .aload_n 0, 23, [], 0), (36, .getfield 55, 24, [4, 5], 0), (39, .getfield 70, 25, [1, 0], 0), (42, .if_icmp .ge (126), 26, [89], 0), (45, .iload_n 2, 27, [], 0), (46, .ifCond .lt (122), 28, [89], 0), (49, .iload_n 2, 29, [], 0), (50, .aload_n 0, 30, [], 0), (51, .getfield 40, 31, [4, 10], 0), (54, .arraylength, 32, [], 0), (55, .if_icmp .ge (113), 33, [89], 0), (58, .aload_n 0, 34, [], 0), (59, .getfield 40, 35, [4, 10], 0), (62, .iload_n 2, 36, [], 0), (63, .iaload, 37, [], 0), (64, .istore 6, 38, [], 0), (66, .aload_n 0, 39, [], 0), (67, .getfield 43, 40, [4, 11], 0), (70, .iload_n 2, 41, [], 0), (71, .iaload, 42, [], 0), (72, .istore 7, 43, [], 0), (74, .aload_n 0, 44, [], 0), (75, .getfield 25, 45, [4, 3], 0), (78, .iload 6, 46, [], 0), (80, .invokevirtual 180, 47, [78, 2], 0), (83, .iload 6, 48, [], 0), (85, .iconst 4, 49, [], 0), (86, .if_icmp .eq (37), 50, [66], 0), (89, .aload_n 0, 51, [], 0), (90, .getfield 25, 52, [4, 3], 0), (93, .aload_n 0, 53, [], 0), (94, .getfield 55, 54, [4, 5], 0), (97, .iload 5, 55, [], 0), (99, .invokevirtual 119, 56, [57, 2], 0), (102, .iload_n 3, 57, [], 0), (103, .iload 4, 58, [], 0), (105, .aload_n 0, 59, [], 0), (106, .getfield 59, 60, [4, 6], 0), (109, .iload_n 3, 61, [], 0), (110, .iload 4, 62, [], 0), (112, .iload 6, 63, [], 0), (114, .invokevirtual 143, 64, [68, 4], 0), (117, .invokevirtual 183, 65, [79, 5], 0), (120, .iinc 4 1, 66, [], 0), (123, .aload_n 0, 67, [], 0), (124, .getfield 55, 68, [4, 5], 0), (127, .iload 5, 69, [], 0), (129, .invokevirtual 89, 70, [59, 2], 0), (132, .ifCond .eq (14), 71, [76], 0), (135, .iload 4, 72, [], 0), (137, .ifCond .le (9), 73, [76], 0), (140, .iinc 3 1, 74, [], 0), (143, .iconst 0, 75, [], 0), (144, .istore 4, 76, [], 0), (146, .iload 5, 77, [], 0), (148, .iconst 1, 78, [], 0), (149, .iadd, 79, [], 0), (150, .iload_n 3, 80, [], 0), (151, .iload 4, 81, [], 0), (153, .invokestatic 85, 82, [85, 3], 0), (156, .iconst 2, 83, [], 0), (157, .imul, 84, [], 0), (158, .iload 7, 85, [], 0), (160, .iadd, 86, [], 0), (161, .istore_n 2, 87, [], 0), (162, .iinc 5 1, 88, [], 0), (165, .goto (-132), 89, [21], 0), (168, .return_, 90, [], 0)])
def mm4_admitCandidate : am_M := (⟨"AddressGrammar$Search", "admitCandidate", "()V"⟩, prog_6_method_19_code, 2, none, [(0, .aload_n 0, 1, [], 0), (1, .getfield 14, 2, [4, 0], 0), (4, .getfield 186, 3, [5, 0], 0), (7, .iconst (-1), 4, [], 0), (8, .if_icmp .eq (17), 5, [11], 0), (11, .aload_n 0, 6, [], 0), (12, .getfield 25, 7, [4, 3], 0), (15, .aload_n 0, 8, [], 0), (16, .getfield 14, 9, [4, 0], 0), (19, .invokevirtual 187, 10, [81, 2], 0), (22, .ifCond .eq (32), 11, [26], 0), (25, .aload_n 0, 12, [], 0), (26, .getfield 18, 13, [4, 1], 0), (29, .astore_n 1, 14, [], 0), (30, .aload_n 0, 15, [], 0), (31, .aload_n 0, 16, [], 0), (32, .getfield 14, 17, [4, 0], 0), (35, .putfield 18, 18, [4, 1], 0), (38, .aload_n 0, 19, [], 0), (39, .aload_n 0, 20, [], 0), (40, .getfield 25, 21, [4, 3], 0), (43, .putfield 14, 22, [4, 0], 0), (46, .aload_n 0, 23, [], 0), (47, .aload_n 1, 24, [], 0), (48, .putfield 25, 25, [4, 3], 0), (51, .goto (46), 26, [47], 0), (54, .aload_n 0, 27, [], 0), (55, .getfield 18, 28, [4, 1], 0), (58, .getfield 186, 29, [5, 0], 0), (61, .iconst (-1), 30, [], 0), (62, .if_icmp .eq (17), 31, [37], 0), (65, .aload_n 0, 32, [], 0), (66, .getfield 25, 33, [4, 3], 0), (69, .aload_n 0, 34, [], 0), (70, .getfield 18, 35, [4, 1], 0), (73, .invokevirtual 187, 36, [81, 2], 0), (76, .ifCond .eq (21), 37, [47], 0), (79, .aload_n 0, 38, [], 0), (80, .getfield 18, 39, [4, 1], 0), (83, .astore_n 1, 40, [], 0), (84, .aload_n 0, 41, [], 0), (85, .aload_n 0, 42, [], 0), (86, .getfield 25, 43, [4, 3], 0), (89, .putfield 18, 44, [4, 1], 0), (92, .aload_n 0, 45, [], 0), (93, .aload_n 1, 46, [], 0), (94, .putfield 25, 47, [4, 3], 0), (97, .return_, 48, [], 0)])
def mj_length : am_M := (⟨"java/lang/String", "length", "()I"⟩, prog_14_method_54_code, 1, (some (.int)), [])
def mj_charAt : am_M := (⟨"java/lang/String", "charAt", "(I)C"⟩, prog_14_method_56_code, 2, (some (.char)), [])
def mj_indexOf : am_M := (⟨"java/lang/String", "indexOf", "(I)I"⟩, prog_14_method_79_code, 2, (some (.int)), [])
def am_mt : List am_M := [mm0_init, mm0_sign, mm0_read, mm0_wrong, mm0_word, mm0_clear, mm0_fits, mm0_derive, mm0_part, mm0_sum, mm0_furthest, mm0_print, mm0_at, mm0_isNoRank, mm0_readingOf, mm0_putPart, mm0_put, mm6_init, mm6_thrown, mm6_sign, mm6_letter, mm6_newKind, mm6_fault, mm6_read, mm6_wrong, mm6_word, mm6_clear, mm6_isFit, mm6_fits, mm6_alternative, mm6_can, mm6_goes, mm6_valueOf, mm6_extra, mm6_keep, mm6_look, mm6_isRank, mm6_there, mm6_derive, mm6_sum, mm6_again, mm6_part, mm6_takes, mm6_mayMiss, mm6_furthest, mm6_put, mm6_print, mm6_at, mm1_init, mm1_fill, mm1_empty, mm1_become, mm1_take, mm1_takeRowEnd, mm1_takeMark, mm1_takeDigit, mm1_takePart, mm1_kindOf, mm1_missingCost, mm1_endsRow, mm1_partOfKind, mm2_init, mm2_removeAll, mm2_placesIn, mm2_alternativesAt, mm2_isBehindNext, mm2_add, mm2_kindOf, mm2_valueOf, mm2_costOf, mm2_hasKind, mm2_slotOf, mm3_init, mm3_holds, mm3_add, mm5_init, mm5_drop, mm5_begin, mm5_choose, mm5_addPart, mm5_fact, mm5_isBefore, mm4_init, mm4_forget, mm4_find, mm4_stateOf, mm4_isReached, mm4_stateBehind, mm4_reachAll, mm4_reachFrom, mm4_reach, mm4_listPlaceValues, mm4_listPlaceValuesAt, mm4_listPlaceValue, mm4_assume, mm4_weigh, mm4_misfitCost, mm4_offer, mm4_keep, mm4_trace, mm4_admitCandidate, mj_length, mj_charAt, mj_indexOf]
def am_mc : List Nat := [0, 0, 0, 0, 0, 0, 0, 0, 0, 0, 0, 0, 0, 0, 0, 0, 0, 6, 6, 6, 6, 6, 6, 6, 6, 6, 6, 6, 6, 6, 6, 6, 6, 6, 6, 6, 6, 6, 6, 6, 6, 6, 6, 6, 6, 6, 6, 6, 1, 1, 1, 1, 1, 1, 1, 1, 1, 1, 1, 1, 1, 2, 2, 2, 2, 2, 2, 2, 2, 2, 2, 2, 3, 3, 3, 5, 5, 5, 5, 5, 5, 5, 4, 4, 4, 4, 4, 4, 4, 4, 4, 4, 4, 4, 4, 4, 4, 4, 4, 4, 4, 99, 99, 99]
end
section
/-! WHAT THE SMALL MACHINE SAYS OF THE LARGE ONE -/
def am_v (ad : Nat → Nat) : am_V → Value
  | .inl x => .int (Int32.ofInt x)
  | .inr (.inl y) => .long (Int64.ofInt y)
  | .inr (.inr none) => .null
  | .inr (.inr (some k)) => .ref (ad k)
def am_ln : Instr → Nat
  | .bipush _ => 2
  | .ldc _ => 2
  | .iload _ => 2
  | .lload _ => 2
  | .aload _ => 2
  | .istore _ => 2
  | .astore _ => 2
  | .newarray _ => 2
  | .sipush _ => 3
  | .ldc2_w _ => 3
  | .getfield _ => 3
  | .getstatic _ => 3
  | .putfield _ => 3
  | .invokevirtual _ => 3
  | .invokespecial _ => 3
  | .invokestatic _ => 3
  | .new _ => 3
  | .goto _ => 3
  | .ifCond _ _ => 3
  | .if_icmp _ _ => 3
  | .iinc _ _ => 3
  | _ => 1
def am_pcd (M : am_M) (i : Nat) : Nat := match am_at M.2.2.2.2 i with
  | some e => e.1
  | none => 0
def am_fty (ci j : Nat) : Option FieldType := match am_at classes ci with
  | some q => parseFieldDescriptor (q.2.1 j).2.2.1
  | none => none
def am_tb : List Cond := lw_tbl.filter goodWord
def am_isin (w : Cond) : Bool := decide (w ∈ lw_tbl) && goodWord w
theorem am_in_tb {w : Cond} (h : am_isin w = true) : w ∈ am_tb := by
  simp only [am_isin, Bool.and_eq_true, decide_eq_true_eq] at h
  exact List.mem_filter.mpr h
theorem am_tb_good {w : Cond} (h : w ∈ am_tb) : (w.onTables && w.keeps) = true ∨ ∃ ty, w = .arrayClass ty := by
  have h2 := (List.mem_filter.mp h).2
  unfold goodWord at h2
  split at h2
  · exact Or.inr ⟨_, rfl⟩
  · exact Or.inl h2
/-- a callee's parameters, its room -/
def am_sig (M' : am_M) (b na : Nat) : Bool := decide ((parseMethodDescriptor M'.1.desc).map (fun d => d.parameters.length + b) = some na) && decide (M'.1.cls ≠ "java/lang/invoke/MethodHandle") && decide (M'.1.cls ≠ "java/lang/invoke/VarHandle") && decide (M'.2.2.1 ≤ 16)
/-- what the tables say of an instruction's link -/
def am_lk (M : am_M) (ins : Instr) (xs : List Nat) (kk : Int) : Bool := match ins with
  | .ldc idx => match xs with
    | [] => am_isin (Cond.constant M.1.cls idx (Int32.ofInt kk))
    | [q] => decide ((M.1.cls, idx, q) ∈ am_strs)
    | _ => false
  | .ldc2_w idx => am_isin (Cond.constantLong M.1.cls idx (Int64.ofInt kk))
  | .lconst n => decide ((n.val : Int) = kk)
  | .getfield idx => match xs with
    | [ci, j] => match am_at classes ci with
      | some q => decide (j < q.2.2) && decide ((q.2.1 j).1 = q.1) && am_isin (Cond.fieldLink M.1.cls idx q.1 (q.2.1 j).2.1 (q.2.1 j).2.2.1)
      | none => false
    | [] => true
    | _ => false
  | .putfield idx => match xs with
    | [ci, j] => match am_at classes ci with
      | some q => decide (j < q.2.2) && decide ((q.2.1 j).1 = q.1) && am_isin (Cond.fieldLink M.1.cls idx q.1 (q.2.1 j).2.1 (q.2.1 j).2.2.1) && ((q.2.1 j).2.2.2 == false || (decide (M.1.name = "<init>") && decide (q.1 = M.1.cls)))
      | none => false
    | _ => false
  | .newarray ty => match xs with
    | [0] => decide (ty = .int)
    | [1] => decide (ty = .char)
    | [2] => decide (ty = .boolean)
    | _ => false
  | .new idx => match xs with
    | [ci] => match am_at classes ci with
      | some q => am_isin (Cond.classLink M.1.cls idx q.1) && am_isin (Cond.instantiable q.1 q.2.2) && am_isin (Cond.initialized q.1)
      | none => false
    | _ => true
  | .invokespecial idx => match xs with
    | [] => am_isin (Cond.methodLink M.1.cls idx objectInit)
    | [mno, na] => match am_at am_mt mno with
      | some M' => am_isin (Cond.methodLink M.1.cls idx M'.1) && am_isin (Cond.instanceMethod M'.1) && am_isin (Cond.initialized M'.1.cls) && decide (M'.1.name = "<init>") && decide (M'.2.2.2.1 = none) && am_sig M' 1 na
      | none => false
    | [mno, na, _] => match am_at am_mt mno with
      | some M' => decide ((M.1.cls, idx, M'.1, "AddressGrammar") ∈ am_nest) && am_isin (Cond.instanceMethod M'.1) && am_isin (Cond.initialized M'.1.cls) && decide (M'.1.name = "<init>") && decide (M'.2.2.2.1 = none) && am_sig M' 1 na
      | none => false
    | _ => true
  | .invokevirtual idx => match xs with
    | [mno, na] => match am_at am_mt mno with
      | some M' => am_isin (Cond.methodLink M.1.cls idx M'.1) && am_isin (Cond.instanceMethod M'.1) && am_isin (Cond.selects M'.1.cls M'.1 M'.1) && am_isin (Cond.initialized M'.1.cls) && am_sig M' 1 na
      | none => false
    | _ => true
  | .invokestatic idx => match xs with
    | [] => am_isin (Cond.methodLink M.1.cls idx Lib.Math.max.name)
    | [mno, na] => match am_at am_mt mno with
      | some M' => am_isin (Cond.methodLink M.1.cls idx M'.1) && am_isin (Cond.static M'.1) && am_isin (Cond.initialized M.1.cls) && decide (M'.1.cls = M.1.cls) && am_sig M' 0 na
      | none => false
    | _ => true
  | _ => true
def am_off : Instr → Option Int
  | .goto o => some o
  | .ifCond _ o => some o
  | .if_icmp _ o => some o
  | _ => none
def am_end : Instr → Bool
  | .goto _ => true
  | .ireturn => true
  | .lreturn => true
  | .areturn => true
  | .return_ => true
  | .athrow => true
  | .tableswitch _ _ _ _ => true
  | _ => false
def am_oke (M : am_M) (e : am_I) : Bool := match e with
  | (pc, ins, nx, xs, kk) => (match ins with
      | .tableswitch _ _ _ _ => decide (decode M.2.1 pc = .ok (ins, kk.toNat))
      | _ => decide (decode M.2.1 pc = .ok (ins, am_ln ins))) && (am_end ins || decide (am_pcd M nx = pc + am_ln ins)) && (match am_off ins, xs with
      | some o, [t] => decide ((pc : Int) + o = (am_pcd M t : Int))
      | some _, _ => false
      | none, _ => true) && am_lk M ins xs kk
def am_okM (M : am_M) : Prop := ∀ (i : Nat) (e : am_I), am_at M.2.2.2.2 i = some e → am_oke M e = true
theorem am_okM_of {M : am_M} (h : M.2.2.2.2.all (am_oke M) = true) : am_okM M := by
  intro i e he
  rw [am_at_eq] at he
  exact List.all_eq_true.mp h e (List.mem_of_getElem? he)
/-- the world's cells -/
def am_f (ad : Nat → Nat) (σ : am_H) (c j kd : Nat) : Value := if kd = 1 then am_v ad (.inr (.inr (σ.2.2.2 c j))) else .int (Int32.ofInt (σ.2.1 c j))
def am_fs (ad : Nat → Nat) (σ : am_H) (c : Nat) (ks : List Nat) : List Value := ks.mapIdx (fun j kd => am_f ad σ c j kd)
def am_c (ad : Nat → Nat) (tc : Nat → ClassId) (σ : am_H) (c : Nat) : Nat × va_E := match am_at am_sh c with
  | some (.inl (t, n)) => (ad c, .inl (tc t, n, .inl (fun j => Int32.ofInt (σ.2.2.1 c (j : Int)))))
  | some (.inr ci) => (ad c, .inr (ci, am_fs ad σ c ((am_at am_ks ci).getD [])))
  | none => (ad c, .inr (0, []))
def am_w (ad : Nat → Nat) (tc : Nat → ClassId) (σ : am_H) : va_W := (List.range σ.1).map (am_c ad tc σ)
theorem am_w_at {ad : Nat → Nat} {tc : Nat → ClassId} {σ : am_H} {c : Nat} (h : c < σ.1) : (am_w ad tc σ)[c]? = some (am_c ad tc σ c) := by
  simp [am_w, h]
theorem am_w_len {ad : Nat → Nat} {tc : Nat → ClassId} {σ : am_H} : (am_w ad tc σ).length = σ.1 := by simp [am_w]
abbrev am_tys (tc : Nat → ClassId) : List (ClassId × FieldType) := [(tc 0, .int), (tc 1, .char), (tc 2, .boolean)]
def am_vf (n : Nat) : am_V → Prop
  | .inl x => -2147483648 ≤ x ∧ x ≤ 2147483647
  | .inr (.inl y) => -9223372036854775808 ≤ y ∧ y ≤ 9223372036854775807
  | .inr (.inr o) => ∀ k, o = some k → k < n ∨ 1000 ≤ k
def am_hf (σ : am_H) : Prop := σ.1 ≤ 1000 ∧ ∀ c, c < σ.1 → (∀ j, -2147483648 ≤ σ.2.1 c j ∧ σ.2.1 c j ≤ 2147483647) ∧ (∀ j, -2147483648 ≤ σ.2.2.1 c j ∧ σ.2.2.1 c j ≤ 2147483647) ∧ ∀ j k, σ.2.2.2 c j = some k → k < σ.1
def am_lh (ad : Nat → Nat) (ls : Array Slot) (nL : Nat) (lv : am_L) : Prop := ls.size = nL ∧ lv_wf ls ∧ lv.length ≤ nL ∧ ∀ i v, am_get lv i = some v → ls[i]? = some (.val (am_v ad v))
def am_pl (ad : Nat → Nat) (lv : am_L) : List (Nat × Value) := (List.range lv.length).filterMap (fun i => (am_get lv i).map (fun v => (i, am_v ad v)))
theorem am_get_lt {lv : am_L} : ∀ {i : Nat} {v : am_V}, am_get lv i = some v → i < lv.length := by
  induction lv with
  | nil => intro i v h; simp [am_get] at h
  | cons o l ih =>
    intro i v h
    cases i with
    | zero => simp
    | succ i => have := ih (i := i) (v := v) h; simp; omega
theorem am_lh.has {ad : Nat → Nat} {ls : Array Slot} {nL : Nat} {lv : am_L} (h : am_lh ad ls nL lv) : lv_has ls nL (am_pl ad lv) := by
  refine ⟨h.1, h.2.1, fun q hq => ?_⟩
  obtain ⟨i, -, hi⟩ := List.mem_filterMap.mp hq
  cases hg : am_get lv i with
  | none => rw [hg] at hi; simp at hi
  | some v =>
    rw [hg] at hi
    simp at hi
    rw [← hi]
    exact h.2.2.2 i v hg
theorem am_pl_mem {ad : Nat → Nat} {lv : am_L} {i : Nat} {v : am_V} (h : am_get lv i = some v) : (i, am_v ad v) ∈ am_pl ad lv :=
  List.mem_filterMap.mpr ⟨i, List.mem_range.mpr (am_get_lt h), by rw [h]; rfl⟩
theorem am_sto_spec : ∀ {lv : am_L} {i : Nat} {v : am_V} {lv' : am_L}, am_sto lv i v = some lv' → i < lv.length ∧ lv'.length = lv.length ∧ (∀ j, am_get lv' j = if j = i then some v else am_get lv j) ∧ ∀ j y, j + 1 = i → am_get lv j ≠ some (.inr (.inl y)) := by
  intro lv
  induction lv with
  | nil => intro i v lv' h; simp [am_sto] at h
  | cons o l ih =>
    intro i v lv' h
    cases i with
    | zero =>
      simp only [am_sto, Option.some.injEq] at h
      subst h
      refine ⟨by simp, by simp, fun j => ?_, fun j y hj => by omega⟩
      cases j with
      | zero => simp [am_get]
      | succ j => simp [am_get]
    | succ i =>
      have main : ∀ l', am_sto l i v = some l' → (∀ y, i = 0 → o ≠ some (.inr (.inl y))) → lv' = o :: l' → (i + 1 < (o :: l).length ∧ lv'.length = (o :: l).length ∧ (∀ j, am_get lv' j = if j = i + 1 then some v else am_get (o :: l) j) ∧ ∀ j y, j + 1 = i + 1 → am_get (o :: l) j ≠ some (.inr (.inl y))) := by
        intro l' h1 h2 h3
        obtain ⟨a1, a2, a3, a4⟩ := ih h1
        subst h3
        exact (show i + 1 < (o :: l).length ∧ (o :: l').length = (o :: l).length ∧ (∀ j, am_get (o :: l') j = if j = i + 1 then some v else am_get (o :: l) j) ∧ ∀ j y, j + 1 = i + 1 → am_get (o :: l) j ≠ some (.inr (.inl y)) from
          ⟨by simp; omega, by simp; omega, fun j => by
            cases j with
            | zero => simp [am_get]
            | succ j => simp [am_get, a3 j], fun j y hj => by
            cases j with
            | zero => exact h2 y (by omega)
            | succ j => exact a4 j y (by omega)⟩)
      unfold am_sto at h
      split at h
      · cases h
      · rename_i hno
        cases hs : am_sto l i v with
        | none => rw [hs] at h; simp at h
        | some l' =>
          rw [hs] at h
          simp only [Option.some.injEq] at h
          refine main l' hs (fun y hi ho => ?_) h.symm
          subst hi
          subst ho
          exact hno y rfl rfl
theorem am_cat (ad : Nat → Nat) (v : am_V) : (am_v ad v).category = 2 ↔ ∃ y, v = .inr (.inl y) := by
  rcases v with x | y | k
  · simp [am_v, Value.category]
  · simp [am_v, Value.category]
  · cases k <;> simp [am_v, Value.category]
/-- a store's new list is what the large machine keeps -/
theorem am_lh.sto {ad : Nat → Nat} {ls' : Array Slot} {nL i : Nat} {lv lv' : am_L} {v : am_V} (hn : lv.length ≤ nL) (hs : am_sto lv i v = some lv')
    (h : lv_has ls' nL ((i, am_v ad v) :: (am_pl ad lv).filter (fun q => !(q.1 == i) && !(q.1 + 1 == i && q.2.category == 2)))) : am_lh ad ls' nL lv' := by
  obtain ⟨h1, h2, h3, h4⟩ := am_sto_spec hs
  refine ⟨h.1, h.2.1, by omega, fun j w hj => ?_⟩
  rw [h3 j] at hj
  by_cases e : j = i
  · rw [if_pos e] at hj
    cases hj
    subst e
    exact h.2.2 (j, am_v ad v) List.mem_cons_self
  · rw [if_neg e] at hj
    refine h.2.2 (j, am_v ad w) (List.mem_cons_of_mem _ (List.mem_filter.mpr ⟨am_pl_mem hj, ?_⟩))
    simp only [Bool.and_eq_true, Bool.not_eq_true', beq_eq_false_iff_ne, ne_eq, Bool.and_eq_false_iff]
    refine ⟨e, ?_⟩
    by_cases e2 : j + 1 = i
    · right
      intro hc
      obtain ⟨y, hy⟩ := (am_cat ad w).mp (by simpa using hc)
      exact h4 j y e2 (by rw [hj, hy])
    · left
      exact e2
/-! numbers -/
theorem am_ti {x : Int} (h : -2147483648 ≤ x ∧ x ≤ 2147483647) : (Int32.ofInt x).toInt = x := Int32.toInt_ofInt_of_le (by omega) (by omega)
theorem am_tl {x : Int} (h : -9223372036854775808 ≤ x ∧ x ≤ 9223372036854775807) : (Int64.ofInt x).toInt = x := Int64.toInt_ofInt_of_le (by omega) (by omega)
theorem am_lt {x y : Int} (hx : -2147483648 ≤ x ∧ x ≤ 2147483647) (hy : -2147483648 ≤ y ∧ y ≤ 2147483647) : Int32.ofInt x < Int32.ofInt y ↔ x < y := by
  rw [Int32.lt_iff_toInt_lt, am_ti hx, am_ti hy]
theorem am_le {x y : Int} (hx : -2147483648 ≤ x ∧ x ≤ 2147483647) (hy : -2147483648 ≤ y ∧ y ≤ 2147483647) : Int32.ofInt x ≤ Int32.ofInt y ↔ x ≤ y := by
  rw [Int32.le_iff_toInt_le, am_ti hx, am_ti hy]
theorem am_eq {x y : Int} (hx : -2147483648 ≤ x ∧ x ≤ 2147483647) (hy : -2147483648 ≤ y ∧ y ≤ 2147483647) : Int32.ofInt x = Int32.ofInt y ↔ x = y := by
  rw [← Int32.toInt_inj, am_ti hx, am_ti hy]
theorem am_lt0 {x : Int} (hx : -2147483648 ≤ x ∧ x ≤ 2147483647) : Int32.ofInt x < 0 ↔ x < 0 := am_lt hx (y := 0) (by omega)
theorem am_0lt {x : Int} (hx : -2147483648 ≤ x ∧ x ≤ 2147483647) : 0 < Int32.ofInt x ↔ 0 < x := am_lt (x := 0) (by omega) hx
theorem am_le0 {x : Int} (hx : -2147483648 ≤ x ∧ x ≤ 2147483647) : Int32.ofInt x ≤ 0 ↔ x ≤ 0 := am_le hx (y := 0) (by omega)
theorem am_0le {x : Int} (hx : -2147483648 ≤ x ∧ x ≤ 2147483647) : 0 ≤ Int32.ofInt x ↔ 0 ≤ x := am_le (x := 0) (by omega) hx
theorem am_eq0 {x : Int} (hx : -2147483648 ≤ x ∧ x ≤ 2147483647) : Int32.ofInt x = 0 ↔ x = 0 := am_eq hx (y := 0) (by omega)
theorem am_cl {x : Int} (hx : -2147483648 ≤ x ∧ x ≤ 2147483647) : (Int32.ofInt x).toNatClampNeg = x.toNat := by
  show (Int32.ofInt x).toInt.toNat = x.toNat
  rw [am_ti hx]
theorem am_in {x : Int} {n : Nat} (hx : -2147483648 ≤ x ∧ x ≤ 2147483647) (h : 0 ≤ x ∧ x < (n : Int)) : vp_in (Int32.ofInt x) n := vp_in_iff.mpr (by rw [am_ti hx]; exact h)
theorem am_nI (a : Nat) : Int32.ofInt (a : Int) = nI a := rfl
theorem am_div {x y : Int} (hx : -2147483648 ≤ x ∧ x ≤ 2147483647) (hy : -2147483648 ≤ y ∧ y ≤ 2147483647) (h : 0 ≤ x ∧ 0 < y) : Int32.ofInt x / Int32.ofInt y = Int32.ofInt (x / y) := by
  obtain ⟨a, rfl⟩ := Int.eq_ofNat_of_zero_le h.1
  obtain ⟨b, rfl⟩ := Int.eq_ofNat_of_zero_le (Int.le_of_lt h.2)
  exact pk_div (a := a) (d := b) (by omega) (by omega) (by omega)
theorem am_rem {x y : Int} (hx : -2147483648 ≤ x ∧ x ≤ 2147483647) (hy : -2147483648 ≤ y ∧ y ≤ 2147483647) (h : 0 ≤ x ∧ 0 < y) : Int32.ofInt x - Int32.ofInt x / Int32.ofInt y * Int32.ofInt y = Int32.ofInt (x % y) := by
  obtain ⟨a, rfl⟩ := Int.eq_ofNat_of_zero_le h.1
  obtain ⟨b, rfl⟩ := Int.eq_ofNat_of_zero_le (Int.le_of_lt h.2)
  exact pk_rem (a := a) (d := b) (by omega) (by omega) (by omega)
theorem am_rng (z : Int32) : -2147483648 ≤ z.toInt ∧ z.toInt ≤ 2147483647 := by
  have h1 := Int32.le_toInt z
  have h2 := Int32.toInt_lt z
  omega
theorem am_oti (z : Int32) : Int32.ofInt z.toInt = z := Int32.ofInt_toInt z
theorem am_divr {x y : Int} (hx : -2147483648 ≤ x ∧ x ≤ 2147483647) (h : 0 ≤ x ∧ 0 < y) : -2147483648 ≤ x / y ∧ x / y ≤ 2147483647 := by
  have h1 : 0 ≤ x / y := Int.ediv_nonneg h.1 (Int.le_of_lt h.2)
  have h2 : x / y ≤ x := Int.ediv_le_self y h.1
  omega
theorem am_remr {x y : Int} (hy : -2147483648 ≤ y ∧ y ≤ 2147483647) (h : 0 ≤ x ∧ 0 < y) : -2147483648 ≤ x % y ∧ x % y ≤ 2147483647 := by
  have h1 : 0 ≤ x % y := Int.emod_nonneg x (by omega)
  have h2 : x % y < y := Int.emod_lt_of_pos x h.2
  omega
end
section
theorem nW0 : ∀ w ∈ u_ws nR0 nT0 10, w ∈ am_tb := fun w h => am_in_tb ((by decide +kernel : ∀ w ∈ u_ws nR0 nT0 10, am_isin w = true) w h)
theorem nW1 : ∀ w ∈ u_ws nR1 nT1 8, w ∈ am_tb := fun w h => am_in_tb ((by decide +kernel : ∀ w ∈ u_ws nR1 nT1 8, am_isin w = true) w h)
theorem nW2 : ∀ w ∈ u_ws nR2 nT2 6, w ∈ am_tb := fun w h => am_in_tb ((by decide +kernel : ∀ w ∈ u_ws nR2 nT2 6, am_isin w = true) w h)
theorem nW3 : ∀ w ∈ u_ws nR3 nT3 4, w ∈ am_tb := fun w h => am_in_tb ((by decide +kernel : ∀ w ∈ u_ws nR3 nT3 4, am_isin w = true) w h)
theorem nW4 : ∀ w ∈ u_ws nR4 nT4 15, w ∈ am_tb := fun w h => am_in_tb ((by decide +kernel : ∀ w ∈ u_ws nR4 nT4 15, am_isin w = true) w h)
theorem nW5 : ∀ w ∈ u_ws nR5 nT5 5, w ∈ am_tb := fun w h => am_in_tb ((by decide +kernel : ∀ w ∈ u_ws nR5 nT5 5, am_isin w = true) w h)
theorem nW6 : ∀ w ∈ u_ws nR6 nT6 30, w ∈ am_tb := fun w h => am_in_tb ((by decide +kernel : ∀ w ∈ u_ws nR6 nT6 30, am_isin w = true) w h)
theorem am_Tk : ∀ ci, ci < 7 → ∀ k, k < ((am_at am_ks ci).getD []).length → am_tyk (((am_at am_ks ci).getD []).getD k 9) (am_ty ci k) = true := by decide +kernel
theorem am_Tc : ∀ (ci : Nat) (q : vw_C), am_at classes ci = some q → (∀ w ∈ u_ws q.1 q.2.1 q.2.2, w ∈ am_tb) ∧ (∃ ks, am_at am_ks ci = some ks ∧ ks.length = q.2.2 ∧ ∀ k kd, ks[k]? = some kd → am_tyk kd (am_ty ci k) = true) ∧ (∀ k, k < q.2.2 → parseFieldDescriptor (q.2.1 k).2.2.1 = some (am_ty ci k)) ∧ (∀ a, a < q.2.2 → ∀ b, b < q.2.2 → a ≠ b → (q.2.1 a).2.1 ≠ (q.2.1 b).2.1) := by
  have key : ∀ ci, ci < 7 → ∀ ks, am_at am_ks ci = some ks → ∀ k kd, ks[k]? = some kd → am_tyk kd (am_ty ci k) = true := by
    intro ci hci ks hks k kd hk
    have hl : k < ks.length := (List.getElem?_eq_some_iff.mp hk).1
    have h := am_Tk ci hci k (by rw [hks]; exact hl)
    rw [hks, Option.getD_some, List.getD_eq_getElem?_getD, hk, Option.getD_some] at h
    exact h
  intro ci q h
  match ci, h with
  | 0, h =>
    cases (show some (nR0, nT0, 10) = some q from h)
    exact ⟨nW0, ⟨_, rfl, rfl, key 0 (by decide) _ rfl⟩, nP0, nN0⟩
  | 1, h =>
    cases (show some (nR1, nT1, 8) = some q from h)
    exact ⟨nW1, ⟨_, rfl, rfl, key 1 (by decide) _ rfl⟩, nP1, nN1⟩
  | 2, h =>
    cases (show some (nR2, nT2, 6) = some q from h)
    exact ⟨nW2, ⟨_, rfl, rfl, key 2 (by decide) _ rfl⟩, nP2, nN2⟩
  | 3, h =>
    cases (show some (nR3, nT3, 4) = some q from h)
    exact ⟨nW3, ⟨_, rfl, rfl, key 3 (by decide) _ rfl⟩, nP3, nN3⟩
  | 4, h =>
    cases (show some (nR4, nT4, 15) = some q from h)
    exact ⟨nW4, ⟨_, rfl, rfl, key 4 (by decide) _ rfl⟩, nP4, nN4⟩
  | 5, h =>
    cases (show some (nR5, nT5, 5) = some q from h)
    exact ⟨nW5, ⟨_, rfl, rfl, key 5 (by decide) _ rfl⟩, nP5, nN5⟩
  | 6, h =>
    cases (show some (nR6, nT6, 30) = some q from h)
    exact ⟨nW6, ⟨_, rfl, rfl, key 6 (by decide) _ rfl⟩, nP6, nN6⟩
  | ci + 7, h => exact absurd (show none = some q from h) (by simp)
theorem am_Tall {P : (Nat × Nat) ⊕ Nat → Prop} (h : ∀ e ∈ am_sh, P e) {x : Nat} {e : (Nat × Nat) ⊕ Nat} (he : am_at am_sh x = some e) : P e := by
  rw [am_at_eq] at he
  exact h e (List.mem_of_getElem? he)
def am_shk (e : (Nat × Nat) ⊕ Nat) : Bool := match e with
  | .inl (t, n) => decide (t < 3) && decide (n ≤ 1000)
  | .inr _ => true
theorem am_Tshk : am_sh.all am_shk = true := by decide +kernel
theorem am_Tsh : ∀ x t len, am_at am_sh x = some (.inl (t, len)) → t < 3 := by
  intro x t len h
  have := am_Tall (P := fun e => am_shk e = true) (fun e he => List.all_eq_true.mp am_Tshk e he) h
  simp only [am_shk, Bool.and_eq_true, decide_eq_true_eq] at this
  exact this.1
theorem am_Tlen : ∀ x t len, am_at am_sh x = some (.inl (t, len)) → len ≤ 1000 := by
  intro x t len h
  have := am_Tall (P := fun e => am_shk e = true) (fun e he => List.all_eq_true.mp am_Tshk e he) h
  simp only [am_shk, Bool.and_eq_true, decide_eq_true_eq] at this
  exact this.2
theorem am_Tsh1 : ∀ x e, am_at am_sh x = some e → x < 1000 := by
  intro x e h
  rw [am_at_eq] at h
  have h1 := (List.getElem?_eq_some_iff.mp h).1
  have h2 : am_sh.length ≤ 1000 := by decide +kernel
  omega
theorem am_Tarr : Cond.arrayClass .int ∈ am_tb ∧ Cond.arrayClass .char ∈ am_tb ∧ Cond.arrayClass .boolean ∈ am_tb := ⟨am_in_tb (by decide +kernel), am_in_tb (by decide +kernel), am_in_tb (by decide +kernel)⟩
set_option maxRecDepth 100000 in
theorem am_Tmax : Cond.static Lib.Math.max.name ∈ am_tb ∧ Cond.initialized "java/lang/Math" ∈ am_tb ∧ Cond.code Lib.Math.max.name Lib.Math.max.code 2 (some .int) ∈ am_tb := ⟨am_in_tb (by decide +kernel), am_in_tb (by decide +kernel), List.mem_filter.mpr ⟨List.mem_of_getElem? (i := 299) rfl, rfl⟩⟩
set_option maxRecDepth 100000 in
theorem am_Tobj : Cond.instanceMethod objectInit ∈ am_tb ∧ Cond.code objectInit ⟨#[0xb1]⟩ 1 none ∈ am_tb := ⟨am_in_tb (by decide +kernel), List.mem_filter.mpr ⟨List.mem_of_getElem? (i := 66) rfl, rfl⟩⟩
set_option maxRecDepth 100000 in
theorem am_Tcode : ∀ (j : Nat) (M' : am_M), am_at am_mt j = some M' → Cond.code M'.1 M'.2.1 M'.2.2.1 M'.2.2.2.1 ∈ am_tb := by
  intro j M' h
  match j, h with
  | 0, h =>
    cases (show some mm0_init = some M' from h)
    exact List.mem_filter.mpr ⟨List.mem_of_getElem? (i := 63) rfl, rfl⟩
  | 1, h =>
    cases (show some mm0_sign = some M' from h)
    exact List.mem_filter.mpr ⟨List.mem_of_getElem? (i := 264) rfl, rfl⟩
  | 2, h =>
    cases (show some mm0_read = some M' from h)
    exact List.mem_filter.mpr ⟨List.mem_of_getElem? (i := 545) rfl, rfl⟩
  | 3, h =>
    cases (show some mm0_wrong = some M' from h)
    exact List.mem_filter.mpr ⟨List.mem_of_getElem? (i := 268) rfl, rfl⟩
  | 4, h =>
    cases (show some mm0_word = some M' from h)
    exact List.mem_filter.mpr ⟨List.mem_of_getElem? (i := 272) rfl, rfl⟩
  | 5, h =>
    cases (show some mm0_clear = some M' from h)
    exact List.mem_filter.mpr ⟨List.mem_of_getElem? (i := 303) rfl, rfl⟩
  | 6, h =>
    cases (show some mm0_fits = some M' from h)
    exact List.mem_filter.mpr ⟨List.mem_of_getElem? (i := 311) rfl, rfl⟩
  | 7, h =>
    cases (show some mm0_derive = some M' from h)
    exact List.mem_filter.mpr ⟨List.mem_of_getElem? (i := 323) rfl, rfl⟩
  | 8, h =>
    cases (show some mm0_part = some M' from h)
    exact List.mem_filter.mpr ⟨List.mem_of_getElem? (i := 458) rfl, rfl⟩
  | 9, h =>
    cases (show some mm0_sum = some M' from h)
    exact List.mem_filter.mpr ⟨List.mem_of_getElem? (i := 466) rfl, rfl⟩
  | 10, h =>
    cases (show some mm0_furthest = some M' from h)
    exact List.mem_filter.mpr ⟨List.mem_of_getElem? (i := 471) rfl, rfl⟩
  | 11, h =>
    cases (show some mm0_print = some M' from h)
    exact List.mem_filter.mpr ⟨List.mem_of_getElem? (i := 475) rfl, rfl⟩
  | 12, h =>
    cases (show some mm0_at = some M' from h)
    exact List.mem_filter.mpr ⟨List.mem_of_getElem? (i := 537) rfl, rfl⟩
  | 13, h =>
    cases (show some mm0_isNoRank = some M' from h)
    exact List.mem_filter.mpr ⟨List.mem_of_getElem? (i := 326) rfl, rfl⟩
  | 14, h =>
    cases (show some mm0_readingOf = some M' from h)
    exact List.mem_filter.mpr ⟨List.mem_of_getElem? (i := 330) rfl, rfl⟩
  | 15, h =>
    cases (show some mm0_putPart = some M' from h)
    exact List.mem_filter.mpr ⟨List.mem_of_getElem? (i := 479) rfl, rfl⟩
  | 16, h =>
    cases (show some mm0_put = some M' from h)
    exact List.mem_filter.mpr ⟨List.mem_of_getElem? (i := 532) rfl, rfl⟩
  | 17, h =>
    cases (show some mm6_init = some M' from h)
    exact List.mem_filter.mpr ⟨List.mem_of_getElem? (i := 705) rfl, rfl⟩
  | 18, h =>
    cases (show some mm6_thrown = some M' from h)
    exact List.mem_filter.mpr ⟨List.mem_of_getElem? (i := 801) rfl, rfl⟩
  | 19, h =>
    cases (show some mm6_sign = some M' from h)
    exact List.mem_filter.mpr ⟨List.mem_of_getElem? (i := 805) rfl, rfl⟩
  | 20, h =>
    cases (show some mm6_letter = some M' from h)
    exact List.mem_filter.mpr ⟨List.mem_of_getElem? (i := 820) rfl, rfl⟩
  | 21, h =>
    cases (show some mm6_newKind = some M' from h)
    exact List.mem_filter.mpr ⟨List.mem_of_getElem? (i := 817) rfl, rfl⟩
  | 22, h =>
    cases (show some mm6_fault = some M' from h)
    exact List.mem_filter.mpr ⟨List.mem_of_getElem? (i := 813) rfl, rfl⟩
  | 23, h =>
    cases (show some mm6_read = some M' from h)
    exact List.mem_filter.mpr ⟨List.mem_of_getElem? (i := 809) rfl, rfl⟩
  | 24, h =>
    cases (show some mm6_wrong = some M' from h)
    exact List.mem_filter.mpr ⟨List.mem_of_getElem? (i := 824) rfl, rfl⟩
  | 25, h =>
    cases (show some mm6_word = some M' from h)
    exact List.mem_filter.mpr ⟨List.mem_of_getElem? (i := 828) rfl, rfl⟩
  | 26, h =>
    cases (show some mm6_clear = some M' from h)
    exact List.mem_filter.mpr ⟨List.mem_of_getElem? (i := 833) rfl, rfl⟩
  | 27, h =>
    cases (show some mm6_isFit = some M' from h)
    exact List.mem_filter.mpr ⟨List.mem_of_getElem? (i := 841) rfl, rfl⟩
  | 28, h =>
    cases (show some mm6_fits = some M' from h)
    exact List.mem_filter.mpr ⟨List.mem_of_getElem? (i := 837) rfl, rfl⟩
  | 29, h =>
    cases (show some mm6_alternative = some M' from h)
    exact List.mem_filter.mpr ⟨List.mem_of_getElem? (i := 861) rfl, rfl⟩
  | 30, h =>
    cases (show some mm6_can = some M' from h)
    exact List.mem_filter.mpr ⟨List.mem_of_getElem? (i := 857) rfl, rfl⟩
  | 31, h =>
    cases (show some mm6_goes = some M' from h)
    exact List.mem_filter.mpr ⟨List.mem_of_getElem? (i := 865) rfl, rfl⟩
  | 32, h =>
    cases (show some mm6_valueOf = some M' from h)
    exact List.mem_filter.mpr ⟨List.mem_of_getElem? (i := 877) rfl, rfl⟩
  | 33, h =>
    cases (show some mm6_extra = some M' from h)
    exact List.mem_filter.mpr ⟨List.mem_of_getElem? (i := 873) rfl, rfl⟩
  | 34, h =>
    cases (show some mm6_keep = some M' from h)
    exact List.mem_filter.mpr ⟨List.mem_of_getElem? (i := 869) rfl, rfl⟩
  | 35, h =>
    cases (show some mm6_look = some M' from h)
    exact List.mem_filter.mpr ⟨List.mem_of_getElem? (i := 853) rfl, rfl⟩
  | 36, h =>
    cases (show some mm6_isRank = some M' from h)
    exact List.mem_filter.mpr ⟨List.mem_of_getElem? (i := 849) rfl, rfl⟩
  | 37, h =>
    cases (show some mm6_there = some M' from h)
    exact List.mem_filter.mpr ⟨List.mem_of_getElem? (i := 881) rfl, rfl⟩
  | 38, h =>
    cases (show some mm6_derive = some M' from h)
    exact List.mem_filter.mpr ⟨List.mem_of_getElem? (i := 845) rfl, rfl⟩
  | 39, h =>
    cases (show some mm6_sum = some M' from h)
    exact List.mem_filter.mpr ⟨List.mem_of_getElem? (i := 885) rfl, rfl⟩
  | 40, h =>
    cases (show some mm6_again = some M' from h)
    exact List.mem_filter.mpr ⟨List.mem_of_getElem? (i := 895) rfl, rfl⟩
  | 41, h =>
    cases (show some mm6_part = some M' from h)
    exact List.mem_filter.mpr ⟨List.mem_of_getElem? (i := 891) rfl, rfl⟩
  | 42, h =>
    cases (show some mm6_takes = some M' from h)
    exact List.mem_filter.mpr ⟨List.mem_of_getElem? (i := 907) rfl, rfl⟩
  | 43, h =>
    cases (show some mm6_mayMiss = some M' from h)
    exact List.mem_filter.mpr ⟨List.mem_of_getElem? (i := 903) rfl, rfl⟩
  | 44, h =>
    cases (show some mm6_furthest = some M' from h)
    exact List.mem_filter.mpr ⟨List.mem_of_getElem? (i := 899) rfl, rfl⟩
  | 45, h =>
    cases (show some mm6_put = some M' from h)
    exact List.mem_filter.mpr ⟨List.mem_of_getElem? (i := 915) rfl, rfl⟩
  | 46, h =>
    cases (show some mm6_print = some M' from h)
    exact List.mem_filter.mpr ⟨List.mem_of_getElem? (i := 911) rfl, rfl⟩
  | 47, h =>
    cases (show some mm6_at = some M' from h)
    exact List.mem_filter.mpr ⟨List.mem_of_getElem? (i := 919) rfl, rfl⟩
  | 48, h =>
    cases (show some mm1_init = some M' from h)
    exact List.mem_filter.mpr ⟨List.mem_of_getElem? (i := 71) rfl, rfl⟩
  | 49, h =>
    cases (show some mm1_fill = some M' from h)
    exact List.mem_filter.mpr ⟨List.mem_of_getElem? (i := 549) rfl, rfl⟩
  | 50, h =>
    cases (show some mm1_empty = some M' from h)
    exact List.mem_filter.mpr ⟨List.mem_of_getElem? (i := 553) rfl, rfl⟩
  | 51, h =>
    cases (show some mm1_become = some M' from h)
    exact List.mem_filter.mpr ⟨List.mem_of_getElem? (i := 700) rfl, rfl⟩
  | 52, h =>
    cases (show some mm1_take = some M' from h)
    exact List.mem_filter.mpr ⟨List.mem_of_getElem? (i := 557) rfl, rfl⟩
  | 53, h =>
    cases (show some mm1_takeRowEnd = some M' from h)
    exact List.mem_filter.mpr ⟨List.mem_of_getElem? (i := 561) rfl, rfl⟩
  | 54, h =>
    cases (show some mm1_takeMark = some M' from h)
    exact List.mem_filter.mpr ⟨List.mem_of_getElem? (i := 565) rfl, rfl⟩
  | 55, h =>
    cases (show some mm1_takeDigit = some M' from h)
    exact List.mem_filter.mpr ⟨List.mem_of_getElem? (i := 569) rfl, rfl⟩
  | 56, h =>
    cases (show some mm1_takePart = some M' from h)
    exact List.mem_filter.mpr ⟨List.mem_of_getElem? (i := 631) rfl, rfl⟩
  | 57, h =>
    cases (show some mm1_kindOf = some M' from h)
    exact List.mem_filter.mpr ⟨List.mem_of_getElem? (i := 375) rfl, rfl⟩
  | 58, h =>
    cases (show some mm1_missingCost = some M' from h)
    exact List.mem_filter.mpr ⟨List.mem_of_getElem? (i := 358) rfl, rfl⟩
  | 59, h =>
    cases (show some mm1_endsRow = some M' from h)
    exact List.mem_filter.mpr ⟨List.mem_of_getElem? (i := 366) rfl, rfl⟩
  | 60, h =>
    cases (show some mm1_partOfKind = some M' from h)
    exact List.mem_filter.mpr ⟨List.mem_of_getElem? (i := 387) rfl, rfl⟩
  | 61, h =>
    cases (show some mm2_init = some M' from h)
    exact List.mem_filter.mpr ⟨List.mem_of_getElem? (i := 108) rfl, rfl⟩
  | 62, h =>
    cases (show some mm2_removeAll = some M' from h)
    exact List.mem_filter.mpr ⟨List.mem_of_getElem? (i := 307) rfl, rfl⟩
  | 63, h =>
    cases (show some mm2_placesIn = some M' from h)
    exact List.mem_filter.mpr ⟨List.mem_of_getElem? (i := 281) rfl, rfl⟩
  | 64, h =>
    cases (show some mm2_alternativesAt = some M' from h)
    exact List.mem_filter.mpr ⟨List.mem_of_getElem? (i := 293) rfl, rfl⟩
  | 65, h =>
    cases (show some mm2_isBehindNext = some M' from h)
    exact List.mem_filter.mpr ⟨List.mem_of_getElem? (i := 277) rfl, rfl⟩
  | 66, h =>
    cases (show some mm2_add = some M' from h)
    exact List.mem_filter.mpr ⟨List.mem_of_getElem? (i := 289) rfl, rfl⟩
  | 67, h =>
    cases (show some mm2_kindOf = some M' from h)
    exact List.mem_filter.mpr ⟨List.mem_of_getElem? (i := 396) rfl, rfl⟩
  | 68, h =>
    cases (show some mm2_valueOf = some M' from h)
    exact List.mem_filter.mpr ⟨List.mem_of_getElem? (i := 400) rfl, rfl⟩
  | 69, h =>
    cases (show some mm2_costOf = some M' from h)
    exact List.mem_filter.mpr ⟨List.mem_of_getElem? (i := 417) rfl, rfl⟩
  | 70, h =>
    cases (show some mm2_hasKind = some M' from h)
    exact List.mem_filter.mpr ⟨List.mem_of_getElem? (i := 379) rfl, rfl⟩
  | 71, h =>
    cases (show some mm2_slotOf = some M' from h)
    exact List.mem_filter.mpr ⟨List.mem_of_getElem? (i := 296) rfl, rfl⟩
  | 72, h =>
    cases (show some mm3_init = some M' from h)
    exact List.mem_filter.mpr ⟨List.mem_of_getElem? (i := 135) rfl, rfl⟩
  | 73, h =>
    cases (show some mm3_holds = some M' from h)
    exact List.mem_filter.mpr ⟨List.mem_of_getElem? (i := 319) rfl, rfl⟩
  | 74, h =>
    cases (show some mm3_add = some M' from h)
    exact List.mem_filter.mpr ⟨List.mem_of_getElem? (i := 315) rfl, rfl⟩
  | 75, h =>
    cases (show some mm5_init = some M' from h)
    exact List.mem_filter.mpr ⟨List.mem_of_getElem? (i := 160) rfl, rfl⟩
  | 76, h =>
    cases (show some mm5_drop = some M' from h)
    exact List.mem_filter.mpr ⟨List.mem_of_getElem? (i := 338) rfl, rfl⟩
  | 77, h =>
    cases (show some mm5_begin = some M' from h)
    exact List.mem_filter.mpr ⟨List.mem_of_getElem? (i := 438) rfl, rfl⟩
  | 78, h =>
    cases (show some mm5_choose = some M' from h)
    exact List.mem_filter.mpr ⟨List.mem_of_getElem? (i := 442) rfl, rfl⟩
  | 79, h =>
    cases (show some mm5_addPart = some M' from h)
    exact List.mem_filter.mpr ⟨List.mem_of_getElem? (i := 446) rfl, rfl⟩
  | 80, h =>
    cases (show some mm5_fact = some M' from h)
    exact List.mem_filter.mpr ⟨List.mem_of_getElem? (i := 462) rfl, rfl⟩
  | 81, h =>
    cases (show some mm5_isBefore = some M' from h)
    exact List.mem_filter.mpr ⟨List.mem_of_getElem? (i := 454) rfl, rfl⟩
  | 82, h =>
    cases (show some mm4_init = some M' from h)
    exact List.mem_filter.mpr ⟨List.mem_of_getElem? (i := 154) rfl, rfl⟩
  | 83, h =>
    cases (show some mm4_forget = some M' from h)
    exact List.mem_filter.mpr ⟨List.mem_of_getElem? (i := 285) rfl, rfl⟩
  | 84, h =>
    cases (show some mm4_find = some M' from h)
    exact List.mem_filter.mpr ⟨List.mem_of_getElem? (i := 334) rfl, rfl⟩
  | 85, h =>
    cases (show some mm4_stateOf = some M' from h)
    exact List.mem_filter.mpr ⟨List.mem_of_getElem? (i := 350) rfl, rfl⟩
  | 86, h =>
    cases (show some mm4_isReached = some M' from h)
    exact List.mem_filter.mpr ⟨List.mem_of_getElem? (i := 347) rfl, rfl⟩
  | 87, h =>
    cases (show some mm4_stateBehind = some M' from h)
    exact List.mem_filter.mpr ⟨List.mem_of_getElem? (i := 362) rfl, rfl⟩
  | 88, h =>
    cases (show some mm4_reachAll = some M' from h)
    exact List.mem_filter.mpr ⟨List.mem_of_getElem? (i := 342) rfl, rfl⟩
  | 89, h =>
    cases (show some mm4_reachFrom = some M' from h)
    exact List.mem_filter.mpr ⟨List.mem_of_getElem? (i := 354) rfl, rfl⟩
  | 90, h =>
    cases (show some mm4_reach = some M' from h)
    exact List.mem_filter.mpr ⟨List.mem_of_getElem? (i := 370) rfl, rfl⟩
  | 91, h =>
    cases (show some mm4_listPlaceValues = some M' from h)
    exact List.mem_filter.mpr ⟨List.mem_of_getElem? (i := 383) rfl, rfl⟩
  | 92, h =>
    cases (show some mm4_listPlaceValuesAt = some M' from h)
    exact List.mem_filter.mpr ⟨List.mem_of_getElem? (i := 391) rfl, rfl⟩
  | 93, h =>
    cases (show some mm4_listPlaceValue = some M' from h)
    exact List.mem_filter.mpr ⟨List.mem_of_getElem? (i := 404) rfl, rfl⟩
  | 94, h =>
    cases (show some mm4_assume = some M' from h)
    exact List.mem_filter.mpr ⟨List.mem_of_getElem? (i := 408) rfl, rfl⟩
  | 95, h =>
    cases (show some mm4_weigh = some M' from h)
    exact List.mem_filter.mpr ⟨List.mem_of_getElem? (i := 412) rfl, rfl⟩
  | 96, h =>
    cases (show some mm4_misfitCost = some M' from h)
    exact List.mem_filter.mpr ⟨List.mem_of_getElem? (i := 421) rfl, rfl⟩
  | 97, h =>
    cases (show some mm4_offer = some M' from h)
    exact List.mem_filter.mpr ⟨List.mem_of_getElem? (i := 426) rfl, rfl⟩
  | 98, h =>
    cases (show some mm4_keep = some M' from h)
    exact List.mem_filter.mpr ⟨List.mem_of_getElem? (i := 430) rfl, rfl⟩
  | 99, h =>
    cases (show some mm4_trace = some M' from h)
    exact List.mem_filter.mpr ⟨List.mem_of_getElem? (i := 434) rfl, rfl⟩
  | 100, h =>
    cases (show some mm4_admitCandidate = some M' from h)
    exact List.mem_filter.mpr ⟨List.mem_of_getElem? (i := 450) rfl, rfl⟩
  | 101, h =>
    cases (show some mj_length = some M' from h)
    exact List.mem_filter.mpr ⟨List.mem_of_getElem? (i := 484) rfl, rfl⟩
  | 102, h =>
    cases (show some mj_charAt = some M' from h)
    exact List.mem_filter.mpr ⟨List.mem_of_getElem? (i := 494) rfl, rfl⟩
  | 103, h =>
    cases (show some mj_indexOf = some M' from h)
    exact List.mem_filter.mpr ⟨List.mem_of_getElem? (i := 574) rfl, rfl⟩
  | j + 104, h => exact absurd (show none = some M' from h) (by simp)
def am_mck (j : Nat) : Bool := match am_at am_mt j, am_at am_mc j with
  | some M', some ci => match am_at classes ci with
    | some q => decide (q.1 = M'.1.cls)
    | none => true
  | _, _ => true
theorem am_Tmc0 : ∀ j, j < 104 → am_mck j = true := by decide +kernel
theorem am_Tmc2 : ∀ ci, ci < 7 → (am_at classes ci).isSome = true := by decide +kernel
theorem am_Tsh2 : am_sh.all (fun e => match e with | .inl _ => true | .inr ci => decide (ci < 7)) = true := by decide +kernel
theorem am_Tmc : ∀ (j : Nat) (M' : am_M) (ci c : Nat), am_at am_mt j = some M' → am_at am_mc j = some ci → am_at am_sh c = some (.inr ci) → ∃ q, am_at classes ci = some q ∧ q.1 = M'.1.cls := by
  intro j M' ci c hm hmc hsh
  have hci := am_Tall (P := fun e => (match e with | .inl _ => true | .inr ci => decide (ci < 7)) = true) (fun e he => List.all_eq_true.mp am_Tsh2 e he) hsh
  have hci : ci < 7 := by simpa using hci
  have h1 := am_Tmc2 ci hci
  cases hq : am_at classes ci with
  | none => rw [hq] at h1; simp at h1
  | some q =>
    refine ⟨q, rfl, ?_⟩
    have hj : j < 104 := by
      rw [am_at_eq] at hm
      have := (List.getElem?_eq_some_iff.mp hm).1
      have h2 : am_mt.length = 104 := by rfl
      omega
    have h3 := am_Tmc0 j hj
    simp only [am_mck, hm, hmc, hq, decide_eq_true_eq] at h3
    exact h3
end
section
def am_slen : List Nat := [9, 22]
def am_sbyt : List (List Int32) := [[78, 70, 83, 72, 88, 66, 67, 80, 76], [116, 104, 101, 32, 116, 101, 120, 116, 32, 105, 115, 32, 110, 111, 116, 32, 97, 32, 102, 111, 114, 109]]
def am_refst : List (String × String × String) := [("java/lang/Throwable", "UNASSIGNED_STACK", "[Ljava/lang/StackTraceElement;"), ("java/lang/Throwable", "SUPPRESSED_SENTINEL", "Ljava/util/List;"), ("jdk/internal/util/Preconditions", "SIOOBE_FORMATTER", "Ljava/util/function/BiFunction;")]
/-- what stays as it was at the start: links across the nest, String constants, statics -/
def am_Z (ad0 : Nat → Nat) (A : Nat → Prop) (U : State) : Prop :=
  (∀ q ∈ am_nest, va_Nw (.methodLinkNest q.1 q.2.1 q.2.2.1 q.2.2.2) U) ∧ (∀ q ∈ am_strs, vk_R q.1 q.2.1 (am_texts.getD q.2.2 "") (ad0 (1000 + q.2.2)) U) ∧
  vk_S 2 am_slen am_sbyt (fun i => ad0 (1000 + i)) (fun i => ad0 (2000 + i)) A U U.heap ∧ va_Z "java/lang/String" "COMPACT_STRINGS" "Z" (.int 1) A U U.heap ∧
  ∀ q ∈ am_refst, ∃ o : Option Nat, (∀ k, o = some k → 1000 ≤ k) ∧ va_Z q.1 q.2.1 q.2.2 (am_v ad0 (.inr (.inr o))) A U U.heap
theorem am_Z.call {ad0 ad : Nat → Nat} {A A1 : Nat → Prop} {s U : State} {H : Heap} {locs : List Loc} (h : am_Z ad0 A s) (hS : va_S A s.heap H locs) (hA : ∀ q, A1 q → A q) (had : ∀ k, 1000 ≤ k → ad k = ad0 k) (hU : U.heap = H) (hW : s.WarmedH U.vm) : am_Z ad A1 U := by
  obtain ⟨h1, h2, h3, h4, h5⟩ := h
  have e1 : (fun i => ad (1000 + i)) = (fun i => ad0 (1000 + i)) := by
    funext i
    exact had _ (by omega)
  have e2 : (fun i => ad (2000 + i)) = (fun i => ad0 (2000 + i)) := by
    funext i
    exact had _ (by omega)
  refine ⟨fun q hq => va_Nw.warmM hW (h1 q hq), fun q hq => ?_, ?_, ?_, fun q hq => ?_⟩
  · rw [had _ (by omega)]
    exact vk_R.warm hW (h2 q hq)
  · rw [e1, e2, hU]
    exact ((h3.moved hW.alike).kept hS.2.1).narrow hA
  · rw [hU]
    exact ((h4.moved hW.alike).kept hS.2.1).narrow hA
  · obtain ⟨o, hv, hz⟩ := h5 q hq
    refine ⟨o, hv, ?_⟩
    have e3 : am_v ad (.inr (.inr o)) = am_v ad0 (.inr (.inr o)) := by
      cases o with
      | none => rfl
      | some k => show Value.ref (ad k) = Value.ref (ad0 k); rw [had k (hv k rfl)]
    rw [hU, e3]
    exact ((hz.moved hW.alike).kept hS.2.1).narrow hA
theorem am_Z.blind {ad : Nat → Nat} {A : Nat → Prop} {U : State} {g : JFrame} {mk : MethodId} {a : Array Value} (h : am_Z ad A U) : am_Z ad A (U.calling g mk a) := by
  obtain ⟨h1, h2, h3, h4, h5⟩ := h
  refine ⟨fun q hq => va_Nw.same rfl rfl (h1 q hq), fun q hq => vk_R.same rfl (h2 q hq), h3.moved (Vm.Alike.refl U.vm), h4.moved (Vm.Alike.refl U.vm), fun q hq => ?_⟩
  obtain ⟨o, hv, hz⟩ := h5 q hq
  exact ⟨o, hv, hz.moved (Vm.Alike.refl U.vm)⟩
end
section
/-! WEAKEST PRECONDITIONS OVER THE SMALL MACHINE, as statements of the large one -/
theorem am_c_same {ad : Nat → Nat} {tc : Nat → ClassId} {σ σ' : am_H} {c : Nat} (h1 : ∀ j, σ'.2.1 c j = σ.2.1 c j) (h3 : ∀ j, σ'.2.2.1 c j = σ.2.2.1 c j) (h2 : ∀ j, σ'.2.2.2 c j = σ.2.2.2 c j) : am_c ad tc σ' c = am_c ad tc σ c := by
  have e : ∀ ks : List Nat, am_fs ad σ' c ks = am_fs ad σ c ks := fun ks => by
    unfold am_fs
    congr 1
    funext j kd
    simp only [am_f, h1, h2]
  unfold am_c
  simp only [e, h3]
theorem am_w_put {ad : Nat → Nat} {tc : Nat → ClassId} {σ σ' : am_H} {c : Nat} {q : va_E} (hc : c < σ.1) (h1 : σ'.1 = σ.1) (h2 : am_c ad tc σ' c = (ad c, q)) (h3 : ∀ b, b ≠ c → am_c ad tc σ' b = am_c ad tc σ b) : (am_w ad tc σ).set c (ad c, q) = am_w ad tc σ' := by
  apply List.ext_getElem?
  intro k
  rw [List.getElem?_set]
  by_cases e : c = k
  · subst e
    rw [if_pos rfl, if_pos (by rw [am_w_len]; exact hc), am_w_at (by omega), h2]
  · rw [if_neg e]
    by_cases hk : k < σ.1
    · rw [am_w_at hk, am_w_at (by omega), h3 k (Ne.symm e)]
    · rw [List.getElem?_eq_none (by rw [am_w_len]; omega), List.getElem?_eq_none (by rw [am_w_len]; omega)]
theorem am_fs_at {ad : Nat → Nat} {σ : am_H} {c j kd : Nat} {ks : List Nat} (h : ks[j]? = some kd) : (am_fs ad σ c ks)[j]? = some (am_f ad σ c j kd) := by
  simp [am_fs, h]
theorem am_fs_set {ad : Nat → Nat} {σ σ' : am_H} {c j kd : Nat} {ks : List Nat} {v : Value} (h : ks[j]? = some kd) (hv : am_f ad σ' c j kd = v) (hne : ∀ i kd, i ≠ j → am_f ad σ' c i kd = am_f ad σ c i kd) : (am_fs ad σ c ks).set j v = am_fs ad σ' c ks := by
  apply List.ext_getElem?
  intro k
  rw [List.getElem?_set]
  by_cases e : j = k
  · subst e
    have hl : j < ks.length := (List.getElem?_eq_some_iff.mp h).1
    rw [if_pos rfl, if_pos (by simpa [am_fs] using hl), am_fs_at h, hv]
  · rw [if_neg e]
    simp only [am_fs, List.getElem?_mapIdx]
    cases ks[k]? with
    | none => rfl
    | some q => simp only [Option.map_some, hne k q (Ne.symm e)]
def am_vs (n : Nat) : List am_V → Prop
  | [] => True
  | v :: r => am_vf n v ∧ am_vs n r
theorem am_vs_mem {n : Nat} : ∀ {st : List am_V}, am_vs n st → ∀ v ∈ st, am_vf n v := by
  intro st
  induction st with
  | nil => intro _ v h; cases h
  | cons a l ih =>
    intro h v hv
    rcases List.mem_cons.mp hv with rfl | hv
    · exact h.1
    · exact ih h.2 v hv
theorem am_vs_of {n : Nat} : ∀ {st : List am_V}, (∀ v ∈ st, am_vf n v) → am_vs n st := by
  intro st
  induction st with
  | nil => intro _; trivial
  | cons a l ih => intro h; exact ⟨h a List.mem_cons_self, ih (fun v hv => h v (List.mem_cons_of_mem _ hv))⟩
theorem am_vf_up {n n' : Nat} (h : n ≤ n') {v : am_V} (hv : am_vf n v) : am_vf n' v := by
  rcases v with x | y | k
  · exact hv
  · exact hv
  · intro q hq
    rcases hv q hq with z | z
    · exact Or.inl (by omega)
    · exact Or.inr z
theorem am_vs_up {n n' : Nat} (h : n ≤ n') {st : List am_V} (hv : am_vs n st) : am_vs n' st := am_vs_of (fun v q => am_vf_up h (am_vs_mem hv v q))
def am_sf (σ : am_H) (lv : am_L) (st : List am_V) : Prop := am_hf σ ∧ am_vs σ.1 st ∧ ∀ i v, am_get lv i = some v → am_vf σ.1 v
def am_rm (d n0 n1 : Nat) : Room := { frames := d, cells := n1 - n0, slots := am_sz n1 - am_sz n0, locals := 35 * d }
def am_B (dC : Nat → ClassId) (dI : Nat → Nat → Nat) (tc : Nat → ClassId) (M : am_M) (ad0 : Nat → Nat) (A : Nat → Prop) (p : Program) (s : State) (m : MethodId) (args : Array Value) (meth : Method) (c : Code) : Prop :=
  p.tables.exec = Jvm.exec ∧ c.code = M.2.1 ∧ meth.sig.returnType = M.2.2.2.1 ∧ c.maxLocals = M.2.2.1 ∧ s.vm.findClass M.1.cls = some m.cls ∧ (∀ w ∈ am_tb, w.before args s = true) ∧ meth.locks = false ∧ meth.name = M.1.name ∧ va_K (dC, dI) classes (am_tys tc) s ∧ (∀ q, s.heap.size ≤ q → A q) ∧ am_Z ad0 A s
def am_S (dC : Nat → ClassId) (dI : Nat → Nat → Nat) (tc : Nat → ClassId) (s : State) (A : Nat → Prop) (n0 : Nat) (ad0 : Nat → Nat) (nL : Nat) (lv : am_L) (st : List am_V) (σ : am_H) (ad : Nat → Nat) (H : Heap) (locs : List Loc) (ls : Array Slot) : Prop :=
  (∀ k, k < n0 ∨ 1000 ≤ k → ad k = ad0 k) ∧ n0 ≤ σ.1 ∧ am_sf σ lv st ∧ va_P (dC, dI) classes (am_w ad tc σ) H ∧ va_D A (am_w ad tc σ) ∧ va_S A s.heap H locs ∧ am_lh ad ls nL lv
def am_Qc (dC : Nat → ClassId) (dI : Nat → Nat → Nat) (tc : Nat → ClassId) (ad0 : Nat → Nat) (n0 n1 : Nat) (A : Nat → Prop) (Q : Option am_V → am_H → Prop) : Array Value → State → Outcome → State → Prop := fun _ st o t =>
  (∃ (r : Option am_V) (σ : am_H) (ad : Nat → Nat), o = .returned (r.map (am_v ad)) ∧ Q r σ ∧ (∀ k, k < n0 ∨ 1000 ≤ k → ad k = ad0 k) ∧ σ.1 = n1 ∧ am_hf σ ∧ (∀ v, r = some v → am_vf n1 v) ∧ va_P (dC, dI) classes (am_w ad tc σ) t.heap ∧ va_D A (am_w ad tc σ)) ∧ va_F A st t
def am_K (l : Launch) (dC : Nat → ClassId) (dI : Nat → Nat → Nat) (tc : Nat → ClassId) (M : am_M) (d n0 n1 : Nat) (Q : Option am_V → am_H → Prop) (p : Program) (e : Env) (s : State) (m : MethodId) (args : Array Value) (below : List Frame) (meth : Method) (c : Code) (ad0 : Nat → Nat) (A : Nat → Prop) (i : Nat) (lv : am_L) (st : List am_V) (σ : am_H) : Prop :=
  ∀ (ad : Nat → Nat) (H : Heap) (locs : List Loc) (ls : Array Slot), am_S dC dI tc s A n0 ad0 M.2.2.1 lv st σ ad H locs ls →
      W p l e (am_rm d n0 n1) s m args below meth c H locs (σ.1 - n0) (am_sz σ.1 - am_sz n0) (MQ below (am_Qc dC dI tc ad0 n0 n1 A Q) args s (n1 - n0) (am_sz n1 - am_sz n0) A) (F0 m (am_pcd M i) ls (st.map (am_v ad)))
def am_wp (l : Launch) (dC : Nat → ClassId) (dI : Nat → Nat → Nat) (tc : Nat → ClassId) (M : am_M) (d n0 n1 : Nat) (Q : Option am_V → am_H → Prop) (i : Nat) (lv : am_L) (st : List am_V) (σ : am_H) : Prop :=
  am_okM M → ∀ (p : Program) (e : Env) (s : State) (m : MethodId) (args : Array Value) (below : List Frame) (meth : Method) (c : Code) (ad0 : Nat → Nat) (A : Nat → Prop), am_B dC dI tc M ad0 A p s m args meth c → am_K l dC dI tc M d n0 n1 Q p e s m args below meth c ad0 A i lv st σ
def am_Ct (l : Launch) (dC : Nat → ClassId) (dI : Nat → Nat → Nat) (tc : Nat → ClassId) (M : am_M) (d n1 : Nat) (as : List am_V) (σ : am_H) (Q : Option am_V → am_H → Prop) : Prop :=
  ∀ (ad : Nat → Nat) (sz : Nat), am_hf σ → am_vs σ.1 as → Met l M.1 (Cond.code M.1 M.2.1 M.2.2.1 M.2.2.2.1 :: am_tb) (am_rm d σ.1 n1)
    (va_Pc (as.map (am_v ad)) (fun U => U.heap.size = sz ∧ va_P (dC, dI) classes (am_w ad tc σ) U.heap ∧ va_K (dC, dI) classes (am_tys tc) U ∧ va_D (fun _ => True) (am_w ad tc σ) ∧ am_Z ad (va_A (am_w ad tc σ) sz) U))
    (am_Qc dC dI tc ad σ.1 n1 (va_A (am_w ad tc σ) sz) Q) (n1 - σ.1) (am_sz n1 - am_sz σ.1) (va_A (am_w ad tc σ) sz)
section AmGo
variable {l : Launch} {dC : Nat → ClassId} {dI : Nat → Nat → Nat} {tc : Nat → ClassId} {M : am_M} {d n0 n1 : Nat} {Q : Option am_V → am_H → Prop} {i : Nat} {lv : am_L} {st : List am_V} {σ : am_H}
variable {p : Program} {e : Env} {s : State} {m : MethodId} {args : Array Value} {below : List Frame} {meth : Method} {c : Code} {ad0 : Nat → Nat} {A : Nat → Prop}
variable {pc nx : Nat} {ins : Instr} {xs : List Nat} {kk : Int} {r : List am_V}
theorem am_oke_dec (h : am_oke M (pc, ins, nx, xs, kk) = true) (ht : ∀ a b c d, ins ≠ .tableswitch a b c d) : decode M.2.1 pc = .ok (ins, am_ln ins) := by
  simp only [am_oke, Bool.and_eq_true] at h
  obtain ⟨⟨⟨h1, -⟩, -⟩, -⟩ := h
  simpa using h1
theorem am_oke_nx (h : am_oke M (pc, ins, nx, xs, kk) = true) (he : am_end ins = false) : am_pcd M nx = pc + am_ln ins := by
  simp only [am_oke, Bool.and_eq_true] at h
  obtain ⟨⟨⟨-, h1⟩, -⟩, -⟩ := h
  rw [he] at h1
  simpa using h1
theorem am_oke_t {t : Nat} {o : Int} (h : am_oke M (pc, ins, nx, [t], kk) = true) (he : am_off ins = some o) : (pc : Int) + o = (am_pcd M t : Int) := by
  simp only [am_oke, Bool.and_eq_true] at h
  obtain ⟨⟨⟨-, -⟩, h1⟩, -⟩ := h
  rw [he] at h1
  simpa using h1
theorem am_oke_lk (h : am_oke M (pc, ins, nx, xs, kk) = true) : am_lk M ins xs kk = true := by
  simp only [am_oke, Bool.and_eq_true] at h
  exact h.2
theorem am_S.sk {nL : Nat} {st' : List am_V} {ad : Nat → Nat} {H : Heap} {locs : List Loc} {ls : Array Slot} (h : am_S dC dI tc s A n0 ad0 nL lv st σ ad H locs ls) (hf : am_vs σ.1 st') : am_S dC dI tc s A n0 ad0 nL lv st' σ ad H locs ls :=
  ⟨h.1, h.2.1, ⟨h.2.2.1.1, hf, h.2.2.1.2.2⟩, h.2.2.2⟩
theorem am_S.vs {nL : Nat} {ad : Nat → Nat} {H : Heap} {locs : List Loc} {ls : Array Slot} (h : am_S dC dI tc s A n0 ad0 nL lv st σ ad H locs ls) : am_vs σ.1 st := h.2.2.1.2.1
theorem am_S.lh {nL : Nat} {ad : Nat → Nat} {H : Heap} {locs : List Loc} {ls : Array Slot} (h : am_S dC dI tc s A n0 ad0 nL lv st σ ad H locs ls) : am_lh ad ls nL lv := h.2.2.2.2.2.2
theorem am_S.lvf {nL : Nat} {ad : Nat → Nat} {H : Heap} {locs : List Loc} {ls : Array Slot} (h : am_S dC dI tc s A n0 ad0 nL lv st σ ad H locs ls) {j : Nat} {v : am_V} (hj : am_get lv j = some v) : am_vf σ.1 v := h.2.2.1.2.2 j v hj
theorem am_S.hf {nL : Nat} {ad : Nat → Nat} {H : Heap} {locs : List Loc} {ls : Array Slot} (h : am_S dC dI tc s A n0 ad0 nL lv st σ ad H locs ls) : am_hf σ := h.2.2.1.1
theorem am_S.sto {nL j : Nat} {v : am_V} {lv' : am_L} {st' : List am_V} {ad : Nat → Nat} {H : Heap} {locs : List Loc} {ls ls' : Array Slot} (h : am_S dC dI tc s A n0 ad0 nL lv st σ ad H locs ls) (hf : am_vs σ.1 st') (hs : am_sto lv j v = some lv') (hv : am_vf σ.1 v)
    (hl : lv_has ls' nL ((j, am_v ad v) :: (am_pl ad lv).filter (fun q => !(q.1 == j) && !(q.1 + 1 == j && q.2.category == 2)))) : am_S dC dI tc s A n0 ad0 nL lv' st' σ ad H locs ls' := by
  refine ⟨h.1, h.2.1, ⟨h.2.2.1.1, hf, fun k w hk => ?_⟩, h.2.2.2.1, h.2.2.2.2.1, h.2.2.2.2.2.1, am_lh.sto h.lh.2.2.1 hs hl⟩
  rw [(am_sto_spec hs).2.2.1 k] at hk
  by_cases e : k = j
  · rw [if_pos e] at hk
    cases hk
    exact hv
  · rw [if_neg e] at hk
    exact h.lvf hk
theorem am_cmpr (x y : Int) : -2147483648 ≤ am_cmp x y ∧ am_cmp x y ≤ 2147483647 := by
  unfold am_cmp
  split
  · omega
  · split <;> omega
theorem am_lcmp {x y : Int} (hx : -9223372036854775808 ≤ x ∧ x ≤ 9223372036854775807) (hy : -9223372036854775808 ≤ y ∧ y ≤ 9223372036854775807) : lg_cmp (Int64.ofInt x) (Int64.ofInt y) = Int32.ofInt (am_cmp x y) := by
  have e1 : (Int64.ofInt y < Int64.ofInt x) ↔ y < x := by rw [Int64.lt_iff_toInt_lt, am_tl hx, am_tl hy]
  have e2 : (Int64.ofInt x = Int64.ofInt y) ↔ x = y := by rw [← Int64.toInt_inj, am_tl hx, am_tl hy]
  unfold lg_cmp am_cmp
  by_cases h1 : y < x
  · rw [if_pos (show Int64.ofInt x > Int64.ofInt y from e1.mpr h1), if_pos h1]; rfl
  · rw [if_neg (show ¬ Int64.ofInt x > Int64.ofInt y from fun z => h1 (e1.mp z)), if_neg h1]
    by_cases h2 : x = y
    · rw [if_pos (e2.mpr h2), if_pos h2]; rfl
    · rw [if_neg (fun z => h2 (e2.mp z)), if_neg h2]; rfl
theorem am_i2c {x : Int} (h : 0 ≤ x ∧ x < 65536) : ((Int32.ofInt x).toUInt32 % 65536).toInt32 = Int32.ofInt x := by
  obtain ⟨a, rfl⟩ := Int.eq_ofNat_of_zero_le h.1
  show ((nI a).toUInt32 % 65536).toInt32 = nI a
  rw [pk_char, pk_tn (by omega), Nat.mod_eq_of_lt (by omega)]
theorem am_i2lr {x : Int} (h : -2147483648 ≤ x ∧ x ≤ 2147483647) : -9223372036854775808 ≤ x ∧ x ≤ 9223372036854775807 := by omega
theorem am_i2l {x : Int} (h : -2147483648 ≤ x ∧ x ≤ 2147483647) : (Int32.ofInt x).toInt64 = Int64.ofInt x := by
  rw [← Int64.toInt_inj, Int32.toInt_toInt64, am_ti h, am_tl (am_i2lr h)]
theorem am_l2i {x : Int} (h : -2147483648 ≤ x ∧ x ≤ 2147483647) : (Int64.ofInt x).toInt32 = Int32.ofInt x := by
  rw [← am_i2l h, Int32.toInt32_toInt64]
theorem am_catr (ad : Nat → Nat) (x : Option Nat) : (am_v ad (.inr (.inr x))).category = 1 := by cases x <;> rfl
theorem am_cats (ad : Nat → Nat) (r : List am_V) : ((r.map (am_v ad)).map fun v => v.category).sum ≤ 2 * r.length := by
  induction r with
  | nil => simp
  | cons a r ih =>
    have : (am_v ad a).category ≤ 2 := by rcases lv_cat (am_v ad a) with h | h <;> omega
    simp only [List.map_cons, List.sum_cons, List.length_cons]
    omega
theorem am_sz_mono {a b : Nat} (h : a ≤ b) : am_sz a ≤ am_sz b := by
  induction b with
  | zero => have : a = 0 := by omega
            subst this; exact Nat.le_refl _
  | succ b ih =>
    rcases Nat.lt_or_ge a (b + 1) with q | q
    · have := ih (by omega)
      show am_sz a ≤ am_sz b + am_szc b
      omega
    · have : a = b + 1 := by omega
      subst this; exact Nat.le_refl _
theorem am_w_arr {x t len : Nat} {ad : Nat → Nat} (hx : x < σ.1) (hsh : am_at am_sh x = some (.inl (t, len))) : (am_w ad tc σ)[x]? = some (ad x, .inl (tc t, len, .inl (fun j => Int32.ofInt (σ.2.2.1 x (j : Int))))) := by
  rw [am_w_at hx]
  unfold am_c
  rw [hsh]
theorem am_w_obj {x ci : Nat} {ks : List Nat} {ad : Nat → Nat} (hx : x < σ.1) (hsh : am_at am_sh x = some (.inr ci)) (hks : am_at am_ks ci = some ks) : (am_w ad tc σ)[x]? = some (ad x, .inr (ci, am_fs ad σ x ks)) := by
  rw [am_w_at hx]
  unfold am_c
  rw [hsh]
  simp only [hks, Option.getD_some]
theorem am_tys_at {x t len : Nat} (hsh : am_at am_sh x = some (.inl (t, len))) : ∃ ty, (am_tys tc)[t]? = some (tc t, ty) := by
  have h3 : t < 3 := am_Tsh x t len hsh
  rcases (by omega : t = 0 ∨ t = 1 ∨ t = 2) with rfl | rfl | rfl <;> exact ⟨_, rfl⟩
theorem am_lenr {x t len : Nat} (hsh : am_at am_sh x = some (.inl (t, len))) : -2147483648 ≤ (len : Int) ∧ (len : Int) ≤ 2147483647 := by
  have := am_Tlen x t len hsh
  omega
theorem am_kd_at {ci j kd : Nat} (h : am_kd ci j = some kd) : ∃ ks, am_at am_ks ci = some ks ∧ ks[j]? = some kd := by
  unfold am_kd at h
  split at h
  · rename_i ks hks
    exact ⟨ks, hks, by rw [← am_at_eq]; exact h⟩
  · cases h
theorem am_lk_get {idx ci j : Nat} (h : am_lk M (.getfield idx) [ci, j] kk = true) : ∃ q, am_at classes ci = some q ∧ j < q.2.2 ∧ (q.2.1 j).1 = q.1 ∧ Cond.fieldLink M.1.cls idx q.1 (q.2.1 j).2.1 (q.2.1 j).2.2.1 ∈ am_tb := by
  simp only [am_lk] at h
  split at h
  · rename_i q hq
    simp only [Bool.and_eq_true, decide_eq_true_eq] at h
    exact ⟨q, hq, h.1.1, h.1.2, am_in_tb h.2⟩
  · cases h
theorem gk_iconst {n : Int} (hs : -2147483648 ≤ n ∧ n ≤ 2147483647) (hB : am_B dC dI tc M ad0 A p s m args meth c) (ho : am_oke M (pc, .iconst n, nx, xs, kk) = true) (hp : am_pcd M i = pc) (k : am_K l dC dI tc M d n0 n1 Q p e s m args below meth c ad0 A nx lv (.inl n :: r) σ) : am_K l dC dI tc M d n0 n1 Q p e s m args below meth c ad0 A i lv (r) σ := by
  intro ad H locs ls hS
  have hd := am_oke_dec ho (fun a b c d h => by cases h)
  have hvs := hS.vs
  have hr := hvs
  have hk := k ad H locs ls (hS.sk ⟨hs, hr⟩)
  rw [am_oke_nx ho rfl] at hk
  rw [hp]
  exact lv_iconst hB.1 hB.2.1 hd rfl hk
theorem gk_bipush {n : Int} (hs : -128 ≤ n ∧ n ≤ 127) (hB : am_B dC dI tc M ad0 A p s m args meth c) (ho : am_oke M (pc, .bipush n, nx, xs, kk) = true) (hp : am_pcd M i = pc) (k : am_K l dC dI tc M d n0 n1 Q p e s m args below meth c ad0 A nx lv (.inl n :: r) σ) : am_K l dC dI tc M d n0 n1 Q p e s m args below meth c ad0 A i lv (r) σ := by
  intro ad H locs ls hS
  have hd := am_oke_dec ho (fun a b c d h => by cases h)
  have hvs := hS.vs
  have hr := hvs
  have hk := k ad H locs ls (hS.sk ⟨⟨by omega, by omega⟩, hr⟩)
  rw [am_oke_nx ho rfl] at hk
  rw [hp]
  refine lv_bipush hB.1 hB.2.1 hd ?_ hk
  rw [← Int32.toInt_inj, am_ti ⟨by omega, by omega⟩, Int8.toInt_toInt32, Int8.toInt_ofInt_of_le (by omega) (by omega)]
theorem gk_sipush {n : Int} (hs : -32768 ≤ n ∧ n ≤ 32767) (hB : am_B dC dI tc M ad0 A p s m args meth c) (ho : am_oke M (pc, .sipush n, nx, xs, kk) = true) (hp : am_pcd M i = pc) (k : am_K l dC dI tc M d n0 n1 Q p e s m args below meth c ad0 A nx lv (.inl n :: r) σ) : am_K l dC dI tc M d n0 n1 Q p e s m args below meth c ad0 A i lv (r) σ := by
  intro ad H locs ls hS
  have hd := am_oke_dec ho (fun a b c d h => by cases h)
  have hvs := hS.vs
  have hr := hvs
  have hk := k ad H locs ls (hS.sk ⟨⟨by omega, by omega⟩, hr⟩)
  rw [am_oke_nx ho rfl] at hk
  rw [hp]
  refine lv_sipush hB.1 hB.2.1 hd ?_ hk
  rw [← Int32.toInt_inj, am_ti ⟨by omega, by omega⟩, Int16.toInt_toInt32, Int16.toInt_ofInt_of_le (by omega) (by omega)]
theorem gk_ldc {idx : Nat} (hs : -2147483648 ≤ kk ∧ kk ≤ 2147483647) (hB : am_B dC dI tc M ad0 A p s m args meth c) (ho : am_oke M (pc, .ldc idx, nx, [], kk) = true) (hp : am_pcd M i = pc) (k : am_K l dC dI tc M d n0 n1 Q p e s m args below meth c ad0 A nx lv (.inl kk :: r) σ) : am_K l dC dI tc M d n0 n1 Q p e s m args below meth c ad0 A i lv (r) σ := by
  intro ad H locs ls hS
  have hd := am_oke_dec ho (fun a b c d h => by cases h)
  have hvs := hS.vs
  have hr := hvs
  have hk := k ad H locs ls (hS.sk ⟨hs, hr⟩)
  rw [am_oke_nx ho rfl] at hk
  rw [hp]
  have hl := am_oke_lk ho
  have hl := am_in_tb hl
  exact lv_ldc hB.1 hB.2.1 hB.2.2.2.2.1 (hB.2.2.2.2.2.1 _ hl) hd hk
theorem gk_ldcs {idx q : Nat} (hB : am_B dC dI tc M ad0 A p s m args meth c) (ho : am_oke M (pc, .ldc idx, nx, [q], kk) = true) (hp : am_pcd M i = pc) (k : am_K l dC dI tc M d n0 n1 Q p e s m args below meth c ad0 A nx lv (.inr (.inr (some (1000 + q))) :: r) σ) : am_K l dC dI tc M d n0 n1 Q p e s m args below meth c ad0 A i lv (r) σ := by
  intro ad H locs ls hS
  have hd := am_oke_dec ho (fun a b c d h => by cases h)
  have hvs := hS.vs
  have hr := hvs
  have hk := k ad H locs ls (hS.sk ⟨fun z hz => by cases hz; exact Or.inr (by omega), hr⟩)
  rw [am_oke_nx ho rfl] at hk
  rw [hp]
  have hl := of_decide_eq_true (am_oke_lk ho)
  have h9 := hB.2.2.2.2.2.2.2.2.2.2.2.1 _ hl
  rw [← hS.1 (1000 + q) (Or.inr (by omega))] at h9
  exact va_ldcS hB.1 hB.2.1 hB.2.2.2.2.1 h9 hd hk
theorem gk_ldc2 {idx : Nat} (hs : -9223372036854775808 ≤ kk ∧ kk ≤ 9223372036854775807) (hB : am_B dC dI tc M ad0 A p s m args meth c) (ho : am_oke M (pc, .ldc2_w idx, nx, xs, kk) = true) (hp : am_pcd M i = pc) (k : am_K l dC dI tc M d n0 n1 Q p e s m args below meth c ad0 A nx lv (.inr (.inl kk) :: r) σ) : am_K l dC dI tc M d n0 n1 Q p e s m args below meth c ad0 A i lv (r) σ := by
  intro ad H locs ls hS
  have hd := am_oke_dec ho (fun a b c d h => by cases h)
  have hvs := hS.vs
  have hr := hvs
  have hk := k ad H locs ls (hS.sk ⟨hs, hr⟩)
  rw [am_oke_nx ho rfl] at hk
  rw [hp]
  have hl := am_oke_lk ho
  have hl := am_in_tb hl
  exact lv_ldc2 hB.1 hB.2.1 hB.2.2.2.2.1 (hB.2.2.2.2.2.1 _ hl) hd hk
theorem gk_lconst {n : Fin 2} (hs : 0 ≤ kk ∧ kk ≤ 1) (hB : am_B dC dI tc M ad0 A p s m args meth c) (ho : am_oke M (pc, .lconst n, nx, xs, kk) = true) (hp : am_pcd M i = pc) (k : am_K l dC dI tc M d n0 n1 Q p e s m args below meth c ad0 A nx lv (.inr (.inl kk) :: r) σ) : am_K l dC dI tc M d n0 n1 Q p e s m args below meth c ad0 A i lv (r) σ := by
  intro ad H locs ls hS
  have hd := am_oke_dec ho (fun a b c d h => by cases h)
  have hvs := hS.vs
  have hr := hvs
  have hk := k ad H locs ls (hS.sk ⟨⟨by omega, by omega⟩, hr⟩)
  rw [am_oke_nx ho rfl] at hk
  rw [hp]
  have hl := am_oke_lk ho
  simp only [am_lk, decide_eq_true_eq] at hl
  subst hl
  exact lv_lconst hB.1 hB.2.1 hd rfl hk
theorem gk_iloadn {q : Fin 4} {x : Int} (hg : am_get lv q.val = some (.inl x)) (hB : am_B dC dI tc M ad0 A p s m args meth c) (ho : am_oke M (pc, .iload_n q, nx, xs, kk) = true) (hp : am_pcd M i = pc) (k : am_K l dC dI tc M d n0 n1 Q p e s m args below meth c ad0 A nx lv (.inl x :: r) σ) : am_K l dC dI tc M d n0 n1 Q p e s m args below meth c ad0 A i lv (r) σ := by
  intro ad H locs ls hS
  have hd := am_oke_dec ho (fun a b c d h => by cases h)
  have hvs := hS.vs
  have hr := hvs
  have hk := k ad H locs ls (hS.sk ⟨hS.lvf hg, hr⟩)
  rw [am_oke_nx ho rfl] at hk
  rw [hp]
  exact lv_iload_n hB.1 hB.2.1 hd rfl (hS.lh.2.2.2 _ _ hg) hk
theorem gk_iload {q : Nat} {x : Int} (hg : am_get lv q = some (.inl x)) (hB : am_B dC dI tc M ad0 A p s m args meth c) (ho : am_oke M (pc, .iload q, nx, xs, kk) = true) (hp : am_pcd M i = pc) (k : am_K l dC dI tc M d n0 n1 Q p e s m args below meth c ad0 A nx lv (.inl x :: r) σ) : am_K l dC dI tc M d n0 n1 Q p e s m args below meth c ad0 A i lv (r) σ := by
  intro ad H locs ls hS
  have hd := am_oke_dec ho (fun a b c d h => by cases h)
  have hvs := hS.vs
  have hr := hvs
  have hk := k ad H locs ls (hS.sk ⟨hS.lvf hg, hr⟩)
  rw [am_oke_nx ho rfl] at hk
  rw [hp]
  exact lv_iload hB.1 hB.2.1 hd (hS.lh.2.2.2 _ _ hg) hk
theorem gk_lload {q : Nat} {x : Int} (hg : am_get lv q = some (.inr (.inl x))) (hB : am_B dC dI tc M ad0 A p s m args meth c) (ho : am_oke M (pc, .lload q, nx, xs, kk) = true) (hp : am_pcd M i = pc) (k : am_K l dC dI tc M d n0 n1 Q p e s m args below meth c ad0 A nx lv (.inr (.inl x) :: r) σ) : am_K l dC dI tc M d n0 n1 Q p e s m args below meth c ad0 A i lv (r) σ := by
  intro ad H locs ls hS
  have hd := am_oke_dec ho (fun a b c d h => by cases h)
  have hvs := hS.vs
  have hr := hvs
  have hk := k ad H locs ls (hS.sk ⟨hS.lvf hg, hr⟩)
  rw [am_oke_nx ho rfl] at hk
  rw [hp]
  exact lv_lload hB.1 hB.2.1 hd (hS.lh.2.2.2 _ _ hg) hk
theorem gk_lloadn {q : Fin 4} {x : Int} (hg : am_get lv q.val = some (.inr (.inl x))) (hB : am_B dC dI tc M ad0 A p s m args meth c) (ho : am_oke M (pc, .lload_n q, nx, xs, kk) = true) (hp : am_pcd M i = pc) (k : am_K l dC dI tc M d n0 n1 Q p e s m args below meth c ad0 A nx lv (.inr (.inl x) :: r) σ) : am_K l dC dI tc M d n0 n1 Q p e s m args below meth c ad0 A i lv (r) σ := by
  intro ad H locs ls hS
  have hd := am_oke_dec ho (fun a b c d h => by cases h)
  have hvs := hS.vs
  have hr := hvs
  have hk := k ad H locs ls (hS.sk ⟨hS.lvf hg, hr⟩)
  rw [am_oke_nx ho rfl] at hk
  rw [hp]
  exact lv_lload_n hB.1 hB.2.1 hd rfl (hS.lh.2.2.2 _ _ hg) hk
theorem gk_aloadn {q : Fin 4} {x : Nat} (hg : am_get lv q.val = some (.inr (.inr (some x)))) (hB : am_B dC dI tc M ad0 A p s m args meth c) (ho : am_oke M (pc, .aload_n q, nx, xs, kk) = true) (hp : am_pcd M i = pc) (k : am_K l dC dI tc M d n0 n1 Q p e s m args below meth c ad0 A nx lv (.inr (.inr (some x)) :: r) σ) : am_K l dC dI tc M d n0 n1 Q p e s m args below meth c ad0 A i lv (r) σ := by
  intro ad H locs ls hS
  have hd := am_oke_dec ho (fun a b c d h => by cases h)
  have hvs := hS.vs
  have hr := hvs
  have hk := k ad H locs ls (hS.sk ⟨hS.lvf hg, hr⟩)
  rw [am_oke_nx ho rfl] at hk
  rw [hp]
  exact lv_aload_n hB.1 hB.2.1 hd rfl (hS.lh.2.2.2 _ _ hg) hk
theorem gk_aload {q : Nat} {x : Nat} (hg : am_get lv q = some (.inr (.inr (some x)))) (hB : am_B dC dI tc M ad0 A p s m args meth c) (ho : am_oke M (pc, .aload q, nx, xs, kk) = true) (hp : am_pcd M i = pc) (k : am_K l dC dI tc M d n0 n1 Q p e s m args below meth c ad0 A nx lv (.inr (.inr (some x)) :: r) σ) : am_K l dC dI tc M d n0 n1 Q p e s m args below meth c ad0 A i lv (r) σ := by
  intro ad H locs ls hS
  have hd := am_oke_dec ho (fun a b c d h => by cases h)
  have hvs := hS.vs
  have hr := hvs
  have hk := k ad H locs ls (hS.sk ⟨hS.lvf hg, hr⟩)
  rw [am_oke_nx ho rfl] at hk
  rw [hp]
  exact lv_aload hB.1 hB.2.1 hd (hS.lh.2.2.2 _ _ hg) hk
theorem gk_iadd {x y : Int} (hs : -2147483648 ≤ x + y ∧ x + y ≤ 2147483647) (hB : am_B dC dI tc M ad0 A p s m args meth c) (ho : am_oke M (pc, .iadd, nx, xs, kk) = true) (hp : am_pcd M i = pc) (k : am_K l dC dI tc M d n0 n1 Q p e s m args below meth c ad0 A nx lv (.inl (x + y) :: r) σ) : am_K l dC dI tc M d n0 n1 Q p e s m args below meth c ad0 A i lv (.inl y :: .inl x :: r) σ := by
  intro ad H locs ls hS
  have hd := am_oke_dec ho (fun a b c d h => by cases h)
  have hvs := hS.vs
  obtain ⟨hy, hx, hr⟩ := hvs
  have hk := k ad H locs ls (hS.sk ⟨hs, hr⟩)
  rw [am_oke_nx ho rfl] at hk
  rw [hp]
  refine lv_iadd hB.1 hB.2.1 hd ?_
  rw [← Int32.ofInt_add]
  exact hk
theorem gk_isub {x y : Int} (hs : -2147483648 ≤ x - y ∧ x - y ≤ 2147483647) (hB : am_B dC dI tc M ad0 A p s m args meth c) (ho : am_oke M (pc, .isub, nx, xs, kk) = true) (hp : am_pcd M i = pc) (k : am_K l dC dI tc M d n0 n1 Q p e s m args below meth c ad0 A nx lv (.inl (x - y) :: r) σ) : am_K l dC dI tc M d n0 n1 Q p e s m args below meth c ad0 A i lv (.inl y :: .inl x :: r) σ := by
  intro ad H locs ls hS
  have hd := am_oke_dec ho (fun a b c d h => by cases h)
  have hvs := hS.vs
  obtain ⟨hy, hx, hr⟩ := hvs
  have hk := k ad H locs ls (hS.sk ⟨hs, hr⟩)
  rw [am_oke_nx ho rfl] at hk
  rw [hp]
  refine lv_isub hB.1 hB.2.1 hd ?_
  rw [← Int32.ofInt_sub]
  exact hk
theorem gk_imul {x y : Int} (hs : -2147483648 ≤ x * y ∧ x * y ≤ 2147483647) (hB : am_B dC dI tc M ad0 A p s m args meth c) (ho : am_oke M (pc, .imul, nx, xs, kk) = true) (hp : am_pcd M i = pc) (k : am_K l dC dI tc M d n0 n1 Q p e s m args below meth c ad0 A nx lv (.inl (x * y) :: r) σ) : am_K l dC dI tc M d n0 n1 Q p e s m args below meth c ad0 A i lv (.inl y :: .inl x :: r) σ := by
  intro ad H locs ls hS
  have hd := am_oke_dec ho (fun a b c d h => by cases h)
  have hvs := hS.vs
  obtain ⟨hy, hx, hr⟩ := hvs
  have hk := k ad H locs ls (hS.sk ⟨hs, hr⟩)
  rw [am_oke_nx ho rfl] at hk
  rw [hp]
  refine lv_imul hB.1 hB.2.1 hd ?_
  rw [← Int32.ofInt_mul]
  exact hk
theorem gk_idiv {x y : Int} (hs : 0 ≤ x ∧ 0 < y) (hB : am_B dC dI tc M ad0 A p s m args meth c) (ho : am_oke M (pc, .idiv, nx, xs, kk) = true) (hp : am_pcd M i = pc) (k : am_K l dC dI tc M d n0 n1 Q p e s m args below meth c ad0 A nx lv (.inl (x / y) :: r) σ) : am_K l dC dI tc M d n0 n1 Q p e s m args below meth c ad0 A i lv (.inl y :: .inl x :: r) σ := by
  intro ad H locs ls hS
  have hd := am_oke_dec ho (fun a b c d h => by cases h)
  have hvs := hS.vs
  obtain ⟨hy, hx, hr⟩ := hvs
  have hk := k ad H locs ls (hS.sk ⟨am_divr hx hs, hr⟩)
  rw [am_oke_nx ho rfl] at hk
  rw [hp]
  refine lv_idiv hB.1 hB.2.1 hd (fun q => by have := (am_eq0 hy).mp q; omega) ?_
  rw [am_div hx hy hs]
  exact hk
theorem gk_irem {x y : Int} (hs : 0 ≤ x ∧ 0 < y) (hB : am_B dC dI tc M ad0 A p s m args meth c) (ho : am_oke M (pc, .irem, nx, xs, kk) = true) (hp : am_pcd M i = pc) (k : am_K l dC dI tc M d n0 n1 Q p e s m args below meth c ad0 A nx lv (.inl (x % y) :: r) σ) : am_K l dC dI tc M d n0 n1 Q p e s m args below meth c ad0 A i lv (.inl y :: .inl x :: r) σ := by
  intro ad H locs ls hS
  have hd := am_oke_dec ho (fun a b c d h => by cases h)
  have hvs := hS.vs
  obtain ⟨hy, hx, hr⟩ := hvs
  have hk := k ad H locs ls (hS.sk ⟨am_remr hy hs, hr⟩)
  rw [am_oke_nx ho rfl] at hk
  rw [hp]
  refine lv_irem hB.1 hB.2.1 hd (fun q => by have := (am_eq0 hy).mp q; omega) ?_
  rw [am_rem hx hy hs]
  exact hk
theorem gk_iand {x y : Int} (hB : am_B dC dI tc M ad0 A p s m args meth c) (ho : am_oke M (pc, .iand, nx, xs, kk) = true) (hp : am_pcd M i = pc) (k : am_K l dC dI tc M d n0 n1 Q p e s m args below meth c ad0 A nx lv (.inl (am_and x y) :: r) σ) : am_K l dC dI tc M d n0 n1 Q p e s m args below meth c ad0 A i lv (.inl y :: .inl x :: r) σ := by
  intro ad H locs ls hS
  have hd := am_oke_dec ho (fun a b c d h => by cases h)
  have hvs := hS.vs
  obtain ⟨hy, hx, hr⟩ := hvs
  have hk := k ad H locs ls (hS.sk ⟨am_rng _, hr⟩)
  rw [am_oke_nx ho rfl] at hk
  rw [hp]
  refine lv_iand hB.1 hB.2.1 hd ?_
  have e0 : Int32.ofInt (am_and x y) = _ := am_oti _
  rw [← e0]
  exact hk
theorem gk_ior {x y : Int} (hB : am_B dC dI tc M ad0 A p s m args meth c) (ho : am_oke M (pc, .ior, nx, xs, kk) = true) (hp : am_pcd M i = pc) (k : am_K l dC dI tc M d n0 n1 Q p e s m args below meth c ad0 A nx lv (.inl (am_or x y) :: r) σ) : am_K l dC dI tc M d n0 n1 Q p e s m args below meth c ad0 A i lv (.inl y :: .inl x :: r) σ := by
  intro ad H locs ls hS
  have hd := am_oke_dec ho (fun a b c d h => by cases h)
  have hvs := hS.vs
  obtain ⟨hy, hx, hr⟩ := hvs
  have hk := k ad H locs ls (hS.sk ⟨am_rng _, hr⟩)
  rw [am_oke_nx ho rfl] at hk
  rw [hp]
  refine lv_ior hB.1 hB.2.1 hd ?_
  have e0 : Int32.ofInt (am_or x y) = _ := am_oti _
  rw [← e0]
  exact hk
theorem gk_ishl {x y : Int} (hB : am_B dC dI tc M ad0 A p s m args meth c) (ho : am_oke M (pc, .ishl, nx, xs, kk) = true) (hp : am_pcd M i = pc) (k : am_K l dC dI tc M d n0 n1 Q p e s m args below meth c ad0 A nx lv (.inl (am_shl x y) :: r) σ) : am_K l dC dI tc M d n0 n1 Q p e s m args below meth c ad0 A i lv (.inl y :: .inl x :: r) σ := by
  intro ad H locs ls hS
  have hd := am_oke_dec ho (fun a b c d h => by cases h)
  have hvs := hS.vs
  obtain ⟨hy, hx, hr⟩ := hvs
  have hk := k ad H locs ls (hS.sk ⟨am_rng _, hr⟩)
  rw [am_oke_nx ho rfl] at hk
  rw [hp]
  refine lv_ishl hB.1 hB.2.1 hd ?_
  have e0 : Int32.ofInt (am_shl x y) = _ := am_oti _
  rw [← e0]
  exact hk
theorem gk_ishr {x y : Int} (hB : am_B dC dI tc M ad0 A p s m args meth c) (ho : am_oke M (pc, .ishr, nx, xs, kk) = true) (hp : am_pcd M i = pc) (k : am_K l dC dI tc M d n0 n1 Q p e s m args below meth c ad0 A nx lv (.inl (am_shr x y) :: r) σ) : am_K l dC dI tc M d n0 n1 Q p e s m args below meth c ad0 A i lv (.inl y :: .inl x :: r) σ := by
  intro ad H locs ls hS
  have hd := am_oke_dec ho (fun a b c d h => by cases h)
  have hvs := hS.vs
  obtain ⟨hy, hx, hr⟩ := hvs
  have hk := k ad H locs ls (hS.sk ⟨am_rng _, hr⟩)
  rw [am_oke_nx ho rfl] at hk
  rw [hp]
  refine lv_ishr hB.1 hB.2.1 hd ?_
  have e0 : Int32.ofInt (am_shr x y) = _ := am_oti _
  rw [← e0]
  exact hk
theorem gk_lcmp {x y : Int} (hB : am_B dC dI tc M ad0 A p s m args meth c) (ho : am_oke M (pc, .lcmp, nx, xs, kk) = true) (hp : am_pcd M i = pc) (k : am_K l dC dI tc M d n0 n1 Q p e s m args below meth c ad0 A nx lv (.inl (am_cmp x y) :: r) σ) : am_K l dC dI tc M d n0 n1 Q p e s m args below meth c ad0 A i lv (.inr (.inl y) :: .inr (.inl x) :: r) σ := by
  intro ad H locs ls hS
  have hd := am_oke_dec ho (fun a b c d h => by cases h)
  have hvs := hS.vs
  obtain ⟨hy, hx, hr⟩ := hvs
  have hk := k ad H locs ls (hS.sk ⟨am_cmpr x y, hr⟩)
  rw [am_oke_nx ho rfl] at hk
  rw [hp]
  refine W.lcmp hB.1 hB.2.1 hd ?_
  rw [am_lcmp hx hy]
  exact hk
theorem gk_i2c {x : Int} (hs : 0 ≤ x ∧ x < 65536) (hB : am_B dC dI tc M ad0 A p s m args meth c) (ho : am_oke M (pc, .i2c, nx, xs, kk) = true) (hp : am_pcd M i = pc) (k : am_K l dC dI tc M d n0 n1 Q p e s m args below meth c ad0 A nx lv (.inl x :: r) σ) : am_K l dC dI tc M d n0 n1 Q p e s m args below meth c ad0 A i lv (.inl x :: r) σ := by
  intro ad H locs ls hS
  have hd := am_oke_dec ho (fun a b c d h => by cases h)
  have hvs := hS.vs
  obtain ⟨hx, hr⟩ := hvs
  have hk := k ad H locs ls (hS.sk ⟨hx, hr⟩)
  rw [am_oke_nx ho rfl] at hk
  rw [hp]
  exact lv_i2c hB.1 hB.2.1 hd (am_i2c hs) hk
theorem gk_i2l {x : Int} (hB : am_B dC dI tc M ad0 A p s m args meth c) (ho : am_oke M (pc, .i2l, nx, xs, kk) = true) (hp : am_pcd M i = pc) (k : am_K l dC dI tc M d n0 n1 Q p e s m args below meth c ad0 A nx lv (.inr (.inl x) :: r) σ) : am_K l dC dI tc M d n0 n1 Q p e s m args below meth c ad0 A i lv (.inl x :: r) σ := by
  intro ad H locs ls hS
  have hd := am_oke_dec ho (fun a b c d h => by cases h)
  have hvs := hS.vs
  obtain ⟨hx, hr⟩ := hvs
  have hk := k ad H locs ls (hS.sk ⟨am_i2lr hx, hr⟩)
  rw [am_oke_nx ho rfl] at hk
  rw [hp]
  exact lv_i2l hB.1 hB.2.1 hd (am_i2l hx) hk
theorem gk_l2i {x : Int} (hs : -2147483648 ≤ x ∧ x ≤ 2147483647) (hB : am_B dC dI tc M ad0 A p s m args meth c) (ho : am_oke M (pc, .l2i, nx, xs, kk) = true) (hp : am_pcd M i = pc) (k : am_K l dC dI tc M d n0 n1 Q p e s m args below meth c ad0 A nx lv (.inl x :: r) σ) : am_K l dC dI tc M d n0 n1 Q p e s m args below meth c ad0 A i lv (.inr (.inl x) :: r) σ := by
  intro ad H locs ls hS
  have hd := am_oke_dec ho (fun a b c d h => by cases h)
  have hvs := hS.vs
  obtain ⟨hx, hr⟩ := hvs
  have hk := k ad H locs ls (hS.sk ⟨hs, hr⟩)
  rw [am_oke_nx ho rfl] at hk
  rw [hp]
  exact lv_l2i hB.1 hB.2.1 hd (am_l2i hs) hk
theorem gk_dupi {x : Int} (hB : am_B dC dI tc M ad0 A p s m args meth c) (ho : am_oke M (pc, .dup, nx, xs, kk) = true) (hp : am_pcd M i = pc) (k : am_K l dC dI tc M d n0 n1 Q p e s m args below meth c ad0 A nx lv (.inl x :: .inl x :: r) σ) : am_K l dC dI tc M d n0 n1 Q p e s m args below meth c ad0 A i lv (.inl x :: r) σ := by
  intro ad H locs ls hS
  have hd := am_oke_dec ho (fun a b c d h => by cases h)
  have hvs := hS.vs
  obtain ⟨hx, hr⟩ := hvs
  have hk := k ad H locs ls (hS.sk ⟨hx, hx, hr⟩)
  rw [am_oke_nx ho rfl] at hk
  rw [hp]
  exact lv_dup hB.1 hB.2.1 hd rfl hk
theorem gk_dupa {x : Option Nat} (hB : am_B dC dI tc M ad0 A p s m args meth c) (ho : am_oke M (pc, .dup, nx, xs, kk) = true) (hp : am_pcd M i = pc) (k : am_K l dC dI tc M d n0 n1 Q p e s m args below meth c ad0 A nx lv (.inr (.inr x) :: .inr (.inr x) :: r) σ) : am_K l dC dI tc M d n0 n1 Q p e s m args below meth c ad0 A i lv (.inr (.inr x) :: r) σ := by
  intro ad H locs ls hS
  have hd := am_oke_dec ho (fun a b c d h => by cases h)
  have hvs := hS.vs
  obtain ⟨hx, hr⟩ := hvs
  have hk := k ad H locs ls (hS.sk ⟨hx, hx, hr⟩)
  rw [am_oke_nx ho rfl] at hk
  rw [hp]
  exact lv_dup hB.1 hB.2.1 hd (am_catr ad x) hk
theorem gk_dup2 {x : Int} {y : Option Nat} (hB : am_B dC dI tc M ad0 A p s m args meth c) (ho : am_oke M (pc, .dup2, nx, xs, kk) = true) (hp : am_pcd M i = pc) (k : am_K l dC dI tc M d n0 n1 Q p e s m args below meth c ad0 A nx lv (.inl x :: .inr (.inr y) :: .inl x :: .inr (.inr y) :: r) σ) : am_K l dC dI tc M d n0 n1 Q p e s m args below meth c ad0 A i lv (.inl x :: .inr (.inr y) :: r) σ := by
  intro ad H locs ls hS
  have hd := am_oke_dec ho (fun a b c d h => by cases h)
  have hvs := hS.vs
  obtain ⟨hx, hy, hr⟩ := hvs
  have hk := k ad H locs ls (hS.sk ⟨hx, hy, hx, hy, hr⟩)
  rw [am_oke_nx ho rfl] at hk
  rw [hp]
  exact lv_dup2_11 hB.1 hB.2.1 hd rfl (am_catr ad y) hk
theorem gk_goto {o : Int} {t : Nat} (hB : am_B dC dI tc M ad0 A p s m args meth c) (ho : am_oke M (pc, .goto o, nx, [t], kk) = true) (hp : am_pcd M i = pc) (k : am_K l dC dI tc M d n0 n1 Q p e s m args below meth c ad0 A t lv (r) σ) : am_K l dC dI tc M d n0 n1 Q p e s m args below meth c ad0 A i lv (r) σ := by
  intro ad H locs ls hS
  have hd := am_oke_dec ho (fun a b c d h => by cases h)
  have hvs := hS.vs
  have hr := hvs
  have hk := k ad H locs ls (hS.sk hr)
  rw [hp]
  exact lv_goto hB.1 hB.2.1 hd (am_oke_t ho rfl) hk
theorem gk_alen {x t len : Nat} (hx : x < σ.1) (hsh : am_at am_sh x = some (.inl (t, len))) (hB : am_B dC dI tc M ad0 A p s m args meth c) (ho : am_oke M (pc, .arraylength, nx, xs, kk) = true) (hp : am_pcd M i = pc) (k : am_K l dC dI tc M d n0 n1 Q p e s m args below meth c ad0 A nx lv (.inl (len : Int) :: r) σ) : am_K l dC dI tc M d n0 n1 Q p e s m args below meth c ad0 A i lv (.inr (.inr (some x)) :: r) σ := by
  intro ad H locs ls hS
  have hd := am_oke_dec ho (fun a b c d h => by cases h)
  have hvs := hS.vs
  obtain ⟨-, hr⟩ := hvs
  have hk := k ad H locs ls (hS.sk ⟨am_lenr hsh, hr⟩)
  rw [am_oke_nx ho rfl] at hk
  rw [hp]
  obtain ⟨ty, hty⟩ := am_tys_at (tc := tc) hsh
  exact va_alen hB.1 hB.2.1 hB.2.2.2.2.2.2.2.2.1 hS.2.2.2.1 x t (am_w_arr hx hsh) hty (v := Int32.ofInt (len : Int)) rfl hd hk
theorem gk_iald {y : Int} {x len : Nat} (hs : 0 ≤ y ∧ y < (len : Int)) (hx : x < σ.1) (hsh : am_at am_sh x = some (.inl (0, len))) (hB : am_B dC dI tc M ad0 A p s m args meth c) (ho : am_oke M (pc, .iaload, nx, xs, kk) = true) (hp : am_pcd M i = pc) (k : am_K l dC dI tc M d n0 n1 Q p e s m args below meth c ad0 A nx lv (.inl (σ.2.2.1 x y) :: r) σ) : am_K l dC dI tc M d n0 n1 Q p e s m args below meth c ad0 A i lv (.inl y :: .inr (.inr (some x)) :: r) σ := by
  intro ad H locs ls hS
  have hd := am_oke_dec ho (fun a b c d h => by cases h)
  have hvs := hS.vs
  obtain ⟨hy, -, hr⟩ := hvs
  have hk := k ad H locs ls (hS.sk ⟨(hS.hf.2 x hx).2.1 y, hr⟩)
  rw [am_oke_nx ho rfl] at hk
  rw [hp]
  refine va_iald hB.1 hB.2.1 hB.2.2.2.2.2.2.2.2.1 hS.2.2.2.1 x 0 (am_w_arr hx hsh) rfl (am_in hy hs) hd ?_
  rw [am_cl hy, Int.toNat_of_nonneg hs.1]
  exact hk
theorem gk_cald {y : Int} {x len : Nat} (hs : 0 ≤ y ∧ y < (len : Int)) (hx : x < σ.1) (hsh : am_at am_sh x = some (.inl (1, len))) (hB : am_B dC dI tc M ad0 A p s m args meth c) (ho : am_oke M (pc, .caload, nx, xs, kk) = true) (hp : am_pcd M i = pc) (k : am_K l dC dI tc M d n0 n1 Q p e s m args below meth c ad0 A nx lv (.inl (σ.2.2.1 x y) :: r) σ) : am_K l dC dI tc M d n0 n1 Q p e s m args below meth c ad0 A i lv (.inl y :: .inr (.inr (some x)) :: r) σ := by
  intro ad H locs ls hS
  have hd := am_oke_dec ho (fun a b c d h => by cases h)
  have hvs := hS.vs
  obtain ⟨hy, -, hr⟩ := hvs
  have hk := k ad H locs ls (hS.sk ⟨(hS.hf.2 x hx).2.1 y, hr⟩)
  rw [am_oke_nx ho rfl] at hk
  rw [hp]
  refine va_cald hB.1 hB.2.1 hB.2.2.2.2.2.2.2.2.1 hS.2.2.2.1 x 1 (am_w_arr hx hsh) rfl (am_in hy hs) hd ?_
  rw [am_cl hy, Int.toNat_of_nonneg hs.1]
  exact hk
theorem gk_zald {y : Int} {x len : Nat} (hs : 0 ≤ y ∧ y < (len : Int)) (hx : x < σ.1) (hsh : am_at am_sh x = some (.inl (2, len))) (hB : am_B dC dI tc M ad0 A p s m args meth c) (ho : am_oke M (pc, .baload, nx, xs, kk) = true) (hp : am_pcd M i = pc) (k : am_K l dC dI tc M d n0 n1 Q p e s m args below meth c ad0 A nx lv (.inl (σ.2.2.1 x y) :: r) σ) : am_K l dC dI tc M d n0 n1 Q p e s m args below meth c ad0 A i lv (.inl y :: .inr (.inr (some x)) :: r) σ := by
  intro ad H locs ls hS
  have hd := am_oke_dec ho (fun a b c d h => by cases h)
  have hvs := hS.vs
  obtain ⟨hy, -, hr⟩ := hvs
  have hk := k ad H locs ls (hS.sk ⟨(hS.hf.2 x hx).2.1 y, hr⟩)
  rw [am_oke_nx ho rfl] at hk
  rw [hp]
  refine va_zald hB.1 hB.2.1 hB.2.2.2.2.2.2.2.2.1 hS.2.2.2.1 x 2 (am_w_arr hx hsh) rfl (am_in hy hs) hd ?_
  rw [am_cl hy, Int.toNat_of_nonneg hs.1]
  exact hk
theorem gk_geti {idx ci j x kd : Nat} (hx : x < σ.1) (hsh : am_at am_sh x = some (.inr ci)) (hkd : am_kd ci j = some kd) (hk1 : kd ≠ 1) (hB : am_B dC dI tc M ad0 A p s m args meth c) (ho : am_oke M (pc, .getfield idx, nx, [ci, j], kk) = true) (hp : am_pcd M i = pc) (k : am_K l dC dI tc M d n0 n1 Q p e s m args below meth c ad0 A nx lv (.inl (σ.2.1 x j) :: r) σ) : am_K l dC dI tc M d n0 n1 Q p e s m args below meth c ad0 A i lv (.inr (.inr (some x)) :: r) σ := by
  intro ad H locs ls hS
  have hd := am_oke_dec ho (fun a b c d h => by cases h)
  have hvs := hS.vs
  obtain ⟨-, hr⟩ := hvs
  have hk := k ad H locs ls (hS.sk ⟨(hS.hf.2 x hx).1 j, hr⟩)
  rw [am_oke_nx ho rfl] at hk
  rw [hp]
  obtain ⟨q, hq, hj, hT, hlk⟩ := am_lk_get (am_oke_lk ho)
  obtain ⟨t1, t2, t3, t4⟩ := am_Tc ci q hq
  obtain ⟨ks, hks, hkj⟩ := am_kd_at hkd
  refine va_get (D := (dC, dI)) (C := q.1) (T := q.2.1) (N := q.2.2) hB.1 hB.2.1 hB.2.2.2.2.2.1 t1 hB.2.2.2.2.1 hB.2.2.2.2.2.2.2.2.1 hS.2.2.2.1 x (am_w_obj hx hsh hks) (by rw [← am_at_eq]; exact hq) j hj (hB.2.2.2.2.2.1 _ hlk) (fun z hz => by rw [hT] at hz; exact hz) (am_fs_at hkj) hd ?_
  have e1 : am_f ad σ x j kd = .int (Int32.ofInt (σ.2.1 x j)) := by unfold am_f; rw [if_neg hk1]
  rw [e1]
  exact hk
theorem gk_geta {idx ci j x kd : Nat} (hx : x < σ.1) (hsh : am_at am_sh x = some (.inr ci)) (hkd : am_kd ci j = some kd) (hk1 : kd = 1) (hB : am_B dC dI tc M ad0 A p s m args meth c) (ho : am_oke M (pc, .getfield idx, nx, [ci, j], kk) = true) (hp : am_pcd M i = pc) (k : am_K l dC dI tc M d n0 n1 Q p e s m args below meth c ad0 A nx lv (.inr (.inr (σ.2.2.2 x j)) :: r) σ) : am_K l dC dI tc M d n0 n1 Q p e s m args below meth c ad0 A i lv (.inr (.inr (some x)) :: r) σ := by
  intro ad H locs ls hS
  have hd := am_oke_dec ho (fun a b c d h => by cases h)
  have hvs := hS.vs
  obtain ⟨-, hr⟩ := hvs
  have hk := k ad H locs ls (hS.sk ⟨fun q hq => Or.inl ((hS.hf.2 x hx).2.2 j q hq), hr⟩)
  rw [am_oke_nx ho rfl] at hk
  rw [hp]
  obtain ⟨q, hq, hj, hT, hlk⟩ := am_lk_get (am_oke_lk ho)
  obtain ⟨t1, t2, t3, t4⟩ := am_Tc ci q hq
  obtain ⟨ks, hks, hkj⟩ := am_kd_at hkd
  refine va_get (D := (dC, dI)) (C := q.1) (T := q.2.1) (N := q.2.2) hB.1 hB.2.1 hB.2.2.2.2.2.1 t1 hB.2.2.2.2.1 hB.2.2.2.2.2.2.2.2.1 hS.2.2.2.1 x (am_w_obj hx hsh hks) (by rw [← am_at_eq]; exact hq) j hj (hB.2.2.2.2.2.1 _ hlk) (fun z hz => by rw [hT] at hz; exact hz) (am_fs_at hkj) hd ?_
  have e1 : am_f ad σ x j kd = am_v ad (.inr (.inr (σ.2.2.2 x j))) := by unfold am_f; rw [if_pos hk1]
  rw [e1]
  exact hk
theorem gk_max {idx : Nat} {x y : Int} (hs : 0 < d ∧ r.length ≤ 8) (hc1 : σ.1 ≤ n1) (hB : am_B dC dI tc M ad0 A p s m args meth c) (ho : am_oke M (pc, .invokestatic idx, nx, [], kk) = true) (hp : am_pcd M i = pc) (k : am_K l dC dI tc M d n0 n1 Q p e s m args below meth c ad0 A nx lv (.inl (if x < y then y else x) :: r) σ) : am_K l dC dI tc M d n0 n1 Q p e s m args below meth c ad0 A i lv (.inl y :: .inl x :: r) σ := by
  intro ad H locs ls hS
  have hd := am_oke_dec ho (fun a b c d h => by cases h)
  have hvs := hS.vs
  obtain ⟨hy, hx, hr⟩ := hvs
  have hk := k ad H locs ls (hS.sk ⟨by split <;> assumption, hr⟩)
  rw [am_oke_nx ho rfl] at hk
  rw [hp]
  have hl := am_oke_lk ho
  have hl := am_in_tb hl
  have hn0 := hS.2.1
  refine va_mmax (R := am_rm d n0 n1) hB.1 hB.2.1 (hB.2.2.2.1.trans hS.lh.1.symm) hB.2.2.2.2.1 (hB.2.2.2.2.2.1 _ hl) (hB.2.2.2.2.2.1 _ am_Tmax.1) (hB.2.2.2.2.2.1 _ am_Tmax.2.1) (hB.2.2.2.2.2.1 _ am_Tmax.2.2) hs.1 ?_ ?_ ?_ hd ?_
  · have := am_cats ad r
    show _ ≤ 35 * d
    omega
  · show σ.1 - n0 ≤ n1 - n0
    omega
  · show am_sz σ.1 - am_sz n0 ≤ am_sz n1 - am_sz n0
    have := am_sz_mono hc1
    omega
  · have e1 : (if Int32.ofInt x < Int32.ofInt y then Int32.ofInt y else Int32.ofInt x) = Int32.ofInt (if x < y then y else x) := by
      by_cases q : x < y
      · rw [if_pos q, if_pos ((am_lt hx hy).mpr q)]
      · rw [if_neg q, if_neg (fun z => q ((am_lt hx hy).mp z))]
    rw [e1]
    exact hk
theorem gk_obj {idx x : Nat} (hs : 0 < d ∧ r.length ≤ 8) (hB : am_B dC dI tc M ad0 A p s m args meth c) (ho : am_oke M (pc, .invokespecial idx, nx, [], kk) = true) (hp : am_pcd M i = pc) (k : am_K l dC dI tc M d n0 n1 Q p e s m args below meth c ad0 A nx lv (r) σ) : am_K l dC dI tc M d n0 n1 Q p e s m args below meth c ad0 A i lv (.inr (.inr (some x)) :: r) σ := by
  intro ad H locs ls hS
  have hd := am_oke_dec ho (fun a b c d h => by cases h)
  have hvs := hS.vs
  obtain ⟨-, hr⟩ := hvs
  have hk := k ad H locs ls (hS.sk hr)
  rw [am_oke_nx ho rfl] at hk
  rw [hp]
  have hl := am_oke_lk ho
  have hl := am_in_tb hl
  refine W.objInit hB.1 hB.2.1 hB.2.2.2.2.1 (hB.2.2.2.2.2.1 _ hl) (hB.2.2.2.2.2.1 _ am_Tobj.1) (hB.2.2.2.2.2.1 _ am_Tobj.2) rfl (hS.lh.1.trans hB.2.2.2.1.symm) rfl hd hs.1 ?_ hk
  have := am_cats ad r
  show 2 * 0 + _ + 12 ≤ 35 * d
  omega
theorem gk_istoren {q : Fin 4} {x : Int} {lv' : am_L} (hg : am_sto lv q.val (.inl x) = some lv') (hB : am_B dC dI tc M ad0 A p s m args meth c) (ho : am_oke M (pc, .istore_n q, nx, xs, kk) = true) (hp : am_pcd M i = pc) (k : am_K l dC dI tc M d n0 n1 Q p e s m args below meth c ad0 A nx lv' r σ) : am_K l dC dI tc M d n0 n1 Q p e s m args below meth c ad0 A i lv (.inl x :: r) σ := by
  intro ad H locs ls hS
  have hd := am_oke_dec ho (fun a b c d h => by cases h)
  obtain ⟨hx, hr⟩ := hS.vs
  rw [hp]
  refine lv_istore_n hB.1 hB.2.1 hd rfl hS.lh.has (Nat.lt_of_lt_of_le (am_sto_spec hg).1 hS.lh.2.2.1) rfl (fun ls' hl => ?_)
  have hk := k ad H locs ls' (hS.sto hr hg hx hl)
  rw [am_oke_nx ho rfl] at hk
  exact hk
theorem gk_istore {q : Nat} {x : Int} {lv' : am_L} (hg : am_sto lv q (.inl x) = some lv') (hB : am_B dC dI tc M ad0 A p s m args meth c) (ho : am_oke M (pc, .istore q, nx, xs, kk) = true) (hp : am_pcd M i = pc) (k : am_K l dC dI tc M d n0 n1 Q p e s m args below meth c ad0 A nx lv' r σ) : am_K l dC dI tc M d n0 n1 Q p e s m args below meth c ad0 A i lv (.inl x :: r) σ := by
  intro ad H locs ls hS
  have hd := am_oke_dec ho (fun a b c d h => by cases h)
  obtain ⟨hx, hr⟩ := hS.vs
  rw [hp]
  refine lv_istore hB.1 hB.2.1 hd hS.lh.has (Nat.lt_of_lt_of_le (am_sto_spec hg).1 hS.lh.2.2.1) rfl (fun ls' hl => ?_)
  have hk := k ad H locs ls' (hS.sto hr hg hx hl)
  rw [am_oke_nx ho rfl] at hk
  exact hk
theorem gk_astoren {q : Fin 4} {x : Nat} {lv' : am_L} (hg : am_sto lv q.val (.inr (.inr (some x))) = some lv') (hB : am_B dC dI tc M ad0 A p s m args meth c) (ho : am_oke M (pc, .astore_n q, nx, xs, kk) = true) (hp : am_pcd M i = pc) (k : am_K l dC dI tc M d n0 n1 Q p e s m args below meth c ad0 A nx lv' r σ) : am_K l dC dI tc M d n0 n1 Q p e s m args below meth c ad0 A i lv (.inr (.inr (some x)) :: r) σ := by
  intro ad H locs ls hS
  have hd := am_oke_dec ho (fun a b c d h => by cases h)
  obtain ⟨hx, hr⟩ := hS.vs
  rw [hp]
  refine lv_astore_n hB.1 hB.2.1 hd rfl hS.lh.has (Nat.lt_of_lt_of_le (am_sto_spec hg).1 hS.lh.2.2.1) rfl (fun ls' hl => ?_)
  have hk := k ad H locs ls' (hS.sto hr hg hx hl)
  rw [am_oke_nx ho rfl] at hk
  exact hk
theorem gk_astore {q : Nat} {x : Nat} {lv' : am_L} (hg : am_sto lv q (.inr (.inr (some x))) = some lv') (hB : am_B dC dI tc M ad0 A p s m args meth c) (ho : am_oke M (pc, .astore q, nx, xs, kk) = true) (hp : am_pcd M i = pc) (k : am_K l dC dI tc M d n0 n1 Q p e s m args below meth c ad0 A nx lv' r σ) : am_K l dC dI tc M d n0 n1 Q p e s m args below meth c ad0 A i lv (.inr (.inr (some x)) :: r) σ := by
  intro ad H locs ls hS
  have hd := am_oke_dec ho (fun a b c d h => by cases h)
  obtain ⟨hx, hr⟩ := hS.vs
  rw [hp]
  refine lv_astore hB.1 hB.2.1 hd hS.lh.has (Nat.lt_of_lt_of_le (am_sto_spec hg).1 hS.lh.2.2.1) rfl (fun ls' hl => ?_)
  have hk := k ad H locs ls' (hS.sto hr hg hx hl)
  rw [am_oke_nx ho rfl] at hk
  exact hk
theorem gk_iinc {q : Nat} {x n : Int} {lv' : am_L} (hs : -2147483648 ≤ x + n ∧ x + n ≤ 2147483647) (hg0 : am_get lv q = some (.inl x)) (hg : am_sto lv q (.inl (x + n)) = some lv') (hB : am_B dC dI tc M ad0 A p s m args meth c) (ho : am_oke M (pc, .iinc q n, nx, xs, kk) = true) (hp : am_pcd M i = pc) (k : am_K l dC dI tc M d n0 n1 Q p e s m args below meth c ad0 A nx lv' r σ) : am_K l dC dI tc M d n0 n1 Q p e s m args below meth c ad0 A i lv r σ := by
  intro ad H locs ls hS
  have hd := am_oke_dec ho (fun a b c d h => by cases h)
  rw [hp]
  obtain ⟨kq, hkq⟩ := List.getElem?_of_mem (am_pl_mem (ad := ad) hg0)
  refine lv_iinc hB.1 hB.2.1 hd hS.lh.has hkq (Int32.ofInt_add _ _).symm (Nat.lt_of_lt_of_le (am_sto_spec hg).1 hS.lh.2.2.1) rfl (fun ls' hl => ?_)
  have hk := k ad H locs ls' (hS.sto hS.vs hg hs hl)
  rw [am_oke_nx ho rfl] at hk
  exact hk
end AmGo
end
section
section AmGo2
variable {l : Launch} {dC : Nat → ClassId} {dI : Nat → Nat → Nat} {tc : Nat → ClassId} {M : am_M} {d n0 n1 : Nat} {Q : Option am_V → am_H → Prop} {i : Nat} {lv : am_L} {st : List am_V} {σ : am_H}
variable {p : Program} {e : Env} {s : State} {m : MethodId} {args : Array Value} {below : List Frame} {meth : Method} {c : Code} {ad0 : Nat → Nat} {A : Nat → Prop}
variable {pc nx : Nat} {ins : Instr} {xs : List Nat} {kk : Int} {r : List am_V}
theorem am_hf_u1 {a j : Nat} {x : Int} (h : am_hf σ) (hx : -2147483648 ≤ x ∧ x ≤ 2147483647) : am_hf (σ.1, am_u1 σ.2.1 a j x, σ.2.2.1, σ.2.2.2) := by
  refine ⟨h.1, fun b hb => ⟨fun q => ?_, (h.2 b hb).2⟩⟩
  show -2147483648 ≤ am_u1 σ.2.1 a j x b q ∧ am_u1 σ.2.1 a j x b q ≤ 2147483647
  unfold am_u1
  split
  · split
    · exact hx
    · exact (h.2 b hb).1 q
  · exact (h.2 b hb).1 q
theorem am_hf_u3 {a : Nat} {j x : Int} (h : am_hf σ) (hx : -2147483648 ≤ x ∧ x ≤ 2147483647) : am_hf (σ.1, σ.2.1, am_u3 σ.2.2.1 a j x, σ.2.2.2) := by
  refine ⟨h.1, fun b hb => ⟨(h.2 b hb).1, fun q => ?_, (h.2 b hb).2.2⟩⟩
  show -2147483648 ≤ am_u3 σ.2.2.1 a j x b q ∧ am_u3 σ.2.2.1 a j x b q ≤ 2147483647
  unfold am_u3
  split
  · split
    · exact hx
    · exact (h.2 b hb).2.1 q
  · exact (h.2 b hb).2.1 q
theorem am_hf_u2 {a j : Nat} {k : Option Nat} (h : am_hf σ) (hx : ∀ q, k = some q → q < σ.1) : am_hf (σ.1, σ.2.1, σ.2.2.1, am_u2 σ.2.2.2 a j k) := by
  refine ⟨h.1, fun b hb => ⟨(h.2 b hb).1, (h.2 b hb).2.1, fun q => ?_⟩⟩
  show ∀ z, am_u2 σ.2.2.2 a j k b q = some z → z < σ.1
  unfold am_u2
  split
  · split
    · exact hx
    · exact (h.2 b hb).2.2 q
  · exact (h.2 b hb).2.2 q
theorem am_put_arr {a t len : Nat} {y x : Int} {ad : Nat → Nat} (hy : 0 ≤ y) (ha : a < σ.1) (hsh : am_at am_sh a = some (.inl (t, len))) : (am_w ad tc σ).set a (ad a, .inl (tc t, len, .inl (upd (fun j => Int32.ofInt (σ.2.2.1 a (j : Int))) y.toNat (Int32.ofInt x)))) = am_w ad tc (σ.1, σ.2.1, am_u3 σ.2.2.1 a y x, σ.2.2.2) := by
  refine am_w_put ha rfl ?_ (fun b hb => am_c_same (fun q => rfl) (fun q => by simp [am_u3, hb]) (fun q => rfl))
  unfold am_c
  rw [hsh]
  have e1 : (fun q : Nat => Int32.ofInt (am_u3 σ.2.2.1 a y x a (q : Int))) = upd (fun j => Int32.ofInt (σ.2.2.1 a (j : Int))) y.toNat (Int32.ofInt x) := by
    funext q
    simp only [am_u3, upd, if_true]
    by_cases z : q = y.toNat
    · rw [if_pos z, if_pos (by omega)]
    · rw [if_neg z, if_neg (by omega)]
  simp only [e1]
theorem am_nac {x : Int} (h : 0 ≤ x ∧ x < 65536) : vp_nar .char (Int32.ofInt x) = Int32.ofInt x := by
  have := pk_vc (Int32.ofInt x)
  rwa [am_i2c h] at this
theorem am_naz {x : Int} (h : x = 0 ∨ x = 1) : vp_nar .boolean (Int32.ofInt x) = Int32.ofInt x := by
  rcases h with rfl | rfl <;> decide
theorem gk_iast {x y : Int} {a len : Nat} (hs : 0 ≤ y ∧ y < (len : Int))  (ha : a < σ.1) (hsh : am_at am_sh a = some (.inl (0, len))) (hB : am_B dC dI tc M ad0 A p s m args meth c) (ho : am_oke M (pc, .iastore, nx, xs, kk) = true) (hp : am_pcd M i = pc) (k : am_K l dC dI tc M d n0 n1 Q p e s m args below meth c ad0 A nx lv r (σ.1, σ.2.1, am_u3 σ.2.2.1 a y x, σ.2.2.2)) : am_K l dC dI tc M d n0 n1 Q p e s m args below meth c ad0 A i lv (.inl x :: .inl y :: .inr (.inr (some a)) :: r) σ := by
  intro ad H locs ls hS
  have hd := am_oke_dec ho (fun a b c d h => by cases h)
  obtain ⟨hx, hy, -, hr⟩ := hS.vs
  rw [hp]
  refine va_iast hB.1 hB.2.1 hB.2.2.2.2.2.2.2.2.1 hS.2.2.2.1 hS.2.2.2.2.1 hS.2.2.2.2.2.1 a 0 (am_w_arr ha hsh) rfl (am_in hy hs) hd (fun H1 locs1 hP1 hD1 hS1 => ?_)
  rw [am_cl hy, am_put_arr hs.1 ha hsh] at hP1 hD1
  have hk := k ad H1 locs1 ls ⟨hS.1, hS.2.1, ⟨am_hf_u3 hS.hf hx, hr, hS.2.2.1.2.2⟩, hP1, hD1, hS1, hS.lh⟩
  rw [am_oke_nx ho rfl] at hk
  exact hk
theorem gk_cast {x y : Int} {a len : Nat} (hs : 0 ≤ y ∧ y < (len : Int)) (hs2 : 0 ≤ x ∧ x < 65536) (ha : a < σ.1) (hsh : am_at am_sh a = some (.inl (1, len))) (hB : am_B dC dI tc M ad0 A p s m args meth c) (ho : am_oke M (pc, .castore, nx, xs, kk) = true) (hp : am_pcd M i = pc) (k : am_K l dC dI tc M d n0 n1 Q p e s m args below meth c ad0 A nx lv r (σ.1, σ.2.1, am_u3 σ.2.2.1 a y x, σ.2.2.2)) : am_K l dC dI tc M d n0 n1 Q p e s m args below meth c ad0 A i lv (.inl x :: .inl y :: .inr (.inr (some a)) :: r) σ := by
  intro ad H locs ls hS
  have hd := am_oke_dec ho (fun a b c d h => by cases h)
  obtain ⟨hx, hy, -, hr⟩ := hS.vs
  rw [hp]
  refine va_cast hB.1 hB.2.1 hB.2.2.2.2.2.2.2.2.1 hS.2.2.2.1 hS.2.2.2.2.1 hS.2.2.2.2.2.1 a 1 (am_w_arr ha hsh) rfl (am_in hy hs) hd (fun H1 locs1 hP1 hD1 hS1 => ?_)
  rw [am_cl hy, am_nac hs2, am_put_arr hs.1 ha hsh] at hP1 hD1
  have hk := k ad H1 locs1 ls ⟨hS.1, hS.2.1, ⟨am_hf_u3 hS.hf hx, hr, hS.2.2.1.2.2⟩, hP1, hD1, hS1, hS.lh⟩
  rw [am_oke_nx ho rfl] at hk
  exact hk
theorem gk_zast {x y : Int} {a len : Nat} (hs : 0 ≤ y ∧ y < (len : Int)) (hs2 : x = 0 ∨ x = 1) (ha : a < σ.1) (hsh : am_at am_sh a = some (.inl (2, len))) (hB : am_B dC dI tc M ad0 A p s m args meth c) (ho : am_oke M (pc, .bastore, nx, xs, kk) = true) (hp : am_pcd M i = pc) (k : am_K l dC dI tc M d n0 n1 Q p e s m args below meth c ad0 A nx lv r (σ.1, σ.2.1, am_u3 σ.2.2.1 a y x, σ.2.2.2)) : am_K l dC dI tc M d n0 n1 Q p e s m args below meth c ad0 A i lv (.inl x :: .inl y :: .inr (.inr (some a)) :: r) σ := by
  intro ad H locs ls hS
  have hd := am_oke_dec ho (fun a b c d h => by cases h)
  obtain ⟨hx, hy, -, hr⟩ := hS.vs
  rw [hp]
  refine va_zast hB.1 hB.2.1 hB.2.2.2.2.2.2.2.2.1 hS.2.2.2.1 hS.2.2.2.2.1 hS.2.2.2.2.2.1 a 2 (am_w_arr ha hsh) rfl (am_in hy hs) hd (fun H1 locs1 hP1 hD1 hS1 => ?_)
  rw [am_cl hy, am_naz hs2, am_put_arr hs.1 ha hsh] at hP1 hD1
  have hk := k ad H1 locs1 ls ⟨hS.1, hS.2.1, ⟨am_hf_u3 hS.hf hx, hr, hS.2.2.1.2.2⟩, hP1, hD1, hS1, hS.lh⟩
  rw [am_oke_nx ho rfl] at hk
  exact hk
theorem am_lk_put {idx ci j : Nat} (h : am_lk M (.putfield idx) [ci, j] kk = true) : ∃ q, am_at classes ci = some q ∧ j < q.2.2 ∧ (q.2.1 j).1 = q.1 ∧ Cond.fieldLink M.1.cls idx q.1 (q.2.1 j).2.1 (q.2.1 j).2.2.1 ∈ am_tb ∧ ((q.2.1 j).2.2.2 = false ∨ ((q.2.1 j).2.2.2 = true ∧ M.1.name = "<init>" ∧ q.1 = M.1.cls)) := by
  simp only [am_lk] at h
  split at h
  · rename_i q hq
    simp only [Bool.and_eq_true, Bool.or_eq_true, decide_eq_true_eq, beq_iff_eq] at h
    refine ⟨q, hq, h.1.1.1, h.1.1.2, am_in_tb h.1.2, ?_⟩
    rcases h.2 with z | z
    · exact Or.inl z
    · by_cases f : (q.2.1 j).2.2.2 = false
      · exact Or.inl f
      · exact Or.inr ⟨by simpa using f, z.1, z.2⟩
  · cases h
theorem gk_put {idx ci j a kd : Nat} {v : am_V} {σ' : am_H} (ha : a < σ.1) (hsh : am_at am_sh a = some (.inr ci)) (hkd : am_kd ci j = some kd) (h1 : σ'.1 = σ.1) (hv : ∀ ad, am_f ad σ' a j kd = am_v ad v)
    (hne : ∀ b q, b ≠ a ∨ q ≠ j → σ'.2.1 b q = σ.2.1 b q ∧ σ'.2.2.2 b q = σ.2.2.2 b q) (hg3 : σ'.2.2.1 = σ.2.2.1) (hhf : am_hf σ → am_vf σ.1 v → am_hf σ') (hfit : ∀ (ad : Nat → Nat) (ty : FieldType), am_tyk kd ty = true → narrow ty (am_v ad v) = am_v ad v ∧ fits ty (am_v ad v) = true)
    (hB : am_B dC dI tc M ad0 A p s m args meth c) (ho : am_oke M (pc, .putfield idx, nx, [ci, j], kk) = true) (hp : am_pcd M i = pc) (k : am_K l dC dI tc M d n0 n1 Q p e s m args below meth c ad0 A nx lv r σ') : am_K l dC dI tc M d n0 n1 Q p e s m args below meth c ad0 A i lv (v :: .inr (.inr (some a)) :: r) σ := by
  intro ad H locs ls hS
  have hd := am_oke_dec ho (fun a b c d h => by cases h)
  obtain ⟨hx, -, hr⟩ := hS.vs
  rw [hp]
  obtain ⟨q, hq, hj, hT, hlk, hfin⟩ := am_lk_put (am_oke_lk ho)
  obtain ⟨t1, ⟨ks2, hks2, hlen, htk⟩, t3, t4⟩ := am_Tc ci q hq
  obtain ⟨ks, hks, hkj⟩ := am_kd_at hkd
  have hke : ks = ks2 := Option.some.inj (hks.symm.trans hks2)
  subst hke
  have hcq : classes[ci]? = some q := by rw [← am_at_eq]; exact hq
  have hw : (am_w ad tc σ).set a (ad a, .inr (ci, (am_fs ad σ a ks).set j (am_v ad v))) = am_w ad tc σ' := by
    refine am_w_put ha h1 ?_ (fun b hb => am_c_same (fun q => (hne b q (Or.inl hb)).1) (fun q => by rw [hg3]) (fun q => (hne b q (Or.inl hb)).2))
    unfold am_c
    rw [hsh]
    simp only [hks, Option.getD_some]
    rw [am_fs_set (σ := σ) (σ' := σ') hkj (hv ad) (fun i kd hi => by simp only [am_f, (hne a i (Or.inr hi)).1, (hne a i (Or.inr hi)).2])]
  have hfin2 : ∀ (H1 : Heap) (locs1 : List Loc), va_P (dC, dI) classes ((am_w ad tc σ).set a (ad a, .inr (ci, (am_fs ad σ a ks).set j (am_v ad v)))) H1 → va_D A ((am_w ad tc σ).set a (ad a, .inr (ci, (am_fs ad σ a ks).set j (am_v ad v)))) → va_S A s.heap H1 locs1 → W p l e (am_rm d n0 n1) s m args below meth c H1 locs1 (σ.1 - n0) (am_sz σ.1 - am_sz n0) (MQ below (am_Qc dC dI tc ad0 n0 n1 A Q) args s (n1 - n0) (am_sz n1 - am_sz n0) A) (F0 m (pc + 3) ls (r.map (am_v ad))) := by
    intro H1 locs1 hP1 hD1 hS1
    rw [hw] at hP1 hD1
    have hk := k ad H1 locs1 ls ⟨hS.1, by rw [h1]; exact hS.2.1, ⟨hhf hS.hf hx, by rw [h1]; exact hr, by rw [h1]; exact hS.2.2.1.2.2⟩, hP1, hD1, hS1, hS.lh⟩
    rw [am_oke_nx ho rfl, h1] at hk
    exact hk
  obtain ⟨f1, f2⟩ := hfit ad _ (htk j kd hkj)
  rcases hfin with f | ⟨f, f3, f4⟩
  · exact va_put (D := (dC, dI)) (C := q.1) (T := q.2.1) (N := q.2.2) hB.1 hB.2.1 hB.2.2.2.2.2.1 t1 (am_ty ci) t3 t4 hB.2.2.2.2.1 hB.2.2.2.2.2.2.2.2.1 hS.2.2.2.1 hS.2.2.2.2.1 hS.2.2.2.2.2.1 a (am_w_obj ha hsh hks) hcq j hj (hB.2.2.2.2.2.1 _ hlk) (fun z hz => by rw [hT] at hz; exact hz) f (t3 j hj) f1 f2 (by simp only [am_fs, List.length_mapIdx]; omega) hd hfin2
  · exact va_putF (D := (dC, dI)) (C := q.1) (T := q.2.1) (N := q.2.2) hB.1 hB.2.1 hB.2.2.2.2.2.1 t1 (am_ty ci) t3 t4 hB.2.2.2.2.1 hB.2.2.2.2.2.2.2.2.1 hS.2.2.2.1 hS.2.2.2.2.1 hS.2.2.2.2.2.1 a (am_w_obj ha hsh hks) hcq j hj (hB.2.2.2.2.2.1 _ hlk) (fun z hz => by rw [hT] at hz; exact hz) f (hB.2.2.2.2.2.2.2.1.trans f3) (hT.trans f4) (t3 j hj) f1 f2 (by simp only [am_fs, List.length_mapIdx]; omega) hd hfin2
theorem am_u1_ne {h : Nat → Nat → Int} {a j : Nat} {x : Int} {b q : Nat} (hne : b ≠ a ∨ q ≠ j) : am_u1 h a j x b q = h b q := by
  unfold am_u1
  split
  · split
    · rename_i h1 h2
      exact absurd h1 (by rcases hne with z | z; exact z; exact absurd h2 z)
    · rfl
  · rfl
theorem am_u2_ne {h : Nat → Nat → Option Nat} {a j : Nat} {x : Option Nat} {b q : Nat} (hne : b ≠ a ∨ q ≠ j) : am_u2 h a j x b q = h b q := by
  unfold am_u2
  split
  · split
    · rename_i h1 h2
      exact absurd h1 (by rcases hne with z | z; exact z; exact absurd h2 z)
    · rfl
  · rfl
theorem am_u1_eq {h : Nat → Nat → Int} {a j : Nat} {x : Int} : am_u1 h a j x a j = x := by simp [am_u1]
theorem am_u2_eq {h : Nat → Nat → Option Nat} {a j : Nat} {x : Option Nat} : am_u2 h a j x a j = x := by simp [am_u2]
theorem gk_puti {idx ci j a : Nat} {x : Int} (ha : a < σ.1) (hsh : am_at am_sh a = some (.inr ci)) (hkd : am_kd ci j = some 0)
    (hB : am_B dC dI tc M ad0 A p s m args meth c) (ho : am_oke M (pc, .putfield idx, nx, [ci, j], kk) = true) (hp : am_pcd M i = pc) (k : am_K l dC dI tc M d n0 n1 Q p e s m args below meth c ad0 A nx lv r (σ.1, am_u1 σ.2.1 a j x, σ.2.2.1, σ.2.2.2)) : am_K l dC dI tc M d n0 n1 Q p e s m args below meth c ad0 A i lv (.inl x :: .inr (.inr (some a)) :: r) σ :=
  gk_put (σ' := (σ.1, am_u1 σ.2.1 a j x, σ.2.2.1, σ.2.2.2)) ha hsh hkd rfl (fun ad => by simp [am_f, am_v, am_u1_eq]) (fun b q h => ⟨am_u1_ne h, rfl⟩) rfl (fun h1 h2 => am_hf_u1 h1 h2) (fun ad ty h => by cases ty <;> simp_all [am_tyk, am_v, narrow, fits]) hB ho hp k
theorem gk_putz {idx ci j a : Nat} {x : Int} (hs : x = 0 ∨ x = 1) (ha : a < σ.1) (hsh : am_at am_sh a = some (.inr ci)) (hkd : am_kd ci j = some 2)
    (hB : am_B dC dI tc M ad0 A p s m args meth c) (ho : am_oke M (pc, .putfield idx, nx, [ci, j], kk) = true) (hp : am_pcd M i = pc) (k : am_K l dC dI tc M d n0 n1 Q p e s m args below meth c ad0 A nx lv r (σ.1, am_u1 σ.2.1 a j x, σ.2.2.1, σ.2.2.2)) : am_K l dC dI tc M d n0 n1 Q p e s m args below meth c ad0 A i lv (.inl x :: .inr (.inr (some a)) :: r) σ :=
  gk_put (σ' := (σ.1, am_u1 σ.2.1 a j x, σ.2.2.1, σ.2.2.2)) ha hsh hkd rfl (fun ad => by simp [am_f, am_v, am_u1_eq]) (fun b q h => ⟨am_u1_ne h, rfl⟩) rfl (fun h1 h2 => am_hf_u1 h1 h2) (fun ad ty h => by
    have e : ty = .boolean := by cases ty <;> simp_all [am_tyk]
    subst e
    rcases hs with rfl | rfl
    · exact ⟨(by decide : narrow .boolean (.int (Int32.ofInt 0)) = .int (Int32.ofInt 0)), (by decide : fits .boolean (.int (Int32.ofInt 0)) = true)⟩
    · exact ⟨(by decide : narrow .boolean (.int (Int32.ofInt 1)) = .int (Int32.ofInt 1)), (by decide : fits .boolean (.int (Int32.ofInt 1)) = true)⟩) hB ho hp k
theorem gk_puta {idx ci j a b : Nat} (ha : a < σ.1) (hb : b < σ.1) (hsh : am_at am_sh a = some (.inr ci)) (hkd : am_kd ci j = some 1)
    (hB : am_B dC dI tc M ad0 A p s m args meth c) (ho : am_oke M (pc, .putfield idx, nx, [ci, j], kk) = true) (hp : am_pcd M i = pc) (k : am_K l dC dI tc M d n0 n1 Q p e s m args below meth c ad0 A nx lv r (σ.1, σ.2.1, σ.2.2.1, am_u2 σ.2.2.2 a j (some b))) : am_K l dC dI tc M d n0 n1 Q p e s m args below meth c ad0 A i lv (.inr (.inr (some b)) :: .inr (.inr (some a)) :: r) σ :=
  gk_put (σ' := (σ.1, σ.2.1, σ.2.2.1, am_u2 σ.2.2.2 a j (some b))) ha hsh hkd rfl (fun ad => by simp [am_f, am_u2_eq]) (fun b q h => ⟨rfl, am_u2_ne h⟩) rfl (fun h1 h2 => am_hf_u2 h1 (fun q hq => by cases hq; exact hb)) (fun ad ty h => by cases ty <;> simp_all [am_tyk, am_v, narrow, fits]) hB ho hp k
theorem gk_ifeq {o : Int} {t : Nat} {x : Int} (hB : am_B dC dI tc M ad0 A p s m args meth c) (ho : am_oke M (pc, .ifCond .eq o, nx, [t], kk) = true) (hp : am_pcd M i = pc) (kt : x = 0 → am_K l dC dI tc M d n0 n1 Q p e s m args below meth c ad0 A t lv r σ) (kf : ¬ (x = 0) → am_K l dC dI tc M d n0 n1 Q p e s m args below meth c ad0 A nx lv r σ) : am_K l dC dI tc M d n0 n1 Q p e s m args below meth c ad0 A i lv (.inl x :: r) σ := by
  intro ad H locs ls hS
  have hd := am_oke_dec ho (fun a b c d h => by cases h)
  obtain ⟨hx, hr⟩ := hS.vs
  rw [hp]
  refine lv_if_eq hB.1 hB.2.1 hd (am_oke_t ho rfl) (fun z => kt ((am_eq0 hx).mp z) ad H locs ls (hS.sk hr)) (fun z => ?_)
  have hk := kf ((not_congr (am_eq0 hx)).mp z) ad H locs ls (hS.sk hr)
  rw [am_oke_nx ho rfl] at hk
  exact hk
theorem gk_ifne {o : Int} {t : Nat} {x : Int} (hB : am_B dC dI tc M ad0 A p s m args meth c) (ho : am_oke M (pc, .ifCond .ne o, nx, [t], kk) = true) (hp : am_pcd M i = pc) (kt : ¬ x = 0 → am_K l dC dI tc M d n0 n1 Q p e s m args below meth c ad0 A t lv r σ) (kf : ¬ (¬ x = 0) → am_K l dC dI tc M d n0 n1 Q p e s m args below meth c ad0 A nx lv r σ) : am_K l dC dI tc M d n0 n1 Q p e s m args below meth c ad0 A i lv (.inl x :: r) σ := by
  intro ad H locs ls hS
  have hd := am_oke_dec ho (fun a b c d h => by cases h)
  obtain ⟨hx, hr⟩ := hS.vs
  rw [hp]
  refine lv_if_ne hB.1 hB.2.1 hd (am_oke_t ho rfl) (fun z => kt ((not_congr (am_eq0 hx)).mp z) ad H locs ls (hS.sk hr)) (fun z => ?_)
  have hk := kf (fun q => q ((am_eq0 hx).mp z)) ad H locs ls (hS.sk hr)
  rw [am_oke_nx ho rfl] at hk
  exact hk
theorem gk_iflt {o : Int} {t : Nat} {x : Int} (hB : am_B dC dI tc M ad0 A p s m args meth c) (ho : am_oke M (pc, .ifCond .lt o, nx, [t], kk) = true) (hp : am_pcd M i = pc) (kt : x < 0 → am_K l dC dI tc M d n0 n1 Q p e s m args below meth c ad0 A t lv r σ) (kf : ¬ (x < 0) → am_K l dC dI tc M d n0 n1 Q p e s m args below meth c ad0 A nx lv r σ) : am_K l dC dI tc M d n0 n1 Q p e s m args below meth c ad0 A i lv (.inl x :: r) σ := by
  intro ad H locs ls hS
  have hd := am_oke_dec ho (fun a b c d h => by cases h)
  obtain ⟨hx, hr⟩ := hS.vs
  rw [hp]
  refine lv_if_lt hB.1 hB.2.1 hd (am_oke_t ho rfl) (fun z => kt ((am_lt0 hx).mp z) ad H locs ls (hS.sk hr)) (fun z => ?_)
  have hk := kf ((not_congr (am_lt0 hx)).mp z) ad H locs ls (hS.sk hr)
  rw [am_oke_nx ho rfl] at hk
  exact hk
theorem gk_ifge {o : Int} {t : Nat} {x : Int} (hB : am_B dC dI tc M ad0 A p s m args meth c) (ho : am_oke M (pc, .ifCond .ge o, nx, [t], kk) = true) (hp : am_pcd M i = pc) (kt : 0 ≤ x → am_K l dC dI tc M d n0 n1 Q p e s m args below meth c ad0 A t lv r σ) (kf : ¬ (0 ≤ x) → am_K l dC dI tc M d n0 n1 Q p e s m args below meth c ad0 A nx lv r σ) : am_K l dC dI tc M d n0 n1 Q p e s m args below meth c ad0 A i lv (.inl x :: r) σ := by
  intro ad H locs ls hS
  have hd := am_oke_dec ho (fun a b c d h => by cases h)
  obtain ⟨hx, hr⟩ := hS.vs
  rw [hp]
  refine lv_if_ge hB.1 hB.2.1 hd (am_oke_t ho rfl) (fun z => kt ((am_0le hx).mp z) ad H locs ls (hS.sk hr)) (fun z => ?_)
  have hk := kf ((not_congr (am_0le hx)).mp z) ad H locs ls (hS.sk hr)
  rw [am_oke_nx ho rfl] at hk
  exact hk
theorem gk_ifgt {o : Int} {t : Nat} {x : Int} (hB : am_B dC dI tc M ad0 A p s m args meth c) (ho : am_oke M (pc, .ifCond .gt o, nx, [t], kk) = true) (hp : am_pcd M i = pc) (kt : 0 < x → am_K l dC dI tc M d n0 n1 Q p e s m args below meth c ad0 A t lv r σ) (kf : ¬ (0 < x) → am_K l dC dI tc M d n0 n1 Q p e s m args below meth c ad0 A nx lv r σ) : am_K l dC dI tc M d n0 n1 Q p e s m args below meth c ad0 A i lv (.inl x :: r) σ := by
  intro ad H locs ls hS
  have hd := am_oke_dec ho (fun a b c d h => by cases h)
  obtain ⟨hx, hr⟩ := hS.vs
  rw [hp]
  refine lv_if_gt hB.1 hB.2.1 hd (am_oke_t ho rfl) (fun z => kt ((am_0lt hx).mp z) ad H locs ls (hS.sk hr)) (fun z => ?_)
  have hk := kf ((not_congr (am_0lt hx)).mp z) ad H locs ls (hS.sk hr)
  rw [am_oke_nx ho rfl] at hk
  exact hk
theorem gk_ifle {o : Int} {t : Nat} {x : Int} (hB : am_B dC dI tc M ad0 A p s m args meth c) (ho : am_oke M (pc, .ifCond .le o, nx, [t], kk) = true) (hp : am_pcd M i = pc) (kt : x ≤ 0 → am_K l dC dI tc M d n0 n1 Q p e s m args below meth c ad0 A t lv r σ) (kf : ¬ (x ≤ 0) → am_K l dC dI tc M d n0 n1 Q p e s m args below meth c ad0 A nx lv r σ) : am_K l dC dI tc M d n0 n1 Q p e s m args below meth c ad0 A i lv (.inl x :: r) σ := by
  intro ad H locs ls hS
  have hd := am_oke_dec ho (fun a b c d h => by cases h)
  obtain ⟨hx, hr⟩ := hS.vs
  rw [hp]
  refine lv_if_le hB.1 hB.2.1 hd (am_oke_t ho rfl) (fun z => kt ((am_le0 hx).mp z) ad H locs ls (hS.sk hr)) (fun z => ?_)
  have hk := kf ((not_congr (am_le0 hx)).mp z) ad H locs ls (hS.sk hr)
  rw [am_oke_nx ho rfl] at hk
  exact hk
theorem gk_iceq {o : Int} {t : Nat} {x y : Int} (hB : am_B dC dI tc M ad0 A p s m args meth c) (ho : am_oke M (pc, .if_icmp .eq o, nx, [t], kk) = true) (hp : am_pcd M i = pc) (kt : x = y → am_K l dC dI tc M d n0 n1 Q p e s m args below meth c ad0 A t lv r σ) (kf : ¬ (x = y) → am_K l dC dI tc M d n0 n1 Q p e s m args below meth c ad0 A nx lv r σ) : am_K l dC dI tc M d n0 n1 Q p e s m args below meth c ad0 A i lv (.inl y :: .inl x :: r) σ := by
  intro ad H locs ls hS
  have hd := am_oke_dec ho (fun a b c d h => by cases h)
  obtain ⟨hy, hx, hr⟩ := hS.vs
  rw [hp]
  refine lv_icmp_eq hB.1 hB.2.1 hd (am_oke_t ho rfl) (fun z => kt ((am_eq hx hy).mp z) ad H locs ls (hS.sk hr)) (fun z => ?_)
  have hk := kf ((not_congr (am_eq hx hy)).mp z) ad H locs ls (hS.sk hr)
  rw [am_oke_nx ho rfl] at hk
  exact hk
theorem gk_icne {o : Int} {t : Nat} {x y : Int} (hB : am_B dC dI tc M ad0 A p s m args meth c) (ho : am_oke M (pc, .if_icmp .ne o, nx, [t], kk) = true) (hp : am_pcd M i = pc) (kt : ¬ x = y → am_K l dC dI tc M d n0 n1 Q p e s m args below meth c ad0 A t lv r σ) (kf : ¬ (¬ x = y) → am_K l dC dI tc M d n0 n1 Q p e s m args below meth c ad0 A nx lv r σ) : am_K l dC dI tc M d n0 n1 Q p e s m args below meth c ad0 A i lv (.inl y :: .inl x :: r) σ := by
  intro ad H locs ls hS
  have hd := am_oke_dec ho (fun a b c d h => by cases h)
  obtain ⟨hy, hx, hr⟩ := hS.vs
  rw [hp]
  refine lv_icmp_ne hB.1 hB.2.1 hd (am_oke_t ho rfl) (fun z => kt ((not_congr (am_eq hx hy)).mp z) ad H locs ls (hS.sk hr)) (fun z => ?_)
  have hk := kf (fun q => q ((am_eq hx hy).mp z)) ad H locs ls (hS.sk hr)
  rw [am_oke_nx ho rfl] at hk
  exact hk
theorem gk_iclt {o : Int} {t : Nat} {x y : Int} (hB : am_B dC dI tc M ad0 A p s m args meth c) (ho : am_oke M (pc, .if_icmp .lt o, nx, [t], kk) = true) (hp : am_pcd M i = pc) (kt : x < y → am_K l dC dI tc M d n0 n1 Q p e s m args below meth c ad0 A t lv r σ) (kf : ¬ (x < y) → am_K l dC dI tc M d n0 n1 Q p e s m args below meth c ad0 A nx lv r σ) : am_K l dC dI tc M d n0 n1 Q p e s m args below meth c ad0 A i lv (.inl y :: .inl x :: r) σ := by
  intro ad H locs ls hS
  have hd := am_oke_dec ho (fun a b c d h => by cases h)
  obtain ⟨hy, hx, hr⟩ := hS.vs
  rw [hp]
  refine lv_icmp_lt hB.1 hB.2.1 hd (am_oke_t ho rfl) (fun z => kt ((am_lt hx hy).mp z) ad H locs ls (hS.sk hr)) (fun z => ?_)
  have hk := kf ((not_congr (am_lt hx hy)).mp z) ad H locs ls (hS.sk hr)
  rw [am_oke_nx ho rfl] at hk
  exact hk
theorem gk_icge {o : Int} {t : Nat} {x y : Int} (hB : am_B dC dI tc M ad0 A p s m args meth c) (ho : am_oke M (pc, .if_icmp .ge o, nx, [t], kk) = true) (hp : am_pcd M i = pc) (kt : y ≤ x → am_K l dC dI tc M d n0 n1 Q p e s m args below meth c ad0 A t lv r σ) (kf : ¬ (y ≤ x) → am_K l dC dI tc M d n0 n1 Q p e s m args below meth c ad0 A nx lv r σ) : am_K l dC dI tc M d n0 n1 Q p e s m args below meth c ad0 A i lv (.inl y :: .inl x :: r) σ := by
  intro ad H locs ls hS
  have hd := am_oke_dec ho (fun a b c d h => by cases h)
  obtain ⟨hy, hx, hr⟩ := hS.vs
  rw [hp]
  refine lv_icmp_ge hB.1 hB.2.1 hd (am_oke_t ho rfl) (fun z => kt ((am_le hy hx).mp z) ad H locs ls (hS.sk hr)) (fun z => ?_)
  have hk := kf ((not_congr (am_le hy hx)).mp z) ad H locs ls (hS.sk hr)
  rw [am_oke_nx ho rfl] at hk
  exact hk
theorem gk_icgt {o : Int} {t : Nat} {x y : Int} (hB : am_B dC dI tc M ad0 A p s m args meth c) (ho : am_oke M (pc, .if_icmp .gt o, nx, [t], kk) = true) (hp : am_pcd M i = pc) (kt : y < x → am_K l dC dI tc M d n0 n1 Q p e s m args below meth c ad0 A t lv r σ) (kf : ¬ (y < x) → am_K l dC dI tc M d n0 n1 Q p e s m args below meth c ad0 A nx lv r σ) : am_K l dC dI tc M d n0 n1 Q p e s m args below meth c ad0 A i lv (.inl y :: .inl x :: r) σ := by
  intro ad H locs ls hS
  have hd := am_oke_dec ho (fun a b c d h => by cases h)
  obtain ⟨hy, hx, hr⟩ := hS.vs
  rw [hp]
  refine lv_icmp_gt hB.1 hB.2.1 hd (am_oke_t ho rfl) (fun z => kt ((am_lt hy hx).mp z) ad H locs ls (hS.sk hr)) (fun z => ?_)
  have hk := kf ((not_congr (am_lt hy hx)).mp z) ad H locs ls (hS.sk hr)
  rw [am_oke_nx ho rfl] at hk
  exact hk
theorem gk_icle {o : Int} {t : Nat} {x y : Int} (hB : am_B dC dI tc M ad0 A p s m args meth c) (ho : am_oke M (pc, .if_icmp .le o, nx, [t], kk) = true) (hp : am_pcd M i = pc) (kt : x ≤ y → am_K l dC dI tc M d n0 n1 Q p e s m args below meth c ad0 A t lv r σ) (kf : ¬ (x ≤ y) → am_K l dC dI tc M d n0 n1 Q p e s m args below meth c ad0 A nx lv r σ) : am_K l dC dI tc M d n0 n1 Q p e s m args below meth c ad0 A i lv (.inl y :: .inl x :: r) σ := by
  intro ad H locs ls hS
  have hd := am_oke_dec ho (fun a b c d h => by cases h)
  obtain ⟨hy, hx, hr⟩ := hS.vs
  rw [hp]
  refine lv_icmp_le hB.1 hB.2.1 hd (am_oke_t ho rfl) (fun z => kt ((am_le hx hy).mp z) ad H locs ls (hS.sk hr)) (fun z => ?_)
  have hk := kf ((not_congr (am_le hx hy)).mp z) ad H locs ls (hS.sk hr)
  rw [am_oke_nx ho rfl] at hk
  exact hk
theorem gk_iret {x : Int} (hret : M.2.2.2.1 = some .int) (hn : σ.1 = n1) (hq : Q (some (.inl x)) σ) (hB : am_B dC dI tc M ad0 A p s m args meth c) (ho : am_oke M (pc, .ireturn, nx, xs, kk) = true) (hp : am_pcd M i = pc) : am_K l dC dI tc M d n0 n1 Q p e s m args below meth c ad0 A i lv [.inl x] σ := by
  intro ad H locs ls hS
  have hd := am_oke_dec ho (fun a b c d h => by cases h)
  rw [hp]
  subst hn
  have hlocks := hB.2.2.2.2.2.2.1
  exact W.iret hB.1 hB.2.1 (hB.2.2.1.trans hret) (fun t ht hW => ⟨⟨some (.inl x), σ, ad, rfl, hq, hS.1, rfl, hS.hf, fun v hv => by cases hv; exact hS.vs.1, by rw [ht]; exact hS.2.2.2.1, hS.2.2.2.2.1⟩, hS.2.2.2.2.2.1.F ht⟩) hS.2.2.2.2.2.1.2.2 hd hlocks
theorem gk_zret {x : Int} (hret : M.2.2.2.1 = some .boolean) (hz : x = 0 ∨ x = 1) (hn : σ.1 = n1) (hq : Q (some (.inl x)) σ) (hB : am_B dC dI tc M ad0 A p s m args meth c) (ho : am_oke M (pc, .ireturn, nx, xs, kk) = true) (hp : am_pcd M i = pc) : am_K l dC dI tc M d n0 n1 Q p e s m args below meth c ad0 A i lv [.inl x] σ := by
  intro ad H locs ls hS
  have hd := am_oke_dec ho (fun a b c d h => by cases h)
  rw [hp]
  subst hn
  have hlocks := hB.2.2.2.2.2.2.1
  exact W.zret hB.1 hB.2.1 (hB.2.2.1.trans hret) (by rcases hz with rfl | rfl <;> decide) (fun t ht hW => ⟨⟨some (.inl x), σ, ad, rfl, hq, hS.1, rfl, hS.hf, fun v hv => by cases hv; exact hS.vs.1, by rw [ht]; exact hS.2.2.2.1, hS.2.2.2.2.1⟩, hS.2.2.2.2.2.1.F ht⟩) hS.2.2.2.2.2.1.2.2 hd hlocks
theorem gk_lret {x : Int} (hret : M.2.2.2.1 = some .long) (hn : σ.1 = n1) (hq : Q (some (.inr (.inl x))) σ) (hB : am_B dC dI tc M ad0 A p s m args meth c) (ho : am_oke M (pc, .lreturn, nx, xs, kk) = true) (hp : am_pcd M i = pc) : am_K l dC dI tc M d n0 n1 Q p e s m args below meth c ad0 A i lv [.inr (.inl x)] σ := by
  intro ad H locs ls hS
  have hd := am_oke_dec ho (fun a b c d h => by cases h)
  rw [hp]
  subst hn
  have hlocks := hB.2.2.2.2.2.2.1
  exact W.lret hB.1 hB.2.1 (hB.2.2.1.trans hret) (fun t ht hW => ⟨⟨some (.inr (.inl x)), σ, ad, rfl, hq, hS.1, rfl, hS.hf, fun v hv => by cases hv; exact hS.vs.1, by rw [ht]; exact hS.2.2.2.1, hS.2.2.2.2.1⟩, hS.2.2.2.2.2.1.F ht⟩) hS.2.2.2.2.2.1.2.2 hd hlocks
theorem gk_vret {x : Int} (hret : M.2.2.2.1 = none) (hn : σ.1 = n1) (hq : Q (none) σ) (hB : am_B dC dI tc M ad0 A p s m args meth c) (ho : am_oke M (pc, .return_, nx, xs, kk) = true) (hp : am_pcd M i = pc) : am_K l dC dI tc M d n0 n1 Q p e s m args below meth c ad0 A i lv [] σ := by
  intro ad H locs ls hS
  have hd := am_oke_dec ho (fun a b c d h => by cases h)
  rw [hp]
  subst hn
  have hlocks := hB.2.2.2.2.2.2.1
  exact W.vret hB.1 hB.2.1 (hB.2.2.1.trans hret) (fun t ht hW => ⟨⟨none, σ, ad, rfl, hq, hS.1, rfl, hS.hf, (fun v hv => by cases hv), by rw [ht]; exact hS.2.2.2.1, hS.2.2.2.2.1⟩, hS.2.2.2.2.2.1.F ht⟩) hS.2.2.2.2.2.1.2.2 hd hlocks
theorem gk_aret {x : Nat} {cn : String} (hret : M.2.2.2.1 = some (.object cn)) (hn : σ.1 = n1) (hq : Q (some (.inr (.inr (some x)))) σ) (hB : am_B dC dI tc M ad0 A p s m args meth c) (ho : am_oke M (pc, .areturn, nx, xs, kk) = true) (hp : am_pcd M i = pc) : am_K l dC dI tc M d n0 n1 Q p e s m args below meth c ad0 A i lv [.inr (.inr (some x))] σ := by
  intro ad H locs ls hS
  have hd := am_oke_dec ho (fun a b c d h => by cases h)
  rw [hp]
  subst hn
  have hlocks := hB.2.2.2.2.2.2.1
  exact W.aret hB.1 hB.2.1 (hB.2.2.1.trans hret) (Or.inl ⟨cn, rfl⟩) (Or.inr ⟨ad x, rfl⟩) (fun t ht hW => ⟨⟨some (.inr (.inr (some x))), σ, ad, rfl, hq, hS.1, rfl, hS.hf, fun v hv => by cases hv; exact hS.vs.1, by rw [ht]; exact hS.2.2.2.1, hS.2.2.2.2.1⟩, hS.2.2.2.2.2.1.F ht⟩) hS.2.2.2.2.2.1.2.2 hd hlocks
end AmGo2
end
section
section AmGo3
variable {l : Launch} {dC : Nat → ClassId} {dI : Nat → Nat → Nat} {tc : Nat → ClassId} {M : am_M} {d n0 n1 : Nat} {Q : Option am_V → am_H → Prop} {i : Nat} {lv : am_L} {st : List am_V} {σ : am_H}
variable {p : Program} {e : Env} {s : State} {m : MethodId} {args : Array Value} {below : List Frame} {meth : Method} {c : Code} {ad0 : Nat → Nat} {A : Nat → Prop}
variable {pc nx : Nat} {ins : Instr} {xs : List Nat} {kk : Int} {r : List am_V} {n : Nat} {h : Nat → Nat → Int} {g : Nat → Int → Int} {rf : Nat → Nat → Option Nat}
def am_ua (ad : Nat → Nat) (n q : Nat) : Nat → Nat := fun k => if k = n then q else ad k
theorem am_v_ad {ad ad' : Nat → Nat} {n : Nat} (h : ∀ k, k < n ∨ 1000 ≤ k → ad' k = ad k) {v : am_V} (hv : am_vf n v) : am_v ad' v = am_v ad v := by
  rcases v with x | y | k
  · rfl
  · rfl
  · cases k with
    | none => rfl
    | some k =>
      have : ad' k = ad k := h k (hv k rfl)
      simp only [am_v, this]
theorem am_vs_ad {ad ad' : Nat → Nat} {n : Nat} (h : ∀ k, k < n ∨ 1000 ≤ k → ad' k = ad k) {st : List am_V} (hv : am_vs n st) : st.map (am_v ad') = st.map (am_v ad) := by
  apply List.map_congr_left
  intro v q
  exact am_v_ad h (am_vs_mem hv v q)
theorem am_lh_ad {ad ad' : Nat → Nat} {n nL : Nat} {ls : Array Slot} (h : ∀ k, k < n ∨ 1000 ≤ k → ad' k = ad k) (hv : ∀ i v, am_get lv i = some v → am_vf n v) (hl : am_lh ad ls nL lv) : am_lh ad' ls nL lv :=
  ⟨hl.1, hl.2.1, hl.2.2.1, fun i v hi => by rw [am_v_ad h (hv i v hi)]; exact hl.2.2.2 i v hi⟩
theorem am_ua_ad {ad : Nat → Nat} {n q : Nat} (hn : n < 1000) : ∀ k, k < n ∨ 1000 ≤ k → am_ua ad n q k = ad k := by
  intro k hk
  unfold am_ua
  rw [if_neg (by omega)]
theorem am_w_new {ad : Nat → Nat} {q : Nat} {E : va_E} (hn : n < 1000) (hf : am_hf (n, h, g, rf)) (hE : am_c (am_ua ad n q) tc (n + 1, am_n1 h n, am_n3 g n, am_n2 rf n) n = (q, E)) : am_w ad tc (n, h, g, rf) ++ [(q, E)] = am_w (am_ua ad n q) tc (n + 1, am_n1 h n, am_n3 g n, am_n2 rf n) := by
  unfold am_w
  show _ = List.map _ (List.range (n + 1))
  rw [List.range_succ, List.map_append, List.map_singleton, hE]
  congr 1
  apply List.map_congr_left
  intro b hb
  have hb : b < n := List.mem_range.mp hb
  have e0 : am_ua ad n q b = ad b := am_ua_ad hn b (Or.inl hb)
  have e1 : ∀ j, am_n1 h n b j = h b j := fun j => by unfold am_n1; rw [if_neg (by omega)]
  have e4 : ∀ j, am_n3 g n b j = g b j := fun j => by unfold am_n3; rw [if_neg (by omega)]
  have e2 : ∀ j, am_n2 rf n b j = rf b j := fun j => by unfold am_n2; rw [if_neg (by omega)]
  have e3 : ∀ ks : List Nat, am_fs (am_ua ad n q) (n + 1, am_n1 h n, am_n3 g n, am_n2 rf n) b ks = am_fs ad (n, h, g, rf) b ks := fun ks => by
    unfold am_fs
    congr 1
    funext j kd
    simp only [am_f, e1, e2]
    rw [am_v_ad (am_ua_ad hn) (show am_vf n (.inr (.inr (rf b j))) from fun q hq => Or.inl ((hf.2 b hb).2.2 j q hq))]
  unfold am_c
  simp only [e0, e4, e3]
theorem am_hf_new (hn : n < 1000) (hf : am_hf (n, h, g, rf)) : am_hf (n + 1, am_n1 h n, am_n3 g n, am_n2 rf n) := by
  refine ⟨hn, fun b hb => ?_⟩
  show (∀ j, -2147483648 ≤ am_n1 h n b j ∧ am_n1 h n b j ≤ 2147483647) ∧ (∀ j, -2147483648 ≤ am_n3 g n b j ∧ am_n3 g n b j ≤ 2147483647) ∧ ∀ j q, am_n2 rf n b j = some q → q < n + 1
  by_cases z : b = n
  · simp only [am_n1, am_n2, am_n3, if_pos z]
    exact ⟨fun _ => by omega, fun _ => by omega, fun j q hq => by cases hq⟩
  · simp only [am_n1, am_n2, am_n3, if_neg z]
    have hb : b < n + 1 := hb
    have := hf.2 b (show b < n by omega)
    exact ⟨this.1, this.2.1, fun j q hq => Nat.lt_succ_of_lt (this.2.2 j q hq)⟩
theorem am_ra_prim {U : State} {c1 c2 : ClassId} {ty : FieldType} (hp : ty = .int ∨ ty = .char ∨ ty = .boolean) (h1 : va_RA U c1 ty) (h2 : va_RA U c2 ty) : c1 = c2 := by
  rcases hp with rfl | rfl | rfl <;> exact Option.some.inj (h1.symm.trans h2)
theorem gk_newa {x : Int} {aty : ArrayType} {ty : FieldType} {t len : Nat} (hx : x = (len : Int)) (hn1 : n < n1) (hsh : am_at am_sh n = some (.inl (t, len))) (hty : newarray.typeOf aty = ty) (ht : (am_tys tc)[t]? = some (tc t, ty)) (hpr : ty = .int ∨ ty = .char ∨ ty = .boolean)
    (hB : am_B dC dI tc M ad0 A p s m args meth c) (ho : am_oke M (pc, .newarray aty, nx, xs, kk) = true) (hp : am_pcd M i = pc) (k : am_K l dC dI tc M d n0 n1 Q p e s m args below meth c ad0 A nx lv (.inr (.inr (some n)) :: r) (n + 1, am_n1 h n, am_n3 g n, am_n2 rf n)) : am_K l dC dI tc M d n0 n1 Q p e s m args below meth c ad0 A i lv (.inl x :: r) (n, h, g, rf) := by
  intro ad H locs ls hS
  have hd := am_oke_dec ho (fun a b c d h => by cases h)
  obtain ⟨hxr, hr⟩ := hS.vs
  have hn0 : n0 ≤ n := hS.2.1
  have hnk : n < 1000 := am_Tsh1 n _ hsh
  have hlen := am_Tlen n t len hsh
  have hszn : am_sz (n + 1) = am_sz n + len := by
    show am_sz n + am_szc n = am_sz n + len
    unfold am_szc
    rw [hsh]
  have hm1 := am_sz_mono (show n + 1 ≤ n1 from hn1)
  have hm0 := am_sz_mono hn0
  have harr : Cond.arrayClass (newarray.typeOf aty) ∈ am_tb := by
    rw [hty]
    rcases hpr with rfl | rfl | rfl
    · exact am_Tarr.1
    · exact am_Tarr.2.1
    · exact am_Tarr.2.2
  rw [hp]
  show W p l e (am_rm d n0 n1) s m args below meth c H locs (n - n0) (am_sz n - am_sz n0) _ _
  refine va_newa hB.1 hB.2.1 (hB.2.2.2.2.2.1 _ harr) hty hB.2.2.2.2.2.2.2.2.1 hS.2.2.2.1 hS.2.2.2.2.1 hS.2.2.2.2.2.1 hB.2.2.2.2.2.2.2.2.2.1 (N' := len) (a0 := (len, .inl (fun _ => 0))) (fun cA => ?_) (fun z => ?_) ?_ ?_ ?_ ?_ hd (fun q cA H1 hK1 hP1 hD1 hS1 => ?_)
  · rcases hpr with rfl | rfl | rfl <;> rfl
  · have := (am_lt0 hxr).mp z
    omega
  · rw [am_cl hxr, hx]; rfl
  · have : componentBytes ty ≤ 8 := by rcases hpr with rfl | rfl | rfl <;> decide
    have := Nat.mul_le_mul_left len this
    omega
  · show n - n0 + 1 ≤ n1 - n0
    omega
  · show am_sz n - am_sz n0 + len ≤ am_sz n1 - am_sz n0
    omega
  · have hcA : cA = tc t := by
      have h1 := (hK1.2 3 (cA, ty) rfl).2
      have h2 := (hB.2.2.2.2.2.2.2.2.1.2 t (tc t, ty) ht).2
      exact am_ra_prim hpr h1 h2
    subst hcA
    have hE : am_c (am_ua ad n q) tc (n + 1, am_n1 h n, am_n3 g n, am_n2 rf n) n = (q, .inl (tc t, len, .inl (fun _ => 0))) := by
      unfold am_c
      rw [hsh]
      have e1 : (fun j : Nat => Int32.ofInt (am_n3 g n n (j : Int))) = (fun _ : Nat => (0 : Int32)) := by
        funext j
        simp [am_n3]
      simp only [am_ua, if_true, e1]
    rw [am_w_new hnk hS.hf hE] at hP1 hD1
    have hua := am_ua_ad (ad := ad) (q := q) hnk
    have hk := k (am_ua ad n q) H1 locs ls ⟨fun b hb => by rw [hua b (by omega)]; exact hS.1 b hb, by show n0 ≤ n + 1; omega, ⟨am_hf_new hnk hS.hf, ⟨fun z hz => by cases hz; exact Or.inl (Nat.lt_succ_self n), am_vs_up (Nat.le_succ n) hr⟩, fun b v hb => am_vf_up (Nat.le_succ n) (hS.lvf hb)⟩, hP1, hD1, hS1, am_lh_ad hua (fun b v hb => hS.lvf hb) hS.lh⟩
    rw [am_oke_nx ho rfl] at hk
    have e2 : List.map (am_v (am_ua ad n q)) (.inr (.inr (some n)) :: r) = .ref q :: r.map (am_v ad) := by
      rw [List.map_cons, am_vs_ad hua hr]
      simp [am_v, am_ua]
    rw [e2] at hk
    have e3 : n - n0 + 1 = n + 1 - n0 := by omega
    have e4 : am_sz n - am_sz n0 + len = am_sz (n + 1) - am_sz n0 := by omega
    rw [e3, e4]
    exact hk
theorem am_tyk_def {kd : Nat} {ty : FieldType} (h : am_tyk kd ty = true) : (kd = 1 ∧ defaultValue ty = .null) ∨ (kd ≠ 1 ∧ defaultValue ty = .int 0) := by
  unfold am_tyk at h
  split at h
  · exact Or.inr ⟨by decide, rfl⟩
  · exact Or.inr ⟨by decide, rfl⟩
  · exact Or.inl ⟨rfl, rfl⟩
  · exact Or.inl ⟨rfl, rfl⟩
  · cases h
theorem gk_new {idx ci : Nat} (hn1 : n < n1) (hsh : am_at am_sh n = some (.inr ci))
    (hB : am_B dC dI tc M ad0 A p s m args meth c) (ho : am_oke M (pc, .new idx, nx, [ci], kk) = true) (hp : am_pcd M i = pc) (k : am_K l dC dI tc M d n0 n1 Q p e s m args below meth c ad0 A nx lv (.inr (.inr (some n)) :: r) (n + 1, am_n1 h n, am_n3 g n, am_n2 rf n)) : am_K l dC dI tc M d n0 n1 Q p e s m args below meth c ad0 A i lv r (n, h, g, rf) := by
  intro ad H locs ls hS
  have hd := am_oke_dec ho (fun a b c d h => by cases h)
  have hr := hS.vs
  have hn0 : n0 ≤ n := hS.2.1
  have hnk : n < 1000 := am_Tsh1 n _ hsh
  have hl := am_oke_lk ho
  simp only [am_lk] at hl
  split at hl
  · rename_i q hq
    simp only [Bool.and_eq_true] at hl
    obtain ⟨t1, ⟨ks, hks, hlen, htk⟩, t3, t4⟩ := am_Tc ci q hq
    have hszn : am_sz (n + 1) = am_sz n + q.2.2 := by
      show am_sz n + am_szc n = am_sz n + q.2.2
      unfold am_szc
      rw [hsh]
      simp only [hks, hlen]
    have hm1 := am_sz_mono (show n + 1 ≤ n1 from hn1)
    have hm0 := am_sz_mono hn0
    rw [hp]
    show W p l e (am_rm d n0 n1) s m args below meth c H locs (n - n0) (am_sz n - am_sz n0) _ _
    refine va_new (D := (dC, dI)) (C := q.1) (T := q.2.1) (N := q.2.2) (fs := am_fs ad (n + 1, am_n1 h n, am_n3 g n, am_n2 rf n) n ks) hB.1 hB.2.1 hB.2.2.2.2.2.1 t1 (am_ty ci) t3 hB.2.2.2.2.1 (hB.2.2.2.2.2.1 _ (am_in_tb hl.1.1)) (hB.2.2.2.2.2.1 _ (am_in_tb hl.1.2)) (hB.2.2.2.2.2.1 _ (am_in_tb hl.2)) hB.2.2.2.2.2.2.2.2.1 hS.2.2.2.1 hS.2.2.2.2.1 hS.2.2.2.2.2.1 hB.2.2.2.2.2.2.2.2.2.1 (by rw [← am_at_eq]; exact hq) (fun j hj => ?_) ?_ ?_ hd (fun b H1 hP1 hD1 hS1 => ?_)
    · have hkj : ks[j]? = some ks[j] := List.getElem?_eq_getElem (by omega)
      have e1 := am_fs_at (ad := ad) (σ := (n + 1, am_n1 h n, am_n3 g n, am_n2 rf n)) (c := n) hkj
      unfold vp_V
      rw [List.getD_eq_getElem?_getD, e1, Option.getD_some]
      rcases am_tyk_def (htk j _ hkj) with z | z
      · rw [z.2]; unfold am_f; rw [if_pos z.1]; simp [am_n2, am_v]
      · rw [z.2]; unfold am_f; rw [if_neg z.1]; simp [am_n1]
    · show n - n0 + 1 ≤ n1 - n0
      omega
    · show am_sz n - am_sz n0 + q.2.2 ≤ am_sz n1 - am_sz n0
      omega
    · have e0 : ∀ ks : List Nat, am_fs (am_ua ad n b) (n + 1, am_n1 h n, am_n3 g n, am_n2 rf n) n ks = am_fs ad (n + 1, am_n1 h n, am_n3 g n, am_n2 rf n) n ks := fun ks => by
        unfold am_fs
        congr 1
        funext j kd
        simp [am_f, am_n2, am_v]
      have hE : am_c (am_ua ad n b) tc (n + 1, am_n1 h n, am_n3 g n, am_n2 rf n) n = (b, .inr (ci, am_fs ad (n + 1, am_n1 h n, am_n3 g n, am_n2 rf n) n ks)) := by
        unfold am_c
        rw [hsh]
        simp only [hks, Option.getD_some, e0, am_ua, if_true]
      rw [am_w_new hnk hS.hf hE] at hP1 hD1
      have hua := am_ua_ad (ad := ad) (q := b) hnk
      have hk := k (am_ua ad n b) H1 locs ls ⟨fun b hb => by rw [hua b (by omega)]; exact hS.1 b hb, by show n0 ≤ n + 1; omega, ⟨am_hf_new hnk hS.hf, ⟨fun z hz => by cases hz; exact Or.inl (Nat.lt_succ_self n), am_vs_up (Nat.le_succ n) hr⟩, fun b v hb => am_vf_up (Nat.le_succ n) (hS.lvf hb)⟩, hP1, hD1, hS1, am_lh_ad hua (fun b v hb => hS.lvf hb) hS.lh⟩
      rw [am_oke_nx ho rfl] at hk
      have e2 : List.map (am_v (am_ua ad n b)) (.inr (.inr (some n)) :: r) = .ref b :: r.map (am_v ad) := by
        rw [List.map_cons, am_vs_ad hua hr]
        simp [am_v, am_ua]
      rw [e2] at hk
      have e3 : n - n0 + 1 = n + 1 - n0 := by omega
      have e4 : am_sz n - am_sz n0 + q.2.2 = am_sz (n + 1) - am_sz n0 := by omega
      rw [e3, e4]
      exact hk
  · cases hl
end AmGo3
end
section
section AmGo4
variable {l : Launch} {dC : Nat → ClassId} {dI : Nat → Nat → Nat} {tc : Nat → ClassId} {M : am_M} {d n0 n1 : Nat} {Q : Option am_V → am_H → Prop} {i : Nat} {lv : am_L} {st : List am_V} {σ : am_H}
def am_nx (M : am_M) (d n1 i : Nat) (lv : am_L) (st : List am_V) (σ : am_H) : am_O := match am_at M.2.2.2.2 i with
  | some e => am_step d n1 e lv st σ
  | none => none
theorem am_inj {a b : Prop} {x1 x2 : Nat} {y1 y2 : am_L} {z1 z2 : List am_V} {w1 w2 : am_H} (h : (some (a, x1, y1, z1, w1) : am_O) = some (b, x2, y2, z2, w2)) : a = b ∧ x1 = x2 ∧ y1 = y2 ∧ z1 = z2 ∧ w1 = w2 := by
  cases h
  exact ⟨rfl, rfl, rfl, rfl, rfl⟩
theorem am_cond {b : Bool} {X : am_O} {y : Prop × Nat × am_L × List am_V × am_H} (h : cond b X none = some y) : b = true ∧ X = some y := by
  cases b
  · cases h
  · exact ⟨rfl, h⟩
theorem am_and2 {a b c n : Nat} (h : (Nat.beq a b && Nat.blt c n) = true) : a = b ∧ c < n := by
  rw [Bool.and_eq_true] at h
  exact ⟨Nat.eq_of_beq_eq_true h.1, Nat.le_of_ble_eq_true h.2⟩
set_option maxHeartbeats 4000000 in
theorem am_go {sd : Prop} {i' : Nat} {lv' : am_L} {st' : List am_V} {σ' : am_H} (h : am_nx M d n1 i lv st σ = some (sd, i', lv', st', σ')) (hs : sd) (k : am_wp l dC dI tc M d n0 n1 Q i' lv' st' σ') : am_wp l dC dI tc M d n0 n1 Q i lv st σ := by
  unfold am_nx at h
  split at h
  · rename_i e0 he
    obtain ⟨pc, ins, nx, xs, kk⟩ := e0
    intro hok p e s m args below meth c ad0 A hB
    have ho := hok i _ he
    have hp : am_pcd M i = pc := by unfold am_pcd; rw [he]
    have k := k hok p e s m args below meth c ad0 A hB
    cases ins with
    | iconst q =>
      obtain ⟨rfl, rfl, rfl, rfl, rfl⟩ := am_inj (show am_step d n1 (pc, _, nx, xs, kk) lv st σ = _ from h)
      exact gk_iconst hs hB ho hp k
    | bipush q =>
      obtain ⟨rfl, rfl, rfl, rfl, rfl⟩ := am_inj (show am_step d n1 (pc, _, nx, xs, kk) lv st σ = _ from h)
      exact gk_bipush hs hB ho hp k
    | sipush q =>
      obtain ⟨rfl, rfl, rfl, rfl, rfl⟩ := am_inj (show am_step d n1 (pc, _, nx, xs, kk) lv st σ = _ from h)
      exact gk_sipush hs hB ho hp k
    | ldc2_w q =>
      obtain ⟨rfl, rfl, rfl, rfl, rfl⟩ := am_inj (show am_step d n1 (pc, _, nx, xs, kk) lv st σ = _ from h)
      exact gk_ldc2 hs hB ho hp k
    | lconst q =>
      obtain ⟨rfl, rfl, rfl, rfl, rfl⟩ := am_inj (show am_step d n1 (pc, _, nx, xs, kk) lv st σ = _ from h)
      exact gk_lconst hs hB ho hp k
    | iadd =>
      replace h : _ = _ := h
      simp only [am_step] at h
      split at h
      · obtain ⟨rfl, rfl, rfl, rfl, rfl⟩ := am_inj h
        exact gk_iadd hs hB ho hp k
      · cases h
    | isub =>
      replace h : _ = _ := h
      simp only [am_step] at h
      split at h
      · obtain ⟨rfl, rfl, rfl, rfl, rfl⟩ := am_inj h
        exact gk_isub hs hB ho hp k
      · cases h
    | imul =>
      replace h : _ = _ := h
      simp only [am_step] at h
      split at h
      · obtain ⟨rfl, rfl, rfl, rfl, rfl⟩ := am_inj h
        exact gk_imul hs hB ho hp k
      · cases h
    | idiv =>
      replace h : _ = _ := h
      simp only [am_step] at h
      split at h
      · obtain ⟨rfl, rfl, rfl, rfl, rfl⟩ := am_inj h
        exact gk_idiv hs hB ho hp k
      · cases h
    | irem =>
      replace h : _ = _ := h
      simp only [am_step] at h
      split at h
      · obtain ⟨rfl, rfl, rfl, rfl, rfl⟩ := am_inj h
        exact gk_irem hs hB ho hp k
      · cases h
    | iand =>
      replace h : _ = _ := h
      simp only [am_step] at h
      split at h
      · obtain ⟨rfl, rfl, rfl, rfl, rfl⟩ := am_inj h
        exact gk_iand  hB ho hp k
      · cases h
    | ior =>
      replace h : _ = _ := h
      simp only [am_step] at h
      split at h
      · obtain ⟨rfl, rfl, rfl, rfl, rfl⟩ := am_inj h
        exact gk_ior  hB ho hp k
      · cases h
    | ishl =>
      replace h : _ = _ := h
      simp only [am_step] at h
      split at h
      · obtain ⟨rfl, rfl, rfl, rfl, rfl⟩ := am_inj h
        exact gk_ishl  hB ho hp k
      · cases h
    | ishr =>
      replace h : _ = _ := h
      simp only [am_step] at h
      split at h
      · obtain ⟨rfl, rfl, rfl, rfl, rfl⟩ := am_inj h
        exact gk_ishr  hB ho hp k
      · cases h
    | lcmp =>
      replace h : _ = _ := h
      simp only [am_step] at h
      split at h
      · obtain ⟨rfl, rfl, rfl, rfl, rfl⟩ := am_inj h
        exact gk_lcmp  hB ho hp k
      · cases h
    | i2c =>
      replace h : _ = _ := h
      simp only [am_step] at h
      split at h
      · obtain ⟨rfl, rfl, rfl, rfl, rfl⟩ := am_inj h
        exact gk_i2c hs hB ho hp k
      · cases h
    | i2l =>
      replace h : _ = _ := h
      simp only [am_step] at h
      split at h
      · obtain ⟨rfl, rfl, rfl, rfl, rfl⟩ := am_inj h
        exact gk_i2l  hB ho hp k
      · cases h
    | l2i =>
      replace h : _ = _ := h
      simp only [am_step] at h
      split at h
      · obtain ⟨rfl, rfl, rfl, rfl, rfl⟩ := am_inj h
        exact gk_l2i hs hB ho hp k
      · cases h
    | dup2 =>
      replace h : _ = _ := h
      simp only [am_step] at h
      split at h
      · obtain ⟨rfl, rfl, rfl, rfl, rfl⟩ := am_inj h
        exact gk_dup2  hB ho hp k
      · cases h
    | ldc q =>
      simp only [am_step] at h
      split at h
      · obtain ⟨rfl, rfl, rfl, rfl, rfl⟩ := am_inj h
        exact gk_ldc hs hB ho hp k
      · obtain ⟨rfl, rfl, rfl, rfl, rfl⟩ := am_inj h
        exact gk_ldcs hB ho hp k
      · cases h
    | dup =>
      simp only [am_step] at h
      split at h
      · obtain ⟨rfl, rfl, rfl, rfl, rfl⟩ := am_inj h
        exact gk_dupi hB ho hp k
      · obtain ⟨rfl, rfl, rfl, rfl, rfl⟩ := am_inj h
        exact gk_dupa hB ho hp k
      · cases h
    | goto q =>
      simp only [am_step] at h
      split at h
      · obtain ⟨rfl, rfl, rfl, rfl, rfl⟩ := am_inj h
        exact gk_goto hB ho hp k
      · cases h
    | iload_n q =>
      simp only [am_step, am_ld] at h
      split at h
      · rename_i hg
        obtain ⟨rfl, rfl, rfl, rfl, rfl⟩ := am_inj (am_cond h).2
        exact gk_iloadn hg hB ho hp k
      · exact absurd (am_cond h).1 (by decide)
      · exact absurd (am_cond h).1 (by decide)
      · cases h
    | iload q =>
      simp only [am_step, am_ld] at h
      split at h
      · rename_i hg
        obtain ⟨rfl, rfl, rfl, rfl, rfl⟩ := am_inj (am_cond h).2
        exact gk_iload hg hB ho hp k
      · exact absurd (am_cond h).1 (by decide)
      · exact absurd (am_cond h).1 (by decide)
      · cases h
    | lload q =>
      simp only [am_step, am_ld] at h
      split at h
      · exact absurd (am_cond h).1 (by decide)
      · rename_i hg
        obtain ⟨rfl, rfl, rfl, rfl, rfl⟩ := am_inj (am_cond h).2
        exact gk_lload hg hB ho hp k
      · exact absurd (am_cond h).1 (by decide)
      · cases h
    | lload_n q =>
      simp only [am_step, am_ld] at h
      split at h
      · exact absurd (am_cond h).1 (by decide)
      · rename_i hg
        obtain ⟨rfl, rfl, rfl, rfl, rfl⟩ := am_inj (am_cond h).2
        exact gk_lloadn hg hB ho hp k
      · exact absurd (am_cond h).1 (by decide)
      · cases h
    | aload_n q =>
      simp only [am_step, am_ld] at h
      split at h
      · exact absurd (am_cond h).1 (by decide)
      · exact absurd (am_cond h).1 (by decide)
      · rename_i hg
        obtain ⟨rfl, rfl, rfl, rfl, rfl⟩ := am_inj (am_cond h).2
        exact gk_aloadn hg hB ho hp k
      · cases h
    | aload q =>
      simp only [am_step, am_ld] at h
      split at h
      · exact absurd (am_cond h).1 (by decide)
      · exact absurd (am_cond h).1 (by decide)
      · rename_i hg
        obtain ⟨rfl, rfl, rfl, rfl, rfl⟩ := am_inj (am_cond h).2
        exact gk_aload hg hB ho hp k
      · cases h
    | istore_n q =>
      simp only [am_step, am_st] at h
      split at h
      · have h := (am_cond h).2
        split at h
        · rename_i hg
          obtain ⟨rfl, rfl, rfl, rfl, rfl⟩ := am_inj h
          exact gk_istoren hg hB ho hp k
        · cases h
      · exact absurd (am_cond h).1 (by decide)
      · cases h
    | istore q =>
      simp only [am_step, am_st] at h
      split at h
      · have h := (am_cond h).2
        split at h
        · rename_i hg
          obtain ⟨rfl, rfl, rfl, rfl, rfl⟩ := am_inj h
          exact gk_istore hg hB ho hp k
        · cases h
      · exact absurd (am_cond h).1 (by decide)
      · cases h
    | astore_n q =>
      simp only [am_step, am_st] at h
      split at h
      · exact absurd (am_cond h).1 (by decide)
      · have h := (am_cond h).2
        split at h
        · rename_i hg
          obtain ⟨rfl, rfl, rfl, rfl, rfl⟩ := am_inj h
          exact gk_astoren hg hB ho hp k
        · cases h
      · cases h
    | astore q =>
      simp only [am_step, am_st] at h
      split at h
      · exact absurd (am_cond h).1 (by decide)
      · have h := (am_cond h).2
        split at h
        · rename_i hg
          obtain ⟨rfl, rfl, rfl, rfl, rfl⟩ := am_inj h
          exact gk_astore hg hB ho hp k
        · cases h
      · cases h
    | iinc q z =>
      simp only [am_step] at h
      split at h
      · rename_i hg0
        split at h
        · rename_i hg
          obtain ⟨rfl, rfl, rfl, rfl, rfl⟩ := am_inj h
          exact gk_iinc hs hg0 hg hB ho hp k
        · cases h
      · cases h
    | arraylength =>
      simp only [am_step] at h
      split at h
      · split at h
        · rename_i hsh
          obtain ⟨hc0, h2⟩ := am_cond h
          clear h
          obtain ⟨rfl, rfl, rfl, rfl, rfl⟩ := am_inj h2
          exact gk_alen (Nat.le_of_ble_eq_true hc0) hsh hB ho hp k
        · cases h
      · cases h
    | iaload =>
      obtain ⟨n, hh, gg, rf⟩ := σ
      simp only [am_step, am_ald] at h
      split at h
      · split at h
        · rename_i hsh
          obtain ⟨hc0, h2⟩ := am_cond h
          clear h
          obtain ⟨hc1, hc⟩ := am_and2 hc0
          subst hc1
          obtain ⟨rfl, rfl, rfl, rfl, rfl⟩ := am_inj h2
          exact gk_iald (σ := (n, hh, gg, rf)) hs hc hsh hB ho hp k
        · cases h
      · cases h
    | caload =>
      obtain ⟨n, hh, gg, rf⟩ := σ
      simp only [am_step, am_ald] at h
      split at h
      · split at h
        · rename_i hsh
          obtain ⟨hc0, h2⟩ := am_cond h
          clear h
          obtain ⟨hc1, hc⟩ := am_and2 hc0
          subst hc1
          obtain ⟨rfl, rfl, rfl, rfl, rfl⟩ := am_inj h2
          exact gk_cald (σ := (n, hh, gg, rf)) hs hc hsh hB ho hp k
        · cases h
      · cases h
    | baload =>
      obtain ⟨n, hh, gg, rf⟩ := σ
      simp only [am_step, am_ald] at h
      split at h
      · split at h
        · rename_i hsh
          obtain ⟨hc0, h2⟩ := am_cond h
          clear h
          obtain ⟨hc1, hc⟩ := am_and2 hc0
          subst hc1
          obtain ⟨rfl, rfl, rfl, rfl, rfl⟩ := am_inj h2
          exact gk_zald (σ := (n, hh, gg, rf)) hs hc hsh hB ho hp k
        · cases h
      · cases h
    | iastore =>
      obtain ⟨n, hh, gg, rf⟩ := σ
      simp only [am_step] at h
      split at h
      · split at h
        · rename_i hsh
          obtain ⟨hc0, h2⟩ := am_cond h
          clear h
          obtain ⟨hc1, hc⟩ := am_and2 hc0
          subst hc1
          obtain ⟨rfl, rfl, rfl, rfl, rfl⟩ := am_inj h2
          exact gk_iast (σ := (n, hh, gg, rf)) hs hc hsh hB ho hp k
        · cases h
      · cases h
    | castore =>
      obtain ⟨n, hh, gg, rf⟩ := σ
      simp only [am_step] at h
      split at h
      · split at h
        · rename_i hsh
          obtain ⟨hc0, h2⟩ := am_cond h
          clear h
          obtain ⟨hc1, hc⟩ := am_and2 hc0
          subst hc1
          obtain ⟨rfl, rfl, rfl, rfl, rfl⟩ := am_inj h2
          exact gk_cast (σ := (n, hh, gg, rf)) hs.1 hs.2 hc hsh hB ho hp k
        · cases h
      · cases h
    | bastore =>
      obtain ⟨n, hh, gg, rf⟩ := σ
      simp only [am_step] at h
      split at h
      · split at h
        · rename_i hsh
          obtain ⟨hc0, h2⟩ := am_cond h
          clear h
          obtain ⟨hc1, hc⟩ := am_and2 hc0
          subst hc1
          obtain ⟨rfl, rfl, rfl, rfl, rfl⟩ := am_inj h2
          exact gk_zast (σ := (n, hh, gg, rf)) hs.1 hs.2 hc hsh hB ho hp k
        · cases h
      · cases h
    | getfield q =>
      obtain ⟨n, hh, gg, rf⟩ := σ
      simp only [am_step] at h
      split at h
      · split at h
        · rename_i hx1 hx2
          cases hx2
          split at h
          · rename_i hsh hkd
            obtain ⟨hc0, h2⟩ := am_cond h
            clear h
            obtain ⟨hc1, hc⟩ := am_and2 hc0
            subst hc1
            rename_i kd
            by_cases hk1 : kd = 1
            · rw [show Nat.beq kd 1 = true by rw [hk1]; rfl] at h2
              obtain ⟨rfl, rfl, rfl, rfl, rfl⟩ := am_inj h2
              exact gk_geta (σ := (n, hh, gg, rf)) hc hsh hkd hk1 hB ho hp k
            · rw [show Nat.beq kd 1 = false from Bool.eq_false_iff.mpr (fun z => hk1 (Nat.eq_of_beq_eq_true z))] at h2
              obtain ⟨rfl, rfl, rfl, rfl, rfl⟩ := am_inj h2
              exact gk_geti (σ := (n, hh, gg, rf)) hc hsh hkd hk1 hB ho hp k
          · cases h
        · cases h
      · cases h
    | putfield q =>
      obtain ⟨n, hh, gg, rf⟩ := σ
      simp only [am_step] at h
      split at h
      · split at h
        · rename_i hx1 hx2
          cases hx2
          split at h
          · rename_i hsh hkd
            obtain ⟨hc0, h2⟩ := am_cond h
            clear h
            obtain ⟨hc1, hc⟩ := am_and2 hc0
            subst hc1
            obtain ⟨rfl, rfl, rfl, rfl, rfl⟩ := am_inj h2
            exact gk_puti (σ := (n, hh, gg, rf)) hc hsh hkd hB ho hp k
          · rename_i hsh hkd
            obtain ⟨hc0, h2⟩ := am_cond h
            clear h
            obtain ⟨hc1, hc⟩ := am_and2 hc0
            subst hc1
            obtain ⟨rfl, rfl, rfl, rfl, rfl⟩ := am_inj h2
            exact gk_putz (σ := (n, hh, gg, rf)) hs hc hsh hkd hB ho hp k
          · cases h
        · cases h
      · split at h
        · rename_i hx1 hx2
          cases hx2
          split at h
          · rename_i hsh hkd
            obtain ⟨hc0, h2⟩ := am_cond h
            clear h
            rw [Bool.and_eq_true] at hc0
            obtain ⟨hc0, hb⟩ := hc0
            obtain ⟨hc1, hc⟩ := am_and2 hc0
            subst hc1
            obtain ⟨rfl, rfl, rfl, rfl, rfl⟩ := am_inj h2
            exact gk_puta (σ := (n, hh, gg, rf)) hc (Nat.le_of_ble_eq_true hb) hsh hkd hB ho hp k
          · cases h
        · cases h
      · cases h
    | newarray q =>
      obtain ⟨n, hh, gg, rf⟩ := σ
      simp only [am_step] at h
      split at h
      · split at h
        · rename_i hx1 hx2
          cases hx2
          split at h
          · rename_i hsh
            obtain ⟨hc0, h2⟩ := am_cond h
            clear h
            have hc1 := Nat.eq_of_beq_eq_true hc0
            subst hc1
            obtain ⟨rfl, rfl, rfl, rfl, rfl⟩ := am_inj h2
            have hl := am_oke_lk ho
            simp only [am_lk] at hl
            split at hl
            · rename_i hz
              cases hz
              have hl := of_decide_eq_true hl
              subst hl
              exact gk_newa hs.1 hs.2 hsh rfl rfl (Or.inl rfl) hB ho hp k
            · rename_i hz
              cases hz
              have hl := of_decide_eq_true hl
              subst hl
              exact gk_newa hs.1 hs.2 hsh rfl rfl (Or.inr (Or.inl rfl)) hB ho hp k
            · rename_i hz
              cases hz
              have hl := of_decide_eq_true hl
              subst hl
              exact gk_newa hs.1 hs.2 hsh rfl rfl (Or.inr (Or.inr rfl)) hB ho hp k
            · cases hl
          · cases h
        · cases h
      · cases h
    | new q =>
      obtain ⟨n, hh, gg, rf⟩ := σ
      simp only [am_step] at h
      split at h
      · rename_i hx1 hx2
        cases hx2
        split at h
        · rename_i hsh
          obtain ⟨hc0, h2⟩ := am_cond h
          clear h
          have hc1 := Nat.eq_of_beq_eq_true hc0
          subst hc1
          obtain ⟨rfl, rfl, rfl, rfl, rfl⟩ := am_inj h2
          exact gk_new hs hsh hB ho hp k
        · cases h
      · cases h
    | invokespecial q =>
      simp only [am_step] at h
      split at h
      · obtain ⟨rfl, rfl, rfl, rfl, rfl⟩ := am_inj h
        exact gk_obj hs hB ho hp k
      · cases h
    | invokestatic q =>
      simp only [am_step] at h
      split at h
      · obtain ⟨rfl, rfl, rfl, rfl, rfl⟩ := am_inj h
        exact gk_max ⟨hs.1, hs.2.1⟩ hs.2.2 hB ho hp k
      · cases h
    | _ => exact absurd (show (none : am_O) = some (sd, i', lv', st', σ') from h) (fun z => by cases z)
  · cases h
def am_bx (M : am_M) (i : Nat) (st : List am_V) : Option (Prop × Nat × Nat × List am_V) := match am_at M.2.2.2.2 i with
  | some e => am_br e st
  | none => none
theorem am_injb {a b : Prop} {x1 x2 y1 y2 : Nat} {z1 z2 : List am_V} (h : (some (a, x1, y1, z1) : Option (Prop × Nat × Nat × List am_V)) = some (b, x2, y2, z2)) : a = b ∧ x1 = x2 ∧ y1 = y2 ∧ z1 = z2 := by
  cases h
  exact ⟨rfl, rfl, rfl, rfl⟩
set_option maxHeartbeats 4000000 in
theorem am_if {P : Prop} {t n : Nat} {r : List am_V} (h : am_bx M i st = some (P, t, n, r)) (kt : P → am_wp l dC dI tc M d n0 n1 Q t lv r σ) (kf : ¬ P → am_wp l dC dI tc M d n0 n1 Q n lv r σ) : am_wp l dC dI tc M d n0 n1 Q i lv st σ := by
  unfold am_bx at h
  split at h
  · rename_i e0 he
    obtain ⟨pc, ins, nx, xs, kk⟩ := e0
    intro hok p e s m args below meth c ad0 A hB
    have ho := hok i _ he
    have hp : am_pcd M i = pc := by unfold am_pcd; rw [he]
    have kt := fun z => kt z hok p e s m args below meth c ad0 A hB
    have kf := fun z => kf z hok p e s m args below meth c ad0 A hB
    simp only [am_br] at h
    split at h
    · split at h
      · split at h
        · obtain ⟨rfl, rfl, rfl, rfl⟩ := am_injb h
          exact gk_ifeq hB ho hp kt kf
        · cases h
      · split at h
        · obtain ⟨rfl, rfl, rfl, rfl⟩ := am_injb h
          exact gk_ifne hB ho hp kt kf
        · cases h
      · split at h
        · obtain ⟨rfl, rfl, rfl, rfl⟩ := am_injb h
          exact gk_iflt hB ho hp kt kf
        · cases h
      · split at h
        · obtain ⟨rfl, rfl, rfl, rfl⟩ := am_injb h
          exact gk_ifge hB ho hp kt kf
        · cases h
      · split at h
        · obtain ⟨rfl, rfl, rfl, rfl⟩ := am_injb h
          exact gk_ifgt hB ho hp kt kf
        · cases h
      · split at h
        · obtain ⟨rfl, rfl, rfl, rfl⟩ := am_injb h
          exact gk_ifle hB ho hp kt kf
        · cases h
      · split at h
        · obtain ⟨rfl, rfl, rfl, rfl⟩ := am_injb h
          exact gk_iceq hB ho hp kt kf
        · cases h
      · split at h
        · obtain ⟨rfl, rfl, rfl, rfl⟩ := am_injb h
          exact gk_icne hB ho hp kt kf
        · cases h
      · split at h
        · obtain ⟨rfl, rfl, rfl, rfl⟩ := am_injb h
          exact gk_iclt hB ho hp kt kf
        · cases h
      · split at h
        · obtain ⟨rfl, rfl, rfl, rfl⟩ := am_injb h
          exact gk_icge hB ho hp kt kf
        · cases h
      · split at h
        · obtain ⟨rfl, rfl, rfl, rfl⟩ := am_injb h
          exact gk_icgt hB ho hp kt kf
        · cases h
      · split at h
        · obtain ⟨rfl, rfl, rfl, rfl⟩ := am_injb h
          exact gk_icle hB ho hp kt kf
        · cases h
      · cases h
    · cases h
  · cases h
theorem am_iret {pc nx : Nat} {xs : List Nat} {kk : Int} {x : Int} (he : am_at M.2.2.2.2 i = some (pc, .ireturn, nx, xs, kk)) (hret : M.2.2.2.1 = some .int) (hn : σ.1 = n1) (hq : Q (some (.inl x)) σ) : am_wp l dC dI tc M d n0 n1 Q i lv [.inl x] σ := by
  intro hok p e s m args below meth c ad0 A hB
  exact gk_iret hret hn hq hB (hok i _ he) (by unfold am_pcd; rw [he])
theorem am_zret {pc nx : Nat} {xs : List Nat} {kk : Int} {x : Int} (he : am_at M.2.2.2.2 i = some (pc, .ireturn, nx, xs, kk)) (hret : M.2.2.2.1 = some .boolean) (hz : x = 0 ∨ x = 1) (hn : σ.1 = n1) (hq : Q (some (.inl x)) σ) : am_wp l dC dI tc M d n0 n1 Q i lv [.inl x] σ := by
  intro hok p e s m args below meth c ad0 A hB
  exact gk_zret hret hz hn hq hB (hok i _ he) (by unfold am_pcd; rw [he])
theorem am_lret {pc nx : Nat} {xs : List Nat} {kk : Int} {x : Int} (he : am_at M.2.2.2.2 i = some (pc, .lreturn, nx, xs, kk)) (hret : M.2.2.2.1 = some .long) (hn : σ.1 = n1) (hq : Q (some (.inr (.inl x))) σ) : am_wp l dC dI tc M d n0 n1 Q i lv [.inr (.inl x)] σ := by
  intro hok p e s m args below meth c ad0 A hB
  exact gk_lret hret hn hq hB (hok i _ he) (by unfold am_pcd; rw [he])
theorem am_vret {pc nx : Nat} {xs : List Nat} {kk : Int} {x : Int} (he : am_at M.2.2.2.2 i = some (pc, .return_, nx, xs, kk)) (hret : M.2.2.2.1 = none) (hn : σ.1 = n1) (hq : Q (none) σ) : am_wp l dC dI tc M d n0 n1 Q i lv [] σ := by
  intro hok p e s m args below meth c ad0 A hB
  exact gk_vret (x := x) hret hn hq hB (hok i _ he) (by unfold am_pcd; rw [he])
theorem am_aret {pc nx : Nat} {xs : List Nat} {kk : Int} {x : Nat} {cn : String} (he : am_at M.2.2.2.2 i = some (pc, .areturn, nx, xs, kk)) (hret : M.2.2.2.1 = some (.object cn)) (hn : σ.1 = n1) (hq : Q (some (.inr (.inr (some x)))) σ) : am_wp l dC dI tc M d n0 n1 Q i lv [.inr (.inr (some x))] σ := by
  intro hok p e s m args below meth c ad0 A hB
  exact gk_aret hret hn hq hB (hok i _ he) (by unfold am_pcd; rw [he])
end AmGo4
end
section
section AmCall
variable {l : Launch} {dC : Nat → ClassId} {dI : Nat → Nat → Nat} {tc : Nat → ClassId} {M : am_M} {d n0 n1 : Nat} {Q : Option am_V → am_H → Prop} {i : Nat} {lv : am_L} {st : List am_V} {σ : am_H}
def am_in0 : List am_V → am_L
  | [] => []
  | .inl x :: l => some (.inl x) :: am_in0 l
  | .inr (.inl y) :: l => some (.inr (.inl y)) :: none :: am_in0 l
  | .inr (.inr k) :: l => some (.inr (.inr k)) :: am_in0 l
def am_pad : Nat → am_L → Option am_L
  | 0, _ => some []
  | n + 1, [] => match am_pad n [] with
    | some l => some (none :: l)
    | none => none
  | n + 1, o :: l => match am_pad n l with
    | some l' => some (o :: l')
    | none => none
theorem am_pad_spec : ∀ (n : Nat) (L lv : am_L), am_pad n L = some lv → lv.length = n ∧ ∀ i v, am_get lv i = some v → am_get L i = some v := by
  intro n
  induction n with
  | zero =>
    intro L lv h
    simp only [am_pad, Option.some.injEq] at h
    subst h
    exact ⟨rfl, fun i v h => by simp [am_get] at h⟩
  | succ n ih =>
    intro L lv h
    cases L with
    | nil =>
      simp only [am_pad] at h
      split at h
      · rename_i l hl
        simp only [Option.some.injEq] at h
        subst h
        obtain ⟨h1, h2⟩ := ih [] l hl
        refine ⟨by simp [h1], fun i v hi => ?_⟩
        cases i with
        | zero => simp [am_get] at hi
        | succ i => exact absurd (h2 i v hi) (by simp [am_get])
      · cases h
    | cons q L =>
      simp only [am_pad] at h
      split at h
      · rename_i l hl
        simp only [Option.some.injEq] at h
        subst h
        obtain ⟨h1, h2⟩ := ih L l hl
        refine ⟨by simp [h1], fun i v hi => ?_⟩
        cases i with
        | zero => exact hi
        | succ i => exact h2 i v hi
      · cases h
theorem am_in0_args (ad : Nat → Nat) : ∀ (as : List am_V) (b i : Nat) (v : am_V), am_get (am_in0 as) i = some v → (b + i, am_v ad v) ∈ lv_args b (as.map (am_v ad)) := by
  intro as
  induction as with
  | nil => intro b i v h; simp [am_in0, am_get] at h
  | cons a as ih =>
    intro b i v h
    rcases a with x | y | k
    · cases i with
      | zero =>
        simp only [am_in0, am_get, Option.some.injEq] at h
        subst h
        exact List.mem_cons_self
      | succ i =>
        refine List.mem_cons_of_mem _ ?_
        have := ih (b + 1) i v h
        rw [show b + (i + 1) = b + 1 + i by omega]
        exact this
    · cases i with
      | zero =>
        simp only [am_in0, am_get, Option.some.injEq] at h
        subst h
        exact List.mem_cons_self
      | succ i =>
        cases i with
        | zero => simp [am_in0, am_get] at h
        | succ i =>
          refine List.mem_cons_of_mem _ ?_
          have := ih (b + 2) i v h
          rw [show b + (i + 1 + 1) = b + 2 + i by omega]
          exact this
    · have hc : ¬ (am_v ad (.inr (.inr k))).category = 2 := by rw [am_catr]; decide
      cases i with
      | zero =>
        simp only [am_in0, am_get, Option.some.injEq] at h
        subst h
        exact List.mem_cons_self
      | succ i =>
        refine List.mem_cons_of_mem _ ?_
        have := ih (b + 1) i v h
        rw [show b + (i + 1) = b + 1 + i by omega]
        simp only [hc, if_false]
        exact this
theorem am_in0_len (ad : Nat → Nat) : ∀ (as : List am_V), (lg_sl (as.map (am_v ad))).length = (am_in0 as).length := by
  intro as
  induction as with
  | nil => rfl
  | cons a as ih =>
    rcases a with x | y | k
    · simp [lg_sl, am_in0, am_v, Value.category] at ih ⊢
      omega
    · simp [lg_sl, am_in0, am_v, Value.category] at ih ⊢
      omega
    · cases k <;> simp [lg_sl, am_in0, am_v, Value.category] at ih ⊢ <;> omega
theorem am_in0_vf {n : Nat} : ∀ (as : List am_V) (i : Nat) (v : am_V), am_vs n as → am_get (am_in0 as) i = some v → am_vf n v := by
  intro as
  induction as with
  | nil => intro i v _ h; simp [am_in0, am_get] at h
  | cons a as ih =>
    intro i v hv h
    rcases a with x | y | k
    · cases i with
      | zero => simp only [am_in0, am_get, Option.some.injEq] at h; subst h; exact hv.1
      | succ i => exact ih i v hv.2 h
    · cases i with
      | zero => simp only [am_in0, am_get, Option.some.injEq] at h; subst h; exact hv.1
      | succ i =>
        cases i with
        | zero => simp [am_in0, am_get] at h
        | succ i => exact ih i v hv.2 h
    · cases i with
      | zero => simp only [am_in0, am_get, Option.some.injEq] at h; subst h; exact hv.1
      | succ i => exact ih i v hv.2 h
theorem am_enter {as : List am_V} (hok : am_okM M) (h0 : am_pcd M 0 = 0) (hy : plainName M.1.cls = true) (hlen : (am_in0 as).length ≤ M.2.2.1) (hl : am_pad M.2.2.1 (am_in0 as) = some lv) (k : am_wp l dC dI tc M d σ.1 n1 Q 0 lv [] σ) : am_Ct l dC dI tc M d n1 as σ Q := by
  intro ad sz hhf has
  refine Met.ofW (cc := M.2.1) (maxL := M.2.2.1) (ret := M.2.2.2.1) hy rfl ?_
  intro p e s m args below meth c s₁ B hml hv
  obtain ⟨rfl, hsz, hP, hK, hD0, hZ⟩ := hv
  have hts := atoms_spec (ws := Cond.code M.1 M.2.1 M.2.2.1 M.2.2.2.1 :: am_tb) B.pre
  have hown : s.vm.findClass M.1.cls = some m.cls := findClass_of_methodNamed B.named
  have hlocks := B.notSynchronized
  have hin : meth.name = M.1.name := (name_of_methodNamed B.named B.method).1
  subst hsz
  have hD := hD0.self (sz := s.heap.size)
  obtain ⟨p1, p2⟩ := am_pad_spec _ _ _ hl
  have hl0 := lv_entry (as.map (am_v ad)) (n := M.2.2.1) (by rw [am_in0_len]; exact hlen)
  rw [lg_entry_eq]
  generalize (lg_sl (as.map (am_v ad)) ++ List.replicate (M.2.2.1 - (lg_sl (as.map (am_v ad))).length) Slot.unset).toArray = ls at hl0 ⊢
  have hk := k hok p e s m (as.map (am_v ad)).toArray below meth c ad (va_A (am_w ad tc σ) s.heap.size) ⟨B.exec, B.bytes, B.returns, hml, hown, fun w hw => hts w (List.mem_cons_of_mem _ hw), hlocks, hin, hK, fun q h => Or.inr h, hZ⟩ ad s.heap [] ls
    ⟨fun _ _ => rfl, Nat.le_refl _, ⟨hhf, trivial, fun j v hj => am_in0_vf as j v has (p2 j v hj)⟩, hP, hD, va_S.rf, ⟨hl0.1, hl0.2.1, by omega, fun j v hj => by
      have := hl0.2.2 (0 + j, am_v ad v) (am_in0_args ad as 0 j v (p2 j v hj))
      rw [Nat.zero_add] at this
      exact this⟩⟩
  rw [h0, Nat.sub_self, Nat.sub_self] at hk
  exact hk
variable {p : Program} {e : Env} {s : State} {m : MethodId} {args : Array Value} {below : List Frame} {meth : Method} {c : Code} {ad0 : Nat → Nat} {A : Nat → Prop}
variable {pc nx : Nat} {r : List am_V}
theorem am_wA {ad : Nat → Nat} {H : Heap} {locs : List Loc} (hD : va_D A (am_w ad tc σ)) (hS : va_S A s.heap H locs) (hA : ∀ q, s.heap.size ≤ q → A q) : ∀ q, va_A (am_w ad tc σ) H.size q → A q := by
  intro q h
  rcases h with ⟨k, e, hk⟩ | h
  · exact hD.2 k _ hk
  · exact hA q (Nat.le_trans hS.1 h)
theorem am_after {ad : Nat → Nat} {H : Heap} {locs : List Loc} {ls : Array Slot} {st0 : List Value} {aa : Array Value} {n1' : Nat} {Q' : Option am_V → am_H → Prop} {st1 : List am_V}
    (hrun : va_Run p l e (am_rm d n0 n1) s m args below meth c H locs (σ.1 - n0) (am_sz σ.1 - am_sz n0) (n1' - σ.1) (am_sz n1' - am_sz σ.1) (F0 m pc ls st0) (r.map (am_v ad)) (am_Qc dC dI tc ad σ.1 n1' (va_A (am_w ad tc σ) H.size) Q' aa) (va_A (am_w ad tc σ) H.size))
    (hB : am_B dC dI tc M ad0 A p s m args meth c) (hS : am_S dC dI tc s A n0 ad0 M.2.2.1 lv st1 σ ad H locs ls) (hr : am_vs σ.1 r) (hn1 : σ.1 ≤ n1') (hnx : am_pcd M nx = pc + 3) (k : ∀ rv σ', Q' rv σ' → am_K l dC dI tc M d n0 n1 Q p e s m args below meth c ad0 A nx lv (rv.toList ++ r) σ') :
    W p l e (am_rm d n0 n1) s m args below meth c H locs (σ.1 - n0) (am_sz σ.1 - am_sz n0) (MQ below (am_Qc dC dI tc ad0 n0 n1 A Q) args s (n1 - n0) (am_sz n1 - am_sz n0) A) (F0 m pc ls st0) := by
  intro T hT X
  obtain ⟨v, st₀, t, T', L, h0, X', hL, e1, e2, ⟨⟨rv, σ', ad', ho, hQ, had, hnn, hhf, hvf, hP', hD'⟩, hz, hk⟩, st⟩ := hrun T hT X
  have hv : v = rv.map (am_v ad') := Outcome.returned.inj ho
  subst hv
  have hn0 : n0 ≤ σ.1 := hS.2.1
  have hwA := am_wA hS.2.2.2.2.1 hS.2.2.2.2.2.1 hB.2.2.2.2.2.2.2.2.2.1
  rw [h0] at hz hk
  have hSS := hS.2.2.2.2.2.1
  have hS1 : va_S A s.heap T'.heap (locs ++ L) := ⟨Nat.le_trans hSS.1 (by rw [e1]; exact hz), fun q g1 g2 => by
      rw [e1, hk q (Nat.lt_of_lt_of_le g1 hSS.1) (fun z => g2 (hwA q z))]
      exact hSS.2.1 q g1 g2, fun q hq => by
      rcases List.mem_append.mp hq with g | g
      · exact hSS.2.2 q g
      · exact hwA _ (hL q g)⟩
  have hadk : ∀ k, k < n0 ∨ 1000 ≤ k → ad' k = ad0 k := fun k hk => by rw [had k (by omega)]; exact hS.1 k hk
  have hvs : am_vs σ'.1 (rv.toList ++ r) := by
    have hr' : am_vs σ'.1 r := am_vs_up (by omega) hr
    cases rv with
    | none => exact hr'
    | some w => exact ⟨by rw [hnn]; exact hvf w rfl, hr'⟩
  have kk := k rv σ' hQ ad' T'.heap (locs ++ L) ls ⟨hadk, by omega, ⟨hhf, hvs, fun j w hj => am_vf_up (by omega) (hS.lvf hj)⟩, by rw [e1]; exact hP', hD'.weaken (fun _ q _ h => hwA q.1 h), hS1, am_lh_ad had (fun j w hj => hS.lvf hj) hS.lh⟩
  have hm0 := am_sz_mono hn0
  have hm1 := am_sz_mono hn1
  have e3 : σ.1 - n0 + (n1' - σ.1) = σ'.1 - n0 := by omega
  have e4 : am_sz σ.1 - am_sz n0 + (am_sz n1' - am_sz σ.1) = am_sz σ'.1 - am_sz n0 := by rw [hnn]; omega
  rw [e3, e4] at X'
  obtain ⟨t2, a1, b1⟩ := kk T' rfl X'
  refine ⟨t2, st t2 ?_, b1⟩
  have e5 : (rv.toList ++ r).map (am_v ad') = (rv.map (am_v ad')).toList ++ r.map (am_v ad) := by
    rw [List.map_append, am_vs_ad had hr]
    cases rv <;> rfl
  rw [hnx, e5] at a1
  exact a1
def am_tk : Nat → List am_V → List am_V → Option (List am_V × List am_V)
  | 0, acc, st => some (acc, st)
  | n + 1, acc, v :: st => am_tk n (v :: acc) st
  | _ + 1, _, [] => none
theorem am_tk_spec : ∀ (n : Nat) (acc st as r : List am_V), am_tk n acc st = some (as, r) → ∃ b, st = b.reverse ++ r ∧ as = b ++ acc ∧ b.length = n := by
  intro n
  induction n with
  | zero =>
    intro acc st as r h
    simp only [am_tk, Option.some.injEq, Prod.mk.injEq] at h
    exact ⟨[], by simp [h.2], by simp [h.1], rfl⟩
  | succ n ih =>
    intro acc st as r h
    cases st with
    | nil => simp [am_tk] at h
    | cons v st =>
      obtain ⟨b, h1, h2, h3⟩ := ih (v :: acc) st as r h
      exact ⟨b ++ [v], by simp [h1], by simp [h2], by simp [h3]⟩
def am_cx (M : am_M) (n i : Nat) (st : List am_V) : Option (am_M × List am_V × Nat × List am_V) := match am_at M.2.2.2.2 i with
  | some (_, ins, nx, xs, _) => match xs with
    | mno :: na :: xs2 => match am_at am_mt mno, am_tk na [] st with
      | some M', some (as, r) => match ins with
        | .invokevirtual _ => match xs2, as with
          | [], .inr (.inr (some c)) :: as3 => match am_at am_sh c, am_at am_mc mno with
            | some (.inr ci), some ci' => cond (Nat.beq ci ci' && Nat.blt c n) (some (M', .inr (.inr (some c)) :: as3, nx, r)) none
            | _, _ => none
          | _, _ => none
        | .invokespecial _ => match xs2, as with
          | [], .inr (.inr (some c)) :: as3 => some (M', .inr (.inr (some c)) :: as3, nx, r)
          | [_], .inr (.inr (some c)) :: as3 => some (M', .inr (.inr (some c)) :: as3, nx, r)
          | _, _ => none
        | .invokestatic _ => match xs2 with
          | [] => some (M', as, nx, r)
          | _ => none
        | _ => none
      | _, _ => none
    | _ => none
  | none => none
theorem am_sig_spec {M' : am_M} {b na : Nat} (h : am_sig M' b na = true) : (M'.1.cls ≠ "java/lang/invoke/MethodHandle" ∧ M'.1.cls ≠ "java/lang/invoke/VarHandle" ∧ (parseMethodDescriptor M'.1.desc).map (fun d => d.parameters.length) = some (na - b)) ∧ M'.2.2.1 ≤ 16 := by
  simp only [am_sig, Bool.and_eq_true, decide_eq_true_eq] at h
  obtain ⟨⟨⟨h1, h2⟩, h3⟩, h4⟩ := h
  refine ⟨⟨h2, h3, ?_⟩, h4⟩
  cases hp : parseMethodDescriptor M'.1.desc with
  | none => rw [hp] at h1; simp at h1
  | some q =>
    rw [hp] at h1
    simp only [Option.map_some, Option.some.injEq] at h1 ⊢
    omega
theorem am_injc {a b : am_M} {x1 x2 : List am_V} {y1 y2 : Nat} {z1 z2 : List am_V} (h : (some (a, x1, y1, z1) : Option (am_M × List am_V × Nat × List am_V)) = some (b, x2, y2, z2)) : a = b ∧ x1 = x2 ∧ y1 = y2 ∧ z1 = z2 := by
  cases h
  exact ⟨rfl, rfl, rfl, rfl⟩
theorem am_condc {b : Bool} {X : Option (am_M × List am_V × Nat × List am_V)} {y : am_M × List am_V × Nat × List am_V} (h : cond b X none = some y) : b = true ∧ X = some y := by
  cases b
  · cases h
  · exact ⟨rfl, h⟩
theorem am_goodIn {ws : List Cond} (h : ∀ w ∈ ws, w ∈ am_tb) : GoodIn am_tb ws := fun w hw => ⟨h w hw, am_tb_good (h w hw)⟩
theorem am_roomok {d' : Nat} {M' : am_M} {n n' : Nat} (hd : d' < d) (hm : M'.2.2.1 ≤ 16) : (am_rm d' n n').frames + 1 ≤ (am_rm d n0 n1).frames ∧ 8 + (M'.2.2.1 + 11) + (am_rm d' n n').locals ≤ (am_rm d n0 n1).locals := by
  constructor
  · show d' + 1 ≤ d
    omega
  · show 8 + (M'.2.2.1 + 11) + 35 * d' ≤ 35 * d
    omega
theorem am_st_eq {ad : Nat → Nat} {c : Nat} {as3 r : List am_V} : List.map (am_v ad) ((.inr (.inr (some c)) :: as3).reverse ++ r) = (as3.map (am_v ad)).reverse ++ Value.ref (ad c) :: r.map (am_v ad) := by
  simp [am_v]
set_option maxHeartbeats 4000000 in
theorem am_call {M' : am_M} {as : List am_V} {d' n1' : Nat} {Q' : Option am_V → am_H → Prop} (h : am_cx M σ.1 i st = some (M', as, nx, r)) (hC : am_Ct l dC dI tc M' d' n1' as σ Q') (hd : d' < d) (hn : σ.1 ≤ n1') (hn1 : n1' ≤ n1) (hr4 : r.length ≤ 4) (k : ∀ rv σ', Q' rv σ' → am_wp l dC dI tc M d n0 n1 Q nx lv (rv.toList ++ r) σ') : am_wp l dC dI tc M d n0 n1 Q i lv st σ := by
  unfold am_cx at h
  split at h
  · rename_i pc ins nx0 xs kk he
    split at h
    · rename_i mno na xs2
      split at h
      · rename_i M2 as2 r2 hm htk
        intro hok p e s m args below meth c ad0 A hB ad H locs ls hS
        have ho := hok i _ he
        have hp : am_pcd M i = pc := by unfold am_pcd; rw [he]
        have k := fun rv σ' q => k rv σ' q hok p e s m args below meth c ad0 A hB
        have hcode := am_Tcode mno _ hm
        obtain ⟨b, hb1, hb2, hb3⟩ := am_tk_spec _ _ _ _ _ htk
        rw [List.append_nil] at hb2
        subst hb2
        have hvsall := hS.vs
        rw [hb1] at hvsall
        have hvm := am_vs_mem hvsall
        have hr : am_vs σ.1 r2 := am_vs_of (fun v hv => hvm v (List.mem_append_right _ hv))
        have has : am_vs σ.1 as2 := am_vs_of (fun v hv => hvm v (List.mem_append_left _ (List.mem_reverse.mpr hv)))
        have hl := am_oke_lk ho
        have hn0 : n0 ≤ σ.1 := hS.2.1
        have hZ : ∀ U : State, U.heap = H → s.WarmedH U.vm → am_Z ad (va_A (am_w ad tc σ) H.size) U := fun U hU hW => am_Z.call hB.2.2.2.2.2.2.2.2.2.2 hS.2.2.2.2.2.1 (am_wA hS.2.2.2.2.1 hS.2.2.2.2.2.1 hB.2.2.2.2.2.2.2.2.2.1) (fun k hk => hS.1 k (Or.inr hk)) hU hW
        have hpre : ∀ U : State, U.heap = H → s.WarmedH U.vm → va_Pc (as2.map (am_v ad)) (fun U => U.heap.size = H.size ∧ va_P (dC, dI) classes (am_w ad tc σ) U.heap ∧ va_K (dC, dI) classes (am_tys tc) U ∧ va_D (fun _ => True) (am_w ad tc σ) ∧ am_Z ad (va_A (am_w ad tc σ) H.size) U) (as2.map (am_v ad)).toArray U := fun U hU hW =>
          ⟨rfl, by rw [hU], by rw [hU]; exact hS.2.2.2.1, va_K.moved hW.alike hB.2.2.2.2.2.2.2.2.1, hS.2.2.2.2.1.weaken (fun _ _ _ _ => trivial), hZ U hU hW⟩
        have hblind : FrameBlind (va_Pc (as2.map (am_v ad)) (fun U => U.heap.size = H.size ∧ va_P (dC, dI) classes (am_w ad tc σ) U.heap ∧ va_K (dC, dI) classes (am_tys tc) U ∧ va_D (fun _ => True) (am_w ad tc σ) ∧ am_Z ad (va_A (am_w ad tc σ) H.size) U)) := by
          intro a U g mk q
          obtain ⟨q0, q1, qP, qK, qD, qZ⟩ := q
          exact ⟨q0, q1, qP, va_K.moved (u := U) (U := U.calling g mk a) (Vm.Alike.refl U.vm) qK, qD, am_Z.blind qZ⟩
        have hcells : σ.1 - n0 + (n1' - σ.1) ≤ (am_rm d n0 n1).cells ∧ am_sz σ.1 - am_sz n0 + (am_sz n1' - am_sz σ.1) ≤ (am_rm d n0 n1).slots := by
          have hm0 := am_sz_mono hn0
          have hm1 := am_sz_mono hn
          have hm2 := am_sz_mono hn1
          refine ⟨?_, ?_⟩
          · show _ ≤ n1 - n0
            omega
          · show _ ≤ am_sz n1 - am_sz n0
            omega
        have hfix : CallFix p m c M.2.1 M.2.2.1 s args am_tb M.1.cls := ⟨hB.1, hB.2.1, hB.2.2.2.1, hB.2.2.2.2.1, hB.2.2.2.2.2.1⟩
        have hsize : ls.size = M.2.2.1 := hS.lh.1
        rw [hp]
        split at h
        · rename_i idx
          split at h
          · rename_i c0 as3
            split at h
            · rename_i ci ci' hsh hmc
              obtain ⟨hc0, h2⟩ := am_condc h
              obtain ⟨hc1, hc2⟩ := am_and2 hc0
              subst hc1
              obtain ⟨rfl, rfl, rfl, rfl⟩ := am_injc h2
              have hcat : 2 * 0 + ((r2.map (am_v ad)).map fun v => v.category).sum ≤ 8 := by
                have := am_cats ad r2
                omega
              have hdec := am_oke_dec ho (fun a b c d h => by cases h)
              simp only [am_lk, hm, Bool.and_eq_true] at hl
              obtain ⟨⟨⟨⟨l1, l2⟩, l3⟩, l4⟩, l5⟩ := hl
              obtain ⟨s1, s2⟩ := am_sig_spec l5
              obtain ⟨q, hq, hqn⟩ := am_Tmc mno _ _ _ hm hmc hsh
              obtain ⟨-, ⟨ks, hks, -, -⟩, -, -⟩ := am_Tc ci q hq
              have hna : na - 1 = as3.length := by rw [← hb3]; simp
              rw [hna] at s1
              have cw : CallW (am_rm d n0 n1) s args M.1.cls M2.1.cls idx M2.1 M2.2.1 M2.2.2.1 M2.2.2.2.1 (Cond.code M2.1 M2.2.1 M2.2.2.1 M2.2.2.2.1 :: am_tb) (am_rm d' σ.1 n1') (n1' - σ.1) (am_sz n1' - am_sz σ.1) as3.length :=
                cwV as3.length hB.2.2.2.2.2.1 (am_goodIn (fun w hw => by
                  unfold wsV at hw
                  rcases List.mem_append.mp hw with z | z
                  · simp only [List.mem_cons, List.not_mem_nil, or_false] at z
                    rcases z with rfl | rfl | rfl | rfl
                    · exact am_in_tb l1
                    · exact am_in_tb l2
                    · exact am_in_tb l3
                    · exact am_in_tb l4
                  · rcases List.mem_cons.mp z with rfl | z
                    · exact hcode
                    · exact z)) rfl rfl rfl ⟨rfl, s1⟩ (am_roomok hd s2)
              have hrv := va_recv hB.2.2.2.2.2.2.2.2.1 hS.2.2.2.1 (by rw [← am_at_eq]; exact hq) (am_w_obj hc2 hsh hks)
              rw [hqn] at hrv
              have hrun := va_runV (l := l) (e := e) (below := below) (meth := meth) (locs := locs) (cells := σ.1 - n0) (slots := am_sz σ.1 - am_sz n0) (As := as3.map (am_v ad)) (rest := r2.map (am_v ad)) (g := F0 m pc ls (st.map (am_v ad))) hfix (hC ad H.size hS.hf has) cw ⟨hblind, hrv, hpre⟩ rfl (by simp) hsize (by show st.map (am_v ad) = _; rw [hb1]; exact am_st_eq) hcat hdec hcells
              exact am_after hrun hB hS hr hn (am_oke_nx ho rfl) k
            · cases h
          · cases h
        · rename_i idx
          split at h
          · rename_i c0 as3
            obtain ⟨rfl, rfl, rfl, rfl⟩ := am_injc h
            have hcat : 2 * 0 + ((r2.map (am_v ad)).map fun v => v.category).sum ≤ 8 := by
              have := am_cats ad r2
              omega
            have hdec := am_oke_dec ho (fun a b c d h => by cases h)
            simp only [am_lk, hm, Bool.and_eq_true, decide_eq_true_eq] at hl
            obtain ⟨⟨⟨⟨⟨l1, l2⟩, l3⟩, l4⟩, l6⟩, l5⟩ := hl
            obtain ⟨s1, s2⟩ := am_sig_spec l5
            have hna : na - 1 = as3.length := by rw [← hb3]; simp
            rw [hna] at s1
            have cw := cwI (R := am_rm d n0 n1) (rm := am_rm d' σ.1 n1') (ws := Cond.code M2.1 M2.2.1 M2.2.2.1 M2.2.2.2.1 :: am_tb) as3.length hB.2.2.2.2.2.1 (am_goodIn (fun w hw => by
                rcases List.mem_cons.mp hw with rfl | z
                · exact hcode
                · exact z)) (by rw [l6]) rfl rfl (hB.2.2.2.2.2.1 _ (am_in_tb l3)) (hB.2.2.2.2.2.1 _ (am_in_tb l1)) (hB.2.2.2.2.2.1 _ (am_in_tb l2)) l4 s1 (am_roomok hd s2)
            have hrun := va_runI (l := l) (e := e) (below := below) (meth := meth) (locs := locs) (cells := σ.1 - n0) (slots := am_sz σ.1 - am_sz n0) (As := as3.map (am_v ad)) (rest := r2.map (am_v ad)) (g := F0 m pc ls (st.map (am_v ad))) hfix (hC ad H.size hS.hf has) cw ⟨hblind, hpre⟩ rfl (by simp) hsize (by show st.map (am_v ad) = _; rw [hb1]; exact am_st_eq) hcat hdec hcells
            exact am_after hrun hB hS hr hn (am_oke_nx ho rfl) k
          · rename_i z0 c0 as3
            obtain ⟨rfl, rfl, rfl, rfl⟩ := am_injc h
            have hcat : 2 * 0 + ((r2.map (am_v ad)).map fun v => v.category).sum ≤ 8 := by
              have := am_cats ad r2
              omega
            have hdec := am_oke_dec ho (fun a b c d h => by cases h)
            simp only [am_lk, hm, Bool.and_eq_true, decide_eq_true_eq] at hl
            obtain ⟨⟨⟨⟨⟨l1, l2⟩, l3⟩, l4⟩, l6⟩, l5⟩ := hl
            obtain ⟨s1, s2⟩ := am_sig_spec l5
            have hna : na - 1 = as3.length := by rw [← hb3]; simp
            rw [hna] at s1
            have cw := va_cnB (R := am_rm d n0 n1) (rm := am_rm d' σ.1 n1') (ret := none) (ws := Cond.code M2.1 M2.2.1 M2.2.2.1 M2.2.2.2.1 :: am_tb) as3.length hB.2.2.2.2.2.1 (am_goodIn (fun w hw => by
                rcases List.mem_cons.mp hw with rfl | z
                · exact hcode
                · exact z)) (by rw [l6]) rfl rfl (hB.2.2.2.2.2.2.2.2.2.2.1 _ l1) (hB.2.2.2.2.2.1 _ (am_in_tb l3)) s1 (am_roomok hd s2)
            have hrun := va_runIN (l := l) (e := e) (below := below) (meth := meth) (locs := locs) (cells := σ.1 - n0) (slots := am_sz σ.1 - am_sz n0) (As := as3.map (am_v ad)) (rest := r2.map (am_v ad)) (g := F0 m pc ls (st.map (am_v ad))) hfix (hC ad H.size hS.hf has) ⟨cw, l4, hB.2.2.2.2.2.1 _ (am_in_tb l2)⟩ ⟨hblind, hpre⟩ rfl (by simp) hsize (by show st.map (am_v ad) = _; rw [hb1]; exact am_st_eq) hcat hdec hcells
            exact am_after hrun hB hS hr hn (am_oke_nx ho rfl) k
          · cases h
        · rename_i idx
          split at h
          · obtain ⟨rfl, rfl, rfl, rfl⟩ := am_injc h
            have hcat : 2 * 0 + ((r2.map (am_v ad)).map fun v => v.category).sum ≤ 8 := by
              have := am_cats ad r2
              omega
            have hdec := am_oke_dec ho (fun a b c d h => by cases h)
            simp only [am_lk, hm, Bool.and_eq_true, decide_eq_true_eq] at hl
            obtain ⟨⟨⟨⟨l1, l2⟩, l3⟩, l4⟩, l5⟩ := hl
            obtain ⟨s1, s2⟩ := am_sig_spec l5
            have hna : na - 0 = as2.length := by rw [← hb3]; simp
            rw [hna] at s1
            have cw := cwS (R := am_rm d n0 n1) (rm := am_rm d' σ.1 n1') (ws := Cond.code M2.1 M2.2.1 M2.2.2.1 M2.2.2.2.1 :: am_tb) as2.length hB.2.2.2.2.2.1 (am_goodIn (fun w hw => by
                  unfold wsS at hw
                  rcases List.mem_append.mp hw with z | z
                  · simp only [List.mem_cons, List.not_mem_nil, or_false] at z
                    rcases z with rfl | rfl | rfl
                    · exact am_in_tb l1
                    · exact am_in_tb l2
                    · exact am_in_tb l3
                  · rcases List.mem_cons.mp z with rfl | z
                    · exact hcode
                    · exact z)) rfl rfl rfl ⟨l4, s1⟩ (am_roomok hd s2)
            have hrun := va_runS (l := l) (e := e) (below := below) (meth := meth) (locs := locs) (cells := σ.1 - n0) (slots := am_sz σ.1 - am_sz n0) (As := as2.map (am_v ad)) (rest := r2.map (am_v ad)) (g := F0 m pc ls (st.map (am_v ad))) hfix (hC ad H.size hS.hf has) cw ⟨hblind, hpre⟩ rfl (by simp) hsize (by show st.map (am_v ad) = _; rw [hb1]; simp) hcat hdec hcells
            exact am_after hrun hB hS hr hn (am_oke_nx ho rfl) k
          · cases h
        · cases h
      · cases h
    · cases h
  · cases h
end AmCall
end
section
theorem ok_0_init : am_okM mm0_init := am_okM_of (by decide +kernel)
theorem ok_0_sign : am_okM mm0_sign := am_okM_of (by decide +kernel)
theorem ok_0_read : am_okM mm0_read := am_okM_of (by decide +kernel)
theorem ok_0_wrong : am_okM mm0_wrong := am_okM_of (by decide +kernel)
theorem ok_0_word : am_okM mm0_word := am_okM_of (by decide +kernel)
theorem ok_0_clear : am_okM mm0_clear := am_okM_of (by decide +kernel)
theorem ok_0_fits : am_okM mm0_fits := am_okM_of (by decide +kernel)
theorem ok_0_derive : am_okM mm0_derive := am_okM_of (by decide +kernel)
theorem ok_0_part : am_okM mm0_part := am_okM_of (by decide +kernel)
theorem ok_0_sum : am_okM mm0_sum := am_okM_of (by decide +kernel)
theorem ok_0_furthest : am_okM mm0_furthest := am_okM_of (by decide +kernel)
theorem ok_0_print : am_okM mm0_print := am_okM_of (by decide +kernel)
theorem ok_0_at : am_okM mm0_at := am_okM_of (by decide +kernel)
theorem ok_0_isNoRank : am_okM mm0_isNoRank := am_okM_of (by decide +kernel)
theorem ok_0_readingOf : am_okM mm0_readingOf := am_okM_of (by decide +kernel)
theorem ok_0_putPart : am_okM mm0_putPart := am_okM_of (by decide +kernel)
theorem ok_0_put : am_okM mm0_put := am_okM_of (by decide +kernel)
theorem ok_6_init : am_okM mm6_init := am_okM_of (by decide +kernel)
theorem ok_6_thrown : am_okM mm6_thrown := am_okM_of (by decide +kernel)
theorem ok_6_sign : am_okM mm6_sign := am_okM_of (by decide +kernel)
theorem ok_6_letter : am_okM mm6_letter := am_okM_of (by decide +kernel)
theorem ok_6_newKind : am_okM mm6_newKind := am_okM_of (by decide +kernel)
theorem ok_6_fault : am_okM mm6_fault := am_okM_of (by decide +kernel)
theorem ok_6_read : am_okM mm6_read := am_okM_of (by decide +kernel)
theorem ok_6_wrong : am_okM mm6_wrong := am_okM_of (by decide +kernel)
theorem ok_6_word : am_okM mm6_word := am_okM_of (by decide +kernel)
theorem ok_6_clear : am_okM mm6_clear := am_okM_of (by decide +kernel)
theorem ok_6_isFit : am_okM mm6_isFit := am_okM_of (by decide +kernel)
theorem ok_6_fits : am_okM mm6_fits := am_okM_of (by decide +kernel)
theorem ok_6_alternative : am_okM mm6_alternative := am_okM_of (by decide +kernel)
theorem ok_6_can : am_okM mm6_can := am_okM_of (by decide +kernel)
theorem ok_6_goes : am_okM mm6_goes := am_okM_of (by decide +kernel)
theorem ok_6_valueOf : am_okM mm6_valueOf := am_okM_of (by decide +kernel)
theorem ok_6_extra : am_okM mm6_extra := am_okM_of (by decide +kernel)
theorem ok_6_keep : am_okM mm6_keep := am_okM_of (by decide +kernel)
theorem ok_6_look : am_okM mm6_look := am_okM_of (by decide +kernel)
theorem ok_6_isRank : am_okM mm6_isRank := am_okM_of (by decide +kernel)
theorem ok_6_there : am_okM mm6_there := am_okM_of (by decide +kernel)
theorem ok_6_derive : am_okM mm6_derive := am_okM_of (by decide +kernel)
theorem ok_6_sum : am_okM mm6_sum := am_okM_of (by decide +kernel)
theorem ok_6_again : am_okM mm6_again := am_okM_of (by decide +kernel)
theorem ok_6_part : am_okM mm6_part := am_okM_of (by decide +kernel)
theorem ok_6_takes : am_okM mm6_takes := am_okM_of (by decide +kernel)
theorem ok_6_mayMiss : am_okM mm6_mayMiss := am_okM_of (by decide +kernel)
theorem ok_6_furthest : am_okM mm6_furthest := am_okM_of (by decide +kernel)
theorem ok_6_put : am_okM mm6_put := am_okM_of (by decide +kernel)
theorem ok_6_print : am_okM mm6_print := am_okM_of (by decide +kernel)
theorem ok_6_at : am_okM mm6_at := am_okM_of (by decide +kernel)
theorem ok_1_init : am_okM mm1_init := am_okM_of (by decide +kernel)
theorem ok_1_fill : am_okM mm1_fill := am_okM_of (by decide +kernel)
theorem ok_1_empty : am_okM mm1_empty := am_okM_of (by decide +kernel)
theorem ok_1_become : am_okM mm1_become := am_okM_of (by decide +kernel)
theorem ok_1_take : am_okM mm1_take := am_okM_of (by decide +kernel)
theorem ok_1_takeRowEnd : am_okM mm1_takeRowEnd := am_okM_of (by decide +kernel)
theorem ok_1_takeMark : am_okM mm1_takeMark := am_okM_of (by decide +kernel)
theorem ok_1_takeDigit : am_okM mm1_takeDigit := am_okM_of (by decide +kernel)
theorem ok_1_takePart : am_okM mm1_takePart := am_okM_of (by decide +kernel)
theorem ok_1_kindOf : am_okM mm1_kindOf := am_okM_of (by decide +kernel)
theorem ok_1_missingCost : am_okM mm1_missingCost := am_okM_of (by decide +kernel)
theorem ok_1_endsRow : am_okM mm1_endsRow := am_okM_of (by decide +kernel)
theorem ok_1_partOfKind : am_okM mm1_partOfKind := am_okM_of (by decide +kernel)
theorem ok_2_init : am_okM mm2_init := am_okM_of (by decide +kernel)
theorem ok_2_removeAll : am_okM mm2_removeAll := am_okM_of (by decide +kernel)
theorem ok_2_placesIn : am_okM mm2_placesIn := am_okM_of (by decide +kernel)
theorem ok_2_alternativesAt : am_okM mm2_alternativesAt := am_okM_of (by decide +kernel)
theorem ok_2_isBehindNext : am_okM mm2_isBehindNext := am_okM_of (by decide +kernel)
theorem ok_2_add : am_okM mm2_add := am_okM_of (by decide +kernel)
theorem ok_2_kindOf : am_okM mm2_kindOf := am_okM_of (by decide +kernel)
theorem ok_2_valueOf : am_okM mm2_valueOf := am_okM_of (by decide +kernel)
theorem ok_2_costOf : am_okM mm2_costOf := am_okM_of (by decide +kernel)
theorem ok_2_hasKind : am_okM mm2_hasKind := am_okM_of (by decide +kernel)
theorem ok_2_slotOf : am_okM mm2_slotOf := am_okM_of (by decide +kernel)
theorem ok_3_init : am_okM mm3_init := am_okM_of (by decide +kernel)
theorem ok_3_holds : am_okM mm3_holds := am_okM_of (by decide +kernel)
theorem ok_3_add : am_okM mm3_add := am_okM_of (by decide +kernel)
theorem ok_5_init : am_okM mm5_init := am_okM_of (by decide +kernel)
theorem ok_5_drop : am_okM mm5_drop := am_okM_of (by decide +kernel)
theorem ok_5_begin : am_okM mm5_begin := am_okM_of (by decide +kernel)
theorem ok_5_choose : am_okM mm5_choose := am_okM_of (by decide +kernel)
theorem ok_5_addPart : am_okM mm5_addPart := am_okM_of (by decide +kernel)
theorem ok_5_fact : am_okM mm5_fact := am_okM_of (by decide +kernel)
theorem ok_5_isBefore : am_okM mm5_isBefore := am_okM_of (by decide +kernel)
theorem ok_4_init : am_okM mm4_init := am_okM_of (by decide +kernel)
theorem ok_4_forget : am_okM mm4_forget := am_okM_of (by decide +kernel)
theorem ok_4_find : am_okM mm4_find := am_okM_of (by decide +kernel)
theorem ok_4_stateOf : am_okM mm4_stateOf := am_okM_of (by decide +kernel)
theorem ok_4_isReached : am_okM mm4_isReached := am_okM_of (by decide +kernel)
theorem ok_4_stateBehind : am_okM mm4_stateBehind := am_okM_of (by decide +kernel)
theorem ok_4_reachAll : am_okM mm4_reachAll := am_okM_of (by decide +kernel)
theorem ok_4_reachFrom : am_okM mm4_reachFrom := am_okM_of (by decide +kernel)
theorem ok_4_reach : am_okM mm4_reach := am_okM_of (by decide +kernel)
theorem ok_4_listPlaceValues : am_okM mm4_listPlaceValues := am_okM_of (by decide +kernel)
theorem ok_4_listPlaceValuesAt : am_okM mm4_listPlaceValuesAt := am_okM_of (by decide +kernel)
theorem ok_4_listPlaceValue : am_okM mm4_listPlaceValue := am_okM_of (by decide +kernel)
theorem ok_4_assume : am_okM mm4_assume := am_okM_of (by decide +kernel)
theorem ok_4_weigh : am_okM mm4_weigh := am_okM_of (by decide +kernel)
theorem ok_4_misfitCost : am_okM mm4_misfitCost := am_okM_of (by decide +kernel)
theorem ok_4_offer : am_okM mm4_offer := am_okM_of (by decide +kernel)
theorem ok_4_keep : am_okM mm4_keep := am_okM_of (by decide +kernel)
theorem ok_4_trace : am_okM mm4_trace := am_okM_of (by decide +kernel)
theorem ok_4_admitCandidate : am_okM mm4_admitCandidate := am_okM_of (by decide +kernel)
end
section
/-! where each cell's references go, once all is made: a, b, c are the readings first, second, candidate -/
def pr_t (a b c : Nat) : List (List (Option Nat)) := [
  [some 1, none, none, some 2, some 7, some 12, some 18, some 22, some 37, none], [],
  [none, none, some 3, some 4, some 5, some 6, none, none], [], [], [], [],
  [none, none, some 8, some 9, some 10, some 11, none, none], [], [], [], [],
  [none, some 13, some 14, some 15, some 16, some 17], [], [], [], [], [],
  [none, some 19, some 20, some 21], [], [], [],
  [some a, some b, none, some c, none, some 2, some 12, some 18, some 32, some 33, some 34, some 35, some 36, none, none],
  [none, none, none, some 24, some 25], [], [], [none, none, none, some 27, some 28], [], [], [none, none, none, some 30, some 31], [], [],
  [], [], [], [], [], [],
  [none, none, some 39, none, none, none, some 40, some 41, some 42, none, some 43, some 44, some 45, none, some 46, some 47, some 48, some 49, some 50, none, some 51, none, none, some 52, some 53, some 54, some 55, some 56, none, some 57]]
def pr_r (a b c x y : Nat) : Option Nat := match am_at (pr_t a b c) x with
  | some l => match am_at l y with
    | some o => o
    | none => none
  | none => none
def am_swk (M : am_M) (pc : Nat) (dflt lo hi : Int) (offs : Array Int) (t0 : Nat) (ts : List Nat) : Bool :=
  decide ((pc : Int) + dflt = (am_pcd M t0 : Int)) && decide (lo ≤ hi) && decide (hi - lo + 1 = (ts.length : Int)) && (List.range ts.length).all (fun j => match am_at ts j, offs[j]? with
    | some t, some o => decide ((pc : Int) + o = (am_pcd M t : Int))
    | _, _ => false)
section Tools
variable {l : Launch} {dC : Nat → ClassId} {dI : Nat → Nat → Nat} {tc : Nat → ClassId} {M : am_M} {d n0 n1 : Nat} {Q Q' : Option am_V → am_H → Prop} {i nx : Nat} {lv : am_L} {st r : List am_V} {σ : am_H}
/-- a call whose answer is one value -/
theorem am_callv {M' : am_M} {as : List am_V} {d' : Nat} {v : am_V} {σ' : am_H} (h : am_cx M σ.1 i st = some (M', as, nx, r)) (hC : am_Ct l dC dI tc M' d' σ.1 as σ (fun rv s => rv = some v ∧ s = σ')) (hd : d' < d) (hn1 : σ.1 ≤ n1) (hr4 : r.length ≤ 4) (k : am_wp l dC dI tc M d n0 n1 Q nx lv (v :: r) σ') : am_wp l dC dI tc M d n0 n1 Q i lv st σ :=
  am_call h hC hd (Nat.le_refl _) hn1 hr4 (fun rv s q => by obtain ⟨rfl, rfl⟩ := q; exact k)
/-- a call without an answer -/
theorem am_calln {M' : am_M} {as : List am_V} {d' : Nat} {σ' : am_H} (h : am_cx M σ.1 i st = some (M', as, nx, r)) (hC : am_Ct l dC dI tc M' d' σ.1 as σ (fun rv s => rv = none ∧ s = σ')) (hd : d' < d) (hn1 : σ.1 ≤ n1) (hr4 : r.length ≤ 4) (k : am_wp l dC dI tc M d n0 n1 Q nx lv r σ') : am_wp l dC dI tc M d n0 n1 Q i lv st σ :=
  am_call h hC hd (Nat.le_refl _) hn1 hr4 (fun rv s q => by obtain ⟨rfl, rfl⟩ := q; exact k)
theorem am_mono (hq : ∀ r s, Q r s → Q' r s) (k : am_wp l dC dI tc M d n0 n1 Q i lv st σ) : am_wp l dC dI tc M d n0 n1 Q' i lv st σ := by
  intro hok p e s m args below meth c ad0 A hB ad H locs ls hS T hT X
  obtain ⟨t, h1, o, h2, h3, ⟨⟨r, σ1, ad1, a1, a2, a3⟩, h5⟩, h6⟩ := k hok p e s m args below meth c ad0 A hB ad H locs ls hS T hT X
  exact ⟨t, h1, o, h2, h3, ⟨⟨r, σ1, ad1, a1, hq _ _ a2, a3⟩, h5⟩, h6⟩
theorem am_Ct_mono {as : List am_V} (hq : ∀ r s, Q r s → Q' r s) (k : am_Ct l dC dI tc M d n1 as σ Q) : am_Ct l dC dI tc M d n1 as σ Q' := by
  intro ad sz h1 h2 p e ha hc hk s m args below hf hp hP hK
  obtain ⟨t, o, g1, g2, g3, ⟨⟨⟨r, σ1, ad1, a1, a2, a3⟩, h5⟩, h6⟩⟩ := k ad sz h1 h2 p e ha hc hk s m args below hf hp hP hK
  exact ⟨t, o, g1, g2, g3, ⟨⟨⟨r, σ1, ad1, a1, hq _ _ a2, a3⟩, h5⟩, h6⟩⟩
/-- a switch by a table: xs is the default's place, then the places from lo on -/
theorem am_sw {pc nx0 t0 : Nat} {ts : List Nat} {dflt lo hi kk : Int} {offs : Array Int} {x : Int} (he : am_at M.2.2.2.2 i = some (pc, .tableswitch dflt lo hi offs, nx0, t0 :: ts, kk)) (hsw : am_swk M pc dflt lo hi offs t0 ts = true)
    (ko : x < lo ∨ hi < x → am_wp l dC dI tc M d n0 n1 Q t0 lv r σ) (ki : ∀ (j t : Nat), am_at ts j = some t → x = lo + (j : Int) → am_wp l dC dI tc M d n0 n1 Q t lv r σ) : am_wp l dC dI tc M d n0 n1 Q i lv (.inl x :: r) σ := by
  intro hok p e s m args below meth c ad0 A hB ad H locs ls hS
  have ho := hok i _ he
  have hp : am_pcd M i = pc := by unfold am_pcd; rw [he]
  obtain ⟨hx, hr⟩ := hS.vs
  have hdec : decode M.2.1 pc = .ok (.tableswitch dflt lo hi offs, kk.toNat) := by
    simp only [am_oke, Bool.and_eq_true, decide_eq_true_eq] at ho
    exact ho.1.1.1
  simp only [am_swk, Bool.and_eq_true, decide_eq_true_eq, List.all_eq_true, List.mem_range] at hsw
  obtain ⟨⟨⟨w1, w2⟩, w3⟩, w4⟩ := hsw
  rw [hp]
  have hxi := am_ti hx
  by_cases hz : x < lo ∨ hi < x
  · exact lv_tableOut hB.1 hB.2.1 hdec (by rw [hxi]; exact hz) w1 (ko hz hok p e s m args below meth c ad0 A hB ad H locs ls (hS.sk hr))
  · have hj : (x - lo).toNat < ts.length := by omega
    have hg : am_at ts (x - lo).toNat = some ts[(x - lo).toNat] := by rw [am_at_eq]; exact List.getElem?_eq_getElem hj
    have h4 := w4 (x - lo).toNat (by omega)
    obtain ⟨off, ho1, ho2⟩ : ∃ off, offs[(x - lo).toNat]? = some off ∧ (pc : Int) + off = (am_pcd M ts[(x - lo).toNat] : Int) := by
      rw [hg] at h4
      cases hq : offs[(x - lo).toNat]? with
      | none => rw [hq] at h4; simp at h4
      | some off => rw [hq] at h4; exact ⟨off, rfl, by simpa using h4⟩
    exact lv_tableIn hB.1 hB.2.1 hdec (by rw [hxi]; omega) (by rw [hxi]; omega) (by rw [hxi]; exact ho1) ho2 (ki _ _ hg (by omega) hok p e s m args below meth c ad0 A hB ad H locs ls (hS.sk hr))
end Tools
end
section
section Leaf
variable {l : Launch} {dC : Nat → ClassId} {dI : Nat → Nat → Nat} {tc : Nat → ClassId} {f : Nat → Nat → Int} {g : Nat → Int → Int} {a b c : Nat}
def zPl (g : Nat → Int → Int) (x : Int) : Int := if 0 ≤ x ∧ x < 6 then g 13 x else 0
def zNa (g : Nat → Int → Int) (x y : Int) : Int := if (0 ≤ x ∧ x < 6) ∧ 0 ≤ y ∧ y < 5 then g 14 (x * 5 + y) else 0
def zSl (x y z : Int) : Int := if ((0 ≤ x ∧ x < 6) ∧ 0 ≤ y ∧ y < 5) ∧ 0 ≤ z ∧ z < 4 then (x * 5 + y) * 4 + z else -1
set_option maxRecDepth 100000 in
set_option maxHeartbeats 4000000 in
theorem ct_slotOf (x y z : Int)  : am_Ct l dC dI tc mm2_slotOf 0 58 [.inl x, .inl y, .inl z] (58, f, g, pr_r a b c) (fun r s => r = some (.inl (zSl x y z)) ∧ s = (58, f, g, pr_r a b c)) := by
  unfold zSl
  refine am_enter ok_2_slotOf rfl (by decide) (Nat.le_of_ble_eq_true rfl) rfl ?_
  repeat' first
    | (refine am_go rfl (by first | exact True.intro | omega) ?_)
    | (refine am_if rfl (fun c1 => ?_) (fun c1 => ?_))
    | (refine am_iret rfl rfl rfl ?_)
    | (refine am_zret rfl rfl (by first | exact Or.inl rfl | exact Or.inr rfl) rfl ?_)
    | (refine am_vret (x := 0) rfl rfl rfl ?_)
  all_goals (first | exact ⟨rfl, rfl⟩ | (rw [if_pos (by omega)]; exact ⟨rfl, rfl⟩) | (rw [if_neg (by omega)]; exact ⟨rfl, rfl⟩))
set_option maxRecDepth 100000 in
set_option maxHeartbeats 4000000 in
theorem ct_placesIn (x : Int)  : am_Ct l dC dI tc mm2_placesIn 0 58 [(.inr (.inr (some 12))), .inl x] (58, f, g, pr_r a b c) (fun r s => r = some (.inl (zPl g x)) ∧ s = (58, f, g, pr_r a b c)) := by
  unfold zPl
  refine am_enter ok_2_placesIn rfl (by decide) (Nat.le_of_ble_eq_true rfl) rfl ?_
  repeat' first
    | (refine am_go rfl (by first | exact True.intro | omega) ?_)
    | (refine am_if rfl (fun c1 => ?_) (fun c1 => ?_))
    | (refine am_iret rfl rfl rfl ?_)
    | (refine am_zret rfl rfl (by first | exact Or.inl rfl | exact Or.inr rfl) rfl ?_)
    | (refine am_vret (x := 0) rfl rfl rfl ?_)
  all_goals (first | exact ⟨rfl, rfl⟩ | (rw [if_pos (by omega)]; exact ⟨rfl, rfl⟩) | (rw [if_neg (by omega)]; exact ⟨rfl, rfl⟩))
set_option maxRecDepth 100000 in
set_option maxHeartbeats 4000000 in
theorem ct_alternativesAt (x y : Int)  : am_Ct l dC dI tc mm2_alternativesAt 0 58 [(.inr (.inr (some 12))), .inl x, .inl y] (58, f, g, pr_r a b c) (fun r s => r = some (.inl (zNa g x y)) ∧ s = (58, f, g, pr_r a b c)) := by
  unfold zNa
  refine am_enter ok_2_alternativesAt rfl (by decide) (Nat.le_of_ble_eq_true rfl) rfl ?_
  repeat' first
    | (refine am_go rfl (by first | exact True.intro | omega) ?_)
    | (refine am_if rfl (fun c1 => ?_) (fun c1 => ?_))
    | (refine am_iret rfl rfl rfl ?_)
    | (refine am_zret rfl rfl (by first | exact Or.inl rfl | exact Or.inr rfl) rfl ?_)
    | (refine am_vret (x := 0) rfl rfl rfl ?_)
  all_goals (first | exact ⟨rfl, rfl⟩ | (rw [if_pos (by omega)]; exact ⟨rfl, rfl⟩) | (rw [if_neg (by omega)]; exact ⟨rfl, rfl⟩))
set_option maxRecDepth 100000 in
set_option maxHeartbeats 4000000 in
theorem ct_isBehindNext (x y : Int)  : am_Ct l dC dI tc mm2_isBehindNext 1 58 [(.inr (.inr (some 12))), .inl x, .inl y] (58, f, g, pr_r a b c) (fun r s => r = some (.inl (if f 12 0 < x ∨ zPl g x < y then 1 else 0)) ∧ s = (58, f, g, pr_r a b c)) := by
  refine am_enter ok_2_isBehindNext rfl (by decide) (Nat.le_of_ble_eq_true rfl) rfl ?_
  repeat' first
    | (refine am_callv rfl (ct_placesIn _) (by decide) (Nat.le_of_ble_eq_true rfl) (Nat.le_of_ble_eq_true rfl) ?_)
    | (refine am_go rfl (by first | exact True.intro | omega) ?_)
    | (refine am_if rfl (fun c1 => ?_) (fun c1 => ?_))
    | (refine am_iret rfl rfl rfl ?_)
    | (refine am_zret rfl rfl (by first | exact Or.inl rfl | exact Or.inr rfl) rfl ?_)
    | (refine am_vret (x := 0) rfl rfl rfl ?_)
  all_goals (first | exact ⟨rfl, rfl⟩ | (rw [if_pos (by omega)]; exact ⟨rfl, rfl⟩) | (rw [if_neg (by omega)]; exact ⟨rfl, rfl⟩))
set_option maxRecDepth 100000 in
set_option maxHeartbeats 4000000 in
theorem ct_lkindOf (x y z : Int) : am_Ct l dC dI tc mm2_kindOf 1 58 [(.inr (.inr (some 12))), .inl x, .inl y, .inl z] (58, f, g, pr_r a b c) (fun r s => r = some (.inl (if ((0 ≤ x ∧ x < 6) ∧ 0 ≤ y ∧ y < 5) ∧ 0 ≤ z ∧ z < 4 then g 15 ((x * 5 + y) * 4 + z) else -1)) ∧ s = (58, f, g, pr_r a b c)) := by
  by_cases hz : ((0 ≤ x ∧ x < 6) ∧ 0 ≤ y ∧ y < 5) ∧ 0 ≤ z ∧ z < 4
  · have e1 : zSl x y z = (x * 5 + y) * 4 + z := if_pos hz
    rw [if_pos hz]
    refine am_enter ok_2_kindOf rfl (by decide) (Nat.le_of_ble_eq_true rfl) rfl ?_
    repeat' first
      | (refine am_callv rfl (ct_slotOf _ _ _) (by decide) (Nat.le_of_ble_eq_true rfl) (Nat.le_of_ble_eq_true rfl) ?_; rw [e1])
      | (refine am_go rfl (by first | exact True.intro | omega) ?_)
      | (refine am_if rfl (fun c1 => ?_) (fun c1 => ?_))
      | (refine am_iret rfl rfl rfl ?_)
      | (refine am_zret rfl rfl (by first | exact Or.inl rfl | exact Or.inr rfl) rfl ?_)
      | (refine am_vret (x := 0) rfl rfl rfl ?_)
    all_goals (first | exact ⟨rfl, rfl⟩ | omega)
  · have e1 : zSl x y z = -1 := if_neg hz
    rw [if_neg hz]
    refine am_enter ok_2_kindOf rfl (by decide) (Nat.le_of_ble_eq_true rfl) rfl ?_
    repeat' first
      | (refine am_callv rfl (ct_slotOf _ _ _) (by decide) (Nat.le_of_ble_eq_true rfl) (Nat.le_of_ble_eq_true rfl) ?_; rw [e1])
      | (refine am_go rfl (by first | exact True.intro | omega) ?_)
      | (refine am_if rfl (fun c1 => ?_) (fun c1 => ?_))
      | (refine am_iret rfl rfl rfl ?_)
      | (refine am_zret rfl rfl (by first | exact Or.inl rfl | exact Or.inr rfl) rfl ?_)
      | (refine am_vret (x := 0) rfl rfl rfl ?_)
    all_goals (first | exact ⟨rfl, rfl⟩ | omega)
set_option maxRecDepth 100000 in
set_option maxHeartbeats 4000000 in
theorem ct_lvalueOf (x y z : Int) : am_Ct l dC dI tc mm2_valueOf 1 58 [(.inr (.inr (some 12))), .inl x, .inl y, .inl z] (58, f, g, pr_r a b c) (fun r s => r = some (.inl (if ((0 ≤ x ∧ x < 6) ∧ 0 ≤ y ∧ y < 5) ∧ 0 ≤ z ∧ z < 4 then g 16 ((x * 5 + y) * 4 + z) else -1)) ∧ s = (58, f, g, pr_r a b c)) := by
  by_cases hz : ((0 ≤ x ∧ x < 6) ∧ 0 ≤ y ∧ y < 5) ∧ 0 ≤ z ∧ z < 4
  · have e1 : zSl x y z = (x * 5 + y) * 4 + z := if_pos hz
    rw [if_pos hz]
    refine am_enter ok_2_valueOf rfl (by decide) (Nat.le_of_ble_eq_true rfl) rfl ?_
    repeat' first
      | (refine am_callv rfl (ct_slotOf _ _ _) (by decide) (Nat.le_of_ble_eq_true rfl) (Nat.le_of_ble_eq_true rfl) ?_; rw [e1])
      | (refine am_go rfl (by first | exact True.intro | omega) ?_)
      | (refine am_if rfl (fun c1 => ?_) (fun c1 => ?_))
      | (refine am_iret rfl rfl rfl ?_)
      | (refine am_zret rfl rfl (by first | exact Or.inl rfl | exact Or.inr rfl) rfl ?_)
      | (refine am_vret (x := 0) rfl rfl rfl ?_)
    all_goals (first | exact ⟨rfl, rfl⟩ | omega)
  · have e1 : zSl x y z = -1 := if_neg hz
    rw [if_neg hz]
    refine am_enter ok_2_valueOf rfl (by decide) (Nat.le_of_ble_eq_true rfl) rfl ?_
    repeat' first
      | (refine am_callv rfl (ct_slotOf _ _ _) (by decide) (Nat.le_of_ble_eq_true rfl) (Nat.le_of_ble_eq_true rfl) ?_; rw [e1])
      | (refine am_go rfl (by first | exact True.intro | omega) ?_)
      | (refine am_if rfl (fun c1 => ?_) (fun c1 => ?_))
      | (refine am_iret rfl rfl rfl ?_)
      | (refine am_zret rfl rfl (by first | exact Or.inl rfl | exact Or.inr rfl) rfl ?_)
      | (refine am_vret (x := 0) rfl rfl rfl ?_)
    all_goals (first | exact ⟨rfl, rfl⟩ | omega)
set_option maxRecDepth 100000 in
set_option maxHeartbeats 4000000 in
theorem ct_lcostOf (x y z : Int) : am_Ct l dC dI tc mm2_costOf 1 58 [(.inr (.inr (some 12))), .inl x, .inl y, .inl z] (58, f, g, pr_r a b c) (fun r s => r = some (.inl (if ((0 ≤ x ∧ x < 6) ∧ 0 ≤ y ∧ y < 5) ∧ 0 ≤ z ∧ z < 4 then g 17 ((x * 5 + y) * 4 + z) else -1)) ∧ s = (58, f, g, pr_r a b c)) := by
  by_cases hz : ((0 ≤ x ∧ x < 6) ∧ 0 ≤ y ∧ y < 5) ∧ 0 ≤ z ∧ z < 4
  · have e1 : zSl x y z = (x * 5 + y) * 4 + z := if_pos hz
    rw [if_pos hz]
    refine am_enter ok_2_costOf rfl (by decide) (Nat.le_of_ble_eq_true rfl) rfl ?_
    repeat' first
      | (refine am_callv rfl (ct_slotOf _ _ _) (by decide) (Nat.le_of_ble_eq_true rfl) (Nat.le_of_ble_eq_true rfl) ?_; rw [e1])
      | (refine am_go rfl (by first | exact True.intro | omega) ?_)
      | (refine am_if rfl (fun c1 => ?_) (fun c1 => ?_))
      | (refine am_iret rfl rfl rfl ?_)
      | (refine am_zret rfl rfl (by first | exact Or.inl rfl | exact Or.inr rfl) rfl ?_)
      | (refine am_vret (x := 0) rfl rfl rfl ?_)
    all_goals (first | exact ⟨rfl, rfl⟩ | omega)
  · have e1 : zSl x y z = -1 := if_neg hz
    rw [if_neg hz]
    refine am_enter ok_2_costOf rfl (by decide) (Nat.le_of_ble_eq_true rfl) rfl ?_
    repeat' first
      | (refine am_callv rfl (ct_slotOf _ _ _) (by decide) (Nat.le_of_ble_eq_true rfl) (Nat.le_of_ble_eq_true rfl) ?_; rw [e1])
      | (refine am_go rfl (by first | exact True.intro | omega) ?_)
      | (refine am_if rfl (fun c1 => ?_) (fun c1 => ?_))
      | (refine am_iret rfl rfl rfl ?_)
      | (refine am_zret rfl rfl (by first | exact Or.inl rfl | exact Or.inr rfl) rfl ?_)
      | (refine am_vret (x := 0) rfl rfl rfl ?_)
    all_goals (first | exact ⟨rfl, rfl⟩ | omega)
set_option maxRecDepth 100000 in
set_option maxHeartbeats 4000000 in
theorem ct_hasKind (x y z : Int) (hna : zNa g x y ≤ 4) : am_Ct l dC dI tc mm2_hasKind 1 58 [(.inr (.inr (some 12))), .inl x, .inl y, .inl z] (58, f, g, pr_r a b c) (fun r s => s = (58, f, g, pr_r a b c) ∧ ((r = some (.inl 1) ∧ ∃ q, 0 ≤ q ∧ q < zNa g x y ∧ g 15 ((x * 5 + y) * 4 + q) = z) ∨ (r = some (.inl 0) ∧ ∀ q, 0 ≤ q → q < zNa g x y → g 15 ((x * 5 + y) * 4 + q) ≠ z))) := by
  by_cases hz : (0 ≤ x ∧ x < 6) ∧ 0 ≤ y ∧ y < 5
  · have e1 : zSl x y 0 = (x * 5 + y) * 4 + 0 := if_pos ⟨hz, by omega⟩
    have loop : ∀ (n : Nat) (i : Int), (zNa g x y - i).toNat ≤ n → 0 ≤ i → (∀ q, 0 ≤ q → q < i → g 15 ((x * 5 + y) * 4 + q) ≠ z) → am_wp l dC dI tc mm2_hasKind 1 58 58 (fun r s => s = (58, f, g, pr_r a b c) ∧ ((r = some (.inl 1) ∧ ∃ q, 0 ≤ q ∧ q < zNa g x y ∧ g 15 ((x * 5 + y) * 4 + q) = z) ∨ (r = some (.inl 0) ∧ ∀ q, 0 ≤ q → q < zNa g x y → g 15 ((x * 5 + y) * 4 + q) ≠ z))) 17 [some (.inr (.inr (some 12))), some (.inl x), some (.inl y), some (.inl z), some (.inl ((x * 5 + y) * 4 + 0)), some (.inl (zNa g x y)), some (.inl i)] [] (58, f, g, pr_r a b c) := by
      intro n
      induction n with
      | zero =>
        intro i hn hi hq
        (refine am_go rfl (by first | exact True.intro | omega) ?_)
        (refine am_go rfl (by first | exact True.intro | omega) ?_)
        refine am_if rfl (fun c1 => ?_) (fun c1 => ?_)
        · (refine am_go rfl (by first | exact True.intro | omega) ?_)
          refine am_zret rfl rfl (Or.inl rfl) rfl ?_
          exact ⟨rfl, Or.inr ⟨rfl, fun q h1 h2 => hq q h1 (by omega)⟩⟩
        · omega
      | succ n ih =>
        intro i hn hi hq
        (refine am_go rfl (by first | exact True.intro | omega) ?_)
        (refine am_go rfl (by first | exact True.intro | omega) ?_)
        refine am_if rfl (fun c1 => ?_) (fun c1 => ?_)
        · (refine am_go rfl (by first | exact True.intro | omega) ?_)
          refine am_zret rfl rfl (Or.inl rfl) rfl ?_
          exact ⟨rfl, Or.inr ⟨rfl, fun q h1 h2 => hq q h1 (by omega)⟩⟩
        · (refine am_go rfl (by first | exact True.intro | omega) ?_)
          (refine am_go rfl (by first | exact True.intro | omega) ?_)
          refine am_if rfl (fun c2 => ?_) (fun c2 => ?_)
          · omega
          · iterate 7 (refine am_go rfl (by first | exact True.intro | omega) ?_)
            refine am_if rfl (fun c3 => ?_) (fun c3 => ?_)
            · (refine am_go rfl (by first | exact True.intro | omega) ?_)
              (refine am_go rfl (by first | exact True.intro | omega) ?_)
              refine ih (i + 1) (by omega) (by omega) (fun q h1 h2 => ?_)
              by_cases e : q = i
              · subst e
                have e2 : (x * 5 + y) * 4 + q = (x * 5 + y) * 4 + 0 + q := by omega
                rw [e2]
                exact c3
              · exact hq q h1 (by omega)
            · (refine am_go rfl (by first | exact True.intro | omega) ?_)
              refine am_zret rfl rfl (Or.inr rfl) rfl ?_
              refine ⟨rfl, Or.inl ⟨rfl, i, hi, by omega, ?_⟩⟩
              have e2 : (x * 5 + y) * 4 + i = (x * 5 + y) * 4 + 0 + i := by omega
              rw [e2]
              omega
    refine am_enter ok_2_hasKind rfl (by decide) (Nat.le_of_ble_eq_true rfl) rfl ?_
    iterate 3 (refine am_go rfl (by first | exact True.intro | omega) ?_)
    refine am_callv rfl (ct_slotOf _ _ _) (by decide) (Nat.le_of_ble_eq_true rfl) (Nat.le_of_ble_eq_true rfl) ?_
    rw [e1]
    iterate 3 (refine am_go rfl (by first | exact True.intro | omega) ?_)
    refine am_if rfl (fun c1 => ?_) (fun c1 => ?_)
    · iterate 3 (refine am_go rfl (by first | exact True.intro | omega) ?_)
      refine am_callv rfl (ct_alternativesAt _ _) (by decide) (Nat.le_of_ble_eq_true rfl) (Nat.le_of_ble_eq_true rfl) ?_
      iterate 3 (refine am_go rfl (by first | exact True.intro | omega) ?_)
      exact loop _ 0 (Nat.le_refl _) (by omega) (fun q h1 h2 => by omega)
    · omega
  · have e1 : zSl x y 0 = -1 := if_neg (fun h => hz h.1)
    have e2 : zNa g x y = 0 := if_neg hz
    refine am_enter ok_2_hasKind rfl (by decide) (Nat.le_of_ble_eq_true rfl) rfl ?_
    iterate 3 (refine am_go rfl (by first | exact True.intro | omega) ?_)
    refine am_callv rfl (ct_slotOf _ _ _) (by decide) (Nat.le_of_ble_eq_true rfl) (Nat.le_of_ble_eq_true rfl) ?_
    rw [e1]
    iterate 3 (refine am_go rfl (by first | exact True.intro | omega) ?_)
    refine am_if rfl (fun c1 => ?_) (fun c1 => ?_)
    · omega
    · (refine am_go rfl (by first | exact True.intro | omega) ?_)
      refine am_zret rfl rfl (Or.inl rfl) rfl ?_
      exact ⟨rfl, Or.inr ⟨rfl, fun q h1 h2 => by omega⟩⟩
set_option maxRecDepth 100000 in
set_option maxHeartbeats 4000000 in
theorem ct_fkindOf (x : Int) (hs : f 2 0 ≤ 9) : am_Ct l dC dI tc mm1_kindOf 0 58 [(.inr (.inr (some 2))), .inl x] (58, f, g, pr_r a b c) (fun r s => r = some (.inl (if 0 ≤ x ∧ x < f 2 0 then g 3 x else -1)) ∧ s = (58, f, g, pr_r a b c)) := by
  refine am_enter ok_1_kindOf rfl (by decide) (Nat.le_of_ble_eq_true rfl) rfl ?_
  repeat' first
    | (refine am_go rfl (by first | exact True.intro | omega) ?_)
    | (refine am_if rfl (fun c1 => ?_) (fun c1 => ?_))
    | (refine am_iret rfl rfl rfl ?_)
    | (refine am_zret rfl rfl (by first | exact Or.inl rfl | exact Or.inr rfl) rfl ?_)
    | (refine am_vret (x := 0) rfl rfl rfl ?_)
  all_goals (first | exact ⟨rfl, rfl⟩ | (rw [if_pos (by omega)]; exact ⟨rfl, rfl⟩) | (rw [if_neg (by omega)]; exact ⟨rfl, rfl⟩))
set_option maxRecDepth 100000 in
set_option maxHeartbeats 4000000 in
theorem ct_fmissingCost (x : Int) (hs : f 2 0 ≤ 9) : am_Ct l dC dI tc mm1_missingCost 0 58 [(.inr (.inr (some 2))), .inl x] (58, f, g, pr_r a b c) (fun r s => r = some (.inl (if 0 ≤ x ∧ x < f 2 0 then g 4 x else -1)) ∧ s = (58, f, g, pr_r a b c)) := by
  refine am_enter ok_1_missingCost rfl (by decide) (Nat.le_of_ble_eq_true rfl) rfl ?_
  repeat' first
    | (refine am_go rfl (by first | exact True.intro | omega) ?_)
    | (refine am_if rfl (fun c1 => ?_) (fun c1 => ?_))
    | (refine am_iret rfl rfl rfl ?_)
    | (refine am_zret rfl rfl (by first | exact Or.inl rfl | exact Or.inr rfl) rfl ?_)
    | (refine am_vret (x := 0) rfl rfl rfl ?_)
  all_goals (first | exact ⟨rfl, rfl⟩ | (rw [if_pos (by omega)]; exact ⟨rfl, rfl⟩) | (rw [if_neg (by omega)]; exact ⟨rfl, rfl⟩))
set_option maxRecDepth 100000 in
set_option maxHeartbeats 4000000 in
theorem ct_endsRow (x : Int) (hs : f 2 0 ≤ 9) (hx : 0 ≤ x ∧ x < f 2 0) (hz : g 5 x = 0 ∨ g 5 x = 1) : am_Ct l dC dI tc mm1_endsRow 0 58 [(.inr (.inr (some 2))), .inl x] (58, f, g, pr_r a b c) (fun r s => r = some (.inl (g 5 x)) ∧ s = (58, f, g, pr_r a b c)) := by
  refine am_enter ok_1_endsRow rfl (by decide) (Nat.le_of_ble_eq_true rfl) rfl ?_
  repeat' first
    | (refine am_go rfl (by first | exact True.intro | omega) ?_)
    | (refine am_if rfl (fun c1 => ?_) (fun c1 => ?_))
    | (refine am_iret rfl rfl rfl ?_)
    | (refine am_zret rfl rfl (by first | exact Or.inl rfl | exact Or.inr rfl) rfl ?_)
    | (refine am_vret (x := 0) rfl rfl rfl ?_)
  all_goals (first | omega | (refine ⟨?_, rfl⟩; congr 2; omega))
end Leaf
end
section
theorem am_id {l : Launch} {dC : Nat → ClassId} {dI : Nat → Nat → Nat} {tc : Nat → ClassId} {M : am_M} {d n0 n1 : Nat} {Q : Option am_V → am_H → Prop} {i : Nat} {lv : am_L} {st : List am_V} {σ : am_H} (k : am_wp l dC dI tc M d n0 n1 Q i lv st σ) : am_wp l dC dI tc M d n0 n1 Q i lv st σ := k
theorem am_u1_s {f : Nat → Nat → Int} {c j : Nat} {x : Int} : am_u1 f c j x c j = x := am_u1_eq
theorem am_u1_j {f : Nat → Nat → Int} {c j k : Nat} {x : Int} (h : k ≠ j) : am_u1 f c j x c k = f c k := am_u1_ne (Or.inr h)
theorem am_u1_c {f : Nat → Nat → Int} {c j b k : Nat} {x : Int} (h : b ≠ c) : am_u1 f c j x b k = f b k := am_u1_ne (Or.inl h)
theorem am_u3_s {g : Nat → Int → Int} {c : Nat} {j x : Int} : am_u3 g c j x c j = x := by simp [am_u3]
theorem am_u3_j {g : Nat → Int → Int} {c : Nat} {j k x : Int} (h : k ≠ j) : am_u3 g c j x c k = g c k := by simp [am_u3, h]
theorem am_u3_c {g : Nat → Int → Int} {c b : Nat} {j k x : Int} (h : b ≠ c) : am_u3 g c j x b k = g b k := by simp [am_u3, h]
section Leaf2
variable {l : Launch} {dC : Nat → ClassId} {dI : Nat → Nat → Nat} {tc : Nat → ClassId} {f : Nat → Nat → Int} {g : Nat → Int → Int} {a b c : Nat}
set_option maxRecDepth 100000 in
set_option maxHeartbeats 4000000 in
theorem ct_takeRowEnd (h1 : f 7 0 ≤ 9) (h2 : 0 ≤ f 7 1 ∧ f 7 1 ≤ 100) : am_Ct l dC dI tc mm1_takeRowEnd 0 58 [(.inr (.inr (some 7)))] (58, f, g, pr_r a b c) (fun r s => r = some (.inl (if f 7 6 = 0 ∨ f 7 7 = 0 ∨ f 7 0 ≤ 0 then 0 else 1)) ∧ s = (if f 7 6 = 0 ∨ f 7 7 = 0 ∨ f 7 0 ≤ 0 then (58, f, g, pr_r a b c) else (58, am_u1 (am_u1 (am_u1 f 7 1 (f 7 1 + 1)) 7 6 0) 7 7 (-1), am_u3 g 10 (f 7 0 - 1) 1, pr_r a b c))) := by
  refine am_enter ok_1_takeRowEnd rfl (by decide) (Nat.le_of_ble_eq_true rfl) rfl ?_
  repeat' first
    | (refine am_id ?_; simp (config := { decide := true }) only [am_u1_s, am_u1_j, am_u1_c, am_u3_s, am_u3_c])
    | (refine am_go rfl (by first | exact True.intro | omega) ?_)
    | (refine am_if rfl (fun c1 => ?_) (fun c1 => ?_))
    | (refine am_iret rfl rfl rfl ?_)
    | (refine am_zret rfl rfl (by first | exact Or.inl rfl | exact Or.inr rfl) rfl ?_)
    | (refine am_lret rfl rfl rfl ?_)
    | (refine am_vret (x := 0) rfl rfl rfl ?_)
  all_goals (first | exact ⟨rfl, rfl⟩ | (rw [if_pos (by omega), if_pos (by omega)]; exact ⟨rfl, rfl⟩) | (rw [if_neg (by omega), if_neg (by omega)]; exact ⟨rfl, rfl⟩) | (rw [if_pos (by omega)]; exact ⟨rfl, rfl⟩) | (rw [if_neg (by omega)]; exact ⟨rfl, rfl⟩))
set_option maxRecDepth 100000 in
set_option maxHeartbeats 4000000 in
theorem ct_takeMark (h1 : f 7 0 ≤ 9) : am_Ct l dC dI tc mm1_takeMark 0 58 [(.inr (.inr (some 7)))] (58, f, g, pr_r a b c) (fun r s => r = some (.inl (if f 7 6 = 0 ∨ f 7 7 ≠ -1 ∨ f 7 0 ≤ 0 then 0 else 1)) ∧ s = (if f 7 6 = 0 ∨ f 7 7 ≠ -1 ∨ f 7 0 ≤ 0 then (58, f, g, pr_r a b c) else (58, am_u1 f 7 7 0, am_u3 g 9 (f 7 0 - 1) 0, pr_r a b c))) := by
  refine am_enter ok_1_takeMark rfl (by decide) (Nat.le_of_ble_eq_true rfl) rfl ?_
  repeat' first
    | (refine am_id ?_; simp (config := { decide := true }) only [am_u1_s, am_u1_j, am_u1_c, am_u3_s, am_u3_c])
    | (refine am_go rfl (by first | exact True.intro | omega) ?_)
    | (refine am_if rfl (fun c1 => ?_) (fun c1 => ?_))
    | (refine am_iret rfl rfl rfl ?_)
    | (refine am_zret rfl rfl (by first | exact Or.inl rfl | exact Or.inr rfl) rfl ?_)
    | (refine am_lret rfl rfl rfl ?_)
    | (refine am_vret (x := 0) rfl rfl rfl ?_)
  all_goals (first | exact ⟨rfl, rfl⟩ | (rw [if_pos (by omega), if_pos (by omega)]; exact ⟨rfl, rfl⟩) | (rw [if_neg (by omega), if_neg (by omega)]; exact ⟨rfl, rfl⟩) | (rw [if_pos (by omega)]; exact ⟨rfl, rfl⟩) | (rw [if_neg (by omega)]; exact ⟨rfl, rfl⟩))
set_option maxRecDepth 100000 in
set_option maxHeartbeats 4000000 in
theorem ct_takeDigit (x : Int) (hx : 0 ≤ x ∧ x ≤ 9) (h1 : f 7 0 ≤ 9) (h3 : 0 < f 7 0 → -1 ≤ g 9 (f 7 0 - 1) ∧ g 9 (f 7 0 - 1) ≤ 999) (h4 : -1 ≤ f 7 7) : am_Ct l dC dI tc mm1_takeDigit 0 58 [(.inr (.inr (some 7))), .inl x] (58, f, g, pr_r a b c) (fun r s => r = some (.inl (if f 7 7 = -1 ∨ 3 ≤ f 7 7 ∨ f 7 0 ≤ 0 then 0 else 1)) ∧ s = (if f 7 7 = -1 ∨ 3 ≤ f 7 7 ∨ f 7 0 ≤ 0 then (58, f, g, pr_r a b c) else (58, am_u1 f 7 7 (f 7 7 + 1), am_u3 g 9 (f 7 0 - 1) (g 9 (f 7 0 - 1) * 10 + x), pr_r a b c))) := by
  refine am_enter ok_1_takeDigit rfl (by decide) (Nat.le_of_ble_eq_true rfl) rfl ?_
  repeat' first
    | (refine am_id ?_; simp (config := { decide := true }) only [am_u1_s, am_u1_j, am_u1_c, am_u3_s, am_u3_c])
    | (refine am_go rfl (by first | exact True.intro | omega) ?_)
    | (refine am_if rfl (fun c1 => ?_) (fun c1 => ?_))
    | (refine am_iret rfl rfl rfl ?_)
    | (refine am_zret rfl rfl (by first | exact Or.inl rfl | exact Or.inr rfl) rfl ?_)
    | (refine am_lret rfl rfl rfl ?_)
    | (refine am_vret (x := 0) rfl rfl rfl ?_)
  all_goals (first | exact ⟨rfl, rfl⟩ | (rw [if_pos (by omega), if_pos (by omega)]; exact ⟨rfl, rfl⟩) | (rw [if_neg (by omega), if_neg (by omega)]; exact ⟨rfl, rfl⟩) | (rw [if_pos (by omega)]; exact ⟨rfl, rfl⟩) | (rw [if_neg (by omega)]; exact ⟨rfl, rfl⟩))
set_option maxRecDepth 100000 in
set_option maxHeartbeats 4000000 in
theorem ct_takePart (x : Int) (h1 : 0 ≤ f 7 0) (h2 : 0 ≤ f 7 6 ∧ f 7 6 ≤ 100) : am_Ct l dC dI tc mm1_takePart 0 58 [(.inr (.inr (some 7))), .inl x] (58, f, g, pr_r a b c) (fun r s => r = some (.inl (if (x < 0 ∨ 9 ≤ x) ∨ g 11 x ≠ 0 ∨ f 7 7 = 0 ∨ 9 ≤ f 7 0 then 0 else 1)) ∧ s = (if (x < 0 ∨ 9 ≤ x) ∨ g 11 x ≠ 0 ∨ f 7 7 = 0 ∨ 9 ≤ f 7 0 then (58, f, g, pr_r a b c) else (58, am_u1 (am_u1 (am_u1 f 7 0 (f 7 0 + 1)) 7 6 (f 7 6 + 1)) 7 7 (-1), am_u3 (am_u3 (am_u3 (am_u3 g 11 x 1) 8 (f 7 0) x) 9 (f 7 0) (-1)) 10 (f 7 0) 0, pr_r a b c))) := by
  refine am_enter ok_1_takePart rfl (by decide) (Nat.le_of_ble_eq_true rfl) rfl ?_
  repeat' first
    | (refine am_id ?_; simp (config := { decide := true }) only [am_u1_s, am_u1_j, am_u1_c, am_u3_s, am_u3_c])
    | (refine am_go rfl (by first | exact True.intro | omega) ?_)
    | (refine am_if rfl (fun c1 => ?_) (fun c1 => ?_))
    | (refine am_iret rfl rfl rfl ?_)
    | (refine am_zret rfl rfl (by first | exact Or.inl rfl | exact Or.inr rfl) rfl ?_)
    | (refine am_lret rfl rfl rfl ?_)
    | (refine am_vret (x := 0) rfl rfl rfl ?_)
  all_goals (first | exact ⟨rfl, rfl⟩ | (rw [if_pos (by omega), if_pos (by omega)]; exact ⟨rfl, rfl⟩) | (rw [if_neg (by omega), if_neg (by omega)]; exact ⟨rfl, rfl⟩) | (rw [if_pos (by omega)]; exact ⟨rfl, rfl⟩) | (rw [if_neg (by omega)]; exact ⟨rfl, rfl⟩))
set_option maxRecDepth 100000 in
set_option maxHeartbeats 4000000 in
theorem ct_drop (q : Nat) (hq : q = 23 ∨ q = 26 ∨ q = 29)   : am_Ct l dC dI tc mm5_drop 0 58 [(.inr (.inr (some q)))] (58, f, g, pr_r a b c) (fun r s => r = none ∧ s = (58, am_u1 (am_u1 (am_u1 f q 0 (-1)) q 1 (-1)) q 2 0, g, pr_r a b c)) := by
  rcases hq with rfl | rfl | rfl
  · refine am_enter ok_5_drop rfl (by decide) (Nat.le_of_ble_eq_true rfl) rfl ?_
    repeat' first
      | (refine am_id ?_; simp (config := { decide := true }) only [am_u1_s, am_u1_j, am_u1_c, am_u3_s, am_u3_c])
      | (refine am_go rfl (by first | exact True.intro | omega) ?_)
      | (refine am_if rfl (fun c1 => ?_) (fun c1 => ?_))
      | (refine am_iret rfl rfl rfl ?_)
      | (refine am_zret rfl rfl (by first | exact Or.inl rfl | exact Or.inr rfl) rfl ?_)
      | (refine am_lret rfl rfl rfl ?_)
      | (refine am_vret (x := 0) rfl rfl rfl ?_)
    all_goals (first | exact ⟨rfl, rfl⟩ | omega)
  · refine am_enter ok_5_drop rfl (by decide) (Nat.le_of_ble_eq_true rfl) rfl ?_
    repeat' first
      | (refine am_id ?_; simp (config := { decide := true }) only [am_u1_s, am_u1_j, am_u1_c, am_u3_s, am_u3_c])
      | (refine am_go rfl (by first | exact True.intro | omega) ?_)
      | (refine am_if rfl (fun c1 => ?_) (fun c1 => ?_))
      | (refine am_iret rfl rfl rfl ?_)
      | (refine am_zret rfl rfl (by first | exact Or.inl rfl | exact Or.inr rfl) rfl ?_)
      | (refine am_lret rfl rfl rfl ?_)
      | (refine am_vret (x := 0) rfl rfl rfl ?_)
    all_goals (first | exact ⟨rfl, rfl⟩ | omega)
  · refine am_enter ok_5_drop rfl (by decide) (Nat.le_of_ble_eq_true rfl) rfl ?_
    repeat' first
      | (refine am_id ?_; simp (config := { decide := true }) only [am_u1_s, am_u1_j, am_u1_c, am_u3_s, am_u3_c])
      | (refine am_go rfl (by first | exact True.intro | omega) ?_)
      | (refine am_if rfl (fun c1 => ?_) (fun c1 => ?_))
      | (refine am_iret rfl rfl rfl ?_)
      | (refine am_zret rfl rfl (by first | exact Or.inl rfl | exact Or.inr rfl) rfl ?_)
      | (refine am_lret rfl rfl rfl ?_)
      | (refine am_vret (x := 0) rfl rfl rfl ?_)
    all_goals (first | exact ⟨rfl, rfl⟩ | omega)
set_option maxRecDepth 100000 in
set_option maxHeartbeats 4000000 in
theorem ct_begin (q : Nat) (hq : q = 23 ∨ q = 26 ∨ q = 29) (x : Int)  : am_Ct l dC dI tc mm5_begin 0 58 [(.inr (.inr (some q))), .inl x] (58, f, g, pr_r a b c) (fun r s => r = none ∧ s = (58, am_u1 (am_u1 (am_u1 f q 0 0) q 1 x) q 2 0, g, pr_r a b c)) := by
  rcases hq with rfl | rfl | rfl
  · refine am_enter ok_5_begin rfl (by decide) (Nat.le_of_ble_eq_true rfl) rfl ?_
    repeat' first
      | (refine am_id ?_; simp (config := { decide := true }) only [am_u1_s, am_u1_j, am_u1_c, am_u3_s, am_u3_c])
      | (refine am_go rfl (by first | exact True.intro | omega) ?_)
      | (refine am_if rfl (fun c1 => ?_) (fun c1 => ?_))
      | (refine am_iret rfl rfl rfl ?_)
      | (refine am_zret rfl rfl (by first | exact Or.inl rfl | exact Or.inr rfl) rfl ?_)
      | (refine am_lret rfl rfl rfl ?_)
      | (refine am_vret (x := 0) rfl rfl rfl ?_)
    all_goals (first | exact ⟨rfl, rfl⟩ | omega)
  · refine am_enter ok_5_begin rfl (by decide) (Nat.le_of_ble_eq_true rfl) rfl ?_
    repeat' first
      | (refine am_id ?_; simp (config := { decide := true }) only [am_u1_s, am_u1_j, am_u1_c, am_u3_s, am_u3_c])
      | (refine am_go rfl (by first | exact True.intro | omega) ?_)
      | (refine am_if rfl (fun c1 => ?_) (fun c1 => ?_))
      | (refine am_iret rfl rfl rfl ?_)
      | (refine am_zret rfl rfl (by first | exact Or.inl rfl | exact Or.inr rfl) rfl ?_)
      | (refine am_lret rfl rfl rfl ?_)
      | (refine am_vret (x := 0) rfl rfl rfl ?_)
    all_goals (first | exact ⟨rfl, rfl⟩ | omega)
  · refine am_enter ok_5_begin rfl (by decide) (Nat.le_of_ble_eq_true rfl) rfl ?_
    repeat' first
      | (refine am_id ?_; simp (config := { decide := true }) only [am_u1_s, am_u1_j, am_u1_c, am_u3_s, am_u3_c])
      | (refine am_go rfl (by first | exact True.intro | omega) ?_)
      | (refine am_if rfl (fun c1 => ?_) (fun c1 => ?_))
      | (refine am_iret rfl rfl rfl ?_)
      | (refine am_zret rfl rfl (by first | exact Or.inl rfl | exact Or.inr rfl) rfl ?_)
      | (refine am_lret rfl rfl rfl ?_)
      | (refine am_vret (x := 0) rfl rfl rfl ?_)
    all_goals (first | exact ⟨rfl, rfl⟩ | omega)
set_option maxRecDepth 100000 in
set_option maxHeartbeats 4000000 in
theorem ct_choose (q : Nat) (hq : q = 23 ∨ q = 26 ∨ q = 29) (x : Int) (h1 : 0 ≤ f q 2 ∧ f q 2 < 9) : am_Ct l dC dI tc mm5_choose 0 58 [(.inr (.inr (some q))), .inl x] (58, f, g, pr_r a b c) (fun r s => r = none ∧ s = (58, am_u1 f q 2 (f q 2 + 1), am_u3 g (q + 1) (f q 2) x, pr_r a b c)) := by
  rcases hq with rfl | rfl | rfl
  · refine am_enter ok_5_choose rfl (by decide) (Nat.le_of_ble_eq_true rfl) rfl ?_
    repeat' first
      | (refine am_id ?_; simp (config := { decide := true }) only [am_u1_s, am_u1_j, am_u1_c, am_u3_s, am_u3_c])
      | (refine am_go rfl (by first | exact True.intro | omega) ?_)
      | (refine am_if rfl (fun c1 => ?_) (fun c1 => ?_))
      | (refine am_iret rfl rfl rfl ?_)
      | (refine am_zret rfl rfl (by first | exact Or.inl rfl | exact Or.inr rfl) rfl ?_)
      | (refine am_lret rfl rfl rfl ?_)
      | (refine am_vret (x := 0) rfl rfl rfl ?_)
    all_goals (first | exact ⟨rfl, rfl⟩ | omega)
  · refine am_enter ok_5_choose rfl (by decide) (Nat.le_of_ble_eq_true rfl) rfl ?_
    repeat' first
      | (refine am_id ?_; simp (config := { decide := true }) only [am_u1_s, am_u1_j, am_u1_c, am_u3_s, am_u3_c])
      | (refine am_go rfl (by first | exact True.intro | omega) ?_)
      | (refine am_if rfl (fun c1 => ?_) (fun c1 => ?_))
      | (refine am_iret rfl rfl rfl ?_)
      | (refine am_zret rfl rfl (by first | exact Or.inl rfl | exact Or.inr rfl) rfl ?_)
      | (refine am_lret rfl rfl rfl ?_)
      | (refine am_vret (x := 0) rfl rfl rfl ?_)
    all_goals (first | exact ⟨rfl, rfl⟩ | omega)
  · refine am_enter ok_5_choose rfl (by decide) (Nat.le_of_ble_eq_true rfl) rfl ?_
    repeat' first
      | (refine am_id ?_; simp (config := { decide := true }) only [am_u1_s, am_u1_j, am_u1_c, am_u3_s, am_u3_c])
      | (refine am_go rfl (by first | exact True.intro | omega) ?_)
      | (refine am_if rfl (fun c1 => ?_) (fun c1 => ?_))
      | (refine am_iret rfl rfl rfl ?_)
      | (refine am_zret rfl rfl (by first | exact Or.inl rfl | exact Or.inr rfl) rfl ?_)
      | (refine am_lret rfl rfl rfl ?_)
      | (refine am_vret (x := 0) rfl rfl rfl ?_)
    all_goals (first | exact ⟨rfl, rfl⟩ | omega)
set_option maxRecDepth 100000 in
set_option maxHeartbeats 4000000 in
theorem ct_addPart (q : Nat) (hq : q = 23 ∨ q = 26 ∨ q = 29) (x y z w : Int) (h1 : 0 ≤ f q 0 ∧ f q 0 < 9) (h2 : 0 < f q 2 ∧ f q 2 ≤ 9) : am_Ct l dC dI tc mm5_addPart 0 58 [(.inr (.inr (some q))), .inl x, .inl y, .inl z, .inl w] (58, f, g, pr_r a b c) (fun r s => r = none ∧ s = (58, am_u1 f q 0 (f q 0 + 1), am_u3 (am_u3 (am_u3 (am_u3 (am_u3 g (q + 2) (f q 0 * 5) x) (q + 2) (f q 0 * 5 + 1) y) (q + 2) (f q 0 * 5 + 2) z) (q + 2) (f q 0 * 5 + 3) w) (q + 2) (f q 0 * 5 + 4) (g (q + 1) (f q 2 - 1)), pr_r a b c)) := by
  rcases hq with rfl | rfl | rfl
  · refine am_enter ok_5_addPart rfl (by decide) (Nat.le_of_ble_eq_true rfl) rfl ?_
    repeat' first
      | (refine am_id ?_; simp (config := { decide := true }) only [am_u1_s, am_u1_j, am_u1_c, am_u3_s, am_u3_c])
      | (refine am_go rfl (by first | exact True.intro | omega) ?_)
      | (refine am_if rfl (fun c1 => ?_) (fun c1 => ?_))
      | (refine am_iret rfl rfl rfl ?_)
      | (refine am_zret rfl rfl (by first | exact Or.inl rfl | exact Or.inr rfl) rfl ?_)
      | (refine am_lret rfl rfl rfl ?_)
      | (refine am_vret (x := 0) rfl rfl rfl ?_)
    all_goals (first | exact ⟨rfl, rfl⟩ | omega)
  · refine am_enter ok_5_addPart rfl (by decide) (Nat.le_of_ble_eq_true rfl) rfl ?_
    repeat' first
      | (refine am_id ?_; simp (config := { decide := true }) only [am_u1_s, am_u1_j, am_u1_c, am_u3_s, am_u3_c])
      | (refine am_go rfl (by first | exact True.intro | omega) ?_)
      | (refine am_if rfl (fun c1 => ?_) (fun c1 => ?_))
      | (refine am_iret rfl rfl rfl ?_)
      | (refine am_zret rfl rfl (by first | exact Or.inl rfl | exact Or.inr rfl) rfl ?_)
      | (refine am_lret rfl rfl rfl ?_)
      | (refine am_vret (x := 0) rfl rfl rfl ?_)
    all_goals (first | exact ⟨rfl, rfl⟩ | omega)
  · refine am_enter ok_5_addPart rfl (by decide) (Nat.le_of_ble_eq_true rfl) rfl ?_
    repeat' first
      | (refine am_id ?_; simp (config := { decide := true }) only [am_u1_s, am_u1_j, am_u1_c, am_u3_s, am_u3_c])
      | (refine am_go rfl (by first | exact True.intro | omega) ?_)
      | (refine am_if rfl (fun c1 => ?_) (fun c1 => ?_))
      | (refine am_iret rfl rfl rfl ?_)
      | (refine am_zret rfl rfl (by first | exact Or.inl rfl | exact Or.inr rfl) rfl ?_)
      | (refine am_lret rfl rfl rfl ?_)
      | (refine am_vret (x := 0) rfl rfl rfl ?_)
    all_goals (first | exact ⟨rfl, rfl⟩ | omega)
set_option maxRecDepth 100000 in
set_option maxHeartbeats 4000000 in
theorem ct_fact (q : Nat) (hq : q = 23 ∨ q = 26 ∨ q = 29) (x y : Int) (h1 : f q 0 ≤ 9) : am_Ct l dC dI tc mm5_fact 0 58 [(.inr (.inr (some q))), .inl x, .inl y] (58, f, g, pr_r a b c) (fun r s => r = some (.inl (if (0 ≤ x ∧ x < f q 0) ∧ 0 ≤ y ∧ y < 5 then g (q + 2) (x * 5 + y) else -1)) ∧ s = (58, f, g, pr_r a b c)) := by
  rcases hq with rfl | rfl | rfl
  · refine am_enter ok_5_fact rfl (by decide) (Nat.le_of_ble_eq_true rfl) rfl ?_
    repeat' first
      | (refine am_go rfl (by first | exact True.intro | omega) ?_)
      | (refine am_if rfl (fun c1 => ?_) (fun c1 => ?_))
      | (refine am_iret rfl rfl rfl ?_)
      | (refine am_zret rfl rfl (by first | exact Or.inl rfl | exact Or.inr rfl) rfl ?_)
      | (refine am_lret rfl rfl rfl ?_)
      | (refine am_vret (x := 0) rfl rfl rfl ?_)
    all_goals (first | exact ⟨rfl, rfl⟩ | (rw [if_pos (by omega), if_pos (by omega)]; exact ⟨rfl, rfl⟩) | (rw [if_neg (by omega), if_neg (by omega)]; exact ⟨rfl, rfl⟩) | (rw [if_pos (by omega)]; exact ⟨rfl, rfl⟩) | (rw [if_neg (by omega)]; exact ⟨rfl, rfl⟩))
  · refine am_enter ok_5_fact rfl (by decide) (Nat.le_of_ble_eq_true rfl) rfl ?_
    repeat' first
      | (refine am_go rfl (by first | exact True.intro | omega) ?_)
      | (refine am_if rfl (fun c1 => ?_) (fun c1 => ?_))
      | (refine am_iret rfl rfl rfl ?_)
      | (refine am_zret rfl rfl (by first | exact Or.inl rfl | exact Or.inr rfl) rfl ?_)
      | (refine am_lret rfl rfl rfl ?_)
      | (refine am_vret (x := 0) rfl rfl rfl ?_)
    all_goals (first | exact ⟨rfl, rfl⟩ | (rw [if_pos (by omega), if_pos (by omega)]; exact ⟨rfl, rfl⟩) | (rw [if_neg (by omega), if_neg (by omega)]; exact ⟨rfl, rfl⟩) | (rw [if_pos (by omega)]; exact ⟨rfl, rfl⟩) | (rw [if_neg (by omega)]; exact ⟨rfl, rfl⟩))
  · refine am_enter ok_5_fact rfl (by decide) (Nat.le_of_ble_eq_true rfl) rfl ?_
    repeat' first
      | (refine am_go rfl (by first | exact True.intro | omega) ?_)
      | (refine am_if rfl (fun c1 => ?_) (fun c1 => ?_))
      | (refine am_iret rfl rfl rfl ?_)
      | (refine am_zret rfl rfl (by first | exact Or.inl rfl | exact Or.inr rfl) rfl ?_)
      | (refine am_lret rfl rfl rfl ?_)
      | (refine am_vret (x := 0) rfl rfl rfl ?_)
    all_goals (first | exact ⟨rfl, rfl⟩ | (rw [if_pos (by omega), if_pos (by omega)]; exact ⟨rfl, rfl⟩) | (rw [if_neg (by omega), if_neg (by omega)]; exact ⟨rfl, rfl⟩) | (rw [if_pos (by omega)]; exact ⟨rfl, rfl⟩) | (rw [if_neg (by omega)]; exact ⟨rfl, rfl⟩))
set_option maxRecDepth 100000 in
set_option maxHeartbeats 4000000 in
theorem ct_forget : am_Ct l dC dI tc mm4_forget 0 58 [(.inr (.inr (some 22)))] (58, f, g, pr_r a b c) (fun r s => r = none ∧ s = (58, am_u1 f 22 4 0, g, pr_r a b c)) := by
  refine am_enter ok_4_forget rfl (by decide) (Nat.le_of_ble_eq_true rfl) rfl ?_
  repeat' first
    | (refine am_id ?_; simp (config := { decide := true }) only [am_u1_s, am_u1_j, am_u1_c, am_u3_s, am_u3_c])
    | (refine am_go rfl (by first | exact True.intro | omega) ?_)
    | (refine am_if rfl (fun c1 => ?_) (fun c1 => ?_))
    | (refine am_iret rfl rfl rfl ?_)
    | (refine am_zret rfl rfl (by first | exact Or.inl rfl | exact Or.inr rfl) rfl ?_)
    | (refine am_lret rfl rfl rfl ?_)
    | (refine am_vret (x := 0) rfl rfl rfl ?_)
  all_goals (first | exact ⟨rfl, rfl⟩ | omega)
set_option maxRecDepth 100000 in
set_option maxHeartbeats 4000000 in
theorem ct_stateOf (x y z : Int) (hx : 0 ≤ x ∧ x ≤ 10) (hy : 0 ≤ y ∧ y ≤ 10) (hz : 0 ≤ z ∧ z ≤ 10) : am_Ct l dC dI tc mm4_stateOf 0 58 [.inl x, .inl y, .inl z] (58, f, g, pr_r a b c) (fun r s => r = some (.inl ((x * 7 + y) * 6 + z)) ∧ s = (58, f, g, pr_r a b c)) := by
  refine am_enter ok_4_stateOf rfl (by decide) (Nat.le_of_ble_eq_true rfl) rfl ?_
  repeat' first
    | (refine am_id ?_; simp (config := { decide := true }) only [am_u1_s, am_u1_j, am_u1_c, am_u3_s, am_u3_c])
    | (refine am_go rfl (by first | exact True.intro | omega) ?_)
    | (refine am_if rfl (fun c1 => ?_) (fun c1 => ?_))
    | (refine am_iret rfl rfl rfl ?_)
    | (refine am_zret rfl rfl (by first | exact Or.inl rfl | exact Or.inr rfl) rfl ?_)
    | (refine am_lret rfl rfl rfl ?_)
    | (refine am_vret (x := 0) rfl rfl rfl ?_)
  all_goals (first | exact ⟨rfl, rfl⟩ | omega)
end Leaf2
end
section
/-- zeros in a row; a row copied -/
def am_fz (g : Nat → Int → Int) (c : Nat) (n : Int) : Nat → Int → Int := fun x i => if x = c ∧ 0 ≤ i ∧ i < n then 0 else g x i
def am_cp (g : Nat → Int → Int) (c d : Nat) (n : Int) : Nat → Int → Int := fun x i => if x = c ∧ 0 ≤ i ∧ i < n then g d i else g x i
theorem am_fz_0 (g : Nat → Int → Int) (c : Nat) : am_fz g c 0 = g := by
  funext x i
  unfold am_fz
  rw [if_neg (by omega)]
theorem am_fz_s (g : Nat → Int → Int) (c : Nat) {n : Int} (h : 0 ≤ n) : am_u3 (am_fz g c n) c n 0 = am_fz g c (n + 1) := by
  funext x i
  unfold am_u3 am_fz
  by_cases h1 : x = c
  · by_cases h2 : i = n
    · rw [if_pos h1, if_pos h2, if_pos (by omega)]
    · rw [if_pos h1, if_neg h2]
      by_cases h3 : 0 ≤ i ∧ i < n
      · rw [if_pos ⟨h1, h3⟩, if_pos (by omega)]
      · rw [if_neg (by omega), if_neg (by omega)]
  · rw [if_neg h1, if_neg (by omega), if_neg (by omega)]
theorem am_cp_0 (g : Nat → Int → Int) (c d : Nat) : am_cp g c d 0 = g := by
  funext x i
  unfold am_cp
  rw [if_neg (by omega)]
theorem am_cp_s (g : Nat → Int → Int) (c d : Nat) {n : Int} (h : 0 ≤ n) : am_u3 (am_cp g c d n) c n (g d n) = am_cp g c d (n + 1) := by
  funext x i
  unfold am_u3 am_cp
  by_cases h1 : x = c
  · by_cases h2 : i = n
    · rw [if_pos h1, if_pos h2, if_pos (by omega), h2]
    · rw [if_pos h1, if_neg h2]
      by_cases h3 : 0 ≤ i ∧ i < n
      · rw [if_pos ⟨h1, h3⟩, if_pos (by omega)]
      · rw [if_neg (by omega), if_neg (by omega)]
  · rw [if_neg h1, if_neg (by omega), if_neg (by omega)]
theorem am_u3_comm (g : Nat → Int → Int) {c d : Nat} {i j x y : Int} (h : c ≠ d) : am_u3 (am_u3 g c i x) d j y = am_u3 (am_u3 g d j y) c i x := by
  funext a b
  unfold am_u3
  by_cases h1 : a = c
  · rw [if_pos h1, if_neg (by omega), if_pos h1]
    split
    · rfl
    · rw [if_neg (by omega)]
  · rw [if_neg h1]
    split
    · split <;> simp_all
    · simp_all
def zFit (f : Nat → Nat → Int) (g : Nat → Int → Int) (k v w : Int) : Prop := ∃ i, 0 ≤ i ∧ i < f 18 0 ∧ g 19 i = k ∧ g 20 i = v ∧ g 21 i = w
section Leaf3
variable {l : Launch} {dC : Nat → ClassId} {dI : Nat → Nat → Nat} {tc : Nat → ClassId} {f : Nat → Nat → Int} {g : Nat → Int → Int} {a b c : Nat}
set_option maxRecDepth 100000 in
set_option maxHeartbeats 4000000 in
theorem ct_holds (x y z : Int) (hc : 0 ≤ f 18 0 ∧ f 18 0 ≤ 60) : am_Ct l dC dI tc mm3_holds 0 58 [(.inr (.inr (some 18))), .inl x, .inl y, .inl z] (58, f, g, pr_r a b c) (fun r s => s = (58, f, g, pr_r a b c) ∧ ((r = some (.inl 1) ∧ zFit f g x y z) ∨ (r = some (.inl 0) ∧ ¬ zFit f g x y z))) := by
  have loop : ∀ (n : Nat) (i : Int), (f 18 0 - i).toNat ≤ n → 0 ≤ i → (∀ q, 0 ≤ q → q < i → ¬ (g 19 q = x ∧ g 20 q = y ∧ g 21 q = z)) → am_wp l dC dI tc mm3_holds 0 58 58 (fun r s => s = (58, f, g, pr_r a b c) ∧ ((r = some (.inl 1) ∧ zFit f g x y z) ∨ (r = some (.inl 0) ∧ ¬ zFit f g x y z))) 2 [some (.inr (.inr (some 18))), some (.inl x), some (.inl y), some (.inl z), some (.inl i)] [] (58, f, g, pr_r a b c) := by
    intro n
    induction n with
    | zero =>
      intro i hn hi hq
      iterate 3 (refine am_go rfl (by first | exact True.intro | omega) ?_)
      refine am_if rfl (fun c1 => ?_) (fun c1 => ?_)
      · (refine am_go rfl (by first | exact True.intro | omega) ?_)
        refine am_zret rfl rfl (Or.inl rfl) rfl ?_
        exact ⟨rfl, Or.inr ⟨rfl, fun ⟨q, q1, q2, q3⟩ => hq q q1 (by omega) q3⟩⟩
      · omega
    | succ n ih =>
      intro i hn hi hq
      have next : ¬ (g 19 i = x ∧ g 20 i = y ∧ g 21 i = z) → am_wp l dC dI tc mm3_holds 0 58 58 (fun r s => s = (58, f, g, pr_r a b c) ∧ ((r = some (.inl 1) ∧ zFit f g x y z) ∨ (r = some (.inl 0) ∧ ¬ zFit f g x y z))) 2 [some (.inr (.inr (some 18))), some (.inl x), some (.inl y), some (.inl z), some (.inl (i + 1))] [] (58, f, g, pr_r a b c) ∨ f 18 0 ≤ i := by
        intro hne
        by_cases hf : f 18 0 ≤ i
        · exact Or.inr hf
        · refine Or.inl (ih (i + 1) (by omega) (by omega) (fun q h1 h2 => ?_))
          by_cases e : q = i
          · subst e
            exact hne
          · exact hq q h1 (by omega)
      iterate 3 (refine am_go rfl (by first | exact True.intro | omega) ?_)
      refine am_if rfl (fun c1 => ?_) (fun c1 => ?_)
      · (refine am_go rfl (by first | exact True.intro | omega) ?_)
        refine am_zret rfl rfl (Or.inl rfl) rfl ?_
        exact ⟨rfl, Or.inr ⟨rfl, fun ⟨q, q1, q2, q3⟩ => hq q q1 (by omega) q3⟩⟩
      · iterate 2 (refine am_go rfl (by first | exact True.intro | omega) ?_)
        refine am_if rfl (fun c2 => ?_) (fun c2 => ?_)
        · omega
        · iterate 5 (refine am_go rfl (by first | exact True.intro | omega) ?_)
          refine am_if rfl (fun c3 => ?_) (fun c3 => ?_)
          · iterate 2 (refine am_go rfl (by first | exact True.intro | omega) ?_)
            exact (next (fun h => c3 h.1)).resolve_right (by omega)
          · iterate 5 (refine am_go rfl (by first | exact True.intro | omega) ?_)
            refine am_if rfl (fun c4 => ?_) (fun c4 => ?_)
            · iterate 2 (refine am_go rfl (by first | exact True.intro | omega) ?_)
              exact (next (fun h => c4 h.2.1)).resolve_right (by omega)
            · iterate 5 (refine am_go rfl (by first | exact True.intro | omega) ?_)
              refine am_if rfl (fun c5 => ?_) (fun c5 => ?_)
              · iterate 2 (refine am_go rfl (by first | exact True.intro | omega) ?_)
                exact (next (fun h => c5 h.2.2)).resolve_right (by omega)
              · (refine am_go rfl (by first | exact True.intro | omega) ?_)
                refine am_zret rfl rfl (Or.inr rfl) rfl ?_
                exact ⟨rfl, Or.inl ⟨rfl, i, hi, by omega, by omega, by omega, by omega⟩⟩
  refine am_enter ok_3_holds rfl (by decide) (Nat.le_of_ble_eq_true rfl) rfl ?_
  iterate 2 (refine am_go rfl (by first | exact True.intro | omega) ?_)
  exact loop _ 0 (Nat.le_refl _) (by omega) (fun q h1 h2 => by omega)
set_option maxRecDepth 100000 in
set_option maxHeartbeats 4000000 in
theorem ct_padd (x y z : Int) (hc : 0 ≤ f 18 0 ∧ f 18 0 ≤ 60) : am_Ct l dC dI tc mm3_add 1 58 [(.inr (.inr (some 18))), .inl x, .inl y, .inl z] (58, f, g, pr_r a b c) (fun r s => (r = some (.inl 0) ∧ (60 ≤ f 18 0 ∨ zFit f g x y z) ∧ s = (58, f, g, pr_r a b c)) ∨ (r = some (.inl 1) ∧ ¬ (60 ≤ f 18 0 ∨ zFit f g x y z) ∧ s = (58, am_u1 f 18 0 (f 18 0 + 1), am_u3 (am_u3 (am_u3 g 19 (f 18 0) x) 20 (f 18 0) y) 21 (f 18 0) z, pr_r a b c))) := by
  refine am_enter ok_3_add rfl (by decide) (Nat.le_of_ble_eq_true rfl) rfl ?_
  iterate 3 (refine am_go rfl (by first | exact True.intro | omega) ?_)
  refine am_if rfl (fun c1 => ?_) (fun c1 => ?_)
  · (refine am_go rfl (by first | exact True.intro | omega) ?_)
    refine am_zret rfl rfl (Or.inl rfl) rfl ?_
    exact Or.inl ⟨rfl, Or.inl c1, rfl⟩
  · iterate 4 (refine am_go rfl (by first | exact True.intro | omega) ?_)
    refine am_call rfl (ct_holds x y z hc) (by decide) (Nat.le_of_ble_eq_true rfl) (Nat.le_of_ble_eq_true rfl) (Nat.le_of_ble_eq_true rfl) (fun rv s q => ?_)
    obtain ⟨rfl, ⟨rfl, hz⟩ | ⟨rfl, hz⟩⟩ := q
    · refine am_if rfl (fun c2 => ?_) (fun c2 => ?_)
      · omega
      · (refine am_go rfl (by first | exact True.intro | omega) ?_)
        refine am_zret rfl rfl (Or.inl rfl) rfl ?_
        exact Or.inl ⟨rfl, Or.inr hz, rfl⟩
    · refine am_if rfl (fun c2 => ?_) (fun c2 => ?_)
      · iterate 25 (refine am_go rfl (by first | exact True.intro | omega) ?_)
        refine am_zret rfl rfl (Or.inr rfl) rfl ?_
        exact Or.inr ⟨rfl, fun q => q.elim c1 hz, rfl⟩
      · omega
set_option maxRecDepth 100000 in
set_option maxHeartbeats 4000000 in
theorem ct_removeAll : am_Ct l dC dI tc mm2_removeAll 0 58 [(.inr (.inr (some 12)))] (58, f, g, pr_r a b c) (fun r s => r = none ∧ s = (58, am_u1 f 12 0 0, am_fz (am_fz g 13 6) 14 30, pr_r a b c)) := by
  have loop2 : ∀ (n : Nat) (i : Int), (30 - i).toNat ≤ n → 0 ≤ i → i ≤ 30 → am_wp l dC dI tc mm2_removeAll 0 58 58 (fun r s => r = none ∧ s = (58, am_u1 f 12 0 0, am_fz (am_fz g 13 6) 14 30, pr_r a b c)) 19 [some (.inr (.inr (some 12))), some (.inl i)] [] (58, am_u1 f 12 0 0, am_fz (am_fz g 13 6) 14 i, pr_r a b c) := by
    intro n
    induction n with
    | zero =>
      intro i hn hi h30
      have e : i = 30 := by omega
      subst e
      iterate 4 (refine am_go rfl (by first | exact True.intro | omega) ?_)
      refine am_if rfl (fun c1 => ?_) (fun c1 => ?_)
      · refine am_vret (x := 0) rfl rfl rfl ⟨rfl, rfl⟩
      · omega
    | succ n ih =>
      intro i hn hi h30
      iterate 4 (refine am_go rfl (by first | exact True.intro | omega) ?_)
      refine am_if rfl (fun c1 => ?_) (fun c1 => ?_)
      · have e : i = 30 := by omega
        subst e
        refine am_vret (x := 0) rfl rfl rfl ⟨rfl, rfl⟩
      · iterate 7 (refine am_go rfl (by first | exact True.intro | omega) ?_)
        rw [am_fz_s _ _ hi]
        exact ih (i + 1) (by omega) (by omega) (by omega)
  have loop1 : ∀ (n : Nat) (i : Int), (6 - i).toNat ≤ n → 0 ≤ i → i ≤ 6 → am_wp l dC dI tc mm2_removeAll 0 58 58 (fun r s => r = none ∧ s = (58, am_u1 f 12 0 0, am_fz (am_fz g 13 6) 14 30, pr_r a b c)) 5 [some (.inr (.inr (some 12))), some (.inl i)] [] (58, am_u1 f 12 0 0, am_fz g 13 i, pr_r a b c) := by
    intro n
    induction n with
    | zero =>
      intro i hn hi h30
      have e : i = 6 := by omega
      subst e
      iterate 4 (refine am_go rfl (by first | exact True.intro | omega) ?_)
      refine am_if rfl (fun c1 => ?_) (fun c1 => ?_)
      · iterate 2 (refine am_go rfl (by first | exact True.intro | omega) ?_)
        have := loop2 _ 0 (Nat.le_refl _) (by omega) (by omega)
        rw [am_fz_0] at this
        exact this
      · omega
    | succ n ih =>
      intro i hn hi h30
      iterate 4 (refine am_go rfl (by first | exact True.intro | omega) ?_)
      refine am_if rfl (fun c1 => ?_) (fun c1 => ?_)
      · have e : i = 6 := by omega
        subst e
        iterate 2 (refine am_go rfl (by first | exact True.intro | omega) ?_)
        have := loop2 _ 0 (Nat.le_refl _) (by omega) (by omega)
        rw [am_fz_0] at this
        exact this
      · iterate 7 (refine am_go rfl (by first | exact True.intro | omega) ?_)
        rw [am_fz_s _ _ hi]
        exact ih (i + 1) (by omega) (by omega) (by omega)
  refine am_enter ok_2_removeAll rfl (by decide) (Nat.le_of_ble_eq_true rfl) rfl ?_
  iterate 5 (refine am_go rfl (by first | exact True.intro | omega) ?_)
  have := loop1 _ 0 (Nat.le_refl _) (by omega) (by omega)
  rw [am_fz_0] at this
  exact this
set_option maxRecDepth 100000 in
set_option maxHeartbeats 4000000 in
theorem ct_empty : am_Ct l dC dI tc mm1_empty 0 58 [(.inr (.inr (some 7)))] (58, f, g, pr_r a b c) (fun r s => r = none ∧ s = (58, am_u1 (am_u1 (am_u1 (am_u1 f 7 0 0) 7 1 0) 7 6 0) 7 7 (-1), am_fz g 11 9, pr_r a b c)) := by
  have loop1 : ∀ (n : Nat) (i : Int), (9 - i).toNat ≤ n → 0 ≤ i → i ≤ 9 → am_wp l dC dI tc mm1_empty 0 58 58 (fun r s => r = none ∧ s = (58, am_u1 (am_u1 (am_u1 (am_u1 f 7 0 0) 7 1 0) 7 6 0) 7 7 (-1), am_fz g 11 9, pr_r a b c)) 14 [some (.inr (.inr (some 7))), some (.inl i)] [] (58, am_u1 (am_u1 (am_u1 (am_u1 f 7 0 0) 7 1 0) 7 6 0) 7 7 (-1), am_fz g 11 i, pr_r a b c) := by
    intro n
    induction n with
    | zero =>
      intro i hn hi h30
      have e : i = 9 := by omega
      subst e
      iterate 4 (refine am_go rfl (by first | exact True.intro | omega) ?_)
      refine am_if rfl (fun c1 => ?_) (fun c1 => ?_)
      · refine am_vret (x := 0) rfl rfl rfl ⟨rfl, rfl⟩
      · omega
    | succ n ih =>
      intro i hn hi h30
      iterate 4 (refine am_go rfl (by first | exact True.intro | omega) ?_)
      refine am_if rfl (fun c1 => ?_) (fun c1 => ?_)
      · have e : i = 9 := by omega
        subst e
        refine am_vret (x := 0) rfl rfl rfl ⟨rfl, rfl⟩
      · iterate 7 (refine am_go rfl (by first | exact True.intro | omega) ?_)
        rw [am_fz_s _ _ hi]
        exact ih (i + 1) (by omega) (by omega) (by omega)
  refine am_enter ok_1_empty rfl (by decide) (Nat.le_of_ble_eq_true rfl) rfl ?_
  iterate 14 (refine am_go rfl (by first | exact True.intro | omega) ?_)
  have := loop1 _ 0 (Nat.le_refl _) (by omega) (by omega)
  rw [am_fz_0] at this
  exact this
end Leaf3
end
section
/-! a row of the table of sums: of a state's two ranks the sum, the choice, the rank behind -/
abbrev zR : Type := Int × Int × Int × Int × Int × Int
def zRow (g : Nat → Int → Int) (s : Int) : zR := (g 33 (s * 2), g 34 (s * 2), g 35 (s * 2), g 33 (s * 2 + 1), g 34 (s * 2 + 1), g 35 (s * 2 + 1))
def am_rw (g : Nat → Int → Int) (s : Int) (w : zR) : Nat → Int → Int := fun x i => if x = 33 ∧ i = s * 2 then w.1 else if x = 34 ∧ i = s * 2 then w.2.1 else if x = 35 ∧ i = s * 2 then w.2.2.1 else if x = 33 ∧ i = s * 2 + 1 then w.2.2.2.1 else if x = 34 ∧ i = s * 2 + 1 then w.2.2.2.2.1 else if x = 35 ∧ i = s * 2 + 1 then w.2.2.2.2.2 else g x i
def zKeep (w : zR) (sm ch rk : Int) : zR := if sm < w.1 then (sm, ch, rk, w.1, w.2.1, w.2.2.1) else if sm < w.2.2.2.1 then (w.1, w.2.1, w.2.2.1, sm, ch, rk) else w
def zOff1 (w : zR) (ch cost rest rk : Int) : zR := if rest = 1000000 then w else zKeep w (cost + rest) ch rk
def zOff (w : zR) (ch cost : Int) (v : zR) : zR := zOff1 (zOff1 w ch cost v.1 0) ch cost v.2.2.2.1 1
theorem am_rw_row (g : Nat → Int → Int) (s : Int) (w : zR) : zRow (am_rw g s w) s = w := by
  unfold zRow am_rw
  simp only [true_and, Nat.reduceEqDiff, false_and, if_false, if_true]
  have e : ¬ s * 2 + 1 = s * 2 := by omega
  simp only [e, if_false]
theorem am_rw_ne (g : Nat → Int → Int) {s t : Int} (w : zR) (h : t ≠ s) : zRow (am_rw g s w) t = zRow g t := by
  have e1 : ¬ t * 2 = s * 2 := by omega
  have e2 : ¬ t * 2 = s * 2 + 1 := by omega
  have e3 : ¬ t * 2 + 1 = s * 2 := by omega
  have e4 : ¬ t * 2 + 1 = s * 2 + 1 := by omega
  unfold zRow am_rw
  simp only [e1, e2, e3, e4, and_false, if_false]
theorem am_rw_rw (g : Nat → Int → Int) (s : Int) (w w' : zR) : am_rw (am_rw g s w) s w' = am_rw g s w' := by
  funext x i
  unfold am_rw
  by_cases h1 : x = 33 ∧ i = s * 2
  · simp only [h1, and_self, if_true]
  by_cases h2 : x = 34 ∧ i = s * 2
  · simp only [h1, h2, and_self, if_true, if_false]
  by_cases h3 : x = 35 ∧ i = s * 2
  · simp only [h1, h2, h3, and_self, if_true, if_false]
  by_cases h4 : x = 33 ∧ i = s * 2 + 1
  · rw [if_neg h1, if_neg h2, if_neg h3, if_pos h4, if_neg h1, if_neg h2, if_neg h3, if_pos h4]
  by_cases h5 : x = 34 ∧ i = s * 2 + 1
  · rw [if_neg h1, if_neg h2, if_neg h3, if_neg h4, if_pos h5, if_neg h1, if_neg h2, if_neg h3, if_neg h4, if_pos h5]
  by_cases h6 : x = 35 ∧ i = s * 2 + 1
  · rw [if_neg h1, if_neg h2, if_neg h3, if_neg h4, if_neg h5, if_pos h6, if_neg h1, if_neg h2, if_neg h3, if_neg h4, if_neg h5, if_pos h6]
  · simp only [h1, h2, h3, h4, h5, h6, if_false]
theorem am_rw_id (g : Nat → Int → Int) (s : Int) : am_rw g s (zRow g s) = g := by
  funext x i
  unfold am_rw zRow
  repeat' split
  all_goals first
    | rfl
    | (rename_i h; obtain ⟨rfl, rfl⟩ := h; rfl)
theorem am_rw_c (g : Nat → Int → Int) {s i : Int} {x : Nat} (w : zR) (h : x ≠ 33 ∧ x ≠ 34 ∧ x ≠ 35) : am_rw g s w x i = g x i := by
  unfold am_rw
  simp [h.1, h.2.1, h.2.2]
theorem am_rw_s0 (g : Nat → Int → Int) (s : Int) (w : zR) : am_rw g s w 33 (s * 2) = w.1 := by simp [am_rw]
theorem am_rw_s1 (g : Nat → Int → Int) (s : Int) (w : zR) : am_rw g s w 33 (s * 2 + 1) = w.2.2.2.1 := by
  have e : ¬ s * 2 + 1 = s * 2 := by omega
  simp [am_rw, e]
theorem am_keep1 (g : Nat → Int → Int) (s sm ch rk : Int) : am_u3 (am_u3 (am_u3 (am_u3 (am_u3 (am_u3 g 33 (s * 2 + 1) (g 33 (s * 2))) 34 (s * 2 + 1) (g 34 (s * 2))) 35 (s * 2 + 1) (g 35 (s * 2))) 33 (s * 2) sm) 34 (s * 2) ch) 35 (s * 2) rk = am_rw g s (sm, ch, rk, g 33 (s * 2), g 34 (s * 2), g 35 (s * 2)) := by
  funext x i
  unfold am_u3 am_rw
  by_cases h1 : x = 33
  · subst h1; simp
  · by_cases h2 : x = 34
    · subst h2; simp
    · by_cases h3 : x = 35
      · subst h3; simp
      · simp [h1, h2, h3]
theorem am_keep2 (g : Nat → Int → Int) (s sm ch rk : Int) : am_u3 (am_u3 (am_u3 g 33 (s * 2 + 1) sm) 34 (s * 2 + 1) ch) 35 (s * 2 + 1) rk = am_rw g s (g 33 (s * 2), g 34 (s * 2), g 35 (s * 2), sm, ch, rk) := by
  have e : ¬ s * 2 = s * 2 + 1 := by omega
  funext x i
  unfold am_u3 am_rw
  by_cases h1 : x = 33
  · subst h1
    by_cases h4 : i = s * 2
    · subst h4; simp [e]
    · simp [h4]
  · by_cases h2 : x = 34
    · subst h2
      by_cases h4 : i = s * 2
      · subst h4; simp [e]
      · simp [h4]
    · by_cases h3 : x = 35
      · subst h3
        by_cases h4 : i = s * 2
        · subst h4; simp [e]
        · simp [h4]
      · simp [h1, h2, h3]
section Leaf4
variable {l : Launch} {dC : Nat → ClassId} {dI : Nat → Nat → Nat} {tc : Nat → ClassId} {f : Nat → Nat → Int} {g : Nat → Int → Int} {a b c : Nat}
set_option maxRecDepth 100000 in
set_option maxHeartbeats 4000000 in
theorem ct_keep (s sm ch rk : Int) (hs : 0 ≤ s ∧ s < 420) : am_Ct l dC dI tc mm4_keep 0 58 [(.inr (.inr (some 22))), .inl s, .inl ch, .inl sm, .inl rk] (58, f, g, pr_r a b c) (fun r t => r = none ∧ t = (58, f, am_rw g s (zKeep (zRow g s) sm ch rk), pr_r a b c)) := by
  refine am_enter ok_4_keep rfl (by decide) (Nat.le_of_ble_eq_true rfl) rfl ?_
  repeat' first
    | (refine am_id ?_; simp (config := { decide := true }) only [am_u1_s, am_u1_j, am_u1_c, am_u3_s, am_u3_c])
    | (refine am_go rfl (by first | exact True.intro | omega | exact ⟨by decide, Nat.le_of_ble_eq_true rfl, Nat.le_of_ble_eq_true rfl⟩ | exact ⟨by decide, Nat.le_of_ble_eq_true rfl⟩) ?_)
    | (refine am_if rfl (fun c1 => ?_) (fun c1 => ?_))
    | (refine am_iret rfl rfl rfl ?_)
    | (refine am_zret rfl rfl (by first | exact Or.inl rfl | exact Or.inr rfl) rfl ?_)
    | (refine am_lret rfl rfl rfl ?_)
    | (refine am_vret (x := 0) rfl rfl rfl ?_)
  all_goals first
    | omega
    | (refine ⟨rfl, ?_⟩
       unfold zKeep
       rw [if_pos (by show sm < g 33 (s * 2); omega), am_keep1]
       rfl)
    | (refine ⟨rfl, ?_⟩
       unfold zKeep
       rw [if_neg (by show ¬ sm < g 33 (s * 2); omega), if_pos (by show sm < g 33 (s * 2 + 1); omega), am_keep2]
       rfl)
    | (refine ⟨rfl, ?_⟩
       unfold zKeep
       rw [if_neg (by show ¬ sm < g 33 (s * 2); omega), if_neg (by show ¬ sm < g 33 (s * 2 + 1); omega), am_rw_id])
set_option maxRecDepth 100000 in
set_option maxHeartbeats 4000000 in
theorem ct_offer (s ch cost y : Int) (hs : 0 ≤ s ∧ s < 420) (hy : 0 ≤ y ∧ y < 420) (hn : y ≠ s) (hc : 0 ≤ cost ∧ cost ≤ 2000) (h0 : 0 ≤ g 33 (y * 2) ∧ g 33 (y * 2) ≤ 1000000) (h1 : 0 ≤ g 33 (y * 2 + 1) ∧ g 33 (y * 2 + 1) ≤ 1000000) : am_Ct l dC dI tc mm4_offer 1 58 [(.inr (.inr (some 22))), .inl s, .inl ch, .inl cost, .inl y] (58, f, g, pr_r a b c) (fun r t => r = none ∧ t = (58, f, am_rw g s (zOff (zRow g s) ch cost (zRow g y)), pr_r a b c)) := by
  have hr : ∀ w, am_rw g s w 33 (y * 2 + 1) = g 33 (y * 2 + 1) := fun w => congrArg (fun z => z.2.2.2.1) (am_rw_ne g w hn)
  have last : ∀ w, am_wp l dC dI tc mm4_offer 1 58 58 (fun r t => r = none ∧ t = (58, f, am_rw g s (w), pr_r a b c)) 8 [some (.inr (.inr (some 22))), some (.inl s), some (.inl ch), some (.inl cost), some (.inl y), some (.inl 2), some (.inl (g 33 (y * 2 + 1)))] [] (58, f, am_rw g s w, pr_r a b c) := by
    intro w
    iterate 2 (refine am_go rfl (by first | exact True.intro | omega | exact ⟨by decide, Nat.le_of_ble_eq_true rfl, Nat.le_of_ble_eq_true rfl⟩ | exact ⟨by decide, Nat.le_of_ble_eq_true rfl⟩) ?_)
    refine am_if rfl (fun c1 => ?_) (fun c1 => ?_)
    · exact am_vret (x := 0) rfl rfl rfl ⟨rfl, rfl⟩
    · omega
  have second : ∀ w, am_wp l dC dI tc mm4_offer 1 58 58 (fun r t => r = none ∧ t = (58, f, am_rw g s (zOff1 w ch cost (g 33 (y * 2 + 1)) 1), pr_r a b c)) 8 [some (.inr (.inr (some 22))), some (.inl s), some (.inl ch), some (.inl cost), some (.inl y), some (.inl 1), some (.inl (g 33 (y * 2)))] [] (58, f, am_rw g s w, pr_r a b c) := by
    intro w
    iterate 2 (refine am_go rfl (by first | exact True.intro | omega | exact ⟨by decide, Nat.le_of_ble_eq_true rfl, Nat.le_of_ble_eq_true rfl⟩ | exact ⟨by decide, Nat.le_of_ble_eq_true rfl⟩) ?_)
    refine am_if rfl (fun c1 => ?_) (fun c1 => ?_)
    · omega
    · iterate 8 (refine am_go rfl (by first | exact True.intro | omega | exact ⟨by decide, Nat.le_of_ble_eq_true rfl, Nat.le_of_ble_eq_true rfl⟩ | exact ⟨by decide, Nat.le_of_ble_eq_true rfl⟩) ?_)
      rw [hr w]
      iterate 3 (refine am_go rfl (by first | exact True.intro | omega | exact ⟨by decide, Nat.le_of_ble_eq_true rfl, Nat.le_of_ble_eq_true rfl⟩ | exact ⟨by decide, Nat.le_of_ble_eq_true rfl⟩) ?_)
      refine am_if rfl (fun c2 => ?_) (fun c2 => ?_)
      · have e : zOff1 w ch cost (g 33 (y * 2 + 1)) 1 = w := if_pos c2
        rw [e]
        iterate 2 (refine am_go rfl (by first | exact True.intro | omega | exact ⟨by decide, Nat.le_of_ble_eq_true rfl, Nat.le_of_ble_eq_true rfl⟩ | exact ⟨by decide, Nat.le_of_ble_eq_true rfl⟩) ?_)
        exact last w
      · have e : zOff1 w ch cost (g 33 (y * 2 + 1)) 1 = zKeep w (cost + g 33 (y * 2 + 1)) ch 1 := if_neg c2
        rw [e]
        iterate 7 (refine am_go rfl (by first | exact True.intro | omega | exact ⟨by decide, Nat.le_of_ble_eq_true rfl, Nat.le_of_ble_eq_true rfl⟩ | exact ⟨by decide, Nat.le_of_ble_eq_true rfl⟩) ?_)
        refine am_calln rfl (ct_keep _ _ _ _ hs) (by decide) (Nat.le_of_ble_eq_true rfl) (Nat.le_of_ble_eq_true rfl) ?_
        rw [am_rw_row, am_rw_rw]
        iterate 2 (refine am_go rfl (by first | exact True.intro | omega | exact ⟨by decide, Nat.le_of_ble_eq_true rfl, Nat.le_of_ble_eq_true rfl⟩ | exact ⟨by decide, Nat.le_of_ble_eq_true rfl⟩) ?_)
        exact last _
  refine am_enter ok_4_offer rfl (by decide) (Nat.le_of_ble_eq_true rfl) rfl ?_
  (refine am_go rfl (by first | exact True.intro | omega | exact ⟨by decide, Nat.le_of_ble_eq_true rfl, Nat.le_of_ble_eq_true rfl⟩ | exact ⟨by decide, Nat.le_of_ble_eq_true rfl⟩) ?_)
  refine am_if rfl (fun c1 => ?_) (fun c1 => ?_)
  · omega
  · iterate 2 (refine am_go rfl (by first | exact True.intro | omega | exact ⟨by decide, Nat.le_of_ble_eq_true rfl, Nat.le_of_ble_eq_true rfl⟩ | exact ⟨by decide, Nat.le_of_ble_eq_true rfl⟩) ?_)
    refine am_if rfl (fun c2 => ?_) (fun c2 => ?_)
    · iterate 4 (refine am_go rfl (by first | exact True.intro | omega | exact ⟨by decide, Nat.le_of_ble_eq_true rfl, Nat.le_of_ble_eq_true rfl⟩ | exact ⟨by decide, Nat.le_of_ble_eq_true rfl⟩) ?_)
      refine am_if rfl (fun c3 => ?_) (fun c3 => ?_)
      · omega
      · iterate 7 (refine am_go rfl (by first | exact True.intro | omega | exact ⟨by decide, Nat.le_of_ble_eq_true rfl, Nat.le_of_ble_eq_true rfl⟩ | exact ⟨by decide, Nat.le_of_ble_eq_true rfl⟩) ?_)
        rw [show y * 2 + 0 = y * 2 by omega]
        iterate 4 (refine am_go rfl (by first | exact True.intro | omega | exact ⟨by decide, Nat.le_of_ble_eq_true rfl, Nat.le_of_ble_eq_true rfl⟩ | exact ⟨by decide, Nat.le_of_ble_eq_true rfl⟩) ?_)
        refine am_if rfl (fun c4 => ?_) (fun c4 => ?_)
        · have e : zOff1 (zRow g s) ch cost (zRow g y).1 0 = zRow g s := if_pos c4
          unfold zOff
          rw [e]
          iterate 2 (refine am_go rfl (by first | exact True.intro | omega | exact ⟨by decide, Nat.le_of_ble_eq_true rfl, Nat.le_of_ble_eq_true rfl⟩ | exact ⟨by decide, Nat.le_of_ble_eq_true rfl⟩) ?_)
          have h9 := second (zRow g s)
          rw [am_rw_id] at h9
          exact h9
        · have e : zOff1 (zRow g s) ch cost (zRow g y).1 0 = zKeep (zRow g s) (cost + g 33 (y * 2)) ch 0 := if_neg c4
          unfold zOff
          rw [e]
          iterate 7 (refine am_go rfl (by first | exact True.intro | omega | exact ⟨by decide, Nat.le_of_ble_eq_true rfl, Nat.le_of_ble_eq_true rfl⟩ | exact ⟨by decide, Nat.le_of_ble_eq_true rfl⟩) ?_)
          refine am_calln rfl (ct_keep _ _ _ _ hs) (by decide) (Nat.le_of_ble_eq_true rfl) (Nat.le_of_ble_eq_true rfl) ?_
          iterate 2 (refine am_go rfl (by first | exact True.intro | omega | exact ⟨by decide, Nat.le_of_ble_eq_true rfl, Nat.le_of_ble_eq_true rfl⟩ | exact ⟨by decide, Nat.le_of_ble_eq_true rfl⟩) ?_)
          exact second _
    · omega
set_option maxRecDepth 100000 in
set_option maxHeartbeats 4000000 in
theorem ct_isReached (x y z : Int) (hx : 0 ≤ x ∧ x ≤ 9) (hy : 0 ≤ y ∧ y ≤ 6) (hz : 0 ≤ z ∧ z ≤ 5) (hb : g 32 ((x * 7 + y) * 6 + z) = 0 ∨ g 32 ((x * 7 + y) * 6 + z) = 1) : am_Ct l dC dI tc mm4_isReached 1 58 [(.inr (.inr (some 22))), .inl x, .inl y, .inl z] (58, f, g, pr_r a b c) (fun r s => r = some (.inl (g 32 ((x * 7 + y) * 6 + z))) ∧ s = (58, f, g, pr_r a b c)) := by
  refine am_enter ok_4_isReached rfl (by decide) (Nat.le_of_ble_eq_true rfl) rfl ?_
  repeat' first
    | (refine am_callv rfl (ct_stateOf _ _ _ (by omega) (by omega) (by omega)) (by decide) (Nat.le_of_ble_eq_true rfl) (Nat.le_of_ble_eq_true rfl) ?_)
    | (refine am_id ?_; simp (config := { decide := true }) only [am_u1_s, am_u1_j, am_u1_c, am_u3_s, am_u3_c])
    | (refine am_go rfl (by first | exact True.intro | omega | exact ⟨by decide, Nat.le_of_ble_eq_true rfl, Nat.le_of_ble_eq_true rfl⟩ | exact ⟨by decide, Nat.le_of_ble_eq_true rfl⟩) ?_)
    | (refine am_if rfl (fun c1 => ?_) (fun c1 => ?_))
    | (refine am_iret rfl rfl rfl ?_)
    | (refine am_zret rfl rfl (by first | exact Or.inl rfl | exact Or.inr rfl) rfl ?_)
    | (refine am_lret rfl rfl rfl ?_)
    | (refine am_vret (x := 0) rfl rfl rfl ?_)
  all_goals first
    | omega
    | (refine ⟨?_, rfl⟩; congr 2; omega)
/-- the state behind a part -/
def zBeh (g : Nat → Int → Int) (x y z : Int) : Int := if g 5 x = 0 ∨ z = 0 then ((x + 1) * 7 + y) * 6 + z else if z = zPl g y then ((x + 1) * 7 + (y + 1)) * 6 + 0 else -1
set_option maxRecDepth 100000 in
set_option maxHeartbeats 4000000 in
theorem ct_stateBehind (x y z : Int) (hs : f 2 0 ≤ 9) (hx : 0 ≤ x ∧ x < f 2 0) (hy : 0 ≤ y ∧ y ≤ 6) (hz : 0 ≤ z ∧ z ≤ 6) (hb : g 5 x = 0 ∨ g 5 x = 1) : am_Ct l dC dI tc mm4_stateBehind 1 58 [(.inr (.inr (some 22))), .inl x, .inl y, .inl z] (58, f, g, pr_r a b c) (fun r s => r = some (.inl (zBeh g x y z)) ∧ s = (58, f, g, pr_r a b c)) := by
  unfold zBeh
  refine am_enter ok_4_stateBehind rfl (by decide) (Nat.le_of_ble_eq_true rfl) rfl ?_
  repeat' first
    | (refine am_callv rfl (ct_stateOf _ _ _ (by omega) (by omega) (by omega)) (by decide) (Nat.le_of_ble_eq_true rfl) (Nat.le_of_ble_eq_true rfl) ?_)
    | (refine am_callv rfl (ct_endsRow _ hs hx hb) (by decide) (Nat.le_of_ble_eq_true rfl) (Nat.le_of_ble_eq_true rfl) ?_)
    | (refine am_callv rfl (ct_placesIn _) (by decide) (Nat.le_of_ble_eq_true rfl) (Nat.le_of_ble_eq_true rfl) ?_)
    | (refine am_id ?_; simp (config := { decide := true }) only [am_u1_s, am_u1_j, am_u1_c, am_u3_s, am_u3_c])
    | (refine am_go rfl (by first | exact True.intro | omega | exact ⟨by decide, Nat.le_of_ble_eq_true rfl, Nat.le_of_ble_eq_true rfl⟩ | exact ⟨by decide, Nat.le_of_ble_eq_true rfl⟩) ?_)
    | (refine am_if rfl (fun c1 => ?_) (fun c1 => ?_))
    | (refine am_iret rfl rfl rfl ?_)
    | (refine am_zret rfl rfl (by first | exact Or.inl rfl | exact Or.inr rfl) rfl ?_)
    | (refine am_lret rfl rfl rfl ?_)
    | (refine am_vret (x := 0) rfl rfl rfl ?_)
  all_goals first
    | omega
    | (rw [if_pos (by omega)]; exact ⟨rfl, rfl⟩)
    | (rw [if_neg (by omega), if_pos (by omega)]; exact ⟨rfl, rfl⟩)
    | (rw [if_neg (by omega), if_neg (by omega)]; exact ⟨rfl, rfl⟩)
set_option maxRecDepth 100000 in
set_option maxHeartbeats 4000000 in
theorem ct_reach (x : Int) (hx : x < 420) (h2 : 0 ≤ f 22 2 ∧ f 22 2 ≤ 100) : am_Ct l dC dI tc mm4_reach 1 58 [(.inr (.inr (some 22))), .inl x] (58, f, g, pr_r a b c) (fun r s => r = none ∧ s = (if x < 0 then (58, f, g, pr_r a b c) else (58, am_u1 f 22 2 (if f 22 2 < x / 6 % 7 then x / 6 % 7 else f 22 2), am_u3 g 32 x 1, pr_r a b c))) := by
  refine am_enter ok_4_reach rfl (by decide) (Nat.le_of_ble_eq_true rfl) rfl ?_
  repeat' first
    | (refine am_id ?_; simp (config := { decide := true }) only [am_u1_s, am_u1_j, am_u1_c, am_u3_s, am_u3_c])
    | (refine am_go rfl (by first | exact True.intro | omega | exact ⟨by decide, Nat.le_of_ble_eq_true rfl, Nat.le_of_ble_eq_true rfl⟩ | exact ⟨by decide, Nat.le_of_ble_eq_true rfl⟩) ?_)
    | (refine am_if rfl (fun c1 => ?_) (fun c1 => ?_))
    | (refine am_iret rfl rfl rfl ?_)
    | (refine am_zret rfl rfl (by first | exact Or.inl rfl | exact Or.inr rfl) rfl ?_)
    | (refine am_lret rfl rfl rfl ?_)
    | (refine am_vret (x := 0) rfl rfl rfl ?_)
  all_goals first
    | omega
    | (refine ⟨rfl, ?_⟩; rw [if_pos (show x < 0 by omega)])
    | (refine ⟨rfl, ?_⟩; rw [if_neg (show ¬ x < 0 by omega)])
set_option maxRecDepth 100000 in
set_option maxHeartbeats 4000000 in
theorem ct_misfitCost (k v : Int) (hc : 0 ≤ f 18 0 ∧ f 18 0 ≤ 60) : am_Ct l dC dI tc mm4_misfitCost 1 58 [(.inr (.inr (some 22))), .inl k, .inl v] (58, f, g, pr_r a b c) (fun r s => s = (58, f, g, pr_r a b c) ∧ ((r = some (.inl 100) ∧ f 22 14 ≠ -1 ∧ (k = 2 ∨ k = 6) ∧ ¬ zFit f g k v (f 22 14)) ∨ (r = some (.inl 0) ∧ ¬ (f 22 14 ≠ -1 ∧ (k = 2 ∨ k = 6) ∧ ¬ zFit f g k v (f 22 14))))) := by
  refine am_enter ok_4_misfitCost rfl (by decide) (Nat.le_of_ble_eq_true rfl) rfl ?_
  repeat' first
    | (refine am_call rfl (ct_holds k v (f 22 14) hc) (by decide) (Nat.le_of_ble_eq_true rfl) (Nat.le_of_ble_eq_true rfl) (Nat.le_of_ble_eq_true rfl) (fun rv s q => ?_); obtain ⟨rfl, ⟨rfl, hz⟩ | ⟨rfl, hz⟩⟩ := q)
    | (refine am_go rfl (by first | exact True.intro | omega | exact ⟨by decide, Nat.le_of_ble_eq_true rfl, Nat.le_of_ble_eq_true rfl⟩ | exact ⟨by decide, Nat.le_of_ble_eq_true rfl⟩) ?_)
    | (refine am_if rfl (fun c1 => ?_) (fun c1 => ?_))
    | (refine am_iret rfl rfl rfl ?_)
  all_goals first
    | omega
    | exact ⟨rfl, Or.inr ⟨rfl, fun q => q.2.2 hz⟩⟩
    | exact ⟨rfl, Or.inl ⟨rfl, by omega, by omega, hz⟩⟩
    | exact ⟨rfl, Or.inr ⟨rfl, fun q => by omega⟩⟩
end Leaf4
end
section
/-! one state of the search: the row that weigh writes -/
noncomputable def zMf (f : Nat → Nat → Int) (g : Nat → Int → Int) (v k x : Int) : Int := @ite Int (v ≠ -1 ∧ (k = 2 ∨ k = 6) ∧ ¬ zFit f g k x v) (Classical.propDecidable _) 100 0
def zSt (x y z : Int) : Int := (x * 7 + y) * 6 + z
def zOffB (g : Nat → Int → Int) (w : zR) (ch cost y : Int) : zR := if y < 0 then w else zOff w ch cost (zRow g y)
def zAlt (x y z : Int) : Int := (x * 5 + y) * 4 + z
noncomputable def zStp (f : Nat → Nat → Int) (g : Nat → Int → Int) (v x y z i : Int) (w : zR) : zR :=
  if g 15 (zAlt y z i) = g 3 x ∧ (g 3 x ≠ 7 ∨ g 16 (zAlt y z i) = v) then zOffB g w i (g 17 (zAlt y z i) + zMf f g v (g 3 x) (g 16 (zAlt y z i))) (zBeh g x y (z + 1)) else w
noncomputable def zLp (f : Nat → Nat → Int) (g : Nat → Int → Int) (v x y z : Int) : Nat → Int → zR → zR
  | 0, _, w => w
  | n + 1, i, w => zLp f g v x y z n (i + 1) (zStp f g v x y z i w)
def zMs (g : Nat → Int → Int) (v x y z : Int) (w : zR) : zR := if g 4 x ≠ -1 ∧ (g 3 x ≠ 7 ∨ v = -1) then zOffB g w 4 (g 4 x) (zBeh g x y z) else w
def zW0 (w : zR) : zR := (1000000, w.2.1, w.2.2.1, 1000000, w.2.2.2.2.1, w.2.2.2.2.2)
noncomputable def zW (f : Nat → Nat → Int) (g : Nat → Int → Int) (v x y z : Int) (w : zR) : zR :=
  if x = f 2 0 then (if y = f 12 0 then 0 else 1000000, w.2.1, w.2.2.1, 1000000, w.2.2.2.2.1, w.2.2.2.2.2) else zMs g v x y z (zLp f g v x y z (zNa g y z).toNat 0 (zW0 w))
/-- the form, the lines and the pairs are as they should be -/
def zI (f : Nat → Nat → Int) (g : Nat → Int → Int) : Prop :=
  (0 ≤ f 2 0 ∧ f 2 0 ≤ 9) ∧ (∀ x, 0 ≤ x → x < f 2 0 → (0 ≤ g 3 x ∧ g 3 x ≤ 8) ∧ (-1 ≤ g 4 x ∧ g 4 x ≤ 999) ∧ (g 5 x = 0 ∨ g 5 x = 1)) ∧
  (0 ≤ f 12 0 ∧ f 12 0 ≤ 6) ∧ (∀ y, 0 ≤ y → y < 6 → (0 ≤ g 13 y ∧ g 13 y ≤ 5) ∧ (y < f 12 0 ↔ 0 < g 13 y)) ∧
  (∀ y z, 0 ≤ y → y < 6 → 0 ≤ z → z < 5 → (0 ≤ g 14 (y * 5 + z) ∧ g 14 (y * 5 + z) ≤ 4) ∧ (z < g 13 y ↔ 0 < g 14 (y * 5 + z))) ∧
  (∀ y z i, 0 ≤ y → y < 6 → 0 ≤ z → z < 5 → 0 ≤ i → i < g 14 (y * 5 + z) → (0 ≤ g 16 (zAlt y z i) ∧ g 16 (zAlt y z i) ≤ 999) ∧ (0 ≤ g 17 (zAlt y z i) ∧ g 17 (zAlt y z i) ≤ 1000)) ∧
  (0 ≤ f 18 0 ∧ f 18 0 ≤ 60)
def zOk (g : Nat → Int → Int) (y : Int) : Prop := (0 ≤ g 33 (y * 2) ∧ g 33 (y * 2) ≤ 1000000) ∧ (0 ≤ g 33 (y * 2 + 1) ∧ g 33 (y * 2 + 1) ≤ 1000000)
theorem zMf_r (f : Nat → Nat → Int) (g : Nat → Int → Int) (v k x : Int) : 0 ≤ zMf f g v k x ∧ zMf f g v k x ≤ 100 := by
  unfold zMf
  split <;> omega
theorem zPl_rw (g : Nat → Int → Int) (s : Int) (w : zR) (x : Int) : zPl (am_rw g s w) x = zPl g x := by
  unfold zPl
  rw [am_rw_c g w (by decide)]
theorem zNa_rw (g : Nat → Int → Int) (s : Int) (w : zR) (x y : Int) : zNa (am_rw g s w) x y = zNa g x y := by
  unfold zNa
  rw [am_rw_c g w (by decide)]
theorem zBeh_rw (g : Nat → Int → Int) (s : Int) (w : zR) (x y z : Int) : zBeh (am_rw g s w) x y z = zBeh g x y z := by
  unfold zBeh
  rw [am_rw_c g w (by decide), zPl_rw]
theorem zFit_rw (f : Nat → Nat → Int) (g : Nat → Int → Int) (s : Int) (w : zR) (k x y : Int) : zFit f (am_rw g s w) k x y ↔ zFit f g k x y := by
  unfold zFit
  simp only [am_rw_c g w (show (19 : Nat) ≠ 33 ∧ (19 : Nat) ≠ 34 ∧ (19 : Nat) ≠ 35 by decide), am_rw_c g w (show (20 : Nat) ≠ 33 ∧ (20 : Nat) ≠ 34 ∧ (20 : Nat) ≠ 35 by decide), am_rw_c g w (show (21 : Nat) ≠ 33 ∧ (21 : Nat) ≠ 34 ∧ (21 : Nat) ≠ 35 by decide)]
theorem zMf_rw (f : Nat → Nat → Int) (g : Nat → Int → Int) (s : Int) (w : zR) (v k x : Int) : zMf f (am_rw g s w) v k x = zMf f g v k x := by
  unfold zMf
  by_cases h : v ≠ -1 ∧ (k = 2 ∨ k = 6) ∧ ¬ zFit f g k x v
  · rw [if_pos h, if_pos ⟨h.1, h.2.1, fun q => h.2.2 ((zFit_rw f g s w k x v).mp q)⟩]
  · rw [if_neg h, if_neg (fun q => h ⟨q.1, q.2.1, fun u => q.2.2 ((zFit_rw f g s w k x v).mpr u)⟩)]
theorem am_w0 (g : Nat → Int → Int) (s : Int) : am_u3 (am_u3 g 33 (s * 2) 1000000) 33 (s * 2 + 1) 1000000 = am_rw g s (zW0 (zRow g s)) := by
  have e : ¬ s * 2 = s * 2 + 1 := by omega
  have e' : ¬ s * 2 + 1 = s * 2 := by omega
  funext u j
  unfold am_u3 am_rw zW0 zRow
  by_cases q1 : u = 33
  · subst q1
    by_cases q4 : j = s * 2
    · subst q4; simp [e]
    · simp [q4]
  · by_cases q2 : u = 34
    · subst q2
      by_cases q4 : j = s * 2
      · subst q4; simp
      · by_cases q5 : j = s * 2 + 1
        · subst q5; simp [e']
        · simp [q4, q5]
    · by_cases q3 : u = 35
      · subst q3
        by_cases q4 : j = s * 2
        · subst q4; simp
        · by_cases q5 : j = s * 2 + 1
          · subst q5; simp [e']
          · simp [q4, q5]
      · simp [q1, q2, q3]
theorem am_u3_rw (g : Nat → Int → Int) (s v : Int) (w : zR) : am_u3 (am_rw g s w) 33 (s * 2) v = am_rw g s (v, w.2) := by
  funext u j
  unfold am_u3 am_rw
  by_cases q1 : u = 33
  · subst q1
    by_cases q4 : j = s * 2
    · subst q4; simp
    · simp [q4]
  · simp [q1]
theorem zNa_r {f : Nat → Nat → Int} {g : Nat → Int → Int} (h : zI f g) (x y : Int) : 0 ≤ zNa g x y ∧ zNa g x y ≤ 4 := by
  unfold zNa
  split
  · rename_i q
    exact (h.2.2.2.2.1 x y q.1.1 q.1.2 q.2.1 q.2.2).1
  · omega
theorem zNa_in {g : Nat → Int → Int} {x y : Int} (h : 0 < zNa g x y) : (0 ≤ x ∧ x < 6) ∧ 0 ≤ y ∧ y < 5 := by
  unfold zNa at h
  split at h
  · assumption
  · omega
section Wgh
variable {l : Launch} {dC : Nat → ClassId} {dI : Nat → Nat → Nat} {tc : Nat → ClassId} {f : Nat → Nat → Int} {g : Nat → Int → Int} {a b c : Nat}
set_option maxRecDepth 100000 in
set_option maxHeartbeats 4000000 in
theorem ct_mf (k v : Int) (hc : 0 ≤ f 18 0 ∧ f 18 0 ≤ 60) : am_Ct l dC dI tc mm4_misfitCost 1 58 [(.inr (.inr (some 22))), .inl k, .inl v] (58, f, g, pr_r a b c) (fun r s => r = some (.inl (zMf f g (f 22 14) k v)) ∧ s = (58, f, g, pr_r a b c)) := by
  refine am_Ct_mono (fun r s q => ?_) (ct_misfitCost k v hc)
  obtain ⟨h1, ⟨h2, h3⟩ | ⟨h2, h3⟩⟩ := q
  · refine ⟨?_, h1⟩
    rw [h2]
    unfold zMf
    rw [if_pos h3]
  · refine ⟨?_, h1⟩
    rw [h2]
    unfold zMf
    rw [if_neg h3]
theorem ct_lk (x y z : Int) (hz : ((0 ≤ x ∧ x < 6) ∧ 0 ≤ y ∧ y < 5) ∧ 0 ≤ z ∧ z < 4) : am_Ct l dC dI tc mm2_kindOf 1 58 [(.inr (.inr (some 12))), .inl x, .inl y, .inl z] (58, f, g, pr_r a b c) (fun r s => r = some (.inl (g 15 (zAlt x y z))) ∧ s = (58, f, g, pr_r a b c)) := by
  have h := ct_lkindOf (l := l) (dC := dC) (dI := dI) (tc := tc) (f := f) (g := g) (a := a) (b := b) (c := c) x y z
  rw [if_pos hz] at h
  exact h
theorem ct_lv (x y z : Int) (hz : ((0 ≤ x ∧ x < 6) ∧ 0 ≤ y ∧ y < 5) ∧ 0 ≤ z ∧ z < 4) : am_Ct l dC dI tc mm2_valueOf 1 58 [(.inr (.inr (some 12))), .inl x, .inl y, .inl z] (58, f, g, pr_r a b c) (fun r s => r = some (.inl (g 16 (zAlt x y z))) ∧ s = (58, f, g, pr_r a b c)) := by
  have h := ct_lvalueOf (l := l) (dC := dC) (dI := dI) (tc := tc) (f := f) (g := g) (a := a) (b := b) (c := c) x y z
  rw [if_pos hz] at h
  exact h
theorem ct_lc (x y z : Int) (hz : ((0 ≤ x ∧ x < 6) ∧ 0 ≤ y ∧ y < 5) ∧ 0 ≤ z ∧ z < 4) : am_Ct l dC dI tc mm2_costOf 1 58 [(.inr (.inr (some 12))), .inl x, .inl y, .inl z] (58, f, g, pr_r a b c) (fun r s => r = some (.inl (g 17 (zAlt x y z))) ∧ s = (58, f, g, pr_r a b c)) := by
  have h := ct_lcostOf (l := l) (dC := dC) (dI := dI) (tc := tc) (f := f) (g := g) (a := a) (b := b) (c := c) x y z
  rw [if_pos hz] at h
  exact h
theorem ct_fk (x : Int) (hs : f 2 0 ≤ 9) (hz : 0 ≤ x ∧ x < f 2 0) : am_Ct l dC dI tc mm1_kindOf 0 58 [(.inr (.inr (some 2))), .inl x] (58, f, g, pr_r a b c) (fun r s => r = some (.inl (g 3 x)) ∧ s = (58, f, g, pr_r a b c)) := by
  have h := ct_fkindOf (l := l) (dC := dC) (dI := dI) (tc := tc) (f := f) (g := g) (a := a) (b := b) (c := c) x hs
  rw [if_pos hz] at h
  exact h
theorem ct_fm (x : Int) (hs : f 2 0 ≤ 9) (hz : 0 ≤ x ∧ x < f 2 0) : am_Ct l dC dI tc mm1_missingCost 0 58 [(.inr (.inr (some 2))), .inl x] (58, f, g, pr_r a b c) (fun r s => r = some (.inl (g 4 x)) ∧ s = (58, f, g, pr_r a b c)) := by
  have h := ct_fmissingCost (l := l) (dC := dC) (dI := dI) (tc := tc) (f := f) (g := g) (a := a) (b := b) (c := c) x hs
  rw [if_pos hz] at h
  exact h
set_option maxRecDepth 100000 in
set_option maxHeartbeats 4000000 in
theorem ct_offerB (s ch cost y : Int) (hs : 0 ≤ s ∧ s < 420) (hy : y < 420) (hn : y ≠ s) (hc : 0 ≤ cost ∧ cost ≤ 2000) (h0 : 0 ≤ y → zOk g y) : am_Ct l dC dI tc mm4_offer 1 58 [(.inr (.inr (some 22))), .inl s, .inl ch, .inl cost, .inl y] (58, f, g, pr_r a b c) (fun r t => r = none ∧ t = (58, f, am_rw g s (zOffB g (zRow g s) ch cost y), pr_r a b c)) := by
  by_cases h : y < 0
  · have e : zOffB g (zRow g s) ch cost y = zRow g s := if_pos h
    rw [e, am_rw_id]
    refine am_enter ok_4_offer rfl (by decide) (Nat.le_of_ble_eq_true rfl) rfl ?_
    (refine am_go rfl (by first | exact True.intro | omega | exact ⟨by decide, Nat.le_of_ble_eq_true rfl, Nat.le_of_ble_eq_true rfl⟩ | exact ⟨by decide, Nat.le_of_ble_eq_true rfl⟩) ?_)
    refine am_if rfl (fun c1 => ?_) (fun c1 => ?_)
    · exact am_vret (x := 0) rfl rfl rfl ⟨rfl, rfl⟩
    · omega
  · have e : zOffB g (zRow g s) ch cost y = zOff (zRow g s) ch cost (zRow g y) := if_neg h
    rw [e]
    exact ct_offer s ch cost y hs ⟨by omega, hy⟩ hn hc (h0 (by omega)).1 (h0 (by omega)).2
set_option maxRecDepth 100000 in
set_option maxHeartbeats 4000000 in
theorem ct_weigh (x y z : Int) (hI : zI f g) (hx : 0 ≤ x ∧ x ≤ f 2 0) (hy : 0 ≤ y ∧ y ≤ f 12 0) (hz : 0 ≤ z ∧ z ≤ zPl g y) (h1 : x < f 2 0 → ∀ q, zBeh g x y (z + 1) = q → 0 ≤ q → zOk g q) (h2 : x < f 2 0 → ∀ q, zBeh g x y z = q → 0 ≤ q → zOk g q) :
    am_Ct l dC dI tc mm4_weigh 2 58 [(.inr (.inr (some 22))), .inl x, .inl y, .inl z] (58, f, g, pr_r a b c) (fun r t => r = none ∧ t = (58, f, am_rw g (zSt x y z) (zW f g (f 22 14) x y z (zRow g (zSt x y z))), pr_r a b c)) := by
  have hI2 := hI
  obtain ⟨i1, i2, i3, i4, i5, i6, i7⟩ := hI2
  have hpl : zPl g y ≤ 5 := by
    unfold zPl
    split
    · rename_i q
      have := (i4 y q.1 q.2).1
      omega
    · omega
  have hst : 0 ≤ zSt x y z ∧ zSt x y z < 420 := by unfold zSt; omega
  have hna := zNa_r hI y z
  have hb : ∀ q, 0 ≤ q → q ≤ 5 → x < f 2 0 → zBeh g x y q < 420 ∧ zBeh g x y q ≠ zSt x y z := by
    intro q q1 q2 q3
    unfold zBeh zSt
    split
    · omega
    · split
      · rename_i u1 u2
        have : zPl g y ≠ 0 := by omega
        have : y < 6 := by
          unfold zPl at this
          split at this <;> omega
        omega
      · omega
  -- behind the loop: the part may be missing
  have tail : ∀ (w : zR) (o8 o9 : Option am_V), x < f 2 0 → am_wp l dC dI tc mm4_weigh 2 58 58 (fun r t => r = none ∧ t = (58, f, am_rw g (zSt x y z) (zMs g (f 22 14) x y z w), pr_r a b c)) 111 [some (.inr (.inr (some 22))), some (.inl x), some (.inl y), some (.inl z), some (.inl (zSt x y z)), some (.inl (g 3 x)), some (.inl (zNa g y z)), some (.inl (zNa g y z)), o8, o9] [] (58, f, am_rw g (zSt x y z) w, pr_r a b c) := by
    intro w o8 o9 hxl
    have hf := i2 x hx.1 hxl
    iterate 3 (refine am_go rfl (by first | exact True.intro | omega | exact ⟨by decide, Nat.le_of_ble_eq_true rfl, Nat.le_of_ble_eq_true rfl⟩ | exact ⟨by decide, Nat.le_of_ble_eq_true rfl⟩) ?_)
    refine am_callv rfl (ct_fm _ (by omega) ⟨hx.1, hxl⟩) (by decide) (Nat.le_of_ble_eq_true rfl) (Nat.le_of_ble_eq_true rfl) ?_
    rw [am_rw_c g w (by decide)]
    iterate 3 (refine am_go rfl (by first | exact True.intro | omega | exact ⟨by decide, Nat.le_of_ble_eq_true rfl, Nat.le_of_ble_eq_true rfl⟩ | exact ⟨by decide, Nat.le_of_ble_eq_true rfl⟩) ?_)
    refine am_if rfl (fun c1 => ?_) (fun c1 => ?_)
    · have e : zMs g (f 22 14) x y z w = w := if_neg (fun q => q.1 c1)
      rw [e]
      exact am_vret (x := 0) rfl rfl rfl ⟨rfl, rfl⟩
    · have fin : (g 3 x ≠ 7 ∨ f 22 14 = -1) → am_wp l dC dI tc mm4_weigh 2 58 58 (fun r t => r = none ∧ t = (58, f, am_rw g (zSt x y z) (zMs g (f 22 14) x y z w), pr_r a b c)) 126 [some (.inr (.inr (some 22))), some (.inl x), some (.inl y), some (.inl z), some (.inl (zSt x y z)), some (.inl (g 3 x)), some (.inl (zNa g y z)), some (.inl (g 4 x)), o8, o9] [] (58, f, am_rw g (zSt x y z) w, pr_r a b c) := by
        intro hv
        have e : zMs g (f 22 14) x y z w = zOffB g w 4 (g 4 x) (zBeh g x y z) := if_pos ⟨c1, hv⟩
        rw [e]
        iterate 8 (refine am_go rfl (by first | exact True.intro | omega | exact ⟨by decide, Nat.le_of_ble_eq_true rfl, Nat.le_of_ble_eq_true rfl⟩ | exact ⟨by decide, Nat.le_of_ble_eq_true rfl⟩) ?_)
        refine am_callv rfl (ct_stateBehind _ _ _ (by omega) ⟨hx.1, hxl⟩ (by omega) (by omega) (by rw [am_rw_c g w (by decide)]; exact hf.2.2)) (by decide) (Nat.le_of_ble_eq_true rfl) (Nat.le_of_ble_eq_true rfl) ?_
        rw [zBeh_rw]
        obtain ⟨b1, b2⟩ := hb z hz.1 (by omega) hxl
        refine am_calln rfl (ct_offerB _ _ _ _ hst b1 b2 (by omega) (fun q0 => ?_)) (by decide) (Nat.le_of_ble_eq_true rfl) (Nat.le_of_ble_eq_true rfl) ?_
        · have h9 := h2 hxl _ rfl q0
          have e3 := am_rw_ne g w b2
          unfold zOk at h9 ⊢
          have e4 : am_rw g (zSt x y z) w 33 (zBeh g x y z * 2) = g 33 (zBeh g x y z * 2) := congrArg (fun u => u.1) e3
          have e5 : am_rw g (zSt x y z) w 33 (zBeh g x y z * 2 + 1) = g 33 (zBeh g x y z * 2 + 1) := congrArg (fun u => u.2.2.2.1) e3
          rw [e4, e5]
          exact h9
        · have e6 : zOffB (am_rw g (zSt x y z) w) w 4 (g 4 x) (zBeh g x y z) = zOffB g w 4 (g 4 x) (zBeh g x y z) := by
            unfold zOffB
            rw [am_rw_ne g w b2]
          rw [am_rw_row, am_rw_rw, e6]
          exact am_vret (x := 0) rfl rfl rfl ⟨rfl, rfl⟩
      iterate 2 (refine am_go rfl (by first | exact True.intro | omega | exact ⟨by decide, Nat.le_of_ble_eq_true rfl, Nat.le_of_ble_eq_true rfl⟩ | exact ⟨by decide, Nat.le_of_ble_eq_true rfl⟩) ?_)
      refine am_if rfl (fun c2 => ?_) (fun c2 => ?_)
      · exact fin (Or.inl c2)
      · iterate 3 (refine am_go rfl (by first | exact True.intro | omega | exact ⟨by decide, Nat.le_of_ble_eq_true rfl, Nat.le_of_ble_eq_true rfl⟩ | exact ⟨by decide, Nat.le_of_ble_eq_true rfl⟩) ?_)
        refine am_if rfl (fun c3 => ?_) (fun c3 => ?_)
        · have e : zMs g (f 22 14) x y z w = w := if_neg (fun q => by omega)
          rw [e]
          exact am_vret (x := 0) rfl rfl rfl ⟨rfl, rfl⟩
        · exact fin (Or.inr (by omega))
  have loop : ∀ (n : Nat) (i : Int) (w : zR) (o8 o9 : Option am_V), x < f 2 0 → 0 ≤ i → i ≤ zNa g y z → (zNa g y z - i).toNat = n → am_wp l dC dI tc mm4_weigh 2 58 58 (fun r t => r = none ∧ t = (58, f, am_rw g (zSt x y z) (zMs g (f 22 14) x y z (zLp f g (f 22 14) x y z n i w)), pr_r a b c)) 60 [some (.inr (.inr (some 22))), some (.inl x), some (.inl y), some (.inl z), some (.inl (zSt x y z)), some (.inl (g 3 x)), some (.inl (zNa g y z)), some (.inl (i)), o8, o9] [] (58, f, am_rw g (zSt x y z) w, pr_r a b c) := by
    intro n
    induction n with
    | zero =>
      intro i w o8 o9 hxl hi hi2 hn
      have e : i = zNa g y z := by omega
      subst e
      iterate 2 (refine am_go rfl (by first | exact True.intro | omega | exact ⟨by decide, Nat.le_of_ble_eq_true rfl, Nat.le_of_ble_eq_true rfl⟩ | exact ⟨by decide, Nat.le_of_ble_eq_true rfl⟩) ?_)
      refine am_if rfl (fun c1 => ?_) (fun c1 => ?_)
      · exact tail w o8 o9 hxl
      · omega
    | succ n ih =>
      intro i w o8 o9 hxl hi hi2 hn
      have hf := i2 x hx.1 hxl
      have hin := zNa_in (show 0 < zNa g y z by omega)
      have e14 : zNa g y z = g 14 (y * 5 + z) := if_pos hin
      have hal := i6 y z i hin.1.1 hin.1.2 hin.2.1 hin.2.2 hi (by omega)
      have next : ∀ (w2 : zR) (p8 p9 : Option am_V), zStp f g (f 22 14) x y z i w = w2 → am_wp l dC dI tc mm4_weigh 2 58 58 (fun r t => r = none ∧ t = (58, f, am_rw g (zSt x y z) (zMs g (f 22 14) x y z (zLp f g (f 22 14) x y z (n + 1) i w)), pr_r a b c)) 109 [some (.inr (.inr (some 22))), some (.inl x), some (.inl y), some (.inl z), some (.inl (zSt x y z)), some (.inl (g 3 x)), some (.inl (zNa g y z)), some (.inl (i)), p8, p9] [] (58, f, am_rw g (zSt x y z) w2, pr_r a b c) := by
        intro w2 p8 p9 e
        have e2 : zLp f g (f 22 14) x y z (n + 1) i w = zLp f g (f 22 14) x y z n (i + 1) w2 := by
          show zLp f g (f 22 14) x y z n (i + 1) (zStp f g (f 22 14) x y z i w) = _
          rw [e]
        rw [e2]
        iterate 2 (refine am_go rfl (by first | exact True.intro | omega | exact ⟨by decide, Nat.le_of_ble_eq_true rfl, Nat.le_of_ble_eq_true rfl⟩ | exact ⟨by decide, Nat.le_of_ble_eq_true rfl⟩) ?_)
        exact ih (i + 1) w2 p8 p9 hxl (by omega) (by omega) (by omega)
      iterate 2 (refine am_go rfl (by first | exact True.intro | omega | exact ⟨by decide, Nat.le_of_ble_eq_true rfl, Nat.le_of_ble_eq_true rfl⟩ | exact ⟨by decide, Nat.le_of_ble_eq_true rfl⟩) ?_)
      refine am_if rfl (fun c1 => ?_) (fun c1 => ?_)
      · omega
      · iterate 5 (refine am_go rfl (by first | exact True.intro | omega | exact ⟨by decide, Nat.le_of_ble_eq_true rfl, Nat.le_of_ble_eq_true rfl⟩ | exact ⟨by decide, Nat.le_of_ble_eq_true rfl⟩) ?_)
        refine am_callv rfl (ct_lk _ _ _ ⟨hin, by omega⟩) (by decide) (Nat.le_of_ble_eq_true rfl) (Nat.le_of_ble_eq_true rfl) ?_
        rw [am_rw_c g w (by decide)]
        (refine am_go rfl (by first | exact True.intro | omega | exact ⟨by decide, Nat.le_of_ble_eq_true rfl, Nat.le_of_ble_eq_true rfl⟩ | exact ⟨by decide, Nat.le_of_ble_eq_true rfl⟩) ?_)
        refine am_if rfl (fun c2 => ?_) (fun c2 => ?_)
        · exact next w o8 o9 (if_neg (fun q => c2 q.1))
        · have c2 : g 15 (zAlt y z i) = g 3 x := by omega
          iterate 5 (refine am_go rfl (by first | exact True.intro | omega | exact ⟨by decide, Nat.le_of_ble_eq_true rfl, Nat.le_of_ble_eq_true rfl⟩ | exact ⟨by decide, Nat.le_of_ble_eq_true rfl⟩) ?_)
          refine am_callv rfl (ct_lv _ _ _ ⟨hin, by omega⟩) (by decide) (Nat.le_of_ble_eq_true rfl) (Nat.le_of_ble_eq_true rfl) ?_
          rw [am_rw_c g w (by decide)]
          have fin : (g 3 x ≠ 7 ∨ g 16 (zAlt y z i) = f 22 14) → am_wp l dC dI tc mm4_weigh 2 58 58 (fun r t => r = none ∧ t = (58, f, am_rw g (zSt x y z) (zMs g (f 22 14) x y z (zLp f g (f 22 14) x y z (n + 1) i w)), pr_r a b c)) 85 [some (.inr (.inr (some 22))), some (.inl x), some (.inl y), some (.inl z), some (.inl (zSt x y z)), some (.inl (g 3 x)), some (.inl (zNa g y z)), some (.inl (i)), some (.inl (g 16 (zAlt y z i))), o9] [] (58, f, am_rw g (zSt x y z) w, pr_r a b c) := by
            intro hv
            have e : zStp f g (f 22 14) x y z i w = zOffB g w i (g 17 (zAlt y z i) + zMf f g (f 22 14) (g 3 x) (g 16 (zAlt y z i))) (zBeh g x y (z + 1)) := if_pos ⟨c2, hv⟩
            have hmf := zMf_r f g (f 22 14) (g 3 x) (g 16 (zAlt y z i))
            iterate 5 (refine am_go rfl (by first | exact True.intro | omega | exact ⟨by decide, Nat.le_of_ble_eq_true rfl, Nat.le_of_ble_eq_true rfl⟩ | exact ⟨by decide, Nat.le_of_ble_eq_true rfl⟩) ?_)
            refine am_callv rfl (ct_lc _ _ _ ⟨hin, by omega⟩) (by decide) (Nat.le_of_ble_eq_true rfl) (Nat.le_of_ble_eq_true rfl) ?_
            rw [am_rw_c g w (by decide)]
            iterate 3 (refine am_go rfl (by first | exact True.intro | omega | exact ⟨by decide, Nat.le_of_ble_eq_true rfl, Nat.le_of_ble_eq_true rfl⟩ | exact ⟨by decide, Nat.le_of_ble_eq_true rfl⟩) ?_)
            refine am_callv rfl (ct_mf _ _ i7) (by decide) (Nat.le_of_ble_eq_true rfl) (Nat.le_of_ble_eq_true rfl) ?_
            rw [zMf_rw]
            iterate 12 (refine am_go rfl (by first | exact True.intro | omega | exact ⟨by decide, Nat.le_of_ble_eq_true rfl, Nat.le_of_ble_eq_true rfl⟩ | exact ⟨by decide, Nat.le_of_ble_eq_true rfl⟩) ?_)
            refine am_callv rfl (ct_stateBehind _ _ _ (by omega) ⟨hx.1, hxl⟩ (by omega) (by omega) (by rw [am_rw_c g w (by decide)]; exact hf.2.2)) (by decide) (Nat.le_of_ble_eq_true rfl) (Nat.le_of_ble_eq_true rfl) ?_
            rw [zBeh_rw]
            obtain ⟨b1, b2⟩ := hb (z + 1) (by omega) (by omega) hxl
            refine am_calln rfl (ct_offerB _ _ _ _ hst b1 b2 (by omega) (fun q0 => ?_)) (by decide) (Nat.le_of_ble_eq_true rfl) (Nat.le_of_ble_eq_true rfl) ?_
            · have h9 := h1 hxl _ rfl q0
              have e3 := am_rw_ne g w b2
              unfold zOk at h9 ⊢
              have e4 : am_rw g (zSt x y z) w 33 (zBeh g x y (z + 1) * 2) = g 33 (zBeh g x y (z + 1) * 2) := congrArg (fun u => u.1) e3
              have e5 : am_rw g (zSt x y z) w 33 (zBeh g x y (z + 1) * 2 + 1) = g 33 (zBeh g x y (z + 1) * 2 + 1) := congrArg (fun u => u.2.2.2.1) e3
              rw [e4, e5]
              exact h9
            · have e6 : ∀ ch cost, zOffB (am_rw g (zSt x y z) w) w ch cost (zBeh g x y (z + 1)) = zOffB g w ch cost (zBeh g x y (z + 1)) := by
                intro ch cost
                unfold zOffB
                rw [am_rw_ne g w b2]
              rw [am_rw_row, am_rw_rw, e6]
              exact next _ _ _ e
          iterate 3 (refine am_go rfl (by first | exact True.intro | omega | exact ⟨by decide, Nat.le_of_ble_eq_true rfl, Nat.le_of_ble_eq_true rfl⟩ | exact ⟨by decide, Nat.le_of_ble_eq_true rfl⟩) ?_)
          refine am_if rfl (fun c3 => ?_) (fun c3 => ?_)
          · exact fin (Or.inl c3)
          · iterate 3 (refine am_go rfl (by first | exact True.intro | omega | exact ⟨by decide, Nat.le_of_ble_eq_true rfl, Nat.le_of_ble_eq_true rfl⟩ | exact ⟨by decide, Nat.le_of_ble_eq_true rfl⟩) ?_)
            refine am_if rfl (fun c4 => ?_) (fun c4 => ?_)
            · exact next w _ _ (if_neg (fun q => by omega))
            · exact fin (Or.inr (by omega))
  refine am_enter ok_4_weigh rfl (by decide) (Nat.le_of_ble_eq_true rfl) rfl ?_
  iterate 3 (refine am_go rfl (by first | exact True.intro | omega | exact ⟨by decide, Nat.le_of_ble_eq_true rfl, Nat.le_of_ble_eq_true rfl⟩ | exact ⟨by decide, Nat.le_of_ble_eq_true rfl⟩) ?_)
  refine am_callv rfl (ct_stateOf _ _ _ (by omega) (by omega) (by omega)) (by decide) (Nat.le_of_ble_eq_true rfl) (Nat.le_of_ble_eq_true rfl) ?_
  show am_wp l dC dI tc mm4_weigh 2 58 58 _ 4 _ [.inl (zSt x y z)] _
  iterate 2 (refine am_go rfl (by first | exact True.intro | omega | exact ⟨by decide, Nat.le_of_ble_eq_true rfl, Nat.le_of_ble_eq_true rfl⟩ | exact ⟨by decide, Nat.le_of_ble_eq_true rfl⟩) ?_)
  refine am_if rfl (fun c1 => ?_) (fun c1 => ?_)
  · omega
  · iterate 2 (refine am_go rfl (by first | exact True.intro | omega | exact ⟨by decide, Nat.le_of_ble_eq_true rfl, Nat.le_of_ble_eq_true rfl⟩ | exact ⟨by decide, Nat.le_of_ble_eq_true rfl⟩) ?_)
    refine am_if rfl (fun c2 => ?_) (fun c2 => ?_)
    · iterate 20 (refine am_go rfl (by first | exact True.intro | omega | exact ⟨by decide, Nat.le_of_ble_eq_true rfl, Nat.le_of_ble_eq_true rfl⟩ | exact ⟨by decide, Nat.le_of_ble_eq_true rfl⟩) ?_)
      rw [am_w0 g (zSt x y z)]
      refine am_if rfl (fun c3 => ?_) (fun c3 => ?_)
      · have e : zW f g (f 22 14) x y z (zRow g (zSt x y z)) = zMs g (f 22 14) x y z (zLp f g (f 22 14) x y z (zNa g y z).toNat 0 (zW0 (zRow g (zSt x y z)))) := if_neg c3
        rw [e]
        have hxl : x < f 2 0 := by omega
        iterate 3 (refine am_go rfl (by first | exact True.intro | omega | exact ⟨by decide, Nat.le_of_ble_eq_true rfl, Nat.le_of_ble_eq_true rfl⟩ | exact ⟨by decide, Nat.le_of_ble_eq_true rfl⟩) ?_)
        refine am_callv rfl (ct_fk _ (by omega) ⟨hx.1, hxl⟩) (by decide) (Nat.le_of_ble_eq_true rfl) (Nat.le_of_ble_eq_true rfl) ?_
        rw [am_rw_c g _ (by decide)]
        iterate 5 (refine am_go rfl (by first | exact True.intro | omega | exact ⟨by decide, Nat.le_of_ble_eq_true rfl, Nat.le_of_ble_eq_true rfl⟩ | exact ⟨by decide, Nat.le_of_ble_eq_true rfl⟩) ?_)
        refine am_callv rfl (ct_alternativesAt _ _) (by decide) (Nat.le_of_ble_eq_true rfl) (Nat.le_of_ble_eq_true rfl) ?_
        rw [zNa_rw]
        iterate 3 (refine am_go rfl (by first | exact True.intro | omega | exact ⟨by decide, Nat.le_of_ble_eq_true rfl, Nat.le_of_ble_eq_true rfl⟩ | exact ⟨by decide, Nat.le_of_ble_eq_true rfl⟩) ?_)
        exact loop _ 0 _ none none hxl (by omega) (by omega) (by omega)
      · have c3 : x = f 2 0 := by omega
        have e : zW f g (f 22 14) x y z (zRow g (zSt x y z)) = _ := if_pos c3
        rw [e]
        iterate 9 (refine am_go rfl (by first | exact True.intro | omega | exact ⟨by decide, Nat.le_of_ble_eq_true rfl, Nat.le_of_ble_eq_true rfl⟩ | exact ⟨by decide, Nat.le_of_ble_eq_true rfl⟩) ?_)
        refine am_if rfl (fun c4 => ?_) (fun c4 => ?_)
        · iterate 2 (refine am_go rfl (by first | exact True.intro | omega | exact ⟨by decide, Nat.le_of_ble_eq_true rfl, Nat.le_of_ble_eq_true rfl⟩ | exact ⟨by decide, Nat.le_of_ble_eq_true rfl⟩) ?_)
          refine am_vret (x := 0) rfl rfl rfl ⟨rfl, ?_⟩
          rw [am_u3_rw, if_neg c4]
          rfl
        · iterate 3 (refine am_go rfl (by first | exact True.intro | omega | exact ⟨by decide, Nat.le_of_ble_eq_true rfl, Nat.le_of_ble_eq_true rfl⟩ | exact ⟨by decide, Nat.le_of_ble_eq_true rfl⟩) ?_)
          refine am_vret (x := 0) rfl rfl rfl ⟨rfl, ?_⟩
          rw [am_u3_rw, if_pos (by omega)]
          rfl
    · omega
end Wgh
end
section
/-! what trace writes into the candidate -/
/-- before part k: the index into the table, the line, the place, how many parts are there -/
def zTr (g : Nat → Int → Int) (rk : Int) : Nat → Int × Int × Int × Int
  | 0 => (rk, 0, 0, 0)
  | k + 1 =>
    let i := (zTr g rk k).1
    let y := (zTr g rk k).2.1
    let z := if g 34 i = 4 then (zTr g rk k).2.2.1 else (zTr g rk k).2.2.1 + 1
    let n := if g 34 i = 4 then (zTr g rk k).2.2.2 else (zTr g rk k).2.2.2 + 1
    if g 5 k = 0 ∨ z ≤ 0 then (zSt (k + 1) y z * 2 + g 35 i, y, z, n) else (zSt (k + 1) (y + 1) 0 * 2 + g 35 i, y + 1, 0, n)
/-- a row is walked within the table, and what it takes is there -/
def zTok (f : Nat → Nat → Int) (g : Nat → Int → Int) (rk : Int) : Prop := ∀ k : Nat, (k : Int) < f 2 0 → (0 ≤ (zTr g rk k).1 ∧ (zTr g rk k).1 < 840) ∧ (0 ≤ (zTr g rk k).2.1 ∧ (zTr g rk k).2.1 ≤ 6) ∧ (0 ≤ (zTr g rk k).2.2.1 ∧ (zTr g rk k).2.2.1 ≤ 5) ∧
  (0 ≤ g 35 (zTr g rk k).1 ∧ g 35 (zTr g rk k).1 ≤ 1) ∧ (g 34 (zTr g rk k).1 ≠ 4 → ((0 ≤ (zTr g rk k).2.1 ∧ (zTr g rk k).2.1 < 6) ∧ 0 ≤ (zTr g rk k).2.2.1 ∧ (zTr g rk k).2.2.1 < 5) ∧ 0 ≤ g 34 (zTr g rk k).1 ∧ g 34 (zTr g rk k).1 < 4) ∧ ((zTr g rk k).2.1 = 6 → (zTr g rk k).2.2.1 = 0)
/-- the first n parts stand in the reading at the cell q (told by the heap g0) -/
def zRdN (g0 : Nat → Int → Int) (rk : Int) (f : Nat → Nat → Int) (g : Nat → Int → Int) (q : Nat) (n : Nat) : Prop :=
  f q 1 = g0 33 rk ∧ f q 2 = n ∧ f q 0 = (zTr g0 rk n).2.2.2 ∧ (∀ k : Nat, k < n → g (q + 1) k = g0 34 (zTr g0 rk k).1) ∧
  (∀ k : Nat, k < n → g0 34 (zTr g0 rk k).1 ≠ 4 → g (q + 2) ((zTr g0 rk k).2.2.2 * 5) = g0 3 k ∧ g (q + 2) ((zTr g0 rk k).2.2.2 * 5 + 1) = (zTr g0 rk k).2.1 ∧ g (q + 2) ((zTr g0 rk k).2.2.2 * 5 + 2) = (zTr g0 rk k).2.2.1 ∧ g (q + 2) ((zTr g0 rk k).2.2.2 * 5 + 3) = g0 16 (zAlt (zTr g0 rk k).2.1 (zTr g0 rk k).2.2.1 (g0 34 (zTr g0 rk k).1)) ∧ g (q + 2) ((zTr g0 rk k).2.2.2 * 5 + 4) = g0 34 (zTr g0 rk k).1)
/-- nothing has changed but one reading -/
def zFrR (q : Nat) (f g0f : Nat → Nat → Int) (g g0 : Nat → Int → Int) : Prop := (∀ x j, x ≠ q → f x j = g0f x j) ∧ ∀ x j, x ≠ q + 1 → x ≠ q + 2 → g x j = g0 x j
theorem zTr_n (g : Nat → Int → Int) (rk : Int) : ∀ k : Nat, 0 ≤ (zTr g rk k).2.2.2 ∧ (zTr g rk k).2.2.2 ≤ k := by
  intro k
  induction k with
  | zero => simp [zTr]
  | succ k ih =>
    simp only [zTr]
    split <;> split <;> simp only [] <;> omega
theorem zTr_mono (g : Nat → Int → Int) (rk : Int) : ∀ j k : Nat, j < k → g 34 (zTr g rk j).1 ≠ 4 → (zTr g rk j).2.2.2 < (zTr g rk k).2.2.2 := by
  intro j k
  induction k with
  | zero => intro h; omega
  | succ k ih =>
    intro h hj
    have e : (zTr g rk (k + 1)).2.2.2 = if g 34 (zTr g rk k).1 = 4 then (zTr g rk k).2.2.2 else (zTr g rk k).2.2.2 + 1 := by
      simp only [zTr]
      split <;> split <;> rfl
    rw [e]
    by_cases hk : j = k
    · subst hk
      rw [if_neg hj]
      omega
    · have := ih (by omega) hj
      split <;> omega
theorem zTr_y (g : Nat → Int → Int) (rk : Int) (k : Nat) : zTr g rk (k + 1) = if g 5 k = 0 ∨ (if g 34 (zTr g rk k).1 = 4 then (zTr g rk k).2.2.1 else (zTr g rk k).2.2.1 + 1) ≤ 0 then (zSt (k + 1) (zTr g rk k).2.1 (if g 34 (zTr g rk k).1 = 4 then (zTr g rk k).2.2.1 else (zTr g rk k).2.2.1 + 1) * 2 + g 35 (zTr g rk k).1, (zTr g rk k).2.1, (if g 34 (zTr g rk k).1 = 4 then (zTr g rk k).2.2.1 else (zTr g rk k).2.2.1 + 1), (if g 34 (zTr g rk k).1 = 4 then (zTr g rk k).2.2.2 else (zTr g rk k).2.2.2 + 1)) else (zSt (k + 1) ((zTr g rk k).2.1 + 1) 0 * 2 + g 35 (zTr g rk k).1, (zTr g rk k).2.1 + 1, 0, (if g 34 (zTr g rk k).1 = 4 then (zTr g rk k).2.2.2 else (zTr g rk k).2.2.2 + 1)) := rfl
theorem zTr_c (g : Nat → Int → Int) (rk : Int) (k : Nat) : (zTr g rk (k + 1)).2.2.2 = if g 34 (zTr g rk k).1 = 4 then (zTr g rk k).2.2.2 else (zTr g rk k).2.2.2 + 1 := by
  rw [zTr_y]
  split <;> split <;> rfl
theorem zRd_miss {g0 : Nat → Int → Int} {rk : Int} {f f' : Nat → Nat → Int} {g g' : Nat → Int → Int} {q n : Nat} (h : zRdN g0 rk f g q n) (hc : g0 34 (zTr g0 rk n).1 = 4)
    (h1 : f' q 1 = f q 1) (h2 : f' q 2 = f q 2 + 1) (h0 : f' q 0 = f q 0) (hg : ∀ j : Int, g' (q + 1) j = if j = f q 2 then 4 else g (q + 1) j) (hg2 : ∀ j, g' (q + 2) j = g (q + 2) j) : zRdN g0 rk f' g' q (n + 1) := by
  obtain ⟨a1, a2, a3, a4, a5⟩ := h
  refine ⟨by rw [h1, a1], by rw [h2, a2]; rfl, ?_, fun k hk => ?_, fun k hk hk4 => ?_⟩
  · rw [h0, a3, zTr_c, if_pos hc]
  · rw [hg, a2]
    by_cases e : k = n
    · subst e
      rw [if_pos rfl, hc]
    · rw [if_neg (by omega)]
      exact a4 k (by omega)
  · have e : k ≠ n := fun e => hk4 (by rw [e]; exact hc)
    simp only [hg2]
    exact a5 k (by omega) hk4
theorem zRd_take {g0 : Nat → Int → Int} {rk : Int} {f f' : Nat → Nat → Int} {g g' : Nat → Int → Int} {q n : Nat} (h : zRdN g0 rk f g q n) (hc : g0 34 (zTr g0 rk n).1 ≠ 4)
    (h1 : f' q 1 = f q 1) (h2 : f' q 2 = f q 2 + 1) (h0 : f' q 0 = f q 0 + 1) (hg : ∀ j : Int, g' (q + 1) j = if j = f q 2 then g0 34 (zTr g0 rk n).1 else g (q + 1) j)
    (hg2 : ∀ j : Int, j < f q 0 * 5 → g' (q + 2) j = g (q + 2) j) (w0 : g' (q + 2) (f q 0 * 5) = g0 3 n) (w1 : g' (q + 2) (f q 0 * 5 + 1) = (zTr g0 rk n).2.1) (w2 : g' (q + 2) (f q 0 * 5 + 2) = (zTr g0 rk n).2.2.1)
    (w3 : g' (q + 2) (f q 0 * 5 + 3) = g0 16 (zAlt (zTr g0 rk n).2.1 (zTr g0 rk n).2.2.1 (g0 34 (zTr g0 rk n).1))) (w4 : g' (q + 2) (f q 0 * 5 + 4) = g0 34 (zTr g0 rk n).1) : zRdN g0 rk f' g' q (n + 1) := by
  obtain ⟨a1, a2, a3, a4, a5⟩ := h
  refine ⟨by rw [h1, a1], by rw [h2, a2]; rfl, ?_, fun k hk => ?_, fun k hk hk4 => ?_⟩
  · rw [h0, a3, zTr_c, if_neg hc]
  · rw [hg, a2]
    by_cases e : k = n
    · subst e
      rw [if_pos rfl]
    · rw [if_neg (by omega)]
      exact a4 k (by omega)
  · by_cases e : k = n
    · subst e
      rw [← a3]
      exact ⟨w0, w1, w2, w3, w4⟩
    · have hm := zTr_mono g0 rk k n (by omega) hk4
      rw [hg2 _ (by omega), hg2 _ (by omega), hg2 _ (by omega), hg2 _ (by omega), hg2 _ (by omega)]
      exact a5 k (by omega) hk4
section Trc
variable {l : Launch} {dC : Nat → ClassId} {dI : Nat → Nat → Nat} {tc : Nat → ClassId} {f : Nat → Nat → Int} {g : Nat → Int → Int} {a b : Nat}
set_option maxRecDepth 100000 in
set_option maxHeartbeats 4000000 in
theorem ct_trace23 (rk : Int) (hI : zI f g) (hr : 0 ≤ rk ∧ rk < 2) (ht : zTok f g rk) : am_Ct l dC dI tc mm4_trace 2 58 [(.inr (.inr (some 22))), .inl rk] (58, f, g, pr_r a b 23) (fun r t => r = none ∧ ∃ f' g', t = (58, f', g', pr_r a b 23) ∧ zRdN g rk f' g' 23 (f 2 0).toNat ∧ zFrR 23 f' f g' g) := by
  have hI2 := hI
  obtain ⟨i1, i2, i3, i4, i5, i6, i7⟩ := hI2
  have loop : ∀ (n k : Nat) (F : Nat → Nat → Int) (G : Nat → Int → Int) (o6 o7 : Option Int), (k : Int) ≤ f 2 0 → (f 2 0).toNat - k = n → zRdN g rk F G 23 k → zFrR 23 F f G g → am_wp l dC dI tc mm4_trace 2 58 58 (fun r t => r = none ∧ ∃ f' g', t = (58, f', g', pr_r a b 23) ∧ zRdN g rk f' g' 23 (f 2 0).toNat ∧ zFrR 23 f' f g' g) 21 [some (.inr (.inr (some 22))), some (.inl rk), some (.inl ((zTr g rk k).1)), some (.inl ((zTr g rk k).2.1)), some (.inl ((zTr g rk k).2.2.1)), some (.inl ((k : Int))), o6.map Sum.inl, o7.map Sum.inl] [] (58, F, G, pr_r a b 23) := by
    intro n
    induction n with
    | zero =>
      intro k F G o6 o7 hk hn hR hF
      have e20 : F 2 0 = f 2 0 := hF.1 2 0 (by decide)
      iterate 4 (refine am_go rfl (by first | exact True.intro | omega | exact ⟨by decide, Nat.le_of_ble_eq_true rfl, Nat.le_of_ble_eq_true rfl⟩ | exact ⟨by decide, Nat.le_of_ble_eq_true rfl⟩) ?_)
      rw [e20]
      refine am_if rfl (fun c1 => ?_) (fun c1 => ?_)
      · have e : k = (f 2 0).toNat := by omega
        subst e
        exact am_vret (x := 0) rfl rfl rfl ⟨rfl, F, G, rfl, hR, hF⟩
      · omega
    | succ n ih =>
      intro k F G o6 o7 hk hn hR hF
      have hkl : (k : Int) < f 2 0 := by omega
      obtain ⟨t1, t2, t3, t4, t5, t6⟩ := ht k hkl
      have hf5 := (i2 k (by omega) hkl).2.2
      have e20 : F 2 0 = f 2 0 := hF.1 2 0 (by decide)
      have e34 : ∀ j, G 34 j = g 34 j := fun j => hF.2 34 j (by decide) (by decide)
      have e35 : ∀ j, G 35 j = g 35 j := fun j => hF.2 35 j (by decide) (by decide)
      have tail : ∀ (F' : Nat → Nat → Int) (G' : Nat → Int → Int) (z' : Int), zRdN g rk F' G' 23 (k + 1) → zFrR 23 F' f G' g → z' = (if g 34 (zTr g rk k).1 = 4 then (zTr g rk k).2.2.1 else (zTr g rk k).2.2.1 + 1) → am_wp l dC dI tc mm4_trace 2 58 58 (fun r t => r = none ∧ ∃ f' g', t = (58, f', g', pr_r a b 23) ∧ zRdN g rk f' g' 23 (f 2 0).toNat ∧ zFrR 23 f' f g' g) 66 [some (.inr (.inr (some 22))), some (.inl rk), some (.inl ((zTr g rk k).1)), some (.inl ((zTr g rk k).2.1)), some (.inl (z')), some (.inl ((k : Int))), some (.inl (g 34 (zTr g rk k).1)), some (.inl (g 35 (zTr g rk k).1))] [] (58, F', G', pr_r a b 23) := by
        intro F' G' z' hR' hF' hz'
        have hzr : 0 ≤ z' ∧ z' ≤ 6 := by rw [hz']; split <;> omega
        have e20' : F' 2 0 = f 2 0 := hF'.1 2 0 (by decide)
        have e5' : ∀ j, G' 5 j = g 5 j := fun j => hF'.2 5 j (by decide) (by decide)
        have fin : ∀ (y' z2 : Int), zTr g rk (k + 1) = (zSt (k + 1) y' z2 * 2 + g 35 (zTr g rk k).1, y', z2, (zTr g rk (k + 1)).2.2.2) → 0 ≤ y' ∧ y' ≤ 7 → 0 ≤ z2 ∧ z2 ≤ 6 → am_wp l dC dI tc mm4_trace 2 58 58 (fun r t => r = none ∧ ∃ f' g', t = (58, f', g', pr_r a b 23) ∧ zRdN g rk f' g' 23 (f 2 0).toNat ∧ zFrR 23 f' f g' g) 76 [some (.inr (.inr (some 22))), some (.inl rk), some (.inl ((zTr g rk k).1)), some (.inl (y')), some (.inl (z2)), some (.inl ((k : Int))), some (.inl (g 34 (zTr g rk k).1)), some (.inl (g 35 (zTr g rk k).1))] [] (58, F', G', pr_r a b 23) := by
          intro y' z2 e hy hz2
          iterate 5 (refine am_go rfl (by first | exact True.intro | omega | exact ⟨by decide, Nat.le_of_ble_eq_true rfl, Nat.le_of_ble_eq_true rfl⟩ | exact ⟨by decide, Nat.le_of_ble_eq_true rfl⟩) ?_)
          refine am_callv rfl (ct_stateOf _ _ _ (by omega) (by omega) (by omega)) (by decide) (Nat.le_of_ble_eq_true rfl) (Nat.le_of_ble_eq_true rfl) ?_
          iterate 7 (refine am_go rfl (by first | exact True.intro | omega | exact ⟨by decide, Nat.le_of_ble_eq_true rfl, Nat.le_of_ble_eq_true rfl⟩ | exact ⟨by decide, Nat.le_of_ble_eq_true rfl⟩) ?_)
          have h9 := ih (k + 1) F' G' (some (g 34 (zTr g rk k).1)) (some (g 35 (zTr g rk k).1)) (by omega) (by omega) hR' hF'
          rw [e] at h9
          exact h9
        iterate 3 (refine am_go rfl (by first | exact True.intro | omega | exact ⟨by decide, Nat.le_of_ble_eq_true rfl, Nat.le_of_ble_eq_true rfl⟩ | exact ⟨by decide, Nat.le_of_ble_eq_true rfl⟩) ?_)
        refine am_callv rfl (ct_endsRow _ (by omega) (by omega) (by rw [e5']; exact hf5)) (by decide) (Nat.le_of_ble_eq_true rfl) (Nat.le_of_ble_eq_true rfl) ?_
        rw [e5']
        refine am_if rfl (fun c1 => ?_) (fun c1 => ?_)
        · refine fin _ _ ?_ (by omega) (by omega)
          rw [zTr_y, if_pos (Or.inl c1), ← hz']
        · (refine am_go rfl (by first | exact True.intro | omega | exact ⟨by decide, Nat.le_of_ble_eq_true rfl, Nat.le_of_ble_eq_true rfl⟩ | exact ⟨by decide, Nat.le_of_ble_eq_true rfl⟩) ?_)
          refine am_if rfl (fun c2 => ?_) (fun c2 => ?_)
          · refine fin _ _ ?_ (by omega) (by omega)
            rw [zTr_y, if_pos (by rw [← hz']; exact Or.inr c2), ← hz']
          · iterate 3 (refine am_go rfl (by first | exact True.intro | omega | exact ⟨by decide, Nat.le_of_ble_eq_true rfl, Nat.le_of_ble_eq_true rfl⟩ | exact ⟨by decide, Nat.le_of_ble_eq_true rfl⟩) ?_)
            refine fin _ _ ?_ (by omega) (by omega)
            rw [zTr_y, if_neg (by rw [← hz']; exact fun u => u.elim c1 c2)]
      iterate 4 (refine am_go rfl (by first | exact True.intro | omega | exact ⟨by decide, Nat.le_of_ble_eq_true rfl, Nat.le_of_ble_eq_true rfl⟩ | exact ⟨by decide, Nat.le_of_ble_eq_true rfl⟩) ?_)
      rw [e20]
      refine am_if rfl (fun c1 => ?_) (fun c1 => ?_)
      · omega
      · (refine am_go rfl (by first | exact True.intro | omega | exact ⟨by decide, Nat.le_of_ble_eq_true rfl, Nat.le_of_ble_eq_true rfl⟩ | exact ⟨by decide, Nat.le_of_ble_eq_true rfl⟩) ?_)
        refine am_if rfl (fun c2 => ?_) (fun c2 => ?_)
        · omega
        · iterate 4 (refine am_go rfl (by first | exact True.intro | omega | exact ⟨by decide, Nat.le_of_ble_eq_true rfl, Nat.le_of_ble_eq_true rfl⟩ | exact ⟨by decide, Nat.le_of_ble_eq_true rfl⟩) ?_)
          refine am_if rfl (fun c3 => ?_) (fun c3 => ?_)
          · omega
          · iterate 4 (refine am_go rfl (by first | exact True.intro | omega | exact ⟨by decide, Nat.le_of_ble_eq_true rfl, Nat.le_of_ble_eq_true rfl⟩ | exact ⟨by decide, Nat.le_of_ble_eq_true rfl⟩) ?_)
            rw [e34]
            iterate 5 (refine am_go rfl (by first | exact True.intro | omega | exact ⟨by decide, Nat.le_of_ble_eq_true rfl, Nat.le_of_ble_eq_true rfl⟩ | exact ⟨by decide, Nat.le_of_ble_eq_true rfl⟩) ?_)
            rw [e35]
            iterate 4 (refine am_go rfl (by first | exact True.intro | omega | exact ⟨by decide, Nat.le_of_ble_eq_true rfl, Nat.le_of_ble_eq_true rfl⟩ | exact ⟨by decide, Nat.le_of_ble_eq_true rfl⟩) ?_)
            have hk2 : F 23 2 = k := hR.2.1
            have hk0 : F 23 0 = (zTr g rk k).2.2.2 := hR.2.2.1
            have hcn := zTr_n g rk k
            refine am_calln rfl (ct_choose 23 (by decide) (g 34 (zTr g rk k).1) (by omega)) (by decide) (Nat.le_of_ble_eq_true rfl) (Nat.le_of_ble_eq_true rfl) ?_
            iterate 2 (refine am_go rfl (by first | exact True.intro | omega | exact ⟨by decide, Nat.le_of_ble_eq_true rfl, Nat.le_of_ble_eq_true rfl⟩ | exact ⟨by decide, Nat.le_of_ble_eq_true rfl⟩) ?_)
            refine am_if rfl (fun c4 => ?_) (fun c4 => ?_)
            · refine tail _ _ _ (zRd_miss hR c4 (am_u1_j (by decide)) am_u1_s (am_u1_j (by decide)) (fun j => ?_) (fun j => am_u3_c (by decide))) ⟨fun x j hx => ?_, fun x j hx hx2 => ?_⟩ (by rw [if_pos c4])
              · rw [c4]
                by_cases u : j = F 23 2
                · rw [if_pos u, u, am_u3_s]
                · rw [if_neg u, am_u3_j u]
              · rw [am_u1_c hx]
                exact hF.1 x j hx
              · rw [am_u3_c hx]
                exact hF.2 x j hx hx2
            · obtain ⟨t7, t8⟩ := t5 c4
              iterate 5 (refine am_go rfl (by first | exact True.intro | omega | exact ⟨by decide, Nat.le_of_ble_eq_true rfl, Nat.le_of_ble_eq_true rfl⟩ | exact ⟨by decide, Nat.le_of_ble_eq_true rfl⟩) ?_)
              refine am_callv rfl (ct_fk _ (by rw [am_u1_c (by decide), e20]; omega) (by rw [am_u1_c (by decide), e20]; omega)) (by decide) (Nat.le_of_ble_eq_true rfl) (Nat.le_of_ble_eq_true rfl) ?_
              rw [am_u3_c (by decide), hF.2 3 _ (by decide) (by decide)]
              iterate 7 (refine am_go rfl (by first | exact True.intro | omega | exact ⟨by decide, Nat.le_of_ble_eq_true rfl, Nat.le_of_ble_eq_true rfl⟩ | exact ⟨by decide, Nat.le_of_ble_eq_true rfl⟩) ?_)
              refine am_callv rfl (ct_lv _ _ _ ⟨t7, t8⟩) (by decide) (Nat.le_of_ble_eq_true rfl) (Nat.le_of_ble_eq_true rfl) ?_
              rw [am_u3_c (by decide), hF.2 16 _ (by decide) (by decide)]
              have u0 : am_u1 F 23 2 (F 23 2 + 1) 23 0 = F 23 0 := am_u1_j (by decide)
              have u2 : am_u1 F 23 2 (F 23 2 + 1) 23 2 = F 23 2 + 1 := am_u1_s
              refine am_calln rfl (ct_addPart 23 (by decide) _ _ _ _ (by rw [u0]; omega) (by rw [u2]; omega)) (by decide) (Nat.le_of_ble_eq_true rfl) (Nat.le_of_ble_eq_true rfl) ?_
              rw [u0, u2]
              (refine am_go rfl (by first | exact True.intro | omega | exact ⟨by decide, Nat.le_of_ble_eq_true rfl, Nat.le_of_ble_eq_true rfl⟩ | exact ⟨by decide, Nat.le_of_ble_eq_true rfl⟩) ?_)
              have u3 : am_u3 G (23 + 1) (F 23 2) (g 34 (zTr g rk k).1) (23 + 1) (F 23 2 + 1 - 1) = g 34 (zTr g rk k).1 := by
                rw [show F 23 2 + 1 - 1 = F 23 2 by omega, am_u3_s]
              rw [u3]
              refine tail _ _ _ (zRd_take hR c4 ?_ ?_ ?_ (fun j => ?_) (fun j hj => ?_) ?_ ?_ ?_ ?_ ?_) ⟨fun x j hx => ?_, fun x j hx hx2 => ?_⟩ (by rw [if_neg c4])
              · rw [am_u1_j (by decide), am_u1_j (by decide)]
              · rw [am_u1_j (by decide), am_u1_s]
              · rw [am_u1_s]
              · rw [am_u3_c (by decide), am_u3_c (by decide), am_u3_c (by decide), am_u3_c (by decide), am_u3_c (by decide)]
                by_cases u : j = F 23 2
                · rw [if_pos u, u, am_u3_s]
                · rw [if_neg u, am_u3_j u]
              · rw [am_u3_j (by omega), am_u3_j (by omega), am_u3_j (by omega), am_u3_j (by omega), am_u3_j (by omega), am_u3_c (by decide)]
              · rw [am_u3_j (by omega), am_u3_j (by omega), am_u3_j (by omega), am_u3_j (by omega), am_u3_s]
              · rw [am_u3_j (by omega), am_u3_j (by omega), am_u3_j (by omega), am_u3_s]
              · rw [am_u3_j (by omega), am_u3_j (by omega), am_u3_s]
              · rw [am_u3_j (by omega), am_u3_s]
              · rw [am_u3_s]
              · rw [am_u1_c hx, am_u1_c hx]
                exact hF.1 x j hx
              · rw [am_u3_c hx2, am_u3_c hx2, am_u3_c hx2, am_u3_c hx2, am_u3_c hx2, am_u3_c hx]
                exact hF.2 x j hx hx2
  refine am_enter ok_4_trace rfl (by decide) (Nat.le_of_ble_eq_true rfl) rfl ?_
  (refine am_go rfl (by first | exact True.intro | omega | exact ⟨by decide, Nat.le_of_ble_eq_true rfl, Nat.le_of_ble_eq_true rfl⟩ | exact ⟨by decide, Nat.le_of_ble_eq_true rfl⟩) ?_)
  refine am_if rfl (fun c1 => ?_) (fun c1 => ?_)
  · omega
  · iterate 2 (refine am_go rfl (by first | exact True.intro | omega | exact ⟨by decide, Nat.le_of_ble_eq_true rfl, Nat.le_of_ble_eq_true rfl⟩ | exact ⟨by decide, Nat.le_of_ble_eq_true rfl⟩) ?_)
    refine am_if rfl (fun c2 => ?_) (fun c2 => ?_)
    · iterate 6 (refine am_go rfl (by first | exact True.intro | omega | exact ⟨by decide, Nat.le_of_ble_eq_true rfl, Nat.le_of_ble_eq_true rfl⟩ | exact ⟨by decide, Nat.le_of_ble_eq_true rfl⟩) ?_)
      refine am_calln rfl (ct_begin 23 (by decide) _) (by decide) (Nat.le_of_ble_eq_true rfl) (Nat.le_of_ble_eq_true rfl) ?_
      iterate 8 (refine am_go rfl (by first | exact True.intro | omega | exact ⟨by decide, Nat.le_of_ble_eq_true rfl, Nat.le_of_ble_eq_true rfl⟩ | exact ⟨by decide, Nat.le_of_ble_eq_true rfl⟩) ?_)
      refine loop _ 0 _ _ none none (by omega) rfl ⟨?_, ?_, ?_, fun k hk => by omega, fun k hk => by omega⟩ ⟨fun x j hx => ?_, fun x j hx hx2 => rfl⟩
      · rw [am_u1_j (by decide), am_u1_s]
      · rw [am_u1_s]; rfl
      · rw [am_u1_j (by decide), am_u1_j (by decide), am_u1_s]; rfl
      · rw [am_u1_c hx, am_u1_c hx, am_u1_c hx]
    · omega
set_option maxRecDepth 100000 in
set_option maxHeartbeats 4000000 in
theorem ct_trace26 (rk : Int) (hI : zI f g) (hr : 0 ≤ rk ∧ rk < 2) (ht : zTok f g rk) : am_Ct l dC dI tc mm4_trace 2 58 [(.inr (.inr (some 22))), .inl rk] (58, f, g, pr_r a b 26) (fun r t => r = none ∧ ∃ f' g', t = (58, f', g', pr_r a b 26) ∧ zRdN g rk f' g' 26 (f 2 0).toNat ∧ zFrR 26 f' f g' g) := by
  have hI2 := hI
  obtain ⟨i1, i2, i3, i4, i5, i6, i7⟩ := hI2
  have loop : ∀ (n k : Nat) (F : Nat → Nat → Int) (G : Nat → Int → Int) (o6 o7 : Option Int), (k : Int) ≤ f 2 0 → (f 2 0).toNat - k = n → zRdN g rk F G 26 k → zFrR 26 F f G g → am_wp l dC dI tc mm4_trace 2 58 58 (fun r t => r = none ∧ ∃ f' g', t = (58, f', g', pr_r a b 26) ∧ zRdN g rk f' g' 26 (f 2 0).toNat ∧ zFrR 26 f' f g' g) 21 [some (.inr (.inr (some 22))), some (.inl rk), some (.inl ((zTr g rk k).1)), some (.inl ((zTr g rk k).2.1)), some (.inl ((zTr g rk k).2.2.1)), some (.inl ((k : Int))), o6.map Sum.inl, o7.map Sum.inl] [] (58, F, G, pr_r a b 26) := by
    intro n
    induction n with
    | zero =>
      intro k F G o6 o7 hk hn hR hF
      have e20 : F 2 0 = f 2 0 := hF.1 2 0 (by decide)
      iterate 4 (refine am_go rfl (by first | exact True.intro | omega | exact ⟨by decide, Nat.le_of_ble_eq_true rfl, Nat.le_of_ble_eq_true rfl⟩ | exact ⟨by decide, Nat.le_of_ble_eq_true rfl⟩) ?_)
      rw [e20]
      refine am_if rfl (fun c1 => ?_) (fun c1 => ?_)
      · have e : k = (f 2 0).toNat := by omega
        subst e
        exact am_vret (x := 0) rfl rfl rfl ⟨rfl, F, G, rfl, hR, hF⟩
      · omega
    | succ n ih =>
      intro k F G o6 o7 hk hn hR hF
      have hkl : (k : Int) < f 2 0 := by omega
      obtain ⟨t1, t2, t3, t4, t5, t6⟩ := ht k hkl
      have hf5 := (i2 k (by omega) hkl).2.2
      have e20 : F 2 0 = f 2 0 := hF.1 2 0 (by decide)
      have e34 : ∀ j, G 34 j = g 34 j := fun j => hF.2 34 j (by decide) (by decide)
      have e35 : ∀ j, G 35 j = g 35 j := fun j => hF.2 35 j (by decide) (by decide)
      have tail : ∀ (F' : Nat → Nat → Int) (G' : Nat → Int → Int) (z' : Int), zRdN g rk F' G' 26 (k + 1) → zFrR 26 F' f G' g → z' = (if g 34 (zTr g rk k).1 = 4 then (zTr g rk k).2.2.1 else (zTr g rk k).2.2.1 + 1) → am_wp l dC dI tc mm4_trace 2 58 58 (fun r t => r = none ∧ ∃ f' g', t = (58, f', g', pr_r a b 26) ∧ zRdN g rk f' g' 26 (f 2 0).toNat ∧ zFrR 26 f' f g' g) 66 [some (.inr (.inr (some 22))), some (.inl rk), some (.inl ((zTr g rk k).1)), some (.inl ((zTr g rk k).2.1)), some (.inl (z')), some (.inl ((k : Int))), some (.inl (g 34 (zTr g rk k).1)), some (.inl (g 35 (zTr g rk k).1))] [] (58, F', G', pr_r a b 26) := by
        intro F' G' z' hR' hF' hz'
        have hzr : 0 ≤ z' ∧ z' ≤ 6 := by rw [hz']; split <;> omega
        have e20' : F' 2 0 = f 2 0 := hF'.1 2 0 (by decide)
        have e5' : ∀ j, G' 5 j = g 5 j := fun j => hF'.2 5 j (by decide) (by decide)
        have fin : ∀ (y' z2 : Int), zTr g rk (k + 1) = (zSt (k + 1) y' z2 * 2 + g 35 (zTr g rk k).1, y', z2, (zTr g rk (k + 1)).2.2.2) → 0 ≤ y' ∧ y' ≤ 7 → 0 ≤ z2 ∧ z2 ≤ 6 → am_wp l dC dI tc mm4_trace 2 58 58 (fun r t => r = none ∧ ∃ f' g', t = (58, f', g', pr_r a b 26) ∧ zRdN g rk f' g' 26 (f 2 0).toNat ∧ zFrR 26 f' f g' g) 76 [some (.inr (.inr (some 22))), some (.inl rk), some (.inl ((zTr g rk k).1)), some (.inl (y')), some (.inl (z2)), some (.inl ((k : Int))), some (.inl (g 34 (zTr g rk k).1)), some (.inl (g 35 (zTr g rk k).1))] [] (58, F', G', pr_r a b 26) := by
          intro y' z2 e hy hz2
          iterate 5 (refine am_go rfl (by first | exact True.intro | omega | exact ⟨by decide, Nat.le_of_ble_eq_true rfl, Nat.le_of_ble_eq_true rfl⟩ | exact ⟨by decide, Nat.le_of_ble_eq_true rfl⟩) ?_)
          refine am_callv rfl (ct_stateOf _ _ _ (by omega) (by omega) (by omega)) (by decide) (Nat.le_of_ble_eq_true rfl) (Nat.le_of_ble_eq_true rfl) ?_
          iterate 7 (refine am_go rfl (by first | exact True.intro | omega | exact ⟨by decide, Nat.le_of_ble_eq_true rfl, Nat.le_of_ble_eq_true rfl⟩ | exact ⟨by decide, Nat.le_of_ble_eq_true rfl⟩) ?_)
          have h9 := ih (k + 1) F' G' (some (g 34 (zTr g rk k).1)) (some (g 35 (zTr g rk k).1)) (by omega) (by omega) hR' hF'
          rw [e] at h9
          exact h9
        iterate 3 (refine am_go rfl (by first | exact True.intro | omega | exact ⟨by decide, Nat.le_of_ble_eq_true rfl, Nat.le_of_ble_eq_true rfl⟩ | exact ⟨by decide, Nat.le_of_ble_eq_true rfl⟩) ?_)
        refine am_callv rfl (ct_endsRow _ (by omega) (by omega) (by rw [e5']; exact hf5)) (by decide) (Nat.le_of_ble_eq_true rfl) (Nat.le_of_ble_eq_true rfl) ?_
        rw [e5']
        refine am_if rfl (fun c1 => ?_) (fun c1 => ?_)
        · refine fin _ _ ?_ (by omega) (by omega)
          rw [zTr_y, if_pos (Or.inl c1), ← hz']
        · (refine am_go rfl (by first | exact True.intro | omega | exact ⟨by decide, Nat.le_of_ble_eq_true rfl, Nat.le_of_ble_eq_true rfl⟩ | exact ⟨by decide, Nat.le_of_ble_eq_true rfl⟩) ?_)
          refine am_if rfl (fun c2 => ?_) (fun c2 => ?_)
          · refine fin _ _ ?_ (by omega) (by omega)
            rw [zTr_y, if_pos (by rw [← hz']; exact Or.inr c2), ← hz']
          · iterate 3 (refine am_go rfl (by first | exact True.intro | omega | exact ⟨by decide, Nat.le_of_ble_eq_true rfl, Nat.le_of_ble_eq_true rfl⟩ | exact ⟨by decide, Nat.le_of_ble_eq_true rfl⟩) ?_)
            refine fin _ _ ?_ (by omega) (by omega)
            rw [zTr_y, if_neg (by rw [← hz']; exact fun u => u.elim c1 c2)]
      iterate 4 (refine am_go rfl (by first | exact True.intro | omega | exact ⟨by decide, Nat.le_of_ble_eq_true rfl, Nat.le_of_ble_eq_true rfl⟩ | exact ⟨by decide, Nat.le_of_ble_eq_true rfl⟩) ?_)
      rw [e20]
      refine am_if rfl (fun c1 => ?_) (fun c1 => ?_)
      · omega
      · (refine am_go rfl (by first | exact True.intro | omega | exact ⟨by decide, Nat.le_of_ble_eq_true rfl, Nat.le_of_ble_eq_true rfl⟩ | exact ⟨by decide, Nat.le_of_ble_eq_true rfl⟩) ?_)
        refine am_if rfl (fun c2 => ?_) (fun c2 => ?_)
        · omega
        · iterate 4 (refine am_go rfl (by first | exact True.intro | omega | exact ⟨by decide, Nat.le_of_ble_eq_true rfl, Nat.le_of_ble_eq_true rfl⟩ | exact ⟨by decide, Nat.le_of_ble_eq_true rfl⟩) ?_)
          refine am_if rfl (fun c3 => ?_) (fun c3 => ?_)
          · omega
          · iterate 4 (refine am_go rfl (by first | exact True.intro | omega | exact ⟨by decide, Nat.le_of_ble_eq_true rfl, Nat.le_of_ble_eq_true rfl⟩ | exact ⟨by decide, Nat.le_of_ble_eq_true rfl⟩) ?_)
            rw [e34]
            iterate 5 (refine am_go rfl (by first | exact True.intro | omega | exact ⟨by decide, Nat.le_of_ble_eq_true rfl, Nat.le_of_ble_eq_true rfl⟩ | exact ⟨by decide, Nat.le_of_ble_eq_true rfl⟩) ?_)
            rw [e35]
            iterate 4 (refine am_go rfl (by first | exact True.intro | omega | exact ⟨by decide, Nat.le_of_ble_eq_true rfl, Nat.le_of_ble_eq_true rfl⟩ | exact ⟨by decide, Nat.le_of_ble_eq_true rfl⟩) ?_)
            have hk2 : F 26 2 = k := hR.2.1
            have hk0 : F 26 0 = (zTr g rk k).2.2.2 := hR.2.2.1
            have hcn := zTr_n g rk k
            refine am_calln rfl (ct_choose 26 (by decide) (g 34 (zTr g rk k).1) (by omega)) (by decide) (Nat.le_of_ble_eq_true rfl) (Nat.le_of_ble_eq_true rfl) ?_
            iterate 2 (refine am_go rfl (by first | exact True.intro | omega | exact ⟨by decide, Nat.le_of_ble_eq_true rfl, Nat.le_of_ble_eq_true rfl⟩ | exact ⟨by decide, Nat.le_of_ble_eq_true rfl⟩) ?_)
            refine am_if rfl (fun c4 => ?_) (fun c4 => ?_)
            · refine tail _ _ _ (zRd_miss hR c4 (am_u1_j (by decide)) am_u1_s (am_u1_j (by decide)) (fun j => ?_) (fun j => am_u3_c (by decide))) ⟨fun x j hx => ?_, fun x j hx hx2 => ?_⟩ (by rw [if_pos c4])
              · rw [c4]
                by_cases u : j = F 26 2
                · rw [if_pos u, u, am_u3_s]
                · rw [if_neg u, am_u3_j u]
              · rw [am_u1_c hx]
                exact hF.1 x j hx
              · rw [am_u3_c hx]
                exact hF.2 x j hx hx2
            · obtain ⟨t7, t8⟩ := t5 c4
              iterate 5 (refine am_go rfl (by first | exact True.intro | omega | exact ⟨by decide, Nat.le_of_ble_eq_true rfl, Nat.le_of_ble_eq_true rfl⟩ | exact ⟨by decide, Nat.le_of_ble_eq_true rfl⟩) ?_)
              refine am_callv rfl (ct_fk _ (by rw [am_u1_c (by decide), e20]; omega) (by rw [am_u1_c (by decide), e20]; omega)) (by decide) (Nat.le_of_ble_eq_true rfl) (Nat.le_of_ble_eq_true rfl) ?_
              rw [am_u3_c (by decide), hF.2 3 _ (by decide) (by decide)]
              iterate 7 (refine am_go rfl (by first | exact True.intro | omega | exact ⟨by decide, Nat.le_of_ble_eq_true rfl, Nat.le_of_ble_eq_true rfl⟩ | exact ⟨by decide, Nat.le_of_ble_eq_true rfl⟩) ?_)
              refine am_callv rfl (ct_lv _ _ _ ⟨t7, t8⟩) (by decide) (Nat.le_of_ble_eq_true rfl) (Nat.le_of_ble_eq_true rfl) ?_
              rw [am_u3_c (by decide), hF.2 16 _ (by decide) (by decide)]
              have u0 : am_u1 F 26 2 (F 26 2 + 1) 26 0 = F 26 0 := am_u1_j (by decide)
              have u2 : am_u1 F 26 2 (F 26 2 + 1) 26 2 = F 26 2 + 1 := am_u1_s
              refine am_calln rfl (ct_addPart 26 (by decide) _ _ _ _ (by rw [u0]; omega) (by rw [u2]; omega)) (by decide) (Nat.le_of_ble_eq_true rfl) (Nat.le_of_ble_eq_true rfl) ?_
              rw [u0, u2]
              (refine am_go rfl (by first | exact True.intro | omega | exact ⟨by decide, Nat.le_of_ble_eq_true rfl, Nat.le_of_ble_eq_true rfl⟩ | exact ⟨by decide, Nat.le_of_ble_eq_true rfl⟩) ?_)
              have u3 : am_u3 G (26 + 1) (F 26 2) (g 34 (zTr g rk k).1) (26 + 1) (F 26 2 + 1 - 1) = g 34 (zTr g rk k).1 := by
                rw [show F 26 2 + 1 - 1 = F 26 2 by omega, am_u3_s]
              rw [u3]
              refine tail _ _ _ (zRd_take hR c4 ?_ ?_ ?_ (fun j => ?_) (fun j hj => ?_) ?_ ?_ ?_ ?_ ?_) ⟨fun x j hx => ?_, fun x j hx hx2 => ?_⟩ (by rw [if_neg c4])
              · rw [am_u1_j (by decide), am_u1_j (by decide)]
              · rw [am_u1_j (by decide), am_u1_s]
              · rw [am_u1_s]
              · rw [am_u3_c (by decide), am_u3_c (by decide), am_u3_c (by decide), am_u3_c (by decide), am_u3_c (by decide)]
                by_cases u : j = F 26 2
                · rw [if_pos u, u, am_u3_s]
                · rw [if_neg u, am_u3_j u]
              · rw [am_u3_j (by omega), am_u3_j (by omega), am_u3_j (by omega), am_u3_j (by omega), am_u3_j (by omega), am_u3_c (by decide)]
              · rw [am_u3_j (by omega), am_u3_j (by omega), am_u3_j (by omega), am_u3_j (by omega), am_u3_s]
              · rw [am_u3_j (by omega), am_u3_j (by omega), am_u3_j (by omega), am_u3_s]
              · rw [am_u3_j (by omega), am_u3_j (by omega), am_u3_s]
              · rw [am_u3_j (by omega), am_u3_s]
              · rw [am_u3_s]
              · rw [am_u1_c hx, am_u1_c hx]
                exact hF.1 x j hx
              · rw [am_u3_c hx2, am_u3_c hx2, am_u3_c hx2, am_u3_c hx2, am_u3_c hx2, am_u3_c hx]
                exact hF.2 x j hx hx2
  refine am_enter ok_4_trace rfl (by decide) (Nat.le_of_ble_eq_true rfl) rfl ?_
  (refine am_go rfl (by first | exact True.intro | omega | exact ⟨by decide, Nat.le_of_ble_eq_true rfl, Nat.le_of_ble_eq_true rfl⟩ | exact ⟨by decide, Nat.le_of_ble_eq_true rfl⟩) ?_)
  refine am_if rfl (fun c1 => ?_) (fun c1 => ?_)
  · omega
  · iterate 2 (refine am_go rfl (by first | exact True.intro | omega | exact ⟨by decide, Nat.le_of_ble_eq_true rfl, Nat.le_of_ble_eq_true rfl⟩ | exact ⟨by decide, Nat.le_of_ble_eq_true rfl⟩) ?_)
    refine am_if rfl (fun c2 => ?_) (fun c2 => ?_)
    · iterate 6 (refine am_go rfl (by first | exact True.intro | omega | exact ⟨by decide, Nat.le_of_ble_eq_true rfl, Nat.le_of_ble_eq_true rfl⟩ | exact ⟨by decide, Nat.le_of_ble_eq_true rfl⟩) ?_)
      refine am_calln rfl (ct_begin 26 (by decide) _) (by decide) (Nat.le_of_ble_eq_true rfl) (Nat.le_of_ble_eq_true rfl) ?_
      iterate 8 (refine am_go rfl (by first | exact True.intro | omega | exact ⟨by decide, Nat.le_of_ble_eq_true rfl, Nat.le_of_ble_eq_true rfl⟩ | exact ⟨by decide, Nat.le_of_ble_eq_true rfl⟩) ?_)
      refine loop _ 0 _ _ none none (by omega) rfl ⟨?_, ?_, ?_, fun k hk => by omega, fun k hk => by omega⟩ ⟨fun x j hx => ?_, fun x j hx hx2 => rfl⟩
      · rw [am_u1_j (by decide), am_u1_s]
      · rw [am_u1_s]; rfl
      · rw [am_u1_j (by decide), am_u1_j (by decide), am_u1_s]; rfl
      · rw [am_u1_c hx, am_u1_c hx, am_u1_c hx]
    · omega
set_option maxRecDepth 100000 in
set_option maxHeartbeats 4000000 in
theorem ct_trace29 (rk : Int) (hI : zI f g) (hr : 0 ≤ rk ∧ rk < 2) (ht : zTok f g rk) : am_Ct l dC dI tc mm4_trace 2 58 [(.inr (.inr (some 22))), .inl rk] (58, f, g, pr_r a b 29) (fun r t => r = none ∧ ∃ f' g', t = (58, f', g', pr_r a b 29) ∧ zRdN g rk f' g' 29 (f 2 0).toNat ∧ zFrR 29 f' f g' g) := by
  have hI2 := hI
  obtain ⟨i1, i2, i3, i4, i5, i6, i7⟩ := hI2
  have loop : ∀ (n k : Nat) (F : Nat → Nat → Int) (G : Nat → Int → Int) (o6 o7 : Option Int), (k : Int) ≤ f 2 0 → (f 2 0).toNat - k = n → zRdN g rk F G 29 k → zFrR 29 F f G g → am_wp l dC dI tc mm4_trace 2 58 58 (fun r t => r = none ∧ ∃ f' g', t = (58, f', g', pr_r a b 29) ∧ zRdN g rk f' g' 29 (f 2 0).toNat ∧ zFrR 29 f' f g' g) 21 [some (.inr (.inr (some 22))), some (.inl rk), some (.inl ((zTr g rk k).1)), some (.inl ((zTr g rk k).2.1)), some (.inl ((zTr g rk k).2.2.1)), some (.inl ((k : Int))), o6.map Sum.inl, o7.map Sum.inl] [] (58, F, G, pr_r a b 29) := by
    intro n
    induction n with
    | zero =>
      intro k F G o6 o7 hk hn hR hF
      have e20 : F 2 0 = f 2 0 := hF.1 2 0 (by decide)
      iterate 4 (refine am_go rfl (by first | exact True.intro | omega | exact ⟨by decide, Nat.le_of_ble_eq_true rfl, Nat.le_of_ble_eq_true rfl⟩ | exact ⟨by decide, Nat.le_of_ble_eq_true rfl⟩) ?_)
      rw [e20]
      refine am_if rfl (fun c1 => ?_) (fun c1 => ?_)
      · have e : k = (f 2 0).toNat := by omega
        subst e
        exact am_vret (x := 0) rfl rfl rfl ⟨rfl, F, G, rfl, hR, hF⟩
      · omega
    | succ n ih =>
      intro k F G o6 o7 hk hn hR hF
      have hkl : (k : Int) < f 2 0 := by omega
      obtain ⟨t1, t2, t3, t4, t5, t6⟩ := ht k hkl
      have hf5 := (i2 k (by omega) hkl).2.2
      have e20 : F 2 0 = f 2 0 := hF.1 2 0 (by decide)
      have e34 : ∀ j, G 34 j = g 34 j := fun j => hF.2 34 j (by decide) (by decide)
      have e35 : ∀ j, G 35 j = g 35 j := fun j => hF.2 35 j (by decide) (by decide)
      have tail : ∀ (F' : Nat → Nat → Int) (G' : Nat → Int → Int) (z' : Int), zRdN g rk F' G' 29 (k + 1) → zFrR 29 F' f G' g → z' = (if g 34 (zTr g rk k).1 = 4 then (zTr g rk k).2.2.1 else (zTr g rk k).2.2.1 + 1) → am_wp l dC dI tc mm4_trace 2 58 58 (fun r t => r = none ∧ ∃ f' g', t = (58, f', g', pr_r a b 29) ∧ zRdN g rk f' g' 29 (f 2 0).toNat ∧ zFrR 29 f' f g' g) 66 [some (.inr (.inr (some 22))), some (.inl rk), some (.inl ((zTr g rk k).1)), some (.inl ((zTr g rk k).2.1)), some (.inl (z')), some (.inl ((k : Int))), some (.inl (g 34 (zTr g rk k).1)), some (.inl (g 35 (zTr g rk k).1))] [] (58, F', G', pr_r a b 29) := by
        intro F' G' z' hR' hF' hz'
        have hzr : 0 ≤ z' ∧ z' ≤ 6 := by rw [hz']; split <;> omega
        have e20' : F' 2 0 = f 2 0 := hF'.1 2 0 (by decide)
        have e5' : ∀ j, G' 5 j = g 5 j := fun j => hF'.2 5 j (by decide) (by decide)
        have fin : ∀ (y' z2 : Int), zTr g rk (k + 1) = (zSt (k + 1) y' z2 * 2 + g 35 (zTr g rk k).1, y', z2, (zTr g rk (k + 1)).2.2.2) → 0 ≤ y' ∧ y' ≤ 7 → 0 ≤ z2 ∧ z2 ≤ 6 → am_wp l dC dI tc mm4_trace 2 58 58 (fun r t => r = none ∧ ∃ f' g', t = (58, f', g', pr_r a b 29) ∧ zRdN g rk f' g' 29 (f 2 0).toNat ∧ zFrR 29 f' f g' g) 76 [some (.inr (.inr (some 22))), some (.inl rk), some (.inl ((zTr g rk k).1)), some (.inl (y')), some (.inl (z2)), some (.inl ((k : Int))), some (.inl (g 34 (zTr g rk k).1)), some (.inl (g 35 (zTr g rk k).1))] [] (58, F', G', pr_r a b 29) := by
          intro y' z2 e hy hz2
          iterate 5 (refine am_go rfl (by first | exact True.intro | omega | exact ⟨by decide, Nat.le_of_ble_eq_true rfl, Nat.le_of_ble_eq_true rfl⟩ | exact ⟨by decide, Nat.le_of_ble_eq_true rfl⟩) ?_)
          refine am_callv rfl (ct_stateOf _ _ _ (by omega) (by omega) (by omega)) (by decide) (Nat.le_of_ble_eq_true rfl) (Nat.le_of_ble_eq_true rfl) ?_
          iterate 7 (refine am_go rfl (by first | exact True.intro | omega | exact ⟨by decide, Nat.le_of_ble_eq_true rfl, Nat.le_of_ble_eq_true rfl⟩ | exact ⟨by decide, Nat.le_of_ble_eq_true rfl⟩) ?_)
          have h9 := ih (k + 1) F' G' (some (g 34 (zTr g rk k).1)) (some (g 35 (zTr g rk k).1)) (by omega) (by omega) hR' hF'
          rw [e] at h9
          exact h9
        iterate 3 (refine am_go rfl (by first | exact True.intro | omega | exact ⟨by decide, Nat.le_of_ble_eq_true rfl, Nat.le_of_ble_eq_true rfl⟩ | exact ⟨by decide, Nat.le_of_ble_eq_true rfl⟩) ?_)
        refine am_callv rfl (ct_endsRow _ (by omega) (by omega) (by rw [e5']; exact hf5)) (by decide) (Nat.le_of_ble_eq_true rfl) (Nat.le_of_ble_eq_true rfl) ?_
        rw [e5']
        refine am_if rfl (fun c1 => ?_) (fun c1 => ?_)
        · refine fin _ _ ?_ (by omega) (by omega)
          rw [zTr_y, if_pos (Or.inl c1), ← hz']
        · (refine am_go rfl (by first | exact True.intro | omega | exact ⟨by decide, Nat.le_of_ble_eq_true rfl, Nat.le_of_ble_eq_true rfl⟩ | exact ⟨by decide, Nat.le_of_ble_eq_true rfl⟩) ?_)
          refine am_if rfl (fun c2 => ?_) (fun c2 => ?_)
          · refine fin _ _ ?_ (by omega) (by omega)
            rw [zTr_y, if_pos (by rw [← hz']; exact Or.inr c2), ← hz']
          · iterate 3 (refine am_go rfl (by first | exact True.intro | omega | exact ⟨by decide, Nat.le_of_ble_eq_true rfl, Nat.le_of_ble_eq_true rfl⟩ | exact ⟨by decide, Nat.le_of_ble_eq_true rfl⟩) ?_)
            refine fin _ _ ?_ (by omega) (by omega)
            rw [zTr_y, if_neg (by rw [← hz']; exact fun u => u.elim c1 c2)]
      iterate 4 (refine am_go rfl (by first | exact True.intro | omega | exact ⟨by decide, Nat.le_of_ble_eq_true rfl, Nat.le_of_ble_eq_true rfl⟩ | exact ⟨by decide, Nat.le_of_ble_eq_true rfl⟩) ?_)
      rw [e20]
      refine am_if rfl (fun c1 => ?_) (fun c1 => ?_)
      · omega
      · (refine am_go rfl (by first | exact True.intro | omega | exact ⟨by decide, Nat.le_of_ble_eq_true rfl, Nat.le_of_ble_eq_true rfl⟩ | exact ⟨by decide, Nat.le_of_ble_eq_true rfl⟩) ?_)
        refine am_if rfl (fun c2 => ?_) (fun c2 => ?_)
        · omega
        · iterate 4 (refine am_go rfl (by first | exact True.intro | omega | exact ⟨by decide, Nat.le_of_ble_eq_true rfl, Nat.le_of_ble_eq_true rfl⟩ | exact ⟨by decide, Nat.le_of_ble_eq_true rfl⟩) ?_)
          refine am_if rfl (fun c3 => ?_) (fun c3 => ?_)
          · omega
          · iterate 4 (refine am_go rfl (by first | exact True.intro | omega | exact ⟨by decide, Nat.le_of_ble_eq_true rfl, Nat.le_of_ble_eq_true rfl⟩ | exact ⟨by decide, Nat.le_of_ble_eq_true rfl⟩) ?_)
            rw [e34]
            iterate 5 (refine am_go rfl (by first | exact True.intro | omega | exact ⟨by decide, Nat.le_of_ble_eq_true rfl, Nat.le_of_ble_eq_true rfl⟩ | exact ⟨by decide, Nat.le_of_ble_eq_true rfl⟩) ?_)
            rw [e35]
            iterate 4 (refine am_go rfl (by first | exact True.intro | omega | exact ⟨by decide, Nat.le_of_ble_eq_true rfl, Nat.le_of_ble_eq_true rfl⟩ | exact ⟨by decide, Nat.le_of_ble_eq_true rfl⟩) ?_)
            have hk2 : F 29 2 = k := hR.2.1
            have hk0 : F 29 0 = (zTr g rk k).2.2.2 := hR.2.2.1
            have hcn := zTr_n g rk k
            refine am_calln rfl (ct_choose 29 (by decide) (g 34 (zTr g rk k).1) (by omega)) (by decide) (Nat.le_of_ble_eq_true rfl) (Nat.le_of_ble_eq_true rfl) ?_
            iterate 2 (refine am_go rfl (by first | exact True.intro | omega | exact ⟨by decide, Nat.le_of_ble_eq_true rfl, Nat.le_of_ble_eq_true rfl⟩ | exact ⟨by decide, Nat.le_of_ble_eq_true rfl⟩) ?_)
            refine am_if rfl (fun c4 => ?_) (fun c4 => ?_)
            · refine tail _ _ _ (zRd_miss hR c4 (am_u1_j (by decide)) am_u1_s (am_u1_j (by decide)) (fun j => ?_) (fun j => am_u3_c (by decide))) ⟨fun x j hx => ?_, fun x j hx hx2 => ?_⟩ (by rw [if_pos c4])
              · rw [c4]
                by_cases u : j = F 29 2
                · rw [if_pos u, u, am_u3_s]
                · rw [if_neg u, am_u3_j u]
              · rw [am_u1_c hx]
                exact hF.1 x j hx
              · rw [am_u3_c hx]
                exact hF.2 x j hx hx2
            · obtain ⟨t7, t8⟩ := t5 c4
              iterate 5 (refine am_go rfl (by first | exact True.intro | omega | exact ⟨by decide, Nat.le_of_ble_eq_true rfl, Nat.le_of_ble_eq_true rfl⟩ | exact ⟨by decide, Nat.le_of_ble_eq_true rfl⟩) ?_)
              refine am_callv rfl (ct_fk _ (by rw [am_u1_c (by decide), e20]; omega) (by rw [am_u1_c (by decide), e20]; omega)) (by decide) (Nat.le_of_ble_eq_true rfl) (Nat.le_of_ble_eq_true rfl) ?_
              rw [am_u3_c (by decide), hF.2 3 _ (by decide) (by decide)]
              iterate 7 (refine am_go rfl (by first | exact True.intro | omega | exact ⟨by decide, Nat.le_of_ble_eq_true rfl, Nat.le_of_ble_eq_true rfl⟩ | exact ⟨by decide, Nat.le_of_ble_eq_true rfl⟩) ?_)
              refine am_callv rfl (ct_lv _ _ _ ⟨t7, t8⟩) (by decide) (Nat.le_of_ble_eq_true rfl) (Nat.le_of_ble_eq_true rfl) ?_
              rw [am_u3_c (by decide), hF.2 16 _ (by decide) (by decide)]
              have u0 : am_u1 F 29 2 (F 29 2 + 1) 29 0 = F 29 0 := am_u1_j (by decide)
              have u2 : am_u1 F 29 2 (F 29 2 + 1) 29 2 = F 29 2 + 1 := am_u1_s
              refine am_calln rfl (ct_addPart 29 (by decide) _ _ _ _ (by rw [u0]; omega) (by rw [u2]; omega)) (by decide) (Nat.le_of_ble_eq_true rfl) (Nat.le_of_ble_eq_true rfl) ?_
              rw [u0, u2]
              (refine am_go rfl (by first | exact True.intro | omega | exact ⟨by decide, Nat.le_of_ble_eq_true rfl, Nat.le_of_ble_eq_true rfl⟩ | exact ⟨by decide, Nat.le_of_ble_eq_true rfl⟩) ?_)
              have u3 : am_u3 G (29 + 1) (F 29 2) (g 34 (zTr g rk k).1) (29 + 1) (F 29 2 + 1 - 1) = g 34 (zTr g rk k).1 := by
                rw [show F 29 2 + 1 - 1 = F 29 2 by omega, am_u3_s]
              rw [u3]
              refine tail _ _ _ (zRd_take hR c4 ?_ ?_ ?_ (fun j => ?_) (fun j hj => ?_) ?_ ?_ ?_ ?_ ?_) ⟨fun x j hx => ?_, fun x j hx hx2 => ?_⟩ (by rw [if_neg c4])
              · rw [am_u1_j (by decide), am_u1_j (by decide)]
              · rw [am_u1_j (by decide), am_u1_s]
              · rw [am_u1_s]
              · rw [am_u3_c (by decide), am_u3_c (by decide), am_u3_c (by decide), am_u3_c (by decide), am_u3_c (by decide)]
                by_cases u : j = F 29 2
                · rw [if_pos u, u, am_u3_s]
                · rw [if_neg u, am_u3_j u]
              · rw [am_u3_j (by omega), am_u3_j (by omega), am_u3_j (by omega), am_u3_j (by omega), am_u3_j (by omega), am_u3_c (by decide)]
              · rw [am_u3_j (by omega), am_u3_j (by omega), am_u3_j (by omega), am_u3_j (by omega), am_u3_s]
              · rw [am_u3_j (by omega), am_u3_j (by omega), am_u3_j (by omega), am_u3_s]
              · rw [am_u3_j (by omega), am_u3_j (by omega), am_u3_s]
              · rw [am_u3_j (by omega), am_u3_s]
              · rw [am_u3_s]
              · rw [am_u1_c hx, am_u1_c hx]
                exact hF.1 x j hx
              · rw [am_u3_c hx2, am_u3_c hx2, am_u3_c hx2, am_u3_c hx2, am_u3_c hx2, am_u3_c hx]
                exact hF.2 x j hx hx2
  refine am_enter ok_4_trace rfl (by decide) (Nat.le_of_ble_eq_true rfl) rfl ?_
  (refine am_go rfl (by first | exact True.intro | omega | exact ⟨by decide, Nat.le_of_ble_eq_true rfl, Nat.le_of_ble_eq_true rfl⟩ | exact ⟨by decide, Nat.le_of_ble_eq_true rfl⟩) ?_)
  refine am_if rfl (fun c1 => ?_) (fun c1 => ?_)
  · omega
  · iterate 2 (refine am_go rfl (by first | exact True.intro | omega | exact ⟨by decide, Nat.le_of_ble_eq_true rfl, Nat.le_of_ble_eq_true rfl⟩ | exact ⟨by decide, Nat.le_of_ble_eq_true rfl⟩) ?_)
    refine am_if rfl (fun c2 => ?_) (fun c2 => ?_)
    · iterate 6 (refine am_go rfl (by first | exact True.intro | omega | exact ⟨by decide, Nat.le_of_ble_eq_true rfl, Nat.le_of_ble_eq_true rfl⟩ | exact ⟨by decide, Nat.le_of_ble_eq_true rfl⟩) ?_)
      refine am_calln rfl (ct_begin 29 (by decide) _) (by decide) (Nat.le_of_ble_eq_true rfl) (Nat.le_of_ble_eq_true rfl) ?_
      iterate 8 (refine am_go rfl (by first | exact True.intro | omega | exact ⟨by decide, Nat.le_of_ble_eq_true rfl, Nat.le_of_ble_eq_true rfl⟩ | exact ⟨by decide, Nat.le_of_ble_eq_true rfl⟩) ?_)
      refine loop _ 0 _ _ none none (by omega) rfl ⟨?_, ?_, ?_, fun k hk => by omega, fun k hk => by omega⟩ ⟨fun x j hx => ?_, fun x j hx hx2 => rfl⟩
      · rw [am_u1_j (by decide), am_u1_s]
      · rw [am_u1_s]; rfl
      · rw [am_u1_j (by decide), am_u1_j (by decide), am_u1_s]; rfl
      · rw [am_u1_c hx, am_u1_c hx, am_u1_c hx]
    · omega
end Trc
end
section
/-! which reading is before which; the candidate is admitted -/
theorem pr_ne {a b c a' b' c' x y : Nat} (h : x ≠ 22) : pr_r a b c x y = pr_r a' b' c' x y := by
  match x, h with
  | 0, _ => rfl
  | 1, _ => rfl
  | 2, _ => rfl
  | 3, _ => rfl
  | 4, _ => rfl
  | 5, _ => rfl
  | 6, _ => rfl
  | 7, _ => rfl
  | 8, _ => rfl
  | 9, _ => rfl
  | 10, _ => rfl
  | 11, _ => rfl
  | 12, _ => rfl
  | 13, _ => rfl
  | 14, _ => rfl
  | 15, _ => rfl
  | 16, _ => rfl
  | 17, _ => rfl
  | 18, _ => rfl
  | 19, _ => rfl
  | 20, _ => rfl
  | 21, _ => rfl
  | 22, h => exact absurd rfl h
  | n + 23, _ => rfl
theorem pr_u0 (a b c q : Nat) : am_u2 (pr_r a b c) 22 0 (some q) = pr_r q b c := by
  funext x y
  unfold am_u2
  split
  · rename_i h
    subst h
    match y with
    | 0 => rfl
    | y + 1 => rfl
  · rename_i h
    exact pr_ne h
theorem pr_u1 (a b c q : Nat) : am_u2 (pr_r a b c) 22 1 (some q) = pr_r a q c := by
  funext x y
  unfold am_u2
  split
  · rename_i h
    subst h
    match y with
    | 0 => rfl
    | 1 => rfl
    | y + 2 => rfl
  · rename_i h
    exact pr_ne h
theorem pr_u3 (a b c q : Nat) : am_u2 (pr_r a b c) 22 3 (some q) = pr_r a b q := by
  funext x y
  unfold am_u2
  split
  · rename_i h
    subst h
    match y with
    | 0 => rfl
    | 1 => rfl
    | 2 => rfl
    | 3 => rfl
    | y + 4 => rfl
  · rename_i h
    exact pr_ne h
def zLx (g : Nat → Int → Int) (p q : Nat) (n : Int) : Prop := ∃ k, 0 ≤ k ∧ k < n ∧ (∀ j, 0 ≤ j → j < k → g (p + 1) j = g (q + 1) j) ∧ g (p + 1) k < g (q + 1) k
def zBf (f : Nat → Nat → Int) (g : Nat → Int → Int) (p q : Nat) : Prop := f p 1 < f q 1 ∨ (f p 1 = f q 1 ∧ zLx g p q (f p 2))
/-- the three readings are the three cells -/
def zPm (a b c : Nat) : Prop := (a = 23 ∧ b = 26 ∧ c = 29) ∨ (a = 23 ∧ b = 29 ∧ c = 26) ∨ (a = 26 ∧ b = 23 ∧ c = 29) ∨ (a = 26 ∧ b = 29 ∧ c = 23) ∨ (a = 29 ∧ b = 23 ∧ c = 26) ∨ (a = 29 ∧ b = 26 ∧ c = 23)
section Adm
variable {l : Launch} {dC : Nat → ClassId} {dI : Nat → Nat → Nat} {tc : Nat → ClassId} {f : Nat → Nat → Int} {g : Nat → Int → Int} {a b c : Nat}
set_option maxRecDepth 100000 in
set_option maxHeartbeats 4000000 in
theorem ct_before23_26 (h1 : 0 ≤ f 23 2 ∧ f 23 2 ≤ 9) (h2 : f 23 2 = f 26 2) : am_Ct l dC dI tc mm5_isBefore 0 58 [(.inr (.inr (some 23))), (.inr (.inr (some 26)))] (58, f, g, pr_r a b c) (fun r s => s = (58, f, g, pr_r a b c) ∧ ((r = some (.inl 1) ∧ zBf f g 23 26) ∨ (r = some (.inl 0) ∧ ¬ zBf f g 23 26))) := by
  have loop : f 23 1 = f 26 1 → ∀ (n : Nat) (i : Int), (f 23 2 - i).toNat ≤ n → 0 ≤ i → (∀ j, 0 ≤ j → j < i → g (23 + 1) j = g (26 + 1) j) → am_wp l dC dI tc mm5_isBefore 0 58 58 (fun r s => s = (58, f, g, pr_r a b c) ∧ ((r = some (.inl 1) ∧ zBf f g 23 26) ∨ (r = some (.inl 0) ∧ ¬ zBf f g 23 26))) 16 [some (.inr (.inr (some 23))), some (.inr (.inr (some 26))), some (.inl i)] [] (58, f, g, pr_r a b c) := by
    intro ht n
    induction n with
    | zero =>
      intro i hn hi hj
      iterate 3 (refine am_go rfl (by first | exact True.intro | omega | exact ⟨by decide, Nat.le_of_ble_eq_true rfl, Nat.le_of_ble_eq_true rfl⟩ | exact ⟨by decide, Nat.le_of_ble_eq_true rfl⟩) ?_)
      refine am_if rfl (fun c1 => ?_) (fun c1 => ?_)
      · (refine am_go rfl (by first | exact True.intro | omega | exact ⟨by decide, Nat.le_of_ble_eq_true rfl, Nat.le_of_ble_eq_true rfl⟩ | exact ⟨by decide, Nat.le_of_ble_eq_true rfl⟩) ?_)
        refine am_zret rfl rfl (Or.inl rfl) rfl ⟨rfl, Or.inr ⟨rfl, ?_⟩⟩
        rintro (u | ⟨-, k, k1, k2, k3, k4⟩)
        · omega
        · have := hj k k1 (by omega)
          omega
      · omega
    | succ n ih =>
      intro i hn hi hj
      iterate 3 (refine am_go rfl (by first | exact True.intro | omega | exact ⟨by decide, Nat.le_of_ble_eq_true rfl, Nat.le_of_ble_eq_true rfl⟩ | exact ⟨by decide, Nat.le_of_ble_eq_true rfl⟩) ?_)
      refine am_if rfl (fun c1 => ?_) (fun c1 => ?_)
      · (refine am_go rfl (by first | exact True.intro | omega | exact ⟨by decide, Nat.le_of_ble_eq_true rfl, Nat.le_of_ble_eq_true rfl⟩ | exact ⟨by decide, Nat.le_of_ble_eq_true rfl⟩) ?_)
        refine am_zret rfl rfl (Or.inl rfl) rfl ⟨rfl, Or.inr ⟨rfl, ?_⟩⟩
        rintro (u | ⟨-, k, k1, k2, k3, k4⟩)
        · omega
        · have := hj k k1 (by omega)
          omega
      · iterate 3 (refine am_go rfl (by first | exact True.intro | omega | exact ⟨by decide, Nat.le_of_ble_eq_true rfl, Nat.le_of_ble_eq_true rfl⟩ | exact ⟨by decide, Nat.le_of_ble_eq_true rfl⟩) ?_)
        refine am_if rfl (fun c2 => ?_) (fun c2 => ?_)
        · omega
        · iterate 8 (refine am_go rfl (by first | exact True.intro | omega | exact ⟨by decide, Nat.le_of_ble_eq_true rfl, Nat.le_of_ble_eq_true rfl⟩ | exact ⟨by decide, Nat.le_of_ble_eq_true rfl⟩) ?_)
          refine am_if rfl (fun c3 => ?_) (fun c3 => ?_)
          · iterate 2 (refine am_go rfl (by first | exact True.intro | omega | exact ⟨by decide, Nat.le_of_ble_eq_true rfl, Nat.le_of_ble_eq_true rfl⟩ | exact ⟨by decide, Nat.le_of_ble_eq_true rfl⟩) ?_)
            refine ih (i + 1) (by omega) (by omega) (fun j j1 j2 => ?_)
            by_cases e : j = i
            · subst e
              exact c3
            · exact hj j j1 (by omega)
          · have c3 : ¬ g (23 + 1) i = g (26 + 1) i := c3
            iterate 8 (refine am_go rfl (by first | exact True.intro | omega | exact ⟨by decide, Nat.le_of_ble_eq_true rfl, Nat.le_of_ble_eq_true rfl⟩ | exact ⟨by decide, Nat.le_of_ble_eq_true rfl⟩) ?_)
            refine am_if rfl (fun c4 => ?_) (fun c4 => ?_)
            · have c4 : g (26 + 1) i ≤ g (23 + 1) i := c4
              (refine am_go rfl (by first | exact True.intro | omega | exact ⟨by decide, Nat.le_of_ble_eq_true rfl, Nat.le_of_ble_eq_true rfl⟩ | exact ⟨by decide, Nat.le_of_ble_eq_true rfl⟩) ?_)
              refine am_zret rfl rfl (Or.inl rfl) rfl ⟨rfl, Or.inr ⟨rfl, ?_⟩⟩
              rintro (u | ⟨-, k, k1, k2, k3, k4⟩)
              · omega
              · rcases Int.lt_trichotomy k i with w | w | w
                · have := hj k k1 w
                  omega
                · subst w
                  omega
                · exact c3 (k3 i hi w)
            · have c4 : ¬ g (26 + 1) i ≤ g (23 + 1) i := c4
              iterate 2 (refine am_go rfl (by first | exact True.intro | omega | exact ⟨by decide, Nat.le_of_ble_eq_true rfl, Nat.le_of_ble_eq_true rfl⟩ | exact ⟨by decide, Nat.le_of_ble_eq_true rfl⟩) ?_)
              refine am_zret rfl rfl (Or.inr rfl) rfl ⟨rfl, Or.inl ⟨rfl, Or.inr ⟨ht, i, hi, by omega, hj, by omega⟩⟩⟩
  refine am_enter ok_5_isBefore rfl (by decide) (Nat.le_of_ble_eq_true rfl) rfl ?_
  iterate 4 (refine am_go rfl (by first | exact True.intro | omega | exact ⟨by decide, Nat.le_of_ble_eq_true rfl, Nat.le_of_ble_eq_true rfl⟩ | exact ⟨by decide, Nat.le_of_ble_eq_true rfl⟩) ?_)
  refine am_if rfl (fun c1 => ?_) (fun c1 => ?_)
  · iterate 2 (refine am_go rfl (by first | exact True.intro | omega | exact ⟨by decide, Nat.le_of_ble_eq_true rfl, Nat.le_of_ble_eq_true rfl⟩ | exact ⟨by decide, Nat.le_of_ble_eq_true rfl⟩) ?_)
    exact loop c1 _ 0 (Nat.le_refl _) (by omega) (fun j j1 j2 => by omega)
  · iterate 4 (refine am_go rfl (by first | exact True.intro | omega | exact ⟨by decide, Nat.le_of_ble_eq_true rfl, Nat.le_of_ble_eq_true rfl⟩ | exact ⟨by decide, Nat.le_of_ble_eq_true rfl⟩) ?_)
    refine am_if rfl (fun c2 => ?_) (fun c2 => ?_)
    · (refine am_go rfl (by first | exact True.intro | omega | exact ⟨by decide, Nat.le_of_ble_eq_true rfl, Nat.le_of_ble_eq_true rfl⟩ | exact ⟨by decide, Nat.le_of_ble_eq_true rfl⟩) ?_)
      refine am_zret rfl rfl (Or.inl rfl) rfl ⟨rfl, Or.inr ⟨rfl, ?_⟩⟩
      rintro (u | u)
      · omega
      · exact c1 u.1
    · iterate 2 (refine am_go rfl (by first | exact True.intro | omega | exact ⟨by decide, Nat.le_of_ble_eq_true rfl, Nat.le_of_ble_eq_true rfl⟩ | exact ⟨by decide, Nat.le_of_ble_eq_true rfl⟩) ?_)
      exact am_zret rfl rfl (Or.inr rfl) rfl ⟨rfl, Or.inl ⟨rfl, Or.inl (by omega)⟩⟩
set_option maxRecDepth 100000 in
set_option maxHeartbeats 4000000 in
theorem ct_before23_29 (h1 : 0 ≤ f 23 2 ∧ f 23 2 ≤ 9) (h2 : f 23 2 = f 29 2) : am_Ct l dC dI tc mm5_isBefore 0 58 [(.inr (.inr (some 23))), (.inr (.inr (some 29)))] (58, f, g, pr_r a b c) (fun r s => s = (58, f, g, pr_r a b c) ∧ ((r = some (.inl 1) ∧ zBf f g 23 29) ∨ (r = some (.inl 0) ∧ ¬ zBf f g 23 29))) := by
  have loop : f 23 1 = f 29 1 → ∀ (n : Nat) (i : Int), (f 23 2 - i).toNat ≤ n → 0 ≤ i → (∀ j, 0 ≤ j → j < i → g (23 + 1) j = g (29 + 1) j) → am_wp l dC dI tc mm5_isBefore 0 58 58 (fun r s => s = (58, f, g, pr_r a b c) ∧ ((r = some (.inl 1) ∧ zBf f g 23 29) ∨ (r = some (.inl 0) ∧ ¬ zBf f g 23 29))) 16 [some (.inr (.inr (some 23))), some (.inr (.inr (some 29))), some (.inl i)] [] (58, f, g, pr_r a b c) := by
    intro ht n
    induction n with
    | zero =>
      intro i hn hi hj
      iterate 3 (refine am_go rfl (by first | exact True.intro | omega | exact ⟨by decide, Nat.le_of_ble_eq_true rfl, Nat.le_of_ble_eq_true rfl⟩ | exact ⟨by decide, Nat.le_of_ble_eq_true rfl⟩) ?_)
      refine am_if rfl (fun c1 => ?_) (fun c1 => ?_)
      · (refine am_go rfl (by first | exact True.intro | omega | exact ⟨by decide, Nat.le_of_ble_eq_true rfl, Nat.le_of_ble_eq_true rfl⟩ | exact ⟨by decide, Nat.le_of_ble_eq_true rfl⟩) ?_)
        refine am_zret rfl rfl (Or.inl rfl) rfl ⟨rfl, Or.inr ⟨rfl, ?_⟩⟩
        rintro (u | ⟨-, k, k1, k2, k3, k4⟩)
        · omega
        · have := hj k k1 (by omega)
          omega
      · omega
    | succ n ih =>
      intro i hn hi hj
      iterate 3 (refine am_go rfl (by first | exact True.intro | omega | exact ⟨by decide, Nat.le_of_ble_eq_true rfl, Nat.le_of_ble_eq_true rfl⟩ | exact ⟨by decide, Nat.le_of_ble_eq_true rfl⟩) ?_)
      refine am_if rfl (fun c1 => ?_) (fun c1 => ?_)
      · (refine am_go rfl (by first | exact True.intro | omega | exact ⟨by decide, Nat.le_of_ble_eq_true rfl, Nat.le_of_ble_eq_true rfl⟩ | exact ⟨by decide, Nat.le_of_ble_eq_true rfl⟩) ?_)
        refine am_zret rfl rfl (Or.inl rfl) rfl ⟨rfl, Or.inr ⟨rfl, ?_⟩⟩
        rintro (u | ⟨-, k, k1, k2, k3, k4⟩)
        · omega
        · have := hj k k1 (by omega)
          omega
      · iterate 3 (refine am_go rfl (by first | exact True.intro | omega | exact ⟨by decide, Nat.le_of_ble_eq_true rfl, Nat.le_of_ble_eq_true rfl⟩ | exact ⟨by decide, Nat.le_of_ble_eq_true rfl⟩) ?_)
        refine am_if rfl (fun c2 => ?_) (fun c2 => ?_)
        · omega
        · iterate 8 (refine am_go rfl (by first | exact True.intro | omega | exact ⟨by decide, Nat.le_of_ble_eq_true rfl, Nat.le_of_ble_eq_true rfl⟩ | exact ⟨by decide, Nat.le_of_ble_eq_true rfl⟩) ?_)
          refine am_if rfl (fun c3 => ?_) (fun c3 => ?_)
          · iterate 2 (refine am_go rfl (by first | exact True.intro | omega | exact ⟨by decide, Nat.le_of_ble_eq_true rfl, Nat.le_of_ble_eq_true rfl⟩ | exact ⟨by decide, Nat.le_of_ble_eq_true rfl⟩) ?_)
            refine ih (i + 1) (by omega) (by omega) (fun j j1 j2 => ?_)
            by_cases e : j = i
            · subst e
              exact c3
            · exact hj j j1 (by omega)
          · have c3 : ¬ g (23 + 1) i = g (29 + 1) i := c3
            iterate 8 (refine am_go rfl (by first | exact True.intro | omega | exact ⟨by decide, Nat.le_of_ble_eq_true rfl, Nat.le_of_ble_eq_true rfl⟩ | exact ⟨by decide, Nat.le_of_ble_eq_true rfl⟩) ?_)
            refine am_if rfl (fun c4 => ?_) (fun c4 => ?_)
            · have c4 : g (29 + 1) i ≤ g (23 + 1) i := c4
              (refine am_go rfl (by first | exact True.intro | omega | exact ⟨by decide, Nat.le_of_ble_eq_true rfl, Nat.le_of_ble_eq_true rfl⟩ | exact ⟨by decide, Nat.le_of_ble_eq_true rfl⟩) ?_)
              refine am_zret rfl rfl (Or.inl rfl) rfl ⟨rfl, Or.inr ⟨rfl, ?_⟩⟩
              rintro (u | ⟨-, k, k1, k2, k3, k4⟩)
              · omega
              · rcases Int.lt_trichotomy k i with w | w | w
                · have := hj k k1 w
                  omega
                · subst w
                  omega
                · exact c3 (k3 i hi w)
            · have c4 : ¬ g (29 + 1) i ≤ g (23 + 1) i := c4
              iterate 2 (refine am_go rfl (by first | exact True.intro | omega | exact ⟨by decide, Nat.le_of_ble_eq_true rfl, Nat.le_of_ble_eq_true rfl⟩ | exact ⟨by decide, Nat.le_of_ble_eq_true rfl⟩) ?_)
              refine am_zret rfl rfl (Or.inr rfl) rfl ⟨rfl, Or.inl ⟨rfl, Or.inr ⟨ht, i, hi, by omega, hj, by omega⟩⟩⟩
  refine am_enter ok_5_isBefore rfl (by decide) (Nat.le_of_ble_eq_true rfl) rfl ?_
  iterate 4 (refine am_go rfl (by first | exact True.intro | omega | exact ⟨by decide, Nat.le_of_ble_eq_true rfl, Nat.le_of_ble_eq_true rfl⟩ | exact ⟨by decide, Nat.le_of_ble_eq_true rfl⟩) ?_)
  refine am_if rfl (fun c1 => ?_) (fun c1 => ?_)
  · iterate 2 (refine am_go rfl (by first | exact True.intro | omega | exact ⟨by decide, Nat.le_of_ble_eq_true rfl, Nat.le_of_ble_eq_true rfl⟩ | exact ⟨by decide, Nat.le_of_ble_eq_true rfl⟩) ?_)
    exact loop c1 _ 0 (Nat.le_refl _) (by omega) (fun j j1 j2 => by omega)
  · iterate 4 (refine am_go rfl (by first | exact True.intro | omega | exact ⟨by decide, Nat.le_of_ble_eq_true rfl, Nat.le_of_ble_eq_true rfl⟩ | exact ⟨by decide, Nat.le_of_ble_eq_true rfl⟩) ?_)
    refine am_if rfl (fun c2 => ?_) (fun c2 => ?_)
    · (refine am_go rfl (by first | exact True.intro | omega | exact ⟨by decide, Nat.le_of_ble_eq_true rfl, Nat.le_of_ble_eq_true rfl⟩ | exact ⟨by decide, Nat.le_of_ble_eq_true rfl⟩) ?_)
      refine am_zret rfl rfl (Or.inl rfl) rfl ⟨rfl, Or.inr ⟨rfl, ?_⟩⟩
      rintro (u | u)
      · omega
      · exact c1 u.1
    · iterate 2 (refine am_go rfl (by first | exact True.intro | omega | exact ⟨by decide, Nat.le_of_ble_eq_true rfl, Nat.le_of_ble_eq_true rfl⟩ | exact ⟨by decide, Nat.le_of_ble_eq_true rfl⟩) ?_)
      exact am_zret rfl rfl (Or.inr rfl) rfl ⟨rfl, Or.inl ⟨rfl, Or.inl (by omega)⟩⟩
set_option maxRecDepth 100000 in
set_option maxHeartbeats 4000000 in
theorem ct_before26_23 (h1 : 0 ≤ f 26 2 ∧ f 26 2 ≤ 9) (h2 : f 26 2 = f 23 2) : am_Ct l dC dI tc mm5_isBefore 0 58 [(.inr (.inr (some 26))), (.inr (.inr (some 23)))] (58, f, g, pr_r a b c) (fun r s => s = (58, f, g, pr_r a b c) ∧ ((r = some (.inl 1) ∧ zBf f g 26 23) ∨ (r = some (.inl 0) ∧ ¬ zBf f g 26 23))) := by
  have loop : f 26 1 = f 23 1 → ∀ (n : Nat) (i : Int), (f 26 2 - i).toNat ≤ n → 0 ≤ i → (∀ j, 0 ≤ j → j < i → g (26 + 1) j = g (23 + 1) j) → am_wp l dC dI tc mm5_isBefore 0 58 58 (fun r s => s = (58, f, g, pr_r a b c) ∧ ((r = some (.inl 1) ∧ zBf f g 26 23) ∨ (r = some (.inl 0) ∧ ¬ zBf f g 26 23))) 16 [some (.inr (.inr (some 26))), some (.inr (.inr (some 23))), some (.inl i)] [] (58, f, g, pr_r a b c) := by
    intro ht n
    induction n with
    | zero =>
      intro i hn hi hj
      iterate 3 (refine am_go rfl (by first | exact True.intro | omega | exact ⟨by decide, Nat.le_of_ble_eq_true rfl, Nat.le_of_ble_eq_true rfl⟩ | exact ⟨by decide, Nat.le_of_ble_eq_true rfl⟩) ?_)
      refine am_if rfl (fun c1 => ?_) (fun c1 => ?_)
      · (refine am_go rfl (by first | exact True.intro | omega | exact ⟨by decide, Nat.le_of_ble_eq_true rfl, Nat.le_of_ble_eq_true rfl⟩ | exact ⟨by decide, Nat.le_of_ble_eq_true rfl⟩) ?_)
        refine am_zret rfl rfl (Or.inl rfl) rfl ⟨rfl, Or.inr ⟨rfl, ?_⟩⟩
        rintro (u | ⟨-, k, k1, k2, k3, k4⟩)
        · omega
        · have := hj k k1 (by omega)
          omega
      · omega
    | succ n ih =>
      intro i hn hi hj
      iterate 3 (refine am_go rfl (by first | exact True.intro | omega | exact ⟨by decide, Nat.le_of_ble_eq_true rfl, Nat.le_of_ble_eq_true rfl⟩ | exact ⟨by decide, Nat.le_of_ble_eq_true rfl⟩) ?_)
      refine am_if rfl (fun c1 => ?_) (fun c1 => ?_)
      · (refine am_go rfl (by first | exact True.intro | omega | exact ⟨by decide, Nat.le_of_ble_eq_true rfl, Nat.le_of_ble_eq_true rfl⟩ | exact ⟨by decide, Nat.le_of_ble_eq_true rfl⟩) ?_)
        refine am_zret rfl rfl (Or.inl rfl) rfl ⟨rfl, Or.inr ⟨rfl, ?_⟩⟩
        rintro (u | ⟨-, k, k1, k2, k3, k4⟩)
        · omega
        · have := hj k k1 (by omega)
          omega
      · iterate 3 (refine am_go rfl (by first | exact True.intro | omega | exact ⟨by decide, Nat.le_of_ble_eq_true rfl, Nat.le_of_ble_eq_true rfl⟩ | exact ⟨by decide, Nat.le_of_ble_eq_true rfl⟩) ?_)
        refine am_if rfl (fun c2 => ?_) (fun c2 => ?_)
        · omega
        · iterate 8 (refine am_go rfl (by first | exact True.intro | omega | exact ⟨by decide, Nat.le_of_ble_eq_true rfl, Nat.le_of_ble_eq_true rfl⟩ | exact ⟨by decide, Nat.le_of_ble_eq_true rfl⟩) ?_)
          refine am_if rfl (fun c3 => ?_) (fun c3 => ?_)
          · iterate 2 (refine am_go rfl (by first | exact True.intro | omega | exact ⟨by decide, Nat.le_of_ble_eq_true rfl, Nat.le_of_ble_eq_true rfl⟩ | exact ⟨by decide, Nat.le_of_ble_eq_true rfl⟩) ?_)
            refine ih (i + 1) (by omega) (by omega) (fun j j1 j2 => ?_)
            by_cases e : j = i
            · subst e
              exact c3
            · exact hj j j1 (by omega)
          · have c3 : ¬ g (26 + 1) i = g (23 + 1) i := c3
            iterate 8 (refine am_go rfl (by first | exact True.intro | omega | exact ⟨by decide, Nat.le_of_ble_eq_true rfl, Nat.le_of_ble_eq_true rfl⟩ | exact ⟨by decide, Nat.le_of_ble_eq_true rfl⟩) ?_)
            refine am_if rfl (fun c4 => ?_) (fun c4 => ?_)
            · have c4 : g (23 + 1) i ≤ g (26 + 1) i := c4
              (refine am_go rfl (by first | exact True.intro | omega | exact ⟨by decide, Nat.le_of_ble_eq_true rfl, Nat.le_of_ble_eq_true rfl⟩ | exact ⟨by decide, Nat.le_of_ble_eq_true rfl⟩) ?_)
              refine am_zret rfl rfl (Or.inl rfl) rfl ⟨rfl, Or.inr ⟨rfl, ?_⟩⟩
              rintro (u | ⟨-, k, k1, k2, k3, k4⟩)
              · omega
              · rcases Int.lt_trichotomy k i with w | w | w
                · have := hj k k1 w
                  omega
                · subst w
                  omega
                · exact c3 (k3 i hi w)
            · have c4 : ¬ g (23 + 1) i ≤ g (26 + 1) i := c4
              iterate 2 (refine am_go rfl (by first | exact True.intro | omega | exact ⟨by decide, Nat.le_of_ble_eq_true rfl, Nat.le_of_ble_eq_true rfl⟩ | exact ⟨by decide, Nat.le_of_ble_eq_true rfl⟩) ?_)
              refine am_zret rfl rfl (Or.inr rfl) rfl ⟨rfl, Or.inl ⟨rfl, Or.inr ⟨ht, i, hi, by omega, hj, by omega⟩⟩⟩
  refine am_enter ok_5_isBefore rfl (by decide) (Nat.le_of_ble_eq_true rfl) rfl ?_
  iterate 4 (refine am_go rfl (by first | exact True.intro | omega | exact ⟨by decide, Nat.le_of_ble_eq_true rfl, Nat.le_of_ble_eq_true rfl⟩ | exact ⟨by decide, Nat.le_of_ble_eq_true rfl⟩) ?_)
  refine am_if rfl (fun c1 => ?_) (fun c1 => ?_)
  · iterate 2 (refine am_go rfl (by first | exact True.intro | omega | exact ⟨by decide, Nat.le_of_ble_eq_true rfl, Nat.le_of_ble_eq_true rfl⟩ | exact ⟨by decide, Nat.le_of_ble_eq_true rfl⟩) ?_)
    exact loop c1 _ 0 (Nat.le_refl _) (by omega) (fun j j1 j2 => by omega)
  · iterate 4 (refine am_go rfl (by first | exact True.intro | omega | exact ⟨by decide, Nat.le_of_ble_eq_true rfl, Nat.le_of_ble_eq_true rfl⟩ | exact ⟨by decide, Nat.le_of_ble_eq_true rfl⟩) ?_)
    refine am_if rfl (fun c2 => ?_) (fun c2 => ?_)
    · (refine am_go rfl (by first | exact True.intro | omega | exact ⟨by decide, Nat.le_of_ble_eq_true rfl, Nat.le_of_ble_eq_true rfl⟩ | exact ⟨by decide, Nat.le_of_ble_eq_true rfl⟩) ?_)
      refine am_zret rfl rfl (Or.inl rfl) rfl ⟨rfl, Or.inr ⟨rfl, ?_⟩⟩
      rintro (u | u)
      · omega
      · exact c1 u.1
    · iterate 2 (refine am_go rfl (by first | exact True.intro | omega | exact ⟨by decide, Nat.le_of_ble_eq_true rfl, Nat.le_of_ble_eq_true rfl⟩ | exact ⟨by decide, Nat.le_of_ble_eq_true rfl⟩) ?_)
      exact am_zret rfl rfl (Or.inr rfl) rfl ⟨rfl, Or.inl ⟨rfl, Or.inl (by omega)⟩⟩
set_option maxRecDepth 100000 in
set_option maxHeartbeats 4000000 in
theorem ct_before26_29 (h1 : 0 ≤ f 26 2 ∧ f 26 2 ≤ 9) (h2 : f 26 2 = f 29 2) : am_Ct l dC dI tc mm5_isBefore 0 58 [(.inr (.inr (some 26))), (.inr (.inr (some 29)))] (58, f, g, pr_r a b c) (fun r s => s = (58, f, g, pr_r a b c) ∧ ((r = some (.inl 1) ∧ zBf f g 26 29) ∨ (r = some (.inl 0) ∧ ¬ zBf f g 26 29))) := by
  have loop : f 26 1 = f 29 1 → ∀ (n : Nat) (i : Int), (f 26 2 - i).toNat ≤ n → 0 ≤ i → (∀ j, 0 ≤ j → j < i → g (26 + 1) j = g (29 + 1) j) → am_wp l dC dI tc mm5_isBefore 0 58 58 (fun r s => s = (58, f, g, pr_r a b c) ∧ ((r = some (.inl 1) ∧ zBf f g 26 29) ∨ (r = some (.inl 0) ∧ ¬ zBf f g 26 29))) 16 [some (.inr (.inr (some 26))), some (.inr (.inr (some 29))), some (.inl i)] [] (58, f, g, pr_r a b c) := by
    intro ht n
    induction n with
    | zero =>
      intro i hn hi hj
      iterate 3 (refine am_go rfl (by first | exact True.intro | omega | exact ⟨by decide, Nat.le_of_ble_eq_true rfl, Nat.le_of_ble_eq_true rfl⟩ | exact ⟨by decide, Nat.le_of_ble_eq_true rfl⟩) ?_)
      refine am_if rfl (fun c1 => ?_) (fun c1 => ?_)
      · (refine am_go rfl (by first | exact True.intro | omega | exact ⟨by decide, Nat.le_of_ble_eq_true rfl, Nat.le_of_ble_eq_true rfl⟩ | exact ⟨by decide, Nat.le_of_ble_eq_true rfl⟩) ?_)
        refine am_zret rfl rfl (Or.inl rfl) rfl ⟨rfl, Or.inr ⟨rfl, ?_⟩⟩
        rintro (u | ⟨-, k, k1, k2, k3, k4⟩)
        · omega
        · have := hj k k1 (by omega)
          omega
      · omega
    | succ n ih =>
      intro i hn hi hj
      iterate 3 (refine am_go rfl (by first | exact True.intro | omega | exact ⟨by decide, Nat.le_of_ble_eq_true rfl, Nat.le_of_ble_eq_true rfl⟩ | exact ⟨by decide, Nat.le_of_ble_eq_true rfl⟩) ?_)
      refine am_if rfl (fun c1 => ?_) (fun c1 => ?_)
      · (refine am_go rfl (by first | exact True.intro | omega | exact ⟨by decide, Nat.le_of_ble_eq_true rfl, Nat.le_of_ble_eq_true rfl⟩ | exact ⟨by decide, Nat.le_of_ble_eq_true rfl⟩) ?_)
        refine am_zret rfl rfl (Or.inl rfl) rfl ⟨rfl, Or.inr ⟨rfl, ?_⟩⟩
        rintro (u | ⟨-, k, k1, k2, k3, k4⟩)
        · omega
        · have := hj k k1 (by omega)
          omega
      · iterate 3 (refine am_go rfl (by first | exact True.intro | omega | exact ⟨by decide, Nat.le_of_ble_eq_true rfl, Nat.le_of_ble_eq_true rfl⟩ | exact ⟨by decide, Nat.le_of_ble_eq_true rfl⟩) ?_)
        refine am_if rfl (fun c2 => ?_) (fun c2 => ?_)
        · omega
        · iterate 8 (refine am_go rfl (by first | exact True.intro | omega | exact ⟨by decide, Nat.le_of_ble_eq_true rfl, Nat.le_of_ble_eq_true rfl⟩ | exact ⟨by decide, Nat.le_of_ble_eq_true rfl⟩) ?_)
          refine am_if rfl (fun c3 => ?_) (fun c3 => ?_)
          · iterate 2 (refine am_go rfl (by first | exact True.intro | omega | exact ⟨by decide, Nat.le_of_ble_eq_true rfl, Nat.le_of_ble_eq_true rfl⟩ | exact ⟨by decide, Nat.le_of_ble_eq_true rfl⟩) ?_)
            refine ih (i + 1) (by omega) (by omega) (fun j j1 j2 => ?_)
            by_cases e : j = i
            · subst e
              exact c3
            · exact hj j j1 (by omega)
          · have c3 : ¬ g (26 + 1) i = g (29 + 1) i := c3
            iterate 8 (refine am_go rfl (by first | exact True.intro | omega | exact ⟨by decide, Nat.le_of_ble_eq_true rfl, Nat.le_of_ble_eq_true rfl⟩ | exact ⟨by decide, Nat.le_of_ble_eq_true rfl⟩) ?_)
            refine am_if rfl (fun c4 => ?_) (fun c4 => ?_)
            · have c4 : g (29 + 1) i ≤ g (26 + 1) i := c4
              (refine am_go rfl (by first | exact True.intro | omega | exact ⟨by decide, Nat.le_of_ble_eq_true rfl, Nat.le_of_ble_eq_true rfl⟩ | exact ⟨by decide, Nat.le_of_ble_eq_true rfl⟩) ?_)
              refine am_zret rfl rfl (Or.inl rfl) rfl ⟨rfl, Or.inr ⟨rfl, ?_⟩⟩
              rintro (u | ⟨-, k, k1, k2, k3, k4⟩)
              · omega
              · rcases Int.lt_trichotomy k i with w | w | w
                · have := hj k k1 w
                  omega
                · subst w
                  omega
                · exact c3 (k3 i hi w)
            · have c4 : ¬ g (29 + 1) i ≤ g (26 + 1) i := c4
              iterate 2 (refine am_go rfl (by first | exact True.intro | omega | exact ⟨by decide, Nat.le_of_ble_eq_true rfl, Nat.le_of_ble_eq_true rfl⟩ | exact ⟨by decide, Nat.le_of_ble_eq_true rfl⟩) ?_)
              refine am_zret rfl rfl (Or.inr rfl) rfl ⟨rfl, Or.inl ⟨rfl, Or.inr ⟨ht, i, hi, by omega, hj, by omega⟩⟩⟩
  refine am_enter ok_5_isBefore rfl (by decide) (Nat.le_of_ble_eq_true rfl) rfl ?_
  iterate 4 (refine am_go rfl (by first | exact True.intro | omega | exact ⟨by decide, Nat.le_of_ble_eq_true rfl, Nat.le_of_ble_eq_true rfl⟩ | exact ⟨by decide, Nat.le_of_ble_eq_true rfl⟩) ?_)
  refine am_if rfl (fun c1 => ?_) (fun c1 => ?_)
  · iterate 2 (refine am_go rfl (by first | exact True.intro | omega | exact ⟨by decide, Nat.le_of_ble_eq_true rfl, Nat.le_of_ble_eq_true rfl⟩ | exact ⟨by decide, Nat.le_of_ble_eq_true rfl⟩) ?_)
    exact loop c1 _ 0 (Nat.le_refl _) (by omega) (fun j j1 j2 => by omega)
  · iterate 4 (refine am_go rfl (by first | exact True.intro | omega | exact ⟨by decide, Nat.le_of_ble_eq_true rfl, Nat.le_of_ble_eq_true rfl⟩ | exact ⟨by decide, Nat.le_of_ble_eq_true rfl⟩) ?_)
    refine am_if rfl (fun c2 => ?_) (fun c2 => ?_)
    · (refine am_go rfl (by first | exact True.intro | omega | exact ⟨by decide, Nat.le_of_ble_eq_true rfl, Nat.le_of_ble_eq_true rfl⟩ | exact ⟨by decide, Nat.le_of_ble_eq_true rfl⟩) ?_)
      refine am_zret rfl rfl (Or.inl rfl) rfl ⟨rfl, Or.inr ⟨rfl, ?_⟩⟩
      rintro (u | u)
      · omega
      · exact c1 u.1
    · iterate 2 (refine am_go rfl (by first | exact True.intro | omega | exact ⟨by decide, Nat.le_of_ble_eq_true rfl, Nat.le_of_ble_eq_true rfl⟩ | exact ⟨by decide, Nat.le_of_ble_eq_true rfl⟩) ?_)
      exact am_zret rfl rfl (Or.inr rfl) rfl ⟨rfl, Or.inl ⟨rfl, Or.inl (by omega)⟩⟩
set_option maxRecDepth 100000 in
set_option maxHeartbeats 4000000 in
theorem ct_before29_23 (h1 : 0 ≤ f 29 2 ∧ f 29 2 ≤ 9) (h2 : f 29 2 = f 23 2) : am_Ct l dC dI tc mm5_isBefore 0 58 [(.inr (.inr (some 29))), (.inr (.inr (some 23)))] (58, f, g, pr_r a b c) (fun r s => s = (58, f, g, pr_r a b c) ∧ ((r = some (.inl 1) ∧ zBf f g 29 23) ∨ (r = some (.inl 0) ∧ ¬ zBf f g 29 23))) := by
  have loop : f 29 1 = f 23 1 → ∀ (n : Nat) (i : Int), (f 29 2 - i).toNat ≤ n → 0 ≤ i → (∀ j, 0 ≤ j → j < i → g (29 + 1) j = g (23 + 1) j) → am_wp l dC dI tc mm5_isBefore 0 58 58 (fun r s => s = (58, f, g, pr_r a b c) ∧ ((r = some (.inl 1) ∧ zBf f g 29 23) ∨ (r = some (.inl 0) ∧ ¬ zBf f g 29 23))) 16 [some (.inr (.inr (some 29))), some (.inr (.inr (some 23))), some (.inl i)] [] (58, f, g, pr_r a b c) := by
    intro ht n
    induction n with
    | zero =>
      intro i hn hi hj
      iterate 3 (refine am_go rfl (by first | exact True.intro | omega | exact ⟨by decide, Nat.le_of_ble_eq_true rfl, Nat.le_of_ble_eq_true rfl⟩ | exact ⟨by decide, Nat.le_of_ble_eq_true rfl⟩) ?_)
      refine am_if rfl (fun c1 => ?_) (fun c1 => ?_)
      · (refine am_go rfl (by first | exact True.intro | omega | exact ⟨by decide, Nat.le_of_ble_eq_true rfl, Nat.le_of_ble_eq_true rfl⟩ | exact ⟨by decide, Nat.le_of_ble_eq_true rfl⟩) ?_)
        refine am_zret rfl rfl (Or.inl rfl) rfl ⟨rfl, Or.inr ⟨rfl, ?_⟩⟩
        rintro (u | ⟨-, k, k1, k2, k3, k4⟩)
        · omega
        · have := hj k k1 (by omega)
          omega
      · omega
    | succ n ih =>
      intro i hn hi hj
      iterate 3 (refine am_go rfl (by first | exact True.intro | omega | exact ⟨by decide, Nat.le_of_ble_eq_true rfl, Nat.le_of_ble_eq_true rfl⟩ | exact ⟨by decide, Nat.le_of_ble_eq_true rfl⟩) ?_)
      refine am_if rfl (fun c1 => ?_) (fun c1 => ?_)
      · (refine am_go rfl (by first | exact True.intro | omega | exact ⟨by decide, Nat.le_of_ble_eq_true rfl, Nat.le_of_ble_eq_true rfl⟩ | exact ⟨by decide, Nat.le_of_ble_eq_true rfl⟩) ?_)
        refine am_zret rfl rfl (Or.inl rfl) rfl ⟨rfl, Or.inr ⟨rfl, ?_⟩⟩
        rintro (u | ⟨-, k, k1, k2, k3, k4⟩)
        · omega
        · have := hj k k1 (by omega)
          omega
      · iterate 3 (refine am_go rfl (by first | exact True.intro | omega | exact ⟨by decide, Nat.le_of_ble_eq_true rfl, Nat.le_of_ble_eq_true rfl⟩ | exact ⟨by decide, Nat.le_of_ble_eq_true rfl⟩) ?_)
        refine am_if rfl (fun c2 => ?_) (fun c2 => ?_)
        · omega
        · iterate 8 (refine am_go rfl (by first | exact True.intro | omega | exact ⟨by decide, Nat.le_of_ble_eq_true rfl, Nat.le_of_ble_eq_true rfl⟩ | exact ⟨by decide, Nat.le_of_ble_eq_true rfl⟩) ?_)
          refine am_if rfl (fun c3 => ?_) (fun c3 => ?_)
          · iterate 2 (refine am_go rfl (by first | exact True.intro | omega | exact ⟨by decide, Nat.le_of_ble_eq_true rfl, Nat.le_of_ble_eq_true rfl⟩ | exact ⟨by decide, Nat.le_of_ble_eq_true rfl⟩) ?_)
            refine ih (i + 1) (by omega) (by omega) (fun j j1 j2 => ?_)
            by_cases e : j = i
            · subst e
              exact c3
            · exact hj j j1 (by omega)
          · have c3 : ¬ g (29 + 1) i = g (23 + 1) i := c3
            iterate 8 (refine am_go rfl (by first | exact True.intro | omega | exact ⟨by decide, Nat.le_of_ble_eq_true rfl, Nat.le_of_ble_eq_true rfl⟩ | exact ⟨by decide, Nat.le_of_ble_eq_true rfl⟩) ?_)
            refine am_if rfl (fun c4 => ?_) (fun c4 => ?_)
            · have c4 : g (23 + 1) i ≤ g (29 + 1) i := c4
              (refine am_go rfl (by first | exact True.intro | omega | exact ⟨by decide, Nat.le_of_ble_eq_true rfl, Nat.le_of_ble_eq_true rfl⟩ | exact ⟨by decide, Nat.le_of_ble_eq_true rfl⟩) ?_)
              refine am_zret rfl rfl (Or.inl rfl) rfl ⟨rfl, Or.inr ⟨rfl, ?_⟩⟩
              rintro (u | ⟨-, k, k1, k2, k3, k4⟩)
              · omega
              · rcases Int.lt_trichotomy k i with w | w | w
                · have := hj k k1 w
                  omega
                · subst w
                  omega
                · exact c3 (k3 i hi w)
            · have c4 : ¬ g (23 + 1) i ≤ g (29 + 1) i := c4
              iterate 2 (refine am_go rfl (by first | exact True.intro | omega | exact ⟨by decide, Nat.le_of_ble_eq_true rfl, Nat.le_of_ble_eq_true rfl⟩ | exact ⟨by decide, Nat.le_of_ble_eq_true rfl⟩) ?_)
              refine am_zret rfl rfl (Or.inr rfl) rfl ⟨rfl, Or.inl ⟨rfl, Or.inr ⟨ht, i, hi, by omega, hj, by omega⟩⟩⟩
  refine am_enter ok_5_isBefore rfl (by decide) (Nat.le_of_ble_eq_true rfl) rfl ?_
  iterate 4 (refine am_go rfl (by first | exact True.intro | omega | exact ⟨by decide, Nat.le_of_ble_eq_true rfl, Nat.le_of_ble_eq_true rfl⟩ | exact ⟨by decide, Nat.le_of_ble_eq_true rfl⟩) ?_)
  refine am_if rfl (fun c1 => ?_) (fun c1 => ?_)
  · iterate 2 (refine am_go rfl (by first | exact True.intro | omega | exact ⟨by decide, Nat.le_of_ble_eq_true rfl, Nat.le_of_ble_eq_true rfl⟩ | exact ⟨by decide, Nat.le_of_ble_eq_true rfl⟩) ?_)
    exact loop c1 _ 0 (Nat.le_refl _) (by omega) (fun j j1 j2 => by omega)
  · iterate 4 (refine am_go rfl (by first | exact True.intro | omega | exact ⟨by decide, Nat.le_of_ble_eq_true rfl, Nat.le_of_ble_eq_true rfl⟩ | exact ⟨by decide, Nat.le_of_ble_eq_true rfl⟩) ?_)
    refine am_if rfl (fun c2 => ?_) (fun c2 => ?_)
    · (refine am_go rfl (by first | exact True.intro | omega | exact ⟨by decide, Nat.le_of_ble_eq_true rfl, Nat.le_of_ble_eq_true rfl⟩ | exact ⟨by decide, Nat.le_of_ble_eq_true rfl⟩) ?_)
      refine am_zret rfl rfl (Or.inl rfl) rfl ⟨rfl, Or.inr ⟨rfl, ?_⟩⟩
      rintro (u | u)
      · omega
      · exact c1 u.1
    · iterate 2 (refine am_go rfl (by first | exact True.intro | omega | exact ⟨by decide, Nat.le_of_ble_eq_true rfl, Nat.le_of_ble_eq_true rfl⟩ | exact ⟨by decide, Nat.le_of_ble_eq_true rfl⟩) ?_)
      exact am_zret rfl rfl (Or.inr rfl) rfl ⟨rfl, Or.inl ⟨rfl, Or.inl (by omega)⟩⟩
set_option maxRecDepth 100000 in
set_option maxHeartbeats 4000000 in
theorem ct_before29_26 (h1 : 0 ≤ f 29 2 ∧ f 29 2 ≤ 9) (h2 : f 29 2 = f 26 2) : am_Ct l dC dI tc mm5_isBefore 0 58 [(.inr (.inr (some 29))), (.inr (.inr (some 26)))] (58, f, g, pr_r a b c) (fun r s => s = (58, f, g, pr_r a b c) ∧ ((r = some (.inl 1) ∧ zBf f g 29 26) ∨ (r = some (.inl 0) ∧ ¬ zBf f g 29 26))) := by
  have loop : f 29 1 = f 26 1 → ∀ (n : Nat) (i : Int), (f 29 2 - i).toNat ≤ n → 0 ≤ i → (∀ j, 0 ≤ j → j < i → g (29 + 1) j = g (26 + 1) j) → am_wp l dC dI tc mm5_isBefore 0 58 58 (fun r s => s = (58, f, g, pr_r a b c) ∧ ((r = some (.inl 1) ∧ zBf f g 29 26) ∨ (r = some (.inl 0) ∧ ¬ zBf f g 29 26))) 16 [some (.inr (.inr (some 29))), some (.inr (.inr (some 26))), some (.inl i)] [] (58, f, g, pr_r a b c) := by
    intro ht n
    induction n with
    | zero =>
      intro i hn hi hj
      iterate 3 (refine am_go rfl (by first | exact True.intro | omega | exact ⟨by decide, Nat.le_of_ble_eq_true rfl, Nat.le_of_ble_eq_true rfl⟩ | exact ⟨by decide, Nat.le_of_ble_eq_true rfl⟩) ?_)
      refine am_if rfl (fun c1 => ?_) (fun c1 => ?_)
      · (refine am_go rfl (by first | exact True.intro | omega | exact ⟨by decide, Nat.le_of_ble_eq_true rfl, Nat.le_of_ble_eq_true rfl⟩ | exact ⟨by decide, Nat.le_of_ble_eq_true rfl⟩) ?_)
        refine am_zret rfl rfl (Or.inl rfl) rfl ⟨rfl, Or.inr ⟨rfl, ?_⟩⟩
        rintro (u | ⟨-, k, k1, k2, k3, k4⟩)
        · omega
        · have := hj k k1 (by omega)
          omega
      · omega
    | succ n ih =>
      intro i hn hi hj
      iterate 3 (refine am_go rfl (by first | exact True.intro | omega | exact ⟨by decide, Nat.le_of_ble_eq_true rfl, Nat.le_of_ble_eq_true rfl⟩ | exact ⟨by decide, Nat.le_of_ble_eq_true rfl⟩) ?_)
      refine am_if rfl (fun c1 => ?_) (fun c1 => ?_)
      · (refine am_go rfl (by first | exact True.intro | omega | exact ⟨by decide, Nat.le_of_ble_eq_true rfl, Nat.le_of_ble_eq_true rfl⟩ | exact ⟨by decide, Nat.le_of_ble_eq_true rfl⟩) ?_)
        refine am_zret rfl rfl (Or.inl rfl) rfl ⟨rfl, Or.inr ⟨rfl, ?_⟩⟩
        rintro (u | ⟨-, k, k1, k2, k3, k4⟩)
        · omega
        · have := hj k k1 (by omega)
          omega
      · iterate 3 (refine am_go rfl (by first | exact True.intro | omega | exact ⟨by decide, Nat.le_of_ble_eq_true rfl, Nat.le_of_ble_eq_true rfl⟩ | exact ⟨by decide, Nat.le_of_ble_eq_true rfl⟩) ?_)
        refine am_if rfl (fun c2 => ?_) (fun c2 => ?_)
        · omega
        · iterate 8 (refine am_go rfl (by first | exact True.intro | omega | exact ⟨by decide, Nat.le_of_ble_eq_true rfl, Nat.le_of_ble_eq_true rfl⟩ | exact ⟨by decide, Nat.le_of_ble_eq_true rfl⟩) ?_)
          refine am_if rfl (fun c3 => ?_) (fun c3 => ?_)
          · iterate 2 (refine am_go rfl (by first | exact True.intro | omega | exact ⟨by decide, Nat.le_of_ble_eq_true rfl, Nat.le_of_ble_eq_true rfl⟩ | exact ⟨by decide, Nat.le_of_ble_eq_true rfl⟩) ?_)
            refine ih (i + 1) (by omega) (by omega) (fun j j1 j2 => ?_)
            by_cases e : j = i
            · subst e
              exact c3
            · exact hj j j1 (by omega)
          · have c3 : ¬ g (29 + 1) i = g (26 + 1) i := c3
            iterate 8 (refine am_go rfl (by first | exact True.intro | omega | exact ⟨by decide, Nat.le_of_ble_eq_true rfl, Nat.le_of_ble_eq_true rfl⟩ | exact ⟨by decide, Nat.le_of_ble_eq_true rfl⟩) ?_)
            refine am_if rfl (fun c4 => ?_) (fun c4 => ?_)
            · have c4 : g (26 + 1) i ≤ g (29 + 1) i := c4
              (refine am_go rfl (by first | exact True.intro | omega | exact ⟨by decide, Nat.le_of_ble_eq_true rfl, Nat.le_of_ble_eq_true rfl⟩ | exact ⟨by decide, Nat.le_of_ble_eq_true rfl⟩) ?_)
              refine am_zret rfl rfl (Or.inl rfl) rfl ⟨rfl, Or.inr ⟨rfl, ?_⟩⟩
              rintro (u | ⟨-, k, k1, k2, k3, k4⟩)
              · omega
              · rcases Int.lt_trichotomy k i with w | w | w
                · have := hj k k1 w
                  omega
                · subst w
                  omega
                · exact c3 (k3 i hi w)
            · have c4 : ¬ g (26 + 1) i ≤ g (29 + 1) i := c4
              iterate 2 (refine am_go rfl (by first | exact True.intro | omega | exact ⟨by decide, Nat.le_of_ble_eq_true rfl, Nat.le_of_ble_eq_true rfl⟩ | exact ⟨by decide, Nat.le_of_ble_eq_true rfl⟩) ?_)
              refine am_zret rfl rfl (Or.inr rfl) rfl ⟨rfl, Or.inl ⟨rfl, Or.inr ⟨ht, i, hi, by omega, hj, by omega⟩⟩⟩
  refine am_enter ok_5_isBefore rfl (by decide) (Nat.le_of_ble_eq_true rfl) rfl ?_
  iterate 4 (refine am_go rfl (by first | exact True.intro | omega | exact ⟨by decide, Nat.le_of_ble_eq_true rfl, Nat.le_of_ble_eq_true rfl⟩ | exact ⟨by decide, Nat.le_of_ble_eq_true rfl⟩) ?_)
  refine am_if rfl (fun c1 => ?_) (fun c1 => ?_)
  · iterate 2 (refine am_go rfl (by first | exact True.intro | omega | exact ⟨by decide, Nat.le_of_ble_eq_true rfl, Nat.le_of_ble_eq_true rfl⟩ | exact ⟨by decide, Nat.le_of_ble_eq_true rfl⟩) ?_)
    exact loop c1 _ 0 (Nat.le_refl _) (by omega) (fun j j1 j2 => by omega)
  · iterate 4 (refine am_go rfl (by first | exact True.intro | omega | exact ⟨by decide, Nat.le_of_ble_eq_true rfl, Nat.le_of_ble_eq_true rfl⟩ | exact ⟨by decide, Nat.le_of_ble_eq_true rfl⟩) ?_)
    refine am_if rfl (fun c2 => ?_) (fun c2 => ?_)
    · (refine am_go rfl (by first | exact True.intro | omega | exact ⟨by decide, Nat.le_of_ble_eq_true rfl, Nat.le_of_ble_eq_true rfl⟩ | exact ⟨by decide, Nat.le_of_ble_eq_true rfl⟩) ?_)
      refine am_zret rfl rfl (Or.inl rfl) rfl ⟨rfl, Or.inr ⟨rfl, ?_⟩⟩
      rintro (u | u)
      · omega
      · exact c1 u.1
    · iterate 2 (refine am_go rfl (by first | exact True.intro | omega | exact ⟨by decide, Nat.le_of_ble_eq_true rfl, Nat.le_of_ble_eq_true rfl⟩ | exact ⟨by decide, Nat.le_of_ble_eq_true rfl⟩) ?_)
      exact am_zret rfl rfl (Or.inr rfl) rfl ⟨rfl, Or.inl ⟨rfl, Or.inl (by omega)⟩⟩
set_option maxRecDepth 100000 in
set_option maxHeartbeats 4000000 in
theorem ct_admit23_26_29 (h1 : 0 ≤ f 29 2 ∧ f 29 2 ≤ 9) (h2 : f 23 0 ≠ -1 → f 29 2 = f 23 2) (h3 : f 26 0 ≠ -1 → f 29 2 = f 26 2) : am_Ct l dC dI tc mm4_admitCandidate 1 58 [(.inr (.inr (some 22)))] (58, f, g, pr_r 23 26 29) (fun r s => r = none ∧ (((f 23 0 = -1 ∨ zBf f g 29 23) ∧ s = (58, f, g, pr_r 29 23 26)) ∨ (¬ (f 23 0 = -1 ∨ zBf f g 29 23) ∧ (f 26 0 = -1 ∨ zBf f g 29 26) ∧ s = (58, f, g, pr_r 23 29 26)) ∨ (¬ (f 23 0 = -1 ∨ zBf f g 29 23) ∧ ¬ (f 26 0 = -1 ∨ zBf f g 29 26) ∧ s = (58, f, g, pr_r 23 26 29)))) := by
  have first : (f 23 0 = -1 ∨ zBf f g 29 23) → am_wp l dC dI tc mm4_admitCandidate 1 58 58 (fun r s => r = none ∧ (((f 23 0 = -1 ∨ zBf f g 29 23) ∧ s = (58, f, g, pr_r 29 23 26)) ∨ (¬ (f 23 0 = -1 ∨ zBf f g 29 23) ∧ (f 26 0 = -1 ∨ zBf f g 29 26) ∧ s = (58, f, g, pr_r 23 29 26)) ∨ (¬ (f 23 0 = -1 ∨ zBf f g 29 23) ∧ ¬ (f 26 0 = -1 ∨ zBf f g 29 26) ∧ s = (58, f, g, pr_r 23 26 29)))) 11 [some (.inr (.inr (some 22))), none] [] (58, f, g, pr_r 23 26 29) := by
    intro hb
    iterate 15 (refine am_go rfl (by first | exact True.intro | omega | exact ⟨by decide, Nat.le_of_ble_eq_true rfl, Nat.le_of_ble_eq_true rfl⟩ | exact ⟨by decide, Nat.le_of_ble_eq_true rfl⟩) ?_)
    refine am_vret (x := 0) rfl rfl rfl ⟨rfl, Or.inl ⟨hb, ?_⟩⟩
    rw [pr_u1, pr_u0, pr_u3]
  have second : ¬ (f 23 0 = -1 ∨ zBf f g 29 23) → am_wp l dC dI tc mm4_admitCandidate 1 58 58 (fun r s => r = none ∧ (((f 23 0 = -1 ∨ zBf f g 29 23) ∧ s = (58, f, g, pr_r 29 23 26)) ∨ (¬ (f 23 0 = -1 ∨ zBf f g 29 23) ∧ (f 26 0 = -1 ∨ zBf f g 29 26) ∧ s = (58, f, g, pr_r 23 29 26)) ∨ (¬ (f 23 0 = -1 ∨ zBf f g 29 23) ∧ ¬ (f 26 0 = -1 ∨ zBf f g 29 26) ∧ s = (58, f, g, pr_r 23 26 29)))) 26 [some (.inr (.inr (some 22))), none] [] (58, f, g, pr_r 23 26 29) := by
    intro ha
    have go : (f 26 0 = -1 ∨ zBf f g 29 26) → am_wp l dC dI tc mm4_admitCandidate 1 58 58 (fun r s => r = none ∧ (((f 23 0 = -1 ∨ zBf f g 29 23) ∧ s = (58, f, g, pr_r 29 23 26)) ∨ (¬ (f 23 0 = -1 ∨ zBf f g 29 23) ∧ (f 26 0 = -1 ∨ zBf f g 29 26) ∧ s = (58, f, g, pr_r 23 29 26)) ∨ (¬ (f 23 0 = -1 ∨ zBf f g 29 23) ∧ ¬ (f 26 0 = -1 ∨ zBf f g 29 26) ∧ s = (58, f, g, pr_r 23 26 29)))) 37 [some (.inr (.inr (some 22))), none] [] (58, f, g, pr_r 23 26 29) := by
      intro hb
      iterate 10 (refine am_go rfl (by first | exact True.intro | omega | exact ⟨by decide, Nat.le_of_ble_eq_true rfl, Nat.le_of_ble_eq_true rfl⟩ | exact ⟨by decide, Nat.le_of_ble_eq_true rfl⟩) ?_)
      refine am_vret (x := 0) rfl rfl rfl ⟨rfl, Or.inr (Or.inl ⟨ha, hb, ?_⟩)⟩
      rw [pr_u1, pr_u3]
    iterate 4 (refine am_go rfl (by first | exact True.intro | omega | exact ⟨by decide, Nat.le_of_ble_eq_true rfl, Nat.le_of_ble_eq_true rfl⟩ | exact ⟨by decide, Nat.le_of_ble_eq_true rfl⟩) ?_)
    refine am_if rfl (fun c1 => ?_) (fun c1 => ?_)
    · exact go (Or.inl c1)
    · iterate 4 (refine am_go rfl (by first | exact True.intro | omega | exact ⟨by decide, Nat.le_of_ble_eq_true rfl, Nat.le_of_ble_eq_true rfl⟩ | exact ⟨by decide, Nat.le_of_ble_eq_true rfl⟩) ?_)
      refine am_call rfl (ct_before29_26 h1 (h3 c1)) (by decide) (Nat.le_of_ble_eq_true rfl) (Nat.le_of_ble_eq_true rfl) (Nat.le_of_ble_eq_true rfl) (fun rv s q => ?_)
      obtain ⟨rfl, ⟨rfl, hz⟩ | ⟨rfl, hz⟩⟩ := q
      · refine am_if rfl (fun c2 => ?_) (fun c2 => ?_)
        · omega
        · exact go (Or.inr hz)
      · refine am_if rfl (fun c2 => ?_) (fun c2 => ?_)
        · exact am_vret (x := 0) rfl rfl rfl ⟨rfl, Or.inr (Or.inr ⟨ha, fun u => u.elim c1 hz, rfl⟩)⟩
        · omega
  refine am_enter ok_4_admitCandidate rfl (by decide) (Nat.le_of_ble_eq_true rfl) rfl ?_
  iterate 4 (refine am_go rfl (by first | exact True.intro | omega | exact ⟨by decide, Nat.le_of_ble_eq_true rfl, Nat.le_of_ble_eq_true rfl⟩ | exact ⟨by decide, Nat.le_of_ble_eq_true rfl⟩) ?_)
  refine am_if rfl (fun c1 => ?_) (fun c1 => ?_)
  · exact first (Or.inl c1)
  · iterate 4 (refine am_go rfl (by first | exact True.intro | omega | exact ⟨by decide, Nat.le_of_ble_eq_true rfl, Nat.le_of_ble_eq_true rfl⟩ | exact ⟨by decide, Nat.le_of_ble_eq_true rfl⟩) ?_)
    refine am_call rfl (ct_before29_23 h1 (h2 c1)) (by decide) (Nat.le_of_ble_eq_true rfl) (Nat.le_of_ble_eq_true rfl) (Nat.le_of_ble_eq_true rfl) (fun rv s q => ?_)
    obtain ⟨rfl, ⟨rfl, hz⟩ | ⟨rfl, hz⟩⟩ := q
    · refine am_if rfl (fun c2 => ?_) (fun c2 => ?_)
      · omega
      · exact first (Or.inr hz)
    · refine am_if rfl (fun c2 => ?_) (fun c2 => ?_)
      · exact second (fun u => u.elim c1 hz)
      · omega
set_option maxRecDepth 100000 in
set_option maxHeartbeats 4000000 in
theorem ct_admit23_29_26 (h1 : 0 ≤ f 26 2 ∧ f 26 2 ≤ 9) (h2 : f 23 0 ≠ -1 → f 26 2 = f 23 2) (h3 : f 29 0 ≠ -1 → f 26 2 = f 29 2) : am_Ct l dC dI tc mm4_admitCandidate 1 58 [(.inr (.inr (some 22)))] (58, f, g, pr_r 23 29 26) (fun r s => r = none ∧ (((f 23 0 = -1 ∨ zBf f g 26 23) ∧ s = (58, f, g, pr_r 26 23 29)) ∨ (¬ (f 23 0 = -1 ∨ zBf f g 26 23) ∧ (f 29 0 = -1 ∨ zBf f g 26 29) ∧ s = (58, f, g, pr_r 23 26 29)) ∨ (¬ (f 23 0 = -1 ∨ zBf f g 26 23) ∧ ¬ (f 29 0 = -1 ∨ zBf f g 26 29) ∧ s = (58, f, g, pr_r 23 29 26)))) := by
  have first : (f 23 0 = -1 ∨ zBf f g 26 23) → am_wp l dC dI tc mm4_admitCandidate 1 58 58 (fun r s => r = none ∧ (((f 23 0 = -1 ∨ zBf f g 26 23) ∧ s = (58, f, g, pr_r 26 23 29)) ∨ (¬ (f 23 0 = -1 ∨ zBf f g 26 23) ∧ (f 29 0 = -1 ∨ zBf f g 26 29) ∧ s = (58, f, g, pr_r 23 26 29)) ∨ (¬ (f 23 0 = -1 ∨ zBf f g 26 23) ∧ ¬ (f 29 0 = -1 ∨ zBf f g 26 29) ∧ s = (58, f, g, pr_r 23 29 26)))) 11 [some (.inr (.inr (some 22))), none] [] (58, f, g, pr_r 23 29 26) := by
    intro hb
    iterate 15 (refine am_go rfl (by first | exact True.intro | omega | exact ⟨by decide, Nat.le_of_ble_eq_true rfl, Nat.le_of_ble_eq_true rfl⟩ | exact ⟨by decide, Nat.le_of_ble_eq_true rfl⟩) ?_)
    refine am_vret (x := 0) rfl rfl rfl ⟨rfl, Or.inl ⟨hb, ?_⟩⟩
    rw [pr_u1, pr_u0, pr_u3]
  have second : ¬ (f 23 0 = -1 ∨ zBf f g 26 23) → am_wp l dC dI tc mm4_admitCandidate 1 58 58 (fun r s => r = none ∧ (((f 23 0 = -1 ∨ zBf f g 26 23) ∧ s = (58, f, g, pr_r 26 23 29)) ∨ (¬ (f 23 0 = -1 ∨ zBf f g 26 23) ∧ (f 29 0 = -1 ∨ zBf f g 26 29) ∧ s = (58, f, g, pr_r 23 26 29)) ∨ (¬ (f 23 0 = -1 ∨ zBf f g 26 23) ∧ ¬ (f 29 0 = -1 ∨ zBf f g 26 29) ∧ s = (58, f, g, pr_r 23 29 26)))) 26 [some (.inr (.inr (some 22))), none] [] (58, f, g, pr_r 23 29 26) := by
    intro ha
    have go : (f 29 0 = -1 ∨ zBf f g 26 29) → am_wp l dC dI tc mm4_admitCandidate 1 58 58 (fun r s => r = none ∧ (((f 23 0 = -1 ∨ zBf f g 26 23) ∧ s = (58, f, g, pr_r 26 23 29)) ∨ (¬ (f 23 0 = -1 ∨ zBf f g 26 23) ∧ (f 29 0 = -1 ∨ zBf f g 26 29) ∧ s = (58, f, g, pr_r 23 26 29)) ∨ (¬ (f 23 0 = -1 ∨ zBf f g 26 23) ∧ ¬ (f 29 0 = -1 ∨ zBf f g 26 29) ∧ s = (58, f, g, pr_r 23 29 26)))) 37 [some (.inr (.inr (some 22))), none] [] (58, f, g, pr_r 23 29 26) := by
      intro hb
      iterate 10 (refine am_go rfl (by first | exact True.intro | omega | exact ⟨by decide, Nat.le_of_ble_eq_true rfl, Nat.le_of_ble_eq_true rfl⟩ | exact ⟨by decide, Nat.le_of_ble_eq_true rfl⟩) ?_)
      refine am_vret (x := 0) rfl rfl rfl ⟨rfl, Or.inr (Or.inl ⟨ha, hb, ?_⟩)⟩
      rw [pr_u1, pr_u3]
    iterate 4 (refine am_go rfl (by first | exact True.intro | omega | exact ⟨by decide, Nat.le_of_ble_eq_true rfl, Nat.le_of_ble_eq_true rfl⟩ | exact ⟨by decide, Nat.le_of_ble_eq_true rfl⟩) ?_)
    refine am_if rfl (fun c1 => ?_) (fun c1 => ?_)
    · exact go (Or.inl c1)
    · iterate 4 (refine am_go rfl (by first | exact True.intro | omega | exact ⟨by decide, Nat.le_of_ble_eq_true rfl, Nat.le_of_ble_eq_true rfl⟩ | exact ⟨by decide, Nat.le_of_ble_eq_true rfl⟩) ?_)
      refine am_call rfl (ct_before26_29 h1 (h3 c1)) (by decide) (Nat.le_of_ble_eq_true rfl) (Nat.le_of_ble_eq_true rfl) (Nat.le_of_ble_eq_true rfl) (fun rv s q => ?_)
      obtain ⟨rfl, ⟨rfl, hz⟩ | ⟨rfl, hz⟩⟩ := q
      · refine am_if rfl (fun c2 => ?_) (fun c2 => ?_)
        · omega
        · exact go (Or.inr hz)
      · refine am_if rfl (fun c2 => ?_) (fun c2 => ?_)
        · exact am_vret (x := 0) rfl rfl rfl ⟨rfl, Or.inr (Or.inr ⟨ha, fun u => u.elim c1 hz, rfl⟩)⟩
        · omega
  refine am_enter ok_4_admitCandidate rfl (by decide) (Nat.le_of_ble_eq_true rfl) rfl ?_
  iterate 4 (refine am_go rfl (by first | exact True.intro | omega | exact ⟨by decide, Nat.le_of_ble_eq_true rfl, Nat.le_of_ble_eq_true rfl⟩ | exact ⟨by decide, Nat.le_of_ble_eq_true rfl⟩) ?_)
  refine am_if rfl (fun c1 => ?_) (fun c1 => ?_)
  · exact first (Or.inl c1)
  · iterate 4 (refine am_go rfl (by first | exact True.intro | omega | exact ⟨by decide, Nat.le_of_ble_eq_true rfl, Nat.le_of_ble_eq_true rfl⟩ | exact ⟨by decide, Nat.le_of_ble_eq_true rfl⟩) ?_)
    refine am_call rfl (ct_before26_23 h1 (h2 c1)) (by decide) (Nat.le_of_ble_eq_true rfl) (Nat.le_of_ble_eq_true rfl) (Nat.le_of_ble_eq_true rfl) (fun rv s q => ?_)
    obtain ⟨rfl, ⟨rfl, hz⟩ | ⟨rfl, hz⟩⟩ := q
    · refine am_if rfl (fun c2 => ?_) (fun c2 => ?_)
      · omega
      · exact first (Or.inr hz)
    · refine am_if rfl (fun c2 => ?_) (fun c2 => ?_)
      · exact second (fun u => u.elim c1 hz)
      · omega
set_option maxRecDepth 100000 in
set_option maxHeartbeats 4000000 in
theorem ct_admit26_23_29 (h1 : 0 ≤ f 29 2 ∧ f 29 2 ≤ 9) (h2 : f 26 0 ≠ -1 → f 29 2 = f 26 2) (h3 : f 23 0 ≠ -1 → f 29 2 = f 23 2) : am_Ct l dC dI tc mm4_admitCandidate 1 58 [(.inr (.inr (some 22)))] (58, f, g, pr_r 26 23 29) (fun r s => r = none ∧ (((f 26 0 = -1 ∨ zBf f g 29 26) ∧ s = (58, f, g, pr_r 29 26 23)) ∨ (¬ (f 26 0 = -1 ∨ zBf f g 29 26) ∧ (f 23 0 = -1 ∨ zBf f g 29 23) ∧ s = (58, f, g, pr_r 26 29 23)) ∨ (¬ (f 26 0 = -1 ∨ zBf f g 29 26) ∧ ¬ (f 23 0 = -1 ∨ zBf f g 29 23) ∧ s = (58, f, g, pr_r 26 23 29)))) := by
  have first : (f 26 0 = -1 ∨ zBf f g 29 26) → am_wp l dC dI tc mm4_admitCandidate 1 58 58 (fun r s => r = none ∧ (((f 26 0 = -1 ∨ zBf f g 29 26) ∧ s = (58, f, g, pr_r 29 26 23)) ∨ (¬ (f 26 0 = -1 ∨ zBf f g 29 26) ∧ (f 23 0 = -1 ∨ zBf f g 29 23) ∧ s = (58, f, g, pr_r 26 29 23)) ∨ (¬ (f 26 0 = -1 ∨ zBf f g 29 26) ∧ ¬ (f 23 0 = -1 ∨ zBf f g 29 23) ∧ s = (58, f, g, pr_r 26 23 29)))) 11 [some (.inr (.inr (some 22))), none] [] (58, f, g, pr_r 26 23 29) := by
    intro hb
    iterate 15 (refine am_go rfl (by first | exact True.intro | omega | exact ⟨by decide, Nat.le_of_ble_eq_true rfl, Nat.le_of_ble_eq_true rfl⟩ | exact ⟨by decide, Nat.le_of_ble_eq_true rfl⟩) ?_)
    refine am_vret (x := 0) rfl rfl rfl ⟨rfl, Or.inl ⟨hb, ?_⟩⟩
    rw [pr_u1, pr_u0, pr_u3]
  have second : ¬ (f 26 0 = -1 ∨ zBf f g 29 26) → am_wp l dC dI tc mm4_admitCandidate 1 58 58 (fun r s => r = none ∧ (((f 26 0 = -1 ∨ zBf f g 29 26) ∧ s = (58, f, g, pr_r 29 26 23)) ∨ (¬ (f 26 0 = -1 ∨ zBf f g 29 26) ∧ (f 23 0 = -1 ∨ zBf f g 29 23) ∧ s = (58, f, g, pr_r 26 29 23)) ∨ (¬ (f 26 0 = -1 ∨ zBf f g 29 26) ∧ ¬ (f 23 0 = -1 ∨ zBf f g 29 23) ∧ s = (58, f, g, pr_r 26 23 29)))) 26 [some (.inr (.inr (some 22))), none] [] (58, f, g, pr_r 26 23 29) := by
    intro ha
    have go : (f 23 0 = -1 ∨ zBf f g 29 23) → am_wp l dC dI tc mm4_admitCandidate 1 58 58 (fun r s => r = none ∧ (((f 26 0 = -1 ∨ zBf f g 29 26) ∧ s = (58, f, g, pr_r 29 26 23)) ∨ (¬ (f 26 0 = -1 ∨ zBf f g 29 26) ∧ (f 23 0 = -1 ∨ zBf f g 29 23) ∧ s = (58, f, g, pr_r 26 29 23)) ∨ (¬ (f 26 0 = -1 ∨ zBf f g 29 26) ∧ ¬ (f 23 0 = -1 ∨ zBf f g 29 23) ∧ s = (58, f, g, pr_r 26 23 29)))) 37 [some (.inr (.inr (some 22))), none] [] (58, f, g, pr_r 26 23 29) := by
      intro hb
      iterate 10 (refine am_go rfl (by first | exact True.intro | omega | exact ⟨by decide, Nat.le_of_ble_eq_true rfl, Nat.le_of_ble_eq_true rfl⟩ | exact ⟨by decide, Nat.le_of_ble_eq_true rfl⟩) ?_)
      refine am_vret (x := 0) rfl rfl rfl ⟨rfl, Or.inr (Or.inl ⟨ha, hb, ?_⟩)⟩
      rw [pr_u1, pr_u3]
    iterate 4 (refine am_go rfl (by first | exact True.intro | omega | exact ⟨by decide, Nat.le_of_ble_eq_true rfl, Nat.le_of_ble_eq_true rfl⟩ | exact ⟨by decide, Nat.le_of_ble_eq_true rfl⟩) ?_)
    refine am_if rfl (fun c1 => ?_) (fun c1 => ?_)
    · exact go (Or.inl c1)
    · iterate 4 (refine am_go rfl (by first | exact True.intro | omega | exact ⟨by decide, Nat.le_of_ble_eq_true rfl, Nat.le_of_ble_eq_true rfl⟩ | exact ⟨by decide, Nat.le_of_ble_eq_true rfl⟩) ?_)
      refine am_call rfl (ct_before29_23 h1 (h3 c1)) (by decide) (Nat.le_of_ble_eq_true rfl) (Nat.le_of_ble_eq_true rfl) (Nat.le_of_ble_eq_true rfl) (fun rv s q => ?_)
      obtain ⟨rfl, ⟨rfl, hz⟩ | ⟨rfl, hz⟩⟩ := q
      · refine am_if rfl (fun c2 => ?_) (fun c2 => ?_)
        · omega
        · exact go (Or.inr hz)
      · refine am_if rfl (fun c2 => ?_) (fun c2 => ?_)
        · exact am_vret (x := 0) rfl rfl rfl ⟨rfl, Or.inr (Or.inr ⟨ha, fun u => u.elim c1 hz, rfl⟩)⟩
        · omega
  refine am_enter ok_4_admitCandidate rfl (by decide) (Nat.le_of_ble_eq_true rfl) rfl ?_
  iterate 4 (refine am_go rfl (by first | exact True.intro | omega | exact ⟨by decide, Nat.le_of_ble_eq_true rfl, Nat.le_of_ble_eq_true rfl⟩ | exact ⟨by decide, Nat.le_of_ble_eq_true rfl⟩) ?_)
  refine am_if rfl (fun c1 => ?_) (fun c1 => ?_)
  · exact first (Or.inl c1)
  · iterate 4 (refine am_go rfl (by first | exact True.intro | omega | exact ⟨by decide, Nat.le_of_ble_eq_true rfl, Nat.le_of_ble_eq_true rfl⟩ | exact ⟨by decide, Nat.le_of_ble_eq_true rfl⟩) ?_)
    refine am_call rfl (ct_before29_26 h1 (h2 c1)) (by decide) (Nat.le_of_ble_eq_true rfl) (Nat.le_of_ble_eq_true rfl) (Nat.le_of_ble_eq_true rfl) (fun rv s q => ?_)
    obtain ⟨rfl, ⟨rfl, hz⟩ | ⟨rfl, hz⟩⟩ := q
    · refine am_if rfl (fun c2 => ?_) (fun c2 => ?_)
      · omega
      · exact first (Or.inr hz)
    · refine am_if rfl (fun c2 => ?_) (fun c2 => ?_)
      · exact second (fun u => u.elim c1 hz)
      · omega
set_option maxRecDepth 100000 in
set_option maxHeartbeats 4000000 in
theorem ct_admit26_29_23 (h1 : 0 ≤ f 23 2 ∧ f 23 2 ≤ 9) (h2 : f 26 0 ≠ -1 → f 23 2 = f 26 2) (h3 : f 29 0 ≠ -1 → f 23 2 = f 29 2) : am_Ct l dC dI tc mm4_admitCandidate 1 58 [(.inr (.inr (some 22)))] (58, f, g, pr_r 26 29 23) (fun r s => r = none ∧ (((f 26 0 = -1 ∨ zBf f g 23 26) ∧ s = (58, f, g, pr_r 23 26 29)) ∨ (¬ (f 26 0 = -1 ∨ zBf f g 23 26) ∧ (f 29 0 = -1 ∨ zBf f g 23 29) ∧ s = (58, f, g, pr_r 26 23 29)) ∨ (¬ (f 26 0 = -1 ∨ zBf f g 23 26) ∧ ¬ (f 29 0 = -1 ∨ zBf f g 23 29) ∧ s = (58, f, g, pr_r 26 29 23)))) := by
  have first : (f 26 0 = -1 ∨ zBf f g 23 26) → am_wp l dC dI tc mm4_admitCandidate 1 58 58 (fun r s => r = none ∧ (((f 26 0 = -1 ∨ zBf f g 23 26) ∧ s = (58, f, g, pr_r 23 26 29)) ∨ (¬ (f 26 0 = -1 ∨ zBf f g 23 26) ∧ (f 29 0 = -1 ∨ zBf f g 23 29) ∧ s = (58, f, g, pr_r 26 23 29)) ∨ (¬ (f 26 0 = -1 ∨ zBf f g 23 26) ∧ ¬ (f 29 0 = -1 ∨ zBf f g 23 29) ∧ s = (58, f, g, pr_r 26 29 23)))) 11 [some (.inr (.inr (some 22))), none] [] (58, f, g, pr_r 26 29 23) := by
    intro hb
    iterate 15 (refine am_go rfl (by first | exact True.intro | omega | exact ⟨by decide, Nat.le_of_ble_eq_true rfl, Nat.le_of_ble_eq_true rfl⟩ | exact ⟨by decide, Nat.le_of_ble_eq_true rfl⟩) ?_)
    refine am_vret (x := 0) rfl rfl rfl ⟨rfl, Or.inl ⟨hb, ?_⟩⟩
    rw [pr_u1, pr_u0, pr_u3]
  have second : ¬ (f 26 0 = -1 ∨ zBf f g 23 26) → am_wp l dC dI tc mm4_admitCandidate 1 58 58 (fun r s => r = none ∧ (((f 26 0 = -1 ∨ zBf f g 23 26) ∧ s = (58, f, g, pr_r 23 26 29)) ∨ (¬ (f 26 0 = -1 ∨ zBf f g 23 26) ∧ (f 29 0 = -1 ∨ zBf f g 23 29) ∧ s = (58, f, g, pr_r 26 23 29)) ∨ (¬ (f 26 0 = -1 ∨ zBf f g 23 26) ∧ ¬ (f 29 0 = -1 ∨ zBf f g 23 29) ∧ s = (58, f, g, pr_r 26 29 23)))) 26 [some (.inr (.inr (some 22))), none] [] (58, f, g, pr_r 26 29 23) := by
    intro ha
    have go : (f 29 0 = -1 ∨ zBf f g 23 29) → am_wp l dC dI tc mm4_admitCandidate 1 58 58 (fun r s => r = none ∧ (((f 26 0 = -1 ∨ zBf f g 23 26) ∧ s = (58, f, g, pr_r 23 26 29)) ∨ (¬ (f 26 0 = -1 ∨ zBf f g 23 26) ∧ (f 29 0 = -1 ∨ zBf f g 23 29) ∧ s = (58, f, g, pr_r 26 23 29)) ∨ (¬ (f 26 0 = -1 ∨ zBf f g 23 26) ∧ ¬ (f 29 0 = -1 ∨ zBf f g 23 29) ∧ s = (58, f, g, pr_r 26 29 23)))) 37 [some (.inr (.inr (some 22))), none] [] (58, f, g, pr_r 26 29 23) := by
      intro hb
      iterate 10 (refine am_go rfl (by first | exact True.intro | omega | exact ⟨by decide, Nat.le_of_ble_eq_true rfl, Nat.le_of_ble_eq_true rfl⟩ | exact ⟨by decide, Nat.le_of_ble_eq_true rfl⟩) ?_)
      refine am_vret (x := 0) rfl rfl rfl ⟨rfl, Or.inr (Or.inl ⟨ha, hb, ?_⟩)⟩
      rw [pr_u1, pr_u3]
    iterate 4 (refine am_go rfl (by first | exact True.intro | omega | exact ⟨by decide, Nat.le_of_ble_eq_true rfl, Nat.le_of_ble_eq_true rfl⟩ | exact ⟨by decide, Nat.le_of_ble_eq_true rfl⟩) ?_)
    refine am_if rfl (fun c1 => ?_) (fun c1 => ?_)
    · exact go (Or.inl c1)
    · iterate 4 (refine am_go rfl (by first | exact True.intro | omega | exact ⟨by decide, Nat.le_of_ble_eq_true rfl, Nat.le_of_ble_eq_true rfl⟩ | exact ⟨by decide, Nat.le_of_ble_eq_true rfl⟩) ?_)
      refine am_call rfl (ct_before23_29 h1 (h3 c1)) (by decide) (Nat.le_of_ble_eq_true rfl) (Nat.le_of_ble_eq_true rfl) (Nat.le_of_ble_eq_true rfl) (fun rv s q => ?_)
      obtain ⟨rfl, ⟨rfl, hz⟩ | ⟨rfl, hz⟩⟩ := q
      · refine am_if rfl (fun c2 => ?_) (fun c2 => ?_)
        · omega
        · exact go (Or.inr hz)
      · refine am_if rfl (fun c2 => ?_) (fun c2 => ?_)
        · exact am_vret (x := 0) rfl rfl rfl ⟨rfl, Or.inr (Or.inr ⟨ha, fun u => u.elim c1 hz, rfl⟩)⟩
        · omega
  refine am_enter ok_4_admitCandidate rfl (by decide) (Nat.le_of_ble_eq_true rfl) rfl ?_
  iterate 4 (refine am_go rfl (by first | exact True.intro | omega | exact ⟨by decide, Nat.le_of_ble_eq_true rfl, Nat.le_of_ble_eq_true rfl⟩ | exact ⟨by decide, Nat.le_of_ble_eq_true rfl⟩) ?_)
  refine am_if rfl (fun c1 => ?_) (fun c1 => ?_)
  · exact first (Or.inl c1)
  · iterate 4 (refine am_go rfl (by first | exact True.intro | omega | exact ⟨by decide, Nat.le_of_ble_eq_true rfl, Nat.le_of_ble_eq_true rfl⟩ | exact ⟨by decide, Nat.le_of_ble_eq_true rfl⟩) ?_)
    refine am_call rfl (ct_before23_26 h1 (h2 c1)) (by decide) (Nat.le_of_ble_eq_true rfl) (Nat.le_of_ble_eq_true rfl) (Nat.le_of_ble_eq_true rfl) (fun rv s q => ?_)
    obtain ⟨rfl, ⟨rfl, hz⟩ | ⟨rfl, hz⟩⟩ := q
    · refine am_if rfl (fun c2 => ?_) (fun c2 => ?_)
      · omega
      · exact first (Or.inr hz)
    · refine am_if rfl (fun c2 => ?_) (fun c2 => ?_)
      · exact second (fun u => u.elim c1 hz)
      · omega
set_option maxRecDepth 100000 in
set_option maxHeartbeats 4000000 in
theorem ct_admit29_23_26 (h1 : 0 ≤ f 26 2 ∧ f 26 2 ≤ 9) (h2 : f 29 0 ≠ -1 → f 26 2 = f 29 2) (h3 : f 23 0 ≠ -1 → f 26 2 = f 23 2) : am_Ct l dC dI tc mm4_admitCandidate 1 58 [(.inr (.inr (some 22)))] (58, f, g, pr_r 29 23 26) (fun r s => r = none ∧ (((f 29 0 = -1 ∨ zBf f g 26 29) ∧ s = (58, f, g, pr_r 26 29 23)) ∨ (¬ (f 29 0 = -1 ∨ zBf f g 26 29) ∧ (f 23 0 = -1 ∨ zBf f g 26 23) ∧ s = (58, f, g, pr_r 29 26 23)) ∨ (¬ (f 29 0 = -1 ∨ zBf f g 26 29) ∧ ¬ (f 23 0 = -1 ∨ zBf f g 26 23) ∧ s = (58, f, g, pr_r 29 23 26)))) := by
  have first : (f 29 0 = -1 ∨ zBf f g 26 29) → am_wp l dC dI tc mm4_admitCandidate 1 58 58 (fun r s => r = none ∧ (((f 29 0 = -1 ∨ zBf f g 26 29) ∧ s = (58, f, g, pr_r 26 29 23)) ∨ (¬ (f 29 0 = -1 ∨ zBf f g 26 29) ∧ (f 23 0 = -1 ∨ zBf f g 26 23) ∧ s = (58, f, g, pr_r 29 26 23)) ∨ (¬ (f 29 0 = -1 ∨ zBf f g 26 29) ∧ ¬ (f 23 0 = -1 ∨ zBf f g 26 23) ∧ s = (58, f, g, pr_r 29 23 26)))) 11 [some (.inr (.inr (some 22))), none] [] (58, f, g, pr_r 29 23 26) := by
    intro hb
    iterate 15 (refine am_go rfl (by first | exact True.intro | omega | exact ⟨by decide, Nat.le_of_ble_eq_true rfl, Nat.le_of_ble_eq_true rfl⟩ | exact ⟨by decide, Nat.le_of_ble_eq_true rfl⟩) ?_)
    refine am_vret (x := 0) rfl rfl rfl ⟨rfl, Or.inl ⟨hb, ?_⟩⟩
    rw [pr_u1, pr_u0, pr_u3]
  have second : ¬ (f 29 0 = -1 ∨ zBf f g 26 29) → am_wp l dC dI tc mm4_admitCandidate 1 58 58 (fun r s => r = none ∧ (((f 29 0 = -1 ∨ zBf f g 26 29) ∧ s = (58, f, g, pr_r 26 29 23)) ∨ (¬ (f 29 0 = -1 ∨ zBf f g 26 29) ∧ (f 23 0 = -1 ∨ zBf f g 26 23) ∧ s = (58, f, g, pr_r 29 26 23)) ∨ (¬ (f 29 0 = -1 ∨ zBf f g 26 29) ∧ ¬ (f 23 0 = -1 ∨ zBf f g 26 23) ∧ s = (58, f, g, pr_r 29 23 26)))) 26 [some (.inr (.inr (some 22))), none] [] (58, f, g, pr_r 29 23 26) := by
    intro ha
    have go : (f 23 0 = -1 ∨ zBf f g 26 23) → am_wp l dC dI tc mm4_admitCandidate 1 58 58 (fun r s => r = none ∧ (((f 29 0 = -1 ∨ zBf f g 26 29) ∧ s = (58, f, g, pr_r 26 29 23)) ∨ (¬ (f 29 0 = -1 ∨ zBf f g 26 29) ∧ (f 23 0 = -1 ∨ zBf f g 26 23) ∧ s = (58, f, g, pr_r 29 26 23)) ∨ (¬ (f 29 0 = -1 ∨ zBf f g 26 29) ∧ ¬ (f 23 0 = -1 ∨ zBf f g 26 23) ∧ s = (58, f, g, pr_r 29 23 26)))) 37 [some (.inr (.inr (some 22))), none] [] (58, f, g, pr_r 29 23 26) := by
      intro hb
      iterate 10 (refine am_go rfl (by first | exact True.intro | omega | exact ⟨by decide, Nat.le_of_ble_eq_true rfl, Nat.le_of_ble_eq_true rfl⟩ | exact ⟨by decide, Nat.le_of_ble_eq_true rfl⟩) ?_)
      refine am_vret (x := 0) rfl rfl rfl ⟨rfl, Or.inr (Or.inl ⟨ha, hb, ?_⟩)⟩
      rw [pr_u1, pr_u3]
    iterate 4 (refine am_go rfl (by first | exact True.intro | omega | exact ⟨by decide, Nat.le_of_ble_eq_true rfl, Nat.le_of_ble_eq_true rfl⟩ | exact ⟨by decide, Nat.le_of_ble_eq_true rfl⟩) ?_)
    refine am_if rfl (fun c1 => ?_) (fun c1 => ?_)
    · exact go (Or.inl c1)
    · iterate 4 (refine am_go rfl (by first | exact True.intro | omega | exact ⟨by decide, Nat.le_of_ble_eq_true rfl, Nat.le_of_ble_eq_true rfl⟩ | exact ⟨by decide, Nat.le_of_ble_eq_true rfl⟩) ?_)
      refine am_call rfl (ct_before26_23 h1 (h3 c1)) (by decide) (Nat.le_of_ble_eq_true rfl) (Nat.le_of_ble_eq_true rfl) (Nat.le_of_ble_eq_true rfl) (fun rv s q => ?_)
      obtain ⟨rfl, ⟨rfl, hz⟩ | ⟨rfl, hz⟩⟩ := q
      · refine am_if rfl (fun c2 => ?_) (fun c2 => ?_)
        · omega
        · exact go (Or.inr hz)
      · refine am_if rfl (fun c2 => ?_) (fun c2 => ?_)
        · exact am_vret (x := 0) rfl rfl rfl ⟨rfl, Or.inr (Or.inr ⟨ha, fun u => u.elim c1 hz, rfl⟩)⟩
        · omega
  refine am_enter ok_4_admitCandidate rfl (by decide) (Nat.le_of_ble_eq_true rfl) rfl ?_
  iterate 4 (refine am_go rfl (by first | exact True.intro | omega | exact ⟨by decide, Nat.le_of_ble_eq_true rfl, Nat.le_of_ble_eq_true rfl⟩ | exact ⟨by decide, Nat.le_of_ble_eq_true rfl⟩) ?_)
  refine am_if rfl (fun c1 => ?_) (fun c1 => ?_)
  · exact first (Or.inl c1)
  · iterate 4 (refine am_go rfl (by first | exact True.intro | omega | exact ⟨by decide, Nat.le_of_ble_eq_true rfl, Nat.le_of_ble_eq_true rfl⟩ | exact ⟨by decide, Nat.le_of_ble_eq_true rfl⟩) ?_)
    refine am_call rfl (ct_before26_29 h1 (h2 c1)) (by decide) (Nat.le_of_ble_eq_true rfl) (Nat.le_of_ble_eq_true rfl) (Nat.le_of_ble_eq_true rfl) (fun rv s q => ?_)
    obtain ⟨rfl, ⟨rfl, hz⟩ | ⟨rfl, hz⟩⟩ := q
    · refine am_if rfl (fun c2 => ?_) (fun c2 => ?_)
      · omega
      · exact first (Or.inr hz)
    · refine am_if rfl (fun c2 => ?_) (fun c2 => ?_)
      · exact second (fun u => u.elim c1 hz)
      · omega
set_option maxRecDepth 100000 in
set_option maxHeartbeats 4000000 in
theorem ct_admit29_26_23 (h1 : 0 ≤ f 23 2 ∧ f 23 2 ≤ 9) (h2 : f 29 0 ≠ -1 → f 23 2 = f 29 2) (h3 : f 26 0 ≠ -1 → f 23 2 = f 26 2) : am_Ct l dC dI tc mm4_admitCandidate 1 58 [(.inr (.inr (some 22)))] (58, f, g, pr_r 29 26 23) (fun r s => r = none ∧ (((f 29 0 = -1 ∨ zBf f g 23 29) ∧ s = (58, f, g, pr_r 23 29 26)) ∨ (¬ (f 29 0 = -1 ∨ zBf f g 23 29) ∧ (f 26 0 = -1 ∨ zBf f g 23 26) ∧ s = (58, f, g, pr_r 29 23 26)) ∨ (¬ (f 29 0 = -1 ∨ zBf f g 23 29) ∧ ¬ (f 26 0 = -1 ∨ zBf f g 23 26) ∧ s = (58, f, g, pr_r 29 26 23)))) := by
  have first : (f 29 0 = -1 ∨ zBf f g 23 29) → am_wp l dC dI tc mm4_admitCandidate 1 58 58 (fun r s => r = none ∧ (((f 29 0 = -1 ∨ zBf f g 23 29) ∧ s = (58, f, g, pr_r 23 29 26)) ∨ (¬ (f 29 0 = -1 ∨ zBf f g 23 29) ∧ (f 26 0 = -1 ∨ zBf f g 23 26) ∧ s = (58, f, g, pr_r 29 23 26)) ∨ (¬ (f 29 0 = -1 ∨ zBf f g 23 29) ∧ ¬ (f 26 0 = -1 ∨ zBf f g 23 26) ∧ s = (58, f, g, pr_r 29 26 23)))) 11 [some (.inr (.inr (some 22))), none] [] (58, f, g, pr_r 29 26 23) := by
    intro hb
    iterate 15 (refine am_go rfl (by first | exact True.intro | omega | exact ⟨by decide, Nat.le_of_ble_eq_true rfl, Nat.le_of_ble_eq_true rfl⟩ | exact ⟨by decide, Nat.le_of_ble_eq_true rfl⟩) ?_)
    refine am_vret (x := 0) rfl rfl rfl ⟨rfl, Or.inl ⟨hb, ?_⟩⟩
    rw [pr_u1, pr_u0, pr_u3]
  have second : ¬ (f 29 0 = -1 ∨ zBf f g 23 29) → am_wp l dC dI tc mm4_admitCandidate 1 58 58 (fun r s => r = none ∧ (((f 29 0 = -1 ∨ zBf f g 23 29) ∧ s = (58, f, g, pr_r 23 29 26)) ∨ (¬ (f 29 0 = -1 ∨ zBf f g 23 29) ∧ (f 26 0 = -1 ∨ zBf f g 23 26) ∧ s = (58, f, g, pr_r 29 23 26)) ∨ (¬ (f 29 0 = -1 ∨ zBf f g 23 29) ∧ ¬ (f 26 0 = -1 ∨ zBf f g 23 26) ∧ s = (58, f, g, pr_r 29 26 23)))) 26 [some (.inr (.inr (some 22))), none] [] (58, f, g, pr_r 29 26 23) := by
    intro ha
    have go : (f 26 0 = -1 ∨ zBf f g 23 26) → am_wp l dC dI tc mm4_admitCandidate 1 58 58 (fun r s => r = none ∧ (((f 29 0 = -1 ∨ zBf f g 23 29) ∧ s = (58, f, g, pr_r 23 29 26)) ∨ (¬ (f 29 0 = -1 ∨ zBf f g 23 29) ∧ (f 26 0 = -1 ∨ zBf f g 23 26) ∧ s = (58, f, g, pr_r 29 23 26)) ∨ (¬ (f 29 0 = -1 ∨ zBf f g 23 29) ∧ ¬ (f 26 0 = -1 ∨ zBf f g 23 26) ∧ s = (58, f, g, pr_r 29 26 23)))) 37 [some (.inr (.inr (some 22))), none] [] (58, f, g, pr_r 29 26 23) := by
      intro hb
      iterate 10 (refine am_go rfl (by first | exact True.intro | omega | exact ⟨by decide, Nat.le_of_ble_eq_true rfl, Nat.le_of_ble_eq_true rfl⟩ | exact ⟨by decide, Nat.le_of_ble_eq_true rfl⟩) ?_)
      refine am_vret (x := 0) rfl rfl rfl ⟨rfl, Or.inr (Or.inl ⟨ha, hb, ?_⟩)⟩
      rw [pr_u1, pr_u3]
    iterate 4 (refine am_go rfl (by first | exact True.intro | omega | exact ⟨by decide, Nat.le_of_ble_eq_true rfl, Nat.le_of_ble_eq_true rfl⟩ | exact ⟨by decide, Nat.le_of_ble_eq_true rfl⟩) ?_)
    refine am_if rfl (fun c1 => ?_) (fun c1 => ?_)
    · exact go (Or.inl c1)
    · iterate 4 (refine am_go rfl (by first | exact True.intro | omega | exact ⟨by decide, Nat.le_of_ble_eq_true rfl, Nat.le_of_ble_eq_true rfl⟩ | exact ⟨by decide, Nat.le_of_ble_eq_true rfl⟩) ?_)
      refine am_call rfl (ct_before23_26 h1 (h3 c1)) (by decide) (Nat.le_of_ble_eq_true rfl) (Nat.le_of_ble_eq_true rfl) (Nat.le_of_ble_eq_true rfl) (fun rv s q => ?_)
      obtain ⟨rfl, ⟨rfl, hz⟩ | ⟨rfl, hz⟩⟩ := q
      · refine am_if rfl (fun c2 => ?_) (fun c2 => ?_)
        · omega
        · exact go (Or.inr hz)
      · refine am_if rfl (fun c2 => ?_) (fun c2 => ?_)
        · exact am_vret (x := 0) rfl rfl rfl ⟨rfl, Or.inr (Or.inr ⟨ha, fun u => u.elim c1 hz, rfl⟩)⟩
        · omega
  refine am_enter ok_4_admitCandidate rfl (by decide) (Nat.le_of_ble_eq_true rfl) rfl ?_
  iterate 4 (refine am_go rfl (by first | exact True.intro | omega | exact ⟨by decide, Nat.le_of_ble_eq_true rfl, Nat.le_of_ble_eq_true rfl⟩ | exact ⟨by decide, Nat.le_of_ble_eq_true rfl⟩) ?_)
  refine am_if rfl (fun c1 => ?_) (fun c1 => ?_)
  · exact first (Or.inl c1)
  · iterate 4 (refine am_go rfl (by first | exact True.intro | omega | exact ⟨by decide, Nat.le_of_ble_eq_true rfl, Nat.le_of_ble_eq_true rfl⟩ | exact ⟨by decide, Nat.le_of_ble_eq_true rfl⟩) ?_)
    refine am_call rfl (ct_before23_29 h1 (h2 c1)) (by decide) (Nat.le_of_ble_eq_true rfl) (Nat.le_of_ble_eq_true rfl) (Nat.le_of_ble_eq_true rfl) (fun rv s q => ?_)
    obtain ⟨rfl, ⟨rfl, hz⟩ | ⟨rfl, hz⟩⟩ := q
    · refine am_if rfl (fun c2 => ?_) (fun c2 => ?_)
      · omega
      · exact first (Or.inr hz)
    · refine am_if rfl (fun c2 => ?_) (fun c2 => ?_)
      · exact second (fun u => u.elim c1 hz)
      · omega
theorem ct_admit (hp : zPm a b c) (h1 : 0 ≤ f c 2 ∧ f c 2 ≤ 9) (h2 : f a 0 ≠ -1 → f c 2 = f a 2) (h3 : f b 0 ≠ -1 → f c 2 = f b 2) : am_Ct l dC dI tc mm4_admitCandidate 1 58 [(.inr (.inr (some 22)))] (58, f, g, pr_r a b c) (fun r s => r = none ∧ (((f a 0 = -1 ∨ zBf f g c a) ∧ s = (58, f, g, pr_r c a b)) ∨ (¬ (f a 0 = -1 ∨ zBf f g c a) ∧ (f b 0 = -1 ∨ zBf f g c b) ∧ s = (58, f, g, pr_r a c b)) ∨ (¬ (f a 0 = -1 ∨ zBf f g c a) ∧ ¬ (f b 0 = -1 ∨ zBf f g c b) ∧ s = (58, f, g, pr_r a b c)))) := by
  rcases hp with ⟨rfl, rfl, rfl⟩ | ⟨rfl, rfl, rfl⟩ | ⟨rfl, rfl, rfl⟩ | ⟨rfl, rfl, rfl⟩ | ⟨rfl, rfl, rfl⟩ | ⟨rfl, rfl, rfl⟩
  · exact ct_admit23_26_29 h1 h2 h3
  · exact ct_admit23_29_26 h1 h2 h3
  · exact ct_admit26_23_29 h1 h2 h3
  · exact ct_admit26_29_23 h1 h2 h3
  · exact ct_admit29_23_26 h1 h2 h3
  · exact ct_admit29_26_23 h1 h2 h3
theorem ct_trace (hp : zPm a b c) (rk : Int) (hI : zI f g) (hr : 0 ≤ rk ∧ rk < 2) (ht : zTok f g rk) : am_Ct l dC dI tc mm4_trace 2 58 [(.inr (.inr (some 22))), .inl rk] (58, f, g, pr_r a b c) (fun r t => r = none ∧ ∃ f' g', t = (58, f', g', pr_r a b c) ∧ zRdN g rk f' g' c (f 2 0).toNat ∧ zFrR c f' f g' g) := by
  rcases hp with ⟨rfl, rfl, rfl⟩ | ⟨rfl, rfl, rfl⟩ | ⟨rfl, rfl, rfl⟩ | ⟨rfl, rfl, rfl⟩ | ⟨rfl, rfl, rfl⟩ | ⟨rfl, rfl, rfl⟩
  · exact ct_trace29 rk hI hr ht
  · exact ct_trace26 rk hI hr ht
  · exact ct_trace29 rk hI hr ht
  · exact ct_trace23 rk hI hr ht
  · exact ct_trace26 rk hI hr ht
  · exact ct_trace23 rk hI hr ht
end Adm
end
section
/-! the values that the place can have -/
/-- the list of values: how many, apart, not below 0 -/
def zLs (f : Nat → Nat → Int) (g : Nat → Int → Int) (m : Int) : Prop := (0 ≤ f 22 13 ∧ f 22 13 ≤ m) ∧ (∀ i, 0 ≤ i → i < f 22 13 → 0 ≤ g 36 i) ∧ ∀ i j, 0 ≤ i → i < f 22 13 → 0 ≤ j → j < f 22 13 → g 36 i = g 36 j → i = j
def zHas (f : Nat → Nat → Int) (g : Nat → Int → Int) (v : Int) : Prop := ∃ i, 0 ≤ i ∧ i < f 22 13 ∧ g 36 i = v
/-- nothing has changed but the list of values -/
def zFrL (f f0 : Nat → Nat → Int) (g g0 : Nat → Int → Int) : Prop := (∀ x j, x ≠ 22 ∨ j ≠ 13 → f x j = f0 x j) ∧ ∀ x j, x ≠ 36 → g x j = g0 x j
theorem zFrL.rf (f : Nat → Nat → Int) (g : Nat → Int → Int) : zFrL f f g g := ⟨fun _ _ _ => rfl, fun _ _ _ => rfl⟩
theorem zFrL.tr {f f1 f0 : Nat → Nat → Int} {g g1 g0 : Nat → Int → Int} (h : zFrL f f1 g g1) (h0 : zFrL f1 f0 g1 g0) : zFrL f f0 g g0 := ⟨fun x j hx => (h.1 x j hx).trans (h0.1 x j hx), fun x j hx => (h.2 x j hx).trans (h0.2 x j hx)⟩
theorem zNa_fr {g g0 : Nat → Int → Int} (h : ∀ j, g 14 j = g0 14 j) (x y : Int) : zNa g x y = zNa g0 x y := by
  unfold zNa
  rw [h]
theorem zPl_fr {g g0 : Nat → Int → Int} (h : ∀ j, g 13 j = g0 13 j) (x : Int) : zPl g x = zPl g0 x := by
  unfold zPl
  rw [h]
section Lst
variable {l : Launch} {dC : Nat → ClassId} {dI : Nat → Nat → Nat} {tc : Nat → ClassId} {f : Nat → Nat → Int} {g : Nat → Int → Int} {a b c : Nat}
set_option maxRecDepth 100000 in
set_option maxHeartbeats 4000000 in
theorem ct_partOfKind (k : Int) (hs : f 2 0 ≤ 9) : am_Ct l dC dI tc mm1_partOfKind 0 58 [(.inr (.inr (some 2))), .inl k] (58, f, g, pr_r a b c) (fun r s => s = (58, f, g, pr_r a b c) ∧ ((∃ x, r = some (.inl x) ∧ 0 ≤ x ∧ x < f 2 0 ∧ g 3 x = k) ∨ (r = some (.inl (-1)) ∧ ∀ x, 0 ≤ x → x < f 2 0 → g 3 x ≠ k))) := by
  have loop : ∀ (n : Nat) (i : Int), (f 2 0 - i).toNat ≤ n → 0 ≤ i → (∀ x, 0 ≤ x → x < i → g 3 x ≠ k) → am_wp l dC dI tc mm1_partOfKind 0 58 58 (fun r s => s = (58, f, g, pr_r a b c) ∧ ((∃ x, r = some (.inl x) ∧ 0 ≤ x ∧ x < f 2 0 ∧ g 3 x = k) ∨ (r = some (.inl (-1)) ∧ ∀ x, 0 ≤ x → x < f 2 0 → g 3 x ≠ k))) 2 [some (.inr (.inr (some 2))), some (.inl k), some (.inl i)] [] (58, f, g, pr_r a b c) := by
    intro n
    induction n with
    | zero =>
      intro i hn hi hj
      iterate 3 (refine am_go rfl (by first | exact True.intro | omega | exact ⟨by decide, Nat.le_of_ble_eq_true rfl, Nat.le_of_ble_eq_true rfl⟩ | exact ⟨by decide, Nat.le_of_ble_eq_true rfl⟩) ?_)
      refine am_if rfl (fun c1 => ?_) (fun c1 => ?_)
      · (refine am_go rfl (by first | exact True.intro | omega | exact ⟨by decide, Nat.le_of_ble_eq_true rfl, Nat.le_of_ble_eq_true rfl⟩ | exact ⟨by decide, Nat.le_of_ble_eq_true rfl⟩) ?_)
        exact am_iret rfl rfl rfl ⟨rfl, Or.inr ⟨rfl, fun x h1 h2 => hj x h1 (by omega)⟩⟩
      · omega
    | succ n ih =>
      intro i hn hi hj
      iterate 3 (refine am_go rfl (by first | exact True.intro | omega | exact ⟨by decide, Nat.le_of_ble_eq_true rfl, Nat.le_of_ble_eq_true rfl⟩ | exact ⟨by decide, Nat.le_of_ble_eq_true rfl⟩) ?_)
      refine am_if rfl (fun c1 => ?_) (fun c1 => ?_)
      · (refine am_go rfl (by first | exact True.intro | omega | exact ⟨by decide, Nat.le_of_ble_eq_true rfl, Nat.le_of_ble_eq_true rfl⟩ | exact ⟨by decide, Nat.le_of_ble_eq_true rfl⟩) ?_)
        exact am_iret rfl rfl rfl ⟨rfl, Or.inr ⟨rfl, fun x h1 h2 => hj x h1 (by omega)⟩⟩
      · iterate 5 (refine am_go rfl (by first | exact True.intro | omega | exact ⟨by decide, Nat.le_of_ble_eq_true rfl, Nat.le_of_ble_eq_true rfl⟩ | exact ⟨by decide, Nat.le_of_ble_eq_true rfl⟩) ?_)
        refine am_if rfl (fun c2 => ?_) (fun c2 => ?_)
        · iterate 2 (refine am_go rfl (by first | exact True.intro | omega | exact ⟨by decide, Nat.le_of_ble_eq_true rfl, Nat.le_of_ble_eq_true rfl⟩ | exact ⟨by decide, Nat.le_of_ble_eq_true rfl⟩) ?_)
          refine ih (i + 1) (by omega) (by omega) (fun x h1 h2 => ?_)
          by_cases e : x = i
          · subst e
            exact c2
          · exact hj x h1 (by omega)
        · (refine am_go rfl (by first | exact True.intro | omega | exact ⟨by decide, Nat.le_of_ble_eq_true rfl, Nat.le_of_ble_eq_true rfl⟩ | exact ⟨by decide, Nat.le_of_ble_eq_true rfl⟩) ?_)
          exact am_iret rfl rfl rfl ⟨rfl, Or.inl ⟨i, rfl, hi, by omega, by omega⟩⟩
  refine am_enter ok_1_partOfKind rfl (by decide) (Nat.le_of_ble_eq_true rfl) rfl ?_
  iterate 2 (refine am_go rfl (by first | exact True.intro | omega | exact ⟨by decide, Nat.le_of_ble_eq_true rfl, Nat.le_of_ble_eq_true rfl⟩ | exact ⟨by decide, Nat.le_of_ble_eq_true rfl⟩) ?_)
  exact loop _ 0 (Nat.le_refl _) (by omega) (fun x h1 h2 => by omega)
set_option maxRecDepth 100000 in
set_option maxHeartbeats 4000000 in
theorem ct_listPlaceValue (v : Int) (hs : 0 ≤ f 22 13 ∧ f 22 13 < 120) : am_Ct l dC dI tc mm4_listPlaceValue 0 58 [(.inr (.inr (some 22))), .inl v] (58, f, g, pr_r a b c) (fun r s => r = none ∧ ((zHas f g v ∧ s = (58, f, g, pr_r a b c)) ∨ (¬ zHas f g v ∧ s = (58, am_u1 f 22 13 (f 22 13 + 1), am_u3 g 36 (f 22 13) v, pr_r a b c)))) := by
  have loop : ∀ (n : Nat) (i : Int), (f 22 13 - i).toNat ≤ n → 0 ≤ i → (∀ x, 0 ≤ x → x < i → g 36 x ≠ v) → am_wp l dC dI tc mm4_listPlaceValue 0 58 58 (fun r s => r = none ∧ ((zHas f g v ∧ s = (58, f, g, pr_r a b c)) ∨ (¬ zHas f g v ∧ s = (58, am_u1 f 22 13 (f 22 13 + 1), am_u3 g 36 (f 22 13) v, pr_r a b c)))) 2 [some (.inr (.inr (some 22))), some (.inl v), some (.inl i)] [] (58, f, g, pr_r a b c) := by
    intro n
    induction n with
    | zero =>
      intro i hn hi hj
      iterate 3 (refine am_go rfl (by first | exact True.intro | omega | exact ⟨by decide, Nat.le_of_ble_eq_true rfl, Nat.le_of_ble_eq_true rfl⟩ | exact ⟨by decide, Nat.le_of_ble_eq_true rfl⟩) ?_)
      refine am_if rfl (fun c1 => ?_) (fun c1 => ?_)
      · iterate 5 (refine am_go rfl (by first | exact True.intro | omega | exact ⟨by decide, Nat.le_of_ble_eq_true rfl, Nat.le_of_ble_eq_true rfl⟩ | exact ⟨by decide, Nat.le_of_ble_eq_true rfl⟩) ?_)
        refine am_if rfl (fun c2 => ?_) (fun c2 => ?_)
        · omega
        · iterate 12 (refine am_go rfl (by first | exact True.intro | omega | exact ⟨by decide, Nat.le_of_ble_eq_true rfl, Nat.le_of_ble_eq_true rfl⟩ | exact ⟨by decide, Nat.le_of_ble_eq_true rfl⟩) ?_)
          refine am_vret (x := 0) rfl rfl rfl ⟨rfl, Or.inr ⟨?_, rfl⟩⟩
          rintro ⟨q, q1, q2, q3⟩
          exact hj q q1 (by omega) q3
      · omega
    | succ n ih =>
      intro i hn hi hj
      iterate 3 (refine am_go rfl (by first | exact True.intro | omega | exact ⟨by decide, Nat.le_of_ble_eq_true rfl, Nat.le_of_ble_eq_true rfl⟩ | exact ⟨by decide, Nat.le_of_ble_eq_true rfl⟩) ?_)
      refine am_if rfl (fun c1 => ?_) (fun c1 => ?_)
      · iterate 5 (refine am_go rfl (by first | exact True.intro | omega | exact ⟨by decide, Nat.le_of_ble_eq_true rfl, Nat.le_of_ble_eq_true rfl⟩ | exact ⟨by decide, Nat.le_of_ble_eq_true rfl⟩) ?_)
        refine am_if rfl (fun c2 => ?_) (fun c2 => ?_)
        · omega
        · iterate 12 (refine am_go rfl (by first | exact True.intro | omega | exact ⟨by decide, Nat.le_of_ble_eq_true rfl, Nat.le_of_ble_eq_true rfl⟩ | exact ⟨by decide, Nat.le_of_ble_eq_true rfl⟩) ?_)
          refine am_vret (x := 0) rfl rfl rfl ⟨rfl, Or.inr ⟨?_, rfl⟩⟩
          rintro ⟨q, q1, q2, q3⟩
          exact hj q q1 (by omega) q3
      · iterate 4 (refine am_go rfl (by first | exact True.intro | omega | exact ⟨by decide, Nat.le_of_ble_eq_true rfl, Nat.le_of_ble_eq_true rfl⟩ | exact ⟨by decide, Nat.le_of_ble_eq_true rfl⟩) ?_)
        refine am_if rfl (fun c2 => ?_) (fun c2 => ?_)
        · omega
        · iterate 5 (refine am_go rfl (by first | exact True.intro | omega | exact ⟨by decide, Nat.le_of_ble_eq_true rfl, Nat.le_of_ble_eq_true rfl⟩ | exact ⟨by decide, Nat.le_of_ble_eq_true rfl⟩) ?_)
          refine am_if rfl (fun c3 => ?_) (fun c3 => ?_)
          · iterate 2 (refine am_go rfl (by first | exact True.intro | omega | exact ⟨by decide, Nat.le_of_ble_eq_true rfl, Nat.le_of_ble_eq_true rfl⟩ | exact ⟨by decide, Nat.le_of_ble_eq_true rfl⟩) ?_)
            refine ih (i + 1) (by omega) (by omega) (fun x h1 h2 => ?_)
            by_cases e : x = i
            · subst e
              exact c3
            · exact hj x h1 (by omega)
          · exact am_vret (x := 0) rfl rfl rfl ⟨rfl, Or.inl ⟨⟨i, hi, by omega, by omega⟩, rfl⟩⟩
  refine am_enter ok_4_listPlaceValue rfl (by decide) (Nat.le_of_ble_eq_true rfl) rfl ?_
  iterate 2 (refine am_go rfl (by first | exact True.intro | omega | exact ⟨by decide, Nat.le_of_ble_eq_true rfl, Nat.le_of_ble_eq_true rfl⟩ | exact ⟨by decide, Nat.le_of_ble_eq_true rfl⟩) ?_)
  exact loop _ 0 (Nat.le_refl _) (by omega) (fun x h1 h2 => by omega)
theorem zLs_add {m v : Int} (h : zLs f g m) (hv : 0 ≤ v) (hn : ¬ zHas f g v) : zLs (am_u1 f 22 13 (f 22 13 + 1)) (am_u3 g 36 (f 22 13) v) (m + 1) ∧ zHas (am_u1 f 22 13 (f 22 13 + 1)) (am_u3 g 36 (f 22 13) v) v ∧ ∀ u, zHas f g u → zHas (am_u1 f 22 13 (f 22 13 + 1)) (am_u3 g 36 (f 22 13) v) u := by
  obtain ⟨h1, h2, h3⟩ := h
  have e : am_u1 f 22 13 (f 22 13 + 1) 22 13 = f 22 13 + 1 := am_u1_s
  have eg : ∀ i, am_u3 g 36 (f 22 13) v 36 i = if i = f 22 13 then v else g 36 i := fun i => by
    by_cases u : i = f 22 13
    · rw [if_pos u, u, am_u3_s]
    · rw [if_neg u, am_u3_j u]
  refine ⟨⟨by rw [e]; omega, fun i i1 i2 => ?_, fun i j i1 i2 j1 j2 hij => ?_⟩, ⟨f 22 13, by omega, by rw [e]; omega, by rw [eg, if_pos rfl]⟩, fun u hu => ?_⟩
  · rw [e] at i2
    rw [eg]
    split
    · exact hv
    · exact h2 i i1 (by omega)
  · rw [e] at i2 j2
    rw [eg, eg] at hij
    by_cases u1 : i = f 22 13
    · by_cases u2 : j = f 22 13
      · omega
      · rw [if_pos u1, if_neg u2] at hij
        exact absurd ⟨j, j1, by omega, hij.symm⟩ hn
    · by_cases u2 : j = f 22 13
      · rw [if_neg u1, if_pos u2] at hij
        exact absurd ⟨i, i1, by omega, hij⟩ hn
      · rw [if_neg u1, if_neg u2] at hij
        exact h3 i j i1 (by omega) j1 (by omega) hij
  · obtain ⟨i, i1, i2, i3⟩ := hu
    exact ⟨i, i1, by rw [e]; omega, by rw [eg, if_neg (by omega)]; exact i3⟩
set_option maxRecDepth 100000 in
set_option maxHeartbeats 4000000 in
theorem ct_listAt (y z : Int) (hI : zI f g) (hy : 0 ≤ y ∧ y < 6) (hz : 0 ≤ z ∧ z < 5) (hl : zLs f g ((y * 5 + z) * 4)) : am_Ct l dC dI tc mm4_listPlaceValuesAt 2 58 [(.inr (.inr (some 22))), .inl y, .inl z] (58, f, g, pr_r a b c) (fun r s => r = none ∧ ∃ f' g', s = (58, f', g', pr_r a b c) ∧ zFrL f' f g' g ∧ zLs f' g' ((y * 5 + z) * 4 + 4) ∧ (∀ u, zHas f g u → zHas f' g' u) ∧ ∀ i, 0 ≤ i → i < zNa g y z → g 15 (zAlt y z i) = 7 → zHas f' g' (g 16 (zAlt y z i))) := by
  have hna := zNa_r hI y z
  have e14 : zNa g y z = g 14 (y * 5 + z) := if_pos ⟨hy, hz⟩
  have loop : ∀ (n : Nat) (i : Int) (F : Nat → Nat → Int) (G : Nat → Int → Int), (zNa g y z - i).toNat ≤ n → 0 ≤ i → i ≤ zNa g y z → zFrL F f G g → zLs F G ((y * 5 + z) * 4 + i) → (∀ u, zHas f g u → zHas F G u) → (∀ j, 0 ≤ j → j < i → g 15 (zAlt y z j) = 7 → zHas F G (g 16 (zAlt y z j))) → am_wp l dC dI tc mm4_listPlaceValuesAt 2 58 58 (fun r s => r = none ∧ ∃ f' g', s = (58, f', g', pr_r a b c) ∧ zFrL f' f g' g ∧ zLs f' g' ((y * 5 + z) * 4 + 4) ∧ (∀ u, zHas f g u → zHas f' g' u) ∧ ∀ i, 0 ≤ i → i < zNa g y z → g 15 (zAlt y z i) = 7 → zHas f' g' (g 16 (zAlt y z i))) 8 [some (.inr (.inr (some 22))), some (.inl y), some (.inl z), some (.inl (zNa g y z)), some (.inl i)] [] (58, F, G, pr_r a b c) := by
    intro n
    induction n with
    | zero =>
      intro i F G hn hi hi2 hF hL hk hj
      iterate 2 (refine am_go rfl (by first | exact True.intro | omega | exact ⟨by decide, Nat.le_of_ble_eq_true rfl, Nat.le_of_ble_eq_true rfl⟩ | exact ⟨by decide, Nat.le_of_ble_eq_true rfl⟩) ?_)
      refine am_if rfl (fun c1 => ?_) (fun c1 => ?_)
      · refine am_vret (x := 0) rfl rfl rfl ⟨rfl, F, G, rfl, hF, ⟨⟨hL.1.1, by have := hL.1.2; omega⟩, hL.2⟩, hk, fun j j1 j2 => hj j j1 (by omega)⟩
      · omega
    | succ n ih =>
      intro i F G hn hi hi2 hF hL hk hj
      iterate 2 (refine am_go rfl (by first | exact True.intro | omega | exact ⟨by decide, Nat.le_of_ble_eq_true rfl, Nat.le_of_ble_eq_true rfl⟩ | exact ⟨by decide, Nat.le_of_ble_eq_true rfl⟩) ?_)
      refine am_if rfl (fun c1 => ?_) (fun c1 => ?_)
      · refine am_vret (x := 0) rfl rfl rfl ⟨rfl, F, G, rfl, hF, ⟨⟨hL.1.1, by have := hL.1.2; omega⟩, hL.2⟩, hk, fun j j1 j2 => hj j j1 (by omega)⟩
      · have hal := hI.2.2.2.2.2.1 y z i hy.1 hy.2 hz.1 hz.2 hi (by omega)
        iterate 5 (refine am_go rfl (by first | exact True.intro | omega | exact ⟨by decide, Nat.le_of_ble_eq_true rfl, Nat.le_of_ble_eq_true rfl⟩ | exact ⟨by decide, Nat.le_of_ble_eq_true rfl⟩) ?_)
        refine am_callv rfl (ct_lk _ _ _ ⟨⟨hy, hz⟩, by omega⟩) (by decide) (Nat.le_of_ble_eq_true rfl) (Nat.le_of_ble_eq_true rfl) ?_
        rw [hF.2 15 _ (by decide)]
        (refine am_go rfl (by first | exact True.intro | omega | exact ⟨by decide, Nat.le_of_ble_eq_true rfl, Nat.le_of_ble_eq_true rfl⟩ | exact ⟨by decide, Nat.le_of_ble_eq_true rfl⟩) ?_)
        refine am_if rfl (fun c2 => ?_) (fun c2 => ?_)
        · iterate 2 (refine am_go rfl (by first | exact True.intro | omega | exact ⟨by decide, Nat.le_of_ble_eq_true rfl, Nat.le_of_ble_eq_true rfl⟩ | exact ⟨by decide, Nat.le_of_ble_eq_true rfl⟩) ?_)
          refine ih (i + 1) F G (by omega) (by omega) (by omega) hF ⟨⟨hL.1.1, by have := hL.1.2; omega⟩, hL.2⟩ hk (fun j j1 j2 j3 => ?_)
          by_cases e : j = i
          · subst e
            exact absurd j3 c2
          · exact hj j j1 (by omega) j3
        · iterate 6 (refine am_go rfl (by first | exact True.intro | omega | exact ⟨by decide, Nat.le_of_ble_eq_true rfl, Nat.le_of_ble_eq_true rfl⟩ | exact ⟨by decide, Nat.le_of_ble_eq_true rfl⟩) ?_)
          refine am_callv rfl (ct_lv _ _ _ ⟨⟨hy, hz⟩, by omega⟩) (by decide) (Nat.le_of_ble_eq_true rfl) (Nat.le_of_ble_eq_true rfl) ?_
          rw [hF.2 16 _ (by decide)]
          refine am_call rfl (ct_listPlaceValue _ ⟨hL.1.1, by have := hL.1.2; omega⟩) (by decide) (Nat.le_of_ble_eq_true rfl) (Nat.le_of_ble_eq_true rfl) (Nat.le_of_ble_eq_true rfl) (fun rv s q => ?_)
          obtain ⟨rfl, ⟨hh, rfl⟩ | ⟨hh, rfl⟩⟩ := q
          · iterate 2 (refine am_go rfl (by first | exact True.intro | omega | exact ⟨by decide, Nat.le_of_ble_eq_true rfl, Nat.le_of_ble_eq_true rfl⟩ | exact ⟨by decide, Nat.le_of_ble_eq_true rfl⟩) ?_)
            refine ih (i + 1) F G (by omega) (by omega) (by omega) hF ⟨⟨hL.1.1, by have := hL.1.2; omega⟩, hL.2⟩ hk (fun j j1 j2 j3 => ?_)
            by_cases e : j = i
            · subst e
              exact hh
            · exact hj j j1 (by omega) j3
          · obtain ⟨a1, a2, a3⟩ := zLs_add hL hal.1.1 hh
            iterate 2 (refine am_go rfl (by first | exact True.intro | omega | exact ⟨by decide, Nat.le_of_ble_eq_true rfl, Nat.le_of_ble_eq_true rfl⟩ | exact ⟨by decide, Nat.le_of_ble_eq_true rfl⟩) ?_)
            refine ih (i + 1) _ _ (by omega) (by omega) (by omega) ⟨fun x j hx => ?_, fun x j hx => ?_⟩ ?_ (fun u hu => a3 u (hk u hu)) (fun j j1 j2 j3 => ?_)
            · rw [am_u1_ne hx]
              exact hF.1 x j hx
            · rw [am_u3_c hx]
              exact hF.2 x j hx
            · rw [show (y * 5 + z) * 4 + (i + 1) = (y * 5 + z) * 4 + i + 1 by omega]
              exact a1
            · by_cases e : j = i
              · subst e
                exact a2
              · exact a3 _ (hj j j1 (by omega) j3)
  refine am_enter ok_4_listPlaceValuesAt rfl (by decide) (Nat.le_of_ble_eq_true rfl) rfl ?_
  iterate 4 (refine am_go rfl (by first | exact True.intro | omega | exact ⟨by decide, Nat.le_of_ble_eq_true rfl, Nat.le_of_ble_eq_true rfl⟩ | exact ⟨by decide, Nat.le_of_ble_eq_true rfl⟩) ?_)
  refine am_callv rfl (ct_alternativesAt _ _) (by decide) (Nat.le_of_ble_eq_true rfl) (Nat.le_of_ble_eq_true rfl) ?_
  iterate 3 (refine am_go rfl (by first | exact True.intro | omega | exact ⟨by decide, Nat.le_of_ble_eq_true rfl, Nat.le_of_ble_eq_true rfl⟩ | exact ⟨by decide, Nat.le_of_ble_eq_true rfl⟩) ?_)
  refine loop _ 0 f g (Nat.le_refl _) (by omega) (by omega) (zFrL.rf f g) ?_ (fun u hu => hu) (fun j j1 j2 => by omega)
  rw [show (y * 5 + z) * 4 + 0 = (y * 5 + z) * 4 by omega]
  exact hl
end Lst
end
section
section Lst2
variable {l : Launch} {dC : Nat → ClassId} {dI : Nat → Nat → Nat} {tc : Nat → ClassId} {f : Nat → Nat → Int} {g : Nat → Int → Int} {a b c : Nat}
theorem zFrL.I {f f0 : Nat → Nat → Int} {g g0 : Nat → Int → Int} (h : zFrL f f0 g g0) (hI : zI f0 g0) : zI f g := by
  unfold zI at hI ⊢
  simp only [h.1 2 0 (Or.inl (by decide)), h.1 12 0 (Or.inl (by decide)), h.1 18 0 (Or.inl (by decide)), h.2 3 _ (by decide), h.2 4 _ (by decide), h.2 5 _ (by decide), h.2 13 _ (by decide), h.2 14 _ (by decide), h.2 16 _ (by decide), h.2 17 _ (by decide)]
  exact hI
/-- what the list must have: the values of the place at the states that are reached, of the lines before y, and in it of the places before z -/
def zCov (g : Nat → Int → Int) (x y z : Int) (v : Int) : Prop := ∃ y' z' i, 0 ≤ y' ∧ 0 ≤ z' ∧ z' < zPl g y' ∧ (y' < y ∨ (y' = y ∧ z' < z)) ∧ g 32 (zSt x y' z') = 1 ∧ 0 ≤ i ∧ i < zNa g y' z' ∧ g 15 (zAlt y' z' i) = 7 ∧ v = g 16 (zAlt y' z' i)
set_option maxRecDepth 100000 in
set_option maxHeartbeats 4000000 in
theorem ct_listPlaceValues (hI : zI f g) (h32 : ∀ j, 0 ≤ j → j < 420 → g 32 j = 0 ∨ g 32 j = 1) : am_Ct l dC dI tc mm4_listPlaceValues 3 58 [(.inr (.inr (some 22)))] (58, f, g, pr_r a b c) (fun r s => r = none ∧ ∃ f' g', s = (58, f', g', pr_r a b c) ∧ zFrL f' f g' g ∧ zLs f' g' 120 ∧ ((f' 22 13 = 0 ∧ ∀ x, 0 ≤ x → x < f 2 0 → g 3 x ≠ 7) ∨ ∃ x, 0 ≤ x ∧ x < f 2 0 ∧ g 3 x = 7 ∧ ∀ v, zCov g x (f 12 0) 0 v → zHas f' g' v)) := by
  have hI2 := hI
  obtain ⟨i1, i2, i3, i4, i5, i6, i7⟩ := hI2
  have outer : ∀ x, 0 ≤ x → x < f 2 0 → g 3 x = 7 → ∀ (n : Nat) (y : Int) (o3 : Option Int) (F : Nat → Nat → Int) (G : Nat → Int → Int), (f 12 0 - y).toNat ≤ n → 0 ≤ y → y ≤ f 12 0 → zFrL F f G g → zLs F G (y * 20) → (∀ v, zCov g x y 0 v → zHas F G v) → am_wp l dC dI tc mm4_listPlaceValues 3 58 58 (fun r s => r = none ∧ ∃ f' g', s = (58, f', g', pr_r a b c) ∧ zFrL f' f g' g ∧ zLs f' g' 120 ∧ ((f' 22 13 = 0 ∧ ∀ x, 0 ≤ x → x < f 2 0 → g 3 x ≠ 7) ∨ ∃ x, 0 ≤ x ∧ x < f 2 0 ∧ g 3 x = 7 ∧ ∀ v, zCov g x (f 12 0) 0 v → zHas f' g' v)) 14 [some (.inr (.inr (some 22))), some (.inl x), some (.inl y), o3.map Sum.inl] [] (58, F, G, pr_r a b c) := by
    intro x hx1 hx2 hx3 n
    induction n with
    | zero =>
      intro y o3 F G hn hy hy2 hF hL hC
      have e12 : F 12 0 = f 12 0 := hF.1 12 0 (Or.inl (by decide))
      iterate 4 (refine am_go rfl (by first | exact True.intro | omega | exact ⟨by decide, Nat.le_of_ble_eq_true rfl, Nat.le_of_ble_eq_true rfl⟩ | exact ⟨by decide, Nat.le_of_ble_eq_true rfl⟩) ?_)
      rw [e12]
      refine am_if rfl (fun c1 => ?_) (fun c1 => ?_)
      · have e : y = f 12 0 := by omega
        subst e
        exact am_vret (x := 0) rfl rfl rfl ⟨rfl, F, G, rfl, hF, ⟨⟨hL.1.1, by have := hL.1.2; omega⟩, hL.2⟩, Or.inr ⟨x, hx1, hx2, hx3, hC⟩⟩
      · omega
    | succ n ih =>
      intro y o3 F G hn hy hy2 hF hL hC
      have e12 : F 12 0 = f 12 0 := hF.1 12 0 (Or.inl (by decide))
      have inner : y < f 12 0 → ∀ (m : Nat) (z : Int) (F : Nat → Nat → Int) (G : Nat → Int → Int), (zPl g y - z).toNat ≤ m → 0 ≤ z → z ≤ zPl g y → zFrL F f G g → zLs F G ((y * 5 + z) * 4) → (∀ v, zCov g x y z v → zHas F G v) → am_wp l dC dI tc mm4_listPlaceValues 3 58 58 (fun r s => r = none ∧ ∃ f' g', s = (58, f', g', pr_r a b c) ∧ zFrL f' f g' g ∧ zLs f' g' 120 ∧ ((f' 22 13 = 0 ∧ ∀ x, 0 ≤ x → x < f 2 0 → g 3 x ≠ 7) ∨ ∃ x, 0 ≤ x ∧ x < f 2 0 ∧ g 3 x = 7 ∧ ∀ v, zCov g x (f 12 0) 0 v → zHas f' g' v)) 21 [some (.inr (.inr (some 22))), some (.inl x), some (.inl y), some (.inl z)] [] (58, F, G, pr_r a b c) := by
        intro hyl
        have e13 : zPl g y = g 13 y := if_pos ⟨hy, by omega⟩
        have h13 := (i4 y hy (by omega)).1
        have done : ∀ (z : Int) (F : Nat → Nat → Int) (G : Nat → Int → Int), z = zPl g y → zFrL F f G g → zLs F G ((y * 5 + z) * 4) → (∀ v, zCov g x y z v → zHas F G v) → am_wp l dC dI tc mm4_listPlaceValues 3 58 58 (fun r s => r = none ∧ ∃ f' g', s = (58, f', g', pr_r a b c) ∧ zFrL f' f g' g ∧ zLs f' g' 120 ∧ ((f' 22 13 = 0 ∧ ∀ x, 0 ≤ x → x < f 2 0 → g 3 x ≠ 7) ∨ ∃ x, 0 ≤ x ∧ x < f 2 0 ∧ g 3 x = 7 ∧ ∀ v, zCov g x (f 12 0) 0 v → zHas f' g' v)) 39 [some (.inr (.inr (some 22))), some (.inl x), some (.inl y), some (.inl z)] [] (58, F, G, pr_r a b c) := by
          intro z F G hz hF hL hC
          iterate 2 (refine am_go rfl (by first | exact True.intro | omega | exact ⟨by decide, Nat.le_of_ble_eq_true rfl, Nat.le_of_ble_eq_true rfl⟩ | exact ⟨by decide, Nat.le_of_ble_eq_true rfl⟩) ?_)
          refine ih (y + 1) (some z) F G (by omega) (by omega) (by omega) hF ⟨⟨hL.1.1, by have := hL.1.2; omega⟩, hL.2⟩ (fun v hv => hC v ?_)
          obtain ⟨y', z', i, b1, b2, b3, b4, b5⟩ := hv
          refine ⟨y', z', i, b1, b2, b3, ?_, b5⟩
          rcases b4 with b4 | b4
          · by_cases e : y' = y
            · subst e
              exact Or.inr ⟨rfl, by omega⟩
            · exact Or.inl (by omega)
          · omega
        intro m
        induction m with
        | zero =>
          intro z F G hm hz hz2 hF hL hC
          iterate 4 (refine am_go rfl (by first | exact True.intro | omega | exact ⟨by decide, Nat.le_of_ble_eq_true rfl, Nat.le_of_ble_eq_true rfl⟩ | exact ⟨by decide, Nat.le_of_ble_eq_true rfl⟩) ?_)
          refine am_callv rfl (ct_placesIn _) (by decide) (Nat.le_of_ble_eq_true rfl) (Nat.le_of_ble_eq_true rfl) ?_
          rw [zPl_fr (fun j => hF.2 13 j (by decide))]
          refine am_if rfl (fun c1 => ?_) (fun c1 => ?_)
          · exact done z F G (by omega) hF hL hC
          · omega
        | succ m ihm =>
          intro z F G hm hz hz2 hF hL hC
          iterate 4 (refine am_go rfl (by first | exact True.intro | omega | exact ⟨by decide, Nat.le_of_ble_eq_true rfl, Nat.le_of_ble_eq_true rfl⟩ | exact ⟨by decide, Nat.le_of_ble_eq_true rfl⟩) ?_)
          refine am_callv rfl (ct_placesIn _) (by decide) (Nat.le_of_ble_eq_true rfl) (Nat.le_of_ble_eq_true rfl) ?_
          rw [zPl_fr (fun j => hF.2 13 j (by decide))]
          refine am_if rfl (fun c1 => ?_) (fun c1 => ?_)
          · exact done z F G (by omega) hF hL hC
          · have h32' := h32 (zSt x y z) (by unfold zSt; omega) (by unfold zSt; omega)
            iterate 4 (refine am_go rfl (by first | exact True.intro | omega | exact ⟨by decide, Nat.le_of_ble_eq_true rfl, Nat.le_of_ble_eq_true rfl⟩ | exact ⟨by decide, Nat.le_of_ble_eq_true rfl⟩) ?_)
            refine am_callv rfl (ct_isReached _ _ _ (by omega) (by omega) (by omega) (by rw [hF.2 32 _ (by decide)]; exact h32')) (by decide) (Nat.le_of_ble_eq_true rfl) (Nat.le_of_ble_eq_true rfl) ?_
            rw [hF.2 32 _ (by decide)]
            refine am_if rfl (fun c2 => ?_) (fun c2 => ?_)
            · iterate 2 (refine am_go rfl (by first | exact True.intro | omega | exact ⟨by decide, Nat.le_of_ble_eq_true rfl, Nat.le_of_ble_eq_true rfl⟩ | exact ⟨by decide, Nat.le_of_ble_eq_true rfl⟩) ?_)
              refine ihm (z + 1) F G (by omega) (by omega) (by omega) hF ⟨⟨hL.1.1, by have := hL.1.2; omega⟩, hL.2⟩ (fun v hv => hC v ?_)
              obtain ⟨y', z', i, b1, b2, b3, b4, b5, b6⟩ := hv
              refine ⟨y', z', i, b1, b2, b3, ?_, b5, b6⟩
              rcases b4 with b4 | b4
              · exact Or.inl b4
              · obtain ⟨rfl, b7⟩ := b4
                by_cases e : z' = z
                · subst e
                  have c2 : g 32 (zSt x y' z') = 0 := c2
                  omega
                · exact Or.inr ⟨rfl, by omega⟩
            · iterate 3 (refine am_go rfl (by first | exact True.intro | omega | exact ⟨by decide, Nat.le_of_ble_eq_true rfl, Nat.le_of_ble_eq_true rfl⟩ | exact ⟨by decide, Nat.le_of_ble_eq_true rfl⟩) ?_)
              refine am_call rfl (ct_listAt y z (hF.I hI) (by omega) (by omega) hL) (by decide) (Nat.le_of_ble_eq_true rfl) (Nat.le_of_ble_eq_true rfl) (Nat.le_of_ble_eq_true rfl) (fun rv s q => ?_)
              obtain ⟨rfl, F2, G2, rfl, hF2, hL2, hk2, hn2⟩ := q
              iterate 2 (refine am_go rfl (by first | exact True.intro | omega | exact ⟨by decide, Nat.le_of_ble_eq_true rfl, Nat.le_of_ble_eq_true rfl⟩ | exact ⟨by decide, Nat.le_of_ble_eq_true rfl⟩) ?_)
              refine ihm (z + 1) F2 G2 (by omega) (by omega) (by omega) (hF2.tr hF) ⟨⟨hL2.1.1, by have := hL2.1.2; omega⟩, hL2.2⟩ (fun v hv => ?_)
              obtain ⟨y', z', i, b1, b2, b3, b4, b5, b6, b7, b8, b9⟩ := hv
              by_cases e : y' = y ∧ z' = z
              · obtain ⟨rfl, rfl⟩ := e
                have hq := hn2 i b6 (by rw [zNa_fr (fun j => hF.2 14 j (by decide))]; exact b7) (by rw [hF.2 15 _ (by decide)]; exact b8)
                rw [hF.2 16 _ (by decide)] at hq
                rw [b9]
                exact hq
              · exact hk2 v (hC v ⟨y', z', i, b1, b2, b3, by omega, b5, b6, b7, b8, b9⟩)
      iterate 4 (refine am_go rfl (by first | exact True.intro | omega | exact ⟨by decide, Nat.le_of_ble_eq_true rfl, Nat.le_of_ble_eq_true rfl⟩ | exact ⟨by decide, Nat.le_of_ble_eq_true rfl⟩) ?_)
      rw [e12]
      refine am_if rfl (fun c1 => ?_) (fun c1 => ?_)
      · have e : y = f 12 0 := by omega
        subst e
        exact am_vret (x := 0) rfl rfl rfl ⟨rfl, F, G, rfl, hF, ⟨⟨hL.1.1, by have := hL.1.2; omega⟩, hL.2⟩, Or.inr ⟨x, hx1, hx2, hx3, hC⟩⟩
      · iterate 2 (refine am_go rfl (by first | exact True.intro | omega | exact ⟨by decide, Nat.le_of_ble_eq_true rfl, Nat.le_of_ble_eq_true rfl⟩ | exact ⟨by decide, Nat.le_of_ble_eq_true rfl⟩) ?_)
        refine inner (by omega) _ 0 F G (Nat.le_refl _) (by omega) ?_ hF ?_ hC
        · have := (i4 y hy (by omega)).1
          have e13 : zPl g y = g 13 y := if_pos ⟨hy, by omega⟩
          omega
        · rw [show (y * 5 + 0) * 4 = y * 20 by omega]
          exact hL
  have hL0 : zLs (am_u1 f 22 13 0) g (0 * 20) := by
    have e : am_u1 f 22 13 0 22 13 = 0 := am_u1_s
    refine ⟨by rw [e]; omega, fun i h1 h2 => ?_, fun i j h1 h2 => ?_⟩
    · rw [e] at h2; omega
    · rw [e] at h2; omega
  have hF0 : zFrL (am_u1 f 22 13 0) f g g := ⟨fun x j hx => am_u1_ne hx, fun _ _ _ => rfl⟩
  have e2 : am_u1 f 22 13 0 2 0 = f 2 0 := am_u1_c (by decide)
  refine am_enter ok_4_listPlaceValues rfl (by decide) (Nat.le_of_ble_eq_true rfl) rfl ?_
  iterate 6 (refine am_go rfl (by first | exact True.intro | omega | exact ⟨by decide, Nat.le_of_ble_eq_true rfl, Nat.le_of_ble_eq_true rfl⟩ | exact ⟨by decide, Nat.le_of_ble_eq_true rfl⟩) ?_)
  refine am_call rfl (ct_partOfKind 7 (by rw [e2]; omega)) (by decide) (Nat.le_of_ble_eq_true rfl) (Nat.le_of_ble_eq_true rfl) (Nat.le_of_ble_eq_true rfl) (fun rv s q => ?_)
  obtain ⟨rfl, ⟨x, rfl, q1, q2, q3⟩ | ⟨rfl, q1⟩⟩ := q
  · rw [e2] at q2
    iterate 3 (refine am_go rfl (by first | exact True.intro | omega | exact ⟨by decide, Nat.le_of_ble_eq_true rfl, Nat.le_of_ble_eq_true rfl⟩ | exact ⟨by decide, Nat.le_of_ble_eq_true rfl⟩) ?_)
    refine am_if rfl (fun c1 => ?_) (fun c1 => ?_)
    · iterate 2 (refine am_go rfl (by first | exact True.intro | omega | exact ⟨by decide, Nat.le_of_ble_eq_true rfl, Nat.le_of_ble_eq_true rfl⟩ | exact ⟨by decide, Nat.le_of_ble_eq_true rfl⟩) ?_)
      refine outer x q1 q2 q3 _ 0 none _ g (Nat.le_refl _) (by omega) (by omega) hF0 hL0 (fun v hv => ?_)
      obtain ⟨y', z', i, b1, b2, b3, b4, b5⟩ := hv
      omega
    · omega
  · rw [e2] at q1
    iterate 3 (refine am_go rfl (by first | exact True.intro | omega | exact ⟨by decide, Nat.le_of_ble_eq_true rfl, Nat.le_of_ble_eq_true rfl⟩ | exact ⟨by decide, Nat.le_of_ble_eq_true rfl⟩) ?_)
    refine am_if rfl (fun c1 => ?_) (fun c1 => ?_)
    · omega
    · exact am_vret (x := 0) rfl rfl rfl ⟨rfl, _, g, rfl, hF0, ⟨⟨hL0.1.1, by have := hL0.1.2; omega⟩, hL0.2⟩, Or.inl ⟨am_u1_s, q1⟩⟩
end Lst2
end
section
/-! which states are reached -/
def zKd (g : Nat → Int → Int) (y z k : Int) : Prop := ∃ i, 0 ≤ i ∧ i < zNa g y z ∧ g 15 (zAlt y z i) = k
def zTn (g : Nat → Int → Int) (x y z q : Int) : Prop := 0 ≤ q ∧ ((g 4 x ≠ -1 ∧ zBeh g x y z = q) ∨ (zKd g y z (g 3 x) ∧ zBeh g x y (z + 1) = q))
/-- nothing has changed but the states that are reached, and the lines -/
def zFrS (f f0 : Nat → Nat → Int) (g g0 : Nat → Int → Int) : Prop := (∀ x j, x ≠ 22 ∨ j ≠ 2 → f x j = f0 x j) ∧ ∀ x j, x ≠ 32 → g x j = g0 x j
theorem zFrS.rf (f : Nat → Nat → Int) (g : Nat → Int → Int) : zFrS f f g g := ⟨fun _ _ _ => rfl, fun _ _ _ => rfl⟩
theorem zFrS.tr {f f1 f0 : Nat → Nat → Int} {g g1 g0 : Nat → Int → Int} (h : zFrS f f1 g g1) (h0 : zFrS f1 f0 g1 g0) : zFrS f f0 g g0 := ⟨fun x j hx => (h.1 x j hx).trans (h0.1 x j hx), fun x j hx => (h.2 x j hx).trans (h0.2 x j hx)⟩
theorem zFrS.I {f f0 : Nat → Nat → Int} {g g0 : Nat → Int → Int} (h : zFrS f f0 g g0) (hI : zI f0 g0) : zI f g := by
  unfold zI at hI ⊢
  simp only [h.1 2 0 (Or.inl (by decide)), h.1 12 0 (Or.inl (by decide)), h.1 18 0 (Or.inl (by decide)), h.2 3 _ (by decide), h.2 4 _ (by decide), h.2 5 _ (by decide), h.2 13 _ (by decide), h.2 14 _ (by decide), h.2 16 _ (by decide), h.2 17 _ (by decide)]
  exact hI
theorem zFrS.Beh {f f0 : Nat → Nat → Int} {g g0 : Nat → Int → Int} (h : zFrS f f0 g g0) (x y z : Int) : zBeh g x y z = zBeh g0 x y z := by
  unfold zBeh
  rw [h.2 5 _ (by decide), zPl_fr (fun j => h.2 13 j (by decide))]
theorem zFrS.Kd {f f0 : Nat → Nat → Int} {g g0 : Nat → Int → Int} (h : zFrS f f0 g g0) (y z k : Int) : zKd g y z k ↔ zKd g0 y z k := by
  unfold zKd
  rw [zNa_fr (fun j => h.2 14 j (by decide))]
  simp only [h.2 15 _ (by decide)]
theorem zFrS.Tn {f f0 : Nat → Nat → Int} {g g0 : Nat → Int → Int} (h : zFrS f f0 g g0) (x y z q : Int) : zTn g x y z q ↔ zTn g0 x y z q := by
  unfold zTn
  rw [h.2 4 _ (by decide), h.2 3 _ (by decide), h.Beh, h.Beh, h.Kd]
/-- the greatest line of the states that are reached -/
def zLr (f : Nat → Nat → Int) (g : Nat → Int → Int) : Prop := (0 ≤ f 22 2 ∧ f 22 2 ≤ 6) ∧ (∀ j, 0 ≤ j → j < 420 → g 32 j = 0 ∨ g 32 j = 1) ∧ (∀ j, 0 ≤ j → j < 420 → g 32 j = 1 → j / 6 % 7 ≤ f 22 2) ∧ ∃ j, 0 ≤ j ∧ j < 420 ∧ g 32 j = 1 ∧ j / 6 % 7 = f 22 2
theorem zLr_put {f : Nat → Nat → Int} {g : Nat → Int → Int} {x : Int} (h : zLr f g) (hx : 0 ≤ x ∧ x < 420) : zLr (am_u1 f 22 2 (if f 22 2 < x / 6 % 7 then x / 6 % 7 else f 22 2)) (am_u3 g 32 x 1) := by
  obtain ⟨h1, h0, h2, j, j1, j2, j3, j4⟩ := h
  have e : am_u1 f 22 2 (if f 22 2 < x / 6 % 7 then x / 6 % 7 else f 22 2) 22 2 = if f 22 2 < x / 6 % 7 then x / 6 % 7 else f 22 2 := am_u1_s
  have eg : ∀ i, am_u3 g 32 x 1 32 i = if i = x then 1 else g 32 i := fun i => by
    by_cases u : i = x
    · rw [if_pos u, u, am_u3_s]
    · rw [if_neg u, am_u3_j u]
  refine ⟨by rw [e]; split <;> omega, fun i i1 i2 => ?_, fun i i1 i2 i3 => ?_, ?_⟩
  · rw [eg]
    split
    · exact Or.inr rfl
    · exact h0 i i1 i2
  · rw [e]
    rw [eg] at i3
    by_cases u : i = x
    · subst u
      split <;> omega
    · rw [if_neg u] at i3
      have := h2 i i1 i2 i3
      split <;> omega
  · rw [e]
    by_cases u : f 22 2 < x / 6 % 7
    · rw [if_pos u]
      exact ⟨x, hx.1, hx.2, by rw [eg, if_pos rfl], rfl⟩
    · rw [if_neg u]
      refine ⟨j, j1, j2, ?_, j4⟩
      rw [eg]
      split
      · rfl
      · exact j3
theorem zBeh_r {f : Nat → Nat → Int} {g : Nat → Int → Int} (hI : zI f g) {x y z : Int} (hx : 0 ≤ x ∧ x < f 2 0) (hy : 0 ≤ y ∧ y ≤ 6) (hz : 0 ≤ z ∧ z ≤ 5) : zBeh g x y z < 420 ∧ (0 ≤ zBeh g x y z → zBeh g x y z / 42 = x + 1) := by
  have i1 := hI.1
  unfold zBeh
  split
  · omega
  · split
    · rename_i u1 u2
      have : zPl g y ≠ 0 := by omega
      have : y < 6 := by
        unfold zPl at this
        split at this <;> omega
      omega
    · omega
section Rch
variable {l : Launch} {dC : Nat → ClassId} {dI : Nat → Nat → Nat} {tc : Nat → ClassId} {f : Nat → Nat → Int} {g : Nat → Int → Int} {a b c : Nat}
set_option maxRecDepth 100000 in
set_option maxHeartbeats 4000000 in
theorem ct_reachQ (q : Int) (hq : q < 420) (hL : zLr f g) : am_Ct l dC dI tc mm4_reach 1 58 [(.inr (.inr (some 22))), .inl q] (58, f, g, pr_r a b c) (fun r s => r = none ∧ ∃ f' g', s = (58, f', g', pr_r a b c) ∧ zFrS f' f g' g ∧ zLr f' g' ∧ ∀ j, 0 ≤ j → j < 420 → (g' 32 j = 1 ↔ g 32 j = 1 ∨ (0 ≤ q ∧ j = q))) := by
  refine am_Ct_mono (fun r s h => ?_) (ct_reach q hq (by have := hL.1; omega))
  obtain ⟨h1, h2⟩ := h
  refine ⟨h1, ?_⟩
  by_cases u : q < 0
  · rw [if_pos u] at h2
    exact ⟨f, g, h2, zFrS.rf f g, hL, fun j j1 j2 => ⟨Or.inl, fun w => w.elim id (fun w => by omega)⟩⟩
  · rw [if_neg u] at h2
    refine ⟨_, _, h2, ⟨fun x j hx => am_u1_ne hx, fun x j hx => am_u3_c hx⟩, zLr_put hL (by omega), fun j j1 j2 => ?_⟩
    by_cases w : j = q
    · subst w
      rw [am_u3_s]
      exact ⟨fun _ => Or.inr ⟨by omega, rfl⟩, fun _ => rfl⟩
    · rw [am_u3_j w]
      exact ⟨Or.inl, fun v => v.elim id (fun v => absurd v.2 w)⟩
set_option maxRecDepth 100000 in
set_option maxHeartbeats 4000000 in
theorem ct_reachFrom (x y z : Int) (hI : zI f g) (hL : zLr f g) (hx : 0 ≤ x ∧ x < f 2 0) (hy : 0 ≤ y ∧ y ≤ 6) (hz : 0 ≤ z ∧ z ≤ 5) : am_Ct l dC dI tc mm4_reachFrom 2 58 [(.inr (.inr (some 22))), .inl x, .inl y, .inl z] (58, f, g, pr_r a b c) (fun r s => r = none ∧ ∃ f' g', s = (58, f', g', pr_r a b c) ∧ zFrS f' f g' g ∧ zLr f' g' ∧ ∀ j, 0 ≤ j → j < 420 → (g' 32 j = 1 ↔ g 32 j = 1 ∨ zTn g x y z j)) := by
  have hI2 := hI
  obtain ⟨i1, i2, i3, i4, i5, i6, i7⟩ := hI2
  have hf := i2 x hx.1 hx.2
  -- behind the first half
  have half : ∀ (F : Nat → Nat → Int) (G : Nat → Int → Int), zFrS F f G g → zLr F G → (∀ j, 0 ≤ j → j < 420 → (G 32 j = 1 ↔ g 32 j = 1 ∨ (0 ≤ j ∧ g 4 x ≠ -1 ∧ zBeh g x y z = j))) → am_wp l dC dI tc mm4_reachFrom 2 58 58 (fun r s => r = none ∧ ∃ f' g', s = (58, f', g', pr_r a b c) ∧ zFrS f' f g' g ∧ zLr f' g' ∧ ∀ j, 0 ≤ j → j < 420 → (g' 32 j = 1 ↔ g 32 j = 1 ∨ zTn g x y z j)) 13 [some (.inr (.inr (some 22))), some (.inl x), some (.inl y), some (.inl z)] [] (58, F, G, pr_r a b c) := by
    intro F G hF hL1 hS
    iterate 7 (refine am_go rfl (by first | exact True.intro | omega | exact ⟨by decide, Nat.le_of_ble_eq_true rfl, Nat.le_of_ble_eq_true rfl⟩ | exact ⟨by decide, Nat.le_of_ble_eq_true rfl⟩) ?_)
    have e2 : F 2 0 = f 2 0 := hF.1 2 0 (Or.inl (by decide))
    refine am_callv rfl (ct_fk _ (by rw [e2]; omega) (by rw [e2]; omega)) (by decide) (Nat.le_of_ble_eq_true rfl) (Nat.le_of_ble_eq_true rfl) ?_
    rw [hF.2 3 _ (by decide)]
    refine am_call rfl (ct_hasKind _ _ _ (zNa_r (hF.I hI) y z).2) (by decide) (Nat.le_of_ble_eq_true rfl) (Nat.le_of_ble_eq_true rfl) (Nat.le_of_ble_eq_true rfl) (fun rv s q => ?_)
    obtain ⟨rfl, ⟨rfl, hq⟩ | ⟨rfl, hq⟩⟩ := q
    · have hkd : zKd g y z (g 3 x) := (hF.Kd y z _).mp hq
      have hz5 : z < 5 := by
        obtain ⟨i, a1, a2, a3⟩ := hkd
        exact (zNa_in (show 0 < zNa g y z by omega)).2.2
      refine am_if rfl (fun c1 => ?_) (fun c1 => ?_)
      · omega
      · iterate 7 (refine am_go rfl (by first | exact True.intro | omega | exact ⟨by decide, Nat.le_of_ble_eq_true rfl, Nat.le_of_ble_eq_true rfl⟩ | exact ⟨by decide, Nat.le_of_ble_eq_true rfl⟩) ?_)
        refine am_callv rfl (ct_stateBehind _ _ _ (by rw [e2]; omega) (by rw [e2]; omega) (by omega) (by omega) (by rw [hF.2 5 _ (by decide)]; exact hf.2.2)) (by decide) (Nat.le_of_ble_eq_true rfl) (Nat.le_of_ble_eq_true rfl) ?_
        rw [hF.Beh]
        obtain ⟨b1, b2⟩ := zBeh_r hI hx hy (show 0 ≤ z + 1 ∧ z + 1 ≤ 5 by omega)
        refine am_call rfl (ct_reachQ _ b1 hL1) (by decide) (Nat.le_of_ble_eq_true rfl) (Nat.le_of_ble_eq_true rfl) (Nat.le_of_ble_eq_true rfl) (fun rv s q => ?_)
        obtain ⟨rfl, F2, G2, rfl, hF2, hL2, hS2⟩ := q
        refine am_vret (x := 0) rfl rfl rfl ⟨rfl, F2, G2, rfl, hF2.tr hF, hL2, fun j j1 j2 => ?_⟩
        rw [hS2 j j1 j2, hS j j1 j2]
        constructor
        · rintro ((u | ⟨u1, u2, u3⟩) | ⟨u1, u2⟩)
          · exact Or.inl u
          · exact Or.inr ⟨u1, Or.inl ⟨u2, u3⟩⟩
          · exact Or.inr ⟨j1, Or.inr ⟨hkd, u2.symm⟩⟩
        · rintro (u | ⟨u1, ⟨u2, u3⟩ | ⟨u2, u3⟩⟩)
          · exact Or.inl (Or.inl u)
          · exact Or.inl (Or.inr ⟨u1, u2, u3⟩)
          · exact Or.inr ⟨by omega, u3.symm⟩
    · have hkd : ¬ zKd g y z (g 3 x) := fun u => by
        obtain ⟨i, a1, a2, a3⟩ := (hF.Kd y z _).mpr u
        exact hq i a1 a2 a3
      refine am_if rfl (fun c1 => ?_) (fun c1 => ?_)
      · refine am_vret (x := 0) rfl rfl rfl ⟨rfl, F, G, rfl, hF, hL1, fun j j1 j2 => ?_⟩
        rw [hS j j1 j2]
        constructor
        · rintro (u | ⟨u1, u2, u3⟩)
          · exact Or.inl u
          · exact Or.inr ⟨u1, Or.inl ⟨u2, u3⟩⟩
        · rintro (u | ⟨u1, ⟨u2, u3⟩ | ⟨u2, u3⟩⟩)
          · exact Or.inl u
          · exact Or.inr ⟨u1, u2, u3⟩
          · exact absurd u2 hkd
      · omega
  refine am_enter ok_4_reachFrom rfl (by decide) (Nat.le_of_ble_eq_true rfl) rfl ?_
  iterate 3 (refine am_go rfl (by first | exact True.intro | omega | exact ⟨by decide, Nat.le_of_ble_eq_true rfl, Nat.le_of_ble_eq_true rfl⟩ | exact ⟨by decide, Nat.le_of_ble_eq_true rfl⟩) ?_)
  refine am_callv rfl (ct_fm _ (by omega) hx) (by decide) (Nat.le_of_ble_eq_true rfl) (Nat.le_of_ble_eq_true rfl) ?_
  (refine am_go rfl (by first | exact True.intro | omega | exact ⟨by decide, Nat.le_of_ble_eq_true rfl, Nat.le_of_ble_eq_true rfl⟩ | exact ⟨by decide, Nat.le_of_ble_eq_true rfl⟩) ?_)
  refine am_if rfl (fun c1 => ?_) (fun c1 => ?_)
  · exact half f g (zFrS.rf f g) hL (fun j j1 j2 => ⟨Or.inl, fun u => u.elim id (fun u => absurd c1 u.2.1)⟩)
  · iterate 5 (refine am_go rfl (by first | exact True.intro | omega | exact ⟨by decide, Nat.le_of_ble_eq_true rfl, Nat.le_of_ble_eq_true rfl⟩ | exact ⟨by decide, Nat.le_of_ble_eq_true rfl⟩) ?_)
    refine am_callv rfl (ct_stateBehind _ _ _ (by omega) hx (by omega) (by omega) hf.2.2) (by decide) (Nat.le_of_ble_eq_true rfl) (Nat.le_of_ble_eq_true rfl) ?_
    obtain ⟨b1, b2⟩ := zBeh_r hI hx hy hz
    refine am_call rfl (ct_reachQ _ b1 hL) (by decide) (Nat.le_of_ble_eq_true rfl) (Nat.le_of_ble_eq_true rfl) (Nat.le_of_ble_eq_true rfl) (fun rv s q => ?_)
    obtain ⟨rfl, F2, G2, rfl, hF2, hL2, hS2⟩ := q
    refine half F2 G2 hF2 hL2 (fun j j1 j2 => ?_)
    rw [hS2 j j1 j2]
    constructor
    · rintro (u | ⟨u1, u2⟩)
      · exact Or.inl u
      · exact Or.inr ⟨j1, c1, u2.symm⟩
    · rintro (u | ⟨u1, u2, u3⟩)
      · exact Or.inl u
      · exact Or.inr ⟨by omega, u3.symm⟩
end Rch
end
section
/-! all states that are reached -/
def zRe (g : Nat → Int → Int) : Nat → Int → Prop
  | 0, j => j = 0
  | k + 1, j => ∃ y z, (0 ≤ y ∧ y ≤ 6) ∧ (0 ≤ z ∧ z ≤ 5) ∧ zRe g k (zSt k y z) ∧ zTn g k y z j
theorem zPl_r {f : Nat → Nat → Int} {g : Nat → Int → Int} (hI : zI f g) (y : Int) : 0 ≤ zPl g y ∧ zPl g y ≤ 5 := by
  unfold zPl
  split
  · rename_i q
    exact (hI.2.2.2.1 y q.1 q.2).1
  · omega
theorem zPl_lt {f : Nat → Nat → Int} {g : Nat → Int → Int} (hI : zI f g) {y : Int} (hy : 0 ≤ y) (h : 0 < zPl g y) : y < f 12 0 := by
  unfold zPl at h
  split at h
  · rename_i q
    exact (hI.2.2.2.1 y q.1 q.2).2.mpr h
  · omega
theorem zNa_lt {f : Nat → Nat → Int} {g : Nat → Int → Int} (hI : zI f g) {y z : Int} (h : 0 < zNa g y z) : z < zPl g y := by
  obtain ⟨h1, h2⟩ := zNa_in h
  have e : zNa g y z = g 14 (y * 5 + z) := if_pos ⟨h1, h2⟩
  have e2 : zPl g y = g 13 y := if_pos h1
  rw [e2]
  exact (hI.2.2.2.2.1 y z h1.1 h1.2 h2.1 h2.2).2.mpr (by omega)
/-- from a sound state to a sound state -/
theorem zTn_ok {f : Nat → Nat → Int} {g : Nat → Int → Int} (hI : zI f g) {x y z q : Int} (hx : 0 ≤ x ∧ x < f 2 0) (hy : 0 ≤ y ∧ y ≤ f 12 0) (hz : 0 ≤ z ∧ z ≤ zPl g y) (h : zTn g x y z q) : ∃ y' z', q = zSt (x + 1) y' z' ∧ (0 ≤ y' ∧ y' ≤ f 12 0) ∧ 0 ≤ z' ∧ z' ≤ zPl g y' := by
  have key : ∀ z1, 0 ≤ z1 → z1 ≤ zPl g y → zBeh g x y z1 = q → 0 ≤ q → ∃ y' z', q = zSt (x + 1) y' z' ∧ (0 ≤ y' ∧ y' ≤ f 12 0) ∧ 0 ≤ z' ∧ z' ≤ zPl g y' := by
    intro z1 h1 h2 h3 h4
    unfold zBeh at h3
    split at h3
    · exact ⟨y, z1, by unfold zSt; omega, hy, h1, h2⟩
    · split at h3
      · rename_i u1 u2
        have h5 := zPl_lt hI hy.1 (show 0 < zPl g y by omega)
        exact ⟨y + 1, 0, by unfold zSt; omega, by omega, by omega, (zPl_r hI _).1⟩
      · omega
  obtain ⟨h0, ⟨h1, h2⟩ | ⟨⟨i, a1, a2, a3⟩, h2⟩⟩ := h
  · exact key z hz.1 hz.2 h2 h0
  · have := zNa_lt hI (show 0 < zNa g y z by omega)
    exact key (z + 1) (by omega) (by omega) h2 h0
theorem zSt_inj {k : Nat} {y z y' z' : Int} (hy : 0 ≤ y ∧ y ≤ 6) (hz : 0 ≤ z ∧ z ≤ 5) (hy' : 0 ≤ y' ∧ y' ≤ 6) (hz' : 0 ≤ z' ∧ z' ≤ 5) (h : zSt k y z = zSt k y' z') : y = y' ∧ z = z' := by
  unfold zSt at h
  omega
theorem zRe_ok {f : Nat → Nat → Int} {g : Nat → Int → Int} (hI : zI f g) : ∀ (k : Nat) (j : Int), (k : Int) ≤ f 2 0 → zRe g k j → ∃ y z, j = zSt k y z ∧ (0 ≤ y ∧ y ≤ f 12 0) ∧ 0 ≤ z ∧ z ≤ zPl g y := by
  have i3 := hI.2.2.1
  intro k
  induction k with
  | zero =>
    intro j hk h
    exact ⟨0, 0, by have : j = 0 := h; rw [this]; rfl, by omega, by omega, (zPl_r hI 0).1⟩
  | succ k ih =>
    intro j hk h
    obtain ⟨y, z, hy, hz, h1, h2⟩ := h
    obtain ⟨y1, z1, e, b1, b2⟩ := ih _ (by omega) h1
    have hp := zPl_r hI y1
    obtain ⟨rfl, rfl⟩ := zSt_inj hy hz (by omega) (by omega) e
    exact zTn_ok hI ⟨by omega, by omega⟩ b1 b2 h2
theorem zRe_lv {f : Nat → Nat → Int} {g : Nat → Int → Int} (hI : zI f g) {k : Nat} {j : Int} (hk : (k : Int) ≤ f 2 0) (h : zRe g k j) : 0 ≤ j ∧ j < 420 ∧ j / 42 = k := by
  have i1 := hI.1
  have i3 := hI.2.2.1
  obtain ⟨y, z, rfl, b1, b2⟩ := zRe_ok hI k j hk h
  have hp := zPl_r hI y
  unfold zSt
  omega
def zBe (k' : Nat) (y' z' : Int) (k : Nat) (y z : Int) : Prop := k' < k ∨ (k' = k ∧ (y' < y ∨ (y' = y ∧ z' < z)))
def zInv (f : Nat → Nat → Int) (g : Nat → Int → Int) (F : Nat → Nat → Int) (G : Nat → Int → Int) (k : Nat) (y z : Int) : Prop :=
  zFrS F f G g ∧ zLr F G ∧ G 32 0 = 1 ∧ (∀ j, 0 ≤ j → j < 420 → G 32 j = 1 → ∃ k' : Nat, (k' : Int) ≤ f 2 0 ∧ zRe g k' j) ∧
  ∀ (k' : Nat) (y' z' : Int), (k' : Int) < f 2 0 → (0 ≤ y' ∧ y' ≤ f 12 0) → (0 ≤ z' ∧ z' ≤ zPl g y') → zBe k' y' z' k y z → G 32 (zSt k' y' z') = 1 → ∀ q, zTn g k' y' z' q → G 32 q = 1
theorem zInv_end {f F : Nat → Nat → Int} {g G : Nat → Int → Int} (hI : zI f g) {k : Nat} (hk : (k : Int) = f 2 0) (h : zInv f g F G k 0 0) : ∀ j, 0 ≤ j → j < 420 → (G 32 j = 1 ↔ ∃ k' : Nat, (k' : Int) ≤ f 2 0 ∧ zRe g k' j) := by
  have i3 := hI.2.2.1
  obtain ⟨h1, h2, h3, h4, h5⟩ := h
  have key : ∀ (n : Nat) (j : Int), (n : Int) ≤ f 2 0 → zRe g n j → G 32 j = 1 := by
    intro n
    induction n with
    | zero =>
      intro j _ hj
      have : j = 0 := hj
      rw [this]
      exact h3
    | succ n ih =>
      intro j hn hj
      obtain ⟨y, z, hy, hz, a1, a2⟩ := hj
      obtain ⟨y1, z1, e, b1, b2⟩ := zRe_ok hI n _ (by omega) a1
      have hp := zPl_r hI y1
      obtain ⟨rfl, rfl⟩ := zSt_inj hy hz (by omega) (by omega) e
      exact h5 n y z (by omega) b1 b2 (Or.inl (by omega)) (ih _ (by omega) a1) j a2
  intro j j1 j2
  exact ⟨h4 j j1 j2, fun ⟨k', a1, a2⟩ => key k' j a1 a2⟩
theorem zInv_skip {f F : Nat → Nat → Int} {g G : Nat → Int → Int} {k : Nat} {y z : Int} (h : zInv f g F G k y z) (hn : ¬ G 32 (zSt k y z) = 1) : zInv f g F G k y (z + 1) := by
  obtain ⟨h1, h2, h3, h4, h5⟩ := h
  refine ⟨h1, h2, h3, h4, fun k' y' z' a1 a2 a3 a4 a5 q a6 => ?_⟩
  by_cases e : k' = k ∧ y' = y ∧ z' = z
  · obtain ⟨rfl, rfl, rfl⟩ := e
    exact absurd a5 hn
  · refine h5 k' y' z' a1 a2 a3 ?_ a5 q a6
    unfold zBe at a4 ⊢
    omega
theorem zInv_step {f F F2 : Nat → Nat → Int} {g G G2 : Nat → Int → Int} (hI : zI f g) {k : Nat} {y z : Int} (hk : (k : Int) < f 2 0) (hy : 0 ≤ y ∧ y ≤ f 12 0) (hz : 0 ≤ z ∧ z ≤ zPl g y) (h : zInv f g F G k y z) (hn : G 32 (zSt k y z) = 1)
    (hF2 : zFrS F2 F G2 G) (hL2 : zLr F2 G2) (hS : ∀ j, 0 ≤ j → j < 420 → (G2 32 j = 1 ↔ G 32 j = 1 ∨ zTn G k y z j)) : zInv f g F2 G2 k y (z + 1) := by
  have i1 := hI.1
  have i3 := hI.2.2.1
  have hp := zPl_r hI y
  obtain ⟨h1, h2, h3, h4, h5⟩ := h
  have hT : ∀ j, zTn G k y z j ↔ zTn g k y z j := fun j => h1.Tn k y z j
  have hlev : ∀ j, zTn g k y z j → 0 ≤ j ∧ j < 420 ∧ j / 42 = k + 1 := by
    intro j hj
    obtain ⟨y1, z1, rfl, b1, b2⟩ := zTn_ok hI ⟨by omega, hk⟩ hy hz hj
    have hp1 := zPl_r hI y1
    unfold zSt
    omega
  refine ⟨hF2.tr h1, hL2, (hS 0 (by omega) (by omega)).mpr (Or.inl h3), fun j j1 j2 j3 => ?_, fun k' y' z' a1 a2 a3 a4 a5 q a6 => ?_⟩
  · rcases (hS j j1 j2).mp j3 with u | u
    · exact h4 j j1 j2 u
    · obtain ⟨k1, b1, b2⟩ := h4 (zSt k y z) (by unfold zSt; omega) (by unfold zSt; omega) hn
      have hl := (zRe_lv hI b1 b2).2.2
      have e : k1 = k := by unfold zSt at hl; omega
      subst e
      exact ⟨k1 + 1, by omega, y, z, by omega, by omega, b2, (hT j).mp u⟩
  · have hp' := zPl_r hI y'
    obtain ⟨y1, z1, e1, b1, b2⟩ := zTn_ok hI ⟨by omega, a1⟩ a2 a3 a6
    have hp1 := zPl_r hI y1
    have hq : 0 ≤ q ∧ q < 420 := by rw [e1]; unfold zSt; omega
    by_cases e : k' = k ∧ y' = y ∧ z' = z
    · obtain ⟨rfl, rfl, rfl⟩ := e
      exact (hS q hq.1 hq.2).mpr (Or.inr ((hT q).mpr a6))
    · have a5' : G 32 (zSt k' y' z') = 1 := by
        rcases (hS (zSt k' y' z') (by unfold zSt; omega) (by unfold zSt; omega)).mp a5 with u | u
        · exact u
        · have := (hlev _ ((hT _).mp u)).2.2
          unfold zBe at a4
          unfold zSt at this
          omega
      refine (hS q hq.1 hq.2).mpr (Or.inl (h5 k' y' z' a1 a2 a3 ?_ a5' q a6))
      unfold zBe at a4 ⊢
      omega
theorem zInv_line {f F : Nat → Nat → Int} {g G : Nat → Int → Int} {k : Nat} {y z : Int} (h : zInv f g F G k y z) (hz : zPl g y < z) : zInv f g F G k (y + 1) 0 := by
  obtain ⟨h1, h2, h3, h4, h5⟩ := h
  refine ⟨h1, h2, h3, h4, fun k' y' z' a1 a2 a3 a4 a5 q a6 => h5 k' y' z' a1 a2 a3 ?_ a5 q a6⟩
  unfold zBe at a4 ⊢
  by_cases e : k' = k ∧ y' = y
  · obtain ⟨rfl, rfl⟩ := e
    omega
  · omega
theorem zInv_part {f F : Nat → Nat → Int} {g G : Nat → Int → Int} {k : Nat} {y : Int} (h : zInv f g F G k y 0) (hy : f 12 0 < y) : zInv f g F G (k + 1) 0 0 := by
  obtain ⟨h1, h2, h3, h4, h5⟩ := h
  refine ⟨h1, h2, h3, h4, fun k' y' z' a1 a2 a3 a4 a5 q a6 => h5 k' y' z' a1 a2 a3 ?_ a5 q a6⟩
  unfold zBe at a4 ⊢
  omega
section Rch2
variable {l : Launch} {dC : Nat → ClassId} {dI : Nat → Nat → Nat} {tc : Nat → ClassId} {f : Nat → Nat → Int} {g : Nat → Int → Int} {a b c : Nat}
set_option maxRecDepth 100000 in
set_option maxHeartbeats 4000000 in
theorem ct_reachAll (hI : zI f g) : am_Ct l dC dI tc mm4_reachAll 3 58 [(.inr (.inr (some 22)))] (58, f, g, pr_r a b c) (fun r s => r = none ∧ ∃ f' g', s = (58, f', g', pr_r a b c) ∧ zFrS f' f g' g ∧ zLr f' g' ∧ ∀ j, 0 ≤ j → j < 420 → (g' 32 j = 1 ↔ ∃ k' : Nat, (k' : Int) ≤ f 2 0 ∧ zRe g k' j)) := by
  have hI2 := hI
  obtain ⟨i1, i2, i3, i4, i5, i6, i7⟩ := hI2
  have parts : ∀ (n k : Nat) (o2 o3 : Option Int) (F : Nat → Nat → Int) (G : Nat → Int → Int), (k : Int) ≤ f 2 0 → (f 2 0).toNat - k ≤ n → zInv f g F G k 0 0 → am_wp l dC dI tc mm4_reachAll 3 58 58 (fun r s => r = none ∧ ∃ f' g', s = (58, f', g', pr_r a b c) ∧ zFrS f' f g' g ∧ zLr f' g' ∧ ∀ j, 0 ≤ j → j < 420 → (g' 32 j = 1 ↔ ∃ k' : Nat, (k' : Int) ≤ f 2 0 ∧ zRe g k' j)) 22 [some (.inr (.inr (some 22))), some (.inl (k : Int)), o2.map Sum.inl, o3.map Sum.inl] [] (58, F, G, pr_r a b c) := by
    intro n
    induction n with
    | zero =>
      intro k o2 o3 F G hk hn hV
      have e2 : F 2 0 = f 2 0 := hV.1.1 2 0 (Or.inl (by decide))
      iterate 4 (refine am_go rfl (by first | exact True.intro | omega | exact ⟨by decide, Nat.le_of_ble_eq_true rfl, Nat.le_of_ble_eq_true rfl⟩ | exact ⟨by decide, Nat.le_of_ble_eq_true rfl⟩) ?_)
      rw [e2]
      refine am_if rfl (fun c1 => ?_) (fun c1 => ?_)
      · exact am_vret (x := 0) rfl rfl rfl ⟨rfl, F, G, rfl, hV.1, hV.2.1, zInv_end hI (by omega) hV⟩
      · omega
    | succ n ih =>
      intro k o2 o3 F G hk hn hV
      have e2 : F 2 0 = f 2 0 := hV.1.1 2 0 (Or.inl (by decide))
      have lns : (k : Int) < f 2 0 → ∀ (m : Nat) (y : Int) (o3 : Option Int) (F : Nat → Nat → Int) (G : Nat → Int → Int), 0 ≤ y → y ≤ f 12 0 + 1 → (f 12 0 + 1 - y).toNat ≤ m → zInv f g F G k y 0 → am_wp l dC dI tc mm4_reachAll 3 58 58 (fun r s => r = none ∧ ∃ f' g', s = (58, f', g', pr_r a b c) ∧ zFrS f' f g' g ∧ zLr f' g' ∧ ∀ j, 0 ≤ j → j < 420 → (g' 32 j = 1 ↔ ∃ k' : Nat, (k' : Int) ≤ f 2 0 ∧ zRe g k' j)) 29 [some (.inr (.inr (some 22))), some (.inl (k : Int)), some (.inl y), o3.map Sum.inl] [] (58, F, G, pr_r a b c) := by
        intro hkl m
        induction m with
        | zero =>
          intro y o3 F G hy hy2 hm hV
          have e12 : F 12 0 = f 12 0 := hV.1.1 12 0 (Or.inl (by decide))
          iterate 4 (refine am_go rfl (by first | exact True.intro | omega | exact ⟨by decide, Nat.le_of_ble_eq_true rfl, Nat.le_of_ble_eq_true rfl⟩ | exact ⟨by decide, Nat.le_of_ble_eq_true rfl⟩) ?_)
          rw [e12]
          refine am_if rfl (fun c1 => ?_) (fun c1 => ?_)
          · iterate 2 (refine am_go rfl (by first | exact True.intro | omega | exact ⟨by decide, Nat.le_of_ble_eq_true rfl, Nat.le_of_ble_eq_true rfl⟩ | exact ⟨by decide, Nat.le_of_ble_eq_true rfl⟩) ?_)
            exact ih (k + 1) (some y) o3 F G (by omega) (by omega) (zInv_part hV (by omega))
          · omega
        | succ m ihm =>
          intro y o3 F G hy hy2 hm hV
          have e12 : F 12 0 = f 12 0 := hV.1.1 12 0 (Or.inl (by decide))
          have pls : y ≤ f 12 0 → ∀ (w : Nat) (z : Int) (F : Nat → Nat → Int) (G : Nat → Int → Int), 0 ≤ z → z ≤ zPl g y + 1 → (zPl g y + 1 - z).toNat ≤ w → zInv f g F G k y z → am_wp l dC dI tc mm4_reachAll 3 58 58 (fun r s => r = none ∧ ∃ f' g', s = (58, f', g', pr_r a b c) ∧ zFrS f' f g' g ∧ zLr f' g' ∧ ∀ j, 0 ≤ j → j < 420 → (g' 32 j = 1 ↔ ∃ k' : Nat, (k' : Int) ≤ f 2 0 ∧ zRe g k' j)) 36 [some (.inr (.inr (some 22))), some (.inl (k : Int)), some (.inl y), some (.inl z)] [] (58, F, G, pr_r a b c) := by
            intro hyl w
            have hp := zPl_r hI y
            induction w with
            | zero =>
              intro z F G hz hz2 hw hV
              iterate 4 (refine am_go rfl (by first | exact True.intro | omega | exact ⟨by decide, Nat.le_of_ble_eq_true rfl, Nat.le_of_ble_eq_true rfl⟩ | exact ⟨by decide, Nat.le_of_ble_eq_true rfl⟩) ?_)
              refine am_callv rfl (ct_placesIn _) (by decide) (Nat.le_of_ble_eq_true rfl) (Nat.le_of_ble_eq_true rfl) ?_
              rw [zPl_fr (fun j => hV.1.2 13 j (by decide))]
              refine am_if rfl (fun c1 => ?_) (fun c1 => ?_)
              · iterate 2 (refine am_go rfl (by first | exact True.intro | omega | exact ⟨by decide, Nat.le_of_ble_eq_true rfl, Nat.le_of_ble_eq_true rfl⟩ | exact ⟨by decide, Nat.le_of_ble_eq_true rfl⟩) ?_)
                exact ihm (y + 1) (some z) F G (by omega) (by omega) (by omega) (zInv_line hV (by omega))
              · omega
            | succ w ihw =>
              intro z F G hz hz2 hw hV
              iterate 4 (refine am_go rfl (by first | exact True.intro | omega | exact ⟨by decide, Nat.le_of_ble_eq_true rfl, Nat.le_of_ble_eq_true rfl⟩ | exact ⟨by decide, Nat.le_of_ble_eq_true rfl⟩) ?_)
              refine am_callv rfl (ct_placesIn _) (by decide) (Nat.le_of_ble_eq_true rfl) (Nat.le_of_ble_eq_true rfl) ?_
              rw [zPl_fr (fun j => hV.1.2 13 j (by decide))]
              refine am_if rfl (fun c1 => ?_) (fun c1 => ?_)
              · iterate 2 (refine am_go rfl (by first | exact True.intro | omega | exact ⟨by decide, Nat.le_of_ble_eq_true rfl, Nat.le_of_ble_eq_true rfl⟩ | exact ⟨by decide, Nat.le_of_ble_eq_true rfl⟩) ?_)
                exact ihm (y + 1) (some z) F G (by omega) (by omega) (by omega) (zInv_line hV (by omega))
              · have hb := hV.2.1.2.1 (zSt k y z) (by unfold zSt; omega) (by unfold zSt; omega)
                iterate 4 (refine am_go rfl (by first | exact True.intro | omega | exact ⟨by decide, Nat.le_of_ble_eq_true rfl, Nat.le_of_ble_eq_true rfl⟩ | exact ⟨by decide, Nat.le_of_ble_eq_true rfl⟩) ?_)
                refine am_callv rfl (ct_isReached _ _ _ (by omega) (by omega) (by omega) hb) (by decide) (Nat.le_of_ble_eq_true rfl) (Nat.le_of_ble_eq_true rfl) ?_
                refine am_if rfl (fun c2 => ?_) (fun c2 => ?_)
                · have c2 : G 32 (zSt k y z) = 0 := c2
                  iterate 2 (refine am_go rfl (by first | exact True.intro | omega | exact ⟨by decide, Nat.le_of_ble_eq_true rfl, Nat.le_of_ble_eq_true rfl⟩ | exact ⟨by decide, Nat.le_of_ble_eq_true rfl⟩) ?_)
                  exact ihw (z + 1) F G (by omega) (by omega) (by omega) (zInv_skip hV (by omega))
                · have c2 : ¬ G 32 (zSt k y z) = 0 := c2
                  have e2 : F 2 0 = f 2 0 := hV.1.1 2 0 (Or.inl (by decide))
                  iterate 4 (refine am_go rfl (by first | exact True.intro | omega | exact ⟨by decide, Nat.le_of_ble_eq_true rfl, Nat.le_of_ble_eq_true rfl⟩ | exact ⟨by decide, Nat.le_of_ble_eq_true rfl⟩) ?_)
                  refine am_call rfl (ct_reachFrom _ _ _ (hV.1.I hI) hV.2.1 (by omega) (by omega) (by omega)) (by decide) (Nat.le_of_ble_eq_true rfl) (Nat.le_of_ble_eq_true rfl) (Nat.le_of_ble_eq_true rfl) (fun rv s q => ?_)
                  obtain ⟨rfl, F2, G2, rfl, hF2, hL2, hS2⟩ := q
                  iterate 2 (refine am_go rfl (by first | exact True.intro | omega | exact ⟨by decide, Nat.le_of_ble_eq_true rfl, Nat.le_of_ble_eq_true rfl⟩ | exact ⟨by decide, Nat.le_of_ble_eq_true rfl⟩) ?_)
                  exact ihw (z + 1) F2 G2 (by omega) (by omega) (by omega) (zInv_step hI hkl ⟨hy, hyl⟩ ⟨hz, by omega⟩ hV (by omega) hF2 hL2 hS2)
          iterate 4 (refine am_go rfl (by first | exact True.intro | omega | exact ⟨by decide, Nat.le_of_ble_eq_true rfl, Nat.le_of_ble_eq_true rfl⟩ | exact ⟨by decide, Nat.le_of_ble_eq_true rfl⟩) ?_)
          rw [e12]
          refine am_if rfl (fun c1 => ?_) (fun c1 => ?_)
          · iterate 2 (refine am_go rfl (by first | exact True.intro | omega | exact ⟨by decide, Nat.le_of_ble_eq_true rfl, Nat.le_of_ble_eq_true rfl⟩ | exact ⟨by decide, Nat.le_of_ble_eq_true rfl⟩) ?_)
            exact ih (k + 1) (some y) o3 F G (by omega) (by omega) (zInv_part hV (by omega))
          · iterate 2 (refine am_go rfl (by first | exact True.intro | omega | exact ⟨by decide, Nat.le_of_ble_eq_true rfl, Nat.le_of_ble_eq_true rfl⟩ | exact ⟨by decide, Nat.le_of_ble_eq_true rfl⟩) ?_)
            exact pls (by omega) _ 0 F G (by omega) (by have := zPl_r hI y; omega) (Nat.le_refl _) hV
      iterate 4 (refine am_go rfl (by first | exact True.intro | omega | exact ⟨by decide, Nat.le_of_ble_eq_true rfl, Nat.le_of_ble_eq_true rfl⟩ | exact ⟨by decide, Nat.le_of_ble_eq_true rfl⟩) ?_)
      rw [e2]
      refine am_if rfl (fun c1 => ?_) (fun c1 => ?_)
      · exact am_vret (x := 0) rfl rfl rfl ⟨rfl, F, G, rfl, hV.1, hV.2.1, zInv_end hI (by omega) hV⟩
      · iterate 2 (refine am_go rfl (by first | exact True.intro | omega | exact ⟨by decide, Nat.le_of_ble_eq_true rfl, Nat.le_of_ble_eq_true rfl⟩ | exact ⟨by decide, Nat.le_of_ble_eq_true rfl⟩) ?_)
        exact lns (by omega) _ 0 o3 F G (by omega) (by omega) (Nat.le_refl _) hV
  have start : zInv f g (am_u1 f 22 2 0) (am_u3 (am_fz g 32 420) 32 0 1) 0 0 0 := by
    have e : am_u1 f 22 2 0 22 2 = 0 := am_u1_s
    have eg : ∀ j, 0 ≤ j → j < 420 → am_u3 (am_fz g 32 420) 32 0 1 32 j = if j = 0 then 1 else 0 := by
      intro j j1 j2
      by_cases u : j = 0
      · rw [if_pos u, u, am_u3_s]
      · rw [if_neg u, am_u3_j u]
        exact if_pos ⟨rfl, j1, j2⟩
    refine ⟨⟨fun x j hx => am_u1_ne hx, fun x j hx => ?_⟩, ⟨by rw [e]; omega, fun j j1 j2 => ?_, fun j j1 j2 j3 => ?_, 0, by omega, by omega, ?_, by rw [e]; rfl⟩, ?_, fun j j1 j2 j3 => ?_, fun k' y' z' a1 a2 a3 a4 => ?_⟩
    · rw [am_u3_c hx]
      exact if_neg (fun u => hx u.1)
    · rw [eg j j1 j2]
      split
      · exact Or.inr rfl
      · exact Or.inl rfl
    · rw [eg j j1 j2] at j3
      split at j3
      · rename_i u
        rw [u, e]
        decide
      · omega
    · rw [eg 0 (by omega) (by omega)]
      rfl
    · rw [eg 0 (by omega) (by omega)]
      rfl
    · rw [eg j j1 j2] at j3
      split at j3
      · rename_i u
        exact ⟨0, by omega, u⟩
      · omega
    · unfold zBe at a4
      omega
  have zero : ∀ (n : Nat) (i : Int), (420 - i).toNat ≤ n → 0 ≤ i → i ≤ 420 → am_wp l dC dI tc mm4_reachAll 3 58 58 (fun r s => r = none ∧ ∃ f' g', s = (58, f', g', pr_r a b c) ∧ zFrS f' f g' g ∧ zLr f' g' ∧ ∀ j, 0 ≤ j → j < 420 → (g' 32 j = 1 ↔ ∃ k' : Nat, (k' : Int) ≤ f 2 0 ∧ zRe g k' j)) 2 [some (.inr (.inr (some 22))), some (.inl i), none, none] [] (58, f, am_fz g 32 i, pr_r a b c) := by
    have fin : am_wp l dC dI tc mm4_reachAll 3 58 58 (fun r s => r = none ∧ ∃ f' g', s = (58, f', g', pr_r a b c) ∧ zFrS f' f g' g ∧ zLr f' g' ∧ ∀ j, 0 ≤ j → j < 420 → (g' 32 j = 1 ↔ ∃ k' : Nat, (k' : Int) ≤ f 2 0 ∧ zRe g k' j)) 12 [some (.inr (.inr (some 22))), some (.inl 420), none, none] [] (58, f, am_fz g 32 420, pr_r a b c) := by
      iterate 10 (refine am_go rfl (by first | exact True.intro | omega | exact ⟨by decide, Nat.le_of_ble_eq_true rfl, Nat.le_of_ble_eq_true rfl⟩ | exact ⟨by decide, Nat.le_of_ble_eq_true rfl⟩) ?_)
      exact parts _ 0 none none _ _ (by omega) (Nat.le_refl _) start
    intro n
    induction n with
    | zero =>
      intro i hn hi h30
      have e : i = 420 := by omega
      subst e
      iterate 2 (refine am_go rfl (by first | exact True.intro | omega | exact ⟨by decide, Nat.le_of_ble_eq_true rfl, Nat.le_of_ble_eq_true rfl⟩ | exact ⟨by decide, Nat.le_of_ble_eq_true rfl⟩) ?_)
      refine am_if rfl (fun c1 => ?_) (fun c1 => ?_)
      · exact fin
      · omega
    | succ n ih =>
      intro i hn hi h30
      iterate 2 (refine am_go rfl (by first | exact True.intro | omega | exact ⟨by decide, Nat.le_of_ble_eq_true rfl, Nat.le_of_ble_eq_true rfl⟩ | exact ⟨by decide, Nat.le_of_ble_eq_true rfl⟩) ?_)
      refine am_if rfl (fun c1 => ?_) (fun c1 => ?_)
      · have e : i = 420 := by omega
        subst e
        exact fin
      · iterate 7 (refine am_go rfl (by first | exact True.intro | omega | exact ⟨by decide, Nat.le_of_ble_eq_true rfl, Nat.le_of_ble_eq_true rfl⟩ | exact ⟨by decide, Nat.le_of_ble_eq_true rfl⟩) ?_)
        rw [am_fz_s _ _ hi]
        exact ih (i + 1) (by omega) (by omega) (by omega)
  refine am_enter ok_4_reachAll rfl (by decide) (Nat.le_of_ble_eq_true rfl) rfl ?_
  iterate 2 (refine am_go rfl (by first | exact True.intro | omega | exact ⟨by decide, Nat.le_of_ble_eq_true rfl, Nat.le_of_ble_eq_true rfl⟩ | exact ⟨by decide, Nat.le_of_ble_eq_true rfl⟩) ?_)
  have h9 := zero _ 0 (Nat.le_refl _) (by omega) (by omega)
  rw [am_fz_0] at h9
  exact h9
end Rch2
end
section
/-! the two best of a list, by the key, the earlier first -/
def zi2 {α : Type} (T : List (Int × α)) (x : Int × α) : List (Int × α) := match T with
  | [] => [x]
  | [a] => if x.1 < a.1 then [x, a] else [a, x]
  | a :: b :: _ => if x.1 < a.1 then [x, a] else if x.1 < b.1 then [a, x] else [a, b]
def zt2 {α : Type} (L : List (Int × α)) : List (Int × α) := L.foldl zi2 []
/-- at most two, in order -/
def zo2 {α : Type} (T : List (Int × α)) : Prop := match T with
  | [] => True
  | [_] => True
  | [a, b] => a.1 ≤ b.1
  | _ => False
theorem zo2_i {α : Type} {T : List (Int × α)} (h : zo2 T) (x : Int × α) : zo2 (zi2 T x) := by
  match T, h with
  | [], _ => trivial
  | [a], _ =>
    simp only [zi2]
    split
    · show x.1 ≤ a.1
      omega
    · show a.1 ≤ x.1
      omega
  | [a, b], h =>
    have h : a.1 ≤ b.1 := h
    simp only [zi2]
    split
    · show x.1 ≤ a.1
      omega
    · split
      · show a.1 ≤ x.1
        omega
      · exact h
theorem zo2_f {α : Type} (L : List (Int × α)) : ∀ {T : List (Int × α)}, zo2 T → zo2 (L.foldl zi2 T) := by
  induction L with
  | nil => intro T h; exact h
  | cons a L ih => intro T h; exact ih (zo2_i h a)
theorem zo2_t {α : Type} (L : List (Int × α)) : zo2 (zt2 L) := zo2_f L (T := []) trivial
set_option maxHeartbeats 4000000 in
theorem zi2_key {α : Type} {T S : List (Int × α)} (hT : zo2 T) (hS : zo2 S) (x : Int × α) : (zi2 S x).foldl zi2 T = zi2 (S.foldl zi2 T) x := by
  match S, hS with
  | [], _ => rfl
  | [a], _ =>
    match T, hT with
    | [], _ =>
      by_cases h0 : x.1 < a.1 <;>
      first | omega | (simp [zi2, h0]; done) | (simp [zi2, h0]; intros; exfalso; omega)
    | [t], _ =>
      by_cases h0 : x.1 < a.1 <;>
      by_cases h1 : a.1 < t.1 <;>
      by_cases h2 : x.1 < t.1 <;>
      first | omega | (simp [zi2, h0, h1, h2]; done) | (simp [zi2, h0, h1, h2]; intros; exfalso; omega)
    | [t, u], h =>
      have h : t.1 ≤ u.1 := h
      by_cases h0 : x.1 < a.1 <;>
      by_cases h1 : a.1 < t.1 <;>
      by_cases h2 : a.1 < u.1 <;>
      by_cases h3 : x.1 < t.1 <;>
      by_cases h4 : x.1 < u.1 <;>
      first | omega | (simp [zi2, h0, h1, h2, h3, h4]; done) | (simp [zi2, h0, h1, h2, h3, h4]; intros; exfalso; omega)
  | [a, b], h2 =>
    have h2 : a.1 ≤ b.1 := h2
    match T, hT with
    | [], _ =>
      by_cases h0 : x.1 < a.1 <;>
      by_cases h1 : x.1 < b.1 <;>
      by_cases h9 : b.1 < a.1 <;>
      first | omega | (simp [zi2, h0, h1, h9]; done) | (simp [zi2, h0, h1, h9]; intros; exfalso; omega)
    | [t], _ =>
      by_cases h0 : x.1 < a.1 <;>
      by_cases h1 : x.1 < b.1 <;>
      by_cases h2 : a.1 < t.1 <;>
      by_cases h3 : b.1 < t.1 <;>
      by_cases h4 : x.1 < t.1 <;>
      by_cases h99 : b.1 < a.1 <;>
      first | omega | (simp [zi2, h99, h0, h1, h2, h3, h4]; done) | (simp [zi2, h99, h0, h1, h2, h3, h4]; intros; exfalso; omega)
    | [t, u], h =>
      have h : t.1 ≤ u.1 := h
      by_cases h0 : x.1 < a.1 <;>
      by_cases h1 : x.1 < b.1 <;>
      by_cases h2 : a.1 < t.1 <;>
      by_cases h3 : a.1 < u.1 <;>
      by_cases h4 : b.1 < t.1 <;>
      by_cases h5 : b.1 < u.1 <;>
      by_cases h6 : x.1 < t.1 <;>
      by_cases h7 : x.1 < u.1 <;>
      by_cases h99 : b.1 < a.1 <;>
      first | omega | (simp [zi2, h99, h0, h1, h2, h3, h4, h5, h6, h7]; done) | (simp [zi2, h99, h0, h1, h2, h3, h4, h5, h6, h7]; intros; exfalso; omega)
theorem zt2_f {α : Type} (L : List (Int × α)) {T : List (Int × α)} (hT : zo2 T) : L.foldl zi2 T = (zt2 L).foldl zi2 T := by
  have key : ∀ (L : List (Int × α)) (S : List (Int × α)), zo2 S → L.foldl zi2 (S.foldl zi2 T) = (L.foldl zi2 S).foldl zi2 T := by
    intro L
    induction L with
    | nil => intro S _; rfl
    | cons a L ih =>
      intro S hS
      show L.foldl zi2 (zi2 (S.foldl zi2 T) a) = (L.foldl zi2 (zi2 S a)).foldl zi2 T
      rw [← zi2_key hT hS a, ih _ (zo2_i hS a)]
  exact key L [] trivial
theorem zt2_app {α : Type} (A B : List (Int × α)) : zt2 (A ++ B) = (zt2 B).foldl zi2 (zt2 A) := by
  unfold zt2
  rw [List.foldl_append]
  exact zt2_f B (zo2_t A)
/-- a map that leaves the keys' order -/
theorem zi2_map {α β : Type} (φ : Int × α → Int × β) (hφ : ∀ a b, (φ a).1 < (φ b).1 ↔ a.1 < b.1) (T : List (Int × α)) (x : Int × α) : (zi2 T x).map φ = zi2 (T.map φ) (φ x) := by
  match T with
  | [] => rfl
  | [a] =>
    simp only [zi2, List.map]
    by_cases h : x.1 < a.1
    · rw [if_pos h, if_pos ((hφ x a).mpr h)]; rfl
    · rw [if_neg h, if_neg (fun u => h ((hφ x a).mp u))]; rfl
  | a :: b :: t =>
    simp only [zi2, List.map]
    by_cases h : x.1 < a.1
    · rw [if_pos h, if_pos ((hφ x a).mpr h)]; rfl
    · rw [if_neg h, if_neg (fun u => h ((hφ x a).mp u))]
      by_cases h2 : x.1 < b.1
      · rw [if_pos h2, if_pos ((hφ x b).mpr h2)]; rfl
      · rw [if_neg h2, if_neg (fun u => h2 ((hφ x b).mp u))]; rfl
theorem zf2_map {α β : Type} (φ : Int × α → Int × β) (hφ : ∀ a b, (φ a).1 < (φ b).1 ↔ a.1 < b.1) (L : List (Int × α)) : ∀ (T : List (Int × α)), (L.foldl zi2 T).map φ = (L.map φ).foldl zi2 (T.map φ) := by
  induction L with
  | nil => intro T; rfl
  | cons a L ih =>
    intro T
    show (L.foldl zi2 (zi2 T a)).map φ = (L.map φ).foldl zi2 (zi2 (T.map φ) (φ a))
    rw [ih, zi2_map φ hφ]
theorem zt2_map {α β : Type} (φ : Int × α → Int × β) (hφ : ∀ a b, (φ a).1 < (φ b).1 ↔ a.1 < b.1) (L : List (Int × α)) : (zt2 L).map φ = zt2 (L.map φ) := zf2_map φ hφ L []
theorem zi2_mem {α : Type} {T : List (Int × α)} {x e : Int × α} (h : e ∈ zi2 T x) : e = x ∨ e ∈ T := by
  match T with
  | [] =>
    simp only [zi2, List.mem_cons, List.not_mem_nil, or_false] at h
    exact Or.inl h
  | [a] =>
    simp only [zi2] at h
    split at h
    · simp only [List.mem_cons, List.not_mem_nil, or_false] at h ⊢
      exact h
    · simp only [List.mem_cons, List.not_mem_nil, or_false] at h ⊢
      exact h.symm
  | a :: b :: t =>
    simp only [zi2] at h
    split at h
    · simp only [List.mem_cons, List.not_mem_nil, or_false] at h ⊢
      exact h.elim Or.inl (fun u => Or.inr (Or.inl u))
    · split at h
      · simp only [List.mem_cons, List.not_mem_nil, or_false] at h ⊢
        exact h.elim (fun u => Or.inr (Or.inl u)) Or.inl
      · simp only [List.mem_cons, List.not_mem_nil, or_false] at h ⊢
        exact h.elim (fun u => Or.inr (Or.inl u)) (fun u => Or.inr (Or.inr (Or.inl u)))
theorem zf2_mem {α : Type} (L : List (Int × α)) : ∀ {T : List (Int × α)} {e : Int × α}, e ∈ L.foldl zi2 T → e ∈ L ∨ e ∈ T := by
  induction L with
  | nil => intro T e h; exact Or.inr h
  | cons a L ih =>
    intro T e h
    rcases ih h with u | u
    · exact Or.inl (List.mem_cons_of_mem _ u)
    · rcases zi2_mem u with w | w
      · exact Or.inl (by rw [w]; exact List.mem_cons_self)
      · exact Or.inr w
theorem zt2_mem {α : Type} {L : List (Int × α)} {e : Int × α} (h : e ∈ zt2 L) : e ∈ L := (zf2_mem L h).elim id (fun u => by cases u)
/-- a row of the table tells a list of at most two: sum, choice, rank -/
def zRep (w : zR) (T : List (Int × Int × Int)) : Prop := match T with
  | [] => w.1 = 1000000 ∧ w.2.2.2.1 = 1000000
  | [a] => w.1 = a.1 ∧ w.2.1 = a.2.1 ∧ w.2.2.1 = a.2.2 ∧ a.1 < 1000000 ∧ w.2.2.2.1 = 1000000
  | [a, b] => w.1 = a.1 ∧ w.2.1 = a.2.1 ∧ w.2.2.1 = a.2.2 ∧ a.1 < 1000000 ∧ w.2.2.2.1 = b.1 ∧ w.2.2.2.2.1 = b.2.1 ∧ w.2.2.2.2.2 = b.2.2 ∧ b.1 < 1000000
  | _ => False
theorem zKeep_1 {w : zR} {sm ch rk : Int} (h : sm < w.1) : zKeep w sm ch rk = (sm, ch, rk, w.1, w.2.1, w.2.2.1) := if_pos h
theorem zKeep_2 {w : zR} {sm ch rk : Int} (h : ¬ sm < w.1) (h2 : sm < w.2.2.2.1) : zKeep w sm ch rk = (w.1, w.2.1, w.2.2.1, sm, ch, rk) := by
  unfold zKeep
  rw [if_neg h, if_pos h2]
theorem zKeep_3 {w : zR} {sm ch rk : Int} (h : ¬ sm < w.1) (h2 : ¬ sm < w.2.2.2.1) : zKeep w sm ch rk = w := by
  unfold zKeep
  rw [if_neg h, if_neg h2]
theorem zRep_keep {w : zR} {T : List (Int × Int × Int)} (h : zRep w T) {sm ch rk : Int} (hs : sm < 1000000) : zRep (zKeep w sm ch rk) (zi2 T (sm, ch, rk)) := by
  match T, h with
  | [], h =>
    obtain ⟨h1, h2⟩ := h
    rw [zKeep_1 (by omega)]
    exact ⟨rfl, rfl, rfl, hs, h1⟩
  | [a], h =>
    obtain ⟨h1, h2, h3, h4, h5⟩ := h
    by_cases u : sm < w.1
    · have e : zi2 [a] (sm, ch, rk) = [(sm, ch, rk), a] := if_pos (show sm < a.1 by omega)
      rw [zKeep_1 u, e]
      exact ⟨rfl, rfl, rfl, hs, h1, h2, h3, h4⟩
    · have e : zi2 [a] (sm, ch, rk) = [a, (sm, ch, rk)] := if_neg (show ¬ sm < a.1 by omega)
      rw [zKeep_2 u (by omega), e]
      exact ⟨h1, h2, h3, h4, rfl, rfl, rfl, hs⟩
  | [a, b], h =>
    obtain ⟨h1, h2, h3, h4, h5, h6, h7, h8⟩ := h
    by_cases u : sm < w.1
    · have e : zi2 [a, b] (sm, ch, rk) = [(sm, ch, rk), a] := if_pos (show sm < a.1 by omega)
      rw [zKeep_1 u, e]
      exact ⟨rfl, rfl, rfl, hs, h1, h2, h3, h4⟩
    · by_cases u2 : sm < w.2.2.2.1
      · have e : zi2 [a, b] (sm, ch, rk) = [a, (sm, ch, rk)] := by
          simp only [zi2]
          rw [if_neg (show ¬ sm < a.1 by omega), if_pos (show sm < b.1 by omega)]
        rw [zKeep_2 u u2, e]
        exact ⟨h1, h2, h3, h4, rfl, rfl, rfl, hs⟩
      · have e : zi2 [a, b] (sm, ch, rk) = [a, b] := by
          simp only [zi2]
          rw [if_neg (show ¬ sm < a.1 by omega), if_neg (show ¬ sm < b.1 by omega)]
        rw [zKeep_3 u u2, e]
        exact ⟨h1, h2, h3, h4, h5, h6, h7, h8⟩
/-- what a state behind offers: its ranks -/
def zOfs (ch cost : Int) (B : List (Int × Int × Int)) : List (Int × Int × Int) := match B with
  | [] => []
  | [a] => [(cost + a.1, ch, 0)]
  | a :: b :: _ => [(cost + a.1, ch, 0), (cost + b.1, ch, 1)]
theorem zOff1_n {w : zR} {ch cost rest rk : Int} (h : rest = 1000000) : zOff1 w ch cost rest rk = w := if_pos h
theorem zOff1_k {w : zR} {ch cost rest rk : Int} (h : ¬ rest = 1000000) : zOff1 w ch cost rest rk = zKeep w (cost + rest) ch rk := if_neg h
theorem zRep_off {w v : zR} {T B : List (Int × Int × Int)} (h : zRep w T) (hv : zRep v B) {ch cost : Int} (hc : ∀ e ∈ B, cost + e.1 < 1000000) : zRep (zOff w ch cost v) ((zOfs ch cost B).foldl zi2 T) := by
  unfold zOff
  match B, hv with
  | [], hv =>
    obtain ⟨h1, h2⟩ := hv
    rw [zOff1_n h1, zOff1_n h2]
    exact h
  | [a], hv =>
    obtain ⟨h1, h2, h3, h4, h5⟩ := hv
    rw [zOff1_n h5, zOff1_k (by omega), h1]
    exact zRep_keep h (hc a (by simp))
  | [a, b], hv =>
    obtain ⟨h1, h2, h3, h4, h5, h6, h7, h8⟩ := hv
    rw [zOff1_k (rest := v.1) (by omega), zOff1_k (by omega), h1, h5]
    exact zRep_keep (zRep_keep h (hc a (by simp))) (hc b (by simp))
end
section
/-! the readings from a state on, with the place's value assumed; the rows tell their two best -/
def zExt (ch cost : Int) (L : List (Int × List Int)) : List (Int × List Int) := L.map (fun e => (cost + e.1, ch :: e.2))
noncomputable def zSuf (f : Nat → Nat → Int) (g : Nat → Int → Int) (v : Int) : Nat → Int → Int → Int → List (Int × List Int)
  | 0, _, y, _ => if y = f 12 0 then [(0, [])] else []
  | n + 1, x, y, z => ((List.range (zNa g y z).toNat).flatMap (fun i : Nat => if g 15 (zAlt y z i) = g 3 x ∧ (g 3 x ≠ 7 ∨ g 16 (zAlt y z i) = v) then zExt i (g 17 (zAlt y z i) + zMf f g v (g 3 x) (g 16 (zAlt y z i))) (if zBeh g x y (z + 1) < 0 then [] else zSuf f g v n (x + 1) (zBeh g x y (z + 1) / 6 % 7) (zBeh g x y (z + 1) % 6)) else [])) ++
      (if g 4 x ≠ -1 ∧ (g 3 x ≠ 7 ∨ v = -1) then zExt 4 (g 4 x) (if zBeh g x y z < 0 then [] else zSuf f g v n (x + 1) (zBeh g x y z / 6 % 7) (zBeh g x y z % 6)) else [])
/-- what lies behind -/
noncomputable def zSB (f : Nat → Nat → Int) (g : Nat → Int → Int) (v : Int) (n : Nat) (x q : Int) : List (Int × List Int) := if q < 0 then [] else zSuf f g v n (x + 1) (q / 6 % 7) (q % 6)
def zNth (L : List (Int × List Int)) (r : Int) : List Int := (L.getD r.toNat (0, [])).2
noncomputable def zLft (f : Nat → Nat → Int) (g : Nat → Int → Int) (v : Int) (n : Nat) (x y z : Int) (e : Int × Int × Int) : Int × List Int := match n with
  | 0 => (e.1, [])
  | n + 1 => (e.1, e.2.1 :: zNth (zt2 (zSB f g v n x (if e.2.1 = 4 then zBeh g x y z else zBeh g x y (z + 1)))) e.2.2)
theorem zLft_1 {f : Nat → Nat → Int} {g : Nat → Int → Int} {v : Int} {n : Nat} {x y z : Int} (e : Int × Int × Int) : (zLft f g v n x y z e).1 = e.1 := by cases n <;> rfl
/-- a row that tells the two best readings from its state on -/
def zR01 (T : List (Int × Int × Int)) : Prop := ∀ e ∈ T, e.2.2 = 0 ∨ e.2.2 = 1
def zGd (f : Nat → Nat → Int) (g : Nat → Int → Int) (v : Int) (n : Nat) (x y z : Int) (w : zR) : Prop := ∃ T, zRep w T ∧ zo2 T ∧ T.map (zLft f g v n x y z) = zt2 (zSuf f g v n x y z) ∧ (0 < n → zR01 T)
theorem zR01_f {ch cost : Int} {B T : List (Int × Int × Int)} (h : zR01 T) : zR01 ((zOfs ch cost B).foldl zi2 T) := by
  intro e he
  rcases zf2_mem _ he with u | u
  · match B with
    | [] => cases u
    | [a] =>
      rw [show zOfs ch cost [a] = [(cost + a.1, ch, 0)] from rfl, List.mem_singleton] at u
      rw [u]
      exact Or.inl rfl
    | a :: b :: t =>
      rw [show zOfs ch cost (a :: b :: t) = [(cost + a.1, ch, 0), (cost + b.1, ch, 1)] from rfl] at u
      rcases List.mem_cons.mp u with u | u
      · rw [u]
        exact Or.inl rfl
      · rw [List.mem_singleton] at u
        rw [u]
        exact Or.inr rfl
  · exact h e u
theorem zExt_t2 (ch cost : Int) (L : List (Int × List Int)) : zt2 (zExt ch cost L) = zExt ch cost (zt2 L) := (zt2_map (fun e : Int × List Int => (cost + e.1, ch :: e.2)) (fun a b => by show cost + a.1 < cost + b.1 ↔ a.1 < b.1; omega) L).symm
/-- sums of what is told, bounded -/
theorem zSuf_b {f : Nat → Nat → Int} {g : Nat → Int → Int} {v : Int} (hI : zI f g) : ∀ (n : Nat) (x y z : Int), 0 ≤ x → x + n ≤ f 2 0 → ∀ e ∈ zSuf f g v n x y z, 0 ≤ e.1 ∧ e.1 ≤ 1100 * n ∧ e.2.length = n := by
  intro n
  induction n with
  | zero =>
    intro x y z _ _ e he
    unfold zSuf at he
    split at he
    · rw [List.mem_singleton] at he
      rw [he]
      exact ⟨by decide, by decide, rfl⟩
    · cases he
  | succ n ih =>
    intro x y z hx hn e he
    have hb : ∀ q, ∀ e' ∈ (if q < 0 then [] else zSuf f g v n (x + 1) (q / 6 % 7) (q % 6)), 0 ≤ e'.1 ∧ e'.1 ≤ 1100 * n ∧ e'.2.length = n := by
      intro q e' he'
      split at he'
      · cases he'
      · exact ih _ _ _ (by omega) (by omega) e' he'
    have hext : ∀ ch cost L, 0 ≤ cost → cost ≤ 1100 → (∀ e' ∈ L, 0 ≤ e'.1 ∧ e'.1 ≤ 1100 * (n : Int) ∧ e'.2.length = n) → ∀ e' ∈ zExt ch cost L, 0 ≤ e'.1 ∧ e'.1 ≤ 1100 * ((n + 1 : Nat) : Int) ∧ e'.2.length = n + 1 := by
      intro ch cost L h1 h2 hL e' he'
      obtain ⟨u, hu, rfl⟩ := List.mem_map.mp he'
      have := hL u hu
      refine ⟨by show 0 ≤ cost + u.1; omega, by show cost + u.1 ≤ _; omega, ?_⟩
      show u.2.length + 1 = n + 1
      omega
    have hf := hI.2.1 x hx (by omega)
    rw [zSuf] at he
    rcases List.mem_append.mp he with h | h
    · obtain ⟨i, hi, h⟩ := List.mem_flatMap.mp h
      have hi := List.mem_range.mp hi
      split at h
      · have hin := zNa_in (show 0 < zNa g y z by omega)
        have e14 : zNa g y z = g 14 (y * 5 + z) := if_pos hin
        have hal := hI.2.2.2.2.2.1 y z i hin.1.1 hin.1.2 hin.2.1 hin.2.2 (by omega) (by omega)
        have hm := zMf_r f g v (g 3 x) (g 16 (zAlt y z i))
        exact hext _ _ _ (by omega) (by omega) (hb _) e h
      · cases h
    · split at h
      · exact hext _ _ _ (by omega) (by omega) (hb _) e h
      · cases h
/-- one offer -/
theorem zGd_off {f : Nat → Nat → Int} {g : Nat → Int → Int} {v : Int} {n : Nat} {x y z : Int} {w : zR} {T : List (Int × Int × Int)} {L : List (Int × List Int)} (hI : zI f g) (hx : 0 ≤ x) (hn : x + (n + 1 : Nat) ≤ f 2 0) (hw : zRep w T) (ho : zo2 T) (hT : T.map (zLft f g v (n + 1) x y z) = zt2 L) (h01 : zR01 T)
    {ch cost q : Int} (hq : q = if ch = 4 then zBeh g x y z else zBeh g x y (z + 1)) (hc : 0 ≤ cost ∧ cost ≤ 1100) (hg : 0 ≤ q → zGd f g v n (x + 1) (q / 6 % 7) (q % 6) (zRow g q)) :
    ∃ T', zRep (zOffB g w ch cost q) T' ∧ zo2 T' ∧ T'.map (zLft f g v (n + 1) x y z) = zt2 (L ++ zExt ch cost (zSB f g v n x q)) ∧ zR01 T' := by
  by_cases h : q < 0
  · have e1 : zOffB g w ch cost q = w := if_pos h
    have e2 : zSB f g v n x q = [] := if_pos h
    rw [e1, e2]
    exact ⟨T, hw, ho, by rw [hT]; simp [zExt], h01⟩
  · have e1 : zOffB g w ch cost q = zOff w ch cost (zRow g q) := if_neg h
    have e2 : zSB f g v n x q = zSuf f g v n (x + 1) (q / 6 % 7) (q % 6) := if_neg h
    obtain ⟨B, b1, b2, b3, -⟩ := hg (by omega)
    have hbnd : ∀ e ∈ B, 0 ≤ e.1 ∧ e.1 ≤ 1100 * n := by
      intro e he
      have hm : zLft f g v n (x + 1) (q / 6 % 7) (q % 6) e ∈ zt2 (zSuf f g v n (x + 1) (q / 6 % 7) (q % 6)) := by
        rw [← b3]
        exact List.mem_map.mpr ⟨e, he, rfl⟩
      have := zSuf_b hI n (x + 1) (q / 6 % 7) (q % 6) (by omega) (by omega) _ (zt2_mem hm)
      rw [zLft_1] at this
      exact ⟨this.1, this.2.1⟩
    have hi1 := hI.1
    rw [e1]
    refine ⟨_, zRep_off hw b1 (fun e he => by have := hbnd e he; omega), zo2_f _ ho, ?_, zR01_f h01⟩
    rw [zf2_map _ (fun a b => by rw [zLft_1, zLft_1]) , hT, zt2_app, zExt_t2, e2]
    congr 1
    rw [← b3]
    have hl : ∀ s r, zLft f g v (n + 1) x y z (s, ch, r) = (s, ch :: zNth (zt2 (zSB f g v n x q)) r) := by
      intro s r
      show (s, ch :: zNth (zt2 (zSB f g v n x (if ch = 4 then zBeh g x y z else zBeh g x y (z + 1)))) r) = _
      rw [← hq]
    rw [e2, ← b3] at hl
    match B, b2, b3 with
    | [], _, b3 => rfl
    | [e], _, b3 =>
      simp only [zOfs, List.map, zExt]
      rw [hl]
      simp only [List.map, zNth, zLft_1]
      rfl
    | [e, e'], _, b3 =>
      simp only [zOfs, List.map, zExt]
      rw [hl, hl]
      simp only [List.map, zNth, zLft_1]
      rfl
end
section
section Dp
variable {f : Nat → Nat → Int} {g : Nat → Int → Int} {v x y z : Int} {n : Nat}
/-- what the i-th alternative gives -/
noncomputable def zAi (f : Nat → Nat → Int) (g : Nat → Int → Int) (v : Int) (n : Nat) (x y z : Int) (i : Nat) : List (Int × List Int) := if g 15 (zAlt y z i) = g 3 x ∧ (g 3 x ≠ 7 ∨ g 16 (zAlt y z i) = v) then zExt i (g 17 (zAlt y z i) + zMf f g v (g 3 x) (g 16 (zAlt y z i))) (zSB f g v n x (zBeh g x y (z + 1))) else []
noncomputable def zMi (f : Nat → Nat → Int) (g : Nat → Int → Int) (v : Int) (n : Nat) (x y z : Int) : List (Int × List Int) := if g 4 x ≠ -1 ∧ (g 3 x ≠ 7 ∨ v = -1) then zExt 4 (g 4 x) (zSB f g v n x (zBeh g x y z)) else []
theorem zSuf_s : zSuf f g v (n + 1) x y z = (List.range (zNa g y z).toNat).flatMap (zAi f g v n x y z) ++ zMi f g v n x y z := rfl
theorem zLp_ok (hI : zI f g) (hx : 0 ≤ x) (hn : x + (n + 1 : Nat) ≤ f 2 0) (h1 : zKd g y z (g 3 x) → 0 ≤ zBeh g x y (z + 1) → zGd f g v n (x + 1) (zBeh g x y (z + 1) / 6 % 7) (zBeh g x y (z + 1) % 6) (zRow g (zBeh g x y (z + 1)))) :
    ∀ (m i : Nat) (w : zR) (T : List (Int × Int × Int)) (L : List (Int × List Int)), zRep w T → zo2 T → T.map (zLft f g v (n + 1) x y z) = zt2 L → zR01 T → i + m = (zNa g y z).toNat → ∃ T', zRep (zLp f g v x y z m i w) T' ∧ zo2 T' ∧ T'.map (zLft f g v (n + 1) x y z) = zt2 (L ++ (List.range' i m).flatMap (zAi f g v n x y z)) ∧ zR01 T' := by
  intro m
  induction m with
  | zero =>
    intro i w T L hw ho hT h01 hm
    exact ⟨T, hw, ho, by rw [hT]; simp, h01⟩
  | succ m ih =>
    intro i w T L hw ho hT h01 hm
    have step : ∃ T', zRep (zStp f g v x y z i w) T' ∧ zo2 T' ∧ T'.map (zLft f g v (n + 1) x y z) = zt2 (L ++ zAi f g v n x y z i) ∧ zR01 T' := by
      by_cases hc : g 15 (zAlt y z i) = g 3 x ∧ (g 3 x ≠ 7 ∨ g 16 (zAlt y z i) = v)
      · have e1 : zStp f g v x y z i w = zOffB g w i (g 17 (zAlt y z i) + zMf f g v (g 3 x) (g 16 (zAlt y z i))) (zBeh g x y (z + 1)) := if_pos hc
        have e2 : zAi f g v n x y z i = zExt i (g 17 (zAlt y z i) + zMf f g v (g 3 x) (g 16 (zAlt y z i))) (zSB f g v n x (zBeh g x y (z + 1))) := if_pos hc
        have hna := zNa_r hI y z
        have hin := zNa_in (show 0 < zNa g y z by omega)
        have e14 : zNa g y z = g 14 (y * 5 + z) := if_pos hin
        have hal := hI.2.2.2.2.2.1 y z i hin.1.1 hin.1.2 hin.2.1 hin.2.2 (by omega) (by omega)
        have hmf := zMf_r f g v (g 3 x) (g 16 (zAlt y z i))
        rw [e1, e2]
        exact zGd_off hI hx hn hw ho hT h01 (by rw [if_neg (by omega)]) (by omega) (h1 ⟨i, by omega, by omega, hc.1⟩)
      · have e1 : zStp f g v x y z i w = w := if_neg hc
        have e2 : zAi f g v n x y z i = [] := if_neg hc
        rw [e1, e2]
        exact ⟨T, hw, ho, by rw [hT]; simp, h01⟩
    obtain ⟨T1, a1, a2, a3, a4⟩ := step
    obtain ⟨T2, b1, b2, b3, b4⟩ := ih (i + 1) _ T1 _ a1 a2 a3 a4 (by omega)
    refine ⟨T2, b1, b2, ?_, b4⟩
    rw [b3, List.range'_succ, List.flatMap_cons, List.append_assoc]
theorem zW_gd (hI : zI f g) (hx : 0 ≤ x) (hn : x + (n : Int) = f 2 0) (h1 : ∀ m, n = m + 1 → zKd g y z (g 3 x) → 0 ≤ zBeh g x y (z + 1) → zGd f g v m (x + 1) (zBeh g x y (z + 1) / 6 % 7) (zBeh g x y (z + 1) % 6) (zRow g (zBeh g x y (z + 1))))
    (h2 : ∀ m, n = m + 1 → g 4 x ≠ -1 → 0 ≤ zBeh g x y z → zGd f g v m (x + 1) (zBeh g x y z / 6 % 7) (zBeh g x y z % 6) (zRow g (zBeh g x y z))) (w : zR) : zGd f g v n x y z (zW f g v x y z w) := by
  cases n with
  | zero =>
    have e : zW f g v x y z w = (if y = f 12 0 then 0 else 1000000, w.2.1, w.2.2.1, 1000000, w.2.2.2.2.1, w.2.2.2.2.2) := if_pos (by omega)
    rw [e]
    by_cases hy : y = f 12 0
    · refine ⟨[(0, w.2.1, w.2.2.1)], ?_, trivial, ?_, fun h => by omega⟩
      · rw [if_pos hy]
        exact ⟨rfl, rfl, rfl, (by decide : (0 : Int) < 1000000), rfl⟩
      · unfold zSuf
        rw [if_pos hy]
        rfl
    · refine ⟨[], ?_, trivial, ?_, fun h => by omega⟩
      · rw [if_neg hy]
        exact ⟨rfl, rfl⟩
      · unfold zSuf
        rw [if_neg hy]
        rfl
  | succ n =>
    have hf := hI.2.1 x hx (by omega)
    have e : zW f g v x y z w = zMs g v x y z (zLp f g v x y z (zNa g y z).toNat 0 (zW0 w)) := if_neg (by omega)
    rw [e]
    obtain ⟨T, a1, a2, a3, a4⟩ := zLp_ok (v := v) (n := n) (y := y) (z := z) hI hx (by omega) (h1 n rfl) (zNa g y z).toNat 0 (zW0 w) [] [] ⟨rfl, rfl⟩ trivial rfl (fun e he => by cases he) (by omega)
    rw [List.nil_append, ← List.range_eq_range'] at a3
    by_cases hc : g 4 x ≠ -1 ∧ (g 3 x ≠ 7 ∨ v = -1)
    · have e1 : ∀ w, zMs g v x y z w = zOffB g w 4 (g 4 x) (zBeh g x y z) := fun w => if_pos hc
      have e2 : zMi f g v n x y z = zExt 4 (g 4 x) (zSB f g v n x (zBeh g x y z)) := if_pos hc
      rw [e1]
      obtain ⟨T2, b1, b2, b3, b4⟩ := zGd_off (v := v) (n := n) (y := y) (z := z) hI hx (by omega) a1 a2 a3 a4 (ch := 4) (cost := g 4 x) (q := zBeh g x y z) (by rw [if_pos rfl]) (by omega) (h2 n rfl hc.1)
      exact ⟨T2, b1, b2, by rw [b3, zSuf_s, e2], fun _ => b4⟩
    · have e1 : ∀ w, zMs g v x y z w = w := fun w => if_neg hc
      have e2 : zMi f g v n x y z = [] := if_neg hc
      rw [e1]
      exact ⟨T, a1, a2, by rw [a3, zSuf_s, e2, List.append_nil], fun _ => a4⟩
end Dp
/-! rows change nothing of what they are told by -/
def zFrW (G g : Nat → Int → Int) : Prop := ∀ c j, (c ≠ 33 ∧ c ≠ 34 ∧ c ≠ 35) ∧ (c < 23 ∨ 31 < c) → G c j = g c j
def zFrX (G g : Nat → Int → Int) : Prop := ∀ c j, c ≠ 33 ∧ c ≠ 34 ∧ c ≠ 35 → G c j = g c j
theorem zFrX.rw {G g : Nat → Int → Int} (h : zFrX G g) (s : Int) (w : zR) : zFrX (am_rw G s w) g := fun c j hc => (am_rw_c G w hc).trans (h c j hc)
theorem zFrX.W {G g : Nat → Int → Int} (h : zFrX G g) : zFrW G g := fun c j hc => h c j hc.1
theorem zFrW.rf (g : Nat → Int → Int) : zFrW g g := fun _ _ _ => rfl
theorem zFrW.rw {G g : Nat → Int → Int} (h : zFrW G g) (s : Int) (w : zR) : zFrW (am_rw G s w) g := fun c j hc => (am_rw_c G w hc.1).trans (h c j hc)
theorem zFrW.Na {G g : Nat → Int → Int} (h : zFrW G g) (x y : Int) : zNa G x y = zNa g x y := zNa_fr (fun j => h 14 j (by decide)) x y
theorem zFrW.Pl {G g : Nat → Int → Int} (h : zFrW G g) (x : Int) : zPl G x = zPl g x := zPl_fr (fun j => h 13 j (by decide)) x
theorem zFrW.Beh {G g : Nat → Int → Int} (h : zFrW G g) (x y z : Int) : zBeh G x y z = zBeh g x y z := by
  unfold zBeh
  rw [h 5 _ (by decide), h.Pl]
theorem zFrW.Kd {G g : Nat → Int → Int} (h : zFrW G g) (y z k : Int) : zKd G y z k ↔ zKd g y z k := by
  unfold zKd
  rw [h.Na]
  simp only [h 15 _ (by decide)]
theorem zFrW.Fit {G g : Nat → Int → Int} (h : zFrW G g) (f : Nat → Nat → Int) (k x y : Int) : zFit f G k x y ↔ zFit f g k x y := by
  unfold zFit
  simp only [h 19 _ (by decide), h 20 _ (by decide), h 21 _ (by decide)]
theorem zFrW.Mf {G g : Nat → Int → Int} (h : zFrW G g) (f : Nat → Nat → Int) (v k x : Int) : zMf f G v k x = zMf f g v k x := by
  unfold zMf
  by_cases u : v ≠ -1 ∧ (k = 2 ∨ k = 6) ∧ ¬ zFit f g k x v
  · rw [if_pos u, if_pos ⟨u.1, u.2.1, fun q => u.2.2 ((h.Fit f k x v).mp q)⟩]
  · rw [if_neg u, if_neg (fun q => u ⟨q.1, q.2.1, fun p => q.2.2 ((h.Fit f k x v).mpr p)⟩)]
theorem zFrW.Suf {G g : Nat → Int → Int} (h : zFrW G g) (f : Nat → Nat → Int) (v : Int) : ∀ (n : Nat) (x y z : Int), zSuf f G v n x y z = zSuf f g v n x y z := by
  intro n
  induction n with
  | zero => intro x y z; rfl
  | succ n ih =>
    intro x y z
    simp only [zSuf, h.Na, h.Beh, h.Mf, h 3 _ (by decide), h 4 _ (by decide), h 15 _ (by decide), h 16 _ (by decide), h 17 _ (by decide), ih]
theorem zFrW.Lft {G g : Nat → Int → Int} (h : zFrW G g) (f : Nat → Nat → Int) (v : Int) (n : Nat) (x y z : Int) : zLft f G v n x y z = zLft f g v n x y z := by
  funext e
  cases n with
  | zero => rfl
  | succ n => simp only [zLft, zSB, h.Beh, h.Suf]
theorem zFrW.Gd {G g : Nat → Int → Int} (h : zFrW G g) {f : Nat → Nat → Int} {v : Int} {n : Nat} {x y z : Int} {u : zR} : zGd f G v n x y z u ↔ zGd f g v n x y z u := by
  unfold zGd
  rw [h.Lft, h.Suf]
theorem zFrW.I {G g : Nat → Int → Int} (h : zFrW G g) {f : Nat → Nat → Int} (hI : zI f g) : zI f G := by
  unfold zI at hI ⊢
  simp only [h 3 _ (by decide), h 4 _ (by decide), h 5 _ (by decide), h 13 _ (by decide), h 14 _ (by decide), h 16 _ (by decide), h 17 _ (by decide)]
  exact hI
/-- a row that tells has sums in bounds -/
theorem zGd_ok {f : Nat → Nat → Int} {g : Nat → Int → Int} {v : Int} {n : Nat} {x y z : Int} {w : zR} (hI : zI f g) (hx : 0 ≤ x) (hn : x + (n : Int) ≤ f 2 0) (h : zGd f g v n x y z w) : (0 ≤ w.1 ∧ w.1 ≤ 1000000) ∧ (0 ≤ w.2.2.2.1 ∧ w.2.2.2.1 ≤ 1000000) := by
  obtain ⟨T, h1, h2, h3, -⟩ := h
  have hb : ∀ e ∈ T, 0 ≤ e.1 := by
    intro e he
    have hm : zLft f g v n x y z e ∈ zt2 (zSuf f g v n x y z) := by
      rw [← h3]
      exact List.mem_map.mpr ⟨e, he, rfl⟩
    have := zSuf_b hI n x y z hx hn _ (zt2_mem hm)
    rw [zLft_1] at this
    exact this.1
  match T, h1 with
  | [], h1 =>
    obtain ⟨a1, a2⟩ := h1
    omega
  | [a], h1 =>
    obtain ⟨a1, a2, a3, a4, a5⟩ := h1
    have := hb a (by simp)
    omega
  | [a, b], h1 =>
    obtain ⟨a1, a2, a3, a4, a5, a6, a7, a8⟩ := h1
    have := hb a (by simp)
    have := hb b (by simp)
    omega
end
section
/-! the table of an assumed place -/
def zRchd (f : Nat → Nat → Int) (g : Nat → Int → Int) : Prop := ∀ j, 0 ≤ j → j < 420 → (g 32 j = 0 ∨ g 32 j = 1) ∧ (g 32 j = 1 ↔ ∃ k' : Nat, (k' : Int) ≤ f 2 0 ∧ zRe g k' j)
def zAok (G : Nat → Int → Int) : Prop := ∀ j, 0 ≤ j → j < 420 → zOk G j
def zGL (f : Nat → Nat → Int) (g : Nat → Int → Int) (v : Int) (G : Nat → Int → Int) (m : Nat) (y z : Int) : Prop := ∀ (k' : Nat) (y' z' : Int), (m < k' + 1 ∨ (m = k' + 1 ∧ (y' < y ∨ (y' = y ∧ z' < z)))) → (k' : Int) ≤ f 2 0 → (0 ≤ y' ∧ y' ≤ f 12 0) → (0 ≤ z' ∧ z' ≤ zPl g y') → g 32 (zSt k' y' z') = 1 → zGd f g v ((f 2 0).toNat - k') k' y' z' (zRow G (zSt k' y' z'))
theorem zRchd_tn {f : Nat → Nat → Int} {g : Nat → Int → Int} (hI : zI f g) (hR : zRchd f g) {k : Nat} {y z q : Int} (hk : (k : Int) < f 2 0) (hy : 0 ≤ y ∧ y ≤ f 12 0) (hz : 0 ≤ z ∧ z ≤ zPl g y) (h : g 32 (zSt k y z) = 1) (hq : zTn g k y z q) : g 32 q = 1 ∧ ∃ y' z', q = zSt (k + 1) y' z' ∧ (0 ≤ y' ∧ y' ≤ f 12 0) ∧ (0 ≤ z' ∧ z' ≤ zPl g y') ∧ q / 6 % 7 = y' ∧ q % 6 = z' ∧ 0 ≤ q ∧ q < 420 := by
  have i1 := hI.1
  have i3 := hI.2.2.1
  have hp := zPl_r hI y
  obtain ⟨y', z', e, b1, b2⟩ := zTn_ok hI ⟨by omega, hk⟩ hy hz hq
  have hp' := zPl_r hI y'
  have hb : q / 6 % 7 = y' ∧ q % 6 = z' ∧ 0 ≤ q ∧ q < 420 := by rw [e]; unfold zSt; omega
  refine ⟨?_, y', z', e, b1, b2, hb⟩
  obtain ⟨k1, c1, c2⟩ := (hR _ (by unfold zSt; omega) (by unfold zSt; omega)).2.mp h
  have hl := (zRe_lv hI c1 c2).2.2
  have ek : k1 = k := by unfold zSt at hl; omega
  subst ek
  exact (hR q hb.2.2.1 hb.2.2.2).2.mpr ⟨k1 + 1, by omega, y, z, by omega, by omega, c2, hq⟩
theorem zOk_row {G : Nat → Int → Int} {j : Int} : zOk G j ↔ (0 ≤ (zRow G j).1 ∧ (zRow G j).1 ≤ 1000000) ∧ (0 ≤ (zRow G j).2.2.2.1 ∧ (zRow G j).2.2.2.1 ≤ 1000000) := Iff.rfl
/-- one state more -/
theorem zGL_step {f : Nat → Nat → Int} {g G : Nat → Int → Int} {v : Int} (hI : zI f g) (hR : zRchd f g) (hF : zFrW G g) {m : Nat} {y z : Int} (hm : (m : Int) ≤ f 2 0) (hy : 0 ≤ y ∧ y ≤ f 12 0) (hz : 0 ≤ z ∧ z ≤ zPl g y) (h : zGL f g v G (m + 1) y z) (hA : zAok G) (hr : g 32 (zSt m y z) = 1) :
    zGL f g v (am_rw G (zSt m y z) (zW f G v m y z (zRow G (zSt m y z)))) (m + 1) y (z + 1) ∧ zAok (am_rw G (zSt m y z) (zW f G v m y z (zRow G (zSt m y z)))) := by
  have i1 := hI.1
  have i3 := hI.2.2.1
  have hp := zPl_r hI y
  have new : zGd f g v ((f 2 0).toNat - m) m y z (zW f G v m y z (zRow G (zSt m y z))) := by
    refine hF.Gd.mp (zW_gd (hF.I hI) (by omega) (by omega) (fun n hn hkd hq => ?_) (fun n hn hms hq => ?_) _)
    · rw [hF.Beh] at hq ⊢
      obtain ⟨c1, y', z', e, c2, c3, c4, c5, c6⟩ := zRchd_tn hI hR (by omega) hy hz hr ⟨hq, Or.inr ⟨by rw [← hF.Kd, ← hF 3 _ (by decide)]; exact hkd, rfl⟩⟩
      refine hF.Gd.mpr ?_
      have h9 := h (m + 1) y' z' (Or.inl (by omega)) (by omega) c2 c3 (by rw [show ((m + 1 : Nat) : Int) = (m : Int) + 1 from rfl, ← e]; exact c1)
      rw [show ((m + 1 : Nat) : Int) = (m : Int) + 1 from rfl, ← e, show (f 2 0).toNat - (m + 1) = n by omega] at h9
      rw [c4, c5]
      exact h9
    · rw [hF.Beh] at hq ⊢
      obtain ⟨c1, y', z', e, c2, c3, c4, c5, c6⟩ := zRchd_tn hI hR (by omega) hy hz hr ⟨hq, Or.inl ⟨by rw [← hF 4 _ (by decide)]; exact hms, rfl⟩⟩
      refine hF.Gd.mpr ?_
      have h9 := h (m + 1) y' z' (Or.inl (by omega)) (by omega) c2 c3 (by rw [show ((m + 1 : Nat) : Int) = (m : Int) + 1 from rfl, ← e]; exact c1)
      rw [show ((m + 1 : Nat) : Int) = (m : Int) + 1 from rfl, ← e, show (f 2 0).toNat - (m + 1) = n by omega] at h9
      rw [c4, c5]
      exact h9
  refine ⟨fun k' y' z' a1 a2 a3 a4 a5 => ?_, fun j j1 j2 => ?_⟩
  · have hp' := zPl_r hI y'
    by_cases e : k' = m ∧ y' = y ∧ z' = z
    · obtain ⟨rfl, rfl, rfl⟩ := e
      rw [am_rw_row]
      exact new
    · rw [am_rw_ne _ _ (by unfold zSt; omega)]
      exact h k' y' z' (by omega) a2 a3 a4 a5
  · rw [zOk_row]
    by_cases e : j = zSt m y z
    · rw [e, am_rw_row]
      exact zGd_ok hI (by omega) (by omega) new
    · rw [am_rw_ne _ _ e]
      exact hA j j1 j2
section Asm
variable {l : Launch} {dC : Nat → ClassId} {dI : Nat → Nat → Nat} {tc : Nat → ClassId} {f : Nat → Nat → Int} {g : Nat → Int → Int} {a b c : Nat}
set_option maxRecDepth 100000 in
set_option maxHeartbeats 4000000 in
theorem wp_table {Q : Option am_V → am_H → Prop} (v : Int) (hI : zI f g) (hR : zRchd f g) (hA : zAok g) (hv : f 22 14 = v) (o0 : Option Int)
    (K : ∀ (G : Nat → Int → Int) (o3 o4 : Option Int), zFrX G g → zAok G → zGL f g v G 0 0 0 → am_wp l dC dI tc mm4_assume 3 58 58 (Q) 41 [some (.inr (.inr (some 22))), some (.inl v), some (.inl (-1)), o3.map Sum.inl, o4.map Sum.inl] [] (58, f, G, pr_r a b c)) : am_wp l dC dI tc mm4_assume 3 58 58 (Q) 3 [some (.inr (.inr (some 22))), some (.inl v), o0.map Sum.inl, none, none] [] (58, f, g, pr_r a b c) := by
  have hI2 := hI
  obtain ⟨i1, i2, i3, i4, i5, i6, i7⟩ := hI2
  have parts : ∀ (m : Nat) (o3 o4 : Option Int) (G : Nat → Int → Int), (m : Int) ≤ f 2 0 + 1 → zFrX G g → zAok G → zGL f g v G m 0 0 → am_wp l dC dI tc mm4_assume 3 58 58 (Q) 7 [some (.inr (.inr (some 22))), some (.inl v), some (.inl ((m : Int) - 1)), o3.map Sum.inl, o4.map Sum.inl] [] (58, f, G, pr_r a b c) := by
    intro m
    induction m with
    | zero =>
      intro o3 o4 G hm hF hA hG
      (refine am_go rfl (by first | exact True.intro | omega | exact ⟨by decide, Nat.le_of_ble_eq_true rfl, Nat.le_of_ble_eq_true rfl⟩ | exact ⟨by decide, Nat.le_of_ble_eq_true rfl⟩) ?_)
      refine am_if rfl (fun c1 => ?_) (fun c1 => ?_)
      · exact K G o3 o4 hF hA hG
      · omega
    | succ m ih =>
      intro o3 o4 G hm hF hA hG
      rw [show ((m + 1 : Nat) : Int) - 1 = (m : Int) by omega]
      have lns : ∀ (w : Nat) (y : Int) (o4 : Option Int) (G : Nat → Int → Int), 0 ≤ y → y ≤ f 12 0 + 1 → (f 12 0 + 1 - y).toNat ≤ w → zFrX G g → zAok G → zGL f g v G (m + 1) y 0 → am_wp l dC dI tc mm4_assume 3 58 58 (Q) 11 [some (.inr (.inr (some 22))), some (.inl v), some (.inl (m : Int)), some (.inl y), o4.map Sum.inl] [] (58, f, G, pr_r a b c) := by
        have done : ∀ (y : Int) (o4 : Option Int) (G : Nat → Int → Int), f 12 0 < y → zFrX G g → zAok G → zGL f g v G (m + 1) y 0 → am_wp l dC dI tc mm4_assume 3 58 58 (Q) 39 [some (.inr (.inr (some 22))), some (.inl v), some (.inl (m : Int)), some (.inl y), o4.map Sum.inl] [] (58, f, G, pr_r a b c) := by
          intro y o4 G hy hF hA hG
          iterate 2 (refine am_go rfl (by first | exact True.intro | omega | exact ⟨by decide, Nat.le_of_ble_eq_true rfl, Nat.le_of_ble_eq_true rfl⟩ | exact ⟨by decide, Nat.le_of_ble_eq_true rfl⟩) ?_)
          exact ih (some y) o4 G (by omega) hF hA (fun k' y' z' a1 a2 a3 a4 a5 => hG k' y' z' (by omega) a2 a3 a4 a5)
        intro w
        induction w with
        | zero =>
          intro y o4 G hy hy2 hw hF hA hG
          iterate 4 (refine am_go rfl (by first | exact True.intro | omega | exact ⟨by decide, Nat.le_of_ble_eq_true rfl, Nat.le_of_ble_eq_true rfl⟩ | exact ⟨by decide, Nat.le_of_ble_eq_true rfl⟩) ?_)
          refine am_if rfl (fun c1 => ?_) (fun c1 => ?_)
          · exact done y o4 G (by omega) hF hA hG
          · omega
        | succ w ihw =>
          intro y o4 G hy hy2 hw hF hA hG
          have hp := zPl_r hI y
          have pls : y ≤ f 12 0 → ∀ (u : Nat) (z : Int) (G : Nat → Int → Int), 0 ≤ z → z ≤ zPl g y + 1 → (zPl g y + 1 - z).toNat ≤ u → zFrX G g → zAok G → zGL f g v G (m + 1) y z → am_wp l dC dI tc mm4_assume 3 58 58 (Q) 18 [some (.inr (.inr (some 22))), some (.inl v), some (.inl (m : Int)), some (.inl y), some (.inl z)] [] (58, f, G, pr_r a b c) := by
            intro hyl
            have dn : ∀ (z : Int) (G : Nat → Int → Int), zPl g y < z → zFrX G g → zAok G → zGL f g v G (m + 1) y z → am_wp l dC dI tc mm4_assume 3 58 58 (Q) 37 [some (.inr (.inr (some 22))), some (.inl v), some (.inl (m : Int)), some (.inl y), some (.inl z)] [] (58, f, G, pr_r a b c) := by
              intro z G hz hF hA hG
              iterate 2 (refine am_go rfl (by first | exact True.intro | omega | exact ⟨by decide, Nat.le_of_ble_eq_true rfl, Nat.le_of_ble_eq_true rfl⟩ | exact ⟨by decide, Nat.le_of_ble_eq_true rfl⟩) ?_)
              refine ihw (y + 1) (some z) G (by omega) (by omega) (by omega) hF hA (fun k' y' z' a1 a2 a3 a4 a5 => hG k' y' z' ?_ a2 a3 a4 a5)
              by_cases e : y' = y
              · subst e
                omega
              · omega
            intro u
            induction u with
            | zero =>
              intro z G hz hz2 hu hF hA hG
              iterate 4 (refine am_go rfl (by first | exact True.intro | omega | exact ⟨by decide, Nat.le_of_ble_eq_true rfl, Nat.le_of_ble_eq_true rfl⟩ | exact ⟨by decide, Nat.le_of_ble_eq_true rfl⟩) ?_)
              refine am_callv rfl (ct_placesIn _) (by decide) (Nat.le_of_ble_eq_true rfl) (Nat.le_of_ble_eq_true rfl) ?_
              rw [hF.W.Pl]
              refine am_if rfl (fun c1 => ?_) (fun c1 => ?_)
              · exact dn z G (by omega) hF hA hG
              · omega
            | succ u ihu =>
              intro z G hz hz2 hu hF hA hG
              iterate 4 (refine am_go rfl (by first | exact True.intro | omega | exact ⟨by decide, Nat.le_of_ble_eq_true rfl, Nat.le_of_ble_eq_true rfl⟩ | exact ⟨by decide, Nat.le_of_ble_eq_true rfl⟩) ?_)
              refine am_callv rfl (ct_placesIn _) (by decide) (Nat.le_of_ble_eq_true rfl) (Nat.le_of_ble_eq_true rfl) ?_
              rw [hF.W.Pl]
              refine am_if rfl (fun c1 => ?_) (fun c1 => ?_)
              · exact dn z G (by omega) hF hA hG
              · have hb := (hR (zSt m y z) (by unfold zSt; omega) (by unfold zSt; omega)).1
                iterate 4 (refine am_go rfl (by first | exact True.intro | omega | exact ⟨by decide, Nat.le_of_ble_eq_true rfl, Nat.le_of_ble_eq_true rfl⟩ | exact ⟨by decide, Nat.le_of_ble_eq_true rfl⟩) ?_)
                refine am_callv rfl (ct_isReached _ _ _ (by omega) (by omega) (by omega) (by rw [hF 32 _ (by decide)]; exact hb)) (by decide) (Nat.le_of_ble_eq_true rfl) (Nat.le_of_ble_eq_true rfl) ?_
                rw [hF 32 _ (by decide)]
                refine am_if rfl (fun c2 => ?_) (fun c2 => ?_)
                · have c2 : g 32 (zSt m y z) = 0 := c2
                  iterate 2 (refine am_go rfl (by first | exact True.intro | omega | exact ⟨by decide, Nat.le_of_ble_eq_true rfl, Nat.le_of_ble_eq_true rfl⟩ | exact ⟨by decide, Nat.le_of_ble_eq_true rfl⟩) ?_)
                  refine ihu (z + 1) G (by omega) (by omega) (by omega) hF hA (fun k' y' z' a1 a2 a3 a4 a5 => ?_)
                  by_cases e : k' = m ∧ y' = y ∧ z' = z
                  · obtain ⟨rfl, rfl, rfl⟩ := e
                    omega
                  · exact hG k' y' z' (by omega) a2 a3 a4 a5
                · have c2 : ¬ g 32 (zSt m y z) = 0 := c2
                  obtain ⟨s1, s2⟩ := zGL_step hI hR hF.W (by omega) ⟨hy, hyl⟩ ⟨hz, by omega⟩ hG hA (by omega)
                  have hbq : ∀ z1, 0 ≤ z1 → z1 ≤ 6 → (y = 6 → z1 ≤ 1) → zBeh g m y z1 < 420 ∨ (m : Int) = f 2 0 := by
                    intro z1 q1 q2 q3
                    unfold zBeh
                    split
                    · omega
                    · split
                      · rename_i w1 w2
                        have : zPl g y ≠ 0 := by omega
                        have : y < 6 := by
                          unfold zPl at this
                          split at this <;> omega
                        omega
                      · omega
                  have hz6 : y = 6 → z = 0 := by
                    intro e
                    have : zPl g y = 0 := by
                      unfold zPl
                      rw [if_neg (by omega)]
                    omega
                  iterate 4 (refine am_go rfl (by first | exact True.intro | omega | exact ⟨by decide, Nat.le_of_ble_eq_true rfl, Nat.le_of_ble_eq_true rfl⟩ | exact ⟨by decide, Nat.le_of_ble_eq_true rfl⟩) ?_)
                  refine am_calln rfl (ct_weigh _ _ _ (hF.W.I hI) (by omega) (by omega) (by rw [hF.W.Pl]; omega) (fun hxl q hq hq0 => ?_) (fun hxl q hq hq0 => ?_)) (by decide) (Nat.le_of_ble_eq_true rfl) (Nat.le_of_ble_eq_true rfl) ?_
                  · rw [hF.W.Beh] at hq
                    exact hA q hq0 (by have := hbq (z + 1) (by omega) (by omega) (by omega); omega)
                  · rw [hF.W.Beh] at hq
                    exact hA q hq0 (by have := hbq z (by omega) (by omega) (by omega); omega)
                  · rw [hv]
                    iterate 2 (refine am_go rfl (by first | exact True.intro | omega | exact ⟨by decide, Nat.le_of_ble_eq_true rfl, Nat.le_of_ble_eq_true rfl⟩ | exact ⟨by decide, Nat.le_of_ble_eq_true rfl⟩) ?_)
                    exact ihu (z + 1) _ (by omega) (by omega) (by omega) (hF.rw _ _) s2 s1
          iterate 4 (refine am_go rfl (by first | exact True.intro | omega | exact ⟨by decide, Nat.le_of_ble_eq_true rfl, Nat.le_of_ble_eq_true rfl⟩ | exact ⟨by decide, Nat.le_of_ble_eq_true rfl⟩) ?_)
          refine am_if rfl (fun c1 => ?_) (fun c1 => ?_)
          · exact done y o4 G (by omega) hF hA hG
          · iterate 2 (refine am_go rfl (by first | exact True.intro | omega | exact ⟨by decide, Nat.le_of_ble_eq_true rfl, Nat.le_of_ble_eq_true rfl⟩ | exact ⟨by decide, Nat.le_of_ble_eq_true rfl⟩) ?_)
            exact pls (by omega) _ 0 G (by omega) (by omega) (Nat.le_refl _) hF hA hG
      (refine am_go rfl (by first | exact True.intro | omega | exact ⟨by decide, Nat.le_of_ble_eq_true rfl, Nat.le_of_ble_eq_true rfl⟩ | exact ⟨by decide, Nat.le_of_ble_eq_true rfl⟩) ?_)
      refine am_if rfl (fun c1 => ?_) (fun c1 => ?_)
      · omega
      · iterate 2 (refine am_go rfl (by first | exact True.intro | omega | exact ⟨by decide, Nat.le_of_ble_eq_true rfl, Nat.le_of_ble_eq_true rfl⟩ | exact ⟨by decide, Nat.le_of_ble_eq_true rfl⟩) ?_)
        exact lns _ 0 o4 G (by omega) (by omega) (Nat.le_refl _) hF hA hG
  iterate 4 (refine am_go rfl (by first | exact True.intro | omega | exact ⟨by decide, Nat.le_of_ble_eq_true rfl, Nat.le_of_ble_eq_true rfl⟩ | exact ⟨by decide, Nat.le_of_ble_eq_true rfl⟩) ?_)
  have h9 := parts ((f 2 0).toNat + 1) none none g (by omega) (fun _ _ _ => rfl) hA (fun k' y' z' a1 a2 => by omega)
  rw [show (((f 2 0).toNat + 1 : Nat) : Int) - 1 = f 2 0 by omega] at h9
  exact h9
end Asm
end
section
/-! the path of a rank through the table is its reading -/
def zPa (g : Nat → Int → Int) (cs : Nat → Int) : Nat → Int × Int × Int
  | 0 => (0, 0, 0)
  | k + 1 =>
    if g 5 k = 0 ∨ (if cs k = 4 then (zPa g cs k).2.1 else (zPa g cs k).2.1 + 1) ≤ 0 then ((zPa g cs k).1, (if cs k = 4 then (zPa g cs k).2.1 else (zPa g cs k).2.1 + 1), (if cs k = 4 then (zPa g cs k).2.2 else (zPa g cs k).2.2 + 1))
    else ((zPa g cs k).1 + 1, 0, (if cs k = 4 then (zPa g cs k).2.2 else (zPa g cs k).2.2 + 1))
theorem zTr_pa {g G : Nat → Int → Int} (h5 : ∀ j, G 5 j = g 5 j) {rk : Int} {cs : Nat → Int} : ∀ k : Nat, (∀ j : Nat, j < k → G 34 (zTr G rk j).1 = cs j) → (zTr G rk k).2 = zPa g cs k := by
  intro k
  induction k with
  | zero => intro _; rfl
  | succ k ih =>
    intro h
    have e := ih (fun j hj => h j (by omega))
    have e1 : (zTr G rk k).2.1 = (zPa g cs k).1 := by rw [← e]
    have e2 : (zTr G rk k).2.2.1 = (zPa g cs k).2.1 := by rw [← e]
    have e3 : (zTr G rk k).2.2.2 = (zPa g cs k).2.2 := by rw [← e]
    rw [zTr_y, h k (by omega), h5, e1, e2, e3]
    simp only [zPa]
    split <;> split <;> rfl
/-- what an element of the list of readings begins with -/
theorem zSuf_hd {f : Nat → Nat → Int} {g : Nat → Int → Int} {v : Int} {n : Nat} {x y z : Int} {s ch : Int} {t : List Int} (hI : zI f g) (h : (s, ch :: t) ∈ zSuf f g v (n + 1) x y z) :
    (ch = 4 ∧ g 4 x ≠ -1 ∧ 0 ≤ zBeh g x y z) ∨ ((0 ≤ ch ∧ ch < zNa g y z) ∧ g 15 (zAlt y z ch) = g 3 x ∧ 0 ≤ zBeh g x y (z + 1)) := by
  rw [zSuf_s] at h
  rcases List.mem_append.mp h with h | h
  · obtain ⟨i, hi, h⟩ := List.mem_flatMap.mp h
    have hi := List.mem_range.mp hi
    unfold zAi at h
    split at h
    · rename_i hc
      obtain ⟨u, hu, e⟩ := List.mem_map.mp h
      have e2 : (i : Int) = ch := by
        have := congrArg (fun p : Int × List Int => p.2) e
        simp only [List.cons.injEq] at this
        exact this.1
      refine Or.inr ⟨by omega, by rw [← e2]; exact hc.1, ?_⟩
      unfold zSB at hu
      split at hu
      · cases hu
      · omega
    · cases h
  · unfold zMi at h
    split at h
    · rename_i hc
      obtain ⟨u, hu, e⟩ := List.mem_map.mp h
      have e2 : (4 : Int) = ch := by
        have := congrArg (fun p : Int × List Int => p.2) e
        simp only [List.cons.injEq] at this
        exact this.1
      refine Or.inl ⟨e2.symm, hc.1, ?_⟩
      unfold zSB at hu
      split at hu
      · cases hu
      · omega
    · cases h
/-- a row's entry of a rank -/
theorem zRep_at {w : zR} {T : List (Int × Int × Int)} {e : Int × Int × Int} (h : zRep w T) : (T[0]? = some e → w.1 = e.1 ∧ w.2.1 = e.2.1 ∧ w.2.2.1 = e.2.2) ∧ (T[1]? = some e → w.2.2.2.1 = e.1 ∧ w.2.2.2.2.1 = e.2.1 ∧ w.2.2.2.2.2 = e.2.2) := by
  match T, h with
  | [], h => exact ⟨fun u => by simp at u, fun u => by simp at u⟩
  | [a], h =>
    obtain ⟨h1, h2, h3, h4, h5⟩ := h
    refine ⟨fun u => ?_, fun u => by simp at u⟩
    simp at u
    rw [← u]
    exact ⟨h1, h2, h3⟩
  | [a, b], h =>
    obtain ⟨h1, h2, h3, h4, h5, h6, h7, h8⟩ := h
    refine ⟨fun u => ?_, fun u => ?_⟩
    · simp at u
      rw [← u]
      exact ⟨h1, h2, h3⟩
    · simp at u
      rw [← u]
      exact ⟨h5, h6, h7⟩
theorem zRow_at {G : Nat → Int → Int} {s r : Int} {T : List (Int × Int × Int)} {e : Int × Int × Int} (h : zRep (zRow G s) T) (hr : r = 0 ∨ r = 1) (he : T[r.toNat]? = some e) : G 33 (s * 2 + r) = e.1 ∧ G 34 (s * 2 + r) = e.2.1 ∧ G 35 (s * 2 + r) = e.2.2 := by
  rcases hr with rfl | rfl
  · have := (zRep_at h).1 he
    rw [show s * 2 + 0 = s * 2 by omega]
    exact this
  · exact (zRep_at h).2 he
section Path
variable {f : Nat → Nat → Int} {g G : Nat → Int → Int} {v : Int}
def zSeg (f : Nat → Nat → Int) (g G : Nat → Int → Int) (v rk : Int) (cs : List Int) (k : Nat) : Prop := ∃ r, (r = 0 ∨ r = 1) ∧ (zTr G rk k).1 = zSt k (zTr G rk k).2.1 (zTr G rk k).2.2.1 * 2 + r ∧ (0 ≤ (zTr G rk k).2.1 ∧ (zTr G rk k).2.1 ≤ f 12 0) ∧ (0 ≤ (zTr G rk k).2.2.1 ∧ (zTr G rk k).2.2.1 ≤ zPl g (zTr G rk k).2.1) ∧ g 32 (zSt k (zTr G rk k).2.1 (zTr G rk k).2.2.1) = 1 ∧
  ((k : Int) < f 2 0 → ∃ e, (zt2 (zSuf f g v ((f 2 0).toNat - k) k (zTr G rk k).2.1 (zTr G rk k).2.2.1))[r.toNat]? = some e ∧ e.2 = cs.drop k)
/-- at a part: what is chosen there, and where it goes on -/
theorem zSeg_s (hI : zI f g) (hR : zRchd f g) (hF : zFrW G g) (hG : zGL f g v G 0 0 0) {rk : Int} {cs : List Int} {k : Nat} (hk : (k : Int) < f 2 0) (h : zSeg f g G v rk cs k) :
    zSeg f g G v rk cs (k + 1) ∧ cs[k]? = some (G 34 (zTr G rk k).1) ∧ (G 35 (zTr G rk k).1 = 0 ∨ G 35 (zTr G rk k).1 = 1) ∧ (G 34 (zTr G rk k).1 = 4 ∨ (0 ≤ G 34 (zTr G rk k).1 ∧ G 34 (zTr G rk k).1 < zNa g (zTr G rk k).2.1 (zTr G rk k).2.2.1)) := by
  have i1 := hI.1
  have i3 := hI.2.2.1
  obtain ⟨r, h1, h2, h3, h4, h5, h6⟩ := h
  obtain ⟨e, h7, h8⟩ := h6 hk
  have hp := zPl_r hI (zTr G rk k).2.1
  obtain ⟨T, t1, t2, t3, t4⟩ := hG k _ _ (Or.inl (by omega)) (by omega) h3 h4 h5
  obtain ⟨n, hn⟩ : ∃ n, (f 2 0).toNat - k = n + 1 := ⟨(f 2 0).toNat - k - 1, by omega⟩
  rw [hn] at t3 t4 h7
  rw [← t3, List.getElem?_map] at h7
  cases hT : T[r.toNat]? with
  | none => rw [hT] at h7; simp at h7
  | some e0 =>
    rw [hT, Option.map_some, Option.some.injEq] at h7
    obtain ⟨w1, w2, w3⟩ := zRow_at t1 h1 hT
    rw [← h2] at w1 w2 w3
    have hmem : e ∈ zSuf f g v (n + 1) k (zTr G rk k).2.1 (zTr G rk k).2.2.1 := by
      refine zt2_mem ?_
      rw [← t3, ← h7]
      exact List.mem_map.mpr ⟨e0, List.mem_of_getElem? hT, rfl⟩
    have e2 : e = (e0.1, e0.2.1 :: zNth (zt2 (zSB f g v n k (if e0.2.1 = 4 then zBeh g k (zTr G rk k).2.1 (zTr G rk k).2.2.1 else zBeh g k (zTr G rk k).2.1 ((zTr G rk k).2.2.1 + 1)))) e0.2.2) := h7.symm
    have hd : cs.drop k = e0.2.1 :: zNth (zt2 (zSB f g v n k (if e0.2.1 = 4 then zBeh g k (zTr G rk k).2.1 (zTr G rk k).2.2.1 else zBeh g k (zTr G rk k).2.1 ((zTr G rk k).2.2.1 + 1)))) e0.2.2 := by rw [← h8, e2]
    have hck : cs[k]? = some e0.2.1 := by
      have := congrArg (fun l : List Int => l[0]?) hd
      simp only [List.getElem?_drop, Nat.add_zero, List.getElem?_cons_zero] at this
      exact this
    have hr01 := t4 (by omega) e0 (List.mem_of_getElem? hT)
    have hnl : e.2.length = n + 1 := (zSuf_b hI (n + 1) k _ _ (by omega) (by omega) e hmem).2.2
    rw [e2] at hmem
    have hhd := zSuf_hd hI hmem
    -- the state behind
    have go : ∀ (q y' z' : Int), 0 ≤ q → zTn g k (zTr G rk k).2.1 (zTr G rk k).2.2.1 q → (if e0.2.1 = 4 then zBeh g k (zTr G rk k).2.1 (zTr G rk k).2.2.1 else zBeh g k (zTr G rk k).2.1 ((zTr G rk k).2.2.1 + 1)) = q → q = zSt (k + 1) y' z' → (0 ≤ y' ∧ y' ≤ 6) → (0 ≤ z' ∧ z' ≤ 5) → (zTr G rk (k + 1)).1 = zSt (k + 1) y' z' * 2 + e0.2.2 → (zTr G rk (k + 1)).2.1 = y' → (zTr G rk (k + 1)).2.2.1 = z' → zSeg f g G v rk cs (k + 1) := by
      intro q y' z' q0 qt qe qs hy' hz' a1 a2 a3
      obtain ⟨c1, y1, z1, e4, c2, c3, c4, c5, c6, c7⟩ := zRchd_tn hI hR hk h3 h4 h5 qt
      have hp1 := zPl_r hI y1
      have e5 : y1 = y' ∧ z1 = z' := by rw [e4] at qs; unfold zSt at qs; omega
      obtain ⟨rfl, rfl⟩ := e5
      refine ⟨e0.2.2, hr01, by rw [a2, a3]; exact a1, by rw [a2]; exact c2, by rw [a2, a3]; exact c3, by rw [a2, a3]; show g 32 (zSt (k + 1) y1 z1) = 1; rw [← e4]; exact c1, fun hk2 => ?_⟩
      rw [a2, a3, show (f 2 0).toNat - (k + 1) = n by omega]
      have eS : zSB f g v n k q = zSuf f g v n ((k : Int) + 1) y1 z1 := by
        unfold zSB
        rw [if_neg (by omega), c4, c5]
      rw [qe, eS] at hd
      have hd2 : cs.drop (k + 1) = zNth (zt2 (zSuf f g v n ((k : Int) + 1) y1 z1)) e0.2.2 := by
        rw [← List.tail_drop, hd]
        rfl
      have hlen : (cs.drop (k + 1)).length = n := by
        have := congrArg List.length hd
        rw [← h8, hnl] at this
        simp only [List.length_cons] at this
        rw [hd2]
        omega
      cases hz : (zt2 (zSuf f g v n ((k : Int) + 1) y1 z1))[e0.2.2.toNat]? with
      | none =>
        have : zNth (zt2 (zSuf f g v n ((k : Int) + 1) y1 z1)) e0.2.2 = [] := by
          unfold zNth
          rw [List.getD_eq_getElem?_getD, hz]
          rfl
        rw [hd2, this] at hlen
        simp at hlen
        omega
      | some e1 =>
        refine ⟨e1, hz, ?_⟩
        rw [hd2]
        unfold zNth
        rw [List.getD_eq_getElem?_getD, hz]
        rfl
    refine ⟨?_, by rw [w2]; exact hck, by rw [w3]; exact hr01, ?_⟩
    · have e5 : ∀ j, G 5 j = g 5 j := fun j => hF 5 j (by decide)
      have eT := zTr_y G rk k
      rw [w2, w3, e5] at eT
      rcases hhd with ⟨u1, u2, u3⟩ | ⟨u1, u2, u3⟩
      · have qt : zTn g k (zTr G rk k).2.1 (zTr G rk k).2.2.1 (zBeh g k (zTr G rk k).2.1 (zTr G rk k).2.2.1) := ⟨u3, Or.inl ⟨u2, rfl⟩⟩
        simp only [if_pos u1] at eT
        have eq : (if e0.2.1 = 4 then zBeh g k (zTr G rk k).2.1 (zTr G rk k).2.2.1 else zBeh g k (zTr G rk k).2.1 ((zTr G rk k).2.2.1 + 1)) = zBeh g k (zTr G rk k).2.1 (zTr G rk k).2.2.1 := if_pos u1
        by_cases c : g 5 k = 0 ∨ (zTr G rk k).2.2.1 ≤ 0
        · rw [if_pos c] at eT
          have eb : zBeh g k (zTr G rk k).2.1 (zTr G rk k).2.2.1 = zSt (k + 1) (zTr G rk k).2.1 (zTr G rk k).2.2.1 := if_pos (by omega)
          exact go _ (zTr G rk k).2.1 (zTr G rk k).2.2.1 u3 qt eq eb (by omega) (by omega) (by rw [eT]) (by rw [eT]) (by rw [eT])
        · rw [if_neg c] at eT
          have eb : zBeh g k (zTr G rk k).2.1 (zTr G rk k).2.2.1 = zSt (k + 1) ((zTr G rk k).2.1 + 1) 0 := by
            unfold zBeh at u3 ⊢
            rw [if_neg (by omega)] at u3 ⊢
            split at u3
            · rename_i hh
              rw [if_pos hh]
              rfl
            · omega
          have hlt := zPl_lt hI h3.1 (show 0 < zPl g (zTr G rk k).2.1 by omega)
          exact go _ ((zTr G rk k).2.1 + 1) 0 u3 qt eq eb (by omega) (by omega) (by rw [eT]) (by rw [eT]) (by rw [eT])
      · have hna := zNa_r hI (zTr G rk k).2.1 (zTr G rk k).2.2.1
        have hne : ¬ e0.2.1 = 4 := by omega
        have hin := zNa_in (show 0 < zNa g (zTr G rk k).2.1 (zTr G rk k).2.2.1 by omega)
        have hlt2 := zNa_lt hI (show 0 < zNa g (zTr G rk k).2.1 (zTr G rk k).2.2.1 by omega)
        have qt : zTn g k (zTr G rk k).2.1 (zTr G rk k).2.2.1 (zBeh g k (zTr G rk k).2.1 ((zTr G rk k).2.2.1 + 1)) := ⟨u3, Or.inr ⟨⟨e0.2.1, u1.1, u1.2, u2⟩, rfl⟩⟩
        simp only [if_neg hne] at eT
        have eq : (if e0.2.1 = 4 then zBeh g k (zTr G rk k).2.1 (zTr G rk k).2.2.1 else zBeh g k (zTr G rk k).2.1 ((zTr G rk k).2.2.1 + 1)) = zBeh g k (zTr G rk k).2.1 ((zTr G rk k).2.2.1 + 1) := if_neg hne
        by_cases c : g 5 k = 0 ∨ (zTr G rk k).2.2.1 + 1 ≤ 0
        · rw [if_pos c] at eT
          have eb : zBeh g k (zTr G rk k).2.1 ((zTr G rk k).2.2.1 + 1) = zSt (k + 1) (zTr G rk k).2.1 ((zTr G rk k).2.2.1 + 1) := if_pos (by omega)
          exact go _ (zTr G rk k).2.1 ((zTr G rk k).2.2.1 + 1) u3 qt eq eb (by omega) (by omega) (by rw [eT]) (by rw [eT]) (by rw [eT])
        · rw [if_neg c] at eT
          have eb : zBeh g k (zTr G rk k).2.1 ((zTr G rk k).2.2.1 + 1) = zSt (k + 1) ((zTr G rk k).2.1 + 1) 0 := by
            unfold zBeh at u3 ⊢
            rw [if_neg (by omega)] at u3 ⊢
            split at u3
            · rename_i hh
              rw [if_pos hh]
              rfl
            · omega
          have hlt := zPl_lt hI h3.1 (show 0 < zPl g (zTr G rk k).2.1 by omega)
          exact go _ ((zTr G rk k).2.1 + 1) 0 u3 qt eq eb (by omega) (by omega) (by rw [eT]) (by rw [eT]) (by rw [eT])
    · rw [w2]
      rcases hhd with ⟨u1, u2, u3⟩ | ⟨u1, u2, u3⟩
      · exact Or.inl u1
      · exact Or.inr u1
end Path
end
section
/-! readings that objects hold; which is before which; what assume does -/
def zCs (e : Int × List Int) : Nat → Int := fun k => e.2.getD k 0
def zHd (g0 : Nat → Int → Int) (N : Nat) (f : Nat → Nat → Int) (g : Nat → Int → Int) (q : Nat) (e : Int × List Int) : Prop :=
  f q 1 = e.1 ∧ f q 2 = N ∧ f q 0 = (zPa g0 (zCs e) N).2.2 ∧ (∀ k : Nat, k < N → g (q + 1) k = zCs e k) ∧
  ∀ k : Nat, k < N → zCs e k ≠ 4 → g (q + 2) ((zPa g0 (zCs e) k).2.2 * 5) = g0 3 k ∧ g (q + 2) ((zPa g0 (zCs e) k).2.2 * 5 + 1) = (zPa g0 (zCs e) k).1 ∧ g (q + 2) ((zPa g0 (zCs e) k).2.2 * 5 + 2) = (zPa g0 (zCs e) k).2.1 ∧ g (q + 2) ((zPa g0 (zCs e) k).2.2 * 5 + 3) = g0 16 (zAlt (zPa g0 (zCs e) k).1 (zPa g0 (zCs e) k).2.1 (zCs e k)) ∧ g (q + 2) ((zPa g0 (zCs e) k).2.2 * 5 + 4) = zCs e k
theorem zPa_n (g : Nat → Int → Int) (cs : Nat → Int) : ∀ k : Nat, 0 ≤ (zPa g cs k).2.2 ∧ (zPa g cs k).2.2 ≤ k := by
  intro k
  induction k with
  | zero => simp [zPa]
  | succ k ih =>
    simp only [zPa]
    split <;> split <;> simp only [] <;> omega
theorem zHd_0 {g0 : Nat → Int → Int} {N : Nat} {f : Nat → Nat → Int} {g : Nat → Int → Int} {q : Nat} {e : Int × List Int} (h : zHd g0 N f g q e) : 0 ≤ f q 0 ∧ f q 0 ≤ N := by
  rw [h.2.2.1]
  exact zPa_n g0 (zCs e) N
theorem zHd_fr {g0 : Nat → Int → Int} {N : Nat} {f F : Nat → Nat → Int} {g G : Nat → Int → Int} {q : Nat} {e : Int × List Int} (h : zHd g0 N f g q e) (hf : ∀ j, F q j = f q j) (h1 : ∀ j, G (q + 1) j = g (q + 1) j) (h2 : ∀ j, G (q + 2) j = g (q + 2) j) : zHd g0 N F G q e := by
  unfold zHd at h ⊢
  simp only [hf, h1, h2]
  exact h
/-- the order of readings -/
def zLt (N : Nat) (d e : Int × List Int) : Prop := d.1 < e.1 ∨ (d.1 = e.1 ∧ ∃ k : Nat, k < N ∧ (∀ j : Nat, j < k → zCs d j = zCs e j) ∧ zCs d k < zCs e k)
theorem zBf_lt {g0 : Nat → Int → Int} {N : Nat} {f : Nat → Nat → Int} {g : Nat → Int → Int} {p q : Nat} {d e : Int × List Int} (hp : zHd g0 N f g p d) (hq : zHd g0 N f g q e) : zBf f g p q ↔ zLt N d e := by
  unfold zBf zLt
  rw [hp.1, hq.1, hp.2.1]
  refine or_congr Iff.rfl (and_congr Iff.rfl ⟨?_, ?_⟩)
  · rintro ⟨k, k1, k2, k3, k4⟩
    obtain ⟨n, rfl⟩ := Int.eq_ofNat_of_zero_le k1
    refine ⟨n, by omega, fun j hj => ?_, ?_⟩
    · rw [← hp.2.2.2.1 j (by omega), ← hq.2.2.2.1 j (by omega)]
      exact k3 j (by omega) (by omega)
    · rw [← hp.2.2.2.1 n (by omega), ← hq.2.2.2.1 n (by omega)]
      exact k4
  · rintro ⟨n, n1, n2, n3⟩
    refine ⟨n, by omega, by omega, fun j j1 j2 => ?_, ?_⟩
    · obtain ⟨i, rfl⟩ := Int.eq_ofNat_of_zero_le j1
      rw [hp.2.2.2.1 i (by omega), hq.2.2.2.1 i (by omega)]
      exact n2 i (by omega)
    · rw [hp.2.2.2.1 n (by omega), hq.2.2.2.1 n (by omega)]
      exact n3
noncomputable def zj2 (N : Nat) (T : List (Int × List Int)) (x : Int × List Int) : List (Int × List Int) := match T with
  | [] => [x]
  | [a] => @ite _ (zLt N x a) (Classical.propDecidable _) [x, a] [a, x]
  | a :: b :: _ => @ite _ (zLt N x a) (Classical.propDecidable _) [x, a] (@ite _ (zLt N x b) (Classical.propDecidable _) [a, x] [a, b])
def zNil (f : Nat → Nat → Int) (q : Nat) : Prop := f q 0 = -1 ∧ f q 1 = -1
/-- first and second hold a list of at most two -/
def zRS (g0 : Nat → Int → Int) (N : Nat) (f : Nat → Nat → Int) (g : Nat → Int → Int) (a b : Nat) (T : List (Int × List Int)) : Prop := match T with
  | [] => zNil f a ∧ zNil f b
  | [d] => zHd g0 N f g a d ∧ zNil f b
  | [d, e] => zHd g0 N f g a d ∧ zHd g0 N f g b e
  | _ => False
/-- nothing has changed but readings, the table and what is assumed -/
def zFrA (F f : Nat → Nat → Int) (G g : Nat → Int → Int) : Prop := (∀ x j, x ≠ 23 ∧ x ≠ 26 ∧ x ≠ 29 → x ≠ 22 ∨ j ≠ 14 → F x j = f x j) ∧ ∀ x j, (x ≠ 33 ∧ x ≠ 34 ∧ x ≠ 35) → (x < 23 ∨ 31 < x) → G x j = g x j
theorem zFrA.tr {F f1 f : Nat → Nat → Int} {G g1 g : Nat → Int → Int} (h : zFrA F f1 G g1) (h2 : zFrA f1 f g1 g) : zFrA F f G g := ⟨fun x j a1 a2 => (h.1 x j a1 a2).trans (h2.1 x j a1 a2), fun x j a1 a2 => (h.2 x j a1 a2).trans (h2.2 x j a1 a2)⟩
theorem zSeg_all {f : Nat → Nat → Int} {g G : Nat → Int → Int} {v : Int} (hI : zI f g) (hR : zRchd f g) (hF : zFrW G g) (hG : zGL f g v G 0 0 0) (h0 : g 32 0 = 1) {rk : Int} (hr : rk = 0 ∨ rk = 1) {e : Int × List Int} (he : (zt2 (zSuf f g v (f 2 0).toNat 0 0 0))[rk.toNat]? = some e) : ∀ k : Nat, (k : Int) ≤ f 2 0 → zSeg f g G v rk e.2 k := by
  intro k
  induction k with
  | zero =>
    intro _
    have i3 := hI.2.2.1
    exact ⟨rk, hr, by simp [zTr, zSt], by simp only [zTr]; omega, by simp only [zTr]; exact ⟨by omega, (zPl_r hI 0).1⟩, h0, fun _ => ⟨e, he, rfl⟩⟩
  | succ k ih =>
    intro hk
    exact (zSeg_s hI hR hF hG (by omega) (ih (by omega))).1
theorem zTok_of {f : Nat → Nat → Int} {g G : Nat → Int → Int} {v : Int} (hI : zI f g) (hR : zRchd f g) (hF : zFrW G g) (hG : zGL f g v G 0 0 0) (h0 : g 32 0 = 1) {rk : Int} (hr : rk = 0 ∨ rk = 1) {e : Int × List Int} (he : (zt2 (zSuf f g v (f 2 0).toNat 0 0 0))[rk.toNat]? = some e) :
    zTok f G rk ∧ ∀ k : Nat, (k : Int) < f 2 0 → G 34 (zTr G rk k).1 = zCs e k := by
  have i1 := hI.1
  have i3 := hI.2.2.1
  have all := zSeg_all hI hR hF hG h0 hr he
  refine ⟨fun k hk => ?_, fun k hk => ?_⟩
  · obtain ⟨r, h1, h2, h3, h4, h5, h6⟩ := all k (by omega)
    obtain ⟨-, b1, b2, b3⟩ := zSeg_s hI hR hF hG hk (all k (by omega))
    have hp := zPl_r hI (zTr G rk k).2.1
    have hna := zNa_r hI (zTr G rk k).2.1 (zTr G rk k).2.2.1
    refine ⟨by rw [h2]; unfold zSt; omega, by omega, by omega, by omega, fun hne => ?_, fun h6 => ?_⟩
    · have hin := zNa_in (show 0 < zNa g (zTr G rk k).2.1 (zTr G rk k).2.2.1 by omega)
      exact ⟨hin, by omega⟩
    · have : zPl g (zTr G rk k).2.1 = 0 := by
        unfold zPl
        rw [if_neg (by omega)]
      omega
  · obtain ⟨-, b1, b2, b3⟩ := zSeg_s hI hR hF hG hk (all k (by omega))
    unfold zCs
    rw [List.getD_eq_getElem?_getD, b1]
    rfl
/-- what trace has written holds the reading -/
theorem zHd_of {f f' : Nat → Nat → Int} {g G g' : Nat → Int → Int} {v : Int} (hI : zI f g) (hR : zRchd f g) (hF : zFrW G g) (hG : zGL f g v G 0 0 0) (h0 : g 32 0 = 1) {rk : Int} (hr : rk = 0 ∨ rk = 1) {e : Int × List Int} (he : (zt2 (zSuf f g v (f 2 0).toNat 0 0 0))[rk.toNat]? = some e) {q : Nat} (h : zRdN G rk f' g' q (f 2 0).toNat) : zHd g (f 2 0).toNat f' g' q e := by
  have i1 := hI.1
  obtain ⟨-, hc⟩ := zTok_of hI hR hF hG h0 hr he
  have hpa : ∀ k : Nat, (k : Int) ≤ f 2 0 → (zTr G rk k).2 = zPa g (zCs e) k := fun k hk => zTr_pa (fun j => hF 5 j (by decide)) k (fun j hj => hc j (by omega))
  obtain ⟨a1, a2, a3, a4, a5⟩ := h
  refine ⟨?_, a2, ?_, fun k hk => ?_, fun k hk hne => ?_⟩
  · rw [a1]
    obtain ⟨T, t1, t2, t3, t4⟩ := hG 0 0 0 (Or.inl (by omega)) (by omega) ⟨by omega, hI.2.2.1.1⟩ ⟨by omega, (zPl_r hI 0).1⟩ h0
    have t3 : T.map (zLft f g v ((f 2 0).toNat - 0) 0 0 0) = zt2 (zSuf f g v (f 2 0).toNat 0 0 0) := t3
    rw [← t3, List.getElem?_map] at he
    cases hT : T[rk.toNat]? with
    | none => rw [hT] at he; simp at he
    | some e0 =>
      rw [hT, Option.map_some, Option.some.injEq] at he
      have hs := (zRow_at (s := zSt ((0 : Nat) : Int) 0 0) t1 hr hT).1
      rw [← he, zLft_1]
      have e9 : zSt ((0 : Nat) : Int) 0 0 * 2 + rk = rk := by unfold zSt; omega
      rw [e9] at hs
      exact hs
  · rw [a3, ← hpa _ (by omega)]
  · rw [a4 k hk]
    exact hc k (by omega)
  · have h9 := a5 k hk (by rw [hc k (by omega)]; exact hne)
    have e1 : (zTr G rk k).2.1 = (zPa g (zCs e) k).1 := by rw [← hpa k (by omega)]
    have e2 : (zTr G rk k).2.2.1 = (zPa g (zCs e) k).2.1 := by rw [← hpa k (by omega)]
    have e3 : (zTr G rk k).2.2.2 = (zPa g (zCs e) k).2.2 := by rw [← hpa k (by omega)]
    rw [e1, e2, e3, hc k (by omega), hF 3 _ (by decide), hF 16 _ (by decide)] at h9
    exact h9
end
section
theorem zPm_1 {a b c : Nat} (h : zPm a b c) : zPm c a b := by
  rcases h with ⟨rfl, rfl, rfl⟩ | ⟨rfl, rfl, rfl⟩ | ⟨rfl, rfl, rfl⟩ | ⟨rfl, rfl, rfl⟩ | ⟨rfl, rfl, rfl⟩ | ⟨rfl, rfl, rfl⟩ <;> (unfold zPm; decide)
theorem zPm_2 {a b c : Nat} (h : zPm a b c) : zPm a c b := by
  rcases h with ⟨rfl, rfl, rfl⟩ | ⟨rfl, rfl, rfl⟩ | ⟨rfl, rfl, rfl⟩ | ⟨rfl, rfl, rfl⟩ | ⟨rfl, rfl, rfl⟩ | ⟨rfl, rfl, rfl⟩ <;> (unfold zPm; decide)
theorem zPm_x {a b c x : Nat} (h : zPm a b c) (hx : x ≠ 23 ∧ x ≠ 26 ∧ x ≠ 29) : x ≠ c := by
  rcases h with ⟨rfl, rfl, rfl⟩ | ⟨rfl, rfl, rfl⟩ | ⟨rfl, rfl, rfl⟩ | ⟨rfl, rfl, rfl⟩ | ⟨rfl, rfl, rfl⟩ | ⟨rfl, rfl, rfl⟩ <;> omega
theorem zPm_y {a b c x : Nat} (h : zPm a b c) (hx : x < 23 ∨ 31 < x) : x ≠ c + 1 ∧ x ≠ c + 2 := by
  rcases h with ⟨rfl, rfl, rfl⟩ | ⟨rfl, rfl, rfl⟩ | ⟨rfl, rfl, rfl⟩ | ⟨rfl, rfl, rfl⟩ | ⟨rfl, rfl, rfl⟩ | ⟨rfl, rfl, rfl⟩ <;> omega
theorem zPm_a {a b c : Nat} (h : zPm a b c) : (a ≠ c ∧ a + 1 ≠ c + 1 ∧ a + 1 ≠ c + 2 ∧ a + 2 ≠ c + 1 ∧ a + 2 ≠ c + 2) ∧ (b ≠ c ∧ b + 1 ≠ c + 1 ∧ b + 1 ≠ c + 2 ∧ b + 2 ≠ c + 1 ∧ b + 2 ≠ c + 2) ∧ a ≠ 22 ∧ b ≠ 22 ∧ 22 ≠ c := by
  rcases h with ⟨rfl, rfl, rfl⟩ | ⟨rfl, rfl, rfl⟩ | ⟨rfl, rfl, rfl⟩ | ⟨rfl, rfl, rfl⟩ | ⟨rfl, rfl, rfl⟩ | ⟨rfl, rfl, rfl⟩ <;> decide
theorem zPm_z {a b c : Nat} (h : zPm a b c) : (a + 1 ≠ 33 ∧ a + 1 ≠ 34 ∧ a + 1 ≠ 35) ∧ (a + 2 ≠ 33 ∧ a + 2 ≠ 34 ∧ a + 2 ≠ 35) ∧ (b + 1 ≠ 33 ∧ b + 1 ≠ 34 ∧ b + 1 ≠ 35) ∧ (b + 2 ≠ 33 ∧ b + 2 ≠ 34 ∧ b + 2 ≠ 35) := by
  rcases h with ⟨rfl, rfl, rfl⟩ | ⟨rfl, rfl, rfl⟩ | ⟨rfl, rfl, rfl⟩ | ⟨rfl, rfl, rfl⟩ | ⟨rfl, rfl, rfl⟩ | ⟨rfl, rfl, rfl⟩ <;> decide
theorem zRS_fr {g0 : Nat → Int → Int} {N : Nat} {f F : Nat → Nat → Int} {g G : Nat → Int → Int} {a b : Nat} {T : List (Int × List Int)} (h : zRS g0 N f g a b T) (fa : ∀ j, F a j = f a j) (fb : ∀ j, F b j = f b j) (ga1 : ∀ j, G (a + 1) j = g (a + 1) j) (ga2 : ∀ j, G (a + 2) j = g (a + 2) j) (gb1 : ∀ j, G (b + 1) j = g (b + 1) j) (gb2 : ∀ j, G (b + 2) j = g (b + 2) j) : zRS g0 N F G a b T := by
  match T, h with
  | [], h => exact ⟨⟨by rw [fa]; exact h.1.1, by rw [fa]; exact h.1.2⟩, ⟨by rw [fb]; exact h.2.1, by rw [fb]; exact h.2.2⟩⟩
  | [d], h => exact ⟨zHd_fr h.1 fa ga1 ga2, ⟨by rw [fb]; exact h.2.1, by rw [fb]; exact h.2.2⟩⟩
  | [d, d'], h => exact ⟨zHd_fr h.1 fa ga1 ga2, zHd_fr h.2 fb gb1 gb2⟩
theorem zRS_2 {g0 : Nat → Int → Int} {N : Nat} {f : Nat → Nat → Int} {g : Nat → Int → Int} {a b : Nat} {T : List (Int × List Int)} (h : zRS g0 N f g a b T) : (f a 0 ≠ -1 → f a 2 = N) ∧ (f b 0 ≠ -1 → f b 2 = N) := by
  match T, h with
  | [], h => exact ⟨fun u => absurd h.1.1 u, fun u => absurd h.2.1 u⟩
  | [d], h => exact ⟨fun _ => h.1.2.1, fun u => absurd h.2.1 u⟩
  | [d, d'], h => exact ⟨fun _ => h.1.2.1, fun _ => h.2.2.1⟩
theorem zRS_adm {g0 : Nat → Int → Int} {N : Nat} {F : Nat → Nat → Int} {G : Nat → Int → Int} {a b c : Nat} {T : List (Int × List Int)} {e : Int × List Int} (h : zRS g0 N F G a b T) (hc : zHd g0 N F G c e) :
    ((F a 0 = -1 ∨ zBf F G c a) → zRS g0 N F G c a (zj2 N T e)) ∧ (¬ (F a 0 = -1 ∨ zBf F G c a) → (F b 0 = -1 ∨ zBf F G c b) → zRS g0 N F G a c (zj2 N T e)) ∧ (¬ (F a 0 = -1 ∨ zBf F G c a) → ¬ (F b 0 = -1 ∨ zBf F G c b) → zRS g0 N F G a b (zj2 N T e)) := by
  match T, h with
  | [], h =>
    exact ⟨fun _ => ⟨hc, h.1⟩, fun u => absurd (Or.inl h.1.1) u, fun u => absurd (Or.inl h.1.1) u⟩
  | [d], h =>
    have h0 := zHd_0 h.1
    refine ⟨fun u => ?_, fun u w => ?_, fun u w => absurd (Or.inl h.2.1) w⟩
    · rcases u with u | u
      · omega
      · have e1 : zj2 N [d] e = [e, d] := if_pos ((zBf_lt hc h.1).mp u)
        rw [e1]
        exact ⟨hc, h.1⟩
    · have e1 : zj2 N [d] e = [d, e] := if_neg (fun q => u (Or.inr ((zBf_lt hc h.1).mpr q)))
      rw [e1]
      exact ⟨h.1, hc⟩
  | [d, d'], h =>
    have h0 := zHd_0 h.1
    have h0' := zHd_0 h.2
    refine ⟨fun u => ?_, fun u w => ?_, fun u w => ?_⟩
    · rcases u with u | u
      · omega
      · have e1 : zj2 N [d, d'] e = [e, d] := if_pos ((zBf_lt hc h.1).mp u)
        rw [e1]
        exact ⟨hc, h.1⟩
    · rcases w with w | w
      · omega
      · have e1 : zj2 N [d, d'] e = [d, e] := by
          simp only [zj2]
          rw [if_neg (fun q => u (Or.inr ((zBf_lt hc h.1).mpr q))), if_pos ((zBf_lt hc h.2).mp w)]
        rw [e1]
        exact ⟨h.1, hc⟩
    · have e1 : zj2 N [d, d'] e = [d, d'] := by
        simp only [zj2]
        rw [if_neg (fun q => u (Or.inr ((zBf_lt hc h.1).mpr q))), if_neg (fun q => w (Or.inr ((zBf_lt hc h.2).mpr q)))]
      rw [e1]
      exact h
theorem zRep_no {w : zR} {T : List (Int × Int × Int)} (h : zRep w T) : (w.1 = 1000000 ↔ T[0]? = none) ∧ (w.2.2.2.1 = 1000000 ↔ T[1]? = none) := by
  match T, h with
  | [], h => exact ⟨⟨fun _ => rfl, fun _ => h.1⟩, ⟨fun _ => rfl, fun _ => h.2⟩⟩
  | [a], h =>
    obtain ⟨h1, h2, h3, h4, h5⟩ := h
    exact ⟨⟨fun u => by omega, fun u => by simp at u⟩, ⟨fun _ => rfl, fun _ => h5⟩⟩
  | [a, b], h =>
    obtain ⟨h1, h2, h3, h4, h5, h6, h7, h8⟩ := h
    exact ⟨⟨fun u => by omega, fun u => by simp at u⟩, ⟨fun u => by omega, fun u => by simp at u⟩⟩
/-- an entry more of the two best -/
noncomputable def zAd (N : Nat) (L : List (Int × List Int)) (r : Nat) (T : List (Int × List Int)) : List (Int × List Int) := match L[r]? with
  | some e => zj2 N T e
  | none => T
def zCnd (f : Nat → Nat → Int) (g : Nat → Int → Int) (v : Int) (F : Nat → Nat → Int) (G : Nat → Int → Int) (a b c : Nat) (T : List (Int × List Int)) : Prop := zPm a b c ∧ zFrA F f G g ∧ zFrW G g ∧ zGL f g v G 0 0 0 ∧ zAok G ∧ (∀ j, F 22 j = f 22 j) ∧ zRS g (f 2 0).toNat F G a b T
section Asm2
variable {l : Launch} {dC : Nat → ClassId} {dI : Nat → Nat → Nat} {tc : Nat → ClassId} {f : Nat → Nat → Int} {g : Nat → Int → Int} {a b c : Nat}
set_option maxRecDepth 100000 in
set_option maxHeartbeats 4000000 in
theorem wp_admit {Q : Option am_V → am_H → Prop} (v : Int) (hI : zI f g) (hR : zRchd f g) (h0 : g 32 0 = 1) (r : Int) (hr : r = 0 ∨ r = 1) (F : Nat → Nat → Int) (G : Nat → Int → Int) (T : List (Int × List Int)) (o3 o4 : Option Int) (hC : zCnd f g v F G a b c T)
    (K : ∀ (F' : Nat → Nat → Int) (G' : Nat → Int → Int) (a' b' c' : Nat), zCnd f g v F' G' a' b' c' (zAd (f 2 0).toNat (zt2 (zSuf f g v (f 2 0).toNat 0 0 0)) r.toNat T) → am_wp l dC dI tc mm4_assume 3 58 58 (Q) 43 [some (.inr (.inr (some 22))), some (.inl v), some (.inl (r + 1)), o3.map Sum.inl, o4.map Sum.inl] [] (58, F', G', pr_r a' b' c')) : am_wp l dC dI tc mm4_assume 3 58 58 (Q) 43 [some (.inr (.inr (some 22))), some (.inl v), some (.inl r), o3.map Sum.inl, o4.map Sum.inl] [] (58, F, G, pr_r a b c) := by
  have i1 := hI.1
  obtain ⟨c1, c2, c3, c4, c5, c6, c7⟩ := hC
  obtain ⟨T0, t1, t2, t3, t4⟩ := c4 0 0 0 (Or.inl (by omega)) (by omega) ⟨by omega, hI.2.2.1.1⟩ ⟨by omega, (zPl_r hI 0).1⟩ h0
  have t3 : T0.map (zLft f g v (f 2 0).toNat 0 0 0) = zt2 (zSuf f g v (f 2 0).toNat 0 0 0) := t3
  have e2 : F 2 0 = f 2 0 := c2.1 2 0 (by decide) (Or.inl (by decide))
  have eT : (zt2 (zSuf f g v (f 2 0).toNat 0 0 0))[r.toNat]? = (T0[r.toNat]?).map (zLft f g v (f 2 0).toNat 0 0 0) := by rw [← t3, List.getElem?_map]
  have hsum : G 33 r = 1000000 ↔ T0[r.toNat]? = none := by
    have hn := zRep_no t1
    rcases hr with rfl | rfl
    · exact hn.1
    · exact hn.2
  have hIF : zI F G := by
    have h9 := c3.I hI
    unfold zI at h9 ⊢
    rw [e2, c2.1 12 0 (by decide) (Or.inl (by decide)), c2.1 18 0 (by decide) (Or.inl (by decide))]
    exact h9
  iterate 2 (refine am_go rfl (by first | exact True.intro | omega | exact ⟨by decide, Nat.le_of_ble_eq_true rfl, Nat.le_of_ble_eq_true rfl⟩ | exact ⟨by decide, Nat.le_of_ble_eq_true rfl⟩) ?_)
  refine am_if rfl (fun d1 => ?_) (fun d1 => ?_)
  · omega
  · iterate 5 (refine am_go rfl (by first | exact True.intro | omega | exact ⟨by decide, Nat.le_of_ble_eq_true rfl, Nat.le_of_ble_eq_true rfl⟩ | exact ⟨by decide, Nat.le_of_ble_eq_true rfl⟩) ?_)
    refine am_if rfl (fun d2 => ?_) (fun d2 => ?_)
    · have en := hsum.mp d2
      iterate 2 (refine am_go rfl (by first | exact True.intro | omega | exact ⟨by decide, Nat.le_of_ble_eq_true rfl, Nat.le_of_ble_eq_true rfl⟩ | exact ⟨by decide, Nat.le_of_ble_eq_true rfl⟩) ?_)
      refine K F G a b c ?_
      have e9 : zAd (f 2 0).toNat (zt2 (zSuf f g v (f 2 0).toNat 0 0 0)) r.toNat T = T := by
        unfold zAd
        rw [eT, en]
        rfl
      rw [e9]
      exact ⟨c1, c2, c3, c4, c5, c6, c7⟩
    · cases hT : T0[r.toNat]? with
      | none => exact absurd (hsum.mpr hT) d2
      | some e0 =>
        rw [hT, Option.map_some] at eT
        obtain ⟨k1, k2⟩ := zTok_of hI hR c3 c4 h0 hr eT
        iterate 2 (refine am_go rfl (by first | exact True.intro | omega | exact ⟨by decide, Nat.le_of_ble_eq_true rfl, Nat.le_of_ble_eq_true rfl⟩ | exact ⟨by decide, Nat.le_of_ble_eq_true rfl⟩) ?_)
        refine am_call rfl (ct_trace c1 r hIF (by omega) (fun k hk => k1 k (by omega))) (by decide) (Nat.le_of_ble_eq_true rfl) (Nat.le_of_ble_eq_true rfl) (Nat.le_of_ble_eq_true rfl) (fun rv s q => ?_)
        obtain ⟨rfl, F1, G1, rfl, r1, r2⟩ := q
        rw [e2] at r1
        have hd := zHd_of hI hR c3 c4 h0 hr eT r1
        obtain ⟨⟨n1, n2, n3, n4, n5⟩, ⟨m1, m2, m3, m4, m5⟩, m6, m7, m8⟩ := zPm_a c1
        have hRS : zRS g (f 2 0).toNat F1 G1 a b T := zRS_fr c7 (fun j => r2.1 a j n1) (fun j => r2.1 b j m1) (fun j => r2.2 _ j n2 n3) (fun j => r2.2 _ j n4 n5) (fun j => r2.2 _ j m2 m3) (fun j => r2.2 _ j m4 m5)
        clear n1 n2 n3 n4 n5 m1 m2 m3 m4 m5
        have hFA : zFrA F1 f G1 g := ⟨fun x j x1 x2 => (r2.1 x j (zPm_x c1 x1)).trans (c2.1 x j x1 x2), fun x j x1 x2 => (r2.2 x j (zPm_y c1 x2).1 (zPm_y c1 x2).2).trans (c2.2 x j x1 x2)⟩
        have hFW : zFrW G1 g := fun x j hx => (r2.2 x j (zPm_y c1 hx.2).1 (zPm_y c1 hx.2).2).trans (c3 x j hx)
        have hw : ∀ x j, 31 < x → G1 x j = G x j := fun x j hx => r2.2 x j (zPm_y c1 (Or.inr hx)).1 (zPm_y c1 (Or.inr hx)).2
        have hrow : ∀ j, zRow G1 j = zRow G j := fun j => by
          unfold zRow
          rw [hw 33 _ (by decide), hw 34 _ (by decide), hw 35 _ (by decide), hw 33 _ (by decide), hw 34 _ (by decide), hw 35 _ (by decide)]
        have hGL : zGL f g v G1 0 0 0 := fun k' y' z' a1 a2 a3 a4 a5 => by rw [hrow]; exact c4 k' y' z' a1 a2 a3 a4 a5
        have hAk : zAok G1 := fun j j1 j2 => by rw [zOk_row, hrow]; exact c5 j j1 j2
        have h22 : ∀ j, F1 22 j = f 22 j := fun j => (r2.1 22 j m8).trans (c6 j)
        obtain ⟨A1, A2, A3⟩ := zRS_adm hRS hd
        have e9 : zAd (f 2 0).toNat (zt2 (zSuf f g v (f 2 0).toNat 0 0 0)) r.toNat T = zj2 (f 2 0).toNat T (zLft f g v (f 2 0).toNat 0 0 0 e0) := by
          unfold zAd
          rw [eT]
        rw [e9] at K
        (refine am_go rfl (by first | exact True.intro | omega | exact ⟨by decide, Nat.le_of_ble_eq_true rfl, Nat.le_of_ble_eq_true rfl⟩ | exact ⟨by decide, Nat.le_of_ble_eq_true rfl⟩) ?_)
        refine am_call rfl (ct_admit c1 (by rw [hd.2.1]; omega) (fun u => ?_) (fun u => ?_)) (by decide) (Nat.le_of_ble_eq_true rfl) (Nat.le_of_ble_eq_true rfl) (Nat.le_of_ble_eq_true rfl) (fun rv s q => ?_)
        · rw [hd.2.1]
          exact ((zRS_2 hRS).1 u).symm
        · rw [hd.2.1]
          exact ((zRS_2 hRS).2 u).symm
        · obtain ⟨rfl, ⟨q1, rfl⟩ | ⟨q1, q2, rfl⟩ | ⟨q1, q2, rfl⟩⟩ := q
          · iterate 2 (refine am_go rfl (by first | exact True.intro | omega | exact ⟨by decide, Nat.le_of_ble_eq_true rfl, Nat.le_of_ble_eq_true rfl⟩ | exact ⟨by decide, Nat.le_of_ble_eq_true rfl⟩) ?_)
            exact K F1 G1 c a b ⟨zPm_1 c1, hFA, hFW, hGL, hAk, h22, A1 q1⟩
          · iterate 2 (refine am_go rfl (by first | exact True.intro | omega | exact ⟨by decide, Nat.le_of_ble_eq_true rfl, Nat.le_of_ble_eq_true rfl⟩ | exact ⟨by decide, Nat.le_of_ble_eq_true rfl⟩) ?_)
            exact K F1 G1 a c b ⟨zPm_2 c1, hFA, hFW, hGL, hAk, h22, A2 q1 q2⟩
          · iterate 2 (refine am_go rfl (by first | exact True.intro | omega | exact ⟨by decide, Nat.le_of_ble_eq_true rfl, Nat.le_of_ble_eq_true rfl⟩ | exact ⟨by decide, Nat.le_of_ble_eq_true rfl⟩) ?_)
            exact K F1 G1 a b c ⟨c1, hFA, hFW, hGL, hAk, h22, A3 q1 q2⟩
theorem zSuf_f14 (f : Nat → Nat → Int) (g : Nat → Int → Int) (u v : Int) : ∀ (n : Nat) (x y z : Int), zSuf (am_u1 f 22 14 u) g v n x y z = zSuf f g v n x y z := by
  have e12 : am_u1 f 22 14 u 12 0 = f 12 0 := am_u1_c (by decide)
  have e18 : am_u1 f 22 14 u 18 0 = f 18 0 := am_u1_c (by decide)
  have hm : ∀ k x, zMf (am_u1 f 22 14 u) g v k x = zMf f g v k x := by
    intro k x
    unfold zMf zFit
    rw [e18]
  intro n
  induction n with
  | zero => intro x y z; simp only [zSuf, e12]
  | succ n ih => intro x y z; simp only [zSuf, hm, ih]
set_option maxRecDepth 100000 in
set_option maxHeartbeats 4000000 in
theorem ct_assume (v : Int) (T : List (Int × List Int)) (hp : zPm a b c) (hI : zI f g) (hR : zRchd f g) (h0 : g 32 0 = 1) (hA : zAok g) (hT : zRS g (f 2 0).toNat f g a b T) : am_Ct l dC dI tc mm4_assume 3 58 [(.inr (.inr (some 22))), .inl v] (58, f, g, pr_r a b c) (fun r s => r = none ∧ ∃ F G a' b' c', s = (58, F, G, pr_r a' b' c') ∧ zPm a' b' c' ∧ zFrA F f G g ∧ zAok G ∧ zRS g (f 2 0).toNat F G a' b' (zAd (f 2 0).toNat (zt2 (zSuf f g v (f 2 0).toNat 0 0 0)) 1 (zAd (f 2 0).toNat (zt2 (zSuf f g v (f 2 0).toNat 0 0 0)) 0 T))) := by
  have e2 : am_u1 f 22 14 v 2 0 = f 2 0 := am_u1_c (by decide)
  have e12 : am_u1 f 22 14 v 12 0 = f 12 0 := am_u1_c (by decide)
  have e18 : am_u1 f 22 14 v 18 0 = f 18 0 := am_u1_c (by decide)
  have hI1 : zI (am_u1 f 22 14 v) g := by
    unfold zI at hI ⊢
    rw [e2, e12, e18]
    exact hI
  have hR1 : zRchd (am_u1 f 22 14 v) g := by
    unfold zRchd at hR ⊢
    rw [e2]
    exact hR
  obtain ⟨-, -, m6, m7, -⟩ := zPm_a hp
  obtain ⟨z1, z2, z3, z4⟩ := zPm_z hp
  have hT1 : ∀ G, zFrX G g → zRS g (f 2 0).toNat (am_u1 f 22 14 v) G a b T := fun G hX => zRS_fr hT (fun j => am_u1_c m6) (fun j => am_u1_c m7) (fun j => hX _ j z1) (fun j => hX _ j z2) (fun j => hX _ j z3) (fun j => hX _ j z4)
  clear z1 z2 z3 z4 m6 m7
  refine am_enter ok_4_assume rfl (by decide) (Nat.le_of_ble_eq_true rfl) rfl ?_
  iterate 3 (refine am_go rfl (by first | exact True.intro | omega | exact ⟨by decide, Nat.le_of_ble_eq_true rfl, Nat.le_of_ble_eq_true rfl⟩ | exact ⟨by decide, Nat.le_of_ble_eq_true rfl⟩) ?_)
  refine wp_table v hI1 hR1 hA am_u1_s none (fun G o3 o4 hF hAG hG => ?_)
  iterate 2 (refine am_go rfl (by first | exact True.intro | omega | exact ⟨by decide, Nat.le_of_ble_eq_true rfl, Nat.le_of_ble_eq_true rfl⟩ | exact ⟨by decide, Nat.le_of_ble_eq_true rfl⟩) ?_)
  refine wp_admit v hI1 hR1 h0 0 (Or.inl rfl) _ G T o3 o4 ⟨hp, ⟨fun _ _ _ _ => rfl, fun x j x1 x2 => hF x j x1⟩, hF.W, hG, hAG, fun _ => rfl, ?_⟩ (fun F1 G1 a1 b1 c1 hC1 => ?_)
  · rw [e2]
    exact hT1 G hF
  · refine wp_admit v hI1 hR1 h0 1 (Or.inr rfl) F1 G1 _ o3 o4 hC1 (fun F2 G2 a2 b2 c2 hC2 => ?_)
    obtain ⟨d1, d2, d3, d4, d5, d6, d7⟩ := hC2
    iterate 2 (refine am_go rfl (by first | exact True.intro | omega | exact ⟨by decide, Nat.le_of_ble_eq_true rfl, Nat.le_of_ble_eq_true rfl⟩ | exact ⟨by decide, Nat.le_of_ble_eq_true rfl⟩) ?_)
    refine am_if rfl (fun u1 => ?_) (fun u1 => ?_)
    · refine am_vret (x := 0) rfl rfl rfl ⟨rfl, F2, G2, a2, b2, c2, rfl, d1, ⟨fun x j x1 x2 => (d2.1 x j x1 x2).trans (am_u1_ne x2), d2.2⟩, d5, ?_⟩
      rw [e2, zSuf_f14] at d7
      exact d7
    · omega
end Asm2
end
section
/-! what readings rest on: the cells below 23 -/
def zFrB (G g : Nat → Int → Int) : Prop := ∀ c j, c < 23 → G c j = g c j
theorem zFrB.Pl {G g : Nat → Int → Int} (h : zFrB G g) (x : Int) : zPl G x = zPl g x := zPl_fr (fun j => h 13 j (by decide)) x
theorem zFrB.Na {G g : Nat → Int → Int} (h : zFrB G g) (x y : Int) : zNa G x y = zNa g x y := zNa_fr (fun j => h 14 j (by decide)) x y
theorem zFrB.Beh {G g : Nat → Int → Int} (h : zFrB G g) (x y z : Int) : zBeh G x y z = zBeh g x y z := by
  unfold zBeh
  rw [h 5 _ (by decide), h.Pl]
theorem zFrB.Kd {G g : Nat → Int → Int} (h : zFrB G g) (y z k : Int) : zKd G y z k ↔ zKd g y z k := by
  unfold zKd
  rw [h.Na]
  simp only [h 15 _ (by decide)]
theorem zFrB.Tn {G g : Nat → Int → Int} (h : zFrB G g) (x y z q : Int) : zTn G x y z q ↔ zTn g x y z q := by
  unfold zTn
  rw [h 4 _ (by decide), h 3 _ (by decide), h.Beh, h.Beh, h.Kd]
theorem zFrB.Re {G g : Nat → Int → Int} (h : zFrB G g) : ∀ (k : Nat) (j : Int), zRe G k j ↔ zRe g k j := by
  intro k
  induction k with
  | zero => intro j; exact Iff.rfl
  | succ k ih =>
    intro j
    simp only [zRe, ih, h.Tn]
theorem zFrB.Fit {G g : Nat → Int → Int} {F f : Nat → Nat → Int} (h : zFrB G g) (hf : F 18 0 = f 18 0) (k x y : Int) : zFit F G k x y ↔ zFit f g k x y := by
  unfold zFit
  rw [hf]
  simp only [h 19 _ (by decide), h 20 _ (by decide), h 21 _ (by decide)]
theorem zFrB.Mf {G g : Nat → Int → Int} {F f : Nat → Nat → Int} (h : zFrB G g) (hf : F 18 0 = f 18 0) (v k x : Int) : zMf F G v k x = zMf f g v k x := by
  unfold zMf
  by_cases u : v ≠ -1 ∧ (k = 2 ∨ k = 6) ∧ ¬ zFit f g k x v
  · rw [if_pos u, if_pos ⟨u.1, u.2.1, fun q => u.2.2 ((h.Fit hf k x v).mp q)⟩]
  · rw [if_neg u, if_neg (fun q => u ⟨q.1, q.2.1, fun p => q.2.2 ((h.Fit hf k x v).mpr p)⟩)]
theorem zFrB.Suf {G g : Nat → Int → Int} {F f : Nat → Nat → Int} (h : zFrB G g) (h12 : F 12 0 = f 12 0) (hf : F 18 0 = f 18 0) (v : Int) : ∀ (n : Nat) (x y z : Int), zSuf F G v n x y z = zSuf f g v n x y z := by
  intro n
  induction n with
  | zero => intro x y z; simp only [zSuf, h12]
  | succ n ih =>
    intro x y z
    simp only [zSuf, h.Na, h.Beh, h.Mf hf, h 3 _ (by decide), h 4 _ (by decide), h 15 _ (by decide), h 16 _ (by decide), h 17 _ (by decide), ih]
theorem zFrB.Pa {G g : Nat → Int → Int} (h : zFrB G g) (cs : Nat → Int) : ∀ k, zPa G cs k = zPa g cs k := by
  intro k
  induction k with
  | zero => rfl
  | succ k ih => simp only [zPa, ih, h 5 _ (by decide)]
theorem zFrB.Hd {G0 g0 : Nat → Int → Int} (h : zFrB G0 g0) {N : Nat} {f : Nat → Nat → Int} {g : Nat → Int → Int} {q : Nat} {e : Int × List Int} : zHd G0 N f g q e ↔ zHd g0 N f g q e := by
  unfold zHd
  simp only [h.Pa, h 3 _ (by decide), h 16 _ (by decide)]
theorem zFrB.RS {G0 g0 : Nat → Int → Int} (h : zFrB G0 g0) {N : Nat} {f : Nat → Nat → Int} {g : Nat → Int → Int} {a b : Nat} {T : List (Int × List Int)} : zRS G0 N f g a b T ↔ zRS g0 N f g a b T := by
  match T with
  | [] => exact Iff.rfl
  | [d] =>
    simp only [zRS, h.Hd]
  | [d, e] =>
    simp only [zRS, h.Hd]
  | _ :: _ :: _ :: _ => exact Iff.rfl
theorem zFrB.I {G g : Nat → Int → Int} {F f : Nat → Nat → Int} (h : zFrB G g) (h2 : F 2 0 = f 2 0) (h12 : F 12 0 = f 12 0) (h18 : F 18 0 = f 18 0) (hI : zI f g) : zI F G := by
  unfold zI at hI ⊢
  simp only [h2, h12, h18, h 3 _ (by decide), h 4 _ (by decide), h 5 _ (by decide), h 13 _ (by decide), h 14 _ (by decide), h 16 _ (by decide), h 17 _ (by decide)]
  exact hI
/-- what one assumed value adds -/
noncomputable def zOne (f : Nat → Nat → Int) (g : Nat → Int → Int) (T : List (Int × List Int)) (v : Int) : List (Int × List Int) := zAd (f 2 0).toNat (zt2 (zSuf f g v (f 2 0).toNat 0 0 0)) 1 (zAd (f 2 0).toNat (zt2 (zSuf f g v (f 2 0).toNat 0 0 0)) 0 T)
theorem zFrB.One {G g : Nat → Int → Int} {F f : Nat → Nat → Int} (h : zFrB G g) (h2 : F 2 0 = f 2 0) (h12 : F 12 0 = f 12 0) (h18 : F 18 0 = f 18 0) (T : List (Int × List Int)) (v : Int) : zOne F G T v = zOne f g T v := by
  unfold zOne
  rw [h2, h.Suf h12 h18]
/-- the list of the place's values as a list -/
def zVs (g : Nat → Int → Int) (n : Nat) : List Int := (List.range n).map (fun i : Nat => g 36 i)
/-- nothing has changed but the search's own cells -/
def zFrF (F f : Nat → Nat → Int) (G g : Nat → Int → Int) : Prop := (∀ x j, x ≠ 23 ∧ x ≠ 26 ∧ x ≠ 29 ∧ x ≠ 22 → F x j = f x j) ∧ ∀ x j, x < 23 ∨ 36 < x → G x j = g x j
section Fnd
variable {l : Launch} {dC : Nat → ClassId} {dI : Nat → Nat → Nat} {tc : Nat → ClassId} {f : Nat → Nat → Int} {g : Nat → Int → Int} {a b c : Nat}
abbrev zFP (f : Nat → Nat → Int) (g : Nat → Int → Int) : Option am_V → am_H → Prop := fun r s => r = none ∧ ∃ F G a' b' c', s = (58, F, G, pr_r a' b' c') ∧ zPm a' b' c' ∧ zFrF F f G g ∧ zAok G ∧ F 22 4 = 1 ∧ ((f 2 0 = 0 ∧ zRS g 0 F G a' b' []) ∨ (0 < f 2 0 ∧ zLr F G ∧ zRchd f G ∧ ∃ n : Nat, (zVs G n).Nodup ∧ (∀ v ∈ zVs G n, 0 ≤ v) ∧ ((n = 0 ∧ ∀ x, 0 ≤ x → x < f 2 0 → g 3 x ≠ 7) ∨ ∃ x, 0 ≤ x ∧ x < f 2 0 ∧ g 3 x = 7 ∧ ∀ v, zCov G x (f 12 0) 0 v → v ∈ zVs G n) ∧ zRS g (f 2 0).toNat F G a' b' ((-1 :: zVs G n).foldl (zOne f g) [])))
theorem zCov_fr {G g : Nat → Int → Int} (h : zFrB G g) (h32 : ∀ j, G 32 j = g 32 j) (x y z v : Int) : zCov G x y z v ↔ zCov g x y z v := by
  unfold zCov
  simp only [h.Pl, h.Na, h32, h 15 _ (by decide), h 16 _ (by decide)]
theorem zVs_mem {g : Nat → Int → Int} {n : Nat} {v : Int} : v ∈ zVs g n ↔ ∃ i : Nat, i < n ∧ g 36 i = v := by
  unfold zVs
  simp [List.mem_map]
theorem zVs_fr {G g : Nat → Int → Int} (h : ∀ j, G 36 j = g 36 j) (n : Nat) : zVs G n = zVs g n := by
  unfold zVs
  simp only [h]
theorem zVs_s (g : Nat → Int → Int) (n : Nat) : zVs g (n + 1) = zVs g n ++ [g 36 n] := by
  unfold zVs
  rw [List.range_succ, List.map_append]
  rfl
theorem zVs_nd {f : Nat → Nat → Int} {g : Nat → Int → Int} (h : ∀ i j, 0 ≤ i → i < f 22 13 → 0 ≤ j → j < f 22 13 → g 36 i = g 36 j → i = j) : ∀ n : Nat, (n : Int) ≤ f 22 13 → (zVs g n).Nodup := by
  intro n
  induction n with
  | zero => intro _; simp [zVs]
  | succ n ih =>
    intro hn
    rw [zVs_s, List.nodup_append]
    refine ⟨ih (by omega), by simp, fun u hu w hw => ?_⟩
    obtain ⟨i, i1, i2⟩ := zVs_mem.mp hu
    rw [List.mem_singleton] at hw
    rw [hw]
    intro e
    have := h i n (by omega) (by omega) (by omega) (by omega) (by rw [i2]; exact e)
    omega
def zDr (f : Nat → Nat → Int) (a b : Nat) : Nat → Nat → Int := am_u1 (am_u1 (am_u1 (am_u1 (am_u1 (am_u1 f a 0 (-1)) a 1 (-1)) a 2 0) b 0 (-1)) b 1 (-1)) b 2 0
set_option maxRecDepth 100000 in
set_option maxHeartbeats 4000000 in
theorem wp_drops {Q : Option am_V → am_H → Prop} (hp : zPm a b c) (K : am_wp l dC dI tc mm4_find 4 58 58 (Q) 13 [some (.inr (.inr (some 22))), none] [] (58, zDr f a b, g, pr_r a b c)) : am_wp l dC dI tc mm4_find 4 58 58 (Q) 7 [some (.inr (.inr (some 22))), none] [] (58, f, g, pr_r a b c) := by
  rcases hp with ⟨rfl, rfl, rfl⟩ | ⟨rfl, rfl, rfl⟩ | ⟨rfl, rfl, rfl⟩ | ⟨rfl, rfl, rfl⟩ | ⟨rfl, rfl, rfl⟩ | ⟨rfl, rfl, rfl⟩
  · iterate 2 (refine am_go rfl (by first | exact True.intro | omega | exact ⟨by decide, Nat.le_of_ble_eq_true rfl, Nat.le_of_ble_eq_true rfl⟩ | exact ⟨by decide, Nat.le_of_ble_eq_true rfl⟩) ?_)
    refine am_calln rfl (ct_drop 23 (by decide)) (by decide) (Nat.le_of_ble_eq_true rfl) (Nat.le_of_ble_eq_true rfl) ?_
    iterate 2 (refine am_go rfl (by first | exact True.intro | omega | exact ⟨by decide, Nat.le_of_ble_eq_true rfl, Nat.le_of_ble_eq_true rfl⟩ | exact ⟨by decide, Nat.le_of_ble_eq_true rfl⟩) ?_)
    refine am_calln rfl (ct_drop 26 (by decide)) (by decide) (Nat.le_of_ble_eq_true rfl) (Nat.le_of_ble_eq_true rfl) ?_
    exact K
  · iterate 2 (refine am_go rfl (by first | exact True.intro | omega | exact ⟨by decide, Nat.le_of_ble_eq_true rfl, Nat.le_of_ble_eq_true rfl⟩ | exact ⟨by decide, Nat.le_of_ble_eq_true rfl⟩) ?_)
    refine am_calln rfl (ct_drop 23 (by decide)) (by decide) (Nat.le_of_ble_eq_true rfl) (Nat.le_of_ble_eq_true rfl) ?_
    iterate 2 (refine am_go rfl (by first | exact True.intro | omega | exact ⟨by decide, Nat.le_of_ble_eq_true rfl, Nat.le_of_ble_eq_true rfl⟩ | exact ⟨by decide, Nat.le_of_ble_eq_true rfl⟩) ?_)
    refine am_calln rfl (ct_drop 29 (by decide)) (by decide) (Nat.le_of_ble_eq_true rfl) (Nat.le_of_ble_eq_true rfl) ?_
    exact K
  · iterate 2 (refine am_go rfl (by first | exact True.intro | omega | exact ⟨by decide, Nat.le_of_ble_eq_true rfl, Nat.le_of_ble_eq_true rfl⟩ | exact ⟨by decide, Nat.le_of_ble_eq_true rfl⟩) ?_)
    refine am_calln rfl (ct_drop 26 (by decide)) (by decide) (Nat.le_of_ble_eq_true rfl) (Nat.le_of_ble_eq_true rfl) ?_
    iterate 2 (refine am_go rfl (by first | exact True.intro | omega | exact ⟨by decide, Nat.le_of_ble_eq_true rfl, Nat.le_of_ble_eq_true rfl⟩ | exact ⟨by decide, Nat.le_of_ble_eq_true rfl⟩) ?_)
    refine am_calln rfl (ct_drop 23 (by decide)) (by decide) (Nat.le_of_ble_eq_true rfl) (Nat.le_of_ble_eq_true rfl) ?_
    exact K
  · iterate 2 (refine am_go rfl (by first | exact True.intro | omega | exact ⟨by decide, Nat.le_of_ble_eq_true rfl, Nat.le_of_ble_eq_true rfl⟩ | exact ⟨by decide, Nat.le_of_ble_eq_true rfl⟩) ?_)
    refine am_calln rfl (ct_drop 26 (by decide)) (by decide) (Nat.le_of_ble_eq_true rfl) (Nat.le_of_ble_eq_true rfl) ?_
    iterate 2 (refine am_go rfl (by first | exact True.intro | omega | exact ⟨by decide, Nat.le_of_ble_eq_true rfl, Nat.le_of_ble_eq_true rfl⟩ | exact ⟨by decide, Nat.le_of_ble_eq_true rfl⟩) ?_)
    refine am_calln rfl (ct_drop 29 (by decide)) (by decide) (Nat.le_of_ble_eq_true rfl) (Nat.le_of_ble_eq_true rfl) ?_
    exact K
  · iterate 2 (refine am_go rfl (by first | exact True.intro | omega | exact ⟨by decide, Nat.le_of_ble_eq_true rfl, Nat.le_of_ble_eq_true rfl⟩ | exact ⟨by decide, Nat.le_of_ble_eq_true rfl⟩) ?_)
    refine am_calln rfl (ct_drop 29 (by decide)) (by decide) (Nat.le_of_ble_eq_true rfl) (Nat.le_of_ble_eq_true rfl) ?_
    iterate 2 (refine am_go rfl (by first | exact True.intro | omega | exact ⟨by decide, Nat.le_of_ble_eq_true rfl, Nat.le_of_ble_eq_true rfl⟩ | exact ⟨by decide, Nat.le_of_ble_eq_true rfl⟩) ?_)
    refine am_calln rfl (ct_drop 23 (by decide)) (by decide) (Nat.le_of_ble_eq_true rfl) (Nat.le_of_ble_eq_true rfl) ?_
    exact K
  · iterate 2 (refine am_go rfl (by first | exact True.intro | omega | exact ⟨by decide, Nat.le_of_ble_eq_true rfl, Nat.le_of_ble_eq_true rfl⟩ | exact ⟨by decide, Nat.le_of_ble_eq_true rfl⟩) ?_)
    refine am_calln rfl (ct_drop 29 (by decide)) (by decide) (Nat.le_of_ble_eq_true rfl) (Nat.le_of_ble_eq_true rfl) ?_
    iterate 2 (refine am_go rfl (by first | exact True.intro | omega | exact ⟨by decide, Nat.le_of_ble_eq_true rfl, Nat.le_of_ble_eq_true rfl⟩ | exact ⟨by decide, Nat.le_of_ble_eq_true rfl⟩) ?_)
    refine am_calln rfl (ct_drop 26 (by decide)) (by decide) (Nat.le_of_ble_eq_true rfl) (Nat.le_of_ble_eq_true rfl) ?_
    exact K
theorem zDr_c {f : Nat → Nat → Int} {a b x j : Nat} (ha : x ≠ a) (hb : x ≠ b) : zDr f a b x j = f x j := by
  unfold zDr
  rw [am_u1_c hb, am_u1_c hb, am_u1_c hb, am_u1_c ha, am_u1_c ha, am_u1_c ha]
theorem zDr_0 {f : Nat → Nat → Int} {a b : Nat} (h : a ≠ b) : zNil (zDr f a b) a ∧ zNil (zDr f a b) b := by
  unfold zDr zNil
  refine ⟨⟨?_, ?_⟩, ?_, ?_⟩
  · rw [am_u1_c h, am_u1_c h, am_u1_c h, am_u1_j (by decide), am_u1_j (by decide), am_u1_s]
  · rw [am_u1_c h, am_u1_c h, am_u1_c h, am_u1_j (by decide), am_u1_s]
  · rw [am_u1_j (by decide), am_u1_j (by decide), am_u1_s]
  · rw [am_u1_j (by decide), am_u1_s]
theorem zPm_b {a b c x : Nat} (h : zPm a b c) (hx : x ≠ 23 ∧ x ≠ 26 ∧ x ≠ 29) : x ≠ a ∧ x ≠ b := by
  rcases h with ⟨rfl, rfl, rfl⟩ | ⟨rfl, rfl, rfl⟩ | ⟨rfl, rfl, rfl⟩ | ⟨rfl, rfl, rfl⟩ | ⟨rfl, rfl, rfl⟩ | ⟨rfl, rfl, rfl⟩ <;> omega
theorem zPm_ab {a b c : Nat} (h : zPm a b c) : a ≠ b := by
  rcases h with ⟨rfl, rfl, rfl⟩ | ⟨rfl, rfl, rfl⟩ | ⟨rfl, rfl, rfl⟩ | ⟨rfl, rfl, rfl⟩ | ⟨rfl, rfl, rfl⟩ | ⟨rfl, rfl, rfl⟩ <;> decide
set_option maxRecDepth 100000 in
set_option maxHeartbeats 4000000 in
theorem ct_find0 (hp : zPm a b c) (hI : zI f g) (hA : zAok g) (h4 : f 22 4 = 0) : am_Ct l dC dI tc mm4_find 4 58 [(.inr (.inr (some 22)))] (58, f, g, pr_r a b c) (zFP f g) := by
  have i1 := hI.1
  have hd : ∀ x j, x ≠ 23 ∧ x ≠ 26 ∧ x ≠ 29 ∧ x ≠ 22 → zDr (am_u1 f 22 4 1) a b x j = f x j := fun x j hx => by
    rw [zDr_c (zPm_b hp ⟨hx.1, hx.2.1, hx.2.2.1⟩).1 (zPm_b hp ⟨hx.1, hx.2.1, hx.2.2.1⟩).2, am_u1_c hx.2.2.2]
  have hd22 : zDr (am_u1 f 22 4 1) a b 22 4 = 1 := by
    rw [zDr_c (zPm_b hp (by decide)).1 (zPm_b hp (by decide)).2, am_u1_s]
  have hab := zDr_0 (f := am_u1 f 22 4 1) (zPm_ab hp)
  obtain ⟨D, hD⟩ : ∃ D, zDr (am_u1 f 22 4 1) a b = D := ⟨_, rfl⟩
  rw [hD] at hd hd22 hab
  have hI0 : zI D g := zFrB.I (fun _ _ _ => rfl) (hd 2 0 (by decide)) (hd 12 0 (by decide)) (hd 18 0 (by decide)) hI
  have e2 := hd 2 0 (by decide)
  -- the loop over the values
  have loop : ∀ (F2 : Nat → Nat → Int) (G2 : Nat → Int → Int), (∀ x j, x ≠ 23 ∧ x ≠ 26 ∧ x ≠ 29 ∧ x ≠ 22 → F2 x j = f x j) → F2 22 4 = 1 → zFrB G2 g → (∀ x j, x < 23 ∨ 36 < x → G2 x j = g x j) → 0 < f 2 0 → zLr F2 G2 → zRchd f G2 → G2 32 0 = 1 → zLs F2 G2 120 → ((F2 22 13 = 0 ∧ ∀ x, 0 ≤ x → x < f 2 0 → g 3 x ≠ 7) ∨ ∃ x, 0 ≤ x ∧ x < f 2 0 ∧ g 3 x = 7 ∧ ∀ v, zCov G2 x (f 12 0) 0 v → zHas F2 G2 v) →
      ∀ (m n : Nat) (F : Nat → Nat → Int) (G : Nat → Int → Int) (a b c : Nat), (n : Int) ≤ F2 22 13 → (F2 22 13).toNat - n ≤ m → zPm a b c → zFrA F F2 G G2 → zAok G → zRS G2 (f 2 0).toNat F G a b ((-1 :: zVs G2 n).foldl (zOne F2 G2) []) → am_wp l dC dI tc mm4_find 4 58 58 (zFP f g) 27 [some (.inr (.inr (some 22))), some (.inl (n : Int))] [] (58, F, G, pr_r a b c) := by
    intro F2 G2 hf hf4 hB hg hpos hLr hRc h32 hLs hCv m
    have hF2 := hf 2 0 (by decide)
    have hF12 := hf 12 0 (by decide)
    have hF18 := hf 18 0 (by decide)
    have hI2 : zI F2 G2 := hB.I hF2 hF12 hF18 hI
    have hRc2 : zRchd F2 G2 := by
      unfold zRchd at hRc ⊢
      rw [hF2]
      exact hRc
    have done : ∀ (F : Nat → Nat → Int) (G : Nat → Int → Int) (a b c : Nat), zPm a b c → zFrA F F2 G G2 → zAok G → zRS G2 (f 2 0).toNat F G a b ((-1 :: zVs G2 (F2 22 13).toNat).foldl (zOne F2 G2) []) → (zFP f g) none (58, F, G, pr_r a b c) := by
      intro F G a b c q1 q2 q3 q4
      have hBG : zFrB G G2 := fun x j hx => q2.2 x j (by omega) (Or.inl hx)
      have g32 : ∀ j, G 32 j = G2 32 j := fun j => q2.2 32 j (by decide) (Or.inr (by decide))
      have g36 : ∀ j, G 36 j = G2 36 j := fun j => q2.2 36 j (by decide) (Or.inr (by decide))
      have f22 : ∀ j, j ≠ 14 → F 22 j = F2 22 j := fun j hj => q2.1 22 j (by decide) (Or.inr hj)
      refine ⟨rfl, F, G, a, b, c, rfl, q1, ⟨fun x j hx => (q2.1 x j ⟨hx.1, hx.2.1, hx.2.2.1⟩ (Or.inl hx.2.2.2)).trans (hf x j hx), fun x j hx => (q2.2 x j (by omega) (by omega)).trans (hg x j hx)⟩, q3, by rw [f22 4 (by decide)]; exact hf4, Or.inr ⟨hpos, ?_, ?_, (F2 22 13).toNat, ?_, ?_, ?_, ?_⟩⟩
      · unfold zLr at hLr ⊢
        rw [f22 2 (by decide)]
        simp only [g32]
        exact hLr
      · unfold zRchd at hRc ⊢
        simp only [g32, hBG.Re]
        exact hRc
      · rw [zVs_fr g36]
        exact zVs_nd hLs.2.2 _ (by have := hLs.1; omega)
      · rw [zVs_fr g36]
        intro v hv
        obtain ⟨i, j1, j2⟩ := zVs_mem.mp hv
        rw [← j2]
        exact hLs.2.1 i (by omega) (by omega)
      · rcases hCv with u | ⟨x, u1, u2, u3, u4⟩
        · exact Or.inl ⟨by rw [u.1]; rfl, u.2⟩
        · refine Or.inr ⟨x, u1, u2, u3, fun v hv => ?_⟩
          obtain ⟨i, j1, j2, j3⟩ := u4 v ((zCov_fr hBG g32 x (f 12 0) 0 v).mp hv)
          rw [zVs_fr g36]
          exact zVs_mem.mpr ⟨i.toNat, by omega, by rw [Int.toNat_of_nonneg j1]; exact j3⟩
      · rw [zVs_fr g36]
        have e9 : ∀ (L : List Int) (T : List (Int × List Int)), L.foldl (zOne F2 G2) T = L.foldl (zOne f g) T := by
          intro L
          induction L with
          | nil => intro T; rfl
          | cons u L ih => intro T; simp only [List.foldl, hB.One hF2 hF12 hF18, ih]
        rw [e9, hB.RS] at q4
        exact q4
    induction m with
    | zero =>
      intro n F G a b c hn hm q1 q2 q3 q4
      have f13 : F 22 13 = F2 22 13 := q2.1 22 13 (by decide) (Or.inr (by decide))
      have e : n = (F2 22 13).toNat := by omega
      iterate 3 (refine am_go rfl (by first | exact True.intro | omega | exact ⟨by decide, Nat.le_of_ble_eq_true rfl, Nat.le_of_ble_eq_true rfl⟩ | exact ⟨by decide, Nat.le_of_ble_eq_true rfl⟩) ?_)
      rw [f13]
      refine am_if rfl (fun c1 => ?_) (fun c1 => ?_)
      · subst e
        exact am_vret (x := 0) rfl rfl rfl (done F G a b c q1 q2 q3 q4)
      · omega
    | succ m ih =>
      intro n F G a b c hn hm q1 q2 q3 q4
      have f13 : F 22 13 = F2 22 13 := q2.1 22 13 (by decide) (Or.inr (by decide))
      have g36 : ∀ j, G 36 j = G2 36 j := fun j => q2.2 36 j (by decide) (Or.inr (by decide))
      have g32 : ∀ j, G 32 j = G2 32 j := fun j => q2.2 32 j (by decide) (Or.inr (by decide))
      have hBG : zFrB G G2 := fun x j hx => q2.2 x j (by omega) (Or.inl hx)
      have k2 : F 2 0 = F2 2 0 := q2.1 2 0 (by decide) (Or.inl (by decide))
      have k12 : F 12 0 = F2 12 0 := q2.1 12 0 (by decide) (Or.inl (by decide))
      have k18 : F 18 0 = F2 18 0 := q2.1 18 0 (by decide) (Or.inl (by decide))
      iterate 3 (refine am_go rfl (by first | exact True.intro | omega | exact ⟨by decide, Nat.le_of_ble_eq_true rfl, Nat.le_of_ble_eq_true rfl⟩ | exact ⟨by decide, Nat.le_of_ble_eq_true rfl⟩) ?_)
      rw [f13]
      refine am_if rfl (fun c1 => ?_) (fun c1 => ?_)
      · have e : n = (F2 22 13).toNat := by omega
        subst e
        exact am_vret (x := 0) rfl rfl rfl (done F G a b c q1 q2 q3 q4)
      · have h120 := hLs.1
        iterate 4 (refine am_go rfl (by first | exact True.intro | omega | exact ⟨by decide, Nat.le_of_ble_eq_true rfl, Nat.le_of_ble_eq_true rfl⟩ | exact ⟨by decide, Nat.le_of_ble_eq_true rfl⟩) ?_)
        refine am_if rfl (fun c2 => ?_) (fun c2 => ?_)
        · omega
        · iterate 5 (refine am_go rfl (by first | exact True.intro | omega | exact ⟨by decide, Nat.le_of_ble_eq_true rfl, Nat.le_of_ble_eq_true rfl⟩ | exact ⟨by decide, Nat.le_of_ble_eq_true rfl⟩) ?_)
          rw [g36]
          refine am_call rfl (ct_assume (G2 36 n) _ q1 (hBG.I k2 k12 k18 hI2) ?_ (by rw [g32]; exact h32) q3 (by rw [k2, hF2, hBG.RS]; exact q4)) (by decide) (Nat.le_of_ble_eq_true rfl) (Nat.le_of_ble_eq_true rfl) (Nat.le_of_ble_eq_true rfl) (fun rv s q => ?_)
          · unfold zRchd at hRc2 ⊢
            rw [k2]
            simp only [g32, hBG.Re]
            exact hRc2
          · obtain ⟨rfl, F3, G3, a3, b3, c3, rfl, p1, p2, p3, p4⟩ := q
            iterate 2 (refine am_go rfl (by first | exact True.intro | omega | exact ⟨by decide, Nat.le_of_ble_eq_true rfl, Nat.le_of_ble_eq_true rfl⟩ | exact ⟨by decide, Nat.le_of_ble_eq_true rfl⟩) ?_)
            refine ih (n + 1) F3 G3 a3 b3 c3 (by omega) (by omega) p1 (p2.tr q2) p3 ?_
            have p5 : zRS G (F 2 0).toNat F3 G3 a3 b3 (zOne F G ((-1 :: zVs G2 n).foldl (zOne F2 G2) []) (G2 36 n)) := p4
            rw [hBG.One k2 k12 k18, k2, hF2, hBG.RS] at p5
            rw [zVs_s, ← List.cons_append, List.foldl_append]
            exact p5
  refine am_enter ok_4_find rfl (by decide) (Nat.le_of_ble_eq_true rfl) rfl ?_
  iterate 2 (refine am_go rfl (by first | exact True.intro | omega | exact ⟨by decide, Nat.le_of_ble_eq_true rfl, Nat.le_of_ble_eq_true rfl⟩ | exact ⟨by decide, Nat.le_of_ble_eq_true rfl⟩) ?_)
  refine am_if rfl (fun c1 => ?_) (fun c1 => ?_)
  · iterate 3 (refine am_go rfl (by first | exact True.intro | omega | exact ⟨by decide, Nat.le_of_ble_eq_true rfl, Nat.le_of_ble_eq_true rfl⟩ | exact ⟨by decide, Nat.le_of_ble_eq_true rfl⟩) ?_)
    refine wp_drops hp ?_
    rw [hD]
    iterate 3 (refine am_go rfl (by first | exact True.intro | omega | exact ⟨by decide, Nat.le_of_ble_eq_true rfl, Nat.le_of_ble_eq_true rfl⟩ | exact ⟨by decide, Nat.le_of_ble_eq_true rfl⟩) ?_)
    refine am_if rfl (fun c2 => ?_) (fun c2 => ?_)
    · (refine am_go rfl (by first | exact True.intro | omega | exact ⟨by decide, Nat.le_of_ble_eq_true rfl, Nat.le_of_ble_eq_true rfl⟩ | exact ⟨by decide, Nat.le_of_ble_eq_true rfl⟩) ?_)
      refine am_call rfl (ct_reachAll hI0) (by decide) (Nat.le_of_ble_eq_true rfl) (Nat.le_of_ble_eq_true rfl) (Nat.le_of_ble_eq_true rfl) (fun rv s q => ?_)
      obtain ⟨rfl, F1, G1, rfl, r1, r2, r3⟩ := q
      have hI1 : zI F1 G1 := r1.I hI0
      (refine am_go rfl (by first | exact True.intro | omega | exact ⟨by decide, Nat.le_of_ble_eq_true rfl, Nat.le_of_ble_eq_true rfl⟩ | exact ⟨by decide, Nat.le_of_ble_eq_true rfl⟩) ?_)
      refine am_call rfl (ct_listPlaceValues hI1 r2.2.1) (by decide) (Nat.le_of_ble_eq_true rfl) (Nat.le_of_ble_eq_true rfl) (Nat.le_of_ble_eq_true rfl) (fun rv s q => ?_)
      obtain ⟨rfl, F2, G2, rfl, s1, s2, s3⟩ := q
      have hB1 : zFrB G1 g := fun x j hx => r1.2 x j (by omega)
      have hB2 : zFrB G2 G1 := fun x j hx => s1.2 x j (by omega)
      have hB : zFrB G2 g := fun x j hx => (hB2 x j hx).trans (hB1 x j hx)
      have hf2 : ∀ x j, x ≠ 23 ∧ x ≠ 26 ∧ x ≠ 29 ∧ x ≠ 22 → F2 x j = f x j := fun x j hx => ((s1.1 x j (Or.inl hx.2.2.2)).trans (r1.1 x j (Or.inl hx.2.2.2))).trans (hd x j hx)
      have hG2 : ∀ x j, x ≠ 32 → x ≠ 36 → G2 x j = g x j := fun x j h1 h2 => (s1.2 x j h2).trans (r1.2 x j h1)
      have g32 : ∀ j, G2 32 j = G1 32 j := fun j => s1.2 32 j (by decide)
      have f4 : F2 22 4 = 1 := ((s1.1 22 4 (Or.inr (by decide))).trans (r1.1 22 4 (Or.inr (by decide)))).trans hd22
      have hLr2 : zLr F2 G2 := by
        unfold zLr at r2 ⊢
        rw [s1.1 22 2 (Or.inr (by decide))]
        simp only [g32]
        exact r2
      have hRc : zRchd f G2 := by
        intro j j1 j2
        rw [g32]
        refine ⟨r2.2.1 j j1 j2, ?_⟩
        rw [r3 j j1 j2, e2]
        simp only [hB.Re]
      have h320 : G2 32 0 = 1 := (hRc 0 (by omega) (by omega)).2.mpr ⟨0, by omega, rfl⟩
      have hA2 : zAok G2 := fun j j1 j2 => by
        unfold zOk
        rw [hG2 33 _ (by decide) (by decide), hG2 33 _ (by decide) (by decide)]
        exact hA j j1 j2
      have k2 := hf2 2 0 (by decide)
      have k12 := hf2 12 0 (by decide)
      have k18 := hf2 18 0 (by decide)
      have k12' : F1 12 0 = f 12 0 := (r1.1 12 0 (Or.inl (by decide))).trans (hd 12 0 (by decide))
      have k2' : F1 2 0 = f 2 0 := (r1.1 2 0 (Or.inl (by decide))).trans (hd 2 0 (by decide))
      have hq : ∀ q j, q ≠ 22 → F2 q j = D q j := fun q j hq => (s1.1 q j (Or.inl hq)).trans (r1.1 q j (Or.inl hq))
      obtain ⟨-, -, m6, m7, -⟩ := zPm_a hp
      have hRS0 : zRS G2 (F2 2 0).toNat F2 G2 a b [] := ⟨⟨by rw [hq a 0 m6]; exact hab.1.1, by rw [hq a 1 m6]; exact hab.1.2⟩, ⟨by rw [hq b 0 m7]; exact hab.2.1, by rw [hq b 1 m7]; exact hab.2.2⟩⟩
      clear m6 m7
      iterate 2 (refine am_go rfl (by first | exact True.intro | omega | exact ⟨by decide, Nat.le_of_ble_eq_true rfl, Nat.le_of_ble_eq_true rfl⟩ | exact ⟨by decide, Nat.le_of_ble_eq_true rfl⟩) ?_)
      refine am_call rfl (ct_assume (-1) [] hp (hB.I k2 k12 k18 hI) ?_ h320 hA2 hRS0) (by decide) (Nat.le_of_ble_eq_true rfl) (Nat.le_of_ble_eq_true rfl) (Nat.le_of_ble_eq_true rfl) (fun rv s q => ?_)
      · unfold zRchd at hRc ⊢
        rw [k2]
        exact hRc
      · obtain ⟨rfl, F3, G3, a3, b3, c3, rfl, p1, p2, p3, p4⟩ := q
        iterate 2 (refine am_go rfl (by first | exact True.intro | omega | exact ⟨by decide, Nat.le_of_ble_eq_true rfl, Nat.le_of_ble_eq_true rfl⟩ | exact ⟨by decide, Nat.le_of_ble_eq_true rfl⟩) ?_)
        refine loop F2 G2 hf2 f4 hB (fun x j hx => hG2 x j (by omega) (by omega)) (by omega) hLr2 hRc h320 s2 ?_ _ 0 F3 G3 a3 b3 c3 (by have := s2.1; omega) (Nat.le_refl _) p1 p2 p3 (by rw [k2] at p4; unfold zVs; simp only [List.range_zero, List.map_nil, List.foldl]; unfold zOne; rw [k2]; exact p4)
        rcases s3 with u | ⟨x, u1, u2, u3, u4⟩
        · exact Or.inl ⟨u.1, fun x x1 x2 => by rw [← hB1 3 x (by decide)]; exact u.2 x x1 (by omega)⟩
        · refine Or.inr ⟨x, u1, by omega, by rw [← hB1 3 x (by decide)]; exact u3, fun v hv => u4 v ?_⟩
          rw [k12']
          exact (zCov_fr hB2 g32 x (f 12 0) 0 v).mp hv
    · have c2 : f 2 0 = 0 := by omega
      exact am_vret (x := 0) rfl rfl rfl ⟨rfl, D, g, a, b, c, rfl, hp, ⟨hd, fun _ _ _ => rfl⟩, hA, hd22, Or.inl ⟨c2, hab⟩⟩
  · omega
theorem ct_find1 (h4 : f 22 4 = 1) : am_Ct l dC dI tc mm4_find 4 58 [(.inr (.inr (some 22)))] (58, f, g, pr_r a b c) (fun r s => r = none ∧ s = (58, f, g, pr_r a b c)) := by
  refine am_enter ok_4_find rfl (by decide) (Nat.le_of_ble_eq_true rfl) rfl ?_
  iterate 2 (refine am_go rfl (by first | exact True.intro | omega | exact ⟨by decide, Nat.le_of_ble_eq_true rfl, Nat.le_of_ble_eq_true rfl⟩ | exact ⟨by decide, Nat.le_of_ble_eq_true rfl⟩) ?_)
  refine am_if rfl (fun c1 => ?_) (fun c1 => ?_)
  · omega
  · exact am_vret (x := 0) rfl rfl rfl ⟨rfl, rfl⟩
end Fnd
end
section
theorem am_cmp_lt {x y : Int} : am_cmp x y < 0 ↔ x < y := by
  unfold am_cmp
  split
  · omega
  · split <;> omega
theorem am_cmp_le {x y : Int} : am_cmp x y ≤ 0 ↔ x ≤ y := by
  unfold am_cmp
  split
  · omega
  · split <;> omega
section Pub
variable {l : Launch} {dC : Nat → ClassId} {dI : Nat → Nat → Nat} {tc : Nat → ClassId} {f : Nat → Nat → Int} {g : Nat → Int → Int} {a b c : Nat}
set_option maxRecDepth 100000 in
set_option maxHeartbeats 4000000 in
theorem ct_wrong   : am_Ct l dC dI tc mm0_wrong 0 58 [(.inr (.inr (some 0)))] (58, f, g, pr_r a b c) (fun r s => r = some (.inl (f 0 2)) ∧ s = (58, f, g, pr_r a b c)) := by
  refine am_enter ok_0_wrong rfl (by decide) (Nat.le_of_ble_eq_true rfl) rfl ?_
  repeat' first
    | (refine am_id ?_; simp (config := { decide := true }) only [am_u1_s, am_u1_j, am_u1_c, am_u3_s, am_u3_c])
    | (refine am_go rfl (by first | exact True.intro | omega | exact ⟨by decide, Nat.le_of_ble_eq_true rfl, Nat.le_of_ble_eq_true rfl⟩ | exact ⟨by decide, Nat.le_of_ble_eq_true rfl⟩) ?_)
    | (refine am_if rfl (fun c1 => ?_) (fun c1 => ?_))
    | (refine am_iret rfl rfl rfl ?_)
    | (refine am_zret rfl rfl (by first | exact Or.inl rfl | exact Or.inr rfl) rfl ?_)
    | (refine am_lret rfl rfl rfl ?_)
    | (refine am_vret (x := 0) rfl rfl rfl ?_)
  all_goals (first | exact ⟨rfl, rfl⟩ | (rw [if_pos (by omega), if_pos (by omega)]; exact ⟨rfl, rfl⟩) | (rw [if_neg (by omega), if_neg (by omega)]; exact ⟨rfl, rfl⟩) | (rw [if_pos (by omega)]; exact ⟨rfl, rfl⟩) | (rw [if_neg (by omega)]; exact ⟨rfl, rfl⟩))
set_option maxRecDepth 100000 in
set_option maxHeartbeats 4000000 in
theorem ct_at (x : Int)  : am_Ct l dC dI tc mm0_at 0 58 [(.inr (.inr (some 0))), .inl x] (58, f, g, pr_r a b c) (fun r s => r = some (.inl (if (0 ≤ x ∧ x < f 0 9) ∧ x < 42 then g 37 x else -1)) ∧ s = (58, f, g, pr_r a b c)) := by
  refine am_enter ok_0_at rfl (by decide) (Nat.le_of_ble_eq_true rfl) rfl ?_
  repeat' first
    | (refine am_go rfl (by first | exact True.intro | omega | exact ⟨by decide, Nat.le_of_ble_eq_true rfl, Nat.le_of_ble_eq_true rfl⟩ | exact ⟨by decide, Nat.le_of_ble_eq_true rfl⟩) ?_)
    | (refine am_if rfl (fun c1 => ?_) (fun c1 => ?_))
    | (refine am_iret rfl rfl rfl ?_)
    | (refine am_zret rfl rfl (by first | exact Or.inl rfl | exact Or.inr rfl) rfl ?_)
    | (refine am_lret rfl rfl rfl ?_)
    | (refine am_vret (x := 0) rfl rfl rfl ?_)
  all_goals (first | exact ⟨rfl, rfl⟩ | (rw [if_pos (by omega), if_pos (by omega)]; exact ⟨rfl, rfl⟩) | (rw [if_neg (by omega), if_neg (by omega)]; exact ⟨rfl, rfl⟩) | (rw [if_pos (by omega)]; exact ⟨rfl, rfl⟩) | (rw [if_neg (by omega)]; exact ⟨rfl, rfl⟩))
set_option maxRecDepth 100000 in
set_option maxHeartbeats 4000000 in
theorem ct_put (x : Int) (hx : 0 ≤ x ∧ x < 65536) (h9 : 0 ≤ f 0 9 ∧ f 0 9 < 42) : am_Ct l dC dI tc mm0_put 0 58 [(.inr (.inr (some 0))), .inl x] (58, f, g, pr_r a b c) (fun r s => r = none ∧ s = (58, am_u1 f 0 9 (f 0 9 + 1), am_u3 g 37 (f 0 9) x, pr_r a b c)) := by
  refine am_enter ok_0_put rfl (by decide) (Nat.le_of_ble_eq_true rfl) rfl ?_
  repeat' first
    | (refine am_id ?_; simp (config := { decide := true }) only [am_u1_s, am_u1_j, am_u1_c, am_u3_s, am_u3_c])
    | (refine am_go rfl (by first | exact True.intro | omega | exact ⟨by decide, Nat.le_of_ble_eq_true rfl, Nat.le_of_ble_eq_true rfl⟩ | exact ⟨by decide, Nat.le_of_ble_eq_true rfl⟩) ?_)
    | (refine am_if rfl (fun c1 => ?_) (fun c1 => ?_))
    | (refine am_iret rfl rfl rfl ?_)
    | (refine am_zret rfl rfl (by first | exact Or.inl rfl | exact Or.inr rfl) rfl ?_)
    | (refine am_lret rfl rfl rfl ?_)
    | (refine am_vret (x := 0) rfl rfl rfl ?_)
  all_goals (first | exact ⟨rfl, rfl⟩ | omega)
set_option maxRecDepth 100000 in
set_option maxHeartbeats 4000000 in
theorem ct_isNoRank (x : Int)  : am_Ct l dC dI tc mm0_isNoRank 0 58 [.inl x] (58, f, g, pr_r a b c) (fun r s => r = some (.inl (if x < 0 ∨ 2 ≤ x then 1 else 0)) ∧ s = (58, f, g, pr_r a b c)) := by
  refine am_enter ok_0_isNoRank rfl (by decide) (Nat.le_of_ble_eq_true rfl) rfl ?_
  repeat' first
    | (refine am_go rfl (by first | exact True.intro | omega | exact ⟨by decide, Nat.le_of_ble_eq_true rfl, Nat.le_of_ble_eq_true rfl⟩ | exact ⟨by decide, Nat.le_of_ble_eq_true rfl⟩) ?_)
    | (refine am_if rfl (fun c1 => ?_) (fun c1 => ?_))
    | (refine am_iret rfl rfl rfl ?_)
    | (refine am_zret rfl rfl (by first | exact Or.inl rfl | exact Or.inr rfl) rfl ?_)
    | (refine am_lret rfl rfl rfl ?_)
    | (refine am_vret (x := 0) rfl rfl rfl ?_)
  all_goals (first | exact ⟨rfl, rfl⟩ | (rw [if_pos (by omega), if_pos (by omega)]; exact ⟨rfl, rfl⟩) | (rw [if_neg (by omega), if_neg (by omega)]; exact ⟨rfl, rfl⟩) | (rw [if_pos (by omega)]; exact ⟨rfl, rfl⟩) | (rw [if_neg (by omega)]; exact ⟨rfl, rfl⟩))
set_option maxRecDepth 100000 in
set_option maxHeartbeats 4000000 in
theorem ct_clear   : am_Ct l dC dI tc mm0_clear 1 58 [(.inr (.inr (some 0)))] (58, f, g, pr_r a b c) (fun r s => r = some (.inl (f 12 0)) ∧ s = (58, am_u1 (am_u1 f 12 0 0) 22 4 0, am_fz (am_fz g 13 6) 14 30, pr_r a b c)) := by
  refine am_enter ok_0_clear rfl (by decide) (Nat.le_of_ble_eq_true rfl) rfl ?_
  repeat' first
    | (refine am_calln rfl (ct_removeAll) (by decide) (Nat.le_of_ble_eq_true rfl) (Nat.le_of_ble_eq_true rfl) ?_)
    | (refine am_calln rfl (ct_forget) (by decide) (Nat.le_of_ble_eq_true rfl) (Nat.le_of_ble_eq_true rfl) ?_)
    | (refine am_id ?_; simp (config := { decide := true }) only [am_u1_s, am_u1_j, am_u1_c, am_u3_s, am_u3_c])
    | (refine am_go rfl (by first | exact True.intro | omega | exact ⟨by decide, Nat.le_of_ble_eq_true rfl, Nat.le_of_ble_eq_true rfl⟩ | exact ⟨by decide, Nat.le_of_ble_eq_true rfl⟩) ?_)
    | (refine am_if rfl (fun c1 => ?_) (fun c1 => ?_))
    | (refine am_iret rfl rfl rfl ?_)
    | (refine am_zret rfl rfl (by first | exact Or.inl rfl | exact Or.inr rfl) rfl ?_)
    | (refine am_lret rfl rfl rfl ?_)
    | (refine am_vret (x := 0) rfl rfl rfl ?_)
  all_goals (first | exact ⟨rfl, rfl⟩ | omega)
set_option maxRecDepth 100000 in
set_option maxHeartbeats 4000000 in
theorem ct_sign (x : Int) (hl : 0 ≤ f 0 1 ∧ f 0 1 ≤ 60) : am_Ct l dC dI tc mm0_sign 0 58 [(.inr (.inr (some 0))), .inl x] (58, f, g, pr_r a b c) (fun r s => r = some (.inl (if x < 32 ∨ 126 < x ∨ f 0 1 = 60 then 0 else 1)) ∧ s = (if x < 32 ∨ 126 < x ∨ f 0 1 = 60 then (58, f, g, pr_r a b c) else (58, am_u1 f 0 1 (f 0 1 + 1), am_u3 g 1 (f 0 1) x, pr_r a b c))) := by
  refine am_enter ok_0_sign rfl (by decide) (Nat.le_of_ble_eq_true rfl) rfl ?_
  repeat' first
    | (refine am_id ?_; simp (config := { decide := true }) only [am_u1_s, am_u1_j, am_u1_c, am_u3_s, am_u3_c])
    | (refine am_go rfl (by first | exact True.intro | omega | exact ⟨by decide, Nat.le_of_ble_eq_true rfl, Nat.le_of_ble_eq_true rfl⟩ | exact ⟨by decide, Nat.le_of_ble_eq_true rfl⟩) ?_)
    | (refine am_if rfl (fun c1 => ?_) (fun c1 => ?_))
    | (refine am_iret rfl rfl rfl ?_)
    | (refine am_zret rfl rfl (by first | exact Or.inl rfl | exact Or.inr rfl) rfl ?_)
    | (refine am_lret rfl rfl rfl ?_)
    | (refine am_vret (x := 0) rfl rfl rfl ?_)
  all_goals (first | exact ⟨rfl, rfl⟩ | (rw [if_pos (by omega), if_pos (by omega)]; exact ⟨rfl, rfl⟩) | (rw [if_neg (by omega), if_neg (by omega)]; exact ⟨rfl, rfl⟩) | (rw [if_pos (by omega)]; exact ⟨rfl, rfl⟩) | (rw [if_neg (by omega)]; exact ⟨rfl, rfl⟩))
set_option maxRecDepth 100000 in
set_option maxHeartbeats 4000000 in
theorem ct_ladd (x y k v w : Int) (hx : 0 ≤ x ∧ x < 6) (hy : 0 ≤ y ∧ y < 5) (hn : 0 ≤ g 14 (x * 5 + y) ∧ g 14 (x * 5 + y) ≤ 4) : am_Ct l dC dI tc mm2_add 1 58 [(.inr (.inr (some 12))), .inl x, .inl y, .inl k, .inl v, .inl w] (58, f, g, pr_r a b c) (fun r s => r = some (.inl (if g 14 (x * 5 + y) = 4 then -14 else g 14 (x * 5 + y))) ∧ s = (if g 14 (x * 5 + y) = 4 then (58, f, g, pr_r a b c) else (58, am_u1 f 12 0 (if f 12 0 < x + 1 then x + 1 else f 12 0), am_u3 (am_u3 (am_u3 (am_u3 (am_u3 g 15 ((x * 5 + y) * 4 + g 14 (x * 5 + y)) k) 16 ((x * 5 + y) * 4 + g 14 (x * 5 + y)) v) 17 ((x * 5 + y) * 4 + g 14 (x * 5 + y)) w) 13 x (if g 13 x < y + 1 then y + 1 else g 13 x)) 14 (x * 5 + y) (g 14 (x * 5 + y) + 1), pr_r a b c))) := by
  have e1 : zNa g x y = g 14 (x * 5 + y) := if_pos ⟨hx, hy⟩
  refine am_enter ok_2_add rfl (by decide) (Nat.le_of_ble_eq_true rfl) rfl ?_
  iterate 3 (refine am_go rfl (by first | exact True.intro | omega | exact ⟨by decide, Nat.le_of_ble_eq_true rfl, Nat.le_of_ble_eq_true rfl⟩ | exact ⟨by decide, Nat.le_of_ble_eq_true rfl⟩) ?_)
  (refine am_callv rfl (ct_alternativesAt _ _) (by decide) (Nat.le_of_ble_eq_true rfl) (Nat.le_of_ble_eq_true rfl) ?_)
  rw [e1]
  iterate 4 (refine am_go rfl (by first | exact True.intro | omega | exact ⟨by decide, Nat.le_of_ble_eq_true rfl, Nat.le_of_ble_eq_true rfl⟩ | exact ⟨by decide, Nat.le_of_ble_eq_true rfl⟩) ?_)
  (refine am_callv rfl (ct_slotOf _ _ _) (by decide) (Nat.le_of_ble_eq_true rfl) (Nat.le_of_ble_eq_true rfl) ?_)
  by_cases h4 : g 14 (x * 5 + y) = 4
  · have e2 : zSl x y (g 14 (x * 5 + y)) = -1 := if_neg (by omega)
    rw [e2, if_pos h4, if_pos h4]
    repeat' first
      | (refine am_id ?_; simp (config := { decide := true }) only [am_u1_s, am_u1_j, am_u1_c, am_u3_s, am_u3_c])
      | (refine am_go rfl (by first | exact True.intro | omega | exact ⟨by decide, Nat.le_of_ble_eq_true rfl, Nat.le_of_ble_eq_true rfl⟩ | exact ⟨by decide, Nat.le_of_ble_eq_true rfl⟩) ?_)
      | (refine am_if rfl (fun c1 => ?_) (fun c1 => ?_))
      | (refine am_iret rfl rfl rfl ?_)
      | (refine am_zret rfl rfl (by first | exact Or.inl rfl | exact Or.inr rfl) rfl ?_)
      | (refine am_lret rfl rfl rfl ?_)
      | (refine am_vret (x := 0) rfl rfl rfl ?_)
    all_goals (first | exact ⟨rfl, rfl⟩ | omega)
  · have e2 : zSl x y (g 14 (x * 5 + y)) = (x * 5 + y) * 4 + g 14 (x * 5 + y) := if_pos (by omega)
    rw [e2, if_neg h4, if_neg h4]
    repeat' first
      | (refine am_id ?_; simp (config := { decide := true }) only [am_u1_s, am_u1_j, am_u1_c, am_u3_s, am_u3_c])
      | (refine am_go rfl (by first | exact True.intro | omega | exact ⟨by decide, Nat.le_of_ble_eq_true rfl, Nat.le_of_ble_eq_true rfl⟩ | exact ⟨by decide, Nat.le_of_ble_eq_true rfl⟩) ?_)
      | (refine am_if rfl (fun c1 => ?_) (fun c1 => ?_))
      | (refine am_iret rfl rfl rfl ?_)
      | (refine am_zret rfl rfl (by first | exact Or.inl rfl | exact Or.inr rfl) rfl ?_)
      | (refine am_lret rfl rfl rfl ?_)
      | (refine am_vret (x := 0) rfl rfl rfl ?_)
    all_goals (first | exact ⟨rfl, rfl⟩ | omega)
end Pub
end
section
/-! what the search has found, if it has looked -/
def zRes (f : Nat → Nat → Int) (g : Nat → Int → Int) (a b : Nat) : Prop := (f 2 0 = 0 ∧ zNil f a ∧ zNil f b) ∨ (0 < f 2 0 ∧ zLr f g ∧ zRchd f g ∧ ∃ n : Nat, (zVs g n).Nodup ∧ (∀ v ∈ zVs g n, 0 ≤ v) ∧ ((n = 0 ∧ ∀ x, 0 ≤ x → x < f 2 0 → g 3 x ≠ 7) ∨ ∃ x, 0 ≤ x ∧ x < f 2 0 ∧ g 3 x = 7 ∧ ∀ v, zCov g x (f 12 0) 0 v → v ∈ zVs g n) ∧ zRS g (f 2 0).toNat f g a b ((-1 :: zVs g n).foldl (zOne f g) []))
def zSS (f : Nat → Nat → Int) (g : Nat → Int → Int) (a b c : Nat) : Prop := zPm a b c ∧ zI f g ∧ zAok g ∧ (f 22 4 = 0 ∨ (f 22 4 = 1 ∧ zRes f g a b))
/-- after a look -/
def zAft (f : Nat → Nat → Int) (g : Nat → Int → Int) (s : am_H) (F : Nat → Nat → Int) (G : Nat → Int → Int) (a b c : Nat) : Prop := s = (58, F, G, pr_r a b c) ∧ zSS F G a b c ∧ F 22 4 = 1 ∧ zRes F G a b ∧ zFrF F f G g
section Look
variable {l : Launch} {dC : Nat → ClassId} {dI : Nat → Nat → Nat} {tc : Nat → ClassId} {f : Nat → Nat → Int} {g : Nat → Int → Int} {a b c : Nat}
set_option maxRecDepth 100000 in
set_option maxHeartbeats 4000000 in
theorem ct_find (h : zSS f g a b c) : am_Ct l dC dI tc mm4_find 4 58 [(.inr (.inr (some 22)))] (58, f, g, pr_r a b c) (fun r s => r = none ∧ ∃ F G a' b' c', zAft f g s F G a' b' c') := by
  obtain ⟨h1, h2, h3, h4 | ⟨h4, h5⟩⟩ := h
  · refine am_Ct_mono (fun r s q => ?_) (ct_find0 h1 h2 h3 h4)
    obtain ⟨q0, F, G, a', b', c', q1, q2, q3, q4, q5, q6⟩ := q
    have hB : zFrB G g := fun x j hx => q3.2 x j (Or.inl hx)
    have k2 := q3.1 2 0 (by decide)
    have k12 := q3.1 12 0 (by decide)
    have k18 := q3.1 18 0 (by decide)
    have hR : zRes F G a' b' := by
      rcases q6 with ⟨u1, u2⟩ | ⟨u1, u2, u3, n, u4, u5, u6, u7⟩
      · exact Or.inl ⟨by rw [k2]; exact u1, u2⟩
      · refine Or.inr ⟨by rw [k2]; exact u1, u2, ?_, n, u4, u5, ?_, ?_⟩
        · unfold zRchd at u3 ⊢
          rw [k2]
          exact u3
        · rw [k2, k12]
          simp only [hB 3 _ (by decide)]
          exact u6
        · have e9 : ∀ (L : List Int) (T : List (Int × List Int)), L.foldl (zOne F G) T = L.foldl (zOne f g) T := by
            intro L
            induction L with
            | nil => intro T; rfl
            | cons u L ih => intro T; simp only [List.foldl, hB.One k2 k12 k18, ih]
          rw [e9, hB.RS, k2]
          exact u7
    exact ⟨q0, F, G, a', b', c', q1, ⟨q2, hB.I k2 k12 k18 h2, q4, Or.inr ⟨q5, hR⟩⟩, q5, hR, q3⟩
  · refine am_Ct_mono (fun r s q => ?_) (ct_find1 h4)
    exact ⟨q.1, f, g, a, b, c, q.2, ⟨h1, h2, h3, Or.inr ⟨h4, h5⟩⟩, h4, h5, fun _ _ _ => rfl, fun _ _ _ => rfl⟩
set_option maxRecDepth 100000 in
set_option maxHeartbeats 4000000 in
theorem ct_readingOf (x : Int) (h : zSS f g a b c) : am_Ct l dC dI tc mm0_readingOf 5 58 [(.inr (.inr (some 0))), .inl x] (58, f, g, pr_r a b c) (fun r s => ∃ F G a' b' c', r = some (.inr (.inr (some (if x = 0 then a' else b')))) ∧ zAft f g s F G a' b' c') := by
  refine am_enter ok_0_readingOf rfl (by decide) (Nat.le_of_ble_eq_true rfl) rfl ?_
  iterate 2 (refine am_go rfl (by first | exact True.intro | omega | exact ⟨by decide, Nat.le_of_ble_eq_true rfl, Nat.le_of_ble_eq_true rfl⟩ | exact ⟨by decide, Nat.le_of_ble_eq_true rfl⟩) ?_)
  refine am_call rfl (ct_find h) (by decide) (Nat.le_of_ble_eq_true rfl) (Nat.le_of_ble_eq_true rfl) (Nat.le_of_ble_eq_true rfl) (fun rv s q => ?_)
  obtain ⟨rfl, F, G, a', b', c', q1, q2, q3, q4, q5⟩ := q
  subst q1
  (refine am_go rfl (by first | exact True.intro | omega | exact ⟨by decide, Nat.le_of_ble_eq_true rfl, Nat.le_of_ble_eq_true rfl⟩ | exact ⟨by decide, Nat.le_of_ble_eq_true rfl⟩) ?_)
  refine am_if rfl (fun c1 => ?_) (fun c1 => ?_)
  · iterate 3 (refine am_go rfl (by first | exact True.intro | omega | exact ⟨by decide, Nat.le_of_ble_eq_true rfl, Nat.le_of_ble_eq_true rfl⟩ | exact ⟨by decide, Nat.le_of_ble_eq_true rfl⟩) ?_)
    refine am_aret rfl rfl rfl ⟨F, G, a', b', c', ?_, rfl, q2, q3, q4, q5⟩
    rw [if_neg c1]
  · iterate 4 (refine am_go rfl (by first | exact True.intro | omega | exact ⟨by decide, Nat.le_of_ble_eq_true rfl, Nat.le_of_ble_eq_true rfl⟩ | exact ⟨by decide, Nat.le_of_ble_eq_true rfl⟩) ?_)
    refine am_aret rfl rfl rfl ⟨F, G, a', b', c', ?_, rfl, q2, q3, q4, q5⟩
    rw [if_pos (by omega)]
set_option maxRecDepth 100000 in
set_option maxHeartbeats 4000000 in
theorem ct_furthest (h : zSS f g a b c) : am_Ct l dC dI tc mm0_furthest 5 58 [(.inr (.inr (some 0)))] (58, f, g, pr_r a b c) (fun r s => (f 2 0 = 0 ∧ r = some (.inl (-1)) ∧ s = (58, f, g, pr_r a b c)) ∨ (f 2 0 ≠ 0 ∧ ∃ F G a' b' c', r = some (.inl (F 22 2)) ∧ zAft f g s F G a' b' c')) := by
  refine am_enter ok_0_furthest rfl (by decide) (Nat.le_of_ble_eq_true rfl) rfl ?_
  iterate 3 (refine am_go rfl (by first | exact True.intro | omega | exact ⟨by decide, Nat.le_of_ble_eq_true rfl, Nat.le_of_ble_eq_true rfl⟩ | exact ⟨by decide, Nat.le_of_ble_eq_true rfl⟩) ?_)
  refine am_if rfl (fun c1 => ?_) (fun c1 => ?_)
  · iterate 2 (refine am_go rfl (by first | exact True.intro | omega | exact ⟨by decide, Nat.le_of_ble_eq_true rfl, Nat.le_of_ble_eq_true rfl⟩ | exact ⟨by decide, Nat.le_of_ble_eq_true rfl⟩) ?_)
    refine am_call rfl (ct_find h) (by decide) (Nat.le_of_ble_eq_true rfl) (Nat.le_of_ble_eq_true rfl) (Nat.le_of_ble_eq_true rfl) (fun rv s q => ?_)
    obtain ⟨rfl, F, G, a', b', c', q1, q2, q3, q4, q5⟩ := q
    subst q1
    iterate 3 (refine am_go rfl (by first | exact True.intro | omega | exact ⟨by decide, Nat.le_of_ble_eq_true rfl, Nat.le_of_ble_eq_true rfl⟩ | exact ⟨by decide, Nat.le_of_ble_eq_true rfl⟩) ?_)
    exact am_iret rfl rfl rfl (Or.inr ⟨c1, F, G, a', b', c', rfl, rfl, q2, q3, q4, q5⟩)
  · (refine am_go rfl (by first | exact True.intro | omega | exact ⟨by decide, Nat.le_of_ble_eq_true rfl, Nat.le_of_ble_eq_true rfl⟩ | exact ⟨by decide, Nat.le_of_ble_eq_true rfl⟩) ?_)
    exact am_iret rfl rfl rfl (Or.inl ⟨by omega, rfl, rfl⟩)
set_option maxRecDepth 100000 in
set_option maxHeartbeats 4000000 in
theorem ct_derive (x : Int) (h : zSS f g a b c) : am_Ct l dC dI tc mm0_derive 6 58 [(.inr (.inr (some 0))), .inl x] (58, f, g, pr_r a b c) (fun r s => ((x < 0 ∨ 2 ≤ x) ∧ r = some (.inl (-12)) ∧ s = (58, f, g, pr_r a b c)) ∨ (¬ (x < 0 ∨ 2 ≤ x) ∧ ∃ F G a' b' c', r = some (.inl (F (if x = 0 then a' else b') 0)) ∧ zAft f g s F G a' b' c')) := by
  refine am_enter ok_0_derive rfl (by decide) (Nat.le_of_ble_eq_true rfl) rfl ?_
  (refine am_go rfl (by first | exact True.intro | omega | exact ⟨by decide, Nat.le_of_ble_eq_true rfl, Nat.le_of_ble_eq_true rfl⟩ | exact ⟨by decide, Nat.le_of_ble_eq_true rfl⟩) ?_)
  (refine am_callv rfl (ct_isNoRank _) (by decide) (Nat.le_of_ble_eq_true rfl) (Nat.le_of_ble_eq_true rfl) ?_)
  by_cases hx : x < 0 ∨ 2 ≤ x
  · rw [if_pos hx]
    refine am_if rfl (fun c1 => ?_) (fun c1 => ?_)
    · omega
    · (refine am_go rfl (by first | exact True.intro | omega | exact ⟨by decide, Nat.le_of_ble_eq_true rfl, Nat.le_of_ble_eq_true rfl⟩ | exact ⟨by decide, Nat.le_of_ble_eq_true rfl⟩) ?_)
      exact am_iret rfl rfl rfl (Or.inl ⟨hx, rfl, rfl⟩)
  · rw [if_neg hx]
    refine am_if rfl (fun c1 => ?_) (fun c1 => ?_)
    · iterate 2 (refine am_go rfl (by first | exact True.intro | omega | exact ⟨by decide, Nat.le_of_ble_eq_true rfl, Nat.le_of_ble_eq_true rfl⟩ | exact ⟨by decide, Nat.le_of_ble_eq_true rfl⟩) ?_)
      refine am_call rfl (ct_readingOf x h) (by decide) (Nat.le_of_ble_eq_true rfl) (Nat.le_of_ble_eq_true rfl) (Nat.le_of_ble_eq_true rfl) (fun rv s q => ?_)
      obtain ⟨F, G, a', b', c', rfl, q1, q2, q3, q4, q5⟩ := q
      subst q1
      have fin : ∀ q, (q = 23 ∨ q = 26 ∨ q = 29) → q = (if x = 0 then a' else b') → am_wp l dC dI tc mm0_derive 6 58 58 (fun r s => ((x < 0 ∨ 2 ≤ x) ∧ r = some (.inl (-12)) ∧ s = (58, f, g, pr_r a b c)) ∨ (¬ (x < 0 ∨ 2 ≤ x) ∧ ∃ F G a' b' c', r = some (.inl (F (if x = 0 then a' else b') 0)) ∧ zAft f g s F G a' b' c')) 8 [some (.inr (.inr (some 0))), some (.inl x)] [.inr (.inr (some q))] (58, F, G, pr_r a' b' c') := by
        intro q hq e
        rcases hq with rfl | rfl | rfl
        · iterate 1 (refine am_go rfl (by first | exact True.intro | omega | exact ⟨by decide, Nat.le_of_ble_eq_true rfl, Nat.le_of_ble_eq_true rfl⟩ | exact ⟨by decide, Nat.le_of_ble_eq_true rfl⟩) ?_)
          exact am_iret rfl rfl rfl (Or.inr ⟨hx, F, G, a', b', c', by rw [← e], rfl, q2, q3, q4, q5⟩)
        · iterate 1 (refine am_go rfl (by first | exact True.intro | omega | exact ⟨by decide, Nat.le_of_ble_eq_true rfl, Nat.le_of_ble_eq_true rfl⟩ | exact ⟨by decide, Nat.le_of_ble_eq_true rfl⟩) ?_)
          exact am_iret rfl rfl rfl (Or.inr ⟨hx, F, G, a', b', c', by rw [← e], rfl, q2, q3, q4, q5⟩)
        · iterate 1 (refine am_go rfl (by first | exact True.intro | omega | exact ⟨by decide, Nat.le_of_ble_eq_true rfl, Nat.le_of_ble_eq_true rfl⟩ | exact ⟨by decide, Nat.le_of_ble_eq_true rfl⟩) ?_)
          exact am_iret rfl rfl rfl (Or.inr ⟨hx, F, G, a', b', c', by rw [← e], rfl, q2, q3, q4, q5⟩)
      refine fin _ ?_ rfl
      have hp := q2.1
      split
      · rcases hp with ⟨rfl, rfl, rfl⟩ | ⟨rfl, rfl, rfl⟩ | ⟨rfl, rfl, rfl⟩ | ⟨rfl, rfl, rfl⟩ | ⟨rfl, rfl, rfl⟩ | ⟨rfl, rfl, rfl⟩ <;> decide
      · rcases hp with ⟨rfl, rfl, rfl⟩ | ⟨rfl, rfl, rfl⟩ | ⟨rfl, rfl, rfl⟩ | ⟨rfl, rfl, rfl⟩ | ⟨rfl, rfl, rfl⟩ | ⟨rfl, rfl, rfl⟩ <;> decide
    · omega
set_option maxRecDepth 100000 in
set_option maxHeartbeats 4000000 in
theorem ct_sum (x : Int) (h : zSS f g a b c) : am_Ct l dC dI tc mm0_sum 6 58 [(.inr (.inr (some 0))), .inl x] (58, f, g, pr_r a b c) (fun r s => ((x < 0 ∨ 2 ≤ x) ∧ r = some (.inr (.inl (-12))) ∧ s = (58, f, g, pr_r a b c)) ∨ (¬ (x < 0 ∨ 2 ≤ x) ∧ ∃ F G a' b' c', r = some (.inr (.inl (F (if x = 0 then a' else b') 1))) ∧ zAft f g s F G a' b' c')) := by
  refine am_enter ok_0_sum rfl (by decide) (Nat.le_of_ble_eq_true rfl) rfl ?_
  (refine am_go rfl (by first | exact True.intro | omega | exact ⟨by decide, Nat.le_of_ble_eq_true rfl, Nat.le_of_ble_eq_true rfl⟩ | exact ⟨by decide, Nat.le_of_ble_eq_true rfl⟩) ?_)
  (refine am_callv rfl (ct_isNoRank _) (by decide) (Nat.le_of_ble_eq_true rfl) (Nat.le_of_ble_eq_true rfl) ?_)
  by_cases hx : x < 0 ∨ 2 ≤ x
  · rw [if_pos hx]
    refine am_if rfl (fun c1 => ?_) (fun c1 => ?_)
    · omega
    · (refine am_go rfl (by first | exact True.intro | omega | exact ⟨by decide, Nat.le_of_ble_eq_true rfl, Nat.le_of_ble_eq_true rfl⟩ | exact ⟨by decide, Nat.le_of_ble_eq_true rfl⟩) ?_)
      exact am_lret rfl rfl rfl (Or.inl ⟨hx, rfl, rfl⟩)
  · rw [if_neg hx]
    refine am_if rfl (fun c1 => ?_) (fun c1 => ?_)
    · iterate 2 (refine am_go rfl (by first | exact True.intro | omega | exact ⟨by decide, Nat.le_of_ble_eq_true rfl, Nat.le_of_ble_eq_true rfl⟩ | exact ⟨by decide, Nat.le_of_ble_eq_true rfl⟩) ?_)
      refine am_call rfl (ct_readingOf x h) (by decide) (Nat.le_of_ble_eq_true rfl) (Nat.le_of_ble_eq_true rfl) (Nat.le_of_ble_eq_true rfl) (fun rv s q => ?_)
      obtain ⟨F, G, a', b', c', rfl, q1, q2, q3, q4, q5⟩ := q
      subst q1
      have fin : ∀ q, (q = 23 ∨ q = 26 ∨ q = 29) → q = (if x = 0 then a' else b') → am_wp l dC dI tc mm0_sum 6 58 58 (fun r s => ((x < 0 ∨ 2 ≤ x) ∧ r = some (.inr (.inl (-12))) ∧ s = (58, f, g, pr_r a b c)) ∨ (¬ (x < 0 ∨ 2 ≤ x) ∧ ∃ F G a' b' c', r = some (.inr (.inl (F (if x = 0 then a' else b') 1))) ∧ zAft f g s F G a' b' c')) 8 [some (.inr (.inr (some 0))), some (.inl x)] [.inr (.inr (some q))] (58, F, G, pr_r a' b' c') := by
        intro q hq e
        rcases hq with rfl | rfl | rfl
        · iterate 2 (refine am_go rfl (by first | exact True.intro | omega | exact ⟨by decide, Nat.le_of_ble_eq_true rfl, Nat.le_of_ble_eq_true rfl⟩ | exact ⟨by decide, Nat.le_of_ble_eq_true rfl⟩) ?_)
          exact am_lret rfl rfl rfl (Or.inr ⟨hx, F, G, a', b', c', by rw [← e], rfl, q2, q3, q4, q5⟩)
        · iterate 2 (refine am_go rfl (by first | exact True.intro | omega | exact ⟨by decide, Nat.le_of_ble_eq_true rfl, Nat.le_of_ble_eq_true rfl⟩ | exact ⟨by decide, Nat.le_of_ble_eq_true rfl⟩) ?_)
          exact am_lret rfl rfl rfl (Or.inr ⟨hx, F, G, a', b', c', by rw [← e], rfl, q2, q3, q4, q5⟩)
        · iterate 2 (refine am_go rfl (by first | exact True.intro | omega | exact ⟨by decide, Nat.le_of_ble_eq_true rfl, Nat.le_of_ble_eq_true rfl⟩ | exact ⟨by decide, Nat.le_of_ble_eq_true rfl⟩) ?_)
          exact am_lret rfl rfl rfl (Or.inr ⟨hx, F, G, a', b', c', by rw [← e], rfl, q2, q3, q4, q5⟩)
      refine fin _ ?_ rfl
      have hp := q2.1
      split
      · rcases hp with ⟨rfl, rfl, rfl⟩ | ⟨rfl, rfl, rfl⟩ | ⟨rfl, rfl, rfl⟩ | ⟨rfl, rfl, rfl⟩ | ⟨rfl, rfl, rfl⟩ | ⟨rfl, rfl, rfl⟩ <;> decide
      · rcases hp with ⟨rfl, rfl, rfl⟩ | ⟨rfl, rfl, rfl⟩ | ⟨rfl, rfl, rfl⟩ | ⟨rfl, rfl, rfl⟩ | ⟨rfl, rfl, rfl⟩ | ⟨rfl, rfl, rfl⟩ <;> decide
    · omega
end Look
end
section
theorem zRS_le {g0 : Nat → Int → Int} {N : Nat} {f : Nat → Nat → Int} {g : Nat → Int → Int} {a b : Nat} {T : List (Int × List Int)} (h : zRS g0 N f g a b T) : (-1 ≤ f a 0 ∧ f a 0 ≤ N) ∧ (-1 ≤ f b 0 ∧ f b 0 ≤ N) := by
  match T, h with
  | [], h => have h1 := h.1.1; have h2 := h.2.1; omega
  | [d], h => have h1 := zHd_0 h.1; have h2 := h.2.1; omega
  | [d, e], h => have h1 := zHd_0 h.1; have h2 := zHd_0 h.2; omega
theorem zRes_le {f : Nat → Nat → Int} {g : Nat → Int → Int} {a b : Nat} (hI : zI f g) (h : zRes f g a b) : (-1 ≤ f a 0 ∧ f a 0 ≤ 9) ∧ (-1 ≤ f b 0 ∧ f b 0 ≤ 9) := by
  have h1 := hI.1
  rcases h with ⟨_, h2, h3⟩ | ⟨_, _, _, n, _, _, _, h4⟩
  · have h21 := h2.1
    have h31 := h3.1
    omega
  · have h5 := zRS_le h4
    omega
theorem zPm_q {a b c : Nat} (h : zPm a b c) (x : Int) : (if x = 0 then a else b) = 23 ∨ (if x = 0 then a else b) = 26 ∨ (if x = 0 then a else b) = 29 := by
  split
  · rcases h with ⟨rfl, rfl, rfl⟩ | ⟨rfl, rfl, rfl⟩ | ⟨rfl, rfl, rfl⟩ | ⟨rfl, rfl, rfl⟩ | ⟨rfl, rfl, rfl⟩ | ⟨rfl, rfl, rfl⟩ <;> decide
  · rcases h with ⟨rfl, rfl, rfl⟩ | ⟨rfl, rfl, rfl⟩ | ⟨rfl, rfl, rfl⟩ | ⟨rfl, rfl, rfl⟩ | ⟨rfl, rfl, rfl⟩ | ⟨rfl, rfl, rfl⟩ <;> decide
section Pub2
variable {l : Launch} {dC : Nat → ClassId} {dI : Nat → Nat → Nat} {tc : Nat → ClassId} {f : Nat → Nat → Int} {g : Nat → Int → Int} {a b c : Nat}
set_option maxRecDepth 100000 in
set_option maxHeartbeats 4000000 in
theorem ct_word (x k v w : Int) (hI : zI f g) : am_Ct l dC dI tc mm0_word 2 58 [(.inr (.inr (some 0))), .inl x, .inl k, .inl v, .inr (.inl w)] (58, f, g, pr_r a b c) (fun r s => (((x < 0 ∨ 6 ≤ x) ∨ (k < 0 ∨ 9 ≤ k) ∨ (v < 0 ∨ 5000 ≤ v) ∨ w < 0 ∨ 1000 < w) ∧ r = some (.inl (-12)) ∧ s = (58, f, g, pr_r a b c)) ∨ (¬ ((x < 0 ∨ 6 ≤ x) ∨ (k < 0 ∨ 9 ≤ k) ∨ (v < 0 ∨ 5000 ≤ v) ∨ w < 0 ∨ 1000 < w) ∧ (f 12 0 < x ∨ zPl g x < v / 1000) ∧ r = some (.inl (-13)) ∧ s = (58, f, g, pr_r a b c)) ∨ (¬ ((x < 0 ∨ 6 ≤ x) ∨ (k < 0 ∨ 9 ≤ k) ∨ (v < 0 ∨ 5000 ≤ v) ∨ w < 0 ∨ 1000 < w) ∧ ¬ (f 12 0 < x ∨ zPl g x < v / 1000) ∧ r = some (.inl (if g 14 (x * 5 + (v / 1000)) = 4 then -14 else g 14 (x * 5 + (v / 1000)))) ∧ s = (if g 14 (x * 5 + (v / 1000)) = 4 then (58, (am_u1 f 22 4 0), g, pr_r a b c) else (58, am_u1 (am_u1 f 22 4 0) 12 0 (if (am_u1 f 22 4 0) 12 0 < x + 1 then x + 1 else (am_u1 f 22 4 0) 12 0), am_u3 (am_u3 (am_u3 (am_u3 (am_u3 g 15 ((x * 5 + (v / 1000)) * 4 + g 14 (x * 5 + (v / 1000))) k) 16 ((x * 5 + (v / 1000)) * 4 + g 14 (x * 5 + (v / 1000))) (v % 1000)) 17 ((x * 5 + (v / 1000)) * 4 + g 14 (x * 5 + (v / 1000))) w) 13 x (if g 13 x < (v / 1000) + 1 then (v / 1000) + 1 else g 13 x)) 14 (x * 5 + (v / 1000)) (g 14 (x * 5 + (v / 1000)) + 1), pr_r a b c)))) := by
  have q1 := @am_cmp_lt w 0
  have q2 := @am_cmp_le w 1000
  refine am_enter ok_0_word rfl (by decide) (Nat.le_of_ble_eq_true rfl) rfl ?_
  by_cases hb : (f 12 0 < x ∨ zPl g x < v / 1000)
  · have e : (if (f 12 0 < x ∨ zPl g x < v / 1000) then (1 : Int) else 0) = 1 := if_pos hb
    repeat' first
      | (refine am_callv rfl (ct_isBehindNext _ _) (by decide) (Nat.le_of_ble_eq_true rfl) (Nat.le_of_ble_eq_true rfl) ?_; rw [e])
      | (refine am_go rfl (by first | exact True.intro | omega | exact ⟨by decide, Nat.le_of_ble_eq_true rfl, Nat.le_of_ble_eq_true rfl⟩ | exact ⟨by decide, Nat.le_of_ble_eq_true rfl⟩) ?_)
      | (refine am_if rfl (fun c1 => ?_) (fun c1 => ?_))
      | (refine am_iret rfl rfl rfl ?_)
      | (refine am_zret rfl rfl (by first | exact Or.inl rfl | exact Or.inr rfl) rfl ?_)
      | (refine am_lret rfl rfl rfl ?_)
      | (refine am_vret (x := 0) rfl rfl rfl ?_)
    all_goals first | (exact Or.inl ⟨by omega, rfl, rfl⟩) | (exact Or.inr (Or.inl ⟨by omega, hb, rfl, rfl⟩)) | omega
  · have e : (if (f 12 0 < x ∨ zPl g x < v / 1000) then (1 : Int) else 0) = 0 := if_neg hb
    repeat' first
      | (refine am_callv rfl (ct_isBehindNext _ _) (by decide) (Nat.le_of_ble_eq_true rfl) (Nat.le_of_ble_eq_true rfl) ?_; rw [e])
      | (refine am_calln rfl (ct_forget) (by decide) (Nat.le_of_ble_eq_true rfl) (Nat.le_of_ble_eq_true rfl) ?_)
      | (refine am_callv rfl (ct_ladd x (v / 1000) k (v % 1000) w (by omega) (by omega) (hI.2.2.2.2.1 x (v / 1000) (by omega) (by omega) (by omega) (by omega)).1) (by decide) (Nat.le_of_ble_eq_true rfl) (Nat.le_of_ble_eq_true rfl) ?_)
      | (refine am_go rfl (by first | exact True.intro | omega | exact ⟨by decide, Nat.le_of_ble_eq_true rfl, Nat.le_of_ble_eq_true rfl⟩ | exact ⟨by decide, Nat.le_of_ble_eq_true rfl⟩) ?_)
      | (refine am_if rfl (fun c1 => ?_) (fun c1 => ?_))
      | (refine am_iret rfl rfl rfl ?_)
      | (refine am_zret rfl rfl (by first | exact Or.inl rfl | exact Or.inr rfl) rfl ?_)
      | (refine am_lret rfl rfl rfl ?_)
      | (refine am_vret (x := 0) rfl rfl rfl ?_)
    all_goals first | (exact Or.inl ⟨by omega, rfl, rfl⟩) | omega | skip
    by_cases h4 : g 14 (x * 5 + (v / 1000)) = 4
    · rw [if_pos h4, if_pos h4]
      exact am_iret rfl rfl rfl (Or.inr (Or.inr ⟨by omega, hb, rfl, rfl⟩))
    · rw [if_neg h4, if_neg h4]
      exact am_iret rfl rfl rfl (Or.inr (Or.inr ⟨by omega, hb, rfl, rfl⟩))
set_option maxRecDepth 100000 in
set_option maxHeartbeats 4000000 in
theorem ct_fits (k v w : Int) (hc : 0 ≤ f 18 0 ∧ f 18 0 ≤ 60) : am_Ct l dC dI tc mm0_fits 2 58 [(.inr (.inr (some 0))), .inl k, .inl v, .inl w] (58, f, g, pr_r a b c) (fun r s => ((((k ≠ 2 ∧ k ≠ 6) ∨ (v < 0 ∨ 1000 ≤ v) ∨ w < 0 ∨ 1000 ≤ w) ∨ 60 ≤ f 18 0 ∨ zFit f g k v w) ∧ r = some (.inl 0) ∧ s = (58, f, g, pr_r a b c)) ∨ (¬ (((k ≠ 2 ∧ k ≠ 6) ∨ (v < 0 ∨ 1000 ≤ v) ∨ w < 0 ∨ 1000 ≤ w) ∨ 60 ≤ f 18 0 ∨ zFit f g k v w) ∧ r = some (.inl 1) ∧ s = (58, am_u1 (am_u1 f 18 0 (f 18 0 + 1)) 22 4 0, am_u3 (am_u3 (am_u3 g 19 (f 18 0) k) 20 (f 18 0) v) 21 (f 18 0) w, pr_r a b c))) := by
  refine am_enter ok_0_fits rfl (by decide) (Nat.le_of_ble_eq_true rfl) rfl ?_
  repeat' first
    | (refine am_go rfl (by first | exact True.intro | omega | exact ⟨by decide, Nat.le_of_ble_eq_true rfl, Nat.le_of_ble_eq_true rfl⟩ | exact ⟨by decide, Nat.le_of_ble_eq_true rfl⟩) ?_)
    | (refine am_if rfl (fun c1 => ?_) (fun c1 => ?_))
    | (refine am_iret rfl rfl rfl ?_)
    | (refine am_zret rfl rfl (by first | exact Or.inl rfl | exact Or.inr rfl) rfl ?_)
    | (refine am_lret rfl rfl rfl ?_)
    | (refine am_vret (x := 0) rfl rfl rfl ?_)
  all_goals first | (exact Or.inl ⟨Or.inl (by omega), rfl, rfl⟩) | skip
  all_goals (refine am_call rfl (ct_padd k v w hc) (by decide) (Nat.le_of_ble_eq_true rfl) (Nat.le_of_ble_eq_true rfl) (Nat.le_of_ble_eq_true rfl) (fun rv s q => ?_); rcases q with ⟨rfl, q1, rfl⟩ | ⟨rfl, q1, rfl⟩)
  all_goals (repeat' first | (refine am_calln rfl (ct_forget) (by decide) (Nat.le_of_ble_eq_true rfl) (Nat.le_of_ble_eq_true rfl) ?_) | (refine am_go rfl (by first | exact True.intro | omega | exact ⟨by decide, Nat.le_of_ble_eq_true rfl, Nat.le_of_ble_eq_true rfl⟩ | exact ⟨by decide, Nat.le_of_ble_eq_true rfl⟩) ?_) | (refine am_if rfl (fun c1 => ?_) (fun c1 => ?_)) | (refine am_zret rfl rfl (by first | exact Or.inl rfl | exact Or.inr rfl) rfl ?_))
  all_goals first | (exact Or.inl ⟨Or.inr q1, rfl, rfl⟩) | (refine Or.inr ⟨fun u => u.elim (fun u => by omega) q1, rfl, rfl⟩) | omega
set_option maxRecDepth 100000 in
set_option maxHeartbeats 4000000 in
theorem ct_part (x y z : Int) (h : zSS f g a b c) : am_Ct l dC dI tc mm0_part 6 58 [(.inr (.inr (some 0))), .inl x, .inl y, .inl z] (58, f, g, pr_r a b c) (fun r s => (((x < 0 ∨ 2 ≤ x) ∨ z < 0 ∨ 5 ≤ z) ∧ r = some (.inl (-12)) ∧ s = (58, f, g, pr_r a b c)) ∨ (¬ ((x < 0 ∨ 2 ≤ x) ∨ z < 0 ∨ 5 ≤ z) ∧ ∃ F G a' b' c', r = some (.inl (if (0 ≤ y ∧ y < F (if x = 0 then a' else b') 0) ∧ 0 ≤ z ∧ z < 5 then G ((if x = 0 then a' else b') + 2) (y * 5 + z) else -1)) ∧ zAft f g s F G a' b' c')) := by
  refine am_enter ok_0_part rfl (by decide) (Nat.le_of_ble_eq_true rfl) rfl ?_
  (refine am_go rfl (by first | exact True.intro | omega | exact ⟨by decide, Nat.le_of_ble_eq_true rfl, Nat.le_of_ble_eq_true rfl⟩ | exact ⟨by decide, Nat.le_of_ble_eq_true rfl⟩) ?_)
  (refine am_callv rfl (ct_isNoRank _) (by decide) (Nat.le_of_ble_eq_true rfl) (Nat.le_of_ble_eq_true rfl) ?_)
  by_cases hx : x < 0 ∨ 2 ≤ x
  · rw [if_pos hx]
    refine am_if rfl (fun c1 => ?_) (fun c1 => ?_)
    · (refine am_go rfl (by first | exact True.intro | omega | exact ⟨by decide, Nat.le_of_ble_eq_true rfl, Nat.le_of_ble_eq_true rfl⟩ | exact ⟨by decide, Nat.le_of_ble_eq_true rfl⟩) ?_)
      exact am_iret rfl rfl rfl (Or.inl ⟨Or.inl hx, rfl, rfl⟩)
    · omega
  · rw [if_neg hx]
    have key : ∀ (hz : ¬ (z < 0 ∨ 5 ≤ z)), am_wp l dC dI tc mm0_part 6 58 58 (fun r s => (((x < 0 ∨ 2 ≤ x) ∨ z < 0 ∨ 5 ≤ z) ∧ r = some (.inl (-12)) ∧ s = (58, f, g, pr_r a b c)) ∨ (¬ ((x < 0 ∨ 2 ≤ x) ∨ z < 0 ∨ 5 ≤ z) ∧ ∃ F G a' b' c', r = some (.inl (if (0 ≤ y ∧ y < F (if x = 0 then a' else b') 0) ∧ 0 ≤ z ∧ z < 5 then G ((if x = 0 then a' else b') + 2) (y * 5 + z) else -1)) ∧ zAft f g s F G a' b' c')) 10 [some (.inr (.inr (some 0))), some (.inl x), some (.inl y), some (.inl z)] [] (58, f, g, pr_r a b c) := by
      intro hz
      iterate 2 (refine am_go rfl (by first | exact True.intro | omega | exact ⟨by decide, Nat.le_of_ble_eq_true rfl, Nat.le_of_ble_eq_true rfl⟩ | exact ⟨by decide, Nat.le_of_ble_eq_true rfl⟩) ?_)
      refine am_call rfl (ct_readingOf x h) (by decide) (Nat.le_of_ble_eq_true rfl) (Nat.le_of_ble_eq_true rfl) (Nat.le_of_ble_eq_true rfl) (fun rv s q => ?_)
      obtain ⟨F, G, a', b', c', rfl, q1, q2, q3, q4, q5⟩ := q
      subst q1
      have hq := zPm_q q2.1 x
      have hle := zRes_le q2.2.1 q4
      have hl9 : F (if x = 0 then a' else b') 0 ≤ 9 := by
        split
        · omega
        · omega
      generalize e : (if x = 0 then a' else b') = q at hq hl9
      rcases hq with rfl | rfl | rfl
      all_goals
        iterate 2 (refine am_go rfl (by first | exact True.intro | omega | exact ⟨by decide, Nat.le_of_ble_eq_true rfl, Nat.le_of_ble_eq_true rfl⟩ | exact ⟨by decide, Nat.le_of_ble_eq_true rfl⟩) ?_)
        refine am_callv rfl (ct_fact _ (by decide) y z hl9) (by decide) (Nat.le_of_ble_eq_true rfl) (Nat.le_of_ble_eq_true rfl) ?_
        exact am_iret rfl rfl rfl (Or.inr ⟨fun u => u.elim hx hz, F, G, a', b', c', by rw [e], rfl, q2, q3, q4, q5⟩)
    refine am_if rfl (fun c1 => ?_) (fun c1 => ?_)
    · omega
    · (refine am_go rfl (by first | exact True.intro | omega | exact ⟨by decide, Nat.le_of_ble_eq_true rfl, Nat.le_of_ble_eq_true rfl⟩ | exact ⟨by decide, Nat.le_of_ble_eq_true rfl⟩) ?_)
      refine am_if rfl (fun c2 => ?_) (fun c2 => ?_)
      · (refine am_go rfl (by first | exact True.intro | omega | exact ⟨by decide, Nat.le_of_ble_eq_true rfl, Nat.le_of_ble_eq_true rfl⟩ | exact ⟨by decide, Nat.le_of_ble_eq_true rfl⟩) ?_)
        exact am_iret rfl rfl rfl (Or.inl ⟨Or.inr (Or.inl c2), rfl, rfl⟩)
      · iterate 2 (refine am_go rfl (by first | exact True.intro | omega | exact ⟨by decide, Nat.le_of_ble_eq_true rfl, Nat.le_of_ble_eq_true rfl⟩ | exact ⟨by decide, Nat.le_of_ble_eq_true rfl⟩) ?_)
        refine am_if rfl (fun c3 => ?_) (fun c3 => ?_)
        · exact key (by omega)
        · (refine am_go rfl (by first | exact True.intro | omega | exact ⟨by decide, Nat.le_of_ble_eq_true rfl, Nat.le_of_ble_eq_true rfl⟩ | exact ⟨by decide, Nat.le_of_ble_eq_true rfl⟩) ?_)
          exact am_iret rfl rfl rfl (Or.inl ⟨Or.inr (Or.inr (by omega)), rfl, rfl⟩)
end Pub2
end
section
/-! the JDK's methods on Strings: their code as lists -/
def mk_coder : am_M := (⟨"java/lang/String", "coder", "()B"⟩, prog_14_method_152_code, 1, (some (.byte)), [(0, .getstatic (38), 1, [], 0), (3, .ifCond .eq (10), 2, [5], 0), (6, .aload_n 0, 3, [], 0), (7, .getfield (15), 4, [], 0), (10, .goto (4), 5, [6], 0), (13, .iconst (1), 6, [], 0), (14, .ireturn, 7, [], 0)])
def mk_isLatin1 : am_M := (⟨"java/lang/String", "isLatin1", "()Z"⟩, prog_14_method_154_code, 1, (some (.boolean)), [(0, .getstatic (38), 1, [], 0), (3, .ifCond .eq (14), 2, [7], 0), (6, .aload_n 0, 3, [], 0), (7, .getfield (15), 4, [], 0), (10, .ifCond .ne (7), 5, [7], 0), (13, .iconst (1), 6, [], 0), (14, .goto (4), 7, [8], 0), (17, .iconst (0), 8, [], 0), (18, .ireturn, 9, [], 0)])
def mk_length : am_M := (⟨"java/lang/String", "length", "()I"⟩, prog_14_method_54_code, 1, (some (.int)), [(0, .aload_n 0, 1, [], 0), (1, .getfield (9), 2, [], 0), (4, .arraylength, 3, [], 0), (5, .aload_n 0, 4, [], 0), (6, .invokevirtual (335), 5, [], 0), (9, .ishr, 6, [], 0), (10, .ireturn, 7, [], 0)])
def mk_checkIndex : am_M := (⟨"java/lang/String", "checkIndex", "(II)V"⟩, prog_14_method_155_code, 2, none, [(0, .iload_n 0, 1, [], 0), (1, .iload_n 1, 2, [], 0), (2, .getstatic (1053), 3, [], 0), (5, .invokestatic (1059), 4, [0, 0, 0], 0), (8, .pop, 5, [], 0), (9, .return_, 6, [], 0)])
def mk_lcharAt : am_M := (⟨"java/lang/StringLatin1", "charAt", "([BI)C"⟩, prog_15_method_2_code, 2, (some (.char)), [(0, .iload_n 1, 1, [], 0), (1, .aload_n 0, 2, [], 0), (2, .arraylength, 3, [], 0), (3, .invokestatic (9), 4, [0, 0, 0], 0), (6, .aload_n 0, 5, [], 0), (7, .iload_n 1, 6, [], 0), (8, .baload, 7, [], 0), (9, .sipush (255), 8, [], 0), (12, .iand, 9, [], 0), (13, .i2c, 10, [], 0), (14, .ireturn, 11, [], 0)])
def mk_charAt : am_M := (⟨"java/lang/String", "charAt", "(I)C"⟩, prog_14_method_56_code, 2, (some (.char)), [(0, .aload_n 0, 1, [], 0), (1, .invokevirtual (492), 2, [], 0), (4, .ifCond .eq (12), 3, [8], 0), (7, .aload_n 0, 4, [], 0), (8, .getfield (9), 5, [], 0), (11, .iload_n 1, 6, [], 0), (12, .invokestatic (495), 7, [0, 0, 0], 0), (15, .ireturn, 8, [], 0), (16, .aload_n 0, 9, [], 0), (17, .getfield (9), 10, [], 0), (20, .iload_n 1, 11, [], 0), (21, .invokestatic (498), 12, [0, 0, 0], 0), (24, .ireturn, 13, [], 0)])
def mk_canEncode : am_M := (⟨"java/lang/StringLatin1", "canEncode", "(I)Z"⟩, prog_15_method_4_code, 1, (some (.boolean)), [(0, .iload_n 0, 1, [], 0), (1, .ifCond .lt (14), 2, [7], 0), (4, .iload_n 0, 3, [], 0), (5, .sipush (255), 4, [], 0), (8, .if_icmp .gt (7), 5, [7], 0), (11, .iconst (1), 6, [], 0), (12, .goto (4), 7, [8], 0), (15, .iconst (0), 8, [], 0), (16, .ireturn, 9, [], 0)])
def mk_indexOfChar : am_M := (⟨"java/lang/StringLatin1", "indexOfChar", "([BIII)I"⟩, prog_15_method_23_code, 6, (some (.int)), [(0, .iload_n 1, 1, [], 0), (1, .i2b, 2, [], 0), (2, .istore (4), 3, [], 0), (4, .iload_n 2, 4, [], 0), (5, .istore (5), 5, [], 0), (7, .iload (5), 6, [], 0), (9, .iload_n 3, 7, [], 0), (10, .if_icmp .ge (21), 8, [17], 0), (13, .aload_n 0, 9, [], 0), (14, .iload (5), 10, [], 0), (16, .baload, 11, [], 0), (17, .iload (4), 12, [], 0), (19, .if_icmp .ne (6), 13, [15], 0), (22, .iload (5), 14, [], 0), (24, .ireturn, 15, [], 0), (25, .iinc 5 (1), 16, [], 0), (28, .goto (-21), 17, [5], 0), (31, .iconst (-1), 18, [], 0), (32, .ireturn, 19, [], 0)])
def mk_min : am_M := (⟨"java/lang/Math", "min", "(II)I"⟩, prog_12_method_69_code, 2, (some (.int)), [(0, .iload_n 0, 1, [], 0), (1, .iload_n 1, 2, [], 0), (2, .if_icmp .gt (7), 3, [5], 0), (5, .iload_n 0, 4, [], 0), (6, .goto (4), 5, [6], 0), (9, .iload_n 1, 6, [], 0), (10, .ireturn, 7, [], 0)])
def mk_lindexOf : am_M := (⟨"java/lang/StringLatin1", "indexOf", "([BIII)I"⟩, prog_15_method_22_code, 4, (some (.int)), [(0, .iload_n 1, 1, [], 0), (1, .invokestatic (88), 2, [0, 0, 0], 0), (4, .ifCond .ne (5), 3, [5], 0), (7, .iconst (-1), 4, [], 0), (8, .ireturn, 5, [], 0), (9, .iload_n 2, 6, [], 0), (10, .iconst (0), 7, [], 0), (11, .invokestatic (92), 8, [], 0), (14, .istore_n 2, 9, [], 0), (15, .iload_n 3, 10, [], 0), (16, .aload_n 0, 11, [], 0), (17, .arraylength, 12, [], 0), (18, .invokestatic (38), 13, [0, 0, 0], 0), (21, .istore_n 3, 14, [], 0), (22, .iload_n 2, 15, [], 0), (23, .iload_n 3, 16, [], 0), (24, .if_icmp .lt (5), 17, [19], 0), (27, .iconst (-1), 18, [], 0), (28, .ireturn, 19, [], 0), (29, .aload_n 0, 20, [], 0), (30, .iload_n 1, 21, [], 0), (31, .iload_n 2, 22, [], 0), (32, .iload_n 3, 23, [], 0), (33, .invokestatic (95), 24, [0, 0, 0], 0), (36, .ireturn, 25, [], 0)])
def mk_indexOf2 : am_M := (⟨"java/lang/String", "indexOf", "(II)I"⟩, prog_14_method_80_code, 3, (some (.int)), [(0, .aload_n 0, 1, [], 0), (1, .invokevirtual (492), 2, [], 0), (4, .ifCond .eq (19), 3, [11], 0), (7, .aload_n 0, 4, [], 0), (8, .getfield (9), 5, [], 0), (11, .iload_n 1, 6, [], 0), (12, .iload_n 2, 7, [], 0), (13, .aload_n 0, 8, [], 0), (14, .invokevirtual (505), 9, [], 0), (17, .invokestatic (637), 10, [0, 0, 0], 0), (20, .goto (16), 11, [18], 0), (23, .aload_n 0, 12, [], 0), (24, .getfield (9), 13, [], 0), (27, .iload_n 1, 14, [], 0), (28, .iload_n 2, 15, [], 0), (29, .aload_n 0, 16, [], 0), (30, .invokevirtual (505), 17, [], 0), (33, .invokestatic (640), 18, [0, 0, 0], 0), (36, .ireturn, 19, [], 0)])
def mk_indexOf : am_M := (⟨"java/lang/String", "indexOf", "(I)I"⟩, prog_14_method_79_code, 2, (some (.int)), [(0, .aload_n 0, 1, [], 0), (1, .iload_n 1, 2, [], 0), (2, .iconst (0), 3, [], 0), (3, .invokevirtual (633), 4, [], 0), (6, .ireturn, 5, [], 0)])
def zLet (i : Int) : Int := if i = 0 then 78 else if i = 1 then 70 else if i = 2 then 83 else if i = 3 then 72 else if i = 4 then 88 else if i = 5 then 66 else if i = 6 then 67 else if i = 7 then 80 else 76
def zIxR (x q : Int) : Prop := (0 ≤ q ∧ q < 9 ∧ zLet q = x) ∨ (q = -1 ∧ ∀ j, 0 ≤ j → j < 9 → zLet j ≠ x)
theorem zLet_r (i : Int) : 66 ≤ zLet i ∧ zLet i ≤ 88 := by
  unfold zLet
  repeat' split
  all_goals decide
theorem zLet_at {i : Int} (h : 0 ≤ i ∧ i < 9) : ((am_sbyt.getD 0 []).getD i.toNat 0) = Int32.ofInt (zLet i) := by
  have h9 : i = 0 ∨ i = 1 ∨ i = 2 ∨ i = 3 ∨ i = 4 ∨ i = 5 ∨ i = 6 ∨ i = 7 ∨ i = 8 := by omega
  rcases h9 with rfl | rfl | rfl | rfl | rfl | rfl | rfl | rfl | rfl <;> decide
theorem am_i2bk : ∀ a : Fin 128, (Int32.ofInt (a.val : Int)).toInt8.toInt32 = Int32.ofInt (a.val : Int) := by decide +kernel
section Jdk
variable {l : Launch} {dC : Nat → ClassId} {dI : Nat → Nat → Nat} {tc : Nat → ClassId} {M : am_M} {d n0 n1 : Nat} {Q : Option am_V → am_H → Prop} {i : Nat} {lv : am_L} {st : List am_V} {σ : am_H}
variable {pc nx : Nat} {xs : List Nat} {kk : Int} {r : List am_V}
set_option maxHeartbeats 4000000 in
/-- a call on a String constant -/
theorem am_callJ {M' : am_M} {idx q na d' : Nat} {as3 : List am_V} {Q' : Option am_V → am_H → Prop} (he : am_at M.2.2.2.2 i = some (pc, .invokevirtual idx, nx, xs, kk)) (htk : am_tk na [] st = some ((.inr (.inr (some (1000 + q))) :: as3), r)) (hq : q < 2) (hcl : M'.1.cls = "java/lang/String")
    (l1 : am_isin (Cond.methodLink M.1.cls idx M'.1) = true) (l2 : am_isin (Cond.instanceMethod M'.1) = true) (l3 : am_isin (Cond.selects M'.1.cls M'.1 M'.1) = true) (l4 : am_isin (Cond.initialized M'.1.cls) = true) (l5 : am_sig M' 1 na = true) (lc : am_isin (Cond.code M'.1 M'.2.1 M'.2.2.1 M'.2.2.2.1) = true)
    (hC : am_Ct l dC dI tc M' d' σ.1 (.inr (.inr (some (1000 + q))) :: as3) σ Q') (hd : d' < d) (hn1 : σ.1 ≤ n1) (hr4 : r.length ≤ 4) (k : ∀ rv σ', Q' rv σ' → am_wp l dC dI tc M d n0 n1 Q nx lv (rv.toList ++ r) σ') : am_wp l dC dI tc M d n0 n1 Q i lv st σ := by
  intro hok p e s m args below meth c ad0 A hB ad H locs ls hS
  have ho := hok i _ he
  have hp : am_pcd M i = pc := by unfold am_pcd; rw [he]
  have k := fun rv σ' q => k rv σ' q hok p e s m args below meth c ad0 A hB
  have hcode := am_in_tb lc
  obtain ⟨b, hb1, hb2, hb3⟩ := am_tk_spec _ _ _ _ _ htk
  rw [List.append_nil] at hb2
  subst hb2
  have hvsall := hS.vs
  rw [hb1] at hvsall
  have hvm := am_vs_mem hvsall
  have hr : am_vs σ.1 r := am_vs_of (fun v hv => hvm v (List.mem_append_right _ hv))
  have has : am_vs σ.1 ((.inr (.inr (some (1000 + q))) :: as3)) := am_vs_of (fun v hv => hvm v (List.mem_append_left _ (List.mem_reverse.mpr hv)))
  have hn0 : n0 ≤ σ.1 := hS.2.1
  have hZ : ∀ U : State, U.heap = H → s.WarmedH U.vm → am_Z ad (va_A (am_w ad tc σ) H.size) U := fun U hU hW => am_Z.call hB.2.2.2.2.2.2.2.2.2.2 hS.2.2.2.2.2.1 (am_wA hS.2.2.2.2.1 hS.2.2.2.2.2.1 hB.2.2.2.2.2.2.2.2.2.1) (fun k hk => hS.1 k (Or.inr hk)) hU hW
  have hpre : ∀ U : State, U.heap = H → s.WarmedH U.vm → va_Pc (((.inr (.inr (some (1000 + q))) :: as3)).map (am_v ad)) (fun U => U.heap.size = H.size ∧ va_P (dC, dI) classes (am_w ad tc σ) U.heap ∧ va_K (dC, dI) classes (am_tys tc) U ∧ va_D (fun _ => True) (am_w ad tc σ) ∧ am_Z ad (va_A (am_w ad tc σ) H.size) U) (((.inr (.inr (some (1000 + q))) :: as3)).map (am_v ad)).toArray U := fun U hU hW =>
    ⟨rfl, by rw [hU], by rw [hU]; exact hS.2.2.2.1, va_K.moved hW.alike hB.2.2.2.2.2.2.2.2.1, hS.2.2.2.2.1.weaken (fun _ _ _ _ => trivial), hZ U hU hW⟩
  have hblind : FrameBlind (va_Pc (((.inr (.inr (some (1000 + q))) :: as3)).map (am_v ad)) (fun U => U.heap.size = H.size ∧ va_P (dC, dI) classes (am_w ad tc σ) U.heap ∧ va_K (dC, dI) classes (am_tys tc) U ∧ va_D (fun _ => True) (am_w ad tc σ) ∧ am_Z ad (va_A (am_w ad tc σ) H.size) U)) := by
    intro a U g mk q
    obtain ⟨q0, q1, qP, qK, qD, qZ⟩ := q
    exact ⟨q0, q1, qP, va_K.moved (u := U) (U := U.calling g mk a) (Vm.Alike.refl U.vm) qK, qD, am_Z.blind qZ⟩
  have hcells : σ.1 - n0 + (σ.1 - σ.1) ≤ (am_rm d n0 n1).cells ∧ am_sz σ.1 - am_sz n0 + (am_sz σ.1 - am_sz σ.1) ≤ (am_rm d n0 n1).slots := by
    have hm0 := am_sz_mono hn0
    have hm2 := am_sz_mono hn1
    refine ⟨?_, ?_⟩
    · show _ ≤ n1 - n0
      omega
    · show _ ≤ am_sz n1 - am_sz n0
      omega
  have hfix : CallFix p m c M.2.1 M.2.2.1 s args am_tb M.1.cls := ⟨hB.1, hB.2.1, hB.2.2.2.1, hB.2.2.2.2.1, hB.2.2.2.2.2.1⟩
  have hsize : ls.size = M.2.2.1 := hS.lh.1
  rw [hp]
  have hcat : 2 * 0 + ((r.map (am_v ad)).map fun v => v.category).sum ≤ 8 := by
    have := am_cats ad r
    omega
  have hdec := am_oke_dec ho (fun a b c d h => by cases h)
  obtain ⟨s1, s2⟩ := am_sig_spec l5
  have hna : na - 1 = as3.length := by rw [← hb3]; simp
  rw [hna] at s1
  have cw : CallW (am_rm d n0 n1) s args M.1.cls M'.1.cls idx M'.1 M'.2.1 M'.2.2.1 M'.2.2.2.1 (Cond.code M'.1 M'.2.1 M'.2.2.1 M'.2.2.2.1 :: am_tb) (am_rm d' σ.1 σ.1) (σ.1 - σ.1) (am_sz σ.1 - am_sz σ.1) as3.length :=
    cwV as3.length hB.2.2.2.2.2.1 (am_goodIn (fun w hw => by
      unfold wsV at hw
      rcases List.mem_append.mp hw with z | z
      · simp only [List.mem_cons, List.not_mem_nil, or_false] at z
        rcases z with rfl | rfl | rfl | rfl
        · exact am_in_tb l1
        · exact am_in_tb l2
        · exact am_in_tb l3
        · exact am_in_tb l4
      · rcases List.mem_cons.mp z with rfl | z
        · exact hcode
        · exact z)) rfl rfl rfl ⟨rfl, s1⟩ (am_roomok hd s2)
  have hrv : ∃ cell : Cell, H[ad0 (1000 + q)]? = some cell ∧ cell.vm.isStatics = false ∧ s.vm.findClass "java/lang/String" = some cell.cls := vk_recv (i := q) (adK := fun i => ad0 (1000 + i)) hB.2.2.2.2.2.2.2.2.2.2.2.2.1 hq hS.2.2.2.2.2.1
  rw [← hcl, ← hS.1 (1000 + q) (Or.inr (by omega))] at hrv
  have hrun := va_runV (l := l) (e := e) (below := below) (meth := meth) (locs := locs) (cells := σ.1 - n0) (slots := am_sz σ.1 - am_sz n0) (As := as3.map (am_v ad)) (rest := r.map (am_v ad)) (g := F0 m pc ls (st.map (am_v ad))) hfix (hC ad H.size hS.hf has) cw ⟨hblind, hrv, hpre⟩ rfl (by simp) hsize (by show st.map (am_v ad) = _; rw [hb1]; exact am_st_eq) hcat hdec hcells
  exact am_after hrun hB hS hr (Nat.le_refl _) (am_oke_nx ho rfl) k
set_option maxHeartbeats 4000000 in
/-- a call of a static method of any class -/
theorem am_callT {M' : am_M} {idx na d' : Nat} {as3 : List am_V} {Q' : Option am_V → am_H → Prop} (he : am_at M.2.2.2.2 i = some (pc, .invokestatic idx, nx, xs, kk)) (htk : am_tk na [] st = some (as3, r))
    (l1 : am_isin (Cond.methodLink M.1.cls idx M'.1) = true) (l2 : am_isin (Cond.static M'.1) = true) (l4 : am_isin (Cond.initialized M'.1.cls) = true) (l5 : am_sig M' 0 na = true) (lc : am_isin (Cond.code M'.1 M'.2.1 M'.2.2.1 M'.2.2.2.1) = true)
    (hC : am_Ct l dC dI tc M' d' σ.1 as3 σ Q') (hd : d' < d) (hn1 : σ.1 ≤ n1) (hr4 : r.length ≤ 4) (k : ∀ rv σ', Q' rv σ' → am_wp l dC dI tc M d n0 n1 Q nx lv (rv.toList ++ r) σ') : am_wp l dC dI tc M d n0 n1 Q i lv st σ := by
  intro hok p e s m args below meth c ad0 A hB ad H locs ls hS
  have ho := hok i _ he
  have hp : am_pcd M i = pc := by unfold am_pcd; rw [he]
  have k := fun rv σ' q => k rv σ' q hok p e s m args below meth c ad0 A hB
  have hcode := am_in_tb lc
  obtain ⟨b, hb1, hb2, hb3⟩ := am_tk_spec _ _ _ _ _ htk
  rw [List.append_nil] at hb2
  subst hb2
  have hvsall := hS.vs
  rw [hb1] at hvsall
  have hvm := am_vs_mem hvsall
  have hr : am_vs σ.1 r := am_vs_of (fun v hv => hvm v (List.mem_append_right _ hv))
  have has : am_vs σ.1 as3 := am_vs_of (fun v hv => hvm v (List.mem_append_left _ (List.mem_reverse.mpr hv)))
  have hn0 : n0 ≤ σ.1 := hS.2.1
  have hZ : ∀ U : State, U.heap = H → s.WarmedH U.vm → am_Z ad (va_A (am_w ad tc σ) H.size) U := fun U hU hW => am_Z.call hB.2.2.2.2.2.2.2.2.2.2 hS.2.2.2.2.2.1 (am_wA hS.2.2.2.2.1 hS.2.2.2.2.2.1 hB.2.2.2.2.2.2.2.2.2.1) (fun k hk => hS.1 k (Or.inr hk)) hU hW
  have hpre : ∀ U : State, U.heap = H → s.WarmedH U.vm → va_Pc (as3.map (am_v ad)) (fun U => U.heap.size = H.size ∧ va_P (dC, dI) classes (am_w ad tc σ) U.heap ∧ va_K (dC, dI) classes (am_tys tc) U ∧ va_D (fun _ => True) (am_w ad tc σ) ∧ am_Z ad (va_A (am_w ad tc σ) H.size) U) (as3.map (am_v ad)).toArray U := fun U hU hW =>
    ⟨rfl, by rw [hU], by rw [hU]; exact hS.2.2.2.1, va_K.moved hW.alike hB.2.2.2.2.2.2.2.2.1, hS.2.2.2.2.1.weaken (fun _ _ _ _ => trivial), hZ U hU hW⟩
  have hblind : FrameBlind (va_Pc (as3.map (am_v ad)) (fun U => U.heap.size = H.size ∧ va_P (dC, dI) classes (am_w ad tc σ) U.heap ∧ va_K (dC, dI) classes (am_tys tc) U ∧ va_D (fun _ => True) (am_w ad tc σ) ∧ am_Z ad (va_A (am_w ad tc σ) H.size) U)) := by
    intro a U g mk q
    obtain ⟨q0, q1, qP, qK, qD, qZ⟩ := q
    exact ⟨q0, q1, qP, va_K.moved (u := U) (U := U.calling g mk a) (Vm.Alike.refl U.vm) qK, qD, am_Z.blind qZ⟩
  have hcells : σ.1 - n0 + (σ.1 - σ.1) ≤ (am_rm d n0 n1).cells ∧ am_sz σ.1 - am_sz n0 + (am_sz σ.1 - am_sz σ.1) ≤ (am_rm d n0 n1).slots := by
    have hm0 := am_sz_mono hn0
    have hm2 := am_sz_mono hn1
    refine ⟨?_, ?_⟩
    · show _ ≤ n1 - n0
      omega
    · show _ ≤ am_sz n1 - am_sz n0
      omega
  have hfix : CallFix p m c M.2.1 M.2.2.1 s args am_tb M.1.cls := ⟨hB.1, hB.2.1, hB.2.2.2.1, hB.2.2.2.2.1, hB.2.2.2.2.2.1⟩
  have hsize : ls.size = M.2.2.1 := hS.lh.1
  rw [hp]
  have hcat : 2 * 0 + ((r.map (am_v ad)).map fun v => v.category).sum ≤ 8 := by
    have := am_cats ad r
    omega
  have hdec := am_oke_dec ho (fun a b c d h => by cases h)
  obtain ⟨s1, s2⟩ := am_sig_spec l5
  have hna : na - 0 = as3.length := by rw [← hb3]; simp
  rw [hna] at s1
  have cw := va_cwS (R := am_rm d n0 n1) (rm := am_rm d' σ.1 σ.1) (ws := Cond.code M'.1 M'.2.1 M'.2.2.1 M'.2.2.2.1 :: am_tb) as3.length hB.2.2.2.2.2.1 (am_goodIn (fun w hw => by
      unfold va_wsS at hw
      rcases List.mem_append.mp hw with z | z
      · simp only [List.mem_cons, List.not_mem_nil, or_false] at z
        rcases z with rfl | rfl | rfl
        · exact am_in_tb l1
        · exact am_in_tb l2
        · exact am_in_tb l4
      · rcases List.mem_cons.mp z with rfl | z
        · exact hcode
        · exact z)) rfl rfl rfl s1 (am_roomok hd s2)
  have hrun := va_runS (l := l) (e := e) (below := below) (meth := meth) (locs := locs) (cells := σ.1 - n0) (slots := am_sz σ.1 - am_sz n0) (As := as3.map (am_v ad)) (rest := r.map (am_v ad)) (g := F0 m pc ls (st.map (am_v ad))) hfix (hC ad H.size hS.hf has) cw ⟨hblind, hpre⟩ rfl (by simp) hsize (by show st.map (am_v ad) = _; rw [hb1]; simp) hcat hdec hcells
  exact am_after hrun hB hS hr (Nat.le_refl _) (am_oke_nx ho rfl) k
/-- a static of the JDK's -/
theorem am_gets {idx : Nat} {C n dd : String} {P : am_V → Prop} (he : am_at M.2.2.2.2 i = some (pc, .getstatic idx, nx, xs, kk)) (hl : am_isin (Cond.fieldLink M.1.cls idx C n dd) = true) (hz : ∀ ad0 A s, am_Z ad0 A s → ∃ v, va_Z C n dd (am_v ad0 v) A s s.heap ∧ am_vf 0 v ∧ P v) (k : ∀ v, P v → am_wp l dC dI tc M d n0 n1 Q nx lv (v :: st) σ) : am_wp l dC dI tc M d n0 n1 Q i lv st σ := by
  intro hok p e s m args below meth c ad0 A hB ad H locs ls hS
  have ho := hok i _ he
  have hp : am_pcd M i = pc := by unfold am_pcd; rw [he]
  have hd := am_oke_dec ho (fun a b c d h => by cases h)
  obtain ⟨v, v1, v2, v3⟩ := hz _ _ _ hB.2.2.2.2.2.2.2.2.2.2
  have hk := k v v3 hok p e s m args below meth c ad0 A hB ad H locs ls (hS.sk ⟨am_vf_up (Nat.zero_le _) v2, hS.vs⟩)
  rw [am_oke_nx ho rfl] at hk
  have e1 : am_v ad v = am_v ad0 v := by
    rcases v with x | y | o
    · rfl
    · rfl
    · cases o with
      | none => rfl
      | some k =>
        have h1 := v2 k rfl
        show Value.ref (ad k) = Value.ref (ad0 k)
        rw [hS.1 k (by omega)]
  rw [List.map_cons, e1] at hk
  rw [hp]
  exact va_gets hB.1 hB.2.1 v1 hS.2.2.2.2.2.1 hB.2.2.2.2.1 (hB.2.2.2.2.2.1 _ (am_in_tb hl)) (fun _ h => h) hd hk
/-- a String constant's coder -/
theorem am_coder {idx q : Nat} (he : am_at M.2.2.2.2 i = some (pc, .getfield idx, nx, xs, kk)) (hq : q < 2) (hl : am_isin (Cond.fieldLink M.1.cls idx "java/lang/String" "coder" "B") = true) (k : am_wp l dC dI tc M d n0 n1 Q nx lv (.inl 0 :: r) σ) : am_wp l dC dI tc M d n0 n1 Q i lv (.inr (.inr (some (1000 + q))) :: r) σ := by
  intro hok p e s m args below meth c ad0 A hB ad H locs ls hS
  have ho := hok i _ he
  have hp : am_pcd M i = pc := by unfold am_pcd; rw [he]
  have hd := am_oke_dec ho (fun a b c d h => by cases h)
  have hk := k hok p e s m args below meth c ad0 A hB ad H locs ls (hS.sk ⟨⟨by decide, by decide⟩, hS.vs.2⟩)
  rw [am_oke_nx ho rfl] at hk
  have h9 : va_OF "java/lang/String" "coder" "B" (.int 0) (ad0 (1000 + q)) A s s.heap := (hB.2.2.2.2.2.2.2.2.2.2.2.2.1.1 q hq).2.1
  rw [← hS.1 (1000 + q) (Or.inr (by omega))] at h9
  rw [hp]
  exact vk_getf hB.1 hB.2.1 h9 hS.2.2.2.2.2.1 hB.2.2.2.2.1 (hB.2.2.2.2.2.1 _ (am_in_tb hl)) (fun _ h => h) hd hk
/-- a String constant's bytes -/
theorem am_value {idx q : Nat} (he : am_at M.2.2.2.2 i = some (pc, .getfield idx, nx, xs, kk)) (hq : q < 2) (hl : am_isin (Cond.fieldLink M.1.cls idx "java/lang/String" "value" "[B") = true) (k : am_wp l dC dI tc M d n0 n1 Q nx lv (.inr (.inr (some (2000 + q))) :: r) σ) : am_wp l dC dI tc M d n0 n1 Q i lv (.inr (.inr (some (1000 + q))) :: r) σ := by
  intro hok p e s m args below meth c ad0 A hB ad H locs ls hS
  have ho := hok i _ he
  have hp : am_pcd M i = pc := by unfold am_pcd; rw [he]
  have hd := am_oke_dec ho (fun a b c d h => by cases h)
  have hk := k hok p e s m args below meth c ad0 A hB ad H locs ls (hS.sk ⟨fun z hz => by cases hz; exact Or.inr (by omega), hS.vs.2⟩)
  rw [am_oke_nx ho rfl] at hk
  have h9 : va_OF "java/lang/String" "value" "[B" (.ref (ad0 (2000 + q))) (ad0 (1000 + q)) A s s.heap := (hB.2.2.2.2.2.2.2.2.2.2.2.2.1.1 q hq).2.2.1
  rw [← hS.1 (1000 + q) (Or.inr (by omega)), ← hS.1 (2000 + q) (Or.inr (by omega))] at h9
  rw [hp]
  exact vk_getf hB.1 hB.2.1 h9 hS.2.2.2.2.2.1 hB.2.2.2.2.1 (hB.2.2.2.2.2.1 _ (am_in_tb hl)) (fun _ h => h) hd hk
theorem am_blen (he : am_at M.2.2.2.2 i = some (pc, .arraylength, nx, xs, kk)) (k : am_wp l dC dI tc M d n0 n1 Q nx lv (.inl 9 :: r) σ) : am_wp l dC dI tc M d n0 n1 Q i lv (.inr (.inr (some 2000)) :: r) σ := by
  intro hok p e s m args below meth c ad0 A hB ad H locs ls hS
  have ho := hok i _ he
  have hp : am_pcd M i = pc := by unfold am_pcd; rw [he]
  have hd := am_oke_dec ho (fun a b c d h => by cases h)
  have hk := k hok p e s m args below meth c ad0 A hB ad H locs ls (hS.sk ⟨⟨by decide, by decide⟩, hS.vs.2⟩)
  rw [am_oke_nx ho rfl] at hk
  have h9 : va_T .byte (ad0 2000) 9 (fun j => .int ((am_sbyt.getD 0 []).getD j 0)) A s s.heap := (hB.2.2.2.2.2.2.2.2.2.2.2.2.1.1 0 (by decide)).2.2.2
  rw [← hS.1 2000 (Or.inr (by omega))] at h9
  rw [hp]
  exact va_tlen hB.1 hB.2.1 h9 hS.2.2.2.2.2.1 (by decide) hd hk
theorem am_bald {x : Int} (he : am_at M.2.2.2.2 i = some (pc, .baload, nx, xs, kk)) (hx : 0 ≤ x ∧ x < 9) (k : am_wp l dC dI tc M d n0 n1 Q nx lv (.inl (zLet x) :: r) σ) : am_wp l dC dI tc M d n0 n1 Q i lv (.inl x :: .inr (.inr (some 2000)) :: r) σ := by
  intro hok p e s m args below meth c ad0 A hB ad H locs ls hS
  have ho := hok i _ he
  have hp : am_pcd M i = pc := by unfold am_pcd; rw [he]
  have hd := am_oke_dec ho (fun a b c d h => by cases h)
  have hz := zLet_r x
  have hk := k hok p e s m args below meth c ad0 A hB ad H locs ls (hS.sk ⟨⟨by omega, by omega⟩, hS.vs.2.2⟩)
  rw [am_oke_nx ho rfl] at hk
  have h9 : va_T .byte (ad0 2000) 9 (fun j => .int ((am_sbyt.getD 0 []).getD j 0)) A s s.heap := (hB.2.2.2.2.2.2.2.2.2.2.2.2.1.1 0 (by decide)).2.2.2
  rw [← hS.1 2000 (Or.inr (by omega))] at h9
  rw [hp]
  obtain ⟨a, rfl⟩ := Int.eq_ofNat_of_zero_le hx.1
  have e1 : Int32.ofInt (a : Int) = nI a := rfl
  have ec : (nI a).toNatClampNeg = a := nI_clamp (by omega)
  refine va_tb hB.1 hB.2.1 h9 hS.2.2.2.2.2.1 (i := Int32.ofInt (a : Int)) (v := .int (Int32.ofInt (zLet a))) ?_ ?_ hd hk
  · rw [e1]
    exact nI_in (by show a < 9; omega) (by decide)
  · rw [e1, ec]
    have := zLet_at hx
    rw [Int.toNat_natCast] at this
    rw [this]
theorem am_i2b {x : Int} (he : am_at M.2.2.2.2 i = some (pc, .i2b, nx, xs, kk)) (hx : 0 ≤ x ∧ x < 128) (k : am_wp l dC dI tc M d n0 n1 Q nx lv (.inl x :: r) σ) : am_wp l dC dI tc M d n0 n1 Q i lv (.inl x :: r) σ := by
  intro hok p e s m args below meth c ad0 A hB ad H locs ls hS
  have ho := hok i _ he
  have hp : am_pcd M i = pc := by unfold am_pcd; rw [he]
  have hd := am_oke_dec ho (fun a b c d h => by cases h)
  have hk := k hok p e s m args below meth c ad0 A hB ad H locs ls hS
  rw [am_oke_nx ho rfl] at hk
  rw [hp]
  refine lv_i2b hB.1 hB.2.1 hd ?_ hk
  obtain ⟨a, rfl⟩ := Int.eq_ofNat_of_zero_le hx.1
  exact am_i2bk ⟨a, by omega⟩
theorem am_pop {x : Int} (he : am_at M.2.2.2.2 i = some (pc, .pop, nx, xs, kk)) (k : am_wp l dC dI tc M d n0 n1 Q nx lv r σ) : am_wp l dC dI tc M d n0 n1 Q i lv (.inl x :: r) σ := by
  intro hok p e s m args below meth c ad0 A hB ad H locs ls hS
  have ho := hok i _ he
  have hp : am_pcd M i = pc := by unfold am_pcd; rw [he]
  have hd := am_oke_dec ho (fun a b c d h => by cases h)
  have hk := k hok p e s m args below meth c ad0 A hB ad H locs ls (hS.sk hS.vs.2)
  rw [am_oke_nx ho rfl] at hk
  rw [hp]
  exact lv_pop hB.1 hB.2.1 hd rfl hk
end Jdk
end
section
/-! the JDK's methods on Strings: what they answer for the letters -/
theorem okj_coder : am_okM mk_coder := am_okM_of (by decide +kernel)
theorem okj_isLatin1 : am_okM mk_isLatin1 := am_okM_of (by decide +kernel)
theorem okj_length : am_okM mk_length := am_okM_of (by decide +kernel)
theorem okj_checkIndex : am_okM mk_checkIndex := am_okM_of (by decide +kernel)
theorem okj_lcharAt : am_okM mk_lcharAt := am_okM_of (by decide +kernel)
theorem okj_charAt : am_okM mk_charAt := am_okM_of (by decide +kernel)
theorem okj_canEncode : am_okM mk_canEncode := am_okM_of (by decide +kernel)
theorem okj_indexOfChar : am_okM mk_indexOfChar := am_okM_of (by decide +kernel)
theorem okj_lindexOf : am_okM mk_lindexOf := am_okM_of (by decide +kernel)
theorem okj_indexOf2 : am_okM mk_indexOf2 := am_okM_of (by decide +kernel)
theorem okj_indexOf : am_okM mk_indexOf := am_okM_of (by decide +kernel)
def mk_pre : am_M := (⟨"jdk/internal/util/Preconditions", "checkIndex", "(IILjava/util/function/BiFunction;)I"⟩, prog_18_method_11_code, 3, (some (.int)), [(0, .iload_n 0, 1, [], 0), (1, .ifCond .lt (8), 2, [5], 0), (4, .iload_n 0, 3, [], 0), (5, .iload_n 1, 4, [], 0), (6, .if_icmp .lt (10), 5, [10], 0), (9, .aload_n 2, 6, [], 0), (10, .iload_n 0, 7, [], 0), (11, .iload_n 1, 8, [], 0), (12, .invokestatic (95), 9, [0, 0, 0], 0), (15, .athrow, 10, [], 0), (16, .iload_n 0, 11, [], 0), (17, .ireturn, 12, [], 0)])
theorem okj_pre : am_okM mk_pre := am_okM_of (by decide +kernel)
section Jdk2
variable {l : Launch} {dC : Nat → ClassId} {dI : Nat → Nat → Nat} {tc : Nat → ClassId} {M : am_M} {d n0 n1 : Nat} {Q : Option am_V → am_H → Prop} {i : Nat} {lv : am_L} {st : List am_V} {σ : am_H}
theorem am_nret {pc nx : Nat} {xs : List Nat} {kk : Int} {x : Int} {ty : FieldType} (he : am_at M.2.2.2.2 i = some (pc, .ireturn, nx, xs, kk)) (hret : M.2.2.2.1 = some ty) (hz : narrow ty (.int (Int32.ofInt x)) = .int (Int32.ofInt x)) (hn : σ.1 = n1) (hq : Q (some (.inl x)) σ) : am_wp l dC dI tc M d n0 n1 Q i lv [.inl x] σ := by
  intro hok p e s m args below meth c ad0 A hB ad H locs ls hS
  have hd := am_oke_dec (hok i _ he) (fun a b c d h => by cases h)
  rw [show am_pcd M i = pc by unfold am_pcd; rw [he]]
  subst hn
  have hlocks := hB.2.2.2.2.2.2.1
  exact W.zret hB.1 hB.2.1 (hB.2.2.1.trans hret) hz (fun t ht hW => ⟨⟨some (.inl x), σ, ad, rfl, hq, hS.1, rfl, hS.hf, fun v hv => by cases hv; exact hS.vs.1, by rw [ht]; exact hS.2.2.2.1, hS.2.2.2.2.1⟩, hS.2.2.2.2.2.1.F ht⟩) hS.2.2.2.2.2.1.2.2 hd hlocks
theorem am_cnar {x : Int} (h : 0 ≤ x ∧ x < 65536) : narrow .char (.int (Int32.ofInt x)) = .int (Int32.ofInt x) := by
  have h1 := vp_nar_char (Int32.ofInt x)
  have h2 := am_i2c h
  show Value.int _ = Value.int _
  congr 1
set_option maxRecDepth 100000 in
set_option maxHeartbeats 4000000 in
theorem cj_coder   : am_Ct l dC dI tc mk_coder 0 σ.1 [(.inr (.inr (some 1000)))] σ (fun r s => r = some (.inl 0) ∧ s = σ) := by
  refine am_enter okj_coder rfl (by decide) (Nat.le_of_ble_eq_true rfl) rfl ?_
  refine am_gets (P := fun v => v = .inl 1) rfl (by decide +kernel) (fun ad0 A s h => ⟨.inl 1, h.2.2.2.1, ⟨by decide, by decide⟩, rfl⟩) (fun v hv => ?_)
  subst hv
  refine am_if rfl (fun c1 => by omega) (fun c1 => ?_)
  (refine am_go rfl (by first | exact True.intro | omega | exact ⟨by decide, Nat.le_of_ble_eq_true rfl, Nat.le_of_ble_eq_true rfl⟩ | exact ⟨by decide, Nat.le_of_ble_eq_true rfl⟩) ?_)
  refine am_coder (q := 0) rfl (by decide) (by decide +kernel) ?_
  (refine am_go rfl (by first | exact True.intro | omega | exact ⟨by decide, Nat.le_of_ble_eq_true rfl, Nat.le_of_ble_eq_true rfl⟩ | exact ⟨by decide, Nat.le_of_ble_eq_true rfl⟩) ?_)
  exact am_nret rfl rfl (by decide) rfl ⟨rfl, rfl⟩
set_option maxRecDepth 100000 in
set_option maxHeartbeats 4000000 in
theorem cj_isLatin1   : am_Ct l dC dI tc mk_isLatin1 0 σ.1 [(.inr (.inr (some 1000)))] σ (fun r s => r = some (.inl 1) ∧ s = σ) := by
  refine am_enter okj_isLatin1 rfl (by decide) (Nat.le_of_ble_eq_true rfl) rfl ?_
  refine am_gets (P := fun v => v = .inl 1) rfl (by decide +kernel) (fun ad0 A s h => ⟨.inl 1, h.2.2.2.1, ⟨by decide, by decide⟩, rfl⟩) (fun v hv => ?_)
  subst hv
  refine am_if rfl (fun c1 => by omega) (fun c1 => ?_)
  (refine am_go rfl (by first | exact True.intro | omega | exact ⟨by decide, Nat.le_of_ble_eq_true rfl, Nat.le_of_ble_eq_true rfl⟩ | exact ⟨by decide, Nat.le_of_ble_eq_true rfl⟩) ?_)
  refine am_coder (q := 0) rfl (by decide) (by decide +kernel) ?_
  refine am_if rfl (fun c1 => by omega) (fun c1 => ?_)
  iterate 2 (refine am_go rfl (by first | exact True.intro | omega | exact ⟨by decide, Nat.le_of_ble_eq_true rfl, Nat.le_of_ble_eq_true rfl⟩ | exact ⟨by decide, Nat.le_of_ble_eq_true rfl⟩) ?_)
  exact am_nret rfl rfl (by decide) rfl ⟨rfl, rfl⟩
set_option maxRecDepth 100000 in
set_option maxHeartbeats 4000000 in
theorem cj_length   : am_Ct l dC dI tc mk_length 1 σ.1 [(.inr (.inr (some 1000)))] σ (fun r s => r = some (.inl 9) ∧ s = σ) := by
  refine am_enter okj_length rfl (by decide) (Nat.le_of_ble_eq_true rfl) rfl ?_
  (refine am_go rfl (by first | exact True.intro | omega | exact ⟨by decide, Nat.le_of_ble_eq_true rfl, Nat.le_of_ble_eq_true rfl⟩ | exact ⟨by decide, Nat.le_of_ble_eq_true rfl⟩) ?_)
  refine am_value (q := 0) rfl (by decide) (by decide +kernel) ?_
  refine am_blen rfl ?_
  (refine am_go rfl (by first | exact True.intro | omega | exact ⟨by decide, Nat.le_of_ble_eq_true rfl, Nat.le_of_ble_eq_true rfl⟩ | exact ⟨by decide, Nat.le_of_ble_eq_true rfl⟩) ?_)
  (refine am_callJ (q := 0) (na := 1) rfl rfl (by decide) rfl (by decide +kernel) (by decide +kernel) (by decide +kernel) (by decide +kernel) (by decide +kernel) (by decide +kernel) (cj_coder) (by decide) (Nat.le_refl _) (Nat.le_of_ble_eq_true rfl) (fun rv s q => ?_))
  obtain ⟨rfl, rfl⟩ := q
  (refine am_go rfl (by first | exact True.intro | omega | exact ⟨by decide, Nat.le_of_ble_eq_true rfl, Nat.le_of_ble_eq_true rfl⟩ | exact ⟨by decide, Nat.le_of_ble_eq_true rfl⟩) ?_)
  exact am_iret rfl rfl rfl ⟨rfl, rfl⟩
set_option maxRecDepth 100000 in
set_option maxHeartbeats 4000000 in
theorem cj_pre (x y : Int) (o : Option Nat) (hx : 0 ≤ x ∧ x < y) : am_Ct l dC dI tc mk_pre 0 σ.1 [.inl x, .inl y, .inr (.inr o)] σ (fun r s => r = some (.inl x) ∧ s = σ) := by
  refine am_enter okj_pre rfl (by decide) (Nat.le_of_ble_eq_true rfl) rfl ?_
  (refine am_go rfl (by first | exact True.intro | omega | exact ⟨by decide, Nat.le_of_ble_eq_true rfl, Nat.le_of_ble_eq_true rfl⟩ | exact ⟨by decide, Nat.le_of_ble_eq_true rfl⟩) ?_)
  refine am_if rfl (fun c1 => by omega) (fun c1 => ?_)
  iterate 2 (refine am_go rfl (by first | exact True.intro | omega | exact ⟨by decide, Nat.le_of_ble_eq_true rfl, Nat.le_of_ble_eq_true rfl⟩ | exact ⟨by decide, Nat.le_of_ble_eq_true rfl⟩) ?_)
  refine am_if rfl (fun c1 => ?_) (fun c1 => by omega)
  (refine am_go rfl (by first | exact True.intro | omega | exact ⟨by decide, Nat.le_of_ble_eq_true rfl, Nat.le_of_ble_eq_true rfl⟩ | exact ⟨by decide, Nat.le_of_ble_eq_true rfl⟩) ?_)
  exact am_iret rfl rfl rfl ⟨rfl, rfl⟩
set_option maxRecDepth 100000 in
set_option maxHeartbeats 4000000 in
theorem cj_checkIndex (x y : Int) (hx : 0 ≤ x ∧ x < y) : am_Ct l dC dI tc mk_checkIndex 1 σ.1 [.inl x, .inl y] σ (fun r s => r = none ∧ s = σ) := by
  refine am_enter okj_checkIndex rfl (by decide) (Nat.le_of_ble_eq_true rfl) rfl ?_
  iterate 2 (refine am_go rfl (by first | exact True.intro | omega | exact ⟨by decide, Nat.le_of_ble_eq_true rfl, Nat.le_of_ble_eq_true rfl⟩ | exact ⟨by decide, Nat.le_of_ble_eq_true rfl⟩) ?_)
  refine am_gets (P := fun v => ∃ o, v = .inr (.inr o)) (C := "jdk/internal/util/Preconditions") (n := "SIOOBE_FORMATTER") (dd := "Ljava/util/function/BiFunction;") rfl (by decide +kernel) (fun ad0 A s h => ?_) (fun v hv => ?_)
  · obtain ⟨o, h1, h2⟩ := h.2.2.2.2 ("jdk/internal/util/Preconditions", "SIOOBE_FORMATTER", "Ljava/util/function/BiFunction;") (by decide)
    exact ⟨.inr (.inr o), h2, fun k hk => Or.inr (h1 k hk), o, rfl⟩
  · obtain ⟨o, rfl⟩ := hv
    (refine am_callT (na := 3) rfl rfl (by decide +kernel) (by decide +kernel) (by decide +kernel) (by decide +kernel) (by decide +kernel) (cj_pre x y o hx) (by decide) (Nat.le_refl _) (Nat.le_of_ble_eq_true rfl) (fun rv s q => ?_))
    obtain ⟨rfl, rfl⟩ := q
    refine am_pop rfl ?_
    exact am_vret (x := 0) rfl rfl rfl ⟨rfl, rfl⟩
set_option maxRecDepth 100000 in
set_option maxHeartbeats 4000000 in
theorem cj_lcharAt (x : Int) (hx : 0 ≤ x ∧ x < 9) : am_Ct l dC dI tc mk_lcharAt 2 σ.1 [(.inr (.inr (some 2000))), .inl x] σ (fun r s => r = some (.inl (zLet x)) ∧ s = σ) := by
  refine am_enter okj_lcharAt rfl (by decide) (Nat.le_of_ble_eq_true rfl) rfl ?_
  have hz := zLet_r x
  iterate 2 (refine am_go rfl (by first | exact True.intro | omega | exact ⟨by decide, Nat.le_of_ble_eq_true rfl, Nat.le_of_ble_eq_true rfl⟩ | exact ⟨by decide, Nat.le_of_ble_eq_true rfl⟩) ?_)
  refine am_blen rfl ?_
  (refine am_callT (na := 2) rfl rfl (by decide +kernel) (by decide +kernel) (by decide +kernel) (by decide +kernel) (by decide +kernel) (cj_checkIndex x 9 hx) (by decide) (Nat.le_refl _) (Nat.le_of_ble_eq_true rfl) (fun rv s q => ?_))
  obtain ⟨rfl, rfl⟩ := q
  iterate 2 (refine am_go rfl (by first | exact True.intro | omega | exact ⟨by decide, Nat.le_of_ble_eq_true rfl, Nat.le_of_ble_eq_true rfl⟩ | exact ⟨by decide, Nat.le_of_ble_eq_true rfl⟩) ?_)
  refine am_bald rfl hx ?_
  iterate 2 (refine am_go rfl (by first | exact True.intro | omega | exact ⟨by decide, Nat.le_of_ble_eq_true rfl, Nat.le_of_ble_eq_true rfl⟩ | exact ⟨by decide, Nat.le_of_ble_eq_true rfl⟩) ?_)
  have e1 : am_and (zLet x) 255 = zLet x := by
    unfold zLet
    repeat' split
    all_goals decide
  rw [e1]
  (refine am_go rfl (by first | exact True.intro | omega | exact ⟨by decide, Nat.le_of_ble_eq_true rfl, Nat.le_of_ble_eq_true rfl⟩ | exact ⟨by decide, Nat.le_of_ble_eq_true rfl⟩) ?_)
  exact am_nret rfl rfl (am_cnar (by omega)) rfl ⟨rfl, rfl⟩
set_option maxRecDepth 100000 in
set_option maxHeartbeats 4000000 in
theorem cj_charAt (x : Int) (hx : 0 ≤ x ∧ x < 9) : am_Ct l dC dI tc mk_charAt 3 σ.1 [(.inr (.inr (some 1000))), .inl x] σ (fun r s => r = some (.inl (zLet x)) ∧ s = σ) := by
  refine am_enter okj_charAt rfl (by decide) (Nat.le_of_ble_eq_true rfl) rfl ?_
  have hz := zLet_r x
  (refine am_go rfl (by first | exact True.intro | omega | exact ⟨by decide, Nat.le_of_ble_eq_true rfl, Nat.le_of_ble_eq_true rfl⟩ | exact ⟨by decide, Nat.le_of_ble_eq_true rfl⟩) ?_)
  (refine am_callJ (q := 0) (na := 1) rfl rfl (by decide) rfl (by decide +kernel) (by decide +kernel) (by decide +kernel) (by decide +kernel) (by decide +kernel) (by decide +kernel) (cj_isLatin1) (by decide) (Nat.le_refl _) (Nat.le_of_ble_eq_true rfl) (fun rv s q => ?_))
  obtain ⟨rfl, rfl⟩ := q
  refine am_if rfl (fun c1 => by omega) (fun c1 => ?_)
  (refine am_go rfl (by first | exact True.intro | omega | exact ⟨by decide, Nat.le_of_ble_eq_true rfl, Nat.le_of_ble_eq_true rfl⟩ | exact ⟨by decide, Nat.le_of_ble_eq_true rfl⟩) ?_)
  refine am_value (q := 0) rfl (by decide) (by decide +kernel) ?_
  (refine am_go rfl (by first | exact True.intro | omega | exact ⟨by decide, Nat.le_of_ble_eq_true rfl, Nat.le_of_ble_eq_true rfl⟩ | exact ⟨by decide, Nat.le_of_ble_eq_true rfl⟩) ?_)
  (refine am_callT (na := 2) rfl rfl (by decide +kernel) (by decide +kernel) (by decide +kernel) (by decide +kernel) (by decide +kernel) (cj_lcharAt x hx) (by decide) (Nat.le_refl _) (Nat.le_of_ble_eq_true rfl) (fun rv s q => ?_))
  obtain ⟨rfl, rfl⟩ := q
  exact am_nret rfl rfl (am_cnar (by omega)) rfl ⟨rfl, rfl⟩
set_option maxRecDepth 100000 in
set_option maxHeartbeats 4000000 in
theorem cj_canEncode (x : Int) (hx : 0 ≤ x ∧ x < 128) : am_Ct l dC dI tc mk_canEncode 0 σ.1 [.inl x] σ (fun r s => r = some (.inl 1) ∧ s = σ) := by
  refine am_enter okj_canEncode rfl (by decide) (Nat.le_of_ble_eq_true rfl) rfl ?_
  (refine am_go rfl (by first | exact True.intro | omega | exact ⟨by decide, Nat.le_of_ble_eq_true rfl, Nat.le_of_ble_eq_true rfl⟩ | exact ⟨by decide, Nat.le_of_ble_eq_true rfl⟩) ?_)
  refine am_if rfl (fun c1 => by omega) (fun c1 => ?_)
  iterate 2 (refine am_go rfl (by first | exact True.intro | omega | exact ⟨by decide, Nat.le_of_ble_eq_true rfl, Nat.le_of_ble_eq_true rfl⟩ | exact ⟨by decide, Nat.le_of_ble_eq_true rfl⟩) ?_)
  refine am_if rfl (fun c1 => by omega) (fun c1 => ?_)
  iterate 2 (refine am_go rfl (by first | exact True.intro | omega | exact ⟨by decide, Nat.le_of_ble_eq_true rfl, Nat.le_of_ble_eq_true rfl⟩ | exact ⟨by decide, Nat.le_of_ble_eq_true rfl⟩) ?_)
  exact am_nret rfl rfl (by decide) rfl ⟨rfl, rfl⟩
set_option maxRecDepth 100000 in
set_option maxHeartbeats 4000000 in
theorem cj_indexOfChar (x : Int) (hx : 0 ≤ x ∧ x < 128) : am_Ct l dC dI tc mk_indexOfChar 0 σ.1 [(.inr (.inr (some 2000))), .inl x, .inl 0, .inl 9] σ (fun r s => s = σ ∧ ∃ q, r = some (.inl q) ∧ zIxR x q) := by
  refine am_enter okj_indexOfChar rfl (by decide) (Nat.le_of_ble_eq_true rfl) rfl ?_
  have loop : ∀ (n : Nat) (j : Int), j + n = 9 → 0 ≤ j → (∀ t, 0 ≤ t → t < j → zLet t ≠ x) → am_wp l dC dI tc mk_indexOfChar 0 σ.1 σ.1 (fun r s => s = σ ∧ ∃ q, r = some (.inl q) ∧ zIxR x q) 5 [some (.inr (.inr (some 2000))), some (.inl x), some (.inl 0), some (.inl 9), some (.inl x), some (.inl j)] [] σ := by
    intro n
    induction n with
    | zero =>
      intro j hj h0 h
      iterate 2 (refine am_go rfl (by first | exact True.intro | omega | exact ⟨by decide, Nat.le_of_ble_eq_true rfl, Nat.le_of_ble_eq_true rfl⟩ | exact ⟨by decide, Nat.le_of_ble_eq_true rfl⟩) ?_)
      refine am_if rfl (fun c1 => ?_) (fun c1 => by omega)
      (refine am_go rfl (by first | exact True.intro | omega | exact ⟨by decide, Nat.le_of_ble_eq_true rfl, Nat.le_of_ble_eq_true rfl⟩ | exact ⟨by decide, Nat.le_of_ble_eq_true rfl⟩) ?_)
      exact am_iret rfl rfl rfl ⟨rfl, -1, rfl, Or.inr ⟨rfl, fun t t1 t2 => h t t1 (by omega)⟩⟩
    | succ n ih =>
      intro j hj h0 h
      iterate 2 (refine am_go rfl (by first | exact True.intro | omega | exact ⟨by decide, Nat.le_of_ble_eq_true rfl, Nat.le_of_ble_eq_true rfl⟩ | exact ⟨by decide, Nat.le_of_ble_eq_true rfl⟩) ?_)
      refine am_if rfl (fun c1 => by omega) (fun c1 => ?_)
      iterate 2 (refine am_go rfl (by first | exact True.intro | omega | exact ⟨by decide, Nat.le_of_ble_eq_true rfl, Nat.le_of_ble_eq_true rfl⟩ | exact ⟨by decide, Nat.le_of_ble_eq_true rfl⟩) ?_)
      refine am_bald rfl ⟨h0, by omega⟩ ?_
      (refine am_go rfl (by first | exact True.intro | omega | exact ⟨by decide, Nat.le_of_ble_eq_true rfl, Nat.le_of_ble_eq_true rfl⟩ | exact ⟨by decide, Nat.le_of_ble_eq_true rfl⟩) ?_)
      refine am_if rfl (fun c2 => ?_) (fun c2 => ?_)
      · iterate 2 (refine am_go rfl (by first | exact True.intro | omega | exact ⟨by decide, Nat.le_of_ble_eq_true rfl, Nat.le_of_ble_eq_true rfl⟩ | exact ⟨by decide, Nat.le_of_ble_eq_true rfl⟩) ?_)
        exact ih (j + 1) (by omega) (by omega) (fun t t1 t2 => by
          by_cases u : t = j
          · rw [u]; exact c2
          · exact h t t1 (by omega))
      · (refine am_go rfl (by first | exact True.intro | omega | exact ⟨by decide, Nat.le_of_ble_eq_true rfl, Nat.le_of_ble_eq_true rfl⟩ | exact ⟨by decide, Nat.le_of_ble_eq_true rfl⟩) ?_)
        exact am_iret rfl rfl rfl ⟨rfl, j, rfl, Or.inl ⟨h0, by omega, by omega⟩⟩
  (refine am_go rfl (by first | exact True.intro | omega | exact ⟨by decide, Nat.le_of_ble_eq_true rfl, Nat.le_of_ble_eq_true rfl⟩ | exact ⟨by decide, Nat.le_of_ble_eq_true rfl⟩) ?_)
  refine am_i2b rfl hx ?_
  iterate 3 (refine am_go rfl (by first | exact True.intro | omega | exact ⟨by decide, Nat.le_of_ble_eq_true rfl, Nat.le_of_ble_eq_true rfl⟩ | exact ⟨by decide, Nat.le_of_ble_eq_true rfl⟩) ?_)
  exact loop 9 0 (by omega) (by omega) (fun t t1 t2 => by omega)
theorem am_mmin {pc nx idx : Nat} {xs : List Nat} {kk : Int} {r : List am_V} (he : am_at M.2.2.2.2 i = some (pc, .invokestatic idx, nx, xs, kk)) (hl : am_isin (Cond.methodLink M.1.cls idx Lib.Math.min.name) = true) (l1 : am_isin (Cond.static Lib.Math.min.name) = true) (l2 : am_isin (Cond.initialized "java/lang/Math") = true) (l3 : am_isin (Cond.code Lib.Math.min.name Lib.Math.min.code 2 (some .int)) = true) (hd : 0 < d) (hr : r.length ≤ 8) (hc1 : σ.1 ≤ n1) (k : am_wp l dC dI tc M d n0 n1 Q nx lv (.inl 9 :: r) σ) : am_wp l dC dI tc M d n0 n1 Q i lv (.inl 9 :: .inl 9 :: r) σ := by
  intro hok p e s m args below meth c ad0 A hB ad H locs ls hS
  have ho := hok i _ he
  have hp : am_pcd M i = pc := by unfold am_pcd; rw [he]
  have hdc := am_oke_dec ho (fun a b c d h => by cases h)
  have hk := k hok p e s m args below meth c ad0 A hB ad H locs ls (hS.sk ⟨hS.vs.1, hS.vs.2.2⟩)
  rw [am_oke_nx ho rfl] at hk
  rw [hp]
  have hn0 := hS.2.1
  refine va_mmin (R := am_rm d n0 n1) hB.1 hB.2.1 (hB.2.2.2.1.trans hS.lh.1.symm) hB.2.2.2.2.1 (hB.2.2.2.2.2.1 _ (am_in_tb hl)) (hB.2.2.2.2.2.1 _ (am_in_tb l1)) (hB.2.2.2.2.2.1 _ (am_in_tb l2)) (hB.2.2.2.2.2.1 _ (am_in_tb l3)) hd ?_ ?_ ?_ hdc ?_
  · have := am_cats ad r
    show _ ≤ 35 * d
    omega
  · show σ.1 - n0 ≤ n1 - n0
    omega
  · have hm0 := am_sz_mono hn0
    have hm2 := am_sz_mono hc1
    show am_sz σ.1 - am_sz n0 ≤ am_sz n1 - am_sz n0
    omega
  · rw [ite_self]
    exact hk
set_option maxRecDepth 100000 in
set_option maxHeartbeats 4000000 in
theorem cj_lindexOf (x : Int) (hx : 0 ≤ x ∧ x < 128) : am_Ct l dC dI tc mk_lindexOf 1 σ.1 [(.inr (.inr (some 2000))), .inl x, .inl 0, .inl 9] σ (fun r s => s = σ ∧ ∃ q, r = some (.inl q) ∧ zIxR x q) := by
  refine am_enter okj_lindexOf rfl (by decide) (Nat.le_of_ble_eq_true rfl) rfl ?_
  (refine am_go rfl (by first | exact True.intro | omega | exact ⟨by decide, Nat.le_of_ble_eq_true rfl, Nat.le_of_ble_eq_true rfl⟩ | exact ⟨by decide, Nat.le_of_ble_eq_true rfl⟩) ?_)
  (refine am_callT (na := 1) rfl rfl (by decide +kernel) (by decide +kernel) (by decide +kernel) (by decide +kernel) (by decide +kernel) (cj_canEncode x hx) (by decide) (Nat.le_refl _) (Nat.le_of_ble_eq_true rfl) (fun rv s q => ?_))
  obtain ⟨rfl, rfl⟩ := q
  refine am_if rfl (fun c1 => ?_) (fun c1 => by omega)
  iterate 2 (refine am_go rfl (by first | exact True.intro | omega | exact ⟨by decide, Nat.le_of_ble_eq_true rfl, Nat.le_of_ble_eq_true rfl⟩ | exact ⟨by decide, Nat.le_of_ble_eq_true rfl⟩) ?_)
  refine am_go rfl ⟨by decide, Nat.le_of_ble_eq_true rfl, Nat.le_refl _⟩ ?_
  iterate 3 (refine am_go rfl (by first | exact True.intro | omega | exact ⟨by decide, Nat.le_of_ble_eq_true rfl, Nat.le_of_ble_eq_true rfl⟩ | exact ⟨by decide, Nat.le_of_ble_eq_true rfl⟩) ?_)
  refine am_blen rfl ?_
  refine am_mmin rfl (by decide +kernel) (by decide +kernel) (by decide +kernel) (by decide +kernel) (by decide) (Nat.le_of_ble_eq_true rfl) (Nat.le_refl _) ?_
  iterate 3 (refine am_go rfl (by first | exact True.intro | omega | exact ⟨by decide, Nat.le_of_ble_eq_true rfl, Nat.le_of_ble_eq_true rfl⟩ | exact ⟨by decide, Nat.le_of_ble_eq_true rfl⟩) ?_)
  refine am_if rfl (fun c1 => ?_) (fun c1 => by omega)
  iterate 4 (refine am_go rfl (by first | exact True.intro | omega | exact ⟨by decide, Nat.le_of_ble_eq_true rfl, Nat.le_of_ble_eq_true rfl⟩ | exact ⟨by decide, Nat.le_of_ble_eq_true rfl⟩) ?_)
  (refine am_callT (na := 4) rfl rfl (by decide +kernel) (by decide +kernel) (by decide +kernel) (by decide +kernel) (by decide +kernel) (cj_indexOfChar x hx) (by decide) (Nat.le_refl _) (Nat.le_of_ble_eq_true rfl) (fun rv s q => ?_))
  obtain ⟨rfl, q, rfl, hq⟩ := q
  exact am_iret rfl rfl rfl ⟨rfl, q, rfl, hq⟩
set_option maxRecDepth 100000 in
set_option maxHeartbeats 4000000 in
theorem cj_indexOf2 (x : Int) (hx : 0 ≤ x ∧ x < 128) : am_Ct l dC dI tc mk_indexOf2 2 σ.1 [(.inr (.inr (some 1000))), .inl x, .inl 0] σ (fun r s => s = σ ∧ ∃ q, r = some (.inl q) ∧ zIxR x q) := by
  refine am_enter okj_indexOf2 rfl (by decide) (Nat.le_of_ble_eq_true rfl) rfl ?_
  (refine am_go rfl (by first | exact True.intro | omega | exact ⟨by decide, Nat.le_of_ble_eq_true rfl, Nat.le_of_ble_eq_true rfl⟩ | exact ⟨by decide, Nat.le_of_ble_eq_true rfl⟩) ?_)
  (refine am_callJ (q := 0) (na := 1) rfl rfl (by decide) rfl (by decide +kernel) (by decide +kernel) (by decide +kernel) (by decide +kernel) (by decide +kernel) (by decide +kernel) (cj_isLatin1) (by decide) (Nat.le_refl _) (Nat.le_of_ble_eq_true rfl) (fun rv s q => ?_))
  obtain ⟨rfl, rfl⟩ := q
  refine am_if rfl (fun c1 => by omega) (fun c1 => ?_)
  (refine am_go rfl (by first | exact True.intro | omega | exact ⟨by decide, Nat.le_of_ble_eq_true rfl, Nat.le_of_ble_eq_true rfl⟩ | exact ⟨by decide, Nat.le_of_ble_eq_true rfl⟩) ?_)
  refine am_value (q := 0) rfl (by decide) (by decide +kernel) ?_
  iterate 3 (refine am_go rfl (by first | exact True.intro | omega | exact ⟨by decide, Nat.le_of_ble_eq_true rfl, Nat.le_of_ble_eq_true rfl⟩ | exact ⟨by decide, Nat.le_of_ble_eq_true rfl⟩) ?_)
  (refine am_callJ (q := 0) (na := 1) rfl rfl (by decide) rfl (by decide +kernel) (by decide +kernel) (by decide +kernel) (by decide +kernel) (by decide +kernel) (by decide +kernel) (cj_length) (by decide) (Nat.le_refl _) (Nat.le_of_ble_eq_true rfl) (fun rv s q => ?_))
  obtain ⟨rfl, rfl⟩ := q
  (refine am_callT (na := 4) rfl rfl (by decide +kernel) (by decide +kernel) (by decide +kernel) (by decide +kernel) (by decide +kernel) (cj_lindexOf x hx) (by decide) (Nat.le_refl _) (Nat.le_of_ble_eq_true rfl) (fun rv s q => ?_))
  obtain ⟨rfl, q, rfl, hq⟩ := q
  (refine am_go rfl (by first | exact True.intro | omega | exact ⟨by decide, Nat.le_of_ble_eq_true rfl, Nat.le_of_ble_eq_true rfl⟩ | exact ⟨by decide, Nat.le_of_ble_eq_true rfl⟩) ?_)
  exact am_iret rfl rfl rfl ⟨rfl, q, rfl, hq⟩
set_option maxRecDepth 100000 in
set_option maxHeartbeats 4000000 in
theorem cj_indexOf (x : Int) (hx : 0 ≤ x ∧ x < 128) : am_Ct l dC dI tc mk_indexOf 3 σ.1 [(.inr (.inr (some 1000))), .inl x] σ (fun r s => s = σ ∧ ∃ q, r = some (.inl q) ∧ zIxR x q) := by
  refine am_enter okj_indexOf rfl (by decide) (Nat.le_of_ble_eq_true rfl) rfl ?_
  iterate 3 (refine am_go rfl (by first | exact True.intro | omega | exact ⟨by decide, Nat.le_of_ble_eq_true rfl, Nat.le_of_ble_eq_true rfl⟩ | exact ⟨by decide, Nat.le_of_ble_eq_true rfl⟩) ?_)
  (refine am_callJ (q := 0) (na := 3) rfl rfl (by decide) rfl (by decide +kernel) (by decide +kernel) (by decide +kernel) (by decide +kernel) (by decide +kernel) (by decide +kernel) (cj_indexOf2 x hx) (by decide) (Nat.le_refl _) (Nat.le_of_ble_eq_true rfl) (fun rv s q => ?_))
  obtain ⟨rfl, q, rfl, hq⟩ := q
  exact am_iret rfl rfl rfl ⟨rfl, q, rfl, hq⟩
end Jdk2
end
section
/-! the reference: its plain methods -/
def mFit (f : Nat → Nat → Int) (g : Nat → Int → Int) (k v w : Int) : Prop := ∃ i, 0 ≤ i ∧ i < f 38 19 ∧ g 51 (3 * i) = k ∧ g 51 (3 * i + 1) = v ∧ g 51 (3 * i + 2) = w
section Mod
variable {l : Launch} {dC : Nat → ClassId} {dI : Nat → Nat → Nat} {tc : Nat → ClassId} {f : Nat → Nat → Int} {g : Nat → Int → Int} {a b c : Nat}
set_option maxRecDepth 100000 in
set_option maxHeartbeats 4000000 in
theorem cm_thrown   : am_Ct l dC dI tc mm6_thrown 0 58 [(.inr (.inr (some 38)))] (58, f, g, pr_r a b c) (fun r s => r = some (.inl (f 38 0)) ∧ s = (58, f, g, pr_r a b c)) := by
  refine am_enter ok_6_thrown rfl (by decide) (Nat.le_of_ble_eq_true rfl) rfl ?_
  repeat' first
    | (refine am_id ?_; simp (config := { decide := true }) only [am_u1_s, am_u1_j, am_u1_c, am_u3_s, am_u3_c])
    | (refine am_go rfl (by first | exact True.intro | omega | exact ⟨by decide, Nat.le_of_ble_eq_true rfl, Nat.le_of_ble_eq_true rfl⟩ | exact ⟨by decide, Nat.le_of_ble_eq_true rfl⟩) ?_)
    | (refine am_if rfl (fun c1 => ?_) (fun c1 => ?_))
    | (refine am_iret rfl rfl rfl ?_)
    | (refine am_zret rfl rfl (by first | exact Or.inl rfl | exact Or.inr rfl) rfl ?_)
    | (refine am_lret rfl rfl rfl ?_)
    | (refine am_vret (x := 0) rfl rfl rfl ?_)
  all_goals (first | exact ⟨rfl, rfl⟩ | (rw [if_pos (by omega), if_pos (by omega)]; exact ⟨rfl, rfl⟩) | (rw [if_neg (by omega), if_neg (by omega)]; exact ⟨rfl, rfl⟩) | (rw [if_pos (by omega)]; exact ⟨rfl, rfl⟩) | (rw [if_neg (by omega)]; exact ⟨rfl, rfl⟩))
set_option maxRecDepth 100000 in
set_option maxHeartbeats 4000000 in
theorem cm_wrong   : am_Ct l dC dI tc mm6_wrong 0 58 [(.inr (.inr (some 38)))] (58, f, g, pr_r a b c) (fun r s => r = some (.inl (f 38 3)) ∧ s = (58, am_u1 f 38 0 0, g, pr_r a b c)) := by
  refine am_enter ok_6_wrong rfl (by decide) (Nat.le_of_ble_eq_true rfl) rfl ?_
  repeat' first
    | (refine am_id ?_; simp (config := { decide := true }) only [am_u1_s, am_u1_j, am_u1_c, am_u3_s, am_u3_c])
    | (refine am_go rfl (by first | exact True.intro | omega | exact ⟨by decide, Nat.le_of_ble_eq_true rfl, Nat.le_of_ble_eq_true rfl⟩ | exact ⟨by decide, Nat.le_of_ble_eq_true rfl⟩) ?_)
    | (refine am_if rfl (fun c1 => ?_) (fun c1 => ?_))
    | (refine am_iret rfl rfl rfl ?_)
    | (refine am_zret rfl rfl (by first | exact Or.inl rfl | exact Or.inr rfl) rfl ?_)
    | (refine am_lret rfl rfl rfl ?_)
    | (refine am_vret (x := 0) rfl rfl rfl ?_)
  all_goals (first | exact ⟨rfl, rfl⟩ | (rw [if_pos (by omega), if_pos (by omega)]; exact ⟨rfl, rfl⟩) | (rw [if_neg (by omega), if_neg (by omega)]; exact ⟨rfl, rfl⟩) | (rw [if_pos (by omega)]; exact ⟨rfl, rfl⟩) | (rw [if_neg (by omega)]; exact ⟨rfl, rfl⟩))
set_option maxRecDepth 100000 in
set_option maxHeartbeats 4000000 in
theorem cm_clear   : am_Ct l dC dI tc mm6_clear 0 58 [(.inr (.inr (some 38)))] (58, f, g, pr_r a b c) (fun r s => r = some (.inl (f 38 13)) ∧ s = (58, am_u1 (am_u1 (am_u1 f 38 0 0) 38 13 0) 38 21 0, g, pr_r a b c)) := by
  refine am_enter ok_6_clear rfl (by decide) (Nat.le_of_ble_eq_true rfl) rfl ?_
  repeat' first
    | (refine am_id ?_; simp (config := { decide := true }) only [am_u1_s, am_u1_j, am_u1_c, am_u3_s, am_u3_c])
    | (refine am_go rfl (by first | exact True.intro | omega | exact ⟨by decide, Nat.le_of_ble_eq_true rfl, Nat.le_of_ble_eq_true rfl⟩ | exact ⟨by decide, Nat.le_of_ble_eq_true rfl⟩) ?_)
    | (refine am_if rfl (fun c1 => ?_) (fun c1 => ?_))
    | (refine am_iret rfl rfl rfl ?_)
    | (refine am_zret rfl rfl (by first | exact Or.inl rfl | exact Or.inr rfl) rfl ?_)
    | (refine am_lret rfl rfl rfl ?_)
    | (refine am_vret (x := 0) rfl rfl rfl ?_)
  all_goals (first | exact ⟨rfl, rfl⟩ | (rw [if_pos (by omega), if_pos (by omega)]; exact ⟨rfl, rfl⟩) | (rw [if_neg (by omega), if_neg (by omega)]; exact ⟨rfl, rfl⟩) | (rw [if_pos (by omega)]; exact ⟨rfl, rfl⟩) | (rw [if_neg (by omega)]; exact ⟨rfl, rfl⟩))
set_option maxRecDepth 100000 in
set_option maxHeartbeats 4000000 in
theorem cm_at (x : Int) (h8 : f 38 28 ≤ 80) : am_Ct l dC dI tc mm6_at 0 58 [(.inr (.inr (some 38))), .inl x] (58, f, g, pr_r a b c) (fun r s => r = some (.inl (if 0 ≤ x ∧ x < f 38 28 then g 57 x else -1)) ∧ s = (58, am_u1 f 38 0 0, g, pr_r a b c)) := by
  refine am_enter ok_6_at rfl (by decide) (Nat.le_of_ble_eq_true rfl) rfl ?_
  repeat' first
    | (refine am_id ?_; simp (config := { decide := true }) only [am_u1_s, am_u1_j, am_u1_c, am_u3_s, am_u3_c])
    | (refine am_go rfl (by first | exact True.intro | omega | exact ⟨by decide, Nat.le_of_ble_eq_true rfl, Nat.le_of_ble_eq_true rfl⟩ | exact ⟨by decide, Nat.le_of_ble_eq_true rfl⟩) ?_)
    | (refine am_if rfl (fun c1 => ?_) (fun c1 => ?_))
    | (refine am_iret rfl rfl rfl ?_)
    | (refine am_zret rfl rfl (by first | exact Or.inl rfl | exact Or.inr rfl) rfl ?_)
    | (refine am_lret rfl rfl rfl ?_)
    | (refine am_vret (x := 0) rfl rfl rfl ?_)
  all_goals (first | exact ⟨rfl, rfl⟩ | (rw [if_pos (by omega)]; exact ⟨rfl, rfl⟩) | (rw [if_neg (by omega)]; exact ⟨rfl, rfl⟩))
set_option maxRecDepth 100000 in
set_option maxHeartbeats 4000000 in
theorem cm_sign (x : Int) (hl : 0 ≤ f 38 1 ∧ f 38 1 ≤ 60) : am_Ct l dC dI tc mm6_sign 0 58 [(.inr (.inr (some 38))), .inl x] (58, f, g, pr_r a b c) (fun r s => r = some (.inl (if (x < 32 ∨ 126 < x ∨ f 38 1 = 60) then 0 else 1)) ∧ s = (if (x < 32 ∨ 126 < x ∨ f 38 1 = 60) then (58, am_u1 f 38 0 0, g, pr_r a b c) else (58, am_u1 (am_u1 f 38 0 0) 38 1 (f 38 1 + 1), am_u3 g 39 (f 38 1) x, pr_r a b c))) := by
  refine am_enter ok_6_sign rfl (by decide) (Nat.le_of_ble_eq_true rfl) rfl ?_
  repeat' first
    | (refine am_id ?_; simp (config := { decide := true }) only [am_u1_s, am_u1_j, am_u1_c, am_u3_s, am_u3_c])
    | (refine am_go rfl (by first | exact True.intro | omega | exact ⟨by decide, Nat.le_of_ble_eq_true rfl, Nat.le_of_ble_eq_true rfl⟩ | exact ⟨by decide, Nat.le_of_ble_eq_true rfl⟩) ?_)
    | (refine am_if rfl (fun c1 => ?_) (fun c1 => ?_))
    | (refine am_iret rfl rfl rfl ?_)
    | (refine am_zret rfl rfl (by first | exact Or.inl rfl | exact Or.inr rfl) rfl ?_)
    | (refine am_lret rfl rfl rfl ?_)
    | (refine am_vret (x := 0) rfl rfl rfl ?_)
  all_goals (first | exact ⟨rfl, rfl⟩ | (rw [if_pos (by omega), if_pos (by omega)]; exact ⟨rfl, rfl⟩) | (rw [if_neg (by omega), if_neg (by omega)]; exact ⟨rfl, rfl⟩) | (rw [if_pos (by omega)]; exact ⟨rfl, rfl⟩) | (rw [if_neg (by omega)]; exact ⟨rfl, rfl⟩))
set_option maxRecDepth 100000 in
set_option maxHeartbeats 4000000 in
theorem cm_put (x : Int) (h9 : 0 ≤ f 38 28 ∧ f 38 28 < 80) : am_Ct l dC dI tc mm6_put 0 58 [(.inr (.inr (some 38))), .inl x] (58, f, g, pr_r a b c) (fun r s => r = none ∧ s = (58, am_u1 f 38 28 (f 38 28 + 1), am_u3 g 57 (f 38 28) x, pr_r a b c)) := by
  refine am_enter ok_6_put rfl (by decide) (Nat.le_of_ble_eq_true rfl) rfl ?_
  repeat' first
    | (refine am_id ?_; simp (config := { decide := true }) only [am_u1_s, am_u1_j, am_u1_c, am_u3_s, am_u3_c])
    | (refine am_go rfl (by first | exact True.intro | omega | exact ⟨by decide, Nat.le_of_ble_eq_true rfl, Nat.le_of_ble_eq_true rfl⟩ | exact ⟨by decide, Nat.le_of_ble_eq_true rfl⟩) ?_)
    | (refine am_if rfl (fun c1 => ?_) (fun c1 => ?_))
    | (refine am_iret rfl rfl rfl ?_)
    | (refine am_zret rfl rfl (by first | exact Or.inl rfl | exact Or.inr rfl) rfl ?_)
    | (refine am_lret rfl rfl rfl ?_)
    | (refine am_vret (x := 0) rfl rfl rfl ?_)
  all_goals (first | exact ⟨rfl, rfl⟩ | omega)
set_option maxRecDepth 100000 in
set_option maxHeartbeats 4000000 in
theorem cm_letter (x : Int) : am_Ct l dC dI tc mm6_letter 0 58 [.inl x] (58, f, g, pr_r a b c) (fun r s => r = some (.inl (zLet x)) ∧ s = (58, f, g, pr_r a b c)) := by
  refine am_enter ok_6_letter rfl (by decide) (Nat.le_of_ble_eq_true rfl) rfl ?_
  (refine am_go rfl (by first | exact True.intro | omega | exact ⟨by decide, Nat.le_of_ble_eq_true rfl, Nat.le_of_ble_eq_true rfl⟩ | exact ⟨by decide, Nat.le_of_ble_eq_true rfl⟩) ?_)
  refine am_sw rfl (by decide +kernel) (fun h => ?_) (fun j t hj hx => ?_)
  · have e : zLet x = 76 := by
      unfold zLet
      repeat' split
      all_goals omega
    (refine am_go rfl (by first | exact True.intro | omega | exact ⟨by decide, Nat.le_of_ble_eq_true rfl, Nat.le_of_ble_eq_true rfl⟩ | exact ⟨by decide, Nat.le_of_ble_eq_true rfl⟩) ?_)
    rw [← e]
    exact am_iret rfl rfl rfl ⟨rfl, rfl⟩
  · rcases j with _ | _ | _ | _ | _ | _ | _ | _ | j
    all_goals first
      | (cases hj; subst hx; (refine am_go rfl (by first | exact True.intro | omega | exact ⟨by decide, Nat.le_of_ble_eq_true rfl, Nat.le_of_ble_eq_true rfl⟩ | exact ⟨by decide, Nat.le_of_ble_eq_true rfl⟩) ?_); exact am_iret rfl rfl rfl ⟨rfl, rfl⟩)
      | (simp [am_at] at hj)
set_option maxRecDepth 100000 in
set_option maxHeartbeats 4000000 in
theorem cm_alternative (x y : Int) (hx : 0 ≤ x ∧ x < 10) (h5 : 0 ≤ g 55 x ∧ g 55 x ≤ 6) (h6 : 0 ≤ g 56 x ∧ g 56 x ≤ 6) (hy : -1 ≤ y ∧ y ≤ 4) : am_Ct l dC dI tc mm6_alternative 0 58 [(.inr (.inr (some 38))), .inl x, .inl y] (58, f, g, pr_r a b c) (fun r s => r = some (.inl (4 * (5 * g 55 x + g 56 x) + y)) ∧ s = (58, f, g, pr_r a b c)) := by
  refine am_enter ok_6_alternative rfl (by decide) (Nat.le_of_ble_eq_true rfl) rfl ?_
  repeat' first
    | (refine am_id ?_; simp (config := { decide := true }) only [am_u1_s, am_u1_j, am_u1_c, am_u3_s, am_u3_c])
    | (refine am_go rfl (by first | exact True.intro | omega | exact ⟨by decide, Nat.le_of_ble_eq_true rfl, Nat.le_of_ble_eq_true rfl⟩ | exact ⟨by decide, Nat.le_of_ble_eq_true rfl⟩) ?_)
    | (refine am_if rfl (fun c1 => ?_) (fun c1 => ?_))
    | (refine am_iret rfl rfl rfl ?_)
    | (refine am_zret rfl rfl (by first | exact Or.inl rfl | exact Or.inr rfl) rfl ?_)
    | (refine am_lret rfl rfl rfl ?_)
    | (refine am_vret (x := 0) rfl rfl rfl ?_)
  all_goals (first | exact ⟨rfl, rfl⟩ | (rw [if_pos (by omega), if_pos (by omega)]; exact ⟨rfl, rfl⟩) | (rw [if_neg (by omega), if_neg (by omega)]; exact ⟨rfl, rfl⟩) | (rw [if_pos (by omega)]; exact ⟨rfl, rfl⟩) | (rw [if_neg (by omega)]; exact ⟨rfl, rfl⟩))
set_option maxRecDepth 100000 in
set_option maxHeartbeats 4000000 in
theorem cm_isFit (x y z : Int) (hc : 0 ≤ f 38 19 ∧ f 38 19 ≤ 60) : am_Ct l dC dI tc mm6_isFit 0 58 [(.inr (.inr (some 38))), .inl x, .inl y, .inl z] (58, f, g, pr_r a b c) (fun r s => (s = (58, f, g, pr_r a b c) ∧ ((r = some (.inl 1) ∧ mFit f g x y z) ∨ (r = some (.inl 0) ∧ ¬ mFit f g x y z)))) := by
  refine am_enter ok_6_isFit rfl (by decide) (Nat.le_of_ble_eq_true rfl) rfl ?_
  have loop : ∀ (n : Nat) (i b0 : Int), i + n = f 38 19 → 0 ≤ i → ((b0 = 1 ∧ mFit f g x y z) ∨ (b0 = 0 ∧ ∀ j, 0 ≤ j → j < i → ¬ (g 51 (3 * j) = x ∧ g 51 (3 * j + 1) = y ∧ g 51 (3 * j + 2) = z))) → am_wp l dC dI tc mm6_isFit 0 58 58 (fun r s => (s = (58, f, g, pr_r a b c) ∧ ((r = some (.inl 1) ∧ mFit f g x y z) ∨ (r = some (.inl 0) ∧ ¬ mFit f g x y z)))) 4 [some (.inr (.inr (some 38))), some (.inl x), some (.inl y), some (.inl z), some (.inl b0), some (.inl i)] [] (58, f, g, pr_r a b c) := by
    intro n
    induction n with
    | zero =>
      intro i b0 hi h0 h
      iterate 3 (refine am_go rfl (by first | exact True.intro | omega | exact ⟨by decide, Nat.le_of_ble_eq_true rfl, Nat.le_of_ble_eq_true rfl⟩ | exact ⟨by decide, Nat.le_of_ble_eq_true rfl⟩) ?_)
      refine am_if rfl (fun c1 => ?_) (fun c1 => by omega)
      (refine am_go rfl (by first | exact True.intro | omega | exact ⟨by decide, Nat.le_of_ble_eq_true rfl, Nat.le_of_ble_eq_true rfl⟩ | exact ⟨by decide, Nat.le_of_ble_eq_true rfl⟩) ?_)
      rcases h with ⟨rfl, h⟩ | ⟨rfl, h⟩
      · exact am_zret rfl rfl (Or.inr rfl) rfl ⟨rfl, Or.inl ⟨rfl, h⟩⟩
      · exact am_zret rfl rfl (Or.inl rfl) rfl ⟨rfl, Or.inr ⟨rfl, fun ⟨j, j1, j2, j3⟩ => h j j1 (by omega) j3⟩⟩
    | succ n ih =>
      intro i b0 hi h0 h
      iterate 3 (refine am_go rfl (by first | exact True.intro | omega | exact ⟨by decide, Nat.le_of_ble_eq_true rfl, Nat.le_of_ble_eq_true rfl⟩ | exact ⟨by decide, Nat.le_of_ble_eq_true rfl⟩) ?_)
      refine am_if rfl (fun c1 => by omega) (fun c1 => ?_)
      (refine am_go rfl (by first | exact True.intro | omega | exact ⟨by decide, Nat.le_of_ble_eq_true rfl, Nat.le_of_ble_eq_true rfl⟩ | exact ⟨by decide, Nat.le_of_ble_eq_true rfl⟩) ?_)
      rcases h with ⟨rfl, h⟩ | ⟨rfl, h⟩
      · refine am_if rfl (fun c2 => ?_) (fun c2 => by omega)
        iterate 5 (refine am_go rfl (by first | exact True.intro | omega | exact ⟨by decide, Nat.le_of_ble_eq_true rfl, Nat.le_of_ble_eq_true rfl⟩ | exact ⟨by decide, Nat.le_of_ble_eq_true rfl⟩) ?_)
        exact ih (i + 1) 1 (by omega) (by omega) (Or.inl ⟨rfl, h⟩)
      · refine am_if rfl (fun c2 => by omega) (fun c2 => ?_)
        have no : ¬ (g 51 (3 * i) = x ∧ g 51 (3 * i + 1) = y ∧ g 51 (3 * i + 2) = z) → ∀ j, 0 ≤ j → j < i + 1 → ¬ (g 51 (3 * j) = x ∧ g 51 (3 * j + 1) = y ∧ g 51 (3 * j + 2) = z) := by
          intro hn j j1 j2
          by_cases u : j = i
          · rw [u]; exact hn
          · exact h j j1 (by omega)
        iterate 7 (refine am_go rfl (by first | exact True.intro | omega | exact ⟨by decide, Nat.le_of_ble_eq_true rfl, Nat.le_of_ble_eq_true rfl⟩ | exact ⟨by decide, Nat.le_of_ble_eq_true rfl⟩) ?_)
        refine am_if rfl (fun c3 => ?_) (fun c3 => ?_)
        · iterate 4 (refine am_go rfl (by first | exact True.intro | omega | exact ⟨by decide, Nat.le_of_ble_eq_true rfl, Nat.le_of_ble_eq_true rfl⟩ | exact ⟨by decide, Nat.le_of_ble_eq_true rfl⟩) ?_)
          exact ih (i + 1) 0 (by omega) (by omega) (Or.inr ⟨rfl, no (fun u => c3 u.1)⟩)
        · iterate 9 (refine am_go rfl (by first | exact True.intro | omega | exact ⟨by decide, Nat.le_of_ble_eq_true rfl, Nat.le_of_ble_eq_true rfl⟩ | exact ⟨by decide, Nat.le_of_ble_eq_true rfl⟩) ?_)
          refine am_if rfl (fun c4 => ?_) (fun c4 => ?_)
          · iterate 4 (refine am_go rfl (by first | exact True.intro | omega | exact ⟨by decide, Nat.le_of_ble_eq_true rfl, Nat.le_of_ble_eq_true rfl⟩ | exact ⟨by decide, Nat.le_of_ble_eq_true rfl⟩) ?_)
            exact ih (i + 1) 0 (by omega) (by omega) (Or.inr ⟨rfl, no (fun u => c4 u.2.1)⟩)
          · iterate 9 (refine am_go rfl (by first | exact True.intro | omega | exact ⟨by decide, Nat.le_of_ble_eq_true rfl, Nat.le_of_ble_eq_true rfl⟩ | exact ⟨by decide, Nat.le_of_ble_eq_true rfl⟩) ?_)
            refine am_if rfl (fun c5 => ?_) (fun c5 => ?_)
            · iterate 4 (refine am_go rfl (by first | exact True.intro | omega | exact ⟨by decide, Nat.le_of_ble_eq_true rfl, Nat.le_of_ble_eq_true rfl⟩ | exact ⟨by decide, Nat.le_of_ble_eq_true rfl⟩) ?_)
              exact ih (i + 1) 0 (by omega) (by omega) (Or.inr ⟨rfl, no (fun u => c5 u.2.2)⟩)
            · iterate 5 (refine am_go rfl (by first | exact True.intro | omega | exact ⟨by decide, Nat.le_of_ble_eq_true rfl, Nat.le_of_ble_eq_true rfl⟩ | exact ⟨by decide, Nat.le_of_ble_eq_true rfl⟩) ?_)
              exact ih (i + 1) 1 (by omega) (by omega) (Or.inl ⟨rfl, i, h0, by omega, by omega, by omega, by omega⟩)
  iterate 4 (refine am_go rfl (by first | exact True.intro | omega | exact ⟨by decide, Nat.le_of_ble_eq_true rfl, Nat.le_of_ble_eq_true rfl⟩ | exact ⟨by decide, Nat.le_of_ble_eq_true rfl⟩) ?_)
  exact loop (f 38 19).toNat 0 0 (by omega) (by omega) (Or.inr ⟨rfl, fun j _ _ => by omega⟩)
set_option maxRecDepth 100000 in
set_option maxHeartbeats 4000000 in
theorem cm_fits (x y z : Int) (hc : 0 ≤ f 38 19 ∧ f 38 19 ≤ 60) : am_Ct l dC dI tc mm6_fits 1 58 [(.inr (.inr (some 38))), .inl x, .inl y, .inl z] (58, f, g, pr_r a b c) (fun r s => ((((x ≠ 2 ∧ x ≠ 6) ∨ (y < 0 ∨ 1000 ≤ y) ∨ z < 0 ∨ 1000 ≤ z) ∨ 60 ≤ f 38 19 ∨ mFit f g x y z) ∧ r = some (.inl 0) ∧ s = (58, (am_u1 f 38 0 0), g, pr_r a b c)) ∨ (¬ (((x ≠ 2 ∧ x ≠ 6) ∨ (y < 0 ∨ 1000 ≤ y) ∨ z < 0 ∨ 1000 ≤ z) ∨ 60 ≤ f 38 19 ∨ mFit f g x y z) ∧ r = some (.inl 1) ∧ s = (58, am_u1 (am_u1 (am_u1 f 38 0 0) 38 19 (f 38 19 + 1)) 38 21 0, am_u3 (am_u3 (am_u3 g 51 (3 * f 38 19) x) 51 (3 * f 38 19 + 1) y) 51 (3 * f 38 19 + 2) z, pr_r a b c))) := by
  have hf0 : (am_u1 f 38 0 0) 38 19 = f 38 19 := am_u1_j (by decide)
  have hm : mFit (am_u1 f 38 0 0) g x y z ↔ mFit f g x y z := by
    unfold mFit
    rw [hf0]
  refine am_enter ok_6_fits rfl (by decide) (Nat.le_of_ble_eq_true rfl) rfl ?_
  repeat' first
    | (refine am_id ?_; simp (config := { decide := true }) only [am_u1_s, am_u1_j, am_u1_c, am_u3_s, am_u3_c])
    | (refine am_go rfl (by first | exact True.intro | omega | exact ⟨by decide, Nat.le_of_ble_eq_true rfl, Nat.le_of_ble_eq_true rfl⟩ | exact ⟨by decide, Nat.le_of_ble_eq_true rfl⟩) ?_)
    | (refine am_if rfl (fun c1 => ?_) (fun c1 => ?_))
    | (refine am_iret rfl rfl rfl ?_)
    | (refine am_zret rfl rfl (by first | exact Or.inl rfl | exact Or.inr rfl) rfl ?_)
    | (refine am_lret rfl rfl rfl ?_)
    | (refine am_vret (x := 0) rfl rfl rfl ?_)
  all_goals first | (exact Or.inl ⟨Or.inl (by omega), rfl, rfl⟩) | (exact Or.inl ⟨Or.inr (Or.inl (by omega)), rfl, rfl⟩) | skip
  all_goals (refine am_call rfl (cm_isFit x y z (by rw [hf0]; exact hc)) (by decide) (Nat.le_of_ble_eq_true rfl) (Nat.le_of_ble_eq_true rfl) (Nat.le_of_ble_eq_true rfl) (fun rv s q => ?_); rcases q with ⟨rfl, ⟨rfl, q1⟩ | ⟨rfl, q1⟩⟩)
  all_goals (rw [hm] at q1)
  all_goals (repeat' first | (refine am_id ?_; simp (config := { decide := true }) only [am_u1_s, am_u1_j, am_u1_c, am_u3_s, am_u3_c]) | (refine am_go rfl (by first | exact True.intro | omega | exact ⟨by decide, Nat.le_of_ble_eq_true rfl, Nat.le_of_ble_eq_true rfl⟩ | exact ⟨by decide, Nat.le_of_ble_eq_true rfl⟩) ?_) | (refine am_if rfl (fun c1 => ?_) (fun c1 => ?_)) | (refine am_zret rfl rfl (by first | exact Or.inl rfl | exact Or.inr rfl) rfl ?_))
  all_goals first | (exact Or.inl ⟨Or.inr (Or.inr q1), rfl, rfl⟩) | (refine Or.inr ⟨fun u => u.elim (fun u => by omega) (fun u => u.elim (fun u => by omega) q1), rfl, rfl⟩) | omega
end Mod
end
section
/-! the reference has the class's form, lines and pairs -/
def zD (f : Nat → Nat → Int) (g : Nat → Int → Int) : Prop :=
  (f 38 5 = f 2 0) ∧
  (∀ k, 0 ≤ k → k < f 2 0 → g 40 k = g 3 k) ∧
  (∀ k, 0 ≤ k → k < f 2 0 → g 42 k = g 4 k) ∧
  (∀ k, 0 ≤ k → k < f 2 0 → (g 5 k = 1 ↔ (k + 1 = f 2 0 ∨ g 41 (k + 1) ≠ g 41 k))) ∧
  (f 38 13 = f 12 0) ∧
  (∀ y, 0 ≤ y → y < f 12 0 → g 46 y = g 13 y) ∧
  (∀ y z, 0 ≤ y → y < f 12 0 → 0 ≤ z → z < g 13 y → g 47 (5 * y + z) = g 14 (y * 5 + z)) ∧
  (∀ y z i, 0 ≤ y → y < f 12 0 → 0 ≤ z → z < g 13 y → 0 ≤ i → i < g 14 (y * 5 + z) → g 48 (4 * (5 * y + z) + i) = g 15 (zAlt y z i) ∧ g 49 (4 * (5 * y + z) + i) = g 16 (zAlt y z i) ∧ g 50 (4 * (5 * y + z) + i) = g 17 (zAlt y z i)) ∧
  (f 38 19 = f 18 0) ∧
  (∀ i, 0 ≤ i → i < f 18 0 → g 51 (3 * i) = g 19 i ∧ g 51 (3 * i + 1) = g 20 i ∧ g 51 (3 * i + 2) = g 21 i) ∧
  (0 < f 2 0 → g 41 0 = 0) ∧
  (∀ k, 0 ≤ k → k + 1 < f 2 0 → g 41 (k + 1) = g 41 k ∨ g 41 (k + 1) = g 41 k + 1) ∧
  (0 < f 2 0 → f 38 4 = g 41 (f 2 0 - 1) + 1) ∧
  (∀ j k, 0 ≤ j → j < f 2 0 → 0 ≤ k → k < f 2 0 → g 3 j = g 3 k → j = k)
theorem zD.pn {f : Nat → Nat → Int} {g : Nat → Int → Int} (h : zD f g) : f 38 5 = f 2 0 := h.1
theorem zD.kd {f : Nat → Nat → Int} {g : Nat → Int → Int} (h : zD f g) : ∀ k, 0 ≤ k → k < f 2 0 → g 40 k = g 3 k := h.2.1
theorem zD.ms {f : Nat → Nat → Int} {g : Nat → Int → Int} (h : zD f g) : ∀ k, 0 ≤ k → k < f 2 0 → g 42 k = g 4 k := h.2.2.1
theorem zD.en {f : Nat → Nat → Int} {g : Nat → Int → Int} (h : zD f g) : ∀ k, 0 ≤ k → k < f 2 0 → (g 5 k = 1 ↔ (k + 1 = f 2 0 ∨ g 41 (k + 1) ≠ g 41 k)) := h.2.2.2.1
theorem zD.ln {f : Nat → Nat → Int} {g : Nat → Int → Int} (h : zD f g) : f 38 13 = f 12 0 := h.2.2.2.2.1
theorem zD.pl {f : Nat → Nat → Int} {g : Nat → Int → Int} (h : zD f g) : ∀ y, 0 ≤ y → y < f 12 0 → g 46 y = g 13 y := h.2.2.2.2.2.1
theorem zD.na {f : Nat → Nat → Int} {g : Nat → Int → Int} (h : zD f g) : ∀ y z, 0 ≤ y → y < f 12 0 → 0 ≤ z → z < g 13 y → g 47 (5 * y + z) = g 14 (y * 5 + z) := h.2.2.2.2.2.2.1
theorem zD.al {f : Nat → Nat → Int} {g : Nat → Int → Int} (h : zD f g) : ∀ y z i, 0 ≤ y → y < f 12 0 → 0 ≤ z → z < g 13 y → 0 ≤ i → i < g 14 (y * 5 + z) → g 48 (4 * (5 * y + z) + i) = g 15 (zAlt y z i) ∧ g 49 (4 * (5 * y + z) + i) = g 16 (zAlt y z i) ∧ g 50 (4 * (5 * y + z) + i) = g 17 (zAlt y z i) := h.2.2.2.2.2.2.2.1
theorem zD.tn {f : Nat → Nat → Int} {g : Nat → Int → Int} (h : zD f g) : f 38 19 = f 18 0 := h.2.2.2.2.2.2.2.2.1
theorem zD.td {f : Nat → Nat → Int} {g : Nat → Int → Int} (h : zD f g) : ∀ i, 0 ≤ i → i < f 18 0 → g 51 (3 * i) = g 19 i ∧ g 51 (3 * i + 1) = g 20 i ∧ g 51 (3 * i + 2) = g 21 i := h.2.2.2.2.2.2.2.2.2.1
theorem zD.r0 {f : Nat → Nat → Int} {g : Nat → Int → Int} (h : zD f g) : 0 < f 2 0 → g 41 0 = 0 := h.2.2.2.2.2.2.2.2.2.2.1
theorem zD.rs {f : Nat → Nat → Int} {g : Nat → Int → Int} (h : zD f g) : ∀ k, 0 ≤ k → k + 1 < f 2 0 → g 41 (k + 1) = g 41 k ∨ g 41 (k + 1) = g 41 k + 1 := h.2.2.2.2.2.2.2.2.2.2.2.1
theorem zD.rn {f : Nat → Nat → Int} {g : Nat → Int → Int} (h : zD f g) : 0 < f 2 0 → f 38 4 = g 41 (f 2 0 - 1) + 1 := h.2.2.2.2.2.2.2.2.2.2.2.2.1
theorem zD.di {f : Nat → Nat → Int} {g : Nat → Int → Int} (h : zD f g) : ∀ j k, 0 ≤ j → j < f 2 0 → 0 ≤ k → k < f 2 0 → g 3 j = g 3 k → j = k := h.2.2.2.2.2.2.2.2.2.2.2.2.2
/-- the cells that the form, the lines and the pairs lie in -/
def zDf (c : Nat) (j : Nat) : Prop := (c = 2 ∧ j = 0) ∨ (c = 12 ∧ j = 0) ∨ (c = 18 ∧ j = 0) ∨ (c = 38 ∧ (j = 4 ∨ j = 5 ∨ j = 13 ∨ j = 19))
def zDg (c : Nat) : Prop := (3 ≤ c ∧ c ≤ 5) ∨ (13 ≤ c ∧ c ≤ 21) ∨ (40 ≤ c ∧ c ≤ 42) ∨ (46 ≤ c ∧ c ≤ 51)
def zFrD (F f : Nat → Nat → Int) (G g : Nat → Int → Int) : Prop := (∀ c j, zDf c j → F c j = f c j) ∧ ∀ c j, zDg c → G c j = g c j
theorem zFrD.D {F f : Nat → Nat → Int} {G g : Nat → Int → Int} (h : zFrD F f G g) (hD : zD f g) : zD F G := by
  have a1 : F 2 0 = f 2 0 := h.1 2 0 (by unfold zDf; omega)
  have a2 : F 12 0 = f 12 0 := h.1 12 0 (by unfold zDf; omega)
  have a3 : F 18 0 = f 18 0 := h.1 18 0 (by unfold zDf; omega)
  have a4 : F 38 4 = f 38 4 := h.1 38 4 (by unfold zDf; omega)
  have a5 : F 38 5 = f 38 5 := h.1 38 5 (by unfold zDf; omega)
  have a6 : F 38 13 = f 38 13 := h.1 38 13 (by unfold zDf; omega)
  have a7 : F 38 19 = f 38 19 := h.1 38 19 (by unfold zDf; omega)
  have b : ∀ c, zDg c → ∀ j, G c j = g c j := fun c hc j => h.2 c j hc
  have b3 := b 3 (by unfold zDg; omega)
  have b4 := b 4 (by unfold zDg; omega)
  have b5 := b 5 (by unfold zDg; omega)
  have b13 := b 13 (by unfold zDg; omega)
  have b14 := b 14 (by unfold zDg; omega)
  have b15 := b 15 (by unfold zDg; omega)
  have b16 := b 16 (by unfold zDg; omega)
  have b17 := b 17 (by unfold zDg; omega)
  have b19 := b 19 (by unfold zDg; omega)
  have b20 := b 20 (by unfold zDg; omega)
  have b21 := b 21 (by unfold zDg; omega)
  have b40 := b 40 (by unfold zDg; omega)
  have b41 := b 41 (by unfold zDg; omega)
  have b42 := b 42 (by unfold zDg; omega)
  have b46 := b 46 (by unfold zDg; omega)
  have b47 := b 47 (by unfold zDg; omega)
  have b48 := b 48 (by unfold zDg; omega)
  have b49 := b 49 (by unfold zDg; omega)
  have b50 := b 50 (by unfold zDg; omega)
  have b51 := b 51 (by unfold zDg; omega)
  unfold zD at hD ⊢
  simp only [a1, a2, a3, a4, a5, a6, a7, b3, b4, b5, b13, b14, b15, b16, b17, b19, b20, b21, b40, b41, b42, b46, b47, b48, b49, b50, b51]
  exact hD
theorem zFrD.I {F f : Nat → Nat → Int} {G g : Nat → Int → Int} (h : zFrD F f G g) (hI : zI f g) : zI F G := by
  unfold zI at hI ⊢
  simp only [h.1 2 0 (by unfold zDf; omega), h.1 12 0 (by unfold zDf; omega), h.1 18 0 (by unfold zDf; omega), h.2 3 _ (show zDg 3 by unfold zDg; omega), h.2 4 _ (show zDg 4 by unfold zDg; omega), h.2 5 _ (show zDg 5 by unfold zDg; omega), h.2 13 _ (show zDg 13 by unfold zDg; omega), h.2 14 _ (show zDg 14 by unfold zDg; omega), h.2 16 _ (show zDg 16 by unfold zDg; omega), h.2 17 _ (show zDg 17 by unfold zDg; omega)]
  exact hI
theorem zD.fit {f : Nat → Nat → Int} {g : Nat → Int → Int} (hD : zD f g) (k v w : Int) : mFit f g k v w ↔ zFit f g k v w := by
  unfold mFit zFit
  rw [hD.tn]
  refine exists_congr (fun i => ?_)
  constructor
  · rintro ⟨h1, h2, h3, h4, h5⟩
    obtain ⟨t1, t2, t3⟩ := hD.td i h1 h2
    exact ⟨h1, h2, by omega, by omega, by omega⟩
  · rintro ⟨h1, h2, h3, h4, h5⟩
    obtain ⟨t1, t2, t3⟩ := hD.td i h1 h2
    exact ⟨h1, h2, by omega, by omega, by omega⟩
theorem zNa_iff {f : Nat → Nat → Int} {g : Nat → Int → Int} (hI : zI f g) {y z c : Int} (hy : 0 ≤ y ∧ y ≤ 6) (hz : 0 ≤ z ∧ z ≤ 5) (hc : 0 ≤ c) : c < zNa g y z ↔ (y < f 12 0 ∧ z < g 13 y ∧ c < g 14 (y * 5 + z)) := by
  obtain ⟨i1, i2, i3, i4, i5, i6, i7⟩ := hI
  unfold zNa
  by_cases h : (0 ≤ y ∧ y < 6) ∧ 0 ≤ z ∧ z < 5
  · rw [if_pos h]
    have j4 := i4 y h.1.1 h.1.2
    have j5 := i5 y z h.1.1 h.1.2 h.2.1 h.2.2
    constructor
    · intro u
      have u1 := j5.2.mpr (by omega)
      exact ⟨j4.2.mpr (by omega), u1, u⟩
    · intro u
      exact u.2.2
  · rw [if_neg h]
    constructor
    · intro u
      omega
    · intro u
      have : y < 6 := by omega
      have j4 := i4 y hy.1 this
      exfalso
      omega
section Mod2
variable {l : Launch} {dC : Nat → ClassId} {dI : Nat → Nat → Nat} {tc : Nat → ClassId} {f : Nat → Nat → Int} {g : Nat → Int → Int} {a b c : Nat}
set_option maxRecDepth 100000 in
set_option maxHeartbeats 4000000 in
theorem cm_word (x k v w pl n nl np : Int) (hl : 0 ≤ f 38 13 ∧ f 38 13 ≤ 6) (hpl : pl = if x < f 38 13 then g 46 x else 0) (hn : n = if v / 1000 < pl then g 47 (5 * x + v / 1000) else 0) (hnl : nl = if x = f 38 13 then f 38 13 + 1 else f 38 13) (hnp : np = if v / 1000 = pl then pl + 1 else pl) (hp5 : 0 ≤ pl ∧ pl ≤ 5) (hn4 : 0 ≤ n ∧ n ≤ 4) : am_Ct l dC dI tc mm6_word 0 58 [(.inr (.inr (some 38))), .inl x, .inl k, .inl v, .inr (.inl w)] (58, f, g, pr_r a b c) (fun r s => (((x < 0 ∨ 6 ≤ x) ∨ (k < 0 ∨ 9 ≤ k) ∨ (v < 0 ∨ 5000 ≤ v) ∨ w < 0 ∨ 1000 < w) ∧ r = some (.inl (-12)) ∧ s = (58, (am_u1 f 38 0 0), g, pr_r a b c)) ∨ (¬ ((x < 0 ∨ 6 ≤ x) ∨ (k < 0 ∨ 9 ≤ k) ∨ (v < 0 ∨ 5000 ≤ v) ∨ w < 0 ∨ 1000 < w) ∧ (f 38 13 < x ∨ pl < v / 1000) ∧ r = some (.inl (-13)) ∧ s = (58, (am_u1 f 38 0 0), g, pr_r a b c)) ∨ (¬ ((x < 0 ∨ 6 ≤ x) ∨ (k < 0 ∨ 9 ≤ k) ∨ (v < 0 ∨ 5000 ≤ v) ∨ w < 0 ∨ 1000 < w) ∧ ¬ (f 38 13 < x ∨ pl < v / 1000) ∧ n = 4 ∧ r = some (.inl (-14)) ∧ s = (58, (am_u1 f 38 0 0), g, pr_r a b c)) ∨ (¬ ((x < 0 ∨ 6 ≤ x) ∨ (k < 0 ∨ 9 ≤ k) ∨ (v < 0 ∨ 5000 ≤ v) ∨ w < 0 ∨ 1000 < w) ∧ ¬ (f 38 13 < x ∨ pl < v / 1000) ∧ n ≠ 4 ∧ r = some (.inl n) ∧ s = (58, am_u1 (am_u1 (am_u1 f 38 0 0) 38 13 nl) 38 21 0, am_u3 (am_u3 (am_u3 (am_u3 (am_u3 g 46 x np) 48 (4 * (5 * x + v / 1000) + n) k) 49 (4 * (5 * x + v / 1000) + n) (v % 1000)) 50 (4 * (5 * x + v / 1000) + n) w) 47 (5 * x + v / 1000) (n + 1), pr_r a b c))) := by
  have q1 := @am_cmp_lt w 0
  have q2 := @am_cmp_le w 1000
  have hf0 : (am_u1 f 38 0 0) 38 13 = f 38 13 := am_u1_j (by decide)
  have key : ¬ ((x < 0 ∨ 6 ≤ x) ∨ (k < 0 ∨ 9 ≤ k) ∨ (v < 0 ∨ 5000 ≤ v) ∨ w < 0 ∨ 1000 < w) → am_wp l dC dI tc mm6_word 0 58 58 (fun r s => (((x < 0 ∨ 6 ≤ x) ∨ (k < 0 ∨ 9 ≤ k) ∨ (v < 0 ∨ 5000 ≤ v) ∨ w < 0 ∨ 1000 < w) ∧ r = some (.inl (-12)) ∧ s = (58, (am_u1 f 38 0 0), g, pr_r a b c)) ∨ (¬ ((x < 0 ∨ 6 ≤ x) ∨ (k < 0 ∨ 9 ≤ k) ∨ (v < 0 ∨ 5000 ≤ v) ∨ w < 0 ∨ 1000 < w) ∧ (f 38 13 < x ∨ pl < v / 1000) ∧ r = some (.inl (-13)) ∧ s = (58, (am_u1 f 38 0 0), g, pr_r a b c)) ∨ (¬ ((x < 0 ∨ 6 ≤ x) ∨ (k < 0 ∨ 9 ≤ k) ∨ (v < 0 ∨ 5000 ≤ v) ∨ w < 0 ∨ 1000 < w) ∧ ¬ (f 38 13 < x ∨ pl < v / 1000) ∧ n = 4 ∧ r = some (.inl (-14)) ∧ s = (58, (am_u1 f 38 0 0), g, pr_r a b c)) ∨ (¬ ((x < 0 ∨ 6 ≤ x) ∨ (k < 0 ∨ 9 ≤ k) ∨ (v < 0 ∨ 5000 ≤ v) ∨ w < 0 ∨ 1000 < w) ∧ ¬ (f 38 13 < x ∨ pl < v / 1000) ∧ n ≠ 4 ∧ r = some (.inl n) ∧ s = (58, am_u1 (am_u1 (am_u1 f 38 0 0) 38 13 nl) 38 21 0, am_u3 (am_u3 (am_u3 (am_u3 (am_u3 g 46 x np) 48 (4 * (5 * x + v / 1000) + n) k) 49 (4 * (5 * x + v / 1000) + n) (v % 1000)) 50 (4 * (5 * x + v / 1000) + n) w) 47 (5 * x + v / 1000) (n + 1), pr_r a b c))) 28 [some (.inr (.inr (some 38))), some (.inl x), some (.inl k), some (.inl v), some (.inr (.inl w)), none, none, none, none, none] [] (58, (am_u1 f 38 0 0), g, pr_r a b c) := by
    intro hO
    by_cases h1 : x < f 38 13
    · rw [if_pos h1] at hpl
      rw [if_neg (by omega)] at hnl
      subst hpl hnl
      by_cases h2 : v / 1000 < g 46 x
      · rw [if_pos h2] at hn
        rw [if_neg (by omega)] at hnp
        subst hn hnp
        repeat' first
          | (refine am_id ?_; simp (config := { decide := true }) only [am_u1_s, am_u1_j, am_u1_c, am_u3_s, am_u3_c])
          | (refine am_go rfl (by first | exact True.intro | omega | exact ⟨by decide, Nat.le_of_ble_eq_true rfl, Nat.le_of_ble_eq_true rfl⟩ | exact ⟨by decide, Nat.le_of_ble_eq_true rfl⟩) ?_)
          | ((refine am_if rfl (fun c1 => ?_) (fun c1 => ?_)) <;> first | (exfalso; omega) | refine am_id ?_)
          | (refine am_iret rfl rfl rfl ?_)
          | (refine am_zret rfl rfl (by first | exact Or.inl rfl | exact Or.inr rfl) rfl ?_)
          | (refine am_lret rfl rfl rfl ?_)
          | (refine am_vret (x := 0) rfl rfl rfl ?_)
        all_goals (first | (exact Or.inr (Or.inl ⟨hO, by omega, rfl, rfl⟩)) | (exact Or.inr (Or.inr (Or.inl ⟨hO, by omega, by omega, rfl, rfl⟩))) | (exact Or.inr (Or.inr (Or.inr ⟨hO, by omega, by first | omega | trivial, rfl, rfl⟩))) | omega)
      · rw [if_neg h2] at hn
        subst hn
        by_cases h3 : v / 1000 = g 46 x
        · rw [if_pos h3] at hnp
          subst hnp
          repeat' first
            | (refine am_id ?_; simp (config := { decide := true }) only [am_u1_s, am_u1_j, am_u1_c, am_u3_s, am_u3_c])
            | (refine am_go rfl (by first | exact True.intro | omega | exact ⟨by decide, Nat.le_of_ble_eq_true rfl, Nat.le_of_ble_eq_true rfl⟩ | exact ⟨by decide, Nat.le_of_ble_eq_true rfl⟩) ?_)
            | ((refine am_if rfl (fun c1 => ?_) (fun c1 => ?_)) <;> first | (exfalso; omega) | refine am_id ?_)
            | (refine am_iret rfl rfl rfl ?_)
            | (refine am_zret rfl rfl (by first | exact Or.inl rfl | exact Or.inr rfl) rfl ?_)
            | (refine am_lret rfl rfl rfl ?_)
            | (refine am_vret (x := 0) rfl rfl rfl ?_)
          all_goals (first | (exact Or.inr (Or.inl ⟨hO, by omega, rfl, rfl⟩)) | (exact Or.inr (Or.inr (Or.inl ⟨hO, by omega, by omega, rfl, rfl⟩))) | (exact Or.inr (Or.inr (Or.inr ⟨hO, by omega, by first | omega | trivial, rfl, rfl⟩))) | omega)
        · rw [if_neg h3] at hnp
          subst hnp
          repeat' first
            | (refine am_id ?_; simp (config := { decide := true }) only [am_u1_s, am_u1_j, am_u1_c, am_u3_s, am_u3_c])
            | (refine am_go rfl (by first | exact True.intro | omega | exact ⟨by decide, Nat.le_of_ble_eq_true rfl, Nat.le_of_ble_eq_true rfl⟩ | exact ⟨by decide, Nat.le_of_ble_eq_true rfl⟩) ?_)
            | ((refine am_if rfl (fun c1 => ?_) (fun c1 => ?_)) <;> first | (exfalso; omega) | refine am_id ?_)
            | (refine am_iret rfl rfl rfl ?_)
            | (refine am_zret rfl rfl (by first | exact Or.inl rfl | exact Or.inr rfl) rfl ?_)
            | (refine am_lret rfl rfl rfl ?_)
            | (refine am_vret (x := 0) rfl rfl rfl ?_)
          all_goals (first | (exact Or.inr (Or.inl ⟨hO, by omega, rfl, rfl⟩)) | (exact Or.inr (Or.inr (Or.inl ⟨hO, by omega, by omega, rfl, rfl⟩))) | (exact Or.inr (Or.inr (Or.inr ⟨hO, by omega, by first | omega | trivial, rfl, rfl⟩))) | omega)
    · rw [if_neg h1] at hpl
      subst hpl
      rw [if_neg (by omega)] at hn
      subst hn
      by_cases h3 : v / 1000 = 0
      · rw [if_pos h3] at hnp
        subst hnp
        by_cases h4 : x = f 38 13
        · rw [if_pos h4] at hnl
          subst hnl
          repeat' first
            | (refine am_id ?_; simp (config := { decide := true }) only [am_u1_s, am_u1_j, am_u1_c, am_u3_s, am_u3_c])
            | (refine am_go rfl (by first | exact True.intro | omega | exact ⟨by decide, Nat.le_of_ble_eq_true rfl, Nat.le_of_ble_eq_true rfl⟩ | exact ⟨by decide, Nat.le_of_ble_eq_true rfl⟩) ?_)
            | ((refine am_if rfl (fun c1 => ?_) (fun c1 => ?_)) <;> first | (exfalso; omega) | refine am_id ?_)
            | (refine am_iret rfl rfl rfl ?_)
            | (refine am_zret rfl rfl (by first | exact Or.inl rfl | exact Or.inr rfl) rfl ?_)
            | (refine am_lret rfl rfl rfl ?_)
            | (refine am_vret (x := 0) rfl rfl rfl ?_)
          all_goals (first | (exact Or.inr (Or.inl ⟨hO, by omega, rfl, rfl⟩)) | (exact Or.inr (Or.inr (Or.inl ⟨hO, by omega, by omega, rfl, rfl⟩))) | (exact Or.inr (Or.inr (Or.inr ⟨hO, by omega, by first | omega | trivial, rfl, rfl⟩))) | omega)
        · rw [if_neg h4] at hnl
          subst hnl
          repeat' first
            | (refine am_id ?_; simp (config := { decide := true }) only [am_u1_s, am_u1_j, am_u1_c, am_u3_s, am_u3_c])
            | (refine am_go rfl (by first | exact True.intro | omega | exact ⟨by decide, Nat.le_of_ble_eq_true rfl, Nat.le_of_ble_eq_true rfl⟩ | exact ⟨by decide, Nat.le_of_ble_eq_true rfl⟩) ?_)
            | ((refine am_if rfl (fun c1 => ?_) (fun c1 => ?_)) <;> first | (exfalso; omega) | refine am_id ?_)
            | (refine am_iret rfl rfl rfl ?_)
            | (refine am_zret rfl rfl (by first | exact Or.inl rfl | exact Or.inr rfl) rfl ?_)
            | (refine am_lret rfl rfl rfl ?_)
            | (refine am_vret (x := 0) rfl rfl rfl ?_)
          all_goals (first | (exact Or.inr (Or.inl ⟨hO, by omega, rfl, rfl⟩)) | (exact Or.inr (Or.inr (Or.inl ⟨hO, by omega, by omega, rfl, rfl⟩))) | (exact Or.inr (Or.inr (Or.inr ⟨hO, by omega, by first | omega | trivial, rfl, rfl⟩))) | omega)
      · rw [if_neg h3] at hnp
        subst hnp
        by_cases h4 : x = f 38 13
        · rw [if_pos h4] at hnl
          subst hnl
          repeat' first
            | (refine am_id ?_; simp (config := { decide := true }) only [am_u1_s, am_u1_j, am_u1_c, am_u3_s, am_u3_c])
            | (refine am_go rfl (by first | exact True.intro | omega | exact ⟨by decide, Nat.le_of_ble_eq_true rfl, Nat.le_of_ble_eq_true rfl⟩ | exact ⟨by decide, Nat.le_of_ble_eq_true rfl⟩) ?_)
            | ((refine am_if rfl (fun c1 => ?_) (fun c1 => ?_)) <;> first | (exfalso; omega) | refine am_id ?_)
            | (refine am_iret rfl rfl rfl ?_)
            | (refine am_zret rfl rfl (by first | exact Or.inl rfl | exact Or.inr rfl) rfl ?_)
            | (refine am_lret rfl rfl rfl ?_)
            | (refine am_vret (x := 0) rfl rfl rfl ?_)
          all_goals (first | (exact Or.inr (Or.inl ⟨hO, by omega, rfl, rfl⟩)) | (exact Or.inr (Or.inr (Or.inl ⟨hO, by omega, by omega, rfl, rfl⟩))) | (exact Or.inr (Or.inr (Or.inr ⟨hO, by omega, by first | omega | trivial, rfl, rfl⟩))) | omega)
        · rw [if_neg h4] at hnl
          subst hnl
          repeat' first
            | (refine am_id ?_; simp (config := { decide := true }) only [am_u1_s, am_u1_j, am_u1_c, am_u3_s, am_u3_c])
            | (refine am_go rfl (by first | exact True.intro | omega | exact ⟨by decide, Nat.le_of_ble_eq_true rfl, Nat.le_of_ble_eq_true rfl⟩ | exact ⟨by decide, Nat.le_of_ble_eq_true rfl⟩) ?_)
            | ((refine am_if rfl (fun c1 => ?_) (fun c1 => ?_)) <;> first | (exfalso; omega) | refine am_id ?_)
            | (refine am_iret rfl rfl rfl ?_)
            | (refine am_zret rfl rfl (by first | exact Or.inl rfl | exact Or.inr rfl) rfl ?_)
            | (refine am_lret rfl rfl rfl ?_)
            | (refine am_vret (x := 0) rfl rfl rfl ?_)
          all_goals (first | (exact Or.inr (Or.inl ⟨hO, by omega, rfl, rfl⟩)) | (exact Or.inr (Or.inr (Or.inl ⟨hO, by omega, by omega, rfl, rfl⟩))) | (exact Or.inr (Or.inr (Or.inr ⟨hO, by omega, by first | omega | trivial, rfl, rfl⟩))) | omega)
  refine am_enter ok_6_word rfl (by decide) (Nat.le_of_ble_eq_true rfl) rfl ?_
  repeat' first
    | (refine key (by omega))
    | (refine am_go rfl (by first | exact True.intro | omega | exact ⟨by decide, Nat.le_of_ble_eq_true rfl, Nat.le_of_ble_eq_true rfl⟩ | exact ⟨by decide, Nat.le_of_ble_eq_true rfl⟩) ?_)
    | (refine am_if rfl (fun c1 => ?_) (fun c1 => ?_))
    | (refine am_iret rfl rfl rfl ?_)
  all_goals first | (exact Or.inl ⟨by omega, rfl, rfl⟩) | omega
set_option maxRecDepth 100000 in
set_option maxHeartbeats 4000000 in
theorem cm_can (k : Int) (hI : zI f g) (hD : zD f g) (hk : 0 ≤ k ∧ k < f 2 0) (hc : 0 ≤ g 54 k ∧ g 54 k ≤ 4) (hy : 0 ≤ g 55 k ∧ g 55 k ≤ 6) (hz : 0 ≤ g 56 k ∧ g 56 k ≤ 5) : am_Ct l dC dI tc mm6_can 1 58 [(.inr (.inr (some 38))), .inl k] (58, f, g, pr_r a b c) (fun r s => s = (58, f, g, pr_r a b c) ∧ ((r = some (.inl 1) ∧ ((g 54 k = 4 ∧ g 4 k ≠ -1) ∨ (g 54 k ≠ 4 ∧ g 54 k < zNa g (g 55 k) (g 56 k) ∧ g 15 (zAlt (g 55 k) (g 56 k) (g 54 k)) = g 3 k))) ∨ (r = some (.inl 0) ∧ ¬ ((g 54 k = 4 ∧ g 4 k ≠ -1) ∨ (g 54 k ≠ 4 ∧ g 54 k < zNa g (g 55 k) (g 56 k) ∧ g 15 (zAlt (g 55 k) (g 56 k) (g 54 k)) = g 3 k))))) := by
  have i1 := hI.1
  have i3 := hI.2.2.1
  have e1 := hD.kd k hk.1 hk.2
  have e2 := hD.ms k hk.1 hk.2
  have e3 := hD.ln
  have e4 := hD.pl (g 55 k) hy.1
  have e5 := hD.na (g 55 k) (g 56 k) hy.1
  have e6 := hD.al (g 55 k) (g 56 k) (g 54 k) hy.1
  have e7 := zNa_iff hI hy hz hc.1
  have e8 := hI.2.2.2.1 (g 55 k) hy.1
  refine am_enter ok_6_can rfl (by decide) (Nat.le_of_ble_eq_true rfl) rfl ?_
  iterate 5 (refine am_go rfl (by first | exact True.intro | omega | exact ⟨by decide, Nat.le_of_ble_eq_true rfl, Nat.le_of_ble_eq_true rfl⟩ | exact ⟨by decide, Nat.le_of_ble_eq_true rfl⟩) ?_)
  refine am_if rfl (fun c1 => ?_) (fun c1 => ?_)
  · have hneg : ¬ (g 54 k < zNa g (g 55 k) (g 56 k) ∧ g 15 (zAlt (g 55 k) (g 56 k) (g 54 k)) = g 3 k) → ¬ ((g 54 k = 4 ∧ g 4 k ≠ -1) ∨ (g 54 k ≠ 4 ∧ g 54 k < zNa g (g 55 k) (g 56 k) ∧ g 15 (zAlt (g 55 k) (g 56 k) (g 54 k)) = g 3 k)) := by
      intro u v
      rcases v with v | v
      · exact c1 v.1
      · exact u v.2
    iterate 8 (refine am_go rfl (by first | exact True.intro | omega | exact ⟨by decide, Nat.le_of_ble_eq_true rfl, Nat.le_of_ble_eq_true rfl⟩ | exact ⟨by decide, Nat.le_of_ble_eq_true rfl⟩) ?_)
    refine am_if rfl (fun c2 => ?_) (fun c2 => ?_)
    · (refine am_go rfl (by first | exact True.intro | omega | exact ⟨by decide, Nat.le_of_ble_eq_true rfl, Nat.le_of_ble_eq_true rfl⟩ | exact ⟨by decide, Nat.le_of_ble_eq_true rfl⟩) ?_)
      exact am_zret rfl rfl (Or.inl rfl) rfl ⟨rfl, Or.inr ⟨rfl, hneg (fun u => by have := e7.mp u.1; omega)⟩⟩
    · have e4 := e4 (by omega)
      iterate 8 (refine am_go rfl (by first | exact True.intro | omega | exact ⟨by decide, Nat.le_of_ble_eq_true rfl, Nat.le_of_ble_eq_true rfl⟩ | exact ⟨by decide, Nat.le_of_ble_eq_true rfl⟩) ?_)
      refine am_if rfl (fun c3 => ?_) (fun c3 => ?_)
      · (refine am_go rfl (by first | exact True.intro | omega | exact ⟨by decide, Nat.le_of_ble_eq_true rfl, Nat.le_of_ble_eq_true rfl⟩ | exact ⟨by decide, Nat.le_of_ble_eq_true rfl⟩) ?_)
        exact am_zret rfl rfl (Or.inl rfl) rfl ⟨rfl, Or.inr ⟨rfl, hneg (fun u => by have := e7.mp u.1; omega)⟩⟩
      · have e5 := e5 (by omega) hz.1 (by omega)
        have e8 := (e8 (by omega)).1
        iterate 15 (refine am_go rfl (by first | exact True.intro | omega | exact ⟨by decide, Nat.le_of_ble_eq_true rfl, Nat.le_of_ble_eq_true rfl⟩ | exact ⟨by decide, Nat.le_of_ble_eq_true rfl⟩) ?_)
        refine am_if rfl (fun c4 => ?_) (fun c4 => ?_)
        · have e6 := e6 (by omega) hz.1 (by omega) hc.1 (by omega)
          have e9 := (hI.2.2.2.2.1 (g 55 k) (g 56 k) hy.1 (by omega) hz.1 (by omega)).1
          iterate 8 (refine am_go rfl (by first | exact True.intro | omega | exact ⟨by decide, Nat.le_of_ble_eq_true rfl, Nat.le_of_ble_eq_true rfl⟩ | exact ⟨by decide, Nat.le_of_ble_eq_true rfl⟩) ?_)
          (refine am_callv rfl (cm_alternative k (g 54 k) (by omega) hy (by omega) (by omega)) (by decide) (Nat.le_of_ble_eq_true rfl) (Nat.le_of_ble_eq_true rfl) ?_)
          iterate 5 (refine am_go rfl (by first | exact True.intro | omega | exact ⟨by decide, Nat.le_of_ble_eq_true rfl, Nat.le_of_ble_eq_true rfl⟩ | exact ⟨by decide, Nat.le_of_ble_eq_true rfl⟩) ?_)
          rw [e6.1, e1]
          refine am_if rfl (fun c5 => ?_) (fun c5 => ?_)
          · (refine am_go rfl (by first | exact True.intro | omega | exact ⟨by decide, Nat.le_of_ble_eq_true rfl, Nat.le_of_ble_eq_true rfl⟩ | exact ⟨by decide, Nat.le_of_ble_eq_true rfl⟩) ?_)
            exact am_zret rfl rfl (Or.inl rfl) rfl ⟨rfl, Or.inr ⟨rfl, hneg (fun u => c5 u.2)⟩⟩
          · iterate 2 (refine am_go rfl (by first | exact True.intro | omega | exact ⟨by decide, Nat.le_of_ble_eq_true rfl, Nat.le_of_ble_eq_true rfl⟩ | exact ⟨by decide, Nat.le_of_ble_eq_true rfl⟩) ?_)
            exact am_zret rfl rfl (Or.inr rfl) rfl ⟨rfl, Or.inl ⟨rfl, Or.inr ⟨c1, e7.mpr ⟨by omega, by omega, by omega⟩, by omega⟩⟩⟩
        · (refine am_go rfl (by first | exact True.intro | omega | exact ⟨by decide, Nat.le_of_ble_eq_true rfl, Nat.le_of_ble_eq_true rfl⟩ | exact ⟨by decide, Nat.le_of_ble_eq_true rfl⟩) ?_)
          exact am_zret rfl rfl (Or.inl rfl) rfl ⟨rfl, Or.inr ⟨rfl, hneg (fun u => by have := e7.mp u.1; omega)⟩⟩
  · iterate 5 (refine am_go rfl (by first | exact True.intro | omega | exact ⟨by decide, Nat.le_of_ble_eq_true rfl, Nat.le_of_ble_eq_true rfl⟩ | exact ⟨by decide, Nat.le_of_ble_eq_true rfl⟩) ?_)
    refine am_if rfl (fun c2 => ?_) (fun c2 => ?_)
    · (refine am_go rfl (by first | exact True.intro | omega | exact ⟨by decide, Nat.le_of_ble_eq_true rfl, Nat.le_of_ble_eq_true rfl⟩ | exact ⟨by decide, Nat.le_of_ble_eq_true rfl⟩) ?_)
      exact am_zret rfl rfl (Or.inl rfl) rfl ⟨rfl, Or.inr ⟨rfl, fun u => by omega⟩⟩
    · iterate 2 (refine am_go rfl (by first | exact True.intro | omega | exact ⟨by decide, Nat.le_of_ble_eq_true rfl, Nat.le_of_ble_eq_true rfl⟩ | exact ⟨by decide, Nat.le_of_ble_eq_true rfl⟩) ?_)
      exact am_zret rfl rfl (Or.inr rfl) rfl ⟨rfl, Or.inl ⟨rfl, Or.inl ⟨by omega, by omega⟩⟩⟩
set_option maxRecDepth 100000 in
set_option maxHeartbeats 4000000 in
theorem cm_goes (k zz : Int) (hI : zI f g) (hD : zD f g) (hk : 0 ≤ k ∧ k < f 2 0) (hy : 0 ≤ g 55 k ∧ g 55 k ≤ 6) (hz : 0 ≤ g 56 k ∧ g 56 k ≤ 5) (hzz : zz = if g 54 k = 4 then g 56 k else g 56 k + 1) (hyz : 0 < zz → g 55 k < f 12 0) : am_Ct l dC dI tc mm6_goes 0 58 [(.inr (.inr (some 38))), .inl k] (58, f, g, pr_r a b c) (fun r s => (r = some (.inl 0) ∧ ¬ (g 5 k = 0 ∨ zz = 0) ∧ zz ≠ zPl g (g 55 k) ∧ s = (58, f, g, pr_r a b c)) ∨ (r = some (.inl 1) ∧ (g 5 k = 0 ∨ zz = 0) ∧ s = (58, f, am_u3 (am_u3 g 55 (k + 1) (g 55 k)) 56 (k + 1) (zz), pr_r a b c)) ∨ (r = some (.inl 1) ∧ ¬ (g 5 k = 0 ∨ zz = 0) ∧ zz = zPl g (g 55 k) ∧ s = (58, f, am_u3 (am_u3 g 55 (k + 1) (g 55 k + 1)) 56 (k + 1) (0), pr_r a b c))) := by
  have i1 := hI.1
  have i3 := hI.2.2.1
  have e1 := hD.pn
  have e2 := hD.en k hk.1 hk.2
  have e3 := (hI.2.1 k hk.1 hk.2).2.2
  have e4 : 0 < zz → g 46 (g 55 k) = zPl g (g 55 k) := fun u => by
    rw [hD.pl (g 55 k) hy.1 (hyz u)]
    unfold zPl
    rw [if_pos (by have := hyz u; omega)]
  refine am_enter ok_6_goes rfl (by decide) (Nat.le_of_ble_eq_true rfl) rfl ?_
  by_cases h4 : g 54 k = 4
  · rw [if_pos h4] at hzz
    subst hzz
    by_cases hp : 0 < g 56 k
    · have e4 := e4 hp
      have hyz := hyz hp
      repeat' first
        | (refine am_go rfl (by first | exact True.intro | omega | exact ⟨by decide, Nat.le_of_ble_eq_true rfl, Nat.le_of_ble_eq_true rfl⟩ | exact ⟨by decide, Nat.le_of_ble_eq_true rfl⟩) ?_)
        | ((refine am_if rfl (fun c1 => ?_) (fun c1 => ?_)) <;> first | (exfalso; omega) | refine am_id ?_)
        | (refine am_iret rfl rfl rfl ?_)
        | (refine am_zret rfl rfl (by first | exact Or.inl rfl | exact Or.inr rfl) rfl ?_)
        | (refine am_lret rfl rfl rfl ?_)
        | (refine am_vret (x := 0) rfl rfl rfl ?_)
      all_goals (first | (exact Or.inr (Or.inl ⟨rfl, by omega, rfl⟩)) | (exact Or.inl ⟨rfl, by omega, by omega, rfl⟩) | (exact Or.inr (Or.inr ⟨rfl, by omega, by omega, rfl⟩)) | omega)
    · clear e4
      repeat' first
        | (refine am_go rfl (by first | exact True.intro | omega | exact ⟨by decide, Nat.le_of_ble_eq_true rfl, Nat.le_of_ble_eq_true rfl⟩ | exact ⟨by decide, Nat.le_of_ble_eq_true rfl⟩) ?_)
        | ((refine am_if rfl (fun c1 => ?_) (fun c1 => ?_)) <;> first | (exfalso; omega) | refine am_id ?_)
        | (refine am_iret rfl rfl rfl ?_)
        | (refine am_zret rfl rfl (by first | exact Or.inl rfl | exact Or.inr rfl) rfl ?_)
        | (refine am_lret rfl rfl rfl ?_)
        | (refine am_vret (x := 0) rfl rfl rfl ?_)
      all_goals (first | (exact Or.inr (Or.inl ⟨rfl, by omega, rfl⟩)) | (exact Or.inl ⟨rfl, by omega, by omega, rfl⟩) | (exact Or.inr (Or.inr ⟨rfl, by omega, by omega, rfl⟩)) | omega)
  · rw [if_neg h4] at hzz
    subst hzz
    have e4 := e4 (by omega)
    have hyz := hyz (by omega)
    repeat' first
      | (refine am_go rfl (by first | exact True.intro | omega | exact ⟨by decide, Nat.le_of_ble_eq_true rfl, Nat.le_of_ble_eq_true rfl⟩ | exact ⟨by decide, Nat.le_of_ble_eq_true rfl⟩) ?_)
      | ((refine am_if rfl (fun c1 => ?_) (fun c1 => ?_)) <;> first | (exfalso; omega) | refine am_id ?_)
      | (refine am_iret rfl rfl rfl ?_)
      | (refine am_zret rfl rfl (by first | exact Or.inl rfl | exact Or.inr rfl) rfl ?_)
      | (refine am_lret rfl rfl rfl ?_)
      | (refine am_vret (x := 0) rfl rfl rfl ?_)
    all_goals (first | (exact Or.inr (Or.inl ⟨rfl, by omega, rfl⟩)) | (exact Or.inl ⟨rfl, by omega, by omega, rfl⟩) | (exact Or.inr (Or.inr ⟨rfl, by omega, by omega, rfl⟩)) | omega)
end Mod2
end
section
/-! a choice of every part: what it costs -/
def zVo (g : Nat → Int → Int) (cs : Nat → Int) (kd : Int) : Nat → Int
  | 0 => -1
  | k + 1 => if g 3 k = kd ∧ cs k ≠ 4 then g 16 (zAlt (zPa g cs k).1 (zPa g cs k).2.1 (cs k)) else zVo g cs kd k
noncomputable def zEx (f : Nat → Nat → Int) (g : Nat → Int → Int) (cs : Nat → Int) (N : Nat) (kd : Int) : Int := @ite Int (zVo g cs kd N ≠ -1 ∧ zVo g cs 7 N ≠ -1 ∧ ¬ zFit f g kd (zVo g cs kd N) (zVo g cs 7 N)) (Classical.propDecidable _) 100 0
def zCo (g : Nat → Int → Int) (cs : Nat → Int) (k : Nat) : Int := if cs k = 4 then g 4 k else g 17 (zAlt (zPa g cs k).1 (zPa g cs k).2.1 (cs k))
def zSm (g : Nat → Int → Int) (cs : Nat → Int) (a : Int) : Nat → Int
  | 0 => a
  | k + 1 => zSm g cs a k + zCo g cs k
noncomputable def zTt (f : Nat → Nat → Int) (g : Nat → Int → Int) (cs : Nat → Int) (N : Nat) : Int := zSm g cs (zEx f g cs N 2 + zEx f g cs N 6) N
/-- a choice that the form and the lines allow, up to part k -/
def zVl (f : Nat → Nat → Int) (g : Nat → Int → Int) (cs : Nat → Int) (k : Nat) : Prop := (0 ≤ cs k ∧ cs k ≤ 4) ∧ (0 ≤ (zPa g cs k).1 ∧ (zPa g cs k).1 ≤ f 12 0) ∧ (0 ≤ (zPa g cs k).2.1 ∧ (zPa g cs k).2.1 ≤ zPl g (zPa g cs k).1) ∧ ((cs k = 4 ∧ g 4 k ≠ -1) ∨ (cs k ≠ 4 ∧ cs k < zNa g (zPa g cs k).1 (zPa g cs k).2.1 ∧ g 15 (zAlt (zPa g cs k).1 (zPa g cs k).2.1 (cs k)) = g 3 k))
theorem zPa_congr {g : Nat → Int → Int} {cs cs' : Nat → Int} : ∀ {k : Nat}, (∀ j : Nat, j < k → cs j = cs' j) → zPa g cs k = zPa g cs' k := by
  intro k
  induction k with
  | zero => intro _; rfl
  | succ k ih =>
    intro h
    have e := ih (fun j hj => h j (by omega))
    simp only [zPa, e, h k (by omega)]
/-- the reference's rows hold the path -/
def zCh (g : Nat → Int → Int) (cs : Nat → Int) (N : Nat) : Prop := ∀ k : Nat, k < N → g 54 k = cs k ∧ g 55 k = (zPa g cs k).1 ∧ g 56 k = (zPa g cs k).2.1
theorem zVl_at {f : Nat → Nat → Int} {g : Nat → Int → Int} {cs : Nat → Int} {k : Nat} (hI : zI f g) (hD : zD f g) (h : zVl f g cs k) (h4 : cs k ≠ 4) : ((zPa g cs k).1 < f 12 0 ∧ (zPa g cs k).1 ≤ 5) ∧ ((zPa g cs k).2.1 < g 13 (zPa g cs k).1 ∧ (zPa g cs k).2.1 ≤ 4) ∧ (cs k < g 14 ((zPa g cs k).1 * 5 + (zPa g cs k).2.1) ∧ cs k ≤ 3) ∧ (g 49 (4 * (5 * (zPa g cs k).1 + (zPa g cs k).2.1) + cs k) = g 16 (zAlt (zPa g cs k).1 (zPa g cs k).2.1 (cs k)) ∧ g 50 (4 * (5 * (zPa g cs k).1 + (zPa g cs k).2.1) + cs k) = g 17 (zAlt (zPa g cs k).1 (zPa g cs k).2.1 (cs k))) ∧ (0 ≤ g 16 (zAlt (zPa g cs k).1 (zPa g cs k).2.1 (cs k)) ∧ g 16 (zAlt (zPa g cs k).1 (zPa g cs k).2.1 (cs k)) ≤ 999) ∧ (0 ≤ g 17 (zAlt (zPa g cs k).1 (zPa g cs k).2.1 (cs k)) ∧ g 17 (zAlt (zPa g cs k).1 (zPa g cs k).2.1 (cs k)) ≤ 1000) := by
  obtain ⟨v1, v2, v3, v4⟩ := h
  have i3 := hI.2.2.1
  have p5 := zPl_r hI (zPa g cs k).1
  rcases v4 with v4 | v4
  · exact absurd v4.1 h4
  · have e7 := (zNa_iff hI ⟨v2.1, by omega⟩ ⟨v3.1, by omega⟩ v1.1).mp v4.2.1
    have e8 := (hI.2.2.2.1 (zPa g cs k).1 v2.1 (by omega)).1
    have e9 := (hI.2.2.2.2.1 (zPa g cs k).1 (zPa g cs k).2.1 v2.1 (by omega) v3.1 (by omega)).1
    have e6 := hD.al (zPa g cs k).1 (zPa g cs k).2.1 (cs k) v2.1 e7.1 v3.1 e7.2.1 v1.1 e7.2.2
    have e5 := hI.2.2.2.2.2.1 (zPa g cs k).1 (zPa g cs k).2.1 (cs k) v2.1 (by omega) v3.1 (by omega) v1.1 e7.2.2
    exact ⟨⟨e7.1, by omega⟩, ⟨e7.2.1, by omega⟩, ⟨e7.2.2, by omega⟩, ⟨e6.2.1, e6.2.2⟩, e5.1, e5.2⟩
theorem zVo_r {f : Nat → Nat → Int} {g : Nat → Int → Int} {cs : Nat → Int} (hI : zI f g) (hD : zD f g) (kd : Int) : ∀ k : Nat, (∀ j : Nat, j < k → zVl f g cs j) → -1 ≤ zVo g cs kd k ∧ zVo g cs kd k ≤ 999 := by
  intro k
  induction k with
  | zero => intro _; simp only [zVo]; omega
  | succ k ih =>
    intro h
    simp only [zVo]
    split
    · rename_i u
      have := (zVl_at hI hD (h k (by omega)) u.2).2.2.2.2.1
      omega
    · exact ih (fun j hj => h j (by omega))
theorem zCo_r {f : Nat → Nat → Int} {g : Nat → Int → Int} {cs : Nat → Int} (hI : zI f g) (hD : zD f g) {k : Nat} (hk : (k : Int) < f 2 0) (h : zVl f g cs k) : 0 ≤ zCo g cs k ∧ zCo g cs k ≤ 1000 := by
  unfold zCo
  have i2 := hI.2.1 k (by omega) hk
  split
  · rename_i u
    rcases h.2.2.2 with v | v
    · omega
    · exact absurd u v.1
  · rename_i u
    exact (zVl_at hI hD h u).2.2.2.2.2
theorem zEx_r (f : Nat → Nat → Int) (g : Nat → Int → Int) (cs : Nat → Int) (N : Nat) (kd : Int) : 0 ≤ zEx f g cs N kd ∧ zEx f g cs N kd ≤ 100 := by
  unfold zEx
  split <;> omega
theorem zSm_r {f : Nat → Nat → Int} {g : Nat → Int → Int} {cs : Nat → Int} {a : Int} (hI : zI f g) (hD : zD f g) (ha : 0 ≤ a ∧ a ≤ 200) : ∀ k : Nat, (k : Int) ≤ f 2 0 → (∀ j : Nat, j < k → zVl f g cs j) → 0 ≤ zSm g cs a k ∧ zSm g cs a k ≤ 200 + 1000 * k := by
  intro k
  induction k with
  | zero => intro _ _; simp only [zSm]; omega
  | succ k ih =>
    intro hk h
    have h1 := ih (by omega) (fun j hj => h j (by omega))
    have h2 := zCo_r hI hD (by omega) (h k (by omega))
    simp only [zSm]
    omega
section Mod3
variable {l : Launch} {dC : Nat → ClassId} {dI : Nat → Nat → Nat} {tc : Nat → ClassId} {f : Nat → Nat → Int} {g : Nat → Int → Int} {a b c : Nat}
variable {cs : Nat → Int}
set_option maxRecDepth 100000 in
set_option maxHeartbeats 4000000 in
theorem cm_valueOf (x : Int) (hI : zI f g) (hD : zD f g) (hC : zCh g cs (f 2 0).toNat) (hV : ∀ j : Nat, j < (f 2 0).toNat → zVl f g cs j) : am_Ct l dC dI tc mm6_valueOf 1 58 [(.inr (.inr (some 38))), .inl x] (58, f, g, pr_r a b c) (fun r s => r = some (.inl (zVo g cs x (f 2 0).toNat)) ∧ s = (58, f, g, pr_r a b c)) := by
  have i1 := hI.1
  have e1 := hD.pn
  refine am_enter ok_6_valueOf rfl (by decide) (Nat.le_of_ble_eq_true rfl) rfl ?_
  have loop : ∀ (n k : Nat) (v : Int), k + n = (f 2 0).toNat → v = zVo g cs x k → am_wp l dC dI tc mm6_valueOf 1 58 58 (fun r s => r = some (.inl (zVo g cs x (f 2 0).toNat)) ∧ s = (58, f, g, pr_r a b c)) 4 [some (.inr (.inr (some 38))), some (.inl x), some (.inl v), some (.inl (k : Int))] [] (58, f, g, pr_r a b c) := by
    intro n
    induction n with
    | zero =>
      intro k v hk hv
      iterate 3 (refine am_go rfl (by first | exact True.intro | omega | exact ⟨by decide, Nat.le_of_ble_eq_true rfl, Nat.le_of_ble_eq_true rfl⟩ | exact ⟨by decide, Nat.le_of_ble_eq_true rfl⟩) ?_)
      refine am_if rfl (fun c1 => ?_) (fun c1 => by omega)
      (refine am_go rfl (by first | exact True.intro | omega | exact ⟨by decide, Nat.le_of_ble_eq_true rfl, Nat.le_of_ble_eq_true rfl⟩ | exact ⟨by decide, Nat.le_of_ble_eq_true rfl⟩) ?_)
      exact am_iret rfl rfl rfl ⟨by rw [hv, show k = (f 2 0).toNat by omega], rfl⟩
    | succ n ih =>
      intro k v hk hv
      have e2 := hD.kd k (by omega) (by omega)
      obtain ⟨h1, h2, h3⟩ := hC k (by omega)
      have hv1 := hV k (by omega)
      iterate 3 (refine am_go rfl (by first | exact True.intro | omega | exact ⟨by decide, Nat.le_of_ble_eq_true rfl, Nat.le_of_ble_eq_true rfl⟩ | exact ⟨by decide, Nat.le_of_ble_eq_true rfl⟩) ?_)
      refine am_if rfl (fun c1 => by omega) (fun c1 => ?_)
      iterate 5 (refine am_go rfl (by first | exact True.intro | omega | exact ⟨by decide, Nat.le_of_ble_eq_true rfl, Nat.le_of_ble_eq_true rfl⟩ | exact ⟨by decide, Nat.le_of_ble_eq_true rfl⟩) ?_)
      rw [e2]
      refine am_if rfl (fun c2 => ?_) (fun c2 => ?_)
      · iterate 4 (refine am_go rfl (by first | exact True.intro | omega | exact ⟨by decide, Nat.le_of_ble_eq_true rfl, Nat.le_of_ble_eq_true rfl⟩ | exact ⟨by decide, Nat.le_of_ble_eq_true rfl⟩) ?_)
        exact ih (k + 1) v (by omega) (by rw [hv]; exact (if_neg (fun u => c2 u.1)).symm)
      · iterate 5 (refine am_go rfl (by first | exact True.intro | omega | exact ⟨by decide, Nat.le_of_ble_eq_true rfl, Nat.le_of_ble_eq_true rfl⟩ | exact ⟨by decide, Nat.le_of_ble_eq_true rfl⟩) ?_)
        rw [h1]
        refine am_if rfl (fun c3 => ?_) (fun c3 => ?_)
        · iterate 4 (refine am_go rfl (by first | exact True.intro | omega | exact ⟨by decide, Nat.le_of_ble_eq_true rfl, Nat.le_of_ble_eq_true rfl⟩ | exact ⟨by decide, Nat.le_of_ble_eq_true rfl⟩) ?_)
          exact ih (k + 1) v (by omega) (by rw [hv]; exact (if_neg (fun u => u.2 c3)).symm)
        · have hz := zVl_at hI hD hv1 c3
          have hc1 := hv1.1
          have hy1 := hv1.2.1
          have hz1 := hv1.2.2.1
          iterate 8 (refine am_go rfl (by first | exact True.intro | omega | exact ⟨by decide, Nat.le_of_ble_eq_true rfl, Nat.le_of_ble_eq_true rfl⟩ | exact ⟨by decide, Nat.le_of_ble_eq_true rfl⟩) ?_)
          rw [h1]
          (refine am_callv rfl (cm_alternative k (cs k) (by omega) (by omega) (by omega) (by omega)) (by decide) (Nat.le_of_ble_eq_true rfl) (Nat.le_of_ble_eq_true rfl) ?_)
          rw [h2, h3]
          (refine am_go rfl (by first | exact True.intro | omega | exact ⟨by decide, Nat.le_of_ble_eq_true rfl, Nat.le_of_ble_eq_true rfl⟩ | exact ⟨by decide, Nat.le_of_ble_eq_true rfl⟩) ?_)
          rw [hz.2.2.2.1.1]
          iterate 4 (refine am_go rfl (by first | exact True.intro | omega | exact ⟨by decide, Nat.le_of_ble_eq_true rfl, Nat.le_of_ble_eq_true rfl⟩ | exact ⟨by decide, Nat.le_of_ble_eq_true rfl⟩) ?_)
          exact ih (k + 1) _ (by omega) (if_pos ⟨by omega, c3⟩).symm
  iterate 4 (refine am_go rfl (by first | exact True.intro | omega | exact ⟨by decide, Nat.le_of_ble_eq_true rfl, Nat.le_of_ble_eq_true rfl⟩ | exact ⟨by decide, Nat.le_of_ble_eq_true rfl⟩) ?_)
  exact loop (f 2 0).toNat 0 (-1) (by omega) rfl
set_option maxRecDepth 100000 in
set_option maxHeartbeats 4000000 in
theorem cm_extra (x : Int) (hI : zI f g) (hD : zD f g) (hC : zCh g cs (f 2 0).toNat) (hV : ∀ j : Nat, j < (f 2 0).toNat → zVl f g cs j) : am_Ct l dC dI tc mm6_extra 2 58 [(.inr (.inr (some 38))), .inl x] (58, f, g, pr_r a b c) (fun r s => r = some (.inl (zEx f g cs (f 2 0).toNat x)) ∧ s = (58, f, g, pr_r a b c)) := by
  have i7 := hI.2.2.2.2.2.2
  have e1 := hD.tn
  refine am_enter ok_6_extra rfl (by decide) (Nat.le_of_ble_eq_true rfl) rfl ?_
  iterate 2 (refine am_go rfl (by first | exact True.intro | omega | exact ⟨by decide, Nat.le_of_ble_eq_true rfl, Nat.le_of_ble_eq_true rfl⟩ | exact ⟨by decide, Nat.le_of_ble_eq_true rfl⟩) ?_)
  (refine am_callv rfl (cm_valueOf x hI hD hC hV) (by decide) (Nat.le_of_ble_eq_true rfl) (Nat.le_of_ble_eq_true rfl) ?_)
  iterate 3 (refine am_go rfl (by first | exact True.intro | omega | exact ⟨by decide, Nat.le_of_ble_eq_true rfl, Nat.le_of_ble_eq_true rfl⟩ | exact ⟨by decide, Nat.le_of_ble_eq_true rfl⟩) ?_)
  (refine am_callv rfl (cm_valueOf 7 hI hD hC hV) (by decide) (Nat.le_of_ble_eq_true rfl) (Nat.le_of_ble_eq_true rfl) ?_)
  iterate 3 (refine am_go rfl (by first | exact True.intro | omega | exact ⟨by decide, Nat.le_of_ble_eq_true rfl, Nat.le_of_ble_eq_true rfl⟩ | exact ⟨by decide, Nat.le_of_ble_eq_true rfl⟩) ?_)
  refine am_if rfl (fun c1 => ?_) (fun c1 => ?_)
  · (refine am_go rfl (by first | exact True.intro | omega | exact ⟨by decide, Nat.le_of_ble_eq_true rfl, Nat.le_of_ble_eq_true rfl⟩ | exact ⟨by decide, Nat.le_of_ble_eq_true rfl⟩) ?_)
    exact am_iret rfl rfl rfl ⟨by rw [show zEx f g cs (f 2 0).toNat x = 0 from if_neg (fun u => u.1 c1)], rfl⟩
  · iterate 2 (refine am_go rfl (by first | exact True.intro | omega | exact ⟨by decide, Nat.le_of_ble_eq_true rfl, Nat.le_of_ble_eq_true rfl⟩ | exact ⟨by decide, Nat.le_of_ble_eq_true rfl⟩) ?_)
    refine am_if rfl (fun c2 => ?_) (fun c2 => ?_)
    · (refine am_go rfl (by first | exact True.intro | omega | exact ⟨by decide, Nat.le_of_ble_eq_true rfl, Nat.le_of_ble_eq_true rfl⟩ | exact ⟨by decide, Nat.le_of_ble_eq_true rfl⟩) ?_)
      exact am_iret rfl rfl rfl ⟨by rw [show zEx f g cs (f 2 0).toNat x = 0 from if_neg (fun u => u.2.1 c2)], rfl⟩
    · iterate 4 (refine am_go rfl (by first | exact True.intro | omega | exact ⟨by decide, Nat.le_of_ble_eq_true rfl, Nat.le_of_ble_eq_true rfl⟩ | exact ⟨by decide, Nat.le_of_ble_eq_true rfl⟩) ?_)
      refine am_call rfl (cm_isFit x _ _ (by omega)) (by decide) (Nat.le_of_ble_eq_true rfl) (Nat.le_of_ble_eq_true rfl) (Nat.le_of_ble_eq_true rfl) (fun rv s q => ?_)
      rcases q with ⟨rfl, ⟨rfl, q1⟩ | ⟨rfl, q1⟩⟩
      · rw [hD.fit] at q1
        refine am_if rfl (fun c3 => ?_) (fun c3 => by omega)
        (refine am_go rfl (by first | exact True.intro | omega | exact ⟨by decide, Nat.le_of_ble_eq_true rfl, Nat.le_of_ble_eq_true rfl⟩ | exact ⟨by decide, Nat.le_of_ble_eq_true rfl⟩) ?_)
        exact am_iret rfl rfl rfl ⟨by rw [show zEx f g cs (f 2 0).toNat x = 0 from if_neg (fun u => u.2.2 q1)], rfl⟩
      · rw [hD.fit] at q1
        refine am_if rfl (fun c3 => by omega) (fun c3 => ?_)
        iterate 2 (refine am_go rfl (by first | exact True.intro | omega | exact ⟨by decide, Nat.le_of_ble_eq_true rfl, Nat.le_of_ble_eq_true rfl⟩ | exact ⟨by decide, Nat.le_of_ble_eq_true rfl⟩) ?_)
        exact am_iret rfl rfl rfl ⟨by rw [show zEx f g cs (f 2 0).toNat x = 100 from if_pos ⟨c1, c2, q1⟩], rfl⟩
/-- one reading among the reference's two; the two of them -/
def mRd (g : Nat → Int → Int) (N : Nat) (r : Int) (e : Int × List Int) : Prop := g 53 r = e.1 ∧ ∀ k : Nat, k < N → g 52 (9 * r + k) = zCs e k
def mHo (f : Nat → Nat → Int) (g : Nat → Int → Int) (N : Nat) (T : List (Int × List Int)) : Prop := match T with
  | [] => f 38 22 = 0
  | [a] => f 38 22 = 1 ∧ mRd g N 0 a
  | [a, b] => f 38 22 = 2 ∧ mRd g N 0 a ∧ mRd g N 1 b
  | _ => False
def zFrK (F f : Nat → Nat → Int) (G g : Nat → Int → Int) : Prop := (∀ x j, x ≠ 38 ∨ j ≠ 22 → F x j = f x j) ∧ ∀ x j, x ≠ 52 ∧ x ≠ 53 → G x j = g x j
set_option maxRecDepth 100000 in
set_option maxHeartbeats 4000000 in
theorem wp_keep86 {Q : Option am_V → am_H → Prop} (sm q : Int) (o3 : Option am_V) (hq : q = 0 ∨ q = 1) (hN : 0 ≤ f 2 0 ∧ f 2 0 ≤ 9) (hp : f 38 5 = f 2 0) (h22 : 0 ≤ f 38 22 ∧ f 38 22 ≤ 2)
    (K : ∀ G, G 53 q = sm → (∀ k : Nat, k < (f 2 0).toNat → G 52 (9 * q + k) = g 54 k) → (∀ x j, (x ≠ 52 ∨ j < 9 * q ∨ 9 * q + f 2 0 ≤ j) → (x ≠ 53 ∨ j ≠ q) → G x j = g x j) → Q none (58, am_u1 f 38 22 (if f 38 22 < 2 then f 38 22 + 1 else 2), G, pr_r a b c)) : am_wp l dC dI tc mm6_keep 3 58 58 (Q) 86 [some (.inr (.inr (some 38))), some (.inl sm), some (.inl q), o3] [] (58, f, g, pr_r a b c) := by
  have loop : ∀ (n k : Nat) (G : Nat → Int → Int), k + n = (f 2 0).toNat → G 53 q = sm → (∀ j : Nat, j < k → G 52 (9 * q + j) = g 54 j) → (∀ x j, (x ≠ 52 ∨ j < 9 * q ∨ 9 * q + k ≤ j) → (x ≠ 53 ∨ j ≠ q) → G x j = g x j) → am_wp l dC dI tc mm6_keep 3 58 58 (Q) 93 [some (.inr (.inr (some 38))), some (.inl sm), some (.inl q), some (.inl (k : Int))] [] (58, f, G, pr_r a b c) := by
    intro n
    induction n with
    | zero =>
      intro k G hk h1 h2 h3
      iterate 3 (refine am_go rfl (by first | exact True.intro | omega | exact ⟨by decide, Nat.le_of_ble_eq_true rfl, Nat.le_of_ble_eq_true rfl⟩ | exact ⟨by decide, Nat.le_of_ble_eq_true rfl⟩) ?_)
      refine am_if rfl (fun c1 => ?_) (fun c1 => by omega)
      iterate 4 (refine am_go rfl (by first | exact True.intro | omega | exact ⟨by decide, Nat.le_of_ble_eq_true rfl, Nat.le_of_ble_eq_true rfl⟩ | exact ⟨by decide, Nat.le_of_ble_eq_true rfl⟩) ?_)
      have K1 := K G h1 (fun j hj => h2 j (by omega)) (fun x j a1 a2 => h3 x j (by omega) a2)
      refine am_if rfl (fun c2 => ?_) (fun c2 => ?_)
      · rw [if_neg (by omega)] at K1
        iterate 2 (refine am_go rfl (by first | exact True.intro | omega | exact ⟨by decide, Nat.le_of_ble_eq_true rfl, Nat.le_of_ble_eq_true rfl⟩ | exact ⟨by decide, Nat.le_of_ble_eq_true rfl⟩) ?_)
        exact am_vret (x := 0) rfl rfl rfl K1
      · rw [if_pos (by omega)] at K1
        iterate 6 (refine am_go rfl (by first | exact True.intro | omega | exact ⟨by decide, Nat.le_of_ble_eq_true rfl, Nat.le_of_ble_eq_true rfl⟩ | exact ⟨by decide, Nat.le_of_ble_eq_true rfl⟩) ?_)
        exact am_vret (x := 0) rfl rfl rfl K1
    | succ n ih =>
      intro k G hk h1 h2 h3
      iterate 3 (refine am_go rfl (by first | exact True.intro | omega | exact ⟨by decide, Nat.le_of_ble_eq_true rfl, Nat.le_of_ble_eq_true rfl⟩ | exact ⟨by decide, Nat.le_of_ble_eq_true rfl⟩) ?_)
      refine am_if rfl (fun c1 => by omega) (fun c1 => ?_)
      iterate 14 (refine am_go rfl (by first | exact True.intro | omega | exact ⟨by decide, Nat.le_of_ble_eq_true rfl, Nat.le_of_ble_eq_true rfl⟩ | exact ⟨by decide, Nat.le_of_ble_eq_true rfl⟩) ?_)
      refine ih (k + 1) _ (by omega) ?_ ?_ ?_
      · rw [am_u3_c (by decide)]
        exact h1
      · intro j hj
        by_cases u : j = k
        · rw [u, am_u3_s]
          exact h3 54 k (Or.inl (by decide)) (Or.inl (by decide))
        · rw [am_u3_j (by omega)]
          exact h2 j (by omega)
      · intro x j a1 a2
        by_cases u : x = 52 ∧ j = 9 * q + k
        · omega
        · have : am_u3 G 52 (9 * q + (k : Int)) (G 54 k) x j = G x j := by
            unfold am_u3
            by_cases w : x = 52
            · rw [if_pos w, if_neg (fun z => u ⟨w, z⟩)]
            · rw [if_neg w]
          rw [this]
          exact h3 x j (by omega) a2
  have hqr : 0 ≤ q ∧ q ≤ 1 := by omega
  clear hq
  iterate 7 (refine am_go rfl (by first | exact True.intro | omega | exact ⟨by decide, Nat.le_of_ble_eq_true rfl, Nat.le_of_ble_eq_true rfl⟩ | exact ⟨by decide, Nat.le_of_ble_eq_true rfl⟩) ?_)
  refine loop (f 2 0).toNat 0 _ (by omega) am_u3_s (fun j hj => by omega) (fun x j a1 a2 => ?_)
  unfold am_u3
  by_cases w : x = 53
  · rw [if_pos w, if_neg (by omega)]
  · rw [if_neg w]
end Mod3
end
section
/-! the reference keeps a reading -/
section Mod4
variable {l : Launch} {dC : Nat → ClassId} {dI : Nat → Nat → Nat} {tc : Nat → ClassId} {f : Nat → Nat → Int} {g : Nat → Int → Int} {a b c : Nat}
variable {cs : Nat → Int}
set_option maxRecDepth 100000 in
set_option maxHeartbeats 4000000 in
theorem wp_keep61 {Q : Option am_V → am_H → Prop} (sm : Int) (hN : 0 ≤ f 2 0 ∧ f 2 0 ≤ 9) (hp : f 38 5 = f 2 0) (h22 : 0 ≤ f 38 22 ∧ f 38 22 ≤ 2)
    (K : ∀ G, G 53 0 = sm → G 53 1 = g 53 0 → (∀ k : Nat, k < (f 2 0).toNat → G 52 k = g 54 k) → (∀ k : Nat, k < (f 2 0).toNat → G 52 (9 + k) = g 52 k) → (∀ x j, x ≠ 52 ∧ x ≠ 53 → G x j = g x j) → Q none (58, am_u1 f 38 22 (if f 38 22 < 2 then f 38 22 + 1 else 2), G, pr_r a b c)) : am_wp l dC dI tc mm6_keep 3 58 58 (Q) 61 [some (.inr (.inr (some 38))), some (.inl sm), some (.inl 0), none] [] (58, f, g, pr_r a b c) := by
  have loop : ∀ (n k : Nat) (G : Nat → Int → Int), k + n = 9 → G 53 1 = g 53 0 → (∀ j : Nat, j < k → G 52 (9 + j) = g 52 j) → (∀ j : Int, j < 9 → G 52 j = g 52 j) → (∀ x j, x ≠ 52 ∧ x ≠ 53 → G x j = g x j) → am_wp l dC dI tc mm6_keep 3 58 58 (Q) 71 [some (.inr (.inr (some 38))), some (.inl sm), some (.inl 0), some (.inl (k : Int))] [] (58, f, G, pr_r a b c) := by
    intro n
    induction n with
    | zero =>
      intro k G hk h1 h2 h3 h4
      iterate 2 (refine am_go rfl (by first | exact True.intro | omega | exact ⟨by decide, Nat.le_of_ble_eq_true rfl, Nat.le_of_ble_eq_true rfl⟩ | exact ⟨by decide, Nat.le_of_ble_eq_true rfl⟩) ?_)
      refine am_if rfl (fun c1 => ?_) (fun c1 => by omega)
      refine wp_keep86 sm 0 _ (Or.inl rfl) hN hp h22 (fun G' e1 e2 e3 => K G' e1 ?_ ?_ ?_ ?_)
      · rw [e3 53 1 (Or.inl (by decide)) (Or.inr (by decide))]
        exact h1
      · intro k hk
        have := e2 k hk
        rw [show (9 * 0 + (k : Int)) = k by omega] at this
        rw [this]
        exact h4 54 k (by decide)
      · intro k hk
        rw [e3 52 (9 + k) (Or.inr (Or.inr (by omega))) (Or.inl (by decide))]
        exact h2 k (by omega)
      · intro x j hx
        rw [e3 x j (Or.inl hx.1) (Or.inl hx.2)]
        exact h4 x j hx
    | succ n ih =>
      intro k G hk h1 h2 h3 h4
      iterate 2 (refine am_go rfl (by first | exact True.intro | omega | exact ⟨by decide, Nat.le_of_ble_eq_true rfl, Nat.le_of_ble_eq_true rfl⟩ | exact ⟨by decide, Nat.le_of_ble_eq_true rfl⟩) ?_)
      refine am_if rfl (fun c1 => by omega) (fun c1 => ?_)
      iterate 12 (refine am_go rfl (by first | exact True.intro | omega | exact ⟨by decide, Nat.le_of_ble_eq_true rfl, Nat.le_of_ble_eq_true rfl⟩ | exact ⟨by decide, Nat.le_of_ble_eq_true rfl⟩) ?_)
      refine ih (k + 1) _ (by omega) ?_ ?_ ?_ ?_
      · rw [am_u3_c (by decide)]
        exact h1
      · intro j hj
        by_cases u : j = k
        · rw [u, am_u3_s]
          exact h3 k (by omega)
        · rw [am_u3_j (by omega)]
          exact h2 j (by omega)
      · intro j hj
        rw [am_u3_j (by omega)]
        exact h3 j hj
      · intro x j hx
        rw [am_u3_c hx.1]
        exact h4 x j hx
  iterate 10 (refine am_go rfl (by first | exact True.intro | omega | exact ⟨by decide, Nat.le_of_ble_eq_true rfl, Nat.le_of_ble_eq_true rfl⟩ | exact ⟨by decide, Nat.le_of_ble_eq_true rfl⟩) ?_)
  refine loop 9 0 _ (by omega) am_u3_s (fun j hj => by omega) (fun j hj => am_u3_c (by decide)) (fun x j hx => am_u3_c hx.2)
theorem zCs_r {m : Int} {cs : Nat → Int} {N k : Nat} (h : k < N) : zCs (m, (List.range N).map cs) k = cs k := by
  unfold zCs
  simp [List.getD_eq_getElem?_getD, h]
theorem mRd_k {G g : Nat → Int → Int} {N : Nat} {e : Int × List Int} {r q : Int} (h : mRd g N r e) (h1 : G 53 q = g 53 r) (h2 : ∀ k : Nat, k < N → G 52 (9 * q + k) = g 52 (9 * r + k)) : mRd G N q e := ⟨by rw [h1, h.1], fun k hk => by rw [h2 k hk, h.2 k hk]⟩
theorem mRd_n {G g : Nat → Int → Int} {N : Nat} {sm q : Int} (h1 : G 53 q = sm) (hc : ∀ k : Nat, k < N → g 54 k = cs k) (h2 : ∀ k : Nat, k < N → G 52 (9 * q + k) = g 54 k) : mRd G N q (sm, (List.range N).map cs) := ⟨h1, fun k hk => by rw [h2 k hk, hc k hk, zCs_r hk]⟩
theorem zFrK_n {f : Nat → Nat → Int} {G g : Nat → Int → Int} (v : Int) (h : ∀ x j, x ≠ 52 ∧ x ≠ 53 → G x j = g x j) : zFrK (am_u1 f 38 22 v) f G g := ⟨fun x j hx => am_u1_ne hx, h⟩
set_option maxRecDepth 100000 in
set_option maxHeartbeats 4000000 in
theorem wp_keep40 {Q : Option am_V → am_H → Prop} (sm : Int) (o2 : Option am_V) {T : List (Int × List Int)} (hN : 0 ≤ f 2 0 ∧ f 2 0 ≤ 9) (hp : f 38 5 = f 2 0) (hc : ∀ k : Nat, k < (f 2 0).toNat → g 54 k = cs k) (hT : mHo f g (f 2 0).toNat T) (ho : zo2 T)
    (K : ∀ F G, zFrK F f G g → mHo F G (f 2 0).toNat (zi2 T (sm, (List.range (f 2 0).toNat).map cs)) → Q none (58, F, G, pr_r a b c)) : am_wp l dC dI tc mm6_keep 3 58 58 Q 40 [some (.inr (.inr (some 38))), some (.inl sm), o2, none] [] (58, f, g, pr_r a b c) := by
  match T, hT, ho with
  | [], hT, _ =>
    have hT : f 38 22 = 0 := hT
    iterate 4 (refine am_go rfl (by first | exact True.intro | omega | exact ⟨by decide, Nat.le_of_ble_eq_true rfl, Nat.le_of_ble_eq_true rfl⟩ | exact ⟨by decide, Nat.le_of_ble_eq_true rfl⟩) ?_)
    refine am_if rfl (fun c1 => ?_) (fun c1 => by omega)
    iterate 2 (refine am_go rfl (by first | exact True.intro | omega | exact ⟨by decide, Nat.le_of_ble_eq_true rfl, Nat.le_of_ble_eq_true rfl⟩ | exact ⟨by decide, Nat.le_of_ble_eq_true rfl⟩) ?_)
    refine am_if rfl (fun c1 => ?_) (fun c1 => by omega)
    (refine am_go rfl (by first | exact True.intro | omega | exact ⟨by decide, Nat.le_of_ble_eq_true rfl, Nat.le_of_ble_eq_true rfl⟩ | exact ⟨by decide, Nat.le_of_ble_eq_true rfl⟩) ?_)
    refine am_if rfl (fun c1 => by omega) (fun c1 => ?_)
    rw [hT]
    refine wp_keep61 sm hN hp (by omega) (fun G e1 e2 e3 e4 e5 => K _ G (zFrK_n _ e5) ?_)
    exact ⟨by rw [am_u1_s, if_pos (by omega)]; omega, mRd_n e1 hc (fun k hk => by rw [show 9 * 0 + (k : Int) = k by omega]; exact e3 k hk)⟩
  | [x], hT, _ =>
    obtain ⟨h1, h2⟩ : f 38 22 = 1 ∧ mRd g (f 2 0).toNat 0 x := hT
    have hs := h2.1
    iterate 4 (refine am_go rfl (by first | exact True.intro | omega | exact ⟨by decide, Nat.le_of_ble_eq_true rfl, Nat.le_of_ble_eq_true rfl⟩ | exact ⟨by decide, Nat.le_of_ble_eq_true rfl⟩) ?_)
    refine am_if rfl (fun c1 => by omega) (fun c1 => ?_)
    iterate 7 (refine am_go rfl (by first | exact True.intro | omega | exact ⟨by decide, Nat.le_of_ble_eq_true rfl, Nat.le_of_ble_eq_true rfl⟩ | exact ⟨by decide, Nat.le_of_ble_eq_true rfl⟩) ?_)
    rw [show f 38 22 - 1 = 0 by omega, hs]
    refine am_if rfl (fun c2 => ?_) (fun c2 => ?_)
    · iterate 2 (refine am_go rfl (by first | exact True.intro | omega | exact ⟨by decide, Nat.le_of_ble_eq_true rfl, Nat.le_of_ble_eq_true rfl⟩ | exact ⟨by decide, Nat.le_of_ble_eq_true rfl⟩) ?_)
      refine am_if rfl (fun c1 => ?_) (fun c1 => by omega)
      (refine am_go rfl (by first | exact True.intro | omega | exact ⟨by decide, Nat.le_of_ble_eq_true rfl, Nat.le_of_ble_eq_true rfl⟩ | exact ⟨by decide, Nat.le_of_ble_eq_true rfl⟩) ?_)
      refine am_if rfl (fun c1 => ?_) (fun c1 => by omega)
      rw [h1]
      refine wp_keep86 sm 1 _ (Or.inr rfl) hN hp (by omega) (fun G e1 e2 e3 => K _ G (zFrK_n _ (fun x j hx => e3 x j (Or.inl hx.1) (Or.inl hx.2))) ?_)
      simp only [zi2]
      rw [if_neg (show ¬ sm < x.1 by omega)]
      refine ⟨by rw [am_u1_s, if_pos (by omega)]; omega, mRd_k h2 (e3 53 0 (Or.inl (by decide)) (Or.inr (by decide))) (fun k hk => e3 52 _ (Or.inr (Or.inl (by omega))) (Or.inl (by decide))), mRd_n e1 hc e2⟩
    · iterate 3 (refine am_go rfl (by first | exact True.intro | omega | exact ⟨by decide, Nat.le_of_ble_eq_true rfl, Nat.le_of_ble_eq_true rfl⟩ | exact ⟨by decide, Nat.le_of_ble_eq_true rfl⟩) ?_)
      rw [show f 38 22 + -1 = 0 by omega]
      refine am_if rfl (fun c1 => ?_) (fun c1 => by omega)
      iterate 2 (refine am_go rfl (by first | exact True.intro | omega | exact ⟨by decide, Nat.le_of_ble_eq_true rfl, Nat.le_of_ble_eq_true rfl⟩ | exact ⟨by decide, Nat.le_of_ble_eq_true rfl⟩) ?_)
      refine am_if rfl (fun c1 => ?_) (fun c1 => by omega)
      (refine am_go rfl (by first | exact True.intro | omega | exact ⟨by decide, Nat.le_of_ble_eq_true rfl, Nat.le_of_ble_eq_true rfl⟩ | exact ⟨by decide, Nat.le_of_ble_eq_true rfl⟩) ?_)
      refine am_if rfl (fun c1 => by omega) (fun c1 => ?_)
      refine wp_keep61 sm hN hp (by omega) (fun G e1 e2 e3 e4 e5 => K _ G (zFrK_n _ e5) ?_)
      simp only [zi2]
      rw [if_pos (show sm < x.1 by omega)]
      refine ⟨by rw [am_u1_s, if_pos (by omega)]; omega, mRd_n e1 hc (fun k hk => by rw [show 9 * 0 + (k : Int) = k by omega]; exact e3 k hk), mRd_k h2 e2 (fun k hk => ?_)⟩
      rw [show 9 * 1 + (k : Int) = 9 + k by omega, show 9 * 0 + (k : Int) = k by omega]
      exact e4 k hk
  | [x, y], hT, ho =>
    obtain ⟨h1, h2, h3⟩ : f 38 22 = 2 ∧ mRd g (f 2 0).toNat 0 x ∧ mRd g (f 2 0).toNat 1 y := hT
    have ho : x.1 ≤ y.1 := ho
    have hs := h2.1
    have hs3 := h3.1
    iterate 4 (refine am_go rfl (by first | exact True.intro | omega | exact ⟨by decide, Nat.le_of_ble_eq_true rfl, Nat.le_of_ble_eq_true rfl⟩ | exact ⟨by decide, Nat.le_of_ble_eq_true rfl⟩) ?_)
    refine am_if rfl (fun c1 => by omega) (fun c1 => ?_)
    iterate 7 (refine am_go rfl (by first | exact True.intro | omega | exact ⟨by decide, Nat.le_of_ble_eq_true rfl, Nat.le_of_ble_eq_true rfl⟩ | exact ⟨by decide, Nat.le_of_ble_eq_true rfl⟩) ?_)
    rw [show f 38 22 - 1 = 1 by omega, hs3]
    refine am_if rfl (fun c2 => ?_) (fun c2 => ?_)
    · iterate 2 (refine am_go rfl (by first | exact True.intro | omega | exact ⟨by decide, Nat.le_of_ble_eq_true rfl, Nat.le_of_ble_eq_true rfl⟩ | exact ⟨by decide, Nat.le_of_ble_eq_true rfl⟩) ?_)
      refine am_if rfl (fun c1 => by omega) (fun c1 => ?_)
      refine am_vret (x := 0) rfl rfl rfl (K f g ⟨fun _ _ _ => rfl, fun _ _ _ => rfl⟩ ?_)
      simp only [zi2]
      rw [if_neg (show ¬ sm < x.1 by omega), if_neg (show ¬ sm < y.1 by omega)]
      exact ⟨h1, h2, h3⟩
    · iterate 3 (refine am_go rfl (by first | exact True.intro | omega | exact ⟨by decide, Nat.le_of_ble_eq_true rfl, Nat.le_of_ble_eq_true rfl⟩ | exact ⟨by decide, Nat.le_of_ble_eq_true rfl⟩) ?_)
      rw [show f 38 22 + -1 = 1 by omega]
      refine am_if rfl (fun c1 => by omega) (fun c1 => ?_)
      iterate 7 (refine am_go rfl (by first | exact True.intro | omega | exact ⟨by decide, Nat.le_of_ble_eq_true rfl, Nat.le_of_ble_eq_true rfl⟩ | exact ⟨by decide, Nat.le_of_ble_eq_true rfl⟩) ?_)
      rw [show (1 : Int) - 1 = 0 by omega, hs]
      refine am_if rfl (fun c3 => ?_) (fun c3 => ?_)
      · iterate 2 (refine am_go rfl (by first | exact True.intro | omega | exact ⟨by decide, Nat.le_of_ble_eq_true rfl, Nat.le_of_ble_eq_true rfl⟩ | exact ⟨by decide, Nat.le_of_ble_eq_true rfl⟩) ?_)
        refine am_if rfl (fun c1 => ?_) (fun c1 => by omega)
        (refine am_go rfl (by first | exact True.intro | omega | exact ⟨by decide, Nat.le_of_ble_eq_true rfl, Nat.le_of_ble_eq_true rfl⟩ | exact ⟨by decide, Nat.le_of_ble_eq_true rfl⟩) ?_)
        refine am_if rfl (fun c1 => ?_) (fun c1 => by omega)
        refine wp_keep86 sm 1 _ (Or.inr rfl) hN hp (by omega) (fun G e1 e2 e3 => K _ G (zFrK_n _ (fun x j hx => e3 x j (Or.inl hx.1) (Or.inl hx.2))) ?_)
        simp only [zi2]
        rw [if_neg (show ¬ sm < x.1 by omega), if_pos (show sm < y.1 by omega)]
        refine ⟨by rw [am_u1_s, if_neg (by omega)], mRd_k h2 (e3 53 0 (Or.inl (by decide)) (Or.inr (by decide))) (fun k hk => e3 52 _ (Or.inr (Or.inl (by omega))) (Or.inl (by decide))), mRd_n e1 hc e2⟩
      · iterate 3 (refine am_go rfl (by first | exact True.intro | omega | exact ⟨by decide, Nat.le_of_ble_eq_true rfl, Nat.le_of_ble_eq_true rfl⟩ | exact ⟨by decide, Nat.le_of_ble_eq_true rfl⟩) ?_)
        rw [show (1 : Int) + -1 = 0 by omega]
        refine am_if rfl (fun c1 => ?_) (fun c1 => by omega)
        iterate 2 (refine am_go rfl (by first | exact True.intro | omega | exact ⟨by decide, Nat.le_of_ble_eq_true rfl, Nat.le_of_ble_eq_true rfl⟩ | exact ⟨by decide, Nat.le_of_ble_eq_true rfl⟩) ?_)
        refine am_if rfl (fun c1 => ?_) (fun c1 => by omega)
        (refine am_go rfl (by first | exact True.intro | omega | exact ⟨by decide, Nat.le_of_ble_eq_true rfl, Nat.le_of_ble_eq_true rfl⟩ | exact ⟨by decide, Nat.le_of_ble_eq_true rfl⟩) ?_)
        refine am_if rfl (fun c1 => by omega) (fun c1 => ?_)
        refine wp_keep61 sm hN hp (by omega) (fun G e1 e2 e3 e4 e5 => K _ G (zFrK_n _ e5) ?_)
        simp only [zi2]
        rw [if_pos (show sm < x.1 by omega)]
        refine ⟨by rw [am_u1_s, if_neg (by omega)], mRd_n e1 hc (fun k hk => by rw [show 9 * 0 + (k : Int) = k by omega]; exact e3 k hk), mRd_k h2 e2 (fun k hk => ?_)⟩
        rw [show 9 * 1 + (k : Int) = 9 + k by omega, show 9 * 0 + (k : Int) = k by omega]
        exact e4 k hk
set_option maxRecDepth 100000 in
set_option maxHeartbeats 4000000 in
theorem cm_keeps {T : List (Int × List Int)} (hI : zI f g) (hD : zD f g) (hC : zCh g cs (f 2 0).toNat) (hV : ∀ j : Nat, j < (f 2 0).toNat → zVl f g cs j) (hT : mHo f g (f 2 0).toNat T) (ho : zo2 T) : am_Ct l dC dI tc mm6_keep 3 58 [(.inr (.inr (some 38)))] (58, f, g, pr_r a b c) (fun r s => r = none ∧ ∃ F G, s = (58, F, G, pr_r a b c) ∧ zFrK F f G g ∧ mHo F G (f 2 0).toNat (zi2 T (zTt f g cs (f 2 0).toNat, (List.range (f 2 0).toNat).map cs))) := by
  have i1 := hI.1
  have e1 := hD.pn
  have ex2 := zEx_r f g cs (f 2 0).toNat 2
  have ex6 := zEx_r f g cs (f 2 0).toNat 6
  refine am_enter ok_6_keep rfl (by decide) (Nat.le_of_ble_eq_true rfl) rfl ?_
  have loop : ∀ (n k : Nat) (sm : Int), k + n = (f 2 0).toNat → sm = zSm g cs (zEx f g cs (f 2 0).toNat 2 + zEx f g cs (f 2 0).toNat 6) k → am_wp l dC dI tc mm6_keep 3 58 58 (fun r s => r = none ∧ ∃ F G, s = (58, F, G, pr_r a b c) ∧ zFrK F f G g ∧ mHo F G (f 2 0).toNat (zi2 T (zTt f g cs (f 2 0).toNat, (List.range (f 2 0).toNat).map cs))) 10 [some (.inr (.inr (some 38))), some (.inl sm), some (.inl (k : Int)), none] [] (58, f, g, pr_r a b c) := by
    intro n
    induction n with
    | zero =>
      intro k sm hk hv
      iterate 3 (refine am_go rfl (by first | exact True.intro | omega | exact ⟨by decide, Nat.le_of_ble_eq_true rfl, Nat.le_of_ble_eq_true rfl⟩ | exact ⟨by decide, Nat.le_of_ble_eq_true rfl⟩) ?_)
      refine am_if rfl (fun c1 => ?_) (fun c1 => by omega)
      refine wp_keep40 sm _ i1 e1 (fun k hk => (hC k hk).1) hT ho (fun F G h1 h2 => ⟨rfl, F, G, rfl, h1, ?_⟩)
      rw [hv, show k = (f 2 0).toNat by omega] at h2
      exact h2
    | succ n ih =>
      intro k sm hk hv
      have e2 := hD.ms k (by omega) (by omega)
      obtain ⟨h1, h2, h3⟩ := hC k (by omega)
      have hv1 := hV k (by omega)
      have hr := zSm_r hI hD (a := zEx f g cs (f 2 0).toNat 2 + zEx f g cs (f 2 0).toNat 6) (by omega) k (by omega) (fun j hj => hV j (by omega))
      have hco := zCo_r hI hD (by omega) hv1
      have hsum : zSm g cs (zEx f g cs (f 2 0).toNat 2 + zEx f g cs (f 2 0).toNat 6) (k + 1) = sm + zCo g cs k := by rw [hv]; rfl
      iterate 3 (refine am_go rfl (by first | exact True.intro | omega | exact ⟨by decide, Nat.le_of_ble_eq_true rfl, Nat.le_of_ble_eq_true rfl⟩ | exact ⟨by decide, Nat.le_of_ble_eq_true rfl⟩) ?_)
      refine am_if rfl (fun c1 => by omega) (fun c1 => ?_)
      iterate 6 (refine am_go rfl (by first | exact True.intro | omega | exact ⟨by decide, Nat.le_of_ble_eq_true rfl, Nat.le_of_ble_eq_true rfl⟩ | exact ⟨by decide, Nat.le_of_ble_eq_true rfl⟩) ?_)
      rw [h1]
      refine am_if rfl (fun c2 => ?_) (fun c2 => ?_)
      · have hz := zVl_at hI hD hv1 c2
        have hc1 := hv1.1
        have hy1 := hv1.2.1
        have hz1 := hv1.2.2.1
        have hcoe : zCo g cs k = g 17 (zAlt (zPa g cs k).1 (zPa g cs k).2.1 (cs k)) := if_neg c2
        rw [hcoe] at hsum hco
        iterate 8 (refine am_go rfl (by first | exact True.intro | omega | exact ⟨by decide, Nat.le_of_ble_eq_true rfl, Nat.le_of_ble_eq_true rfl⟩ | exact ⟨by decide, Nat.le_of_ble_eq_true rfl⟩) ?_)
        rw [h1]
        (refine am_callv rfl (cm_alternative k (cs k) (by omega) (by omega) (by omega) (by omega)) (by decide) (Nat.le_of_ble_eq_true rfl) (Nat.le_of_ble_eq_true rfl) ?_)
        rw [h2, h3]
        (refine am_go rfl (by first | exact True.intro | omega | exact ⟨by decide, Nat.le_of_ble_eq_true rfl, Nat.le_of_ble_eq_true rfl⟩ | exact ⟨by decide, Nat.le_of_ble_eq_true rfl⟩) ?_)
        rw [hz.2.2.2.1.2]
        iterate 4 (refine am_go rfl (by first | exact True.intro | omega | exact ⟨by decide, Nat.le_of_ble_eq_true rfl, Nat.le_of_ble_eq_true rfl⟩ | exact ⟨by decide, Nat.le_of_ble_eq_true rfl⟩) ?_)
        exact ih (k + 1) _ (by omega) hsum.symm
      · have hcoe : zCo g cs k = g 4 k := if_pos (by omega)
        rw [hcoe] at hsum hco
        iterate 4 (refine am_go rfl (by first | exact True.intro | omega | exact ⟨by decide, Nat.le_of_ble_eq_true rfl, Nat.le_of_ble_eq_true rfl⟩ | exact ⟨by decide, Nat.le_of_ble_eq_true rfl⟩) ?_)
        rw [e2]
        iterate 5 (refine am_go rfl (by first | exact True.intro | omega | exact ⟨by decide, Nat.le_of_ble_eq_true rfl, Nat.le_of_ble_eq_true rfl⟩ | exact ⟨by decide, Nat.le_of_ble_eq_true rfl⟩) ?_)
        exact ih (k + 1) _ (by omega) hsum.symm
  iterate 2 (refine am_go rfl (by first | exact True.intro | omega | exact ⟨by decide, Nat.le_of_ble_eq_true rfl, Nat.le_of_ble_eq_true rfl⟩ | exact ⟨by decide, Nat.le_of_ble_eq_true rfl⟩) ?_)
  (refine am_callv rfl (cm_extra 2 hI hD hC hV) (by decide) (Nat.le_of_ble_eq_true rfl) (Nat.le_of_ble_eq_true rfl) ?_)
  iterate 2 (refine am_go rfl (by first | exact True.intro | omega | exact ⟨by decide, Nat.le_of_ble_eq_true rfl, Nat.le_of_ble_eq_true rfl⟩ | exact ⟨by decide, Nat.le_of_ble_eq_true rfl⟩) ?_)
  (refine am_callv rfl (cm_extra 6 hI hD hC hV) (by decide) (Nat.le_of_ble_eq_true rfl) (Nat.le_of_ble_eq_true rfl) ?_)
  iterate 4 (refine am_go rfl (by first | exact True.intro | omega | exact ⟨by decide, Nat.le_of_ble_eq_true rfl, Nat.le_of_ble_eq_true rfl⟩ | exact ⟨by decide, Nat.le_of_ble_eq_true rfl⟩) ?_)
  exact loop (f 2 0).toNat 0 _ (by omega) rfl
end Mod4
end
section
/-! the two least of a set of readings: there is one answer -/
theorem zLt_tr {N : Nat} {d e h : Int × List Int} (h1 : zLt N d e) (h2 : zLt N e h) : zLt N d h := by
  rcases h1 with h1 | ⟨h1, k, k1, k2, k3⟩ <;> rcases h2 with h2 | ⟨h2, m, m1, m2, m3⟩
  · exact Or.inl (by omega)
  · exact Or.inl (by omega)
  · exact Or.inl (by omega)
  · refine Or.inr ⟨by omega, ?_⟩
    by_cases c : k < m
    · exact ⟨k, k1, fun j hj => (k2 j hj).trans (m2 j (by omega)), by rw [← m2 k c]; exact k3⟩
    · by_cases c2 : m < k
      · exact ⟨m, m1, fun j hj => (k2 j (by omega)).trans (m2 j hj), by rw [k2 m c2]; exact m3⟩
      · obtain rfl : k = m := by omega
        exact ⟨k, k1, fun j hj => (k2 j hj).trans (m2 j hj), by omega⟩
theorem zLt_ir {N : Nat} {d : Int × List Int} (h : zLt N d d) : False := by
  rcases h with h | ⟨-, k, -, -, k3⟩ <;> omega
theorem zLeast {P : Nat → Prop} : ∀ (n : Nat), P n → ∃ k, k ≤ n ∧ P k ∧ ∀ j, j < k → ¬ P j := by
  intro n
  induction n using Nat.strongRecOn with
  | ind n ih =>
    intro h
    by_cases c : ∃ m, m < n ∧ P m
    · obtain ⟨m, m1, m2⟩ := c
      obtain ⟨k, k1, k2, k3⟩ := ih m m1 m2
      exact ⟨k, by omega, k2, k3⟩
    · exact ⟨n, by omega, h, fun j hj u => c ⟨j, hj, u⟩⟩
theorem zCs_ext {N : Nat} {d e : Int × List Int} (hd : d.2.length = N) (he : e.2.length = N) (h1 : d.1 = e.1) (h : ∀ k, k < N → zCs d k = zCs e k) : d = e := by
  obtain ⟨d1, d2⟩ := d
  obtain ⟨e1, e2⟩ := e
  have hd : d2.length = N := hd
  have he : e2.length = N := he
  have h1 : d1 = e1 := h1
  rw [h1]
  congr 1
  refine List.ext_getElem (by omega) (fun k k1 k2 => ?_)
  have := h k (by omega)
  simp only [zCs, List.getD_eq_getElem?_getD, List.getElem?_eq_getElem k1, List.getElem?_eq_getElem k2, Option.getD_some] at this
  exact this
theorem zLt_to {N : Nat} {d e : Int × List Int} (hd : d.2.length = N) (he : e.2.length = N) (hne : d ≠ e) : zLt N d e ∨ zLt N e d := by
  by_cases c : d.1 = e.1
  · by_cases c2 : ∀ k, k < N → zCs d k = zCs e k
    · exact absurd (zCs_ext hd he c c2) hne
    · have : ∃ k, k < N ∧ zCs d k ≠ zCs e k := Classical.byContradiction (fun u => c2 (fun k hk => Classical.byContradiction (fun w => u ⟨k, hk, w⟩)))
      obtain ⟨n, n1, n2⟩ := this
      obtain ⟨k, k1, k2, k3⟩ := zLeast (P := fun k => zCs d k ≠ zCs e k) n n2
      have k4 : ∀ j, j < k → zCs d j = zCs e j := fun j hj => Classical.byContradiction (fun w => k3 j hj w)
      by_cases c3 : zCs d k < zCs e k
      · exact Or.inl (Or.inr ⟨c, k, by omega, k4, c3⟩)
      · exact Or.inr (Or.inr ⟨c.symm, k, by omega, fun j hj => (k4 j hj).symm, by omega⟩)
  · by_cases c2 : d.1 < e.1
    · exact Or.inl (Or.inl c2)
    · exact Or.inr (Or.inl (by omega))
/-- T is the two least of M -/
def zTw (N : Nat) (M : Int × List Int → Prop) (T : List (Int × List Int)) : Prop := match T with
  | [] => ∀ e, ¬ M e
  | [a] => M a ∧ ∀ e, M e → e = a
  | [a, b] => M a ∧ M b ∧ zLt N a b ∧ ∀ e, M e → e = a ∨ e = b ∨ zLt N b e
  | _ => False
theorem zTw_u {N : Nat} {M : Int × List Int → Prop} {T U : List (Int × List Int)} (h1 : zTw N M T) (h2 : zTw N M U) : T = U := by
  match T, U, h1, h2 with
  | [], [], _, _ => rfl
  | [], [x], h1, h2 => exact absurd h2.1 (h1 x)
  | [], [x, y], h1, h2 => exact absurd h2.1 (h1 x)
  | [a], [], h1, h2 => exact absurd h1.1 (h2 a)
  | [a, b], [], h1, h2 => exact absurd h1.1 (h2 a)
  | [a], [x], h1, h2 => rw [h1.2 x h2.1]
  | [a], [x, y], h1, h2 =>
    have e1 := h1.2 x h2.1
    have e2 := h1.2 y h2.2.1
    have h3 := h2.2.2.1
    rw [e1, e2] at h3
    exact (zLt_ir h3).elim
  | [a, b], [x], h1, h2 =>
    have e1 := h2.2 a h1.1
    have e2 := h2.2 b h1.2.1
    have h3 := h1.2.2.1
    rw [e1, e2] at h3
    exact (zLt_ir h3).elim
  | [a, b], [x, y], h1, h2 =>
    obtain ⟨a1, a2, a3, a4⟩ := h1
    obtain ⟨b1, b2, b3, b4⟩ := h2
    rcases a4 x b1 with r | r | r
    · subst r
      rcases a4 y b2 with r | r | r
      · subst r
        exact (zLt_ir b3).elim
      · rw [r]
      · rcases b4 b a2 with s | s | s
        · subst s
          exact (zLt_ir a3).elim
        · rw [s]
        · exact (zLt_ir (zLt_tr s r)).elim
    · subst r
      rcases b4 a a1 with s | s | s
      · subst s
        exact (zLt_ir a3).elim
      · subst s
        exact (zLt_ir (zLt_tr a3 b3)).elim
      · exact (zLt_ir (zLt_tr a3 (zLt_tr b3 s))).elim
    · rcases b4 a a1 with s | s | s
      · subst s
        exact (zLt_ir (zLt_tr a3 r)).elim
      · subst s
        exact (zLt_ir (zLt_tr a3 (zLt_tr r b3))).elim
      · exact (zLt_ir (zLt_tr a3 (zLt_tr r (zLt_tr b3 s)))).elim
theorem zTw_c {N : Nat} {M M' : Int × List Int → Prop} {T : List (Int × List Int)} (h : ∀ e, M e ↔ M' e) (hT : zTw N M T) : zTw N M' T := by
  rw [show M' = M from funext (fun e => propext (h e).symm)]
  exact hT
theorem zTw_o {N : Nat} {M : Int × List Int → Prop} {T : List (Int × List Int)} (hT : zTw N M T) : zo2 T := by
  match T, hT with
  | [], _ => exact True.intro
  | [a], _ => exact True.intro
  | [a, b], h =>
    rcases h.2.2.1 with u | u
    · show a.1 ≤ b.1
      omega
    · show a.1 ≤ b.1
      omega
theorem zTw_m {N : Nat} {M : Int × List Int → Prop} {T : List (Int × List Int)} (hT : zTw N M T) : ∀ e ∈ T, M e := by
  match T, hT with
  | [], _ => intro e he; cases he
  | [a], h =>
    intro e he
    rw [List.mem_singleton] at he
    rw [he]
    exact h.1
  | [a, b], h =>
    intro e he
    rcases List.mem_cons.mp he with he | he
    · rw [he]
      exact h.1
    · rw [List.mem_singleton] at he
      rw [he]
      exact h.2.1
/-- one more -/
theorem zTw_i {N : Nat} {M : Int × List Int → Prop} {T : List (Int × List Int)} {x : Int × List Int} (hT : zTw N M T) (hx : ∀ e, M e → zLt N x e ∨ zLt N e x) : zTw N (fun e => M e ∨ e = x) (zj2 N T x) := by
  match T, hT with
  | [], h =>
    simp only [zj2]
    exact ⟨Or.inr rfl, fun e he => he.elim (fun u => absurd u (h e)) id⟩
  | [a], h =>
    simp only [zj2]
    split
    · rename_i c
      exact ⟨Or.inr rfl, Or.inl h.1, c, fun e he => he.elim (fun u => Or.inr (Or.inl (h.2 e u))) Or.inl⟩
    · rename_i c
      exact ⟨Or.inl h.1, Or.inr rfl, (hx a h.1).resolve_left c, fun e he => he.elim (fun u => Or.inl (h.2 e u)) (fun u => Or.inr (Or.inl u))⟩
  | [a, b], h =>
    obtain ⟨a1, a2, a3, a4⟩ := h
    simp only [zj2]
    split
    · rename_i c
      refine ⟨Or.inr rfl, Or.inl a1, c, fun e he => he.elim (fun u => ?_) Or.inl⟩
      rcases a4 e u with r | r | r
      · exact Or.inr (Or.inl r)
      · rw [r]
        exact Or.inr (Or.inr a3)
      · exact Or.inr (Or.inr (zLt_tr a3 r))
    · rename_i c
      split
      · rename_i c2
        refine ⟨Or.inl a1, Or.inr rfl, (hx a a1).resolve_left c, fun e he => he.elim (fun u => ?_) (fun u => Or.inr (Or.inl u))⟩
        rcases a4 e u with r | r | r
        · exact Or.inl r
        · rw [r]
          exact Or.inr (Or.inr c2)
        · exact Or.inr (Or.inr (zLt_tr c2 r))
      · rename_i c2
        refine ⟨Or.inl a1, Or.inl a2, a3, fun e he => he.elim (fun u => a4 e u) (fun u => ?_)⟩
        rw [u]
        exact Or.inr (Or.inr ((hx b a2).resolve_left c2))
theorem zi2_j {N : Nat} {T : List (Int × List Int)} {x : Int × List Int} (h : ∀ e ∈ T, zLt N x e ↔ x.1 < e.1) : zi2 T x = zj2 N T x := by
  match T with
  | [] => rfl
  | [a] =>
    have h1 := h a (by simp)
    simp only [zi2, zj2, h1]
  | a :: b :: t =>
    have h1 := h a (by simp)
    have h2 := h b (by simp)
    simp only [zi2, zj2, h1, h2]
/-- choices of one before those of the other -/
def zLc (N : Nat) (d e : Int × List Int) : Prop := ∃ k : Nat, k < N ∧ (∀ j : Nat, j < k → zCs d j = zCs e j) ∧ zCs d k < zCs e k
theorem zLc_as {N : Nat} {d e : Int × List Int} (h1 : zLc N d e) (h2 : zLc N e d) : False := by
  obtain ⟨k, k1, k2, k3⟩ := h1
  obtain ⟨m, m1, m2, m3⟩ := h2
  by_cases c : k < m
  · have := m2 k c
    omega
  · by_cases c2 : m < k
    · have := k2 m c2
      omega
    · obtain rfl : k = m := by omega
      omega
theorem zLc_lt {N : Nat} {x e : Int × List Int} (h : zLc N e x) : zLt N x e ↔ x.1 < e.1 := by
  constructor
  · rintro (u | ⟨-, u⟩)
    · exact u
    · exact (zLc_as h u).elim
  · exact Or.inl
theorem zLc_to {N : Nat} {x e : Int × List Int} (h : zLc N e x) : zLt N x e ∨ zLt N e x := by
  by_cases c : x.1 < e.1
  · exact Or.inl (Or.inl c)
  · by_cases c2 : e.1 = x.1
    · exact Or.inr (Or.inr ⟨c2, h⟩)
    · exact Or.inr (Or.inl (by omega))
/-- one more, behind all in the order of choices -/
theorem zTw_l {N : Nat} {M : Int × List Int → Prop} {T : List (Int × List Int)} {x : Int × List Int} (hT : zTw N M T) (hx : ∀ e, M e → zLc N e x) : zTw N (fun e => M e ∨ e = x) (zi2 T x) := by
  rw [zi2_j (fun e he => zLc_lt (hx e (zTw_m hT e he)))]
  exact zTw_i hT (fun e he => zLc_to (hx e he))
theorem zTw_t {N : Nat} : ∀ (L : List (Int × List Int)) (M : Int × List Int → Prop) (T : List (Int × List Int)), zTw N M T → (∀ e, M e → ∀ x ∈ L, zLc N e x) → L.Pairwise (zLc N) → zTw N (fun e => M e ∨ e ∈ L) (L.foldl zi2 T) := by
  intro L
  induction L with
  | nil => intro M T hT _ _; exact zTw_c (fun e => by simp) hT
  | cons x L ih =>
    intro M T hT h1 h2
    rw [List.pairwise_cons] at h2
    have h3 := zTw_l hT (x := x) (fun e he => h1 e he x (by simp))
    have h4 := ih _ _ h3 (fun e he y hy => he.elim (fun u => h1 e u y (by simp [hy])) (fun u => by rw [u]; exact h2.1 y hy)) h2.2
    refine zTw_c (fun e => ?_) h4
    simp only [List.mem_cons]
    exact or_assoc
theorem zTw_zt {N : Nat} {L : List (Int × List Int)} (h : L.Pairwise (zLc N)) : zTw N (fun e => e ∈ L) (zt2 L) := by
  have := zTw_t (N := N) L (fun _ => False) [] (fun e h => h) (fun e he => he.elim) h
  exact zTw_c (fun e => by simp) this
/-- the two least of two sets, of which one is told by its own two least -/
theorem zTw_ad {N : Nat} {M S : Int × List Int → Prop} {T U : List (Int × List Int)} (hT : zTw N M T) (hU : zTw N S U) (hMS : ∀ e d, M e → S d → zLt N d e ∨ zLt N e d) : zTw N (fun e => M e ∨ S e) (zAd N U 1 (zAd N U 0 T)) := by
  match U, hU with
  | [], h => exact zTw_c (fun e => by simp [h e]) hT
  | [a], h =>
    show zTw N _ (zj2 N T a)
    refine zTw_c (fun e => ?_) (zTw_i hT (x := a) (fun e he => hMS e a he h.1))
    refine or_congr Iff.rfl ⟨fun u => by rw [u]; exact h.1, h.2 e⟩
  | [a, b], h =>
    obtain ⟨a1, a2, a3, a4⟩ := h
    show zTw N _ (zj2 N (zj2 N T a) b)
    have h1 := zTw_i hT (x := a) (fun e he => hMS e a he a1)
    have h2 := zTw_i h1 (x := b) (fun e he => he.elim (fun u => hMS e b u a2) (fun u => by rw [u]; exact Or.inr a3))
    revert h2
    generalize zj2 N (zj2 N T a) b = W
    intro h2
    match W, h2 with
    | [], h2 => exact absurd (Or.inr rfl) (h2 b)
    | [p], h2 =>
      have e1 := h2.2 a (Or.inl (Or.inr rfl))
      have e2 := h2.2 b (Or.inr rfl)
      rw [e1, e2] at a3
      exact (zLt_ir a3).elim
    | [p, q], h2 =>
      obtain ⟨p1, p2, p3, p4⟩ := h2
      have up : ∀ e, ((M e ∨ e = a) ∨ e = b) → M e ∨ S e := by
        rintro e ((u | u) | u)
        · exact Or.inl u
        · rw [u]
          exact Or.inr a1
        · rw [u]
          exact Or.inr a2
      have hqb : q = b ∨ zLt N q b := by
        rcases p4 b (Or.inr rfl) with r | r | r
        · rcases p4 a (Or.inl (Or.inr rfl)) with s | s | s
          · rw [r, s] at a3
            exact (zLt_ir a3).elim
          · rw [r, s] at a3
            exact (zLt_ir (zLt_tr a3 p3)).elim
          · rw [r] at a3
            exact (zLt_ir (zLt_tr a3 (zLt_tr p3 s))).elim
        · exact Or.inl r.symm
        · exact Or.inr r
      refine ⟨up p p1, up q p2, p3, fun e he => ?_⟩
      rcases he with u | u
      · exact p4 e (Or.inl (Or.inl u))
      · rcases a4 e u with r | r | r
        · exact p4 e (Or.inl (Or.inr r))
        · exact p4 e (Or.inr r)
        · rcases hqb with s | s
          · rw [s]
            exact Or.inr (Or.inr r)
          · exact Or.inr (Or.inr (zLt_tr s r))
end
section
/-! the readings that a form and lines allow; how the reference goes through them -/
def zZz (g : Nat → Int → Int) (cs : Nat → Int) (k : Nat) : Int := if cs k = 4 then (zPa g cs k).2.1 else (zPa g cs k).2.1 + 1
def zGo (g : Nat → Int → Int) (cs : Nat → Int) (k : Nat) : Prop := g 5 k = 0 ∨ zZz g cs k = 0 ∨ zZz g cs k = zPl g (zPa g cs k).1
def zCan (g : Nat → Int → Int) (cs : Nat → Int) (k : Nat) : Prop := (cs k = 4 ∧ g 4 k ≠ -1) ∨ (cs k ≠ 4 ∧ cs k < zNa g (zPa g cs k).1 (zPa g cs k).2.1 ∧ g 15 (zAlt (zPa g cs k).1 (zPa g cs k).2.1 (cs k)) = g 3 k)
def zBd (f : Nat → Nat → Int) (g : Nat → Int → Int) (cs : Nat → Int) (k : Nat) : Prop := (0 ≤ (zPa g cs k).1 ∧ (zPa g cs k).1 ≤ f 12 0) ∧ (0 ≤ (zPa g cs k).2.1 ∧ (zPa g cs k).2.1 ≤ zPl g (zPa g cs k).1)
/-- a reading -/
def zVd (f : Nat → Nat → Int) (g : Nat → Int → Int) (N : Nat) (e : Int × List Int) : Prop := e.2.length = N ∧ (∀ k : Nat, k < N → zVl f g (zCs e) k ∧ zGo g (zCs e) k) ∧ (zPa g (zCs e) N).1 = f 12 0 ∧ e.1 = zTt f g (zCs e) N
theorem zPa_s (g : Nat → Int → Int) (cs : Nat → Int) (k : Nat) : ((g 5 k = 0 ∨ zZz g cs k ≤ 0) ∧ (zPa g cs (k + 1)).1 = (zPa g cs k).1 ∧ (zPa g cs (k + 1)).2.1 = zZz g cs k) ∨ (¬ (g 5 k = 0 ∨ zZz g cs k ≤ 0) ∧ (zPa g cs (k + 1)).1 = (zPa g cs k).1 + 1 ∧ (zPa g cs (k + 1)).2.1 = 0) := by
  by_cases h : g 5 k = 0 ∨ zZz g cs k ≤ 0
  · refine Or.inl ⟨h, ?_⟩
    unfold zZz at h ⊢
    simp only [zPa]
    rw [if_pos h]
    exact ⟨rfl, rfl⟩
  · refine Or.inr ⟨h, ?_⟩
    unfold zZz at h
    simp only [zPa]
    rw [if_neg h]
    exact ⟨rfl, rfl⟩
theorem zVl_can {f : Nat → Nat → Int} {g : Nat → Int → Int} {cs : Nat → Int} {k : Nat} : zVl f g cs k ↔ (0 ≤ cs k ∧ cs k ≤ 4) ∧ zBd f g cs k ∧ zCan g cs k := by
  unfold zVl zBd zCan
  constructor
  · rintro ⟨h1, h2, h3, h4⟩
    exact ⟨h1, ⟨h2, h3⟩, h4⟩
  · rintro ⟨h1, ⟨h2, h3⟩, h4⟩
    exact ⟨h1, h2, h3, h4⟩
theorem zZz_r {f : Nat → Nat → Int} {g : Nat → Int → Int} {cs : Nat → Int} {k : Nat} (hI : zI f g) (h : zVl f g cs k) : 0 ≤ zZz g cs k ∧ zZz g cs k ≤ zPl g (zPa g cs k).1 ∧ (0 < zZz g cs k → (zPa g cs k).1 < f 12 0) := by
  obtain ⟨h1, h2, h3, h4⟩ := h
  have key : zZz g cs k ≤ zPl g (zPa g cs k).1 ∧ 0 ≤ zZz g cs k := by
    unfold zZz
    split
    · omega
    · rename_i c
      rcases h4 with h4 | h4
      · exact absurd h4.1 c
      · have := zNa_lt hI (show 0 < zNa g (zPa g cs k).1 (zPa g cs k).2.1 by omega)
        omega
  exact ⟨key.2, key.1, fun u => zPl_lt hI h2.1 (by omega)⟩
theorem zBd_s {f : Nat → Nat → Int} {g : Nat → Int → Int} {cs : Nat → Int} {k : Nat} (hI : zI f g) (h : zVl f g cs k) (hg : zGo g cs k) : zBd f g cs (k + 1) := by
  have hz := zZz_r hI h
  obtain ⟨h1, h2, h3, h4⟩ := h
  unfold zBd
  rcases zPa_s g cs k with ⟨c, e1, e2⟩ | ⟨c, e1, e2⟩
  · rw [e1, e2]
    exact ⟨h2, hz.1, hz.2.1⟩
  · rw [e1, e2]
    have := hz.2.2 (by omega)
    exact ⟨by omega, by omega, (zPl_r hI _).1⟩
theorem zBd_0 {f : Nat → Nat → Int} {g : Nat → Int → Int} (hI : zI f g) (cs : Nat → Int) : zBd f g cs 0 := ⟨⟨Int.le_refl 0, hI.2.2.1.1⟩, Int.le_refl 0, (zPl_r hI _).1⟩
section Congr
variable {f : Nat → Nat → Int} {g : Nat → Int → Int} {cs cs' : Nat → Int} {k : Nat}
theorem zVl_congr (h : ∀ i : Nat, i < k + 1 → cs i = cs' i) : zVl f g cs k ↔ zVl f g cs' k := by
  unfold zVl
  rw [zPa_congr (fun i hi => h i (by omega)), h k (by omega)]
theorem zZz_congr (h : ∀ i : Nat, i < k + 1 → cs i = cs' i) : zZz g cs k = zZz g cs' k := by
  unfold zZz
  rw [zPa_congr (fun i hi => h i (by omega)), h k (by omega)]
theorem zGo_congr (h : ∀ i : Nat, i < k + 1 → cs i = cs' i) : zGo g cs k ↔ zGo g cs' k := by
  unfold zGo
  rw [zZz_congr h, zPa_congr (fun i hi => h i (by omega))]
theorem zVo_congr (kd : Int) : ∀ {k : Nat}, (∀ i : Nat, i < k → cs i = cs' i) → zVo g cs kd k = zVo g cs' kd k := by
  intro k
  induction k with
  | zero => intro _; rfl
  | succ k ih =>
    intro h
    simp only [zVo]
    rw [zPa_congr (fun i hi => h i (by omega)), h k (by omega), ih (fun i hi => h i (by omega))]
theorem zCo_congr (h : ∀ i : Nat, i < k + 1 → cs i = cs' i) : zCo g cs k = zCo g cs' k := by
  unfold zCo
  rw [zPa_congr (fun i hi => h i (by omega)), h k (by omega)]
theorem zSm_congr (v : Int) : ∀ {k : Nat}, (∀ i : Nat, i < k → cs i = cs' i) → zSm g cs v k = zSm g cs' v k := by
  intro k
  induction k with
  | zero => intro _; rfl
  | succ k ih =>
    intro h
    simp only [zSm]
    rw [zCo_congr h, ih (fun i hi => h i (by omega))]
theorem zEx_congr (kd : Int) (h : ∀ i : Nat, i < k → cs i = cs' i) : zEx f g cs k kd = zEx f g cs' k kd := by
  unfold zEx
  rw [zVo_congr kd h, zVo_congr 7 h]
theorem zTt_congr (h : ∀ i : Nat, i < k → cs i = cs' i) : zTt f g cs k = zTt f g cs' k := by
  unfold zTt
  rw [zEx_congr 2 h, zEx_congr 6 h, zSm_congr _ h]
end Congr
/-- the readings up to a beginning, in the order of choices -/
def zLpr (u w : Nat → Int) (m : Nat) : Prop := ∃ j : Nat, j < m ∧ (∀ i : Nat, i < j → u i = w i) ∧ u j < w j
def zDn (f : Nat → Nat → Int) (g : Nat → Int → Int) (N : Nat) (cs : Nat → Int) (m : Nat) (e : Int × List Int) : Prop := zVd f g N e ∧ (zLpr (zCs e) cs m ∨ ∀ i : Nat, i < m → zCs e i = cs i)
section Dn
variable {f : Nat → Nat → Int} {g : Nat → Int → Int} {N : Nat} {cs cs' : Nat → Int} {k : Nat} {e : Int × List Int}
theorem zVd.r (h : zVd f g N e) {i : Nat} (hi : i < N) : 0 ≤ zCs e i ∧ zCs e i ≤ 4 := (h.2.1 i hi).1.1
theorem zDn_inc (hc : ∀ i : Nat, i < k → cs' i = cs i) (hk : cs' k = cs k + 1) (hno : zVd f g N e → (∀ i : Nat, i < k + 1 → zCs e i = cs' i) → False) : zDn f g N cs (k + 1) e ↔ zDn f g N cs' (k + 1) e := by
  refine and_congr_right (fun hv => ⟨?_, ?_⟩)
  · rintro (⟨j, j1, j2, j3⟩ | h)
    · refine Or.inl ⟨j, j1, fun i hi => (j2 i hi).trans (hc i (by omega)).symm, ?_⟩
      by_cases c : j = k
      · rw [c] at j3 ⊢
        omega
      · rw [hc j (by omega)]
        exact j3
    · exact Or.inl ⟨k, by omega, fun i hi => (h i (by omega)).trans (hc i hi).symm, by rw [h k (by omega)]; omega⟩
  · rintro (⟨j, j1, j2, j3⟩ | h)
    · by_cases c : j = k
      · subst c
        by_cases c2 : zCs e j < cs j
        · exact Or.inl ⟨j, j1, fun i hi => (j2 i hi).trans (hc i (by omega)), c2⟩
        · refine Or.inr (fun i hi => ?_)
          by_cases c3 : i = j
          · rw [c3]
            omega
          · exact (j2 i (by omega)).trans (hc i (by omega))
      · refine Or.inl ⟨j, j1, fun i hi => (j2 i hi).trans (hc i (by omega)), ?_⟩
        rw [← hc j (by omega)]
        exact j3
    · exact (hno hv h).elim
theorem zDn_up (hk : cs k = 4) (hN : k < N) : zDn f g N cs (k + 1) e ↔ zDn f g N cs k e := by
  refine and_congr_right (fun hv => ⟨?_, ?_⟩)
  · rintro (⟨j, j1, j2, j3⟩ | h)
    · by_cases c : j = k
      · exact Or.inr (fun i hi => j2 i (by omega))
      · exact Or.inl ⟨j, by omega, j2, j3⟩
    · exact Or.inr (fun i hi => h i (by omega))
  · rintro (⟨j, j1, j2, j3⟩ | h)
    · exact Or.inl ⟨j, by omega, j2, j3⟩
    · have hr := hv.r hN
      by_cases c : zCs e k < cs k
      · exact Or.inl ⟨k, by omega, h, c⟩
      · refine Or.inr (fun i hi => ?_)
        by_cases c2 : i = k
        · rw [c2]
          omega
        · exact h i (by omega)
theorem zDn_down (hc : ∀ i : Nat, i < k → cs' i = cs i) (hk : cs' k = cs k + 1) (hk1 : cs' (k + 1) = -1) (hN : k + 1 < N) : zDn f g N cs (k + 1) e ↔ zDn f g N cs' (k + 1 + 1) e := by
  refine and_congr_right (fun hv => ⟨?_, ?_⟩)
  · rintro (⟨j, j1, j2, j3⟩ | h)
    · refine Or.inl ⟨j, by omega, fun i hi => (j2 i hi).trans (hc i (by omega)).symm, ?_⟩
      by_cases c : j = k
      · rw [c] at j3 ⊢
        omega
      · rw [hc j (by omega)]
        exact j3
    · exact Or.inl ⟨k, by omega, fun i hi => (h i (by omega)).trans (hc i hi).symm, by rw [h k (by omega)]; omega⟩
  · have hr := hv.r hN
    rintro (⟨j, j1, j2, j3⟩ | h)
    · by_cases c1 : j = k + 1
      · subst c1
        omega
      · by_cases c : j = k
        · subst c
          by_cases c2 : zCs e j < cs j
          · exact Or.inl ⟨j, by omega, fun i hi => (j2 i hi).trans (hc i (by omega)), c2⟩
          · refine Or.inr (fun i hi => ?_)
            by_cases c3 : i = j
            · rw [c3]
              omega
            · exact (j2 i (by omega)).trans (hc i (by omega))
        · refine Or.inl ⟨j, by omega, fun i hi => (j2 i hi).trans (hc i (by omega)), ?_⟩
          rw [← hc j (by omega)]
          exact j3
    · have := h (k + 1) (by omega)
      omega
theorem zDn_x (hv : ∀ k : Nat, k < N → zVl f g cs k ∧ zGo g cs k) (he : (zPa g cs N).1 = f 12 0) : zVd f g N (zTt f g cs N, (List.range N).map cs) := by
  have hcs : ∀ i : Nat, i < N → zCs (zTt f g cs N, (List.range N).map cs) i = cs i := fun i hi => zCs_r hi
  refine ⟨by simp, fun k hk => ?_, ?_, ?_⟩
  · rw [zVl_congr (fun i hi => hcs i (by omega)), zGo_congr (fun i hi => hcs i (by omega))]
    exact hv k hk
  · rw [zPa_congr (fun i hi => hcs i (by omega))]
    exact he
  · exact (zTt_congr (fun i hi => hcs i (by omega))).symm
theorem zDn_keep (hc : ∀ i : Nat, i < k → cs' i = cs i) (hk : cs' k = cs k + 1) (hN : k + 1 = N) (hx : zVd f g N (zTt f g cs' N, (List.range N).map cs')) : (zDn f g N cs (k + 1) e ∨ e = (zTt f g cs' N, (List.range N).map cs') ↔ zDn f g N cs' (k + 1) e) ∧ (zDn f g N cs (k + 1) e → zLc N e (zTt f g cs' N, (List.range N).map cs')) := by
  have hcs : ∀ i : Nat, i < N → zCs (zTt f g cs' N, (List.range N).map cs') i = cs' i := fun i hi => zCs_r hi
  have fwd : zDn f g N cs (k + 1) e → zLpr (zCs e) cs' (k + 1) := by
    rintro ⟨hv, ⟨j, j1, j2, j3⟩ | h⟩
    · refine ⟨j, by omega, fun i hi => (j2 i hi).trans (hc i (by omega)).symm, ?_⟩
      by_cases c : j = k
      · rw [c] at j3 ⊢
        omega
      · rw [hc j (by omega)]
        exact j3
    · exact ⟨k, by omega, fun i hi => (h i (by omega)).trans (hc i hi).symm, by rw [h k (by omega)]; omega⟩
  refine ⟨⟨?_, ?_⟩, ?_⟩
  · rintro (h | h)
    · exact ⟨h.1, Or.inl (fwd h)⟩
    · rw [h]
      exact ⟨hx, Or.inr (fun i hi => hcs i (by omega))⟩
  · rintro ⟨hv, ⟨j, j1, j2, j3⟩ | h⟩
    · refine Or.inl ⟨hv, ?_⟩
      by_cases c : j = k
      · subst c
        by_cases c2 : zCs e j < cs j
        · exact Or.inl ⟨j, j1, fun i hi => (j2 i hi).trans (hc i (by omega)), c2⟩
        · refine Or.inr (fun i hi => ?_)
          by_cases c3 : i = j
          · rw [c3]
            omega
          · exact (j2 i (by omega)).trans (hc i (by omega))
      · refine Or.inl ⟨j, j1, fun i hi => (j2 i hi).trans (hc i (by omega)), ?_⟩
        rw [← hc j (by omega)]
        exact j3
    · refine Or.inr (zCs_ext hv.1 hx.1 ?_ (fun i hi => by rw [hcs i hi]; exact h i (by omega)))
      rw [hv.2.2.2]
      exact zTt_congr (fun i hi => h i (by omega))
  · intro h
    obtain ⟨j, j1, j2, j3⟩ := fwd h
    exact ⟨j, by omega, fun i hi => by rw [hcs i (by omega)]; exact j2 i hi, by rw [hcs j (by omega)]; exact j3⟩
end Dn
/-- nothing has changed but what the reference's search writes -/
def zFrO (F f : Nat → Nat → Int) (G g : Nat → Int → Int) : Prop := (∀ x j, x ≠ 38 ∨ (j ≠ 21 ∧ j ≠ 22) → F x j = f x j) ∧ ∀ x j, x < 52 ∨ 56 < x → G x j = g x j
section Fro
variable {F f : Nat → Nat → Int} {G g : Nat → Int → Int}
theorem zFrO.d (h : zFrO F f G g) : zFrD F f G g := ⟨fun c j hc => h.1 c j (by unfold zDf at hc; omega), fun c j hc => h.2 c j (by unfold zDg at hc; omega)⟩
theorem zFrO.tr {F1 : Nat → Nat → Int} {G1 : Nat → Int → Int} (h : zFrO F F1 G G1) (h2 : zFrO F1 f G1 g) : zFrO F f G g := ⟨fun x j hx => (h.1 x j hx).trans (h2.1 x j hx), fun x j hx => (h.2 x j hx).trans (h2.2 x j hx)⟩
theorem zFrO.k (h : zFrK F f G g) : zFrO F f G g := ⟨fun x j hx => h.1 x j (by omega), fun x j hx => h.2 x j (by omega)⟩
theorem zFrD.pl (h : zFrD F f G g) (y : Int) : zPl G y = zPl g y := by
  unfold zPl
  rw [h.2 13 y (by unfold zDg; omega)]
theorem zFrD.na1 (h : zFrD F f G g) (y z : Int) : zNa G y z = zNa g y z := by
  unfold zNa
  rw [h.2 14 _ (by unfold zDg; omega)]
theorem zFrD.pa (h : zFrD F f G g) (cs : Nat → Int) : ∀ k : Nat, zPa G cs k = zPa g cs k := by
  intro k
  induction k with
  | zero => rfl
  | succ k ih =>
    simp only [zPa]
    rw [ih, h.2 5 k (by unfold zDg; omega)]
theorem zFrD.vo (h : zFrD F f G g) (cs : Nat → Int) (kd : Int) : ∀ k : Nat, zVo G cs kd k = zVo g cs kd k := by
  intro k
  induction k with
  | zero => rfl
  | succ k ih =>
    simp only [zVo]
    rw [ih, h.pa, h.2 3 k (by unfold zDg; omega), h.2 16 _ (by unfold zDg; omega)]
theorem zFrD.fit (h : zFrD F f G g) (k v w : Int) : zFit F G k v w ↔ zFit f g k v w := by
  unfold zFit
  rw [h.1 18 0 (by unfold zDf; omega)]
  simp only [h.2 19 _ (show zDg 19 by unfold zDg; omega), h.2 20 _ (show zDg 20 by unfold zDg; omega), h.2 21 _ (show zDg 21 by unfold zDg; omega)]
theorem zFrD.ex (h : zFrD F f G g) (cs : Nat → Int) (N : Nat) (kd : Int) : zEx F G cs N kd = zEx f g cs N kd := by
  have e : (zVo G cs kd N ≠ -1 ∧ zVo G cs 7 N ≠ -1 ∧ ¬ zFit F G kd (zVo G cs kd N) (zVo G cs 7 N)) = (zVo g cs kd N ≠ -1 ∧ zVo g cs 7 N ≠ -1 ∧ ¬ zFit f g kd (zVo g cs kd N) (zVo g cs 7 N)) := by
    rw [h.vo, h.vo, propext (h.fit kd (zVo g cs kd N) (zVo g cs 7 N))]
  unfold zEx
  rw [e]
theorem zFrD.co (h : zFrD F f G g) (cs : Nat → Int) (k : Nat) : zCo G cs k = zCo g cs k := by
  unfold zCo
  rw [h.pa, h.2 4 k (by unfold zDg; omega), h.2 17 _ (by unfold zDg; omega)]
theorem zFrD.sm (h : zFrD F f G g) (cs : Nat → Int) (v : Int) : ∀ k : Nat, zSm G cs v k = zSm g cs v k := by
  intro k
  induction k with
  | zero => rfl
  | succ k ih =>
    simp only [zSm]
    rw [ih, h.co]
theorem zFrD.tt (h : zFrD F f G g) (cs : Nat → Int) (N : Nat) : zTt F G cs N = zTt f g cs N := by
  unfold zTt
  rw [h.ex, h.ex, h.sm]
theorem zFrD.vl (h : zFrD F f G g) (cs : Nat → Int) (k : Nat) : zVl F G cs k ↔ zVl f g cs k := by
  unfold zVl
  rw [h.pa, h.pl, h.na1, h.1 12 0 (by unfold zDf; omega), h.2 4 k (by unfold zDg; omega), h.2 3 k (by unfold zDg; omega), h.2 15 _ (by unfold zDg; omega)]
theorem zFrD.go (h : zFrD F f G g) (cs : Nat → Int) (k : Nat) : zGo G cs k ↔ zGo g cs k := by
  unfold zGo zZz
  rw [h.pa, h.pl, h.2 5 k (by unfold zDg; omega)]
theorem zFrD.vd (h : zFrD F f G g) (N : Nat) (e : Int × List Int) : zVd F G N e ↔ zVd f g N e := by
  unfold zVd
  simp only [h.vl, h.go, h.pa, h.tt, h.1 12 0 (show zDf 12 0 by unfold zDf; omega)]
end Fro
end
section
/-! the reference looks for its two readings -/
def zLk (f : Nat → Nat → Int) (g : Nat → Int → Int) (cs : Nat → Int) (m : Nat) (T : List (Int × List Int)) (F : Nat → Nat → Int) (G : Nat → Int → Int) : Prop :=
  zFrO F f G g ∧ (F 38 21 = f 38 21 ∧ G 55 0 = 0 ∧ G 56 0 = 0) ∧ mHo F G (f 2 0).toNat T ∧ zTw (f 2 0).toNat (zDn f g (f 2 0).toNat cs m) T ∧ (∀ k : Nat, k < m → G 54 k = cs k ∧ G 55 k = (zPa g cs k).1 ∧ G 56 k = (zPa g cs k).2.1) ∧ (∀ k : Nat, k + 1 < m → zVl f g cs k ∧ zGo g cs k) ∧ ∀ k : Nat, k + 1 = m → zBd f g cs k
theorem zL54 {A : Prop} {G : Nat → Int → Int} {i v : Int} (h : A ∧ G 55 0 = 0 ∧ G 56 0 = 0) : A ∧ am_u3 G 54 i v 55 0 = 0 ∧ am_u3 G 54 i v 56 0 = 0 := ⟨h.1, by rw [am_u3_c (by decide)]; exact h.2.1, by rw [am_u3_c (by decide)]; exact h.2.2⟩
def zAt (cs : Nat → Int) (k : Nat) (x : Int) : Nat → Int := fun i => if i = k then x else cs i
theorem zAt_s (cs : Nat → Int) (k : Nat) (x : Int) : zAt cs k x k = x := if_pos rfl
theorem zAt_n {cs : Nat → Int} {k i : Nat} {x : Int} (h : i ≠ k) : zAt cs k x i = cs i := if_neg h
theorem zFrO.g1 {F f : Nat → Nat → Int} {G g : Nat → Int → Int} (h : zFrO F f G g) {c : Nat} (hc : 52 ≤ c ∧ c ≤ 56) (i v : Int) : zFrO F f (am_u3 G c i v) g := ⟨h.1, fun x j hx => by rw [am_u3_c (by omega)]; exact h.2 x j hx⟩
theorem mHo_u {F : Nat → Nat → Int} {G : Nat → Int → Int} {N : Nat} {T : List (Int × List Int)} (h : mHo F G N T) {c : Nat} (hc : c ≠ 52 ∧ c ≠ 53) (i v : Int) : mHo F (am_u3 G c i v) N T := by
  have hr : ∀ r e, mRd G N r e → mRd (am_u3 G c i v) N r e := fun r e u => mRd_k u (am_u3_c (Ne.symm hc.2)) (fun k hk => am_u3_c (Ne.symm hc.1))
  match T, h with
  | [], h => exact h
  | [x], h => exact ⟨h.1, hr _ _ h.2⟩
  | [x, y], h => exact ⟨h.1, hr _ _ h.2.1, hr _ _ h.2.2⟩
section Look2
variable {l : Launch} {dC : Nat → ClassId} {dI : Nat → Nat → Nat} {tc : Nat → ClassId} {f : Nat → Nat → Int} {g : Nat → Int → Int} {a b c : Nat}
set_option maxRecDepth 100000 in
set_option maxHeartbeats 4000000 in
theorem wp_lk0 {Q : Option am_V → am_H → Prop} (hI : zI f g) (k : Nat) (hk : k + 1 ≤ (f 2 0).toNat) (cs : Nat → Int) (T : List (Int × List Int)) (F : Nat → Nat → Int) (G : Nat → Int → Int) (hL : zLk f g cs (k + 1) T F G) (hc : cs k = 4)
    (K : ∀ (G' : Nat → Int → Int), zLk f g cs k T F G' → am_wp l dC dI tc mm6_look 4 58 58 Q 32 [some (.inr (.inr (some 38))), some (.inl ((k : Int) + -1))] [] (58, F, G', pr_r a b c)) : am_wp l dC dI tc mm6_look 4 58 58 Q 32 [some (.inr (.inr (some 38))), some (.inl (k))] [] (58, F, G, pr_r a b c) := by
  have i1 := hI.1
  obtain ⟨h1, h21, h2, h3, h4, h5, h6⟩ := hL
  have h54 := (h4 k (by omega)).1
  (refine am_go rfl (by first | exact True.intro | omega | exact ⟨by decide, Nat.le_of_ble_eq_true rfl, Nat.le_of_ble_eq_true rfl⟩ | exact ⟨by decide, Nat.le_of_ble_eq_true rfl⟩) ?_)
  refine am_if rfl (fun c1 => by omega) (fun c1 => ?_)
  iterate 13 (refine am_go rfl (by first | exact True.intro | omega | exact ⟨by decide, Nat.le_of_ble_eq_true rfl, Nat.le_of_ble_eq_true rfl⟩ | exact ⟨by decide, Nat.le_of_ble_eq_true rfl⟩) ?_)
  rw [am_u3_s]
  refine am_if rfl (fun c1 => by omega) (fun c1 => ?_)
  iterate 2 (refine am_go rfl (by first | exact True.intro | omega | exact ⟨by decide, Nat.le_of_ble_eq_true rfl, Nat.le_of_ble_eq_true rfl⟩ | exact ⟨by decide, Nat.le_of_ble_eq_true rfl⟩) ?_)
  refine K _ ⟨h1.g1 (by decide) _ _, zL54 h21, mHo_u h2 (by decide) _ _, zTw_c (fun e => zDn_up hc (by omega)) h3, fun j hj => ?_, fun j hj => h5 j (by omega), fun j hj => ?_⟩
  · rw [am_u3_j (by omega), am_u3_c (by decide), am_u3_c (by decide)]
    exact h4 j (by omega)
  · exact (zVl_can.mp (h5 j (by omega)).1).2.1
set_option maxRecDepth 100000 in
set_option maxHeartbeats 4000000 in
theorem wp_lk1 {Q : Option am_V → am_H → Prop} (hI : zI f g) (hD : zD f g) (k : Nat) (hk : k + 1 ≤ (f 2 0).toNat) (r : Nat) (hr : r ≤ 4) (cs : Nat → Int) (T : List (Int × List Int)) (F : Nat → Nat → Int) (G : Nat → Int → Int) (hL : zLk f g cs (k + 1) T F G) (hc : cs k = 4 - ((r + 1 : Nat) : Int))
    (K1 : ∀ (T' : List (Int × List Int)) (F' : Nat → Nat → Int) (G' : Nat → Int → Int), zLk f g (zAt cs k (4 - r)) (k + 1) T' F' G' → am_wp l dC dI tc mm6_look 4 58 58 Q 32 [some (.inr (.inr (some 38))), some (.inl (k))] [] (58, F', G', pr_r a b c))
    (K2 : k + 1 < (f 2 0).toNat → ∀ (G' : Nat → Int → Int), zLk f g (zAt (zAt cs k (4 - r)) (k + 1) (-1)) (k + 1 + 1) T F G' → am_wp l dC dI tc mm6_look 4 58 58 Q 32 [some (.inr (.inr (some 38))), some (.inl (((k + 1 : Nat) : Int)))] [] (58, F, G', pr_r a b c)) : am_wp l dC dI tc mm6_look 4 58 58 Q 32 [some (.inr (.inr (some 38))), some (.inl (k))] [] (58, F, G, pr_r a b c) := by
  have i1 := hI.1
  have i3 := hI.2.2.1
  have hL0 := hL
  obtain ⟨h1, h21, h2, h3, h4, h5, h6⟩ := hL
  have h54 := (h4 k (by omega)).1
  obtain ⟨cs1, hcs1⟩ : ∃ cs1, cs1 = zAt cs k (4 - r) := ⟨_, rfl⟩
  rw [← hcs1] at K1 K2
  have c1k : cs1 k = 4 - r := by rw [hcs1, zAt_s]
  have c1n : ∀ i : Nat, i < k → cs1 i = cs i := fun i hi => by rw [hcs1, zAt_n (by omega)]
  have hpa : zPa g cs1 k = zPa g cs k := zPa_congr c1n
  have hbd : zBd f g cs1 k := by
    have := h6 k rfl
    unfold zBd at this ⊢
    rw [hpa]
    exact this
  have hfr : zFrO F f (am_u3 G 54 (k : Int) (4 - r)) g := h1.g1 (by decide) _ _
  have hI1 := hfr.d.I hI
  have hD1 := hfr.d.D hD
  have e20 : F 2 0 = f 2 0 := hfr.d.1 2 0 (by unfold zDf; omega)
  have e12 : F 12 0 = f 12 0 := hfr.d.1 12 0 (by unfold zDf; omega)
  have e5 : F 38 5 = f 2 0 := by rw [hD1.pn, e20]
  have e13 : F 38 13 = f 12 0 := by rw [hD1.ln, e12]
  have q54 : am_u3 G 54 (k : Int) (4 - r) 54 k = cs1 k := by rw [am_u3_s, c1k]
  have q55 : am_u3 G 54 (k : Int) (4 - r) 55 k = (zPa g cs1 k).1 := by rw [am_u3_c (by decide), hpa]; exact (h4 k (by omega)).2.1
  have q56 : am_u3 G 54 (k : Int) (4 - r) 56 k = (zPa g cs1 k).2.1 := by rw [am_u3_c (by decide), hpa]; exact (h4 k (by omega)).2.2
  have hpl5 := zPl_r hI (zPa g cs1 k).1
  have hbd1 := hbd.1
  have hbd2 := hbd.2
  have hfail : (zVl f g cs1 k ∧ zGo g cs1 k → False) → am_wp l dC dI tc mm6_look 4 58 58 Q 32 [some (.inr (.inr (some 38))), some (.inl (k))] [] (58, F, (am_u3 G 54 (k : Int) (4 - r)), pr_r a b c) := by
    intro hno
    refine K1 T F _ ⟨hfr, zL54 h21, mHo_u h2 (by decide) _ _, zTw_c (fun e => zDn_inc c1n (by omega) (fun hv hq => ?_)) h3, fun j hj => ?_, fun j hj => ?_, fun j hj => ?_⟩
    · have := hv.2.1 k (by omega)
      rw [zVl_congr hq, zGo_congr hq] at this
      exact hno this
    · by_cases c : j = k
      · rw [c]
        exact ⟨q54, q55, q56⟩
      · rw [am_u3_j (by omega), am_u3_c (by decide), am_u3_c (by decide), c1n j (by omega), zPa_congr (fun i hi => c1n i (by omega))]
        exact h4 j (by omega)
    · rw [zVl_congr (fun i hi => c1n i (by omega)), zGo_congr (fun i hi => c1n i (by omega))]
      exact h5 j (by omega)
    · obtain rfl : j = k := by omega
      exact hbd
  (refine am_go rfl (by first | exact True.intro | omega | exact ⟨by decide, Nat.le_of_ble_eq_true rfl, Nat.le_of_ble_eq_true rfl⟩ | exact ⟨by decide, Nat.le_of_ble_eq_true rfl⟩) ?_)
  refine am_if rfl (fun c1 => by omega) (fun c1 => ?_)
  iterate 8 (refine am_go rfl (by first | exact True.intro | omega | exact ⟨by decide, Nat.le_of_ble_eq_true rfl, Nat.le_of_ble_eq_true rfl⟩ | exact ⟨by decide, Nat.le_of_ble_eq_true rfl⟩) ?_)
  rw [show G 54 (k : Int) + 1 = 4 - r by omega]
  iterate 5 (refine am_go rfl (by first | exact True.intro | omega | exact ⟨by decide, Nat.le_of_ble_eq_true rfl, Nat.le_of_ble_eq_true rfl⟩ | exact ⟨by decide, Nat.le_of_ble_eq_true rfl⟩) ?_)
  rw [am_u3_s]
  refine am_if rfl (fun c1 => ?_) (fun c1 => by omega)
  iterate 2 (refine am_go rfl (by first | exact True.intro | omega | exact ⟨by decide, Nat.le_of_ble_eq_true rfl, Nat.le_of_ble_eq_true rfl⟩ | exact ⟨by decide, Nat.le_of_ble_eq_true rfl⟩) ?_)
  refine am_call rfl (cm_can (k : Int) hI1 hD1 (by omega) (by rw [q54]; omega) (by rw [q55]; omega) (by rw [q56]; omega)) (by decide) (Nat.le_of_ble_eq_true rfl) (Nat.le_of_ble_eq_true rfl) (Nat.le_of_ble_eq_true rfl) (fun rv s q => ?_)
  rw [q54, q55, q56, hfr.d.na1, hfr.d.2 4 _ (by unfold zDg; omega), hfr.d.2 15 _ (by unfold zDg; omega), hfr.d.2 3 _ (by unfold zDg; omega)] at q
  obtain ⟨rfl, q⟩ := q
  rcases q with ⟨rfl, qc⟩ | ⟨rfl, qc⟩
  · have hvl : zVl f g cs1 k := zVl_can.mpr ⟨by omega, hbd, qc⟩
    have hzz := zZz_r hI hvl
    refine am_if rfl (fun c1 => by omega) (fun c1 => ?_)
    iterate 2 (refine am_go rfl (by first | exact True.intro | omega | exact ⟨by decide, Nat.le_of_ble_eq_true rfl, Nat.le_of_ble_eq_true rfl⟩ | exact ⟨by decide, Nat.le_of_ble_eq_true rfl⟩) ?_)
    refine am_call rfl (cm_goes (k : Int) (zZz g cs1 k) hI1 hD1 (by omega) (by rw [q55]; omega) (by rw [q56]; omega) (by rw [q54, q56]; rfl) (by rw [q55, e12]; exact hzz.2.2)) (by decide) (Nat.le_of_ble_eq_true rfl) (Nat.le_of_ble_eq_true rfl) (Nat.le_of_ble_eq_true rfl) (fun rv s q => ?_)
    rw [q55, hfr.d.pl, hfr.d.2 5 _ (by unfold zDg; omega)] at q
    have go : zGo g cs1 k → ∀ G2, G2 = am_u3 (am_u3 (am_u3 G 54 (k : Int) (4 - r)) 55 ((k : Int) + 1) (zPa g cs1 (k + 1)).1) 56 ((k : Int) + 1) (zPa g cs1 (k + 1)).2.1 → am_wp l dC dI tc mm6_look 4 58 58 Q 58 [some (.inr (.inr (some 38))), some (.inl (k : Int))] [] (58, F, G2, pr_r a b c) := by
      intro hgo G2 hG2
      have hfr2 : zFrO F f G2 g := by rw [hG2]; exact (hfr.g1 (by decide) _ _).g1 (by decide) _ _
      have hch : ∀ j : Nat, j < k + 1 → G2 54 j = cs1 j ∧ G2 55 j = (zPa g cs1 j).1 ∧ G2 56 j = (zPa g cs1 j).2.1 := by
        intro j hj
        have a54 : G2 54 j = am_u3 G 54 (k : Int) (4 - r) 54 j := by rw [hG2, am_u3_c (by decide), am_u3_c (by decide)]
        have a55 : G2 55 j = am_u3 G 54 (k : Int) (4 - r) 55 j := by rw [hG2, am_u3_c (by decide), am_u3_j (by omega)]
        have a56 : G2 56 j = am_u3 G 54 (k : Int) (4 - r) 56 j := by rw [hG2, am_u3_j (by omega), am_u3_c (by decide)]
        rw [a54, a55, a56]
        by_cases c : j = k
        · rw [c]
          exact ⟨q54, q55, q56⟩
        · rw [am_u3_j (by omega), am_u3_c (by decide), am_u3_c (by decide), c1n j (by omega), zPa_congr (fun i hi => c1n i (by omega))]
          exact h4 j (by omega)
      have hvg : ∀ j : Nat, j < k + 1 → zVl f g cs1 j ∧ zGo g cs1 j := by
        intro j hj
        by_cases c : j = k
        · rw [c]
          exact ⟨hvl, hgo⟩
        · rw [zVl_congr (fun i hi => c1n i (by omega)), zGo_congr (fun i hi => c1n i (by omega))]
          exact h5 j (by omega)
      have hho : mHo F G2 (f 2 0).toNat T := by rw [hG2]; exact mHo_u (mHo_u (mHo_u h2 (by decide) _ _) (by decide) _ _) (by decide) _ _
      have hb1 := zBd_s hI hvl hgo
      have h21g : F 38 21 = f 38 21 ∧ G2 55 0 = 0 ∧ G2 56 0 = 0 := ⟨h21.1, by rw [hG2, am_u3_c (by decide), am_u3_j (by omega)]; exact (zL54 h21).2.1, by rw [hG2, am_u3_j (by omega), am_u3_c (by decide)]; exact (zL54 h21).2.2⟩
      iterate 5 (refine am_go rfl (by first | exact True.intro | omega | exact ⟨by decide, Nat.le_of_ble_eq_true rfl, Nat.le_of_ble_eq_true rfl⟩ | exact ⟨by decide, Nat.le_of_ble_eq_true rfl⟩) ?_)
      refine am_if rfl (fun c1 => ?_) (fun c1 => ?_)
      · have hkN : (f 2 0).toNat = k + 1 := by omega
        iterate 5 (refine am_go rfl (by first | exact True.intro | omega | exact ⟨by decide, Nat.le_of_ble_eq_true rfl, Nat.le_of_ble_eq_true rfl⟩ | exact ⟨by decide, Nat.le_of_ble_eq_true rfl⟩) ?_)
        rw [e5, show f 2 0 = (k : Int) + 1 by omega]
        have h55 : G2 55 ((k : Int) + 1) = (zPa g cs1 (k + 1)).1 := by rw [hG2, am_u3_c (by decide), am_u3_s]
        rw [h55]
        iterate 2 (refine am_go rfl (by first | exact True.intro | omega | exact ⟨by decide, Nat.le_of_ble_eq_true rfl, Nat.le_of_ble_eq_true rfl⟩ | exact ⟨by decide, Nat.le_of_ble_eq_true rfl⟩) ?_)
        rw [e13]
        refine am_if rfl (fun c2 => ?_) (fun c2 => ?_)
        · refine K1 T F _ ⟨hfr2, h21g, hho, zTw_c (fun e => zDn_inc c1n (by omega) (fun hv hq => ?_)) h3, hch, fun j hj => hvg j (by omega), fun j hj => ?_⟩
          · have := hv.2.2.1
            rw [hkN, zPa_congr hq] at this
            exact c2 this
          · obtain rfl : j = k := by omega
            exact hbd
        · have hend : (zPa g cs1 (f 2 0).toNat).1 = f 12 0 := by rw [hkN]; omega
          have hxv := zDn_x (N := (f 2 0).toNat) (f := f) (g := g) (cs := cs1) (fun j hj => hvg j (by omega)) hend
          (refine am_go rfl (by first | exact True.intro | omega | exact ⟨by decide, Nat.le_of_ble_eq_true rfl, Nat.le_of_ble_eq_true rfl⟩ | exact ⟨by decide, Nat.le_of_ble_eq_true rfl⟩) ?_)
          refine am_call rfl (cm_keeps (cs := cs1) (T := T) (hfr2.d.I hI) (hfr2.d.D hD) (fun j hj => by rw [hfr2.d.pa]; exact hch j (by omega)) (fun j hj => by rw [hfr2.d.vl]; exact (hvg j (by omega)).1) (by rw [e20]; exact hho) (zTw_o h3)) (by decide) (Nat.le_of_ble_eq_true rfl) (Nat.le_of_ble_eq_true rfl) (Nat.le_of_ble_eq_true rfl) (fun rv s q => ?_)
          obtain ⟨rfl, F', G', rfl, k1, k2⟩ := q
          rw [e20, hfr2.d.tt] at k2
          (refine am_go rfl (by first | exact True.intro | omega | exact ⟨by decide, Nat.le_of_ble_eq_true rfl, Nat.le_of_ble_eq_true rfl⟩ | exact ⟨by decide, Nat.le_of_ble_eq_true rfl⟩) ?_)
          refine K1 _ F' G' ⟨(zFrO.k k1).tr hfr2, ⟨by rw [k1.1 38 21 (Or.inr (by decide))]; exact h21.1, by rw [k1.2 55 _ (by decide)]; exact h21g.2.1, by rw [k1.2 56 _ (by decide)]; exact h21g.2.2⟩, k2, zTw_c (fun e => (zDn_keep c1n (by omega) hkN.symm hxv).1) (zTw_l h3 (fun e he => (zDn_keep c1n (by omega) hkN.symm hxv).2 he)), fun j hj => ?_, fun j hj => hvg j (by omega), fun j hj => ?_⟩
          · rw [k1.2 54 _ (by decide), k1.2 55 _ (by decide), k1.2 56 _ (by decide)]
            exact hch j hj
          · obtain rfl : j = k := by omega
            exact hbd
      · iterate 7 (refine am_go rfl (by first | exact True.intro | omega | exact ⟨by decide, Nat.le_of_ble_eq_true rfl, Nat.le_of_ble_eq_true rfl⟩ | exact ⟨by decide, Nat.le_of_ble_eq_true rfl⟩) ?_)
        have d1 : ∀ i : Nat, i < k + 1 → zAt cs1 (k + 1) (-1) i = cs1 i := fun i hi => zAt_n (by omega)
        refine K2 (by omega) (am_u3 G2 54 ((k : Int) + 1) (-1)) ⟨hfr2.g1 (by decide) _ _, zL54 h21g, mHo_u hho (by decide) _ _, zTw_c (fun e => zDn_down (fun i hi => by rw [d1 i (by omega)]; exact c1n i hi) (by rw [d1 k (by omega)]; omega) (zAt_s _ _ _) (by omega)) h3, fun j hj => ?_, fun j hj => ?_, fun j hj => ?_⟩
        · by_cases c : j = k + 1
          · subst c
            rw [zAt_s, zPa_congr d1, show (((k + 1 : Nat)) : Int) = (k : Int) + 1 by omega]
            refine ⟨am_u3_s, ?_, ?_⟩
            · rw [am_u3_c (by decide), hG2, am_u3_c (by decide), am_u3_s]
            · rw [am_u3_c (by decide), hG2, am_u3_s]
          · rw [am_u3_j (by omega), am_u3_c (by decide), am_u3_c (by decide), d1 j (by omega), zPa_congr (fun i hi => d1 i (by omega))]
            exact hch j (by omega)
        · rw [zVl_congr (fun i hi => d1 i (by omega)), zGo_congr (fun i hi => d1 i (by omega))]
          exact hvg j (by omega)
        · obtain rfl : j = k + 1 := by omega
          unfold zBd
          rw [zPa_congr d1]
          exact hb1
    have hps := zPa_s g cs1 k
    rcases q with ⟨rfl, q1, q2, rfl⟩ | ⟨rfl, q1, rfl⟩ | ⟨rfl, q1, q2, rfl⟩
    · refine am_if rfl (fun c1 => ?_) (fun c1 => by omega)
      refine hfail (fun u => ?_)
      have := u.2
      unfold zGo at this
      omega
    · refine am_if rfl (fun c1 => by omega) (fun c1 => ?_)
      have hgo : zGo g cs1 k := by unfold zGo; omega
      rcases hps with ⟨w1, w2, w3⟩ | ⟨w1, w2, w3⟩
      · exact go hgo _ (by rw [w2, w3])
      · omega
    · refine am_if rfl (fun c1 => by omega) (fun c1 => ?_)
      have hgo : zGo g cs1 k := by unfold zGo; omega
      rcases hps with ⟨w1, w2, w3⟩ | ⟨w1, w2, w3⟩
      · omega
      · exact go hgo _ (by rw [w2, w3])
  · refine am_if rfl (fun c1 => ?_) (fun c1 => by omega)
    exact hfail (fun u => qc (zVl_can.mp u.1).2.2)
set_option maxRecDepth 100000 in
set_option maxHeartbeats 4000000 in
theorem wp_level {Q : Option am_V → am_H → Prop} (hI : zI f g) (hD : zD f g) : ∀ (n k : Nat), k + 1 + n = (f 2 0).toNat → ∀ (r : Nat), r ≤ 5 → ∀ (cs : Nat → Int) (T : List (Int × List Int)) (F : Nat → Nat → Int) (G : Nat → Int → Int), zLk f g cs (k + 1) T F G → cs k = 4 - r →
    (∀ (cs' : Nat → Int) (T' : List (Int × List Int)) (F' : Nat → Nat → Int) (G' : Nat → Int → Int), zLk f g cs' k T' F' G' → (∀ i : Nat, i < k → cs' i = cs i) → am_wp l dC dI tc mm6_look 4 58 58 Q 32 [some (.inr (.inr (some 38))), some (.inl ((k : Int) + -1))] [] (58, F', G', pr_r a b c)) → am_wp l dC dI tc mm6_look 4 58 58 Q 32 [some (.inr (.inr (some 38))), some (.inl (k))] [] (58, F, G, pr_r a b c) := by
  intro n
  induction n with
  | zero =>
    intro k hk r
    induction r with
    | zero =>
      intro hr cs T F G hL hc K
      exact wp_lk0 hI k (by omega) cs T F G hL (by omega) (fun G' h => K cs T F G' h (fun _ _ => rfl))
    | succ r ihr =>
      intro hr cs T F G hL hc K
      exact wp_lk1 hI hD k (by omega) r (by omega) cs T F G hL hc (fun T' F' G' h => ihr (by omega) _ T' F' G' h (zAt_s _ _ _) (fun cs' T'' F'' G'' h' hh => K cs' T'' F'' G'' h' (fun i hi => (hh i hi).trans (zAt_n (by omega))))) (fun hlt => by omega)
  | succ n ihn =>
    intro k hk r
    induction r with
    | zero =>
      intro hr cs T F G hL hc K
      exact wp_lk0 hI k (by omega) cs T F G hL (by omega) (fun G' h => K cs T F G' h (fun _ _ => rfl))
    | succ r ihr =>
      intro hr cs T F G hL hc K
      refine wp_lk1 hI hD k (by omega) r (by omega) cs T F G hL hc (fun T' F' G' h => ihr (by omega) _ T' F' G' h (zAt_s _ _ _) (fun cs' T'' F'' G'' h' hh => K cs' T'' F'' G'' h' (fun i hi => (hh i hi).trans (zAt_n (by omega))))) (fun hlt G' h => ?_)
      refine ihn (k + 1) (by omega) 5 (by omega) _ T F G' h (by rw [zAt_s]; rfl) (fun cs' T' F' G'' h' hh => ?_)
      rw [show ((k + 1 : Nat) : Int) + -1 = (k : Int) by omega]
      have e0 : cs' k = 4 - (r : Int) := by rw [hh k (by omega), zAt_n (by omega), zAt_s]
      refine ihr (by omega) cs' T' F' G'' h' e0 (fun cs'' T'' F'' G3 h'' hh' => K cs'' T'' F'' G3 h'' (fun i hi => ?_))
      rw [hh' i hi, hh i (by omega), zAt_n (by omega), zAt_n (by omega)]
/-- what the reference knows, if it says that it knows -/
def mRes (f : Nat → Nat → Int) (g : Nat → Int → Int) (T : List (Int × List Int)) : Prop := (g 55 0 = 0 ∧ g 56 0 = 0) ∧ mHo f g (f 2 0).toNat T ∧ (0 < f 2 0 → zTw (f 2 0).toNat (zVd f g (f 2 0).toNat) T) ∧ (f 2 0 = 0 → T = [])
def mSS (f : Nat → Nat → Int) (g : Nat → Int → Int) : Prop := f 38 21 = 0 ∨ (f 38 21 = 1 ∧ ∃ T, mRes f g T)
theorem zFrO.res {F f : Nat → Nat → Int} {G g : Nat → Int → Int} (h : zFrO F f G g) {T : List (Int × List Int)} (h0 : G 55 0 = 0 ∧ G 56 0 = 0) (h1 : mHo F G (f 2 0).toNat T) (h2 : 0 < f 2 0 → zTw (f 2 0).toNat (zVd f g (f 2 0).toNat) T) (h3 : f 2 0 = 0 → T = []) : mRes F G T := by
  have e20 : F 2 0 = f 2 0 := h.d.1 2 0 (by unfold zDf; omega)
  unfold mRes
  rw [e20]
  exact ⟨h0, h1, fun u => zTw_c (fun e => (h.d.vd _ e).symm) (h2 u), h3⟩
set_option maxRecDepth 100000 in
set_option maxHeartbeats 4000000 in
theorem cm_look (hI : zI f g) (hD : zD f g) (hS : mSS f g) : am_Ct l dC dI tc mm6_look 4 58 [(.inr (.inr (some 38)))] (58, f, g, pr_r a b c) (fun r s => r = none ∧ ∃ F G T, s = (58, F, G, pr_r a b c) ∧ zFrO F f G g ∧ F 38 21 = 1 ∧ mRes F G T) := by
  have i1 := hI.1
  have e5 := hD.pn
  refine am_enter ok_6_look rfl (by decide) (Nat.le_of_ble_eq_true rfl) rfl ?_
  rcases hS with hS | ⟨hS, T, hT⟩
  · iterate 2 (refine am_go rfl (by first | exact True.intro | omega | exact ⟨by decide, Nat.le_of_ble_eq_true rfl, Nat.le_of_ble_eq_true rfl⟩ | exact ⟨by decide, Nat.le_of_ble_eq_true rfl⟩) ?_)
    refine am_if rfl (fun c1 => ?_) (fun c1 => by omega)
    iterate 6 (refine am_go rfl (by first | exact True.intro | omega | exact ⟨by decide, Nat.le_of_ble_eq_true rfl, Nat.le_of_ble_eq_true rfl⟩ | exact ⟨by decide, Nat.le_of_ble_eq_true rfl⟩) ?_)
    have hfr : zFrO (am_u1 (am_u1 f 38 21 1) 38 22 0) f g g := ⟨fun x j hx => by rw [am_u1_ne (by omega), am_u1_ne (by omega)], fun _ _ _ => rfl⟩
    have e20 : (am_u1 (am_u1 f 38 21 1) 38 22 0) 2 0 = f 2 0 := by rw [am_u1_c (by decide), am_u1_c (by decide)]
    have e38 : (am_u1 (am_u1 f 38 21 1) 38 22 0) 38 5 = f 2 0 := by rw [am_u1_j (by decide), am_u1_j (by decide)]; exact e5
    have e21 : (am_u1 (am_u1 f 38 21 1) 38 22 0) 38 21 = 1 := by rw [am_u1_j (by decide), am_u1_s]
    have e22 : (am_u1 (am_u1 f 38 21 1) 38 22 0) 38 22 = 0 := am_u1_s
    revert hfr e20 e38 e21 e22
    generalize am_u1 (am_u1 f 38 21 1) 38 22 0 = F
    intro hfr e20 e38 e21 e22
    have hI1 := hfr.d.I hI
    have hD1 := hfr.d.D hD
    iterate 2 (refine am_go rfl (by first | exact True.intro | omega | exact ⟨by decide, Nat.le_of_ble_eq_true rfl, Nat.le_of_ble_eq_true rfl⟩ | exact ⟨by decide, Nat.le_of_ble_eq_true rfl⟩) ?_)
    rw [e38]
    refine am_if rfl (fun c1 => ?_) (fun c1 => ?_)
    · iterate 18 (refine am_go rfl (by first | exact True.intro | omega | exact ⟨by decide, Nat.le_of_ble_eq_true rfl, Nat.le_of_ble_eq_true rfl⟩ | exact ⟨by decide, Nat.le_of_ble_eq_true rfl⟩) ?_)
      refine am_if rfl (fun c2 => ?_) (fun c2 => by omega)
      refine am_vret (x := 0) rfl rfl rfl ?_
      have hz0 : am_u3 (am_u3 (am_u3 g 54 0 (-1)) 55 0 0) 56 0 0 55 0 = 0 ∧ am_u3 (am_u3 (am_u3 g 54 0 (-1)) 55 0 0) 56 0 0 56 0 = 0 := ⟨by rw [am_u3_c (by decide), am_u3_s], am_u3_s⟩
      have hf : zFrO F f (am_u3 (am_u3 (am_u3 g 54 0 (-1)) 55 0 0) 56 0 0) g := ((hfr.g1 (by decide) _ _).g1 (by decide) _ _).g1 (by decide) _ _
      exact ⟨rfl, _, _, [], rfl, hf, e21, hf.res hz0 e22 (fun u => by omega) (fun _ => rfl)⟩
    · iterate 18 (refine am_go rfl (by first | exact True.intro | omega | exact ⟨by decide, Nat.le_of_ble_eq_true rfl, Nat.le_of_ble_eq_true rfl⟩ | exact ⟨by decide, Nat.le_of_ble_eq_true rfl⟩) ?_)
      have hf : zFrO (f := F) F (am_u3 (am_u3 (am_u3 g 54 0 (-1)) 55 0 0) 56 0 0) g := ((zFrO.g1 ⟨fun _ _ _ => rfl, fun _ _ _ => rfl⟩ (by decide) _ _).g1 (by decide) _ _).g1 (by decide) _ _
      have hff : zFrO F f g g := hfr
      have := wp_level (l := l) (dC := dC) (dI := dI) (tc := tc) (a := a) (b := b) (c := c) (Q := fun r s => r = none ∧ ∃ F G T, s = (58, F, G, pr_r a b c) ∧ zFrO F f G g ∧ F 38 21 = 1 ∧ mRes F G T) hI1 hD1 ((F 2 0).toNat - 1) 0 (by omega) 5 (by omega) (fun _ => -1) [] F (am_u3 (am_u3 (am_u3 g 54 0 (-1)) 55 0 0) 56 0 0) ?_ rfl ?_
      · exact this
      · refine ⟨hf, ⟨rfl, by rw [am_u3_c (by decide), am_u3_s], am_u3_s⟩, e22, ?_, fun k hk => ?_, fun k hk => by omega, fun k hk => ?_⟩
        · rintro e ⟨hv, ⟨j, j1, j2, j3⟩ | h⟩
          · have := hv.r (i := j) (by omega)
            have j3 : zCs e j < -1 := j3
            omega
          · have := hv.r (i := 0) (by omega)
            have h0 : zCs e 0 = -1 := h 0 (by omega)
            omega
        · obtain rfl : k = 0 := by omega
          refine ⟨?_, ?_, ?_⟩
          · rw [am_u3_c (by decide), am_u3_c (by decide)]
            exact am_u3_s
          · rw [am_u3_c (by decide)]
            exact am_u3_s
          · exact am_u3_s
        · obtain rfl : k = 0 := by omega
          exact zBd_0 hI1 _
      · intro cs' T' F' G' h' _
        obtain ⟨k1, k21, k2, k3, k4, k5, k6⟩ := h'
        (refine am_go rfl (by first | exact True.intro | omega | exact ⟨by decide, Nat.le_of_ble_eq_true rfl, Nat.le_of_ble_eq_true rfl⟩ | exact ⟨by decide, Nat.le_of_ble_eq_true rfl⟩) ?_)
        refine am_if rfl (fun c2 => ?_) (fun c2 => by omega)
        refine am_vret (x := 0) rfl rfl rfl ⟨rfl, F', G', T', rfl, k1.tr hff, by rw [k21.1]; exact e21, k1.res k21.2 k2 (fun _ => ?_) (fun u => by omega)⟩
        exact zTw_c (fun e => ⟨fun u => u.1, fun u => ⟨u, Or.inr (fun i hi => by omega)⟩⟩) k3
  · iterate 2 (refine am_go rfl (by first | exact True.intro | omega | exact ⟨by decide, Nat.le_of_ble_eq_true rfl, Nat.le_of_ble_eq_true rfl⟩ | exact ⟨by decide, Nat.le_of_ble_eq_true rfl⟩) ?_)
    refine am_if rfl (fun c1 => by omega) (fun c1 => ?_)
    exact am_vret (x := 0) rfl rfl rfl ⟨rfl, f, g, T, rfl, ⟨fun _ _ _ => rfl, fun _ _ _ => rfl⟩, hS, hT⟩
end Look2
end
section
/-! class and reference mean the same two readings -/
section Eq1
variable {f : Nat → Nat → Int} {g : Nat → Int → Int} {cs : Nat → Int} {v : Int}
theorem zBeh_go {k : Nat} (h0 : 0 ≤ zZz g cs k) (h : zGo g cs k) : zBeh g k (zPa g cs k).1 (zZz g cs k) = zSt ((k : Int) + 1) (zPa g cs (k + 1)).1 (zPa g cs (k + 1)).2.1 := by
  unfold zBeh zSt
  rcases zPa_s g cs k with ⟨c, e1, e2⟩ | ⟨c, e1, e2⟩
  · rw [if_pos (by omega), e1, e2]
  · unfold zGo at h
    rw [if_neg (by omega), if_pos (by omega), e1, e2]
theorem zBeh_no {k : Nat} (h : ¬ zGo g cs k) : zBeh g k (zPa g cs k).1 (zZz g cs k) = -1 := by
  unfold zGo at h
  unfold zBeh
  rw [if_neg (by omega), if_neg (by omega)]
/-- a step of the list of readings -/
theorem zSuf_mem (hI : zI f g) {n : Nat} {x y z s ch : Int} {t : List Int} : (s, ch :: t) ∈ zSuf f g v (n + 1) x y z ↔ (ch ≠ 4 ∧ 0 ≤ ch ∧ ch < zNa g y z ∧ g 15 (zAlt y z ch) = g 3 x ∧ (g 3 x ≠ 7 ∨ g 16 (zAlt y z ch) = v) ∧ (s - (g 17 (zAlt y z ch) + zMf f g v (g 3 x) (g 16 (zAlt y z ch))), t) ∈ zSB f g v n x (zBeh g x y (z + 1))) ∨ (ch = 4 ∧ g 4 x ≠ -1 ∧ (g 3 x ≠ 7 ∨ v = -1) ∧ (s - g 4 x, t) ∈ zSB f g v n x (zBeh g x y z)) := by
  have hna := zNa_r hI y z
  rw [zSuf_s, List.mem_append]
  refine or_congr ⟨fun h => ?_, fun h => ?_⟩ ⟨fun h => ?_, fun h => ?_⟩
  · obtain ⟨i, hi, h⟩ := List.mem_flatMap.mp h
    have hi := List.mem_range.mp hi
    unfold zAi at h
    split at h
    · rename_i hc
      obtain ⟨u, hu, e⟩ := List.mem_map.mp h
      simp only [Prod.mk.injEq, List.cons.injEq] at e
      obtain ⟨e1, e2, e3⟩ := e
      subst e2
      refine ⟨by omega, by omega, by omega, hc.1, hc.2, ?_⟩
      rw [← e1, ← e3, show g 17 (zAlt y z i) + zMf f g v (g 3 x) (g 16 (zAlt y z i)) + u.1 - (g 17 (zAlt y z i) + zMf f g v (g 3 x) (g 16 (zAlt y z i))) = u.1 by omega]
      exact hu
    · cases h
  · obtain ⟨h1, h2, h3, h4, h5, h6⟩ := h
    obtain ⟨i, rfl⟩ := Int.eq_ofNat_of_zero_le h2
    refine List.mem_flatMap.mpr ⟨i, List.mem_range.mpr (by omega), ?_⟩
    unfold zAi
    rw [if_pos ⟨h4, h5⟩]
    refine List.mem_map.mpr ⟨_, h6, ?_⟩
    simp only [Prod.mk.injEq, List.cons.injEq, and_true]
    omega
  · unfold zMi at h
    split at h
    · rename_i hc
      obtain ⟨u, hu, e⟩ := List.mem_map.mp h
      simp only [Prod.mk.injEq, List.cons.injEq] at e
      obtain ⟨e1, e2, e3⟩ := e
      refine ⟨e2.symm, hc.1, hc.2, ?_⟩
      rw [← e1, ← e3, show g 4 x + u.1 - g 4 x = u.1 by omega]
      exact hu
    · cases h
  · obtain ⟨h1, h2, h3, h4⟩ := h
    unfold zMi
    rw [if_pos ⟨h2, h3⟩]
    refine List.mem_map.mpr ⟨_, h4, ?_⟩
    simp only [Prod.mk.injEq, List.cons.injEq, and_true]
    omega
/-- the place's value is as assumed; what fits adds -/
def zPv (g : Nat → Int → Int) (v : Int) (cs : Nat → Int) (k : Nat) : Prop := g 3 k = 7 → if cs k = 4 then v = -1 else g 16 (zAlt (zPa g cs k).1 (zPa g cs k).2.1 (cs k)) = v
noncomputable def zMc (f : Nat → Nat → Int) (g : Nat → Int → Int) (v : Int) (cs : Nat → Int) (k : Nat) : Int := if cs k = 4 then 0 else zMf f g v (g 3 k) (g 16 (zAlt (zPa g cs k).1 (zPa g cs k).2.1 (cs k)))
noncomputable def zSs (f : Nat → Nat → Int) (g : Nat → Int → Int) (v : Int) (cs : Nat → Int) : Nat → Nat → Int
  | _, 0 => 0
  | k, n + 1 => zCo g cs k + zMc f g v cs k + zSs f g v cs (k + 1) n
theorem zSB_go (hI : zI f g) {k n : Nat} {s : Int} {t : List Int} (h : zVl f g cs k) : (s, t) ∈ zSB f g v n k (zBeh g k (zPa g cs k).1 (zZz g cs k)) ↔ zGo g cs k ∧ (s, t) ∈ zSuf f g v n ((k : Int) + 1) (zPa g cs (k + 1)).1 (zPa g cs (k + 1)).2.1 := by
  have hz := zZz_r hI h
  have i3 := hI.2.2.1
  unfold zSB
  by_cases c : zGo g cs k
  · have hb := zBd_s hI h c
    have hp := zPl_r hI (zPa g cs (k + 1)).1
    have hb1 := hb.1
    have hb2 := hb.2
    have e1 : zSt ((k : Int) + 1) (zPa g cs (k + 1)).1 (zPa g cs (k + 1)).2.1 / 6 % 7 = (zPa g cs (k + 1)).1 := by unfold zSt; omega
    have e2 : zSt ((k : Int) + 1) (zPa g cs (k + 1)).1 (zPa g cs (k + 1)).2.1 % 6 = (zPa g cs (k + 1)).2.1 := by unfold zSt; omega
    rw [zBeh_go hz.1 c, e1, e2, if_neg (by unfold zSt; omega)]
    exact ⟨fun u => ⟨c, u⟩, fun u => u.2⟩
  · rw [zBeh_no c, if_pos (by omega)]
    exact ⟨fun u => (by cases u), fun u => absurd u.1 c⟩
theorem zSuf_iff (hI : zI f g) : ∀ (n k : Nat) (s : Int), zBd f g cs k → ((s, (List.range n).map (fun i => cs (k + i))) ∈ zSuf f g v n k (zPa g cs k).1 (zPa g cs k).2.1 ↔ (∀ i : Nat, k ≤ i → i < k + n → zVl f g cs i ∧ zGo g cs i ∧ zPv g v cs i) ∧ (zPa g cs (k + n)).1 = f 12 0 ∧ s = zSs f g v cs k n) := by
  intro n
  induction n with
  | zero =>
    intro k s hb
    unfold zSuf
    simp only [List.range_zero, List.map_nil, Nat.add_zero, zSs]
    split
    · rename_i c
      simp only [List.mem_singleton, Prod.mk.injEq, and_true]
      exact ⟨fun u => ⟨fun i h1 h2 => by omega, c, u⟩, fun u => u.2.2⟩
    · rename_i c
      exact ⟨fun u => (by cases u), fun u => absurd u.2.1 c⟩
  | succ n ih =>
    intro k s hb
    have hlist : (List.range (n + 1)).map (fun i => cs (k + i)) = cs k :: (List.range n).map (fun i => cs (k + 1 + i)) := by
      rw [List.range_succ_eq_map, List.map_cons, List.map_map]
      congr 1
      refine List.map_congr_left (fun i _ => ?_)
      show cs (k + (i + 1)) = cs (k + 1 + i)
      congr 1
      omega
    rw [hlist, zSuf_mem hI]
    have hstep : zVl f g cs k → ((s - (zCo g cs k + zMc f g v cs k), (List.range n).map (fun i => cs (k + 1 + i))) ∈ zSB f g v n k (zBeh g k (zPa g cs k).1 (zZz g cs k)) ↔ zGo g cs k ∧ (∀ i : Nat, k + 1 ≤ i → i < k + 1 + n → zVl f g cs i ∧ zGo g cs i ∧ zPv g v cs i) ∧ (zPa g cs (k + 1 + n)).1 = f 12 0 ∧ s - (zCo g cs k + zMc f g v cs k) = zSs f g v cs (k + 1) n) := by
      intro h
      rw [zSB_go hI h]
      refine and_congr_right (fun hg => ?_)
      exact ih (k + 1) _ (zBd_s hI h hg)
    constructor
    · rintro (⟨h1, h2, h3, h4, h5, h6⟩ | ⟨h1, h2, h3, h4⟩)
      · have hna := zNa_r hI (zPa g cs k).1 (zPa g cs k).2.1
        have hv : zVl f g cs k := zVl_can.mpr ⟨by omega, hb, Or.inr ⟨h1, h3, h4⟩⟩
        have ez : zZz g cs k = (zPa g cs k).2.1 + 1 := if_neg h1
        have ec : zCo g cs k = g 17 (zAlt (zPa g cs k).1 (zPa g cs k).2.1 (cs k)) := if_neg h1
        have em : zMc f g v cs k = zMf f g v (g 3 k) (g 16 (zAlt (zPa g cs k).1 (zPa g cs k).2.1 (cs k))) := if_neg h1
        rw [← ec, ← em, ← ez] at h6
        obtain ⟨r1, r2, r3, r4⟩ := (hstep hv).mp h6
        refine ⟨fun i i1 i2 => ?_, by rw [show k + (n + 1) = k + 1 + n by omega]; exact r3, by simp only [zSs]; omega⟩
        by_cases c : i = k
        · rw [c]
          refine ⟨hv, r1, fun u => ?_⟩
          rw [if_neg h1]
          exact h5.resolve_left (fun w => w u)
        · exact r2 i (by omega) (by omega)
      · have hv : zVl f g cs k := zVl_can.mpr ⟨by omega, hb, Or.inl ⟨h1, h2⟩⟩
        have ez : zZz g cs k = (zPa g cs k).2.1 := if_pos h1
        have ec : zCo g cs k = g 4 k := if_pos h1
        have em : zMc f g v cs k = 0 := if_pos h1
        rw [← ez, show s - g 4 k = s - (zCo g cs k + zMc f g v cs k) by omega] at h4
        obtain ⟨r1, r2, r3, r4⟩ := (hstep hv).mp h4
        refine ⟨fun i i1 i2 => ?_, by rw [show k + (n + 1) = k + 1 + n by omega]; exact r3, by simp only [zSs]; omega⟩
        by_cases c : i = k
        · rw [c]
          refine ⟨hv, r1, fun u => ?_⟩
          rw [if_pos h1]
          exact h3.resolve_left (fun w => w u)
        · exact r2 i (by omega) (by omega)
    · rintro ⟨r1, r2, r3⟩
      obtain ⟨hv, hg, hp⟩ := r1 k (by omega) (by omega)
      have r4 := (hstep hv).mpr ⟨hg, fun i i1 i2 => r1 i (by omega) (by omega), by rw [show k + 1 + n = k + (n + 1) by omega]; exact r2, by simp only [zSs] at r3; omega⟩
      obtain ⟨v1, v2, v3⟩ := zVl_can.mp hv
      rcases v3 with ⟨w1, w2⟩ | ⟨w1, w2, w3⟩
      · refine Or.inr ⟨w1, w2, ?_, ?_⟩
        · by_cases c : g 3 k = 7
          · have := hp c
            rw [if_pos w1] at this
            exact Or.inr this
          · exact Or.inl c
        · have ez : zZz g cs k = (zPa g cs k).2.1 := if_pos w1
          have ec : zCo g cs k = g 4 k := if_pos w1
          have em : zMc f g v cs k = 0 := if_pos w1
          rw [ez, ec, em, Int.add_zero] at r4
          exact r4
      · refine Or.inl ⟨w1, v1.1, w2, w3, ?_, ?_⟩
        · by_cases c : g 3 k = 7
          · have := hp c
            rw [if_neg w1] at this
            exact Or.inr this
          · exact Or.inl c
        · have ez : zZz g cs k = (zPa g cs k).2.1 + 1 := if_neg w1
          have ec : zCo g cs k = g 17 (zAlt (zPa g cs k).1 (zPa g cs k).2.1 (cs k)) := if_neg w1
          have em : zMc f g v cs k = zMf f g v (g 3 k) (g 16 (zAlt (zPa g cs k).1 (zPa g cs k).2.1 (cs k))) := if_neg w1
          rw [ez, ec, em] at r4
          exact r4
/-- the value of a kind, where kinds differ -/
theorem zVo_no {kd : Int} : ∀ k : Nat, (∀ j : Nat, j < k → g 3 j ≠ kd) → zVo g cs kd k = -1 := by
  intro k
  induction k with
  | zero => intro _; rfl
  | succ k ih =>
    intro h
    simp only [zVo]
    rw [if_neg (fun u => h k (by omega) u.1)]
    exact ih (fun j hj => h j (by omega))
theorem zVo_at {kd : Int} {k : Nat} (hk : g 3 k = kd) : ∀ n : Nat, k < n → (∀ j : Nat, j < n → g 3 j = kd → j = k) → zVo g cs kd n = if cs k = 4 then -1 else g 16 (zAlt (zPa g cs k).1 (zPa g cs k).2.1 (cs k)) := by
  intro n
  induction n with
  | zero => intro h; omega
  | succ n ih =>
    intro h hd
    simp only [zVo]
    by_cases c : n = k
    · subst c
      by_cases c2 : cs n = 4
      · rw [if_neg (fun u => u.2 c2), if_pos c2]
        exact zVo_no n (fun j hj u => by have := hd j (by omega) u; omega)
      · rw [if_pos ⟨hk, c2⟩, if_neg c2]
    · rw [if_neg (fun u => c (hd n (by omega) u.1))]
      exact ih (by omega) (fun j hj u => hd j (by omega) u)
/-- the sums are the same -/
noncomputable def zM1 (f : Nat → Nat → Int) (g : Nat → Int → Int) (v : Int) (cs : Nat → Int) : Nat → Int
  | 0 => 0
  | k + 1 => zM1 f g v cs k + zMc f g v cs k
theorem zSs_sum : ∀ (n k : Nat), zSs f g v cs k n + zSm g cs 0 k + zM1 f g v cs k = zSm g cs 0 (k + n) + zM1 f g v cs (k + n) := by
  intro n
  induction n with
  | zero => intro k; simp only [zSs, Nat.add_zero]; omega
  | succ n ih =>
    intro k
    have := ih (k + 1)
    simp only [zSs]
    rw [show k + (n + 1) = k + 1 + n by omega, ← this]
    simp only [zSm, zM1]
    omega
theorem zSm_a (a : Int) : ∀ k : Nat, zSm g cs a k = a + zSm g cs 0 k := by
  intro k
  induction k with
  | zero => simp only [zSm]; omega
  | succ k ih =>
    simp only [zSm]
    rw [ih]
    omega
noncomputable def zE1 (f : Nat → Nat → Int) (g : Nat → Int → Int) (v kd w : Int) : Int := @ite Int (w ≠ -1 ∧ v ≠ -1 ∧ ¬ zFit f g kd w v) (Classical.propDecidable _) 100 0
theorem zE1_0 (v kd : Int) : zE1 f g v kd (-1) = 0 := if_neg (fun u => u.1 rfl)
theorem zM1_ex {N : Nat} (hd : ∀ i j : Nat, i < N → j < N → g 3 i = g 3 j → i = j) (hw : ∀ i : Nat, i < N → cs i ≠ 4 → g 16 (zAlt (zPa g cs i).1 (zPa g cs i).2.1 (cs i)) ≠ -1) : ∀ k : Nat, k ≤ N → zM1 f g v cs k = zE1 f g v 2 (zVo g cs 2 k) + zE1 f g v 6 (zVo g cs 6 k) := by
  intro k
  induction k with
  | zero =>
    intro _
    simp only [zM1, zVo]
    rw [zE1_0, zE1_0]
    rfl
  | succ k ih =>
    intro hk
    have ih := ih (by omega)
    have hno : ∀ j : Nat, j < k → g 3 j ≠ g 3 k := fun j hj u => by have := hd j k (by omega) (by omega) u; omega
    simp only [zM1]
    rw [ih]
    by_cases c4 : cs k = 4
    · have em : zMc f g v cs k = 0 := if_pos c4
      have e2 : ∀ kd, zVo g cs kd (k + 1) = zVo g cs kd k := fun kd => by simp only [zVo]; rw [if_neg (fun u => u.2 c4)]
      rw [em, e2, e2]
      omega
    · have em : zMc f g v cs k = zMf f g v (g 3 k) (g 16 (zAlt (zPa g cs k).1 (zPa g cs k).2.1 (cs k))) := if_neg c4
      have hne := hw k (by omega) c4
      have e2 : ∀ kd, g 3 k ≠ kd → zVo g cs kd (k + 1) = zVo g cs kd k := fun kd hkd => by simp only [zVo]; rw [if_neg (fun u => hkd u.1)]
      have e3 : zVo g cs (g 3 k) (k + 1) = g 16 (zAlt (zPa g cs k).1 (zPa g cs k).2.1 (cs k)) := by simp only [zVo]; rw [if_pos ⟨trivial, c4⟩]
      have e4 := zVo_no (cs := cs) k hno
      have key : ∀ kd, g 3 k = kd → (kd = 2 ∨ kd = 6) → zMf f g v (g 3 k) (g 16 (zAlt (zPa g cs k).1 (zPa g cs k).2.1 (cs k))) = zE1 f g v kd (zVo g cs kd (k + 1)) := by
        intro kd hkd h26
        rw [← hkd, e3]
        unfold zMf zE1
        by_cases c : v ≠ -1 ∧ ¬ zFit f g (g 3 k) (g 16 (zAlt (zPa g cs k).1 (zPa g cs k).2.1 (cs k))) v
        · rw [if_pos ⟨c.1, by rw [hkd]; exact h26, c.2⟩, if_pos ⟨hne, c.1, c.2⟩]
        · rw [if_neg (fun u => c ⟨u.1, u.2.2⟩), if_neg (fun u => c ⟨u.2.1, u.2.2⟩)]
      rw [em]
      by_cases k2 : g 3 k = 2
      · rw [key 2 k2 (Or.inl rfl), e2 6 (by omega)]
        rw [k2] at e4
        rw [e4, zE1_0]
        omega
      · by_cases k6 : g 3 k = 6
        · rw [key 6 k6 (Or.inr rfl), e2 2 (by omega)]
          rw [k6] at e4
          rw [e4, zE1_0]
          omega
        · rw [e2 2 k2, e2 6 k6]
          have : zMf f g v (g 3 k) (g 16 (zAlt (zPa g cs k).1 (zPa g cs k).2.1 (cs k))) = 0 := if_neg (fun u => u.2.1.elim k2 k6)
          omega
theorem zSs_tt {N : Nat} (hd : ∀ i j : Nat, i < N → j < N → g 3 i = g 3 j → i = j) (hw : ∀ i : Nat, i < N → cs i ≠ 4 → g 16 (zAlt (zPa g cs i).1 (zPa g cs i).2.1 (cs i)) ≠ -1) (hv : v = zVo g cs 7 N) : zSs f g v cs 0 N = zTt f g cs N := by
  have h1 := zSs_sum (f := f) (g := g) (v := v) (cs := cs) N 0
  rw [Nat.zero_add] at h1
  have h2 := zM1_ex (f := f) (v := v) hd hw N (Nat.le_refl _)
  have e : ∀ kd, zEx f g cs N kd = zE1 f g v kd (zVo g cs kd N) := fun kd => by unfold zEx zE1; rw [hv]
  unfold zTt
  rw [zSm_a, e, e]
  simp only [zSm, zM1] at h1
  omega
end Eq1
/-- the list is in the order of choices -/
theorem zLc_ext {n : Nat} {d e : Int × List Int} {ch c : Int} (h : zLc n d e) : zLc (n + 1) (c + d.1, ch :: d.2) (c + e.1, ch :: e.2) := by
  obtain ⟨k, k1, k2, k3⟩ := h
  refine ⟨k + 1, by omega, fun j hj => ?_, k3⟩
  match j with
  | 0 => rfl
  | j + 1 => exact k2 j (by omega)
theorem zSuf_pw {f : Nat → Nat → Int} {g : Nat → Int → Int} {v : Int} (hI : zI f g) : ∀ (n : Nat) (x y z : Int), (zSuf f g v n x y z).Pairwise (zLc n) := by
  intro n
  induction n with
  | zero =>
    intro x y z
    unfold zSuf
    split
    · exact List.pairwise_singleton _ _
    · exact List.Pairwise.nil
  | succ n ih =>
    intro x y z
    have hna := zNa_r hI y z
    have hB : ∀ q, (zSB f g v n x q).Pairwise (zLc n) := by
      intro q
      unfold zSB
      split
      · exact List.Pairwise.nil
      · exact ih _ _ _
    have hE : ∀ ch c L, L.Pairwise (zLc n) → (zExt ch c L).Pairwise (zLc (n + 1)) := by
      intro ch c L h
      unfold zExt
      rw [List.pairwise_map]
      exact h.imp (fun u => zLc_ext u)
    have hh : ∀ ch c L, ∀ e ∈ zExt ch c L, zCs e 0 = ch := by
      intro ch c L e he
      obtain ⟨u, hu, rfl⟩ := List.mem_map.mp he
      rfl
    have hA : ∀ i : Nat, ∀ e ∈ zAi f g v n x y z i, zCs e 0 = i := by
      intro i e he
      unfold zAi at he
      split at he
      · exact hh _ _ _ e he
      · cases he
    have hM : ∀ e ∈ zMi f g v n x y z, zCs e 0 = 4 := by
      intro e he
      unfold zMi at he
      split at he
      · exact hh _ _ _ e he
      · cases he
    have hlt : ∀ d e : Int × List Int, zCs d 0 < zCs e 0 → zLc (n + 1) d e := fun d e h => ⟨0, by omega, fun j hj => by omega, h⟩
    rw [zSuf_s, List.pairwise_append]
    refine ⟨?_, ?_, fun d hd e he => ?_⟩
    · rw [List.pairwise_flatMap]
      refine ⟨fun i hi => ?_, ?_⟩
      · unfold zAi
        split
        · exact hE _ _ _ (hB _)
        · exact List.Pairwise.nil
      · refine List.Pairwise.imp (fun {i j} (hij : i < j) d hd e he => hlt d e ?_) (List.pairwise_lt_range)
        rw [hA i d hd, hA j e he]
        omega
    · unfold zMi
      split
      · exact hE _ _ _ (hB _)
      · exact List.Pairwise.nil
    · obtain ⟨i, hi, hd⟩ := List.mem_flatMap.mp hd
      have hi := List.mem_range.mp hi
      refine hlt d e ?_
      rw [hA i d hd, hM e he]
      omega
section Eq2
variable {f : Nat → Nat → Int} {g : Nat → Int → Int}
theorem zCs_list {N : Nat} {e : Int × List Int} (h : e.2.length = N) : e.2 = (List.range N).map (fun i => zCs e (0 + i)) := by
  refine List.ext_getElem (by simp [h]) (fun k k1 k2 => ?_)
  simp [zCs, List.getElem?_eq_getElem k1]
/-- readings with an assumed value of the place -/
theorem zSuf_vd (hI : zI f g) (hd : ∀ i j : Nat, i < (f 2 0).toNat → j < (f 2 0).toNat → g 3 i = g 3 j → i = j) {v : Int} (hv : (v = -1 ∧ ∀ i : Nat, i < (f 2 0).toNat → g 3 i ≠ 7) ∨ ∃ i : Nat, i < (f 2 0).toNat ∧ g 3 i = 7) (e : Int × List Int) : e ∈ zSuf f g v (f 2 0).toNat 0 0 0 ↔ zVd f g (f 2 0).toNat e ∧ zVo g (zCs e) 7 (f 2 0).toNat = v := by
  have i1 := hI.1
  have hw : ∀ cs : Nat → Int, (∀ i : Nat, i < (f 2 0).toNat → zVl f g cs i) → ∀ i : Nat, i < (f 2 0).toNat → cs i ≠ 4 → g 16 (zAlt (zPa g cs i).1 (zPa g cs i).2.1 (cs i)) ≠ -1 := by
    intro cs hcs i hi h4
    obtain ⟨v1, v2, v3⟩ := zVl_can.mp (hcs i hi)
    rcases v3 with w | w
    · exact absurd w.1 h4
    · obtain ⟨n1, n2⟩ := zNa_in (show 0 < zNa g (zPa g cs i).1 (zPa g cs i).2.1 by omega)
      have e0 : zNa g (zPa g cs i).1 (zPa g cs i).2.1 = g 14 ((zPa g cs i).1 * 5 + (zPa g cs i).2.1) := if_pos ⟨n1, n2⟩
      have := (hI.2.2.2.2.2.1 (zPa g cs i).1 (zPa g cs i).2.1 (cs i) n1.1 n1.2 n2.1 n2.2 v1.1 (by omega)).1
      omega
  have hpv : (∀ i : Nat, i < (f 2 0).toNat → zPv g v (zCs e) i) ↔ zVo g (zCs e) 7 (f 2 0).toNat = v := by
    rcases hv with ⟨rfl, hno⟩ | ⟨x, hx, hx7⟩
    · rw [zVo_no _ hno]
      exact ⟨fun _ => rfl, fun _ i hi u => absurd u (hno i hi)⟩
    · have hux : ∀ j : Nat, j < (f 2 0).toNat → g 3 j = 7 → j = x := fun j hj u => hd j x hj hx (by omega)
      rw [zVo_at hx7 (f 2 0).toNat hx hux]
      constructor
      · intro h
        have := h x hx hx7
        split at this
        · rename_i c
          rw [if_pos c]
          exact this.symm
        · rename_i c
          rw [if_neg c]
          exact this
      · intro h i hi u
        obtain rfl := hux i hi u
        split at h
        · rename_i c
          rw [if_pos c]
          exact h.symm
        · rename_i c
          rw [if_neg c]
          exact h
  have main := zSuf_iff (v := v) (cs := zCs e) hI (f 2 0).toNat 0 e.1 (zBd_0 hI _)
  rw [Nat.zero_add] at main
  constructor
  · intro h
    have hl := (zSuf_b hI (f 2 0).toNat 0 0 0 (by omega) (by omega) e h).2.2
    rw [← zCs_list hl] at main
    obtain ⟨r1, r2, r3⟩ := main.mp h
    have hvo := hpv.mp (fun i hi => (r1 i (by omega) hi).2.2)
    refine ⟨⟨hl, fun k hk => ⟨(r1 k (by omega) hk).1, (r1 k (by omega) hk).2.1⟩, r2, ?_⟩, hvo⟩
    rw [r3]
    exact zSs_tt hd (hw _ (fun i hi => (r1 i (by omega) hi).1)) hvo.symm
  · rintro ⟨⟨hl, r1, r2, r3⟩, hvo⟩
    rw [← zCs_list hl] at main
    refine main.mpr ⟨fun i _ hi => ⟨(r1 i hi).1, (r1 i hi).2, hpv.mpr hvo i hi⟩, r2, ?_⟩
    rw [r3]
    exact (zSs_tt hd (hw _ (fun i hi => (r1 i hi).1)) hvo.symm).symm
/-- a path goes over reached states -/
theorem zRe_pa (hI : zI f g) {cs : Nat → Int} : ∀ k : Nat, (∀ j : Nat, j < k → zVl f g cs j ∧ zGo g cs j) → zRe g k (zSt k (zPa g cs k).1 (zPa g cs k).2.1) := by
  intro k
  induction k with
  | zero => intro _; rfl
  | succ k ih =>
    intro h
    obtain ⟨hv, hg⟩ := h k (by omega)
    have hz := zZz_r hI hv
    have i3 := hI.2.2.1
    obtain ⟨v1, v2, v3⟩ := zVl_can.mp hv
    have hp := zPl_r hI (zPa g cs k).1
    have v21 := v2.1
    have v22 := v2.2
    have hbe := zBeh_go hz.1 hg
    have hb := zBd_s hI hv hg
    have hb1 := hb.1
    have hb2 := hb.2
    refine ⟨(zPa g cs k).1, (zPa g cs k).2.1, by omega, by omega, ih (fun j hj => h j (by omega)), ?_, ?_⟩
    · unfold zSt
      omega
    · rcases v3 with w | w
      · refine Or.inl ⟨w.2, ?_⟩
        rw [show zZz g cs k = (zPa g cs k).2.1 from if_pos w.1] at hbe
        rw [hbe]
        rfl
      · refine Or.inr ⟨⟨cs k, v1.1, w.2.1, w.2.2⟩, ?_⟩
        rw [show zZz g cs k = (zPa g cs k).2.1 + 1 from if_neg w.1] at hbe
        rw [hbe]
        rfl
theorem zOne_tw (hI : zI f g) {N : Nat} (hN : N = (f 2 0).toNat) : ∀ (vs : List Int) (D : Int → Prop) (T : List (Int × List Int)), zTw N (fun e => zVd f g N e ∧ D (zVo g (zCs e) 7 N)) T → (∀ v ∈ vs, ¬ D v) → vs.Nodup → (∀ v ∈ vs, ∀ e, e ∈ zSuf f g v N 0 0 0 ↔ zVd f g N e ∧ zVo g (zCs e) 7 N = v) → zTw N (fun e => zVd f g N e ∧ (D (zVo g (zCs e) 7 N) ∨ zVo g (zCs e) 7 N ∈ vs)) (vs.foldl (zOne f g) T) := by
  intro vs
  induction vs with
  | nil =>
    intro D T hT _ _ _
    exact zTw_c (fun e => by simp) hT
  | cons v vs ih =>
    intro D T hT h1 h2 h3
    rw [List.nodup_cons] at h2
    have hS := zTw_zt (zSuf_pw (v := v) hI N 0 0 0)
    have hS := zTw_c (fun e => h3 v (by simp) e) hS
    have hone : zAd N (zt2 (zSuf f g v N 0 0 0)) 1 (zAd N (zt2 (zSuf f g v N 0 0 0)) 0 T) = zOne f g T v := by rw [hN]; rfl
    have h4 := zTw_ad hT hS (fun e d he hd => ?_)
    rw [hone] at h4
    · have h5 := ih (fun w => D w ∨ w = v) (zOne f g T v) (zTw_c (fun e => ?_) h4) (fun w hw u => u.elim (h1 w (by simp [hw])) (fun u => h2.1 (u ▸ hw))) h2.2 (fun w hw e => h3 w (by simp [hw]) e)
      · refine zTw_c (fun e => ?_) h5
        simp only [List.mem_cons, or_assoc]
      · constructor
        · rintro (u | u)
          · exact ⟨u.1, Or.inl u.2⟩
          · exact ⟨u.1, Or.inr u.2⟩
        · rintro ⟨u, w | w⟩
          · exact Or.inl ⟨u, w⟩
          · exact Or.inr ⟨u, w⟩
    · refine zLt_to hd.1.1 he.1.1 (fun u => ?_)
      rw [← u, hd.2] at he
      exact h1 v (by simp) he.2
/-- what the class finds -/
theorem zRes_tw {a b : Nat} (hI : zI f g) (hD : zD f g) (h : zRes f g a b) (h0 : 0 < f 2 0) : ∃ T, zTw (f 2 0).toNat (zVd f g (f 2 0).toNat) T ∧ zRS g (f 2 0).toNat f g a b T := by
  have i1 := hI.1
  have i3 := hI.2.2.1
  rcases h with h | ⟨-, -, hR, n, hn1, hn2, hn3, hrs⟩
  · omega
  · refine ⟨_, ?_, hrs⟩
    have hd : ∀ i j : Nat, i < (f 2 0).toNat → j < (f 2 0).toNat → g 3 i = g 3 j → i = j := fun i j hi hj u => by
      have := hD.di i j (by omega) (by omega) (by omega) (by omega) u
      omega
    have hsv : ∀ v ∈ (-1 :: zVs g n), ∀ e, e ∈ zSuf f g v (f 2 0).toNat 0 0 0 ↔ zVd f g (f 2 0).toNat e ∧ zVo g (zCs e) 7 (f 2 0).toNat = v := by
      intro v hv e
      refine zSuf_vd hI hd ?_ e
      rcases hn3 with ⟨rfl, hno⟩ | ⟨x, x1, x2, x3, -⟩
      · refine Or.inl ⟨?_, fun i hi => hno i (by omega) (by omega)⟩
        simp only [zVs, List.range_zero, List.map_nil, List.mem_singleton] at hv
        exact hv
      · obtain ⟨i, rfl⟩ := Int.eq_ofNat_of_zero_le x1
        exact Or.inr ⟨i, by omega, x3⟩
    have := zOne_tw hI rfl (-1 :: zVs g n) (fun _ => False) [] (fun e he => he.2) (fun _ _ u => u) (List.nodup_cons.mpr ⟨fun u => by have := hn2 _ u; omega, hn1⟩) hsv
    refine zTw_c (fun e => ⟨fun u => u.1, fun u => ⟨u, Or.inr ?_⟩⟩) this
    by_cases c : zVo g (zCs e) 7 (f 2 0).toNat = -1
    · rw [c]
      simp
    · refine List.mem_cons_of_mem _ ?_
      rcases hn3 with ⟨rfl, hno⟩ | ⟨x, x1, x2, x3, hcov⟩
      · exact absurd (zVo_no _ (fun j hj => hno j (by omega) (by omega))) c
      · obtain ⟨i, rfl⟩ := Int.eq_ofNat_of_zero_le x1
        have hi : i < (f 2 0).toNat := by omega
        rw [zVo_at x3 (f 2 0).toNat hi (fun j hj u => hd j i hj hi (by omega))] at c ⊢
        split at c
        · exact absurd rfl c
        · rename_i c4
          rw [if_neg c4]
          obtain ⟨v1, v2, v3⟩ := zVl_can.mp (u.2.1 i hi).1
          rcases v3 with w | w
          · exact absurd w.1 c4
          · have hlt := zNa_lt hI (show 0 < zNa g (zPa g (zCs e) i).1 (zPa g (zCs e) i).2.1 by omega)
            have hll := zPl_lt hI v2.1.1 (show 0 < zPl g (zPa g (zCs e) i).1 by have := v2.2.1; omega)
            have hp := zPl_r hI (zPa g (zCs e) i).1
            have v21 := v2.1
            have v22 := v2.2
            refine hcov _ ⟨(zPa g (zCs e) i).1, (zPa g (zCs e) i).2.1, zCs e i, v2.1.1, v2.2.1, hlt, Or.inl hll, ?_, v1.1, w.2.1, by rw [w.2.2]; exact x3, rfl⟩
            refine ((hR _ ?_ ?_).2).mpr ⟨i, by omega, zRe_pa hI i (fun j hj => u.2.1 j (by omega))⟩
            · unfold zSt
              omega
            · unfold zSt
              omega
end Eq2
end
section
/-! the reference's questions -/
def zFrM (F f : Nat → Nat → Int) (G g : Nat → Int → Int) : Prop := (∀ x j, x ≠ 38 ∨ (j ≠ 0 ∧ j ≠ 21 ∧ j ≠ 22) → F x j = f x j) ∧ ∀ x j, x < 52 ∨ 56 < x → G x j = g x j
section Frm
variable {F f : Nat → Nat → Int} {G g : Nat → Int → Int}
theorem zFrM.d (h : zFrM F f G g) : zFrD F f G g := ⟨fun c j hc => h.1 c j (by unfold zDf at hc; omega), fun c j hc => h.2 c j (by unfold zDg at hc; omega)⟩
theorem zFrM.tr {F1 : Nat → Nat → Int} {G1 : Nat → Int → Int} (h : zFrM F F1 G G1) (h2 : zFrM F1 f G1 g) : zFrM F f G g := ⟨fun x j hx => (h.1 x j hx).trans (h2.1 x j hx), fun x j hx => (h.2 x j hx).trans (h2.2 x j hx)⟩
theorem zFrM.o (h : zFrO F f G g) : zFrM F f G g := ⟨fun x j hx => h.1 x j (by omega), fun x j hx => h.2 x j (by omega)⟩
theorem zFrM.z (f : Nat → Nat → Int) (g : Nat → Int → Int) (v : Int) : zFrM (am_u1 f 38 0 v) f g g := ⟨fun x j hx => am_u1_ne (by omega), fun _ _ _ => rfl⟩
theorem mRd_fr {N : Nat} {r : Int} {e : Int × List Int} (h : mRd g N r e) (h2 : ∀ j, G 52 j = g 52 j) (h3 : ∀ j, G 53 j = g 53 j) : mRd G N r e := ⟨by rw [h3]; exact h.1, fun k hk => by rw [h2]; exact h.2 k hk⟩
theorem mHo_fr {N : Nat} {T : List (Int × List Int)} (h : mHo f g N T) (h1 : F 38 22 = f 38 22) (h2 : ∀ j, G 52 j = g 52 j) (h3 : ∀ j, G 53 j = g 53 j) : mHo F G N T := by
  match T, h with
  | [], h => exact h1.trans h
  | [x], h => exact ⟨h1.trans h.1, mRd_fr h.2 h2 h3⟩
  | [x, y], h => exact ⟨h1.trans h.1, mRd_fr h.2.1 h2 h3, mRd_fr h.2.2 h2 h3⟩
theorem mRes_fr {T : List (Int × List Int)} (h : mRes f g T) (hd : zFrD F f G g) (h1 : F 38 22 = f 38 22) (h2 : ∀ j, G 52 j = g 52 j) (h3 : ∀ j, G 53 j = g 53 j) (h4 : G 55 0 = g 55 0 ∧ G 56 0 = g 56 0) : mRes F G T := by
  have e20 : F 2 0 = f 2 0 := hd.1 2 0 (by unfold zDf; omega)
  unfold mRes at h ⊢
  rw [e20, h4.1, h4.2]
  exact ⟨h.1, mHo_fr h.2.1 h1 h2 h3, fun u => zTw_c (fun e => (hd.vd _ e).symm) (h.2.2.1 u), h.2.2.2⟩
theorem mSS_fr (h : mSS f g) (hd : zFrD F f G g) (h0 : F 38 21 = f 38 21) (h1 : F 38 22 = f 38 22) (h2 : ∀ j, G 52 j = g 52 j) (h3 : ∀ j, G 53 j = g 53 j) (h4 : G 55 0 = g 55 0 ∧ G 56 0 = g 56 0) : mSS F G := by
  rcases h with h | ⟨h, T, hT⟩
  · exact Or.inl (h0.trans h)
  · exact Or.inr ⟨h0.trans h, T, mRes_fr hT hd h1 h2 h3 h4⟩
theorem mHo_n {N : Nat} {T : List (Int × List Int)} (h : mHo f g N T) : f 38 22 = T.length ∧ T.length ≤ 2 := by
  match T, h with
  | [], h => exact ⟨h, by decide⟩
  | [x], h => exact ⟨h.1, Nat.le_succ 1⟩
  | [x, y], h => exact ⟨h.1, Nat.le_refl 2⟩
theorem mHo_at {N : Nat} {T : List (Int × List Int)} (h : mHo f g N T) {x : Int} (hx : 0 ≤ x ∧ x < f 38 22) : ∃ e, T[x.toNat]? = some e ∧ mRd g N x e := by
  have hn := mHo_n h
  match T, h with
  | [], h =>
    have h : f 38 22 = 0 := h
    omega
  | [u], h =>
    have h1 := h.1
    obtain rfl : x = 0 := by omega
    exact ⟨u, rfl, h.2⟩
  | [u, w], h =>
    have h1 := h.1
    have : x = 0 ∨ x = 1 := by omega
    rcases this with rfl | rfl
    · exact ⟨u, rfl, h.2.1⟩
    · exact ⟨w, rfl, h.2.2⟩
theorem mRes_vd {T : List (Int × List Int)} (hI : zI f g) (h : mRes f g T) : ∀ e ∈ T, zVd f g (f 2 0).toNat e := by
  by_cases c : 0 < f 2 0
  · exact zTw_m (h.2.2.1 c)
  · have i1 := hI.1
    rw [h.2.2.2 (by omega)]
    intro e he
    cases he
end Frm
theorem zPa_c (g : Nat → Int → Int) (cs : Nat → Int) (k : Nat) : (zPa g cs (k + 1)).2.2 = if cs k = 4 then (zPa g cs k).2.2 else (zPa g cs k).2.2 + 1 := by
  simp only [zPa]
  split <;> split <;> rfl
def zDv (g : Nat → Int → Int) (N : Nat) (T : List (Int × List Int)) (x : Int) : Int := match T[x.toNat]? with
  | some e => (zPa g (zCs e) N).2.2
  | none => -1
def zSv (T : List (Int × List Int)) (x : Int) : Int := match T[x.toNat]? with
  | some e => e.1
  | none => -1
section Ask
variable {l : Launch} {dC : Nat → ClassId} {dI : Nat → Nat → Nat} {tc : Nat → ClassId} {f : Nat → Nat → Int} {g : Nat → Int → Int} {a b c : Nat}
variable {cs : Nat → Int}
set_option maxRecDepth 100000 in
set_option maxHeartbeats 4000000 in
theorem cm_isRank (x : Int) (hI : zI f g) (hD : zD f g) (hS : mSS f g) : am_Ct l dC dI tc mm6_isRank 5 58 [(.inr (.inr (some 38))), .inl x] (58, f, g, pr_r a b c) (fun r s => ∃ F G T, r = some (.inl (if 0 ≤ x ∧ x < 2 then 1 else 0)) ∧ s = (58, F, G, pr_r a b c) ∧ zFrM F f G g ∧ F 38 21 = 1 ∧ F 38 0 = 0 ∧ mRes F G T) := by
  have hf := zFrM.z f g 0
  have hS1 : mSS (am_u1 f 38 0 0) g := mSS_fr hS hf.d (am_u1_j (by decide)) (am_u1_j (by decide)) (fun _ => rfl) (fun _ => rfl) ⟨rfl, rfl⟩
  refine am_enter ok_6_isRank rfl (by decide) (Nat.le_of_ble_eq_true rfl) rfl ?_
  iterate 4 (refine am_go rfl (by first | exact True.intro | omega | exact ⟨by decide, Nat.le_of_ble_eq_true rfl, Nat.le_of_ble_eq_true rfl⟩ | exact ⟨by decide, Nat.le_of_ble_eq_true rfl⟩) ?_)
  refine am_call rfl (cm_look (hf.d.I hI) (hf.d.D hD) hS1) (by decide) (Nat.le_of_ble_eq_true rfl) (Nat.le_of_ble_eq_true rfl) (Nat.le_of_ble_eq_true rfl) (fun rv s q => ?_)
  obtain ⟨rfl, F, G, T, rfl, q1, q2, q3⟩ := q
  have h0 : F 38 0 = 0 := by rw [q1.1 38 0 (Or.inr (by decide)), am_u1_s]
  have hfr := (zFrM.o q1).tr hf
  (refine am_go rfl (by first | exact True.intro | omega | exact ⟨by decide, Nat.le_of_ble_eq_true rfl, Nat.le_of_ble_eq_true rfl⟩ | exact ⟨by decide, Nat.le_of_ble_eq_true rfl⟩) ?_)
  refine am_if rfl (fun c1 => ?_) (fun c1 => ?_)
  · (refine am_go rfl (by first | exact True.intro | omega | exact ⟨by decide, Nat.le_of_ble_eq_true rfl, Nat.le_of_ble_eq_true rfl⟩ | exact ⟨by decide, Nat.le_of_ble_eq_true rfl⟩) ?_)
    refine am_zret rfl rfl (by first | exact Or.inl rfl | exact Or.inr rfl) rfl ⟨F, G, T, by rw [if_neg (by omega)], rfl, hfr, q2, h0, q3⟩
  · iterate 2 (refine am_go rfl (by first | exact True.intro | omega | exact ⟨by decide, Nat.le_of_ble_eq_true rfl, Nat.le_of_ble_eq_true rfl⟩ | exact ⟨by decide, Nat.le_of_ble_eq_true rfl⟩) ?_)
    refine am_if rfl (fun c2 => ?_) (fun c2 => ?_)
    · (refine am_go rfl (by first | exact True.intro | omega | exact ⟨by decide, Nat.le_of_ble_eq_true rfl, Nat.le_of_ble_eq_true rfl⟩ | exact ⟨by decide, Nat.le_of_ble_eq_true rfl⟩) ?_)
      refine am_zret rfl rfl (by first | exact Or.inl rfl | exact Or.inr rfl) rfl ⟨F, G, T, by rw [if_neg (by omega)], rfl, hfr, q2, h0, q3⟩
    · iterate 2 (refine am_go rfl (by first | exact True.intro | omega | exact ⟨by decide, Nat.le_of_ble_eq_true rfl, Nat.le_of_ble_eq_true rfl⟩ | exact ⟨by decide, Nat.le_of_ble_eq_true rfl⟩) ?_)
      refine am_zret rfl rfl (by first | exact Or.inl rfl | exact Or.inr rfl) rfl ⟨F, G, T, by rw [if_pos (by omega)], rfl, hfr, q2, h0, q3⟩
set_option maxRecDepth 100000 in
set_option maxHeartbeats 4000000 in
theorem cm_there (x : Int) {e : Int × List Int} (hx : x = 0 ∨ x = 1) (hI : zI f g) (hD : zD f g) (hR : mRd g (f 2 0).toNat x e) : am_Ct l dC dI tc mm6_there 0 58 [(.inr (.inr (some 38))), .inl x] (58, f, g, pr_r a b c) (fun r s => r = some (.inl (zPa g (zCs e) (f 2 0).toNat).2.2) ∧ s = (58, f, g, pr_r a b c)) := by
  have i1 := hI.1
  have e1 := hD.pn
  have hxr : 0 ≤ x ∧ x ≤ 1 := by omega
  clear hx
  refine am_enter ok_6_there rfl (by decide) (Nat.le_of_ble_eq_true rfl) rfl ?_
  have loop : ∀ (m k : Nat) (n : Int), k + m = (f 2 0).toNat → n = (zPa g (zCs e) k).2.2 → am_wp l dC dI tc mm6_there 0 58 58 (fun r s => r = some (.inl (zPa g (zCs e) (f 2 0).toNat).2.2) ∧ s = (58, f, g, pr_r a b c)) 4 [some (.inr (.inr (some 38))), some (.inl x), some (.inl n), some (.inl (k : Int))] [] (58, f, g, pr_r a b c) := by
    intro m
    induction m with
    | zero =>
      intro k n hk hn
      iterate 3 (refine am_go rfl (by first | exact True.intro | omega | exact ⟨by decide, Nat.le_of_ble_eq_true rfl, Nat.le_of_ble_eq_true rfl⟩ | exact ⟨by decide, Nat.le_of_ble_eq_true rfl⟩) ?_)
      refine am_if rfl (fun c1 => ?_) (fun c1 => by omega)
      (refine am_go rfl (by first | exact True.intro | omega | exact ⟨by decide, Nat.le_of_ble_eq_true rfl, Nat.le_of_ble_eq_true rfl⟩ | exact ⟨by decide, Nat.le_of_ble_eq_true rfl⟩) ?_)
      exact am_iret rfl rfl rfl ⟨by rw [hn, show k = (f 2 0).toNat by omega], rfl⟩
    | succ m ih =>
      intro k n hk hn
      have hc := hR.2 k (by omega)
      have hp := zPa_n g (zCs e) k
      have hs := zPa_c g (zCs e) k
      iterate 3 (refine am_go rfl (by first | exact True.intro | omega | exact ⟨by decide, Nat.le_of_ble_eq_true rfl, Nat.le_of_ble_eq_true rfl⟩ | exact ⟨by decide, Nat.le_of_ble_eq_true rfl⟩) ?_)
      refine am_if rfl (fun c1 => by omega) (fun c1 => ?_)
      iterate 9 (refine am_go rfl (by first | exact True.intro | omega | exact ⟨by decide, Nat.le_of_ble_eq_true rfl, Nat.le_of_ble_eq_true rfl⟩ | exact ⟨by decide, Nat.le_of_ble_eq_true rfl⟩) ?_)
      rw [hc]
      refine am_if rfl (fun c2 => ?_) (fun c2 => ?_)
      · iterate 4 (refine am_go rfl (by first | exact True.intro | omega | exact ⟨by decide, Nat.le_of_ble_eq_true rfl, Nat.le_of_ble_eq_true rfl⟩ | exact ⟨by decide, Nat.le_of_ble_eq_true rfl⟩) ?_)
        exact ih (k + 1) _ (by omega) (by rw [hn, hs, if_pos c2])
      · iterate 7 (refine am_go rfl (by first | exact True.intro | omega | exact ⟨by decide, Nat.le_of_ble_eq_true rfl, Nat.le_of_ble_eq_true rfl⟩ | exact ⟨by decide, Nat.le_of_ble_eq_true rfl⟩) ?_)
        exact ih (k + 1) _ (by omega) (by rw [hn, hs, if_neg c2])
  iterate 4 (refine am_go rfl (by first | exact True.intro | omega | exact ⟨by decide, Nat.le_of_ble_eq_true rfl, Nat.le_of_ble_eq_true rfl⟩ | exact ⟨by decide, Nat.le_of_ble_eq_true rfl⟩) ?_)
  exact loop (f 2 0).toNat 0 0 (by omega) rfl
set_option maxRecDepth 100000 in
set_option maxHeartbeats 4000000 in
theorem cm_derive (x : Int) (hI : zI f g) (hD : zD f g) (hS : mSS f g) : am_Ct l dC dI tc mm6_derive 6 58 [(.inr (.inr (some 38))), .inl x] (58, f, g, pr_r a b c) (fun r s => ∃ F G T, s = (58, F, G, pr_r a b c) ∧ zFrM F f G g ∧ F 38 21 = 1 ∧ F 38 0 = 0 ∧ mRes F G T ∧ r = some (.inl (if x < 0 ∨ 2 ≤ x then -12 else zDv G (F 2 0).toNat T x))) := by
  refine am_enter ok_6_derive rfl (by decide) (Nat.le_of_ble_eq_true rfl) rfl ?_
  iterate 2 (refine am_go rfl (by first | exact True.intro | omega | exact ⟨by decide, Nat.le_of_ble_eq_true rfl, Nat.le_of_ble_eq_true rfl⟩ | exact ⟨by decide, Nat.le_of_ble_eq_true rfl⟩) ?_)
  refine am_call rfl (cm_isRank x hI hD hS) (by decide) (Nat.le_of_ble_eq_true rfl) (Nat.le_of_ble_eq_true rfl) (Nat.le_of_ble_eq_true rfl) (fun rv s q => ?_)
  obtain ⟨F, G, T, rfl, rfl, q1, q2, q3, q4⟩ := q
  have hn := mHo_n q4.2.1
  by_cases hx : 0 ≤ x ∧ x < 2
  · rw [if_pos hx]
    refine am_if rfl (fun c1 => ?_) (fun c1 => by omega)
    iterate 3 (refine am_go rfl (by first | exact True.intro | omega | exact ⟨by decide, Nat.le_of_ble_eq_true rfl, Nat.le_of_ble_eq_true rfl⟩ | exact ⟨by decide, Nat.le_of_ble_eq_true rfl⟩) ?_)
    refine am_if rfl (fun c2 => ?_) (fun c2 => ?_)
    · (refine am_go rfl (by first | exact True.intro | omega | exact ⟨by decide, Nat.le_of_ble_eq_true rfl, Nat.le_of_ble_eq_true rfl⟩ | exact ⟨by decide, Nat.le_of_ble_eq_true rfl⟩) ?_)
      refine am_iret rfl rfl rfl ⟨F, G, T, rfl, q1, q2, q3, q4, ?_⟩
      rw [if_neg (by omega)]
      have : T[x.toNat]? = none := List.getElem?_eq_none (by omega)
      simp only [zDv, this]
    · obtain ⟨e, e1, e2⟩ := mHo_at q4.2.1 (x := x) (by omega)
      iterate 2 (refine am_go rfl (by first | exact True.intro | omega | exact ⟨by decide, Nat.le_of_ble_eq_true rfl, Nat.le_of_ble_eq_true rfl⟩ | exact ⟨by decide, Nat.le_of_ble_eq_true rfl⟩) ?_)
      (refine am_callv rfl (cm_there x (by omega) (q1.d.I hI) (q1.d.D hD) e2) (by decide) (Nat.le_of_ble_eq_true rfl) (Nat.le_of_ble_eq_true rfl) ?_)
      (refine am_go rfl (by first | exact True.intro | omega | exact ⟨by decide, Nat.le_of_ble_eq_true rfl, Nat.le_of_ble_eq_true rfl⟩ | exact ⟨by decide, Nat.le_of_ble_eq_true rfl⟩) ?_)
      refine am_iret rfl rfl rfl ⟨F, G, T, rfl, q1, q2, q3, q4, ?_⟩
      rw [if_neg (by omega)]
      simp only [zDv, e1]
  · rw [if_neg hx]
    refine am_if rfl (fun c1 => by omega) (fun c1 => ?_)
    (refine am_go rfl (by first | exact True.intro | omega | exact ⟨by decide, Nat.le_of_ble_eq_true rfl, Nat.le_of_ble_eq_true rfl⟩ | exact ⟨by decide, Nat.le_of_ble_eq_true rfl⟩) ?_)
    refine am_iret rfl rfl rfl ⟨F, G, T, rfl, q1, q2, q3, q4, by rw [if_pos (by omega)]⟩
set_option maxRecDepth 100000 in
set_option maxHeartbeats 4000000 in
theorem cm_sum (x : Int) (hI : zI f g) (hD : zD f g) (hS : mSS f g) : am_Ct l dC dI tc mm6_sum 6 58 [(.inr (.inr (some 38))), .inl x] (58, f, g, pr_r a b c) (fun r s => ∃ F G T, s = (58, F, G, pr_r a b c) ∧ zFrM F f G g ∧ F 38 21 = 1 ∧ F 38 0 = 0 ∧ mRes F G T ∧ r = some (.inr (.inl (if x < 0 ∨ 2 ≤ x then -12 else zSv T x)))) := by
  refine am_enter ok_6_sum rfl (by decide) (Nat.le_of_ble_eq_true rfl) rfl ?_
  iterate 2 (refine am_go rfl (by first | exact True.intro | omega | exact ⟨by decide, Nat.le_of_ble_eq_true rfl, Nat.le_of_ble_eq_true rfl⟩ | exact ⟨by decide, Nat.le_of_ble_eq_true rfl⟩) ?_)
  refine am_call rfl (cm_isRank x hI hD hS) (by decide) (Nat.le_of_ble_eq_true rfl) (Nat.le_of_ble_eq_true rfl) (Nat.le_of_ble_eq_true rfl) (fun rv s q => ?_)
  obtain ⟨F, G, T, rfl, rfl, q1, q2, q3, q4⟩ := q
  have hn := mHo_n q4.2.1
  by_cases hx : 0 ≤ x ∧ x < 2
  · rw [if_pos hx]
    refine am_if rfl (fun c1 => ?_) (fun c1 => by omega)
    iterate 3 (refine am_go rfl (by first | exact True.intro | omega | exact ⟨by decide, Nat.le_of_ble_eq_true rfl, Nat.le_of_ble_eq_true rfl⟩ | exact ⟨by decide, Nat.le_of_ble_eq_true rfl⟩) ?_)
    refine am_if rfl (fun c2 => ?_) (fun c2 => ?_)
    · (refine am_go rfl (by first | exact True.intro | omega | exact ⟨by decide, Nat.le_of_ble_eq_true rfl, Nat.le_of_ble_eq_true rfl⟩ | exact ⟨by decide, Nat.le_of_ble_eq_true rfl⟩) ?_)
      refine am_lret rfl rfl rfl ⟨F, G, T, rfl, q1, q2, q3, q4, ?_⟩
      rw [if_neg (by omega)]
      have : T[x.toNat]? = none := List.getElem?_eq_none (by omega)
      simp only [zSv, this]
    · obtain ⟨e, e1, e2⟩ := mHo_at q4.2.1 (x := x) (by omega)
      have es := e2.1
      iterate 6 (refine am_go rfl (by first | exact True.intro | omega | exact ⟨by decide, Nat.le_of_ble_eq_true rfl, Nat.le_of_ble_eq_true rfl⟩ | exact ⟨by decide, Nat.le_of_ble_eq_true rfl⟩) ?_)
      refine am_lret rfl rfl rfl ⟨F, G, T, rfl, q1, q2, q3, q4, ?_⟩
      rw [if_neg (by omega), es]
      simp only [zSv, e1]
  · rw [if_neg hx]
    refine am_if rfl (fun c1 => by omega) (fun c1 => ?_)
    (refine am_go rfl (by first | exact True.intro | omega | exact ⟨by decide, Nat.le_of_ble_eq_true rfl, Nat.le_of_ble_eq_true rfl⟩ | exact ⟨by decide, Nat.le_of_ble_eq_true rfl⟩) ?_)
    refine am_lret rfl rfl rfl ⟨F, G, T, rfl, q1, q2, q3, q4, by rw [if_pos (by omega)]⟩
/-- the reference's rows hold the path, its end too -/
def zCh1 (g0 g : Nat → Int → Int) (cs : Nat → Int) (k : Nat) : Prop := (∀ j : Nat, j < k → g 54 j = cs j) ∧ ∀ j : Nat, j ≤ k → g 55 j = (zPa g0 cs j).1 ∧ g 56 j = (zPa g0 cs j).2.1
def zFrG (G g : Nat → Int → Int) : Prop := ∀ x j, x < 54 ∨ 56 < x → G x j = g x j
theorem zFrG.d {G g : Nat → Int → Int} (h : zFrG G g) (f : Nat → Nat → Int) : zFrD f f G g := ⟨fun _ _ _ => rfl, fun c j hc => h c j (by unfold zDg at hc; omega)⟩
set_option maxRecDepth 100000 in
set_option maxHeartbeats 4000000 in
theorem cm_again (x : Int) {e : Int × List Int} (hx : x = 0 ∨ x = 1) (hI : zI f g) (hD : zD f g) (hR : mRd g (f 2 0).toNat x e) (hV : zVd f g (f 2 0).toNat e) (h0 : g 55 0 = 0 ∧ g 56 0 = 0) : am_Ct l dC dI tc mm6_again 1 58 [(.inr (.inr (some 38))), .inl x] (58, f, g, pr_r a b c) (fun r s => r = none ∧ ∃ G, s = (58, f, G, pr_r a b c) ∧ zFrG G g ∧ zCh1 g G (zCs e) (f 2 0).toNat) := by
  have i1 := hI.1
  have i3 := hI.2.2.1
  have e5 := hD.pn
  have hxr : 0 ≤ x ∧ x ≤ 1 := by omega
  clear hx
  refine am_enter ok_6_again rfl (by decide) (Nat.le_of_ble_eq_true rfl) rfl ?_
  have loop : ∀ (m k : Nat) (o3 : Option am_V) (G : Nat → Int → Int), k + m = (f 2 0).toNat → zFrG G g → zCh1 g G (zCs e) k → am_wp l dC dI tc mm6_again 1 58 58 (fun r s => r = none ∧ ∃ G, s = (58, f, G, pr_r a b c) ∧ zFrG G g ∧ zCh1 g G (zCs e) (f 2 0).toNat) 2 [some (.inr (.inr (some 38))), some (.inl x), some (.inl (k : Int)), o3] [] (58, f, G, pr_r a b c) := by
    intro m
    induction m with
    | zero =>
      intro k o3 G hk h1 h2
      iterate 3 (refine am_go rfl (by first | exact True.intro | omega | exact ⟨by decide, Nat.le_of_ble_eq_true rfl, Nat.le_of_ble_eq_true rfl⟩ | exact ⟨by decide, Nat.le_of_ble_eq_true rfl⟩) ?_)
      refine am_if rfl (fun c1 => ?_) (fun c1 => by omega)
      obtain rfl : k = (f 2 0).toNat := by omega
      exact am_vret (x := 0) rfl rfl rfl ⟨rfl, G, rfl, h1, h2⟩
    | succ m ih =>
      intro k o3 G hk h1 h2
      have hc := hR.2 k (by omega)
      obtain ⟨hv, hg⟩ := hV.2.1 k (by omega)
      obtain ⟨v1, v2, v3⟩ := zVl_can.mp hv
      have v21 := v2.1
      have v22 := v2.2
      have hz := zZz_r hI hv
      have hp := zPl_r hI (zPa g (zCs e) k).1
      have hd1 : zFrG (am_u3 G 54 (k : Int) (zCs e k)) g := fun c j hc => by rw [am_u3_c (by omega)]; exact h1 c j hc
      have q54 : am_u3 G 54 (k : Int) (zCs e k) 54 k = zCs e k := am_u3_s
      have q55 : am_u3 G 54 (k : Int) (zCs e k) 55 k = (zPa g (zCs e) k).1 := by rw [am_u3_c (by decide)]; exact (h2.2 k (by omega)).1
      have q56 : am_u3 G 54 (k : Int) (zCs e k) 56 k = (zPa g (zCs e) k).2.1 := by rw [am_u3_c (by decide)]; exact (h2.2 k (by omega)).2
      iterate 3 (refine am_go rfl (by first | exact True.intro | omega | exact ⟨by decide, Nat.le_of_ble_eq_true rfl, Nat.le_of_ble_eq_true rfl⟩ | exact ⟨by decide, Nat.le_of_ble_eq_true rfl⟩) ?_)
      refine am_if rfl (fun c1 => by omega) (fun c1 => ?_)
      iterate 11 (refine am_go rfl (by first | exact True.intro | omega | exact ⟨by decide, Nat.le_of_ble_eq_true rfl, Nat.le_of_ble_eq_true rfl⟩ | exact ⟨by decide, Nat.le_of_ble_eq_true rfl⟩) ?_)
      rw [h1 52 _ (by decide), hc]
      iterate 3 (refine am_go rfl (by first | exact True.intro | omega | exact ⟨by decide, Nat.le_of_ble_eq_true rfl, Nat.le_of_ble_eq_true rfl⟩ | exact ⟨by decide, Nat.le_of_ble_eq_true rfl⟩) ?_)
      refine am_call rfl (cm_goes (k : Int) (zZz g (zCs e) k) ((hd1.d f).I hI) ((hd1.d f).D hD) (by omega) (by rw [q55]; omega) (by rw [q56]; omega) (by rw [q54, q56]; rfl) (by rw [q55]; exact hz.2.2)) (by decide) (Nat.le_of_ble_eq_true rfl) (Nat.le_of_ble_eq_true rfl) (Nat.le_of_ble_eq_true rfl) (fun rv s q => ?_)
      rw [q55, (hd1.d f).pl, (hd1.d f).2 5 _ (by unfold zDg; omega)] at q
      have go : ∀ (rv : Option am_V) (G2 : Nat → Int → Int), rv = some (.inl 1) → G2 = am_u3 (am_u3 (am_u3 G 54 (k : Int) (zCs e k)) 55 ((k : Int) + 1) (zPa g (zCs e) (k + 1)).1) 56 ((k : Int) + 1) (zPa g (zCs e) (k + 1)).2.1 → am_wp l dC dI tc mm6_again 1 58 58 (fun r s => r = none ∧ ∃ G, s = (58, f, G, pr_r a b c) ∧ zFrG G g ∧ zCh1 g G (zCs e) (f 2 0).toNat) 21 [some (.inr (.inr (some 38))), some (.inl x), some (.inl (k : Int)), o3] [.inl 1] (58, f, G2, pr_r a b c) := by
        intro rv G2 hrv hG2
        iterate 3 (refine am_go rfl (by first | exact True.intro | omega | exact ⟨by decide, Nat.le_of_ble_eq_true rfl, Nat.le_of_ble_eq_true rfl⟩ | exact ⟨by decide, Nat.le_of_ble_eq_true rfl⟩) ?_)
        refine ih (k + 1) _ G2 (by omega) (fun c j hc => by rw [hG2, am_u3_c (by omega), am_u3_c (by omega)]; exact hd1 c j hc) ⟨fun j hj => ?_, fun j hj => ?_⟩
        · rw [hG2, am_u3_c (by decide), am_u3_c (by decide)]
          by_cases c : j = k
          · rw [c]
            exact q54
          · rw [am_u3_j (by omega)]
            exact h2.1 j (by omega)
        · by_cases c : j = k + 1
          · subst c
            rw [show (((k + 1 : Nat)) : Int) = (k : Int) + 1 by omega]
            exact ⟨by rw [hG2, am_u3_c (by decide), am_u3_s], by rw [hG2, am_u3_s]⟩
          · have a55 : G2 55 j = G 55 j := by rw [hG2, am_u3_c (by decide), am_u3_j (by omega), am_u3_c (by decide)]
            have a56 : G2 56 j = G 56 j := by rw [hG2, am_u3_j (by omega), am_u3_c (by decide), am_u3_c (by decide)]
            rw [a55, a56]
            exact h2.2 j (by omega)
      have hps := zPa_s g (zCs e) k
      unfold zGo at hg
      rcases q with ⟨rfl, q1, q2, rfl⟩ | ⟨rfl, q1, rfl⟩ | ⟨rfl, q1, q2, rfl⟩
      · omega
      · rcases hps with ⟨w1, w2, w3⟩ | ⟨w1, w2, w3⟩
        · exact go _ _ rfl (by rw [w2, w3])
        · omega
      · rcases hps with ⟨w1, w2, w3⟩ | ⟨w1, w2, w3⟩
        · omega
        · exact go _ _ rfl (by rw [w2, w3])
  iterate 2 (refine am_go rfl (by first | exact True.intro | omega | exact ⟨by decide, Nat.le_of_ble_eq_true rfl, Nat.le_of_ble_eq_true rfl⟩ | exact ⟨by decide, Nat.le_of_ble_eq_true rfl⟩) ?_)
  refine loop (f 2 0).toNat 0 none g (by omega) (fun _ _ _ => rfl) ⟨fun j hj => by omega, fun j hj => ?_⟩
  have hj0 : j = 0 := Nat.le_zero.mp hj
  rw [hj0]
  exact h0
end Ask
end
section
/-! the reference's part -/
def zFact (g : Nat → Int → Int) (cs : Nat → Int) (k : Nat) (w : Int) : Int := if w = 0 then g 3 k else if w = 1 then (zPa g cs k).1 else if w = 2 then (zPa g cs k).2.1 else if w = 3 then g 16 (zAlt (zPa g cs k).1 (zPa g cs k).2.1 (cs k)) else cs k
section Prt
variable {l : Launch} {dC : Nat → ClassId} {dI : Nat → Nat → Nat} {tc : Nat → ClassId} {f : Nat → Nat → Int} {g : Nat → Int → Int} {a b c : Nat}
variable {cs : Nat → Int}
set_option maxRecDepth 100000 in
set_option maxHeartbeats 4000000 in
theorem wp_part31 {Q : Option am_V → am_H → Prop} (x y z : Int) (hI : zI f g) (hD : zD f g) (hC : zCh1 g g cs (f 2 0).toNat) (hV : ∀ j : Nat, j < (f 2 0).toNat → zVl f g cs j) (hy : y < (zPa g cs (f 2 0).toNat).2.2) (hz : 0 ≤ z ∧ z < 5)
    (K : ∀ k : Nat, k < (f 2 0).toNat → cs k ≠ 4 → (zPa g cs k).2.2 = y → Q (some (.inl (zFact g cs k z))) (58, f, g, pr_r a b c)) : ∀ (m k : Nat) (lf : Int), k + m = (f 2 0).toNat → lf = y - (zPa g cs k).2.2 → 0 ≤ lf → am_wp l dC dI tc mm6_part 6 58 58 (Q) 31 [some (.inr (.inr (some 38))), some (.inl x), some (.inl y), some (.inl z), some (.inl lf), some (.inl (k : Int))] [] (58, f, g, pr_r a b c) := by
  have i1 := hI.1
  have i3 := hI.2.2.1
  have e5 := hD.pn
  intro m
  induction m with
  | zero =>
    intro k lf hk hl h0
    rw [show k = (f 2 0).toNat by omega] at hl
    omega
  | succ m ih =>
    intro k lf hk hl h0
    have hc := hC.1 k (by omega)
    have hcy := hC.2 k (by omega)
    have hy1 := hcy.1
    have hz1 := hcy.2
    have hs := zPa_c g cs k
    have hpn := zPa_n g cs k
    have hpN := zPa_n g cs (f 2 0).toNat
    have hkd := hD.kd k (by omega) (by omega)
    have hv := hV k (by omega)
    iterate 5 (refine am_go rfl (by first | exact True.intro | omega | exact ⟨by decide, Nat.le_of_ble_eq_true rfl, Nat.le_of_ble_eq_true rfl⟩ | exact ⟨by decide, Nat.le_of_ble_eq_true rfl⟩) ?_)
    rw [hc]
    refine am_if rfl (fun c1 => ?_) (fun c1 => ?_)
    · iterate 5 (refine am_go rfl (by first | exact True.intro | omega | exact ⟨by decide, Nat.le_of_ble_eq_true rfl, Nat.le_of_ble_eq_true rfl⟩ | exact ⟨by decide, Nat.le_of_ble_eq_true rfl⟩) ?_)
      rw [hc]
      refine am_if rfl (fun c2 => absurd c1 c2) (fun c2 => ?_)
      iterate 5 (refine am_go rfl (by first | exact True.intro | omega | exact ⟨by decide, Nat.le_of_ble_eq_true rfl, Nat.le_of_ble_eq_true rfl⟩ | exact ⟨by decide, Nat.le_of_ble_eq_true rfl⟩) ?_)
      exact ih (k + 1) _ (by omega) (by rw [hs, if_pos c1]; exact hl) h0
    · (refine am_go rfl (by first | exact True.intro | omega | exact ⟨by decide, Nat.le_of_ble_eq_true rfl, Nat.le_of_ble_eq_true rfl⟩ | exact ⟨by decide, Nat.le_of_ble_eq_true rfl⟩) ?_)
      refine am_if rfl (fun c2 => ?_) (fun c2 => ?_)
      · have K1 := K k (by omega) c1 (by omega)
        have hat := zVl_at hI hD hv c1
        have hc1 := hv.1
        have hb1 := hv.2.1
        have hb2 := hv.2.2.1
        (refine am_go rfl (by first | exact True.intro | omega | exact ⟨by decide, Nat.le_of_ble_eq_true rfl, Nat.le_of_ble_eq_true rfl⟩ | exact ⟨by decide, Nat.le_of_ble_eq_true rfl⟩) ?_)
        refine am_if rfl (fun c3 => ?_) (fun c3 => ?_)
        · iterate 2 (refine am_go rfl (by first | exact True.intro | omega | exact ⟨by decide, Nat.le_of_ble_eq_true rfl, Nat.le_of_ble_eq_true rfl⟩ | exact ⟨by decide, Nat.le_of_ble_eq_true rfl⟩) ?_)
          refine am_if rfl (fun c4 => ?_) (fun c4 => ?_)
          · iterate 2 (refine am_go rfl (by first | exact True.intro | omega | exact ⟨by decide, Nat.le_of_ble_eq_true rfl, Nat.le_of_ble_eq_true rfl⟩ | exact ⟨by decide, Nat.le_of_ble_eq_true rfl⟩) ?_)
            refine am_if rfl (fun c5 => ?_) (fun c5 => ?_)
            · iterate 2 (refine am_go rfl (by first | exact True.intro | omega | exact ⟨by decide, Nat.le_of_ble_eq_true rfl, Nat.le_of_ble_eq_true rfl⟩ | exact ⟨by decide, Nat.le_of_ble_eq_true rfl⟩) ?_)
              refine am_if rfl (fun c6 => ?_) (fun c6 => ?_)
              · rw [show zFact g cs k z = cs k by unfold zFact; rw [if_neg c3, if_neg c4, if_neg c5, if_neg c6]] at K1
                iterate 4 (refine am_go rfl (by first | exact True.intro | omega | exact ⟨by decide, Nat.le_of_ble_eq_true rfl, Nat.le_of_ble_eq_true rfl⟩ | exact ⟨by decide, Nat.le_of_ble_eq_true rfl⟩) ?_)
                rw [hc]
                exact am_iret rfl rfl rfl K1
              · rw [show zFact g cs k z = g 16 (zAlt (zPa g cs k).1 (zPa g cs k).2.1 (cs k)) by unfold zFact; rw [if_neg c3, if_neg c4, if_neg c5, if_pos (by omega)]] at K1
                iterate 8 (refine am_go rfl (by first | exact True.intro | omega | exact ⟨by decide, Nat.le_of_ble_eq_true rfl, Nat.le_of_ble_eq_true rfl⟩ | exact ⟨by decide, Nat.le_of_ble_eq_true rfl⟩) ?_)
                rw [hc]
                (refine am_callv rfl (cm_alternative k (cs k) (by omega) (by omega) (by omega) (by omega)) (by decide) (Nat.le_of_ble_eq_true rfl) (Nat.le_of_ble_eq_true rfl) ?_)
                rw [hy1, hz1]
                (refine am_go rfl (by first | exact True.intro | omega | exact ⟨by decide, Nat.le_of_ble_eq_true rfl, Nat.le_of_ble_eq_true rfl⟩ | exact ⟨by decide, Nat.le_of_ble_eq_true rfl⟩) ?_)
                rw [hat.2.2.2.1.1]
                (refine am_go rfl (by first | exact True.intro | omega | exact ⟨by decide, Nat.le_of_ble_eq_true rfl, Nat.le_of_ble_eq_true rfl⟩ | exact ⟨by decide, Nat.le_of_ble_eq_true rfl⟩) ?_)
                exact am_iret rfl rfl rfl K1
            · rw [show zFact g cs k z = (zPa g cs k).2.1 by unfold zFact; rw [if_neg c3, if_neg c4, if_pos (by omega)]] at K1
              iterate 4 (refine am_go rfl (by first | exact True.intro | omega | exact ⟨by decide, Nat.le_of_ble_eq_true rfl, Nat.le_of_ble_eq_true rfl⟩ | exact ⟨by decide, Nat.le_of_ble_eq_true rfl⟩) ?_)
              rw [hz1]
              (refine am_go rfl (by first | exact True.intro | omega | exact ⟨by decide, Nat.le_of_ble_eq_true rfl, Nat.le_of_ble_eq_true rfl⟩ | exact ⟨by decide, Nat.le_of_ble_eq_true rfl⟩) ?_)
              exact am_iret rfl rfl rfl K1
          · rw [show zFact g cs k z = (zPa g cs k).1 by unfold zFact; rw [if_neg c3, if_pos (by omega)]] at K1
            iterate 4 (refine am_go rfl (by first | exact True.intro | omega | exact ⟨by decide, Nat.le_of_ble_eq_true rfl, Nat.le_of_ble_eq_true rfl⟩ | exact ⟨by decide, Nat.le_of_ble_eq_true rfl⟩) ?_)
            rw [hy1]
            (refine am_go rfl (by first | exact True.intro | omega | exact ⟨by decide, Nat.le_of_ble_eq_true rfl, Nat.le_of_ble_eq_true rfl⟩ | exact ⟨by decide, Nat.le_of_ble_eq_true rfl⟩) ?_)
            exact am_iret rfl rfl rfl K1
        · rw [show zFact g cs k z = g 3 k by unfold zFact; rw [if_pos (by omega)]] at K1
          iterate 4 (refine am_go rfl (by first | exact True.intro | omega | exact ⟨by decide, Nat.le_of_ble_eq_true rfl, Nat.le_of_ble_eq_true rfl⟩ | exact ⟨by decide, Nat.le_of_ble_eq_true rfl⟩) ?_)
          rw [hkd]
          (refine am_go rfl (by first | exact True.intro | omega | exact ⟨by decide, Nat.le_of_ble_eq_true rfl, Nat.le_of_ble_eq_true rfl⟩ | exact ⟨by decide, Nat.le_of_ble_eq_true rfl⟩) ?_)
          exact am_iret rfl rfl rfl K1
      · iterate 5 (refine am_go rfl (by first | exact True.intro | omega | exact ⟨by decide, Nat.le_of_ble_eq_true rfl, Nat.le_of_ble_eq_true rfl⟩ | exact ⟨by decide, Nat.le_of_ble_eq_true rfl⟩) ?_)
        rw [hc]
        refine am_if rfl (fun c3 => ?_) (fun c3 => absurd c3 (fun u => u c1))
        iterate 6 (refine am_go rfl (by first | exact True.intro | omega | exact ⟨by decide, Nat.le_of_ble_eq_true rfl, Nat.le_of_ble_eq_true rfl⟩ | exact ⟨by decide, Nat.le_of_ble_eq_true rfl⟩) ?_)
        exact ih (k + 1) _ (by omega) (by rw [hs, if_neg c1]; omega) (by omega)
set_option maxRecDepth 100000 in
set_option maxHeartbeats 4000000 in
theorem cm_part (x y z : Int) (hI : zI f g) (hD : zD f g) (hS : mSS f g) : am_Ct l dC dI tc mm6_part 6 58 [(.inr (.inr (some 38))), .inl x, .inl y, .inl z] (58, f, g, pr_r a b c) (fun r s => ∃ F G T, s = (58, F, G, pr_r a b c) ∧ zFrM F f G g ∧ F 38 21 = 1 ∧ F 38 0 = 0 ∧ mRes F G T ∧ ((((x < 0 ∨ 2 ≤ x) ∨ z < 0 ∨ 5 ≤ z) ∧ r = some (.inl (-12))) ∨ (¬ ((x < 0 ∨ 2 ≤ x) ∨ z < 0 ∨ 5 ≤ z) ∧ ((T[x.toNat]? = none ∧ r = some (.inl (-1))) ∨ ∃ e, T[x.toNat]? = some e ∧ ((¬ (0 ≤ y ∧ y < (zPa G (zCs e) (F 2 0).toNat).2.2) ∧ r = some (.inl (-1))) ∨ ((0 ≤ y ∧ y < (zPa G (zCs e) (F 2 0).toNat).2.2) ∧ ∃ k : Nat, k < (F 2 0).toNat ∧ zCs e k ≠ 4 ∧ (zPa G (zCs e) k).2.2 = y ∧ r = some (.inl (zFact G (zCs e) k z)))))))) := by
  refine am_enter ok_6_part rfl (by decide) (Nat.le_of_ble_eq_true rfl) rfl ?_
  iterate 2 (refine am_go rfl (by first | exact True.intro | omega | exact ⟨by decide, Nat.le_of_ble_eq_true rfl, Nat.le_of_ble_eq_true rfl⟩ | exact ⟨by decide, Nat.le_of_ble_eq_true rfl⟩) ?_)
  refine am_call rfl (cm_isRank x hI hD hS) (by decide) (Nat.le_of_ble_eq_true rfl) (Nat.le_of_ble_eq_true rfl) (Nat.le_of_ble_eq_true rfl) (fun rv s q => ?_)
  obtain ⟨F, G, T, rfl, rfl, q1, q2, q3, q4⟩ := q
  have hn := mHo_n q4.2.1
  by_cases hx : 0 ≤ x ∧ x < 2
  · rw [if_pos hx]
    refine am_if rfl (fun c1 => by omega) (fun c1 => ?_)
    (refine am_go rfl (by first | exact True.intro | omega | exact ⟨by decide, Nat.le_of_ble_eq_true rfl, Nat.le_of_ble_eq_true rfl⟩ | exact ⟨by decide, Nat.le_of_ble_eq_true rfl⟩) ?_)
    refine am_if rfl (fun c2 => ?_) (fun c2 => ?_)
    · (refine am_go rfl (by first | exact True.intro | omega | exact ⟨by decide, Nat.le_of_ble_eq_true rfl, Nat.le_of_ble_eq_true rfl⟩ | exact ⟨by decide, Nat.le_of_ble_eq_true rfl⟩) ?_)
      exact am_iret rfl rfl rfl ⟨F, G, T, rfl, q1, q2, q3, q4, Or.inl ⟨by omega, rfl⟩⟩
    · iterate 2 (refine am_go rfl (by first | exact True.intro | omega | exact ⟨by decide, Nat.le_of_ble_eq_true rfl, Nat.le_of_ble_eq_true rfl⟩ | exact ⟨by decide, Nat.le_of_ble_eq_true rfl⟩) ?_)
      refine am_if rfl (fun c3 => ?_) (fun c3 => ?_)
      · have hok : ¬ ((x < 0 ∨ 2 ≤ x) ∨ z < 0 ∨ 5 ≤ z) := by omega
        iterate 3 (refine am_go rfl (by first | exact True.intro | omega | exact ⟨by decide, Nat.le_of_ble_eq_true rfl, Nat.le_of_ble_eq_true rfl⟩ | exact ⟨by decide, Nat.le_of_ble_eq_true rfl⟩) ?_)
        refine am_if rfl (fun c4 => ?_) (fun c4 => ?_)
        · (refine am_go rfl (by first | exact True.intro | omega | exact ⟨by decide, Nat.le_of_ble_eq_true rfl, Nat.le_of_ble_eq_true rfl⟩ | exact ⟨by decide, Nat.le_of_ble_eq_true rfl⟩) ?_)
          exact am_iret rfl rfl rfl ⟨F, G, T, rfl, q1, q2, q3, q4, Or.inr ⟨hok, Or.inl ⟨List.getElem?_eq_none (by omega), rfl⟩⟩⟩
        · obtain ⟨e, e1, e2⟩ := mHo_at q4.2.1 (x := x) (by omega)
          have hI1 := q1.d.I hI
          have hD1 := q1.d.D hD
          have hvd := mRes_vd hI1 q4 e (List.mem_of_getElem? e1)
          (refine am_go rfl (by first | exact True.intro | omega | exact ⟨by decide, Nat.le_of_ble_eq_true rfl, Nat.le_of_ble_eq_true rfl⟩ | exact ⟨by decide, Nat.le_of_ble_eq_true rfl⟩) ?_)
          refine am_if rfl (fun c5 => ?_) (fun c5 => ?_)
          · (refine am_go rfl (by first | exact True.intro | omega | exact ⟨by decide, Nat.le_of_ble_eq_true rfl, Nat.le_of_ble_eq_true rfl⟩ | exact ⟨by decide, Nat.le_of_ble_eq_true rfl⟩) ?_)
            exact am_iret rfl rfl rfl ⟨F, G, T, rfl, q1, q2, q3, q4, Or.inr ⟨hok, Or.inr ⟨e, e1, Or.inl ⟨by omega, rfl⟩⟩⟩⟩
          · iterate 3 (refine am_go rfl (by first | exact True.intro | omega | exact ⟨by decide, Nat.le_of_ble_eq_true rfl, Nat.le_of_ble_eq_true rfl⟩ | exact ⟨by decide, Nat.le_of_ble_eq_true rfl⟩) ?_)
            (refine am_callv rfl (cm_there x (by omega) hI1 hD1 e2) (by decide) (Nat.le_of_ble_eq_true rfl) (Nat.le_of_ble_eq_true rfl) ?_)
            refine am_if rfl (fun c6 => ?_) (fun c6 => ?_)
            · iterate 2 (refine am_go rfl (by first | exact True.intro | omega | exact ⟨by decide, Nat.le_of_ble_eq_true rfl, Nat.le_of_ble_eq_true rfl⟩ | exact ⟨by decide, Nat.le_of_ble_eq_true rfl⟩) ?_)
              refine am_call rfl (cm_again x (by omega) hI1 hD1 e2 hvd q4.1) (by decide) (Nat.le_of_ble_eq_true rfl) (Nat.le_of_ble_eq_true rfl) (Nat.le_of_ble_eq_true rfl) (fun rv s q => ?_)
              obtain ⟨rfl, G2, rfl, p1, p2⟩ := q
              have hd2 := p1.d F
              have hfr : zFrM F f G2 g := zFrM.tr ⟨fun _ _ _ => rfl, fun c j hc => p1 c j (by omega)⟩ q1
              have z55 : G2 55 0 = 0 := (p2.2 0 (by omega)).1
              have z56 : G2 56 0 = 0 := (p2.2 0 (by omega)).2
              have hres : mRes F G2 T := mRes_fr q4 hd2 rfl (fun j => p1 52 j (by decide)) (fun j => p1 53 j (by decide)) ⟨by rw [z55, q4.1.1], by rw [z56, q4.1.2]⟩
              iterate 4 (refine am_go rfl (by first | exact True.intro | omega | exact ⟨by decide, Nat.le_of_ble_eq_true rfl, Nat.le_of_ble_eq_true rfl⟩ | exact ⟨by decide, Nat.le_of_ble_eq_true rfl⟩) ?_)
              refine wp_part31 (cs := zCs e) x y z (hd2.I hI1) (hd2.D hD1) ⟨p2.1, fun j hj => by rw [hd2.pa]; exact p2.2 j hj⟩ (fun j hj => by rw [hd2.vl]; exact (hvd.2.1 j hj).1) (by rw [hd2.pa]; exact c6) (by omega) (fun k k1 k2 k3 => ?_) (F 2 0).toNat 0 y (by omega) (by simp [zPa]) (by omega)
              exact ⟨F, G2, T, rfl, hfr, q2, q3, hres, Or.inr ⟨hok, Or.inr ⟨e, e1, Or.inr ⟨by rw [hd2.pa]; omega, k, k1, k2, k3, rfl⟩⟩⟩⟩
            · (refine am_go rfl (by first | exact True.intro | omega | exact ⟨by decide, Nat.le_of_ble_eq_true rfl, Nat.le_of_ble_eq_true rfl⟩ | exact ⟨by decide, Nat.le_of_ble_eq_true rfl⟩) ?_)
              exact am_iret rfl rfl rfl ⟨F, G, T, rfl, q1, q2, q3, q4, Or.inr ⟨hok, Or.inr ⟨e, e1, Or.inl ⟨by omega, rfl⟩⟩⟩⟩
      · (refine am_go rfl (by first | exact True.intro | omega | exact ⟨by decide, Nat.le_of_ble_eq_true rfl, Nat.le_of_ble_eq_true rfl⟩ | exact ⟨by decide, Nat.le_of_ble_eq_true rfl⟩) ?_)
        exact am_iret rfl rfl rfl ⟨F, G, T, rfl, q1, q2, q3, q4, Or.inl ⟨by omega, rfl⟩⟩
  · rw [if_neg hx]
    refine am_if rfl (fun c1 => ?_) (fun c1 => by omega)
    (refine am_go rfl (by first | exact True.intro | omega | exact ⟨by decide, Nat.le_of_ble_eq_true rfl, Nat.le_of_ble_eq_true rfl⟩ | exact ⟨by decide, Nat.le_of_ble_eq_true rfl⟩) ?_)
    exact am_iret rfl rfl rfl ⟨F, G, T, rfl, q1, q2, q3, q4, Or.inl ⟨by omega, rfl⟩⟩
end Prt
end
