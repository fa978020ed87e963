-- ===== PART A: goes FIRST, ahead of the names: the tables' words, and 'selects' of the private methods out of them =====
/-- a private method of a class that the tables say can be made, by its rows of tables_1 -/
def lw_okq (q : MethodName × Nat) : Prop := (q.1.cls ≠ "java/lang/invoke/MethodHandle" ∧ q.1.cls ≠ "java/lang/invoke/VarHandle") ∧ Cond.instantiable q.1.cls q.2 ∈ tables_1 ∧ Cond.privateMethod q.1 ∈ tables_1 ∧ Cond.instanceMethod q.1 ∈ tables_1
theorem lw_p0 : lw_okq (⟨"DeepChannel$BitRow", "cellAt", "(I)J"⟩, 2) := ⟨⟨by decide +kernel, by decide +kernel⟩, List.mem_of_getElem? (i := 166) (by decide +kernel), List.mem_of_getElem? (i := 340) (by decide +kernel), List.mem_of_getElem? (i := 341) (by decide +kernel)⟩
theorem lw_p1 : lw_okq (⟨"java/lang/Throwable", "fillInStackTrace", "(I)Ljava/lang/Throwable;"⟩, 6) := ⟨⟨by decide +kernel, by decide +kernel⟩, List.mem_of_getElem? (i := 402) (by decide +kernel), List.mem_of_getElem? (i := 400) (by decide +kernel), List.mem_of_getElem? (i := 401) (by decide +kernel)⟩
theorem lw_p2 : lw_okq (⟨"DeepChannel$Sender", "fillHeader", "(I)V"⟩, 8) := ⟨⟨by decide +kernel, by decide +kernel⟩, List.mem_of_getElem? (i := 199) (by decide +kernel), List.mem_of_getElem? (i := 571) (by decide +kernel), List.mem_of_getElem? (i := 572) (by decide +kernel)⟩
theorem lw_p3 : lw_okq (⟨"DeepChannel$Words", "addChecksOfWord", "([II)V"⟩, 7) := ⟨⟨by decide +kernel, by decide +kernel⟩, List.mem_of_getElem? (i := 57) (by decide +kernel), List.mem_of_getElem? (i := 584) (by decide +kernel), List.mem_of_getElem? (i := 585) (by decide +kernel)⟩
theorem lw_p4 : lw_okq (⟨"DeepChannel$Nearest", "measure", "(LDeepChannel$BitRow;II)V"⟩, 5) := ⟨⟨by decide +kernel, by decide +kernel⟩, List.mem_of_getElem? (i := 236) (by decide +kernel), List.mem_of_getElem? (i := 660) (by decide +kernel), List.mem_of_getElem? (i := 661) (by decide +kernel)⟩
theorem lw_p5 : lw_okq (⟨"DeepChannel$Nearest", "stepBack", "([I[I)J"⟩, 5) := ⟨⟨by decide +kernel, by decide +kernel⟩, List.mem_of_getElem? (i := 236) (by decide +kernel), List.mem_of_getElem? (i := 668) (by decide +kernel), List.mem_of_getElem? (i := 669) (by decide +kernel)⟩
theorem lw_p6 : lw_okq (⟨"DeepChannel$Nearest", "trace", "(ILDeepChannel$BitRow;)V"⟩, 5) := ⟨⟨by decide +kernel, by decide +kernel⟩, List.mem_of_getElem? (i := 236) (by decide +kernel), List.mem_of_getElem? (i := 676) (by decide +kernel), List.mem_of_getElem? (i := 677) (by decide +kernel)⟩
theorem lw_p7 : lw_okq (⟨"DeepChannel$Receiver", "setFact", "(III)V"⟩, 12) := ⟨⟨by decide +kernel, by decide +kernel⟩, List.mem_of_getElem? (i := 230) (by decide +kernel), List.mem_of_getElem? (i := 692) (by decide +kernel), List.mem_of_getElem? (i := 693) (by decide +kernel)⟩
theorem lw_p8 : lw_okq (⟨"DeepChannel$Receiver", "unmix", "(II)V"⟩, 12) := ⟨⟨by decide +kernel, by decide +kernel⟩, List.mem_of_getElem? (i := 230) (by decide +kernel), List.mem_of_getElem? (i := 705) (by decide +kernel), List.mem_of_getElem? (i := 706) (by decide +kernel)⟩
theorem lw_p9 : lw_okq (⟨"DeepChannel$Receiver", "putWordsRight", "(II)V"⟩, 12) := ⟨⟨by decide +kernel, by decide +kernel⟩, List.mem_of_getElem? (i := 230) (by decide +kernel), List.mem_of_getElem? (i := 710) (by decide +kernel), List.mem_of_getElem? (i := 711) (by decide +kernel)⟩
theorem lw_p10 : lw_okq (⟨"DeepChannel$Words", "isCodeword", "()Z"⟩, 7) := ⟨⟨by decide +kernel, by decide +kernel⟩, List.mem_of_getElem? (i := 57) (by decide +kernel), List.mem_of_getElem? (i := 718) (by decide +kernel), List.mem_of_getElem? (i := 719) (by decide +kernel)⟩
theorem lw_p11 : lw_okq (⟨"DeepChannel$Locator", "missAt", "([III)I"⟩, 6) := ⟨⟨by decide +kernel, by decide +kernel⟩, List.mem_of_getElem? (i := 88) (by decide +kernel), List.mem_of_getElem? (i := 727) (by decide +kernel), List.mem_of_getElem? (i := 728) (by decide +kernel)⟩
theorem lw_p12 : lw_okq (⟨"DeepChannel$Locator", "addEarlier", "(II)V"⟩, 6) := ⟨⟨by decide +kernel, by decide +kernel⟩, List.mem_of_getElem? (i := 88) (by decide +kernel), List.mem_of_getElem? (i := 739) (by decide +kernel), List.mem_of_getElem? (i := 740) (by decide +kernel)⟩
theorem lw_p13 : lw_okq (⟨"DeepChannel$Locator", "valueAt", "([III)I"⟩, 6) := ⟨⟨by decide +kernel, by decide +kernel⟩, List.mem_of_getElem? (i := 88) (by decide +kernel), List.mem_of_getElem? (i := 747) (by decide +kernel), List.mem_of_getElem? (i := 748) (by decide +kernel)⟩
theorem lw_p14 : lw_okq (⟨"DeepChannel$Receiver", "judgeFrame", "(II)V"⟩, 12) := ⟨⟨by decide +kernel, by decide +kernel⟩, List.mem_of_getElem? (i := 230) (by decide +kernel), List.mem_of_getElem? (i := 764) (by decide +kernel), List.mem_of_getElem? (i := 765) (by decide +kernel)⟩
theorem lw_p15 : lw_okq (⟨"DeepChannel$Receiver", "readHeader", "(II)V"⟩, 12) := ⟨⟨by decide +kernel, by decide +kernel⟩, List.mem_of_getElem? (i := 230) (by decide +kernel), List.mem_of_getElem? (i := 770) (by decide +kernel), List.mem_of_getElem? (i := 771) (by decide +kernel)⟩
def lw_privs_1 : List (MethodName × Nat) := [(⟨"DeepChannel$BitRow", "cellAt", "(I)J"⟩, 2), (⟨"java/lang/Throwable", "fillInStackTrace", "(I)Ljava/lang/Throwable;"⟩, 6), (⟨"DeepChannel$Sender", "fillHeader", "(I)V"⟩, 8), (⟨"DeepChannel$Words", "addChecksOfWord", "([II)V"⟩, 7), (⟨"DeepChannel$Nearest", "measure", "(LDeepChannel$BitRow;II)V"⟩, 5), (⟨"DeepChannel$Nearest", "stepBack", "([I[I)J"⟩, 5), (⟨"DeepChannel$Nearest", "trace", "(ILDeepChannel$BitRow;)V"⟩, 5), (⟨"DeepChannel$Receiver", "setFact", "(III)V"⟩, 12), (⟨"DeepChannel$Receiver", "unmix", "(II)V"⟩, 12), (⟨"DeepChannel$Receiver", "putWordsRight", "(II)V"⟩, 12), (⟨"DeepChannel$Words", "isCodeword", "()Z"⟩, 7), (⟨"DeepChannel$Locator", "missAt", "([III)I"⟩, 6), (⟨"DeepChannel$Locator", "addEarlier", "(II)V"⟩, 6), (⟨"DeepChannel$Locator", "valueAt", "([III)I"⟩, 6), (⟨"DeepChannel$Receiver", "judgeFrame", "(II)V"⟩, 12), (⟨"DeepChannel$Receiver", "readHeader", "(II)V"⟩, 12)]
theorem lw_r1 : ∀ q ∈ lw_privs_1, lw_okq q := List.forall_mem_cons.mpr ⟨lw_p0, List.forall_mem_cons.mpr ⟨lw_p1, List.forall_mem_cons.mpr ⟨lw_p2, List.forall_mem_cons.mpr ⟨lw_p3, List.forall_mem_cons.mpr ⟨lw_p4, List.forall_mem_cons.mpr ⟨lw_p5, List.forall_mem_cons.mpr ⟨lw_p6, List.forall_mem_cons.mpr ⟨lw_p7, List.forall_mem_cons.mpr ⟨lw_p8, List.forall_mem_cons.mpr ⟨lw_p9, List.forall_mem_cons.mpr ⟨lw_p10, List.forall_mem_cons.mpr ⟨lw_p11, List.forall_mem_cons.mpr ⟨lw_p12, List.forall_mem_cons.mpr ⟨lw_p13, List.forall_mem_cons.mpr ⟨lw_p14, List.forall_mem_cons.mpr ⟨lw_p15, fun _ h => absurd h List.not_mem_nil⟩⟩⟩⟩⟩⟩⟩⟩⟩⟩⟩⟩⟩⟩⟩⟩
theorem lw_p16 : lw_okq (⟨"DeepChannelModel", "forget", "()V"⟩, 40) := ⟨⟨by decide +kernel, by decide +kernel⟩, List.mem_of_getElem? (i := 829) (by decide +kernel), List.mem_of_getElem? (i := 842) (by decide +kernel), List.mem_of_getElem? (i := 843) (by decide +kernel)⟩
theorem lw_p17 : lw_okq (⟨"DeepChannelModel", "frameSize", "()I"⟩, 40) := ⟨⟨by decide +kernel, by decide +kernel⟩, List.mem_of_getElem? (i := 829) (by decide +kernel), List.mem_of_getElem? (i := 986) (by decide +kernel), List.mem_of_getElem? (i := 987) (by decide +kernel)⟩
theorem lw_p18 : lw_okq (⟨"DeepChannelModel", "wordSize", "()I"⟩, 40) := ⟨⟨by decide +kernel, by decide +kernel⟩, List.mem_of_getElem? (i := 829) (by decide +kernel), List.mem_of_getElem? (i := 990) (by decide +kernel), List.mem_of_getElem? (i := 991) (by decide +kernel)⟩
theorem lw_p19 : lw_okq (⟨"DeepChannelModel", "blockSize", "()I"⟩, 40) := ⟨⟨by decide +kernel, by decide +kernel⟩, List.mem_of_getElem? (i := 829) (by decide +kernel), List.mem_of_getElem? (i := 994) (by decide +kernel), List.mem_of_getElem? (i := 995) (by decide +kernel)⟩
theorem lw_p20 : lw_okq (⟨"DeepChannelModel", "linesOf", "(II)I"⟩, 40) := ⟨⟨by decide +kernel, by decide +kernel⟩, List.mem_of_getElem? (i := 829) (by decide +kernel), List.mem_of_getElem? (i := 1007) (by decide +kernel), List.mem_of_getElem? (i := 1008) (by decide +kernel)⟩
theorem lw_p21 : lw_okq (⟨"DeepChannelModel", "kept", "([II)I"⟩, 40) := ⟨⟨by decide +kernel, by decide +kernel⟩, List.mem_of_getElem? (i := 829) (by decide +kernel), List.mem_of_getElem? (i := 1011) (by decide +kernel), List.mem_of_getElem? (i := 1012) (by decide +kernel)⟩
theorem lw_p22 : lw_okq (⟨"DeepChannelModel", "send1", "(I)V"⟩, 40) := ⟨⟨by decide +kernel, by decide +kernel⟩, List.mem_of_getElem? (i := 829) (by decide +kernel), List.mem_of_getElem? (i := 1015) (by decide +kernel), List.mem_of_getElem? (i := 1016) (by decide +kernel)⟩
theorem lw_p23 : lw_okq (⟨"DeepChannelModel", "lay", "(II)V"⟩, 40) := ⟨⟨by decide +kernel, by decide +kernel⟩, List.mem_of_getElem? (i := 829) (by decide +kernel), List.mem_of_getElem? (i := 1026) (by decide +kernel), List.mem_of_getElem? (i := 1027) (by decide +kernel)⟩
theorem lw_p24 : lw_okq (⟨"DeepChannelModel", "frameByte", "(II)I"⟩, 40) := ⟨⟨by decide +kernel, by decide +kernel⟩, List.mem_of_getElem? (i := 829) (by decide +kernel), List.mem_of_getElem? (i := 1031) (by decide +kernel), List.mem_of_getElem? (i := 1032) (by decide +kernel)⟩
theorem lw_p25 : lw_okq (⟨"DeepChannelModel", "check", "()V"⟩, 40) := ⟨⟨by decide +kernel, by decide +kernel⟩, List.mem_of_getElem? (i := 829) (by decide +kernel), List.mem_of_getElem? (i := 1038) (by decide +kernel), List.mem_of_getElem? (i := 1039) (by decide +kernel)⟩
theorem lw_p26 : lw_okq (⟨"DeepChannelModel", "isCodeword", "()Z"⟩, 40) := ⟨⟨by decide +kernel, by decide +kernel⟩, List.mem_of_getElem? (i := 829) (by decide +kernel), List.mem_of_getElem? (i := 1042) (by decide +kernel), List.mem_of_getElem? (i := 1043) (by decide +kernel)⟩
theorem lw_p27 : lw_okq (⟨"DeepChannelModel", "ofG", "(I)I"⟩, 40) := ⟨⟨by decide +kernel, by decide +kernel⟩, List.mem_of_getElem? (i := 829) (by decide +kernel), List.mem_of_getElem? (i := 1046) (by decide +kernel), List.mem_of_getElem? (i := 1047) (by decide +kernel)⟩
theorem lw_p28 : lw_okq (⟨"DeepChannelModel", "product", "(II)I"⟩, 40) := ⟨⟨by decide +kernel, by decide +kernel⟩, List.mem_of_getElem? (i := 829) (by decide +kernel), List.mem_of_getElem? (i := 1050) (by decide +kernel), List.mem_of_getElem? (i := 1051) (by decide +kernel)⟩
theorem lw_p29 : lw_okq (⟨"DeepChannelModel", "solves", "(I)Z"⟩, 40) := ⟨⟨by decide +kernel, by decide +kernel⟩, List.mem_of_getElem? (i := 829) (by decide +kernel), List.mem_of_getElem? (i := 1054) (by decide +kernel), List.mem_of_getElem? (i := 1055) (by decide +kernel)⟩
theorem lw_p30 : lw_okq (⟨"DeepChannelModel", "inverse", "(I)I"⟩, 40) := ⟨⟨by decide +kernel, by decide +kernel⟩, List.mem_of_getElem? (i := 829) (by decide +kernel), List.mem_of_getElem? (i := 1058) (by decide +kernel), List.mem_of_getElem? (i := 1059) (by decide +kernel)⟩
theorem lw_p31 : lw_okq (⟨"DeepChannelModel", "sendByte", "(I)V"⟩, 40) := ⟨⟨by decide +kernel, by decide +kernel⟩, List.mem_of_getElem? (i := 829) (by decide +kernel), List.mem_of_getElem? (i := 1063) (by decide +kernel), List.mem_of_getElem? (i := 1064) (by decide +kernel)⟩
def lw_privs_2 : List (MethodName × Nat) := [(⟨"DeepChannelModel", "forget", "()V"⟩, 40), (⟨"DeepChannelModel", "frameSize", "()I"⟩, 40), (⟨"DeepChannelModel", "wordSize", "()I"⟩, 40), (⟨"DeepChannelModel", "blockSize", "()I"⟩, 40), (⟨"DeepChannelModel", "linesOf", "(II)I"⟩, 40), (⟨"DeepChannelModel", "kept", "([II)I"⟩, 40), (⟨"DeepChannelModel", "send1", "(I)V"⟩, 40), (⟨"DeepChannelModel", "lay", "(II)V"⟩, 40), (⟨"DeepChannelModel", "frameByte", "(II)I"⟩, 40), (⟨"DeepChannelModel", "check", "()V"⟩, 40), (⟨"DeepChannelModel", "isCodeword", "()Z"⟩, 40), (⟨"DeepChannelModel", "ofG", "(I)I"⟩, 40), (⟨"DeepChannelModel", "product", "(II)I"⟩, 40), (⟨"DeepChannelModel", "solves", "(I)Z"⟩, 40), (⟨"DeepChannelModel", "inverse", "(I)I"⟩, 40), (⟨"DeepChannelModel", "sendByte", "(I)V"⟩, 40)]
theorem lw_r2 : ∀ q ∈ lw_privs_2, lw_okq q := List.forall_mem_cons.mpr ⟨lw_p16, List.forall_mem_cons.mpr ⟨lw_p17, List.forall_mem_cons.mpr ⟨lw_p18, List.forall_mem_cons.mpr ⟨lw_p19, List.forall_mem_cons.mpr ⟨lw_p20, List.forall_mem_cons.mpr ⟨lw_p21, List.forall_mem_cons.mpr ⟨lw_p22, List.forall_mem_cons.mpr ⟨lw_p23, List.forall_mem_cons.mpr ⟨lw_p24, List.forall_mem_cons.mpr ⟨lw_p25, List.forall_mem_cons.mpr ⟨lw_p26, List.forall_mem_cons.mpr ⟨lw_p27, List.forall_mem_cons.mpr ⟨lw_p28, List.forall_mem_cons.mpr ⟨lw_p29, List.forall_mem_cons.mpr ⟨lw_p30, List.forall_mem_cons.mpr ⟨lw_p31, fun _ h => absurd h List.not_mem_nil⟩⟩⟩⟩⟩⟩⟩⟩⟩⟩⟩⟩⟩⟩⟩⟩
theorem lw_p32 : lw_okq (⟨"DeepChannelModel", "decode", "()V"⟩, 40) := ⟨⟨by decide +kernel, by decide +kernel⟩, List.mem_of_getElem? (i := 829) (by decide +kernel), List.mem_of_getElem? (i := 1091) (by decide +kernel), List.mem_of_getElem? (i := 1092) (by decide +kernel)⟩
theorem lw_p33 : lw_okq (⟨"DeepChannelModel", "with", "(III)I"⟩, 40) := ⟨⟨by decide +kernel, by decide +kernel⟩, List.mem_of_getElem? (i := 829) (by decide +kernel), List.mem_of_getElem? (i := 1095) (by decide +kernel), List.mem_of_getElem? (i := 1096) (by decide +kernel)⟩
theorem lw_p34 : lw_okq (⟨"DeepChannelModel", "cost", "(III)I"⟩, 40) := ⟨⟨by decide +kernel, by decide +kernel⟩, List.mem_of_getElem? (i := 829) (by decide +kernel), List.mem_of_getElem? (i := 1099) (by decide +kernel), List.mem_of_getElem? (i := 1100) (by decide +kernel)⟩
theorem lw_p35 : lw_okq (⟨"DeepChannelModel", "markWrong", "(I)I"⟩, 40) := ⟨⟨by decide +kernel, by decide +kernel⟩, List.mem_of_getElem? (i := 829) (by decide +kernel), List.mem_of_getElem? (i := 1103) (by decide +kernel), List.mem_of_getElem? (i := 1104) (by decide +kernel)⟩
theorem lw_p36 : lw_okq (⟨"DeepChannelModel", "take", "(I)V"⟩, 40) := ⟨⟨by decide +kernel, by decide +kernel⟩, List.mem_of_getElem? (i := 829) (by decide +kernel), List.mem_of_getElem? (i := 1107) (by decide +kernel), List.mem_of_getElem? (i := 1108) (by decide +kernel)⟩
theorem lw_p37 : lw_okq (⟨"DeepChannelModel", "mend", "(II)I"⟩, 40) := ⟨⟨by decide +kernel, by decide +kernel⟩, List.mem_of_getElem? (i := 829) (by decide +kernel), List.mem_of_getElem? (i := 1111) (by decide +kernel), List.mem_of_getElem? (i := 1112) (by decide +kernel)⟩
theorem lw_p38 : lw_okq (⟨"DeepChannelModel", "takeWord", "(II)V"⟩, 40) := ⟨⟨by decide +kernel, by decide +kernel⟩, List.mem_of_getElem? (i := 829) (by decide +kernel), List.mem_of_getElem? (i := 1115) (by decide +kernel), List.mem_of_getElem? (i := 1116) (by decide +kernel)⟩
theorem lw_p39 : lw_okq (⟨"DeepChannelModel", "mends", "(I)Z"⟩, 40) := ⟨⟨by decide +kernel, by decide +kernel⟩, List.mem_of_getElem? (i := 829) (by decide +kernel), List.mem_of_getElem? (i := 1119) (by decide +kernel), List.mem_of_getElem? (i := 1120) (by decide +kernel)⟩
theorem lw_p40 : lw_okq (⟨"DeepChannelModel", "gaps", "(I)V"⟩, 40) := ⟨⟨by decide +kernel, by decide +kernel⟩, List.mem_of_getElem? (i := 829) (by decide +kernel), List.mem_of_getElem? (i := 1123) (by decide +kernel), List.mem_of_getElem? (i := 1124) (by decide +kernel)⟩
def lw_privs_3 : List (MethodName × Nat) := [(⟨"DeepChannelModel", "decode", "()V"⟩, 40), (⟨"DeepChannelModel", "with", "(III)I"⟩, 40), (⟨"DeepChannelModel", "cost", "(III)I"⟩, 40), (⟨"DeepChannelModel", "markWrong", "(I)I"⟩, 40), (⟨"DeepChannelModel", "take", "(I)V"⟩, 40), (⟨"DeepChannelModel", "mend", "(II)I"⟩, 40), (⟨"DeepChannelModel", "takeWord", "(II)V"⟩, 40), (⟨"DeepChannelModel", "mends", "(I)Z"⟩, 40), (⟨"DeepChannelModel", "gaps", "(I)V"⟩, 40)]
theorem lw_r3 : ∀ q ∈ lw_privs_3, lw_okq q := List.forall_mem_cons.mpr ⟨lw_p32, List.forall_mem_cons.mpr ⟨lw_p33, List.forall_mem_cons.mpr ⟨lw_p34, List.forall_mem_cons.mpr ⟨lw_p35, List.forall_mem_cons.mpr ⟨lw_p36, List.forall_mem_cons.mpr ⟨lw_p37, List.forall_mem_cons.mpr ⟨lw_p38, List.forall_mem_cons.mpr ⟨lw_p39, List.forall_mem_cons.mpr ⟨lw_p40, fun _ h => absurd h List.not_mem_nil⟩⟩⟩⟩⟩⟩⟩⟩⟩
def lw_privs : List (MethodName × Nat) := lw_privs_1 ++ (lw_privs_2 ++ (lw_privs_3))
def lw_tbl : List Cond := k2_sels lw_privs ++ tables_1
theorem lw_privs_ok : ∀ q ∈ lw_privs, lw_okq q := by
  show ∀ q ∈ lw_privs_1 ++ (lw_privs_2 ++ (lw_privs_3)), lw_okq q
  exact List.forall_mem_append.mpr ⟨lw_r1, List.forall_mem_append.mpr ⟨lw_r2, lw_r3⟩⟩
-- names: the classes, their fields
def fT_BitRow : u_T := fun k => match k with
  | 0 => ("DeepChannel$BitRow", "cells", "[J", true)
  | _ => ("DeepChannel$BitRow", "length", "I", false)
def fY_BitRow : Nat → FieldType := fun k => match k with
  | 0 => .array .long
  | _ => .int
theorem fN_BitRow : ∀ a, a < 2 → ∀ b, b < 2 → a ≠ b → (fT_BitRow a).2.1 ≠ (fT_BitRow b).2.1 := by decide +kernel
theorem fK_BitRow : ∀ k, k < 2 → parseFieldDescriptor (fT_BitRow k).2.2.1 = some (fY_BitRow k) := by decide +kernel
def fT_Coder : u_T := fun k => match k with
  | 0 => ("DeepChannel$Coder", "shape", "LDeepChannel$Shape;", true)
  | 1 => ("DeepChannel$Coder", "row", "LDeepChannel$BitRow;", true)
  | 2 => ("DeepChannel$Coder", "register", "I", false)
  | _ => ("DeepChannel$Coder", "put", "I", false)
def fY_Coder : Nat → FieldType := fun k => match k with
  | 0 => .object "DeepChannel$Shape"
  | 1 => .object "DeepChannel$BitRow"
  | 2 => .int
  | _ => .int
theorem fN_Coder : ∀ a, a < 4 → ∀ b, b < 4 → a ≠ b → (fT_Coder a).2.1 ≠ (fT_Coder b).2.1 := by decide +kernel
theorem fK_Coder : ∀ k, k < 4 → parseFieldDescriptor (fT_Coder k).2.2.1 = some (fY_Coder k) := by decide +kernel
def fT_Field : u_T := fun k => match k with
  | 0 => ("DeepChannel$Field", "powers", "[I", true)
  | 1 => ("DeepChannel$Field", "logs", "[I", true)
  | 2 => ("DeepChannel$Field", "otherForms", "[I", true)
  | _ => ("DeepChannel$Field", "elements", "[I", true)
def fY_Field : Nat → FieldType := fun k => match k with
  | 0 => .array .int
  | 1 => .array .int
  | 2 => .array .int
  | _ => .array .int
theorem fN_Field : ∀ a, a < 4 → ∀ b, b < 4 → a ≠ b → (fT_Field a).2.1 ≠ (fT_Field b).2.1 := by decide +kernel
theorem fK_Field : ∀ k, k < 4 → parseFieldDescriptor (fT_Field k).2.2.1 = some (fY_Field k) := by decide +kernel
def fT_Locator : u_T := fun k => match k with
  | 0 => ("DeepChannel$Locator", "field", "LDeepChannel$Field;", true)
  | 1 => ("DeepChannel$Locator", "poly", "[I", true)
  | 2 => ("DeepChannel$Locator", "earlier", "[I", true)
  | 3 => ("DeepChannel$Locator", "spare", "[I", true)
  | 4 => ("DeepChannel$Locator", "evaluator", "[I", true)
  | _ => ("DeepChannel$Locator", "places", "[I", true)
def fY_Locator : Nat → FieldType := fun k => match k with
  | 0 => .object "DeepChannel$Field"
  | 1 => .array .int
  | 2 => .array .int
  | 3 => .array .int
  | 4 => .array .int
  | _ => .array .int
theorem fN_Locator : ∀ a, a < 6 → ∀ b, b < 6 → a ≠ b → (fT_Locator a).2.1 ≠ (fT_Locator b).2.1 := by decide +kernel
theorem fK_Locator : ∀ k, k < 6 → parseFieldDescriptor (fT_Locator k).2.2.1 = some (fY_Locator k) := by decide +kernel
def fT_Mixer : u_T := fun k => match k with
  | _ => ("DeepChannel$Mixer", "bytes", "[I", true)
def fY_Mixer : Nat → FieldType := fun k => match k with
  | _ => .array .int
theorem fN_Mixer : ∀ a, a < 1 → ∀ b, b < 1 → a ≠ b → (fT_Mixer a).2.1 ≠ (fT_Mixer b).2.1 := by decide +kernel
theorem fK_Mixer : ∀ k, k < 1 → parseFieldDescriptor (fT_Mixer k).2.2.1 = some (fY_Mixer k) := by decide +kernel
def fT_Nearest : u_T := fun k => match k with
  | 0 => ("DeepChannel$Nearest", "pairs", "[I", true)
  | 1 => ("DeepChannel$Nearest", "distances", "[I", true)
  | 2 => ("DeepChannel$Nearest", "evenRow", "[I", true)
  | 3 => ("DeepChannel$Nearest", "oddRow", "[I", true)
  | _ => ("DeepChannel$Nearest", "oneIsBetter", "[J", true)
def fY_Nearest : Nat → FieldType := fun k => match k with
  | 0 => .array .int
  | 1 => .array .int
  | 2 => .array .int
  | 3 => .array .int
  | _ => .array .long
theorem fN_Nearest : ∀ a, a < 5 → ∀ b, b < 5 → a ≠ b → (fT_Nearest a).2.1 ≠ (fT_Nearest b).2.1 := by decide +kernel
theorem fK_Nearest : ∀ k, k < 5 → parseFieldDescriptor (fT_Nearest k).2.2.1 = some (fY_Nearest k) := by decide +kernel
def fT_Receiver : u_T := fun k => match k with
  | 0 => ("DeepChannel$Receiver", "shape", "LDeepChannel$Shape;", true)
  | 1 => ("DeepChannel$Receiver", "words", "LDeepChannel$Words;", true)
  | 2 => ("DeepChannel$Receiver", "mixer", "LDeepChannel$Mixer;", true)
  | 3 => ("DeepChannel$Receiver", "nearest", "LDeepChannel$Nearest;", true)
  | 4 => ("DeepChannel$Receiver", "found", "LDeepChannel$BitRow;", true)
  | 5 => ("DeepChannel$Receiver", "bytes", "[I", true)
  | 6 => ("DeepChannel$Receiver", "facts", "[I", true)
  | 7 => ("DeepChannel$Receiver", "putRight", "[I", true)
  | 8 => ("DeepChannel$Receiver", "lastOfChannel", "[I", true)
  | 9 => ("DeepChannel$Receiver", "lastMaster", "I", false)
  | 10 => ("DeepChannel$Receiver", "differing", "I", false)
  | _ => ("DeepChannel$Receiver", "taken", "I", false)
def fY_Receiver : Nat → FieldType := fun k => match k with
  | 0 => .object "DeepChannel$Shape"
  | 1 => .object "DeepChannel$Words"
  | 2 => .object "DeepChannel$Mixer"
  | 3 => .object "DeepChannel$Nearest"
  | 4 => .object "DeepChannel$BitRow"
  | 5 => .array .int
  | 6 => .array .int
  | 7 => .array .int
  | 8 => .array .int
  | 9 => .int
  | 10 => .int
  | _ => .int
theorem fN_Receiver : ∀ a, a < 12 → ∀ b, b < 12 → a ≠ b → (fT_Receiver a).2.1 ≠ (fT_Receiver b).2.1 := by decide +kernel
theorem fK_Receiver : ∀ k, k < 12 → parseFieldDescriptor (fT_Receiver k).2.2.1 = some (fY_Receiver k) := by decide +kernel
def fT_Sender : u_T := fun k => match k with
  | 0 => ("DeepChannel$Sender", "shape", "LDeepChannel$Shape;", true)
  | 1 => ("DeepChannel$Sender", "words", "LDeepChannel$Words;", true)
  | 2 => ("DeepChannel$Sender", "mixer", "LDeepChannel$Mixer;", true)
  | 3 => ("DeepChannel$Sender", "bytes", "[I", true)
  | 4 => ("DeepChannel$Sender", "channelCounts", "[I", true)
  | 5 => ("DeepChannel$Sender", "masterCount", "I", false)
  | 6 => ("DeepChannel$Sender", "craft", "I", false)
  | _ => ("DeepChannel$Sender", "dataCount", "I", false)
def fY_Sender : Nat → FieldType := fun k => match k with
  | 0 => .object "DeepChannel$Shape"
  | 1 => .object "DeepChannel$Words"
  | 2 => .object "DeepChannel$Mixer"
  | 3 => .array .int
  | 4 => .array .int
  | 5 => .int
  | 6 => .int
  | _ => .int
theorem fN_Sender : ∀ a, a < 8 → ∀ b, b < 8 → a ≠ b → (fT_Sender a).2.1 ≠ (fT_Sender b).2.1 := by decide +kernel
theorem fK_Sender : ∀ k, k < 8 → parseFieldDescriptor (fT_Sender k).2.2.1 = some (fY_Sender k) := by decide +kernel
def fT_Shape : u_T := fun k => match k with
  | 0 => ("DeepChannel$Shape", "depth", "I", false)
  | 1 => ("DeepChannel$Shape", "wordBytes", "I", false)
  | 2 => ("DeepChannel$Shape", "e", "I", false)
  | _ => ("DeepChannel$Shape", "pattern", "I", false)
def fY_Shape : Nat → FieldType := fun k => match k with
  | 0 => .int
  | 1 => .int
  | 2 => .int
  | _ => .int
theorem fN_Shape : ∀ a, a < 4 → ∀ b, b < 4 → a ≠ b → (fT_Shape a).2.1 ≠ (fT_Shape b).2.1 := by decide +kernel
theorem fK_Shape : ∀ k, k < 4 → parseFieldDescriptor (fT_Shape k).2.2.1 = some (fY_Shape k) := by decide +kernel
def fT_Words : u_T := fun k => match k with
  | 0 => ("DeepChannel$Words", "shape", "LDeepChannel$Shape;", true)
  | 1 => ("DeepChannel$Words", "field", "LDeepChannel$Field;", true)
  | 2 => ("DeepChannel$Words", "generator", "[I", true)
  | 3 => ("DeepChannel$Words", "remainder", "[I", true)
  | 4 => ("DeepChannel$Words", "coefficients", "[I", true)
  | 5 => ("DeepChannel$Words", "syndromes", "[I", true)
  | _ => ("DeepChannel$Words", "locator", "LDeepChannel$Locator;", true)
def fY_Words : Nat → FieldType := fun k => match k with
  | 0 => .object "DeepChannel$Shape"
  | 1 => .object "DeepChannel$Field"
  | 2 => .array .int
  | 3 => .array .int
  | 4 => .array .int
  | 5 => .array .int
  | _ => .object "DeepChannel$Locator"
theorem fN_Words : ∀ a, a < 7 → ∀ b, b < 7 → a ≠ b → (fT_Words a).2.1 ≠ (fT_Words b).2.1 := by decide +kernel
theorem fK_Words : ∀ k, k < 7 → parseFieldDescriptor (fT_Words k).2.2.1 = some (fY_Words k) := by decide +kernel
def fT_DC : u_T := fun k => match k with
  | 0 => ("DeepChannel", "shape", "LDeepChannel$Shape;", true)
  | 1 => ("DeepChannel", "words", "LDeepChannel$Words;", true)
  | 2 => ("DeepChannel", "mixer", "LDeepChannel$Mixer;", true)
  | 3 => ("DeepChannel", "row", "LDeepChannel$BitRow;", true)
  | 4 => ("DeepChannel", "coder", "LDeepChannel$Coder;", true)
  | 5 => ("DeepChannel", "sender", "LDeepChannel$Sender;", true)
  | _ => ("DeepChannel", "receiver", "LDeepChannel$Receiver;", true)
def fY_DC : Nat → FieldType := fun k => match k with
  | 0 => .object "DeepChannel$Shape"
  | 1 => .object "DeepChannel$Words"
  | 2 => .object "DeepChannel$Mixer"
  | 3 => .object "DeepChannel$BitRow"
  | 4 => .object "DeepChannel$Coder"
  | 5 => .object "DeepChannel$Sender"
  | _ => .object "DeepChannel$Receiver"
theorem fN_DC : ∀ a, a < 7 → ∀ b, b < 7 → a ≠ b → (fT_DC a).2.1 ≠ (fT_DC b).2.1 := by decide +kernel
theorem fK_DC : ∀ k, k < 7 → parseFieldDescriptor (fT_DC k).2.2.1 = some (fY_DC k) := by decide +kernel
def fT_Mo : u_T := fun k => match k with
  | 0 => ("DeepChannelModel", "thrown", "I", false)
  | 1 => ("DeepChannelModel", "depth", "I", false)
  | 2 => ("DeepChannelModel", "fill", "I", false)
  | 3 => ("DeepChannelModel", "half", "I", false)
  | 4 => ("DeepChannelModel", "pattern", "I", false)
  | 5 => ("DeepChannelModel", "craft", "I", false)
  | 6 => ("DeepChannelModel", "begins", "[I", true)
  | 7 => ("DeepChannelModel", "firsts", "[I", true)
  | 8 => ("DeepChannelModel", "seconds", "[I", true)
  | 9 => ("DeepChannelModel", "powers", "[I", true)
  | 10 => ("DeepChannelModel", "logarithms", "[I", true)
  | 11 => ("DeepChannelModel", "forms", "[I", true)
  | 12 => ("DeepChannelModel", "elements", "[I", true)
  | 13 => ("DeepChannelModel", "mixer", "[I", true)
  | 14 => ("DeepChannelModel", "data", "[I", true)
  | 15 => ("DeepChannelModel", "waiting", "I", false)
  | 16 => ("DeepChannelModel", "master", "I", false)
  | 17 => ("DeepChannelModel", "counts", "[I", true)
  | 18 => ("DeepChannelModel", "line", "[I", true)
  | 19 => ("DeepChannelModel", "length", "I", false)
  | 20 => ("DeepChannelModel", "sent", "I", false)
  | 21 => ("DeepChannelModel", "state", "I", false)
  | 22 => ("DeepChannelModel", "places", "[I", true)
  | 23 => ("DeepChannelModel", "least", "[I", true)
  | 24 => ("DeepChannelModel", "row", "[I", true)
  | 25 => ("DeepChannelModel", "rowSize", "I", false)
  | 26 => ("DeepChannelModel", "differ", "I", false)
  | 27 => ("DeepChannelModel", "blocks", "I", false)
  | 28 => ("DeepChannelModel", "marks", "[I", true)
  | 29 => ("DeepChannelModel", "wrongs", "[I", true)
  | 30 => ("DeepChannelModel", "bytes", "[I", true)
  | 31 => ("DeepChannelModel", "rights", "[I", true)
  | 32 => ("DeepChannelModel", "tells", "[I", true)
  | 33 => ("DeepChannelModel", "lastMaster", "I", false)
  | 34 => ("DeepChannelModel", "lastCounts", "[I", true)
  | 35 => ("DeepChannelModel", "word", "[I", true)
  | 36 => ("DeepChannelModel", "values", "[I", true)
  | 37 => ("DeepChannelModel", "system", "[I", true)
  | 38 => ("DeepChannelModel", "solved", "[I", true)
  | _ => ("DeepChannelModel", "wrong", "[I", true)
def fY_Mo : Nat → FieldType := fun k => match k with
  | 0 => .int
  | 1 => .int
  | 2 => .int
  | 3 => .int
  | 4 => .int
  | 5 => .int
  | 6 => .array .int
  | 7 => .array .int
  | 8 => .array .int
  | 9 => .array .int
  | 10 => .array .int
  | 11 => .array .int
  | 12 => .array .int
  | 13 => .array .int
  | 14 => .array .int
  | 15 => .int
  | 16 => .int
  | 17 => .array .int
  | 18 => .array .int
  | 19 => .int
  | 20 => .int
  | 21 => .int
  | 22 => .array .int
  | 23 => .array .int
  | 24 => .array .int
  | 25 => .int
  | 26 => .int
  | 27 => .int
  | 28 => .array .int
  | 29 => .array .int
  | 30 => .array .int
  | 31 => .array .int
  | 32 => .array .int
  | 33 => .int
  | 34 => .array .int
  | 35 => .array .int
  | 36 => .array .int
  | 37 => .array .int
  | 38 => .array .int
  | _ => .array .int
theorem fN_Mo : ∀ a, a < 40 → ∀ b, b < 40 → a ≠ b → (fT_Mo a).2.1 ≠ (fT_Mo b).2.1 := by decide +kernel
theorem fK_Mo : ∀ k, k < 40 → parseFieldDescriptor (fT_Mo k).2.2.1 = some (fY_Mo k) := by decide +kernel
abbrev classes : List vw_C := [("DeepChannel$BitRow", fT_BitRow, 2), ("DeepChannel$Coder", fT_Coder, 4), ("DeepChannel$Field", fT_Field, 4), ("DeepChannel$Locator", fT_Locator, 6), ("DeepChannel$Mixer", fT_Mixer, 1), ("DeepChannel$Nearest", fT_Nearest, 5), ("DeepChannel$Receiver", fT_Receiver, 12), ("DeepChannel$Sender", fT_Sender, 8), ("DeepChannel$Shape", fT_Shape, 4), ("DeepChannel$Words", fT_Words, 7), ("DeepChannel", fT_DC, 7), ("DeepChannelModel", fT_Mo, 40)]
