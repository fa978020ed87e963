section
-- ===== PART A: goes FIRST, ahead of the names: the tables' words, and 'selects' of the private methods out of them =====
/-- a private method of a class that the tables say can be made, by its rows of tables_1 -/
def lw_okq (q : MethodName × Nat) : Prop := (q.1.cls ≠ "java/lang/invoke/MethodHandle" ∧ q.1.cls ≠ "java/lang/invoke/VarHandle") ∧ Cond.instantiable q.1.cls q.2 ∈ tables_1 ∧ Cond.privateMethod q.1 ∈ tables_1 ∧ Cond.instanceMethod q.1 ∈ tables_1
theorem lw_p0 : lw_okq (⟨"DeepChannel$BitRow", "cellAt", "(I)J"⟩, 2) := ⟨⟨by decide +kernel, by decide +kernel⟩, List.mem_of_getElem? (i := 166) (by decide +kernel), List.mem_of_getElem? (i := 340) (by decide +kernel), List.mem_of_getElem? (i := 341) (by decide +kernel)⟩
theorem lw_p1 : lw_okq (⟨"java/lang/Throwable", "fillInStackTrace", "(I)Ljava/lang/Throwable;"⟩, 6) := ⟨⟨by decide +kernel, by decide +kernel⟩, List.mem_of_getElem? (i := 402) (by decide +kernel), List.mem_of_getElem? (i := 400) (by decide +kernel), List.mem_of_getElem? (i := 401) (by decide +kernel)⟩
theorem lw_p2 : lw_okq (⟨"DeepChannel$Sender", "fillHeader", "(I)V"⟩, 8) := ⟨⟨by decide +kernel, by decide +kernel⟩, List.mem_of_getElem? (i := 199) (by decide +kernel), List.mem_of_getElem? (i := 571) (by decide +kernel), List.mem_of_getElem? (i := 572) (by decide +kernel)⟩
theorem lw_p3 : lw_okq (⟨"DeepChannel$Words", "addChecksOfWord", "([II)V"⟩, 7) := ⟨⟨by decide +kernel, by decide +kernel⟩, List.mem_of_getElem? (i := 57) (by decide +kernel), List.mem_of_getElem? (i := 584) (by decide +kernel), List.mem_of_getElem? (i := 585) (by decide +kernel)⟩
theorem lw_p4 : lw_okq (⟨"DeepChannel$Nearest", "measure", "(LDeepChannel$BitRow;II)V"⟩, 5) := ⟨⟨by decide +kernel, by decide +kernel⟩, List.mem_of_getElem? (i := 236) (by decide +kernel), List.mem_of_getElem? (i := 660) (by decide +kernel), List.mem_of_getElem? (i := 661) (by decide +kernel)⟩
theorem lw_p5 : lw_okq (⟨"DeepChannel$Nearest", "stepBack", "([I[I)J"⟩, 5) := ⟨⟨by decide +kernel, by decide +kernel⟩, List.mem_of_getElem? (i := 236) (by decide +kernel), List.mem_of_getElem? (i := 668) (by decide +kernel), List.mem_of_getElem? (i := 669) (by decide +kernel)⟩
theorem lw_p6 : lw_okq (⟨"DeepChannel$Nearest", "trace", "(ILDeepChannel$BitRow;)V"⟩, 5) := ⟨⟨by decide +kernel, by decide +kernel⟩, List.mem_of_getElem? (i := 236) (by decide +kernel), List.mem_of_getElem? (i := 676) (by decide +kernel), List.mem_of_getElem? (i := 677) (by decide +kernel)⟩
theorem lw_p7 : lw_okq (⟨"DeepChannel$Receiver", "setFact", "(III)V"⟩, 12) := ⟨⟨by decide +kernel, by decide +kernel⟩, List.mem_of_getElem? (i := 230) (by decide +kernel), List.mem_of_getElem? (i := 692) (by decide +kernel), List.mem_of_getElem? (i := 693) (by decide +kernel)⟩
theorem lw_p8 : lw_okq (⟨"DeepChannel$Receiver", "unmix", "(II)V"⟩, 12) := ⟨⟨by decide +kernel, by decide +kernel⟩, List.mem_of_getElem? (i := 230) (by decide +kernel), List.mem_of_getElem? (i := 705) (by decide +kernel), List.mem_of_getElem? (i := 706) (by decide +kernel)⟩
theorem lw_p9 : lw_okq (⟨"DeepChannel$Receiver", "putWordsRight", "(II)V"⟩, 12) := ⟨⟨by decide +kernel, by decide +kernel⟩, List.mem_of_getElem? (i := 230) (by decide +kernel), List.mem_of_getElem? (i := 710) (by decide +kernel), List.mem_of_getElem? (i := 711) (by decide +kernel)⟩
theorem lw_p10 : lw_okq (⟨"DeepChannel$Words", "isCodeword", "()Z"⟩, 7) := ⟨⟨by decide +kernel, by decide +kernel⟩, List.mem_of_getElem? (i := 57) (by decide +kernel), List.mem_of_getElem? (i := 718) (by decide +kernel), List.mem_of_getElem? (i := 719) (by decide +kernel)⟩
theorem lw_p11 : lw_okq (⟨"DeepChannel$Locator", "missAt", "([III)I"⟩, 6) := ⟨⟨by decide +kernel, by decide +kernel⟩, List.mem_of_getElem? (i := 88) (by decide +kernel), List.mem_of_getElem? (i := 727) (by decide +kernel), List.mem_of_getElem? (i := 728) (by decide +kernel)⟩
theorem lw_p12 : lw_okq (⟨"DeepChannel$Locator", "addEarlier", "(II)V"⟩, 6) := ⟨⟨by decide +kernel, by decide +kernel⟩, List.mem_of_getElem? (i := 88) (by decide +kernel), List.mem_of_getElem? (i := 739) (by decide +kernel), List.mem_of_getElem? (i := 740) (by decide +kernel)⟩
theorem lw_p13 : lw_okq (⟨"DeepChannel$Locator", "valueAt", "([III)I"⟩, 6) := ⟨⟨by decide +kernel, by decide +kernel⟩, List.mem_of_getElem? (i := 88) (by decide +kernel), List.mem_of_getElem? (i := 747) (by decide +kernel), List.mem_of_getElem? (i := 748) (by decide +kernel)⟩
theorem lw_p14 : lw_okq (⟨"DeepChannel$Receiver", "judgeFrame", "(II)V"⟩, 12) := ⟨⟨by decide +kernel, by decide +kernel⟩, List.mem_of_getElem? (i := 230) (by decide +kernel), List.mem_of_getElem? (i := 764) (by decide +kernel), List.mem_of_getElem? (i := 765) (by decide +kernel)⟩
theorem lw_p15 : lw_okq (⟨"DeepChannel$Receiver", "readHeader", "(II)V"⟩, 12) := ⟨⟨by decide +kernel, by decide +kernel⟩, List.mem_of_getElem? (i := 230) (by decide +kernel), List.mem_of_getElem? (i := 770) (by decide +kernel), List.mem_of_getElem? (i := 771) (by decide +kernel)⟩
def lw_privs_1 : List (MethodName × Nat) := [(⟨"DeepChannel$BitRow", "cellAt", "(I)J"⟩, 2), (⟨"java/lang/Throwable", "fillInStackTrace", "(I)Ljava/lang/Throwable;"⟩, 6), (⟨"DeepChannel$Sender", "fillHeader", "(I)V"⟩, 8), (⟨"DeepChannel$Words", "addChecksOfWord", "([II)V"⟩, 7), (⟨"DeepChannel$Nearest", "measure", "(LDeepChannel$BitRow;II)V"⟩, 5), (⟨"DeepChannel$Nearest", "stepBack", "([I[I)J"⟩, 5), (⟨"DeepChannel$Nearest", "trace", "(ILDeepChannel$BitRow;)V"⟩, 5), (⟨"DeepChannel$Receiver", "setFact", "(III)V"⟩, 12), (⟨"DeepChannel$Receiver", "unmix", "(II)V"⟩, 12), (⟨"DeepChannel$Receiver", "putWordsRight", "(II)V"⟩, 12), (⟨"DeepChannel$Words", "isCodeword", "()Z"⟩, 7), (⟨"DeepChannel$Locator", "missAt", "([III)I"⟩, 6), (⟨"DeepChannel$Locator", "addEarlier", "(II)V"⟩, 6), (⟨"DeepChannel$Locator", "valueAt", "([III)I"⟩, 6), (⟨"DeepChannel$Receiver", "judgeFrame", "(II)V"⟩, 12), (⟨"DeepChannel$Receiver", "readHeader", "(II)V"⟩, 12)]
theorem lw_r1 : ∀ q ∈ lw_privs_1, lw_okq q := List.forall_mem_cons.mpr ⟨lw_p0, List.forall_mem_cons.mpr ⟨lw_p1, List.forall_mem_cons.mpr ⟨lw_p2, List.forall_mem_cons.mpr ⟨lw_p3, List.forall_mem_cons.mpr ⟨lw_p4, List.forall_mem_cons.mpr ⟨lw_p5, List.forall_mem_cons.mpr ⟨lw_p6, List.forall_mem_cons.mpr ⟨lw_p7, List.forall_mem_cons.mpr ⟨lw_p8, List.forall_mem_cons.mpr ⟨lw_p9, List.forall_mem_cons.mpr ⟨lw_p10, List.forall_mem_cons.mpr ⟨lw_p11, List.forall_mem_cons.mpr ⟨lw_p12, List.forall_mem_cons.mpr ⟨lw_p13, List.forall_mem_cons.mpr ⟨lw_p14, List.forall_mem_cons.mpr ⟨lw_p15, fun _ h => absurd h List.not_mem_nil⟩⟩⟩⟩⟩⟩⟩⟩⟩⟩⟩⟩⟩⟩⟩⟩
theorem lw_p16 : lw_okq (⟨"DeepChannelModel", "forget", "()V"⟩, 40) := ⟨⟨by decide +kernel, by decide +kernel⟩, List.mem_of_getElem? (i := 829) (by decide +kernel), List.mem_of_getElem? (i := 842) (by decide +kernel), List.mem_of_getElem? (i := 843) (by decide +kernel)⟩
theorem lw_p17 : lw_okq (⟨"DeepChannelModel", "frameSize", "()I"⟩, 40) := ⟨⟨by decide +kernel, by decide +kernel⟩, List.mem_of_getElem? (i := 829) (by decide +kernel), List.mem_of_getElem? (i := 986) (by decide +kernel), List.mem_of_getElem? (i := 987) (by decide +kernel)⟩
theorem lw_p18 : lw_okq (⟨"DeepChannelModel", "wordSize", "()I"⟩, 40) := ⟨⟨by decide +kernel, by decide +kernel⟩, List.mem_of_getElem? (i := 829) (by decide +kernel), List.mem_of_getElem? (i := 990) (by decide +kernel), List.mem_of_getElem? (i := 991) (by decide +kernel)⟩
theorem lw_p19 : lw_okq (⟨"DeepChannelModel", "blockSize", "()I"⟩, 40) := ⟨⟨by decide +kernel, by decide +kernel⟩, List.mem_of_getElem? (i := 829) (by decide +kernel), List.mem_of_getElem? (i := 994) (by decide +kernel), List.mem_of_getElem? (i := 995) (by decide +kernel)⟩
theorem lw_p20 : lw_okq (⟨"DeepChannelModel", "linesOf", "(II)I"⟩, 40) := ⟨⟨by decide +kernel, by decide +kernel⟩, List.mem_of_getElem? (i := 829) (by decide +kernel), List.mem_of_getElem? (i := 1007) (by decide +kernel), List.mem_of_getElem? (i := 1008) (by decide +kernel)⟩
theorem lw_p21 : lw_okq (⟨"DeepChannelModel", "kept", "([II)I"⟩, 40) := ⟨⟨by decide +kernel, by decide +kernel⟩, List.mem_of_getElem? (i := 829) (by decide +kernel), List.mem_of_getElem? (i := 1011) (by decide +kernel), List.mem_of_getElem? (i := 1012) (by decide +kernel)⟩
theorem lw_p22 : lw_okq (⟨"DeepChannelModel", "send1", "(I)V"⟩, 40) := ⟨⟨by decide +kernel, by decide +kernel⟩, List.mem_of_getElem? (i := 829) (by decide +kernel), List.mem_of_getElem? (i := 1015) (by decide +kernel), List.mem_of_getElem? (i := 1016) (by decide +kernel)⟩
theorem lw_p23 : lw_okq (⟨"DeepChannelModel", "lay", "(II)V"⟩, 40) := ⟨⟨by decide +kernel, by decide +kernel⟩, List.mem_of_getElem? (i := 829) (by decide +kernel), List.mem_of_getElem? (i := 1026) (by decide +kernel), List.mem_of_getElem? (i := 1027) (by decide +kernel)⟩
theorem lw_p24 : lw_okq (⟨"DeepChannelModel", "frameByte", "(II)I"⟩, 40) := ⟨⟨by decide +kernel, by decide +kernel⟩, List.mem_of_getElem? (i := 829) (by decide +kernel), List.mem_of_getElem? (i := 1031) (by decide +kernel), List.mem_of_getElem? (i := 1032) (by decide +kernel)⟩
theorem lw_p25 : lw_okq (⟨"DeepChannelModel", "check", "()V"⟩, 40) := ⟨⟨by decide +kernel, by decide +kernel⟩, List.mem_of_getElem? (i := 829) (by decide +kernel), List.mem_of_getElem? (i := 1038) (by decide +kernel), List.mem_of_getElem? (i := 1039) (by decide +kernel)⟩
theorem lw_p26 : lw_okq (⟨"DeepChannelModel", "isCodeword", "()Z"⟩, 40) := ⟨⟨by decide +kernel, by decide +kernel⟩, List.mem_of_getElem? (i := 829) (by decide +kernel), List.mem_of_getElem? (i := 1042) (by decide +kernel), List.mem_of_getElem? (i := 1043) (by decide +kernel)⟩
theorem lw_p27 : lw_okq (⟨"DeepChannelModel", "ofG", "(I)I"⟩, 40) := ⟨⟨by decide +kernel, by decide +kernel⟩, List.mem_of_getElem? (i := 829) (by decide +kernel), List.mem_of_getElem? (i := 1046) (by decide +kernel), List.mem_of_getElem? (i := 1047) (by decide +kernel)⟩
theorem lw_p28 : lw_okq (⟨"DeepChannelModel", "product", "(II)I"⟩, 40) := ⟨⟨by decide +kernel, by decide +kernel⟩, List.mem_of_getElem? (i := 829) (by decide +kernel), List.mem_of_getElem? (i := 1050) (by decide +kernel), List.mem_of_getElem? (i := 1051) (by decide +kernel)⟩
theorem lw_p29 : lw_okq (⟨"DeepChannelModel", "solves", "(I)Z"⟩, 40) := ⟨⟨by decide +kernel, by decide +kernel⟩, List.mem_of_getElem? (i := 829) (by decide +kernel), List.mem_of_getElem? (i := 1054) (by decide +kernel), List.mem_of_getElem? (i := 1055) (by decide +kernel)⟩
theorem lw_p30 : lw_okq (⟨"DeepChannelModel", "inverse", "(I)I"⟩, 40) := ⟨⟨by decide +kernel, by decide +kernel⟩, List.mem_of_getElem? (i := 829) (by decide +kernel), List.mem_of_getElem? (i := 1058) (by decide +kernel), List.mem_of_getElem? (i := 1059) (by decide +kernel)⟩
theorem lw_p31 : lw_okq (⟨"DeepChannelModel", "sendByte", "(I)V"⟩, 40) := ⟨⟨by decide +kernel, by decide +kernel⟩, List.mem_of_getElem? (i := 829) (by decide +kernel), List.mem_of_getElem? (i := 1063) (by decide +kernel), List.mem_of_getElem? (i := 1064) (by decide +kernel)⟩
def lw_privs_2 : List (MethodName × Nat) := [(⟨"DeepChannelModel", "forget", "()V"⟩, 40), (⟨"DeepChannelModel", "frameSize", "()I"⟩, 40), (⟨"DeepChannelModel", "wordSize", "()I"⟩, 40), (⟨"DeepChannelModel", "blockSize", "()I"⟩, 40), (⟨"DeepChannelModel", "linesOf", "(II)I"⟩, 40), (⟨"DeepChannelModel", "kept", "([II)I"⟩, 40), (⟨"DeepChannelModel", "send1", "(I)V"⟩, 40), (⟨"DeepChannelModel", "lay", "(II)V"⟩, 40), (⟨"DeepChannelModel", "frameByte", "(II)I"⟩, 40), (⟨"DeepChannelModel", "check", "()V"⟩, 40), (⟨"DeepChannelModel", "isCodeword", "()Z"⟩, 40), (⟨"DeepChannelModel", "ofG", "(I)I"⟩, 40), (⟨"DeepChannelModel", "product", "(II)I"⟩, 40), (⟨"DeepChannelModel", "solves", "(I)Z"⟩, 40), (⟨"DeepChannelModel", "inverse", "(I)I"⟩, 40), (⟨"DeepChannelModel", "sendByte", "(I)V"⟩, 40)]
theorem lw_r2 : ∀ q ∈ lw_privs_2, lw_okq q := List.forall_mem_cons.mpr ⟨lw_p16, List.forall_mem_cons.mpr ⟨lw_p17, List.forall_mem_cons.mpr ⟨lw_p18, List.forall_mem_cons.mpr ⟨lw_p19, List.forall_mem_cons.mpr ⟨lw_p20, List.forall_mem_cons.mpr ⟨lw_p21, List.forall_mem_cons.mpr ⟨lw_p22, List.forall_mem_cons.mpr ⟨lw_p23, List.forall_mem_cons.mpr ⟨lw_p24, List.forall_mem_cons.mpr ⟨lw_p25, List.forall_mem_cons.mpr ⟨lw_p26, List.forall_mem_cons.mpr ⟨lw_p27, List.forall_mem_cons.mpr ⟨lw_p28, List.forall_mem_cons.mpr ⟨lw_p29, List.forall_mem_cons.mpr ⟨lw_p30, List.forall_mem_cons.mpr ⟨lw_p31, fun _ h => absurd h List.not_mem_nil⟩⟩⟩⟩⟩⟩⟩⟩⟩⟩⟩⟩⟩⟩⟩⟩
theorem lw_p32 : lw_okq (⟨"DeepChannelModel", "decode", "()V"⟩, 40) := ⟨⟨by decide +kernel, by decide +kernel⟩, List.mem_of_getElem? (i := 829) (by decide +kernel), List.mem_of_getElem? (i := 1091) (by decide +kernel), List.mem_of_getElem? (i := 1092) (by decide +kernel)⟩
theorem lw_p33 : lw_okq (⟨"DeepChannelModel", "with", "(III)I"⟩, 40) := ⟨⟨by decide +kernel, by decide +kernel⟩, List.mem_of_getElem? (i := 829) (by decide +kernel), List.mem_of_getElem? (i := 1095) (by decide +kernel), List.mem_of_getElem? (i := 1096) (by decide +kernel)⟩
theorem lw_p34 : lw_okq (⟨"DeepChannelModel", "cost", "(III)I"⟩, 40) := ⟨⟨by decide +kernel, by decide +kernel⟩, List.mem_of_getElem? (i := 829) (by decide +kernel), List.mem_of_getElem? (i := 1099) (by decide +kernel), List.mem_of_getElem? (i := 1100) (by decide +kernel)⟩
theorem lw_p35 : lw_okq (⟨"DeepChannelModel", "markWrong", "(I)I"⟩, 40) := ⟨⟨by decide +kernel, by decide +kernel⟩, List.mem_of_getElem? (i := 829) (by decide +kernel), List.mem_of_getElem? (i := 1103) (by decide +kernel), List.mem_of_getElem? (i := 1104) (by decide +kernel)⟩
theorem lw_p36 : lw_okq (⟨"DeepChannelModel", "take", "(I)V"⟩, 40) := ⟨⟨by decide +kernel, by decide +kernel⟩, List.mem_of_getElem? (i := 829) (by decide +kernel), List.mem_of_getElem? (i := 1107) (by decide +kernel), List.mem_of_getElem? (i := 1108) (by decide +kernel)⟩
theorem lw_p37 : lw_okq (⟨"DeepChannelModel", "mend", "(II)I"⟩, 40) := ⟨⟨by decide +kernel, by decide +kernel⟩, List.mem_of_getElem? (i := 829) (by decide +kernel), List.mem_of_getElem? (i := 1111) (by decide +kernel), List.mem_of_getElem? (i := 1112) (by decide +kernel)⟩
theorem lw_p38 : lw_okq (⟨"DeepChannelModel", "takeWord", "(II)V"⟩, 40) := ⟨⟨by decide +kernel, by decide +kernel⟩, List.mem_of_getElem? (i := 829) (by decide +kernel), List.mem_of_getElem? (i := 1115) (by decide +kernel), List.mem_of_getElem? (i := 1116) (by decide +kernel)⟩
theorem lw_p39 : lw_okq (⟨"DeepChannelModel", "mends", "(I)Z"⟩, 40) := ⟨⟨by decide +kernel, by decide +kernel⟩, List.mem_of_getElem? (i := 829) (by decide +kernel), List.mem_of_getElem? (i := 1119) (by decide +kernel), List.mem_of_getElem? (i := 1120) (by decide +kernel)⟩
theorem lw_p40 : lw_okq (⟨"DeepChannelModel", "gaps", "(I)V"⟩, 40) := ⟨⟨by decide +kernel, by decide +kernel⟩, List.mem_of_getElem? (i := 829) (by decide +kernel), List.mem_of_getElem? (i := 1123) (by decide +kernel), List.mem_of_getElem? (i := 1124) (by decide +kernel)⟩
def lw_privs_3 : List (MethodName × Nat) := [(⟨"DeepChannelModel", "decode", "()V"⟩, 40), (⟨"DeepChannelModel", "with", "(III)I"⟩, 40), (⟨"DeepChannelModel", "cost", "(III)I"⟩, 40), (⟨"DeepChannelModel", "markWrong", "(I)I"⟩, 40), (⟨"DeepChannelModel", "take", "(I)V"⟩, 40), (⟨"DeepChannelModel", "mend", "(II)I"⟩, 40), (⟨"DeepChannelModel", "takeWord", "(II)V"⟩, 40), (⟨"DeepChannelModel", "mends", "(I)Z"⟩, 40), (⟨"DeepChannelModel", "gaps", "(I)V"⟩, 40)]
theorem lw_r3 : ∀ q ∈ lw_privs_3, lw_okq q := List.forall_mem_cons.mpr ⟨lw_p32, List.forall_mem_cons.mpr ⟨lw_p33, List.forall_mem_cons.mpr ⟨lw_p34, List.forall_mem_cons.mpr ⟨lw_p35, List.forall_mem_cons.mpr ⟨lw_p36, List.forall_mem_cons.mpr ⟨lw_p37, List.forall_mem_cons.mpr ⟨lw_p38, List.forall_mem_cons.mpr ⟨lw_p39, List.forall_mem_cons.mpr ⟨lw_p40, fun _ h => absurd h List.not_mem_nil⟩⟩⟩⟩⟩⟩⟩⟩⟩
def lw_privs : List (MethodName × Nat) := lw_privs_1 ++ (lw_privs_2 ++ (lw_privs_3))
def lw_tbl : List Cond := k2_sels lw_privs ++ tables_1
theorem lw_privs_ok : ∀ q ∈ lw_privs, lw_okq q := by
  show ∀ q ∈ lw_privs_1 ++ (lw_privs_2 ++ (lw_privs_3)), lw_okq q
  exact List.forall_mem_append.mpr ⟨lw_r1, List.forall_mem_append.mpr ⟨lw_r2, lw_r3⟩⟩
-- names: the classes, their fields
def fT_BitRow : u_T := fun k => match k with
  | 0 => ("DeepChannel$BitRow", "cells", "[J", true)
  | _ => ("DeepChannel$BitRow", "length", "I", false)
def fY_BitRow : Nat → FieldType := fun k => match k with
  | 0 => .array .long
  | _ => .int
theorem fN_BitRow : ∀ a, a < 2 → ∀ b, b < 2 → a ≠ b → (fT_BitRow a).2.1 ≠ (fT_BitRow b).2.1 := by decide +kernel
theorem fK_BitRow : ∀ k, k < 2 → parseFieldDescriptor (fT_BitRow k).2.2.1 = some (fY_BitRow k) := by decide +kernel
def fT_Coder : u_T := fun k => match k with
  | 0 => ("DeepChannel$Coder", "shape", "LDeepChannel$Shape;", true)
  | 1 => ("DeepChannel$Coder", "row", "LDeepChannel$BitRow;", true)
  | 2 => ("DeepChannel$Coder", "register", "I", false)
  | _ => ("DeepChannel$Coder", "put", "I", false)
def fY_Coder : Nat → FieldType := fun k => match k with
  | 0 => .object "DeepChannel$Shape"
  | 1 => .object "DeepChannel$BitRow"
  | 2 => .int
  | _ => .int
theorem fN_Coder : ∀ a, a < 4 → ∀ b, b < 4 → a ≠ b → (fT_Coder a).2.1 ≠ (fT_Coder b).2.1 := by decide +kernel
theorem fK_Coder : ∀ k, k < 4 → parseFieldDescriptor (fT_Coder k).2.2.1 = some (fY_Coder k) := by decide +kernel
def fT_Field : u_T := fun k => match k with
  | 0 => ("DeepChannel$Field", "powers", "[I", true)
  | 1 => ("DeepChannel$Field", "logs", "[I", true)
  | 2 => ("DeepChannel$Field", "otherForms", "[I", true)
  | _ => ("DeepChannel$Field", "elements", "[I", true)
def fY_Field : Nat → FieldType := fun k => match k with
  | 0 => .array .int
  | 1 => .array .int
  | 2 => .array .int
  | _ => .array .int
theorem fN_Field : ∀ a, a < 4 → ∀ b, b < 4 → a ≠ b → (fT_Field a).2.1 ≠ (fT_Field b).2.1 := by decide +kernel
theorem fK_Field : ∀ k, k < 4 → parseFieldDescriptor (fT_Field k).2.2.1 = some (fY_Field k) := by decide +kernel
def fT_Locator : u_T := fun k => match k with
  | 0 => ("DeepChannel$Locator", "field", "LDeepChannel$Field;", true)
  | 1 => ("DeepChannel$Locator", "poly", "[I", true)
  | 2 => ("DeepChannel$Locator", "earlier", "[I", true)
  | 3 => ("DeepChannel$Locator", "spare", "[I", true)
  | 4 => ("DeepChannel$Locator", "evaluator", "[I", true)
  | _ => ("DeepChannel$Locator", "places", "[I", true)
def fY_Locator : Nat → FieldType := fun k => match k with
  | 0 => .object "DeepChannel$Field"
  | 1 => .array .int
  | 2 => .array .int
  | 3 => .array .int
  | 4 => .array .int
  | _ => .array .int
theorem fN_Locator : ∀ a, a < 6 → ∀ b, b < 6 → a ≠ b → (fT_Locator a).2.1 ≠ (fT_Locator b).2.1 := by decide +kernel
theorem fK_Locator : ∀ k, k < 6 → parseFieldDescriptor (fT_Locator k).2.2.1 = some (fY_Locator k) := by decide +kernel
def fT_Mixer : u_T := fun k => match k with
  | _ => ("DeepChannel$Mixer", "bytes", "[I", true)
def fY_Mixer : Nat → FieldType := fun k => match k with
  | _ => .array .int
theorem fN_Mixer : ∀ a, a < 1 → ∀ b, b < 1 → a ≠ b → (fT_Mixer a).2.1 ≠ (fT_Mixer b).2.1 := by decide +kernel
theorem fK_Mixer : ∀ k, k < 1 → parseFieldDescriptor (fT_Mixer k).2.2.1 = some (fY_Mixer k) := by decide +kernel
def fT_Nearest : u_T := fun k => match k with
  | 0 => ("DeepChannel$Nearest", "pairs", "[I", true)
  | 1 => ("DeepChannel$Nearest", "distances", "[I", true)
  | 2 => ("DeepChannel$Nearest", "evenRow", "[I", true)
  | 3 => ("DeepChannel$Nearest", "oddRow", "[I", true)
  | _ => ("DeepChannel$Nearest", "oneIsBetter", "[J", true)
def fY_Nearest : Nat → FieldType := fun k => match k with
  | 0 => .array .int
  | 1 => .array .int
  | 2 => .array .int
  | 3 => .array .int
  | _ => .array .long
theorem fN_Nearest : ∀ a, a < 5 → ∀ b, b < 5 → a ≠ b → (fT_Nearest a).2.1 ≠ (fT_Nearest b).2.1 := by decide +kernel
theorem fK_Nearest : ∀ k, k < 5 → parseFieldDescriptor (fT_Nearest k).2.2.1 = some (fY_Nearest k) := by decide +kernel
def fT_Receiver : u_T := fun k => match k with
  | 0 => ("DeepChannel$Receiver", "shape", "LDeepChannel$Shape;", true)
  | 1 => ("DeepChannel$Receiver", "words", "LDeepChannel$Words;", true)
  | 2 => ("DeepChannel$Receiver", "mixer", "LDeepChannel$Mixer;", true)
  | 3 => ("DeepChannel$Receiver", "nearest", "LDeepChannel$Nearest;", true)
  | 4 => ("DeepChannel$Receiver", "found", "LDeepChannel$BitRow;", true)
  | 5 => ("DeepChannel$Receiver", "bytes", "[I", true)
  | 6 => ("DeepChannel$Receiver", "facts", "[I", true)
  | 7 => ("DeepChannel$Receiver", "putRight", "[I", true)
  | 8 => ("DeepChannel$Receiver", "lastOfChannel", "[I", true)
  | 9 => ("DeepChannel$Receiver", "lastMaster", "I", false)
  | 10 => ("DeepChannel$Receiver", "differing", "I", false)
  | _ => ("DeepChannel$Receiver", "taken", "I", false)
def fY_Receiver : Nat → FieldType := fun k => match k with
  | 0 => .object "DeepChannel$Shape"
  | 1 => .object "DeepChannel$Words"
  | 2 => .object "DeepChannel$Mixer"
  | 3 => .object "DeepChannel$Nearest"
  | 4 => .object "DeepChannel$BitRow"
  | 5 => .array .int
  | 6 => .array .int
  | 7 => .array .int
  | 8 => .array .int
  | 9 => .int
  | 10 => .int
  | _ => .int
theorem fN_Receiver : ∀ a, a < 12 → ∀ b, b < 12 → a ≠ b → (fT_Receiver a).2.1 ≠ (fT_Receiver b).2.1 := by decide +kernel
theorem fK_Receiver : ∀ k, k < 12 → parseFieldDescriptor (fT_Receiver k).2.2.1 = some (fY_Receiver k) := by decide +kernel
def fT_Sender : u_T := fun k => match k with
  | 0 => ("DeepChannel$Sender", "shape", "LDeepChannel$Shape;", true)
  | 1 => ("DeepChannel$Sender", "words", "LDeepChannel$Words;", true)
  | 2 => ("DeepChannel$Sender", "mixer", "LDeepChannel$Mixer;", true)
  | 3 => ("DeepChannel$Sender", "bytes", "[I", true)
  | 4 => ("DeepChannel$Sender", "channelCounts", "[I", true)
  | 5 => ("DeepChannel$Sender", "masterCount", "I", false)
  | 6 => ("DeepChannel$Sender", "craft", "I", false)
  | _ => ("DeepChannel$Sender", "dataCount", "I", false)
def fY_Sender : Nat → FieldType := fun k => match k with
  | 0 => .object "DeepChannel$Shape"
  | 1 => .object "DeepChannel$Words"
  | 2 => .object "DeepChannel$Mixer"
  | 3 => .array .int
  | 4 => .array .int
  | 5 => .int
  | 6 => .int
  | _ => .int
theorem fN_Sender : ∀ a, a < 8 → ∀ b, b < 8 → a ≠ b → (fT_Sender a).2.1 ≠ (fT_Sender b).2.1 := by decide +kernel
theorem fK_Sender : ∀ k, k < 8 → parseFieldDescriptor (fT_Sender k).2.2.1 = some (fY_Sender k) := by decide +kernel
def fT_Shape : u_T := fun k => match k with
  | 0 => ("DeepChannel$Shape", "depth", "I", false)
  | 1 => ("DeepChannel$Shape", "wordBytes", "I", false)
  | 2 => ("DeepChannel$Shape", "e", "I", false)
  | _ => ("DeepChannel$Shape", "pattern", "I", false)
def fY_Shape : Nat → FieldType := fun k => match k with
  | 0 => .int
  | 1 => .int
  | 2 => .int
  | _ => .int
theorem fN_Shape : ∀ a, a < 4 → ∀ b, b < 4 → a ≠ b → (fT_Shape a).2.1 ≠ (fT_Shape b).2.1 := by decide +kernel
theorem fK_Shape : ∀ k, k < 4 → parseFieldDescriptor (fT_Shape k).2.2.1 = some (fY_Shape k) := by decide +kernel
def fT_Words : u_T := fun k => match k with
  | 0 => ("DeepChannel$Words", "shape", "LDeepChannel$Shape;", true)
  | 1 => ("DeepChannel$Words", "field", "LDeepChannel$Field;", true)
  | 2 => ("DeepChannel$Words", "generator", "[I", true)
  | 3 => ("DeepChannel$Words", "remainder", "[I", true)
  | 4 => ("DeepChannel$Words", "coefficients", "[I", true)
  | 5 => ("DeepChannel$Words", "syndromes", "[I", true)
  | _ => ("DeepChannel$Words", "locator", "LDeepChannel$Locator;", true)
def fY_Words : Nat → FieldType := fun k => match k with
  | 0 => .object "DeepChannel$Shape"
  | 1 => .object "DeepChannel$Field"
  | 2 => .array .int
  | 3 => .array .int
  | 4 => .array .int
  | 5 => .array .int
  | _ => .object "DeepChannel$Locator"
theorem fN_Words : ∀ a, a < 7 → ∀ b, b < 7 → a ≠ b → (fT_Words a).2.1 ≠ (fT_Words b).2.1 := by decide +kernel
theorem fK_Words : ∀ k, k < 7 → parseFieldDescriptor (fT_Words k).2.2.1 = some (fY_Words k) := by decide +kernel
def fT_DC : u_T := fun k => match k with
  | 0 => ("DeepChannel", "shape", "LDeepChannel$Shape;", true)
  | 1 => ("DeepChannel", "words", "LDeepChannel$Words;", true)
  | 2 => ("DeepChannel", "mixer", "LDeepChannel$Mixer;", true)
  | 3 => ("DeepChannel", "row", "LDeepChannel$BitRow;", true)
  | 4 => ("DeepChannel", "coder", "LDeepChannel$Coder;", true)
  | 5 => ("DeepChannel", "sender", "LDeepChannel$Sender;", true)
  | _ => ("DeepChannel", "receiver", "LDeepChannel$Receiver;", true)
def fY_DC : Nat → FieldType := fun k => match k with
  | 0 => .object "DeepChannel$Shape"
  | 1 => .object "DeepChannel$Words"
  | 2 => .object "DeepChannel$Mixer"
  | 3 => .object "DeepChannel$BitRow"
  | 4 => .object "DeepChannel$Coder"
  | 5 => .object "DeepChannel$Sender"
  | _ => .object "DeepChannel$Receiver"
theorem fN_DC : ∀ a, a < 7 → ∀ b, b < 7 → a ≠ b → (fT_DC a).2.1 ≠ (fT_DC b).2.1 := by decide +kernel
theorem fK_DC : ∀ k, k < 7 → parseFieldDescriptor (fT_DC k).2.2.1 = some (fY_DC k) := by decide +kernel
def fT_Mo : u_T := fun k => match k with
  | 0 => ("DeepChannelModel", "thrown", "I", false)
  | 1 => ("DeepChannelModel", "depth", "I", false)
  | 2 => ("DeepChannelModel", "fill", "I", false)
  | 3 => ("DeepChannelModel", "half", "I", false)
  | 4 => ("DeepChannelModel", "pattern", "I", false)
  | 5 => ("DeepChannelModel", "craft", "I", false)
  | 6 => ("DeepChannelModel", "begins", "[I", true)
  | 7 => ("DeepChannelModel", "firsts", "[I", true)
  | 8 => ("DeepChannelModel", "seconds", "[I", true)
  | 9 => ("DeepChannelModel", "powers", "[I", true)
  | 10 => ("DeepChannelModel", "logarithms", "[I", true)
  | 11 => ("DeepChannelModel", "forms", "[I", true)
  | 12 => ("DeepChannelModel", "elements", "[I", true)
  | 13 => ("DeepChannelModel", "mixer", "[I", true)
  | 14 => ("DeepChannelModel", "data", "[I", true)
  | 15 => ("DeepChannelModel", "waiting", "I", false)
  | 16 => ("DeepChannelModel", "master", "I", false)
  | 17 => ("DeepChannelModel", "counts", "[I", true)
  | 18 => ("DeepChannelModel", "line", "[I", true)
  | 19 => ("DeepChannelModel", "length", "I", false)
  | 20 => ("DeepChannelModel", "sent", "I", false)
  | 21 => ("DeepChannelModel", "state", "I", false)
  | 22 => ("DeepChannelModel", "places", "[I", true)
  | 23 => ("DeepChannelModel", "least", "[I", true)
  | 24 => ("DeepChannelModel", "row", "[I", true)
  | 25 => ("DeepChannelModel", "rowSize", "I", false)
  | 26 => ("DeepChannelModel", "differ", "I", false)
  | 27 => ("DeepChannelModel", "blocks", "I", false)
  | 28 => ("DeepChannelModel", "marks", "[I", true)
  | 29 => ("DeepChannelModel", "wrongs", "[I", true)
  | 30 => ("DeepChannelModel", "bytes", "[I", true)
  | 31 => ("DeepChannelModel", "rights", "[I", true)
  | 32 => ("DeepChannelModel", "tells", "[I", true)
  | 33 => ("DeepChannelModel", "lastMaster", "I", false)
  | 34 => ("DeepChannelModel", "lastCounts", "[I", true)
  | 35 => ("DeepChannelModel", "word", "[I", true)
  | 36 => ("DeepChannelModel", "values", "[I", true)
  | 37 => ("DeepChannelModel", "system", "[I", true)
  | 38 => ("DeepChannelModel", "solved", "[I", true)
  | _ => ("DeepChannelModel", "wrong", "[I", true)
def fY_Mo : Nat → FieldType := fun k => match k with
  | 0 => .int
  | 1 => .int
  | 2 => .int
  | 3 => .int
  | 4 => .int
  | 5 => .int
  | 6 => .array .int
  | 7 => .array .int
  | 8 => .array .int
  | 9 => .array .int
  | 10 => .array .int
  | 11 => .array .int
  | 12 => .array .int
  | 13 => .array .int
  | 14 => .array .int
  | 15 => .int
  | 16 => .int
  | 17 => .array .int
  | 18 => .array .int
  | 19 => .int
  | 20 => .int
  | 21 => .int
  | 22 => .array .int
  | 23 => .array .int
  | 24 => .array .int
  | 25 => .int
  | 26 => .int
  | 27 => .int
  | 28 => .array .int
  | 29 => .array .int
  | 30 => .array .int
  | 31 => .array .int
  | 32 => .array .int
  | 33 => .int
  | 34 => .array .int
  | 35 => .array .int
  | 36 => .array .int
  | 37 => .array .int
  | 38 => .array .int
  | _ => .array .int
theorem fN_Mo : ∀ a, a < 40 → ∀ b, b < 40 → a ≠ b → (fT_Mo a).2.1 ≠ (fT_Mo b).2.1 := by decide +kernel
theorem fK_Mo : ∀ k, k < 40 → parseFieldDescriptor (fT_Mo k).2.2.1 = some (fY_Mo k) := by decide +kernel
abbrev classes : List vw_C := [("DeepChannel$BitRow", fT_BitRow, 2), ("DeepChannel$Coder", fT_Coder, 4), ("DeepChannel$Field", fT_Field, 4), ("DeepChannel$Locator", fT_Locator, 6), ("DeepChannel$Mixer", fT_Mixer, 1), ("DeepChannel$Nearest", fT_Nearest, 5), ("DeepChannel$Receiver", fT_Receiver, 12), ("DeepChannel$Sender", fT_Sender, 8), ("DeepChannel$Shape", fT_Shape, 4), ("DeepChannel$Words", fT_Words, 7), ("DeepChannel", fT_DC, 7), ("DeepChannelModel", fT_Mo, 40)]
end
section
/-! Pure words for what a method computes: a method's picture is a function into Option; 'none' where the machine would leave the road (an index out of range, a division by 0, fuel that is used up). -/
def nm {α β : Type} (e : α) (k : α → Option β) : Option β := k e
def dv {β : Type} (y : Int32) (k : Option β) : Option β := if y = 0 then none else k
def rdI {β : Type} (f : Nat → Int32) (n : Nat) (i : Int32) (k : Int32 → Option β) : Option β := if i < 0 ∨ n ≤ i.toNatClampNeg then none else k (f i.toNatClampNeg)
def rdL {β : Type} (f : Nat → Int64) (n : Nat) (i : Int32) (k : Int64 → Option β) : Option β := if i < 0 ∨ n ≤ i.toNatClampNeg then none else k (f i.toNatClampNeg)
def wrI {β : Type} (f : Nat → Int32) (n : Nat) (i x : Int32) (k : (Nat → Int32) → Option β) : Option β := if i < 0 ∨ n ≤ i.toNatClampNeg then none else k (upd f i.toNatClampNeg x)
def wrL {β : Type} (f : Nat → Int64) (n : Nat) (i : Int32) (x : Int64) (k : (Nat → Int64) → Option β) : Option β := if i < 0 ∨ n ≤ i.toNatClampNeg then none else k (vp_updL f i.toNatClampNeg x)
def bd {α β : Type} (o : Option α) (k : α → Option β) : Option β := match o with
  | some a => k a
  | none => none
def cpI {β : Type} (f : Nat → Int32) (nf : Nat) (g : Nat → Int32) (ng : Nat) (sp dp n : Int32) (k : (Nat → Int32) → Option β) : Option β :=
  if sp < 0 ∨ dp < 0 ∨ n < 0 ∨ nf < sp.toNatClampNeg + n.toNatClampNeg ∨ ng < dp.toNatClampNeg + n.toNatClampNeg then none else k (va_cpy f g sp.toNatClampNeg dp.toNatClampNeg n.toNatClampNeg)
theorem bd_el {α β : Type} {o : Option α} {k : α → Option β} {r : β} (h : bd o k = some r) : ∃ a, o = some a ∧ k a = some r := by
  cases o with
  | none => cases h
  | some a => exact ⟨a, rfl, h⟩
theorem dv_el {β : Type} {y : Int32} {k : Option β} {r : β} (h : dv y k = some r) : ¬ y = 0 ∧ k = some r := by
  unfold dv at h
  split at h
  · cases h
  · rename_i h0; exact ⟨h0, h⟩
theorem rdI_el {β : Type} {f : Nat → Int32} {n : Nat} {i : Int32} {k : Int32 → Option β} {r : β} (h : rdI f n i k = some r) : vp_in i n ∧ k (f i.toNatClampNeg) = some r := by
  unfold rdI at h
  split at h
  · cases h
  · rename_i h0; exact ⟨h0, h⟩
theorem rdL_el {β : Type} {f : Nat → Int64} {n : Nat} {i : Int32} {k : Int64 → Option β} {r : β} (h : rdL f n i k = some r) : vp_in i n ∧ k (f i.toNatClampNeg) = some r := by
  unfold rdL at h
  split at h
  · cases h
  · rename_i h0; exact ⟨h0, h⟩
theorem wrI_el {β : Type} {f : Nat → Int32} {n : Nat} {i x : Int32} {k : (Nat → Int32) → Option β} {r : β} (h : wrI f n i x k = some r) : vp_in i n ∧ k (upd f i.toNatClampNeg x) = some r := by
  unfold wrI at h
  split at h
  · cases h
  · rename_i h0; exact ⟨h0, h⟩
theorem wrL_el {β : Type} {f : Nat → Int64} {n : Nat} {i : Int32} {x : Int64} {k : (Nat → Int64) → Option β} {r : β} (h : wrL f n i x k = some r) : vp_in i n ∧ k (vp_updL f i.toNatClampNeg x) = some r := by
  unfold wrL at h
  split at h
  · cases h
  · rename_i h0; exact ⟨h0, h⟩
theorem cpI_el {β : Type} {f : Nat → Int32} {nf : Nat} {g : Nat → Int32} {ng : Nat} {sp dp n : Int32} {k : (Nat → Int32) → Option β} {r : β} (h : cpI f nf g ng sp dp n k = some r) :
    (¬ sp < 0 ∧ ¬ dp < 0 ∧ ¬ n < 0 ∧ sp.toNatClampNeg + n.toNatClampNeg ≤ nf ∧ dp.toNatClampNeg + n.toNatClampNeg ≤ ng) ∧ k (va_cpy f g sp.toNatClampNeg dp.toNatClampNeg n.toNatClampNeg) = some r := by
  unfold cpI at h
  split at h
  · cases h
  · rename_i h0
    exact ⟨⟨fun q => h0 (Or.inl q), fun q => h0 (Or.inr (Or.inl q)), fun q => h0 (Or.inr (Or.inr (Or.inl q))), Nat.not_lt.mp fun q => h0 (Or.inr (Or.inr (Or.inr (Or.inl q)))), Nat.not_lt.mp fun q => h0 (Or.inr (Or.inr (Or.inr (Or.inr q))))⟩, h⟩
theorem if_el {β : Type} {c : Prop} [Decidable c] {a b : Option β} {r : β} (h : (if c then a else b) = some r) : (c → a = some r) ∧ (¬ c → b = some r) :=
  ⟨fun hc => by rwa [if_pos hc] at h, fun hc => by rwa [if_neg hc] at h⟩
theorem nm_el {α β : Type} {e : α} {k : α → Option β} {r : β} (h : nm e k = some r) : ∃ v, v = e ∧ k v = some r := ⟨e, rfl, h⟩
theorem nm_0 {β : Type} {K : Option β} {r : β} {u : Unit} (h : (fun _ : Unit => K) u = some r) : K = some r := h
theorem nm_1 {α β : Type} {a : α} {K : α → Option β} {r : β} (h : nm a (fun x => K x) = some r) : K a = some r := h
theorem nm_2 {T1 T2 β : Type} {a1 : T1} {a2 : T2} {K : T1 → T2 → Option β} {r : β} (h : nm (a1, a2).1 (fun x0 => nm (a1, a2).2 (fun x1 => K x0 x1)) = some r) : K a1 a2 = some r := h
theorem nm_3 {T1 T2 T3 β : Type} {a1 : T1} {a2 : T2} {a3 : T3} {K : T1 → T2 → T3 → Option β} {r : β} (h : nm (a1, a2, a3).1 (fun x0 => nm (a1, a2, a3).2.1 (fun x1 => nm (a1, a2, a3).2.2 (fun x2 => K x0 x1 x2))) = some r) : K a1 a2 a3 = some r := h
theorem nm_4 {T1 T2 T3 T4 β : Type} {a1 : T1} {a2 : T2} {a3 : T3} {a4 : T4} {K : T1 → T2 → T3 → T4 → Option β} {r : β} (h : nm (a1, a2, a3, a4).1 (fun x0 => nm (a1, a2, a3, a4).2.1 (fun x1 => nm (a1, a2, a3, a4).2.2.1 (fun x2 => nm (a1, a2, a3, a4).2.2.2 (fun x3 => K x0 x1 x2 x3)))) = some r) : K a1 a2 a3 a4 = some r := h
theorem nm_5 {T1 T2 T3 T4 T5 β : Type} {a1 : T1} {a2 : T2} {a3 : T3} {a4 : T4} {a5 : T5} {K : T1 → T2 → T3 → T4 → T5 → Option β} {r : β} (h : nm (a1, a2, a3, a4, a5).1 (fun x0 => nm (a1, a2, a3, a4, a5).2.1 (fun x1 => nm (a1, a2, a3, a4, a5).2.2.1 (fun x2 => nm (a1, a2, a3, a4, a5).2.2.2.1 (fun x3 => nm (a1, a2, a3, a4, a5).2.2.2.2 (fun x4 => K x0 x1 x2 x3 x4))))) = some r) : K a1 a2 a3 a4 a5 = some r := h
theorem nm_6 {T1 T2 T3 T4 T5 T6 β : Type} {a1 : T1} {a2 : T2} {a3 : T3} {a4 : T4} {a5 : T5} {a6 : T6} {K : T1 → T2 → T3 → T4 → T5 → T6 → Option β} {r : β} (h : nm (a1, a2, a3, a4, a5, a6).1 (fun x0 => nm (a1, a2, a3, a4, a5, a6).2.1 (fun x1 => nm (a1, a2, a3, a4, a5, a6).2.2.1 (fun x2 => nm (a1, a2, a3, a4, a5, a6).2.2.2.1 (fun x3 => nm (a1, a2, a3, a4, a5, a6).2.2.2.2.1 (fun x4 => nm (a1, a2, a3, a4, a5, a6).2.2.2.2.2 (fun x5 => K x0 x1 x2 x3 x4 x5)))))) = some r) : K a1 a2 a3 a4 a5 a6 = some r := h
theorem nm_7 {T1 T2 T3 T4 T5 T6 T7 β : Type} {a1 : T1} {a2 : T2} {a3 : T3} {a4 : T4} {a5 : T5} {a6 : T6} {a7 : T7} {K : T1 → T2 → T3 → T4 → T5 → T6 → T7 → Option β} {r : β} (h : nm (a1, a2, a3, a4, a5, a6, a7).1 (fun x0 => nm (a1, a2, a3, a4, a5, a6, a7).2.1 (fun x1 => nm (a1, a2, a3, a4, a5, a6, a7).2.2.1 (fun x2 => nm (a1, a2, a3, a4, a5, a6, a7).2.2.2.1 (fun x3 => nm (a1, a2, a3, a4, a5, a6, a7).2.2.2.2.1 (fun x4 => nm (a1, a2, a3, a4, a5, a6, a7).2.2.2.2.2.1 (fun x5 => nm (a1, a2, a3, a4, a5, a6, a7).2.2.2.2.2.2 (fun x6 => K x0 x1 x2 x3 x4 x5 x6))))))) = some r) : K a1 a2 a3 a4 a5 a6 a7 = some r := h
theorem nm_8 {T1 T2 T3 T4 T5 T6 T7 T8 β : Type} {a1 : T1} {a2 : T2} {a3 : T3} {a4 : T4} {a5 : T5} {a6 : T6} {a7 : T7} {a8 : T8} {K : T1 → T2 → T3 → T4 → T5 → T6 → T7 → T8 → Option β} {r : β} (h : nm (a1, a2, a3, a4, a5, a6, a7, a8).1 (fun x0 => nm (a1, a2, a3, a4, a5, a6, a7, a8).2.1 (fun x1 => nm (a1, a2, a3, a4, a5, a6, a7, a8).2.2.1 (fun x2 => nm (a1, a2, a3, a4, a5, a6, a7, a8).2.2.2.1 (fun x3 => nm (a1, a2, a3, a4, a5, a6, a7, a8).2.2.2.2.1 (fun x4 => nm (a1, a2, a3, a4, a5, a6, a7, a8).2.2.2.2.2.1 (fun x5 => nm (a1, a2, a3, a4, a5, a6, a7, a8).2.2.2.2.2.2.1 (fun x6 => nm (a1, a2, a3, a4, a5, a6, a7, a8).2.2.2.2.2.2.2 (fun x7 => K x0 x1 x2 x3 x4 x5 x6 x7)))))))) = some r) : K a1 a2 a3 a4 a5 a6 a7 a8 = some r := h
theorem nm_9 {T1 T2 T3 T4 T5 T6 T7 T8 T9 β : Type} {a1 : T1} {a2 : T2} {a3 : T3} {a4 : T4} {a5 : T5} {a6 : T6} {a7 : T7} {a8 : T8} {a9 : T9} {K : T1 → T2 → T3 → T4 → T5 → T6 → T7 → T8 → T9 → Option β} {r : β} (h : nm (a1, a2, a3, a4, a5, a6, a7, a8, a9).1 (fun x0 => nm (a1, a2, a3, a4, a5, a6, a7, a8, a9).2.1 (fun x1 => nm (a1, a2, a3, a4, a5, a6, a7, a8, a9).2.2.1 (fun x2 => nm (a1, a2, a3, a4, a5, a6, a7, a8, a9).2.2.2.1 (fun x3 => nm (a1, a2, a3, a4, a5, a6, a7, a8, a9).2.2.2.2.1 (fun x4 => nm (a1, a2, a3, a4, a5, a6, a7, a8, a9).2.2.2.2.2.1 (fun x5 => nm (a1, a2, a3, a4, a5, a6, a7, a8, a9).2.2.2.2.2.2.1 (fun x6 => nm (a1, a2, a3, a4, a5, a6, a7, a8, a9).2.2.2.2.2.2.2.1 (fun x7 => nm (a1, a2, a3, a4, a5, a6, a7, a8, a9).2.2.2.2.2.2.2.2 (fun x8 => K x0 x1 x2 x3 x4 x5 x6 x7 x8))))))))) = some r) : K a1 a2 a3 a4 a5 a6 a7 a8 a9 = some r := h
theorem nm_10 {T1 T2 T3 T4 T5 T6 T7 T8 T9 T10 β : Type} {a1 : T1} {a2 : T2} {a3 : T3} {a4 : T4} {a5 : T5} {a6 : T6} {a7 : T7} {a8 : T8} {a9 : T9} {b1 : T10} {K : T1 → T2 → T3 → T4 → T5 → T6 → T7 → T8 → T9 → T10 → Option β} {r : β} (h : nm (a1, a2, a3, a4, a5, a6, a7, a8, a9, b1).1 (fun x0 => nm (a1, a2, a3, a4, a5, a6, a7, a8, a9, b1).2.1 (fun x1 => nm (a1, a2, a3, a4, a5, a6, a7, a8, a9, b1).2.2.1 (fun x2 => nm (a1, a2, a3, a4, a5, a6, a7, a8, a9, b1).2.2.2.1 (fun x3 => nm (a1, a2, a3, a4, a5, a6, a7, a8, a9, b1).2.2.2.2.1 (fun x4 => nm (a1, a2, a3, a4, a5, a6, a7, a8, a9, b1).2.2.2.2.2.1 (fun x5 => nm (a1, a2, a3, a4, a5, a6, a7, a8, a9, b1).2.2.2.2.2.2.1 (fun x6 => nm (a1, a2, a3, a4, a5, a6, a7, a8, a9, b1).2.2.2.2.2.2.2.1 (fun x7 => nm (a1, a2, a3, a4, a5, a6, a7, a8, a9, b1).2.2.2.2.2.2.2.2.1 (fun x8 => nm (a1, a2, a3, a4, a5, a6, a7, a8, a9, b1).2.2.2.2.2.2.2.2.2 (fun x9 => K x0 x1 x2 x3 x4 x5 x6 x7 x8 x9)))))))))) = some r) : K a1 a2 a3 a4 a5 a6 a7 a8 a9 b1 = some r := h
theorem nm_11 {T1 T2 T3 T4 T5 T6 T7 T8 T9 T10 T11 β : Type} {a1 : T1} {a2 : T2} {a3 : T3} {a4 : T4} {a5 : T5} {a6 : T6} {a7 : T7} {a8 : T8} {a9 : T9} {b1 : T10} {b2 : T11} {K : T1 → T2 → T3 → T4 → T5 → T6 → T7 → T8 → T9 → T10 → T11 → Option β} {r : β} (h : nm (a1, a2, a3, a4, a5, a6, a7, a8, a9, b1, b2).1 (fun x0 => nm (a1, a2, a3, a4, a5, a6, a7, a8, a9, b1, b2).2.1 (fun x1 => nm (a1, a2, a3, a4, a5, a6, a7, a8, a9, b1, b2).2.2.1 (fun x2 => nm (a1, a2, a3, a4, a5, a6, a7, a8, a9, b1, b2).2.2.2.1 (fun x3 => nm (a1, a2, a3, a4, a5, a6, a7, a8, a9, b1, b2).2.2.2.2.1 (fun x4 => nm (a1, a2, a3, a4, a5, a6, a7, a8, a9, b1, b2).2.2.2.2.2.1 (fun x5 => nm (a1, a2, a3, a4, a5, a6, a7, a8, a9, b1, b2).2.2.2.2.2.2.1 (fun x6 => nm (a1, a2, a3, a4, a5, a6, a7, a8, a9, b1, b2).2.2.2.2.2.2.2.1 (fun x7 => nm (a1, a2, a3, a4, a5, a6, a7, a8, a9, b1, b2).2.2.2.2.2.2.2.2.1 (fun x8 => nm (a1, a2, a3, a4, a5, a6, a7, a8, a9, b1, b2).2.2.2.2.2.2.2.2.2.1 (fun x9 => nm (a1, a2, a3, a4, a5, a6, a7, a8, a9, b1, b2).2.2.2.2.2.2.2.2.2.2 (fun x10 => K x0 x1 x2 x3 x4 x5 x6 x7 x8 x9 x10))))))))))) = some r) : K a1 a2 a3 a4 a5 a6 a7 a8 a9 b1 b2 = some r := h
theorem nm_12 {T1 T2 T3 T4 T5 T6 T7 T8 T9 T10 T11 T12 β : Type} {a1 : T1} {a2 : T2} {a3 : T3} {a4 : T4} {a5 : T5} {a6 : T6} {a7 : T7} {a8 : T8} {a9 : T9} {b1 : T10} {b2 : T11} {b3 : T12} {K : T1 → T2 → T3 → T4 → T5 → T6 → T7 → T8 → T9 → T10 → T11 → T12 → Option β} {r : β} (h : nm (a1, a2, a3, a4, a5, a6, a7, a8, a9, b1, b2, b3).1 (fun x0 => nm (a1, a2, a3, a4, a5, a6, a7, a8, a9, b1, b2, b3).2.1 (fun x1 => nm (a1, a2, a3, a4, a5, a6, a7, a8, a9, b1, b2, b3).2.2.1 (fun x2 => nm (a1, a2, a3, a4, a5, a6, a7, a8, a9, b1, b2, b3).2.2.2.1 (fun x3 => nm (a1, a2, a3, a4, a5, a6, a7, a8, a9, b1, b2, b3).2.2.2.2.1 (fun x4 => nm (a1, a2, a3, a4, a5, a6, a7, a8, a9, b1, b2, b3).2.2.2.2.2.1 (fun x5 => nm (a1, a2, a3, a4, a5, a6, a7, a8, a9, b1, b2, b3).2.2.2.2.2.2.1 (fun x6 => nm (a1, a2, a3, a4, a5, a6, a7, a8, a9, b1, b2, b3).2.2.2.2.2.2.2.1 (fun x7 => nm (a1, a2, a3, a4, a5, a6, a7, a8, a9, b1, b2, b3).2.2.2.2.2.2.2.2.1 (fun x8 => nm (a1, a2, a3, a4, a5, a6, a7, a8, a9, b1, b2, b3).2.2.2.2.2.2.2.2.2.1 (fun x9 => nm (a1, a2, a3, a4, a5, a6, a7, a8, a9, b1, b2, b3).2.2.2.2.2.2.2.2.2.2.1 (fun x10 => nm (a1, a2, a3, a4, a5, a6, a7, a8, a9, b1, b2, b3).2.2.2.2.2.2.2.2.2.2.2 (fun x11 => K x0 x1 x2 x3 x4 x5 x6 x7 x8 x9 x10 x11)))))))))))) = some r) : K a1 a2 a3 a4 a5 a6 a7 a8 a9 b1 b2 b3 = some r := h
theorem nm_13 {T1 T2 T3 T4 T5 T6 T7 T8 T9 T10 T11 T12 T13 β : Type} {a1 : T1} {a2 : T2} {a3 : T3} {a4 : T4} {a5 : T5} {a6 : T6} {a7 : T7} {a8 : T8} {a9 : T9} {b1 : T10} {b2 : T11} {b3 : T12} {b4 : T13} {K : T1 → T2 → T3 → T4 → T5 → T6 → T7 → T8 → T9 → T10 → T11 → T12 → T13 → Option β} {r : β} (h : nm (a1, a2, a3, a4, a5, a6, a7, a8, a9, b1, b2, b3, b4).1 (fun x0 => nm (a1, a2, a3, a4, a5, a6, a7, a8, a9, b1, b2, b3, b4).2.1 (fun x1 => nm (a1, a2, a3, a4, a5, a6, a7, a8, a9, b1, b2, b3, b4).2.2.1 (fun x2 => nm (a1, a2, a3, a4, a5, a6, a7, a8, a9, b1, b2, b3, b4).2.2.2.1 (fun x3 => nm (a1, a2, a3, a4, a5, a6, a7, a8, a9, b1, b2, b3, b4).2.2.2.2.1 (fun x4 => nm (a1, a2, a3, a4, a5, a6, a7, a8, a9, b1, b2, b3, b4).2.2.2.2.2.1 (fun x5 => nm (a1, a2, a3, a4, a5, a6, a7, a8, a9, b1, b2, b3, b4).2.2.2.2.2.2.1 (fun x6 => nm (a1, a2, a3, a4, a5, a6, a7, a8, a9, b1, b2, b3, b4).2.2.2.2.2.2.2.1 (fun x7 => nm (a1, a2, a3, a4, a5, a6, a7, a8, a9, b1, b2, b3, b4).2.2.2.2.2.2.2.2.1 (fun x8 => nm (a1, a2, a3, a4, a5, a6, a7, a8, a9, b1, b2, b3, b4).2.2.2.2.2.2.2.2.2.1 (fun x9 => nm (a1, a2, a3, a4, a5, a6, a7, a8, a9, b1, b2, b3, b4).2.2.2.2.2.2.2.2.2.2.1 (fun x10 => nm (a1, a2, a3, a4, a5, a6, a7, a8, a9, b1, b2, b3, b4).2.2.2.2.2.2.2.2.2.2.2.1 (fun x11 => nm (a1, a2, a3, a4, a5, a6, a7, a8, a9, b1, b2, b3, b4).2.2.2.2.2.2.2.2.2.2.2.2 (fun x12 => K x0 x1 x2 x3 x4 x5 x6 x7 x8 x9 x10 x11 x12))))))))))))) = some r) : K a1 a2 a3 a4 a5 a6 a7 a8 a9 b1 b2 b3 b4 = some r := h
theorem nm_14 {T1 T2 T3 T4 T5 T6 T7 T8 T9 T10 T11 T12 T13 T14 β : Type} {a1 : T1} {a2 : T2} {a3 : T3} {a4 : T4} {a5 : T5} {a6 : T6} {a7 : T7} {a8 : T8} {a9 : T9} {b1 : T10} {b2 : T11} {b3 : T12} {b4 : T13} {b5 : T14} {K : T1 → T2 → T3 → T4 → T5 → T6 → T7 → T8 → T9 → T10 → T11 → T12 → T13 → T14 → Option β} {r : β} (h : nm (a1, a2, a3, a4, a5, a6, a7, a8, a9, b1, b2, b3, b4, b5).1 (fun x0 => nm (a1, a2, a3, a4, a5, a6, a7, a8, a9, b1, b2, b3, b4, b5).2.1 (fun x1 => nm (a1, a2, a3, a4, a5, a6, a7, a8, a9, b1, b2, b3, b4, b5).2.2.1 (fun x2 => nm (a1, a2, a3, a4, a5, a6, a7, a8, a9, b1, b2, b3, b4, b5).2.2.2.1 (fun x3 => nm (a1, a2, a3, a4, a5, a6, a7, a8, a9, b1, b2, b3, b4, b5).2.2.2.2.1 (fun x4 => nm (a1, a2, a3, a4, a5, a6, a7, a8, a9, b1, b2, b3, b4, b5).2.2.2.2.2.1 (fun x5 => nm (a1, a2, a3, a4, a5, a6, a7, a8, a9, b1, b2, b3, b4, b5).2.2.2.2.2.2.1 (fun x6 => nm (a1, a2, a3, a4, a5, a6, a7, a8, a9, b1, b2, b3, b4, b5).2.2.2.2.2.2.2.1 (fun x7 => nm (a1, a2, a3, a4, a5, a6, a7, a8, a9, b1, b2, b3, b4, b5).2.2.2.2.2.2.2.2.1 (fun x8 => nm (a1, a2, a3, a4, a5, a6, a7, a8, a9, b1, b2, b3, b4, b5).2.2.2.2.2.2.2.2.2.1 (fun x9 => nm (a1, a2, a3, a4, a5, a6, a7, a8, a9, b1, b2, b3, b4, b5).2.2.2.2.2.2.2.2.2.2.1 (fun x10 => nm (a1, a2, a3, a4, a5, a6, a7, a8, a9, b1, b2, b3, b4, b5).2.2.2.2.2.2.2.2.2.2.2.1 (fun x11 => nm (a1, a2, a3, a4, a5, a6, a7, a8, a9, b1, b2, b3, b4, b5).2.2.2.2.2.2.2.2.2.2.2.2.1 (fun x12 => nm (a1, a2, a3, a4, a5, a6, a7, a8, a9, b1, b2, b3, b4, b5).2.2.2.2.2.2.2.2.2.2.2.2.2 (fun x13 => K x0 x1 x2 x3 x4 x5 x6 x7 x8 x9 x10 x11 x12 x13)))))))))))))) = some r) : K a1 a2 a3 a4 a5 a6 a7 a8 a9 b1 b2 b3 b4 b5 = some r := h
theorem nm_15 {T1 T2 T3 T4 T5 T6 T7 T8 T9 T10 T11 T12 T13 T14 T15 β : Type} {a1 : T1} {a2 : T2} {a3 : T3} {a4 : T4} {a5 : T5} {a6 : T6} {a7 : T7} {a8 : T8} {a9 : T9} {b1 : T10} {b2 : T11} {b3 : T12} {b4 : T13} {b5 : T14} {b6 : T15} {K : T1 → T2 → T3 → T4 → T5 → T6 → T7 → T8 → T9 → T10 → T11 → T12 → T13 → T14 → T15 → Option β} {r : β} (h : nm (a1, a2, a3, a4, a5, a6, a7, a8, a9, b1, b2, b3, b4, b5, b6).1 (fun x0 => nm (a1, a2, a3, a4, a5, a6, a7, a8, a9, b1, b2, b3, b4, b5, b6).2.1 (fun x1 => nm (a1, a2, a3, a4, a5, a6, a7, a8, a9, b1, b2, b3, b4, b5, b6).2.2.1 (fun x2 => nm (a1, a2, a3, a4, a5, a6, a7, a8, a9, b1, b2, b3, b4, b5, b6).2.2.2.1 (fun x3 => nm (a1, a2, a3, a4, a5, a6, a7, a8, a9, b1, b2, b3, b4, b5, b6).2.2.2.2.1 (fun x4 => nm (a1, a2, a3, a4, a5, a6, a7, a8, a9, b1, b2, b3, b4, b5, b6).2.2.2.2.2.1 (fun x5 => nm (a1, a2, a3, a4, a5, a6, a7, a8, a9, b1, b2, b3, b4, b5, b6).2.2.2.2.2.2.1 (fun x6 => nm (a1, a2, a3, a4, a5, a6, a7, a8, a9, b1, b2, b3, b4, b5, b6).2.2.2.2.2.2.2.1 (fun x7 => nm (a1, a2, a3, a4, a5, a6, a7, a8, a9, b1, b2, b3, b4, b5, b6).2.2.2.2.2.2.2.2.1 (fun x8 => nm (a1, a2, a3, a4, a5, a6, a7, a8, a9, b1, b2, b3, b4, b5, b6).2.2.2.2.2.2.2.2.2.1 (fun x9 => nm (a1, a2, a3, a4, a5, a6, a7, a8, a9, b1, b2, b3, b4, b5, b6).2.2.2.2.2.2.2.2.2.2.1 (fun x10 => nm (a1, a2, a3, a4, a5, a6, a7, a8, a9, b1, b2, b3, b4, b5, b6).2.2.2.2.2.2.2.2.2.2.2.1 (fun x11 => nm (a1, a2, a3, a4, a5, a6, a7, a8, a9, b1, b2, b3, b4, b5, b6).2.2.2.2.2.2.2.2.2.2.2.2.1 (fun x12 => nm (a1, a2, a3, a4, a5, a6, a7, a8, a9, b1, b2, b3, b4, b5, b6).2.2.2.2.2.2.2.2.2.2.2.2.2.1 (fun x13 => nm (a1, a2, a3, a4, a5, a6, a7, a8, a9, b1, b2, b3, b4, b5, b6).2.2.2.2.2.2.2.2.2.2.2.2.2.2 (fun x14 => K x0 x1 x2 x3 x4 x5 x6 x7 x8 x9 x10 x11 x12 x13 x14))))))))))))))) = some r) : K a1 a2 a3 a4 a5 a6 a7 a8 a9 b1 b2 b3 b4 b5 b6 = some r := h
theorem nm_16 {T1 T2 T3 T4 T5 T6 T7 T8 T9 T10 T11 T12 T13 T14 T15 T16 β : Type} {a1 : T1} {a2 : T2} {a3 : T3} {a4 : T4} {a5 : T5} {a6 : T6} {a7 : T7} {a8 : T8} {a9 : T9} {b1 : T10} {b2 : T11} {b3 : T12} {b4 : T13} {b5 : T14} {b6 : T15} {b7 : T16} {K : T1 → T2 → T3 → T4 → T5 → T6 → T7 → T8 → T9 → T10 → T11 → T12 → T13 → T14 → T15 → T16 → Option β} {r : β} (h : nm (a1, a2, a3, a4, a5, a6, a7, a8, a9, b1, b2, b3, b4, b5, b6, b7).1 (fun x0 => nm (a1, a2, a3, a4, a5, a6, a7, a8, a9, b1, b2, b3, b4, b5, b6, b7).2.1 (fun x1 => nm (a1, a2, a3, a4, a5, a6, a7, a8, a9, b1, b2, b3, b4, b5, b6, b7).2.2.1 (fun x2 => nm (a1, a2, a3, a4, a5, a6, a7, a8, a9, b1, b2, b3, b4, b5, b6, b7).2.2.2.1 (fun x3 => nm (a1, a2, a3, a4, a5, a6, a7, a8, a9, b1, b2, b3, b4, b5, b6, b7).2.2.2.2.1 (fun x4 => nm (a1, a2, a3, a4, a5, a6, a7, a8, a9, b1, b2, b3, b4, b5, b6, b7).2.2.2.2.2.1 (fun x5 => nm (a1, a2, a3, a4, a5, a6, a7, a8, a9, b1, b2, b3, b4, b5, b6, b7).2.2.2.2.2.2.1 (fun x6 => nm (a1, a2, a3, a4, a5, a6, a7, a8, a9, b1, b2, b3, b4, b5, b6, b7).2.2.2.2.2.2.2.1 (fun x7 => nm (a1, a2, a3, a4, a5, a6, a7, a8, a9, b1, b2, b3, b4, b5, b6, b7).2.2.2.2.2.2.2.2.1 (fun x8 => nm (a1, a2, a3, a4, a5, a6, a7, a8, a9, b1, b2, b3, b4, b5, b6, b7).2.2.2.2.2.2.2.2.2.1 (fun x9 => nm (a1, a2, a3, a4, a5, a6, a7, a8, a9, b1, b2, b3, b4, b5, b6, b7).2.2.2.2.2.2.2.2.2.2.1 (fun x10 => nm (a1, a2, a3, a4, a5, a6, a7, a8, a9, b1, b2, b3, b4, b5, b6, b7).2.2.2.2.2.2.2.2.2.2.2.1 (fun x11 => nm (a1, a2, a3, a4, a5, a6, a7, a8, a9, b1, b2, b3, b4, b5, b6, b7).2.2.2.2.2.2.2.2.2.2.2.2.1 (fun x12 => nm (a1, a2, a3, a4, a5, a6, a7, a8, a9, b1, b2, b3, b4, b5, b6, b7).2.2.2.2.2.2.2.2.2.2.2.2.2.1 (fun x13 => nm (a1, a2, a3, a4, a5, a6, a7, a8, a9, b1, b2, b3, b4, b5, b6, b7).2.2.2.2.2.2.2.2.2.2.2.2.2.2.1 (fun x14 => nm (a1, a2, a3, a4, a5, a6, a7, a8, a9, b1, b2, b3, b4, b5, b6, b7).2.2.2.2.2.2.2.2.2.2.2.2.2.2.2 (fun x15 => K x0 x1 x2 x3 x4 x5 x6 x7 x8 x9 x10 x11 x12 x13 x14 x15)))))))))))))))) = some r) : K a1 a2 a3 a4 a5 a6 a7 a8 a9 b1 b2 b3 b4 b5 b6 b7 = some r := h
def swAll (x : Int32) : List Int32 → Prop
  | [] => True
  | k :: L => ¬ x = k ∧ swAll x L
theorem swAll_in {x : Int32} : ∀ {L : List Int32} {k : Int32}, swAll x L → k ∈ L → ¬ x = k
  | [], _, _, h => absurd h List.not_mem_nil
  | a :: L, k, h, hk => by
    rcases List.mem_cons.mp hk with rfl | q
    · exact h.1
    · exact swAll_in h.2 q
theorem z_swl {x : Int32} {hi : Int} (L : List Int32) (h : swAll x L) (hd : ((List.range (hi.toNat + 1)).all fun j => decide (nI j ∈ L)) = true) : ∀ j : Nat, (j : Int) ≤ hi → ¬ x = nI j := by
  intro j hj
  have h1 := List.all_eq_true.mp hd j (List.mem_range.mpr (by omega))
  exact swAll_in h (of_decide_eq_true h1)
theorem z_sp {β : Type} {c1 : Prop} [Decidable c1] {a1 b1 : Option β} {res : β} {P : Prop} (hm : (if c1 then a1 else b1) = some res) (ka : c1 → a1 = some res → P) (kb : ¬ c1 → b1 = some res → P) : P := by
  by_cases h : c1
  · exact ka h ((if_el hm).1 h)
  · exact kb h ((if_el hm).2 h)
/-! The tables' good words, the nest's links and the static arrays. -/
def TB : List Cond := lw_tbl.filter goodWord
theorem tb_in {w : Cond} (i : Nat) (h : lw_tbl[i]? = some w) (hg : goodWord w = true) : w ∈ TB := List.mem_filter.mpr ⟨List.mem_of_getElem? h, hg⟩
theorem tb_good {y : MethodName} {b : ByteArray} {n : Nat} {r : Option FieldType} (h : Cond.code y b n r ∈ TB) : GoodIn TB (Cond.code y b n r :: TB) := by
  intro w hw
  have h1 : w ∈ TB := by
    rcases List.mem_cons.mp hw with rfl | q
    · exact h
    · exact q
  exact ⟨h1, good_of_word (List.mem_filter.mp h1).2⟩

def zb {β : Type} (x : Int32) (k : Option β) : Option β := if x = 0 ∨ x = 1 then k else none
theorem zb_el {β : Type} {x : Int32} {k : Option β} {r : β} (h : zb x k = some r) : narrow .boolean (.int x) = .int x ∧ k = some r := by
  unfold zb at h
  split at h
  · rename_i h0
    refine ⟨?_, h⟩
    rcases h0 with rfl | rfl <;> rfl
  · cases h
def nestWs : List Cond := [.methodLinkNest "DeepChannel" 9 ⟨"DeepChannel$Shape", "<init>", "()V"⟩ "DeepChannel", .fieldLinkNest "DeepChannel$Words" 66 "DeepChannel$Shape" "depth" "I" "DeepChannel", .fieldLinkNest "DeepChannel$Receiver" 71 "DeepChannel$Shape" "depth" "I" "DeepChannel", .fieldLinkNest "DeepChannel$Words" 72 "DeepChannel$Shape" "wordBytes" "I" "DeepChannel", .fieldLinkNest "DeepChannel$Words" 44 "DeepChannel$Shape" "e" "I" "DeepChannel", .fieldLinkNest "DeepChannel$Coder" 48 "DeepChannel$Shape" "pattern" "I" "DeepChannel", .fieldLinkNest "DeepChannel$Receiver" 82 "DeepChannel$Shape" "pattern" "I" "DeepChannel", .methodLinkNest "DeepChannel" 37 ⟨"DeepChannel$BitRow", "<init>", "()V"⟩ "DeepChannel", .methodLinkNest "DeepChannel$Receiver" 20 ⟨"DeepChannel$BitRow", "<init>", "()V"⟩ "DeepChannel", .methodLinkNest "DeepChannel$Sender" 59 ⟨"DeepChannel", "checkOf", "([III)I"⟩ "DeepChannel", .methodLinkNest "DeepChannel$Receiver" 91 ⟨"DeepChannel", "mirrored", "(JI)I"⟩ "DeepChannel", .methodLinkNest "DeepChannel$Receiver" 135 ⟨"DeepChannel", "checkOf", "([III)I"⟩ "DeepChannel"]
def stO (j : Nat) : Int32 := [123, 175, 153, 250, 134, 236, 239, 141].getD j 0
def stP (j : Nat) : Int32 := [1, 2, 3, 5, 7].getD j 0
def stF (j : Nat) : Int32 := [1, 2, 5, 21, 69].getD j 0
def stS (j : Nat) : Int32 := [1, 3, 6, 26, 122].getD j 0
/-- what every method is given beside its cells: the nest's links, and the four static arrays, which lie outside of A -/
def EX (tt : Nat → Nat) (A : Nat → Prop) (U : State) : Prop := (∀ w ∈ nestWs, va_Nw w U) ∧
  (va_Z "DeepChannel$Field" "OTHER_FORM_OF_BIT" "[I" (.ref (tt 0)) A U U.heap ∧ va_T .int (tt 0) 8 (fun j => .int (stO j)) A U U.heap) ∧
  (va_Z "DeepChannel$Coder" "PERIODS" "[I" (.ref (tt 1)) A U U.heap ∧ va_T .int (tt 1) 5 (fun j => .int (stP j)) A U U.heap) ∧
  (va_Z "DeepChannel$Coder" "FIRST_KEPT" "[I" (.ref (tt 2)) A U U.heap ∧ va_T .int (tt 2) 5 (fun j => .int (stF j)) A U U.heap) ∧
  (va_Z "DeepChannel$Coder" "SECOND_KEPT" "[I" (.ref (tt 3)) A U U.heap ∧ va_T .int (tt 3) 5 (fun j => .int (stS j)) A U U.heap)
theorem nest_warm {s U : State} (hW : s.WarmedH U.vm) (h : ∀ w ∈ nestWs, va_Nw w s) : ∀ w ∈ nestWs, va_Nw w U := by
  intro w hw
  have h1 := h w hw
  simp only [nestWs, List.mem_cons, List.not_mem_nil, or_false] at hw
  rcases hw with rfl | rfl | rfl | rfl | rfl | rfl | rfl | rfl | rfl | rfl | rfl | rfl <;> first | exact va_Nw.warmF hW h1 | exact va_Nw.warmM hW h1
theorem nest_same {u U : State} (hv : u.vm = U.vm) (h : ∀ w ∈ nestWs, va_Nw w u) : ∀ w ∈ nestWs, va_Nw w U := by
  intro w hw
  have h1 := h w hw
  simp only [nestWs, List.mem_cons, List.not_mem_nil, or_false] at hw
  rcases hw with rfl | rfl | rfl | rfl | rfl | rfl | rfl | rfl | rfl | rfl | rfl | rfl <;> exact va_Nw.same rfl hv h1
theorem ex_one {C n d : String} {t N : Nat} {f : Nat → Value} {A B : Nat → Prop} {s U : State} {H : Heap} {locs : List Loc} (h : va_Z C n d (.ref t) A s s.heap ∧ va_T .int t N f A s s.heap) (hS : va_S A s.heap H locs) (hAB : ∀ q, B q → A q) (hU : U.heap = H) (hW : s.WarmedH U.vm) :
    va_Z C n d (.ref t) B U U.heap ∧ va_T .int t N f B U U.heap := by
  rw [hU]
  exact ⟨((h.1.kept hS.2.1).narrow hAB).moved hW.alike, ((h.2.kept hS.2.1).narrow hAB).moved hW.alike⟩
theorem EX.call {tt : Nat → Nat} {A B : Nat → Prop} {s U : State} {H : Heap} {locs : List Loc} (h : EX tt A s) (hS : va_S A s.heap H locs) (hAB : ∀ q, B q → A q) (hU : U.heap = H) (hW : s.WarmedH U.vm) : EX tt B U :=
  ⟨nest_warm hW h.1, ex_one h.2.1 hS hAB hU hW, ex_one h.2.2.1 hS hAB hU hW, ex_one h.2.2.2.1 hS hAB hU hW, ex_one h.2.2.2.2 hS hAB hU hW⟩
theorem EX.calling {tt : Nat → Nat} {A : Nat → Prop} {U : State} {g : JFrame} {mk : MethodId} {a : Array Value} (h : EX tt A U) : EX tt A (U.calling g mk a) :=
  ⟨nest_same (u := U) (U := U.calling g mk a) rfl h.1, ⟨va_Z.moved (u := U) (U := U.calling g mk a) (Vm.Alike.refl U.vm) h.2.1.1, va_T.moved (u := U) (U := U.calling g mk a) (Vm.Alike.refl U.vm) h.2.1.2⟩, ⟨va_Z.moved (u := U) (U := U.calling g mk a) (Vm.Alike.refl U.vm) h.2.2.1.1, va_T.moved (u := U) (U := U.calling g mk a) (Vm.Alike.refl U.vm) h.2.2.1.2⟩, ⟨va_Z.moved (u := U) (U := U.calling g mk a) (Vm.Alike.refl U.vm) h.2.2.2.1.1, va_T.moved (u := U) (U := U.calling g mk a) (Vm.Alike.refl U.vm) h.2.2.2.1.2⟩, ⟨va_Z.moved (u := U) (U := U.calling g mk a) (Vm.Alike.refl U.vm) h.2.2.2.2.1, va_T.moved (u := U) (U := U.calling g mk a) (Vm.Alike.refl U.vm) h.2.2.2.2.2⟩⟩
/-- a method's start, and its end -/
abbrev tys2 (cI cJ : ClassId) : List (ClassId × FieldType) := [(cI, .int), (cJ, .long)]
def PCx (D : va_G) (cI cJ : ClassId) (tt : Nat → Nat) (ws : va_W) (sz : Nat) : State → Prop := fun U => U.heap.size = sz ∧ va_P D classes ws U.heap ∧ va_K D classes (tys2 cI cJ) U ∧ va_D (fun _ => True) ws ∧ EX tt (va_A ws sz) U
def POx (D : va_G) (cI cJ : ClassId) (ws' : va_W) (A : Nat → Prop) : State → Prop := fun t => va_P D classes ws' t.heap ∧ va_K D classes (tys2 cI cJ) t ∧ va_D A ws'
theorem PCx.blind {D : va_G} {cI cJ : ClassId} {tt : Nat → Nat} {ws : va_W} {sz : Nat} {av : List Value} : FrameBlind (va_Pc av (PCx D cI cJ tt ws sz)) := fun a U g mk q => by
  obtain ⟨q0, q1, qP, qK, qD, qE⟩ := q
  exact ⟨q0, q1, qP, va_K.moved (u := U) (U := U.calling g mk a) (Vm.Alike.refl U.vm) qK, qD, qE.calling⟩
abbrev WD (y : MethodName) (b : ByteArray) (n : Nat) (r : Option FieldType) : List Cond := Cond.code y b n r :: TB
def CTi (l : Launch) (y : MethodName) (b : ByteArray) (n : Nat) (r : Option FieldType) (rm : Room) (D : va_G) (cI cJ : ClassId) (tt : Nat → Nat) (av : List Value) (wc wc' : va_W) (sz : Nat) (v : Int32) : Prop :=
  Met l y (WD y b n r) rm (va_Pc av (PCx D cI cJ tt wc sz)) (va_Qi (fun (r' : Int32) (_ : Unit) => r' = v) (fun _ t => POx D cI cJ wc' (va_A wc sz) t) (va_A wc sz)) 0 0 (va_A wc sz)
def CTl (l : Launch) (y : MethodName) (b : ByteArray) (n : Nat) (r : Option FieldType) (rm : Room) (D : va_G) (cI cJ : ClassId) (tt : Nat → Nat) (av : List Value) (wc wc' : va_W) (sz : Nat) (v : Int64) : Prop :=
  Met l y (WD y b n r) rm (va_Pc av (PCx D cI cJ tt wc sz)) (va_Ql (fun (r' : Int64) (_ : Unit) => r' = v) (fun _ t => POx D cI cJ wc' (va_A wc sz) t) (va_A wc sz)) 0 0 (va_A wc sz)
def CTv (l : Launch) (y : MethodName) (b : ByteArray) (n : Nat) (r : Option FieldType) (rm : Room) (D : va_G) (cI cJ : ClassId) (tt : Nat → Nat) (av : List Value) (wc wc' : va_W) (sz : Nat) : Prop :=
  Met l y (WD y b n r) rm (va_Pc av (PCx D cI cJ tt wc sz)) (va_Qv (fun (_ : Unit) => True) (fun _ t => POx D cI cJ wc' (va_A wc sz) t) (va_A wc sz)) 0 0 (va_A wc sz)
/-- what the tables say of a method that is called: an instance method of class C; a static one -/
def OKv (y : MethodName) (b : ByteArray) (n : Nat) (r : Option FieldType) (C : String) (k : Nat) : Prop := Cond.code y b n r ∈ TB ∧ Cond.instanceMethod y ∈ TB ∧ Cond.selects C y y ∈ TB ∧ Cond.initialized y.cls ∈ TB ∧ (y.cls ≠ "java/lang/invoke/MethodHandle" ∧ y.cls ≠ "java/lang/invoke/VarHandle" ∧ (parseMethodDescriptor y.desc).map (fun d => d.parameters.length) = some k)
def OKs (y : MethodName) (b : ByteArray) (n : Nat) (r : Option FieldType) (k : Nat) : Prop := Cond.code y b n r ∈ TB ∧ Cond.static y ∈ TB ∧ Cond.initialized y.cls ∈ TB ∧ (y.cls ≠ "java/lang/invoke/MethodHandle" ∧ y.cls ≠ "java/lang/invoke/VarHandle" ∧ (parseMethodDescriptor y.desc).map (fun d => d.parameters.length) = some k)
abbrev RM (f lo : Nat) : Room := { frames := f, cells := 0, slots := 0, locals := lo }
section ZR
variable {p : Program} {l : Launch} {e : Env} {R : Room} {s : State} {m : MethodId} {args : Array Value} {below : List Frame} {meth : Method} {c : Code} {H : Heap} {locs : List Loc} {cells slots : Nat} {Q : State → Prop}
variable {cc : ByteArray} {pc : Nat} {ls : Array Slot} {rest : List Value} {D : va_G} {cI cJ : ClassId} {tt : Nat → Nat} {A : Nat → Prop} {a : Nat} {ws : va_W} {nL : Nat} {own : String} {β : Type} {res : β}
theorem z_nmi {x : Int32} {K : Int32 → Option β} (hm : nm x K = some res) (k : ∀ y, K y = some res → W p l e R s m args below meth c H locs cells slots Q (F0 m pc ls (.int y :: rest))) : W p l e R s m args below meth c H locs cells slots Q (F0 m pc ls (.int x :: rest)) := k x hm
theorem z_nml {x : Int64} {K : Int64 → Option β} (hm : nm x K = some res) (k : ∀ y, K y = some res → W p l e R s m args below meth c H locs cells slots Q (F0 m pc ls (.long y :: rest))) : W p l e R s m args below meth c H locs cells slots Q (F0 m pc ls (.long x :: rest)) := k x hm
theorem z_if {c1 : Prop} [Decidable c1] {a1 b1 : Option β} {P P1 P2 : Prop} (hm : (if c1 then a1 else b1) = some res) (row : (c1 → P1) → (¬ c1 → P2) → P) (ka : a1 = some res → P1) (kb : b1 = some res → P2) : P := row (fun q => ka ((if_el hm).1 q)) (fun q => kb ((if_el hm).2 q))
theorem z_ifn {c1 : Prop} [Decidable c1] {a1 b1 : Option β} {P P1 P2 : Prop} (hm : (if c1 then a1 else b1) = some res) (row : (¬ c1 → P2) → (c1 → P1) → P) (ka : a1 = some res → P1) (kb : b1 = some res → P2) : P := row (fun q => kb ((if_el hm).2 q)) (fun q => ka ((if_el hm).1 q))
theorem z_swin {x k : Int32} {dflt lo hi : Int} {offs : Array Int} {len : Nat} {off : Int} {tgt : Nat} (hk : x = k) (hexec : p.tables.exec = Jvm.exec) (hb : c.code = cc) (hdg : decode cc pc = .ok (.tableswitch dflt lo hi offs, len)) (h1 : ¬ k.toInt < lo) (h2 : ¬ hi < k.toInt) (ho : offs[(k.toInt - lo).toNat]? = some off) (ht : (pc : Int) + off = (tgt : Int)) (kk : W p l e R s m args below meth c H locs cells slots Q (F0 m tgt ls rest)) : W p l e R s m args below meth c H locs cells slots Q (F0 m pc ls (.int x :: rest)) := by
  subst hk
  exact lv_tableIn hexec hb hdg h1 h2 ho ht kk
theorem z_swout {x : Int32} {dflt hi : Int} {offs : Array Int} {len : Nat} {tgt : Nat} (h : ∀ j : Nat, (j : Int) ≤ hi → ¬ x = nI j) (hh : hi < 1000) (hexec : p.tables.exec = Jvm.exec) (hb : c.code = cc) (hdg : decode cc pc = .ok (.tableswitch dflt 0 hi offs, len)) (ht : (pc : Int) + dflt = (tgt : Int)) (kk : W p l e R s m args below meth c H locs cells slots Q (F0 m tgt ls rest)) : W p l e R s m args below meth c H locs cells slots Q (F0 m pc ls (.int x :: rest)) := by
  refine lv_tableOut hexec hb hdg ?_ ht kk
  by_cases h0 : x.toInt < 0
  · exact Or.inl h0
  · refine Or.inr ?_
    apply Int.not_le.mp
    intro hle
    have h1 : ¬ x < 0 := fun q => h0 (by simpa using Int32.lt_iff_toInt_lt.mp q)
    obtain ⟨j, hj, rfl⟩ := nI_of h1
    rw [nI_toInt hj] at hle
    exact h j hle rfl
theorem z_iald {f : Nat → Int32} {n : Nat} {i : Int32} {K : Int32 → Option β} (hm : rdI f n i K = some res) (hexec : p.tables.exec = Jvm.exec) (hb : c.code = cc) (hK : va_K D classes (tys2 cI cJ) s) (hP : va_P D classes ws H) (q0 : Nat) (ha : ws[q0]? = some (a, .inl (cI, n, .inl f))) (hdg : decode cc pc = .ok (.iaload, 1))
    (kk : ∀ v, K v = some res → W p l e R s m args below meth c H locs cells slots Q (F0 m (pc + 1) ls (.int v :: rest))) : W p l e R s m args below meth c H locs cells slots Q (F0 m pc ls (.int i :: .ref a :: rest)) :=
  va_iald hexec hb hK hP q0 0 ha rfl (rdI_el hm).1 hdg (kk _ (rdI_el hm).2)
theorem z_lald {f : Nat → Int64} {n : Nat} {i : Int32} {K : Int64 → Option β} (hm : rdL f n i K = some res) (hexec : p.tables.exec = Jvm.exec) (hb : c.code = cc) (hK : va_K D classes (tys2 cI cJ) s) (hP : va_P D classes ws H) (q0 : Nat) (ha : ws[q0]? = some (a, .inl (cJ, n, .inr (.inl f)))) (hdg : decode cc pc = .ok (.laload, 1))
    (kk : ∀ v, K v = some res → W p l e R s m args below meth c H locs cells slots Q (F0 m (pc + 1) ls (.long v :: rest))) : W p l e R s m args below meth c H locs cells slots Q (F0 m pc ls (.int i :: .ref a :: rest)) :=
  va_lald hexec hb hK hP q0 1 ha rfl (rdL_el hm).1 hdg (kk _ (rdL_el hm).2)
theorem z_iast {f : Nat → Int32} {n : Nat} {i x : Int32} {K : (Nat → Int32) → Option β} (hm : wrI f n i x K = some res) (hexec : p.tables.exec = Jvm.exec) (hb : c.code = cc) (hK : va_K D classes (tys2 cI cJ) s) (hP : va_P D classes ws H) (hD : va_D A ws) (hS : va_S A s.heap H locs) (q0 : Nat) (ha : ws[q0]? = some (a, .inl (cI, n, .inl f))) (hdg : decode cc pc = .ok (.iastore, 1))
    (kk : ∀ g, K g = some res → ∀ (H1 : Heap) (locs1 : List Loc), va_P D classes (ws.set q0 (a, .inl (cI, n, .inl g))) H1 → va_D A (ws.set q0 (a, .inl (cI, n, .inl g))) → va_S A s.heap H1 locs1 → W p l e R s m args below meth c H1 locs1 cells slots Q (F0 m (pc + 1) ls rest)) : W p l e R s m args below meth c H locs cells slots Q (F0 m pc ls (.int x :: .int i :: .ref a :: rest)) :=
  va_iast hexec hb hK hP hD hS q0 0 ha rfl (wrI_el hm).1 hdg (kk _ (wrI_el hm).2)
theorem z_last {f : Nat → Int64} {n : Nat} {i : Int32} {x : Int64} {K : (Nat → Int64) → Option β} (hm : wrL f n i x K = some res) (hexec : p.tables.exec = Jvm.exec) (hb : c.code = cc) (hK : va_K D classes (tys2 cI cJ) s) (hP : va_P D classes ws H) (hD : va_D A ws) (hS : va_S A s.heap H locs) (q0 : Nat) (ha : ws[q0]? = some (a, .inl (cJ, n, .inr (.inl f)))) (hdg : decode cc pc = .ok (.lastore, 1))
    (kk : ∀ g, K g = some res → ∀ (H1 : Heap) (locs1 : List Loc), va_P D classes (ws.set q0 (a, .inl (cJ, n, .inr (.inl g)))) H1 → va_D A (ws.set q0 (a, .inl (cJ, n, .inr (.inl g)))) → va_S A s.heap H1 locs1 → W p l e R s m args below meth c H1 locs1 cells slots Q (F0 m (pc + 1) ls rest)) : W p l e R s m args below meth c H locs cells slots Q (F0 m pc ls (.long x :: .int i :: .ref a :: rest)) :=
  va_last hexec hb hK hP hD hS q0 1 ha rfl (wrL_el hm).1 hdg (kk _ (wrL_el hm).2)
theorem z_irem {x y : Int32} {K : Option β} (hm : dv y K = some res) (hexec : p.tables.exec = Jvm.exec) (hb : c.code = cc) (hdg : decode cc pc = .ok (.irem, 1)) (k : K = some res → W p l e R s m args below meth c H locs cells slots Q (F0 m (pc + 1) ls (.int (x - x / y * y) :: rest))) : W p l e R s m args below meth c H locs cells slots Q (F0 m pc ls (.int y :: .int x :: rest)) :=
  lv_irem hexec hb hdg (dv_el hm).1 (k (dv_el hm).2)
theorem z_tI {C n d : String} {t N : Nat} {f : Nat → Int32} {i : Int32} {K : Int32 → Option β} (hm : rdI f N i K = some res) (hexec : p.tables.exec = Jvm.exec) (hb : c.code = cc) (hT : va_Z C n d (.ref t) A s s.heap ∧ va_T .int t N (fun j => .int (f j)) A s s.heap) (hS : va_S A s.heap H locs) (hdg : decode cc pc = .ok (.iaload, 1))
    (kk : ∀ v, K v = some res → W p l e R s m args below meth c H locs cells slots Q (F0 m (pc + 1) ls (.int v :: rest))) : W p l e R s m args below meth c H locs cells slots Q (F0 m pc ls (.int i :: .ref t :: rest)) :=
  va_ti hexec hb hT.2 hS (rdI_el hm).1 rfl hdg (kk _ (rdI_el hm).2)
theorem z_gets {C n d : String} {t N index : Nat} {f : Nat → Value} (hT : va_Z C n d (.ref t) A s s.heap ∧ va_T .int t N f A s s.heap) (hexec : p.tables.exec = Jvm.exec) (hb : c.code = cc) (hS : va_S A s.heap H locs) (hown : s.vm.findClass own = some m.cls) (hts : ∀ w ∈ TB, w.before args s = true) (hlink : Cond.fieldLink own index C n d ∈ TB) (hdg : decode cc pc = .ok (.getstatic index, 3))
    (kk : W p l e R s m args below meth c H locs cells slots Q (F0 m (pc + 3) ls (.ref t :: rest))) : W p l e R s m args below meth c H locs cells slots Q (F0 m pc ls rest) :=
  va_gets hexec hb hT.1 hS hown (hts _ hlink) (fun _ h => h) hdg kk
theorem z_cpI {f g : Nat → Int32} {nf ng : Nat} {sp dp n : Int32} {a0 index : Nat} {K : (Nat → Int32) → Option β} (hm : cpI f nf g ng sp dp n K = some res) (hexec : p.tables.exec = Jvm.exec) (hb : c.code = cc) (hml : c.maxLocals = nL) (hsz : ls.size = nL) (hown : s.vm.findClass own = some m.cls) (hts : ∀ w ∈ TB, w.before args s = true) (hlink : Cond.methodLink own index arraycopyName ∈ TB) (hnat : Cond.native arraycopyName ∈ TB) (hstat : Cond.static arraycopyName ∈ TB) (hini : Cond.initialized "java/lang/System" ∈ TB)
    (hK : va_K D classes (tys2 cI cJ) s) (hP : va_P D classes ws H) (hD : va_D A ws) (hS : va_S A s.heap H locs) (q0 q1 : Nat) (ha0 : ws[q0]? = some (a0, .inl (cI, nf, .inl f))) (ha1 : ws[q1]? = some (a, .inl (cI, ng, .inl g))) (hframes : 1 ≤ R.frames) (hlocals : (rest.map fun v => v.category).sum + (nativeFrameWords "java/lang/System" "arraycopy" 5 + 11) ≤ R.locals) (hdg : decode cc pc = .ok (.invokestatic index, 3))
    (kk : ∀ g', K g' = some res → ∀ (H1 : Heap) (locs1 : List Loc), va_P D classes (ws.set q1 (a, .inl (cI, ng, .inl g'))) H1 → va_D A (ws.set q1 (a, .inl (cI, ng, .inl g'))) → va_S A s.heap H1 locs1 → W p l e R s m args below meth c H1 locs1 cells slots Q (F0 m (pc + 3) ls rest)) : W p l e R s m args below meth c H locs cells slots Q (F0 m pc ls (.int n :: .int dp :: .ref a :: .int sp :: .ref a0 :: rest)) := by
  obtain ⟨⟨h1, h2, h3, h4, h5⟩, h6⟩ := cpI_el hm
  exact va_copyi hexec hb (hml.trans hsz.symm) hown (hts _ hlink) (hts _ hnat) (hts _ hstat) (hts _ hini) hK hP hD hS q0 q1 0 0 ha0 ha1 rfl rfl rfl h1 h2 h3 h4 h5 (fun _ _ => rfl) hframes hlocals hdg (kk _ h6)
theorem z_entry {vs : List Value} {n : Nat} (h : args = vs.toArray) (hn : (lg_sl vs).length ≤ n) (k : ∀ ls, lv_has ls n (lv_args 0 vs) → W p l e R s m args below meth c H locs cells slots Q (F0 m 0 ls [])) : W p l e R s m args below meth c H locs cells slots Q (entryFrame m args n) := by
  have he : entryFrame m args n = F0 m 0 ((lg_sl vs ++ List.replicate (n - (lg_sl vs).length) Slot.unset).toArray) [] := by rw [h]; exact lg_entry_eq m vs n
  rw [he]
  exact k _ (lv_entry vs hn)
theorem z_qi {Q1 : State → Prop} {g : JFrame} (k : ∀ Q0, Q0 = Q1 → W p l e R s m args below meth c H locs cells slots Q0 g) : W p l e R s m args below meth c H locs cells slots Q1 g := k _ rfl
theorem z_qo {Q0 Q1 : State → Prop} {g : JFrame} (h : Q0 = Q1) (k : W p l e R s m args below meth c H locs cells slots Q1 g) : W p l e R s m args below meth c H locs cells slots Q0 g := by rw [h]; exact k
theorem z_ireti {v : Int32} (hr : meth.sig.returnType = some .int) (hexec : p.tables.exec = Jvm.exec) (hb : c.code = cc) (hlocks : meth.locks = false) (hK : va_K D classes (tys2 cI cJ) s) (hP : va_P D classes ws H) (hD : va_D A ws) (hS : va_S A s.heap H locs) (hdg : decode cc pc = .ok (.ireturn, 1)) :
    W p l e R s m args below meth c H locs cells slots (MQ below (va_Qi (fun (r' : Int32) (_ : Unit) => r' = v) (fun _ t => POx D cI cJ ws A t) A) args s cells slots A) (F0 m pc ls [.int v]) :=
  W.iret (v := v) hexec hb hr (fun t ht hW => ⟨⟨v, (), rfl, rfl, by rw [ht]; exact hP, va_K.moved hW.alike hK, hD⟩, hS.F ht⟩) hS.2.2 hdg hlocks
theorem z_iretz {v : Int32} (hn : narrow .boolean (.int v) = .int v) (hr : meth.sig.returnType = some .boolean) (hexec : p.tables.exec = Jvm.exec) (hb : c.code = cc) (hlocks : meth.locks = false) (hK : va_K D classes (tys2 cI cJ) s) (hP : va_P D classes ws H) (hD : va_D A ws) (hS : va_S A s.heap H locs) (hdg : decode cc pc = .ok (.ireturn, 1)) :
    W p l e R s m args below meth c H locs cells slots (MQ below (va_Qi (fun (r' : Int32) (_ : Unit) => r' = v) (fun _ t => POx D cI cJ ws A t) A) args s cells slots A) (F0 m pc ls [.int v]) :=
  W.zret (v := v) hexec hb hr hn (fun t ht hW => ⟨⟨v, (), rfl, rfl, by rw [ht]; exact hP, va_K.moved hW.alike hK, hD⟩, hS.F ht⟩) hS.2.2 hdg hlocks
theorem z_lret {v : Int64} (hr : meth.sig.returnType = some .long) (hexec : p.tables.exec = Jvm.exec) (hb : c.code = cc) (hlocks : meth.locks = false) (hK : va_K D classes (tys2 cI cJ) s) (hP : va_P D classes ws H) (hD : va_D A ws) (hS : va_S A s.heap H locs) (hdg : decode cc pc = .ok (.lreturn, 1)) :
    W p l e R s m args below meth c H locs cells slots (MQ below (va_Ql (fun (r' : Int64) (_ : Unit) => r' = v) (fun _ t => POx D cI cJ ws A t) A) args s cells slots A) (F0 m pc ls [.long v]) :=
  W.lret (v := v) hexec hb hr (fun t ht hW => ⟨⟨v, (), rfl, rfl, by rw [ht]; exact hP, va_K.moved hW.alike hK, hD⟩, hS.F ht⟩) hS.2.2 hdg hlocks
theorem z_vret (hr : meth.sig.returnType = none) (hexec : p.tables.exec = Jvm.exec) (hb : c.code = cc) (hlocks : meth.locks = false) (hK : va_K D classes (tys2 cI cJ) s) (hP : va_P D classes ws H) (hD : va_D A ws) (hS : va_S A s.heap H locs) (hdg : decode cc pc = .ok (.return_, 1)) :
    W p l e R s m args below meth c H locs cells slots (MQ below (va_Qv (fun (_ : Unit) => True) (fun _ t => POx D cI cJ ws A t) A) args s cells slots A) (F0 m pc ls []) :=
  W.vret hexec hb hr (fun t ht hW => ⟨⟨(), rfl, trivial, by rw [ht]; exact hP, va_K.moved hW.alike hK, hD⟩, hS.F ht⟩) hS.2.2 hdg hlocks
theorem tb_all {ws1 : List Cond} (h : ∀ w ∈ ws1, w ∈ TB) : GoodIn TB ws1 := fun w hw => ⟨h w hw, good_of_word (List.mem_filter.mp (h w hw)).2⟩
variable {st0 : List Value} {wc wc' wr : va_W} {aa : Array Value}
theorem z_afi {v : Int32} (hr : va_Run p l e R s m args below meth c H locs cells slots 0 0 (F0 m pc ls st0) rest (va_Qi (fun (r' : Int32) (_ : Unit) => r' = v) (fun _ t => POx D cI cJ wc' (va_A wc H.size) t) (va_A wc H.size) aa) (va_A wc H.size))
    (hP : va_P D classes ws H) (hD : va_D A ws) (hS : va_S A s.heap H locs) (hA : ∀ q, s.heap.size ≤ q → A q) (isC isR : List Nat) (hC : isC.map (fun i => ws[i]?) = wc.map some) (hR : isR.map (fun i => ws[i]?) = wr.map some) (hn : va_nd isR = true) (hdis : ∀ i ∈ isR, i ∉ isC)
    (kk : ∀ (H1 : Heap) (locs1 : List Loc), va_P D classes (wr ++ wc') H1 → va_D A (wr ++ wc') → va_S A s.heap H1 locs1 → W p l e R s m args below meth c H1 locs1 cells slots Q (F0 m (pc + 3) ls (.int v :: rest))) : W p l e R s m args below meth c H locs cells slots Q (F0 m pc ls st0) := by
  have hFc := va_free (wc := wc) hD hS hA isC hC
  refine va_calli hr hS (fun q _ h => hFc q h) hFc (fun r u t H1 locs1 ht hvm hw hB hz1 hk1 hS1 => ?_)
  obtain ⟨hP1, hK1, hD1⟩ := hB
  rw [ht] at hP1
  obtain ⟨hP2, hD2⟩ := va_join hP hD isC isR hC hR hn hdis hk1 hFc hP1 hD1
  subst hw
  exact kk H1 locs1 hP2 hD2 hS1
theorem z_afl {v : Int64} (hr : va_Run p l e R s m args below meth c H locs cells slots 0 0 (F0 m pc ls st0) rest (va_Ql (fun (r' : Int64) (_ : Unit) => r' = v) (fun _ t => POx D cI cJ wc' (va_A wc H.size) t) (va_A wc H.size) aa) (va_A wc H.size))
    (hP : va_P D classes ws H) (hD : va_D A ws) (hS : va_S A s.heap H locs) (hA : ∀ q, s.heap.size ≤ q → A q) (isC isR : List Nat) (hC : isC.map (fun i => ws[i]?) = wc.map some) (hR : isR.map (fun i => ws[i]?) = wr.map some) (hn : va_nd isR = true) (hdis : ∀ i ∈ isR, i ∉ isC)
    (kk : ∀ (H1 : Heap) (locs1 : List Loc), va_P D classes (wr ++ wc') H1 → va_D A (wr ++ wc') → va_S A s.heap H1 locs1 → W p l e R s m args below meth c H1 locs1 cells slots Q (F0 m (pc + 3) ls (.long v :: rest))) : W p l e R s m args below meth c H locs cells slots Q (F0 m pc ls st0) := by
  have hFc := va_free (wc := wc) hD hS hA isC hC
  refine va_calll hr hS (fun q _ h => hFc q h) hFc (fun r u t H1 locs1 ht hvm hw hB hz1 hk1 hS1 => ?_)
  obtain ⟨hP1, hK1, hD1⟩ := hB
  rw [ht] at hP1
  obtain ⟨hP2, hD2⟩ := va_join hP hD isC isR hC hR hn hdis hk1 hFc hP1 hD1
  subst hw
  exact kk H1 locs1 hP2 hD2 hS1
theorem z_afv (hr : va_Run p l e R s m args below meth c H locs cells slots 0 0 (F0 m pc ls st0) rest (va_Qv (fun (_ : Unit) => True) (fun _ t => POx D cI cJ wc' (va_A wc H.size) t) (va_A wc H.size) aa) (va_A wc H.size))
    (hP : va_P D classes ws H) (hD : va_D A ws) (hS : va_S A s.heap H locs) (hA : ∀ q, s.heap.size ≤ q → A q) (isC isR : List Nat) (hC : isC.map (fun i => ws[i]?) = wc.map some) (hR : isR.map (fun i => ws[i]?) = wr.map some) (hn : va_nd isR = true) (hdis : ∀ i ∈ isR, i ∉ isC)
    (kk : ∀ (H1 : Heap) (locs1 : List Loc), va_P D classes (wr ++ wc') H1 → va_D A (wr ++ wc') → va_S A s.heap H1 locs1 → W p l e R s m args below meth c H1 locs1 cells slots Q (F0 m (pc + 3) ls rest)) : W p l e R s m args below meth c H locs cells slots Q (F0 m pc ls st0) := by
  have hFc := va_free (wc := wc) hD hS hA isC hC
  refine va_callv hr hS (fun q _ h => hFc q h) hFc (fun u t H1 locs1 ht hvm hw hB hz1 hk1 hS1 => ?_)
  obtain ⟨hP1, hK1, hD1⟩ := hB
  rw [ht] at hP1
  obtain ⟨hP2, hD2⟩ := va_join hP hD isC isR hC hR hn hdis hk1 hFc hP1 hD1
  exact kk H1 locs1 hP2 hD2 hS1
/-- a callee's start out of the caller's world -/
theorem z_pre {av : List Value} (hK : va_K D classes (tys2 cI cJ) s) (hE : EX tt A s) (hP : va_P D classes ws H) (hD : va_D A ws) (hS : va_S A s.heap H locs) (hA : ∀ q, s.heap.size ≤ q → A q) (isC : List Nat) (hnC : va_nd isC = true) (hC : isC.map (fun i => ws[i]?) = wc.map some) :
    ∀ U : State, U.heap = H → s.WarmedH U.vm → va_Pc av (PCx D cI cJ tt wc H.size) av.toArray U := by
  have at' : ∀ (k : Nat) (q : Nat × va_E), wc[k]? = some q → ∃ i : Nat, ws[i]? = some q := by
    intro k q hq
    have h1 : (isC.map (fun i => ws[i]?))[k]? = some (some q) := by rw [hC, List.getElem?_map, hq]; rfl
    rw [List.getElem?_map] at h1
    cases hi : isC[k]? with
    | none => rw [hi] at h1; cases h1
    | some i => rw [hi] at h1; exact ⟨i, Option.some.inj h1⟩
  intro U hU hW
  have hFc := va_free (wc := wc) hD hS hA isC hC
  refine ⟨rfl, by rw [hU], ?_, va_K.moved hW.alike hK, (hD.sub isC hnC hC).weaken (fun _ _ _ _ => trivial), hE.call hS hFc hU hW⟩
  rw [hU]
  intro k q hk
  obtain ⟨i, hi⟩ := at' k q hk
  exact hP i q hi
theorem z_room {st : List Value} (h : (st.map fun v => v.category).sum ≤ 8) : 2 * (F0 m pc ls st0).monitorRoom + (st.map fun v => v.category).sum ≤ 8 := lv_room h
theorem z_wV {own C : String} {index : Nat} {y : MethodName} {bytes : ByteArray} {maxL : Nat} {ret : Option FieldType} {k : Nat} {rm : Room} (hts : ∀ w ∈ TB, w.before args s = true) (ok : OKv y bytes maxL ret C k) (hyC : y.cls = C) (hl : Cond.methodLink own index y ∈ TB) (hrc : rm.cells = 0) (hrs : rm.slots = 0) (hR : rm.frames + 1 ≤ R.frames ∧ 8 + (maxL + 11) + rm.locals ≤ R.locals) :
    CallW R s args own C index y bytes maxL ret (WD y bytes maxL ret) rm 0 0 k := by
  obtain ⟨h1, h2, h3, h4, h5⟩ := ok
  subst hyC
  refine cwV k hts (tb_all fun w hw => ?_) rfl hrc hrs ⟨rfl, h5⟩ hR
  simp only [wsV, List.mem_append, List.mem_cons, List.not_mem_nil, or_false] at hw
  rcases hw with (rfl | rfl | rfl | rfl) | rfl | hw
  · exact hl
  · exact h2
  · exact h3
  · exact h4
  · exact h1
  · exact hw
theorem z_wS {own : String} {index : Nat} {y : MethodName} {bytes : ByteArray} {maxL : Nat} {ret : Option FieldType} {k : Nat} {rm : Room} (hts : ∀ w ∈ TB, w.before args s = true) (ok : OKs y bytes maxL ret k) (hl : Cond.methodLink own index y ∈ TB) (hrc : rm.cells = 0) (hrs : rm.slots = 0) (hR : rm.frames + 1 ≤ R.frames ∧ 8 + (maxL + 11) + rm.locals ≤ R.locals) :
    CallB R s args own index y bytes maxL ret (WD y bytes maxL ret) rm 0 0 k ∧ (Cond.static y).before args s = true := by
  obtain ⟨h1, h2, h3, h4⟩ := ok
  refine va_cwS k hts (tb_all fun w hw => ?_) rfl hrc hrs h4 hR
  simp only [va_wsS, List.mem_append, List.mem_cons, List.not_mem_nil, or_false] at hw
  rcases hw with (rfl | rfl | rfl) | rfl | hw
  · exact hl
  · exact h2
  · exact h3
  · exact h1
  · exact hw
theorem z_wNS {own host : String} {index : Nat} {y : MethodName} {bytes : ByteArray} {maxL : Nat} {ret : Option FieldType} {k : Nat} {rm : Room} (hts : ∀ w ∈ TB, w.before args s = true) (ok : OKs y bytes maxL ret k) (hl : va_Nw (.methodLinkNest own index y host) s) (hrc : rm.cells = 0) (hrs : rm.slots = 0) (hR : rm.frames + 1 ≤ R.frames ∧ 8 + (maxL + 11) + rm.locals ≤ R.locals) :
    va_CN R s args own index y host bytes maxL ret (WD y bytes maxL ret) rm 0 0 k ∧ (Cond.static y).before args s = true ∧ True := by
  obtain ⟨h1, h2, h3, h4⟩ := ok
  exact ⟨va_cnB k hts (tb_good h1) rfl hrc hrs hl (hts _ h3) h4 hR, hts _ h2, trivial⟩
theorem z_cVi {v : Int32} {y : MethodName} {bytes : ByteArray} {maxL : Nat} {mret : Option FieldType} {rm : Room} {C : String} {index k : Nat} {b : Nat} {As : List Value} {ci : Nat} {fs : List Value} {cq : vw_C}
    (hM : CTi l y bytes maxL mret rm D cI cJ tt (.ref b :: As) wc wc' H.size v) (F : CallFix p m c cc nL s args TB own) (ok : OKv y bytes maxL mret C k) (hyC : y.cls = C) (hl : Cond.methodLink own index y ∈ TB)
    (hK : va_K D classes (tys2 cI cJ) s) (hE : EX tt A s) (hP : va_P D classes ws H) (hD : va_D A ws) (hS : va_S A s.heap H locs) (hA : ∀ q, s.heap.size ≤ q → A q) (isC isR : List Nat) (hC : isC.map (fun i => ws[i]?) = wc.map some) (hR : isR.map (fun i => ws[i]?) = wr.map some) (hnC : va_nd isC = true) (hn : va_nd isR = true) (hdis : ∀ i ∈ isR, i ∉ isC)
    (q0 : Nat) (he : wc[q0]? = some (b, .inr (ci, fs))) (hc : classes[ci]? = some cq) (hcq : cq.1 = C)
    (hrm : rm.cells = 0 ∧ rm.slots = 0 ∧ rm.frames + 1 ≤ R.frames ∧ 8 + (maxL + 11) + rm.locals ≤ R.locals) (hcs : cells ≤ R.cells ∧ slots ≤ R.slots) (hk : As.length = k) (hsize : ls.size = nL) (hst : st0 = As.reverse ++ .ref b :: rest) (hW : (rest.map fun v => v.category).sum ≤ 8) (hdg : decode cc pc = .ok (.invokevirtual index, 3))
    (kk : ∀ (H1 : Heap) (locs1 : List Loc), va_P D classes (wr ++ wc') H1 → va_D A (wr ++ wc') → va_S A s.heap H1 locs1 → W p l e R s m args below meth c H1 locs1 cells slots Q (F0 m (pc + 3) ls (.int v :: rest))) : W p l e R s m args below meth c H locs cells slots Q (F0 m pc ls st0) := by
  have hpc := z_pre (av := .ref b :: As) hK hE hP hD hS hA isC hnC hC
  have hPc : va_P D classes wc H := by
    intro k1 q1 hk1
    have h1 : (isC.map (fun i => ws[i]?))[k1]? = some (some q1) := by rw [hC, List.getElem?_map, hk1]; rfl
    rw [List.getElem?_map] at h1
    cases hi : isC[k1]? with
    | none => rw [hi] at h1; cases h1
    | some i => rw [hi] at h1; exact hP i q1 (Option.some.inj h1)
  obtain ⟨cell, r1, r2, r3⟩ := va_recv hK hPc hc he
  refine z_afi (va_runV (As := As) (rest := rest) F hM (z_wV F.2.2.2.2 ok hyC hl hrm.1 hrm.2.1 hrm.2.2) ⟨PCx.blind, ⟨cell, r1, r2, by rw [← hcq]; exact r3⟩, hpc⟩ rfl hk hsize hst (lv_room hW) hdg hcs) hP hD hS hA isC isR hC hR hn hdis kk
theorem z_cVl {v : Int64} {y : MethodName} {bytes : ByteArray} {maxL : Nat} {mret : Option FieldType} {rm : Room} {C : String} {index k : Nat} {b : Nat} {As : List Value} {ci : Nat} {fs : List Value} {cq : vw_C}
    (hM : CTl l y bytes maxL mret rm D cI cJ tt (.ref b :: As) wc wc' H.size v) (F : CallFix p m c cc nL s args TB own) (ok : OKv y bytes maxL mret C k) (hyC : y.cls = C) (hl : Cond.methodLink own index y ∈ TB)
    (hK : va_K D classes (tys2 cI cJ) s) (hE : EX tt A s) (hP : va_P D classes ws H) (hD : va_D A ws) (hS : va_S A s.heap H locs) (hA : ∀ q, s.heap.size ≤ q → A q) (isC isR : List Nat) (hC : isC.map (fun i => ws[i]?) = wc.map some) (hR : isR.map (fun i => ws[i]?) = wr.map some) (hnC : va_nd isC = true) (hn : va_nd isR = true) (hdis : ∀ i ∈ isR, i ∉ isC)
    (q0 : Nat) (he : wc[q0]? = some (b, .inr (ci, fs))) (hc : classes[ci]? = some cq) (hcq : cq.1 = C)
    (hrm : rm.cells = 0 ∧ rm.slots = 0 ∧ rm.frames + 1 ≤ R.frames ∧ 8 + (maxL + 11) + rm.locals ≤ R.locals) (hcs : cells ≤ R.cells ∧ slots ≤ R.slots) (hk : As.length = k) (hsize : ls.size = nL) (hst : st0 = As.reverse ++ .ref b :: rest) (hW : (rest.map fun v => v.category).sum ≤ 8) (hdg : decode cc pc = .ok (.invokevirtual index, 3))
    (kk : ∀ (H1 : Heap) (locs1 : List Loc), va_P D classes (wr ++ wc') H1 → va_D A (wr ++ wc') → va_S A s.heap H1 locs1 → W p l e R s m args below meth c H1 locs1 cells slots Q (F0 m (pc + 3) ls (.long v :: rest))) : W p l e R s m args below meth c H locs cells slots Q (F0 m pc ls st0) := by
  have hpc := z_pre (av := .ref b :: As) hK hE hP hD hS hA isC hnC hC
  have hPc : va_P D classes wc H := by
    intro k1 q1 hk1
    have h1 : (isC.map (fun i => ws[i]?))[k1]? = some (some q1) := by rw [hC, List.getElem?_map, hk1]; rfl
    rw [List.getElem?_map] at h1
    cases hi : isC[k1]? with
    | none => rw [hi] at h1; cases h1
    | some i => rw [hi] at h1; exact hP i q1 (Option.some.inj h1)
  obtain ⟨cell, r1, r2, r3⟩ := va_recv hK hPc hc he
  refine z_afl (va_runV (As := As) (rest := rest) F hM (z_wV F.2.2.2.2 ok hyC hl hrm.1 hrm.2.1 hrm.2.2) ⟨PCx.blind, ⟨cell, r1, r2, by rw [← hcq]; exact r3⟩, hpc⟩ rfl hk hsize hst (lv_room hW) hdg hcs) hP hD hS hA isC isR hC hR hn hdis kk
theorem z_cVv {y : MethodName} {bytes : ByteArray} {maxL : Nat} {mret : Option FieldType} {rm : Room} {C : String} {index k : Nat} {b : Nat} {As : List Value} {ci : Nat} {fs : List Value} {cq : vw_C}
    (hM : CTv l y bytes maxL mret rm D cI cJ tt (.ref b :: As) wc wc' H.size) (F : CallFix p m c cc nL s args TB own) (ok : OKv y bytes maxL mret C k) (hyC : y.cls = C) (hl : Cond.methodLink own index y ∈ TB)
    (hK : va_K D classes (tys2 cI cJ) s) (hE : EX tt A s) (hP : va_P D classes ws H) (hD : va_D A ws) (hS : va_S A s.heap H locs) (hA : ∀ q, s.heap.size ≤ q → A q) (isC isR : List Nat) (hC : isC.map (fun i => ws[i]?) = wc.map some) (hR : isR.map (fun i => ws[i]?) = wr.map some) (hnC : va_nd isC = true) (hn : va_nd isR = true) (hdis : ∀ i ∈ isR, i ∉ isC)
    (q0 : Nat) (he : wc[q0]? = some (b, .inr (ci, fs))) (hc : classes[ci]? = some cq) (hcq : cq.1 = C)
    (hrm : rm.cells = 0 ∧ rm.slots = 0 ∧ rm.frames + 1 ≤ R.frames ∧ 8 + (maxL + 11) + rm.locals ≤ R.locals) (hcs : cells ≤ R.cells ∧ slots ≤ R.slots) (hk : As.length = k) (hsize : ls.size = nL) (hst : st0 = As.reverse ++ .ref b :: rest) (hW : (rest.map fun v => v.category).sum ≤ 8) (hdg : decode cc pc = .ok (.invokevirtual index, 3))
    (kk : ∀ (H1 : Heap) (locs1 : List Loc), va_P D classes (wr ++ wc') H1 → va_D A (wr ++ wc') → va_S A s.heap H1 locs1 → W p l e R s m args below meth c H1 locs1 cells slots Q (F0 m (pc + 3) ls rest)) : W p l e R s m args below meth c H locs cells slots Q (F0 m pc ls st0) := by
  have hpc := z_pre (av := .ref b :: As) hK hE hP hD hS hA isC hnC hC
  have hPc : va_P D classes wc H := by
    intro k1 q1 hk1
    have h1 : (isC.map (fun i => ws[i]?))[k1]? = some (some q1) := by rw [hC, List.getElem?_map, hk1]; rfl
    rw [List.getElem?_map] at h1
    cases hi : isC[k1]? with
    | none => rw [hi] at h1; cases h1
    | some i => rw [hi] at h1; exact hP i q1 (Option.some.inj h1)
  obtain ⟨cell, r1, r2, r3⟩ := va_recv hK hPc hc he
  refine z_afv (va_runV (As := As) (rest := rest) F hM (z_wV F.2.2.2.2 ok hyC hl hrm.1 hrm.2.1 hrm.2.2) ⟨PCx.blind, ⟨cell, r1, r2, by rw [← hcq]; exact r3⟩, hpc⟩ rfl hk hsize hst (lv_room hW) hdg hcs) hP hD hS hA isC isR hC hR hn hdis kk
theorem z_cSi {v : Int32} {y : MethodName} {bytes : ByteArray} {maxL : Nat} {mret : Option FieldType} {rm : Room} {index k : Nat} {As : List Value}
    (hM : CTi l y bytes maxL mret rm D cI cJ tt As wc wc' H.size v) (F : CallFix p m c cc nL s args TB own) (ok : OKs y bytes maxL mret k) (hl : Cond.methodLink own index y ∈ TB)
    (hK : va_K D classes (tys2 cI cJ) s) (hE : EX tt A s) (hP : va_P D classes ws H) (hD : va_D A ws) (hS : va_S A s.heap H locs) (hA : ∀ q, s.heap.size ≤ q → A q) (isC isR : List Nat) (hC : isC.map (fun i => ws[i]?) = wc.map some) (hR : isR.map (fun i => ws[i]?) = wr.map some) (hnC : va_nd isC = true) (hn : va_nd isR = true) (hdis : ∀ i ∈ isR, i ∉ isC)
    (hrm : rm.cells = 0 ∧ rm.slots = 0 ∧ rm.frames + 1 ≤ R.frames ∧ 8 + (maxL + 11) + rm.locals ≤ R.locals) (hcs : cells ≤ R.cells ∧ slots ≤ R.slots) (hk : As.length = k) (hsize : ls.size = nL) (hst : st0 = As.reverse ++ rest) (hW : (rest.map fun v => v.category).sum ≤ 8) (hdg : decode cc pc = .ok (.invokestatic index, 3))
    (kk : ∀ (H1 : Heap) (locs1 : List Loc), va_P D classes (wr ++ wc') H1 → va_D A (wr ++ wc') → va_S A s.heap H1 locs1 → W p l e R s m args below meth c H1 locs1 cells slots Q (F0 m (pc + 3) ls (.int v :: rest))) : W p l e R s m args below meth c H locs cells slots Q (F0 m pc ls st0) := by
  have hpc := z_pre (av := As) hK hE hP hD hS hA isC hnC hC
  refine z_afi (va_runS (As := As) (rest := rest) F hM (z_wS F.2.2.2.2 ok hl hrm.1 hrm.2.1 hrm.2.2) ⟨PCx.blind, hpc⟩ rfl hk hsize hst (lv_room hW) hdg hcs) hP hD hS hA isC isR hC hR hn hdis kk
theorem z_cSl {v : Int64} {y : MethodName} {bytes : ByteArray} {maxL : Nat} {mret : Option FieldType} {rm : Room} {index k : Nat} {As : List Value}
    (hM : CTl l y bytes maxL mret rm D cI cJ tt As wc wc' H.size v) (F : CallFix p m c cc nL s args TB own) (ok : OKs y bytes maxL mret k) (hl : Cond.methodLink own index y ∈ TB)
    (hK : va_K D classes (tys2 cI cJ) s) (hE : EX tt A s) (hP : va_P D classes ws H) (hD : va_D A ws) (hS : va_S A s.heap H locs) (hA : ∀ q, s.heap.size ≤ q → A q) (isC isR : List Nat) (hC : isC.map (fun i => ws[i]?) = wc.map some) (hR : isR.map (fun i => ws[i]?) = wr.map some) (hnC : va_nd isC = true) (hn : va_nd isR = true) (hdis : ∀ i ∈ isR, i ∉ isC)
    (hrm : rm.cells = 0 ∧ rm.slots = 0 ∧ rm.frames + 1 ≤ R.frames ∧ 8 + (maxL + 11) + rm.locals ≤ R.locals) (hcs : cells ≤ R.cells ∧ slots ≤ R.slots) (hk : As.length = k) (hsize : ls.size = nL) (hst : st0 = As.reverse ++ rest) (hW : (rest.map fun v => v.category).sum ≤ 8) (hdg : decode cc pc = .ok (.invokestatic index, 3))
    (kk : ∀ (H1 : Heap) (locs1 : List Loc), va_P D classes (wr ++ wc') H1 → va_D A (wr ++ wc') → va_S A s.heap H1 locs1 → W p l e R s m args below meth c H1 locs1 cells slots Q (F0 m (pc + 3) ls (.long v :: rest))) : W p l e R s m args below meth c H locs cells slots Q (F0 m pc ls st0) := by
  have hpc := z_pre (av := As) hK hE hP hD hS hA isC hnC hC
  refine z_afl (va_runS (As := As) (rest := rest) F hM (z_wS F.2.2.2.2 ok hl hrm.1 hrm.2.1 hrm.2.2) ⟨PCx.blind, hpc⟩ rfl hk hsize hst (lv_room hW) hdg hcs) hP hD hS hA isC isR hC hR hn hdis kk
theorem z_cSv {y : MethodName} {bytes : ByteArray} {maxL : Nat} {mret : Option FieldType} {rm : Room} {index k : Nat} {As : List Value}
    (hM : CTv l y bytes maxL mret rm D cI cJ tt As wc wc' H.size) (F : CallFix p m c cc nL s args TB own) (ok : OKs y bytes maxL mret k) (hl : Cond.methodLink own index y ∈ TB)
    (hK : va_K D classes (tys2 cI cJ) s) (hE : EX tt A s) (hP : va_P D classes ws H) (hD : va_D A ws) (hS : va_S A s.heap H locs) (hA : ∀ q, s.heap.size ≤ q → A q) (isC isR : List Nat) (hC : isC.map (fun i => ws[i]?) = wc.map some) (hR : isR.map (fun i => ws[i]?) = wr.map some) (hnC : va_nd isC = true) (hn : va_nd isR = true) (hdis : ∀ i ∈ isR, i ∉ isC)
    (hrm : rm.cells = 0 ∧ rm.slots = 0 ∧ rm.frames + 1 ≤ R.frames ∧ 8 + (maxL + 11) + rm.locals ≤ R.locals) (hcs : cells ≤ R.cells ∧ slots ≤ R.slots) (hk : As.length = k) (hsize : ls.size = nL) (hst : st0 = As.reverse ++ rest) (hW : (rest.map fun v => v.category).sum ≤ 8) (hdg : decode cc pc = .ok (.invokestatic index, 3))
    (kk : ∀ (H1 : Heap) (locs1 : List Loc), va_P D classes (wr ++ wc') H1 → va_D A (wr ++ wc') → va_S A s.heap H1 locs1 → W p l e R s m args below meth c H1 locs1 cells slots Q (F0 m (pc + 3) ls rest)) : W p l e R s m args below meth c H locs cells slots Q (F0 m pc ls st0) := by
  have hpc := z_pre (av := As) hK hE hP hD hS hA isC hnC hC
  refine z_afv (va_runS (As := As) (rest := rest) F hM (z_wS F.2.2.2.2 ok hl hrm.1 hrm.2.1 hrm.2.2) ⟨PCx.blind, hpc⟩ rfl hk hsize hst (lv_room hW) hdg hcs) hP hD hS hA isC isR hC hR hn hdis kk
theorem z_cNSi {v : Int32} {y : MethodName} {bytes : ByteArray} {maxL : Nat} {mret : Option FieldType} {rm : Room} {host : String} {index k : Nat} {As : List Value}
    (hM : CTi l y bytes maxL mret rm D cI cJ tt As wc wc' H.size v) (F : CallFix p m c cc nL s args TB own) (ok : OKs y bytes maxL mret k) (hl : va_Nw (.methodLinkNest own index y host) s)
    (hK : va_K D classes (tys2 cI cJ) s) (hE : EX tt A s) (hP : va_P D classes ws H) (hD : va_D A ws) (hS : va_S A s.heap H locs) (hA : ∀ q, s.heap.size ≤ q → A q) (isC isR : List Nat) (hC : isC.map (fun i => ws[i]?) = wc.map some) (hR : isR.map (fun i => ws[i]?) = wr.map some) (hnC : va_nd isC = true) (hn : va_nd isR = true) (hdis : ∀ i ∈ isR, i ∉ isC)
    (hrm : rm.cells = 0 ∧ rm.slots = 0 ∧ rm.frames + 1 ≤ R.frames ∧ 8 + (maxL + 11) + rm.locals ≤ R.locals) (hcs : cells ≤ R.cells ∧ slots ≤ R.slots) (hk : As.length = k) (hsize : ls.size = nL) (hst : st0 = As.reverse ++ rest) (hW : (rest.map fun v => v.category).sum ≤ 8) (hdg : decode cc pc = .ok (.invokestatic index, 3))
    (kk : ∀ (H1 : Heap) (locs1 : List Loc), va_P D classes (wr ++ wc') H1 → va_D A (wr ++ wc') → va_S A s.heap H1 locs1 → W p l e R s m args below meth c H1 locs1 cells slots Q (F0 m (pc + 3) ls (.int v :: rest))) : W p l e R s m args below meth c H locs cells slots Q (F0 m pc ls st0) := by
  have hpc := z_pre (av := As) hK hE hP hD hS hA isC hnC hC
  refine z_afi (va_runSN (As := As) (rest := rest) F hM (z_wNS F.2.2.2.2 ok hl hrm.1 hrm.2.1 hrm.2.2) ⟨PCx.blind, hpc⟩ rfl hk hsize hst (lv_room hW) hdg hcs) hP hD hS hA isC isR hC hR hn hdis kk
theorem z_cNSl {v : Int64} {y : MethodName} {bytes : ByteArray} {maxL : Nat} {mret : Option FieldType} {rm : Room} {host : String} {index k : Nat} {As : List Value}
    (hM : CTl l y bytes maxL mret rm D cI cJ tt As wc wc' H.size v) (F : CallFix p m c cc nL s args TB own) (ok : OKs y bytes maxL mret k) (hl : va_Nw (.methodLinkNest own index y host) s)
    (hK : va_K D classes (tys2 cI cJ) s) (hE : EX tt A s) (hP : va_P D classes ws H) (hD : va_D A ws) (hS : va_S A s.heap H locs) (hA : ∀ q, s.heap.size ≤ q → A q) (isC isR : List Nat) (hC : isC.map (fun i => ws[i]?) = wc.map some) (hR : isR.map (fun i => ws[i]?) = wr.map some) (hnC : va_nd isC = true) (hn : va_nd isR = true) (hdis : ∀ i ∈ isR, i ∉ isC)
    (hrm : rm.cells = 0 ∧ rm.slots = 0 ∧ rm.frames + 1 ≤ R.frames ∧ 8 + (maxL + 11) + rm.locals ≤ R.locals) (hcs : cells ≤ R.cells ∧ slots ≤ R.slots) (hk : As.length = k) (hsize : ls.size = nL) (hst : st0 = As.reverse ++ rest) (hW : (rest.map fun v => v.category).sum ≤ 8) (hdg : decode cc pc = .ok (.invokestatic index, 3))
    (kk : ∀ (H1 : Heap) (locs1 : List Loc), va_P D classes (wr ++ wc') H1 → va_D A (wr ++ wc') → va_S A s.heap H1 locs1 → W p l e R s m args below meth c H1 locs1 cells slots Q (F0 m (pc + 3) ls (.long v :: rest))) : W p l e R s m args below meth c H locs cells slots Q (F0 m pc ls st0) := by
  have hpc := z_pre (av := As) hK hE hP hD hS hA isC hnC hC
  refine z_afl (va_runSN (As := As) (rest := rest) F hM (z_wNS F.2.2.2.2 ok hl hrm.1 hrm.2.1 hrm.2.2) ⟨PCx.blind, hpc⟩ rfl hk hsize hst (lv_room hW) hdg hcs) hP hD hS hA isC isR hC hR hn hdis kk
theorem z_cNSv {y : MethodName} {bytes : ByteArray} {maxL : Nat} {mret : Option FieldType} {rm : Room} {host : String} {index k : Nat} {As : List Value}
    (hM : CTv l y bytes maxL mret rm D cI cJ tt As wc wc' H.size) (F : CallFix p m c cc nL s args TB own) (ok : OKs y bytes maxL mret k) (hl : va_Nw (.methodLinkNest own index y host) s)
    (hK : va_K D classes (tys2 cI cJ) s) (hE : EX tt A s) (hP : va_P D classes ws H) (hD : va_D A ws) (hS : va_S A s.heap H locs) (hA : ∀ q, s.heap.size ≤ q → A q) (isC isR : List Nat) (hC : isC.map (fun i => ws[i]?) = wc.map some) (hR : isR.map (fun i => ws[i]?) = wr.map some) (hnC : va_nd isC = true) (hn : va_nd isR = true) (hdis : ∀ i ∈ isR, i ∉ isC)
    (hrm : rm.cells = 0 ∧ rm.slots = 0 ∧ rm.frames + 1 ≤ R.frames ∧ 8 + (maxL + 11) + rm.locals ≤ R.locals) (hcs : cells ≤ R.cells ∧ slots ≤ R.slots) (hk : As.length = k) (hsize : ls.size = nL) (hst : st0 = As.reverse ++ rest) (hW : (rest.map fun v => v.category).sum ≤ 8) (hdg : decode cc pc = .ok (.invokestatic index, 3))
    (kk : ∀ (H1 : Heap) (locs1 : List Loc), va_P D classes (wr ++ wc') H1 → va_D A (wr ++ wc') → va_S A s.heap H1 locs1 → W p l e R s m args below meth c H1 locs1 cells slots Q (F0 m (pc + 3) ls rest)) : W p l e R s m args below meth c H locs cells slots Q (F0 m pc ls st0) := by
  have hpc := z_pre (av := As) hK hE hP hD hS hA isC hnC hC
  refine z_afv (va_runSN (As := As) (rest := rest) F hM (z_wNS F.2.2.2.2 ok hl hrm.1 hrm.2.1 hrm.2.2) ⟨PCx.blind, hpc⟩ rfl hk hsize hst (lv_room hW) hdg hcs) hP hD hS hA isC isR hC hR hn hdis kk
theorem z_mV {y : MethodName} {bytes : ByteArray} {maxL : Nat} {mret : Option FieldType} (s1 : State) (h : ∀ w ∈ WD y bytes maxL mret, w.before args s1 = true) : ∀ w ∈ TB, w.before args s1 = true := fun w hw => h w (List.mem_cons_of_mem _ hw)
end ZR
end
section
/-! words of the tables that the rows use, by their places -/
theorem u_BitRow : ∀ w ∈ u_ws "DeepChannel$BitRow" fT_BitRow 2, w ∈ TB := by
  intro w hw
  obtain ⟨k, hk, rfl⟩ := List.mem_map.mp hw
  have hk := List.mem_range.mp hk
  have h : ∀ k : Nat, k < 2 → (lw_tbl[([214, 216] : List Nat).getD k 0]? = some (u_lay "DeepChannel$BitRow" fT_BitRow k) ∧ goodWord (u_lay "DeepChannel$BitRow" fT_BitRow k) = true) := by decide +kernel
  exact tb_in _ (h k hk).1 (h k hk).2
theorem u_Coder : ∀ w ∈ u_ws "DeepChannel$Coder" fT_Coder 4, w ∈ TB := by
  intro w hw
  obtain ⟨k, hk, rfl⟩ := List.mem_map.mp hw
  have hk := List.mem_range.mp hk
  have h : ∀ k : Nat, k < 4 → (lw_tbl[([230, 232, 234, 236] : List Nat).getD k 0]? = some (u_lay "DeepChannel$Coder" fT_Coder k) ∧ goodWord (u_lay "DeepChannel$Coder" fT_Coder k) = true) := by decide +kernel
  exact tb_in _ (h k hk).1 (h k hk).2
theorem u_Field : ∀ w ∈ u_ws "DeepChannel$Field" fT_Field 4, w ∈ TB := by
  intro w hw
  obtain ⟨k, hk, rfl⟩ := List.mem_map.mp hw
  have hk := List.mem_range.mp hk
  have h : ∀ k : Nat, k < 4 → (lw_tbl[([114, 116, 118, 120] : List Nat).getD k 0]? = some (u_lay "DeepChannel$Field" fT_Field k) ∧ goodWord (u_lay "DeepChannel$Field" fT_Field k) = true) := by decide +kernel
  exact tb_in _ (h k hk).1 (h k hk).2
theorem u_Locator : ∀ w ∈ u_ws "DeepChannel$Locator" fT_Locator 6, w ∈ TB := by
  intro w hw
  obtain ⟨k, hk, rfl⟩ := List.mem_map.mp hw
  have hk := List.mem_range.mp hk
  have h : ∀ k : Nat, k < 6 → (lw_tbl[([140, 142, 144, 146, 148, 150] : List Nat).getD k 0]? = some (u_lay "DeepChannel$Locator" fT_Locator k) ∧ goodWord (u_lay "DeepChannel$Locator" fT_Locator k) = true) := by decide +kernel
  exact tb_in _ (h k hk).1 (h k hk).2
theorem u_Mixer : ∀ w ∈ u_ws "DeepChannel$Mixer" fT_Mixer 1, w ∈ TB := by
  intro w hw
  obtain ⟨k, hk, rfl⟩ := List.mem_map.mp hw
  have hk := List.mem_range.mp hk
  have h : ∀ k : Nat, k < 1 → (lw_tbl[([203] : List Nat).getD k 0]? = some (u_lay "DeepChannel$Mixer" fT_Mixer k) ∧ goodWord (u_lay "DeepChannel$Mixer" fT_Mixer k) = true) := by decide +kernel
  exact tb_in _ (h k hk).1 (h k hk).2
theorem u_Nearest : ∀ w ∈ u_ws "DeepChannel$Nearest" fT_Nearest 5, w ∈ TB := by
  intro w hw
  obtain ⟨k, hk, rfl⟩ := List.mem_map.mp hw
  have hk := List.mem_range.mp hk
  have h : ∀ k : Nat, k < 5 → (lw_tbl[([291, 293, 295, 297, 299] : List Nat).getD k 0]? = some (u_lay "DeepChannel$Nearest" fT_Nearest k) ∧ goodWord (u_lay "DeepChannel$Nearest" fT_Nearest k) = true) := by decide +kernel
  exact tb_in _ (h k hk).1 (h k hk).2
theorem u_Receiver : ∀ w ∈ u_ws "DeepChannel$Receiver" fT_Receiver 12, w ∈ TB := by
  intro w hw
  obtain ⟨k, hk, rfl⟩ := List.mem_map.mp hw
  have hk := List.mem_range.mp hk
  have h : ∀ k : Nat, k < 12 → (lw_tbl[([316, 318, 320, 322, 324, 326, 328, 330, 332, 334, 336, 338] : List Nat).getD k 0]? = some (u_lay "DeepChannel$Receiver" fT_Receiver k) ∧ goodWord (u_lay "DeepChannel$Receiver" fT_Receiver k) = true) := by decide +kernel
  exact tb_in _ (h k hk).1 (h k hk).2
theorem u_Sender : ∀ w ∈ u_ws "DeepChannel$Sender" fT_Sender 8, w ∈ TB := by
  intro w hw
  obtain ⟨k, hk, rfl⟩ := List.mem_map.mp hw
  have hk := List.mem_range.mp hk
  have h : ∀ k : Nat, k < 8 → (lw_tbl[([253, 255, 257, 259, 261, 263, 265, 267] : List Nat).getD k 0]? = some (u_lay "DeepChannel$Sender" fT_Sender k) ∧ goodWord (u_lay "DeepChannel$Sender" fT_Sender k) = true) := by decide +kernel
  exact tb_in _ (h k hk).1 (h k hk).2
theorem u_Shape : ∀ w ∈ u_ws "DeepChannel$Shape" fT_Shape 4, w ∈ TB := by
  intro w hw
  obtain ⟨k, hk, rfl⟩ := List.mem_map.mp hw
  have hk := List.mem_range.mp hk
  have h : ∀ k : Nat, k < 4 → (lw_tbl[([88, 90, 92, 94] : List Nat).getD k 0]? = some (u_lay "DeepChannel$Shape" fT_Shape k) ∧ goodWord (u_lay "DeepChannel$Shape" fT_Shape k) = true) := by decide +kernel
  exact tb_in _ (h k hk).1 (h k hk).2
theorem u_Words : ∀ w ∈ u_ws "DeepChannel$Words" fT_Words 7, w ∈ TB := by
  intro w hw
  obtain ⟨k, hk, rfl⟩ := List.mem_map.mp hw
  have hk := List.mem_range.mp hk
  have h : ∀ k : Nat, k < 7 → (lw_tbl[([175, 177, 179, 181, 183, 185, 187] : List Nat).getD k 0]? = some (u_lay "DeepChannel$Words" fT_Words k) ∧ goodWord (u_lay "DeepChannel$Words" fT_Words k) = true) := by decide +kernel
  exact tb_in _ (h k hk).1 (h k hk).2
theorem u_DC : ∀ w ∈ u_ws "DeepChannel" fT_DC 7, w ∈ TB := by
  intro w hw
  obtain ⟨k, hk, rfl⟩ := List.mem_map.mp hw
  have hk := List.mem_range.mp hk
  have h : ∀ k : Nat, k < 7 → (lw_tbl[([348, 350, 352, 354, 356, 358, 360] : List Nat).getD k 0]? = some (u_lay "DeepChannel" fT_DC k) ∧ goodWord (u_lay "DeepChannel" fT_DC k) = true) := by decide +kernel
  exact tb_in _ (h k hk).1 (h k hk).2
theorem u_Mo : ∀ w ∈ u_ws "DeepChannelModel" fT_Mo 40, w ∈ TB := by
  intro w hw
  obtain ⟨k, hk, rfl⟩ := List.mem_map.mp hw
  have hk := List.mem_range.mp hk
  have h : ∀ k : Nat, k < 40 → (lw_tbl[([926, 928, 930, 932, 934, 936, 938, 940, 942, 944, 946, 948, 950, 952, 954, 956, 958, 960, 962, 964, 966, 968, 970, 972, 974, 976, 978, 980, 982, 984, 986, 988, 990, 992, 994, 996, 998, 1000, 1002, 1004] : List Nat).getD k 0]? = some (u_lay "DeepChannelModel" fT_Mo k) ∧ goodWord (u_lay "DeepChannelModel" fT_Mo k) = true) := by decide +kernel
  exact tb_in _ (h k hk).1 (h k hk).2
theorem k_0 : Cond.selects "DeepChannel$BitRow" ⟨"DeepChannel$BitRow", "cellAt", "(I)J"⟩ ⟨"DeepChannel$BitRow", "cellAt", "(I)J"⟩ ∈ TB := tb_in 0 (by decide +kernel) (by decide +kernel)
theorem k_47 : Cond.initialized "java/util/Arrays" ∈ TB := tb_in 47 (by decide +kernel) (by decide +kernel)
theorem k_49 : Cond.initialized "java/lang/Integer" ∈ TB := tb_in 49 (by decide +kernel) (by decide +kernel)
theorem k_50 : Cond.initialized "DeepChannel$BitRow" ∈ TB := tb_in 50 (by decide +kernel) (by decide +kernel)
theorem k_51 : Cond.initialized "DeepChannel$Coder" ∈ TB := tb_in 51 (by decide +kernel) (by decide +kernel)
theorem k_197 : Cond.static ⟨"java/lang/Integer", "bitCount", "(I)I"⟩ ∈ TB := tb_in 197 (by decide +kernel) (by decide +kernel)
theorem k_198 : Cond.code ⟨"java/lang/Integer", "bitCount", "(I)I"⟩ prog_18_method_49_code 1 (some .int) ∈ TB := tb_in 198 (by decide +kernel) (by decide +kernel)
theorem k_199 : Cond.constant "java/lang/Integer" 265 1431655765 ∈ TB := tb_in 199 (by decide +kernel) (by decide +kernel)
theorem k_200 : Cond.constant "java/lang/Integer" 266 858993459 ∈ TB := tb_in 200 (by decide +kernel) (by decide +kernel)
theorem k_201 : Cond.constant "java/lang/Integer" 267 252645135 ∈ TB := tb_in 201 (by decide +kernel) (by decide +kernel)
theorem k_212 : Cond.fieldLink "DeepChannel$BitRow" 9 "DeepChannel$BitRow" "cells" "[J" ∈ TB := tb_in 212 (by decide +kernel) (by decide +kernel)
theorem k_213 : Cond.fieldLink "DeepChannel$BitRow" 15 "DeepChannel$BitRow" "length" "I" ∈ TB := tb_in 213 (by decide +kernel) (by decide +kernel)
theorem k_283 : Cond.static ⟨"DeepChannel$Coder", "pairOf", "(I)I"⟩ ∈ TB := tb_in 283 (by decide +kernel) (by decide +kernel)
theorem k_284 : Cond.code ⟨"DeepChannel$Coder", "pairOf", "(I)I"⟩ prog_3_method_4_code 3 (some .int) ∈ TB := tb_in 284 (by decide +kernel) (by decide +kernel)
theorem k_285 : Cond.methodLink "DeepChannel$Coder" 26 ⟨"java/lang/Integer", "bitCount", "(I)I"⟩ ∈ TB := tb_in 285 (by decide +kernel) (by decide +kernel)
theorem k_377 : Cond.instanceMethod ⟨"DeepChannel$BitRow", "window", "(I)J"⟩ ∈ TB := tb_in 377 (by decide +kernel) (by decide +kernel)
theorem k_378 : Cond.selects "DeepChannel$BitRow" ⟨"DeepChannel$BitRow", "window", "(I)J"⟩ ⟨"DeepChannel$BitRow", "window", "(I)J"⟩ ∈ TB := tb_in 378 (by decide +kernel) (by decide +kernel)
theorem k_379 : Cond.code ⟨"DeepChannel$BitRow", "window", "(I)J"⟩ prog_2_method_7_code 6 (some .long) ∈ TB := tb_in 379 (by decide +kernel) (by decide +kernel)
theorem k_380 : Cond.methodLink "DeepChannel$BitRow" 25 ⟨"DeepChannel$BitRow", "cellAt", "(I)J"⟩ ∈ TB := tb_in 380 (by decide +kernel) (by decide +kernel)
theorem k_382 : Cond.instanceMethod ⟨"DeepChannel$BitRow", "cellAt", "(I)J"⟩ ∈ TB := tb_in 382 (by decide +kernel) (by decide +kernel)
theorem k_383 : Cond.code ⟨"DeepChannel$BitRow", "cellAt", "(I)J"⟩ prog_2_method_5_code 2 (some .long) ∈ TB := tb_in 383 (by decide +kernel) (by decide +kernel)
theorem k_478 : Cond.instanceMethod ⟨"DeepChannel$BitRow", "empty", "()V"⟩ ∈ TB := tb_in 478 (by decide +kernel) (by decide +kernel)
theorem k_479 : Cond.selects "DeepChannel$BitRow" ⟨"DeepChannel$BitRow", "empty", "()V"⟩ ⟨"DeepChannel$BitRow", "empty", "()V"⟩ ∈ TB := tb_in 479 (by decide +kernel) (by decide +kernel)
theorem k_480 : Cond.code ⟨"DeepChannel$BitRow", "empty", "()V"⟩ prog_2_method_3_code 1 none ∈ TB := tb_in 480 (by decide +kernel) (by decide +kernel)
theorem k_481 : Cond.methodLink "DeepChannel$BitRow" 19 ⟨"java/util/Arrays", "fill", "([JJ)V"⟩ ∈ TB := tb_in 481 (by decide +kernel) (by decide +kernel)
theorem k_482 : Cond.static ⟨"java/util/Arrays", "fill", "([JJ)V"⟩ ∈ TB := tb_in 482 (by decide +kernel) (by decide +kernel)
theorem k_483 : Cond.code ⟨"java/util/Arrays", "fill", "([JJ)V"⟩ prog_24_method_101_code 5 none ∈ TB := tb_in 483 (by decide +kernel) (by decide +kernel)
theorem k_531 : Cond.instanceMethod ⟨"DeepChannel$BitRow", "size", "()I"⟩ ∈ TB := tb_in 531 (by decide +kernel) (by decide +kernel)
theorem k_532 : Cond.selects "DeepChannel$BitRow" ⟨"DeepChannel$BitRow", "size", "()I"⟩ ⟨"DeepChannel$BitRow", "size", "()I"⟩ ∈ TB := tb_in 532 (by decide +kernel) (by decide +kernel)
theorem k_533 : Cond.code ⟨"DeepChannel$BitRow", "size", "()I"⟩ prog_2_method_2_code 1 (some .int) ∈ TB := tb_in 533 (by decide +kernel) (by decide +kernel)
theorem k_647 : Cond.instanceMethod ⟨"DeepChannel$BitRow", "append", "(I)V"⟩ ∈ TB := tb_in 647 (by decide +kernel) (by decide +kernel)
theorem k_648 : Cond.selects "DeepChannel$BitRow" ⟨"DeepChannel$BitRow", "append", "(I)V"⟩ ⟨"DeepChannel$BitRow", "append", "(I)V"⟩ ∈ TB := tb_in 648 (by decide +kernel) (by decide +kernel)
theorem k_649 : Cond.code ⟨"DeepChannel$BitRow", "append", "(I)V"⟩ prog_2_method_4_code 2 none ∈ TB := tb_in 649 (by decide +kernel) (by decide +kernel)
theorem k_705 : Cond.instanceMethod ⟨"DeepChannel$BitRow", "bitAt", "(I)I"⟩ ∈ TB := tb_in 705 (by decide +kernel) (by decide +kernel)
theorem k_706 : Cond.selects "DeepChannel$BitRow" ⟨"DeepChannel$BitRow", "bitAt", "(I)I"⟩ ⟨"DeepChannel$BitRow", "bitAt", "(I)I"⟩ ∈ TB := tb_in 706 (by decide +kernel) (by decide +kernel)
theorem k_707 : Cond.code ⟨"DeepChannel$BitRow", "bitAt", "(I)I"⟩ prog_2_method_6_code 2 (some .int) ∈ TB := tb_in 707 (by decide +kernel) (by decide +kernel)
end
section
-- DeepChannel$BitRow.append(I)V
abbrev b_BitRow_append : ByteArray := prog_2_method_4_code
abbrev y_BitRow_append : MethodName := ⟨"DeepChannel$BitRow", "append", "(I)V"⟩
theorem d_BitRow_append_0 : decode b_BitRow_append 0 = .ok (.aload_n 0, 1) := by decide +kernel
theorem d_BitRow_append_1 : decode b_BitRow_append 1 = .ok (.getfield 15, 3) := by decide +kernel
theorem d_BitRow_append_4 : decode b_BitRow_append 4 = .ok (.sipush 4096, 3) := by decide +kernel
theorem d_BitRow_append_7 : decode b_BitRow_append 7 = .ok (.if_icmp .ge 38, 3) := by decide +kernel
theorem d_BitRow_append_10 : decode b_BitRow_append 10 = .ok (.aload_n 0, 1) := by decide +kernel
theorem d_BitRow_append_11 : decode b_BitRow_append 11 = .ok (.getfield 9, 3) := by decide +kernel
theorem d_BitRow_append_14 : decode b_BitRow_append 14 = .ok (.aload_n 0, 1) := by decide +kernel
theorem d_BitRow_append_15 : decode b_BitRow_append 15 = .ok (.getfield 15, 3) := by decide +kernel
theorem d_BitRow_append_18 : decode b_BitRow_append 18 = .ok (.bipush 6, 2) := by decide +kernel
theorem d_BitRow_append_20 : decode b_BitRow_append 20 = .ok (.ishr, 1) := by decide +kernel
theorem d_BitRow_append_21 : decode b_BitRow_append 21 = .ok (.dup2, 1) := by decide +kernel
theorem d_BitRow_append_22 : decode b_BitRow_append 22 = .ok (.laload, 1) := by decide +kernel
theorem d_BitRow_append_23 : decode b_BitRow_append 23 = .ok (.iload_n 1, 1) := by decide +kernel
theorem d_BitRow_append_24 : decode b_BitRow_append 24 = .ok (.i2l, 1) := by decide +kernel
theorem d_BitRow_append_25 : decode b_BitRow_append 25 = .ok (.aload_n 0, 1) := by decide +kernel
theorem d_BitRow_append_26 : decode b_BitRow_append 26 = .ok (.getfield 15, 3) := by decide +kernel
theorem d_BitRow_append_29 : decode b_BitRow_append 29 = .ok (.bipush 63, 2) := by decide +kernel
theorem d_BitRow_append_31 : decode b_BitRow_append 31 = .ok (.iand, 1) := by decide +kernel
theorem d_BitRow_append_32 : decode b_BitRow_append 32 = .ok (.lshl, 1) := by decide +kernel
theorem d_BitRow_append_33 : decode b_BitRow_append 33 = .ok (.lor, 1) := by decide +kernel
theorem d_BitRow_append_34 : decode b_BitRow_append 34 = .ok (.lastore, 1) := by decide +kernel
theorem d_BitRow_append_35 : decode b_BitRow_append 35 = .ok (.aload_n 0, 1) := by decide +kernel
theorem d_BitRow_append_36 : decode b_BitRow_append 36 = .ok (.dup, 1) := by decide +kernel
theorem d_BitRow_append_37 : decode b_BitRow_append 37 = .ok (.getfield 15, 3) := by decide +kernel
theorem d_BitRow_append_40 : decode b_BitRow_append 40 = .ok (.iconst 1, 1) := by decide +kernel
theorem d_BitRow_append_41 : decode b_BitRow_append 41 = .ok (.iadd, 1) := by decide +kernel
theorem d_BitRow_append_42 : decode b_BitRow_append 42 = .ok (.putfield 15, 3) := by decide +kernel
theorem d_BitRow_append_45 : decode b_BitRow_append 45 = .ok (.return_, 1) := by decide +kernel
theorem ok_BitRow_append : OKv y_BitRow_append b_BitRow_append 2 none "DeepChannel$BitRow" 1 := ⟨k_649, k_647, k_648, k_50, by decide +kernel, by decide +kernel, by decide +kernel⟩
abbrev w_BitRow_append (cI cJ : ClassId) (qB qB_cells : Nat) (B_length : Int32) (B_cells : Nat → Int64) : va_W := [(qB, .inr (0, [.ref qB_cells, .int B_length])), (qB_cells, .inl (cJ, 64, .inr (.inl B_cells)))]
def f_BitRow_append (B_length : Int32) (B_cells : Nat → Int64) (x1 : Int32) : Option (Int32 × (Nat → Int64)) :=
  if (4096 : Int32) ≤ B_length then
    some (B_length, B_cells)
  else
  nm (B_length >>> ((6 : Int32) &&& 31)) fun v1 =>
  rdL B_cells 64 v1 fun v2 =>
  wrL B_cells 64 v1 (v2 ||| (x1.toInt64 <<< ((B_length &&& (63 : Int32)).toInt64 &&& 63))) fun g3 =>
  nm (B_length + (1 : Int32)) fun v4 =>
  some (v4, g3)
set_option maxHeartbeats 4000000 in
set_option maxRecDepth 100000 in
theorem c_BitRow_append (l : Launch) (D : va_G) (cI cJ : ClassId) (tt : Nat → Nat) (qB qB_cells : Nat) (sz : Nat) (B_length : Int32) (B_cells : Nat → Int64) (x1 : Int32) (B_length' : Int32) (B_cells' : Nat → Int64) (hm : f_BitRow_append B_length B_cells x1 = some (B_length', B_cells')) : CTv l y_BitRow_append b_BitRow_append 2 none (RM 0 0) D cI cJ tt [.ref qB, .int x1] (w_BitRow_append cI cJ qB qB_cells B_length B_cells) (w_BitRow_append cI cJ qB qB_cells B_length' B_cells') sz := by
  refine Met.ofW (cc := b_BitRow_append) (maxL := 2) (ret := none) (by decide) rfl ?_
  intro p e s m args below meth c s₁ B hml hv
  obtain ⟨hargs, hsz, hP, hK, hD0, hE⟩ := hv
  have hx := B.exec
  have hb := B.bytes
  have hr := B.returns
  have hts : ∀ w ∈ TB, w.before args s = true := z_mV s (atoms_spec (ws := WD y_BitRow_append b_BitRow_append 2 none) B.pre)
  have hown : s.vm.findClass "DeepChannel$BitRow" = some m.cls := findClass_of_methodNamed B.named
  have hlocks := B.notSynchronized
  subst hsz
  have hD := hD0.self (sz := s.heap.size)
  generalize hAe : va_A (w_BitRow_append cI cJ qB qB_cells B_length B_cells) s.heap.size = A at hD hE ⊢
  have hA : ∀ q : Nat, s.heap.size ≤ q → A q := fun q h => by rw [← hAe]; exact Or.inr h
  have hS : va_S A s.heap s.heap [] := va_S.rf
  refine z_entry (vs := [.ref qB, .int x1]) hargs (Nat.le_of_ble_eq_true rfl) (fun ls hl => ?_)
  have hl : lv_has ls 2 [(0, .ref qB), (1, .int x1)] := hl
  show W p l e (RM 0 0) s m args below meth c s.heap [] 0 0 _ _
  refine z_qi (fun Q0 hQ => ?_)
  have F : CallFix p m c b_BitRow_append 2 s args TB "DeepChannel$BitRow" := ⟨hx, hb, hml, hown, hts⟩
  unfold f_BitRow_append at hm
  refine lv_aload_n hx hb d_BitRow_append_0 rfl (lv_at hl 0 rfl) ?_
  refine va_get (D := D) (ci := 0) (v := .int B_length) (C := "DeepChannel$BitRow") (T := fT_BitRow) (N := 2) hx hb hts u_BitRow hown hK hP 0 rfl rfl 1 (by decide) (hts _ k_213) (fun _ h9 => h9) rfl d_BitRow_append_1 ?_
  refine lv_sipush (v := (4096 : Int32)) hx hb d_BitRow_append_4 (by decide) ?_
  refine z_if hm (lv_icmp_ge (tgt := 45) hx hb d_BitRow_append_7 (by decide)) (fun hm => ?_) (fun hm => ?_)
  · cases hm
    exact z_qo hQ (z_vret hr hx hb hlocks hK hP hD hS d_BitRow_append_45)
  · refine lv_aload_n hx hb d_BitRow_append_10 rfl (lv_at hl 0 rfl) ?_
    refine va_get (D := D) (ci := 0) (v := .ref qB_cells) (C := "DeepChannel$BitRow") (T := fT_BitRow) (N := 2) hx hb hts u_BitRow hown hK hP 0 rfl rfl 0 (by decide) (hts _ k_212) (fun _ h9 => h9) rfl d_BitRow_append_11 ?_
    refine lv_aload_n hx hb d_BitRow_append_14 rfl (lv_at hl 0 rfl) ?_
    refine va_get (D := D) (ci := 0) (v := .int B_length) (C := "DeepChannel$BitRow") (T := fT_BitRow) (N := 2) hx hb hts u_BitRow hown hK hP 0 rfl rfl 1 (by decide) (hts _ k_213) (fun _ h9 => h9) rfl d_BitRow_append_15 ?_
    refine lv_bipush (v := (6 : Int32)) hx hb d_BitRow_append_18 (by decide) ?_
    refine lv_ishr hx hb d_BitRow_append_20 ?_
    refine z_nmi hm (fun v1 hm => ?_)
    refine lv_dup2_11 hx hb d_BitRow_append_21 rfl rfl ?_
    refine z_lald hm hx hb hK hP 1 rfl d_BitRow_append_22 (fun v2 hm => ?_)
    refine lv_iload_n hx hb d_BitRow_append_23 rfl (lv_at hl 1 rfl) ?_
    refine lv_i2l (v := x1.toInt64) hx hb d_BitRow_append_24 rfl ?_
    refine lv_aload_n hx hb d_BitRow_append_25 rfl (lv_at hl 0 rfl) ?_
    refine va_get (D := D) (ci := 0) (v := .int B_length) (C := "DeepChannel$BitRow") (T := fT_BitRow) (N := 2) hx hb hts u_BitRow hown hK hP 0 rfl rfl 1 (by decide) (hts _ k_213) (fun _ h9 => h9) rfl d_BitRow_append_26 ?_
    refine lv_bipush (v := (63 : Int32)) hx hb d_BitRow_append_29 (by decide) ?_
    refine lv_iand hx hb d_BitRow_append_31 ?_
    refine lv_lshl (v := (x1.toInt64 <<< ((B_length &&& (63 : Int32)).toInt64 &&& 63))) hx hb d_BitRow_append_32 rfl ?_
    refine lv_lor hx hb d_BitRow_append_33 ?_
    refine z_last hm hx hb hK hP hD hS 1 rfl d_BitRow_append_34 (fun g3 hm H locs hP hD hS => ?_)
    have hP : va_P D classes (w_BitRow_append cI cJ qB qB_cells B_length g3) H := hP
    have hD : va_D A (w_BitRow_append cI cJ qB qB_cells B_length g3) := hD
    refine lv_aload_n hx hb d_BitRow_append_35 rfl (lv_at hl 0 rfl) ?_
    refine lv_dup hx hb d_BitRow_append_36 rfl ?_
    refine va_get (D := D) (ci := 0) (v := .int B_length) (C := "DeepChannel$BitRow") (T := fT_BitRow) (N := 2) hx hb hts u_BitRow hown hK hP 0 rfl rfl 1 (by decide) (hts _ k_213) (fun _ h9 => h9) rfl d_BitRow_append_37 ?_
    refine lv_iconst (v := (1 : Int32)) hx hb d_BitRow_append_40 (by decide) ?_
    refine lv_iadd hx hb d_BitRow_append_41 ?_
    refine z_nmi hm (fun v4 hm => ?_)
    refine va_put (D := D) (ci := 0) (v := .int v4) (ty := .int) (C := "DeepChannel$BitRow") (T := fT_BitRow) (N := 2) hx hb hts u_BitRow fY_BitRow fK_BitRow fN_BitRow hown hK hP hD hS 0 rfl rfl 1 (by decide) (hts _ k_213) (fun _ h9 => h9) rfl (by decide +kernel) rfl rfl (Nat.le_of_ble_eq_true rfl) d_BitRow_append_42 (fun H locs hP hD hS => ?_)
    have hP : va_P D classes (w_BitRow_append cI cJ qB qB_cells v4 g3) H := hP
    have hD : va_D A (w_BitRow_append cI cJ qB qB_cells v4 g3) := hD
    cases hm
    exact z_qo hQ (z_vret hr hx hb hlocks hK hP hD hS d_BitRow_append_45)
-- DeepChannel$BitRow.cellAt(I)J
abbrev b_BitRow_cellAt : ByteArray := prog_2_method_5_code
abbrev y_BitRow_cellAt : MethodName := ⟨"DeepChannel$BitRow", "cellAt", "(I)J"⟩
theorem d_BitRow_cellAt_0 : decode b_BitRow_cellAt 0 = .ok (.iload_n 1, 1) := by decide +kernel
theorem d_BitRow_cellAt_1 : decode b_BitRow_cellAt 1 = .ok (.ifCond .lt 21, 3) := by decide +kernel
theorem d_BitRow_cellAt_4 : decode b_BitRow_cellAt 4 = .ok (.iload_n 1, 1) := by decide +kernel
theorem d_BitRow_cellAt_5 : decode b_BitRow_cellAt 5 = .ok (.aload_n 0, 1) := by decide +kernel
theorem d_BitRow_cellAt_6 : decode b_BitRow_cellAt 6 = .ok (.getfield 9, 3) := by decide +kernel
theorem d_BitRow_cellAt_9 : decode b_BitRow_cellAt 9 = .ok (.arraylength, 1) := by decide +kernel
theorem d_BitRow_cellAt_10 : decode b_BitRow_cellAt 10 = .ok (.if_icmp .ge 12, 3) := by decide +kernel
theorem d_BitRow_cellAt_13 : decode b_BitRow_cellAt 13 = .ok (.aload_n 0, 1) := by decide +kernel
theorem d_BitRow_cellAt_14 : decode b_BitRow_cellAt 14 = .ok (.getfield 9, 3) := by decide +kernel
theorem d_BitRow_cellAt_17 : decode b_BitRow_cellAt 17 = .ok (.iload_n 1, 1) := by decide +kernel
theorem d_BitRow_cellAt_18 : decode b_BitRow_cellAt 18 = .ok (.laload, 1) := by decide +kernel
theorem d_BitRow_cellAt_19 : decode b_BitRow_cellAt 19 = .ok (.goto 4, 3) := by decide +kernel
theorem d_BitRow_cellAt_22 : decode b_BitRow_cellAt 22 = .ok (.lconst 0, 1) := by decide +kernel
theorem d_BitRow_cellAt_23 : decode b_BitRow_cellAt 23 = .ok (.lreturn, 1) := by decide +kernel
theorem ok_BitRow_cellAt : OKv y_BitRow_cellAt b_BitRow_cellAt 2 (some .long) "DeepChannel$BitRow" 1 := ⟨k_383, k_382, k_0, k_50, by decide +kernel, by decide +kernel, by decide +kernel⟩
abbrev w_BitRow_cellAt (cI cJ : ClassId) (qB qB_cells : Nat) (B_length : Value) (B_cells : Nat → Int64) : va_W := [(qB, .inr (0, [.ref qB_cells, B_length])), (qB_cells, .inl (cJ, 64, .inr (.inl B_cells)))]
def f_BitRow_cellAt (B_cells : Nat → Int64) (x1 : Int32) : Option (Int64) :=
  if x1 < 0 then
    some (0 : Int64)
  else
  if (64 : Int32) ≤ x1 then
    some (0 : Int64)
  else
  rdL B_cells 64 x1 fun v1 =>
  some v1
set_option maxHeartbeats 4000000 in
set_option maxRecDepth 100000 in
theorem c_BitRow_cellAt (l : Launch) (D : va_G) (cI cJ : ClassId) (tt : Nat → Nat) (qB qB_cells : Nat) (B_length : Value) (sz : Nat) (B_cells : Nat → Int64) (x1 : Int32) (rr : Int64) (hm : f_BitRow_cellAt B_cells x1 = some rr) : CTl l y_BitRow_cellAt b_BitRow_cellAt 2 (some .long) (RM 0 0) D cI cJ tt [.ref qB, .int x1] (w_BitRow_cellAt cI cJ qB qB_cells B_length B_cells) (w_BitRow_cellAt cI cJ qB qB_cells B_length B_cells) sz rr := by
  refine Met.ofW (cc := b_BitRow_cellAt) (maxL := 2) (ret := (some .long)) (by decide) rfl ?_
  intro p e s m args below meth c s₁ B hml hv
  obtain ⟨hargs, hsz, hP, hK, hD0, hE⟩ := hv
  have hx := B.exec
  have hb := B.bytes
  have hr := B.returns
  have hts : ∀ w ∈ TB, w.before args s = true := z_mV s (atoms_spec (ws := WD y_BitRow_cellAt b_BitRow_cellAt 2 (some .long)) B.pre)
  have hown : s.vm.findClass "DeepChannel$BitRow" = some m.cls := findClass_of_methodNamed B.named
  have hlocks := B.notSynchronized
  subst hsz
  have hD := hD0.self (sz := s.heap.size)
  generalize hAe : va_A (w_BitRow_cellAt cI cJ qB qB_cells B_length B_cells) s.heap.size = A at hD hE ⊢
  have hA : ∀ q : Nat, s.heap.size ≤ q → A q := fun q h => by rw [← hAe]; exact Or.inr h
  have hS : va_S A s.heap s.heap [] := va_S.rf
  refine z_entry (vs := [.ref qB, .int x1]) hargs (Nat.le_of_ble_eq_true rfl) (fun ls hl => ?_)
  have hl : lv_has ls 2 [(0, .ref qB), (1, .int x1)] := hl
  show W p l e (RM 0 0) s m args below meth c s.heap [] 0 0 _ _
  refine z_qi (fun Q0 hQ => ?_)
  have F : CallFix p m c b_BitRow_cellAt 2 s args TB "DeepChannel$BitRow" := ⟨hx, hb, hml, hown, hts⟩
  unfold f_BitRow_cellAt at hm
  refine lv_iload_n hx hb d_BitRow_cellAt_0 rfl (lv_at hl 1 rfl) ?_
  refine z_if hm (lv_if_lt (tgt := 22) hx hb d_BitRow_cellAt_1 (by decide)) (fun hm => ?_) (fun hm => ?_)
  · refine lv_lconst (v := (0 : Int64)) hx hb d_BitRow_cellAt_22 (by decide) ?_
    cases hm
    exact z_qo hQ (z_lret hr hx hb hlocks hK hP hD hS d_BitRow_cellAt_23)
  · refine lv_iload_n hx hb d_BitRow_cellAt_4 rfl (lv_at hl 1 rfl) ?_
    refine lv_aload_n hx hb d_BitRow_cellAt_5 rfl (lv_at hl 0 rfl) ?_
    refine va_get (D := D) (ci := 0) (v := .ref qB_cells) (C := "DeepChannel$BitRow") (T := fT_BitRow) (N := 2) hx hb hts u_BitRow hown hK hP 0 rfl rfl 0 (by decide) (hts _ k_212) (fun _ h9 => h9) rfl d_BitRow_cellAt_6 ?_
    refine va_alen (v := (64 : Int32)) hx hb hK hP 1 1 rfl rfl rfl d_BitRow_cellAt_9 ?_
    refine z_if hm (lv_icmp_ge (tgt := 22) hx hb d_BitRow_cellAt_10 (by decide)) (fun hm => ?_) (fun hm => ?_)
    · refine lv_lconst (v := (0 : Int64)) hx hb d_BitRow_cellAt_22 (by decide) ?_
      cases hm
      exact z_qo hQ (z_lret hr hx hb hlocks hK hP hD hS d_BitRow_cellAt_23)
    · refine lv_aload_n hx hb d_BitRow_cellAt_13 rfl (lv_at hl 0 rfl) ?_
      refine va_get (D := D) (ci := 0) (v := .ref qB_cells) (C := "DeepChannel$BitRow") (T := fT_BitRow) (N := 2) hx hb hts u_BitRow hown hK hP 0 rfl rfl 0 (by decide) (hts _ k_212) (fun _ h9 => h9) rfl d_BitRow_cellAt_14 ?_
      refine lv_iload_n hx hb d_BitRow_cellAt_17 rfl (lv_at hl 1 rfl) ?_
      refine z_lald hm hx hb hK hP 1 rfl d_BitRow_cellAt_18 (fun v1 hm => ?_)
      refine lv_goto (tgt := 23) hx hb d_BitRow_cellAt_19 (by decide) ?_
      cases hm
      exact z_qo hQ (z_lret hr hx hb hlocks hK hP hD hS d_BitRow_cellAt_23)
-- DeepChannel$BitRow.bitAt(I)I
abbrev b_BitRow_bitAt : ByteArray := prog_2_method_6_code
abbrev y_BitRow_bitAt : MethodName := ⟨"DeepChannel$BitRow", "bitAt", "(I)I"⟩
theorem d_BitRow_bitAt_0 : decode b_BitRow_bitAt 0 = .ok (.aload_n 0, 1) := by decide +kernel
theorem d_BitRow_bitAt_1 : decode b_BitRow_bitAt 1 = .ok (.iload_n 1, 1) := by decide +kernel
theorem d_BitRow_bitAt_2 : decode b_BitRow_bitAt 2 = .ok (.bipush 6, 2) := by decide +kernel
theorem d_BitRow_bitAt_4 : decode b_BitRow_bitAt 4 = .ok (.ishr, 1) := by decide +kernel
theorem d_BitRow_bitAt_5 : decode b_BitRow_bitAt 5 = .ok (.invokevirtual 25, 3) := by decide +kernel
theorem d_BitRow_bitAt_8 : decode b_BitRow_bitAt 8 = .ok (.iload_n 1, 1) := by decide +kernel
theorem d_BitRow_bitAt_9 : decode b_BitRow_bitAt 9 = .ok (.bipush 63, 2) := by decide +kernel
theorem d_BitRow_bitAt_11 : decode b_BitRow_bitAt 11 = .ok (.iand, 1) := by decide +kernel
theorem d_BitRow_bitAt_12 : decode b_BitRow_bitAt 12 = .ok (.lushr, 1) := by decide +kernel
theorem d_BitRow_bitAt_13 : decode b_BitRow_bitAt 13 = .ok (.l2i, 1) := by decide +kernel
theorem d_BitRow_bitAt_14 : decode b_BitRow_bitAt 14 = .ok (.iconst 1, 1) := by decide +kernel
theorem d_BitRow_bitAt_15 : decode b_BitRow_bitAt 15 = .ok (.iand, 1) := by decide +kernel
theorem d_BitRow_bitAt_16 : decode b_BitRow_bitAt 16 = .ok (.ireturn, 1) := by decide +kernel
theorem ok_BitRow_bitAt : OKv y_BitRow_bitAt b_BitRow_bitAt 2 (some .int) "DeepChannel$BitRow" 1 := ⟨k_707, k_705, k_706, k_50, by decide +kernel, by decide +kernel, by decide +kernel⟩
abbrev w_BitRow_bitAt (cI cJ : ClassId) (qB qB_cells : Nat) (B_length : Value) (B_cells : Nat → Int64) : va_W := [(qB, .inr (0, [.ref qB_cells, B_length])), (qB_cells, .inl (cJ, 64, .inr (.inl B_cells)))]
def f_BitRow_bitAt (B_cells : Nat → Int64) (x1 : Int32) : Option (Int32) :=
  bd (f_BitRow_cellAt B_cells (x1 >>> ((6 : Int32) &&& 31))) fun u2 =>
  nm u2 fun r1 =>
  some (((r1.toUInt64 >>> ((x1 &&& (63 : Int32)).toInt64.toUInt64 &&& Int64.toUInt64 63)).toInt64).toInt32 &&& (1 : Int32))
set_option maxHeartbeats 4000000 in
set_option maxRecDepth 100000 in
theorem c_BitRow_bitAt (l : Launch) (D : va_G) (cI cJ : ClassId) (tt : Nat → Nat) (qB qB_cells : Nat) (B_length : Value) (sz : Nat) (B_cells : Nat → Int64) (x1 : Int32) (rr : Int32) (hm : f_BitRow_bitAt B_cells x1 = some rr) : CTi l y_BitRow_bitAt b_BitRow_bitAt 2 (some .int) (RM 1 21) D cI cJ tt [.ref qB, .int x1] (w_BitRow_bitAt cI cJ qB qB_cells B_length B_cells) (w_BitRow_bitAt cI cJ qB qB_cells B_length B_cells) sz rr := by
  refine Met.ofW (cc := b_BitRow_bitAt) (maxL := 2) (ret := (some .int)) (by decide) rfl ?_
  intro p e s m args below meth c s₁ B hml hv
  obtain ⟨hargs, hsz, hP, hK, hD0, hE⟩ := hv
  have hx := B.exec
  have hb := B.bytes
  have hr := B.returns
  have hts : ∀ w ∈ TB, w.before args s = true := z_mV s (atoms_spec (ws := WD y_BitRow_bitAt b_BitRow_bitAt 2 (some .int)) B.pre)
  have hown : s.vm.findClass "DeepChannel$BitRow" = some m.cls := findClass_of_methodNamed B.named
  have hlocks := B.notSynchronized
  subst hsz
  have hD := hD0.self (sz := s.heap.size)
  generalize hAe : va_A (w_BitRow_bitAt cI cJ qB qB_cells B_length B_cells) s.heap.size = A at hD hE ⊢
  have hA : ∀ q : Nat, s.heap.size ≤ q → A q := fun q h => by rw [← hAe]; exact Or.inr h
  have hS : va_S A s.heap s.heap [] := va_S.rf
  refine z_entry (vs := [.ref qB, .int x1]) hargs (Nat.le_of_ble_eq_true rfl) (fun ls hl => ?_)
  have hl : lv_has ls 2 [(0, .ref qB), (1, .int x1)] := hl
  show W p l e (RM 1 21) s m args below meth c s.heap [] 0 0 _ _
  refine z_qi (fun Q0 hQ => ?_)
  have F : CallFix p m c b_BitRow_bitAt 2 s args TB "DeepChannel$BitRow" := ⟨hx, hb, hml, hown, hts⟩
  unfold f_BitRow_bitAt at hm
  refine lv_aload_n hx hb d_BitRow_bitAt_0 rfl (lv_at hl 0 rfl) ?_
  refine lv_iload_n hx hb d_BitRow_bitAt_1 rfl (lv_at hl 1 rfl) ?_
  refine lv_bipush (v := (6 : Int32)) hx hb d_BitRow_bitAt_2 (by decide) ?_
  refine lv_ishr hx hb d_BitRow_bitAt_4 ?_
  obtain ⟨r1, hu, hm⟩ := bd_el hm
  replace hm := nm_1 hm
  refine z_cVl (wc := w_BitRow_cellAt cI cJ qB qB_cells B_length B_cells) (wc' := w_BitRow_cellAt cI cJ qB qB_cells B_length B_cells) (wr := []) (As := [.int (x1 >>> ((6 : Int32) &&& 31))]) (rest := []) (c_BitRow_cellAt l D cI cJ tt qB qB_cells B_length _ B_cells (x1 >>> ((6 : Int32) &&& 31)) r1 hu) F ok_BitRow_cellAt rfl k_380 hK hE hP hD hS hA [0, 1] [] rfl rfl (by decide) (by decide) (by decide) 0 rfl rfl rfl ⟨rfl, rfl, Nat.le_of_ble_eq_true rfl, Nat.le_of_ble_eq_true rfl⟩ ⟨Nat.zero_le _, Nat.zero_le _⟩ rfl hl.1 rfl (Nat.le_of_ble_eq_true rfl) d_BitRow_bitAt_5 (fun H locs hP hD hS => ?_)
  have hP : va_P D classes (w_BitRow_bitAt cI cJ qB qB_cells B_length B_cells) H := hP.sub [0, 1] rfl
  have hD : va_D A (w_BitRow_bitAt cI cJ qB qB_cells B_length B_cells) := hD.sub [0, 1] (by decide) rfl
  refine lv_iload_n hx hb d_BitRow_bitAt_8 rfl (lv_at hl 1 rfl) ?_
  refine lv_bipush (v := (63 : Int32)) hx hb d_BitRow_bitAt_9 (by decide) ?_
  refine lv_iand hx hb d_BitRow_bitAt_11 ?_
  refine lv_lushr (v := ((r1.toUInt64 >>> ((x1 &&& (63 : Int32)).toInt64.toUInt64 &&& Int64.toUInt64 63)).toInt64)) hx hb d_BitRow_bitAt_12 rfl ?_
  refine lv_l2i (v := ((r1.toUInt64 >>> ((x1 &&& (63 : Int32)).toInt64.toUInt64 &&& Int64.toUInt64 63)).toInt64).toInt32) hx hb d_BitRow_bitAt_13 rfl ?_
  refine lv_iconst (v := (1 : Int32)) hx hb d_BitRow_bitAt_14 (by decide) ?_
  refine lv_iand hx hb d_BitRow_bitAt_15 ?_
  cases hm
  exact z_qo hQ (z_ireti hr hx hb hlocks hK hP hD hS d_BitRow_bitAt_16)
-- DeepChannel$BitRow.window(I)J
abbrev b_BitRow_window : ByteArray := prog_2_method_7_code
abbrev y_BitRow_window : MethodName := ⟨"DeepChannel$BitRow", "window", "(I)J"⟩
theorem d_BitRow_window_0 : decode b_BitRow_window 0 = .ok (.iload_n 1, 1) := by decide +kernel
theorem d_BitRow_window_1 : decode b_BitRow_window 1 = .ok (.bipush 6, 2) := by decide +kernel
theorem d_BitRow_window_3 : decode b_BitRow_window 3 = .ok (.ishr, 1) := by decide +kernel
theorem d_BitRow_window_4 : decode b_BitRow_window 4 = .ok (.istore_n 2, 1) := by decide +kernel
theorem d_BitRow_window_5 : decode b_BitRow_window 5 = .ok (.iload_n 1, 1) := by decide +kernel
theorem d_BitRow_window_6 : decode b_BitRow_window 6 = .ok (.bipush 63, 2) := by decide +kernel
theorem d_BitRow_window_8 : decode b_BitRow_window 8 = .ok (.iand, 1) := by decide +kernel
theorem d_BitRow_window_9 : decode b_BitRow_window 9 = .ok (.istore_n 3, 1) := by decide +kernel
theorem d_BitRow_window_10 : decode b_BitRow_window 10 = .ok (.aload_n 0, 1) := by decide +kernel
theorem d_BitRow_window_11 : decode b_BitRow_window 11 = .ok (.iload_n 2, 1) := by decide +kernel
theorem d_BitRow_window_12 : decode b_BitRow_window 12 = .ok (.invokevirtual 25, 3) := by decide +kernel
theorem d_BitRow_window_15 : decode b_BitRow_window 15 = .ok (.iload_n 3, 1) := by decide +kernel
theorem d_BitRow_window_16 : decode b_BitRow_window 16 = .ok (.lushr, 1) := by decide +kernel
theorem d_BitRow_window_17 : decode b_BitRow_window 17 = .ok (.lstore 4, 2) := by decide +kernel
theorem d_BitRow_window_19 : decode b_BitRow_window 19 = .ok (.iload_n 3, 1) := by decide +kernel
theorem d_BitRow_window_20 : decode b_BitRow_window 20 = .ok (.ifCond .ne 8, 3) := by decide +kernel
theorem d_BitRow_window_23 : decode b_BitRow_window 23 = .ok (.lload 4, 2) := by decide +kernel
theorem d_BitRow_window_25 : decode b_BitRow_window 25 = .ok (.goto 18, 3) := by decide +kernel
theorem d_BitRow_window_28 : decode b_BitRow_window 28 = .ok (.lload 4, 2) := by decide +kernel
theorem d_BitRow_window_30 : decode b_BitRow_window 30 = .ok (.aload_n 0, 1) := by decide +kernel
theorem d_BitRow_window_31 : decode b_BitRow_window 31 = .ok (.iload_n 2, 1) := by decide +kernel
theorem d_BitRow_window_32 : decode b_BitRow_window 32 = .ok (.iconst 1, 1) := by decide +kernel
theorem d_BitRow_window_33 : decode b_BitRow_window 33 = .ok (.iadd, 1) := by decide +kernel
theorem d_BitRow_window_34 : decode b_BitRow_window 34 = .ok (.invokevirtual 25, 3) := by decide +kernel
theorem d_BitRow_window_37 : decode b_BitRow_window 37 = .ok (.bipush 64, 2) := by decide +kernel
theorem d_BitRow_window_39 : decode b_BitRow_window 39 = .ok (.iload_n 3, 1) := by decide +kernel
theorem d_BitRow_window_40 : decode b_BitRow_window 40 = .ok (.isub, 1) := by decide +kernel
theorem d_BitRow_window_41 : decode b_BitRow_window 41 = .ok (.lshl, 1) := by decide +kernel
theorem d_BitRow_window_42 : decode b_BitRow_window 42 = .ok (.lor, 1) := by decide +kernel
theorem d_BitRow_window_43 : decode b_BitRow_window 43 = .ok (.lreturn, 1) := by decide +kernel
theorem ok_BitRow_window : OKv y_BitRow_window b_BitRow_window 6 (some .long) "DeepChannel$BitRow" 1 := ⟨k_379, k_377, k_378, k_50, by decide +kernel, by decide +kernel, by decide +kernel⟩
abbrev w_BitRow_window (cI cJ : ClassId) (qB qB_cells : Nat) (B_length : Value) (B_cells : Nat → Int64) : va_W := [(qB, .inr (0, [.ref qB_cells, B_length])), (qB_cells, .inl (cJ, 64, .inr (.inl B_cells)))]
def f_BitRow_window (B_cells : Nat → Int64) (x1 : Int32) : Option (Int64) :=
  nm (x1 >>> ((6 : Int32) &&& 31)) fun v1 =>
  nm (x1 &&& (63 : Int32)) fun v2 =>
  bd (f_BitRow_cellAt B_cells v1) fun u4 =>
  nm u4 fun r3 =>
  nm ((r3.toUInt64 >>> (v2.toInt64.toUInt64 &&& Int64.toUInt64 63)).toInt64) fun v5 =>
  if v2 = 0 then
    some v5
  else
  bd (f_BitRow_cellAt B_cells (v1 + (1 : Int32))) fun u7 =>
  nm u7 fun r6 =>
  some (v5 ||| (r6 <<< (((64 : Int32) - v2).toInt64 &&& 63)))
set_option maxHeartbeats 4000000 in
set_option maxRecDepth 100000 in
theorem c_BitRow_window (l : Launch) (D : va_G) (cI cJ : ClassId) (tt : Nat → Nat) (qB qB_cells : Nat) (B_length : Value) (sz : Nat) (B_cells : Nat → Int64) (x1 : Int32) (rr : Int64) (hm : f_BitRow_window B_cells x1 = some rr) : CTl l y_BitRow_window b_BitRow_window 6 (some .long) (RM 1 21) D cI cJ tt [.ref qB, .int x1] (w_BitRow_window cI cJ qB qB_cells B_length B_cells) (w_BitRow_window cI cJ qB qB_cells B_length B_cells) sz rr := by
  refine Met.ofW (cc := b_BitRow_window) (maxL := 6) (ret := (some .long)) (by decide) rfl ?_
  intro p e s m args below meth c s₁ B hml hv
  obtain ⟨hargs, hsz, hP, hK, hD0, hE⟩ := hv
  have hx := B.exec
  have hb := B.bytes
  have hr := B.returns
  have hts : ∀ w ∈ TB, w.before args s = true := z_mV s (atoms_spec (ws := WD y_BitRow_window b_BitRow_window 6 (some .long)) B.pre)
  have hown : s.vm.findClass "DeepChannel$BitRow" = some m.cls := findClass_of_methodNamed B.named
  have hlocks := B.notSynchronized
  subst hsz
  have hD := hD0.self (sz := s.heap.size)
  generalize hAe : va_A (w_BitRow_window cI cJ qB qB_cells B_length B_cells) s.heap.size = A at hD hE ⊢
  have hA : ∀ q : Nat, s.heap.size ≤ q → A q := fun q h => by rw [← hAe]; exact Or.inr h
  have hS : va_S A s.heap s.heap [] := va_S.rf
  refine z_entry (vs := [.ref qB, .int x1]) hargs (Nat.le_of_ble_eq_true rfl) (fun ls hl => ?_)
  have hl : lv_has ls 6 [(0, .ref qB), (1, .int x1)] := hl
  show W p l e (RM 1 21) s m args below meth c s.heap [] 0 0 _ _
  refine z_qi (fun Q0 hQ => ?_)
  have F : CallFix p m c b_BitRow_window 6 s args TB "DeepChannel$BitRow" := ⟨hx, hb, hml, hown, hts⟩
  unfold f_BitRow_window at hm
  refine lv_iload_n hx hb d_BitRow_window_0 rfl (lv_at hl 1 rfl) ?_
  refine lv_bipush (v := (6 : Int32)) hx hb d_BitRow_window_1 (by decide) ?_
  refine lv_ishr hx hb d_BitRow_window_3 ?_
  refine z_nmi hm (fun v1 hm => ?_)
  refine lv_istore_n (lv' := [(2, .int v1), (0, .ref qB), (1, .int x1)]) hx hb d_BitRow_window_4 rfl hl (by decide) rfl (fun ls hl => ?_)
  refine lv_iload_n hx hb d_BitRow_window_5 rfl (lv_at hl 2 rfl) ?_
  refine lv_bipush (v := (63 : Int32)) hx hb d_BitRow_window_6 (by decide) ?_
  refine lv_iand hx hb d_BitRow_window_8 ?_
  refine z_nmi hm (fun v2 hm => ?_)
  refine lv_istore_n (lv' := [(3, .int v2), (2, .int v1), (0, .ref qB), (1, .int x1)]) hx hb d_BitRow_window_9 rfl hl (by decide) rfl (fun ls hl => ?_)
  refine lv_aload_n hx hb d_BitRow_window_10 rfl (lv_at hl 2 rfl) ?_
  refine lv_iload_n hx hb d_BitRow_window_11 rfl (lv_at hl 1 rfl) ?_
  obtain ⟨r3, hu, hm⟩ := bd_el hm
  replace hm := nm_1 hm
  refine z_cVl (wc := w_BitRow_cellAt cI cJ qB qB_cells B_length B_cells) (wc' := w_BitRow_cellAt cI cJ qB qB_cells B_length B_cells) (wr := []) (As := [.int v1]) (rest := []) (c_BitRow_cellAt l D cI cJ tt qB qB_cells B_length _ B_cells v1 r3 hu) F ok_BitRow_cellAt rfl k_380 hK hE hP hD hS hA [0, 1] [] rfl rfl (by decide) (by decide) (by decide) 0 rfl rfl rfl ⟨rfl, rfl, Nat.le_of_ble_eq_true rfl, Nat.le_of_ble_eq_true rfl⟩ ⟨Nat.zero_le _, Nat.zero_le _⟩ rfl hl.1 rfl (Nat.le_of_ble_eq_true rfl) d_BitRow_window_12 (fun H locs hP hD hS => ?_)
  have hP : va_P D classes (w_BitRow_window cI cJ qB qB_cells B_length B_cells) H := hP.sub [0, 1] rfl
  have hD : va_D A (w_BitRow_window cI cJ qB qB_cells B_length B_cells) := hD.sub [0, 1] (by decide) rfl
  refine lv_iload_n hx hb d_BitRow_window_15 rfl (lv_at hl 0 rfl) ?_
  refine lv_lushr (v := ((r3.toUInt64 >>> (v2.toInt64.toUInt64 &&& Int64.toUInt64 63)).toInt64)) hx hb d_BitRow_window_16 rfl ?_
  refine z_nml hm (fun v5 hm => ?_)
  refine lv_lstore (lv' := [(4, .long v5), (3, .int v2), (2, .int v1), (0, .ref qB), (1, .int x1)]) hx hb d_BitRow_window_17 hl (by decide) rfl (fun ls hl => ?_)
  refine lv_iload_n hx hb d_BitRow_window_19 rfl (lv_at hl 1 rfl) ?_
  refine z_ifn hm (lv_if_ne (tgt := 28) hx hb d_BitRow_window_20 (by decide)) (fun hm => ?_) (fun hm => ?_)
  · refine lv_lload hx hb d_BitRow_window_23 (lv_at hl 0 rfl) ?_
    refine lv_goto (tgt := 43) hx hb d_BitRow_window_25 (by decide) ?_
    cases hm
    exact z_qo hQ (z_lret hr hx hb hlocks hK hP hD hS d_BitRow_window_43)
  · refine lv_lload hx hb d_BitRow_window_28 (lv_at hl 0 rfl) ?_
    refine lv_aload_n hx hb d_BitRow_window_30 rfl (lv_at hl 3 rfl) ?_
    refine lv_iload_n hx hb d_BitRow_window_31 rfl (lv_at hl 2 rfl) ?_
    refine lv_iconst (v := (1 : Int32)) hx hb d_BitRow_window_32 (by decide) ?_
    refine lv_iadd hx hb d_BitRow_window_33 ?_
    obtain ⟨r6, hu, hm⟩ := bd_el hm
    replace hm := nm_1 hm
    refine z_cVl (wc := w_BitRow_cellAt cI cJ qB qB_cells B_length B_cells) (wc' := w_BitRow_cellAt cI cJ qB qB_cells B_length B_cells) (wr := []) (As := [.int (v1 + (1 : Int32))]) (rest := [.long v5]) (c_BitRow_cellAt l D cI cJ tt qB qB_cells B_length _ B_cells (v1 + (1 : Int32)) r6 hu) F ok_BitRow_cellAt rfl k_380 hK hE hP hD hS hA [0, 1] [] rfl rfl (by decide) (by decide) (by decide) 0 rfl rfl rfl ⟨rfl, rfl, Nat.le_of_ble_eq_true rfl, Nat.le_of_ble_eq_true rfl⟩ ⟨Nat.zero_le _, Nat.zero_le _⟩ rfl hl.1 rfl (Nat.le_of_ble_eq_true rfl) d_BitRow_window_34 (fun H locs hP hD hS => ?_)
    have hP : va_P D classes (w_BitRow_window cI cJ qB qB_cells B_length B_cells) H := hP.sub [0, 1] rfl
    have hD : va_D A (w_BitRow_window cI cJ qB qB_cells B_length B_cells) := hD.sub [0, 1] (by decide) rfl
    refine lv_bipush (v := (64 : Int32)) hx hb d_BitRow_window_37 (by decide) ?_
    refine lv_iload_n hx hb d_BitRow_window_39 rfl (lv_at hl 1 rfl) ?_
    refine lv_isub hx hb d_BitRow_window_40 ?_
    refine lv_lshl (v := (r6 <<< (((64 : Int32) - v2).toInt64 &&& 63))) hx hb d_BitRow_window_41 rfl ?_
    refine lv_lor hx hb d_BitRow_window_42 ?_
    cases hm
    exact z_qo hQ (z_lret hr hx hb hlocks hK hP hD hS d_BitRow_window_43)
-- DeepChannel$BitRow.size()I
abbrev b_BitRow_size : ByteArray := prog_2_method_2_code
abbrev y_BitRow_size : MethodName := ⟨"DeepChannel$BitRow", "size", "()I"⟩
theorem d_BitRow_size_0 : decode b_BitRow_size 0 = .ok (.aload_n 0, 1) := by decide +kernel
theorem d_BitRow_size_1 : decode b_BitRow_size 1 = .ok (.getfield 15, 3) := by decide +kernel
theorem d_BitRow_size_4 : decode b_BitRow_size 4 = .ok (.ireturn, 1) := by decide +kernel
theorem ok_BitRow_size : OKv y_BitRow_size b_BitRow_size 1 (some .int) "DeepChannel$BitRow" 0 := ⟨k_533, k_531, k_532, k_50, by decide +kernel, by decide +kernel, by decide +kernel⟩
abbrev w_BitRow_size (cI cJ : ClassId) (qB : Nat) (B_cells : Value) (B_length : Int32) : va_W := [(qB, .inr (0, [B_cells, .int B_length]))]
def f_BitRow_size (B_length : Int32) : Option (Int32) :=
  some B_length
set_option maxHeartbeats 4000000 in
set_option maxRecDepth 100000 in
theorem c_BitRow_size (l : Launch) (D : va_G) (cI cJ : ClassId) (tt : Nat → Nat) (qB : Nat) (B_cells : Value) (sz : Nat) (B_length : Int32) (rr : Int32) (hm : f_BitRow_size B_length = some rr) : CTi l y_BitRow_size b_BitRow_size 1 (some .int) (RM 0 0) D cI cJ tt [.ref qB] (w_BitRow_size cI cJ qB B_cells B_length) (w_BitRow_size cI cJ qB B_cells B_length) sz rr := by
  refine Met.ofW (cc := b_BitRow_size) (maxL := 1) (ret := (some .int)) (by decide) rfl ?_
  intro p e s m args below meth c s₁ B hml hv
  obtain ⟨hargs, hsz, hP, hK, hD0, hE⟩ := hv
  have hx := B.exec
  have hb := B.bytes
  have hr := B.returns
  have hts : ∀ w ∈ TB, w.before args s = true := z_mV s (atoms_spec (ws := WD y_BitRow_size b_BitRow_size 1 (some .int)) B.pre)
  have hown : s.vm.findClass "DeepChannel$BitRow" = some m.cls := findClass_of_methodNamed B.named
  have hlocks := B.notSynchronized
  subst hsz
  have hD := hD0.self (sz := s.heap.size)
  generalize hAe : va_A (w_BitRow_size cI cJ qB B_cells B_length) s.heap.size = A at hD hE ⊢
  have hA : ∀ q : Nat, s.heap.size ≤ q → A q := fun q h => by rw [← hAe]; exact Or.inr h
  have hS : va_S A s.heap s.heap [] := va_S.rf
  refine z_entry (vs := [.ref qB]) hargs (Nat.le_of_ble_eq_true rfl) (fun ls hl => ?_)
  have hl : lv_has ls 1 [(0, .ref qB)] := hl
  show W p l e (RM 0 0) s m args below meth c s.heap [] 0 0 _ _
  refine z_qi (fun Q0 hQ => ?_)
  have F : CallFix p m c b_BitRow_size 1 s args TB "DeepChannel$BitRow" := ⟨hx, hb, hml, hown, hts⟩
  unfold f_BitRow_size at hm
  refine lv_aload_n hx hb d_BitRow_size_0 rfl (lv_at hl 0 rfl) ?_
  refine va_get (D := D) (ci := 0) (v := .int B_length) (C := "DeepChannel$BitRow") (T := fT_BitRow) (N := 2) hx hb hts u_BitRow hown hK hP 0 rfl rfl 1 (by decide) (hts _ k_213) (fun _ h9 => h9) rfl d_BitRow_size_1 ?_
  cases hm
  exact z_qo hQ (z_ireti hr hx hb hlocks hK hP hD hS d_BitRow_size_4)
-- java/util/Arrays.fill([JJ)V
abbrev b_Arrays_fillJ : ByteArray := prog_24_method_101_code
abbrev y_Arrays_fillJ : MethodName := ⟨"java/util/Arrays", "fill", "([JJ)V"⟩
theorem d_Arrays_fillJ_0 : decode b_Arrays_fillJ 0 = .ok (.iconst 0, 1) := by decide +kernel
theorem d_Arrays_fillJ_1 : decode b_Arrays_fillJ 1 = .ok (.istore_n 3, 1) := by decide +kernel
theorem d_Arrays_fillJ_2 : decode b_Arrays_fillJ 2 = .ok (.aload_n 0, 1) := by decide +kernel
theorem d_Arrays_fillJ_3 : decode b_Arrays_fillJ 3 = .ok (.arraylength, 1) := by decide +kernel
theorem d_Arrays_fillJ_4 : decode b_Arrays_fillJ 4 = .ok (.istore 4, 2) := by decide +kernel
theorem d_Arrays_fillJ_6 : decode b_Arrays_fillJ 6 = .ok (.iload_n 3, 1) := by decide +kernel
theorem d_Arrays_fillJ_7 : decode b_Arrays_fillJ 7 = .ok (.iload 4, 2) := by decide +kernel
theorem d_Arrays_fillJ_9 : decode b_Arrays_fillJ 9 = .ok (.if_icmp .ge 13, 3) := by decide +kernel
theorem d_Arrays_fillJ_12 : decode b_Arrays_fillJ 12 = .ok (.aload_n 0, 1) := by decide +kernel
theorem d_Arrays_fillJ_13 : decode b_Arrays_fillJ 13 = .ok (.iload_n 3, 1) := by decide +kernel
theorem d_Arrays_fillJ_14 : decode b_Arrays_fillJ 14 = .ok (.lload_n 1, 1) := by decide +kernel
theorem d_Arrays_fillJ_15 : decode b_Arrays_fillJ 15 = .ok (.lastore, 1) := by decide +kernel
theorem d_Arrays_fillJ_16 : decode b_Arrays_fillJ 16 = .ok (.iinc 3 1, 3) := by decide +kernel
theorem d_Arrays_fillJ_19 : decode b_Arrays_fillJ 19 = .ok (.goto (-13), 3) := by decide +kernel
theorem d_Arrays_fillJ_22 : decode b_Arrays_fillJ 22 = .ok (.return_, 1) := by decide +kernel
theorem ok_Arrays_fillJ : OKs y_Arrays_fillJ b_Arrays_fillJ 5 none 2 := ⟨k_483, k_482, k_47, by decide +kernel, by decide +kernel, by decide +kernel⟩
abbrev w_Arrays_fillJ (cI cJ : ClassId) (qP0 : Nat) (nP0 : Nat) (p0 : Nat → Int64) : va_W := [(qP0, .inl (cJ, nP0, .inr (.inl p0)))]
def f_Arrays_fillJ_6_b (nP0 : Nat) (kh6 : Int64 → Int32 → Int32 → (Nat → Int64) → Option ((Nat → Int64))) (x1 : Int64) (x3 : Int32) (x4 : Int32) (p0 : Nat → Int64) : Option ((Nat → Int64)) :=
  if x4 ≤ x3 then
    some p0
  else
  wrL p0 nP0 x3 x1 fun g1 =>
  nm (x3 + (1 : Int32)) fun v2 =>
  kh6 x1 v2 x4 g1
def f_Arrays_fillJ_6 (nP0 : Nat) : Nat → Int64 → Int32 → Int32 → (Nat → Int64) → Option ((Nat → Int64))
  | 0 => fun _ _ _ _ => none
  | n + 1 => fun x1 x3 x4 p0 => f_Arrays_fillJ_6_b nP0 (f_Arrays_fillJ_6 nP0 n) x1 x3 x4 p0
def f_Arrays_fillJ (p0 : Nat → Int64) (nP0 : Nat) (x1 : Int64) : Option ((Nat → Int64)) :=
  nm (nI nP0) fun v3 =>
  f_Arrays_fillJ_6 nP0 10000 x1 (0 : Int32) v3 p0
set_option maxHeartbeats 4000000 in
set_option maxRecDepth 100000 in
theorem c_Arrays_fillJ (l : Launch) (D : va_G) (cI cJ : ClassId) (tt : Nat → Nat) (qP0 : Nat) (nP0 : Nat) (sz : Nat) (p0 : Nat → Int64) (x1 : Int64) (p0' : Nat → Int64) (hm : f_Arrays_fillJ p0 nP0 x1 = some p0') : CTv l y_Arrays_fillJ b_Arrays_fillJ 5 none (RM 0 0) D cI cJ tt [.ref qP0, .long x1] (w_Arrays_fillJ cI cJ qP0 nP0 p0) (w_Arrays_fillJ cI cJ qP0 nP0 p0') sz := by
  refine Met.ofW (cc := b_Arrays_fillJ) (maxL := 5) (ret := none) (by decide) rfl ?_
  intro p e s m args below meth c s₁ B hml hv
  obtain ⟨hargs, hsz, hP, hK, hD0, hE⟩ := hv
  have hx := B.exec
  have hb := B.bytes
  have hr := B.returns
  have hts : ∀ w ∈ TB, w.before args s = true := z_mV s (atoms_spec (ws := WD y_Arrays_fillJ b_Arrays_fillJ 5 none) B.pre)
  have hown : s.vm.findClass "java/util/Arrays" = some m.cls := findClass_of_methodNamed B.named
  have hlocks := B.notSynchronized
  subst hsz
  have hD := hD0.self (sz := s.heap.size)
  generalize hAe : va_A (w_Arrays_fillJ cI cJ qP0 nP0 p0) s.heap.size = A at hD hE ⊢
  have hA : ∀ q : Nat, s.heap.size ≤ q → A q := fun q h => by rw [← hAe]; exact Or.inr h
  have hS : va_S A s.heap s.heap [] := va_S.rf
  refine z_entry (vs := [.ref qP0, .long x1]) hargs (Nat.le_of_ble_eq_true rfl) (fun ls hl => ?_)
  have hl : lv_has ls 5 [(0, .ref qP0), (1, .long x1)] := hl
  show W p l e (RM 0 0) s m args below meth c s.heap [] 0 0 _ _
  refine z_qi (fun Q0 hQ => ?_)
  have F : CallFix p m c b_Arrays_fillJ 5 s args TB "java/util/Arrays" := ⟨hx, hb, hml, hown, hts⟩
  have T6 : ∀ (n6 : Nat) (x1 : Int64) (x3 : Int32) (x4 : Int32) (p0 : Nat → Int64), f_Arrays_fillJ_6 nP0 n6 x1 x3 x4 p0 = some p0' → ∀ (H : Heap) (locs : List Loc), va_P D classes (w_Arrays_fillJ cI cJ qP0 nP0 p0) H → va_D A (w_Arrays_fillJ cI cJ qP0 nP0 p0) → va_S A s.heap H locs → ∀ (ls : Array Slot), lv_has ls 5 [(0, .ref qP0), (1, .long x1), (3, .int x3), (4, .int x4)] → W p l e (RM 0 0) s m args below meth c H locs 0 0 Q0 (F0 m 6 ls []) := by
    intro n6
    induction n6 with
    | zero => intro x1 x3 x4 p0 hm; cases hm
    | succ n6 ih6 =>
      intro x1 x3 x4 p0 hm H locs hP hD hS ls hl
      replace hm : f_Arrays_fillJ_6_b nP0 (f_Arrays_fillJ_6 nP0 n6) x1 x3 x4 p0 = some p0' := hm
      unfold f_Arrays_fillJ_6_b at hm
      refine lv_iload_n hx hb d_Arrays_fillJ_6 rfl (lv_at hl 2 rfl) ?_
      refine lv_iload hx hb d_Arrays_fillJ_7 (lv_at hl 3 rfl) ?_
      refine z_if hm (lv_icmp_ge (tgt := 22) hx hb d_Arrays_fillJ_9 (by decide)) (fun hm => ?_) (fun hm => ?_)
      · cases hm
        exact z_qo hQ (z_vret hr hx hb hlocks hK hP hD hS d_Arrays_fillJ_22)
      · refine lv_aload_n hx hb d_Arrays_fillJ_12 rfl (lv_at hl 0 rfl) ?_
        refine lv_iload_n hx hb d_Arrays_fillJ_13 rfl (lv_at hl 2 rfl) ?_
        refine lv_lload_n hx hb d_Arrays_fillJ_14 rfl (lv_at hl 1 rfl) ?_
        refine z_last hm hx hb hK hP hD hS 0 rfl d_Arrays_fillJ_15 (fun g1 hm H locs hP hD hS => ?_)
        have hP : va_P D classes (w_Arrays_fillJ cI cJ qP0 nP0 g1) H := hP
        have hD : va_D A (w_Arrays_fillJ cI cJ qP0 nP0 g1) := hD
        obtain ⟨v2, ev, hm⟩ := nm_el hm
        refine lv_iinc (v := v2) (lv' := [(3, .int v2), (0, .ref qP0), (1, .long x1), (4, .int x4)]) hx hb d_Arrays_fillJ_16 hl (k := 2) rfl (by rw [ev]; rfl) (by decide) rfl (fun ls hl => ?_)
        refine lv_goto (tgt := 6) hx hb d_Arrays_fillJ_19 (by decide) ?_
        exact ih6 x1 v2 x4 g1 hm _ _ hP hD hS _ (lv_sub hl [1, 2, 0, 3] rfl)
  unfold f_Arrays_fillJ at hm
  refine lv_iconst (v := (0 : Int32)) hx hb d_Arrays_fillJ_0 (by decide) ?_
  refine lv_istore_n (lv' := [(3, .int (0 : Int32)), (0, .ref qP0), (1, .long x1)]) hx hb d_Arrays_fillJ_1 rfl hl (by decide) rfl (fun ls hl => ?_)
  refine lv_aload_n hx hb d_Arrays_fillJ_2 rfl (lv_at hl 1 rfl) ?_
  refine va_alen (v := (nI nP0)) hx hb hK hP 0 1 rfl rfl rfl d_Arrays_fillJ_3 ?_
  refine z_nmi hm (fun v3 hm => ?_)
  refine lv_istore (lv' := [(4, .int v3), (3, .int (0 : Int32)), (0, .ref qP0), (1, .long x1)]) hx hb d_Arrays_fillJ_4 hl (by decide) rfl (fun ls hl => ?_)
  exact T6 10000 x1 (0 : Int32) v3 p0 hm _ _ hP hD hS _ (lv_sub hl [2, 3, 1, 0] rfl)
-- DeepChannel$BitRow.empty()V
abbrev b_BitRow_empty : ByteArray := prog_2_method_3_code
abbrev y_BitRow_empty : MethodName := ⟨"DeepChannel$BitRow", "empty", "()V"⟩
theorem d_BitRow_empty_0 : decode b_BitRow_empty 0 = .ok (.aload_n 0, 1) := by decide +kernel
theorem d_BitRow_empty_1 : decode b_BitRow_empty 1 = .ok (.getfield 9, 3) := by decide +kernel
theorem d_BitRow_empty_4 : decode b_BitRow_empty 4 = .ok (.lconst 0, 1) := by decide +kernel
theorem d_BitRow_empty_5 : decode b_BitRow_empty 5 = .ok (.invokestatic 19, 3) := by decide +kernel
theorem d_BitRow_empty_8 : decode b_BitRow_empty 8 = .ok (.aload_n 0, 1) := by decide +kernel
theorem d_BitRow_empty_9 : decode b_BitRow_empty 9 = .ok (.iconst 0, 1) := by decide +kernel
theorem d_BitRow_empty_10 : decode b_BitRow_empty 10 = .ok (.putfield 15, 3) := by decide +kernel
theorem d_BitRow_empty_13 : decode b_BitRow_empty 13 = .ok (.return_, 1) := by decide +kernel
theorem ok_BitRow_empty : OKv y_BitRow_empty b_BitRow_empty 1 none "DeepChannel$BitRow" 0 := ⟨k_480, k_478, k_479, k_50, by decide +kernel, by decide +kernel, by decide +kernel⟩
abbrev w_BitRow_empty (cI cJ : ClassId) (qB qB_cells : Nat) (B_length : Int32) (B_cells : Nat → Int64) : va_W := [(qB, .inr (0, [.ref qB_cells, .int B_length])), (qB_cells, .inl (cJ, 64, .inr (.inl B_cells)))]
def f_BitRow_empty (B_length : Int32) (B_cells : Nat → Int64) : Option (Int32 × (Nat → Int64)) :=
  bd (f_Arrays_fillJ B_cells 64 (0 : Int64)) fun u2 =>
  nm u2 fun g1 =>
  some ((0 : Int32), g1)
set_option maxHeartbeats 4000000 in
set_option maxRecDepth 100000 in
theorem c_BitRow_empty (l : Launch) (D : va_G) (cI cJ : ClassId) (tt : Nat → Nat) (qB qB_cells : Nat) (sz : Nat) (B_length : Int32) (B_cells : Nat → Int64) (B_length' : Int32) (B_cells' : Nat → Int64) (hm : f_BitRow_empty B_length B_cells = some (B_length', B_cells')) : CTv l y_BitRow_empty b_BitRow_empty 1 none (RM 1 24) D cI cJ tt [.ref qB] (w_BitRow_empty cI cJ qB qB_cells B_length B_cells) (w_BitRow_empty cI cJ qB qB_cells B_length' B_cells') sz := by
  refine Met.ofW (cc := b_BitRow_empty) (maxL := 1) (ret := none) (by decide) rfl ?_
  intro p e s m args below meth c s₁ B hml hv
  obtain ⟨hargs, hsz, hP, hK, hD0, hE⟩ := hv
  have hx := B.exec
  have hb := B.bytes
  have hr := B.returns
  have hts : ∀ w ∈ TB, w.before args s = true := z_mV s (atoms_spec (ws := WD y_BitRow_empty b_BitRow_empty 1 none) B.pre)
  have hown : s.vm.findClass "DeepChannel$BitRow" = some m.cls := findClass_of_methodNamed B.named
  have hlocks := B.notSynchronized
  subst hsz
  have hD := hD0.self (sz := s.heap.size)
  generalize hAe : va_A (w_BitRow_empty cI cJ qB qB_cells B_length B_cells) s.heap.size = A at hD hE ⊢
  have hA : ∀ q : Nat, s.heap.size ≤ q → A q := fun q h => by rw [← hAe]; exact Or.inr h
  have hS : va_S A s.heap s.heap [] := va_S.rf
  refine z_entry (vs := [.ref qB]) hargs (Nat.le_of_ble_eq_true rfl) (fun ls hl => ?_)
  have hl : lv_has ls 1 [(0, .ref qB)] := hl
  show W p l e (RM 1 24) s m args below meth c s.heap [] 0 0 _ _
  refine z_qi (fun Q0 hQ => ?_)
  have F : CallFix p m c b_BitRow_empty 1 s args TB "DeepChannel$BitRow" := ⟨hx, hb, hml, hown, hts⟩
  unfold f_BitRow_empty at hm
  refine lv_aload_n hx hb d_BitRow_empty_0 rfl (lv_at hl 0 rfl) ?_
  refine va_get (D := D) (ci := 0) (v := .ref qB_cells) (C := "DeepChannel$BitRow") (T := fT_BitRow) (N := 2) hx hb hts u_BitRow hown hK hP 0 rfl rfl 0 (by decide) (hts _ k_212) (fun _ h9 => h9) rfl d_BitRow_empty_1 ?_
  refine lv_lconst (v := (0 : Int64)) hx hb d_BitRow_empty_4 (by decide) ?_
  obtain ⟨g1, hu, hm⟩ := bd_el hm
  replace hm := nm_1 hm
  refine z_cSv (wc := w_Arrays_fillJ cI cJ qB_cells 64 B_cells) (wc' := w_Arrays_fillJ cI cJ qB_cells 64 g1) (wr := [(qB, .inr (0, [.ref qB_cells, .int B_length]))]) (As := [.ref qB_cells, .long (0 : Int64)]) (rest := []) (c_Arrays_fillJ l D cI cJ tt qB_cells 64 _ B_cells (0 : Int64) g1 hu) F ok_Arrays_fillJ k_481 hK hE hP hD hS hA [1] [0] rfl rfl (by decide) (by decide) (by decide) ⟨rfl, rfl, Nat.le_of_ble_eq_true rfl, Nat.le_of_ble_eq_true rfl⟩ ⟨Nat.zero_le _, Nat.zero_le _⟩ rfl hl.1 rfl (Nat.le_of_ble_eq_true rfl) d_BitRow_empty_5 (fun H locs hP hD hS => ?_)
  have hP : va_P D classes (w_BitRow_empty cI cJ qB qB_cells B_length g1) H := hP.sub [0, 1] rfl
  have hD : va_D A (w_BitRow_empty cI cJ qB qB_cells B_length g1) := hD.sub [0, 1] (by decide) rfl
  refine lv_aload_n hx hb d_BitRow_empty_8 rfl (lv_at hl 0 rfl) ?_
  refine lv_iconst (v := (0 : Int32)) hx hb d_BitRow_empty_9 (by decide) ?_
  refine va_put (D := D) (ci := 0) (v := .int (0 : Int32)) (ty := .int) (C := "DeepChannel$BitRow") (T := fT_BitRow) (N := 2) hx hb hts u_BitRow fY_BitRow fK_BitRow fN_BitRow hown hK hP hD hS 0 rfl rfl 1 (by decide) (hts _ k_213) (fun _ h9 => h9) rfl (by decide +kernel) rfl rfl (Nat.le_of_ble_eq_true rfl) d_BitRow_empty_10 (fun H locs hP hD hS => ?_)
  have hP : va_P D classes (w_BitRow_empty cI cJ qB qB_cells (0 : Int32) g1) H := hP
  have hD : va_D A (w_BitRow_empty cI cJ qB qB_cells (0 : Int32) g1) := hD
  cases hm
  exact z_qo hQ (z_vret hr hx hb hlocks hK hP hD hS d_BitRow_empty_13)
-- java/lang/Integer.bitCount(I)I
abbrev b_Integer_bitCount : ByteArray := prog_18_method_49_code
abbrev y_Integer_bitCount : MethodName := ⟨"java/lang/Integer", "bitCount", "(I)I"⟩
theorem d_Integer_bitCount_0 : decode b_Integer_bitCount 0 = .ok (.iload_n 0, 1) := by decide +kernel
theorem d_Integer_bitCount_1 : decode b_Integer_bitCount 1 = .ok (.iload_n 0, 1) := by decide +kernel
theorem d_Integer_bitCount_2 : decode b_Integer_bitCount 2 = .ok (.iconst 1, 1) := by decide +kernel
theorem d_Integer_bitCount_3 : decode b_Integer_bitCount 3 = .ok (.iushr, 1) := by decide +kernel
theorem d_Integer_bitCount_4 : decode b_Integer_bitCount 4 = .ok (.ldc_w 265, 3) := by decide +kernel
theorem d_Integer_bitCount_7 : decode b_Integer_bitCount 7 = .ok (.iand, 1) := by decide +kernel
theorem d_Integer_bitCount_8 : decode b_Integer_bitCount 8 = .ok (.isub, 1) := by decide +kernel
theorem d_Integer_bitCount_9 : decode b_Integer_bitCount 9 = .ok (.istore_n 0, 1) := by decide +kernel
theorem d_Integer_bitCount_10 : decode b_Integer_bitCount 10 = .ok (.iload_n 0, 1) := by decide +kernel
theorem d_Integer_bitCount_11 : decode b_Integer_bitCount 11 = .ok (.ldc_w 266, 3) := by decide +kernel
theorem d_Integer_bitCount_14 : decode b_Integer_bitCount 14 = .ok (.iand, 1) := by decide +kernel
theorem d_Integer_bitCount_15 : decode b_Integer_bitCount 15 = .ok (.iload_n 0, 1) := by decide +kernel
theorem d_Integer_bitCount_16 : decode b_Integer_bitCount 16 = .ok (.iconst 2, 1) := by decide +kernel
theorem d_Integer_bitCount_17 : decode b_Integer_bitCount 17 = .ok (.iushr, 1) := by decide +kernel
theorem d_Integer_bitCount_18 : decode b_Integer_bitCount 18 = .ok (.ldc_w 266, 3) := by decide +kernel
theorem d_Integer_bitCount_21 : decode b_Integer_bitCount 21 = .ok (.iand, 1) := by decide +kernel
theorem d_Integer_bitCount_22 : decode b_Integer_bitCount 22 = .ok (.iadd, 1) := by decide +kernel
theorem d_Integer_bitCount_23 : decode b_Integer_bitCount 23 = .ok (.istore_n 0, 1) := by decide +kernel
theorem d_Integer_bitCount_24 : decode b_Integer_bitCount 24 = .ok (.iload_n 0, 1) := by decide +kernel
theorem d_Integer_bitCount_25 : decode b_Integer_bitCount 25 = .ok (.iload_n 0, 1) := by decide +kernel
theorem d_Integer_bitCount_26 : decode b_Integer_bitCount 26 = .ok (.iconst 4, 1) := by decide +kernel
theorem d_Integer_bitCount_27 : decode b_Integer_bitCount 27 = .ok (.iushr, 1) := by decide +kernel
theorem d_Integer_bitCount_28 : decode b_Integer_bitCount 28 = .ok (.iadd, 1) := by decide +kernel
theorem d_Integer_bitCount_29 : decode b_Integer_bitCount 29 = .ok (.ldc_w 267, 3) := by decide +kernel
theorem d_Integer_bitCount_32 : decode b_Integer_bitCount 32 = .ok (.iand, 1) := by decide +kernel
theorem d_Integer_bitCount_33 : decode b_Integer_bitCount 33 = .ok (.istore_n 0, 1) := by decide +kernel
theorem d_Integer_bitCount_34 : decode b_Integer_bitCount 34 = .ok (.iload_n 0, 1) := by decide +kernel
theorem d_Integer_bitCount_35 : decode b_Integer_bitCount 35 = .ok (.iload_n 0, 1) := by decide +kernel
theorem d_Integer_bitCount_36 : decode b_Integer_bitCount 36 = .ok (.bipush 8, 2) := by decide +kernel
theorem d_Integer_bitCount_38 : decode b_Integer_bitCount 38 = .ok (.iushr, 1) := by decide +kernel
theorem d_Integer_bitCount_39 : decode b_Integer_bitCount 39 = .ok (.iadd, 1) := by decide +kernel
theorem d_Integer_bitCount_40 : decode b_Integer_bitCount 40 = .ok (.istore_n 0, 1) := by decide +kernel
theorem d_Integer_bitCount_41 : decode b_Integer_bitCount 41 = .ok (.iload_n 0, 1) := by decide +kernel
theorem d_Integer_bitCount_42 : decode b_Integer_bitCount 42 = .ok (.iload_n 0, 1) := by decide +kernel
theorem d_Integer_bitCount_43 : decode b_Integer_bitCount 43 = .ok (.bipush 16, 2) := by decide +kernel
theorem d_Integer_bitCount_45 : decode b_Integer_bitCount 45 = .ok (.iushr, 1) := by decide +kernel
theorem d_Integer_bitCount_46 : decode b_Integer_bitCount 46 = .ok (.iadd, 1) := by decide +kernel
theorem d_Integer_bitCount_47 : decode b_Integer_bitCount 47 = .ok (.istore_n 0, 1) := by decide +kernel
theorem d_Integer_bitCount_48 : decode b_Integer_bitCount 48 = .ok (.iload_n 0, 1) := by decide +kernel
theorem d_Integer_bitCount_49 : decode b_Integer_bitCount 49 = .ok (.bipush 63, 2) := by decide +kernel
theorem d_Integer_bitCount_51 : decode b_Integer_bitCount 51 = .ok (.iand, 1) := by decide +kernel
theorem d_Integer_bitCount_52 : decode b_Integer_bitCount 52 = .ok (.ireturn, 1) := by decide +kernel
theorem ok_Integer_bitCount : OKs y_Integer_bitCount b_Integer_bitCount 1 (some .int) 1 := ⟨k_198, k_197, k_49, by decide +kernel, by decide +kernel, by decide +kernel⟩
abbrev w_Integer_bitCount  : va_W := []
def f_Integer_bitCount (x0 : Int32) : Option (Int32) :=
  nm (x0 - (((x0.toUInt32 >>> ((1 : Int32).toUInt32 &&& Int32.toUInt32 31)).toInt32) &&& (1431655765 : Int32))) fun v1 =>
  nm ((v1 &&& (858993459 : Int32)) + (((v1.toUInt32 >>> ((2 : Int32).toUInt32 &&& Int32.toUInt32 31)).toInt32) &&& (858993459 : Int32))) fun v2 =>
  nm ((v2 + ((v2.toUInt32 >>> ((4 : Int32).toUInt32 &&& Int32.toUInt32 31)).toInt32)) &&& (252645135 : Int32)) fun v3 =>
  nm (v3 + ((v3.toUInt32 >>> ((8 : Int32).toUInt32 &&& Int32.toUInt32 31)).toInt32)) fun v4 =>
  nm (v4 + ((v4.toUInt32 >>> ((16 : Int32).toUInt32 &&& Int32.toUInt32 31)).toInt32)) fun v5 =>
  some (v5 &&& (63 : Int32))
set_option maxHeartbeats 4000000 in
set_option maxRecDepth 100000 in
theorem c_Integer_bitCount (l : Launch) (D : va_G) (cI cJ : ClassId) (tt : Nat → Nat) (sz : Nat) (x0 : Int32) (rr : Int32) (hm : f_Integer_bitCount x0 = some rr) : CTi l y_Integer_bitCount b_Integer_bitCount 1 (some .int) (RM 0 0) D cI cJ tt [.int x0] (w_Integer_bitCount) (w_Integer_bitCount) sz rr := by
  refine Met.ofW (cc := b_Integer_bitCount) (maxL := 1) (ret := (some .int)) (by decide) rfl ?_
  intro p e s m args below meth c s₁ B hml hv
  obtain ⟨hargs, hsz, hP, hK, hD0, hE⟩ := hv
  have hx := B.exec
  have hb := B.bytes
  have hr := B.returns
  have hts : ∀ w ∈ TB, w.before args s = true := z_mV s (atoms_spec (ws := WD y_Integer_bitCount b_Integer_bitCount 1 (some .int)) B.pre)
  have hown : s.vm.findClass "java/lang/Integer" = some m.cls := findClass_of_methodNamed B.named
  have hlocks := B.notSynchronized
  subst hsz
  have hD := hD0.self (sz := s.heap.size)
  generalize hAe : va_A (w_Integer_bitCount) s.heap.size = A at hD hE ⊢
  have hA : ∀ q : Nat, s.heap.size ≤ q → A q := fun q h => by rw [← hAe]; exact Or.inr h
  have hS : va_S A s.heap s.heap [] := va_S.rf
  refine z_entry (vs := [.int x0]) hargs (Nat.le_of_ble_eq_true rfl) (fun ls hl => ?_)
  have hl : lv_has ls 1 [(0, .int x0)] := hl
  show W p l e (RM 0 0) s m args below meth c s.heap [] 0 0 _ _
  refine z_qi (fun Q0 hQ => ?_)
  have F : CallFix p m c b_Integer_bitCount 1 s args TB "java/lang/Integer" := ⟨hx, hb, hml, hown, hts⟩
  unfold f_Integer_bitCount at hm
  refine lv_iload_n hx hb d_Integer_bitCount_0 rfl (lv_at hl 0 rfl) ?_
  refine lv_iload_n hx hb d_Integer_bitCount_1 rfl (lv_at hl 0 rfl) ?_
  refine lv_iconst (v := (1 : Int32)) hx hb d_Integer_bitCount_2 (by decide) ?_
  refine lv_iushr (v := ((x0.toUInt32 >>> ((1 : Int32).toUInt32 &&& Int32.toUInt32 31)).toInt32)) hx hb d_Integer_bitCount_3 rfl ?_
  refine lv_ldcw (v := (1431655765 : Int32)) hx hb hown (hts _ k_199) d_Integer_bitCount_4 ?_
  refine lv_iand hx hb d_Integer_bitCount_7 ?_
  refine lv_isub hx hb d_Integer_bitCount_8 ?_
  refine z_nmi hm (fun v1 hm => ?_)
  refine lv_istore_n (lv' := [(0, .int v1)]) hx hb d_Integer_bitCount_9 rfl hl (by decide) rfl (fun ls hl => ?_)
  refine lv_iload_n hx hb d_Integer_bitCount_10 rfl (lv_at hl 0 rfl) ?_
  refine lv_ldcw (v := (858993459 : Int32)) hx hb hown (hts _ k_200) d_Integer_bitCount_11 ?_
  refine lv_iand hx hb d_Integer_bitCount_14 ?_
  refine lv_iload_n hx hb d_Integer_bitCount_15 rfl (lv_at hl 0 rfl) ?_
  refine lv_iconst (v := (2 : Int32)) hx hb d_Integer_bitCount_16 (by decide) ?_
  refine lv_iushr (v := ((v1.toUInt32 >>> ((2 : Int32).toUInt32 &&& Int32.toUInt32 31)).toInt32)) hx hb d_Integer_bitCount_17 rfl ?_
  refine lv_ldcw (v := (858993459 : Int32)) hx hb hown (hts _ k_200) d_Integer_bitCount_18 ?_
  refine lv_iand hx hb d_Integer_bitCount_21 ?_
  refine lv_iadd hx hb d_Integer_bitCount_22 ?_
  refine z_nmi hm (fun v2 hm => ?_)
  refine lv_istore_n (lv' := [(0, .int v2)]) hx hb d_Integer_bitCount_23 rfl hl (by decide) rfl (fun ls hl => ?_)
  refine lv_iload_n hx hb d_Integer_bitCount_24 rfl (lv_at hl 0 rfl) ?_
  refine lv_iload_n hx hb d_Integer_bitCount_25 rfl (lv_at hl 0 rfl) ?_
  refine lv_iconst (v := (4 : Int32)) hx hb d_Integer_bitCount_26 (by decide) ?_
  refine lv_iushr (v := ((v2.toUInt32 >>> ((4 : Int32).toUInt32 &&& Int32.toUInt32 31)).toInt32)) hx hb d_Integer_bitCount_27 rfl ?_
  refine lv_iadd hx hb d_Integer_bitCount_28 ?_
  refine lv_ldcw (v := (252645135 : Int32)) hx hb hown (hts _ k_201) d_Integer_bitCount_29 ?_
  refine lv_iand hx hb d_Integer_bitCount_32 ?_
  refine z_nmi hm (fun v3 hm => ?_)
  refine lv_istore_n (lv' := [(0, .int v3)]) hx hb d_Integer_bitCount_33 rfl hl (by decide) rfl (fun ls hl => ?_)
  refine lv_iload_n hx hb d_Integer_bitCount_34 rfl (lv_at hl 0 rfl) ?_
  refine lv_iload_n hx hb d_Integer_bitCount_35 rfl (lv_at hl 0 rfl) ?_
  refine lv_bipush (v := (8 : Int32)) hx hb d_Integer_bitCount_36 (by decide) ?_
  refine lv_iushr (v := ((v3.toUInt32 >>> ((8 : Int32).toUInt32 &&& Int32.toUInt32 31)).toInt32)) hx hb d_Integer_bitCount_38 rfl ?_
  refine lv_iadd hx hb d_Integer_bitCount_39 ?_
  refine z_nmi hm (fun v4 hm => ?_)
  refine lv_istore_n (lv' := [(0, .int v4)]) hx hb d_Integer_bitCount_40 rfl hl (by decide) rfl (fun ls hl => ?_)
  refine lv_iload_n hx hb d_Integer_bitCount_41 rfl (lv_at hl 0 rfl) ?_
  refine lv_iload_n hx hb d_Integer_bitCount_42 rfl (lv_at hl 0 rfl) ?_
  refine lv_bipush (v := (16 : Int32)) hx hb d_Integer_bitCount_43 (by decide) ?_
  refine lv_iushr (v := ((v4.toUInt32 >>> ((16 : Int32).toUInt32 &&& Int32.toUInt32 31)).toInt32)) hx hb d_Integer_bitCount_45 rfl ?_
  refine lv_iadd hx hb d_Integer_bitCount_46 ?_
  refine z_nmi hm (fun v5 hm => ?_)
  refine lv_istore_n (lv' := [(0, .int v5)]) hx hb d_Integer_bitCount_47 rfl hl (by decide) rfl (fun ls hl => ?_)
  refine lv_iload_n hx hb d_Integer_bitCount_48 rfl (lv_at hl 0 rfl) ?_
  refine lv_bipush (v := (63 : Int32)) hx hb d_Integer_bitCount_49 (by decide) ?_
  refine lv_iand hx hb d_Integer_bitCount_51 ?_
  cases hm
  exact z_qo hQ (z_ireti hr hx hb hlocks hK hP hD hS d_Integer_bitCount_52)
-- DeepChannel$Coder.pairOf(I)I
abbrev b_Coder_pairOf : ByteArray := prog_3_method_4_code
abbrev y_Coder_pairOf : MethodName := ⟨"DeepChannel$Coder", "pairOf", "(I)I"⟩
theorem d_Coder_pairOf_0 : decode b_Coder_pairOf 0 = .ok (.iload_n 0, 1) := by decide +kernel
theorem d_Coder_pairOf_1 : decode b_Coder_pairOf 1 = .ok (.bipush 121, 2) := by decide +kernel
theorem d_Coder_pairOf_3 : decode b_Coder_pairOf 3 = .ok (.iand, 1) := by decide +kernel
theorem d_Coder_pairOf_4 : decode b_Coder_pairOf 4 = .ok (.invokestatic 26, 3) := by decide +kernel
theorem d_Coder_pairOf_7 : decode b_Coder_pairOf 7 = .ok (.iconst 1, 1) := by decide +kernel
theorem d_Coder_pairOf_8 : decode b_Coder_pairOf 8 = .ok (.iand, 1) := by decide +kernel
theorem d_Coder_pairOf_9 : decode b_Coder_pairOf 9 = .ok (.istore_n 1, 1) := by decide +kernel
theorem d_Coder_pairOf_10 : decode b_Coder_pairOf 10 = .ok (.iconst 1, 1) := by decide +kernel
theorem d_Coder_pairOf_11 : decode b_Coder_pairOf 11 = .ok (.iload_n 0, 1) := by decide +kernel
theorem d_Coder_pairOf_12 : decode b_Coder_pairOf 12 = .ok (.bipush 91, 2) := by decide +kernel
theorem d_Coder_pairOf_14 : decode b_Coder_pairOf 14 = .ok (.iand, 1) := by decide +kernel
theorem d_Coder_pairOf_15 : decode b_Coder_pairOf 15 = .ok (.invokestatic 26, 3) := by decide +kernel
theorem d_Coder_pairOf_18 : decode b_Coder_pairOf 18 = .ok (.iconst 1, 1) := by decide +kernel
theorem d_Coder_pairOf_19 : decode b_Coder_pairOf 19 = .ok (.iand, 1) := by decide +kernel
theorem d_Coder_pairOf_20 : decode b_Coder_pairOf 20 = .ok (.isub, 1) := by decide +kernel
theorem d_Coder_pairOf_21 : decode b_Coder_pairOf 21 = .ok (.istore_n 2, 1) := by decide +kernel
theorem d_Coder_pairOf_22 : decode b_Coder_pairOf 22 = .ok (.iload_n 1, 1) := by decide +kernel
theorem d_Coder_pairOf_23 : decode b_Coder_pairOf 23 = .ok (.iload_n 2, 1) := by decide +kernel
theorem d_Coder_pairOf_24 : decode b_Coder_pairOf 24 = .ok (.iconst 1, 1) := by decide +kernel
theorem d_Coder_pairOf_25 : decode b_Coder_pairOf 25 = .ok (.ishl, 1) := by decide +kernel
theorem d_Coder_pairOf_26 : decode b_Coder_pairOf 26 = .ok (.ior, 1) := by decide +kernel
theorem d_Coder_pairOf_27 : decode b_Coder_pairOf 27 = .ok (.ireturn, 1) := by decide +kernel
theorem ok_Coder_pairOf : OKs y_Coder_pairOf b_Coder_pairOf 3 (some .int) 1 := ⟨k_284, k_283, k_51, by decide +kernel, by decide +kernel, by decide +kernel⟩
abbrev w_Coder_pairOf  : va_W := []
def f_Coder_pairOf (x0 : Int32) : Option (Int32) :=
  bd (f_Integer_bitCount (x0 &&& (121 : Int32))) fun u2 =>
  nm u2 fun r1 =>
  nm (r1 &&& (1 : Int32)) fun v3 =>
  bd (f_Integer_bitCount (x0 &&& (91 : Int32))) fun u5 =>
  nm u5 fun r4 =>
  nm ((1 : Int32) - (r4 &&& (1 : Int32))) fun v6 =>
  some (v3 ||| (v6 <<< ((1 : Int32) &&& 31)))
set_option maxHeartbeats 4000000 in
set_option maxRecDepth 100000 in
theorem c_Coder_pairOf (l : Launch) (D : va_G) (cI cJ : ClassId) (tt : Nat → Nat) (sz : Nat) (x0 : Int32) (rr : Int32) (hm : f_Coder_pairOf x0 = some rr) : CTi l y_Coder_pairOf b_Coder_pairOf 3 (some .int) (RM 1 20) D cI cJ tt [.int x0] (w_Coder_pairOf) (w_Coder_pairOf) sz rr := by
  refine Met.ofW (cc := b_Coder_pairOf) (maxL := 3) (ret := (some .int)) (by decide) rfl ?_
  intro p e s m args below meth c s₁ B hml hv
  obtain ⟨hargs, hsz, hP, hK, hD0, hE⟩ := hv
  have hx := B.exec
  have hb := B.bytes
  have hr := B.returns
  have hts : ∀ w ∈ TB, w.before args s = true := z_mV s (atoms_spec (ws := WD y_Coder_pairOf b_Coder_pairOf 3 (some .int)) B.pre)
  have hown : s.vm.findClass "DeepChannel$Coder" = some m.cls := findClass_of_methodNamed B.named
  have hlocks := B.notSynchronized
  subst hsz
  have hD := hD0.self (sz := s.heap.size)
  generalize hAe : va_A (w_Coder_pairOf) s.heap.size = A at hD hE ⊢
  have hA : ∀ q : Nat, s.heap.size ≤ q → A q := fun q h => by rw [← hAe]; exact Or.inr h
  have hS : va_S A s.heap s.heap [] := va_S.rf
  refine z_entry (vs := [.int x0]) hargs (Nat.le_of_ble_eq_true rfl) (fun ls hl => ?_)
  have hl : lv_has ls 3 [(0, .int x0)] := hl
  show W p l e (RM 1 20) s m args below meth c s.heap [] 0 0 _ _
  refine z_qi (fun Q0 hQ => ?_)
  have F : CallFix p m c b_Coder_pairOf 3 s args TB "DeepChannel$Coder" := ⟨hx, hb, hml, hown, hts⟩
  unfold f_Coder_pairOf at hm
  refine lv_iload_n hx hb d_Coder_pairOf_0 rfl (lv_at hl 0 rfl) ?_
  refine lv_bipush (v := (121 : Int32)) hx hb d_Coder_pairOf_1 (by decide) ?_
  refine lv_iand hx hb d_Coder_pairOf_3 ?_
  obtain ⟨r1, hu, hm⟩ := bd_el hm
  replace hm := nm_1 hm
  refine z_cSi (wc := w_Integer_bitCount) (wc' := w_Integer_bitCount) (wr := []) (As := [.int (x0 &&& (121 : Int32))]) (rest := []) (c_Integer_bitCount l D cI cJ tt _ (x0 &&& (121 : Int32)) r1 hu) F ok_Integer_bitCount k_285 hK hE hP hD hS hA [] [] rfl rfl (by decide) (by decide) (by decide) ⟨rfl, rfl, Nat.le_of_ble_eq_true rfl, Nat.le_of_ble_eq_true rfl⟩ ⟨Nat.zero_le _, Nat.zero_le _⟩ rfl hl.1 rfl (Nat.le_of_ble_eq_true rfl) d_Coder_pairOf_4 (fun H locs hP hD hS => ?_)
  have hP : va_P D classes (w_Coder_pairOf) H := hP.sub [] rfl
  have hD : va_D A (w_Coder_pairOf) := hD.sub [] (by decide) rfl
  refine lv_iconst (v := (1 : Int32)) hx hb d_Coder_pairOf_7 (by decide) ?_
  refine lv_iand hx hb d_Coder_pairOf_8 ?_
  refine z_nmi hm (fun v3 hm => ?_)
  refine lv_istore_n (lv' := [(1, .int v3), (0, .int x0)]) hx hb d_Coder_pairOf_9 rfl hl (by decide) rfl (fun ls hl => ?_)
  refine lv_iconst (v := (1 : Int32)) hx hb d_Coder_pairOf_10 (by decide) ?_
  refine lv_iload_n hx hb d_Coder_pairOf_11 rfl (lv_at hl 1 rfl) ?_
  refine lv_bipush (v := (91 : Int32)) hx hb d_Coder_pairOf_12 (by decide) ?_
  refine lv_iand hx hb d_Coder_pairOf_14 ?_
  obtain ⟨r4, hu, hm⟩ := bd_el hm
  replace hm := nm_1 hm
  refine z_cSi (wc := w_Integer_bitCount) (wc' := w_Integer_bitCount) (wr := []) (As := [.int (x0 &&& (91 : Int32))]) (rest := [.int (1 : Int32)]) (c_Integer_bitCount l D cI cJ tt _ (x0 &&& (91 : Int32)) r4 hu) F ok_Integer_bitCount k_285 hK hE hP hD hS hA [] [] rfl rfl (by decide) (by decide) (by decide) ⟨rfl, rfl, Nat.le_of_ble_eq_true rfl, Nat.le_of_ble_eq_true rfl⟩ ⟨Nat.zero_le _, Nat.zero_le _⟩ rfl hl.1 rfl (Nat.le_of_ble_eq_true rfl) d_Coder_pairOf_15 (fun H locs hP hD hS => ?_)
  have hP : va_P D classes (w_Coder_pairOf) H := hP.sub [] rfl
  have hD : va_D A (w_Coder_pairOf) := hD.sub [] (by decide) rfl
  refine lv_iconst (v := (1 : Int32)) hx hb d_Coder_pairOf_18 (by decide) ?_
  refine lv_iand hx hb d_Coder_pairOf_19 ?_
  refine lv_isub hx hb d_Coder_pairOf_20 ?_
  refine z_nmi hm (fun v6 hm => ?_)
  refine lv_istore_n (lv' := [(2, .int v6), (1, .int v3), (0, .int x0)]) hx hb d_Coder_pairOf_21 rfl hl (by decide) rfl (fun ls hl => ?_)
  refine lv_iload_n hx hb d_Coder_pairOf_22 rfl (lv_at hl 1 rfl) ?_
  refine lv_iload_n hx hb d_Coder_pairOf_23 rfl (lv_at hl 0 rfl) ?_
  refine lv_iconst (v := (1 : Int32)) hx hb d_Coder_pairOf_24 (by decide) ?_
  refine lv_ishl hx hb d_Coder_pairOf_25 ?_
  refine lv_ior hx hb d_Coder_pairOf_26 ?_
  cases hm
  exact z_qo hQ (z_ireti hr hx hb hlocks hK hP hD hS d_Coder_pairOf_27)
end
