section
-- ===== PART A: goes FIRST, ahead of the names: the tables' words, and 'selects' of the private methods out of them =====
/-- a private method of a class that the tables say can be made, by its rows of tables_1 -/
def lw_okq (q : MethodName × Nat) : Prop := (q.1.cls ≠ "java/lang/invoke/MethodHandle" ∧ q.1.cls ≠ "java/lang/invoke/VarHandle") ∧ Cond.instantiable q.1.cls q.2 ∈ tables_1 ∧ Cond.privateMethod q.1 ∈ tables_1 ∧ Cond.instanceMethod q.1 ∈ tables_1
theorem lw_p0 : lw_okq (⟨"ToolPlex", "lowestChannel", "()I"⟩, 6) := ⟨⟨by decide +kernel, by decide +kernel⟩, List.mem_of_getElem? (i := 30) (by decide +kernel), List.mem_of_getElem? (i := 294) (by decide +kernel), List.mem_of_getElem? (i := 295) (by decide +kernel)⟩
theorem lw_p1 : lw_okq (⟨"ToolPlex", "pass", "(I)I"⟩, 6) := ⟨⟨by decide +kernel, by decide +kernel⟩, List.mem_of_getElem? (i := 30) (by decide +kernel), List.mem_of_getElem? (i := 306) (by decide +kernel), List.mem_of_getElem? (i := 307) (by decide +kernel)⟩
theorem lw_p2 : lw_okq (⟨"java/util/ArrayList", "fastRemove", "([Ljava/lang/Object;I)V"⟩, 3) := ⟨⟨by decide +kernel, by decide +kernel⟩, List.mem_of_getElem? (i := 84) (by decide +kernel), List.mem_of_getElem? (i := 337) (by decide +kernel), List.mem_of_getElem? (i := 338) (by decide +kernel)⟩
theorem lw_p3 : lw_okq (⟨"ToolPlex", "passToEditor", "(ILToolPlex$Message;)V"⟩, 6) := ⟨⟨by decide +kernel, by decide +kernel⟩, List.mem_of_getElem? (i := 30) (by decide +kernel), List.mem_of_getElem? (i := 344) (by decide +kernel), List.mem_of_getElem? (i := 345) (by decide +kernel)⟩
theorem lw_p4 : lw_okq (⟨"ToolPlex$Editor", "isLate", "(LToolPlex$Copy;I)Z"⟩, 8) := ⟨⟨by decide +kernel, by decide +kernel⟩, List.mem_of_getElem? (i := 124) (by decide +kernel), List.mem_of_getElem? (i := 366) (by decide +kernel), List.mem_of_getElem? (i := 367) (by decide +kernel)⟩
theorem lw_p5 : lw_okq (⟨"ToolPlex$Editor", "isCurrent", "(LToolPlex$Copy;ILToolPlex$Message;)Z"⟩, 8) := ⟨⟨by decide +kernel, by decide +kernel⟩, List.mem_of_getElem? (i := 124) (by decide +kernel), List.mem_of_getElem? (i := 374) (by decide +kernel), List.mem_of_getElem? (i := 375) (by decide +kernel)⟩
theorem lw_p6 : lw_okq (⟨"ToolPlex$Items", "cell", "(II)I"⟩, 2) := ⟨⟨by decide +kernel, by decide +kernel⟩, List.mem_of_getElem? (i := 175) (by decide +kernel), List.mem_of_getElem? (i := 386) (by decide +kernel), List.mem_of_getElem? (i := 387) (by decide +kernel)⟩
theorem lw_p7 : lw_okq (⟨"ToolPlex$Multiplexer", "idCell", "(III)I"⟩, 12) := ⟨⟨by decide +kernel, by decide +kernel⟩, List.mem_of_getElem? (i := 216) (by decide +kernel), List.mem_of_getElem? (i := 428) (by decide +kernel), List.mem_of_getElem? (i := 429) (by decide +kernel)⟩
theorem lw_p8 : lw_okq (⟨"ToolPlex$Multiplexer", "mergeMoved", "(LToolPlex$Pending;LToolPlex$Copy;)V"⟩, 12) := ⟨⟨by decide +kernel, by decide +kernel⟩, List.mem_of_getElem? (i := 216) (by decide +kernel), List.mem_of_getElem? (i := 455) (by decide +kernel), List.mem_of_getElem? (i := 456) (by decide +kernel)⟩
theorem lw_p9 : lw_okq (⟨"ToolPlex$Items", "insert", "(IIIII)V"⟩, 2) := ⟨⟨by decide +kernel, by decide +kernel⟩, List.mem_of_getElem? (i := 175) (by decide +kernel), List.mem_of_getElem? (i := 484) (by decide +kernel), List.mem_of_getElem? (i := 485) (by decide +kernel)⟩
theorem lw_p10 : lw_okq (⟨"ToolPlex$Multiplexer", "mergeRuns", "(LToolPlex$Pending;LToolPlex$Text;)V"⟩, 12) := ⟨⟨by decide +kernel, by decide +kernel⟩, List.mem_of_getElem? (i := 216) (by decide +kernel), List.mem_of_getElem? (i := 508) (by decide +kernel), List.mem_of_getElem? (i := 509) (by decide +kernel)⟩
theorem lw_p11 : lw_okq (⟨"ToolPlex$Multiplexer", "mergeLowest", "(LToolPlex$Pending;)Z"⟩, 12) := ⟨⟨by decide +kernel, by decide +kernel⟩, List.mem_of_getElem? (i := 216) (by decide +kernel), List.mem_of_getElem? (i := 525) (by decide +kernel), List.mem_of_getElem? (i := 526) (by decide +kernel)⟩
theorem lw_p12 : lw_okq (⟨"ToolPlex$Multiplexer", "isCurrent", "(LToolPlex$Message;)Z"⟩, 12) := ⟨⟨by decide +kernel, by decide +kernel⟩, List.mem_of_getElem? (i := 216) (by decide +kernel), List.mem_of_getElem? (i := 529) (by decide +kernel), List.mem_of_getElem? (i := 530) (by decide +kernel)⟩
theorem lw_p13 : lw_okq (⟨"ToolPlex$Multiplexer", "reply", "(LToolPlex$Message;I)LToolPlex$Message;"⟩, 12) := ⟨⟨by decide +kernel, by decide +kernel⟩, List.mem_of_getElem? (i := 216) (by decide +kernel), List.mem_of_getElem? (i := 538) (by decide +kernel), List.mem_of_getElem? (i := 539) (by decide +kernel)⟩
theorem lw_p14 : lw_okq (⟨"ToolPlex$Multiplexer", "channelAt", "(I)LToolPlex$Channel;"⟩, 12) := ⟨⟨by decide +kernel, by decide +kernel⟩, List.mem_of_getElem? (i := 216) (by decide +kernel), List.mem_of_getElem? (i := 649) (by decide +kernel), List.mem_of_getElem? (i := 650) (by decide +kernel)⟩
theorem lw_p15 : lw_okq (⟨"java/util/ArrayList", "add", "(Ljava/lang/Object;[Ljava/lang/Object;I)V"⟩, 3) := ⟨⟨by decide +kernel, by decide +kernel⟩, List.mem_of_getElem? (i := 84) (by decide +kernel), List.mem_of_getElem? (i := 661) (by decide +kernel), List.mem_of_getElem? (i := 662) (by decide +kernel)⟩
def lw_privs_1 : List (MethodName × Nat) := [(⟨"ToolPlex", "lowestChannel", "()I"⟩, 6), (⟨"ToolPlex", "pass", "(I)I"⟩, 6), (⟨"java/util/ArrayList", "fastRemove", "([Ljava/lang/Object;I)V"⟩, 3), (⟨"ToolPlex", "passToEditor", "(ILToolPlex$Message;)V"⟩, 6), (⟨"ToolPlex$Editor", "isLate", "(LToolPlex$Copy;I)Z"⟩, 8), (⟨"ToolPlex$Editor", "isCurrent", "(LToolPlex$Copy;ILToolPlex$Message;)Z"⟩, 8), (⟨"ToolPlex$Items", "cell", "(II)I"⟩, 2), (⟨"ToolPlex$Multiplexer", "idCell", "(III)I"⟩, 12), (⟨"ToolPlex$Multiplexer", "mergeMoved", "(LToolPlex$Pending;LToolPlex$Copy;)V"⟩, 12), (⟨"ToolPlex$Items", "insert", "(IIIII)V"⟩, 2), (⟨"ToolPlex$Multiplexer", "mergeRuns", "(LToolPlex$Pending;LToolPlex$Text;)V"⟩, 12), (⟨"ToolPlex$Multiplexer", "mergeLowest", "(LToolPlex$Pending;)Z"⟩, 12), (⟨"ToolPlex$Multiplexer", "isCurrent", "(LToolPlex$Message;)Z"⟩, 12), (⟨"ToolPlex$Multiplexer", "reply", "(LToolPlex$Message;I)LToolPlex$Message;"⟩, 12), (⟨"ToolPlex$Multiplexer", "channelAt", "(I)LToolPlex$Channel;"⟩, 12), (⟨"java/util/ArrayList", "add", "(Ljava/lang/Object;[Ljava/lang/Object;I)V"⟩, 3)]
theorem lw_r1 : ∀ q ∈ lw_privs_1, lw_okq q := List.forall_mem_cons.mpr ⟨lw_p0, List.forall_mem_cons.mpr ⟨lw_p1, List.forall_mem_cons.mpr ⟨lw_p2, List.forall_mem_cons.mpr ⟨lw_p3, List.forall_mem_cons.mpr ⟨lw_p4, List.forall_mem_cons.mpr ⟨lw_p5, List.forall_mem_cons.mpr ⟨lw_p6, List.forall_mem_cons.mpr ⟨lw_p7, List.forall_mem_cons.mpr ⟨lw_p8, List.forall_mem_cons.mpr ⟨lw_p9, List.forall_mem_cons.mpr ⟨lw_p10, List.forall_mem_cons.mpr ⟨lw_p11, List.forall_mem_cons.mpr ⟨lw_p12, List.forall_mem_cons.mpr ⟨lw_p13, List.forall_mem_cons.mpr ⟨lw_p14, List.forall_mem_cons.mpr ⟨lw_p15, fun _ h => absurd h List.not_mem_nil⟩⟩⟩⟩⟩⟩⟩⟩⟩⟩⟩⟩⟩⟩⟩⟩
theorem lw_p16 : lw_okq (⟨"java/util/ArrayList", "grow", "()[Ljava/lang/Object;"⟩, 3) := ⟨⟨by decide +kernel, by decide +kernel⟩, List.mem_of_getElem? (i := 84) (by decide +kernel), List.mem_of_getElem? (i := 665) (by decide +kernel), List.mem_of_getElem? (i := 666) (by decide +kernel)⟩
theorem lw_p17 : lw_okq (⟨"java/util/ArrayList", "grow", "(I)[Ljava/lang/Object;"⟩, 3) := ⟨⟨by decide +kernel, by decide +kernel⟩, List.mem_of_getElem? (i := 84) (by decide +kernel), List.mem_of_getElem? (i := 669) (by decide +kernel), List.mem_of_getElem? (i := 670) (by decide +kernel)⟩
theorem lw_p18 : lw_okq (⟨"ToolPlex$Multiplexer", "takeOpen", "(LToolPlex$Message;)V"⟩, 12) := ⟨⟨by decide +kernel, by decide +kernel⟩, List.mem_of_getElem? (i := 216) (by decide +kernel), List.mem_of_getElem? (i := 730) (by decide +kernel), List.mem_of_getElem? (i := 731) (by decide +kernel)⟩
theorem lw_p19 : lw_okq (⟨"ToolPlex$Multiplexer", "dropFaults", "(I)V"⟩, 12) := ⟨⟨by decide +kernel, by decide +kernel⟩, List.mem_of_getElem? (i := 216) (by decide +kernel), List.mem_of_getElem? (i := 747) (by decide +kernel), List.mem_of_getElem? (i := 748) (by decide +kernel)⟩
theorem lw_p20 : lw_okq (⟨"ToolPlex$Multiplexer", "passOn", "(LToolPlex$Message;)V"⟩, 12) := ⟨⟨by decide +kernel, by decide +kernel⟩, List.mem_of_getElem? (i := 216) (by decide +kernel), List.mem_of_getElem? (i := 751) (by decide +kernel), List.mem_of_getElem? (i := 752) (by decide +kernel)⟩
theorem lw_p21 : lw_okq (⟨"ToolPlex$Multiplexer", "takeChange", "(LToolPlex$Message;)V"⟩, 12) := ⟨⟨by decide +kernel, by decide +kernel⟩, List.mem_of_getElem? (i := 216) (by decide +kernel), List.mem_of_getElem? (i := 768) (by decide +kernel), List.mem_of_getElem? (i := 769) (by decide +kernel)⟩
theorem lw_p22 : lw_okq (⟨"ToolPlex$Multiplexer", "takeClose", "(LToolPlex$Message;)V"⟩, 12) := ⟨⟨by decide +kernel, by decide +kernel⟩, List.mem_of_getElem? (i := 216) (by decide +kernel), List.mem_of_getElem? (i := 801) (by decide +kernel), List.mem_of_getElem? (i := 802) (by decide +kernel)⟩
theorem lw_p23 : lw_okq (⟨"ToolPlex$Multiplexer", "takeRequest", "(LToolPlex$Message;)V"⟩, 12) := ⟨⟨by decide +kernel, by decide +kernel⟩, List.mem_of_getElem? (i := 216) (by decide +kernel), List.mem_of_getElem? (i := 809) (by decide +kernel), List.mem_of_getElem? (i := 810) (by decide +kernel)⟩
theorem lw_p24 : lw_okq (⟨"ToolPlex$Multiplexer", "dismiss", "(I)V"⟩, 12) := ⟨⟨by decide +kernel, by decide +kernel⟩, List.mem_of_getElem? (i := 216) (by decide +kernel), List.mem_of_getElem? (i := 813) (by decide +kernel), List.mem_of_getElem? (i := 814) (by decide +kernel)⟩
theorem lw_p25 : lw_okq (⟨"ToolPlex$Multiplexer", "askServer", "(LToolPlex$Pending;I)V"⟩, 12) := ⟨⟨by decide +kernel, by decide +kernel⟩, List.mem_of_getElem? (i := 216) (by decide +kernel), List.mem_of_getElem? (i := 840) (by decide +kernel), List.mem_of_getElem? (i := 841) (by decide +kernel)⟩
theorem lw_p26 : lw_okq (⟨"ToolPlex$Multiplexer", "takeCancel", "(LToolPlex$Message;)V"⟩, 12) := ⟨⟨by decide +kernel, by decide +kernel⟩, List.mem_of_getElem? (i := 216) (by decide +kernel), List.mem_of_getElem? (i := 849) (by decide +kernel), List.mem_of_getElem? (i := 850) (by decide +kernel)⟩
theorem lw_p27 : lw_okq (⟨"ToolPlex$Server", "takeChange", "(LToolPlex$Copy;LToolPlex$Message;)V"⟩, 9) := ⟨⟨by decide +kernel, by decide +kernel⟩, List.mem_of_getElem? (i := 867) (by decide +kernel), List.mem_of_getElem? (i := 865) (by decide +kernel), List.mem_of_getElem? (i := 866) (by decide +kernel)⟩
theorem lw_p28 : lw_okq (⟨"ToolPlex$Server", "forget", "(I)V"⟩, 9) := ⟨⟨by decide +kernel, by decide +kernel⟩, List.mem_of_getElem? (i := 867) (by decide +kernel), List.mem_of_getElem? (i := 883) (by decide +kernel), List.mem_of_getElem? (i := 884) (by decide +kernel)⟩
theorem lw_p29 : lw_okq (⟨"java/lang/Throwable", "fillInStackTrace", "(I)Ljava/lang/Throwable;"⟩, 6) := ⟨⟨by decide +kernel, by decide +kernel⟩, List.mem_of_getElem? (i := 938) (by decide +kernel), List.mem_of_getElem? (i := 936) (by decide +kernel), List.mem_of_getElem? (i := 937) (by decide +kernel)⟩
theorem lw_p30 : lw_okq (⟨"ToolPlex", "checkFile", "(I)V"⟩, 6) := ⟨⟨by decide +kernel, by decide +kernel⟩, List.mem_of_getElem? (i := 30) (by decide +kernel), List.mem_of_getElem? (i := 1004) (by decide +kernel), List.mem_of_getElem? (i := 1005) (by decide +kernel)⟩
theorem lw_p31 : lw_okq (⟨"ToolPlex", "checkCode", "(I)V"⟩, 6) := ⟨⟨by decide +kernel, by decide +kernel⟩, List.mem_of_getElem? (i := 30) (by decide +kernel), List.mem_of_getElem? (i := 1025) (by decide +kernel), List.mem_of_getElem? (i := 1026) (by decide +kernel)⟩
def lw_privs_2 : List (MethodName × Nat) := [(⟨"java/util/ArrayList", "grow", "()[Ljava/lang/Object;"⟩, 3), (⟨"java/util/ArrayList", "grow", "(I)[Ljava/lang/Object;"⟩, 3), (⟨"ToolPlex$Multiplexer", "takeOpen", "(LToolPlex$Message;)V"⟩, 12), (⟨"ToolPlex$Multiplexer", "dropFaults", "(I)V"⟩, 12), (⟨"ToolPlex$Multiplexer", "passOn", "(LToolPlex$Message;)V"⟩, 12), (⟨"ToolPlex$Multiplexer", "takeChange", "(LToolPlex$Message;)V"⟩, 12), (⟨"ToolPlex$Multiplexer", "takeClose", "(LToolPlex$Message;)V"⟩, 12), (⟨"ToolPlex$Multiplexer", "takeRequest", "(LToolPlex$Message;)V"⟩, 12), (⟨"ToolPlex$Multiplexer", "dismiss", "(I)V"⟩, 12), (⟨"ToolPlex$Multiplexer", "askServer", "(LToolPlex$Pending;I)V"⟩, 12), (⟨"ToolPlex$Multiplexer", "takeCancel", "(LToolPlex$Message;)V"⟩, 12), (⟨"ToolPlex$Server", "takeChange", "(LToolPlex$Copy;LToolPlex$Message;)V"⟩, 9), (⟨"ToolPlex$Server", "forget", "(I)V"⟩, 9), (⟨"java/lang/Throwable", "fillInStackTrace", "(I)Ljava/lang/Throwable;"⟩, 6), (⟨"ToolPlex", "checkFile", "(I)V"⟩, 6), (⟨"ToolPlex", "checkCode", "(I)V"⟩, 6)]
theorem lw_r2 : ∀ q ∈ lw_privs_2, lw_okq q := List.forall_mem_cons.mpr ⟨lw_p16, List.forall_mem_cons.mpr ⟨lw_p17, List.forall_mem_cons.mpr ⟨lw_p18, List.forall_mem_cons.mpr ⟨lw_p19, List.forall_mem_cons.mpr ⟨lw_p20, List.forall_mem_cons.mpr ⟨lw_p21, List.forall_mem_cons.mpr ⟨lw_p22, List.forall_mem_cons.mpr ⟨lw_p23, List.forall_mem_cons.mpr ⟨lw_p24, List.forall_mem_cons.mpr ⟨lw_p25, List.forall_mem_cons.mpr ⟨lw_p26, List.forall_mem_cons.mpr ⟨lw_p27, List.forall_mem_cons.mpr ⟨lw_p28, List.forall_mem_cons.mpr ⟨lw_p29, List.forall_mem_cons.mpr ⟨lw_p30, List.forall_mem_cons.mpr ⟨lw_p31, fun _ h => absurd h List.not_mem_nil⟩⟩⟩⟩⟩⟩⟩⟩⟩⟩⟩⟩⟩⟩⟩⟩
theorem lw_p32 : lw_okq (⟨"ToolPlex", "editorAt", "(I)LToolPlex$Editor;"⟩, 6) := ⟨⟨by decide +kernel, by decide +kernel⟩, List.mem_of_getElem? (i := 30) (by decide +kernel), List.mem_of_getElem? (i := 1136) (by decide +kernel), List.mem_of_getElem? (i := 1137) (by decide +kernel)⟩
theorem lw_p33 : lw_okq (⟨"ToolPlex$Editor", "send", "(LToolPlex$Message;I)V"⟩, 8) := ⟨⟨by decide +kernel, by decide +kernel⟩, List.mem_of_getElem? (i := 124) (by decide +kernel), List.mem_of_getElem? (i := 1165) (by decide +kernel), List.mem_of_getElem? (i := 1166) (by decide +kernel)⟩
theorem lw_p34 : lw_okq (⟨"ToolPlex", "checkOpen", "(LToolPlex$Editor;I)V"⟩, 6) := ⟨⟨by decide +kernel, by decide +kernel⟩, List.mem_of_getElem? (i := 30) (by decide +kernel), List.mem_of_getElem? (i := 1177) (by decide +kernel), List.mem_of_getElem? (i := 1178) (by decide +kernel)⟩
theorem lw_p35 : lw_okq (⟨"ToolPlex", "checkPosition", "(II)V"⟩, 6) := ⟨⟨by decide +kernel, by decide +kernel⟩, List.mem_of_getElem? (i := 30) (by decide +kernel), List.mem_of_getElem? (i := 1206) (by decide +kernel), List.mem_of_getElem? (i := 1207) (by decide +kernel)⟩
theorem lw_p36 : lw_okq (⟨"ToolPlex", "askAt", "(LToolPlex$Editor;I)LToolPlex$Ask;"⟩, 6) := ⟨⟨by decide +kernel, by decide +kernel⟩, List.mem_of_getElem? (i := 30) (by decide +kernel), List.mem_of_getElem? (i := 1280) (by decide +kernel), List.mem_of_getElem? (i := 1281) (by decide +kernel)⟩
theorem lw_p37 : lw_okq (⟨"ToolPlex$Editor", "replaceSpan", "(IIII)V"⟩, 8) := ⟨⟨by decide +kernel, by decide +kernel⟩, List.mem_of_getElem? (i := 124) (by decide +kernel), List.mem_of_getElem? (i := 1321) (by decide +kernel), List.mem_of_getElem? (i := 1322) (by decide +kernel)⟩
theorem lw_p38 : lw_okq (⟨"ToolPlex", "serverAt", "(I)LToolPlex$Server;"⟩, 6) := ⟨⟨by decide +kernel, by decide +kernel⟩, List.mem_of_getElem? (i := 30) (by decide +kernel), List.mem_of_getElem? (i := 1348) (by decide +kernel), List.mem_of_getElem? (i := 1349) (by decide +kernel)⟩
theorem lw_p39 : lw_okq (⟨"ToolPlex$Server", "find", "(LToolPlex$Message;LToolPlex$Text;)V"⟩, 9) := ⟨⟨by decide +kernel, by decide +kernel⟩, List.mem_of_getElem? (i := 867) (by decide +kernel), List.mem_of_getElem? (i := 1363) (by decide +kernel), List.mem_of_getElem? (i := 1364) (by decide +kernel)⟩
theorem lw_p40 : lw_okq (⟨"ToolPlex$Text", "sortAt", "(I)I"⟩, 2) := ⟨⟨by decide +kernel, by decide +kernel⟩, List.mem_of_getElem? (i := 38) (by decide +kernel), List.mem_of_getElem? (i := 1375) (by decide +kernel), List.mem_of_getElem? (i := 1376) (by decide +kernel)⟩
theorem lw_p41 : lw_okq (⟨"ToolPlex$Server", "findLonger", "(ILToolPlex$Text;II)V"⟩, 9) := ⟨⟨by decide +kernel, by decide +kernel⟩, List.mem_of_getElem? (i := 867) (by decide +kernel), List.mem_of_getElem? (i := 1384) (by decide +kernel), List.mem_of_getElem? (i := 1385) (by decide +kernel)⟩
theorem lw_p42 : lw_okq (⟨"ToolPlex$Server", "findAll", "(ILToolPlex$Text;)V"⟩, 9) := ⟨⟨by decide +kernel, by decide +kernel⟩, List.mem_of_getElem? (i := 867) (by decide +kernel), List.mem_of_getElem? (i := 1394) (by decide +kernel), List.mem_of_getElem? (i := 1395) (by decide +kernel)⟩
theorem lw_p43 : lw_okq (⟨"ToolPlex$Server", "findEverywhere", "(LToolPlex$Text;II)V"⟩, 9) := ⟨⟨by decide +kernel, by decide +kernel⟩, List.mem_of_getElem? (i := 867) (by decide +kernel), List.mem_of_getElem? (i := 1408) (by decide +kernel), List.mem_of_getElem? (i := 1409) (by decide +kernel)⟩
theorem lw_p44 : lw_okq (⟨"ToolPlex$Server", "findAlike", "(ILToolPlex$Text;LToolPlex$Text;II)V"⟩, 9) := ⟨⟨by decide +kernel, by decide +kernel⟩, List.mem_of_getElem? (i := 867) (by decide +kernel), List.mem_of_getElem? (i := 1415) (by decide +kernel), List.mem_of_getElem? (i := 1416) (by decide +kernel)⟩
theorem lw_p45 : lw_okq (⟨"ToolPlex$Server", "keepOne", "(IIII)V"⟩, 9) := ⟨⟨by decide +kernel, by decide +kernel⟩, List.mem_of_getElem? (i := 867) (by decide +kernel), List.mem_of_getElem? (i := 1419) (by decide +kernel), List.mem_of_getElem? (i := 1420) (by decide +kernel)⟩
theorem lw_p46 : lw_okq (⟨"ToolPlex", "send", "(ILToolPlex$Message;)V"⟩, 6) := ⟨⟨by decide +kernel, by decide +kernel⟩, List.mem_of_getElem? (i := 30) (by decide +kernel), List.mem_of_getElem? (i := 1428) (by decide +kernel), List.mem_of_getElem? (i := 1429) (by decide +kernel)⟩
theorem lw_p47 : lw_okq (⟨"ToolPlex", "lose", "(I)I"⟩, 6) := ⟨⟨by decide +kernel, by decide +kernel⟩, List.mem_of_getElem? (i := 30) (by decide +kernel), List.mem_of_getElem? (i := 1462) (by decide +kernel), List.mem_of_getElem? (i := 1463) (by decide +kernel)⟩
def lw_privs_3 : List (MethodName × Nat) := [(⟨"ToolPlex", "editorAt", "(I)LToolPlex$Editor;"⟩, 6), (⟨"ToolPlex$Editor", "send", "(LToolPlex$Message;I)V"⟩, 8), (⟨"ToolPlex", "checkOpen", "(LToolPlex$Editor;I)V"⟩, 6), (⟨"ToolPlex", "checkPosition", "(II)V"⟩, 6), (⟨"ToolPlex", "askAt", "(LToolPlex$Editor;I)LToolPlex$Ask;"⟩, 6), (⟨"ToolPlex$Editor", "replaceSpan", "(IIII)V"⟩, 8), (⟨"ToolPlex", "serverAt", "(I)LToolPlex$Server;"⟩, 6), (⟨"ToolPlex$Server", "find", "(LToolPlex$Message;LToolPlex$Text;)V"⟩, 9), (⟨"ToolPlex$Text", "sortAt", "(I)I"⟩, 2), (⟨"ToolPlex$Server", "findLonger", "(ILToolPlex$Text;II)V"⟩, 9), (⟨"ToolPlex$Server", "findAll", "(ILToolPlex$Text;)V"⟩, 9), (⟨"ToolPlex$Server", "findEverywhere", "(LToolPlex$Text;II)V"⟩, 9), (⟨"ToolPlex$Server", "findAlike", "(ILToolPlex$Text;LToolPlex$Text;II)V"⟩, 9), (⟨"ToolPlex$Server", "keepOne", "(IIII)V"⟩, 9), (⟨"ToolPlex", "send", "(ILToolPlex$Message;)V"⟩, 6), (⟨"ToolPlex", "lose", "(I)I"⟩, 6)]
theorem lw_r3 : ∀ q ∈ lw_privs_3, lw_okq q := List.forall_mem_cons.mpr ⟨lw_p32, List.forall_mem_cons.mpr ⟨lw_p33, List.forall_mem_cons.mpr ⟨lw_p34, List.forall_mem_cons.mpr ⟨lw_p35, List.forall_mem_cons.mpr ⟨lw_p36, List.forall_mem_cons.mpr ⟨lw_p37, List.forall_mem_cons.mpr ⟨lw_p38, List.forall_mem_cons.mpr ⟨lw_p39, List.forall_mem_cons.mpr ⟨lw_p40, List.forall_mem_cons.mpr ⟨lw_p41, List.forall_mem_cons.mpr ⟨lw_p42, List.forall_mem_cons.mpr ⟨lw_p43, List.forall_mem_cons.mpr ⟨lw_p44, List.forall_mem_cons.mpr ⟨lw_p45, List.forall_mem_cons.mpr ⟨lw_p46, List.forall_mem_cons.mpr ⟨lw_p47, fun _ h => absurd h List.not_mem_nil⟩⟩⟩⟩⟩⟩⟩⟩⟩⟩⟩⟩⟩⟩⟩⟩
theorem lw_p48 : lw_okq (⟨"ToolPlex", "checkChannel", "(I)V"⟩, 6) := ⟨⟨by decide +kernel, by decide +kernel⟩, List.mem_of_getElem? (i := 30) (by decide +kernel), List.mem_of_getElem? (i := 1499) (by decide +kernel), List.mem_of_getElem? (i := 1500) (by decide +kernel)⟩
theorem lw_p49 : lw_okq (⟨"ToolPlex", "held", "(I)I"⟩, 6) := ⟨⟨by decide +kernel, by decide +kernel⟩, List.mem_of_getElem? (i := 30) (by decide +kernel), List.mem_of_getElem? (i := 1511) (by decide +kernel), List.mem_of_getElem? (i := 1512) (by decide +kernel)⟩
theorem lw_p50 : lw_okq (⟨"ToolPlex", "copyFor", "(II)LToolPlex$Copy;"⟩, 6) := ⟨⟨by decide +kernel, by decide +kernel⟩, List.mem_of_getElem? (i := 30) (by decide +kernel), List.mem_of_getElem? (i := 1522) (by decide +kernel), List.mem_of_getElem? (i := 1523) (by decide +kernel)⟩
theorem lw_p51 : lw_okq (⟨"ToolPlex", "checkItem", "(LToolPlex$Ask;I)V"⟩, 6) := ⟨⟨by decide +kernel, by decide +kernel⟩, List.mem_of_getElem? (i := 30) (by decide +kernel), List.mem_of_getElem? (i := 1566) (by decide +kernel), List.mem_of_getElem? (i := 1567) (by decide +kernel)⟩
theorem lw_p52 : lw_okq (⟨"ToolPlexModel", "isNamed", "(II)Z"⟩, 75) := ⟨⟨by decide +kernel, by decide +kernel⟩, List.mem_of_getElem? (i := 1620) (by decide +kernel), List.mem_of_getElem? (i := 1865) (by decide +kernel), List.mem_of_getElem? (i := 1866) (by decide +kernel)⟩
theorem lw_p53 : lw_okq (⟨"ToolPlexModel", "fails", "(I)Z"⟩, 75) := ⟨⟨by decide +kernel, by decide +kernel⟩, List.mem_of_getElem? (i := 1620) (by decide +kernel), List.mem_of_getElem? (i := 1869) (by decide +kernel), List.mem_of_getElem? (i := 1870) (by decide +kernel)⟩
theorem lw_p54 : lw_okq (⟨"ToolPlexModel", "makes", "(II)I"⟩, 75) := ⟨⟨by decide +kernel, by decide +kernel⟩, List.mem_of_getElem? (i := 1620) (by decide +kernel), List.mem_of_getElem? (i := 1873) (by decide +kernel), List.mem_of_getElem? (i := 1874) (by decide +kernel)⟩
theorem lw_p55 : lw_okq (⟨"ToolPlexModel", "isFile", "(I)Z"⟩, 75) := ⟨⟨by decide +kernel, by decide +kernel⟩, List.mem_of_getElem? (i := 1620) (by decide +kernel), List.mem_of_getElem? (i := 1881) (by decide +kernel), List.mem_of_getElem? (i := 1882) (by decide +kernel)⟩
theorem lw_p56 : lw_okq (⟨"ToolPlexModel", "replaces", "(IIII)V"⟩, 75) := ⟨⟨by decide +kernel, by decide +kernel⟩, List.mem_of_getElem? (i := 1620) (by decide +kernel), List.mem_of_getElem? (i := 1894) (by decide +kernel), List.mem_of_getElem? (i := 1895) (by decide +kernel)⟩
theorem lw_p57 : lw_okq (⟨"ToolPlexModel", "isQuiet", "()Z"⟩, 75) := ⟨⟨by decide +kernel, by decide +kernel⟩, List.mem_of_getElem? (i := 1620) (by decide +kernel), List.mem_of_getElem? (i := 1905) (by decide +kernel), List.mem_of_getElem? (i := 1906) (by decide +kernel)⟩
theorem lw_p58 : lw_okq (⟨"ToolPlexModel", "writes", "(II)V"⟩, 75) := ⟨⟨by decide +kernel, by decide +kernel⟩, List.mem_of_getElem? (i := 1620) (by decide +kernel), List.mem_of_getElem? (i := 1920) (by decide +kernel), List.mem_of_getElem? (i := 1921) (by decide +kernel)⟩
theorem lw_p59 : lw_okq (⟨"ToolPlexModel", "sendsOpen", "(IIII)V"⟩, 75) := ⟨⟨by decide +kernel, by decide +kernel⟩, List.mem_of_getElem? (i := 1620) (by decide +kernel), List.mem_of_getElem? (i := 1924) (by decide +kernel), List.mem_of_getElem? (i := 1925) (by decide +kernel)⟩
theorem lw_p60 : lw_okq (⟨"ToolPlexModel", "sends", "(III)I"⟩, 75) := ⟨⟨by decide +kernel, by decide +kernel⟩, List.mem_of_getElem? (i := 1620) (by decide +kernel), List.mem_of_getElem? (i := 1928) (by decide +kernel), List.mem_of_getElem? (i := 1929) (by decide +kernel)⟩
theorem lw_p61 : lw_okq (⟨"ToolPlexModel", "hasFile", "(II)Z"⟩, 75) := ⟨⟨by decide +kernel, by decide +kernel⟩, List.mem_of_getElem? (i := 1620) (by decide +kernel), List.mem_of_getElem? (i := 1939) (by decide +kernel), List.mem_of_getElem? (i := 1940) (by decide +kernel)⟩
theorem lw_p62 : lw_okq (⟨"ToolPlexModel", "dies", "(I)V"⟩, 75) := ⟨⟨by decide +kernel, by decide +kernel⟩, List.mem_of_getElem? (i := 1620) (by decide +kernel), List.mem_of_getElem? (i := 1943) (by decide +kernel), List.mem_of_getElem? (i := 1944) (by decide +kernel)⟩
theorem lw_p63 : lw_okq (⟨"ToolPlexModel", "empties", "(I)V"⟩, 75) := ⟨⟨by decide +kernel, by decide +kernel⟩, List.mem_of_getElem? (i := 1620) (by decide +kernel), List.mem_of_getElem? (i := 1947) (by decide +kernel), List.mem_of_getElem? (i := 1948) (by decide +kernel)⟩
def lw_privs_4 : List (MethodName × Nat) := [(⟨"ToolPlex", "checkChannel", "(I)V"⟩, 6), (⟨"ToolPlex", "held", "(I)I"⟩, 6), (⟨"ToolPlex", "copyFor", "(II)LToolPlex$Copy;"⟩, 6), (⟨"ToolPlex", "checkItem", "(LToolPlex$Ask;I)V"⟩, 6), (⟨"ToolPlexModel", "isNamed", "(II)Z"⟩, 75), (⟨"ToolPlexModel", "fails", "(I)Z"⟩, 75), (⟨"ToolPlexModel", "makes", "(II)I"⟩, 75), (⟨"ToolPlexModel", "isFile", "(I)Z"⟩, 75), (⟨"ToolPlexModel", "replaces", "(IIII)V"⟩, 75), (⟨"ToolPlexModel", "isQuiet", "()Z"⟩, 75), (⟨"ToolPlexModel", "writes", "(II)V"⟩, 75), (⟨"ToolPlexModel", "sendsOpen", "(IIII)V"⟩, 75), (⟨"ToolPlexModel", "sends", "(III)I"⟩, 75), (⟨"ToolPlexModel", "hasFile", "(II)Z"⟩, 75), (⟨"ToolPlexModel", "dies", "(I)V"⟩, 75), (⟨"ToolPlexModel", "empties", "(I)V"⟩, 75)]
theorem lw_r4 : ∀ q ∈ lw_privs_4, lw_okq q := List.forall_mem_cons.mpr ⟨lw_p48, List.forall_mem_cons.mpr ⟨lw_p49, List.forall_mem_cons.mpr ⟨lw_p50, List.forall_mem_cons.mpr ⟨lw_p51, List.forall_mem_cons.mpr ⟨lw_p52, List.forall_mem_cons.mpr ⟨lw_p53, List.forall_mem_cons.mpr ⟨lw_p54, List.forall_mem_cons.mpr ⟨lw_p55, List.forall_mem_cons.mpr ⟨lw_p56, List.forall_mem_cons.mpr ⟨lw_p57, List.forall_mem_cons.mpr ⟨lw_p58, List.forall_mem_cons.mpr ⟨lw_p59, List.forall_mem_cons.mpr ⟨lw_p60, List.forall_mem_cons.mpr ⟨lw_p61, List.forall_mem_cons.mpr ⟨lw_p62, List.forall_mem_cons.mpr ⟨lw_p63, fun _ h => absurd h List.not_mem_nil⟩⟩⟩⟩⟩⟩⟩⟩⟩⟩⟩⟩⟩⟩⟩⟩
theorem lw_p64 : lw_okq (⟨"ToolPlexModel", "placeOf", "(III)I"⟩, 75) := ⟨⟨by decide +kernel, by decide +kernel⟩, List.mem_of_getElem? (i := 1620) (by decide +kernel), List.mem_of_getElem? (i := 1958) (by decide +kernel), List.mem_of_getElem? (i := 1959) (by decide +kernel)⟩
theorem lw_p65 : lw_okq (⟨"ToolPlexModel", "unitAt", "(II)I"⟩, 75) := ⟨⟨by decide +kernel, by decide +kernel⟩, List.mem_of_getElem? (i := 1620) (by decide +kernel), List.mem_of_getElem? (i := 1962) (by decide +kernel), List.mem_of_getElem? (i := 1963) (by decide +kernel)⟩
theorem lw_p66 : lw_okq (⟨"ToolPlexModel", "changes", "(IIIII)V"⟩, 75) := ⟨⟨by decide +kernel, by decide +kernel⟩, List.mem_of_getElem? (i := 1620) (by decide +kernel), List.mem_of_getElem? (i := 1967) (by decide +kernel), List.mem_of_getElem? (i := 1968) (by decide +kernel)⟩
theorem lw_p67 : lw_okq (⟨"ToolPlexModel", "isStrict", "(I)Z"⟩, 75) := ⟨⟨by decide +kernel, by decide +kernel⟩, List.mem_of_getElem? (i := 1620) (by decide +kernel), List.mem_of_getElem? (i := 1974) (by decide +kernel), List.mem_of_getElem? (i := 1975) (by decide +kernel)⟩
theorem lw_p68 : lw_okq (⟨"ToolPlexModel", "shifts", "(IIIII)V"⟩, 75) := ⟨⟨by decide +kernel, by decide +kernel⟩, List.mem_of_getElem? (i := 1620) (by decide +kernel), List.mem_of_getElem? (i := 1978) (by decide +kernel), List.mem_of_getElem? (i := 1979) (by decide +kernel)⟩
theorem lw_p69 : lw_okq (⟨"ToolPlexModel", "tells", "(IIIIIII)V"⟩, 75) := ⟨⟨by decide +kernel, by decide +kernel⟩, List.mem_of_getElem? (i := 1620) (by decide +kernel), List.mem_of_getElem? (i := 1982) (by decide +kernel), List.mem_of_getElem? (i := 1983) (by decide +kernel)⟩
theorem lw_p70 : lw_okq (⟨"ToolPlexModel", "isRequest", "(II)Z"⟩, 75) := ⟨⟨by decide +kernel, by decide +kernel⟩, List.mem_of_getElem? (i := 1620) (by decide +kernel), List.mem_of_getElem? (i := 1994) (by decide +kernel), List.mem_of_getElem? (i := 1995) (by decide +kernel)⟩
theorem lw_p71 : lw_okq (⟨"ToolPlexModel", "canApply", "(I)Z"⟩, 75) := ⟨⟨by decide +kernel, by decide +kernel⟩, List.mem_of_getElem? (i := 1620) (by decide +kernel), List.mem_of_getElem? (i := 2002) (by decide +kernel), List.mem_of_getElem? (i := 2003) (by decide +kernel)⟩
theorem lw_p72 : lw_okq (⟨"ToolPlexModel", "renamed", "(I)I"⟩, 75) := ⟨⟨by decide +kernel, by decide +kernel⟩, List.mem_of_getElem? (i := 1620) (by decide +kernel), List.mem_of_getElem? (i := 2006) (by decide +kernel), List.mem_of_getElem? (i := 2007) (by decide +kernel)⟩
theorem lw_p73 : lw_okq (⟨"ToolPlexModel", "hands", "(II)V"⟩, 75) := ⟨⟨by decide +kernel, by decide +kernel⟩, List.mem_of_getElem? (i := 1620) (by decide +kernel), List.mem_of_getElem? (i := 2010) (by decide +kernel), List.mem_of_getElem? (i := 2011) (by decide +kernel)⟩
theorem lw_p74 : lw_okq (⟨"ToolPlexModel", "puts", "(IIIII)V"⟩, 75) := ⟨⟨by decide +kernel, by decide +kernel⟩, List.mem_of_getElem? (i := 1620) (by decide +kernel), List.mem_of_getElem? (i := 2014) (by decide +kernel), List.mem_of_getElem? (i := 2015) (by decide +kernel)⟩
theorem lw_p75 : lw_okq (⟨"ToolPlexModel", "lineOf", "(II)I"⟩, 75) := ⟨⟨by decide +kernel, by decide +kernel⟩, List.mem_of_getElem? (i := 1620) (by decide +kernel), List.mem_of_getElem? (i := 2018) (by decide +kernel), List.mem_of_getElem? (i := 2019) (by decide +kernel)⟩
theorem lw_p76 : lw_okq (⟨"ToolPlexModel", "inLine", "(II)I"⟩, 75) := ⟨⟨by decide +kernel, by decide +kernel⟩, List.mem_of_getElem? (i := 1620) (by decide +kernel), List.mem_of_getElem? (i := 2022) (by decide +kernel), List.mem_of_getElem? (i := 2023) (by decide +kernel)⟩
theorem lw_p77 : lw_okq (⟨"ToolPlexModel", "itemAt", "(II)I"⟩, 75) := ⟨⟨by decide +kernel, by decide +kernel⟩, List.mem_of_getElem? (i := 1620) (by decide +kernel), List.mem_of_getElem? (i := 2026) (by decide +kernel), List.mem_of_getElem? (i := 2027) (by decide +kernel)⟩
theorem lw_p78 : lw_okq (⟨"ToolPlexModel", "isServer", "(I)Z"⟩, 75) := ⟨⟨by decide +kernel, by decide +kernel⟩, List.mem_of_getElem? (i := 1620) (by decide +kernel), List.mem_of_getElem? (i := 2034) (by decide +kernel), List.mem_of_getElem? (i := 2035) (by decide +kernel)⟩
theorem lw_p79 : lw_okq (⟨"ToolPlexModel", "answers", "(IIIII)V"⟩, 75) := ⟨⟨by decide +kernel, by decide +kernel⟩, List.mem_of_getElem? (i := 1620) (by decide +kernel), List.mem_of_getElem? (i := 2041) (by decide +kernel), List.mem_of_getElem? (i := 2042) (by decide +kernel)⟩
def lw_privs_5 : List (MethodName × Nat) := [(⟨"ToolPlexModel", "placeOf", "(III)I"⟩, 75), (⟨"ToolPlexModel", "unitAt", "(II)I"⟩, 75), (⟨"ToolPlexModel", "changes", "(IIIII)V"⟩, 75), (⟨"ToolPlexModel", "isStrict", "(I)Z"⟩, 75), (⟨"ToolPlexModel", "shifts", "(IIIII)V"⟩, 75), (⟨"ToolPlexModel", "tells", "(IIIIIII)V"⟩, 75), (⟨"ToolPlexModel", "isRequest", "(II)Z"⟩, 75), (⟨"ToolPlexModel", "canApply", "(I)Z"⟩, 75), (⟨"ToolPlexModel", "renamed", "(I)I"⟩, 75), (⟨"ToolPlexModel", "hands", "(II)V"⟩, 75), (⟨"ToolPlexModel", "puts", "(IIIII)V"⟩, 75), (⟨"ToolPlexModel", "lineOf", "(II)I"⟩, 75), (⟨"ToolPlexModel", "inLine", "(II)I"⟩, 75), (⟨"ToolPlexModel", "itemAt", "(II)I"⟩, 75), (⟨"ToolPlexModel", "isServer", "(I)Z"⟩, 75), (⟨"ToolPlexModel", "answers", "(IIIII)V"⟩, 75)]
theorem lw_r5 : ∀ q ∈ lw_privs_5, lw_okq q := List.forall_mem_cons.mpr ⟨lw_p64, List.forall_mem_cons.mpr ⟨lw_p65, List.forall_mem_cons.mpr ⟨lw_p66, List.forall_mem_cons.mpr ⟨lw_p67, List.forall_mem_cons.mpr ⟨lw_p68, List.forall_mem_cons.mpr ⟨lw_p69, List.forall_mem_cons.mpr ⟨lw_p70, List.forall_mem_cons.mpr ⟨lw_p71, List.forall_mem_cons.mpr ⟨lw_p72, List.forall_mem_cons.mpr ⟨lw_p73, List.forall_mem_cons.mpr ⟨lw_p74, List.forall_mem_cons.mpr ⟨lw_p75, List.forall_mem_cons.mpr ⟨lw_p76, List.forall_mem_cons.mpr ⟨lw_p77, List.forall_mem_cons.mpr ⟨lw_p78, List.forall_mem_cons.mpr ⟨lw_p79, fun _ h => absurd h List.not_mem_nil⟩⟩⟩⟩⟩⟩⟩⟩⟩⟩⟩⟩⟩⟩⟩⟩
theorem lw_p80 : lw_okq (⟨"ToolPlexModel", "findsAll", "(II)V"⟩, 75) := ⟨⟨by decide +kernel, by decide +kernel⟩, List.mem_of_getElem? (i := 1620) (by decide +kernel), List.mem_of_getElem? (i := 2045) (by decide +kernel), List.mem_of_getElem? (i := 2046) (by decide +kernel)⟩
theorem lw_p81 : lw_okq (⟨"ToolPlexModel", "findsRun", "(III)Z"⟩, 75) := ⟨⟨by decide +kernel, by decide +kernel⟩, List.mem_of_getElem? (i := 1620) (by decide +kernel), List.mem_of_getElem? (i := 2049) (by decide +kernel), List.mem_of_getElem? (i := 2050) (by decide +kernel)⟩
theorem lw_p82 : lw_okq (⟨"ToolPlexModel", "classAt", "(II)I"⟩, 75) := ⟨⟨by decide +kernel, by decide +kernel⟩, List.mem_of_getElem? (i := 1620) (by decide +kernel), List.mem_of_getElem? (i := 2053) (by decide +kernel), List.mem_of_getElem? (i := 2054) (by decide +kernel)⟩
theorem lw_p83 : lw_okq (⟨"ToolPlexModel", "runAt", "(I)I"⟩, 75) := ⟨⟨by decide +kernel, by decide +kernel⟩, List.mem_of_getElem? (i := 1620) (by decide +kernel), List.mem_of_getElem? (i := 2057) (by decide +kernel), List.mem_of_getElem? (i := 2058) (by decide +kernel)⟩
theorem lw_p84 : lw_okq (⟨"ToolPlexModel", "completes", "(IIIII)V"⟩, 75) := ⟨⟨by decide +kernel, by decide +kernel⟩, List.mem_of_getElem? (i := 1620) (by decide +kernel), List.mem_of_getElem? (i := 2061) (by decide +kernel), List.mem_of_getElem? (i := 2062) (by decide +kernel)⟩
theorem lw_p85 : lw_okq (⟨"ToolPlexModel", "areAlike", "(IIIIII)Z"⟩, 75) := ⟨⟨by decide +kernel, by decide +kernel⟩, List.mem_of_getElem? (i := 1620) (by decide +kernel), List.mem_of_getElem? (i := 2065) (by decide +kernel), List.mem_of_getElem? (i := 2066) (by decide +kernel)⟩
theorem lw_p86 : lw_okq (⟨"ToolPlexModel", "isAhead", "(IIIII)Z"⟩, 75) := ⟨⟨by decide +kernel, by decide +kernel⟩, List.mem_of_getElem? (i := 1620) (by decide +kernel), List.mem_of_getElem? (i := 2069) (by decide +kernel), List.mem_of_getElem? (i := 2070) (by decide +kernel)⟩
theorem lw_p87 : lw_okq (⟨"ToolPlexModel", "adds", "(IIIII)V"⟩, 75) := ⟨⟨by decide +kernel, by decide +kernel⟩, List.mem_of_getElem? (i := 1620) (by decide +kernel), List.mem_of_getElem? (i := 2073) (by decide +kernel), List.mem_of_getElem? (i := 2074) (by decide +kernel)⟩
theorem lw_p88 : lw_okq (⟨"ToolPlexModel", "likes", "(II)I"⟩, 75) := ⟨⟨by decide +kernel, by decide +kernel⟩, List.mem_of_getElem? (i := 1620) (by decide +kernel), List.mem_of_getElem? (i := 2077) (by decide +kernel), List.mem_of_getElem? (i := 2078) (by decide +kernel)⟩
theorem lw_p89 : lw_okq (⟨"ToolPlexModel", "renames", "(IIIII)V"⟩, 75) := ⟨⟨by decide +kernel, by decide +kernel⟩, List.mem_of_getElem? (i := 1620) (by decide +kernel), List.mem_of_getElem? (i := 2081) (by decide +kernel), List.mem_of_getElem? (i := 2082) (by decide +kernel)⟩
theorem lw_p90 : lw_okq (⟨"ToolPlexModel", "drops", "(II)V"⟩, 75) := ⟨⟨by decide +kernel, by decide +kernel⟩, List.mem_of_getElem? (i := 1620) (by decide +kernel), List.mem_of_getElem? (i := 2085) (by decide +kernel), List.mem_of_getElem? (i := 2086) (by decide +kernel)⟩
theorem lw_p91 : lw_okq (⟨"ToolPlexModel", "loses", "(I)I"⟩, 75) := ⟨⟨by decide +kernel, by decide +kernel⟩, List.mem_of_getElem? (i := 1620) (by decide +kernel), List.mem_of_getElem? (i := 2097) (by decide +kernel), List.mem_of_getElem? (i := 2098) (by decide +kernel)⟩
theorem lw_p92 : lw_okq (⟨"ToolPlexModel", "takes", "(I)I"⟩, 75) := ⟨⟨by decide +kernel, by decide +kernel⟩, List.mem_of_getElem? (i := 1620) (by decide +kernel), List.mem_of_getElem? (i := 2101) (by decide +kernel), List.mem_of_getElem? (i := 2102) (by decide +kernel)⟩
theorem lw_p93 : lw_okq (⟨"ToolPlexModel", "frees", "(I)V"⟩, 75) := ⟨⟨by decide +kernel, by decide +kernel⟩, List.mem_of_getElem? (i := 1620) (by decide +kernel), List.mem_of_getElem? (i := 2105) (by decide +kernel), List.mem_of_getElem? (i := 2106) (by decide +kernel)⟩
theorem lw_p94 : lw_okq (⟨"ToolPlexModel", "merges", "(I)V"⟩, 75) := ⟨⟨by decide +kernel, by decide +kernel⟩, List.mem_of_getElem? (i := 1620) (by decide +kernel), List.mem_of_getElem? (i := 2109) (by decide +kernel), List.mem_of_getElem? (i := 2110) (by decide +kernel)⟩
theorem lw_p95 : lw_okq (⟨"ToolPlexModel", "leavesOut", "(I)Z"⟩, 75) := ⟨⟨by decide +kernel, by decide +kernel⟩, List.mem_of_getElem? (i := 1620) (by decide +kernel), List.mem_of_getElem? (i := 2113) (by decide +kernel), List.mem_of_getElem? (i := 2114) (by decide +kernel)⟩
def lw_privs_6 : List (MethodName × Nat) := [(⟨"ToolPlexModel", "findsAll", "(II)V"⟩, 75), (⟨"ToolPlexModel", "findsRun", "(III)Z"⟩, 75), (⟨"ToolPlexModel", "classAt", "(II)I"⟩, 75), (⟨"ToolPlexModel", "runAt", "(I)I"⟩, 75), (⟨"ToolPlexModel", "completes", "(IIIII)V"⟩, 75), (⟨"ToolPlexModel", "areAlike", "(IIIIII)Z"⟩, 75), (⟨"ToolPlexModel", "isAhead", "(IIIII)Z"⟩, 75), (⟨"ToolPlexModel", "adds", "(IIIII)V"⟩, 75), (⟨"ToolPlexModel", "likes", "(II)I"⟩, 75), (⟨"ToolPlexModel", "renames", "(IIIII)V"⟩, 75), (⟨"ToolPlexModel", "drops", "(II)V"⟩, 75), (⟨"ToolPlexModel", "loses", "(I)I"⟩, 75), (⟨"ToolPlexModel", "takes", "(I)I"⟩, 75), (⟨"ToolPlexModel", "frees", "(I)V"⟩, 75), (⟨"ToolPlexModel", "merges", "(I)V"⟩, 75), (⟨"ToolPlexModel", "leavesOut", "(I)Z"⟩, 75)]
theorem lw_r6 : ∀ q ∈ lw_privs_6, lw_okq q := List.forall_mem_cons.mpr ⟨lw_p80, List.forall_mem_cons.mpr ⟨lw_p81, List.forall_mem_cons.mpr ⟨lw_p82, List.forall_mem_cons.mpr ⟨lw_p83, List.forall_mem_cons.mpr ⟨lw_p84, List.forall_mem_cons.mpr ⟨lw_p85, List.forall_mem_cons.mpr ⟨lw_p86, List.forall_mem_cons.mpr ⟨lw_p87, List.forall_mem_cons.mpr ⟨lw_p88, List.forall_mem_cons.mpr ⟨lw_p89, List.forall_mem_cons.mpr ⟨lw_p90, List.forall_mem_cons.mpr ⟨lw_p91, List.forall_mem_cons.mpr ⟨lw_p92, List.forall_mem_cons.mpr ⟨lw_p93, List.forall_mem_cons.mpr ⟨lw_p94, List.forall_mem_cons.mpr ⟨lw_p95, fun _ h => absurd h List.not_mem_nil⟩⟩⟩⟩⟩⟩⟩⟩⟩⟩⟩⟩⟩⟩⟩⟩
theorem lw_p96 : lw_okq (⟨"ToolPlexModel", "replies", "(II)I"⟩, 75) := ⟨⟨by decide +kernel, by decide +kernel⟩, List.mem_of_getElem? (i := 1620) (by decide +kernel), List.mem_of_getElem? (i := 2117) (by decide +kernel), List.mem_of_getElem? (i := 2118) (by decide +kernel)⟩
theorem lw_p97 : lw_okq (⟨"ToolPlexModel", "joinsCompletions", "(II)V"⟩, 75) := ⟨⟨by decide +kernel, by decide +kernel⟩, List.mem_of_getElem? (i := 1620) (by decide +kernel), List.mem_of_getElem? (i := 2121) (by decide +kernel), List.mem_of_getElem? (i := 2122) (by decide +kernel)⟩
theorem lw_p98 : lw_okq (⟨"ToolPlexModel", "swaps", "(II)V"⟩, 75) := ⟨⟨by decide +kernel, by decide +kernel⟩, List.mem_of_getElem? (i := 1620) (by decide +kernel), List.mem_of_getElem? (i := 2125) (by decide +kernel), List.mem_of_getElem? (i := 2126) (by decide +kernel)⟩
theorem lw_p99 : lw_okq (⟨"ToolPlexModel", "takesLowest", "(II)V"⟩, 75) := ⟨⟨by decide +kernel, by decide +kernel⟩, List.mem_of_getElem? (i := 1620) (by decide +kernel), List.mem_of_getElem? (i := 2129) (by decide +kernel), List.mem_of_getElem? (i := 2130) (by decide +kernel)⟩
theorem lw_p100 : lw_okq (⟨"ToolPlexModel", "copies", "(II)V"⟩, 75) := ⟨⟨by decide +kernel, by decide +kernel⟩, List.mem_of_getElem? (i := 1620) (by decide +kernel), List.mem_of_getElem? (i := 2133) (by decide +kernel), List.mem_of_getElem? (i := 2134) (by decide +kernel)⟩
theorem lw_p101 : lw_okq (⟨"ToolPlexModel", "joinsSpans", "(II)V"⟩, 75) := ⟨⟨by decide +kernel, by decide +kernel⟩, List.mem_of_getElem? (i := 1620) (by decide +kernel), List.mem_of_getElem? (i := 2137) (by decide +kernel), List.mem_of_getElem? (i := 2138) (by decide +kernel)⟩
theorem lw_p102 : lw_okq (⟨"ToolPlexModel", "hasItems", "(I)Z"⟩, 75) := ⟨⟨by decide +kernel, by decide +kernel⟩, List.mem_of_getElem? (i := 1620) (by decide +kernel), List.mem_of_getElem? (i := 2141) (by decide +kernel), List.mem_of_getElem? (i := 2142) (by decide +kernel)⟩
theorem lw_p103 : lw_okq (⟨"ToolPlexModel", "gathers", "(I)V"⟩, 75) := ⟨⟨by decide +kernel, by decide +kernel⟩, List.mem_of_getElem? (i := 1620) (by decide +kernel), List.mem_of_getElem? (i := 2145) (by decide +kernel), List.mem_of_getElem? (i := 2146) (by decide +kernel)⟩
theorem lw_p104 : lw_okq (⟨"ToolPlexModel", "keepsApart", "(I)V"⟩, 75) := ⟨⟨by decide +kernel, by decide +kernel⟩, List.mem_of_getElem? (i := 1620) (by decide +kernel), List.mem_of_getElem? (i := 2149) (by decide +kernel), List.mem_of_getElem? (i := 2150) (by decide +kernel)⟩
theorem lw_p105 : lw_okq (⟨"ToolPlexModel", "clears", "(I)V"⟩, 75) := ⟨⟨by decide +kernel, by decide +kernel⟩, List.mem_of_getElem? (i := 1620) (by decide +kernel), List.mem_of_getElem? (i := 2153) (by decide +kernel), List.mem_of_getElem? (i := 2154) (by decide +kernel)⟩
theorem lw_p106 : lw_okq (⟨"ToolPlexModel", "deals", "(II)Z"⟩, 75) := ⟨⟨by decide +kernel, by decide +kernel⟩, List.mem_of_getElem? (i := 1620) (by decide +kernel), List.mem_of_getElem? (i := 2161) (by decide +kernel), List.mem_of_getElem? (i := 2162) (by decide +kernel)⟩
theorem lw_p107 : lw_okq (⟨"ToolPlexModel", "delivers", "(I)I"⟩, 75) := ⟨⟨by decide +kernel, by decide +kernel⟩, List.mem_of_getElem? (i := 1620) (by decide +kernel), List.mem_of_getElem? (i := 2169) (by decide +kernel), List.mem_of_getElem? (i := 2170) (by decide +kernel)⟩
theorem lw_p108 : lw_okq (⟨"ToolPlexModel", "editorTakes", "(II)V"⟩, 75) := ⟨⟨by decide +kernel, by decide +kernel⟩, List.mem_of_getElem? (i := 1620) (by decide +kernel), List.mem_of_getElem? (i := 2173) (by decide +kernel), List.mem_of_getElem? (i := 2174) (by decide +kernel)⟩
theorem lw_p109 : lw_okq (⟨"ToolPlexModel", "follows", "(III)V"⟩, 75) := ⟨⟨by decide +kernel, by decide +kernel⟩, List.mem_of_getElem? (i := 1620) (by decide +kernel), List.mem_of_getElem? (i := 2177) (by decide +kernel), List.mem_of_getElem? (i := 2178) (by decide +kernel)⟩
theorem lw_p110 : lw_okq (⟨"ToolPlexModel", "takesAnswer", "(II)V"⟩, 75) := ⟨⟨by decide +kernel, by decide +kernel⟩, List.mem_of_getElem? (i := 1620) (by decide +kernel), List.mem_of_getElem? (i := 2181) (by decide +kernel), List.mem_of_getElem? (i := 2182) (by decide +kernel)⟩
theorem lw_p111 : lw_okq (⟨"ToolPlexModel", "takesFaults", "(I)V"⟩, 75) := ⟨⟨by decide +kernel, by decide +kernel⟩, List.mem_of_getElem? (i := 1620) (by decide +kernel), List.mem_of_getElem? (i := 2185) (by decide +kernel), List.mem_of_getElem? (i := 2186) (by decide +kernel)⟩
def lw_privs_7 : List (MethodName × Nat) := [(⟨"ToolPlexModel", "replies", "(II)I"⟩, 75), (⟨"ToolPlexModel", "joinsCompletions", "(II)V"⟩, 75), (⟨"ToolPlexModel", "swaps", "(II)V"⟩, 75), (⟨"ToolPlexModel", "takesLowest", "(II)V"⟩, 75), (⟨"ToolPlexModel", "copies", "(II)V"⟩, 75), (⟨"ToolPlexModel", "joinsSpans", "(II)V"⟩, 75), (⟨"ToolPlexModel", "hasItems", "(I)Z"⟩, 75), (⟨"ToolPlexModel", "gathers", "(I)V"⟩, 75), (⟨"ToolPlexModel", "keepsApart", "(I)V"⟩, 75), (⟨"ToolPlexModel", "clears", "(I)V"⟩, 75), (⟨"ToolPlexModel", "deals", "(II)Z"⟩, 75), (⟨"ToolPlexModel", "delivers", "(I)I"⟩, 75), (⟨"ToolPlexModel", "editorTakes", "(II)V"⟩, 75), (⟨"ToolPlexModel", "follows", "(III)V"⟩, 75), (⟨"ToolPlexModel", "takesAnswer", "(II)V"⟩, 75), (⟨"ToolPlexModel", "takesFaults", "(I)V"⟩, 75)]
theorem lw_r7 : ∀ q ∈ lw_privs_7, lw_okq q := List.forall_mem_cons.mpr ⟨lw_p96, List.forall_mem_cons.mpr ⟨lw_p97, List.forall_mem_cons.mpr ⟨lw_p98, List.forall_mem_cons.mpr ⟨lw_p99, List.forall_mem_cons.mpr ⟨lw_p100, List.forall_mem_cons.mpr ⟨lw_p101, List.forall_mem_cons.mpr ⟨lw_p102, List.forall_mem_cons.mpr ⟨lw_p103, List.forall_mem_cons.mpr ⟨lw_p104, List.forall_mem_cons.mpr ⟨lw_p105, List.forall_mem_cons.mpr ⟨lw_p106, List.forall_mem_cons.mpr ⟨lw_p107, List.forall_mem_cons.mpr ⟨lw_p108, List.forall_mem_cons.mpr ⟨lw_p109, List.forall_mem_cons.mpr ⟨lw_p110, List.forall_mem_cons.mpr ⟨lw_p111, fun _ h => absurd h List.not_mem_nil⟩⟩⟩⟩⟩⟩⟩⟩⟩⟩⟩⟩⟩⟩⟩⟩
theorem lw_p112 : lw_okq (⟨"ToolPlexModel", "serverTakes", "(II)V"⟩, 75) := ⟨⟨by decide +kernel, by decide +kernel⟩, List.mem_of_getElem? (i := 1620) (by decide +kernel), List.mem_of_getElem? (i := 2189) (by decide +kernel), List.mem_of_getElem? (i := 2190) (by decide +kernel)⟩
theorem lw_p113 : lw_okq (⟨"ToolPlexModel", "takesOpen", "(II)V"⟩, 75) := ⟨⟨by decide +kernel, by decide +kernel⟩, List.mem_of_getElem? (i := 1620) (by decide +kernel), List.mem_of_getElem? (i := 2193) (by decide +kernel), List.mem_of_getElem? (i := 2194) (by decide +kernel)⟩
theorem lw_p114 : lw_okq (⟨"ToolPlexModel", "takesChange", "(I)V"⟩, 75) := ⟨⟨by decide +kernel, by decide +kernel⟩, List.mem_of_getElem? (i := 1620) (by decide +kernel), List.mem_of_getElem? (i := 2197) (by decide +kernel), List.mem_of_getElem? (i := 2198) (by decide +kernel)⟩
theorem lw_p115 : lw_okq (⟨"ToolPlexModel", "takesClose", "(I)V"⟩, 75) := ⟨⟨by decide +kernel, by decide +kernel⟩, List.mem_of_getElem? (i := 1620) (by decide +kernel), List.mem_of_getElem? (i := 2201) (by decide +kernel), List.mem_of_getElem? (i := 2202) (by decide +kernel)⟩
theorem lw_p116 : lw_okq (⟨"ToolPlexModel", "takesRequest", "(I)V"⟩, 75) := ⟨⟨by decide +kernel, by decide +kernel⟩, List.mem_of_getElem? (i := 1620) (by decide +kernel), List.mem_of_getElem? (i := 2205) (by decide +kernel), List.mem_of_getElem? (i := 2206) (by decide +kernel)⟩
theorem lw_p117 : lw_okq (⟨"ToolPlexModel", "cancels", "(I)V"⟩, 75) := ⟨⟨by decide +kernel, by decide +kernel⟩, List.mem_of_getElem? (i := 1620) (by decide +kernel), List.mem_of_getElem? (i := 2209) (by decide +kernel), List.mem_of_getElem? (i := 2210) (by decide +kernel)⟩
theorem lw_p118 : lw_okq (⟨"ToolPlexModel", "isCopy", "(II)Z"⟩, 75) := ⟨⟨by decide +kernel, by decide +kernel⟩, List.mem_of_getElem? (i := 1620) (by decide +kernel), List.mem_of_getElem? (i := 2225) (by decide +kernel), List.mem_of_getElem? (i := 2226) (by decide +kernel)⟩
theorem lw_p119 : lw_okq (⟨"ToolPlexModel", "copy", "(II)I"⟩, 75) := ⟨⟨by decide +kernel, by decide +kernel⟩, List.mem_of_getElem? (i := 1620) (by decide +kernel), List.mem_of_getElem? (i := 2229) (by decide +kernel), List.mem_of_getElem? (i := 2230) (by decide +kernel)⟩
theorem lw_p120 : lw_okq (⟨"ToolPlexModel", "isItem", "(III)Z"⟩, 75) := ⟨⟨by decide +kernel, by decide +kernel⟩, List.mem_of_getElem? (i := 1620) (by decide +kernel), List.mem_of_getElem? (i := 2249) (by decide +kernel), List.mem_of_getElem? (i := 2250) (by decide +kernel)⟩
theorem lw_p121 : lw_okq (⟨"ToolPlexModel", "coded", "(I)I"⟩, 75) := ⟨⟨by decide +kernel, by decide +kernel⟩, List.mem_of_getElem? (i := 1620) (by decide +kernel), List.mem_of_getElem? (i := 2253) (by decide +kernel), List.mem_of_getElem? (i := 2254) (by decide +kernel)⟩
def lw_privs_8 : List (MethodName × Nat) := [(⟨"ToolPlexModel", "serverTakes", "(II)V"⟩, 75), (⟨"ToolPlexModel", "takesOpen", "(II)V"⟩, 75), (⟨"ToolPlexModel", "takesChange", "(I)V"⟩, 75), (⟨"ToolPlexModel", "takesClose", "(I)V"⟩, 75), (⟨"ToolPlexModel", "takesRequest", "(I)V"⟩, 75), (⟨"ToolPlexModel", "cancels", "(I)V"⟩, 75), (⟨"ToolPlexModel", "isCopy", "(II)Z"⟩, 75), (⟨"ToolPlexModel", "copy", "(II)I"⟩, 75), (⟨"ToolPlexModel", "isItem", "(III)Z"⟩, 75), (⟨"ToolPlexModel", "coded", "(I)I"⟩, 75)]
theorem lw_r8 : ∀ q ∈ lw_privs_8, lw_okq q := List.forall_mem_cons.mpr ⟨lw_p112, List.forall_mem_cons.mpr ⟨lw_p113, List.forall_mem_cons.mpr ⟨lw_p114, List.forall_mem_cons.mpr ⟨lw_p115, List.forall_mem_cons.mpr ⟨lw_p116, List.forall_mem_cons.mpr ⟨lw_p117, List.forall_mem_cons.mpr ⟨lw_p118, List.forall_mem_cons.mpr ⟨lw_p119, List.forall_mem_cons.mpr ⟨lw_p120, List.forall_mem_cons.mpr ⟨lw_p121, fun _ h => absurd h List.not_mem_nil⟩⟩⟩⟩⟩⟩⟩⟩⟩⟩
def lw_privs : List (MethodName × Nat) := lw_privs_1 ++ (lw_privs_2 ++ (lw_privs_3 ++ (lw_privs_4 ++ (lw_privs_5 ++ (lw_privs_6 ++ (lw_privs_7 ++ (lw_privs_8)))))))
def lw_tbl : List Cond := k2_sels lw_privs ++ tables_1
theorem lw_privs_ok : ∀ q ∈ lw_privs, lw_okq q := by
  show ∀ q ∈ lw_privs_1 ++ (lw_privs_2 ++ (lw_privs_3 ++ (lw_privs_4 ++ (lw_privs_5 ++ (lw_privs_6 ++ (lw_privs_7 ++ (lw_privs_8))))))), lw_okq q
  exact List.forall_mem_append.mpr ⟨lw_r1, List.forall_mem_append.mpr ⟨lw_r2, List.forall_mem_append.mpr ⟨lw_r3, List.forall_mem_append.mpr ⟨lw_r4, List.forall_mem_append.mpr ⟨lw_r5, List.forall_mem_append.mpr ⟨lw_r6, List.forall_mem_append.mpr ⟨lw_r7, lw_r8⟩⟩⟩⟩⟩⟩⟩
end
section
/-! ===== BEGIN words of one list among another's, by their places ===== -/
theorem goodIn_r {big : List Cond} (ws : List Cond) (ps : List Nat) (hp : ws = ps.filterMap (fun i => big[i]?)) (h : ws.all goodWord = true) : GoodIn big ws := by
  intro w hw
  have h1 := List.all_eq_true.mp h w hw
  rw [hp] at hw
  obtain ⟨i, -, hi⟩ := List.mem_filterMap.mp hw
  have hm : w ∈ big := by first | exact List.mem_of_getElem? hi | exact List.getElem?_mem hi
  exact ⟨hm, good_of_word h1⟩
theorem goodIn_app {big a b : List Cond} (ha : GoodIn big a) (hb : GoodIn big b) : GoodIn big (a ++ b) := fun w h => (List.mem_append.mp h).elim (ha w) (hb w)
theorem goodIn_ca {big a b : List Cond} {c : Cond} (ha : GoodIn big (c :: a)) (hb : GoodIn big b) : GoodIn big (c :: (a ++ b)) := fun w h => (List.mem_cons.mp h).elim (fun e => ha w (List.mem_cons.mpr (Or.inl e))) (fun h => (List.mem_append.mp h).elim (fun h => ha w (List.mem_cons.mpr (Or.inr h))) (hb w))
theorem goodIn_sub {big ws : List Cond} (hm : ∀ w ∈ ws, w ∈ big) (h : ws.all goodWord = true) : GoodIn big ws := fun w hw => ⟨hm w hw, good_of_word (List.all_eq_true.mp h w hw)⟩
/-! ===== END ===== -/

/-! ===== BEGIN exceptions that leave a method, and their catching by the caller (launches without stack traces) ===== -/
section VXA
/-! The laws vx_back, vx_callV, vx_callS, vx_callSW, vx_throw0, vx_throwS follow proofs of the library, with one case more: JvmDerived/Free/Laws.lean (Back.of_free), Shelf42/LK1.lean (callV, callS), Shelf/KitTraced.lean (throwNew0V, throwNewS). -/
/-- where a method has thrown q: the class by its name, the cell, what was written, the world -/
def vx_T (XC : String → State → State → Prop) (st : State) (q : Addr) (t : State) (mc ms : Nat) (free : Addr → Prop) : Prop :=
  ∃ (E : String) (ce : Cell) (L : List Loc), XC E st t ∧ t.heap[q]? = some ce ∧ ce.vm = .none ∧ st.vm.findClass E = some ce.cls ∧ st.WarmedH t.vm ∧ st.sameButNew ({ t with vm := st.vm } : State) L mc ms ∧ ∀ z ∈ L, free z.base
def vx_Q (Qc : Array Value → State → Outcome → State → Prop) (XC : String → State → State → Prop) (mc ms : Nat) (free : Addr → Prop) : Array Value → State → Outcome → State → Prop := fun a st o t =>
  (Qc a st o t ∧ ∃ L, FrameEnd st o t L mc ms ∧ ∀ q ∈ L, free q.base) ∨ ∃ q, o = .threw q ∧ vx_T XC st q t mc ms free
/-- a callee that returns or throws -/
def vx_Met (l : Launch) (y : MethodName) (ws : List Cond) (rm : Room) (Pc : Array Value → State → Prop) (Qc : Array Value → State → Outcome → State → Prop) (XC : String → State → State → Prop) (mc ms : Nat) (free : Addr → Prop) : Prop :=
  MetFree l y (headSpec ws rm) Pc (fun _ _ _ _ _ => True) (vx_Q Qc XC mc ms free)
def vx_Post (XC : String → State → State → Prop) (mc ms : Nat) (free : Addr → Prop) : Pt → Array Value → Addr → Pt → Prop := fun A a q B =>
  ∃ (g : JFrame) (mk : MethodId) (t : State) (L : List Loc) (E : String) (ce : Cell), B.U.heap = t.heap ∧ B.U.vm = t.vm ∧ XC E (A.U.calling g mk a) t ∧ t.heap[q]? = some ce ∧ ce.vm = .none ∧ A.U.vm.findClass E = some ce.cls ∧ B.locs = A.locs ++ L ∧ (∀ z ∈ L, free z.base) ∧ B.cells = A.cells + mc ∧ B.slots = A.slots + ms
def vx_Back (l : Launch) (R : Room) (p : Program) (e : Env) (below : List Frame) (s : State) (sargs : Array Value) (y : MethodName) (len W9 : Nat)
    (Pre : Pt → Array Value → Prop) (Post : Pt → Array Value → Option Value → Pt → Prop) (PostX : Pt → Array Value → Addr → Pt → Prop) : Prop :=
  ∀ (m : MethodId) (meth : Method) (c : Code) (A : Pt) (g : JFrame) (ig : Instr) (mk : MethodId) (a : Array Value),
    Stand p l e R s m sargs below meth c A.U A.locs A.cells A.slots → g.method = m → g.locals.size = c.maxLocals → decode c.code g.pc = .ok (ig, len) →
    2 * g.monitorRoom + (g.stack.map fun v => v.category).sum ≤ W9 → A.U.methodNamed? y = some mk → Pre A a →
    (∃ (v : Option Value) (B : Pt), Stand p l e R s m sargs below meth c B.U B.locs B.cells B.slots ∧ Post A a v B ∧
      Steps p.tables e below (doInvoke e (A.U.setTop g) [] mk a).1 (B.U.setTop { g with pc := g.pc + len, stack := v.toList ++ g.stack })) ∨
    (∃ (q : Addr) (B : Pt), Stand p l e R s m sargs below meth c B.U B.locs B.cells B.slots ∧ PostX A a q B ∧
      Steps p.tables e below (doInvoke e (A.U.setTop g) [] mk a).1 ((B.U.setTop g).pushFrame (.throwing q)))
section Payer
variable {l : Launch} {R : Room} {p : Program} {e : Env} {below : List Frame} {s : State} {sargs : Array Value} {y : MethodName} {len W9 : Nat}
theorem vx_back {ws : List Cond} {rm : Room} {Pc : Array Value → State → Prop} {Qc : Array Value → State → Outcome → State → Prop} {XC : String → State → State → Prop} {mc ms : Nat} {free : Addr → Prop} {bytes : ByteArray} {maxL : Nat} {ret : Option FieldType}
    (hM : vx_Met l y ws rm Pc Qc XC mc ms free) (hblind : FrameBlind Pc) (hrc : rm.cells = mc) (hrs : rm.slots = ms)
    (hframes : rm.frames + 1 ≤ R.frames) (hlocals : W9 + (maxL + 11) + rm.locals ≤ R.locals)
    (hws : ∀ w ∈ ws, ∀ a' U, s.WarmedH U.vm → w.before a' U = true) (hcode : Cond.code y bytes maxL ret ∈ ws) (hinit : ∀ a' U, s.WarmedH U.vm → (Cond.initialized y.cls).before a' U = true) :
    vx_Back l R p e below s sargs y len W9 (PreOf R mc ms Pc) (PostOf Qc mc ms free) (vx_Post XC mc ms free) := by
  intro m meth c A g ig mk a X hg hsize hdg hW hn hp
  have h1 : (headSpec ws rm).pre.before a A.U = true := atoms_intro fun w hw => hws w hw _ _ X.warmed
  have h2 : (Cond.code y bytes maxL ret).before a A.U = true := hws _ hcode _ _ X.warmed
  have h3 : (Cond.initialized y.cls).before a A.U = true := hinit _ _ X.warmed
  have h4 : A.cells + (headSpec ws rm).room.cells ≤ R.cells := by rw [show (headSpec ws rm).room.cells = mc from hrc]; exact hp.1
  have h5 : A.slots + (headSpec ws rm).room.slots ≤ R.slots := by rw [show (headSpec ws rm).room.slots = ms from hrs]; exact hp.2.1
  have hPc : Pc a (A.U.calling g mk a) := hblind _ _ _ _ hp.2.2
  obtain ⟨U, Ls, c0, s0⟩ := A
  dsimp only [Pt.U, Pt.locs, Pt.cells, Pt.slots] at h1 h2 h3 h4 h5 X hn hPc ⊢
  obtain ⟨methY, cY, hmY, hcY, -, hlY, -, -, -, -⟩ := Cond.code_spec hn h2
  obtain ⟨kY, hkY, -⟩ := className_of_methodNamed hn
  have hinitY : kY.init = .initialized := Cond.initialized_spec (findClass_of_methodNamed hn) hkY h3
  have h : At U g.method c below := by rw [hg]; exact X.here
  have hlocals9 : W9 + (maxL + 11) + (headSpec ws rm).room.locals ≤ R.locals := hlocals
  have happ : (headSpec ws rm).appliesLoose y e.platform (U.calling g mk a) = true :=
    Spec.appliesLoose_calling (g := g) h hdg hn hkY hinitY
      (X.room_calling (g := g) (R' := (headSpec ws rm).room) hsize hmY hcY hframes (by rw [hlY]; omega) h4 h5) h1
  obtain ⟨mid, hmid⟩ := h.above
  have hfr : (U.setTop g).frames = (.java g :: mid) ++ below := by rw [State.frames_setTop' g h.top, hmid]; rfl
  obtain ⟨o, s₂, hsteps, -, hend, hq⟩ := Steps.callFree hM p X.admits X.cas X.clock (acts := []) hfr happ hPc trivial
  have hq' : vx_Q Qc XC mc ms free a (U.calling g mk a) o s₂ := hq
  rw [State.frames_setTop' g h.top] at hend
  obtain ⟨g₀, hg0⟩ := Option.isSome_iff_exists.mp h.top
  obtain ⟨r, hr⟩ := State.topJava?_eq_some.mp hg0
  have hr' : (({ U with heap := s₂.heap, slotsUsed := s₂.slotsUsed } : State).setVm s₂.vm).frames = .java g₀ :: r := hr
  rcases hq' with ⟨hqc, L, hfe, hL⟩ | ⟨q, rfl, E, ce, L, hx, hce, hcv, hcl, hW₂, hsm, hL⟩
  · obtain ⟨⟨v, rfl⟩, hW₂, e2, q2, q3, q4, q5, q6⟩ := id hfe
    have e3 : s₂ = ({ (U.calling g mk a).setFrames s₂.frames with heap := s₂.heap, slotsUsed := s₂.slotsUsed } : State).setVm s₂.vm := by
      have : s₂ = ({ s₂ with vm := (U.calling g mk a).vm } : State).setVm s₂.vm := rfl
      rw [e2] at this
      exact this
    obtain ⟨c₂, i₂, len₂, hc₂, hd₂, hf₂⟩ := hend
    have hW' : U.WarmedH s₂.vm := hW₂
    have hcc : c₂ = c := by
      have h1 : s₂.code? g.method = U.code? g.method := by
        rw [State.code?_eq, State.code?_eq, hW'.alike.method?]
      exact Option.some.inj (hc₂.symm.trans (h1.trans h.code))
    subst hcc
    have hlen : len₂ = len := by rw [hdg] at hd₂; cases hd₂; rfl
    subst hlen
    have hs₂ : s₂ = (({ U with heap := s₂.heap, slotsUsed := s₂.slotsUsed } : State).setVm s₂.vm).setTop { g with pc := g.pc + len₂, stack := v.toList ++ g.stack } := by
      refine e3.trans ?_
      rw [hf₂, State.calling_eq h.top, State.setFrames_setFrames, State.setTop_of_frames _ hr', hr]
      rfl
    have hsame : U.sameButNew ({ U with heap := s₂.heap, slotsUsed := s₂.slotsUsed } : State) L mc ms := by
      refine ⟨?_, q2, q3, q4, q5, q6⟩
      obtain ⟨t, ht, -⟩ := State.frames_cons hr
      show ({ U with heap := s₂.heap, slotsUsed := s₂.slotsUsed } : State) = { U.setFrames U.frames with heap := s₂.heap, slotsUsed := s₂.slotsUsed }
      rw [State.setFrames_self ht]
    subst hg
    refine Or.inl ⟨v, ⟨(({ U with heap := s₂.heap, slotsUsed := s₂.slotsUsed } : State).setVm s₂.vm), Ls ++ L, c0 + mc, s0 + ms⟩,
      ⟨X.admits, X.cas, X.clock, X.frames, X.room, X.hears, X.method, X.code, (X.here.setHeapUsed s₂.heap s₂.slotsUsed).setVm hW'.alike, X.tail, State.WarmedH.trans X.warmed hW', X.limits, X.bytes, X.same.trans (hsame.setVm s.vm)⟩,
      ⟨g, mk, s₂, L, rfl, rfl, hqc, rfl, hL, rfl, rfl⟩, ?_⟩
    show Steps p.tables e below _ ((({ U with heap := s₂.heap, slotsUsed := s₂.slotsUsed } : State).setVm s₂.vm).setTop { g with pc := g.pc + len₂, stack := v.toList ++ g.stack })
    rw [← hs₂]
    exact hsteps
  · obtain ⟨e2, q2, q3, q4, q5, q6⟩ := id hsm
    have e3 : s₂ = ({ (U.calling g mk a).setFrames s₂.frames with heap := s₂.heap, slotsUsed := s₂.slotsUsed } : State).setVm s₂.vm := by
      have : s₂ = ({ s₂ with vm := (U.calling g mk a).vm } : State).setVm s₂.vm := rfl
      rw [e2] at this
      exact this
    have hf₂ : s₂.frames = .throwing q :: .java g :: U.frames.tail := hend
    have hW' : U.WarmedH s₂.vm := hW₂
    have hs₂ : s₂ = ((({ U with heap := s₂.heap, slotsUsed := s₂.slotsUsed } : State).setVm s₂.vm).setTop g).pushFrame (.throwing q) := by
      refine e3.trans ?_
      rw [hf₂, State.calling_eq h.top, State.setFrames_setFrames, State.pushFrame, State.frames_setTop _ hr', State.setTop_of_frames _ hr', State.setFrames_setFrames, hr]
      rfl
    have hsame : U.sameButNew ({ U with heap := s₂.heap, slotsUsed := s₂.slotsUsed } : State) L mc ms := by
      refine ⟨?_, q2, q3, q4, q5, q6⟩
      obtain ⟨t, ht, -⟩ := State.frames_cons hr
      show ({ U with heap := s₂.heap, slotsUsed := s₂.slotsUsed } : State) = { U.setFrames U.frames with heap := s₂.heap, slotsUsed := s₂.slotsUsed }
      rw [State.setFrames_self ht]
    subst hg
    refine Or.inr ⟨q, ⟨(({ U with heap := s₂.heap, slotsUsed := s₂.slotsUsed } : State).setVm s₂.vm), Ls ++ L, c0 + mc, s0 + ms⟩,
      ⟨X.admits, X.cas, X.clock, X.frames, X.room, X.hears, X.method, X.code, (X.here.setHeapUsed s₂.heap s₂.slotsUsed).setVm hW'.alike, X.tail, State.WarmedH.trans X.warmed hW', X.limits, X.bytes, X.same.trans (hsame.setVm s.vm)⟩,
      ⟨g, mk, s₂, L, E, ce, rfl, rfl, hx, hce, hcv, hcl, rfl, hL, rfl, rfl⟩, ?_⟩
    show Steps p.tables e below _ (((({ U with heap := s₂.heap, slotsUsed := s₂.slotsUsed } : State).setVm s₂.vm).setTop g).pushFrame (.throwing q))
    rw [← hs₂]
    exact hsteps
end Payer
section Calls
variable {p : Program} {l : Launch} {e : Env} {R : Room} {s : State} {m : MethodId} {args : Array Value} {below : List Frame} {meth : Method} {c : Code} {T : State} {locs : List Loc} {cells slots : Nat}
theorem vx_callV (X : Stand p l e R s m args below meth c T locs cells slots) (hexec : p.tables.exec = Jvm.exec) {own C : String} {index : Nat} {y : MethodName} {bytes : ByteArray} {maxL : Nat} {ret : Option FieldType}
    (hown : s.vm.findClass own = some m.cls) (hlink : (Cond.methodLink own index y).before args s = true) (hinst : (Cond.instanceMethod y).before args s = true) (hsel : (Cond.selects C y y).before args s = true)
    (hcode : (Cond.code y bytes maxL ret).before args s = true) (hy : y.cls ≠ "java/lang/invoke/MethodHandle" ∧ y.cls ≠ "java/lang/invoke/VarHandle")
    {W9 : Nat} {Pre : Pt → Array Value → Prop} {Post : Pt → Array Value → Option Value → Pt → Prop} {PostX : Pt → Array Value → Addr → Pt → Prop} (hK : vx_Back l R p e below s args y 3 W9 Pre Post PostX)
    {b : Addr} {cellB : Cell} (hcell : T.heap[b]? = some cellB) (hobj : cellB.vm.isStatics = false) (hcls : s.vm.findClass C = some cellB.cls)
    {g : JFrame} (hg : g.method = m) (hsize : g.locals.size = c.maxLocals) {argsL rest : List Value} (hlen : ∀ sig, parseMethodDescriptor y.desc = some sig → argsL.length = sig.parameters.length)
    (hstack : g.stack = argsL.reverse ++ .ref b :: rest) (hW : 2 * g.monitorRoom + (rest.map fun v => v.category).sum ≤ W9) (hdg : decode c.code g.pc = .ok (.invokevirtual index, 3))
    (hpre : ∀ vm₁, s.WarmedH vm₁ → Pre ⟨T.setVm vm₁, locs, cells, slots⟩ (Value.ref b :: argsL).toArray) :
    (∃ (v : Option Value) (vm₁ : Vm) (B : Pt), s.WarmedH vm₁ ∧ Stand p l e R s m args below meth c B.U B.locs B.cells B.slots ∧ Post ⟨T.setVm vm₁, locs, cells, slots⟩ (Value.ref b :: argsL).toArray v B ∧
      ∀ target, Steps p.tables e below (B.U.setTop { g with pc := g.pc + 3, stack := v.toList ++ rest }) target → Steps p.tables e below (T.setTop g) target) ∨
    (∃ (q : Addr) (vm₁ : Vm) (B : Pt), s.WarmedH vm₁ ∧ Stand p l e R s m args below meth c B.U B.locs B.cells B.slots ∧ PostX ⟨T.setVm vm₁, locs, cells, slots⟩ (Value.ref b :: argsL).toArray q B ∧
      Steps p.tables e below (T.setTop g) ((B.U.setTop { g with stack := rest }).pushFrame (.throwing q))) := by
  obtain ⟨mk, methM, hnamed, hmethM, hstM, habM⟩ := Cond.instanceMethod_spec hinst
  obtain ⟨methM', cM, hmethM', -, -, -, -, -, -, hsigM⟩ := Cond.code_spec hnamed hcode
  cases hmethM.symm.trans hmethM'
  obtain ⟨c2, r2, m2, q1, q2, q3, q4, kP, hkP, hkPi⟩ := Cond.selects_spec hsel
  cases hcls.symm.trans q1
  cases (State.methodFound?_of_named hnamed hy).symm.trans q2
  cases hnamed.symm.trans q3
  have hselP : selectMethod e.platform s.vm cellB.cls mk = .method mk := by rw [Launch.admits_selectMethod X.admits]; exact q4
  obtain ⟨vm₁, X₁, hstep₁⟩ := X.invokevirtual hexec hown hlink hnamed hmethM hstM hkP hkPi hy (a := b) (cell := cellB) hcell
    (fun z h => by rw [h] at hobj; cases hobj) hselP hmethM habM hkP hkPi (g := g) hg (argsL := argsL) (rest := rest) (hlen _ hsigM) hstack hdg
  rcases hK m meth c ⟨T.setVm vm₁, locs, cells, slots⟩ { g with stack := rest } (.invokevirtual index) mk (Value.ref b :: argsL).toArray X₁ hg hsize hdg hW (X₁.named hnamed) (hpre vm₁ X₁.warmed) with ⟨v, B, X', hpost, hsteps⟩ | ⟨q, B, X', hpost, hsteps⟩
  · exact Or.inl ⟨v, vm₁, B, X₁.warmed, X', hpost, fun target h => hstep₁ _ fun acts => by rw [doInvoke_state]; exact hsteps.trans h⟩
  · exact Or.inr ⟨q, vm₁, B, X₁.warmed, X', hpost, hstep₁ _ fun acts => by rw [doInvoke_state]; exact hsteps⟩
theorem vx_callS (X : Stand p l e R s m args below meth c T locs cells slots) (hexec : p.tables.exec = Jvm.exec) {own : String} {index : Nat} {y : MethodName} {bytes : ByteArray} {maxL : Nat} {ret : Option FieldType}
    (hown : s.vm.findClass own = some m.cls) (hlink : (Cond.methodLink own index y).before args s = true) (hstat : (Cond.static y).before args s = true) (hinit : (Cond.initialized y.cls).before args s = true)
    (hcode : (Cond.code y bytes maxL ret).before args s = true) (hy : y.cls ≠ "java/lang/invoke/MethodHandle" ∧ y.cls ≠ "java/lang/invoke/VarHandle")
    {W9 : Nat} {Pre : Pt → Array Value → Prop} {Post : Pt → Array Value → Option Value → Pt → Prop} {PostX : Pt → Array Value → Addr → Pt → Prop} (hK : vx_Back l R p e below s args y 3 W9 Pre Post PostX)
    {g : JFrame} (hg : g.method = m) (hsize : g.locals.size = c.maxLocals) {argsL rest : List Value} (hlen : ∀ sig, parseMethodDescriptor y.desc = some sig → argsL.length = sig.parameters.length)
    (hstack : g.stack = argsL.reverse ++ rest) (hW : 2 * g.monitorRoom + (rest.map fun v => v.category).sum ≤ W9) (hdg : decode c.code g.pc = .ok (.invokestatic index, 3))
    (hpre : ∀ vm₁, s.WarmedH vm₁ → Pre ⟨T.setVm vm₁, locs, cells, slots⟩ argsL.toArray) :
    (∃ (v : Option Value) (vm₁ : Vm) (B : Pt), s.WarmedH vm₁ ∧ Stand p l e R s m args below meth c B.U B.locs B.cells B.slots ∧ Post ⟨T.setVm vm₁, locs, cells, slots⟩ argsL.toArray v B ∧
      ∀ target, Steps p.tables e below (B.U.setTop { g with pc := g.pc + 3, stack := v.toList ++ rest }) target → Steps p.tables e below (T.setTop g) target) ∨
    (∃ (q : Addr) (vm₁ : Vm) (B : Pt), s.WarmedH vm₁ ∧ Stand p l e R s m args below meth c B.U B.locs B.cells B.slots ∧ PostX ⟨T.setVm vm₁, locs, cells, slots⟩ argsL.toArray q B ∧
      Steps p.tables e below (T.setTop g) ((B.U.setTop { g with stack := rest }).pushFrame (.throwing q))) := by
  obtain ⟨mk, hnamed⟩ := Cond.code_named hcode
  obtain ⟨methM, cM, hmethM, -, -, -, -, -, -, hsigM⟩ := Cond.code_spec hnamed hcode
  have hstatic : methM.isStatic = true := Cond.static_spec hnamed hmethM hstat
  obtain ⟨kP, hkP, -⟩ := className_of_methodNamed hnamed
  have hinitP : kP.init = .initialized := Cond.initialized_spec (findClass_of_methodNamed hnamed) hkP hinit
  obtain ⟨vm₁, X₁, hstep₁⟩ := X.invokestatic hexec hown hlink hnamed hmethM hstatic hkP hinitP hy (g := g) hg (argsL := argsL) (rest := rest) (hlen _ hsigM) hstack hdg
  rcases hK m meth c ⟨T.setVm vm₁, locs, cells, slots⟩ { g with stack := rest } (.invokestatic index) mk argsL.toArray X₁ hg hsize hdg hW (X₁.named hnamed) (hpre vm₁ X₁.warmed) with ⟨v, B, X', hpost, hsteps⟩ | ⟨q, B, X', hpost, hsteps⟩
  · exact Or.inl ⟨v, vm₁, B, X₁.warmed, X', hpost, fun target h => hstep₁ _ fun acts => by rw [doInvoke_state]; exact hsteps.trans h⟩
  · exact Or.inr ⟨q, vm₁, B, X₁.warmed, X', hpost, hstep₁ _ fun acts => by rw [doInvoke_state]; exact hsteps⟩
end Calls
theorem vx_cls {s : State} {T : State} {vm₁ : Vm} {E : String} {k : ClassId} (hW : s.WarmedH vm₁) (h : (T.setVm vm₁).vm.findClass E = some k) : s.vm.findClass E = some k := by
  have h1 : vm₁.findClass E = some k := h
  rw [hW.alike.findClass] at h1
  exact h1
/-- the method's frame g, with q thrown over it -/
def vx_W (p : Program) (l : Launch) (e : Env) (R : Room) (s : State) (m : MethodId) (args : Array Value) (below : List Frame) (meth : Method) (c : Code) (H : Heap) (locs : List Loc) (cells slots : Nat) (Q : State → Prop) (g : JFrame) (q : Addr) : Prop :=
  ∀ T : State, T.heap = H → Stand p l e R s m args below meth c T locs cells slots → ∃ t, Steps p.tables e below ((T.setTop g).pushFrame (.throwing q)) t ∧ Q t
def vx_Run (p : Program) (l : Launch) (e : Env) (R : Room) (s : State) (m : MethodId) (args : Array Value) (below : List Frame) (meth : Method) (c : Code) (H : Heap) (locs : List Loc) (cells slots mc ms : Nat) (g : JFrame) (rest : List Value) (Qa : State → Outcome → State → Prop) (XC : String → State → State → Prop) (free : Addr → Prop) : Prop :=
  ∀ T : State, T.heap = H → Stand p l e R s m args below meth c T locs cells slots →
    (∃ (v : Option Value) (st₀ t T' : State) (L : List Loc), st₀.heap = H ∧ Stand p l e R s m args below meth c T' (locs ++ L) (cells + mc) (slots + ms) ∧ (∀ q ∈ L, free q.base) ∧ T'.heap = t.heap ∧ T'.vm = t.vm ∧ Qa st₀ (.returned v) t ∧
      Goes p e below T g T' { g with pc := g.pc + 3, stack := v.toList ++ rest }) ∨
    (∃ (q : Addr) (st₀ t T' : State) (L : List Loc) (E : String) (ce : Cell), st₀.heap = H ∧ Stand p l e R s m args below meth c T' (locs ++ L) (cells + mc) (slots + ms) ∧ (∀ z ∈ L, free z.base) ∧ T'.heap = t.heap ∧ T'.vm = t.vm ∧ XC E st₀ t ∧ t.heap[q]? = some ce ∧ ce.vm = .none ∧ s.vm.findClass E = some ce.cls ∧
      Steps p.tables e below (T.setTop g) ((T'.setTop { g with stack := rest }).pushFrame (.throwing q)))
def vx_X {S : Type} (px : S → Prop) (B : String → S → State → Prop) (A : Nat → Prop) : String → State → State → Prop := fun E st t => ∃ u : S, px u ∧ B E u t ∧ va_F A st t
section Runs
variable {p : Program} {l : Launch} {e : Env} {R : Room} {s : State} {m : MethodId} {args : Array Value} {below : List Frame} {meth : Method} {c : Code} {H : Heap} {locs : List Loc} {cells slots : Nat}
variable {y : MethodName} {bytes cc : ByteArray} {maxL nL mc ms n index : Nat} {ret : Option FieldType} {ws : List Cond} {rm : Room} {Pc : Array Value → State → Prop} {Qc : Array Value → State → Outcome → State → Prop} {XC : String → State → State → Prop} {free : Addr → Prop} {Ts : List Cond} {own C : String} {b : Addr} {As rest : List Value} {g : JFrame}
theorem vx_callBack (cb : CallB R s args own index y bytes maxL ret ws rm mc ms n) (hM : vx_Met l y ws rm Pc Qc XC mc ms free) (hbl : FrameBlind Pc) : vx_Back l R p e below s args y 3 8 (PreOf R mc ms Pc) (PostOf Qc mc ms free) (vx_Post XC mc ms free) := by
  obtain ⟨hrc, hrs, hfr, hlo, hws, hcw, -, hini, -⟩ := cb
  exact vx_back (bytes := bytes) (maxL := maxL) (ret := ret) hM hbl hrc hrs hfr hlo hws hcw (fun a' U hW => word_at hW (Or.inl (by first | rfl | simp [Cond.onTables, Cond.keeps, Cond.steady])) hini)
theorem vx_runV (S : CallFix p m c cc nL s args Ts own) (hM : vx_Met l y ws rm Pc Qc XC mc ms free) (cw : CallW R s args own C index y bytes maxL ret ws rm mc ms n) (hp : PreV s H C b Pc As)
    (hg : g.method = m) (hn : As.length = n) (hsize : g.locals.size = nL) (hstack : g.stack = As.reverse ++ .ref b :: rest) (hW : 2 * g.monitorRoom + (rest.map fun v => v.category).sum ≤ 8) (hdg : decode cc g.pc = .ok (.invokevirtual index, 3)) (hf : cells + mc ≤ R.cells ∧ slots + ms ≤ R.slots) :
    vx_Run p l e R s m args below meth c H locs cells slots mc ms g rest (Qc (Value.ref b :: As).toArray) XC free := by
  have hK : vx_Back l R p e below s args y 3 8 (PreOf R mc ms Pc) (PostOf Qc mc ms free) (vx_Post XC mc ms free) := vx_callBack cw.1 hM hp.1
  obtain ⟨⟨-, -, -, -, -, -, hcode, -, hy, hlen, hl⟩, hin, hse⟩ := cw
  obtain ⟨hx, hb, hml, ho, -⟩ := S
  obtain ⟨-, ⟨cellB, hcB, hoB, hclB⟩, hPc⟩ := hp
  intro T hT X
  rcases vx_callV X hx (C := C) (bytes := bytes) (maxL := maxL) (ret := ret) ho hl hin hse hcode hy hK (by rw [hT]; exact hcB) hoB hclB hg (hsize.trans hml.symm) (argsL := As) (rest := rest) (fun sig h => hn.trans (hlen sig h)) hstack hW (by rw [hb]; exact hdg)
    (fun vm₁ hW₁ => ⟨hf.1, hf.2, hPc (T.setVm vm₁) hT hW₁⟩) with ⟨v, vm₁, ⟨U', l2, c2, s2⟩, hW₁, X', ⟨g', mk, t, L, e1, e2, hq, h1, hL, h2, h3⟩, st⟩ | ⟨q, vm₁, ⟨U', l2, c2, s2⟩, hW₁, X', ⟨g', mk, t, L, E, ce, e1, e2, hq, hce, hcv, hcl, h1, hL, h2, h3⟩, st⟩
  · dsimp only [Pt.U, Pt.locs, Pt.cells, Pt.slots] at X' e1 e2 h1 h2 h3 st
    subst h1; subst h2; subst h3
    exact Or.inl ⟨v, (T.setVm vm₁).calling g' mk (Value.ref b :: As).toArray, t, U', L, hT, X', hL, e1, e2, hq, st⟩
  · dsimp only [Pt.U, Pt.locs, Pt.cells, Pt.slots] at X' e1 e2 h1 h2 h3 st hcl
    subst h1; subst h2; subst h3
    exact Or.inr ⟨q, (T.setVm vm₁).calling g' mk (Value.ref b :: As).toArray, t, U', L, E, ce, hT, X', hL, e1, e2, hq, hce, hcv, vx_cls hW₁ hcl, st⟩
theorem vx_runS (S : CallFix p m c cc nL s args Ts own) (hM : vx_Met l y ws rm Pc Qc XC mc ms free) (cw : CallB R s args own index y bytes maxL ret ws rm mc ms n ∧ (Cond.static y).before args s = true) (hp : PreS s H Pc As)
    (hg : g.method = m) (hn : As.length = n) (hsize : g.locals.size = nL) (hstack : g.stack = As.reverse ++ rest) (hW : 2 * g.monitorRoom + (rest.map fun v => v.category).sum ≤ 8) (hdg : decode cc g.pc = .ok (.invokestatic index, 3)) (hf : cells + mc ≤ R.cells ∧ slots + ms ≤ R.slots) :
    vx_Run p l e R s m args below meth c H locs cells slots mc ms g rest (Qc As.toArray) XC free := by
  have hK : vx_Back l R p e below s args y 3 8 (PreOf R mc ms Pc) (PostOf Qc mc ms free) (vx_Post XC mc ms free) := vx_callBack cw.1 hM hp.1
  obtain ⟨⟨-, -, -, -, -, -, hcode, hini, hy, hlen, hl⟩, hstt⟩ := cw
  obtain ⟨hx, hb, hml, ho, -⟩ := S
  intro T hT X
  rcases vx_callS X hx (bytes := bytes) (maxL := maxL) (ret := ret) ho hl hstt hini hcode hy hK hg (hsize.trans hml.symm) (argsL := As) (rest := rest) (fun sig h => hn.trans (hlen sig h)) hstack hW (by rw [hb]; exact hdg)
    (fun vm₁ hW₁ => ⟨hf.1, hf.2, hp.2 (T.setVm vm₁) hT hW₁⟩) with ⟨v, vm₁, ⟨U', l2, c2, s2⟩, hW₁, X', ⟨g', mk, t, L, e1, e2, hq, h1, hL, h2, h3⟩, st⟩ | ⟨q, vm₁, ⟨U', l2, c2, s2⟩, hW₁, X', ⟨g', mk, t, L, E, ce, e1, e2, hq, hce, hcv, hcl, h1, hL, h2, h3⟩, st⟩
  · dsimp only [Pt.U, Pt.locs, Pt.cells, Pt.slots] at X' e1 e2 h1 h2 h3 st
    subst h1; subst h2; subst h3
    exact Or.inl ⟨v, (T.setVm vm₁).calling g' mk As.toArray, t, U', L, hT, X', hL, e1, e2, hq, st⟩
  · dsimp only [Pt.U, Pt.locs, Pt.cells, Pt.slots] at X' e1 e2 h1 h2 h3 st hcl
    subst h1; subst h2; subst h3
    exact Or.inr ⟨q, (T.setVm vm₁).calling g' mk As.toArray, t, U', L, E, ce, hT, X', hL, e1, e2, hq, hce, hcv, vx_cls hW₁ hcl, st⟩
end Runs
section Rows
variable {p : Program} {l : Launch} {e : Env} {R : Room} {s : State} {m : MethodId} {args : Array Value} {below : List Frame} {meth : Method} {c : Code} {H : Heap} {locs : List Loc} {cells slots : Nat} {Q : State → Prop}
variable {mc ms : Nat} {free : Addr → Prop} {A0 A1 : Nat → Prop} {H0 : Heap} {a : Array Value} {pc : Nat} {ls : Array Slot} {st0 rest : List Value}
theorem vx_keep {st₀ t T' : State} {L : List Loc} (h0 : st₀.heap = H) (e1 : T'.heap = t.heap) (hS : va_S A0 H0 H locs) (hA : ∀ q, q < H.size → A1 q → A0 q) (hf : ∀ q, free q → A0 q) (hL : ∀ q ∈ L, free q.base) (hF : va_F A1 st₀ t) :
    H.size ≤ T'.heap.size ∧ (∀ q : Nat, q < H.size → ¬ A1 q → T'.heap[q]? = H[q]?) ∧ va_S A0 H0 T'.heap (locs ++ L) := by
  obtain ⟨hz, hk⟩ := hF
  rw [h0] at hz hk
  exact ⟨by rw [e1]; exact hz, fun q h1 h2 => by rw [e1]; exact hk q h1 h2,
    ⟨Nat.le_trans hS.1 (by rw [e1]; exact hz), fun q h1 h2 => by rw [e1, hk q (Nat.lt_of_lt_of_le h1 hS.1) (fun z => h2 (hA q (Nat.lt_of_lt_of_le h1 hS.1) z))]; exact hS.2.1 q h1 h2, fun q hq => by
      rcases List.mem_append.mp hq with h | h
      · exact hS.2.2 q h
      · exact hf _ (hL q h)⟩⟩
theorem vx_calli {S SX : Type} {post : Int32 → S → Prop} {px : SX → Prop} {B : S → State → Prop} {BX : String → SX → State → Prop} {AX : Nat → Prop} (hr : vx_Run p l e R s m args below meth c H locs cells slots mc ms (F0 m pc ls st0) rest (va_Qi post B A1 a) (vx_X px BX AX) free) (hS : va_S A0 H0 H locs) (hA : ∀ q, q < H.size → A1 q → A0 q) (hf : ∀ q, free q → A0 q) (hAX : ∀ q, q < H.size → AX q → A0 q)
    (kx : ∀ (E : String) (ce : Cell) (q9 : Addr) (u : SX) (t : State) (H1 : Heap) (locs1 : List Loc), t.heap = H1 → s.vm.Alike t.vm → px u → BX E u t → H.size ≤ H1.size → (∀ q : Nat, q < H.size → ¬ AX q → H1[q]? = H[q]?) → va_S A0 H0 H1 locs1 → H1[q9]? = some ce → ce.vm = .none → s.vm.findClass E = some ce.cls → vx_W p l e R s m args below meth c H1 locs1 (cells + mc) (slots + ms) Q (F0 m pc ls rest) q9)
    (kk : ∀ (r : Int32) (u : S) (t : State) (H1 : Heap) (locs1 : List Loc), t.heap = H1 → s.vm.Alike t.vm → post r u → B u t → H.size ≤ H1.size → (∀ q : Nat, q < H.size → ¬ A1 q → H1[q]? = H[q]?) → va_S A0 H0 H1 locs1 → W p l e R s m args below meth c H1 locs1 (cells + mc) (slots + ms) Q (F0 m (pc + 3) ls (.int r :: rest))) : W p l e R s m args below meth c H locs cells slots Q (F0 m pc ls st0) := by
  intro T hT X
  rcases hr T hT X with ⟨v, st₀, t, T', L, h0, X', hL, e1, e2, ⟨⟨r, u, hv, hp, hb⟩, hF⟩, st⟩ | ⟨q, st₀, t, T', L, E, ce, h0, X', hL, e1, e2, ⟨u, hp, hb, hF⟩, hce, hcv, hcl, st⟩
  · cases hv
    obtain ⟨k1, k2, k3⟩ := vx_keep h0 e1 hS hA hf hL hF
    obtain ⟨t2, a1, b1⟩ := kk r u t T'.heap (locs ++ L) e1.symm (by rw [← e2]; exact X'.warmed.alike) hp hb k1 k2 k3 T' rfl X'
    exact ⟨t2, st t2 a1, b1⟩
  · obtain ⟨k1, k2, k3⟩ := vx_keep h0 e1 hS hAX hf hL hF
    obtain ⟨t2, a1, b1⟩ := kx E ce q u t T'.heap (locs ++ L) e1.symm (by rw [← e2]; exact X'.warmed.alike) hp hb k1 k2 k3 (by rw [e1]; exact hce) hcv hcl T' rfl X'
    exact ⟨t2, st.trans a1, b1⟩
theorem vx_calll {S SX : Type} {post : Int64 → S → Prop} {px : SX → Prop} {B : S → State → Prop} {BX : String → SX → State → Prop} {AX : Nat → Prop} (hr : vx_Run p l e R s m args below meth c H locs cells slots mc ms (F0 m pc ls st0) rest (va_Ql post B A1 a) (vx_X px BX AX) free) (hS : va_S A0 H0 H locs) (hA : ∀ q, q < H.size → A1 q → A0 q) (hf : ∀ q, free q → A0 q) (hAX : ∀ q, q < H.size → AX q → A0 q)
    (kx : ∀ (E : String) (ce : Cell) (q9 : Addr) (u : SX) (t : State) (H1 : Heap) (locs1 : List Loc), t.heap = H1 → s.vm.Alike t.vm → px u → BX E u t → H.size ≤ H1.size → (∀ q : Nat, q < H.size → ¬ AX q → H1[q]? = H[q]?) → va_S A0 H0 H1 locs1 → H1[q9]? = some ce → ce.vm = .none → s.vm.findClass E = some ce.cls → vx_W p l e R s m args below meth c H1 locs1 (cells + mc) (slots + ms) Q (F0 m pc ls rest) q9)
    (kk : ∀ (r : Int64) (u : S) (t : State) (H1 : Heap) (locs1 : List Loc), t.heap = H1 → s.vm.Alike t.vm → post r u → B u t → H.size ≤ H1.size → (∀ q : Nat, q < H.size → ¬ A1 q → H1[q]? = H[q]?) → va_S A0 H0 H1 locs1 → W p l e R s m args below meth c H1 locs1 (cells + mc) (slots + ms) Q (F0 m (pc + 3) ls (.long r :: rest))) : W p l e R s m args below meth c H locs cells slots Q (F0 m pc ls st0) := by
  intro T hT X
  rcases hr T hT X with ⟨v, st₀, t, T', L, h0, X', hL, e1, e2, ⟨⟨r, u, hv, hp, hb⟩, hF⟩, st⟩ | ⟨q, st₀, t, T', L, E, ce, h0, X', hL, e1, e2, ⟨u, hp, hb, hF⟩, hce, hcv, hcl, st⟩
  · cases hv
    obtain ⟨k1, k2, k3⟩ := vx_keep h0 e1 hS hA hf hL hF
    obtain ⟨t2, a1, b1⟩ := kk r u t T'.heap (locs ++ L) e1.symm (by rw [← e2]; exact X'.warmed.alike) hp hb k1 k2 k3 T' rfl X'
    exact ⟨t2, st t2 a1, b1⟩
  · obtain ⟨k1, k2, k3⟩ := vx_keep h0 e1 hS hAX hf hL hF
    obtain ⟨t2, a1, b1⟩ := kx E ce q u t T'.heap (locs ++ L) e1.symm (by rw [← e2]; exact X'.warmed.alike) hp hb k1 k2 k3 (by rw [e1]; exact hce) hcv hcl T' rfl X'
    exact ⟨t2, st.trans a1, b1⟩
theorem vx_callf {S SX : Type} {post : UInt32 → S → Prop} {px : SX → Prop} {B : S → State → Prop} {BX : String → SX → State → Prop} {AX : Nat → Prop} (hr : vx_Run p l e R s m args below meth c H locs cells slots mc ms (F0 m pc ls st0) rest (va_Qf post B A1 a) (vx_X px BX AX) free) (hS : va_S A0 H0 H locs) (hA : ∀ q, q < H.size → A1 q → A0 q) (hf : ∀ q, free q → A0 q) (hAX : ∀ q, q < H.size → AX q → A0 q)
    (kx : ∀ (E : String) (ce : Cell) (q9 : Addr) (u : SX) (t : State) (H1 : Heap) (locs1 : List Loc), t.heap = H1 → s.vm.Alike t.vm → px u → BX E u t → H.size ≤ H1.size → (∀ q : Nat, q < H.size → ¬ AX q → H1[q]? = H[q]?) → va_S A0 H0 H1 locs1 → H1[q9]? = some ce → ce.vm = .none → s.vm.findClass E = some ce.cls → vx_W p l e R s m args below meth c H1 locs1 (cells + mc) (slots + ms) Q (F0 m pc ls rest) q9)
    (kk : ∀ (r : UInt32) (u : S) (t : State) (H1 : Heap) (locs1 : List Loc), t.heap = H1 → s.vm.Alike t.vm → post r u → B u t → H.size ≤ H1.size → (∀ q : Nat, q < H.size → ¬ A1 q → H1[q]? = H[q]?) → va_S A0 H0 H1 locs1 → W p l e R s m args below meth c H1 locs1 (cells + mc) (slots + ms) Q (F0 m (pc + 3) ls (.float r :: rest))) : W p l e R s m args below meth c H locs cells slots Q (F0 m pc ls st0) := by
  intro T hT X
  rcases hr T hT X with ⟨v, st₀, t, T', L, h0, X', hL, e1, e2, ⟨⟨r, u, hv, hp, hb⟩, hF⟩, st⟩ | ⟨q, st₀, t, T', L, E, ce, h0, X', hL, e1, e2, ⟨u, hp, hb, hF⟩, hce, hcv, hcl, st⟩
  · cases hv
    obtain ⟨k1, k2, k3⟩ := vx_keep h0 e1 hS hA hf hL hF
    obtain ⟨t2, a1, b1⟩ := kk r u t T'.heap (locs ++ L) e1.symm (by rw [← e2]; exact X'.warmed.alike) hp hb k1 k2 k3 T' rfl X'
    exact ⟨t2, st t2 a1, b1⟩
  · obtain ⟨k1, k2, k3⟩ := vx_keep h0 e1 hS hAX hf hL hF
    obtain ⟨t2, a1, b1⟩ := kx E ce q u t T'.heap (locs ++ L) e1.symm (by rw [← e2]; exact X'.warmed.alike) hp hb k1 k2 k3 (by rw [e1]; exact hce) hcv hcl T' rfl X'
    exact ⟨t2, st.trans a1, b1⟩
theorem vx_calld {S SX : Type} {post : UInt64 → S → Prop} {px : SX → Prop} {B : S → State → Prop} {BX : String → SX → State → Prop} {AX : Nat → Prop} (hr : vx_Run p l e R s m args below meth c H locs cells slots mc ms (F0 m pc ls st0) rest (va_Qd post B A1 a) (vx_X px BX AX) free) (hS : va_S A0 H0 H locs) (hA : ∀ q, q < H.size → A1 q → A0 q) (hf : ∀ q, free q → A0 q) (hAX : ∀ q, q < H.size → AX q → A0 q)
    (kx : ∀ (E : String) (ce : Cell) (q9 : Addr) (u : SX) (t : State) (H1 : Heap) (locs1 : List Loc), t.heap = H1 → s.vm.Alike t.vm → px u → BX E u t → H.size ≤ H1.size → (∀ q : Nat, q < H.size → ¬ AX q → H1[q]? = H[q]?) → va_S A0 H0 H1 locs1 → H1[q9]? = some ce → ce.vm = .none → s.vm.findClass E = some ce.cls → vx_W p l e R s m args below meth c H1 locs1 (cells + mc) (slots + ms) Q (F0 m pc ls rest) q9)
    (kk : ∀ (r : UInt64) (u : S) (t : State) (H1 : Heap) (locs1 : List Loc), t.heap = H1 → s.vm.Alike t.vm → post r u → B u t → H.size ≤ H1.size → (∀ q : Nat, q < H.size → ¬ A1 q → H1[q]? = H[q]?) → va_S A0 H0 H1 locs1 → W p l e R s m args below meth c H1 locs1 (cells + mc) (slots + ms) Q (F0 m (pc + 3) ls (.double r :: rest))) : W p l e R s m args below meth c H locs cells slots Q (F0 m pc ls st0) := by
  intro T hT X
  rcases hr T hT X with ⟨v, st₀, t, T', L, h0, X', hL, e1, e2, ⟨⟨r, u, hv, hp, hb⟩, hF⟩, st⟩ | ⟨q, st₀, t, T', L, E, ce, h0, X', hL, e1, e2, ⟨u, hp, hb, hF⟩, hce, hcv, hcl, st⟩
  · cases hv
    obtain ⟨k1, k2, k3⟩ := vx_keep h0 e1 hS hA hf hL hF
    obtain ⟨t2, a1, b1⟩ := kk r u t T'.heap (locs ++ L) e1.symm (by rw [← e2]; exact X'.warmed.alike) hp hb k1 k2 k3 T' rfl X'
    exact ⟨t2, st t2 a1, b1⟩
  · obtain ⟨k1, k2, k3⟩ := vx_keep h0 e1 hS hAX hf hL hF
    obtain ⟨t2, a1, b1⟩ := kx E ce q u t T'.heap (locs ++ L) e1.symm (by rw [← e2]; exact X'.warmed.alike) hp hb k1 k2 k3 (by rw [e1]; exact hce) hcv hcl T' rfl X'
    exact ⟨t2, st.trans a1, b1⟩
theorem vx_callv {S SX : Type} {post : S → Prop} {px : SX → Prop} {B : S → State → Prop} {BX : String → SX → State → Prop} {AX : Nat → Prop} (hr : vx_Run p l e R s m args below meth c H locs cells slots mc ms (F0 m pc ls st0) rest (va_Qv post B A1 a) (vx_X px BX AX) free) (hS : va_S A0 H0 H locs) (hA : ∀ q, q < H.size → A1 q → A0 q) (hf : ∀ q, free q → A0 q) (hAX : ∀ q, q < H.size → AX q → A0 q)
    (kx : ∀ (E : String) (ce : Cell) (q9 : Addr) (u : SX) (t : State) (H1 : Heap) (locs1 : List Loc), t.heap = H1 → s.vm.Alike t.vm → px u → BX E u t → H.size ≤ H1.size → (∀ q : Nat, q < H.size → ¬ AX q → H1[q]? = H[q]?) → va_S A0 H0 H1 locs1 → H1[q9]? = some ce → ce.vm = .none → s.vm.findClass E = some ce.cls → vx_W p l e R s m args below meth c H1 locs1 (cells + mc) (slots + ms) Q (F0 m pc ls rest) q9)
    (kk : ∀ (u : S) (t : State) (H1 : Heap) (locs1 : List Loc), t.heap = H1 → s.vm.Alike t.vm → post u → B u t → H.size ≤ H1.size → (∀ q : Nat, q < H.size → ¬ A1 q → H1[q]? = H[q]?) → va_S A0 H0 H1 locs1 → W p l e R s m args below meth c H1 locs1 (cells + mc) (slots + ms) Q (F0 m (pc + 3) ls (rest))) : W p l e R s m args below meth c H locs cells slots Q (F0 m pc ls st0) := by
  intro T hT X
  rcases hr T hT X with ⟨v, st₀, t, T', L, h0, X', hL, e1, e2, ⟨⟨u, hv, hp, hb⟩, hF⟩, st⟩ | ⟨q, st₀, t, T', L, E, ce, h0, X', hL, e1, e2, ⟨u, hp, hb, hF⟩, hce, hcv, hcl, st⟩
  · cases hv
    obtain ⟨k1, k2, k3⟩ := vx_keep h0 e1 hS hA hf hL hF
    obtain ⟨t2, a1, b1⟩ := kk u t T'.heap (locs ++ L) e1.symm (by rw [← e2]; exact X'.warmed.alike) hp hb k1 k2 k3 T' rfl X'
    exact ⟨t2, st t2 a1, b1⟩
  · obtain ⟨k1, k2, k3⟩ := vx_keep h0 e1 hS hAX hf hL hF
    obtain ⟨t2, a1, b1⟩ := kx E ce q u t T'.heap (locs ++ L) e1.symm (by rw [← e2]; exact X'.warmed.alike) hp hb k1 k2 k3 (by rw [e1]; exact hce) hcv hcl T' rfl X'
    exact ⟨t2, st.trans a1, b1⟩
/-- caught by the row x of this method's table; the rows ahead don't take it -/
theorem vx_catch {own name : String} {E : String} {ce : Cell} {q : Addr} (hown : s.vm.findClass own = some m.cls) (pre : List ExceptionTableEntry) (x : ExceptionTableEntry) (suf : List ExceptionTableEntry) (hsplit : c.exceptionTable.toList = pre ++ x :: suf)
    (hpass : ∀ z ∈ pre, covers z pc = false ∨ (z.catchType ≠ 0 ∧ ∃ nm : String, (Cond.classLink own z.catchType nm).before args s = true ∧ va_Nc E nm s)) (hx : covers x pc = true) (h0 : x.catchType ≠ 0)
    (hlink : (Cond.classLink own x.catchType name).before args s = true) (hcast : (Cond.castable E name).before args s = true) (hcell : H[q]? = some ce) (hv : ce.vm = .none) (hcl : s.vm.findClass E = some ce.cls)
    (kk : W p l e R s m args below meth c H locs cells slots Q (F0 m x.handlerPc ls [.ref q])) : vx_W p l e R s m args below meth c H locs cells slots Q (F0 m pc ls rest) q := by
  intro T hT X
  have hpl : e.platform.magicAccessors = ({} : Platform).magicAccessors := by rw [X.admits.platform]
  obtain ⟨c3, c4, hc3, hc4, hasg⟩ := Cond.castable_spec hcast
  cases Option.some.inj (hc3.symm.trans hcl)
  obtain ⟨c5, hc5, hcl5⟩ := Cond.classLink_spec hown hlink e.platform hpl
  cases Option.some.inj (hc4.symm.trans hc5)
  obtain ⟨vm', X', st⟩ := X.thenCaughtThrough q (g := F0 m pc ls rest) rfl (Steps.refl _) (by rw [hT]; exact hcell) (by rw [hv]; rfl) (by obtain ⟨k9, h9, -⟩ := Vm.findClass_spec hcl; exact ⟨k9, h9⟩) pre x suf hsplit
    (fun z hz => by
      rcases hpass z hz with h | ⟨hz0, nm, hl1, hn1⟩
      · exact Or.inl h
      · obtain ⟨c6, hc6, hcl6⟩ := Cond.classLink_spec hown hl1 e.platform hpl
        obtain ⟨a8, b8, h1, h2, h3⟩ := hn1
        cases Option.some.inj (h1.symm.trans hcl)
        cases Option.some.inj (h2.symm.trans hc6)
        exact Or.inr ⟨hz0, _, hcl6, h3⟩) hx (Or.inr ⟨h0, c4, hcl5, hasg⟩)
  obtain ⟨t, a1, b1⟩ := kk (T.setVm vm') hT X'
  exact ⟨t, st.trans a1, b1⟩
end Rows
section Ends
variable {p : Program} {l : Launch} {e : Env} {R : Room} {s : State} {m : MethodId} {args : Array Value} {below : List Frame} {meth : Method} {c : Code} {H : Heap} {locs : List Loc} {cells slots : Nat} {Q : State → Prop}
variable {mc ms : Nat} {free : Addr → Prop} {A0 A1 : Nat → Prop} {H0 : Heap} {a : Array Value} {ls : Array Slot} {st0 rest : List Value}
variable {Qc : Array Value → State → Outcome → State → Prop} {XC : String → State → State → Prop}
/-- what a body that may throw owes at its end -/
def vx_MQ (below : List Frame) (Qc : Array Value → State → Outcome → State → Prop) (XC : String → State → State → Prop) (a : Array Value) (s : State) (mc ms : Nat) (free : Addr → Prop) : State → Prop := fun t =>
  ∃ o, t.status = .running ∧ Ended t below o ∧ vx_Q Qc XC mc ms free a s o t
theorem vx_ret {g : JFrame} {mc ms : Nat} (k : W p l e R s m args below meth c H locs cells slots (MQ below Qc args s mc ms free) g) : W p l e R s m args below meth c H locs cells slots (vx_MQ below Qc XC args s mc ms free) g := by
  intro T hT X
  obtain ⟨t, a1, o, b1, b2, b3, b4⟩ := k T hT X
  exact ⟨t, a1, o, b1, b2, Or.inl ⟨b3, b4⟩⟩
/-- not caught here: it goes on to the caller -/
theorem vx_widen {g : JFrame} {q : Addr} {k n : Nat} (h1 : cells ≤ k) (h2 : slots ≤ n) (kk : vx_W p l e R s m args below meth c H locs k n Q g q) : vx_W p l e R s m args below meth c H locs cells slots Q g q := fun T hT X => kk T hT (stand_widen X h1 h2)
theorem vx_out {pc : Nat} {E : String} {ce : Cell} {q : Addr} {mc ms : Nat} (hout : ∀ x ∈ c.exceptionTable.toList, covers x pc = false) (hlocks : meth.locks = false) (hcell : H[q]? = some ce) (hv : ce.vm = .none) (hcl : s.vm.findClass E = some ce.cls)
    (hx : ∀ t : State, t.heap = H → s.vm.Alike t.vm → XC E s t) (hf : ∀ z ∈ locs, free z.base) (hc : cells ≤ mc) (hs : slots ≤ ms) :
    vx_W p l e R s m args below meth c H locs cells slots (vx_MQ below Qc XC args s mc ms free) (F0 m pc ls rest) q := by
  intro T hT X
  obtain ⟨st1, hrun, hend, hW, hsm⟩ := X.leaveThrown q (g := F0 m pc ls rest) rfl rfl rfl hout hlocks
  have hcell9 : (T.setFrames (.throwing q :: below)).heap[q]? = some ce := by
    show T.heap[q]? = some ce
    rw [hT]; exact hcell
  exact ⟨_, st1, .threw q, hrun, hend, Or.inr ⟨q, rfl, E, ce, locs, hx _ hT hW.alike, hcell9, hv, hcl, hW, hsm.mono hc hs, hf⟩⟩
theorem vx_frame {U : State} {k n : Nat} (h : s.sameButNew ({ U with vm := s.vm } : State) locs k n) : s.heap.size ≤ U.heap.size ∧ ∀ q : Nat, q < s.heap.size → (∀ z ∈ locs, z.base ≠ q) → U.heap[q]? = s.heap[q]? := by
  obtain ⟨-, h2, -, -, -, h6⟩ := h
  refine ⟨h2, fun q hq hz => ?_⟩
  obtain ⟨c9, e1, e2, e3, e4⟩ := h6 q _ (Array.getElem?_eq_getElem hq)
  have hs : c9.slots = (s.heap[q]).slots := Array.ext_getElem? fun i => e4 i fun hm => hz _ hm rfl
  have h9 : c9 = s.heap[q] := by
    rw [hs] at e2
    exact e2
  have e5 : U.heap[q]? = some c9 := e1
  rw [e5, h9, Array.getElem?_eq_getElem hq]
/-- the words of a throw but the four that speak of the heap -/
def vx_no (w : Cond) : Bool := decide (w ≠ .isRef (.static Bundle.tN "UNASSIGNED_STACK" Bundle.steD)) && decide (w ≠ .isRef (.static Bundle.tN "SUPPRESSED_SENTINEL" Bundle.listD)) && decide (w ≠ .laysStatic Bundle.tN "UNASSIGNED_STACK" Bundle.steD) && decide (w ≠ .laysStatic Bundle.tN "SUPPRESSED_SENTINEL" Bundle.listD)
def vx_at0 (own : String) (ic : Nat) (X : String) (names : List String) : List Cond := (Bundle.ownAtoms0 own ic X names).filter vx_no
def vx_atS (own : String) (ic : Nat) (X : String) (names : List String) : List Cond := (Bundle.ownAtoms own ic X names).filter vx_no
/-- a word that the tables alone decide, or a good one -/
def vx_ot (w : Cond) : Bool := w.onTables || goodWord w
theorem vx_ot_at {args a' : Array Value} {s U : State} {w : Cond} (hW : s.WarmedH U.vm) (hvm : s.vm = U.vm) (hg : vx_ot w = true) (h : w.before args s = true) : w.before a' U = true := by
  simp only [vx_ot, Bool.or_eq_true] at hg
  rcases hg with hg | hg
  · exact va_tabs hg hvm h
  · exact word_at hW (good_of_word hg) h
/-- a list's words: the good ones out of the method's own list, the others by premises of their own -/
theorem vx_hat {args : Array Value} {s : State} {L B : List Cond} (h1 : ∀ w ∈ L.filter goodWord, w.before args s = true) (h2 : ∀ w ∈ L.filter (fun w => !goodWord w), w ∈ B) (h3 : ∀ w ∈ B, w.before args s = true) : ∀ w ∈ L, w.before args s = true := by
  intro w hw
  by_cases g : goodWord w = true
  · exact h1 w (List.mem_filter.mpr ⟨hw, g⟩)
  · refine h3 w (h2 w (List.mem_filter.mpr ⟨hw, ?_⟩))
    show (!goodWord w) = true
    cases hgw : goodWord w
    · rfl
    · exact absurd hgw g
theorem vx_c {args : Array Value} {s : State} {w : Cond} {B : List Cond} (h : w.before args s = true) (t : ∀ w ∈ B, w.before args s = true) : ∀ w' ∈ w :: B, w'.before args s = true := fun w' h' => (List.mem_cons.mp h').elim (fun e => by rw [e]; exact h) (t w')
theorem vx_n {args : Array Value} {s : State} : ∀ w ∈ ([] : List Cond), w.before args s = true := fun _ h => nomatch h
theorem vx_own {args : Array Value} {s : State} {L : List Cond} (h1 : ∀ w ∈ L.filter vx_no, w.before args s = true)
    (hU : (Cond.isRef (.static Bundle.tN "UNASSIGNED_STACK" Bundle.steD)).before args s = true) (hN : (Cond.isRef (.static Bundle.tN "SUPPRESSED_SENTINEL" Bundle.listD)).before args s = true)
    (lU : (Cond.laysStatic Bundle.tN "UNASSIGNED_STACK" Bundle.steD).before args s = true) (lN : (Cond.laysStatic Bundle.tN "SUPPRESSED_SENTINEL" Bundle.listD).before args s = true) : ∀ w ∈ L, w.before args s = true := by
  intro w hw
  by_cases e1 : w = .isRef (.static Bundle.tN "UNASSIGNED_STACK" Bundle.steD)
  · rw [e1]; exact hU
  · by_cases e2 : w = .isRef (.static Bundle.tN "SUPPRESSED_SENTINEL" Bundle.listD)
    · rw [e2]; exact hN
    · by_cases e3 : w = .laysStatic Bundle.tN "UNASSIGNED_STACK" Bundle.steD
      · rw [e3]; exact lU
      · by_cases e4 : w = .laysStatic Bundle.tN "SUPPRESSED_SENTINEL" Bundle.listD
        · rw [e4]; exact lN
        · exact h1 w (List.mem_filter.mpr ⟨hw, by unfold vx_no; rw [decide_eq_true e1, decide_eq_true e2, decide_eq_true e3, decide_eq_true e4]; rfl⟩)
/-- where a static field lies, its class's statics cell in H -/
def vx_L (C n d : String) (A : Nat → Prop) (U : State) (H : Heap) : Prop := ∃ (c : ClassId) (k : Class) (i : Nat) (f : Field) (a : Nat) (cell : Cell), U.vm.findClass C = some c ∧ U.fieldFound? C n d = some (c, k, i, f) ∧ f.isStatic = true ∧ k.statics = some a ∧ H[a]? = some cell ∧ cell.vm.isStatics = true ∧ cell.cls = c ∧ f.slot < cell.slots.size ∧ k.staticTypes[f.slot]? = some f.type ∧ ¬ A a
theorem vx_L.moved {C n d : String} {A : Nat → Prop} {u U : State} {H : Heap} (hvm : u.vm.Alike U.vm) (h : vx_L C n d A u H) : vx_L C n d A U H := by
  obtain ⟨c, k, i, f, a, cell, h1, h2, h3, h4, h5, h6, h7, h8, h9, h10⟩ := h
  obtain ⟨k', hi', he⟩ := State.fieldFound?_setVm hvm h2
  exact ⟨c, k', i, f, a, cell, by rw [hvm.findClass]; exact h1, hi', h3, by rw [he]; exact h4, h5, h6, h7, h8, by rw [he]; exact h9, h10⟩
theorem vx_L.kept {C n d : String} {A : Nat → Prop} {U : State} {H H1 : Heap} (h : vx_L C n d A U H) (hq : ∀ a : Nat, a < H.size → ¬ A a → H1[a]? = H[a]?) : vx_L C n d A U H1 := by
  obtain ⟨c, k, i, f, a, cell, h1, h2, h3, h4, h5, h6, h7, h8, h9, h10⟩ := h
  exact ⟨c, k, i, f, a, cell, h1, h2, h3, h4, by rw [hq a (Array.getElem?_eq_some_iff.mp h5).1 h10]; exact h5, h6, h7, h8, h9, h10⟩
theorem vx_L.narrow {C n d : String} {A B : Nat → Prop} {U : State} {H : Heap} (h : vx_L C n d A U H) (hAB : ∀ q, B q → A q) : vx_L C n d B U H := by
  obtain ⟨c, k, i, f, a, cell, h1, h2, h3, h4, h5, h6, h7, h8, h9, h10⟩ := h
  exact ⟨c, k, i, f, a, cell, h1, h2, h3, h4, h5, h6, h7, h8, h9, fun z => h10 (hAB _ z)⟩
theorem vx_L.word {C n d : String} {A : Nat → Prop} {s : State} {args : Array Value} (h : vx_L C n d A s s.heap) : (Cond.laysStatic C n d).before args s = true := by
  obtain ⟨c, k, i, f, a, cell, h1, h2, h3, h4, h5, h6, h7, h8, h9, -⟩ := h
  show (Cond.laysStatic C n d).holds args s none s [] = true
  exact Cond.laysStatic_of h1 h2 h3 h4 h5 h6 h7 h8 h9
/-- .. and what it holds: null or some reference -/
def vx_Zq (C n d : String) (A : Nat → Prop) (U : State) (H : Heap) : Prop := va_Zq C n d A U H ∧ vx_L C n d A U H
theorem vx_Zq.moved {C n d : String} {A : Nat → Prop} {u U : State} {H : Heap} (hvm : u.vm.Alike U.vm) (h : vx_Zq C n d A u H) : vx_Zq C n d A U H := ⟨va_Zq.moved hvm h.1, vx_L.moved hvm h.2⟩
theorem vx_Zq.kept {C n d : String} {A : Nat → Prop} {U : State} {H H1 : Heap} (h : vx_Zq C n d A U H) (hq : ∀ a : Nat, a < H.size → ¬ A a → H1[a]? = H[a]?) : vx_Zq C n d A U H1 := ⟨va_Zq.kept h.1 hq, vx_L.kept h.2 hq⟩
theorem vx_Zq.narrow {C n d : String} {A B : Nat → Prop} {U : State} {H : Heap} (h : vx_Zq C n d A U H) (hAB : ∀ q, B q → A q) : vx_Zq C n d B U H := ⟨va_Zq.narrow h.1 hAB, vx_L.narrow h.2 hAB⟩
theorem vx_Zqof {args : Array Value} {s : State} {C n d : String} {A : Nat → Prop} (hl : (Cond.laysStatic C n d).before args s = true) (hini : (Cond.initialized C).before args s = true) (h : (Cond.isRef (.static C n d)).before args s = true) (hA : ∀ a : Nat, a < s.heap.size → ¬ A a) : vx_Zq C n d A s s.heap := by
  refine ⟨va_Zqof hl hini h hA, ?_⟩
  obtain ⟨c, k, i, f, a, cell, h1, h2, h3, h4, h5, h6, h7, h8, h9⟩ := Cond.laysStatic_spec hl
  exact ⟨c, k, i, f, a, cell, h1, h2, h3, h4, h5, h6, h7, h8, h9, hA a (Array.getElem?_eq_some_iff.mp h5).1⟩
theorem vx_isRef {C n d : String} {v : Value} {A : Nat → Prop} {s : State} {args : Array Value} (h : va_Z C n d v A s s.heap) (hv : v.isRef = true) : (Cond.isRef (.static C n d)).before args s = true := by
  obtain ⟨cf, kf, fi, f, a, cell, h1, h2, h3, h4, h5, h6, h7, -⟩ := h
  have he : (Term.static C n d).eval args s none [] s = some v := by
    simp [Term.eval, State.fieldNamed?, h1, h2, h4, h5, h6, h7]
  simp only [Cond.before, Cond.holds, Cond.value, he]
  cases v <;> simp_all [Value.isRef]
theorem vx_isRefq {C n d : String} {A : Nat → Prop} {s : State} {args : Array Value} (h : va_Zq C n d A s s.heap) : (Cond.isRef (.static C n d)).before args s = true := by
  rcases h with h | ⟨t, h⟩
  · exact vx_isRef h rfl
  · exact vx_isRef h rfl
/-- the same frame, seen from here: as if the method were called anew in this heap -/
theorem vx_rebase {T : State} (X : Stand p l e R s m args below meth c T locs cells slots) {R' : Room} (hf : R'.frames ≤ R.frames) (hl : R'.locals ≤ R.locals) (hc : cells + R'.cells ≤ R.cells) (hs : slots + R'.slots ≤ R.slots) :
    Stand p l e R' ((T.setVm s.vm).setFrames (.invoking m args :: below)) m args below meth c T [] 0 0 := by
  have htop : (T.setVm s.vm).topJava?.isSome := X.here.top
  have hF : ((T.setVm s.vm).setFrames (.invoking m args :: below)).frames = .invoking m args :: below := State.frames_setFrames _ (State.cur_lt_of_top htop)
  obtain ⟨g₀, hg0⟩ := Option.isSome_iff_exists.mp htop
  obtain ⟨r, hr⟩ := State.topJava?_eq_some.mp hg0
  have hl9 : e.platform.stackLimits (T.setVm s.vm).me = e.platform.stackLimits s.me := X.limits
  have hb9 : (T.setVm s.vm).me.stackBytes = s.me.stackBytes := X.bytes
  refine ⟨X.admits, X.cas, X.clock, hF, ?_, X.hears, X.method, X.code, X.here, X.tail, X.warmed, ?_, ?_, ?_⟩
  · have h := X.room
    have hU : ((T.setVm s.vm).setFrames (.invoking m args :: below)).localsInUse = s.localsInUse := by
      rw [State.localsInUse_invoking hF (meth := meth) (c := c) X.method X.code, State.localsInUse_invoking X.frames X.method X.code]
    simp only [State.hasRoom, Bool.and_eq_true, decide_eq_true_eq] at h ⊢
    obtain ⟨⟨⟨⟨h1, h2, h3, h4, h5, h6⟩, h7⟩, h8⟩, h9⟩ := h
    rw [X.frames, List.length_cons] at h2 h3
    have q1 := X.heapSize
    have q2 := X.used
    simp only [hF, hU, List.length_cons, State.stackLimits_setFrames, State.stackBytes_setFrames, hl9, hb9]
    refine ⟨⟨⟨⟨by omega, by omega, by omega, by omega, by omega, h6⟩, ?_⟩, ?_⟩, X.book⟩
    · show T.heap.size + R'.cells ≤ e.platform.maxCells
      omega
    · show T.slotsUsed + R'.slots ≤ e.platform.maxSlots
      omega
  · rw [State.stackLimits_setFrames]; rfl
  · rw [State.stackBytes_setFrames]; rfl
  · refine ⟨?_, Nat.le_refl _, Nat.le_refl _, ?_, ?_, fun a c9 h9 => ⟨c9, h9, rfl, rfl, fun _ _ => rfl⟩⟩
    · obtain ⟨t, ht, -⟩ := State.frames_cons hr
      show T.setVm s.vm = { ((T.setVm s.vm).setFrames (.invoking m args :: below)).setFrames (T.setVm s.vm).frames with heap := T.heap, slotsUsed := T.slotsUsed }
      rw [State.setFrames_setFrames, State.setFrames_self ht]
      rfl
    · show T.slotsUsed = T.slotsUsed + ((T.heap.toList.drop T.heap.size).map (·.slots.size)).sum
      rw [List.drop_eq_nil_of_le (Nat.le_of_eq Array.length_toList)]
      rfl
    · show ((T.heap.toList.drop T.heap.size).map (·.slots.size)).sum ≤ 0
      rw [List.drop_eq_nil_of_le (Nat.le_of_eq Array.length_toList)]
      exact Nat.le_refl _
/-- 'throw new E()': new; dup; invokespecial; athrow -/
theorem vx_throw0 {cc : ByteArray} {pc : Nat} (hexec : p.tables.exec = Jvm.exec) (hb : c.code = cc) (hl : l.stackTraces = false) {own cls : String} {names : List String} {ik ic mc ms : Nat} {A : Nat → Prop}
    (hown : s.vm.findClass own = some m.cls) (hcls : Bundle.fit cls = true) (hnames : ∀ n ∈ names, Bundle.fit n = true)
    (hk : (Cond.classLink own ik cls).before args s = true) (hini : (Cond.initialized cls).before args s = true) (hat : ∀ w ∈ vx_at0 own ic cls names, w.before args s = true)
    (hgood : ∀ w ∈ Cond.classLink own ik cls :: Cond.initialized cls :: vx_at0 own ic cls names, vx_ot w = true)
    (hU : vx_Zq Bundle.tN "UNASSIGNED_STACK" Bundle.steD A s s.heap) (hN : vx_Zq Bundle.tN "SUPPRESSED_SENTINEL" Bundle.listD A s s.heap) (hS : va_S A s.heap H locs) (hsize : ls.size = c.maxLocals)
    (d0 : decode cc pc = .ok (.new ik, 3)) (d3 : decode cc (pc + 3) = .ok (.dup, 1)) (d4 : decode cc (pc + 4) = .ok (.invokespecial ic, 3)) (d7 : decode cc (pc + 7) = .ok (.athrow, 1))
    (hout : ∀ x ∈ c.exceptionTable.toList, covers x (pc + 7) = false)
    (hRframes : names.length + 3 < R.frames) (hRlocals : (rest.map fun v => v.category).sum + (13 * (names.length + 1) + 42) ≤ R.locals) (hRcells : cells + 1 ≤ R.cells) (hRslots : slots + 6 ≤ R.slots) (hlocks : meth.locks = false)
    (hx : ∀ t : State, s.vm.Alike t.vm → H.size ≤ t.heap.size → (∀ q : Nat, q < H.size → t.heap[q]? = H[q]?) → XC cls s t)
    (hf : ∀ z ∈ locs, free z.base) (hc : cells + 1 ≤ mc) (hs : slots + 6 ≤ ms) :
    W p l e R s m args below meth c H locs cells slots (vx_MQ below Qc XC args s mc ms free) (F0 m pc ls rest) := by
  intro T hT X
  have htr : e.platform.stackTraces = false := (show e.platform.stackTraces = l.stackTraces by rw [X.admits.platform]).trans hl
  have Y := vx_rebase X (R' := { frames := R.frames, locals := R.locals, cells := 1, slots := 6 }) (Nat.le_refl _) (Nat.le_refl _) hRcells hRslots
  obtain ⟨s', hA⟩ : ∃ z, z = (T.setVm s.vm).setFrames (.invoking m args :: below) := ⟨_, rfl⟩
  rw [← hA] at Y
  have hvm : s'.vm = s.vm := by rw [hA]; rfl
  have hhp : s'.heap = H := by rw [hA]; exact hT
  have hW0 : s.WarmedH s'.vm := by rw [hvm]; exact State.WarmedH.refl s
  have hat' : ∀ w ∈ vx_at0 own ic cls names, w.before args s' = true := fun w hw => vx_ot_at hW0 hvm.symm (hgood w (List.mem_cons_of_mem _ (List.mem_cons_of_mem _ hw))) (hat w hw)
  have hk' : (Cond.classLink own ik cls).before args s' = true := vx_ot_at hW0 hvm.symm (hgood _ List.mem_cons_self) hk
  have hini' : (Cond.initialized cls).before args s' = true := vx_ot_at hW0 hvm.symm (hgood _ (List.mem_cons_of_mem _ List.mem_cons_self)) hini
  have hU' : vx_Zq Bundle.tN "UNASSIGNED_STACK" Bundle.steD A s' s'.heap := by rw [hhp]; exact vx_Zq.moved hW0.alike (hU.kept hS.2.1)
  have hN' : vx_Zq Bundle.tN "SUPPRESSED_SENTINEL" Bundle.listD A s' s'.heap := by rw [hhp]; exact vx_Zq.moved hW0.alike (hN.kept hS.2.1)
  have h : ∀ w ∈ Bundle.ownAtoms0 own ic cls names, w.before args s' = true := vx_own hat' (vx_isRefq hU'.1) (vx_isRefq hN'.1) hU'.2.word hN'.2.word
  have hown' : s'.vm.findClass own = some m.cls := by rw [hvm]; exact hown
  have hins : (Cond.instantiable cls 6).before args s' = true := h _ (by simp [Bundle.ownAtoms0])
  obtain ⟨vm₁, cX, kX, hfX, hkX, -, -, X₁, st1⟩ := Y.newCold hexec (own := own) (C := cls) (index := ik) (n := 6) hown' hk' hins hini'
    (g := F0 m pc ls rest) rfl (by rw [hb]; exact d0) (Nat.le_refl _) (Nat.le_refl _)
  generalize hT1 : (T.setVm vm₁).pushCell { cls := cX, slots := kX.instanceTypes.map defaultValue, vm := .none } = T1 at X₁ st1
  have hcat : (Value.ref T.heap.size).category = 1 := rfl
  have hcellA : T1.heap[T.heap.size]? = some (freshCell cX kX) := by rw [← hT1]; exact State.heap_pushCell_size _ _
  have d3' : decode c.code (pc + 3) = .ok (.dup, 1) := by rw [hb]; exact d3
  obtain ⟨U, hsteps, hrun, hend, hW, hsame, ce, hce, hO⟩ := X₁.ctorThrow0 hexec htr (own := own) (cls := cls) (names := names) (ic := ic) hown' hcls hnames h (fun x hx => nomatch hx) hfX hkX hcellA (by rw [hhp, hT]; exact Nat.le_refl _)
    (g := { method := m, pc := pc + 4, locals := ls, stack := .ref T.heap.size :: .ref T.heap.size :: rest, locked := none }) rfl hsize rfl rfl (rest := rest) rfl
    (by rw [hb]; exact d4) (by rw [hb]; exact d7) hout hRframes (by simp only [List.map_cons, List.sum_cons, hcat]; omega) hlocks
  obtain ⟨f1, f2⟩ := vx_frame hsame
  rw [hhp] at f1 f2
  have hWs : s.WarmedH U.vm := State.WarmedH.trans hW0 hW
  have hcl : s.vm.findClass cls = some ce.cls := by
    have h9 := hO.cls
    rw [hvm] at h9
    exact h9
  have hall : s.sameButNew ({ U with vm := s.vm } : State) locs mc ms := by
    subst hA
    obtain ⟨e1, e2⟩ := hsame
    rw [State.setFrames_setFrames] at e1
    have h2 : (T.setVm s.vm).sameButNew ({ U with vm := s.vm } : State) [] (0 + 1) (0 + 6) := ⟨e1, e2⟩
    have h3 := X.same.trans h2
    rw [List.append_nil] at h3
    exact h3.mono hc hs
  refine ⟨U, ?_, .threw T.heap.size, hrun, hend, Or.inr ⟨T.heap.size, rfl, cls, ce, locs, hx U hWs.alike f1 (fun q hq => f2 q hq (fun z hz => nomatch hz)), hce, hO.vm, hcl, hWs, hall, hf⟩⟩
  refine st1 _ ?_
  show Steps p.tables e below (T1.setTop { method := m, pc := pc + 3, locals := ls, stack := .ref T.heap.size :: rest, locked := none }) _
  jvm_step X₁.here [X₁.here.top, hexec, d3', Value.category]
  exact hsteps
/-- 'throw new E("text")': new; dup; ldc; invokespecial; athrow -/
theorem vx_throwS {cc : ByteArray} {pc : Nat} (hexec : p.tables.exec = Jvm.exec) (hb : c.code = cc) (hl : l.stackTraces = false) {own cls text : String} {names : List String} {ik is ic mc ms sa : Nat} {A : Nat → Prop}
    (hown : s.vm.findClass own = some m.cls) (hcls : Bundle.fit cls = true) (hnames : ∀ n ∈ names, Bundle.fit n = true)
    (hk : (Cond.classLink own ik cls).before args s = true) (hini : (Cond.initialized cls).before args s = true) (hstr : vk_R own is text sa s) (hat : ∀ w ∈ vx_atS own ic cls names, w.before args s = true)
    (hgood : ∀ w ∈ Cond.classLink own ik cls :: Cond.initialized cls :: vx_atS own ic cls names, vx_ot w = true)
    (hU : vx_Zq Bundle.tN "UNASSIGNED_STACK" Bundle.steD A s s.heap) (hN : vx_Zq Bundle.tN "SUPPRESSED_SENTINEL" Bundle.listD A s s.heap) (hS : va_S A s.heap H locs) (hsize : ls.size = c.maxLocals)
    (d0 : decode cc pc = .ok (.new ik, 3)) (d3 : decode cc (pc + 3) = .ok (.dup, 1)) (d4 : decode cc (pc + 4) = .ok (.ldc is, 2)) (d6 : decode cc (pc + 6) = .ok (.invokespecial ic, 3)) (d9 : decode cc (pc + 9) = .ok (.athrow, 1))
    (hout : ∀ x ∈ c.exceptionTable.toList, covers x (pc + 9) = false)
    (hRframes : names.length + 3 < R.frames) (hRlocals : (rest.map fun v => v.category).sum + (13 * (names.length + 1) + 43) ≤ R.locals) (hRcells : cells + 1 ≤ R.cells) (hRslots : slots + 6 ≤ R.slots) (hlocks : meth.locks = false)
    (hx : ∀ t : State, s.vm.Alike t.vm → H.size ≤ t.heap.size → (∀ q : Nat, q < H.size → t.heap[q]? = H[q]?) → XC cls s t)
    (hf : ∀ z ∈ locs, free z.base) (hc : cells + 1 ≤ mc) (hs : slots + 6 ≤ ms) :
    W p l e R s m args below meth c H locs cells slots (vx_MQ below Qc XC args s mc ms free) (F0 m pc ls rest) := by
  intro T hT X
  have htr : e.platform.stackTraces = false := (show e.platform.stackTraces = l.stackTraces by rw [X.admits.platform]).trans hl
  have Y := vx_rebase X (R' := { frames := R.frames, locals := R.locals, cells := 1, slots := 6 }) (Nat.le_refl _) (Nat.le_refl _) hRcells hRslots
  obtain ⟨s', hA⟩ : ∃ z, z = (T.setVm s.vm).setFrames (.invoking m args :: below) := ⟨_, rfl⟩
  rw [← hA] at Y
  have hvm : s'.vm = s.vm := by rw [hA]; rfl
  have hhp : s'.heap = H := by rw [hA]; exact hT
  have hW0 : s.WarmedH s'.vm := by rw [hvm]; exact State.WarmedH.refl s
  have hat' : ∀ w ∈ vx_atS own ic cls names, w.before args s' = true := fun w hw => vx_ot_at hW0 hvm.symm (hgood w (List.mem_cons_of_mem _ (List.mem_cons_of_mem _ hw))) (hat w hw)
  have hk' : (Cond.classLink own ik cls).before args s' = true := vx_ot_at hW0 hvm.symm (hgood _ List.mem_cons_self) hk
  have hini' : (Cond.initialized cls).before args s' = true := vx_ot_at hW0 hvm.symm (hgood _ (List.mem_cons_of_mem _ List.mem_cons_self)) hini
  have hU' : vx_Zq Bundle.tN "UNASSIGNED_STACK" Bundle.steD A s' s'.heap := by rw [hhp]; exact vx_Zq.moved hW0.alike (hU.kept hS.2.1)
  have hN' : vx_Zq Bundle.tN "SUPPRESSED_SENTINEL" Bundle.listD A s' s'.heap := by rw [hhp]; exact vx_Zq.moved hW0.alike (hN.kept hS.2.1)
  have h : ∀ w ∈ Bundle.ownAtoms own ic cls names, w.before args s' = true := vx_own hat' (vx_isRefq hU'.1) (vx_isRefq hN'.1) hU'.2.word hN'.2.word
  have hown' : s'.vm.findClass own = some m.cls := by rw [hvm]; exact hown
  have hins : (Cond.instantiable cls 6).before args s' = true := h _ (by simp [Bundle.ownAtoms])
  obtain ⟨vm₁, cX, kX, hfX, hkX, -, -, X₁, st1⟩ := Y.newCold hexec (own := own) (C := cls) (index := ik) (n := 6) hown' hk' hins hini'
    (g := F0 m pc ls rest) rfl (by rw [hb]; exact d0) (Nat.le_refl _) (Nat.le_refl _)
  generalize hT1 : (T.setVm vm₁).pushCell { cls := cX, slots := kX.instanceTypes.map defaultValue, vm := .none } = T1 at X₁ st1
  have hcat : (Value.ref T.heap.size).category = 1 := rfl
  have hcellA : T1.heap[T.heap.size]? = some (freshCell cX kX) := by rw [← hT1]; exact State.heap_pushCell_size _ _
  have d3' : decode c.code (pc + 3) = .ok (.dup, 1) := by rw [hb]; exact d3
  have d4' : decode c.code (pc + 4) = .ok (.ldc is, 2) := by rw [hb]; exact d4
  have hstr' : vk_R own is text sa s' := vk_R.warm hW0 hstr
  obtain ⟨U, hsteps, hrun, hend, hW, hsame, ce, hce, hO⟩ := X₁.ctorThrowS hexec htr (own := own) (cls := cls) (names := names) (ic := ic) hown' hcls hnames h (fun x hx => nomatch hx) hfX hkX hcellA (by rw [hhp, hT]; exact Nat.le_refl _) (msg := .ref sa) rfl
    (g := { method := m, pc := pc + 6, locals := ls, stack := .ref sa :: .ref T.heap.size :: .ref T.heap.size :: rest, locked := none }) rfl hsize rfl rfl (rest := rest) rfl
    (by rw [hb]; exact d6) (by rw [hb]; exact d9) hout hRframes (by simp only [List.map_cons, List.sum_cons, hcat]; omega) hlocks
  obtain ⟨f1, f2⟩ := vx_frame hsame
  rw [hhp] at f1 f2
  have hWs : s.WarmedH U.vm := State.WarmedH.trans hW0 hW
  have hcl : s.vm.findClass cls = some ce.cls := by
    have h9 := hO.cls
    rw [hvm] at h9
    exact h9
  have hall : s.sameButNew ({ U with vm := s.vm } : State) locs mc ms := by
    subst hA
    obtain ⟨e1, e2⟩ := hsame
    rw [State.setFrames_setFrames] at e1
    have h2 : (T.setVm s.vm).sameButNew ({ U with vm := s.vm } : State) [] (0 + 1) (0 + 6) := ⟨e1, e2⟩
    have h3 := X.same.trans h2
    rw [List.append_nil] at h3
    exact h3.mono hc hs
  refine ⟨U, ?_, .threw T.heap.size, hrun, hend, Or.inr ⟨T.heap.size, rfl, cls, ce, locs, hx U hWs.alike f1 (fun q hq => f2 q hq (fun z hz => nomatch hz)), hce, hO.vm, hcl, hWs, hall, hf⟩⟩
  refine st1 _ ?_
  show Steps p.tables e below (T1.setTop { method := m, pc := pc + 3, locals := ls, stack := .ref T.heap.size :: rest, locked := none }) _
  jvm_step X₁.here [X₁.here.top, hexec, d3', Value.category]
  exact X₁.ldcString hexec (own := own) (text := text) (index := is) (a := sa) hown' hstr'.1 hstr'.2
    (g := { method := m, pc := pc + 4, locals := ls, stack := .ref T.heap.size :: .ref T.heap.size :: rest, locked := none }) rfl d4' _ hsteps
/-- 'throw new E("text")', the text by a wide index -/
theorem vx_throwSW {cc : ByteArray} {pc : Nat} (hexec : p.tables.exec = Jvm.exec) (hb : c.code = cc) (hl : l.stackTraces = false) {own cls text : String} {names : List String} {ik is ic mc ms sa : Nat} {A : Nat → Prop}
    (hown : s.vm.findClass own = some m.cls) (hcls : Bundle.fit cls = true) (hnames : ∀ n ∈ names, Bundle.fit n = true)
    (hk : (Cond.classLink own ik cls).before args s = true) (hini : (Cond.initialized cls).before args s = true) (hstr : vk_R own is text sa s) (hat : ∀ w ∈ vx_atS own ic cls names, w.before args s = true)
    (hgood : ∀ w ∈ Cond.classLink own ik cls :: Cond.initialized cls :: vx_atS own ic cls names, vx_ot w = true)
    (hU : vx_Zq Bundle.tN "UNASSIGNED_STACK" Bundle.steD A s s.heap) (hN : vx_Zq Bundle.tN "SUPPRESSED_SENTINEL" Bundle.listD A s s.heap) (hS : va_S A s.heap H locs) (hsize : ls.size = c.maxLocals)
    (d0 : decode cc pc = .ok (.new ik, 3)) (d3 : decode cc (pc + 3) = .ok (.dup, 1)) (d4 : decode cc (pc + 4) = .ok (.ldc_w is, 3)) (d7 : decode cc (pc + 7) = .ok (.invokespecial ic, 3)) (d10 : decode cc (pc + 10) = .ok (.athrow, 1))
    (hout : ∀ x ∈ c.exceptionTable.toList, covers x (pc + 10) = false)
    (hRframes : names.length + 3 < R.frames) (hRlocals : (rest.map fun v => v.category).sum + (13 * (names.length + 1) + 43) ≤ R.locals) (hRcells : cells + 1 ≤ R.cells) (hRslots : slots + 6 ≤ R.slots) (hlocks : meth.locks = false)
    (hx : ∀ t : State, s.vm.Alike t.vm → H.size ≤ t.heap.size → (∀ q : Nat, q < H.size → t.heap[q]? = H[q]?) → XC cls s t)
    (hf : ∀ z ∈ locs, free z.base) (hc : cells + 1 ≤ mc) (hs : slots + 6 ≤ ms) :
    W p l e R s m args below meth c H locs cells slots (vx_MQ below Qc XC args s mc ms free) (F0 m pc ls rest) := by
  intro T hT X
  have htr : e.platform.stackTraces = false := (show e.platform.stackTraces = l.stackTraces by rw [X.admits.platform]).trans hl
  have Y := vx_rebase X (R' := { frames := R.frames, locals := R.locals, cells := 1, slots := 6 }) (Nat.le_refl _) (Nat.le_refl _) hRcells hRslots
  obtain ⟨s', hA⟩ : ∃ z, z = (T.setVm s.vm).setFrames (.invoking m args :: below) := ⟨_, rfl⟩
  rw [← hA] at Y
  have hvm : s'.vm = s.vm := by rw [hA]; rfl
  have hhp : s'.heap = H := by rw [hA]; exact hT
  have hW0 : s.WarmedH s'.vm := by rw [hvm]; exact State.WarmedH.refl s
  have hat' : ∀ w ∈ vx_atS own ic cls names, w.before args s' = true := fun w hw => vx_ot_at hW0 hvm.symm (hgood w (List.mem_cons_of_mem _ (List.mem_cons_of_mem _ hw))) (hat w hw)
  have hk' : (Cond.classLink own ik cls).before args s' = true := vx_ot_at hW0 hvm.symm (hgood _ List.mem_cons_self) hk
  have hini' : (Cond.initialized cls).before args s' = true := vx_ot_at hW0 hvm.symm (hgood _ (List.mem_cons_of_mem _ List.mem_cons_self)) hini
  have hU' : vx_Zq Bundle.tN "UNASSIGNED_STACK" Bundle.steD A s' s'.heap := by rw [hhp]; exact vx_Zq.moved hW0.alike (hU.kept hS.2.1)
  have hN' : vx_Zq Bundle.tN "SUPPRESSED_SENTINEL" Bundle.listD A s' s'.heap := by rw [hhp]; exact vx_Zq.moved hW0.alike (hN.kept hS.2.1)
  have h : ∀ w ∈ Bundle.ownAtoms own ic cls names, w.before args s' = true := vx_own hat' (vx_isRefq hU'.1) (vx_isRefq hN'.1) hU'.2.word hN'.2.word
  have hown' : s'.vm.findClass own = some m.cls := by rw [hvm]; exact hown
  have hins : (Cond.instantiable cls 6).before args s' = true := h _ (by simp [Bundle.ownAtoms])
  obtain ⟨vm₁, cX, kX, hfX, hkX, -, -, X₁, st1⟩ := Y.newCold hexec (own := own) (C := cls) (index := ik) (n := 6) hown' hk' hins hini'
    (g := F0 m pc ls rest) rfl (by rw [hb]; exact d0) (Nat.le_refl _) (Nat.le_refl _)
  generalize hT1 : (T.setVm vm₁).pushCell { cls := cX, slots := kX.instanceTypes.map defaultValue, vm := .none } = T1 at X₁ st1
  have hcat : (Value.ref T.heap.size).category = 1 := rfl
  have hcellA : T1.heap[T.heap.size]? = some (freshCell cX kX) := by rw [← hT1]; exact State.heap_pushCell_size _ _
  have d3' : decode c.code (pc + 3) = .ok (.dup, 1) := by rw [hb]; exact d3
  have d4' : decode c.code (pc + 4) = .ok (.ldc_w is, 3) := by rw [hb]; exact d4
  have hstr' : vk_R own is text sa s' := vk_R.warm hW0 hstr
  obtain ⟨U, hsteps, hrun, hend, hW, hsame, ce, hce, hO⟩ := X₁.ctorThrowS hexec htr (own := own) (cls := cls) (names := names) (ic := ic) hown' hcls hnames h (fun x hx => nomatch hx) hfX hkX hcellA (by rw [hhp, hT]; exact Nat.le_refl _) (msg := .ref sa) rfl
    (g := { method := m, pc := pc + 7, locals := ls, stack := .ref sa :: .ref T.heap.size :: .ref T.heap.size :: rest, locked := none }) rfl hsize rfl rfl (rest := rest) rfl
    (by rw [hb]; exact d7) (by rw [hb]; exact d10) hout hRframes (by simp only [List.map_cons, List.sum_cons, hcat]; omega) hlocks
  obtain ⟨f1, f2⟩ := vx_frame hsame
  rw [hhp] at f1 f2
  have hWs : s.WarmedH U.vm := State.WarmedH.trans hW0 hW
  have hcl : s.vm.findClass cls = some ce.cls := by
    have h9 := hO.cls
    rw [hvm] at h9
    exact h9
  have hall : s.sameButNew ({ U with vm := s.vm } : State) locs mc ms := by
    subst hA
    obtain ⟨e1, e2⟩ := hsame
    rw [State.setFrames_setFrames] at e1
    have h2 : (T.setVm s.vm).sameButNew ({ U with vm := s.vm } : State) [] (0 + 1) (0 + 6) := ⟨e1, e2⟩
    have h3 := X.same.trans h2
    rw [List.append_nil] at h3
    exact h3.mono hc hs
  refine ⟨U, ?_, .threw T.heap.size, hrun, hend, Or.inr ⟨T.heap.size, rfl, cls, ce, locs, hx U hWs.alike f1 (fun q hq => f2 q hq (fun z hz => nomatch hz)), hce, hO.vm, hcl, hWs, hall, hf⟩⟩
  refine st1 _ ?_
  show Steps p.tables e below (T1.setTop { method := m, pc := pc + 3, locals := ls, stack := .ref T.heap.size :: rest, locked := none }) _
  jvm_step X₁.here [X₁.here.top, hexec, d3', Value.category]
  exact X₁.ldcStringW hexec (own := own) (text := text) (index := is) (a := sa) hown' hstr'.1 hstr'.2
    (g := { method := m, pc := pc + 4, locals := ls, stack := .ref T.heap.size :: .ref T.heap.size :: rest, locked := none }) rfl d4' _ hsteps
end Ends
section Bodies
variable {l : Launch}
theorem vx_ofW {y : MethodName} {ws ws' : List Cond} {rm : Room} {Pc : Array Value → State → Prop} {Qc : Array Value → State → Outcome → State → Prop} {XC : String → State → State → Prop} {mc ms : Nat} {free : Addr → Prop} {cc : ByteArray} {maxL : Nat} {ret : Option FieldType}
    (hy : plainName y.cls = true) (hw : ws = Cond.code y cc maxL ret :: ws')
    (body : ∀ p e s m args below meth c s₁, BodyLoose p l y (headSpec ws rm) cc maxL ret e s m args below meth c s₁ → c.maxLocals = maxL → (∀ x ∈ c.exceptionTable.toList, False) → Pc args s →
      W p l e (headSpec ws rm).room s m args below meth c s.heap [] 0 0 (vx_MQ below Qc XC args s mc ms free) (entryFrame m args maxL)) : vx_Met l y ws rm Pc Qc XC mc ms free := by
  refine MetFree.of_bodyS (code := cc) (maxLocals := maxL) (ret := ret) hy ?_ ?_
  · intro args s m h hn
    obtain ⟨meth, c, h1, h2, h3, h4, h5, h6, -, -⟩ := Cond.code_spec hn (atoms_spec (ws := ws) h _ (by rw [hw]; exact List.mem_cons_self))
    exact ⟨meth, c, h1, h2, h3, h4, h5, h6⟩
  · intro p e s m args below meth c s₁ B hml hP _
    have hh0 : s₁.heap = s.heap := by rw [B.state]; rfl
    have ht : ∀ x ∈ c.exceptionTable.toList, False := by
      obtain ⟨meth9, c9, h1, h2, -, -, -, -, h7, -⟩ := Cond.code_spec B.named (atoms_spec (ws := ws) B.pre _ (by rw [hw]; exact List.mem_cons_self))
      cases Option.some.inj (h1.symm.trans B.method)
      cases Option.some.inj (h2.symm.trans (Stand.of_body B).code)
      intro x hx
      rw [Array.isEmpty_iff.mp h7] at hx
      cases hx
    obtain ⟨t, a1, o, b1, b2, b3⟩ := body p e s m args below meth c s₁ B hml ht hP s₁ hh0 (Stand.of_body B)
    exact ⟨t, o, a1, b1, b2, b3⟩
/-- the table of a body with handlers -/
theorem vx_table {p : Program} {x y : MethodName} {S : Spec} {cc bytes : ByteArray} {maxL maxL' : Nat} {ret ret' : Option FieldType} {e : Env} {s s₁ : State} {m : MethodId} {args : Array Value} {below : List Frame} {meth : Method} {c : Code} {hh : List (Nat × Nat × Nat × Nat)}
    (B : BodyLoose p l y S cc maxL ret e s m args below meth c s₁) (h : (Cond.codeWith y bytes maxL' ret' hh).before args s = true) : c.exceptionTable.toList = tableOf hh := by
  obtain ⟨m9, meth9, c9, hn9, h1, h2, -, -, h6, -⟩ := Cond.codeWith_spec h
  cases Option.some.inj (hn9.symm.trans B.named)
  cases Option.some.inj (h1.symm.trans B.method)
  cases Option.some.inj (h2.symm.trans (Stand.of_body B).code)
  rw [← h6, table_eq]
end Bodies
end VXA
/-! ===== END ===== -/
/-! ===== BEGIN a static call of a method with an exception table ===== -/
section VXS
variable {p : Program} {l : Launch} {e : Env} {R : Room} {s : State} {m : MethodId} {args : Array Value} {below : List Frame} {meth : Method} {c : Code} {T : State} {H : Heap} {locs : List Loc} {cells slots : Nat}
abbrev vx_CSW (R : Room) (s : State) (args : Array Value) (own : String) (index : Nat) (y : MethodName) (bytes : ByteArray) (maxL : Nat) (ret : Option FieldType) (hh : List (Nat × Nat × Nat × Nat)) (ws : List Cond) (rm : Room) (mc ms n : Nat) : Prop :=
  (rm.cells = mc ∧ rm.slots = ms ∧ rm.frames + 1 ≤ R.frames ∧ 8 + (maxL + 11) + rm.locals ≤ R.locals ∧ (∀ w ∈ ws, ∀ (a' : Array Value) (U : State), s.WarmedH U.vm → w.before a' U = true) ∧ Cond.codeWith y bytes maxL ret hh ∈ ws) ∧
  (Cond.codeWith y bytes maxL ret hh).before args s = true ∧ (Cond.initialized y.cls).before args s = true ∧ (y.cls ≠ "java/lang/invoke/MethodHandle" ∧ y.cls ≠ "java/lang/invoke/VarHandle") ∧
  (∀ sig, parseMethodDescriptor y.desc = some sig → n = sig.parameters.length) ∧ (Cond.methodLink own index y).before args s = true ∧ (Cond.static y).before args s = true
theorem vx_cwSW {own : String} {index maxL mc ms : Nat} {y : MethodName} {bytes : ByteArray} {ret : Option FieldType} {hh : List (Nat × Nat × Nat × Nat)} {Ts ws ws' : List Cond} {rm : Room} (n : Nat) (ht : ∀ w ∈ Ts, w.before args s = true) (hT : GoodIn Ts (va_wsS own index y ws)) (hw : ws = Cond.codeWith y bytes maxL ret hh :: ws') (hrc : rm.cells = mc) (hrs : rm.slots = ms)
    (hd : y.cls ≠ "java/lang/invoke/MethodHandle" ∧ y.cls ≠ "java/lang/invoke/VarHandle" ∧ (parseMethodDescriptor y.desc).map (fun d => d.parameters.length) = some n) (hR : rm.frames + 1 ≤ R.frames ∧ 8 + (maxL + 11) + rm.locals ≤ R.locals) :
    vx_CSW R s args own index y bytes maxL ret hh ws rm mc ms n := by
  have ok : ∀ w ∈ va_wsS own index y ws, w.before args s = true := fun w h => ht w (hT w h).1
  have hG : GoodIn Ts ws := fun w h => hT w (by unfold va_wsS; exact List.mem_append_right _ h)
  have hc : Cond.codeWith y bytes maxL ret hh ∈ ws := by rw [hw]; exact List.mem_cons_self
  refine ⟨⟨hrc, hrs, hR.1, hR.2, pay_in ht hG, hc⟩, ht _ (hG _ hc).1, ok _ (by simp [va_wsS]), ⟨hd.1, hd.2.1⟩, fun sig h => ?_, ok _ (by simp [va_wsS]), ok _ (by simp [va_wsS])⟩
  have h2 := hd.2.2
  rw [h] at h2
  exact (Option.some.inj h2).symm
theorem vx_callSW (X : Stand p l e R s m args below meth c T locs cells slots) (hexec : p.tables.exec = Jvm.exec) {own : String} {index : Nat} {y : MethodName} {bytes : ByteArray} {maxL : Nat} {ret : Option FieldType} {hh : List (Nat × Nat × Nat × Nat)}
    (hown : s.vm.findClass own = some m.cls) (hlink : (Cond.methodLink own index y).before args s = true) (hstat : (Cond.static y).before args s = true) (hinit : (Cond.initialized y.cls).before args s = true)
    (hcode : (Cond.codeWith y bytes maxL ret hh).before args s = true) (hy : y.cls ≠ "java/lang/invoke/MethodHandle" ∧ y.cls ≠ "java/lang/invoke/VarHandle")
    {W9 : Nat} {Pre : Pt → Array Value → Prop} {Post : Pt → Array Value → Option Value → Pt → Prop} (hK : Back l R p e below s args y 3 W9 Pre Post)
    {g : JFrame} (hg : g.method = m) (hsize : g.locals.size = c.maxLocals) {argsL rest : List Value} (hlen : ∀ sig, parseMethodDescriptor y.desc = some sig → argsL.length = sig.parameters.length)
    (hstack : g.stack = argsL.reverse ++ rest) (hW : 2 * g.monitorRoom + (rest.map fun v => v.category).sum ≤ W9) (hdg : decode c.code g.pc = .ok (.invokestatic index, 3))
    (hpre : ∀ vm₁, s.WarmedH vm₁ → Pre ⟨T.setVm vm₁, locs, cells, slots⟩ argsL.toArray) :
    ∃ (v : Option Value) (vm₁ : Vm) (B : Pt), s.WarmedH vm₁ ∧ Stand p l e R s m args below meth c B.U B.locs B.cells B.slots ∧ Post ⟨T.setVm vm₁, locs, cells, slots⟩ argsL.toArray v B ∧
      ∀ target, Steps p.tables e below (B.U.setTop { g with pc := g.pc + 3, stack := v.toList ++ rest }) target → Steps p.tables e below (T.setTop g) target := by
  obtain ⟨mk, methM, cM, hnamed, hmethM, -, -, -, -, -, -, hsigM⟩ := Cond.codeWith_spec hcode
  have hstatic : methM.isStatic = true := Cond.static_spec hnamed hmethM hstat
  obtain ⟨kP, hkP, -⟩ := className_of_methodNamed hnamed
  have hinitP : kP.init = .initialized := Cond.initialized_spec (findClass_of_methodNamed hnamed) hkP hinit
  obtain ⟨vm₁, X₁, hstep₁⟩ := X.invokestatic hexec hown hlink hnamed hmethM hstatic hkP hinitP hy (g := g) hg (argsL := argsL) (rest := rest) (hlen _ hsigM) hstack hdg
  obtain ⟨v, B, X', hpost, hsteps⟩ := hK m meth c ⟨T.setVm vm₁, locs, cells, slots⟩ { g with stack := rest } (.invokestatic index) mk argsL.toArray X₁ hg hsize hdg hW (X₁.named hnamed) (hpre vm₁ X₁.warmed)
  exact ⟨v, vm₁, B, X₁.warmed, X', hpost, fun target h => hstep₁ _ fun acts => by rw [doInvoke_state]; exact hsteps.trans h⟩
theorem vx_runSW {y : MethodName} {bytes cc : ByteArray} {maxL nL mc ms n index : Nat} {ret : Option FieldType} {hh : List (Nat × Nat × Nat × Nat)} {ws : List Cond} {rm : Room} {Pc : Array Value → State → Prop} {Qc : Array Value → State → Outcome → State → Prop} {free : Addr → Prop} {Ts : List Cond} {own : String} {As rest : List Value} {g : JFrame}
    (S : CallFix p m c cc nL s args Ts own) (hM : Met l y ws rm Pc Qc mc ms free) (cw : vx_CSW R s args own index y bytes maxL ret hh ws rm mc ms n) (hp : PreS s H Pc As)
    (hg : g.method = m) (hn : As.length = n) (hsize : g.locals.size = nL) (hstack : g.stack = As.reverse ++ rest) (hW : 2 * g.monitorRoom + (rest.map fun v => v.category).sum ≤ 8) (hdg : decode cc g.pc = .ok (.invokestatic index, 3)) (hf : cells + mc ≤ R.cells ∧ slots + ms ≤ R.slots) :
    va_Run p l e R s m args below meth c H locs cells slots mc ms g rest (Qc As.toArray) (free) := by
  obtain ⟨⟨hrc, hrs, hfr, hlo, hws, hcw⟩, hcode, hini, hy, hlen, hl, hstt⟩ := cw
  have hK : Back l R p e below s args y 3 8 (PreOf R mc ms Pc) (PostOf Qc mc ms free) := va_backW (hh := hh) (bytes := bytes) (maxL := maxL) (ret := ret) hM hp.1 hrc hrs hfr hlo hws hcw (fun a' U hW => word_at hW (Or.inl (by first | rfl | simp [Cond.onTables, Cond.keeps, Cond.steady])) hini)
  obtain ⟨hx, hb, hml, ho, -⟩ := S
  intro T hT X
  obtain ⟨v, vm₁, ⟨U', l2, c2, s2⟩, hW₁, X', ⟨g', mk, t, L, e1, e2, hq, h1, hL, h2, h3⟩, st⟩ := vx_callSW X hx (hh := hh) (bytes := bytes) (maxL := maxL) (ret := ret) ho hl hstt hini hcode hy hK hg (hsize.trans hml.symm) (argsL := As) (rest := rest) (fun sig h => hn.trans (hlen sig h)) hstack hW (by rw [hb]; exact hdg)
    (fun vm₁ hW₁ => ⟨hf.1, hf.2, hp.2 (T.setVm vm₁) hT hW₁⟩)
  dsimp only [Pt.U, Pt.locs, Pt.cells, Pt.slots] at X' e1 e2 h1 h2 h3 st
  subst h1; subst h2; subst h3
  exact ⟨v, (T.setVm vm₁).calling g' mk As.toArray, t, U', L, hT, X', hL, e1, e2, hq, st⟩
/-- not caught here, past rows that name other classes: it goes on to the caller -/
theorem vx_outP {p : Program} {l : Launch} {e : Env} {R : Room} {s : State} {m : MethodId} {args : Array Value} {below : List Frame} {meth : Method} {c : Code} {H : Heap} {locs : List Loc} {cells slots : Nat} {free : Addr → Prop} {ls : Array Slot} {rest : List Value} {Qc : Array Value → State → Outcome → State → Prop} {XC : String → State → State → Prop}
    {pc : Nat} {own E : String} {ce : Cell} {q : Addr} {mc ms : Nat} (hown : s.vm.findClass own = some m.cls) (hlocks : meth.locks = false)
    (hpass : ∀ z ∈ c.exceptionTable.toList, covers z pc = false ∨ (z.catchType ≠ 0 ∧ ∃ nm : String, (Cond.classLink own z.catchType nm).before args s = true ∧ va_Nc E nm s)) (hcell : H[q]? = some ce) (hv : ce.vm = .none) (hcl : s.vm.findClass E = some ce.cls)
    (hx : ∀ t : State, t.heap = H → s.vm.Alike t.vm → XC E s t) (hf : ∀ z ∈ locs, free z.base) (hc : cells ≤ mc) (hs : slots ≤ ms) :
    vx_W p l e R s m args below meth c H locs cells slots (vx_MQ below Qc XC args s mc ms free) (F0 m pc ls rest) q := by
  intro T hT X
  have hpl : e.platform.magicAccessors = ({} : Platform).magicAccessors := by rw [X.admits.platform]
  obtain ⟨vm', hW', X', st⟩ := X.outThrough hlocks q (g := F0 m pc ls rest) rfl rfl rfl (cell := ce) (by rw [hT]; exact hcell) (by rw [hv]; rfl)
    (by obtain ⟨k9, h9, -⟩ := Vm.findClass_spec hcl; exact ⟨k9, h9⟩) (fun z hz => by
      rcases hpass z hz with h | ⟨hz0, nm, hl1, hn1⟩
      · exact Or.inl h
      · obtain ⟨c6, hc6, hcl6⟩ := Cond.classLink_spec hown hl1 e.platform hpl
        obtain ⟨a8, b8, h1, h2, h3⟩ := hn1
        cases Option.some.inj (h1.symm.trans hcl)
        cases Option.some.inj (h2.symm.trans hc6)
        exact Or.inr ⟨hz0, _, hcl6, h3⟩)
  obtain ⟨g₀, hfr⟩ := X'.frames_eq
  have hcell9 : ((T.setVm vm').setFrames (.throwing q :: below)).heap[q]? = some ce := by
    show T.heap[q]? = some ce
    rw [hT]; exact hcell
  have hend : Ended ((T.setVm vm').setFrames (.throwing q :: below)) below (.threw q) := State.frames_setFrames _ (State.cur_lt_of_frames hfr)
  refine ⟨(T.setVm vm').setFrames (.throwing q :: below), ?_, .threw q, X'.here.running, hend, Or.inr ⟨q, rfl, E, ce, locs, hx _ hT (X'.ends _).1.alike, hcell9, hv, hcl, (X'.ends _).1, (X'.ends _).2.mono hc hs, hf⟩⟩
  rw [X.pushThrowing_eq]
  exact st
/-- a thing of a world lies in the heap -/
theorem vx_lt {D : va_G} {cl : List vw_C} {ws : va_W} {H1 : Heap} (h : va_P D cl ws H1) {k : Nat} {q : Nat × va_E} (hk : ws[k]? = some q) : q.1 < H1.size := (h k q hk).lt
end VXS
/-! ===== END ===== -/
/-! ===== BEGIN methods with a table of their own: called by a name, returning or throwing ===== -/
section VXH
/-! vx_backW, vx_callVX, vx_callSX, vx_callVW, vx_runVW, vx_runVX, vx_runSX, vx_ofWH follow the same proofs as their sisters above (Free/Laws.lean, Shelf42/LK1.lean); vx_outP calls Shelf42/NT130.lean (outThrough). -/
section
variable {l : Launch} {R : Room} {p : Program} {e : Env} {below : List Frame} {s : State} {sargs : Array Value} {y : MethodName} {len W9 : Nat}
theorem vx_backW {ws : List Cond} {rm : Room} {Pc : Array Value → State → Prop} {Qc : Array Value → State → Outcome → State → Prop} {XC : String → State → State → Prop} {mc ms : Nat} {free : Addr → Prop} {bytes : ByteArray} {maxL : Nat} {ret : Option FieldType} {hh : List (Nat × Nat × Nat × Nat)}
    (hM : vx_Met l y ws rm Pc Qc XC mc ms free) (hblind : FrameBlind Pc) (hrc : rm.cells = mc) (hrs : rm.slots = ms)
    (hframes : rm.frames + 1 ≤ R.frames) (hlocals : W9 + (maxL + 11) + rm.locals ≤ R.locals)
    (hws : ∀ w ∈ ws, ∀ a' U, s.WarmedH U.vm → w.before a' U = true) (hcode : Cond.codeWith y bytes maxL ret hh ∈ ws) (hinit : ∀ a' U, s.WarmedH U.vm → (Cond.initialized y.cls).before a' U = true) :
    vx_Back l R p e below s sargs y len W9 (PreOf R mc ms Pc) (PostOf Qc mc ms free) (vx_Post XC mc ms free) := by
  intro m meth c A g ig mk a X hg hsize hdg hW hn hp
  have h1 : (headSpec ws rm).pre.before a A.U = true := atoms_intro fun w hw => hws w hw _ _ X.warmed
  have h2 : (Cond.codeWith y bytes maxL ret hh).before a A.U = true := hws _ hcode _ _ X.warmed
  have h3 : (Cond.initialized y.cls).before a A.U = true := hinit _ _ X.warmed
  have h4 : A.cells + (headSpec ws rm).room.cells ≤ R.cells := by rw [show (headSpec ws rm).room.cells = mc from hrc]; exact hp.1
  have h5 : A.slots + (headSpec ws rm).room.slots ≤ R.slots := by rw [show (headSpec ws rm).room.slots = ms from hrs]; exact hp.2.1
  have hPc : Pc a (A.U.calling g mk a) := hblind _ _ _ _ hp.2.2
  obtain ⟨U, Ls, c0, s0⟩ := A
  dsimp only [Pt.U, Pt.locs, Pt.cells, Pt.slots] at h1 h2 h3 h4 h5 X hn hPc ⊢
  obtain ⟨m9, methY, cY, hn9, hmY, hcY, -, hlY, -⟩ := Cond.codeWith_spec h2
  cases Option.some.inj (hn9.symm.trans hn)
  obtain ⟨kY, hkY, -⟩ := className_of_methodNamed hn
  have hinitY : kY.init = .initialized := Cond.initialized_spec (findClass_of_methodNamed hn) hkY h3
  have h : At U g.method c below := by rw [hg]; exact X.here
  have hlocals9 : W9 + (maxL + 11) + (headSpec ws rm).room.locals ≤ R.locals := hlocals
  have happ : (headSpec ws rm).appliesLoose y e.platform (U.calling g mk a) = true :=
    Spec.appliesLoose_calling (g := g) h hdg hn hkY hinitY
      (X.room_calling (g := g) (R' := (headSpec ws rm).room) hsize hmY hcY hframes (by rw [hlY]; omega) h4 h5) h1
  obtain ⟨mid, hmid⟩ := h.above
  have hfr : (U.setTop g).frames = (.java g :: mid) ++ below := by rw [State.frames_setTop' g h.top, hmid]; rfl
  obtain ⟨o, s₂, hsteps, -, hend, hq⟩ := Steps.callFree hM p X.admits X.cas X.clock (acts := []) hfr happ hPc trivial
  have hq' : vx_Q Qc XC mc ms free a (U.calling g mk a) o s₂ := hq
  rw [State.frames_setTop' g h.top] at hend
  obtain ⟨g₀, hg0⟩ := Option.isSome_iff_exists.mp h.top
  obtain ⟨r, hr⟩ := State.topJava?_eq_some.mp hg0
  have hr' : (({ U with heap := s₂.heap, slotsUsed := s₂.slotsUsed } : State).setVm s₂.vm).frames = .java g₀ :: r := hr
  rcases hq' with ⟨hqc, L, hfe, hL⟩ | ⟨q, rfl, E, ce, L, hx, hce, hcv, hcl, hW₂, hsm, hL⟩
  · obtain ⟨⟨v, rfl⟩, hW₂, e2, q2, q3, q4, q5, q6⟩ := id hfe
    have e3 : s₂ = ({ (U.calling g mk a).setFrames s₂.frames with heap := s₂.heap, slotsUsed := s₂.slotsUsed } : State).setVm s₂.vm := by
      have : s₂ = ({ s₂ with vm := (U.calling g mk a).vm } : State).setVm s₂.vm := rfl
      rw [e2] at this
      exact this
    obtain ⟨c₂, i₂, len₂, hc₂, hd₂, hf₂⟩ := hend
    have hW' : U.WarmedH s₂.vm := hW₂
    have hcc : c₂ = c := by
      have h1 : s₂.code? g.method = U.code? g.method := by
        rw [State.code?_eq, State.code?_eq, hW'.alike.method?]
      exact Option.some.inj (hc₂.symm.trans (h1.trans h.code))
    subst hcc
    have hlen : len₂ = len := by rw [hdg] at hd₂; cases hd₂; rfl
    subst hlen
    have hs₂ : s₂ = (({ U with heap := s₂.heap, slotsUsed := s₂.slotsUsed } : State).setVm s₂.vm).setTop { g with pc := g.pc + len₂, stack := v.toList ++ g.stack } := by
      refine e3.trans ?_
      rw [hf₂, State.calling_eq h.top, State.setFrames_setFrames, State.setTop_of_frames _ hr', hr]
      rfl
    have hsame : U.sameButNew ({ U with heap := s₂.heap, slotsUsed := s₂.slotsUsed } : State) L mc ms := by
      refine ⟨?_, q2, q3, q4, q5, q6⟩
      obtain ⟨t, ht, -⟩ := State.frames_cons hr
      show ({ U with heap := s₂.heap, slotsUsed := s₂.slotsUsed } : State) = { U.setFrames U.frames with heap := s₂.heap, slotsUsed := s₂.slotsUsed }
      rw [State.setFrames_self ht]
    subst hg
    refine Or.inl ⟨v, ⟨(({ U with heap := s₂.heap, slotsUsed := s₂.slotsUsed } : State).setVm s₂.vm), Ls ++ L, c0 + mc, s0 + ms⟩,
      ⟨X.admits, X.cas, X.clock, X.frames, X.room, X.hears, X.method, X.code, (X.here.setHeapUsed s₂.heap s₂.slotsUsed).setVm hW'.alike, X.tail, State.WarmedH.trans X.warmed hW', X.limits, X.bytes, X.same.trans (hsame.setVm s.vm)⟩,
      ⟨g, mk, s₂, L, rfl, rfl, hqc, rfl, hL, rfl, rfl⟩, ?_⟩
    show Steps p.tables e below _ ((({ U with heap := s₂.heap, slotsUsed := s₂.slotsUsed } : State).setVm s₂.vm).setTop { g with pc := g.pc + len₂, stack := v.toList ++ g.stack })
    rw [← hs₂]
    exact hsteps
  · obtain ⟨e2, q2, q3, q4, q5, q6⟩ := id hsm
    have e3 : s₂ = ({ (U.calling g mk a).setFrames s₂.frames with heap := s₂.heap, slotsUsed := s₂.slotsUsed } : State).setVm s₂.vm := by
      have : s₂ = ({ s₂ with vm := (U.calling g mk a).vm } : State).setVm s₂.vm := rfl
      rw [e2] at this
      exact this
    have hf₂ : s₂.frames = .throwing q :: .java g :: U.frames.tail := hend
    have hW' : U.WarmedH s₂.vm := hW₂
    have hs₂ : s₂ = ((({ U with heap := s₂.heap, slotsUsed := s₂.slotsUsed } : State).setVm s₂.vm).setTop g).pushFrame (.throwing q) := by
      refine e3.trans ?_
      rw [hf₂, State.calling_eq h.top, State.setFrames_setFrames, State.pushFrame, State.frames_setTop _ hr', State.setTop_of_frames _ hr', State.setFrames_setFrames, hr]
      rfl
    have hsame : U.sameButNew ({ U with heap := s₂.heap, slotsUsed := s₂.slotsUsed } : State) L mc ms := by
      refine ⟨?_, q2, q3, q4, q5, q6⟩
      obtain ⟨t, ht, -⟩ := State.frames_cons hr
      show ({ U with heap := s₂.heap, slotsUsed := s₂.slotsUsed } : State) = { U.setFrames U.frames with heap := s₂.heap, slotsUsed := s₂.slotsUsed }
      rw [State.setFrames_self ht]
    subst hg
    refine Or.inr ⟨q, ⟨(({ U with heap := s₂.heap, slotsUsed := s₂.slotsUsed } : State).setVm s₂.vm), Ls ++ L, c0 + mc, s0 + ms⟩,
      ⟨X.admits, X.cas, X.clock, X.frames, X.room, X.hears, X.method, X.code, (X.here.setHeapUsed s₂.heap s₂.slotsUsed).setVm hW'.alike, X.tail, State.WarmedH.trans X.warmed hW', X.limits, X.bytes, X.same.trans (hsame.setVm s.vm)⟩,
      ⟨g, mk, s₂, L, E, ce, rfl, rfl, hx, hce, hcv, hcl, rfl, hL, rfl, rfl⟩, ?_⟩
    show Steps p.tables e below _ (((({ U with heap := s₂.heap, slotsUsed := s₂.slotsUsed } : State).setVm s₂.vm).setTop g).pushFrame (.throwing q))
    rw [← hs₂]
    exact hsteps
end
variable {p : Program} {l : Launch} {e : Env} {R : Room} {s : State} {m : MethodId} {args : Array Value} {below : List Frame} {meth : Method} {c : Code} {T : State} {H : Heap} {locs : List Loc} {cells slots : Nat}
theorem vx_callVX (X : Stand p l e R s m args below meth c T locs cells slots) (hexec : p.tables.exec = Jvm.exec) {own C : String} {index : Nat} {y : MethodName} {bytes : ByteArray} {maxL : Nat} {ret : Option FieldType} {hh : List (Nat × Nat × Nat × Nat)}
    (hown : s.vm.findClass own = some m.cls) (hlink : (Cond.methodLink own index y).before args s = true) (hinst : (Cond.instanceMethod y).before args s = true) (hsel : (Cond.selects C y y).before args s = true)
    (hcode : (Cond.codeWith y bytes maxL ret hh).before args s = true) (hy : y.cls ≠ "java/lang/invoke/MethodHandle" ∧ y.cls ≠ "java/lang/invoke/VarHandle")
    {W9 : Nat} {Pre : Pt → Array Value → Prop} {Post : Pt → Array Value → Option Value → Pt → Prop} {PostX : Pt → Array Value → Addr → Pt → Prop} (hK : vx_Back l R p e below s args y 3 W9 Pre Post PostX)
    {b : Addr} {cellB : Cell} (hcell : T.heap[b]? = some cellB) (hobj : cellB.vm.isStatics = false) (hcls : s.vm.findClass C = some cellB.cls)
    {g : JFrame} (hg : g.method = m) (hsize : g.locals.size = c.maxLocals) {argsL rest : List Value} (hlen : ∀ sig, parseMethodDescriptor y.desc = some sig → argsL.length = sig.parameters.length)
    (hstack : g.stack = argsL.reverse ++ .ref b :: rest) (hW : 2 * g.monitorRoom + (rest.map fun v => v.category).sum ≤ W9) (hdg : decode c.code g.pc = .ok (.invokevirtual index, 3))
    (hpre : ∀ vm₁, s.WarmedH vm₁ → Pre ⟨T.setVm vm₁, locs, cells, slots⟩ (Value.ref b :: argsL).toArray) :
    (∃ (v : Option Value) (vm₁ : Vm) (B : Pt), s.WarmedH vm₁ ∧ Stand p l e R s m args below meth c B.U B.locs B.cells B.slots ∧ Post ⟨T.setVm vm₁, locs, cells, slots⟩ (Value.ref b :: argsL).toArray v B ∧
      ∀ target, Steps p.tables e below (B.U.setTop { g with pc := g.pc + 3, stack := v.toList ++ rest }) target → Steps p.tables e below (T.setTop g) target) ∨
    (∃ (q : Addr) (vm₁ : Vm) (B : Pt), s.WarmedH vm₁ ∧ Stand p l e R s m args below meth c B.U B.locs B.cells B.slots ∧ PostX ⟨T.setVm vm₁, locs, cells, slots⟩ (Value.ref b :: argsL).toArray q B ∧
      Steps p.tables e below (T.setTop g) ((B.U.setTop { g with stack := rest }).pushFrame (.throwing q))) := by
  obtain ⟨mk, methM, hnamed, hmethM, hstM, habM⟩ := Cond.instanceMethod_spec hinst
  obtain ⟨m8, methM', cM, hn8, hmethM', -, -, -, -, -, -, hsigM⟩ := Cond.codeWith_spec hcode
  cases Option.some.inj (hn8.symm.trans hnamed)
  cases hmethM.symm.trans hmethM'
  obtain ⟨c2, r2, m2, q1, q2, q3, q4, kP, hkP, hkPi⟩ := Cond.selects_spec hsel
  cases hcls.symm.trans q1
  cases (State.methodFound?_of_named hnamed hy).symm.trans q2
  cases hnamed.symm.trans q3
  have hselP : selectMethod e.platform s.vm cellB.cls mk = .method mk := by rw [Launch.admits_selectMethod X.admits]; exact q4
  obtain ⟨vm₁, X₁, hstep₁⟩ := X.invokevirtual hexec hown hlink hnamed hmethM hstM hkP hkPi hy (a := b) (cell := cellB) hcell
    (fun z h => by rw [h] at hobj; cases hobj) hselP hmethM habM hkP hkPi (g := g) hg (argsL := argsL) (rest := rest) (hlen _ hsigM) hstack hdg
  rcases hK m meth c ⟨T.setVm vm₁, locs, cells, slots⟩ { g with stack := rest } (.invokevirtual index) mk (Value.ref b :: argsL).toArray X₁ hg hsize hdg hW (X₁.named hnamed) (hpre vm₁ X₁.warmed) with ⟨v, B, X', hpost, hsteps⟩ | ⟨q, B, X', hpost, hsteps⟩
  · exact Or.inl ⟨v, vm₁, B, X₁.warmed, X', hpost, fun target h => hstep₁ _ fun acts => by rw [doInvoke_state]; exact hsteps.trans h⟩
  · exact Or.inr ⟨q, vm₁, B, X₁.warmed, X', hpost, hstep₁ _ fun acts => by rw [doInvoke_state]; exact hsteps⟩
theorem vx_callSX (X : Stand p l e R s m args below meth c T locs cells slots) (hexec : p.tables.exec = Jvm.exec) {own : String} {index : Nat} {y : MethodName} {bytes : ByteArray} {maxL : Nat} {ret : Option FieldType} {hh : List (Nat × Nat × Nat × Nat)}
    (hown : s.vm.findClass own = some m.cls) (hlink : (Cond.methodLink own index y).before args s = true) (hstat : (Cond.static y).before args s = true) (hinit : (Cond.initialized y.cls).before args s = true)
    (hcode : (Cond.codeWith y bytes maxL ret hh).before args s = true) (hy : y.cls ≠ "java/lang/invoke/MethodHandle" ∧ y.cls ≠ "java/lang/invoke/VarHandle")
    {W9 : Nat} {Pre : Pt → Array Value → Prop} {Post : Pt → Array Value → Option Value → Pt → Prop} {PostX : Pt → Array Value → Addr → Pt → Prop} (hK : vx_Back l R p e below s args y 3 W9 Pre Post PostX)
    {g : JFrame} (hg : g.method = m) (hsize : g.locals.size = c.maxLocals) {argsL rest : List Value} (hlen : ∀ sig, parseMethodDescriptor y.desc = some sig → argsL.length = sig.parameters.length)
    (hstack : g.stack = argsL.reverse ++ rest) (hW : 2 * g.monitorRoom + (rest.map fun v => v.category).sum ≤ W9) (hdg : decode c.code g.pc = .ok (.invokestatic index, 3))
    (hpre : ∀ vm₁, s.WarmedH vm₁ → Pre ⟨T.setVm vm₁, locs, cells, slots⟩ argsL.toArray) :
    (∃ (v : Option Value) (vm₁ : Vm) (B : Pt), s.WarmedH vm₁ ∧ Stand p l e R s m args below meth c B.U B.locs B.cells B.slots ∧ Post ⟨T.setVm vm₁, locs, cells, slots⟩ argsL.toArray v B ∧
      ∀ target, Steps p.tables e below (B.U.setTop { g with pc := g.pc + 3, stack := v.toList ++ rest }) target → Steps p.tables e below (T.setTop g) target) ∨
    (∃ (q : Addr) (vm₁ : Vm) (B : Pt), s.WarmedH vm₁ ∧ Stand p l e R s m args below meth c B.U B.locs B.cells B.slots ∧ PostX ⟨T.setVm vm₁, locs, cells, slots⟩ argsL.toArray q B ∧
      Steps p.tables e below (T.setTop g) ((B.U.setTop { g with stack := rest }).pushFrame (.throwing q))) := by
  obtain ⟨mk, methM, cM, hnamed, hmethM, -, -, -, -, -, -, hsigM⟩ := Cond.codeWith_spec hcode
  have hstatic : methM.isStatic = true := Cond.static_spec hnamed hmethM hstat
  obtain ⟨kP, hkP, -⟩ := className_of_methodNamed hnamed
  have hinitP : kP.init = .initialized := Cond.initialized_spec (findClass_of_methodNamed hnamed) hkP hinit
  obtain ⟨vm₁, X₁, hstep₁⟩ := X.invokestatic hexec hown hlink hnamed hmethM hstatic hkP hinitP hy (g := g) hg (argsL := argsL) (rest := rest) (hlen _ hsigM) hstack hdg
  rcases hK m meth c ⟨T.setVm vm₁, locs, cells, slots⟩ { g with stack := rest } (.invokestatic index) mk argsL.toArray X₁ hg hsize hdg hW (X₁.named hnamed) (hpre vm₁ X₁.warmed) with ⟨v, B, X', hpost, hsteps⟩ | ⟨q, B, X', hpost, hsteps⟩
  · exact Or.inl ⟨v, vm₁, B, X₁.warmed, X', hpost, fun target h => hstep₁ _ fun acts => by rw [doInvoke_state]; exact hsteps.trans h⟩
  · exact Or.inr ⟨q, vm₁, B, X₁.warmed, X', hpost, hstep₁ _ fun acts => by rw [doInvoke_state]; exact hsteps⟩
theorem vx_callVW (X : Stand p l e R s m args below meth c T locs cells slots) (hexec : p.tables.exec = Jvm.exec) {own C : String} {index : Nat} {y : MethodName} {bytes : ByteArray} {maxL : Nat} {ret : Option FieldType} {hh : List (Nat × Nat × Nat × Nat)}
    (hown : s.vm.findClass own = some m.cls) (hlink : (Cond.methodLink own index y).before args s = true) (hinst : (Cond.instanceMethod y).before args s = true) (hsel : (Cond.selects C y y).before args s = true)
    (hcode : (Cond.codeWith y bytes maxL ret hh).before args s = true) (hy : y.cls ≠ "java/lang/invoke/MethodHandle" ∧ y.cls ≠ "java/lang/invoke/VarHandle")
    {W9 : Nat} {Pre : Pt → Array Value → Prop} {Post : Pt → Array Value → Option Value → Pt → Prop} (hK : Back l R p e below s args y 3 W9 Pre Post)
    {b : Addr} {cellB : Cell} (hcell : T.heap[b]? = some cellB) (hobj : cellB.vm.isStatics = false) (hcls : s.vm.findClass C = some cellB.cls)
    {g : JFrame} (hg : g.method = m) (hsize : g.locals.size = c.maxLocals) {argsL rest : List Value} (hlen : ∀ sig, parseMethodDescriptor y.desc = some sig → argsL.length = sig.parameters.length)
    (hstack : g.stack = argsL.reverse ++ .ref b :: rest) (hW : 2 * g.monitorRoom + (rest.map fun v => v.category).sum ≤ W9) (hdg : decode c.code g.pc = .ok (.invokevirtual index, 3))
    (hpre : ∀ vm₁, s.WarmedH vm₁ → Pre ⟨T.setVm vm₁, locs, cells, slots⟩ (Value.ref b :: argsL).toArray) :
    ∃ (v : Option Value) (vm₁ : Vm) (B : Pt), s.WarmedH vm₁ ∧ Stand p l e R s m args below meth c B.U B.locs B.cells B.slots ∧ Post ⟨T.setVm vm₁, locs, cells, slots⟩ (Value.ref b :: argsL).toArray v B ∧
      ∀ target, Steps p.tables e below (B.U.setTop { g with pc := g.pc + 3, stack := v.toList ++ rest }) target → Steps p.tables e below (T.setTop g) target := by
  obtain ⟨mk, methM, hnamed, hmethM, hstM, habM⟩ := Cond.instanceMethod_spec hinst
  obtain ⟨m8, methM', cM, hn8, hmethM', -, -, -, -, -, -, hsigM⟩ := Cond.codeWith_spec hcode
  cases Option.some.inj (hn8.symm.trans hnamed)
  cases hmethM.symm.trans hmethM'
  obtain ⟨c2, r2, m2, q1, q2, q3, q4, kP, hkP, hkPi⟩ := Cond.selects_spec hsel
  cases hcls.symm.trans q1
  cases (State.methodFound?_of_named hnamed hy).symm.trans q2
  cases hnamed.symm.trans q3
  have hselP : selectMethod e.platform s.vm cellB.cls mk = .method mk := by rw [Launch.admits_selectMethod X.admits]; exact q4
  obtain ⟨vm₁, X₁, hstep₁⟩ := X.invokevirtual hexec hown hlink hnamed hmethM hstM hkP hkPi hy (a := b) (cell := cellB) hcell
    (fun z h => by rw [h] at hobj; cases hobj) hselP hmethM habM hkP hkPi (g := g) hg (argsL := argsL) (rest := rest) (hlen _ hsigM) hstack hdg
  obtain ⟨v, B, X', hpost, hsteps⟩ := hK m meth c ⟨T.setVm vm₁, locs, cells, slots⟩ { g with stack := rest } (.invokevirtual index) mk (Value.ref b :: argsL).toArray X₁ hg hsize hdg hW (X₁.named hnamed) (hpre vm₁ X₁.warmed)
  exact ⟨v, vm₁, B, X₁.warmed, X', hpost, fun target h => hstep₁ _ fun acts => by rw [doInvoke_state]; exact hsteps.trans h⟩
abbrev vx_CVW (R : Room) (s : State) (args : Array Value) (own C : String) (index : Nat) (y : MethodName) (bytes : ByteArray) (maxL : Nat) (ret : Option FieldType) (hh : List (Nat × Nat × Nat × Nat)) (ws : List Cond) (rm : Room) (mc ms n : Nat) : Prop :=
  (rm.cells = mc ∧ rm.slots = ms ∧ rm.frames + 1 ≤ R.frames ∧ 8 + (maxL + 11) + rm.locals ≤ R.locals ∧ (∀ w ∈ ws, ∀ (a' : Array Value) (U : State), s.WarmedH U.vm → w.before a' U = true) ∧ Cond.codeWith y bytes maxL ret hh ∈ ws) ∧
  (Cond.codeWith y bytes maxL ret hh).before args s = true ∧ (Cond.initialized y.cls).before args s = true ∧ (y.cls ≠ "java/lang/invoke/MethodHandle" ∧ y.cls ≠ "java/lang/invoke/VarHandle") ∧
  (∀ sig, parseMethodDescriptor y.desc = some sig → n = sig.parameters.length) ∧ (Cond.methodLink own index y).before args s = true ∧ (Cond.instanceMethod y).before args s = true ∧ (Cond.selects C y y).before args s = true
theorem vx_cwVW {own C : String} {index maxL mc ms : Nat} {y : MethodName} {bytes : ByteArray} {ret : Option FieldType} {hh : List (Nat × Nat × Nat × Nat)} {Ts ws ws' : List Cond} {rm : Room} (n : Nat) (ht : ∀ w ∈ Ts, w.before args s = true) (hT : GoodIn Ts (wsV own index C y ws)) (hw : ws = Cond.codeWith y bytes maxL ret hh :: ws') (hrc : rm.cells = mc) (hrs : rm.slots = ms)
    (hd : y.cls = C ∧ y.cls ≠ "java/lang/invoke/MethodHandle" ∧ y.cls ≠ "java/lang/invoke/VarHandle" ∧ (parseMethodDescriptor y.desc).map (fun d => d.parameters.length) = some n) (hR : rm.frames + 1 ≤ R.frames ∧ 8 + (maxL + 11) + rm.locals ≤ R.locals) :
    vx_CVW R s args own C index y bytes maxL ret hh ws rm mc ms n := by
  obtain ⟨hC, hd⟩ := hd
  subst hC
  have ok : ∀ w ∈ wsV own index y.cls y ws, w.before args s = true := fun w h => ht w (hT w h).1
  have hG : GoodIn Ts ws := fun w h => hT w (by unfold wsV; exact List.mem_append_right _ h)
  have hc : Cond.codeWith y bytes maxL ret hh ∈ ws := by rw [hw]; exact List.mem_cons_self
  refine ⟨⟨hrc, hrs, hR.1, hR.2, pay_in ht hG, hc⟩, ht _ (hG _ hc).1, ok _ (by simp [wsV]), ⟨hd.1, hd.2.1⟩, fun sig h => ?_, ok _ (by simp [wsV]), ok _ (by simp [wsV]), ok _ (by simp [wsV])⟩
  have h2 := hd.2.2
  rw [h] at h2
  exact (Option.some.inj h2).symm
theorem vx_runVW {y : MethodName} {bytes cc : ByteArray} {maxL nL mc ms n index : Nat} {ret : Option FieldType} {hh : List (Nat × Nat × Nat × Nat)} {ws : List Cond} {rm : Room} {Pc : Array Value → State → Prop} {Qc : Array Value → State → Outcome → State → Prop} {free : Addr → Prop} {Ts : List Cond} {own C : String} {b : Addr} {As rest : List Value} {g : JFrame}
    (S : CallFix p m c cc nL s args Ts own) (hM : Met l y ws rm Pc Qc mc ms free) (cw : vx_CVW R s args own C index y bytes maxL ret hh ws rm mc ms n) (hp : PreV s H C b Pc As)
    (hg : g.method = m) (hn : As.length = n) (hsize : g.locals.size = nL) (hstack : g.stack = As.reverse ++ .ref b :: rest) (hW : 2 * g.monitorRoom + (rest.map fun v => v.category).sum ≤ 8) (hdg : decode cc g.pc = .ok (.invokevirtual index, 3)) (hf : cells + mc ≤ R.cells ∧ slots + ms ≤ R.slots) :
    va_Run p l e R s m args below meth c H locs cells slots mc ms g rest (Qc (Value.ref b :: As).toArray) free := by
  obtain ⟨⟨hrc, hrs, hfr, hlo, hws, hcw⟩, hcode, hini, hy, hlen, hl, hin, hse⟩ := cw
  have hK : Back l R p e below s args y 3 8 (PreOf R mc ms Pc) (PostOf Qc mc ms free) := va_backW (hh := hh) (bytes := bytes) (maxL := maxL) (ret := ret) hM hp.1 hrc hrs hfr hlo hws hcw (fun a' U hW => word_at hW (Or.inl (by first | rfl | simp [Cond.onTables, Cond.keeps, Cond.steady])) hini)
  obtain ⟨hx, hb, hml, ho, -⟩ := S
  obtain ⟨-, ⟨cellB, hcB, hoB, hclB⟩, hPc⟩ := hp
  intro T hT X
  obtain ⟨v, vm₁, ⟨U', l2, c2, s2⟩, hW₁, X', ⟨g', mk, t, L, e1, e2, hq, h1, hL, h2, h3⟩, st⟩ := vx_callVW X hx (C := C) (hh := hh) (bytes := bytes) (maxL := maxL) (ret := ret) ho hl hin hse hcode hy hK (by rw [hT]; exact hcB) hoB hclB hg (hsize.trans hml.symm) (argsL := As) (rest := rest) (fun sig h => hn.trans (hlen sig h)) hstack hW (by rw [hb]; exact hdg)
    (fun vm₁ hW₁ => ⟨hf.1, hf.2, hPc (T.setVm vm₁) hT hW₁⟩)
  dsimp only [Pt.U, Pt.locs, Pt.cells, Pt.slots] at X' e1 e2 h1 h2 h3 st
  subst h1; subst h2; subst h3
  exact ⟨v, (T.setVm vm₁).calling g' mk (Value.ref b :: As).toArray, t, U', L, hT, X', hL, e1, e2, hq, st⟩
section
variable {y : MethodName} {bytes cc : ByteArray} {maxL nL mc ms n index : Nat} {ret : Option FieldType} {ws : List Cond} {rm : Room} {Pc : Array Value → State → Prop} {Qc : Array Value → State → Outcome → State → Prop} {XC : String → State → State → Prop} {free : Addr → Prop} {Ts : List Cond} {own C : String} {b : Addr} {As rest : List Value} {g : JFrame}
theorem vx_runVX {hh : List (Nat × Nat × Nat × Nat)} (S : CallFix p m c cc nL s args Ts own) (hM : vx_Met l y ws rm Pc Qc XC mc ms free) (cw : vx_CVW R s args own C index y bytes maxL ret hh ws rm mc ms n) (hp : PreV s H C b Pc As)
    (hg : g.method = m) (hn : As.length = n) (hsize : g.locals.size = nL) (hstack : g.stack = As.reverse ++ .ref b :: rest) (hW : 2 * g.monitorRoom + (rest.map fun v => v.category).sum ≤ 8) (hdg : decode cc g.pc = .ok (.invokevirtual index, 3)) (hf : cells + mc ≤ R.cells ∧ slots + ms ≤ R.slots) :
    vx_Run p l e R s m args below meth c H locs cells slots mc ms g rest (Qc (Value.ref b :: As).toArray) XC free := by
  obtain ⟨⟨hrc, hrs, hfr, hlo, hws, hcw⟩, hcode, hini, hy, hlen, hl, hin, hse⟩ := cw
  have hK : vx_Back l R p e below s args y 3 8 (PreOf R mc ms Pc) (PostOf Qc mc ms free) (vx_Post XC mc ms free) := vx_backW (hh := hh) (bytes := bytes) (maxL := maxL) (ret := ret) hM hp.1 hrc hrs hfr hlo hws hcw (fun a' U hW => word_at hW (Or.inl (by first | rfl | simp [Cond.onTables, Cond.keeps, Cond.steady])) hini)
  obtain ⟨hx, hb, hml, ho, -⟩ := S
  obtain ⟨-, ⟨cellB, hcB, hoB, hclB⟩, hPc⟩ := hp
  intro T hT X
  rcases vx_callVX X hx (C := C) (hh := hh) (bytes := bytes) (maxL := maxL) (ret := ret) ho hl hin hse hcode hy hK (by rw [hT]; exact hcB) hoB hclB hg (hsize.trans hml.symm) (argsL := As) (rest := rest) (fun sig h => hn.trans (hlen sig h)) hstack hW (by rw [hb]; exact hdg)
    (fun vm₁ hW₁ => ⟨hf.1, hf.2, hPc (T.setVm vm₁) hT hW₁⟩) with ⟨v, vm₁, ⟨U', l2, c2, s2⟩, hW₁, X', ⟨g', mk, t, L, e1, e2, hq, h1, hL, h2, h3⟩, st⟩ | ⟨q, vm₁, ⟨U', l2, c2, s2⟩, hW₁, X', ⟨g', mk, t, L, E, ce, e1, e2, hq, hce, hcv, hcl, h1, hL, h2, h3⟩, st⟩
  · dsimp only [Pt.U, Pt.locs, Pt.cells, Pt.slots] at X' e1 e2 h1 h2 h3 st
    subst h1; subst h2; subst h3
    exact Or.inl ⟨v, (T.setVm vm₁).calling g' mk (Value.ref b :: As).toArray, t, U', L, hT, X', hL, e1, e2, hq, st⟩
  · dsimp only [Pt.U, Pt.locs, Pt.cells, Pt.slots] at X' e1 e2 h1 h2 h3 st hcl
    subst h1; subst h2; subst h3
    exact Or.inr ⟨q, (T.setVm vm₁).calling g' mk (Value.ref b :: As).toArray, t, U', L, E, ce, hT, X', hL, e1, e2, hq, hce, hcv, vx_cls hW₁ hcl, st⟩
theorem vx_runSX {hh : List (Nat × Nat × Nat × Nat)} (S : CallFix p m c cc nL s args Ts own) (hM : vx_Met l y ws rm Pc Qc XC mc ms free) (cw : vx_CSW R s args own index y bytes maxL ret hh ws rm mc ms n) (hp : PreS s H Pc As)
    (hg : g.method = m) (hn : As.length = n) (hsize : g.locals.size = nL) (hstack : g.stack = As.reverse ++ rest) (hW : 2 * g.monitorRoom + (rest.map fun v => v.category).sum ≤ 8) (hdg : decode cc g.pc = .ok (.invokestatic index, 3)) (hf : cells + mc ≤ R.cells ∧ slots + ms ≤ R.slots) :
    vx_Run p l e R s m args below meth c H locs cells slots mc ms g rest (Qc As.toArray) XC free := by
  obtain ⟨⟨hrc, hrs, hfr, hlo, hws, hcw⟩, hcode, hini, hy, hlen, hl, hstt⟩ := cw
  have hK : vx_Back l R p e below s args y 3 8 (PreOf R mc ms Pc) (PostOf Qc mc ms free) (vx_Post XC mc ms free) := vx_backW (hh := hh) (bytes := bytes) (maxL := maxL) (ret := ret) hM hp.1 hrc hrs hfr hlo hws hcw (fun a' U hW => word_at hW (Or.inl (by first | rfl | simp [Cond.onTables, Cond.keeps, Cond.steady])) hini)
  obtain ⟨hx, hb, hml, ho, -⟩ := S
  intro T hT X
  rcases vx_callSX X hx (hh := hh) (bytes := bytes) (maxL := maxL) (ret := ret) ho hl hstt hini hcode hy hK hg (hsize.trans hml.symm) (argsL := As) (rest := rest) (fun sig h => hn.trans (hlen sig h)) hstack hW (by rw [hb]; exact hdg)
    (fun vm₁ hW₁ => ⟨hf.1, hf.2, hp.2 (T.setVm vm₁) hT hW₁⟩) with ⟨v, vm₁, ⟨U', l2, c2, s2⟩, hW₁, X', ⟨g', mk, t, L, e1, e2, hq, h1, hL, h2, h3⟩, st⟩ | ⟨q, vm₁, ⟨U', l2, c2, s2⟩, hW₁, X', ⟨g', mk, t, L, E, ce, e1, e2, hq, hce, hcv, hcl, h1, hL, h2, h3⟩, st⟩
  · dsimp only [Pt.U, Pt.locs, Pt.cells, Pt.slots] at X' e1 e2 h1 h2 h3 st
    subst h1; subst h2; subst h3
    exact Or.inl ⟨v, (T.setVm vm₁).calling g' mk As.toArray, t, U', L, hT, X', hL, e1, e2, hq, st⟩
  · dsimp only [Pt.U, Pt.locs, Pt.cells, Pt.slots] at X' e1 e2 h1 h2 h3 st hcl
    subst h1; subst h2; subst h3
    exact Or.inr ⟨q, (T.setVm vm₁).calling g' mk As.toArray, t, U', L, E, ce, hT, X', hL, e1, e2, hq, hce, hcv, vx_cls hW₁ hcl, st⟩
end
end VXH
theorem vx_ofWH {l : Launch} {y : MethodName} {ws ws' : List Cond} {rm : Room} {Pc : Array Value → State → Prop} {Qc : Array Value → State → Outcome → State → Prop} {XC : String → State → State → Prop} {mc ms : Nat} {free : Addr → Prop} {cc : ByteArray} {maxL : Nat} {ret : Option FieldType} {hh : List (Nat × Nat × Nat × Nat)}
    (hy : plainName y.cls = true) (hw : ws = Cond.codeWith y cc maxL ret hh :: ws')
    (body : ∀ p e s m args below meth c s₁, BodyLoose p l y (headSpec ws rm) cc maxL ret e s m args below meth c s₁ → c.maxLocals = maxL → Pc args s →
      W p l e (headSpec ws rm).room s m args below meth c s.heap [] 0 0 (vx_MQ below Qc XC args s mc ms free) (entryFrame m args maxL)) : vx_Met l y ws rm Pc Qc XC mc ms free := by
  refine MetFree.of_bodyS (code := cc) (maxLocals := maxL) (ret := ret) hy ?_ ?_
  · intro args s m h hn
    obtain ⟨m9, meth, c, hn9, h1, h2, h3, h4, -, h5, h6, -⟩ := Cond.codeWith_spec (atoms_spec (ws := ws) h _ (by rw [hw]; exact List.mem_cons_self))
    cases hn.symm.trans hn9
    exact ⟨meth, c, h1, h2, h3, h4, h5, h6⟩
  · intro p e s m args below meth c s₁ B hml hP _
    have hh0 : s₁.heap = s.heap := by rw [B.state]; rfl
    obtain ⟨t, a1, o, b1, b2, b3⟩ := body p e s m args below meth c s₁ B hml hP s₁ hh0 (Stand.of_body B)
    exact ⟨t, o, a1, b1, b2, b3⟩
/-! ===== END ===== -/
end
section
def RX0 : String := "ToolPlex$Ask"
def TX0 : u_T := fun k => match k with
  | 0 => ("ToolPlex$Ask", "kind", "I", true)
  | 1 => ("ToolPlex$Ask", "file", "I", true)
  | 2 => ("ToolPlex$Ask", "letter", "I", true)
  | 3 => ("ToolPlex$Ask", "standing", "I", false)
  | _ => ("ToolPlex$Ask", "items", "LToolPlex$Items;", false)
def tyX0 : Nat → FieldType := fun k => match k with
  | 0 => .int
  | 1 => .int
  | 2 => .int
  | 3 => .int
  | _ => .object "ToolPlex$Items"
theorem nmX0 : ∀ a, a < 5 → ∀ b, b < 5 → a ≠ b → (TX0 a).2.1 ≠ (TX0 b).2.1 := by decide +kernel
theorem tyX0_ok : ∀ k, k < 5 → parseFieldDescriptor (TX0 k).2.2.1 = some (tyX0 k) := by decide +kernel
abbrev cX0_init : ByteArray := prog_2_method_1_code
def yX0_init : MethodName := ⟨RX0, "<init>", "(III)V"⟩
def RX1 : String := "ToolPlex$Channel"
def TX1 : u_T := fun k => match k with
  | _ => ("ToolPlex$Channel", "messages", "Ljava/util/ArrayList;", true)
def tyX1 : Nat → FieldType := fun k => match k with
  | _ => .object "java/util/ArrayList"
theorem nmX1 : ∀ a, a < 1 → ∀ b, b < 1 → a ≠ b → (TX1 a).2.1 ≠ (TX1 b).2.1 := by decide +kernel
theorem tyX1_ok : ∀ k, k < 1 → parseFieldDescriptor (TX1 k).2.2.1 = some (tyX1 k) := by decide +kernel
abbrev cX1_init : ByteArray := prog_3_method_1_code
def yX1_init : MethodName := ⟨RX1, "<init>", "()V"⟩
abbrev cX1_size : ByteArray := prog_3_method_2_code
def yX1_size : MethodName := ⟨RX1, "size", "()I"⟩
abbrev cX1_send : ByteArray := prog_3_method_3_code
def yX1_send : MethodName := ⟨RX1, "send", "(LToolPlex$Message;)V"⟩
abbrev cX1_takeFirst : ByteArray := prog_3_method_4_code
def yX1_takeFirst : MethodName := ⟨RX1, "takeFirst", "()LToolPlex$Message;"⟩
abbrev cX1_lose : ByteArray := prog_3_method_5_code
def yX1_lose : MethodName := ⟨RX1, "lose", "()I"⟩
def RX2 : String := "ToolPlex$Copy"
def TX2 : u_T := fun k => match k with
  | 0 => ("ToolPlex$Copy", "text", "LToolPlex$Text;", true)
  | 1 => ("ToolPlex$Copy", "first", "LToolPlex$Text;", true)
  | 2 => ("ToolPlex$Copy", "changes", "[I", false)
  | 3 => ("ToolPlex$Copy", "made", "I", false)
  | 4 => ("ToolPlex$Copy", "version", "I", false)
  | 5 => ("ToolPlex$Copy", "opened", "I", false)
  | _ => ("ToolPlex$Copy", "editor", "I", false)
def tyX2 : Nat → FieldType := fun k => match k with
  | 0 => .object "ToolPlex$Text"
  | 1 => .object "ToolPlex$Text"
  | 2 => .array .int
  | 3 => .int
  | 4 => .int
  | 5 => .int
  | _ => .int
theorem nmX2 : ∀ a, a < 7 → ∀ b, b < 7 → a ≠ b → (TX2 a).2.1 ≠ (TX2 b).2.1 := by decide +kernel
theorem tyX2_ok : ∀ k, k < 7 → parseFieldDescriptor (TX2 k).2.2.1 = some (tyX2 k) := by decide +kernel
abbrev cX2_init : ByteArray := prog_4_method_1_code
def yX2_init : MethodName := ⟨RX2, "<init>", "()V"⟩
abbrev cX2_isHere : ByteArray := prog_4_method_2_code
def yX2_isHere : MethodName := ⟨RX2, "isHere", "()Z"⟩
abbrev cX2_begin : ByteArray := prog_4_method_3_code
def yX2_begin : MethodName := ⟨RX2, "begin", "(ILToolPlex$Text;I)V"⟩
abbrev cX2_end : ByteArray := prog_4_method_4_code
def yX2_end : MethodName := ⟨RX2, "end", "()V"⟩
abbrev cX2_alter : ByteArray := prog_4_method_5_code
def yX2_alter : MethodName := ⟨RX2, "alter", "(LToolPlex$Message;)V"⟩
abbrev cX2_moveAlong : ByteArray := prog_4_method_6_code
def yX2_moveAlong : MethodName := ⟨RX2, "moveAlong", "(LToolPlex$Items;I)V"⟩
abbrev cX2_moveOn : ByteArray := prog_4_method_7_code
def yX2_moveOn : MethodName := ⟨RX2, "moveOn", "(LToolPlex$Items;)V"⟩
abbrev cX2_placeAfter : ByteArray := prog_4_method_8_code
def yX2_placeAfter : MethodName := ⟨RX2, "placeAfter", "(I)I"⟩
abbrev cX2_agreesWith : ByteArray := prog_4_method_9_code
def yX2_agreesWith : MethodName := ⟨RX2, "agreesWith", "(LToolPlex$Copy;LToolPlex$Text;)Z"⟩
def RX3 : String := "ToolPlex$Editor"
def TX3 : u_T := fun k => match k with
  | 0 => ("ToolPlex$Editor", "number", "I", true)
  | 1 => ("ToolPlex$Editor", "files", "LToolPlex$Files;", true)
  | 2 => ("ToolPlex$Editor", "out", "LToolPlex$Channel;", true)
  | 3 => ("ToolPlex$Editor", "copies", "[LToolPlex$Copy;", true)
  | 4 => ("ToolPlex$Editor", "nothing", "LToolPlex$Copy;", true)
  | 5 => ("ToolPlex$Editor", "faults", "[LToolPlex$Items;", true)
  | 6 => ("ToolPlex$Editor", "noFaults", "LToolPlex$Items;", true)
  | _ => ("ToolPlex$Editor", "asks", "Ljava/util/ArrayList;", true)
def tyX3 : Nat → FieldType := fun k => match k with
  | 0 => .int
  | 1 => .object "ToolPlex$Files"
  | 2 => .object "ToolPlex$Channel"
  | 3 => .array (.object "ToolPlex$Copy")
  | 4 => .object "ToolPlex$Copy"
  | 5 => .array (.object "ToolPlex$Items")
  | 6 => .object "ToolPlex$Items"
  | _ => .object "java/util/ArrayList"
theorem nmX3 : ∀ a, a < 8 → ∀ b, b < 8 → a ≠ b → (TX3 a).2.1 ≠ (TX3 b).2.1 := by decide +kernel
theorem tyX3_ok : ∀ k, k < 8 → parseFieldDescriptor (TX3 k).2.2.1 = some (tyX3 k) := by decide +kernel
abbrev cX3_init : ByteArray := prog_5_method_1_code
def yX3_init : MethodName := ⟨RX3, "<init>", "(ILToolPlex$Files;LToolPlex$Channel;)V"⟩
abbrev cX3_copyOf : ByteArray := prog_5_method_2_code
def yX3_copyOf : MethodName := ⟨RX3, "copyOf", "(I)LToolPlex$Copy;"⟩
abbrev cX3_faultsOf : ByteArray := prog_5_method_3_code
def yX3_faultsOf : MethodName := ⟨RX3, "faultsOf", "(I)LToolPlex$Items;"⟩
abbrev cX3_askAt : ByteArray := prog_5_method_4_code
def yX3_askAt : MethodName := ⟨RX3, "askAt", "(I)LToolPlex$Ask;"⟩
abbrev cX3_asked : ByteArray := prog_5_method_5_code
def yX3_asked : MethodName := ⟨RX3, "asked", "()I"⟩
abbrev cX3_send : ByteArray := prog_5_method_6_code
def yX3_send : MethodName := ⟨RX3, "send", "(LToolPlex$Message;I)V"⟩
abbrev cX3_begin : ByteArray := prog_5_method_7_code
def yX3_begin : MethodName := ⟨RX3, "begin", "(I)I"⟩
abbrev cX3_finish : ByteArray := prog_5_method_8_code
def yX3_finish : MethodName := ⟨RX3, "finish", "(I)V"⟩
abbrev cX3_alter : ByteArray := prog_5_method_9_code
def yX3_alter : MethodName := ⟨RX3, "alter", "(LToolPlex$Message;)I"⟩
abbrev cX3_replaceSpan : ByteArray := prog_5_method_10_code
def yX3_replaceSpan : MethodName := ⟨RX3, "replaceSpan", "(IIII)V"⟩
abbrev cX3_ask : ByteArray := prog_5_method_11_code
def yX3_ask : MethodName := ⟨RX3, "ask", "(LToolPlex$Message;)I"⟩
abbrev cX3_withdraw : ByteArray := prog_5_method_12_code
def yX3_withdraw : MethodName := ⟨RX3, "withdraw", "(ILToolPlex$Ask;)V"⟩
abbrev cX3_canApply : ByteArray := prog_5_method_13_code
def yX3_canApply : MethodName := ⟨RX3, "canApply", "(LToolPlex$Ask;)Z"⟩
abbrev cX3_applyRename : ByteArray := prog_5_method_14_code
def yX3_applyRename : MethodName := ⟨RX3, "applyRename", "(LToolPlex$Ask;)I"⟩
abbrev cX3_applyExtract : ByteArray := prog_5_method_15_code
def yX3_applyExtract : MethodName := ⟨RX3, "applyExtract", "(LToolPlex$Ask;)I"⟩
abbrev cX3_takeAnswer : ByteArray := prog_5_method_16_code
def yX3_takeAnswer : MethodName := ⟨RX3, "takeAnswer", "(LToolPlex$Message;)V"⟩
abbrev cX3_isLate : ByteArray := prog_5_method_17_code
def yX3_isLate : MethodName := ⟨RX3, "isLate", "(LToolPlex$Copy;I)Z"⟩
abbrev cX3_isCurrent : ByteArray := prog_5_method_18_code
def yX3_isCurrent : MethodName := ⟨RX3, "isCurrent", "(LToolPlex$Copy;ILToolPlex$Message;)Z"⟩
abbrev cX3_takeFaults : ByteArray := prog_5_method_19_code
def yX3_takeFaults : MethodName := ⟨RX3, "takeFaults", "(LToolPlex$Message;)V"⟩
abbrev cX3_tell : ByteArray := prog_5_method_20_code
def yX3_tell : MethodName := ⟨RX3, "tell", "(LToolPlex$Items;I)I"⟩
abbrev cX3_tokenNumber : ByteArray := prog_5_method_21_code
def yX3_tokenNumber : MethodName := ⟨RX3, "tokenNumber", "(LToolPlex$Ask;I)I"⟩
def RX4 : String := "ToolPlex$Files"
def TX4 : u_T := fun k => match k with
  | 0 => ("ToolPlex$Files", "names", "[C", true)
  | 1 => ("ToolPlex$Files", "languages", "[I", true)
  | 2 => ("ToolPlex$Files", "versions", "[I", true)
  | 3 => ("ToolPlex$Files", "holders", "[I", true)
  | 4 => ("ToolPlex$Files", "texts", "[LToolPlex$Text;", true)
  | 5 => ("ToolPlex$Files", "nothing", "LToolPlex$Text;", true)
  | _ => ("ToolPlex$Files", "count", "I", false)
def tyX4 : Nat → FieldType := fun k => match k with
  | 0 => .array .char
  | 1 => .array .int
  | 2 => .array .int
  | 3 => .array .int
  | 4 => .array (.object "ToolPlex$Text")
  | 5 => .object "ToolPlex$Text"
  | _ => .int
theorem nmX4 : ∀ a, a < 7 → ∀ b, b < 7 → a ≠ b → (TX4 a).2.1 ≠ (TX4 b).2.1 := by decide +kernel
theorem tyX4_ok : ∀ k, k < 7 → parseFieldDescriptor (TX4 k).2.2.1 = some (tyX4 k) := by decide +kernel
abbrev cX4_init : ByteArray := prog_6_method_1_code
def yX4_init : MethodName := ⟨RX4, "<init>", "()V"⟩
abbrev cX4_size : ByteArray := prog_6_method_2_code
def yX4_size : MethodName := ⟨RX4, "size", "()I"⟩
abbrev cX4_has : ByteArray := prog_6_method_3_code
def yX4_has : MethodName := ⟨RX4, "has", "(I)Z"⟩
abbrev cX4_isFull : ByteArray := prog_6_method_4_code
def yX4_isFull : MethodName := ⟨RX4, "isFull", "()Z"⟩
abbrev cX4_named : ByteArray := prog_6_method_5_code
def yX4_named : MethodName := ⟨RX4, "named", "(I)I"⟩
abbrev cX4_add : ByteArray := prog_6_method_6_code
def yX4_add : MethodName := ⟨RX4, "add", "(II)I"⟩
abbrev cX4_nameOf : ByteArray := prog_6_method_7_code
def yX4_nameOf : MethodName := ⟨RX4, "nameOf", "(I)C"⟩
abbrev cX4_rename : ByteArray := prog_6_method_8_code
def yX4_rename : MethodName := ⟨RX4, "rename", "(II)V"⟩
abbrev cX4_languageOf : ByteArray := prog_6_method_9_code
def yX4_languageOf : MethodName := ⟨RX4, "languageOf", "(I)I"⟩
abbrev cX4_versionOf : ByteArray := prog_6_method_10_code
def yX4_versionOf : MethodName := ⟨RX4, "versionOf", "(I)I"⟩
abbrev cX4_setVersion : ByteArray := prog_6_method_11_code
def yX4_setVersion : MethodName := ⟨RX4, "setVersion", "(II)V"⟩
abbrev cX4_holderOf : ByteArray := prog_6_method_12_code
def yX4_holderOf : MethodName := ⟨RX4, "holderOf", "(I)I"⟩
abbrev cX4_setHolder : ByteArray := prog_6_method_13_code
def yX4_setHolder : MethodName := ⟨RX4, "setHolder", "(II)V"⟩
abbrev cX4_isAnyHeld : ByteArray := prog_6_method_14_code
def yX4_isAnyHeld : MethodName := ⟨RX4, "isAnyHeld", "()Z"⟩
abbrev cX4_textOf : ByteArray := prog_6_method_15_code
def yX4_textOf : MethodName := ⟨RX4, "textOf", "(I)LToolPlex$Text;"⟩
def RX5 : String := "ToolPlex$Items"
def TX5 : u_T := fun k => match k with
  | 0 => ("ToolPlex$Items", "cells", "[I", false)
  | _ => ("ToolPlex$Items", "count", "I", false)
def tyX5 : Nat → FieldType := fun k => match k with
  | 0 => .array .int
  | _ => .int
theorem nmX5 : ∀ a, a < 2 → ∀ b, b < 2 → a ≠ b → (TX5 a).2.1 ≠ (TX5 b).2.1 := by decide +kernel
theorem tyX5_ok : ∀ k, k < 2 → parseFieldDescriptor (TX5 k).2.2.1 = some (tyX5 k) := by decide +kernel
abbrev cX5_init : ByteArray := prog_7_method_1_code
def yX5_init : MethodName := ⟨RX5, "<init>", "()V"⟩
abbrev cX5_size : ByteArray := prog_7_method_2_code
def yX5_size : MethodName := ⟨RX5, "size", "()I"⟩
abbrev cX5_clear : ByteArray := prog_7_method_3_code
def yX5_clear : MethodName := ⟨RX5, "clear", "()V"⟩
abbrev cX5_cell : ByteArray := prog_7_method_4_code
def yX5_cell : MethodName := ⟨RX5, "cell", "(II)I"⟩
abbrev cX5_fileAt : ByteArray := prog_7_method_5_code
def yX5_fileAt : MethodName := ⟨RX5, "fileAt", "(I)I"⟩
abbrev cX5_startAt : ByteArray := prog_7_method_6_code
def yX5_startAt : MethodName := ⟨RX5, "startAt", "(I)I"⟩
abbrev cX5_endAt : ByteArray := prog_7_method_7_code
def yX5_endAt : MethodName := ⟨RX5, "endAt", "(I)I"⟩
abbrev cX5_valueAt : ByteArray := prog_7_method_8_code
def yX5_valueAt : MethodName := ⟨RX5, "valueAt", "(I)I"⟩
abbrev cX5_add : ByteArray := prog_7_method_9_code
def yX5_add : MethodName := ⟨RX5, "add", "(IIII)V"⟩
abbrev cX5_insert : ByteArray := prog_7_method_10_code
def yX5_insert : MethodName := ⟨RX5, "insert", "(IIIII)V"⟩
abbrev cX5_insertSpan : ByteArray := prog_7_method_11_code
def yX5_insertSpan : MethodName := ⟨RX5, "insertSpan", "(IIII)V"⟩
abbrev cX5_insertApart : ByteArray := prog_7_method_12_code
def yX5_insertApart : MethodName := ⟨RX5, "insertApart", "(IIII)V"⟩
abbrev cX5_insertRun : ByteArray := prog_7_method_13_code
def yX5_insertRun : MethodName := ⟨RX5, "insertRun", "(LToolPlex$Text;III)V"⟩
abbrev cX5_move : ByteArray := prog_7_method_14_code
def yX5_move : MethodName := ⟨RX5, "move", "(III)V"⟩
abbrev cX5_isIn : ByteArray := prog_7_method_15_code
def yX5_isIn : MethodName := ⟨RX5, "isIn", "(I)Z"⟩
abbrev cX5_takeAll : ByteArray := prog_7_method_16_code
def yX5_takeAll : MethodName := ⟨RX5, "takeAll", "(LToolPlex$Items;)V"⟩
abbrev cX5_copied : ByteArray := prog_7_method_17_code
def yX5_copied : MethodName := ⟨RX5, "copied", "()LToolPlex$Items;"⟩
def RX6 : String := "ToolPlex$Message"
def TX6 : u_T := fun k => match k with
  | 0 => ("ToolPlex$Message", "kind", "I", true)
  | 1 => ("ToolPlex$Message", "file", "I", true)
  | 2 => ("ToolPlex$Message", "editor", "I", false)
  | 3 => ("ToolPlex$Message", "number", "I", false)
  | 4 => ("ToolPlex$Message", "asked", "I", false)
  | 5 => ("ToolPlex$Message", "version", "I", false)
  | 6 => ("ToolPlex$Message", "line", "I", false)
  | 7 => ("ToolPlex$Message", "unit", "I", false)
  | 8 => ("ToolPlex$Message", "toLine", "I", false)
  | 9 => ("ToolPlex$Message", "toUnit", "I", false)
  | 10 => ("ToolPlex$Message", "code", "I", false)
  | 11 => ("ToolPlex$Message", "id", "I", false)
  | 12 => ("ToolPlex$Message", "place", "I", false)
  | 13 => ("ToolPlex$Message", "standing", "I", false)
  | 14 => ("ToolPlex$Message", "text", "LToolPlex$Text;", false)
  | 15 => ("ToolPlex$Message", "items", "LToolPlex$Items;", false)
  | _ => ("ToolPlex$Message", "versions", "[I", false)
def tyX6 : Nat → FieldType := fun k => match k with
  | 0 => .int
  | 1 => .int
  | 2 => .int
  | 3 => .int
  | 4 => .int
  | 5 => .int
  | 6 => .int
  | 7 => .int
  | 8 => .int
  | 9 => .int
  | 10 => .int
  | 11 => .int
  | 12 => .int
  | 13 => .int
  | 14 => .object "ToolPlex$Text"
  | 15 => .object "ToolPlex$Items"
  | _ => .array .int
theorem nmX6 : ∀ a, a < 17 → ∀ b, b < 17 → a ≠ b → (TX6 a).2.1 ≠ (TX6 b).2.1 := by decide +kernel
theorem tyX6_ok : ∀ k, k < 17 → parseFieldDescriptor (TX6 k).2.2.1 = some (tyX6 k) := by decide +kernel
abbrev cX6_init : ByteArray := prog_8_method_1_code
def yX6_init : MethodName := ⟨RX6, "<init>", "(II)V"⟩
abbrev cX6_versionOf : ByteArray := prog_8_method_2_code
def yX6_versionOf : MethodName := ⟨RX6, "versionOf", "(I)I"⟩
def RX7 : String := "ToolPlex$Multiplexer"
def TX7 : u_T := fun k => match k with
  | 0 => ("ToolPlex$Multiplexer", "files", "LToolPlex$Files;", true)
  | 1 => ("ToolPlex$Multiplexer", "servers", "Ljava/util/ArrayList;", true)
  | 2 => ("ToolPlex$Multiplexer", "channels", "[LToolPlex$Channel;", true)
  | 3 => ("ToolPlex$Multiplexer", "copies", "[LToolPlex$Copy;", true)
  | 4 => ("ToolPlex$Multiplexer", "nothing", "LToolPlex$Copy;", true)
  | 5 => ("ToolPlex$Multiplexer", "taken", "[I", true)
  | 6 => ("ToolPlex$Multiplexer", "faults", "[LToolPlex$Items;", true)
  | 7 => ("ToolPlex$Multiplexer", "pending", "Ljava/util/ArrayList;", true)
  | 8 => ("ToolPlex$Multiplexer", "ids", "[I", true)
  | 9 => ("ToolPlex$Multiplexer", "nextId", "I", false)
  | 10 => ("ToolPlex$Multiplexer", "merged", "LToolPlex$Items;", true)
  | _ => ("ToolPlex$Multiplexer", "nowhere", "LToolPlex$Channel;", true)
def tyX7 : Nat → FieldType := fun k => match k with
  | 0 => .object "ToolPlex$Files"
  | 1 => .object "java/util/ArrayList"
  | 2 => .array (.object "ToolPlex$Channel")
  | 3 => .array (.object "ToolPlex$Copy")
  | 4 => .object "ToolPlex$Copy"
  | 5 => .array .int
  | 6 => .array (.object "ToolPlex$Items")
  | 7 => .object "java/util/ArrayList"
  | 8 => .array .int
  | 9 => .int
  | 10 => .object "ToolPlex$Items"
  | _ => .object "ToolPlex$Channel"
theorem nmX7 : ∀ a, a < 12 → ∀ b, b < 12 → a ≠ b → (TX7 a).2.1 ≠ (TX7 b).2.1 := by decide +kernel
theorem tyX7_ok : ∀ k, k < 12 → parseFieldDescriptor (TX7 k).2.2.1 = some (tyX7 k) := by decide +kernel
abbrev cX7_init : ByteArray := prog_9_method_1_code
def yX7_init : MethodName := ⟨RX7, "<init>", "(LToolPlex$Files;Ljava/util/ArrayList;[LToolPlex$Channel;)V"⟩
abbrev cX7_copyOf : ByteArray := prog_9_method_2_code
def yX7_copyOf : MethodName := ⟨RX7, "copyOf", "(I)LToolPlex$Copy;"⟩
abbrev cX7_hasCopies : ByteArray := prog_9_method_3_code
def yX7_hasCopies : MethodName := ⟨RX7, "hasCopies", "()Z"⟩
abbrev cX7_idCell : ByteArray := prog_9_method_4_code
def yX7_idCell : MethodName := ⟨RX7, "idCell", "(III)I"⟩
abbrev cX7_idOf : ByteArray := prog_9_method_5_code
def yX7_idOf : MethodName := ⟨RX7, "idOf", "(III)I"⟩
abbrev cX7_channelAt : ByteArray := prog_9_method_6_code
def yX7_channelAt : MethodName := ⟨RX7, "channelAt", "(I)LToolPlex$Channel;"⟩
abbrev cX7_takeFromEditor : ByteArray := prog_9_method_7_code
def yX7_takeFromEditor : MethodName := ⟨RX7, "takeFromEditor", "(LToolPlex$Message;)V"⟩
abbrev cX7_takeOpen : ByteArray := prog_9_method_8_code
def yX7_takeOpen : MethodName := ⟨RX7, "takeOpen", "(LToolPlex$Message;)V"⟩
abbrev cX7_takeChange : ByteArray := prog_9_method_9_code
def yX7_takeChange : MethodName := ⟨RX7, "takeChange", "(LToolPlex$Message;)V"⟩
abbrev cX7_takeClose : ByteArray := prog_9_method_10_code
def yX7_takeClose : MethodName := ⟨RX7, "takeClose", "(LToolPlex$Message;)V"⟩
abbrev cX7_dropFaults : ByteArray := prog_9_method_11_code
def yX7_dropFaults : MethodName := ⟨RX7, "dropFaults", "(I)V"⟩
abbrev cX7_passOn : ByteArray := prog_9_method_12_code
def yX7_passOn : MethodName := ⟨RX7, "passOn", "(LToolPlex$Message;)V"⟩
abbrev cX7_takeRequest : ByteArray := prog_9_method_13_code
def yX7_takeRequest : MethodName := ⟨RX7, "takeRequest", "(LToolPlex$Message;)V"⟩
abbrev cX7_askServer : ByteArray := prog_9_method_14_code
def yX7_askServer : MethodName := ⟨RX7, "askServer", "(LToolPlex$Pending;I)V"⟩
abbrev cX7_takeCancel : ByteArray := prog_9_method_15_code
def yX7_takeCancel : MethodName := ⟨RX7, "takeCancel", "(LToolPlex$Message;)V"⟩
abbrev cX7_dismiss : ByteArray := prog_9_method_16_code
def yX7_dismiss : MethodName := ⟨RX7, "dismiss", "(I)V"⟩
abbrev cX7_reply : ByteArray := prog_9_method_17_code
def yX7_reply : MethodName := ⟨RX7, "reply", "(LToolPlex$Message;I)LToolPlex$Message;"⟩
abbrev cX7_completedBy : ByteArray := prog_9_method_18_code
def yX7_completedBy : MethodName := ⟨RX7, "completedBy", "(ILToolPlex$Message;)LToolPlex$Pending;"⟩
abbrev cX7_miss : ByteArray := prog_9_method_19_code
def yX7_miss : MethodName := ⟨RX7, "miss", "(I)V"⟩
abbrev cX7_giveCopies : ByteArray := prog_9_method_20_code
def yX7_giveCopies : MethodName := ⟨RX7, "giveCopies", "(ILToolPlex$Server;)I"⟩
abbrev cX7_settle : ByteArray := prog_9_method_21_code
def yX7_settle : MethodName := ⟨RX7, "settle", "(LToolPlex$Pending;)V"⟩
abbrev cX7_mergeMoved : ByteArray := prog_9_method_22_code
def yX7_mergeMoved : MethodName := ⟨RX7, "mergeMoved", "(LToolPlex$Pending;LToolPlex$Copy;)V"⟩
abbrev cX7_mergeRuns : ByteArray := prog_9_method_23_code
def yX7_mergeRuns : MethodName := ⟨RX7, "mergeRuns", "(LToolPlex$Pending;LToolPlex$Text;)V"⟩
abbrev cX7_mergeLowest : ByteArray := prog_9_method_24_code
def yX7_mergeLowest : MethodName := ⟨RX7, "mergeLowest", "(LToolPlex$Pending;)Z"⟩
abbrev cX7_isCurrent : ByteArray := prog_9_method_25_code
def yX7_isCurrent : MethodName := ⟨RX7, "isCurrent", "(LToolPlex$Message;)Z"⟩
abbrev cX7_takeFaults : ByteArray := prog_9_method_26_code
def yX7_takeFaults : MethodName := ⟨RX7, "takeFaults", "(ILToolPlex$Message;)V"⟩
def RX8 : String := "ToolPlex$Pending"
def TX8 : u_T := fun k => match k with
  | 0 => ("ToolPlex$Pending", "question", "LToolPlex$Message;", true)
  | 1 => ("ToolPlex$Pending", "waits", "[Z", true)
  | _ => ("ToolPlex$Pending", "answers", "[LToolPlex$Message;", true)
def tyX8 : Nat → FieldType := fun k => match k with
  | 0 => .object "ToolPlex$Message"
  | 1 => .array .boolean
  | _ => .array (.object "ToolPlex$Message")
theorem nmX8 : ∀ a, a < 3 → ∀ b, b < 3 → a ≠ b → (TX8 a).2.1 ≠ (TX8 b).2.1 := by decide +kernel
theorem tyX8_ok : ∀ k, k < 3 → parseFieldDescriptor (TX8 k).2.2.1 = some (tyX8 k) := by decide +kernel
abbrev cX8_init : ByteArray := prog_10_method_1_code
def yX8_init : MethodName := ⟨RX8, "<init>", "(LToolPlex$Message;)V"⟩
abbrev cX8_waitsFor : ByteArray := prog_10_method_2_code
def yX8_waitsFor : MethodName := ⟨RX8, "waitsFor", "(I)Z"⟩
abbrev cX8_waitFor : ByteArray := prog_10_method_3_code
def yX8_waitFor : MethodName := ⟨RX8, "waitFor", "(I)V"⟩
abbrev cX8_note : ByteArray := prog_10_method_4_code
def yX8_note : MethodName := ⟨RX8, "note", "(ILToolPlex$Message;)V"⟩
abbrev cX8_isComplete : ByteArray := prog_10_method_5_code
def yX8_isComplete : MethodName := ⟨RX8, "isComplete", "()Z"⟩
abbrev cX8_answerOf : ByteArray := prog_10_method_6_code
def yX8_answerOf : MethodName := ⟨RX8, "answerOf", "(I)LToolPlex$Message;"⟩
def RX9 : String := "ToolPlex$Server"
def TX9 : u_T := fun k => match k with
  | 0 => ("ToolPlex$Server", "kinds", "I", true)
  | 1 => ("ToolPlex$Server", "languages", "I", true)
  | 2 => ("ToolPlex$Server", "style", "I", true)
  | 3 => ("ToolPlex$Server", "files", "LToolPlex$Files;", true)
  | 4 => ("ToolPlex$Server", "copies", "[LToolPlex$Copy;", true)
  | 5 => ("ToolPlex$Server", "nothing", "LToolPlex$Copy;", true)
  | 6 => ("ToolPlex$Server", "questions", "Ljava/util/ArrayList;", true)
  | 7 => ("ToolPlex$Server", "found", "LToolPlex$Items;", true)
  | _ => ("ToolPlex$Server", "up", "Z", false)
def tyX9 : Nat → FieldType := fun k => match k with
  | 0 => .int
  | 1 => .int
  | 2 => .int
  | 3 => .object "ToolPlex$Files"
  | 4 => .array (.object "ToolPlex$Copy")
  | 5 => .object "ToolPlex$Copy"
  | 6 => .object "java/util/ArrayList"
  | 7 => .object "ToolPlex$Items"
  | _ => .boolean
theorem nmX9 : ∀ a, a < 9 → ∀ b, b < 9 → a ≠ b → (TX9 a).2.1 ≠ (TX9 b).2.1 := by decide +kernel
theorem tyX9_ok : ∀ k, k < 9 → parseFieldDescriptor (TX9 k).2.2.1 = some (tyX9 k) := by decide +kernel
abbrev cX9_init : ByteArray := prog_11_method_1_code
def yX9_init : MethodName := ⟨RX9, "<init>", "(IIILToolPlex$Files;)V"⟩
abbrev cX9_copyOf : ByteArray := prog_11_method_2_code
def yX9_copyOf : MethodName := ⟨RX9, "copyOf", "(I)LToolPlex$Copy;"⟩
abbrev cX9_requests : ByteArray := prog_11_method_3_code
def yX9_requests : MethodName := ⟨RX9, "requests", "()I"⟩
abbrev cX9_speaks : ByteArray := prog_11_method_4_code
def yX9_speaks : MethodName := ⟨RX9, "speaks", "(I)Z"⟩
abbrev cX9_does : ByteArray := prog_11_method_5_code
def yX9_does : MethodName := ⟨RX9, "does", "(I)Z"⟩
abbrev cX9_fall : ByteArray := prog_11_method_6_code
def yX9_fall : MethodName := ⟨RX9, "fall", "()V"⟩
abbrev cX9_take : ByteArray := prog_11_method_7_code
def yX9_take : MethodName := ⟨RX9, "take", "(LToolPlex$Message;)V"⟩
abbrev cX9_takeChange : ByteArray := prog_11_method_8_code
def yX9_takeChange : MethodName := ⟨RX9, "takeChange", "(LToolPlex$Copy;LToolPlex$Message;)V"⟩
abbrev cX9_forget : ByteArray := prog_11_method_9_code
def yX9_forget : MethodName := ⟨RX9, "forget", "(I)V"⟩
abbrev cX9_answerTo : ByteArray := prog_11_method_10_code
def yX9_answerTo : MethodName := ⟨RX9, "answerTo", "(I)LToolPlex$Message;"⟩
abbrev cX9_find : ByteArray := prog_11_method_11_code
def yX9_find : MethodName := ⟨RX9, "find", "(LToolPlex$Message;LToolPlex$Text;)V"⟩
abbrev cX9_keepOne : ByteArray := prog_11_method_12_code
def yX9_keepOne : MethodName := ⟨RX9, "keepOne", "(IIII)V"⟩
abbrev cX9_findLonger : ByteArray := prog_11_method_13_code
def yX9_findLonger : MethodName := ⟨RX9, "findLonger", "(ILToolPlex$Text;II)V"⟩
abbrev cX9_findAll : ByteArray := prog_11_method_14_code
def yX9_findAll : MethodName := ⟨RX9, "findAll", "(ILToolPlex$Text;)V"⟩
abbrev cX9_findAlike : ByteArray := prog_11_method_15_code
def yX9_findAlike : MethodName := ⟨RX9, "findAlike", "(ILToolPlex$Text;LToolPlex$Text;II)V"⟩
abbrev cX9_findEverywhere : ByteArray := prog_11_method_16_code
def yX9_findEverywhere : MethodName := ⟨RX9, "findEverywhere", "(LToolPlex$Text;II)V"⟩
abbrev cX9_faultsOf : ByteArray := prog_11_method_17_code
def yX9_faultsOf : MethodName := ⟨RX9, "faultsOf", "(I)LToolPlex$Message;"⟩
def RX10 : String := "ToolPlex$Text"
def TX10 : u_T := fun k => match k with
  | 0 => ("ToolPlex$Text", "units", "[C", true)
  | _ => ("ToolPlex$Text", "length", "I", false)
def tyX10 : Nat → FieldType := fun k => match k with
  | 0 => .array .char
  | _ => .int
theorem nmX10 : ∀ a, a < 2 → ∀ b, b < 2 → a ≠ b → (TX10 a).2.1 ≠ (TX10 b).2.1 := by decide +kernel
theorem tyX10_ok : ∀ k, k < 2 → parseFieldDescriptor (TX10 k).2.2.1 = some (tyX10 k) := by decide +kernel
abbrev cX10_init : ByteArray := prog_12_method_1_code
def yX10_init : MethodName := ⟨RX10, "<init>", "()V"⟩
abbrev cX10_isLetter : ByteArray := prog_12_method_2_code
def yX10_isLetter : MethodName := ⟨RX10, "isLetter", "(I)Z"⟩
abbrev cX10_isDigit : ByteArray := prog_12_method_3_code
def yX10_isDigit : MethodName := ⟨RX10, "isDigit", "(I)Z"⟩
abbrev cX10_isFace : ByteArray := prog_12_method_4_code
def yX10_isFace : MethodName := ⟨RX10, "isFace", "(I)Z"⟩
abbrev cX10_isCharacter : ByteArray := prog_12_method_5_code
def yX10_isCharacter : MethodName := ⟨RX10, "isCharacter", "(I)Z"⟩
abbrev cX10_unitsOf : ByteArray := prog_12_method_6_code
def yX10_unitsOf : MethodName := ⟨RX10, "unitsOf", "(I)I"⟩
abbrev cX10_size : ByteArray := prog_12_method_7_code
def yX10_size : MethodName := ⟨RX10, "size", "()I"⟩
abbrev cX10_at : ByteArray := prog_12_method_8_code
def yX10_at : MethodName := ⟨RX10, "at", "(I)I"⟩
abbrev cX10_takeAll : ByteArray := prog_12_method_9_code
def yX10_takeAll : MethodName := ⟨RX10, "takeAll", "(LToolPlex$Text;)V"⟩
abbrev cX10_takePart : ByteArray := prog_12_method_10_code
def yX10_takePart : MethodName := ⟨RX10, "takePart", "(LToolPlex$Text;II)V"⟩
abbrev cX10_canReplace : ByteArray := prog_12_method_11_code
def yX10_canReplace : MethodName := ⟨RX10, "canReplace", "(III)Z"⟩
abbrev cX10_replace : ByteArray := prog_12_method_12_code
def yX10_replace : MethodName := ⟨RX10, "replace", "(III)V"⟩
abbrev cX10_isSame : ByteArray := prog_12_method_13_code
def yX10_isSame : MethodName := ⟨RX10, "isSame", "(LToolPlex$Text;)Z"⟩
abbrev cX10_placeOf : ByteArray := prog_12_method_14_code
def yX10_placeOf : MethodName := ⟨RX10, "placeOf", "(II)I"⟩
abbrev cX10_lineOf : ByteArray := prog_12_method_15_code
def yX10_lineOf : MethodName := ⟨RX10, "lineOf", "(I)I"⟩
abbrev cX10_lineStart : ByteArray := prog_12_method_16_code
def yX10_lineStart : MethodName := ⟨RX10, "lineStart", "(I)I"⟩
abbrev cX10_lineEnd : ByteArray := prog_12_method_17_code
def yX10_lineEnd : MethodName := ⟨RX10, "lineEnd", "(I)I"⟩
abbrev cX10_sortAt : ByteArray := prog_12_method_18_code
def yX10_sortAt : MethodName := ⟨RX10, "sortAt", "(I)I"⟩
abbrev cX10_tokenValue : ByteArray := prog_12_method_19_code
def yX10_tokenValue : MethodName := ⟨RX10, "tokenValue", "(I)I"⟩
abbrev cX10_nextRun : ByteArray := prog_12_method_20_code
def yX10_nextRun : MethodName := ⟨RX10, "nextRun", "(II)I"⟩
abbrev cX10_runEnd : ByteArray := prog_12_method_21_code
def yX10_runEnd : MethodName := ⟨RX10, "runEnd", "(I)I"⟩
abbrev cX10_runAt : ByteArray := prog_12_method_22_code
def yX10_runAt : MethodName := ⟨RX10, "runAt", "(II)I"⟩
abbrev cX10_alike : ByteArray := prog_12_method_23_code
def yX10_alike : MethodName := ⟨RX10, "alike", "(IILToolPlex$Text;II)Z"⟩
abbrev cX10_compareRuns : ByteArray := prog_12_method_24_code
def yX10_compareRuns : MethodName := ⟨RX10, "compareRuns", "(IIII)I"⟩
def RX11 : String := "ToolPlex"
def TX11 : u_T := fun k => match k with
  | 0 => ("ToolPlex", "files", "LToolPlex$Files;", true)
  | 1 => ("ToolPlex", "channels", "[LToolPlex$Channel;", true)
  | 2 => ("ToolPlex", "editors", "[LToolPlex$Editor;", true)
  | 3 => ("ToolPlex", "servers", "Ljava/util/ArrayList;", true)
  | 4 => ("ToolPlex", "multiplexer", "LToolPlex$Multiplexer;", true)
  | _ => ("ToolPlex", "scratch", "LToolPlex$Text;", true)
def tyX11 : Nat → FieldType := fun k => match k with
  | 0 => .object "ToolPlex$Files"
  | 1 => .array (.object "ToolPlex$Channel")
  | 2 => .array (.object "ToolPlex$Editor")
  | 3 => .object "java/util/ArrayList"
  | 4 => .object "ToolPlex$Multiplexer"
  | _ => .object "ToolPlex$Text"
theorem nmX11 : ∀ a, a < 6 → ∀ b, b < 6 → a ≠ b → (TX11 a).2.1 ≠ (TX11 b).2.1 := by decide +kernel
theorem tyX11_ok : ∀ k, k < 6 → parseFieldDescriptor (TX11 k).2.2.1 = some (tyX11 k) := by decide +kernel
abbrev cX11_init : ByteArray := prog_1_method_1_code
def yX11_init : MethodName := ⟨RX11, "<init>", "()V"⟩
abbrev cX11_file : ByteArray := prog_1_method_2_code
def yX11_file : MethodName := ⟨RX11, "file", "(II)I"⟩
abbrev cX11_store : ByteArray := prog_1_method_3_code
def yX11_store : MethodName := ⟨RX11, "store", "(II)I"⟩
abbrev cX11_server : ByteArray := prog_1_method_4_code
def yX11_server : MethodName := ⟨RX11, "server", "(III)I"⟩
abbrev cX11_name : ByteArray := prog_1_method_5_code
def yX11_name : MethodName := ⟨RX11, "name", "(I)C"⟩
abbrev cX11_open : ByteArray := prog_1_method_6_code
def yX11_open : MethodName := ⟨RX11, "open", "(II)I"⟩
abbrev cX11_close : ByteArray := prog_1_method_7_code
def yX11_close : MethodName := ⟨RX11, "close", "(II)V"⟩
abbrev cX11_change : ByteArray := prog_1_method_8_code
def yX11_change : MethodName := ⟨RX11, "change", "(IIIIIII)I"⟩
abbrev cX11_request : ByteArray := prog_1_method_9_code
def yX11_request : MethodName := ⟨RX11, "request", "(IIIIII)I"⟩
abbrev cX11_cancel : ByteArray := prog_1_method_10_code
def yX11_cancel : MethodName := ⟨RX11, "cancel", "(II)V"⟩
abbrev cX11_apply : ByteArray := prog_1_method_11_code
def yX11_apply : MethodName := ⟨RX11, "apply", "(II)I"⟩
abbrev cX11_answer : ByteArray := prog_1_method_12_code
def yX11_answer : MethodName := ⟨RX11, "answer", "(II)I"⟩
abbrev cX11_tellFaults : ByteArray := prog_1_method_13_code
def yX11_tellFaults : MethodName := ⟨RX11, "tellFaults", "(II)I"⟩
abbrev cX11_crash : ByteArray := prog_1_method_14_code
def yX11_crash : MethodName := ⟨RX11, "crash", "(I)I"⟩
abbrev cX11_start : ByteArray := prog_1_method_15_code
def yX11_start : MethodName := ⟨RX11, "start", "(I)I"⟩
abbrev cX11_deliver : ByteArray := prog_1_method_16_code
def yX11_deliver : MethodName := ⟨RX11, "deliver", "(I)I"⟩
abbrev cX11_deliverAll : ByteArray := prog_1_method_17_code
def yX11_deliverAll : MethodName := ⟨RX11, "deliverAll", "()I"⟩
abbrev cX11_waiting : ByteArray := prog_1_method_18_code
def yX11_waiting : MethodName := ⟨RX11, "waiting", "(I)I"⟩
abbrev cX11_version : ByteArray := prog_1_method_19_code
def yX11_version : MethodName := ⟨RX11, "version", "(II)I"⟩
abbrev cX11_unit : ByteArray := prog_1_method_20_code
def yX11_unit : MethodName := ⟨RX11, "unit", "(III)C"⟩
abbrev cX11_agree : ByteArray := prog_1_method_21_code
def yX11_agree : MethodName := ⟨RX11, "agree", "(I)Z"⟩
abbrev cX11_standing : ByteArray := prog_1_method_22_code
def yX11_standing : MethodName := ⟨RX11, "standing", "(II)I"⟩
abbrev cX11_item : ByteArray := prog_1_method_23_code
def yX11_item : MethodName := ⟨RX11, "item", "(III)I"⟩
abbrev cX11_value : ByteArray := prog_1_method_24_code
def yX11_value : MethodName := ⟨RX11, "value", "(III)I"⟩
abbrev cX11_token : ByteArray := prog_1_method_25_code
def yX11_token : MethodName := ⟨RX11, "token", "(III)I"⟩
abbrev cX11_id : ByteArray := prog_1_method_26_code
def yX11_id : MethodName := ⟨RX11, "id", "(III)I"⟩
abbrev cX11_faults : ByteArray := prog_1_method_27_code
def yX11_faults : MethodName := ⟨RX11, "faults", "(II)I"⟩
abbrev cX11_fault : ByteArray := prog_1_method_28_code
def yX11_fault : MethodName := ⟨RX11, "fault", "(III)I"⟩
abbrev cX11_editorAt : ByteArray := prog_1_method_29_code
def yX11_editorAt : MethodName := ⟨RX11, "editorAt", "(I)LToolPlex$Editor;"⟩
abbrev cX11_serverAt : ByteArray := prog_1_method_30_code
def yX11_serverAt : MethodName := ⟨RX11, "serverAt", "(I)LToolPlex$Server;"⟩
abbrev cX11_askAt : ByteArray := prog_1_method_31_code
def yX11_askAt : MethodName := ⟨RX11, "askAt", "(LToolPlex$Editor;I)LToolPlex$Ask;"⟩
abbrev cX11_copyFor : ByteArray := prog_1_method_32_code
def yX11_copyFor : MethodName := ⟨RX11, "copyFor", "(II)LToolPlex$Copy;"⟩
abbrev cX11_checkFile : ByteArray := prog_1_method_33_code
def yX11_checkFile : MethodName := ⟨RX11, "checkFile", "(I)V"⟩
abbrev cX11_checkChannel : ByteArray := prog_1_method_34_code
def yX11_checkChannel : MethodName := ⟨RX11, "checkChannel", "(I)V"⟩
abbrev cX11_checkItem : ByteArray := prog_1_method_35_code
def yX11_checkItem : MethodName := ⟨RX11, "checkItem", "(LToolPlex$Ask;I)V"⟩
abbrev cX11_checkCode : ByteArray := prog_1_method_36_code
def yX11_checkCode : MethodName := ⟨RX11, "checkCode", "(I)V"⟩
abbrev cX11_checkPosition : ByteArray := prog_1_method_37_code
def yX11_checkPosition : MethodName := ⟨RX11, "checkPosition", "(II)V"⟩
abbrev cX11_checkOpen : ByteArray := prog_1_method_38_code
def yX11_checkOpen : MethodName := ⟨RX11, "checkOpen", "(LToolPlex$Editor;I)V"⟩
abbrev cX11_isEdit : ByteArray := prog_1_method_39_code
def yX11_isEdit : MethodName := ⟨RX11, "isEdit", "(I)Z"⟩
abbrev cX11_isMoved : ByteArray := prog_1_method_40_code
def yX11_isMoved : MethodName := ⟨RX11, "isMoved", "(I)Z"⟩
abbrev cX11_send : ByteArray := prog_1_method_41_code
def yX11_send : MethodName := ⟨RX11, "send", "(ILToolPlex$Message;)V"⟩
abbrev cX11_lose : ByteArray := prog_1_method_42_code
def yX11_lose : MethodName := ⟨RX11, "lose", "(I)I"⟩
abbrev cX11_held : ByteArray := prog_1_method_43_code
def yX11_held : MethodName := ⟨RX11, "held", "(I)I"⟩
abbrev cX11_lowestChannel : ByteArray := prog_1_method_44_code
def yX11_lowestChannel : MethodName := ⟨RX11, "lowestChannel", "()I"⟩
abbrev cX11_pass : ByteArray := prog_1_method_45_code
def yX11_pass : MethodName := ⟨RX11, "pass", "(I)I"⟩
abbrev cX11_passToEditor : ByteArray := prog_1_method_46_code
def yX11_passToEditor : MethodName := ⟨RX11, "passToEditor", "(ILToolPlex$Message;)V"⟩
abbrev cX11_versionsOf : ByteArray := prog_1_method_47_code
def yX11_versionsOf : MethodName := ⟨RX11, "versionsOf", "([LToolPlex$Copy;)[I"⟩
def RX12 : String := "ToolPlexModel"
def TX12 : u_T := fun k => match k with
  | 0 => ("ToolPlexModel", "text", "[I", true)
  | 1 => ("ToolPlexModel", "length", "[I", true)
  | 2 => ("ToolPlexModel", "files", "I", false)
  | 3 => ("ToolPlexModel", "name", "[I", true)
  | 4 => ("ToolPlexModel", "language", "[I", true)
  | 5 => ("ToolPlexModel", "version", "[I", true)
  | 6 => ("ToolPlexModel", "opener", "[I", true)
  | 7 => ("ToolPlexModel", "openedAt", "[I", true)
  | 8 => ("ToolPlexModel", "editLog", "[I", true)
  | 9 => ("ToolPlexModel", "isKept", "[Z", true)
  | 10 => ("ToolPlexModel", "keptVersion", "[I", true)
  | 11 => ("ToolPlexModel", "keptSince", "[I", true)
  | 12 => ("ToolPlexModel", "keptFrom", "[I", true)
  | 13 => ("ToolPlexModel", "takenMost", "[I", true)
  | 14 => ("ToolPlexModel", "keptLog", "[I", true)
  | 15 => ("ToolPlexModel", "servers", "I", false)
  | 16 => ("ToolPlexModel", "kinds", "[I", true)
  | 17 => ("ToolPlexModel", "languages", "[I", true)
  | 18 => ("ToolPlexModel", "style", "[I", true)
  | 19 => ("ToolPlexModel", "isUp", "[Z", true)
  | 20 => ("ToolPlexModel", "isServed", "[Z", true)
  | 21 => ("ToolPlexModel", "servedVersion", "[I", true)
  | 22 => ("ToolPlexModel", "has", "[I", true)
  | 23 => ("ToolPlexModel", "hasId", "[I", true)
  | 24 => ("ToolPlexModel", "hasKind", "[I", true)
  | 25 => ("ToolPlexModel", "hasFile", "[I", true)
  | 26 => ("ToolPlexModel", "hasPlace", "[I", true)
  | 27 => ("ToolPlexModel", "asked", "[I", true)
  | 28 => ("ToolPlexModel", "kind", "[I", true)
  | 29 => ("ToolPlexModel", "file", "[I", true)
  | 30 => ("ToolPlexModel", "askedFor", "[I", true)
  | 31 => ("ToolPlexModel", "letter", "[I", true)
  | 32 => ("ToolPlexModel", "standing", "[I", true)
  | 33 => ("ToolPlexModel", "isLive", "[Z", true)
  | 34 => ("ToolPlexModel", "order", "[I", true)
  | 35 => ("ToolPlexModel", "ids", "[I", true)
  | 36 => ("ToolPlexModel", "phase", "[I", true)
  | 37 => ("ToolPlexModel", "givenVersion", "[I", true)
  | 38 => ("ToolPlexModel", "givenVersions", "[I", true)
  | 39 => ("ToolPlexModel", "nextId", "I", false)
  | 40 => ("ToolPlexModel", "orders", "I", false)
  | 41 => ("ToolPlexModel", "next", "[I", true)
  | 42 => ("ToolPlexModel", "what", "[I", true)
  | 43 => ("ToolPlexModel", "ofFile", "[I", true)
  | 44 => ("ToolPlexModel", "ofVersion", "[I", true)
  | 45 => ("ToolPlexModel", "line", "[I", true)
  | 46 => ("ToolPlexModel", "unit", "[I", true)
  | 47 => ("ToolPlexModel", "toLine", "[I", true)
  | 48 => ("ToolPlexModel", "toUnit", "[I", true)
  | 49 => ("ToolPlexModel", "code", "[I", true)
  | 50 => ("ToolPlexModel", "number", "[I", true)
  | 51 => ("ToolPlexModel", "ofKind", "[I", true)
  | 52 => ("ToolPlexModel", "inText", "[I", true)
  | 53 => ("ToolPlexModel", "versions", "[I", true)
  | 54 => ("ToolPlexModel", "freeMessage", "I", false)
  | 55 => ("ToolPlexModel", "isTextUsed", "[Z", true)
  | 56 => ("ToolPlexModel", "front", "[I", true)
  | 57 => ("ToolPlexModel", "back", "[I", true)
  | 58 => ("ToolPlexModel", "waits", "[I", true)
  | 59 => ("ToolPlexModel", "head", "[I", true)
  | 60 => ("ToolPlexModel", "tail", "[I", true)
  | 61 => ("ToolPlexModel", "count", "[I", true)
  | 62 => ("ToolPlexModel", "itemNext", "[I", true)
  | 63 => ("ToolPlexModel", "itemFile", "[I", true)
  | 64 => ("ToolPlexModel", "start", "[I", true)
  | 65 => ("ToolPlexModel", "end", "[I", true)
  | 66 => ("ToolPlexModel", "value", "[I", true)
  | 67 => ("ToolPlexModel", "freeItem", "I", false)
  | 68 => ("ToolPlexModel", "runFrom", "I", false)
  | 69 => ("ToolPlexModel", "runTo", "I", false)
  | 70 => ("ToolPlexModel", "runs", "I", false)
  | 71 => ("ToolPlexModel", "from", "[I", true)
  | 72 => ("ToolPlexModel", "to", "[I", true)
  | 73 => ("ToolPlexModel", "worth", "[I", true)
  | _ => ("ToolPlexModel", "thrown", "I", false)
def tyX12 : Nat → FieldType := fun k => match k with
  | 0 => .array .int
  | 1 => .array .int
  | 2 => .int
  | 3 => .array .int
  | 4 => .array .int
  | 5 => .array .int
  | 6 => .array .int
  | 7 => .array .int
  | 8 => .array .int
  | 9 => .array .boolean
  | 10 => .array .int
  | 11 => .array .int
  | 12 => .array .int
  | 13 => .array .int
  | 14 => .array .int
  | 15 => .int
  | 16 => .array .int
  | 17 => .array .int
  | 18 => .array .int
  | 19 => .array .boolean
  | 20 => .array .boolean
  | 21 => .array .int
  | 22 => .array .int
  | 23 => .array .int
  | 24 => .array .int
  | 25 => .array .int
  | 26 => .array .int
  | 27 => .array .int
  | 28 => .array .int
  | 29 => .array .int
  | 30 => .array .int
  | 31 => .array .int
  | 32 => .array .int
  | 33 => .array .boolean
  | 34 => .array .int
  | 35 => .array .int
  | 36 => .array .int
  | 37 => .array .int
  | 38 => .array .int
  | 39 => .int
  | 40 => .int
  | 41 => .array .int
  | 42 => .array .int
  | 43 => .array .int
  | 44 => .array .int
  | 45 => .array .int
  | 46 => .array .int
  | 47 => .array .int
  | 48 => .array .int
  | 49 => .array .int
  | 50 => .array .int
  | 51 => .array .int
  | 52 => .array .int
  | 53 => .array .int
  | 54 => .int
  | 55 => .array .boolean
  | 56 => .array .int
  | 57 => .array .int
  | 58 => .array .int
  | 59 => .array .int
  | 60 => .array .int
  | 61 => .array .int
  | 62 => .array .int
  | 63 => .array .int
  | 64 => .array .int
  | 65 => .array .int
  | 66 => .array .int
  | 67 => .int
  | 68 => .int
  | 69 => .int
  | 70 => .int
  | 71 => .array .int
  | 72 => .array .int
  | 73 => .array .int
  | _ => .int
theorem nmX12 : ∀ a, a < 75 → ∀ b, b < 75 → a ≠ b → (TX12 a).2.1 ≠ (TX12 b).2.1 := by decide +kernel
theorem tyX12_ok : ∀ k, k < 75 → parseFieldDescriptor (TX12 k).2.2.1 = some (tyX12 k) := by decide +kernel
abbrev cX12_init : ByteArray := prog_14_method_1_code
def yX12_init : MethodName := ⟨RX12, "<init>", "()V"⟩
abbrev cX12_thrown : ByteArray := prog_14_method_2_code
def yX12_thrown : MethodName := ⟨RX12, "thrown", "()I"⟩
abbrev cX12_fails : ByteArray := prog_14_method_3_code
def yX12_fails : MethodName := ⟨RX12, "fails", "(I)Z"⟩
abbrev cX12_isIn : ByteArray := prog_14_method_4_code
def yX12_isIn : MethodName := ⟨RX12, "isIn", "(III)Z"⟩
abbrev cX12_isFile : ByteArray := prog_14_method_5_code
def yX12_isFile : MethodName := ⟨RX12, "isFile", "(I)Z"⟩
abbrev cX12_isEditor : ByteArray := prog_14_method_6_code
def yX12_isEditor : MethodName := ⟨RX12, "isEditor", "(I)Z"⟩
abbrev cX12_isServer : ByteArray := prog_14_method_7_code
def yX12_isServer : MethodName := ⟨RX12, "isServer", "(I)Z"⟩
abbrev cX12_isRequest : ByteArray := prog_14_method_8_code
def yX12_isRequest : MethodName := ⟨RX12, "isRequest", "(II)Z"⟩
abbrev cX12_adds : ByteArray := prog_14_method_9_code
def yX12_adds : MethodName := ⟨RX12, "adds", "(IIIII)V"⟩
abbrev cX12_empties : ByteArray := prog_14_method_10_code
def yX12_empties : MethodName := ⟨RX12, "empties", "(I)V"⟩
abbrev cX12_hands : ByteArray := prog_14_method_11_code
def yX12_hands : MethodName := ⟨RX12, "hands", "(II)V"⟩
abbrev cX12_copies : ByteArray := prog_14_method_12_code
def yX12_copies : MethodName := ⟨RX12, "copies", "(II)V"⟩
abbrev cX12_itemAt : ByteArray := prog_14_method_13_code
def yX12_itemAt : MethodName := ⟨RX12, "itemAt", "(II)I"⟩
abbrev cX12_hasFile : ByteArray := prog_14_method_14_code
def yX12_hasFile : MethodName := ⟨RX12, "hasFile", "(II)Z"⟩
abbrev cX12_shifts : ByteArray := prog_14_method_15_code
def yX12_shifts : MethodName := ⟨RX12, "shifts", "(IIIII)V"⟩
abbrev cX12_unitAt : ByteArray := prog_14_method_16_code
def yX12_unitAt : MethodName := ⟨RX12, "unitAt", "(II)I"⟩
abbrev cX12_writes : ByteArray := prog_14_method_17_code
def yX12_writes : MethodName := ⟨RX12, "writes", "(II)V"⟩
abbrev cX12_isCode : ByteArray := prog_14_method_18_code
def yX12_isCode : MethodName := ⟨RX12, "isCode", "(I)Z"⟩
abbrev cX12_units : ByteArray := prog_14_method_19_code
def yX12_units : MethodName := ⟨RX12, "units", "(I)I"⟩
abbrev cX12_replaces : ByteArray := prog_14_method_20_code
def yX12_replaces : MethodName := ⟨RX12, "replaces", "(IIII)V"⟩
abbrev cX12_placeOf : ByteArray := prog_14_method_21_code
def yX12_placeOf : MethodName := ⟨RX12, "placeOf", "(III)I"⟩
abbrev cX12_lineOf : ByteArray := prog_14_method_22_code
def yX12_lineOf : MethodName := ⟨RX12, "lineOf", "(II)I"⟩
abbrev cX12_inLine : ByteArray := prog_14_method_23_code
def yX12_inLine : MethodName := ⟨RX12, "inLine", "(II)I"⟩
abbrev cX12_classAt : ByteArray := prog_14_method_24_code
def yX12_classAt : MethodName := ⟨RX12, "classAt", "(II)I"⟩
abbrev cX12_findsRun : ByteArray := prog_14_method_25_code
def yX12_findsRun : MethodName := ⟨RX12, "findsRun", "(III)Z"⟩
abbrev cX12_findsAll : ByteArray := prog_14_method_26_code
def yX12_findsAll : MethodName := ⟨RX12, "findsAll", "(II)V"⟩
abbrev cX12_areAlike : ByteArray := prog_14_method_27_code
def yX12_areAlike : MethodName := ⟨RX12, "areAlike", "(IIIIII)Z"⟩
abbrev cX12_isAhead : ByteArray := prog_14_method_28_code
def yX12_isAhead : MethodName := ⟨RX12, "isAhead", "(IIIII)Z"⟩
abbrev cX12_runAt : ByteArray := prog_14_method_29_code
def yX12_runAt : MethodName := ⟨RX12, "runAt", "(I)I"⟩
abbrev cX12_file : ByteArray := prog_14_method_30_code
def yX12_file : MethodName := ⟨RX12, "file", "(II)I"⟩
abbrev cX12_isNamed : ByteArray := prog_14_method_31_code
def yX12_isNamed : MethodName := ⟨RX12, "isNamed", "(II)Z"⟩
abbrev cX12_makes : ByteArray := prog_14_method_32_code
def yX12_makes : MethodName := ⟨RX12, "makes", "(II)I"⟩
abbrev cX12_store : ByteArray := prog_14_method_33_code
def yX12_store : MethodName := ⟨RX12, "store", "(II)I"⟩
abbrev cX12_isQuiet : ByteArray := prog_14_method_34_code
def yX12_isQuiet : MethodName := ⟨RX12, "isQuiet", "()Z"⟩
abbrev cX12_server : ByteArray := prog_14_method_35_code
def yX12_server : MethodName := ⟨RX12, "server", "(III)I"⟩
abbrev cX12_name : ByteArray := prog_14_method_36_code
def yX12_name : MethodName := ⟨RX12, "name", "(I)C"⟩
abbrev cX12_sends : ByteArray := prog_14_method_37_code
def yX12_sends : MethodName := ⟨RX12, "sends", "(III)I"⟩
abbrev cX12_sendsOpen : ByteArray := prog_14_method_38_code
def yX12_sendsOpen : MethodName := ⟨RX12, "sendsOpen", "(IIII)V"⟩
abbrev cX12_takes : ByteArray := prog_14_method_39_code
def yX12_takes : MethodName := ⟨RX12, "takes", "(I)I"⟩
abbrev cX12_frees : ByteArray := prog_14_method_40_code
def yX12_frees : MethodName := ⟨RX12, "frees", "(I)V"⟩
abbrev cX12_open : ByteArray := prog_14_method_41_code
def yX12_open : MethodName := ⟨RX12, "open", "(II)I"⟩
abbrev cX12_slot : ByteArray := prog_14_method_42_code
def yX12_slot : MethodName := ⟨RX12, "slot", "(II)I"⟩
abbrev cX12_isStrict : ByteArray := prog_14_method_43_code
def yX12_isStrict : MethodName := ⟨RX12, "isStrict", "(I)Z"⟩
abbrev cX12_dies : ByteArray := prog_14_method_44_code
def yX12_dies : MethodName := ⟨RX12, "dies", "(I)V"⟩
abbrev cX12_close : ByteArray := prog_14_method_45_code
def yX12_close : MethodName := ⟨RX12, "close", "(II)V"⟩
abbrev cX12_logAt : ByteArray := prog_14_method_46_code
def yX12_logAt : MethodName := ⟨RX12, "logAt", "(II)I"⟩
abbrev cX12_changes : ByteArray := prog_14_method_47_code
def yX12_changes : MethodName := ⟨RX12, "changes", "(IIIII)V"⟩
abbrev cX12_tells : ByteArray := prog_14_method_48_code
def yX12_tells : MethodName := ⟨RX12, "tells", "(IIIIIII)V"⟩
abbrev cX12_isNumber : ByteArray := prog_14_method_49_code
def yX12_isNumber : MethodName := ⟨RX12, "isNumber", "(I)Z"⟩
abbrev cX12_change : ByteArray := prog_14_method_50_code
def yX12_change : MethodName := ⟨RX12, "change", "(IIIIIII)I"⟩
abbrev cX12_request : ByteArray := prog_14_method_51_code
def yX12_request : MethodName := ⟨RX12, "request", "(IIIIII)I"⟩
abbrev cX12_cancel : ByteArray := prog_14_method_52_code
def yX12_cancel : MethodName := ⟨RX12, "cancel", "(II)V"⟩
abbrev cX12_renamed : ByteArray := prog_14_method_53_code
def yX12_renamed : MethodName := ⟨RX12, "renamed", "(I)I"⟩
abbrev cX12_canApply : ByteArray := prog_14_method_54_code
def yX12_canApply : MethodName := ⟨RX12, "canApply", "(I)Z"⟩
abbrev cX12_puts : ByteArray := prog_14_method_55_code
def yX12_puts : MethodName := ⟨RX12, "puts", "(IIIII)V"⟩
abbrev cX12_apply : ByteArray := prog_14_method_56_code
def yX12_apply : MethodName := ⟨RX12, "apply", "(II)I"⟩
abbrev cX12_served : ByteArray := prog_14_method_57_code
def yX12_served : MethodName := ⟨RX12, "served", "(II)I"⟩
abbrev cX12_answers : ByteArray := prog_14_method_58_code
def yX12_answers : MethodName := ⟨RX12, "answers", "(IIIII)V"⟩
abbrev cX12_likes : ByteArray := prog_14_method_59_code
def yX12_likes : MethodName := ⟨RX12, "likes", "(II)I"⟩
abbrev cX12_completes : ByteArray := prog_14_method_60_code
def yX12_completes : MethodName := ⟨RX12, "completes", "(IIIII)V"⟩
abbrev cX12_renames : ByteArray := prog_14_method_61_code
def yX12_renames : MethodName := ⟨RX12, "renames", "(IIIII)V"⟩
abbrev cX12_answer : ByteArray := prog_14_method_62_code
def yX12_answer : MethodName := ⟨RX12, "answer", "(II)I"⟩
abbrev cX12_drops : ByteArray := prog_14_method_63_code
def yX12_drops : MethodName := ⟨RX12, "drops", "(II)V"⟩
abbrev cX12_tellFaults : ByteArray := prog_14_method_64_code
def yX12_tellFaults : MethodName := ⟨RX12, "tellFaults", "(II)I"⟩
abbrev cX12_loses : ByteArray := prog_14_method_65_code
def yX12_loses : MethodName := ⟨RX12, "loses", "(I)I"⟩
abbrev cX12_crash : ByteArray := prog_14_method_66_code
def yX12_crash : MethodName := ⟨RX12, "crash", "(I)I"⟩
abbrev cX12_start : ByteArray := prog_14_method_67_code
def yX12_start : MethodName := ⟨RX12, "start", "(I)I"⟩
abbrev cX12_deals : ByteArray := prog_14_method_68_code
def yX12_deals : MethodName := ⟨RX12, "deals", "(II)Z"⟩
abbrev cX12_takesOpen : ByteArray := prog_14_method_69_code
def yX12_takesOpen : MethodName := ⟨RX12, "takesOpen", "(II)V"⟩
abbrev cX12_takesChange : ByteArray := prog_14_method_70_code
def yX12_takesChange : MethodName := ⟨RX12, "takesChange", "(I)V"⟩
abbrev cX12_takesClose : ByteArray := prog_14_method_71_code
def yX12_takesClose : MethodName := ⟨RX12, "takesClose", "(I)V"⟩
abbrev cX12_replies : ByteArray := prog_14_method_72_code
def yX12_replies : MethodName := ⟨RX12, "replies", "(II)I"⟩
abbrev cX12_clears : ByteArray := prog_14_method_73_code
def yX12_clears : MethodName := ⟨RX12, "clears", "(I)V"⟩
abbrev cX12_cancels : ByteArray := prog_14_method_74_code
def yX12_cancels : MethodName := ⟨RX12, "cancels", "(I)V"⟩
abbrev cX12_takesRequest : ByteArray := prog_14_method_75_code
def yX12_takesRequest : MethodName := ⟨RX12, "takesRequest", "(I)V"⟩
abbrev cX12_takesAnswer : ByteArray := prog_14_method_76_code
def yX12_takesAnswer : MethodName := ⟨RX12, "takesAnswer", "(II)V"⟩
abbrev cX12_merges : ByteArray := prog_14_method_77_code
def yX12_merges : MethodName := ⟨RX12, "merges", "(I)V"⟩
abbrev cX12_leavesOut : ByteArray := prog_14_method_78_code
def yX12_leavesOut : MethodName := ⟨RX12, "leavesOut", "(I)Z"⟩
abbrev cX12_takesLowest : ByteArray := prog_14_method_79_code
def yX12_takesLowest : MethodName := ⟨RX12, "takesLowest", "(II)V"⟩
abbrev cX12_gathers : ByteArray := prog_14_method_80_code
def yX12_gathers : MethodName := ⟨RX12, "gathers", "(I)V"⟩
abbrev cX12_swaps : ByteArray := prog_14_method_81_code
def yX12_swaps : MethodName := ⟨RX12, "swaps", "(II)V"⟩
abbrev cX12_joinsCompletions : ByteArray := prog_14_method_82_code
def yX12_joinsCompletions : MethodName := ⟨RX12, "joinsCompletions", "(II)V"⟩
abbrev cX12_joinsSpans : ByteArray := prog_14_method_83_code
def yX12_joinsSpans : MethodName := ⟨RX12, "joinsSpans", "(II)V"⟩
abbrev cX12_hasItems : ByteArray := prog_14_method_84_code
def yX12_hasItems : MethodName := ⟨RX12, "hasItems", "(I)Z"⟩
abbrev cX12_keepsApart : ByteArray := prog_14_method_85_code
def yX12_keepsApart : MethodName := ⟨RX12, "keepsApart", "(I)V"⟩
abbrev cX12_takesFaults : ByteArray := prog_14_method_86_code
def yX12_takesFaults : MethodName := ⟨RX12, "takesFaults", "(I)V"⟩
abbrev cX12_serverTakes : ByteArray := prog_14_method_87_code
def yX12_serverTakes : MethodName := ⟨RX12, "serverTakes", "(II)V"⟩
abbrev cX12_follows : ByteArray := prog_14_method_88_code
def yX12_follows : MethodName := ⟨RX12, "follows", "(III)V"⟩
abbrev cX12_editorTakes : ByteArray := prog_14_method_89_code
def yX12_editorTakes : MethodName := ⟨RX12, "editorTakes", "(II)V"⟩
abbrev cX12_delivers : ByteArray := prog_14_method_90_code
def yX12_delivers : MethodName := ⟨RX12, "delivers", "(I)I"⟩
abbrev cX12_deliver : ByteArray := prog_14_method_91_code
def yX12_deliver : MethodName := ⟨RX12, "deliver", "(I)I"⟩
abbrev cX12_deliverAll : ByteArray := prog_14_method_92_code
def yX12_deliverAll : MethodName := ⟨RX12, "deliverAll", "()I"⟩
abbrev cX12_waiting : ByteArray := prog_14_method_93_code
def yX12_waiting : MethodName := ⟨RX12, "waiting", "(I)I"⟩
abbrev cX12_copy : ByteArray := prog_14_method_94_code
def yX12_copy : MethodName := ⟨RX12, "copy", "(II)I"⟩
abbrev cX12_isCopy : ByteArray := prog_14_method_95_code
def yX12_isCopy : MethodName := ⟨RX12, "isCopy", "(II)Z"⟩
abbrev cX12_version : ByteArray := prog_14_method_96_code
def yX12_version : MethodName := ⟨RX12, "version", "(II)I"⟩
abbrev cX12_unit : ByteArray := prog_14_method_97_code
def yX12_unit : MethodName := ⟨RX12, "unit", "(III)C"⟩
abbrev cX12_agree : ByteArray := prog_14_method_98_code
def yX12_agree : MethodName := ⟨RX12, "agree", "(I)Z"⟩
abbrev cX12_standing : ByteArray := prog_14_method_99_code
def yX12_standing : MethodName := ⟨RX12, "standing", "(II)I"⟩
abbrev cX12_isItem : ByteArray := prog_14_method_100_code
def yX12_isItem : MethodName := ⟨RX12, "isItem", "(III)Z"⟩
abbrev cX12_coded : ByteArray := prog_14_method_101_code
def yX12_coded : MethodName := ⟨RX12, "coded", "(I)I"⟩
abbrev cX12_item : ByteArray := prog_14_method_102_code
def yX12_item : MethodName := ⟨RX12, "item", "(III)I"⟩
abbrev cX12_value : ByteArray := prog_14_method_103_code
def yX12_value : MethodName := ⟨RX12, "value", "(III)I"⟩
abbrev cX12_token : ByteArray := prog_14_method_104_code
def yX12_token : MethodName := ⟨RX12, "token", "(III)I"⟩
abbrev cX12_id : ByteArray := prog_14_method_105_code
def yX12_id : MethodName := ⟨RX12, "id", "(III)I"⟩
abbrev cX12_faults : ByteArray := prog_14_method_106_code
def yX12_faults : MethodName := ⟨RX12, "faults", "(II)I"⟩
abbrev cX12_fault : ByteArray := prog_14_method_107_code
def yX12_fault : MethodName := ⟨RX12, "fault", "(III)I"⟩
def RJx145de : String := "java/io/Serializable"
def TJx145de : u_T := fun k => match k with
  | _ => ("", "", "", false)
def tyJx145de : Nat → FieldType := fun k => match k with
  | _ => .int
theorem nmJx145de : ∀ a, a < 0 → ∀ b, b < 0 → a ≠ b → (TJx145de a).2.1 ≠ (TJx145de b).2.1 := by decide +kernel
theorem tyJx145de_ok : ∀ k, k < 0 → parseFieldDescriptor (TJx145de k).2.2.1 = some (tyJx145de k) := by decide +kernel
def RJx8e188 : String := "java/lang/Cloneable"
def TJx8e188 : u_T := fun k => match k with
  | _ => ("", "", "", false)
def tyJx8e188 : Nat → FieldType := fun k => match k with
  | _ => .int
theorem nmJx8e188 : ∀ a, a < 0 → ∀ b, b < 0 → a ≠ b → (TJx8e188 a).2.1 ≠ (TJx8e188 b).2.1 := by decide +kernel
theorem tyJx8e188_ok : ∀ k, k < 0 → parseFieldDescriptor (TJx8e188 k).2.2.1 = some (tyJx8e188 k) := by decide +kernel
def RJxab1ab : String := "java/lang/Iterable"
def TJxab1ab : u_T := fun k => match k with
  | _ => ("", "", "", false)
def tyJxab1ab : Nat → FieldType := fun k => match k with
  | _ => .int
theorem nmJxab1ab : ∀ a, a < 0 → ∀ b, b < 0 → a ≠ b → (TJxab1ab a).2.1 ≠ (TJxab1ab b).2.1 := by decide +kernel
theorem tyJxab1ab_ok : ∀ k, k < 0 → parseFieldDescriptor (TJxab1ab k).2.2.1 = some (tyJxab1ab k) := by decide +kernel
def RJ9 : String := "java/lang/Math"
def TJ9 : u_T := fun k => match k with
  | _ => ("", "", "", false)
def tyJ9 : Nat → FieldType := fun k => match k with
  | _ => .int
theorem nmJ9 : ∀ a, a < 0 → ∀ b, b < 0 → a ≠ b → (TJ9 a).2.1 ≠ (TJ9 b).2.1 := by decide +kernel
theorem tyJ9_ok : ∀ k, k < 0 → parseFieldDescriptor (TJ9 k).2.2.1 = some (tyJ9 k) := by decide +kernel
abbrev cJ9_max_7cf53 : ByteArray := prog_22_method_65_code
def yJ9_max_7cf53 : MethodName := ⟨RJ9, "max", "(II)I"⟩
abbrev cJ9_min_7cf53 : ByteArray := prog_22_method_69_code
def yJ9_min_7cf53 : MethodName := ⟨RJ9, "min", "(II)I"⟩
def RJ0 : String := "java/lang/String"
def TJ0 : u_T := fun k => match k with
  | _ => ("", "", "", false)
def tyJ0 : Nat → FieldType := fun k => match k with
  | _ => .int
theorem nmJ0 : ∀ a, a < 0 → ∀ b, b < 0 → a ≠ b → (TJ0 a).2.1 ≠ (TJ0 b).2.1 := by decide +kernel
theorem tyJ0_ok : ∀ k, k < 0 → parseFieldDescriptor (TJ0 k).2.2.1 = some (tyJ0 k) := by decide +kernel
def RJ10 : String := "java/lang/System"
def TJ10 : u_T := fun k => match k with
  | _ => ("", "", "", false)
def tyJ10 : Nat → FieldType := fun k => match k with
  | _ => .int
theorem nmJ10 : ∀ a, a < 0 → ∀ b, b < 0 → a ≠ b → (TJ10 a).2.1 ≠ (TJ10 b).2.1 := by decide +kernel
theorem tyJ10_ok : ∀ k, k < 0 → parseFieldDescriptor (TJ10 k).2.2.1 = some (tyJ10 k) := by decide +kernel
def RJxa1e45 : String := "java/util/AbstractCollection"
def TJxa1e45 : u_T := fun k => match k with
  | _ => ("", "", "", false)
def tyJxa1e45 : Nat → FieldType := fun k => match k with
  | _ => .int
theorem nmJxa1e45 : ∀ a, a < 0 → ∀ b, b < 0 → a ≠ b → (TJxa1e45 a).2.1 ≠ (TJxa1e45 b).2.1 := by decide +kernel
theorem tyJxa1e45_ok : ∀ k, k < 0 → parseFieldDescriptor (TJxa1e45 k).2.2.1 = some (tyJxa1e45 k) := by decide +kernel
abbrev cJxa1e45_init_da8c8 : ByteArray := prog_27_method_1_code
def yJxa1e45_init_da8c8 : MethodName := ⟨RJxa1e45, "<init>", "()V"⟩
def RJxc12de : String := "java/util/AbstractList"
def TJxc12de : u_T := fun k => match k with
  | _ => ("", "", "", false)
def tyJxc12de : Nat → FieldType := fun k => match k with
  | _ => .int
theorem nmJxc12de : ∀ a, a < 0 → ∀ b, b < 0 → a ≠ b → (TJxc12de a).2.1 ≠ (TJxc12de b).2.1 := by decide +kernel
theorem tyJxc12de_ok : ∀ k, k < 0 → parseFieldDescriptor (TJxc12de k).2.2.1 = some (tyJxc12de k) := by decide +kernel
abbrev cJxc12de_init_da8c8 : ByteArray := prog_28_method_1_code
def yJxc12de_init_da8c8 : MethodName := ⟨RJxc12de, "<init>", "()V"⟩
def RJx4a65c : String := "java/util/ArrayList"
def TJx4a65c : u_T := fun k => match k with
  | 0 => ("java/util/AbstractList", "modCount", "I", false)
  | 1 => ("java/util/ArrayList", "elementData", "[Ljava/lang/Object;", false)
  | _ => ("java/util/ArrayList", "size", "I", false)
def tyJx4a65c : Nat → FieldType := fun k => match k with
  | 0 => .int
  | 1 => .array (.object "java/lang/Object")
  | _ => .int
theorem nmJx4a65c : ∀ a, a < 3 → ∀ b, b < 3 → a ≠ b → (TJx4a65c a).2.1 ≠ (TJx4a65c b).2.1 := by decide +kernel
theorem tyJx4a65c_ok : ∀ k, k < 3 → parseFieldDescriptor (TJx4a65c k).2.2.1 = some (tyJx4a65c k) := by decide +kernel
abbrev cJx4a65c_init_da8c8 : ByteArray := prog_29_method_2_code
def yJx4a65c_init_da8c8 : MethodName := ⟨RJx4a65c, "<init>", "()V"⟩
abbrev cJx4a65c_grow_92f84 : ByteArray := prog_29_method_6_code
def yJx4a65c_grow_92f84 : MethodName := ⟨RJx4a65c, "grow", "(I)[Ljava/lang/Object;"⟩
abbrev cJx4a65c_grow_d5877 : ByteArray := prog_29_method_7_code
def yJx4a65c_grow_d5877 : MethodName := ⟨RJx4a65c, "grow", "()[Ljava/lang/Object;"⟩
abbrev cJx4a65c_size_8abf5 : ByteArray := prog_29_method_8_code
def yJx4a65c_size_8abf5 : MethodName := ⟨RJx4a65c, "size", "()I"⟩
abbrev cJx4a65c_isEmpty_aae02 : ByteArray := prog_29_method_9_code
def yJx4a65c_isEmpty_aae02 : MethodName := ⟨RJx4a65c, "isEmpty", "()Z"⟩
abbrev cJx4a65c_elementData_915e3 : ByteArray := prog_29_method_18_code
def yJx4a65c_elementData_915e3 : MethodName := ⟨RJx4a65c, "elementData", "(I)Ljava/lang/Object;"⟩
abbrev cJx4a65c_get_915e3 : ByteArray := prog_29_method_20_code
def yJx4a65c_get_915e3 : MethodName := ⟨RJx4a65c, "get", "(I)Ljava/lang/Object;"⟩
abbrev cJx4a65c_add_72be8 : ByteArray := prog_29_method_24_code
def yJx4a65c_add_72be8 : MethodName := ⟨RJx4a65c, "add", "(Ljava/lang/Object;[Ljava/lang/Object;I)V"⟩
abbrev cJx4a65c_add_9ea2d : ByteArray := prog_29_method_25_code
def yJx4a65c_add_9ea2d : MethodName := ⟨RJx4a65c, "add", "(Ljava/lang/Object;)Z"⟩
abbrev cJx4a65c_remove_915e3 : ByteArray := prog_29_method_29_code
def yJx4a65c_remove_915e3 : MethodName := ⟨RJx4a65c, "remove", "(I)Ljava/lang/Object;"⟩
abbrev cJx4a65c_fastRemove_b59b0 : ByteArray := prog_29_method_39_code
def yJx4a65c_fastRemove_b59b0 : MethodName := ⟨RJx4a65c, "fastRemove", "([Ljava/lang/Object;I)V"⟩
abbrev cJx4a65c_clear_da8c8 : ByteArray := prog_29_method_40_code
def yJx4a65c_clear_da8c8 : MethodName := ⟨RJx4a65c, "clear", "()V"⟩
def RJ7 : String := "java/util/Arrays"
def TJ7 : u_T := fun k => match k with
  | _ => ("", "", "", false)
def tyJ7 : Nat → FieldType := fun k => match k with
  | _ => .int
theorem nmJ7 : ∀ a, a < 0 → ∀ b, b < 0 → a ≠ b → (TJ7 a).2.1 ≠ (TJ7 b).2.1 := by decide +kernel
theorem tyJ7_ok : ∀ k, k < 0 → parseFieldDescriptor (TJ7 k).2.2.1 = some (tyJ7 k) := by decide +kernel
abbrev cJ7_fill_53178 : ByteArray := prog_30_method_103_code
def yJ7_fill_53178 : MethodName := ⟨RJ7, "fill", "([II)V"⟩
abbrev cJ7_copyOf_1904c : ByteArray := prog_30_method_119_code
def yJ7_copyOf_1904c : MethodName := ⟨RJ7, "copyOf", "([Ljava/lang/Object;I)[Ljava/lang/Object;"⟩
abbrev cJ7_copyOf_6403c : ByteArray := prog_30_method_120_code
def yJ7_copyOf_6403c : MethodName := ⟨RJ7, "copyOf", "([Ljava/lang/Object;ILjava/lang/Class;)[Ljava/lang/Object;"⟩
abbrev cJ7_copyOf_59c91 : ByteArray := prog_30_method_123_code
def yJ7_copyOf_59c91 : MethodName := ⟨RJ7, "copyOf", "([II)[I"⟩
def RJx5ef63 : String := "java/util/Collection"
def TJx5ef63 : u_T := fun k => match k with
  | _ => ("", "", "", false)
def tyJx5ef63 : Nat → FieldType := fun k => match k with
  | _ => .int
theorem nmJx5ef63 : ∀ a, a < 0 → ∀ b, b < 0 → a ≠ b → (TJx5ef63 a).2.1 ≠ (TJx5ef63 b).2.1 := by decide +kernel
theorem tyJx5ef63_ok : ∀ k, k < 0 → parseFieldDescriptor (TJx5ef63 k).2.2.1 = some (tyJx5ef63 k) := by decide +kernel
def RJxbd725 : String := "java/util/List"
def TJxbd725 : u_T := fun k => match k with
  | _ => ("", "", "", false)
def tyJxbd725 : Nat → FieldType := fun k => match k with
  | _ => .int
theorem nmJxbd725 : ∀ a, a < 0 → ∀ b, b < 0 → a ≠ b → (TJxbd725 a).2.1 ≠ (TJxbd725 b).2.1 := by decide +kernel
theorem tyJxbd725_ok : ∀ k, k < 0 → parseFieldDescriptor (TJxbd725 k).2.2.1 = some (tyJxbd725 k) := by decide +kernel
def RJ15 : String := "java/util/Objects"
def TJ15 : u_T := fun k => match k with
  | _ => ("", "", "", false)
def tyJ15 : Nat → FieldType := fun k => match k with
  | _ => .int
theorem nmJ15 : ∀ a, a < 0 → ∀ b, b < 0 → a ≠ b → (TJ15 a).2.1 ≠ (TJ15 b).2.1 := by decide +kernel
theorem tyJ15_ok : ∀ k, k < 0 → parseFieldDescriptor (TJ15 k).2.2.1 = some (tyJ15 k) := by decide +kernel
abbrev cJ15_checkIndex_7cf53 : ByteArray := prog_33_method_17_code
def yJ15_checkIndex_7cf53 : MethodName := ⟨RJ15, "checkIndex", "(II)I"⟩
def RJxf0a74 : String := "java/util/RandomAccess"
def TJxf0a74 : u_T := fun k => match k with
  | _ => ("", "", "", false)
def tyJxf0a74 : Nat → FieldType := fun k => match k with
  | _ => .int
theorem nmJxf0a74 : ∀ a, a < 0 → ∀ b, b < 0 → a ≠ b → (TJxf0a74 a).2.1 ≠ (TJxf0a74 b).2.1 := by decide +kernel
theorem tyJxf0a74_ok : ∀ k, k < 0 → parseFieldDescriptor (TJxf0a74 k).2.2.1 = some (tyJxf0a74 k) := by decide +kernel
def RJxa66e6 : String := "java/util/SequencedCollection"
def TJxa66e6 : u_T := fun k => match k with
  | _ => ("", "", "", false)
def tyJxa66e6 : Nat → FieldType := fun k => match k with
  | _ => .int
theorem nmJxa66e6 : ∀ a, a < 0 → ∀ b, b < 0 → a ≠ b → (TJxa66e6 a).2.1 ≠ (TJxa66e6 b).2.1 := by decide +kernel
theorem tyJxa66e6_ok : ∀ k, k < 0 → parseFieldDescriptor (TJxa66e6 k).2.2.1 = some (tyJxa66e6 k) := by decide +kernel
def RJ8 : String := "jdk/internal/util/ArraysSupport"
def TJ8 : u_T := fun k => match k with
  | _ => ("", "", "", false)
def tyJ8 : Nat → FieldType := fun k => match k with
  | _ => .int
theorem nmJ8 : ∀ a, a < 0 → ∀ b, b < 0 → a ≠ b → (TJ8 a).2.1 ≠ (TJ8 b).2.1 := by decide +kernel
theorem tyJ8_ok : ∀ k, k < 0 → parseFieldDescriptor (TJ8 k).2.2.1 = some (tyJ8 k) := by decide +kernel
abbrev cJ8_newLength_cabcc : ByteArray := prog_36_method_27_code
def yJ8_newLength_cabcc : MethodName := ⟨RJ8, "newLength", "(III)I"⟩
abbrev cJ8_hugeLength_7cf53 : ByteArray := prog_36_method_28_code
def yJ8_hugeLength_7cf53 : MethodName := ⟨RJ8, "hugeLength", "(II)I"⟩
def RJ3 : String := "jdk/internal/util/Preconditions"
def TJ3 : u_T := fun k => match k with
  | _ => ("", "", "", false)
def tyJ3 : Nat → FieldType := fun k => match k with
  | _ => .int
theorem nmJ3 : ∀ a, a < 0 → ∀ b, b < 0 → a ≠ b → (TJ3 a).2.1 ≠ (TJ3 b).2.1 := by decide +kernel
theorem tyJ3_ok : ∀ k, k < 0 → parseFieldDescriptor (TJ3 k).2.2.1 = some (tyJ3 k) := by decide +kernel
abbrev cJ3_checkIndex_8e157 : ByteArray := prog_37_method_11_code
def yJ3_checkIndex_8e157 : MethodName := ⟨RJ3, "checkIndex", "(IILjava/util/function/BiFunction;)I"⟩
def RL : String := "ToolPlexLaw"
abbrev cL_file : ByteArray := method_3_code
def yL_file : MethodName := ⟨RL, "file", "(LToolPlex;II[J)I"⟩
abbrev cL_store : ByteArray := method_4_code
def yL_store : MethodName := ⟨RL, "store", "(LToolPlex;II[J)I"⟩
abbrev cL_server : ByteArray := method_5_code
def yL_server : MethodName := ⟨RL, "server", "(LToolPlex;III[J)I"⟩
abbrev cL_name : ByteArray := method_6_code
def yL_name : MethodName := ⟨RL, "name", "(LToolPlex;I[J)I"⟩
abbrev cL_open : ByteArray := method_7_code
def yL_open : MethodName := ⟨RL, "open", "(LToolPlex;II[J)I"⟩
abbrev cL_close : ByteArray := method_8_code
def yL_close : MethodName := ⟨RL, "close", "(LToolPlex;II)I"⟩
abbrev cL_change : ByteArray := method_9_code
def yL_change : MethodName := ⟨RL, "change", "(LToolPlex;IIIIIII[J)I"⟩
abbrev cL_request : ByteArray := method_10_code
def yL_request : MethodName := ⟨RL, "request", "(LToolPlex;IIIIII[J)I"⟩
abbrev cL_cancel : ByteArray := method_11_code
def yL_cancel : MethodName := ⟨RL, "cancel", "(LToolPlex;II)I"⟩
abbrev cL_apply : ByteArray := method_12_code
def yL_apply : MethodName := ⟨RL, "apply", "(LToolPlex;II[J)I"⟩
abbrev cL_answer : ByteArray := method_13_code
def yL_answer : MethodName := ⟨RL, "answer", "(LToolPlex;II[J)I"⟩
abbrev cL_tellFaults : ByteArray := method_14_code
def yL_tellFaults : MethodName := ⟨RL, "tellFaults", "(LToolPlex;II[J)I"⟩
abbrev cL_crash : ByteArray := method_15_code
def yL_crash : MethodName := ⟨RL, "crash", "(LToolPlex;I[J)I"⟩
abbrev cL_start : ByteArray := method_16_code
def yL_start : MethodName := ⟨RL, "start", "(LToolPlex;I[J)I"⟩
abbrev cL_deliver : ByteArray := method_17_code
def yL_deliver : MethodName := ⟨RL, "deliver", "(LToolPlex;I[J)I"⟩
abbrev cL_waiting : ByteArray := method_18_code
def yL_waiting : MethodName := ⟨RL, "waiting", "(LToolPlex;I[J)I"⟩
abbrev cL_version : ByteArray := method_19_code
def yL_version : MethodName := ⟨RL, "version", "(LToolPlex;II[J)I"⟩
abbrev cL_unit : ByteArray := method_20_code
def yL_unit : MethodName := ⟨RL, "unit", "(LToolPlex;III[J)I"⟩
abbrev cL_agree : ByteArray := method_21_code
def yL_agree : MethodName := ⟨RL, "agree", "(LToolPlex;I[J)I"⟩
abbrev cL_standing : ByteArray := method_22_code
def yL_standing : MethodName := ⟨RL, "standing", "(LToolPlex;II[J)I"⟩
abbrev cL_item : ByteArray := method_23_code
def yL_item : MethodName := ⟨RL, "item", "(LToolPlex;III[J)I"⟩
abbrev cL_value : ByteArray := method_24_code
def yL_value : MethodName := ⟨RL, "value", "(LToolPlex;III[J)I"⟩
abbrev cL_token : ByteArray := method_25_code
def yL_token : MethodName := ⟨RL, "token", "(LToolPlex;III[J)I"⟩
abbrev cL_id : ByteArray := method_26_code
def yL_id : MethodName := ⟨RL, "id", "(LToolPlex;III[J)I"⟩
abbrev cL_faults : ByteArray := method_27_code
def yL_faults : MethodName := ⟨RL, "faults", "(LToolPlex;II[J)I"⟩
abbrev cL_fault : ByteArray := method_28_code
def yL_fault : MethodName := ⟨RL, "fault", "(LToolPlex;III[J)I"⟩
abbrev cL_law : ByteArray := code
def yL_law : MethodName := ⟨RL, "law", "([I)Z"⟩
abbrev vwCl : List vw_C := [(RJx4a65c, TJx4a65c, 3), (RX0, TX0, 5), (RX1, TX1, 1), (RX2, TX2, 7), (RX3, TX3, 8), (RX4, TX4, 7), (RX5, TX5, 2), (RX6, TX6, 17), (RX7, TX7, 12), (RX8, TX8, 3), (RX9, TX9, 9), (RX10, TX10, 2), (RX11, TX11, 6), (RX12, TX12, 75)]
end
section
/-! my own rows: one list of words for all methods, one start and one end for all contracts, calls -/
def myGood (w : Cond) : Bool := goodWord w || (w.onTables && w.keepsH) || (match w with | .castable .. => true | .declares _ => true | _ => false)
def GT : List Cond := lw_tbl.filter myGood
def cn (y : MethodName) (b : ByteArray) (n : Nat) (r : Option FieldType) : List Cond := Cond.code y b n r :: GT
def cnW (y : MethodName) (b : ByteArray) (n : Nat) (r : Option FieldType) (hh : List (Nat × Nat × Nat × Nat)) : List Cond := Cond.codeWith y b n r hh :: GT
theorem gt {w : Cond} (i : Nat) (h : lw_tbl[i]? = some w) (g : myGood w = true) : w ∈ GT := List.mem_filter.mpr ⟨List.mem_of_getElem? h, g⟩
theorem gts {ws : List Cond} (ps : List Nat) (h : ws = ps.filterMap (fun i => lw_tbl[i]?)) (g : ws.all myGood = true) : ∀ w ∈ ws, w ∈ GT := by
  intro w hw
  refine List.mem_filter.mpr ⟨?_, List.all_eq_true.mp g w hw⟩
  rw [h] at hw
  obtain ⟨i, -, hi⟩ := List.mem_filterMap.mp hw
  exact List.mem_of_getElem? hi
theorem gt_good {w : Cond} (h : w ∈ GT) : myGood w = true := (List.mem_filter.mp h).2
theorem gt_tbl {w : Cond} (h : w ∈ GT) : w ∈ lw_tbl := (List.mem_filter.mp h).1
theorem my_warm {args a' : Array Value} {s U : State} (hW : s.WarmedH U.vm) {w : Cond} (g : myGood w = true) (h : w.before args s = true) : w.before a' U = true := by
  unfold myGood at g
  simp only [Bool.or_eq_true] at g
  rcases g with (g | g) | g
  · exact word_at hW (good_of_word g) h
  · simp only [Bool.and_eq_true] at g
    have h1 : w.before args (s.setVm U.vm) = true := Cond.holds_shiftedH (State.Shifted.of_warmed hW) (fun m x hx => by rw [hW.hostNow]; exact hx) w [] g.2 h
    exact va_tabs g.1 (rfl : (s.setVm U.vm).vm = U.vm) h1
  · cases w <;> simp at g
    · exact va_tabs rfl (rfl : (s.setVm U.vm).vm = U.vm) (by rw [Cond.declares_setVm hW.alike]; exact h)
    · exact va_tabs rfl (rfl : (s.setVm U.vm).vm = U.vm) (by rw [Cond.castable_setVm hW.alike]; exact h)
theorem gt_warm {args : Array Value} {s : State} (ht : ∀ w ∈ GT, w.before args s = true) : ∀ w ∈ GT, ∀ (a' : Array Value) (U : State), s.WarmedH U.vm → w.before a' U = true := fun w h a' U hW => my_warm hW (gt_good h) (ht w h)
/-- what a method of the tables is: its code, that it is an instance's or static, its class set up, its name plain, its arguments' number -/
def MY (y : MethodName) (b : ByteArray) (n : Nat) (r : Option FieldType) (k : Nat) : Prop := Cond.code y b n r ∈ GT ∧ Cond.initialized y.cls ∈ GT ∧ (y.cls ≠ "java/lang/invoke/MethodHandle" ∧ y.cls ≠ "java/lang/invoke/VarHandle") ∧ (parseMethodDescriptor y.desc).map (fun d => d.parameters.length) = some k
def MYW (y : MethodName) (b : ByteArray) (n : Nat) (r : Option FieldType) (hh : List (Nat × Nat × Nat × Nat)) (k : Nat) : Prop := Cond.codeWith y b n r hh ∈ GT ∧ Cond.initialized y.cls ∈ GT ∧ (y.cls ≠ "java/lang/invoke/MethodHandle" ∧ y.cls ≠ "java/lang/invoke/VarHandle") ∧ (parseMethodDescriptor y.desc).map (fun d => d.parameters.length) = some k
theorem my_len {y : MethodName} {k : Nat} (h : (parseMethodDescriptor y.desc).map (fun d => d.parameters.length) = some k) : ∀ sig, parseMethodDescriptor y.desc = some sig → k = sig.parameters.length := by
  intro sig e
  rw [e] at h
  simpa using h.symm
/-- room by depth -/
def rmd (d mc ms : Nat) : Room := { frames := d, cells := mc, slots := ms, locals := 40 * d }
theorem my_B {R : Room} {s : State} {args : Array Value} {own : String} {idx : Nat} {y : MethodName} {b : ByteArray} {n k d mc ms : Nat} {r : Option FieldType} (ht : ∀ w ∈ GT, w.before args s = true) (hm : MY y b n r k) (hl : Cond.methodLink own idx y ∈ GT) (hf : d + 1 ≤ R.frames) (hlo : 8 + (n + 11) + 40 * d ≤ R.locals) : CallB R s args own idx y b n r (cn y b n r) (rmd d mc ms) mc ms k := by
  refine ⟨rfl, rfl, hf, hlo, ?_, List.mem_cons_self, ht _ hm.1, ht _ hm.2.1, hm.2.2.1, my_len hm.2.2.2, ht _ hl⟩
  intro w hw a' U hW
  rcases List.mem_cons.mp hw with rfl | h
  · exact gt_warm ht _ hm.1 a' U hW
  · exact gt_warm ht _ h a' U hW
theorem my_V {R : Room} {s : State} {args : Array Value} {own C : String} {idx : Nat} {y : MethodName} {b : ByteArray} {n k d mc ms : Nat} {r : Option FieldType} (ht : ∀ w ∈ GT, w.before args s = true) (hm : MY y b n r k) (hi : Cond.instanceMethod y ∈ GT) (hs : Cond.selects C y y ∈ GT) (hl : Cond.methodLink own idx y ∈ GT) (hf : d + 1 ≤ R.frames) (hlo : 8 + (n + 11) + 40 * d ≤ R.locals) : CallW R s args own C idx y b n r (cn y b n r) (rmd d mc ms) mc ms k := ⟨my_B ht hm hl hf hlo, ht _ hi, ht _ hs⟩
theorem my_S {R : Room} {s : State} {args : Array Value} {own : String} {idx : Nat} {y : MethodName} {b : ByteArray} {n k d mc ms : Nat} {r : Option FieldType} (ht : ∀ w ∈ GT, w.before args s = true) (hm : MY y b n r k) (hs : Cond.static y ∈ GT) (hl : Cond.methodLink own idx y ∈ GT) (hf : d + 1 ≤ R.frames) (hlo : 8 + (n + 11) + 40 * d ≤ R.locals) : CallB R s args own idx y b n r (cn y b n r) (rmd d mc ms) mc ms k ∧ (Cond.static y).before args s = true := ⟨my_B ht hm hl hf hlo, ht _ hs⟩
theorem my_I {R : Room} {s : State} {args : Array Value} {own : String} {idx : Nat} {y : MethodName} {b : ByteArray} {n k d mc ms : Nat} (ht : ∀ w ∈ GT, w.before args s = true) (hm : MY y b n none k) (hi : Cond.instanceMethod y ∈ GT) (hy : y.name = "<init>") (hl : Cond.methodLink own idx y ∈ GT) (hf : d + 1 ≤ R.frames) (hlo : 8 + (n + 11) + 40 * d ≤ R.locals) : CallB R s args own idx y b n none (cn y b n none) (rmd d mc ms) mc ms k ∧ y.name = "<init>" ∧ (Cond.instanceMethod y).before args s = true := ⟨my_B ht hm hl hf hlo, hy, ht _ hi⟩
theorem my_N {R : Room} {s : State} {args : Array Value} {own host : String} {idx : Nat} {y : MethodName} {b : ByteArray} {n k d mc ms : Nat} {r : Option FieldType} (ht : ∀ w ∈ GT, w.before args s = true) (hm : MY y b n r k) (hl : Cond.methodLinkNest own idx y host ∈ GT) (hf : d + 1 ≤ R.frames) (hlo : 8 + (n + 11) + 40 * d ≤ R.locals) : va_CN R s args own idx y host b n r (cn y b n r) (rmd d mc ms) mc ms k := by
  refine ⟨⟨rfl, rfl, hf, hlo, ?_, List.mem_cons_self⟩, ht _ hm.1, ht _ hm.2.1, hm.2.2.1, my_len hm.2.2.2, ht _ hl⟩
  intro w hw a' U hW
  rcases List.mem_cons.mp hw with rfl | h
  · exact gt_warm ht _ hm.1 a' U hW
  · exact gt_warm ht _ h a' U hW
theorem my_NI {R : Room} {s : State} {args : Array Value} {own host : String} {idx : Nat} {y : MethodName} {b : ByteArray} {n k d mc ms : Nat} (ht : ∀ w ∈ GT, w.before args s = true) (hm : MY y b n none k) (hi : Cond.instanceMethod y ∈ GT) (hy : y.name = "<init>") (hl : Cond.methodLinkNest own idx y host ∈ GT) (hf : d + 1 ≤ R.frames) (hlo : 8 + (n + 11) + 40 * d ≤ R.locals) : va_CN R s args own idx y host b n none (cn y b n none) (rmd d mc ms) mc ms k ∧ y.name = "<init>" ∧ (Cond.instanceMethod y).before args s = true := ⟨my_N ht hm hl hf hlo, hy, ht _ hi⟩
theorem my_SW {R : Room} {s : State} {args : Array Value} {own : String} {idx : Nat} {y : MethodName} {b : ByteArray} {n k d mc ms : Nat} {r : Option FieldType} {hh : List (Nat × Nat × Nat × Nat)} (ht : ∀ w ∈ GT, w.before args s = true) (hm : MYW y b n r hh k) (hs : Cond.static y ∈ GT) (hl : Cond.methodLink own idx y ∈ GT) (hf : d + 1 ≤ R.frames) (hlo : 8 + (n + 11) + 40 * d ≤ R.locals) : vx_CSW R s args own idx y b n r hh (cnW y b n r hh) (rmd d mc ms) mc ms k := by
  refine ⟨⟨rfl, rfl, hf, hlo, ?_, List.mem_cons_self⟩, ht _ hm.1, ht _ hm.2.1, hm.2.2.1, my_len hm.2.2.2, ht _ hl, ht _ hs⟩
  intro w hw a' U hW
  rcases List.mem_cons.mp hw with rfl | h
  · exact gt_warm ht _ hm.1 a' U hW
  · exact gt_warm ht _ h a' U hW
/-- the strings, the statics that are read, the classes of which arrays are made: d is the cell of ArrayList's empty row, cO its class -/
def EA (U : State) : Prop := va_AO "ToolPlex$Text" U ∧ va_AO "ToolPlex$Copy" U ∧ va_AO "ToolPlex$Items" U ∧ va_AO "ToolPlex$Channel" U ∧ va_AO "ToolPlex$Editor" U ∧ va_AO "java/lang/Object" U
theorem EA.moved {u U : State} (hvm : u.vm.Alike U.vm) (h : EA u) : EA U := ⟨h.1.moved hvm, h.2.1.moved hvm, h.2.2.1.moved hvm, h.2.2.2.1.moved hvm, h.2.2.2.2.1.moved hvm, h.2.2.2.2.2.moved hvm⟩
def SR1 (k : Nat) (tx : String) (U : State) : Prop := ∃ a, vk_R "ToolPlex" k tx a U
theorem SR1.warm {k : Nat} {tx : String} {s U : State} (hW : s.WarmedH U.vm) (h : SR1 k tx s) : SR1 k tx U := by
  obtain ⟨a, h⟩ := h
  exact ⟨a, vk_R.warm hW h⟩
theorem SR1.same {k : Nat} {tx : String} {u U : State} (hv : U.vm = u.vm) (h : SR1 k tx u) : SR1 k tx U := by
  obtain ⟨a, h⟩ := h
  exact ⟨a, vk_R.same hv h⟩
def strs : List (Nat × String) := [(61, "no such name or language"), (76, "too many files, or the name is taken"), (105, "the file is open, or its text too long"), (111, "no such kinds, languages or style"), (120, "too many servers, or a document is open"), (138, "an editor has the file open"), (166, "the second place is ahead of the first, or the text too long"), (195, "no such kind or letter"), (200, "too many requests"), (216, "the request does not wait"), (232, "there is no edit to apply"), (238, "the name is taken, or there are too many files"), (256, "no such request"), (272, "the server has no copy"), (281, "the server is not up"), (292, "the server is up"), (321, "no such copy or unit"), (343, "no such number of tokens"), (356, "no such fault"), (358, "no such editor"), (360, "no such server"), (368, "no such file"), (370, "no such channel"), (372, "no such item"), (377, "no such character"), (379, "no such position"), (381, "the editor does not have the file open")]
def ES (U : State) : Prop := ∀ q ∈ strs, SR1 q.1 q.2 U
theorem ES.warm {s U : State} (hW : s.WarmedH U.vm) (h : ES s) : ES U := fun q hq => (h q hq).warm hW
theorem ES.same {u U : State} (hv : U.vm = u.vm) (h : ES u) : ES U := fun q hq => (h q hq).same hv
def ED (d : Nat) (cO : ClassId) (A : Nat → Prop) (U : State) (H : Heap) : Prop := va_Z "java/util/ArrayList" "DEFAULTCAPACITY_EMPTY_ELEMENTDATA" "[Ljava/lang/Object;" (.ref d) A U H ∧ H[d]? = some (vp_cell cO (0, .inr (.inr (.inr (.inr (fun _ => none)))))) ∧ ¬ A d ∧ ArrOfT U cO (.object "java/lang/Object") ∧ va_RA U cO (.object "java/lang/Object")
def EH (d : Nat) (cO : ClassId) (A : Nat → Prop) (U : State) (H : Heap) : Prop := ED d cO A U H ∧ va_Zq "ToolPlex" "NOTHING" "[I" A U H ∧ vx_Zq Bundle.tN "UNASSIGNED_STACK" Bundle.steD A U H ∧ vx_Zq Bundle.tN "SUPPRESSED_SENTINEL" Bundle.listD A U H
theorem EH.moved {d : Nat} {cO : ClassId} {A : Nat → Prop} {u U : State} {H : Heap} (hvm : u.vm.Alike U.vm) (h : EH d cO A u H) : EH d cO A U H := ⟨⟨va_Z.moved hvm h.1.1, h.1.2.1, h.1.2.2.1, arrOfT_moved hvm h.1.2.2.2.1, h.1.2.2.2.2.moved hvm⟩, va_Zq.moved hvm h.2.1, vx_Zq.moved hvm h.2.2.1, vx_Zq.moved hvm h.2.2.2⟩
theorem EH.kept {d : Nat} {cO : ClassId} {A : Nat → Prop} {U : State} {H H1 : Heap} (h : EH d cO A U H) (hq : ∀ a : Nat, a < H.size → ¬ A a → H1[a]? = H[a]?) : EH d cO A U H1 := ⟨⟨va_Z.kept h.1.1 hq, by rw [hq d (Array.getElem?_eq_some_iff.mp h.1.2.1).1 h.1.2.2.1]; exact h.1.2.1, h.1.2.2⟩, va_Zq.kept h.2.1 hq, vx_Zq.kept h.2.2.1 hq, vx_Zq.kept h.2.2.2 hq⟩
theorem EH.narrow {d : Nat} {cO : ClassId} {A B : Nat → Prop} {U : State} {H : Heap} (h : EH d cO A U H) (hAB : ∀ q, B q → A q) : EH d cO B U H := ⟨⟨va_Z.narrow h.1.1 hAB, h.1.2.1, fun z => h.1.2.2.1 (hAB _ z), h.1.2.2.2⟩, va_Zq.narrow h.2.1 hAB, vx_Zq.narrow h.2.2.1 hAB, vx_Zq.narrow h.2.2.2 hAB⟩
def EN (d : Nat) (cO : ClassId) (A : Nat → Prop) (U : State) (H : Heap) : Prop := EA U ∧ ES U ∧ EH d cO A U H
theorem EN.call {d : Nat} {cO : ClassId} {A A' : Nat → Prop} {s : State} {H : Heap} {locs : List Loc} (h : EN d cO A s s.heap) (hS : va_S A s.heap H locs) (hAA : ∀ q, A' q → A q) : ∀ U : State, U.heap = H → s.WarmedH U.vm → EN d cO A' U U.heap := by
  intro U hU hW
  refine ⟨h.1.moved hW.alike, h.2.1.warm hW, ?_⟩
  rw [hU]
  exact ((h.2.2.moved hW.alike).kept hS.2.1).narrow hAA
/-- a contract's start -/
def PRE (d : Nat) (cO : ClassId) (G : va_G) (A : Nat → Prop) (ws : va_W) (tys : List (ClassId × FieldType)) (sz : Nat) (U : State) : Prop := U.heap.size = sz ∧ EN d cO A U U.heap ∧ va_P G vwCl ws U.heap ∧ va_K G vwCl tys U ∧ va_D (fun _ => True) ws
theorem PRE.fb {av : List Value} {d : Nat} {cO : ClassId} {G : va_G} {A : Nat → Prop} {ws : va_W} {tys : List (ClassId × FieldType)} {sz : Nat} : FrameBlind (va_Pc av (PRE d cO G A ws tys sz)) := by
  intro a U g mk h
  obtain ⟨h0, h1, ⟨h2, h3, h4⟩, h5, h6, h7⟩ := h
  exact ⟨h0, h1, ⟨h2.moved (u := U) (U := U.calling g mk a) (Vm.Alike.refl U.vm), h3.same (u := U) (U := U.calling g mk a) rfl, h4.moved (u := U) (U := U.calling g mk a) (Vm.Alike.refl U.vm)⟩, h5, va_K.moved (u := U) (U := U.calling g mk a) (Vm.Alike.refl U.vm) h6, h7⟩
theorem PRE.mk' {d : Nat} {cO : ClassId} {G : va_G} {A A' B : Nat → Prop} {s : State} {H : Heap} {locs : List Loc} {wc : va_W} {tc : List (ClassId × FieldType)} (h : EN d cO A s s.heap) (hS : va_S A s.heap H locs) (hAA : ∀ q, A' q → A q) (hP : va_P G vwCl wc H) (hK : va_K G vwCl tc s) (hD : va_D B wc) : ∀ U : State, U.heap = H → s.WarmedH U.vm → PRE d cO G A' wc tc H.size U := by
  intro U hU hW
  exact ⟨by rw [hU], EN.call h hS hAA U hU hW, by rw [hU]; exact hP, va_K.moved hW.alike hK, hD.weaken (fun _ _ _ _ => trivial)⟩
/-- a contract's end: the world behind it -/
def POW (G : va_G) (A : Nat → Prop) (ws : va_W) (tys : List (ClassId × FieldType)) (t : State) : Prop := va_P G vwCl ws t.heap ∧ va_K G vwCl tys t ∧ va_D A ws
theorem POW.mk' {G : va_G} {A : Nat → Prop} {ws : va_W} {tys : List (ClassId × FieldType)} {s t : State} {H : Heap} (ht : t.heap = H) (hvm : s.vm.Alike t.vm) (hP : va_P G vwCl ws H) (hK : va_K G vwCl tys s) (hD : va_D A ws) : POW G A ws tys t := ⟨by rw [ht]; exact hP, va_K.moved hvm hK, hD⟩
theorem keepAll {G : va_G} {ws : va_W} {H H1 : Heap} (hP : va_P G vwCl ws H) (hk : ∀ q : Nat, q < H.size → ¬ va_A [] H.size q → H1[q]? = H[q]?) : va_P G vwCl ws H1 := hP.kept fun k q hq => hk q.1 (hP k q hq).lt (fun h => by
  rcases h with ⟨k2, e, h⟩ | h
  · simp at h
  · exact absurd (hP k q hq).lt (Nat.not_lt.mpr h))
theorem freeNil {A0 : Nat → Prop} {H0 H : Heap} {locs : List Loc} (hS : va_S A0 H0 H locs) (hA : ∀ q, H0.size ≤ q → A0 q) : ∀ q, va_A [] H.size q → A0 q := by
  intro q h
  rcases h with ⟨k2, e, h⟩ | h
  · simp at h
  · exact hA q (Nat.le_trans hS.1 h)
theorem va_D0 {A : Nat → Prop} : va_D A [] := ⟨fun i j p q h => by simp at h, fun k q h => by simp at h⟩
theorem va_P0 {G : va_G} {H : Heap} : va_P G vwCl [] H := fun k q h => by simp at h
/-- new cells of a callee beside a world that it left as it was -/
theorem joinNew {A0 : Nat → Prop} {G : va_G} {ws w1 : va_W} {H H1 : Heap} (hP : va_P G vwCl ws H) (hD : va_D A0 ws) (hk : ∀ q : Nat, q < H.size → ¬ va_A [] H.size q → H1[q]? = H[q]?) (hF : ∀ q, va_A [] H.size q → A0 q) (hP1 : va_P G vwCl w1 H1) (hD1 : va_D (va_A [] H.size) w1) : va_P G vwCl (ws ++ w1) H1 ∧ va_D A0 (ws ++ w1) := by
  refine ⟨(keepAll hP hk).app hP1, va_D.app hD (hD1.weaken (fun k q _ h => hF q.1 h)) (fun i j x y hx hy hxy => ?_)⟩
  have h1 := (hP i x hx).lt
  rcases hD1.2 j y hy with ⟨k2, e, h⟩ | h
  · simp at h
  · omega
/-- the start of a method that only reads: its cells needn't be apart -/
def PREp (d : Nat) (cO : ClassId) (G : va_G) (A : Nat → Prop) (ws : va_W) (tys : List (ClassId × FieldType)) (sz : Nat) (U : State) : Prop := U.heap.size = sz ∧ EN d cO A U U.heap ∧ va_P G vwCl ws U.heap ∧ va_K G vwCl tys U
theorem PREp.fb {av : List Value} {d : Nat} {cO : ClassId} {G : va_G} {A : Nat → Prop} {ws : va_W} {tys : List (ClassId × FieldType)} {sz : Nat} : FrameBlind (va_Pc av (PREp d cO G A ws tys sz)) := by
  intro a U g mk h
  obtain ⟨h0, h1, ⟨h2, h3, h4⟩, h5, h6⟩ := h
  exact ⟨h0, h1, ⟨h2.moved (u := U) (U := U.calling g mk a) (Vm.Alike.refl U.vm), h3.same (u := U) (U := U.calling g mk a) rfl, h4.moved (u := U) (U := U.calling g mk a) (Vm.Alike.refl U.vm)⟩, h5, va_K.moved (u := U) (U := U.calling g mk a) (Vm.Alike.refl U.vm) h6⟩
theorem PREp.mk' {d : Nat} {cO : ClassId} {G : va_G} {A A' : Nat → Prop} {s : State} {H : Heap} {locs : List Loc} {wc : va_W} {tc : List (ClassId × FieldType)} (h : EN d cO A s s.heap) (hS : va_S A s.heap H locs) (hAA : ∀ q, A' q → A q) (hP : va_P G vwCl wc H) (hK : va_K G vwCl tc s) : ∀ U : State, U.heap = H → s.WarmedH U.vm → PREp d cO G A' wc tc H.size U := by
  intro U hU hW
  exact ⟨by rw [hU], EN.call h hS hAA U hU hW, by rw [hU]; exact hP, va_K.moved hW.alike hK⟩
theorem vxgt {ws : List Cond} (h : ws.all (fun w => decide (w ∈ lw_tbl) && myGood w) = true) : ∀ w ∈ ws, w ∈ GT := by
  intro w hw
  have h1 := List.all_eq_true.mp h w hw
  simp only [Bool.and_eq_true, decide_eq_true_eq] at h1
  exact List.mem_filter.mpr h1
theorem zq_val {C n d : String} {A : Nat → Prop} {U : State} {H : Heap} (h : va_Zq C n d A U H) : ∃ v : Value, (v = .null ∨ ∃ t : Nat, v = .ref t) ∧ va_Z C n d v A U H := by
  rcases h with h | ⟨t, h⟩
  · exact ⟨_, Or.inl rfl, h⟩
  · exact ⟨_, Or.inr ⟨t, rfl⟩, h⟩
end
section
theorem dJxa1e45_init_da8c8_0 : decode cJxa1e45_init_da8c8 0 = .ok (.aload_n 0, 1) := by decide +kernel
theorem q216 : Cond.methodLink RJxa1e45 1 objectInit ∈ GT := gt 216 (by decide +kernel) (by decide +kernel)
theorem q157 : Cond.instanceMethod objectInit ∈ GT := gt 157 (by decide +kernel) (by decide +kernel)
theorem q158 : Cond.code objectInit ⟨#[0xb1]⟩ 1 none ∈ GT := gt 158 (rfl) (by decide +kernel)
theorem dJxa1e45_init_da8c8_1 : decode cJxa1e45_init_da8c8 1 = .ok (.invokespecial 1, 3) := by decide +kernel
theorem dJxa1e45_init_da8c8_4 : decode cJxa1e45_init_da8c8 4 = .ok (.return_, 1) := by decide +kernel
theorem dJxc12de_init_da8c8_0 : decode cJxc12de_init_da8c8 0 = .ok (.aload_n 0, 1) := by decide +kernel
theorem dJxc12de_init_da8c8_1 : decode cJxc12de_init_da8c8 1 = .ok (.invokespecial 1, 3) := by decide +kernel
theorem q215 : Cond.code yJxa1e45_init_da8c8 cJxa1e45_init_da8c8 1 none ∈ GT := gt 215 (rfl) (by decide +kernel)
theorem q126 : Cond.initialized RJxa1e45 ∈ GT := gt 126 (by decide +kernel) (by decide +kernel)
theorem M_Jxa1e45_init_da8c8 : MY yJxa1e45_init_da8c8 cJxa1e45_init_da8c8 1 none 0 := ⟨q215, q126, by decide +kernel, by decide +kernel⟩
theorem q213 : Cond.methodLink RJxc12de 1 yJxa1e45_init_da8c8 ∈ GT := gt 213 (by decide +kernel) (by decide +kernel)
theorem q214 : Cond.instanceMethod yJxa1e45_init_da8c8 ∈ GT := gt 214 (by decide +kernel) (by decide +kernel)
theorem dJxc12de_init_da8c8_4 : decode cJxc12de_init_da8c8 4 = .ok (.aload_n 0, 1) := by decide +kernel
theorem dJxc12de_init_da8c8_5 : decode cJxc12de_init_da8c8 5 = .ok (.iconst 0, 1) := by decide +kernel
theorem inGJx4a65c : ∀ w ∈ u_ws RJx4a65c TJx4a65c 3, w ∈ GT := gts [228, 224, 226] (by decide +kernel) (by decide +kernel)
theorem q221 : Cond.fieldLink RJxc12de 7 "java/util/AbstractList" "modCount" "I" ∈ GT := gt 221 (by decide +kernel) (by decide +kernel)
theorem dJxc12de_init_da8c8_6 : decode cJxc12de_init_da8c8 6 = .ok (.putfield 7, 3) := by decide +kernel
theorem dJxc12de_init_da8c8_9 : decode cJxc12de_init_da8c8 9 = .ok (.return_, 1) := by decide +kernel
theorem dJx4a65c_init_da8c8_0 : decode cJx4a65c_init_da8c8 0 = .ok (.aload_n 0, 1) := by decide +kernel
theorem dJx4a65c_init_da8c8_1 : decode cJx4a65c_init_da8c8 1 = .ok (.invokespecial 1, 3) := by decide +kernel
theorem q212 : Cond.code yJxc12de_init_da8c8 cJxc12de_init_da8c8 1 none ∈ GT := gt 212 (rfl) (by decide +kernel)
theorem q127 : Cond.initialized RJxc12de ∈ GT := gt 127 (by decide +kernel) (by decide +kernel)
theorem M_Jxc12de_init_da8c8 : MY yJxc12de_init_da8c8 cJxc12de_init_da8c8 1 none 0 := ⟨q212, q127, by decide +kernel, by decide +kernel⟩
theorem q210 : Cond.methodLink RJx4a65c 1 yJxc12de_init_da8c8 ∈ GT := gt 210 (by decide +kernel) (by decide +kernel)
theorem q211 : Cond.instanceMethod yJxc12de_init_da8c8 ∈ GT := gt 211 (by decide +kernel) (by decide +kernel)
theorem dJx4a65c_init_da8c8_4 : decode cJx4a65c_init_da8c8 4 = .ok (.aload_n 0, 1) := by decide +kernel
theorem q217 : Cond.fieldLink RJx4a65c 39 "java/util/ArrayList" "DEFAULTCAPACITY_EMPTY_ELEMENTDATA" "[Ljava/lang/Object;" ∈ GT := gt 217 (by decide +kernel) (by decide +kernel)
theorem dJx4a65c_init_da8c8_5 : decode cJx4a65c_init_da8c8 5 = .ok (.getstatic 39, 3) := by decide +kernel
theorem q219 : Cond.fieldLink RJx4a65c 9 "java/util/ArrayList" "elementData" "[Ljava/lang/Object;" ∈ GT := gt 219 (by decide +kernel) (by decide +kernel)
theorem dJx4a65c_init_da8c8_8 : decode cJx4a65c_init_da8c8 8 = .ok (.putfield 9, 3) := by decide +kernel
theorem dJx4a65c_init_da8c8_11 : decode cJx4a65c_init_da8c8 11 = .ok (.return_, 1) := by decide +kernel
theorem dX10_init_0 : decode cX10_init 0 = .ok (.aload_n 0, 1) := by decide +kernel
theorem q164 : Cond.methodLink RX10 3 objectInit ∈ GT := gt 164 (by decide +kernel) (by decide +kernel)
theorem dX10_init_1 : decode cX10_init 1 = .ok (.invokespecial 3, 3) := by decide +kernel
theorem dX10_init_4 : decode cX10_init 4 = .ok (.aload_n 0, 1) := by decide +kernel
theorem dX10_init_5 : decode cX10_init 5 = .ok (.bipush 100, 2) := by decide +kernel
theorem q172 : Cond.arrayClass FieldType.char ∈ GT := gt 172 (by decide +kernel) (by decide +kernel)
theorem dX10_init_7 : decode cX10_init 7 = .ok (.newarray .char, 2) := by decide +kernel
theorem inGX10 : ∀ w ∈ u_ws RX10 TX10 2, w ∈ GT := gts [167, 169] (by decide +kernel) (by decide +kernel)
theorem q165 : Cond.fieldLink RX10 9 "ToolPlex$Text" "units" "[C" ∈ GT := gt 165 (by decide +kernel) (by decide +kernel)
theorem dX10_init_9 : decode cX10_init 9 = .ok (.putfield 9, 3) := by decide +kernel
theorem dX10_init_12 : decode cX10_init 12 = .ok (.return_, 1) := by decide +kernel
theorem dX5_init_0 : decode cX5_init 0 = .ok (.aload_n 0, 1) := by decide +kernel
theorem q301 : Cond.methodLink RX5 3 objectInit ∈ GT := gt 301 (by decide +kernel) (by decide +kernel)
theorem dX5_init_1 : decode cX5_init 1 = .ok (.invokespecial 3, 3) := by decide +kernel
theorem dX5_init_4 : decode cX5_init 4 = .ok (.aload_n 0, 1) := by decide +kernel
theorem q302 : Cond.fieldLinkNest RX5 9 "ToolPlex" "NOTHING" "[I" "ToolPlex" ∈ GT := gt 302 (by decide +kernel) (by decide +kernel)
theorem dX5_init_5 : decode cX5_init 5 = .ok (.getstatic 9, 3) := by decide +kernel
theorem inGX5 : ∀ w ∈ u_ws RX5 TX5 2, w ∈ GT := gts [305, 307] (by decide +kernel) (by decide +kernel)
theorem q303 : Cond.fieldLink RX5 13 "ToolPlex$Items" "cells" "[I" ∈ GT := gt 303 (by decide +kernel) (by decide +kernel)
theorem dX5_init_8 : decode cX5_init 8 = .ok (.putfield 13, 3) := by decide +kernel
theorem dX5_init_11 : decode cX5_init 11 = .ok (.return_, 1) := by decide +kernel
theorem dX2_init_0 : decode cX2_init 0 = .ok (.aload_n 0, 1) := by decide +kernel
theorem q257 : Cond.methodLink RX2 3 objectInit ∈ GT := gt 257 (by decide +kernel) (by decide +kernel)
theorem dX2_init_1 : decode cX2_init 1 = .ok (.invokespecial 3, 3) := by decide +kernel
theorem dX2_init_4 : decode cX2_init 4 = .ok (.aload_n 0, 1) := by decide +kernel
theorem q258 : Cond.classLink RX2 9 RX10 ∈ GT := gt 258 (by decide +kernel) (by decide +kernel)
theorem q160 : Cond.instantiable RX10 2 ∈ GT := gt 160 (by decide +kernel) (by decide +kernel)
theorem q124 : Cond.initialized RX10 ∈ GT := gt 124 (by decide +kernel) (by decide +kernel)
theorem dX2_init_5 : decode cX2_init 5 = .ok (.new 9, 3) := by decide +kernel
theorem dX2_init_8 : decode cX2_init 8 = .ok (.dup, 1) := by decide +kernel
theorem dX2_init_9 : decode cX2_init 9 = .ok (.invokespecial 11, 3) := by decide +kernel
theorem q163 : Cond.code yX10_init cX10_init 1 none ∈ GT := gt 163 (rfl) (by decide +kernel)
theorem M_X10_init : MY yX10_init cX10_init 1 none 0 := ⟨q163, q124, by decide +kernel, by decide +kernel⟩
theorem q259 : Cond.methodLinkNest RX2 11 yX10_init "ToolPlex" ∈ GT := gt 259 (by decide +kernel) (by decide +kernel)
theorem q162 : Cond.instanceMethod yX10_init ∈ GT := gt 162 (by decide +kernel) (by decide +kernel)
theorem inGX2 : ∀ w ∈ u_ws RX2 TX2 7, w ∈ GT := gts [280, 282, 284, 286, 288, 290, 292] (by decide +kernel) (by decide +kernel)
theorem q262 : Cond.fieldLink RX2 12 "ToolPlex$Copy" "text" "LToolPlex$Text;" ∈ GT := gt 262 (by decide +kernel) (by decide +kernel)
theorem dX2_init_12 : decode cX2_init 12 = .ok (.putfield 12, 3) := by decide +kernel
theorem dX2_init_15 : decode cX2_init 15 = .ok (.aload_n 0, 1) := by decide +kernel
theorem dX2_init_16 : decode cX2_init 16 = .ok (.new 9, 3) := by decide +kernel
theorem dX2_init_19 : decode cX2_init 19 = .ok (.dup, 1) := by decide +kernel
theorem dX2_init_20 : decode cX2_init 20 = .ok (.invokespecial 11, 3) := by decide +kernel
theorem q267 : Cond.fieldLink RX2 18 "ToolPlex$Copy" "first" "LToolPlex$Text;" ∈ GT := gt 267 (by decide +kernel) (by decide +kernel)
theorem dX2_init_23 : decode cX2_init 23 = .ok (.putfield 18, 3) := by decide +kernel
theorem dX2_init_26 : decode cX2_init 26 = .ok (.aload_n 0, 1) := by decide +kernel
theorem q260 : Cond.fieldLinkNest RX2 21 "ToolPlex" "NOTHING" "[I" "ToolPlex" ∈ GT := gt 260 (by decide +kernel) (by decide +kernel)
theorem dX2_init_27 : decode cX2_init 27 = .ok (.getstatic 21, 3) := by decide +kernel
theorem q268 : Cond.fieldLink RX2 25 "ToolPlex$Copy" "changes" "[I" ∈ GT := gt 268 (by decide +kernel) (by decide +kernel)
theorem dX2_init_30 : decode cX2_init 30 = .ok (.putfield 25, 3) := by decide +kernel
theorem dX2_init_33 : decode cX2_init 33 = .ok (.aload_n 0, 1) := by decide +kernel
theorem dX2_init_34 : decode cX2_init 34 = .ok (.iconst (-1), 1) := by decide +kernel
theorem q270 : Cond.fieldLink RX2 28 "ToolPlex$Copy" "version" "I" ∈ GT := gt 270 (by decide +kernel) (by decide +kernel)
theorem dX2_init_35 : decode cX2_init 35 = .ok (.putfield 28, 3) := by decide +kernel
theorem dX2_init_38 : decode cX2_init 38 = .ok (.aload_n 0, 1) := by decide +kernel
theorem dX2_init_39 : decode cX2_init 39 = .ok (.iconst (-1), 1) := by decide +kernel
theorem q275 : Cond.fieldLink RX2 32 "ToolPlex$Copy" "opened" "I" ∈ GT := gt 275 (by decide +kernel) (by decide +kernel)
theorem dX2_init_40 : decode cX2_init 40 = .ok (.putfield 32, 3) := by decide +kernel
theorem dX2_init_43 : decode cX2_init 43 = .ok (.aload_n 0, 1) := by decide +kernel
theorem dX2_init_44 : decode cX2_init 44 = .ok (.iconst (-1), 1) := by decide +kernel
theorem q278 : Cond.fieldLink RX2 35 "ToolPlex$Copy" "editor" "I" ∈ GT := gt 278 (by decide +kernel) (by decide +kernel)
theorem dX2_init_45 : decode cX2_init 45 = .ok (.putfield 35, 3) := by decide +kernel
theorem dX2_init_48 : decode cX2_init 48 = .ok (.return_, 1) := by decide +kernel
theorem dX1_init_0 : decode cX1_init 0 = .ok (.aload_n 0, 1) := by decide +kernel
theorem q237 : Cond.methodLink RX1 1 objectInit ∈ GT := gt 237 (by decide +kernel) (by decide +kernel)
theorem dX1_init_1 : decode cX1_init 1 = .ok (.invokespecial 1, 3) := by decide +kernel
theorem dX1_init_4 : decode cX1_init 4 = .ok (.aload_n 0, 1) := by decide +kernel
theorem q238 : Cond.classLink RX1 7 RJx4a65c ∈ GT := gt 238 (by decide +kernel) (by decide +kernel)
theorem q206 : Cond.instantiable RJx4a65c 3 ∈ GT := gt 206 (by decide +kernel) (by decide +kernel)
theorem q128 : Cond.initialized RJx4a65c ∈ GT := gt 128 (by decide +kernel) (by decide +kernel)
theorem dX1_init_5 : decode cX1_init 5 = .ok (.new 7, 3) := by decide +kernel
theorem dX1_init_8 : decode cX1_init 8 = .ok (.dup, 1) := by decide +kernel
theorem dX1_init_9 : decode cX1_init 9 = .ok (.invokespecial 9, 3) := by decide +kernel
theorem q209 : Cond.code yJx4a65c_init_da8c8 cJx4a65c_init_da8c8 1 none ∈ GT := gt 209 (rfl) (by decide +kernel)
theorem M_Jx4a65c_init_da8c8 : MY yJx4a65c_init_da8c8 cJx4a65c_init_da8c8 1 none 0 := ⟨q209, q128, by decide +kernel, by decide +kernel⟩
theorem q239 : Cond.methodLink RX1 9 yJx4a65c_init_da8c8 ∈ GT := gt 239 (by decide +kernel) (by decide +kernel)
theorem q208 : Cond.instanceMethod yJx4a65c_init_da8c8 ∈ GT := gt 208 (by decide +kernel) (by decide +kernel)
theorem inGX1 : ∀ w ∈ u_ws RX1 TX1 1, w ∈ GT := gts [241] (by decide +kernel) (by decide +kernel)
theorem q240 : Cond.fieldLink RX1 10 "ToolPlex$Channel" "messages" "Ljava/util/ArrayList;" ∈ GT := gt 240 (by decide +kernel) (by decide +kernel)
theorem dX1_init_12 : decode cX1_init 12 = .ok (.putfield 10, 3) := by decide +kernel
theorem dX1_init_15 : decode cX1_init 15 = .ok (.return_, 1) := by decide +kernel
set_option maxHeartbeats 4000000 in
set_option maxRecDepth 100000 in
theorem k_Jxa1e45_init_da8c8 (l : Launch) (d0 : Nat) (cO : ClassId) (dC : Nat → ClassId) (dI : Nat → Nat → Nat) (sz : Nat) (h0 : Nat) (mc : Int32) (ve : Value) (sc : Int32) : Met l yJxa1e45_init_da8c8 (cn yJxa1e45_init_da8c8 cJxa1e45_init_da8c8 1 none) (rmd 1 0 0) (va_Pc [.ref h0] (PRE d0 cO (dC, dI) (va_A [(h0, .inr (0, [.int mc, ve, .int sc]))] sz) [(h0, .inr (0, [.int mc, ve, .int sc]))] [] sz)) (va_Qv (fun (_ : Unit) => True) (fun (_ : Unit) (t : State) => POW (dC, dI) (va_A [(h0, .inr (0, [.int mc, ve, .int sc]))] sz) [(h0, .inr (0, [.int mc, ve, .int sc]))] [] t) (va_A [(h0, .inr (0, [.int mc, ve, .int sc]))] sz)) 0 0 (va_A [(h0, .inr (0, [.int mc, ve, .int sc]))] sz) := by
  refine Met.ofW (cc := cJxa1e45_init_da8c8) (maxL := 1) (ret := none) (by decide) rfl ?_
  intro p e s m args below meth c s₁ B hml hv
  obtain ⟨rfl, hsz, hE, hP, hK, hD0⟩ := hv
  have hx := B.exec
  have hb := B.bytes
  have hr := B.returns
  have hts := atoms_spec (ws := cn yJxa1e45_init_da8c8 cJxa1e45_init_da8c8 1 none) B.pre
  have ht : ∀ w ∈ GT, w.before _ s = true := fun w h => hts w (List.mem_cons_of_mem _ h)
  have hown : s.vm.findClass RJxa1e45 = some m.cls := findClass_of_methodNamed B.named
  have hlocks := B.notSynchronized
  have hin : meth.name = "<init>" := (name_of_methodNamed B.named B.method).1
  subst hsz
  have hD := hD0.self (sz := s.heap.size)
  generalize hAe : va_A [(h0, .inr (0, [.int mc, ve, .int sc]))] s.heap.size = A at hD hE ⊢
  have hA : ∀ q : Nat, s.heap.size ≤ q → A q := fun q h => by rw [← hAe]; exact Or.inr h
  obtain ⟨H, hH0⟩ : ∃ H, s.heap = H := ⟨_, rfl⟩
  have hS : va_S A s.heap H [] := by rw [← hH0]; exact va_S.rf
  rw [hH0] at hP
  have hl := lv_entry ([.ref h0]) (n := 1) (Nat.le_of_ble_eq_true rfl)
  rw [lg_entry_eq]
  generalize (lg_sl ([.ref h0]) ++ List.replicate (1 - (lg_sl ([.ref h0])).length) Slot.unset).toArray = ls at hl ⊢
  have hl : lv_has ls 1 [(0, .ref h0)] := hl
  rw [hH0]
  refine lv_aload_n hx hb dJxa1e45_init_da8c8_0 rfl (lv_at hl 0 rfl) ?_
  refine W.objInit hx hb hown (ht _ q216) (ht _ q157) (ht _ q158) rfl (by rw [hml]; exact hl.1) rfl dJxa1e45_init_da8c8_1 (Nat.le_of_ble_eq_true rfl) (Nat.le_of_ble_eq_true rfl) ?_
  refine W.eq (g2 := F0 m 4 ls []) rfl ?_
  have hP9 := hP.sub (ws' := [(h0, .inr (0, [.int mc, ve, .int sc]))]) [0] rfl
  have hD9 := hD.sub (ws' := [(h0, .inr (0, [.int mc, ve, .int sc]))]) [0] (by decide) rfl
  have hK9 := hK.sub (tys' := []) [] rfl
  refine W.widen (k := 0) (n := 0) (Nat.le_of_ble_eq_true rfl) (Nat.le_of_ble_eq_true rfl) ?_
  exact W.vret hx hb hr (fun t ht9 hW9 => ⟨⟨(), rfl, trivial, POW.mk' ht9 hW9.alike hP9 hK9 hD9⟩, hS.F ht9⟩) hS.2.2 dJxa1e45_init_da8c8_4
set_option maxHeartbeats 4000000 in
set_option maxRecDepth 100000 in
theorem k_Jxc12de_init_da8c8 (l : Launch) (d0 : Nat) (cO : ClassId) (dC : Nat → ClassId) (dI : Nat → Nat → Nat) (sz : Nat) (h0 : Nat) (mc : Int32) (ve : Value) (sc : Int32) : Met l yJxc12de_init_da8c8 (cn yJxc12de_init_da8c8 cJxc12de_init_da8c8 1 none) (rmd 2 0 0) (va_Pc [.ref h0] (PRE d0 cO (dC, dI) (va_A [(h0, .inr (0, [.int mc, ve, .int sc]))] sz) [(h0, .inr (0, [.int mc, ve, .int sc]))] [] sz)) (va_Qv (fun (_ : Unit) => True) (fun (_ : Unit) (t : State) => POW (dC, dI) (va_A [(h0, .inr (0, [.int mc, ve, .int sc]))] sz) [(h0, .inr (0, [.int 0, ve, .int sc]))] [] t) (va_A [(h0, .inr (0, [.int mc, ve, .int sc]))] sz)) 0 0 (va_A [(h0, .inr (0, [.int mc, ve, .int sc]))] sz) := by
  refine Met.ofW (cc := cJxc12de_init_da8c8) (maxL := 1) (ret := none) (by decide) rfl ?_
  intro p e s m args below meth c s₁ B hml hv
  obtain ⟨rfl, hsz, hE, hP, hK, hD0⟩ := hv
  have hx := B.exec
  have hb := B.bytes
  have hr := B.returns
  have hts := atoms_spec (ws := cn yJxc12de_init_da8c8 cJxc12de_init_da8c8 1 none) B.pre
  have ht : ∀ w ∈ GT, w.before _ s = true := fun w h => hts w (List.mem_cons_of_mem _ h)
  have hown : s.vm.findClass RJxc12de = some m.cls := findClass_of_methodNamed B.named
  have hlocks := B.notSynchronized
  have hin : meth.name = "<init>" := (name_of_methodNamed B.named B.method).1
  subst hsz
  have hD := hD0.self (sz := s.heap.size)
  generalize hAe : va_A [(h0, .inr (0, [.int mc, ve, .int sc]))] s.heap.size = A at hD hE ⊢
  have hA : ∀ q : Nat, s.heap.size ≤ q → A q := fun q h => by rw [← hAe]; exact Or.inr h
  obtain ⟨H, hH0⟩ : ∃ H, s.heap = H := ⟨_, rfl⟩
  have hS : va_S A s.heap H [] := by rw [← hH0]; exact va_S.rf
  rw [hH0] at hP
  have hl := lv_entry ([.ref h0]) (n := 1) (Nat.le_of_ble_eq_true rfl)
  rw [lg_entry_eq]
  generalize (lg_sl ([.ref h0]) ++ List.replicate (1 - (lg_sl ([.ref h0])).length) Slot.unset).toArray = ls at hl ⊢
  have hl : lv_has ls 1 [(0, .ref h0)] := hl
  rw [hH0]
  refine lv_aload_n hx hb dJxc12de_init_da8c8_0 rfl (lv_at hl 0 rfl) ?_
  have hPc := hP.sub (ws' := [(h0, .inr (0, [.int mc, ve, .int sc]))]) [0] rfl
  have hDc := hD.sub (ws' := [(h0, .inr (0, [.int mc, ve, .int sc]))]) [0] (by decide) rfl
  have hKc := hK.sub (tys' := []) [] rfl
  have hFc := va_free (wc := [(h0, .inr (0, [.int mc, ve, .int sc]))]) hD hS hA [0] rfl
  refine va_callv (va_runI (As := []) (rest := []) ⟨hx, hb, hml, hown, ht⟩ (k_Jxa1e45_init_da8c8 l d0 cO dC dI H.size h0 mc ve sc) (my_I ht M_Jxa1e45_init_da8c8 q214 rfl q213 (Nat.le_of_ble_eq_true rfl) (Nat.le_of_ble_eq_true rfl)) ⟨PRE.fb, fun U hU hW => ⟨rfl, PRE.mk' hE hS hFc hPc hKc hDc U hU hW⟩⟩ rfl rfl hl.1 rfl (lv_room (Nat.le_of_ble_eq_true rfl)) dJxc12de_init_da8c8_1 ⟨(Nat.le_of_ble_eq_true rfl), (Nat.le_of_ble_eq_true rfl)⟩) hS (fun q _ h => hFc q h) hFc (fun u1 t H1 locs htt hvm hw hB hz1 hk1 hS => ?_)
  try dsimp only at hw hB
  obtain ⟨hP1, hK1, hD1⟩ := hB
  rw [htt] at hP1
  have hK1 := va_K.moved hvm.symm hK1
  obtain ⟨hP, hD⟩ := va_join (wr := []) (w1 := [(h0, .inr (0, [.int mc, ve, .int sc]))]) hP hD [0] [] rfl rfl (by decide) (by decide) hk1 hFc hP1 hD1
  have hK := (hK.sub (tys' := []) [] rfl).app hK1
  generalize H1 = H at hP hS ⊢
  have hP : va_P (dC, dI) vwCl [(h0, .inr (0, [.int mc, ve, .int sc]))] H := hP
  have hD : va_D A [(h0, .inr (0, [.int mc, ve, .int sc]))] := hD
  have hK : va_K (dC, dI) vwCl [] s := hK
  refine W.widen (k := 0) (n := 0) (Nat.le_of_ble_eq_true rfl) (Nat.le_of_ble_eq_true rfl) ?_
  refine lv_aload_n hx hb dJxc12de_init_da8c8_4 rfl (lv_at hl 0 rfl) ?_
  refine lv_iconst (v := 0) hx hb dJxc12de_init_da8c8_5 (by decide) ?_
  refine va_put (D := (dC, dI)) (ci := 0) (v := .int 0) (ty := .int) (C := RJx4a65c) (T := TJx4a65c) (N := 3) hx hb ht inGJx4a65c tyJx4a65c tyJx4a65c_ok nmJx4a65c hown hK hP hD hS 0 rfl rfl 0 (by decide) (ht _ q221) (fun _ h9 => h9) rfl (by decide +kernel) rfl rfl (Nat.le_of_ble_eq_true rfl) dJxc12de_init_da8c8_6 (fun H locs hP hD hS => ?_)
  have hP : va_P (dC, dI) vwCl [(h0, .inr (0, [.int 0, ve, .int sc]))] H := hP
  have hD : va_D A [(h0, .inr (0, [.int 0, ve, .int sc]))] := hD
  have hP9 := hP.sub (ws' := [(h0, .inr (0, [.int 0, ve, .int sc]))]) [0] rfl
  have hD9 := hD.sub (ws' := [(h0, .inr (0, [.int 0, ve, .int sc]))]) [0] (by decide) rfl
  have hK9 := hK.sub (tys' := []) [] rfl
  refine W.widen (k := 0) (n := 0) (Nat.le_of_ble_eq_true rfl) (Nat.le_of_ble_eq_true rfl) ?_
  exact W.vret hx hb hr (fun t ht9 hW9 => ⟨⟨(), rfl, trivial, POW.mk' ht9 hW9.alike hP9 hK9 hD9⟩, hS.F ht9⟩) hS.2.2 dJxc12de_init_da8c8_9
set_option maxHeartbeats 4000000 in
set_option maxRecDepth 100000 in
theorem k_Jx4a65c_init_da8c8 (l : Launch) (d0 : Nat) (cO : ClassId) (dC : Nat → ClassId) (dI : Nat → Nat → Nat) (sz : Nat) (h0 : Nat) (mc : Int32) (ve : Value) (sc : Int32) : Met l yJx4a65c_init_da8c8 (cn yJx4a65c_init_da8c8 cJx4a65c_init_da8c8 1 none) (rmd 3 0 0) (va_Pc [.ref h0] (PRE d0 cO (dC, dI) (va_A [(h0, .inr (0, [.int mc, ve, .int sc]))] sz) [(h0, .inr (0, [.int mc, ve, .int sc]))] [] sz)) (va_Qv (fun (_ : Unit) => True) (fun (_ : Unit) (t : State) => POW (dC, dI) (va_A [(h0, .inr (0, [.int mc, ve, .int sc]))] sz) [(h0, .inr (0, [.int 0, .ref d0, .int sc]))] [] t) (va_A [(h0, .inr (0, [.int mc, ve, .int sc]))] sz)) 0 0 (va_A [(h0, .inr (0, [.int mc, ve, .int sc]))] sz) := by
  refine Met.ofW (cc := cJx4a65c_init_da8c8) (maxL := 1) (ret := none) (by decide) rfl ?_
  intro p e s m args below meth c s₁ B hml hv
  obtain ⟨rfl, hsz, hE, hP, hK, hD0⟩ := hv
  have hx := B.exec
  have hb := B.bytes
  have hr := B.returns
  have hts := atoms_spec (ws := cn yJx4a65c_init_da8c8 cJx4a65c_init_da8c8 1 none) B.pre
  have ht : ∀ w ∈ GT, w.before _ s = true := fun w h => hts w (List.mem_cons_of_mem _ h)
  have hown : s.vm.findClass RJx4a65c = some m.cls := findClass_of_methodNamed B.named
  have hlocks := B.notSynchronized
  have hin : meth.name = "<init>" := (name_of_methodNamed B.named B.method).1
  subst hsz
  have hD := hD0.self (sz := s.heap.size)
  generalize hAe : va_A [(h0, .inr (0, [.int mc, ve, .int sc]))] s.heap.size = A at hD hE ⊢
  have hA : ∀ q : Nat, s.heap.size ≤ q → A q := fun q h => by rw [← hAe]; exact Or.inr h
  obtain ⟨H, hH0⟩ : ∃ H, s.heap = H := ⟨_, rfl⟩
  have hS : va_S A s.heap H [] := by rw [← hH0]; exact va_S.rf
  rw [hH0] at hP
  have hl := lv_entry ([.ref h0]) (n := 1) (Nat.le_of_ble_eq_true rfl)
  rw [lg_entry_eq]
  generalize (lg_sl ([.ref h0]) ++ List.replicate (1 - (lg_sl ([.ref h0])).length) Slot.unset).toArray = ls at hl ⊢
  have hl : lv_has ls 1 [(0, .ref h0)] := hl
  rw [hH0]
  refine lv_aload_n hx hb dJx4a65c_init_da8c8_0 rfl (lv_at hl 0 rfl) ?_
  have hPc := hP.sub (ws' := [(h0, .inr (0, [.int mc, ve, .int sc]))]) [0] rfl
  have hDc := hD.sub (ws' := [(h0, .inr (0, [.int mc, ve, .int sc]))]) [0] (by decide) rfl
  have hKc := hK.sub (tys' := []) [] rfl
  have hFc := va_free (wc := [(h0, .inr (0, [.int mc, ve, .int sc]))]) hD hS hA [0] rfl
  refine va_callv (va_runI (As := []) (rest := []) ⟨hx, hb, hml, hown, ht⟩ (k_Jxc12de_init_da8c8 l d0 cO dC dI H.size h0 mc ve sc) (my_I ht M_Jxc12de_init_da8c8 q211 rfl q210 (Nat.le_of_ble_eq_true rfl) (Nat.le_of_ble_eq_true rfl)) ⟨PRE.fb, fun U hU hW => ⟨rfl, PRE.mk' hE hS hFc hPc hKc hDc U hU hW⟩⟩ rfl rfl hl.1 rfl (lv_room (Nat.le_of_ble_eq_true rfl)) dJx4a65c_init_da8c8_1 ⟨(Nat.le_of_ble_eq_true rfl), (Nat.le_of_ble_eq_true rfl)⟩) hS (fun q _ h => hFc q h) hFc (fun u1 t H1 locs htt hvm hw hB hz1 hk1 hS => ?_)
  try dsimp only at hw hB
  obtain ⟨hP1, hK1, hD1⟩ := hB
  rw [htt] at hP1
  have hK1 := va_K.moved hvm.symm hK1
  obtain ⟨hP, hD⟩ := va_join (wr := []) (w1 := [(h0, .inr (0, [.int 0, ve, .int sc]))]) hP hD [0] [] rfl rfl (by decide) (by decide) hk1 hFc hP1 hD1
  have hK := (hK.sub (tys' := []) [] rfl).app hK1
  generalize H1 = H at hP hS ⊢
  have hP : va_P (dC, dI) vwCl [(h0, .inr (0, [.int 0, ve, .int sc]))] H := hP
  have hD : va_D A [(h0, .inr (0, [.int 0, ve, .int sc]))] := hD
  have hK : va_K (dC, dI) vwCl [] s := hK
  refine W.widen (k := 0) (n := 0) (Nat.le_of_ble_eq_true rfl) (Nat.le_of_ble_eq_true rfl) ?_
  refine lv_aload_n hx hb dJx4a65c_init_da8c8_4 rfl (lv_at hl 0 rfl) ?_
  refine va_gets (v := .ref d0) hx hb hE.2.2.1.1 hS hown (ht _ q217) (fun _ h9 => h9) dJx4a65c_init_da8c8_5 ?_
  refine va_put (D := (dC, dI)) (ci := 0) (v := .ref d0) (ty := .array (.object "java/lang/Object")) (C := RJx4a65c) (T := TJx4a65c) (N := 3) hx hb ht inGJx4a65c tyJx4a65c tyJx4a65c_ok nmJx4a65c hown hK hP hD hS 0 rfl rfl 1 (by decide) (ht _ q219) (fun _ h9 => h9) rfl (by decide +kernel) rfl rfl (Nat.le_of_ble_eq_true rfl) dJx4a65c_init_da8c8_8 (fun H locs hP hD hS => ?_)
  have hP : va_P (dC, dI) vwCl [(h0, .inr (0, [.int 0, .ref d0, .int sc]))] H := hP
  have hD : va_D A [(h0, .inr (0, [.int 0, .ref d0, .int sc]))] := hD
  have hP9 := hP.sub (ws' := [(h0, .inr (0, [.int 0, .ref d0, .int sc]))]) [0] rfl
  have hD9 := hD.sub (ws' := [(h0, .inr (0, [.int 0, .ref d0, .int sc]))]) [0] (by decide) rfl
  have hK9 := hK.sub (tys' := []) [] rfl
  refine W.widen (k := 0) (n := 0) (Nat.le_of_ble_eq_true rfl) (Nat.le_of_ble_eq_true rfl) ?_
  exact W.vret hx hb hr (fun t ht9 hW9 => ⟨⟨(), rfl, trivial, POW.mk' ht9 hW9.alike hP9 hK9 hD9⟩, hS.F ht9⟩) hS.2.2 dJx4a65c_init_da8c8_11
set_option maxHeartbeats 4000000 in
set_option maxRecDepth 100000 in
theorem k_X10_init (l : Launch) (d0 : Nat) (cO : ClassId) (dC : Nat → ClassId) (dI : Nat → Nat → Nat) (sz : Nat) (h0 : Nat) (v0 : Value) (n : Int32) : Met l yX10_init (cn yX10_init cX10_init 1 none) (rmd 1 1 100) (va_Pc [.ref h0] (PRE d0 cO (dC, dI) (va_A [(h0, .inr (11, [v0, .int n]))] sz) [(h0, .inr (11, [v0, .int n]))] [] sz)) (va_Qv (fun (_ : Unit) => True) (fun (_ : Unit) (t : State) => ∃ q : Nat, POW (dC, dI) (va_A [(h0, .inr (11, [v0, .int n]))] sz) [(h0, .inr (11, [.ref q, .int n]))] [] t) (va_A [(h0, .inr (11, [v0, .int n]))] sz)) 1 100 (va_A [(h0, .inr (11, [v0, .int n]))] sz) := by
  refine Met.ofW (cc := cX10_init) (maxL := 1) (ret := none) (by decide) rfl ?_
  intro p e s m args below meth c s₁ B hml hv
  obtain ⟨rfl, hsz, hE, hP, hK, hD0⟩ := hv
  have hx := B.exec
  have hb := B.bytes
  have hr := B.returns
  have hts := atoms_spec (ws := cn yX10_init cX10_init 1 none) B.pre
  have ht : ∀ w ∈ GT, w.before _ s = true := fun w h => hts w (List.mem_cons_of_mem _ h)
  have hown : s.vm.findClass RX10 = some m.cls := findClass_of_methodNamed B.named
  have hlocks := B.notSynchronized
  have hin : meth.name = "<init>" := (name_of_methodNamed B.named B.method).1
  subst hsz
  have hD := hD0.self (sz := s.heap.size)
  generalize hAe : va_A [(h0, .inr (11, [v0, .int n]))] s.heap.size = A at hD hE ⊢
  have hA : ∀ q : Nat, s.heap.size ≤ q → A q := fun q h => by rw [← hAe]; exact Or.inr h
  obtain ⟨H, hH0⟩ : ∃ H, s.heap = H := ⟨_, rfl⟩
  have hS : va_S A s.heap H [] := by rw [← hH0]; exact va_S.rf
  rw [hH0] at hP
  have hl := lv_entry ([.ref h0]) (n := 1) (Nat.le_of_ble_eq_true rfl)
  rw [lg_entry_eq]
  generalize (lg_sl ([.ref h0]) ++ List.replicate (1 - (lg_sl ([.ref h0])).length) Slot.unset).toArray = ls at hl ⊢
  have hl : lv_has ls 1 [(0, .ref h0)] := hl
  rw [hH0]
  refine lv_aload_n hx hb dX10_init_0 rfl (lv_at hl 0 rfl) ?_
  refine W.objInit hx hb hown (ht _ q164) (ht _ q157) (ht _ q158) rfl (by rw [hml]; exact hl.1) rfl dX10_init_1 (Nat.le_of_ble_eq_true rfl) (Nat.le_of_ble_eq_true rfl) ?_
  refine W.eq (g2 := F0 m 4 ls []) rfl ?_
  refine lv_aload_n hx hb dX10_init_4 rfl (lv_at hl 0 rfl) ?_
  refine lv_bipush (v := 100) hx hb dX10_init_5 (by decide) ?_
  refine va_newa (atype := .char) (ty := .char) (a0 := (100, .inl (fun _ => 0))) (N' := 100) hx hb (ht _ q172) rfl hK hP hD hS hA (fun _ => rfl) (by decide) (by decide) (by decide) (Nat.le_of_ble_eq_true rfl) (Nat.le_of_ble_eq_true rfl) dX10_init_7 (fun q1 t2 H hK hP hD hS => ?_)
  have hK : va_K (dC, dI) vwCl [(t2, .char)] s := hK
  have hP : va_P (dC, dI) vwCl [(h0, .inr (11, [v0, .int n])), (q1, .inl (t2, 100, .inl ((fun _ => 0))))] H := hP
  have hD : va_D A [(h0, .inr (11, [v0, .int n])), (q1, .inl (t2, 100, .inl ((fun _ => 0))))] := hD
  refine W.widen (k := 1) (n := 100) (Nat.le_of_ble_eq_true rfl) (Nat.le_of_ble_eq_true rfl) ?_
  refine va_putF (D := (dC, dI)) (ci := 11) (v := .ref q1) (ty := .array .char) (C := RX10) (T := TX10) (N := 2) hx hb ht inGX10 tyX10 tyX10_ok nmX10 hown hK hP hD hS 0 rfl rfl 0 (by decide) (ht _ q165) (fun _ h9 => h9) rfl hin rfl (by decide +kernel) rfl rfl (Nat.le_of_ble_eq_true rfl) dX10_init_9 (fun H locs hP hD hS => ?_)
  have hP : va_P (dC, dI) vwCl [(h0, .inr (11, [.ref q1, .int n])), (q1, .inl (t2, 100, .inl ((fun _ => 0))))] H := hP
  have hD : va_D A [(h0, .inr (11, [.ref q1, .int n])), (q1, .inl (t2, 100, .inl ((fun _ => 0))))] := hD
  have hP9 := hP.sub (ws' := [(h0, .inr (11, [.ref q1, .int n]))]) [0] rfl
  have hD9 := hD.sub (ws' := [(h0, .inr (11, [.ref q1, .int n]))]) [0] (by decide) rfl
  have hK9 := hK.sub (tys' := []) [] rfl
  refine W.widen (k := 1) (n := 100) (Nat.le_of_ble_eq_true rfl) (Nat.le_of_ble_eq_true rfl) ?_
  exact W.vret hx hb hr (fun t ht9 hW9 => ⟨⟨(), rfl, trivial, ⟨q1, POW.mk' ht9 hW9.alike hP9 hK9 hD9⟩⟩, hS.F ht9⟩) hS.2.2 dX10_init_12
set_option maxHeartbeats 4000000 in
set_option maxRecDepth 100000 in
theorem k_X5_init (l : Launch) (d0 : Nat) (cO : ClassId) (dC : Nat → ClassId) (dI : Nat → Nat → Nat) (sz : Nat) (h0 : Nat) (v0 : Value) (n : Int32) : Met l yX5_init (cn yX5_init cX5_init 1 none) (rmd 1 0 0) (va_Pc [.ref h0] (PRE d0 cO (dC, dI) (va_A [(h0, .inr (6, [v0, .int n]))] sz) [(h0, .inr (6, [v0, .int n]))] [] sz)) (va_Qv (fun (_ : Unit) => True) (fun (_ : Unit) (t : State) => ∃ v : Value, POW (dC, dI) (va_A [(h0, .inr (6, [v0, .int n]))] sz) [(h0, .inr (6, [v, .int n]))] [] t) (va_A [(h0, .inr (6, [v0, .int n]))] sz)) 0 0 (va_A [(h0, .inr (6, [v0, .int n]))] sz) := by
  refine Met.ofW (cc := cX5_init) (maxL := 1) (ret := none) (by decide) rfl ?_
  intro p e s m args below meth c s₁ B hml hv
  obtain ⟨rfl, hsz, hE, hP, hK, hD0⟩ := hv
  have hx := B.exec
  have hb := B.bytes
  have hr := B.returns
  have hts := atoms_spec (ws := cn yX5_init cX5_init 1 none) B.pre
  have ht : ∀ w ∈ GT, w.before _ s = true := fun w h => hts w (List.mem_cons_of_mem _ h)
  have hown : s.vm.findClass RX5 = some m.cls := findClass_of_methodNamed B.named
  have hlocks := B.notSynchronized
  have hin : meth.name = "<init>" := (name_of_methodNamed B.named B.method).1
  subst hsz
  have hD := hD0.self (sz := s.heap.size)
  generalize hAe : va_A [(h0, .inr (6, [v0, .int n]))] s.heap.size = A at hD hE ⊢
  have hA : ∀ q : Nat, s.heap.size ≤ q → A q := fun q h => by rw [← hAe]; exact Or.inr h
  obtain ⟨H, hH0⟩ : ∃ H, s.heap = H := ⟨_, rfl⟩
  have hS : va_S A s.heap H [] := by rw [← hH0]; exact va_S.rf
  rw [hH0] at hP
  have hl := lv_entry ([.ref h0]) (n := 1) (Nat.le_of_ble_eq_true rfl)
  rw [lg_entry_eq]
  generalize (lg_sl ([.ref h0]) ++ List.replicate (1 - (lg_sl ([.ref h0])).length) Slot.unset).toArray = ls at hl ⊢
  have hl : lv_has ls 1 [(0, .ref h0)] := hl
  rw [hH0]
  refine lv_aload_n hx hb dX5_init_0 rfl (lv_at hl 0 rfl) ?_
  refine W.objInit hx hb hown (ht _ q301) (ht _ q157) (ht _ q158) rfl (by rw [hml]; exact hl.1) rfl dX5_init_1 (Nat.le_of_ble_eq_true rfl) (Nat.le_of_ble_eq_true rfl) ?_
  refine W.eq (g2 := F0 m 4 ls []) rfl ?_
  refine lv_aload_n hx hb dX5_init_4 rfl (lv_at hl 0 rfl) ?_
  obtain ⟨vN1, hN2, hZ3⟩ := zq_val hE.2.2.2.1
  refine va_getsN (v := vN1) hx hb hZ3 hS hown (ht _ q302) (fun _ h9 => h9) dX5_init_5 ?_
  refine va_put (D := (dC, dI)) (ci := 6) (v := vN1) (ty := .array .int) (C := RX5) (T := TX5) (N := 2) hx hb ht inGX5 tyX5 tyX5_ok nmX5 hown hK hP hD hS 0 rfl rfl 0 (by decide) (ht _ q303) (fun _ h9 => h9) rfl (by decide +kernel) (by rcases hN2 with rfl | ⟨t, rfl⟩ <;> rfl) (by rcases hN2 with rfl | ⟨t, rfl⟩ <;> rfl) (Nat.le_of_ble_eq_true rfl) dX5_init_8 (fun H locs hP hD hS => ?_)
  have hP : va_P (dC, dI) vwCl [(h0, .inr (6, [vN1, .int n]))] H := hP
  have hD : va_D A [(h0, .inr (6, [vN1, .int n]))] := hD
  have hP9 := hP.sub (ws' := [(h0, .inr (6, [vN1, .int n]))]) [0] rfl
  have hD9 := hD.sub (ws' := [(h0, .inr (6, [vN1, .int n]))]) [0] (by decide) rfl
  have hK9 := hK.sub (tys' := []) [] rfl
  refine W.widen (k := 0) (n := 0) (Nat.le_of_ble_eq_true rfl) (Nat.le_of_ble_eq_true rfl) ?_
  exact W.vret hx hb hr (fun t ht9 hW9 => ⟨⟨(), rfl, trivial, ⟨vN1, POW.mk' ht9 hW9.alike hP9 hK9 hD9⟩⟩, hS.F ht9⟩) hS.2.2 dX5_init_11
set_option maxHeartbeats 4000000 in
set_option maxRecDepth 100000 in
theorem k_X2_init (l : Launch) (d0 : Nat) (cO : ClassId) (dC : Nat → ClassId) (dI : Nat → Nat → Nat) (sz : Nat) (h0 : Nat) (v0 v1 v2 : Value) (i3 i4 i5 i6 : Int32) : Met l yX2_init (cn yX2_init cX2_init 1 none) (rmd 2 4 204) (va_Pc [.ref h0] (PRE d0 cO (dC, dI) (va_A [(h0, .inr (3, [v0, v1, v2, .int i3, .int i4, .int i5, .int i6]))] sz) [(h0, .inr (3, [v0, v1, v2, .int i3, .int i4, .int i5, .int i6]))] [] sz)) (va_Qv (fun (_ : Unit) => True) (fun (_ : Unit) (t : State) => ∃ w0 : Value, ∃ w1 : Value, ∃ w2 : Value, POW (dC, dI) (va_A [(h0, .inr (3, [v0, v1, v2, .int i3, .int i4, .int i5, .int i6]))] sz) [(h0, .inr (3, [w0, w1, w2, .int i3, .int ((-1)), .int ((-1)), .int ((-1))]))] [] t) (va_A [(h0, .inr (3, [v0, v1, v2, .int i3, .int i4, .int i5, .int i6]))] sz)) 4 204 (va_A [(h0, .inr (3, [v0, v1, v2, .int i3, .int i4, .int i5, .int i6]))] sz) := by
  refine Met.ofW (cc := cX2_init) (maxL := 1) (ret := none) (by decide) rfl ?_
  intro p e s m args below meth c s₁ B hml hv
  obtain ⟨rfl, hsz, hE, hP, hK, hD0⟩ := hv
  have hx := B.exec
  have hb := B.bytes
  have hr := B.returns
  have hts := atoms_spec (ws := cn yX2_init cX2_init 1 none) B.pre
  have ht : ∀ w ∈ GT, w.before _ s = true := fun w h => hts w (List.mem_cons_of_mem _ h)
  have hown : s.vm.findClass RX2 = some m.cls := findClass_of_methodNamed B.named
  have hlocks := B.notSynchronized
  have hin : meth.name = "<init>" := (name_of_methodNamed B.named B.method).1
  subst hsz
  have hD := hD0.self (sz := s.heap.size)
  generalize hAe : va_A [(h0, .inr (3, [v0, v1, v2, .int i3, .int i4, .int i5, .int i6]))] s.heap.size = A at hD hE ⊢
  have hA : ∀ q : Nat, s.heap.size ≤ q → A q := fun q h => by rw [← hAe]; exact Or.inr h
  obtain ⟨H, hH0⟩ : ∃ H, s.heap = H := ⟨_, rfl⟩
  have hS : va_S A s.heap H [] := by rw [← hH0]; exact va_S.rf
  rw [hH0] at hP
  have hl := lv_entry ([.ref h0]) (n := 1) (Nat.le_of_ble_eq_true rfl)
  rw [lg_entry_eq]
  generalize (lg_sl ([.ref h0]) ++ List.replicate (1 - (lg_sl ([.ref h0])).length) Slot.unset).toArray = ls at hl ⊢
  have hl : lv_has ls 1 [(0, .ref h0)] := hl
  rw [hH0]
  refine lv_aload_n hx hb dX2_init_0 rfl (lv_at hl 0 rfl) ?_
  refine W.objInit hx hb hown (ht _ q257) (ht _ q157) (ht _ q158) rfl (by rw [hml]; exact hl.1) rfl dX2_init_1 (Nat.le_of_ble_eq_true rfl) (Nat.le_of_ble_eq_true rfl) ?_
  refine W.eq (g2 := F0 m 4 ls []) rfl ?_
  refine lv_aload_n hx hb dX2_init_4 rfl (lv_at hl 0 rfl) ?_
  refine va_new (ci := 11) (fs := [.null, .int 0]) (C := RX10) (T := TX10) (N := 2) hx hb ht inGX10 tyX10 tyX10_ok hown (ht _ q258) (ht _ q160) (ht _ q124) hK hP hD hS hA rfl (fun j hj => by rcases (show j = 0 ∨ j = 1 by omega) with rfl | rfl <;> rfl) (Nat.le_of_ble_eq_true rfl) (Nat.le_of_ble_eq_true rfl) dX2_init_5 (fun q1 H hP hD hS => ?_)
  have hP : va_P (dC, dI) vwCl [(h0, .inr (3, [v0, v1, v2, .int i3, .int i4, .int i5, .int i6])), (q1, .inr (11, [.null, .int 0]))] H := hP
  have hD : va_D A [(h0, .inr (3, [v0, v1, v2, .int i3, .int i4, .int i5, .int i6])), (q1, .inr (11, [.null, .int 0]))] := hD
  refine W.widen (k := 1) (n := 2) (Nat.le_of_ble_eq_true rfl) (Nat.le_of_ble_eq_true rfl) ?_
  refine lv_dup hx hb dX2_init_8 rfl ?_
  have hPc := hP.sub (ws' := [(q1, .inr (11, [.null, .int 0]))]) [1] rfl
  have hDc := hD.sub (ws' := [(q1, .inr (11, [.null, .int 0]))]) [1] (by decide) rfl
  have hKc := hK.sub (tys' := []) [] rfl
  have hFc := va_free (wc := [(q1, .inr (11, [.null, .int 0]))]) hD hS hA [1] rfl
  refine va_callv (va_runIN (As := []) (rest := [.ref q1, .ref h0]) ⟨hx, hb, hml, hown, ht⟩ (k_X10_init l d0 cO dC dI H.size q1 .null 0) (my_NI ht M_X10_init q162 rfl q259 (Nat.le_of_ble_eq_true rfl) (Nat.le_of_ble_eq_true rfl)) ⟨PRE.fb, fun U hU hW => ⟨rfl, PRE.mk' hE hS hFc hPc hKc hDc U hU hW⟩⟩ rfl rfl hl.1 rfl (lv_room (Nat.le_of_ble_eq_true rfl)) dX2_init_9 ⟨(Nat.le_of_ble_eq_true rfl), (Nat.le_of_ble_eq_true rfl)⟩) hS (fun q _ h => hFc q h) hFc (fun u2 t H1 locs htt hvm hw hB hz1 hk1 hS => ?_)
  try dsimp only at hw hB
  obtain ⟨q4, hP1, hK1, hD1⟩ := hB
  rw [htt] at hP1
  have hK1 := va_K.moved hvm.symm hK1
  obtain ⟨hP, hD⟩ := va_join (wr := [(h0, .inr (3, [v0, v1, v2, .int i3, .int i4, .int i5, .int i6]))]) (w1 := [(q1, .inr (11, [.ref q4, .int 0]))]) hP hD [1] [0] rfl rfl (by decide) (by decide) hk1 hFc hP1 hD1
  have hK := (hK.sub (tys' := []) [] rfl).app hK1
  generalize H1 = H at hP hS ⊢
  have hP : va_P (dC, dI) vwCl [(h0, .inr (3, [v0, v1, v2, .int i3, .int i4, .int i5, .int i6])), (q1, .inr (11, [.ref q4, .int 0]))] H := hP
  have hD : va_D A [(h0, .inr (3, [v0, v1, v2, .int i3, .int i4, .int i5, .int i6])), (q1, .inr (11, [.ref q4, .int 0]))] := hD
  have hK : va_K (dC, dI) vwCl [] s := hK
  refine W.widen (k := 2) (n := 102) (Nat.le_of_ble_eq_true rfl) (Nat.le_of_ble_eq_true rfl) ?_
  refine va_putF (D := (dC, dI)) (ci := 3) (v := .ref q1) (ty := .object "ToolPlex$Text") (C := RX2) (T := TX2) (N := 7) hx hb ht inGX2 tyX2 tyX2_ok nmX2 hown hK hP hD hS 0 rfl rfl 0 (by decide) (ht _ q262) (fun _ h9 => h9) rfl hin rfl (by decide +kernel) rfl rfl (Nat.le_of_ble_eq_true rfl) dX2_init_12 (fun H locs hP hD hS => ?_)
  have hP : va_P (dC, dI) vwCl [(h0, .inr (3, [.ref q1, v1, v2, .int i3, .int i4, .int i5, .int i6])), (q1, .inr (11, [.ref q4, .int 0]))] H := hP
  have hD : va_D A [(h0, .inr (3, [.ref q1, v1, v2, .int i3, .int i4, .int i5, .int i6])), (q1, .inr (11, [.ref q4, .int 0]))] := hD
  refine lv_aload_n hx hb dX2_init_15 rfl (lv_at hl 0 rfl) ?_
  refine va_new (ci := 11) (fs := [.null, .int 0]) (C := RX10) (T := TX10) (N := 2) hx hb ht inGX10 tyX10 tyX10_ok hown (ht _ q258) (ht _ q160) (ht _ q124) hK hP hD hS hA rfl (fun j hj => by rcases (show j = 0 ∨ j = 1 by omega) with rfl | rfl <;> rfl) (Nat.le_of_ble_eq_true rfl) (Nat.le_of_ble_eq_true rfl) dX2_init_16 (fun q5 H hP hD hS => ?_)
  have hP : va_P (dC, dI) vwCl [(h0, .inr (3, [.ref q1, v1, v2, .int i3, .int i4, .int i5, .int i6])), (q1, .inr (11, [.ref q4, .int 0])), (q5, .inr (11, [.null, .int 0]))] H := hP
  have hD : va_D A [(h0, .inr (3, [.ref q1, v1, v2, .int i3, .int i4, .int i5, .int i6])), (q1, .inr (11, [.ref q4, .int 0])), (q5, .inr (11, [.null, .int 0]))] := hD
  refine W.widen (k := 3) (n := 104) (Nat.le_of_ble_eq_true rfl) (Nat.le_of_ble_eq_true rfl) ?_
  refine lv_dup hx hb dX2_init_19 rfl ?_
  have hPc := hP.sub (ws' := [(q5, .inr (11, [.null, .int 0]))]) [2] rfl
  have hDc := hD.sub (ws' := [(q5, .inr (11, [.null, .int 0]))]) [2] (by decide) rfl
  have hKc := hK.sub (tys' := []) [] rfl
  have hFc := va_free (wc := [(q5, .inr (11, [.null, .int 0]))]) hD hS hA [2] rfl
  refine va_callv (va_runIN (As := []) (rest := [.ref q5, .ref h0]) ⟨hx, hb, hml, hown, ht⟩ (k_X10_init l d0 cO dC dI H.size q5 .null 0) (my_NI ht M_X10_init q162 rfl q259 (Nat.le_of_ble_eq_true rfl) (Nat.le_of_ble_eq_true rfl)) ⟨PRE.fb, fun U hU hW => ⟨rfl, PRE.mk' hE hS hFc hPc hKc hDc U hU hW⟩⟩ rfl rfl hl.1 rfl (lv_room (Nat.le_of_ble_eq_true rfl)) dX2_init_20 ⟨(Nat.le_of_ble_eq_true rfl), (Nat.le_of_ble_eq_true rfl)⟩) hS (fun q _ h => hFc q h) hFc (fun u6 t H1 locs htt hvm hw hB hz1 hk1 hS => ?_)
  try dsimp only at hw hB
  obtain ⟨q8, hP1, hK1, hD1⟩ := hB
  rw [htt] at hP1
  have hK1 := va_K.moved hvm.symm hK1
  obtain ⟨hP, hD⟩ := va_join (wr := [(h0, .inr (3, [.ref q1, v1, v2, .int i3, .int i4, .int i5, .int i6])), (q1, .inr (11, [.ref q4, .int 0]))]) (w1 := [(q5, .inr (11, [.ref q8, .int 0]))]) hP hD [2] [0, 1] rfl rfl (by decide) (by decide) hk1 hFc hP1 hD1
  have hK := (hK.sub (tys' := []) [] rfl).app hK1
  generalize H1 = H at hP hS ⊢
  have hP : va_P (dC, dI) vwCl [(h0, .inr (3, [.ref q1, v1, v2, .int i3, .int i4, .int i5, .int i6])), (q1, .inr (11, [.ref q4, .int 0])), (q5, .inr (11, [.ref q8, .int 0]))] H := hP
  have hD : va_D A [(h0, .inr (3, [.ref q1, v1, v2, .int i3, .int i4, .int i5, .int i6])), (q1, .inr (11, [.ref q4, .int 0])), (q5, .inr (11, [.ref q8, .int 0]))] := hD
  have hK : va_K (dC, dI) vwCl [] s := hK
  refine W.widen (k := 4) (n := 204) (Nat.le_of_ble_eq_true rfl) (Nat.le_of_ble_eq_true rfl) ?_
  refine va_putF (D := (dC, dI)) (ci := 3) (v := .ref q5) (ty := .object "ToolPlex$Text") (C := RX2) (T := TX2) (N := 7) hx hb ht inGX2 tyX2 tyX2_ok nmX2 hown hK hP hD hS 0 rfl rfl 1 (by decide) (ht _ q267) (fun _ h9 => h9) rfl hin rfl (by decide +kernel) rfl rfl (Nat.le_of_ble_eq_true rfl) dX2_init_23 (fun H locs hP hD hS => ?_)
  have hP : va_P (dC, dI) vwCl [(h0, .inr (3, [.ref q1, .ref q5, v2, .int i3, .int i4, .int i5, .int i6])), (q1, .inr (11, [.ref q4, .int 0])), (q5, .inr (11, [.ref q8, .int 0]))] H := hP
  have hD : va_D A [(h0, .inr (3, [.ref q1, .ref q5, v2, .int i3, .int i4, .int i5, .int i6])), (q1, .inr (11, [.ref q4, .int 0])), (q5, .inr (11, [.ref q8, .int 0]))] := hD
  refine lv_aload_n hx hb dX2_init_26 rfl (lv_at hl 0 rfl) ?_
  obtain ⟨vN9, hN10, hZ11⟩ := zq_val hE.2.2.2.1
  refine va_getsN (v := vN9) hx hb hZ11 hS hown (ht _ q260) (fun _ h9 => h9) dX2_init_27 ?_
  refine va_put (D := (dC, dI)) (ci := 3) (v := vN9) (ty := .array .int) (C := RX2) (T := TX2) (N := 7) hx hb ht inGX2 tyX2 tyX2_ok nmX2 hown hK hP hD hS 0 rfl rfl 2 (by decide) (ht _ q268) (fun _ h9 => h9) rfl (by decide +kernel) (by rcases hN10 with rfl | ⟨t, rfl⟩ <;> rfl) (by rcases hN10 with rfl | ⟨t, rfl⟩ <;> rfl) (Nat.le_of_ble_eq_true rfl) dX2_init_30 (fun H locs hP hD hS => ?_)
  have hP : va_P (dC, dI) vwCl [(h0, .inr (3, [.ref q1, .ref q5, vN9, .int i3, .int i4, .int i5, .int i6])), (q1, .inr (11, [.ref q4, .int 0])), (q5, .inr (11, [.ref q8, .int 0]))] H := hP
  have hD : va_D A [(h0, .inr (3, [.ref q1, .ref q5, vN9, .int i3, .int i4, .int i5, .int i6])), (q1, .inr (11, [.ref q4, .int 0])), (q5, .inr (11, [.ref q8, .int 0]))] := hD
  refine lv_aload_n hx hb dX2_init_33 rfl (lv_at hl 0 rfl) ?_
  refine lv_iconst (v := -1) hx hb dX2_init_34 (by decide) ?_
  refine va_put (D := (dC, dI)) (ci := 3) (v := .int (-1)) (ty := .int) (C := RX2) (T := TX2) (N := 7) hx hb ht inGX2 tyX2 tyX2_ok nmX2 hown hK hP hD hS 0 rfl rfl 4 (by decide) (ht _ q270) (fun _ h9 => h9) rfl (by decide +kernel) rfl rfl (Nat.le_of_ble_eq_true rfl) dX2_init_35 (fun H locs hP hD hS => ?_)
  have hP : va_P (dC, dI) vwCl [(h0, .inr (3, [.ref q1, .ref q5, vN9, .int i3, .int (-1), .int i5, .int i6])), (q1, .inr (11, [.ref q4, .int 0])), (q5, .inr (11, [.ref q8, .int 0]))] H := hP
  have hD : va_D A [(h0, .inr (3, [.ref q1, .ref q5, vN9, .int i3, .int (-1), .int i5, .int i6])), (q1, .inr (11, [.ref q4, .int 0])), (q5, .inr (11, [.ref q8, .int 0]))] := hD
  refine lv_aload_n hx hb dX2_init_38 rfl (lv_at hl 0 rfl) ?_
  refine lv_iconst (v := -1) hx hb dX2_init_39 (by decide) ?_
  refine va_put (D := (dC, dI)) (ci := 3) (v := .int (-1)) (ty := .int) (C := RX2) (T := TX2) (N := 7) hx hb ht inGX2 tyX2 tyX2_ok nmX2 hown hK hP hD hS 0 rfl rfl 5 (by decide) (ht _ q275) (fun _ h9 => h9) rfl (by decide +kernel) rfl rfl (Nat.le_of_ble_eq_true rfl) dX2_init_40 (fun H locs hP hD hS => ?_)
  have hP : va_P (dC, dI) vwCl [(h0, .inr (3, [.ref q1, .ref q5, vN9, .int i3, .int (-1), .int (-1), .int i6])), (q1, .inr (11, [.ref q4, .int 0])), (q5, .inr (11, [.ref q8, .int 0]))] H := hP
  have hD : va_D A [(h0, .inr (3, [.ref q1, .ref q5, vN9, .int i3, .int (-1), .int (-1), .int i6])), (q1, .inr (11, [.ref q4, .int 0])), (q5, .inr (11, [.ref q8, .int 0]))] := hD
  refine lv_aload_n hx hb dX2_init_43 rfl (lv_at hl 0 rfl) ?_
  refine lv_iconst (v := -1) hx hb dX2_init_44 (by decide) ?_
  refine va_put (D := (dC, dI)) (ci := 3) (v := .int (-1)) (ty := .int) (C := RX2) (T := TX2) (N := 7) hx hb ht inGX2 tyX2 tyX2_ok nmX2 hown hK hP hD hS 0 rfl rfl 6 (by decide) (ht _ q278) (fun _ h9 => h9) rfl (by decide +kernel) rfl rfl (Nat.le_of_ble_eq_true rfl) dX2_init_45 (fun H locs hP hD hS => ?_)
  have hP : va_P (dC, dI) vwCl [(h0, .inr (3, [.ref q1, .ref q5, vN9, .int i3, .int (-1), .int (-1), .int (-1)])), (q1, .inr (11, [.ref q4, .int 0])), (q5, .inr (11, [.ref q8, .int 0]))] H := hP
  have hD : va_D A [(h0, .inr (3, [.ref q1, .ref q5, vN9, .int i3, .int (-1), .int (-1), .int (-1)])), (q1, .inr (11, [.ref q4, .int 0])), (q5, .inr (11, [.ref q8, .int 0]))] := hD
  have hP9 := hP.sub (ws' := [(h0, .inr (3, [.ref q1, .ref q5, vN9, .int i3, .int (-1), .int (-1), .int (-1)]))]) [0] rfl
  have hD9 := hD.sub (ws' := [(h0, .inr (3, [.ref q1, .ref q5, vN9, .int i3, .int (-1), .int (-1), .int (-1)]))]) [0] (by decide) rfl
  have hK9 := hK.sub (tys' := []) [] rfl
  refine W.widen (k := 4) (n := 204) (Nat.le_of_ble_eq_true rfl) (Nat.le_of_ble_eq_true rfl) ?_
  exact W.vret hx hb hr (fun t ht9 hW9 => ⟨⟨(), rfl, trivial, ⟨.ref q1, .ref q5, vN9, POW.mk' ht9 hW9.alike hP9 hK9 hD9⟩⟩, hS.F ht9⟩) hS.2.2 dX2_init_48
set_option maxHeartbeats 4000000 in
set_option maxRecDepth 100000 in
theorem k_X1_init (l : Launch) (d0 : Nat) (cO : ClassId) (dC : Nat → ClassId) (dI : Nat → Nat → Nat) (sz : Nat) (h0 : Nat) (v0 : Value) : Met l yX1_init (cn yX1_init cX1_init 1 none) (rmd 4 1 3) (va_Pc [.ref h0] (PRE d0 cO (dC, dI) (va_A [(h0, .inr (2, [v0]))] sz) [(h0, .inr (2, [v0]))] [] sz)) (va_Qv (fun (_ : Unit) => True) (fun (_ : Unit) (t : State) => ∃ q : Nat, POW (dC, dI) (va_A [(h0, .inr (2, [v0]))] sz) [(h0, .inr (2, [.ref q])), (q, .inr (0, [.int 0, .ref d0, .int 0]))] [] t) (va_A [(h0, .inr (2, [v0]))] sz)) 1 3 (va_A [(h0, .inr (2, [v0]))] sz) := by
  refine Met.ofW (cc := cX1_init) (maxL := 1) (ret := none) (by decide) rfl ?_
  intro p e s m args below meth c s₁ B hml hv
  obtain ⟨rfl, hsz, hE, hP, hK, hD0⟩ := hv
  have hx := B.exec
  have hb := B.bytes
  have hr := B.returns
  have hts := atoms_spec (ws := cn yX1_init cX1_init 1 none) B.pre
  have ht : ∀ w ∈ GT, w.before _ s = true := fun w h => hts w (List.mem_cons_of_mem _ h)
  have hown : s.vm.findClass RX1 = some m.cls := findClass_of_methodNamed B.named
  have hlocks := B.notSynchronized
  have hin : meth.name = "<init>" := (name_of_methodNamed B.named B.method).1
  subst hsz
  have hD := hD0.self (sz := s.heap.size)
  generalize hAe : va_A [(h0, .inr (2, [v0]))] s.heap.size = A at hD hE ⊢
  have hA : ∀ q : Nat, s.heap.size ≤ q → A q := fun q h => by rw [← hAe]; exact Or.inr h
  obtain ⟨H, hH0⟩ : ∃ H, s.heap = H := ⟨_, rfl⟩
  have hS : va_S A s.heap H [] := by rw [← hH0]; exact va_S.rf
  rw [hH0] at hP
  have hl := lv_entry ([.ref h0]) (n := 1) (Nat.le_of_ble_eq_true rfl)
  rw [lg_entry_eq]
  generalize (lg_sl ([.ref h0]) ++ List.replicate (1 - (lg_sl ([.ref h0])).length) Slot.unset).toArray = ls at hl ⊢
  have hl : lv_has ls 1 [(0, .ref h0)] := hl
  rw [hH0]
  refine lv_aload_n hx hb dX1_init_0 rfl (lv_at hl 0 rfl) ?_
  refine W.objInit hx hb hown (ht _ q237) (ht _ q157) (ht _ q158) rfl (by rw [hml]; exact hl.1) rfl dX1_init_1 (Nat.le_of_ble_eq_true rfl) (Nat.le_of_ble_eq_true rfl) ?_
  refine W.eq (g2 := F0 m 4 ls []) rfl ?_
  refine lv_aload_n hx hb dX1_init_4 rfl (lv_at hl 0 rfl) ?_
  refine va_new (ci := 0) (fs := [.int 0, .null, .int 0]) (C := RJx4a65c) (T := TJx4a65c) (N := 3) hx hb ht inGJx4a65c tyJx4a65c tyJx4a65c_ok hown (ht _ q238) (ht _ q206) (ht _ q128) hK hP hD hS hA rfl (fun j hj => by rcases (show j = 0 ∨ j = 1 ∨ j = 2 by omega) with rfl | rfl | rfl <;> rfl) (Nat.le_of_ble_eq_true rfl) (Nat.le_of_ble_eq_true rfl) dX1_init_5 (fun q1 H hP hD hS => ?_)
  have hP : va_P (dC, dI) vwCl [(h0, .inr (2, [v0])), (q1, .inr (0, [.int 0, .null, .int 0]))] H := hP
  have hD : va_D A [(h0, .inr (2, [v0])), (q1, .inr (0, [.int 0, .null, .int 0]))] := hD
  refine W.widen (k := 1) (n := 3) (Nat.le_of_ble_eq_true rfl) (Nat.le_of_ble_eq_true rfl) ?_
  refine lv_dup hx hb dX1_init_8 rfl ?_
  have hPc := hP.sub (ws' := [(q1, .inr (0, [.int 0, .null, .int 0]))]) [1] rfl
  have hDc := hD.sub (ws' := [(q1, .inr (0, [.int 0, .null, .int 0]))]) [1] (by decide) rfl
  have hKc := hK.sub (tys' := []) [] rfl
  have hFc := va_free (wc := [(q1, .inr (0, [.int 0, .null, .int 0]))]) hD hS hA [1] rfl
  refine va_callv (va_runI (As := []) (rest := [.ref q1, .ref h0]) ⟨hx, hb, hml, hown, ht⟩ (k_Jx4a65c_init_da8c8 l d0 cO dC dI H.size q1 0 .null 0) (my_I ht M_Jx4a65c_init_da8c8 q208 rfl q239 (Nat.le_of_ble_eq_true rfl) (Nat.le_of_ble_eq_true rfl)) ⟨PRE.fb, fun U hU hW => ⟨rfl, PRE.mk' hE hS hFc hPc hKc hDc U hU hW⟩⟩ rfl rfl hl.1 rfl (lv_room (Nat.le_of_ble_eq_true rfl)) dX1_init_9 ⟨(Nat.le_of_ble_eq_true rfl), (Nat.le_of_ble_eq_true rfl)⟩) hS (fun q _ h => hFc q h) hFc (fun u2 t H1 locs htt hvm hw hB hz1 hk1 hS => ?_)
  try dsimp only at hw hB
  obtain ⟨hP1, hK1, hD1⟩ := hB
  rw [htt] at hP1
  have hK1 := va_K.moved hvm.symm hK1
  obtain ⟨hP, hD⟩ := va_join (wr := [(h0, .inr (2, [v0]))]) (w1 := [(q1, .inr (0, [.int 0, .ref d0, .int 0]))]) hP hD [1] [0] rfl rfl (by decide) (by decide) hk1 hFc hP1 hD1
  have hK := (hK.sub (tys' := []) [] rfl).app hK1
  generalize H1 = H at hP hS ⊢
  have hP : va_P (dC, dI) vwCl [(h0, .inr (2, [v0])), (q1, .inr (0, [.int 0, .ref d0, .int 0]))] H := hP
  have hD : va_D A [(h0, .inr (2, [v0])), (q1, .inr (0, [.int 0, .ref d0, .int 0]))] := hD
  have hK : va_K (dC, dI) vwCl [] s := hK
  refine W.widen (k := 1) (n := 3) (Nat.le_of_ble_eq_true rfl) (Nat.le_of_ble_eq_true rfl) ?_
  refine va_putF (D := (dC, dI)) (ci := 2) (v := .ref q1) (ty := .object "java/util/ArrayList") (C := RX1) (T := TX1) (N := 1) hx hb ht inGX1 tyX1 tyX1_ok nmX1 hown hK hP hD hS 0 rfl rfl 0 (by decide) (ht _ q240) (fun _ h9 => h9) rfl hin rfl (by decide +kernel) rfl rfl (Nat.le_of_ble_eq_true rfl) dX1_init_12 (fun H locs hP hD hS => ?_)
  have hP : va_P (dC, dI) vwCl [(h0, .inr (2, [.ref q1])), (q1, .inr (0, [.int 0, .ref d0, .int 0]))] H := hP
  have hD : va_D A [(h0, .inr (2, [.ref q1])), (q1, .inr (0, [.int 0, .ref d0, .int 0]))] := hD
  have hP9 := hP.sub (ws' := [(h0, .inr (2, [.ref q1])), (q1, .inr (0, [.int 0, .ref d0, .int 0]))]) [0, 1] rfl
  have hD9 := hD.sub (ws' := [(h0, .inr (2, [.ref q1])), (q1, .inr (0, [.int 0, .ref d0, .int 0]))]) [0, 1] (by decide) rfl
  have hK9 := hK.sub (tys' := []) [] rfl
  refine W.widen (k := 1) (n := 3) (Nat.le_of_ble_eq_true rfl) (Nat.le_of_ble_eq_true rfl) ?_
  exact W.vret hx hb hr (fun t ht9 hW9 => ⟨⟨(), rfl, trivial, ⟨q1, POW.mk' ht9 hW9.alike hP9 hK9 hD9⟩⟩, hS.F ht9⟩) hS.2.2 dX1_init_15
end
section
theorem dX4_init_0 : decode cX4_init 0 = .ok (.aload_n 0, 1) := by decide +kernel
theorem q178 : Cond.methodLink RX4 3 objectInit ∈ GT := gt 178 (by decide +kernel) (by decide +kernel)
theorem dX4_init_1 : decode cX4_init 1 = .ok (.invokespecial 3, 3) := by decide +kernel
theorem dX4_init_4 : decode cX4_init 4 = .ok (.aload_n 0, 1) := by decide +kernel
theorem dX4_init_5 : decode cX4_init 5 = .ok (.bipush 6, 2) := by decide +kernel
theorem dX4_init_7 : decode cX4_init 7 = .ok (.newarray .char, 2) := by decide +kernel
theorem inGX4 : ∀ w ∈ u_ws RX4 TX4 7, w ∈ GT := gts [189, 191, 193, 195, 197, 199, 201] (by decide +kernel) (by decide +kernel)
theorem q182 : Cond.fieldLink RX4 9 "ToolPlex$Files" "names" "[C" ∈ GT := gt 182 (by decide +kernel) (by decide +kernel)
theorem dX4_init_9 : decode cX4_init 9 = .ok (.putfield 9, 3) := by decide +kernel
theorem dX4_init_12 : decode cX4_init 12 = .ok (.aload_n 0, 1) := by decide +kernel
theorem dX4_init_13 : decode cX4_init 13 = .ok (.bipush 6, 2) := by decide +kernel
theorem q204 : Cond.arrayClass FieldType.int ∈ GT := gt 204 (by decide +kernel) (by decide +kernel)
theorem dX4_init_15 : decode cX4_init 15 = .ok (.newarray .int, 2) := by decide +kernel
theorem q183 : Cond.fieldLink RX4 15 "ToolPlex$Files" "languages" "[I" ∈ GT := gt 183 (by decide +kernel) (by decide +kernel)
theorem dX4_init_17 : decode cX4_init 17 = .ok (.putfield 15, 3) := by decide +kernel
theorem dX4_init_20 : decode cX4_init 20 = .ok (.aload_n 0, 1) := by decide +kernel
theorem dX4_init_21 : decode cX4_init 21 = .ok (.bipush 6, 2) := by decide +kernel
theorem dX4_init_23 : decode cX4_init 23 = .ok (.newarray .int, 2) := by decide +kernel
theorem q184 : Cond.fieldLink RX4 19 "ToolPlex$Files" "versions" "[I" ∈ GT := gt 184 (by decide +kernel) (by decide +kernel)
theorem dX4_init_25 : decode cX4_init 25 = .ok (.putfield 19, 3) := by decide +kernel
theorem dX4_init_28 : decode cX4_init 28 = .ok (.aload_n 0, 1) := by decide +kernel
theorem dX4_init_29 : decode cX4_init 29 = .ok (.bipush 6, 2) := by decide +kernel
theorem dX4_init_31 : decode cX4_init 31 = .ok (.newarray .int, 2) := by decide +kernel
theorem q185 : Cond.fieldLink RX4 22 "ToolPlex$Files" "holders" "[I" ∈ GT := gt 185 (by decide +kernel) (by decide +kernel)
theorem dX4_init_33 : decode cX4_init 33 = .ok (.putfield 22, 3) := by decide +kernel
theorem dX4_init_36 : decode cX4_init 36 = .ok (.aload_n 0, 1) := by decide +kernel
theorem dX4_init_37 : decode cX4_init 37 = .ok (.bipush 6, 2) := by decide +kernel
theorem q179 : Cond.classLink RX4 25 RX10 ∈ GT := gt 179 (by decide +kernel) (by decide +kernel)
theorem dX4_init_39 : decode cX4_init 39 = .ok (.anewarray 25, 3) := by decide +kernel
theorem q186 : Cond.fieldLink RX4 27 "ToolPlex$Files" "texts" "[LToolPlex$Text;" ∈ GT := gt 186 (by decide +kernel) (by decide +kernel)
theorem dX4_init_42 : decode cX4_init 42 = .ok (.putfield 27, 3) := by decide +kernel
theorem dX4_init_45 : decode cX4_init 45 = .ok (.aload_n 0, 1) := by decide +kernel
theorem dX4_init_46 : decode cX4_init 46 = .ok (.new 25, 3) := by decide +kernel
theorem dX4_init_49 : decode cX4_init 49 = .ok (.dup, 1) := by decide +kernel
theorem dX4_init_50 : decode cX4_init 50 = .ok (.invokespecial 31, 3) := by decide +kernel
theorem q181 : Cond.methodLinkNest RX4 31 yX10_init "ToolPlex" ∈ GT := gt 181 (by decide +kernel) (by decide +kernel)
theorem q187 : Cond.fieldLink RX4 32 "ToolPlex$Files" "nothing" "LToolPlex$Text;" ∈ GT := gt 187 (by decide +kernel) (by decide +kernel)
theorem dX4_init_53 : decode cX4_init 53 = .ok (.putfield 32, 3) := by decide +kernel
theorem dX4_init_56 : decode cX4_init 56 = .ok (.iconst 0, 1) := by decide +kernel
theorem dX4_init_57 : decode cX4_init 57 = .ok (.istore_n 1, 1) := by decide +kernel
theorem dX4_init_58 : decode cX4_init 58 = .ok (.iload_n 1, 1) := by decide +kernel
theorem dX4_init_59 : decode cX4_init 59 = .ok (.bipush 6, 2) := by decide +kernel
theorem dX4_init_61 : decode cX4_init 61 = .ok (.if_icmp .ge 29, 3) := by decide +kernel
theorem dX4_init_64 : decode cX4_init 64 = .ok (.aload_n 0, 1) := by decide +kernel
theorem dX4_init_65 : decode cX4_init 65 = .ok (.getfield 22, 3) := by decide +kernel
theorem dX4_init_68 : decode cX4_init 68 = .ok (.iload_n 1, 1) := by decide +kernel
theorem dX4_init_69 : decode cX4_init 69 = .ok (.iconst (-1), 1) := by decide +kernel
theorem dX4_init_70 : decode cX4_init 70 = .ok (.iastore, 1) := by decide +kernel
theorem dX4_init_71 : decode cX4_init 71 = .ok (.aload_n 0, 1) := by decide +kernel
theorem dX4_init_72 : decode cX4_init 72 = .ok (.getfield 27, 3) := by decide +kernel
theorem dX4_init_75 : decode cX4_init 75 = .ok (.iload_n 1, 1) := by decide +kernel
theorem dX4_init_76 : decode cX4_init 76 = .ok (.new 25, 3) := by decide +kernel
theorem dX4_init_79 : decode cX4_init 79 = .ok (.dup, 1) := by decide +kernel
theorem dX4_init_80 : decode cX4_init 80 = .ok (.invokespecial 31, 3) := by decide +kernel
theorem dX4_init_83 : decode cX4_init 83 = .ok (.aastore, 1) := by decide +kernel
theorem dX4_init_84 : decode cX4_init 84 = .ok (.iinc 1 1, 3) := by decide +kernel
theorem dX4_init_87 : decode cX4_init 87 = .ok (.goto (-29), 3) := by decide +kernel
theorem dX4_init_90 : decode cX4_init 90 = .ok (.return_, 1) := by decide +kernel
theorem dX3_init_0 : decode cX3_init 0 = .ok (.aload_n 0, 1) := by decide +kernel
theorem q250 : Cond.methodLink RX3 3 objectInit ∈ GT := gt 250 (by decide +kernel) (by decide +kernel)
theorem dX3_init_1 : decode cX3_init 1 = .ok (.invokespecial 3, 3) := by decide +kernel
theorem dX3_init_4 : decode cX3_init 4 = .ok (.aload_n 0, 1) := by decide +kernel
theorem dX3_init_5 : decode cX3_init 5 = .ok (.bipush 6, 2) := by decide +kernel
theorem q251 : Cond.classLink RX3 9 RX2 ∈ GT := gt 251 (by decide +kernel) (by decide +kernel)
theorem dX3_init_7 : decode cX3_init 7 = .ok (.anewarray 9, 3) := by decide +kernel
theorem inGX3 : ∀ w ∈ u_ws RX3 TX3 8, w ∈ GT := gts [320, 322, 324, 326, 328, 330, 332, 334] (by decide +kernel) (by decide +kernel)
theorem q315 : Cond.fieldLink RX3 11 "ToolPlex$Editor" "copies" "[LToolPlex$Copy;" ∈ GT := gt 315 (by decide +kernel) (by decide +kernel)
theorem dX3_init_10 : decode cX3_init 10 = .ok (.putfield 11, 3) := by decide +kernel
theorem dX3_init_13 : decode cX3_init 13 = .ok (.aload_n 0, 1) := by decide +kernel
theorem q253 : Cond.instantiable RX2 7 ∈ GT := gt 253 (by decide +kernel) (by decide +kernel)
theorem q131 : Cond.initialized RX2 ∈ GT := gt 131 (by decide +kernel) (by decide +kernel)
theorem dX3_init_14 : decode cX3_init 14 = .ok (.new 9, 3) := by decide +kernel
theorem dX3_init_17 : decode cX3_init 17 = .ok (.dup, 1) := by decide +kernel
theorem dX3_init_18 : decode cX3_init 18 = .ok (.invokespecial 17, 3) := by decide +kernel
theorem q256 : Cond.code yX2_init cX2_init 1 none ∈ GT := gt 256 (rfl) (by decide +kernel)
theorem M_X2_init : MY yX2_init cX2_init 1 none 0 := ⟨q256, q131, by decide +kernel, by decide +kernel⟩
theorem q254 : Cond.methodLinkNest RX3 17 yX2_init "ToolPlex" ∈ GT := gt 254 (by decide +kernel) (by decide +kernel)
theorem q255 : Cond.instanceMethod yX2_init ∈ GT := gt 255 (by decide +kernel) (by decide +kernel)
theorem q316 : Cond.fieldLink RX3 18 "ToolPlex$Editor" "nothing" "LToolPlex$Copy;" ∈ GT := gt 316 (by decide +kernel) (by decide +kernel)
theorem dX3_init_21 : decode cX3_init 21 = .ok (.putfield 18, 3) := by decide +kernel
theorem dX3_init_24 : decode cX3_init 24 = .ok (.aload_n 0, 1) := by decide +kernel
theorem dX3_init_25 : decode cX3_init 25 = .ok (.bipush 6, 2) := by decide +kernel
theorem q295 : Cond.classLink RX3 22 RX5 ∈ GT := gt 295 (by decide +kernel) (by decide +kernel)
theorem dX3_init_27 : decode cX3_init 27 = .ok (.anewarray 22, 3) := by decide +kernel
theorem q317 : Cond.fieldLink RX3 24 "ToolPlex$Editor" "faults" "[LToolPlex$Items;" ∈ GT := gt 317 (by decide +kernel) (by decide +kernel)
theorem dX3_init_30 : decode cX3_init 30 = .ok (.putfield 24, 3) := by decide +kernel
theorem dX3_init_33 : decode cX3_init 33 = .ok (.aload_n 0, 1) := by decide +kernel
theorem q297 : Cond.instantiable RX5 2 ∈ GT := gt 297 (by decide +kernel) (by decide +kernel)
theorem q132 : Cond.initialized RX5 ∈ GT := gt 132 (by decide +kernel) (by decide +kernel)
theorem dX3_init_34 : decode cX3_init 34 = .ok (.new 22, 3) := by decide +kernel
theorem dX3_init_37 : decode cX3_init 37 = .ok (.dup, 1) := by decide +kernel
theorem dX3_init_38 : decode cX3_init 38 = .ok (.invokespecial 28, 3) := by decide +kernel
theorem q300 : Cond.code yX5_init cX5_init 1 none ∈ GT := gt 300 (rfl) (by decide +kernel)
theorem M_X5_init : MY yX5_init cX5_init 1 none 0 := ⟨q300, q132, by decide +kernel, by decide +kernel⟩
theorem q298 : Cond.methodLinkNest RX3 28 yX5_init "ToolPlex" ∈ GT := gt 298 (by decide +kernel) (by decide +kernel)
theorem q299 : Cond.instanceMethod yX5_init ∈ GT := gt 299 (by decide +kernel) (by decide +kernel)
theorem q318 : Cond.fieldLink RX3 29 "ToolPlex$Editor" "noFaults" "LToolPlex$Items;" ∈ GT := gt 318 (by decide +kernel) (by decide +kernel)
theorem dX3_init_41 : decode cX3_init 41 = .ok (.putfield 29, 3) := by decide +kernel
theorem dX3_init_44 : decode cX3_init 44 = .ok (.aload_n 0, 1) := by decide +kernel
theorem q310 : Cond.classLink RX3 33 RJx4a65c ∈ GT := gt 310 (by decide +kernel) (by decide +kernel)
theorem dX3_init_45 : decode cX3_init 45 = .ok (.new 33, 3) := by decide +kernel
theorem dX3_init_48 : decode cX3_init 48 = .ok (.dup, 1) := by decide +kernel
theorem dX3_init_49 : decode cX3_init 49 = .ok (.invokespecial 35, 3) := by decide +kernel
theorem q311 : Cond.methodLink RX3 35 yJx4a65c_init_da8c8 ∈ GT := gt 311 (by decide +kernel) (by decide +kernel)
theorem q319 : Cond.fieldLink RX3 36 "ToolPlex$Editor" "asks" "Ljava/util/ArrayList;" ∈ GT := gt 319 (by decide +kernel) (by decide +kernel)
theorem dX3_init_52 : decode cX3_init 52 = .ok (.putfield 36, 3) := by decide +kernel
theorem dX3_init_55 : decode cX3_init 55 = .ok (.aload_n 0, 1) := by decide +kernel
theorem dX3_init_56 : decode cX3_init 56 = .ok (.iload_n 1, 1) := by decide +kernel
theorem q312 : Cond.fieldLink RX3 40 "ToolPlex$Editor" "number" "I" ∈ GT := gt 312 (by decide +kernel) (by decide +kernel)
theorem dX3_init_57 : decode cX3_init 57 = .ok (.putfield 40, 3) := by decide +kernel
theorem dX3_init_60 : decode cX3_init 60 = .ok (.aload_n 0, 1) := by decide +kernel
theorem dX3_init_61 : decode cX3_init 61 = .ok (.aload_n 2, 1) := by decide +kernel
theorem q313 : Cond.fieldLink RX3 44 "ToolPlex$Editor" "files" "LToolPlex$Files;" ∈ GT := gt 313 (by decide +kernel) (by decide +kernel)
theorem dX3_init_62 : decode cX3_init 62 = .ok (.putfield 44, 3) := by decide +kernel
theorem dX3_init_65 : decode cX3_init 65 = .ok (.aload_n 0, 1) := by decide +kernel
theorem dX3_init_66 : decode cX3_init 66 = .ok (.aload_n 3, 1) := by decide +kernel
theorem q314 : Cond.fieldLink RX3 48 "ToolPlex$Editor" "out" "LToolPlex$Channel;" ∈ GT := gt 314 (by decide +kernel) (by decide +kernel)
theorem dX3_init_67 : decode cX3_init 67 = .ok (.putfield 48, 3) := by decide +kernel
theorem dX3_init_70 : decode cX3_init 70 = .ok (.iconst 0, 1) := by decide +kernel
theorem dX3_init_71 : decode cX3_init 71 = .ok (.istore 4, 2) := by decide +kernel
theorem dX3_init_73 : decode cX3_init 73 = .ok (.iload 4, 2) := by decide +kernel
theorem dX3_init_75 : decode cX3_init 75 = .ok (.bipush 6, 2) := by decide +kernel
theorem dX3_init_77 : decode cX3_init 77 = .ok (.if_icmp .ge 37, 3) := by decide +kernel
theorem dX3_init_80 : decode cX3_init 80 = .ok (.aload_n 0, 1) := by decide +kernel
theorem dX3_init_81 : decode cX3_init 81 = .ok (.getfield 11, 3) := by decide +kernel
theorem dX3_init_84 : decode cX3_init 84 = .ok (.iload 4, 2) := by decide +kernel
theorem dX3_init_86 : decode cX3_init 86 = .ok (.new 9, 3) := by decide +kernel
theorem dX3_init_89 : decode cX3_init 89 = .ok (.dup, 1) := by decide +kernel
theorem dX3_init_90 : decode cX3_init 90 = .ok (.invokespecial 17, 3) := by decide +kernel
theorem dX3_init_93 : decode cX3_init 93 = .ok (.aastore, 1) := by decide +kernel
theorem dX3_init_94 : decode cX3_init 94 = .ok (.aload_n 0, 1) := by decide +kernel
theorem dX3_init_95 : decode cX3_init 95 = .ok (.getfield 24, 3) := by decide +kernel
theorem dX3_init_98 : decode cX3_init 98 = .ok (.iload 4, 2) := by decide +kernel
theorem dX3_init_100 : decode cX3_init 100 = .ok (.new 22, 3) := by decide +kernel
theorem dX3_init_103 : decode cX3_init 103 = .ok (.dup, 1) := by decide +kernel
theorem dX3_init_104 : decode cX3_init 104 = .ok (.invokespecial 28, 3) := by decide +kernel
theorem dX3_init_107 : decode cX3_init 107 = .ok (.aastore, 1) := by decide +kernel
theorem dX3_init_108 : decode cX3_init 108 = .ok (.iinc 4 1, 3) := by decide +kernel
theorem dX3_init_111 : decode cX3_init 111 = .ok (.goto (-38), 3) := by decide +kernel
theorem dX3_init_114 : decode cX3_init 114 = .ok (.return_, 1) := by decide +kernel
theorem dJ7_fill_53178_0 : decode cJ7_fill_53178 0 = .ok (.iconst 0, 1) := by decide +kernel
theorem dJ7_fill_53178_1 : decode cJ7_fill_53178 1 = .ok (.istore_n 2, 1) := by decide +kernel
theorem dJ7_fill_53178_2 : decode cJ7_fill_53178 2 = .ok (.aload_n 0, 1) := by decide +kernel
theorem dJ7_fill_53178_3 : decode cJ7_fill_53178 3 = .ok (.arraylength, 1) := by decide +kernel
theorem dJ7_fill_53178_4 : decode cJ7_fill_53178 4 = .ok (.istore_n 3, 1) := by decide +kernel
theorem dJ7_fill_53178_5 : decode cJ7_fill_53178 5 = .ok (.iload_n 2, 1) := by decide +kernel
theorem dJ7_fill_53178_6 : decode cJ7_fill_53178 6 = .ok (.iload_n 3, 1) := by decide +kernel
theorem dJ7_fill_53178_7 : decode cJ7_fill_53178 7 = .ok (.if_icmp .ge 13, 3) := by decide +kernel
theorem dJ7_fill_53178_20 : decode cJ7_fill_53178 20 = .ok (.return_, 1) := by decide +kernel
theorem dJ7_fill_53178_10 : decode cJ7_fill_53178 10 = .ok (.aload_n 0, 1) := by decide +kernel
theorem dJ7_fill_53178_11 : decode cJ7_fill_53178 11 = .ok (.iload_n 2, 1) := by decide +kernel
theorem dJ7_fill_53178_12 : decode cJ7_fill_53178 12 = .ok (.iload_n 1, 1) := by decide +kernel
theorem dJ7_fill_53178_13 : decode cJ7_fill_53178 13 = .ok (.iastore, 1) := by decide +kernel
theorem dJ7_fill_53178_14 : decode cJ7_fill_53178 14 = .ok (.iinc 2 1, 3) := by decide +kernel
theorem dJ7_fill_53178_17 : decode cJ7_fill_53178 17 = .ok (.goto (-12), 3) := by decide +kernel
set_option maxHeartbeats 4000000 in
set_option maxRecDepth 100000 in
theorem k_X4_init (l : Launch) (d0 : Nat) (cO : ClassId) (dC : Nat → ClassId) (dI : Nat → Nat → Nat) (sz : Nat) (h0 : Nat) (v0 v1 v2 v3 v4 v5 : Value) (n : Int32) : Met l yX4_init (cn yX4_init cX4_init 2 none) (rmd 2 19 744) (va_Pc [.ref h0] (PRE d0 cO (dC, dI) (va_A [(h0, .inr (5, [v0, v1, v2, v3, v4, v5, .int n]))] sz) [(h0, .inr (5, [v0, v1, v2, v3, v4, v5, .int n]))] [] sz)) (va_Qv (fun (_ : Unit) => True) (fun (_ : Unit) (t : State) => ∃ na : Nat, ∃ la : Nat, ∃ w2 : Value, ∃ w3 : Value, ∃ w4 : Value, ∃ w5 : Value, ∃ tC : ClassId, ∃ tI : ClassId, POW (dC, dI) (va_A [(h0, .inr (5, [v0, v1, v2, v3, v4, v5, .int n]))] sz) [(h0, .inr (5, [.ref na, .ref la, w2, w3, w4, w5, .int n])), (na, .inl (tC, 6, .inl ((fun _ => 0)))), (la, .inl (tI, 6, .inl ((fun _ => 0))))] [(tC, .char), (tI, .int)] t) (va_A [(h0, .inr (5, [v0, v1, v2, v3, v4, v5, .int n]))] sz)) 19 744 (va_A [(h0, .inr (5, [v0, v1, v2, v3, v4, v5, .int n]))] sz) := by
  refine Met.ofW (cc := cX4_init) (maxL := 2) (ret := none) (by decide) rfl ?_
  intro p e s m args below meth c s₁ B hml hv
  obtain ⟨rfl, hsz, hE, hP, hK, hD0⟩ := hv
  have hx := B.exec
  have hb := B.bytes
  have hr := B.returns
  have hts := atoms_spec (ws := cn yX4_init cX4_init 2 none) B.pre
  have ht : ∀ w ∈ GT, w.before _ s = true := fun w h => hts w (List.mem_cons_of_mem _ h)
  have hown : s.vm.findClass RX4 = some m.cls := findClass_of_methodNamed B.named
  have hlocks := B.notSynchronized
  have hin : meth.name = "<init>" := (name_of_methodNamed B.named B.method).1
  subst hsz
  have hD := hD0.self (sz := s.heap.size)
  generalize hAe : va_A [(h0, .inr (5, [v0, v1, v2, v3, v4, v5, .int n]))] s.heap.size = A at hD hE ⊢
  have hA : ∀ q : Nat, s.heap.size ≤ q → A q := fun q h => by rw [← hAe]; exact Or.inr h
  obtain ⟨H, hH0⟩ : ∃ H, s.heap = H := ⟨_, rfl⟩
  have hS : va_S A s.heap H [] := by rw [← hH0]; exact va_S.rf
  rw [hH0] at hP
  have hl := lv_entry ([.ref h0]) (n := 2) (Nat.le_of_ble_eq_true rfl)
  rw [lg_entry_eq]
  generalize (lg_sl ([.ref h0]) ++ List.replicate (2 - (lg_sl ([.ref h0])).length) Slot.unset).toArray = ls at hl ⊢
  have hl : lv_has ls 2 [(0, .ref h0)] := hl
  rw [hH0]
  refine lv_aload_n hx hb dX4_init_0 rfl (lv_at hl 0 rfl) ?_
  refine W.objInit hx hb hown (ht _ q178) (ht _ q157) (ht _ q158) rfl (by rw [hml]; exact hl.1) rfl dX4_init_1 (Nat.le_of_ble_eq_true rfl) (Nat.le_of_ble_eq_true rfl) ?_
  refine W.eq (g2 := F0 m 4 ls []) rfl ?_
  refine lv_aload_n hx hb dX4_init_4 rfl (lv_at hl 0 rfl) ?_
  refine lv_bipush (v := 6) hx hb dX4_init_5 (by decide) ?_
  refine va_newa (atype := .char) (ty := .char) (a0 := (6, .inl (fun _ => 0))) (N' := 6) hx hb (ht _ q172) rfl hK hP hD hS hA (fun _ => rfl) (by decide) (by decide) (by decide) (Nat.le_of_ble_eq_true rfl) (Nat.le_of_ble_eq_true rfl) dX4_init_7 (fun q1 t2 H hK hP hD hS => ?_)
  have hK : va_K (dC, dI) vwCl [(t2, .char)] s := hK
  have hP : va_P (dC, dI) vwCl [(h0, .inr (5, [v0, v1, v2, v3, v4, v5, .int n])), (q1, .inl (t2, 6, .inl ((fun _ => 0))))] H := hP
  have hD : va_D A [(h0, .inr (5, [v0, v1, v2, v3, v4, v5, .int n])), (q1, .inl (t2, 6, .inl ((fun _ => 0))))] := hD
  refine W.widen (k := 1) (n := 6) (Nat.le_of_ble_eq_true rfl) (Nat.le_of_ble_eq_true rfl) ?_
  refine va_putF (D := (dC, dI)) (ci := 5) (v := .ref q1) (ty := .array .char) (C := RX4) (T := TX4) (N := 7) hx hb ht inGX4 tyX4 tyX4_ok nmX4 hown hK hP hD hS 0 rfl rfl 0 (by decide) (ht _ q182) (fun _ h9 => h9) rfl hin rfl (by decide +kernel) rfl rfl (Nat.le_of_ble_eq_true rfl) dX4_init_9 (fun H locs hP hD hS => ?_)
  have hP : va_P (dC, dI) vwCl [(h0, .inr (5, [.ref q1, v1, v2, v3, v4, v5, .int n])), (q1, .inl (t2, 6, .inl ((fun _ => 0))))] H := hP
  have hD : va_D A [(h0, .inr (5, [.ref q1, v1, v2, v3, v4, v5, .int n])), (q1, .inl (t2, 6, .inl ((fun _ => 0))))] := hD
  refine lv_aload_n hx hb dX4_init_12 rfl (lv_at hl 0 rfl) ?_
  refine lv_bipush (v := 6) hx hb dX4_init_13 (by decide) ?_
  refine va_newa (atype := .int) (ty := .int) (a0 := (6, .inl (fun _ => 0))) (N' := 6) hx hb (ht _ q204) rfl hK hP hD hS hA (fun _ => rfl) (by decide) (by decide) (by decide) (Nat.le_of_ble_eq_true rfl) (Nat.le_of_ble_eq_true rfl) dX4_init_15 (fun q3 t4 H hK hP hD hS => ?_)
  have hK : va_K (dC, dI) vwCl [(t2, .char), (t4, .int)] s := hK
  have hP : va_P (dC, dI) vwCl [(h0, .inr (5, [.ref q1, v1, v2, v3, v4, v5, .int n])), (q1, .inl (t2, 6, .inl ((fun _ => 0)))), (q3, .inl (t4, 6, .inl ((fun _ => 0))))] H := hP
  have hD : va_D A [(h0, .inr (5, [.ref q1, v1, v2, v3, v4, v5, .int n])), (q1, .inl (t2, 6, .inl ((fun _ => 0)))), (q3, .inl (t4, 6, .inl ((fun _ => 0))))] := hD
  refine W.widen (k := 2) (n := 12) (Nat.le_of_ble_eq_true rfl) (Nat.le_of_ble_eq_true rfl) ?_
  refine va_putF (D := (dC, dI)) (ci := 5) (v := .ref q3) (ty := .array .int) (C := RX4) (T := TX4) (N := 7) hx hb ht inGX4 tyX4 tyX4_ok nmX4 hown hK hP hD hS 0 rfl rfl 1 (by decide) (ht _ q183) (fun _ h9 => h9) rfl hin rfl (by decide +kernel) rfl rfl (Nat.le_of_ble_eq_true rfl) dX4_init_17 (fun H locs hP hD hS => ?_)
  have hP : va_P (dC, dI) vwCl [(h0, .inr (5, [.ref q1, .ref q3, v2, v3, v4, v5, .int n])), (q1, .inl (t2, 6, .inl ((fun _ => 0)))), (q3, .inl (t4, 6, .inl ((fun _ => 0))))] H := hP
  have hD : va_D A [(h0, .inr (5, [.ref q1, .ref q3, v2, v3, v4, v5, .int n])), (q1, .inl (t2, 6, .inl ((fun _ => 0)))), (q3, .inl (t4, 6, .inl ((fun _ => 0))))] := hD
  refine lv_aload_n hx hb dX4_init_20 rfl (lv_at hl 0 rfl) ?_
  refine lv_bipush (v := 6) hx hb dX4_init_21 (by decide) ?_
  refine va_newa (atype := .int) (ty := .int) (a0 := (6, .inl (fun _ => 0))) (N' := 6) hx hb (ht _ q204) rfl hK hP hD hS hA (fun _ => rfl) (by decide) (by decide) (by decide) (Nat.le_of_ble_eq_true rfl) (Nat.le_of_ble_eq_true rfl) dX4_init_23 (fun q5 t6 H hK hP hD hS => ?_)
  have hK : va_K (dC, dI) vwCl [(t2, .char), (t4, .int), (t6, .int)] s := hK
  have hP : va_P (dC, dI) vwCl [(h0, .inr (5, [.ref q1, .ref q3, v2, v3, v4, v5, .int n])), (q1, .inl (t2, 6, .inl ((fun _ => 0)))), (q3, .inl (t4, 6, .inl ((fun _ => 0)))), (q5, .inl (t6, 6, .inl ((fun _ => 0))))] H := hP
  have hD : va_D A [(h0, .inr (5, [.ref q1, .ref q3, v2, v3, v4, v5, .int n])), (q1, .inl (t2, 6, .inl ((fun _ => 0)))), (q3, .inl (t4, 6, .inl ((fun _ => 0)))), (q5, .inl (t6, 6, .inl ((fun _ => 0))))] := hD
  refine W.widen (k := 3) (n := 18) (Nat.le_of_ble_eq_true rfl) (Nat.le_of_ble_eq_true rfl) ?_
  refine va_putF (D := (dC, dI)) (ci := 5) (v := .ref q5) (ty := .array .int) (C := RX4) (T := TX4) (N := 7) hx hb ht inGX4 tyX4 tyX4_ok nmX4 hown hK hP hD hS 0 rfl rfl 2 (by decide) (ht _ q184) (fun _ h9 => h9) rfl hin rfl (by decide +kernel) rfl rfl (Nat.le_of_ble_eq_true rfl) dX4_init_25 (fun H locs hP hD hS => ?_)
  have hP : va_P (dC, dI) vwCl [(h0, .inr (5, [.ref q1, .ref q3, .ref q5, v3, v4, v5, .int n])), (q1, .inl (t2, 6, .inl ((fun _ => 0)))), (q3, .inl (t4, 6, .inl ((fun _ => 0)))), (q5, .inl (t6, 6, .inl ((fun _ => 0))))] H := hP
  have hD : va_D A [(h0, .inr (5, [.ref q1, .ref q3, .ref q5, v3, v4, v5, .int n])), (q1, .inl (t2, 6, .inl ((fun _ => 0)))), (q3, .inl (t4, 6, .inl ((fun _ => 0)))), (q5, .inl (t6, 6, .inl ((fun _ => 0))))] := hD
  refine lv_aload_n hx hb dX4_init_28 rfl (lv_at hl 0 rfl) ?_
  refine lv_bipush (v := 6) hx hb dX4_init_29 (by decide) ?_
  refine va_newa (atype := .int) (ty := .int) (a0 := (6, .inl (fun _ => 0))) (N' := 6) hx hb (ht _ q204) rfl hK hP hD hS hA (fun _ => rfl) (by decide) (by decide) (by decide) (Nat.le_of_ble_eq_true rfl) (Nat.le_of_ble_eq_true rfl) dX4_init_31 (fun q7 t8 H hK hP hD hS => ?_)
  have hK : va_K (dC, dI) vwCl [(t2, .char), (t4, .int), (t6, .int), (t8, .int)] s := hK
  have hP : va_P (dC, dI) vwCl [(h0, .inr (5, [.ref q1, .ref q3, .ref q5, v3, v4, v5, .int n])), (q1, .inl (t2, 6, .inl ((fun _ => 0)))), (q3, .inl (t4, 6, .inl ((fun _ => 0)))), (q5, .inl (t6, 6, .inl ((fun _ => 0)))), (q7, .inl (t8, 6, .inl ((fun _ => 0))))] H := hP
  have hD : va_D A [(h0, .inr (5, [.ref q1, .ref q3, .ref q5, v3, v4, v5, .int n])), (q1, .inl (t2, 6, .inl ((fun _ => 0)))), (q3, .inl (t4, 6, .inl ((fun _ => 0)))), (q5, .inl (t6, 6, .inl ((fun _ => 0)))), (q7, .inl (t8, 6, .inl ((fun _ => 0))))] := hD
  refine W.widen (k := 4) (n := 24) (Nat.le_of_ble_eq_true rfl) (Nat.le_of_ble_eq_true rfl) ?_
  refine va_putF (D := (dC, dI)) (ci := 5) (v := .ref q7) (ty := .array .int) (C := RX4) (T := TX4) (N := 7) hx hb ht inGX4 tyX4 tyX4_ok nmX4 hown hK hP hD hS 0 rfl rfl 3 (by decide) (ht _ q185) (fun _ h9 => h9) rfl hin rfl (by decide +kernel) rfl rfl (Nat.le_of_ble_eq_true rfl) dX4_init_33 (fun H locs hP hD hS => ?_)
  have hP : va_P (dC, dI) vwCl [(h0, .inr (5, [.ref q1, .ref q3, .ref q5, .ref q7, v4, v5, .int n])), (q1, .inl (t2, 6, .inl ((fun _ => 0)))), (q3, .inl (t4, 6, .inl ((fun _ => 0)))), (q5, .inl (t6, 6, .inl ((fun _ => 0)))), (q7, .inl (t8, 6, .inl ((fun _ => 0))))] H := hP
  have hD : va_D A [(h0, .inr (5, [.ref q1, .ref q3, .ref q5, .ref q7, v4, v5, .int n])), (q1, .inl (t2, 6, .inl ((fun _ => 0)))), (q3, .inl (t4, 6, .inl ((fun _ => 0)))), (q5, .inl (t6, 6, .inl ((fun _ => 0)))), (q7, .inl (t8, 6, .inl ((fun _ => 0))))] := hD
  refine lv_aload_n hx hb dX4_init_36 rfl (lv_at hl 0 rfl) ?_
  refine lv_bipush (v := 6) hx hb dX4_init_37 (by decide) ?_
  refine va_newq (C := RX10) (N' := 6) hx hb hown (ht _ q179) (hE.1.1) hK hP hD hS hA (by decide) (by decide) (by decide) (Nat.le_of_ble_eq_true rfl) (Nat.le_of_ble_eq_true rfl) dX4_init_39 (fun q9 t10 H hK hP hD hS => ?_)
  have hK : va_K (dC, dI) vwCl [(t2, .char), (t4, .int), (t6, .int), (t8, .int), (t10, .object RX10)] s := hK
  have hP : va_P (dC, dI) vwCl [(h0, .inr (5, [.ref q1, .ref q3, .ref q5, .ref q7, v4, v5, .int n])), (q1, .inl (t2, 6, .inl ((fun _ => 0)))), (q3, .inl (t4, 6, .inl ((fun _ => 0)))), (q5, .inl (t6, 6, .inl ((fun _ => 0)))), (q7, .inl (t8, 6, .inl ((fun _ => 0)))), (q9, .inl (t10, 6, .inr (.inr (.inr (.inr ((fun _ => none)))))))] H := hP
  have hD : va_D A [(h0, .inr (5, [.ref q1, .ref q3, .ref q5, .ref q7, v4, v5, .int n])), (q1, .inl (t2, 6, .inl ((fun _ => 0)))), (q3, .inl (t4, 6, .inl ((fun _ => 0)))), (q5, .inl (t6, 6, .inl ((fun _ => 0)))), (q7, .inl (t8, 6, .inl ((fun _ => 0)))), (q9, .inl (t10, 6, .inr (.inr (.inr (.inr ((fun _ => none)))))))] := hD
  refine W.widen (k := 5) (n := 30) (Nat.le_of_ble_eq_true rfl) (Nat.le_of_ble_eq_true rfl) ?_
  refine va_putF (D := (dC, dI)) (ci := 5) (v := .ref q9) (ty := .array (.object "ToolPlex$Text")) (C := RX4) (T := TX4) (N := 7) hx hb ht inGX4 tyX4 tyX4_ok nmX4 hown hK hP hD hS 0 rfl rfl 4 (by decide) (ht _ q186) (fun _ h9 => h9) rfl hin rfl (by decide +kernel) rfl rfl (Nat.le_of_ble_eq_true rfl) dX4_init_42 (fun H locs hP hD hS => ?_)
  have hP : va_P (dC, dI) vwCl [(h0, .inr (5, [.ref q1, .ref q3, .ref q5, .ref q7, .ref q9, v5, .int n])), (q1, .inl (t2, 6, .inl ((fun _ => 0)))), (q3, .inl (t4, 6, .inl ((fun _ => 0)))), (q5, .inl (t6, 6, .inl ((fun _ => 0)))), (q7, .inl (t8, 6, .inl ((fun _ => 0)))), (q9, .inl (t10, 6, .inr (.inr (.inr (.inr ((fun _ => none)))))))] H := hP
  have hD : va_D A [(h0, .inr (5, [.ref q1, .ref q3, .ref q5, .ref q7, .ref q9, v5, .int n])), (q1, .inl (t2, 6, .inl ((fun _ => 0)))), (q3, .inl (t4, 6, .inl ((fun _ => 0)))), (q5, .inl (t6, 6, .inl ((fun _ => 0)))), (q7, .inl (t8, 6, .inl ((fun _ => 0)))), (q9, .inl (t10, 6, .inr (.inr (.inr (.inr ((fun _ => none)))))))] := hD
  refine lv_aload_n hx hb dX4_init_45 rfl (lv_at hl 0 rfl) ?_
  refine va_new (ci := 11) (fs := [.null, .int 0]) (C := RX10) (T := TX10) (N := 2) hx hb ht inGX10 tyX10 tyX10_ok hown (ht _ q179) (ht _ q160) (ht _ q124) hK hP hD hS hA rfl (fun j hj => by rcases (show j = 0 ∨ j = 1 by omega) with rfl | rfl <;> rfl) (Nat.le_of_ble_eq_true rfl) (Nat.le_of_ble_eq_true rfl) dX4_init_46 (fun q11 H hP hD hS => ?_)
  have hP : va_P (dC, dI) vwCl [(h0, .inr (5, [.ref q1, .ref q3, .ref q5, .ref q7, .ref q9, v5, .int n])), (q1, .inl (t2, 6, .inl ((fun _ => 0)))), (q3, .inl (t4, 6, .inl ((fun _ => 0)))), (q5, .inl (t6, 6, .inl ((fun _ => 0)))), (q7, .inl (t8, 6, .inl ((fun _ => 0)))), (q9, .inl (t10, 6, .inr (.inr (.inr (.inr ((fun _ => none))))))), (q11, .inr (11, [.null, .int 0]))] H := hP
  have hD : va_D A [(h0, .inr (5, [.ref q1, .ref q3, .ref q5, .ref q7, .ref q9, v5, .int n])), (q1, .inl (t2, 6, .inl ((fun _ => 0)))), (q3, .inl (t4, 6, .inl ((fun _ => 0)))), (q5, .inl (t6, 6, .inl ((fun _ => 0)))), (q7, .inl (t8, 6, .inl ((fun _ => 0)))), (q9, .inl (t10, 6, .inr (.inr (.inr (.inr ((fun _ => none))))))), (q11, .inr (11, [.null, .int 0]))] := hD
  refine W.widen (k := 6) (n := 32) (Nat.le_of_ble_eq_true rfl) (Nat.le_of_ble_eq_true rfl) ?_
  refine lv_dup hx hb dX4_init_49 rfl ?_
  have hPc := hP.sub (ws' := [(q11, .inr (11, [.null, .int 0]))]) [6] rfl
  have hDc := hD.sub (ws' := [(q11, .inr (11, [.null, .int 0]))]) [6] (by decide) rfl
  have hKc := hK.sub (tys' := []) [] rfl
  have hFc := va_free (wc := [(q11, .inr (11, [.null, .int 0]))]) hD hS hA [6] rfl
  refine va_callv (va_runIN (As := []) (rest := [.ref q11, .ref h0]) ⟨hx, hb, hml, hown, ht⟩ (k_X10_init l d0 cO dC dI H.size q11 .null 0) (my_NI ht M_X10_init q162 rfl q181 (Nat.le_of_ble_eq_true rfl) (Nat.le_of_ble_eq_true rfl)) ⟨PRE.fb, fun U hU hW => ⟨rfl, PRE.mk' hE hS hFc hPc hKc hDc U hU hW⟩⟩ rfl rfl hl.1 rfl (lv_room (Nat.le_of_ble_eq_true rfl)) dX4_init_50 ⟨(Nat.le_of_ble_eq_true rfl), (Nat.le_of_ble_eq_true rfl)⟩) hS (fun q _ h => hFc q h) hFc (fun u12 t H1 locs htt hvm hw hB hz1 hk1 hS => ?_)
  try dsimp only at hw hB
  obtain ⟨q14, hP1, hK1, hD1⟩ := hB
  rw [htt] at hP1
  have hK1 := va_K.moved hvm.symm hK1
  obtain ⟨hP, hD⟩ := va_join (wr := [(h0, .inr (5, [.ref q1, .ref q3, .ref q5, .ref q7, .ref q9, v5, .int n])), (q1, .inl (t2, 6, .inl ((fun _ => 0)))), (q3, .inl (t4, 6, .inl ((fun _ => 0)))), (q5, .inl (t6, 6, .inl ((fun _ => 0)))), (q7, .inl (t8, 6, .inl ((fun _ => 0)))), (q9, .inl (t10, 6, .inr (.inr (.inr (.inr ((fun _ => none)))))))]) (w1 := [(q11, .inr (11, [.ref q14, .int 0]))]) hP hD [6] [0, 1, 2, 3, 4, 5] rfl rfl (by decide) (by decide) hk1 hFc hP1 hD1
  have hK := (hK.sub (tys' := [(t2, .char), (t4, .int), (t6, .int), (t8, .int), (t10, .object RX10)]) [0, 1, 2, 3, 4] rfl).app hK1
  generalize H1 = H at hP hS ⊢
  have hP : va_P (dC, dI) vwCl [(h0, .inr (5, [.ref q1, .ref q3, .ref q5, .ref q7, .ref q9, v5, .int n])), (q1, .inl (t2, 6, .inl ((fun _ => 0)))), (q3, .inl (t4, 6, .inl ((fun _ => 0)))), (q5, .inl (t6, 6, .inl ((fun _ => 0)))), (q7, .inl (t8, 6, .inl ((fun _ => 0)))), (q9, .inl (t10, 6, .inr (.inr (.inr (.inr ((fun _ => none))))))), (q11, .inr (11, [.ref q14, .int 0]))] H := hP
  have hD : va_D A [(h0, .inr (5, [.ref q1, .ref q3, .ref q5, .ref q7, .ref q9, v5, .int n])), (q1, .inl (t2, 6, .inl ((fun _ => 0)))), (q3, .inl (t4, 6, .inl ((fun _ => 0)))), (q5, .inl (t6, 6, .inl ((fun _ => 0)))), (q7, .inl (t8, 6, .inl ((fun _ => 0)))), (q9, .inl (t10, 6, .inr (.inr (.inr (.inr ((fun _ => none))))))), (q11, .inr (11, [.ref q14, .int 0]))] := hD
  have hK : va_K (dC, dI) vwCl [(t2, .char), (t4, .int), (t6, .int), (t8, .int), (t10, .object RX10)] s := hK
  refine W.widen (k := 7) (n := 132) (Nat.le_of_ble_eq_true rfl) (Nat.le_of_ble_eq_true rfl) ?_
  refine va_putF (D := (dC, dI)) (ci := 5) (v := .ref q11) (ty := .object "ToolPlex$Text") (C := RX4) (T := TX4) (N := 7) hx hb ht inGX4 tyX4 tyX4_ok nmX4 hown hK hP hD hS 0 rfl rfl 5 (by decide) (ht _ q187) (fun _ h9 => h9) rfl hin rfl (by decide +kernel) rfl rfl (Nat.le_of_ble_eq_true rfl) dX4_init_53 (fun H locs hP hD hS => ?_)
  have hP : va_P (dC, dI) vwCl [(h0, .inr (5, [.ref q1, .ref q3, .ref q5, .ref q7, .ref q9, .ref q11, .int n])), (q1, .inl (t2, 6, .inl ((fun _ => 0)))), (q3, .inl (t4, 6, .inl ((fun _ => 0)))), (q5, .inl (t6, 6, .inl ((fun _ => 0)))), (q7, .inl (t8, 6, .inl ((fun _ => 0)))), (q9, .inl (t10, 6, .inr (.inr (.inr (.inr ((fun _ => none))))))), (q11, .inr (11, [.ref q14, .int 0]))] H := hP
  have hD : va_D A [(h0, .inr (5, [.ref q1, .ref q3, .ref q5, .ref q7, .ref q9, .ref q11, .int n])), (q1, .inl (t2, 6, .inl ((fun _ => 0)))), (q3, .inl (t4, 6, .inl ((fun _ => 0)))), (q5, .inl (t6, 6, .inl ((fun _ => 0)))), (q7, .inl (t8, 6, .inl ((fun _ => 0)))), (q9, .inl (t10, 6, .inr (.inr (.inr (.inr ((fun _ => none))))))), (q11, .inr (11, [.ref q14, .int 0]))] := hD
  refine lv_iconst (v := 0) hx hb dX4_init_56 (by decide) ?_
  refine lv_istore_n (lv' := [(1, .int 0), (0, .ref h0)]) hx hb dX4_init_57 rfl hl (by decide) rfl (fun ls hl => ?_)
  refine lv_iload_n hx hb dX4_init_58 rfl (lv_at hl 0 rfl) ?_
  refine lv_bipush (v := 6) hx hb dX4_init_59 (by decide) ?_
  refine lv_icmp_ge (tgt := 90) hx hb dX4_init_61 (by decide) (fun c15 => absurd c15 (by decide)) (fun c15 => ?_)
  refine lv_aload_n hx hb dX4_init_64 rfl (lv_at hl 1 rfl) ?_
  refine va_get (D := (dC, dI)) (ci := 5) (v := .ref q7) (C := RX4) (T := TX4) (N := 7) hx hb ht inGX4 hown hK hP 0 rfl rfl 3 (by decide) (ht _ q185) (fun _ h9 => h9) rfl dX4_init_65 ?_
  refine lv_iload_n hx hb dX4_init_68 rfl (lv_at hl 0 rfl) ?_
  refine lv_iconst (v := -1) hx hb dX4_init_69 (by decide) ?_
  refine va_iast hx hb hK hP hD hS 4 3 rfl rfl (vp_in_nI (n := 0) (by decide) (by decide)) dX4_init_70 (fun H locs hP hD hS => ?_)
  have hP : va_P (dC, dI) vwCl [(h0, .inr (5, [.ref q1, .ref q3, .ref q5, .ref q7, .ref q9, .ref q11, .int n])), (q1, .inl (t2, 6, .inl ((fun _ => 0)))), (q3, .inl (t4, 6, .inl ((fun _ => 0)))), (q5, .inl (t6, 6, .inl ((fun _ => 0)))), (q7, .inl (t8, 6, .inl ((upd (fun _ => 0) 0 (-1))))), (q9, .inl (t10, 6, .inr (.inr (.inr (.inr ((fun _ => none))))))), (q11, .inr (11, [.ref q14, .int 0]))] H := hP
  have hD : va_D A [(h0, .inr (5, [.ref q1, .ref q3, .ref q5, .ref q7, .ref q9, .ref q11, .int n])), (q1, .inl (t2, 6, .inl ((fun _ => 0)))), (q3, .inl (t4, 6, .inl ((fun _ => 0)))), (q5, .inl (t6, 6, .inl ((fun _ => 0)))), (q7, .inl (t8, 6, .inl ((upd (fun _ => 0) 0 (-1))))), (q9, .inl (t10, 6, .inr (.inr (.inr (.inr ((fun _ => none))))))), (q11, .inr (11, [.ref q14, .int 0]))] := hD
  generalize (upd (fun _ => 0) 0 (-1)) = f16 at hP hD
  refine lv_aload_n hx hb dX4_init_71 rfl (lv_at hl 1 rfl) ?_
  refine va_get (D := (dC, dI)) (ci := 5) (v := .ref q9) (C := RX4) (T := TX4) (N := 7) hx hb ht inGX4 hown hK hP 0 rfl rfl 4 (by decide) (ht _ q186) (fun _ h9 => h9) rfl dX4_init_72 ?_
  refine lv_iload_n hx hb dX4_init_75 rfl (lv_at hl 0 rfl) ?_
  refine va_new (ci := 11) (fs := [.null, .int 0]) (C := RX10) (T := TX10) (N := 2) hx hb ht inGX10 tyX10 tyX10_ok hown (ht _ q179) (ht _ q160) (ht _ q124) hK hP hD hS hA rfl (fun j hj => by rcases (show j = 0 ∨ j = 1 by omega) with rfl | rfl <;> rfl) (Nat.le_of_ble_eq_true rfl) (Nat.le_of_ble_eq_true rfl) dX4_init_76 (fun q17 H hP hD hS => ?_)
  have hP : va_P (dC, dI) vwCl [(h0, .inr (5, [.ref q1, .ref q3, .ref q5, .ref q7, .ref q9, .ref q11, .int n])), (q1, .inl (t2, 6, .inl ((fun _ => 0)))), (q3, .inl (t4, 6, .inl ((fun _ => 0)))), (q5, .inl (t6, 6, .inl ((fun _ => 0)))), (q7, .inl (t8, 6, .inl f16)), (q9, .inl (t10, 6, .inr (.inr (.inr (.inr ((fun _ => none))))))), (q11, .inr (11, [.ref q14, .int 0])), (q17, .inr (11, [.null, .int 0]))] H := hP
  have hD : va_D A [(h0, .inr (5, [.ref q1, .ref q3, .ref q5, .ref q7, .ref q9, .ref q11, .int n])), (q1, .inl (t2, 6, .inl ((fun _ => 0)))), (q3, .inl (t4, 6, .inl ((fun _ => 0)))), (q5, .inl (t6, 6, .inl ((fun _ => 0)))), (q7, .inl (t8, 6, .inl f16)), (q9, .inl (t10, 6, .inr (.inr (.inr (.inr ((fun _ => none))))))), (q11, .inr (11, [.ref q14, .int 0])), (q17, .inr (11, [.null, .int 0]))] := hD
  refine W.widen (k := 8) (n := 134) (Nat.le_of_ble_eq_true rfl) (Nat.le_of_ble_eq_true rfl) ?_
  refine lv_dup hx hb dX4_init_79 rfl ?_
  have hPc := hP.sub (ws' := [(q17, .inr (11, [.null, .int 0]))]) [7] rfl
  have hDc := hD.sub (ws' := [(q17, .inr (11, [.null, .int 0]))]) [7] (by decide) rfl
  have hKc := hK.sub (tys' := []) [] rfl
  have hFc := va_free (wc := [(q17, .inr (11, [.null, .int 0]))]) hD hS hA [7] rfl
  refine va_callv (va_runIN (As := []) (rest := [.ref q17, .int 0, .ref q9]) ⟨hx, hb, hml, hown, ht⟩ (k_X10_init l d0 cO dC dI H.size q17 .null 0) (my_NI ht M_X10_init q162 rfl q181 (Nat.le_of_ble_eq_true rfl) (Nat.le_of_ble_eq_true rfl)) ⟨PRE.fb, fun U hU hW => ⟨rfl, PRE.mk' hE hS hFc hPc hKc hDc U hU hW⟩⟩ rfl rfl hl.1 rfl (lv_room (Nat.le_of_ble_eq_true rfl)) dX4_init_80 ⟨(Nat.le_of_ble_eq_true rfl), (Nat.le_of_ble_eq_true rfl)⟩) hS (fun q _ h => hFc q h) hFc (fun u18 t H1 locs htt hvm hw hB hz1 hk1 hS => ?_)
  try dsimp only at hw hB
  obtain ⟨q20, hP1, hK1, hD1⟩ := hB
  rw [htt] at hP1
  have hK1 := va_K.moved hvm.symm hK1
  obtain ⟨hP, hD⟩ := va_join (wr := [(h0, .inr (5, [.ref q1, .ref q3, .ref q5, .ref q7, .ref q9, .ref q11, .int n])), (q1, .inl (t2, 6, .inl ((fun _ => 0)))), (q3, .inl (t4, 6, .inl ((fun _ => 0)))), (q5, .inl (t6, 6, .inl ((fun _ => 0)))), (q7, .inl (t8, 6, .inl f16)), (q9, .inl (t10, 6, .inr (.inr (.inr (.inr ((fun _ => none))))))), (q11, .inr (11, [.ref q14, .int 0]))]) (w1 := [(q17, .inr (11, [.ref q20, .int 0]))]) hP hD [7] [0, 1, 2, 3, 4, 5, 6] rfl rfl (by decide) (by decide) hk1 hFc hP1 hD1
  have hK := (hK.sub (tys' := [(t2, .char), (t4, .int), (t6, .int), (t8, .int), (t10, .object RX10)]) [0, 1, 2, 3, 4] rfl).app hK1
  generalize H1 = H at hP hS ⊢
  have hP : va_P (dC, dI) vwCl [(h0, .inr (5, [.ref q1, .ref q3, .ref q5, .ref q7, .ref q9, .ref q11, .int n])), (q1, .inl (t2, 6, .inl ((fun _ => 0)))), (q3, .inl (t4, 6, .inl ((fun _ => 0)))), (q5, .inl (t6, 6, .inl ((fun _ => 0)))), (q7, .inl (t8, 6, .inl f16)), (q9, .inl (t10, 6, .inr (.inr (.inr (.inr ((fun _ => none))))))), (q11, .inr (11, [.ref q14, .int 0])), (q17, .inr (11, [.ref q20, .int 0]))] H := hP
  have hD : va_D A [(h0, .inr (5, [.ref q1, .ref q3, .ref q5, .ref q7, .ref q9, .ref q11, .int n])), (q1, .inl (t2, 6, .inl ((fun _ => 0)))), (q3, .inl (t4, 6, .inl ((fun _ => 0)))), (q5, .inl (t6, 6, .inl ((fun _ => 0)))), (q7, .inl (t8, 6, .inl f16)), (q9, .inl (t10, 6, .inr (.inr (.inr (.inr ((fun _ => none))))))), (q11, .inr (11, [.ref q14, .int 0])), (q17, .inr (11, [.ref q20, .int 0]))] := hD
  have hK : va_K (dC, dI) vwCl [(t2, .char), (t4, .int), (t6, .int), (t8, .int), (t10, .object RX10)] s := hK
  refine W.widen (k := 9) (n := 234) (Nat.le_of_ble_eq_true rfl) (Nat.le_of_ble_eq_true rfl) ?_
  refine va_astq hx hb hK hP hD hS 5 4 7 11 rfl rfl rfl rfl (vp_in_nI (n := 0) (by decide) (by decide)) dX4_init_83 (fun H locs hP hD hS => ?_)
  have hP : va_P (dC, dI) vwCl [(h0, .inr (5, [.ref q1, .ref q3, .ref q5, .ref q7, .ref q9, .ref q11, .int n])), (q1, .inl (t2, 6, .inl ((fun _ => 0)))), (q3, .inl (t4, 6, .inl ((fun _ => 0)))), (q5, .inl (t6, 6, .inl ((fun _ => 0)))), (q7, .inl (t8, 6, .inl f16)), (q9, .inl (t10, 6, .inr (.inr (.inr (.inr ((va_up (fun _ => none) 0 (some q17)))))))), (q11, .inr (11, [.ref q14, .int 0])), (q17, .inr (11, [.ref q20, .int 0]))] H := hP
  have hD : va_D A [(h0, .inr (5, [.ref q1, .ref q3, .ref q5, .ref q7, .ref q9, .ref q11, .int n])), (q1, .inl (t2, 6, .inl ((fun _ => 0)))), (q3, .inl (t4, 6, .inl ((fun _ => 0)))), (q5, .inl (t6, 6, .inl ((fun _ => 0)))), (q7, .inl (t8, 6, .inl f16)), (q9, .inl (t10, 6, .inr (.inr (.inr (.inr ((va_up (fun _ => none) 0 (some q17)))))))), (q11, .inr (11, [.ref q14, .int 0])), (q17, .inr (11, [.ref q20, .int 0]))] := hD
  generalize (va_up (fun _ => none) 0 (some q17)) = f21 at hP hD
  have hP := hP.sub (ws' := [(h0, .inr (5, [.ref q1, .ref q3, .ref q5, .ref q7, .ref q9, .ref q11, .int n])), (q1, .inl (t2, 6, .inl ((fun _ => 0)))), (q3, .inl (t4, 6, .inl ((fun _ => 0)))), (q5, .inl (t6, 6, .inl ((fun _ => 0)))), (q7, .inl (t8, 6, .inl f16)), (q9, .inl (t10, 6, .inr (.inr (.inr (.inr f21))))), (q11, .inr (11, [.ref q14, .int 0]))]) [0, 1, 2, 3, 4, 5, 6] rfl
  have hD := hD.sub (ws' := [(h0, .inr (5, [.ref q1, .ref q3, .ref q5, .ref q7, .ref q9, .ref q11, .int n])), (q1, .inl (t2, 6, .inl ((fun _ => 0)))), (q3, .inl (t4, 6, .inl ((fun _ => 0)))), (q5, .inl (t6, 6, .inl ((fun _ => 0)))), (q7, .inl (t8, 6, .inl f16)), (q9, .inl (t10, 6, .inr (.inr (.inr (.inr f21))))), (q11, .inr (11, [.ref q14, .int 0]))]) [0, 1, 2, 3, 4, 5, 6] (by decide) rfl
  refine lv_iinc (v := 1) (lv' := [(1, .int 1), (0, .ref h0)]) hx hb dX4_init_84 hl (k := 0) rfl (by decide) (by decide) rfl (fun ls hl => ?_)
  refine lv_goto (tgt := 58) hx hb dX4_init_87 (by decide) ?_
  refine lv_iload_n hx hb dX4_init_58 rfl (lv_at hl 0 rfl) ?_
  refine lv_bipush (v := 6) hx hb dX4_init_59 (by decide) ?_
  refine lv_icmp_ge (tgt := 90) hx hb dX4_init_61 (by decide) (fun c22 => absurd c22 (by decide)) (fun c22 => ?_)
  refine lv_aload_n hx hb dX4_init_64 rfl (lv_at hl 1 rfl) ?_
  refine va_get (D := (dC, dI)) (ci := 5) (v := .ref q7) (C := RX4) (T := TX4) (N := 7) hx hb ht inGX4 hown hK hP 0 rfl rfl 3 (by decide) (ht _ q185) (fun _ h9 => h9) rfl dX4_init_65 ?_
  refine lv_iload_n hx hb dX4_init_68 rfl (lv_at hl 0 rfl) ?_
  refine lv_iconst (v := -1) hx hb dX4_init_69 (by decide) ?_
  refine va_iast hx hb hK hP hD hS 4 3 rfl rfl (vp_in_nI (n := 1) (by decide) (by decide)) dX4_init_70 (fun H locs hP hD hS => ?_)
  have hP : va_P (dC, dI) vwCl [(h0, .inr (5, [.ref q1, .ref q3, .ref q5, .ref q7, .ref q9, .ref q11, .int n])), (q1, .inl (t2, 6, .inl ((fun _ => 0)))), (q3, .inl (t4, 6, .inl ((fun _ => 0)))), (q5, .inl (t6, 6, .inl ((fun _ => 0)))), (q7, .inl (t8, 6, .inl ((upd f16 1 (-1))))), (q9, .inl (t10, 6, .inr (.inr (.inr (.inr f21))))), (q11, .inr (11, [.ref q14, .int 0]))] H := hP
  have hD : va_D A [(h0, .inr (5, [.ref q1, .ref q3, .ref q5, .ref q7, .ref q9, .ref q11, .int n])), (q1, .inl (t2, 6, .inl ((fun _ => 0)))), (q3, .inl (t4, 6, .inl ((fun _ => 0)))), (q5, .inl (t6, 6, .inl ((fun _ => 0)))), (q7, .inl (t8, 6, .inl ((upd f16 1 (-1))))), (q9, .inl (t10, 6, .inr (.inr (.inr (.inr f21))))), (q11, .inr (11, [.ref q14, .int 0]))] := hD
  generalize (upd f16 1 (-1)) = f23 at hP hD
  refine lv_aload_n hx hb dX4_init_71 rfl (lv_at hl 1 rfl) ?_
  refine va_get (D := (dC, dI)) (ci := 5) (v := .ref q9) (C := RX4) (T := TX4) (N := 7) hx hb ht inGX4 hown hK hP 0 rfl rfl 4 (by decide) (ht _ q186) (fun _ h9 => h9) rfl dX4_init_72 ?_
  refine lv_iload_n hx hb dX4_init_75 rfl (lv_at hl 0 rfl) ?_
  refine va_new (ci := 11) (fs := [.null, .int 0]) (C := RX10) (T := TX10) (N := 2) hx hb ht inGX10 tyX10 tyX10_ok hown (ht _ q179) (ht _ q160) (ht _ q124) hK hP hD hS hA rfl (fun j hj => by rcases (show j = 0 ∨ j = 1 by omega) with rfl | rfl <;> rfl) (Nat.le_of_ble_eq_true rfl) (Nat.le_of_ble_eq_true rfl) dX4_init_76 (fun q24 H hP hD hS => ?_)
  have hP : va_P (dC, dI) vwCl [(h0, .inr (5, [.ref q1, .ref q3, .ref q5, .ref q7, .ref q9, .ref q11, .int n])), (q1, .inl (t2, 6, .inl ((fun _ => 0)))), (q3, .inl (t4, 6, .inl ((fun _ => 0)))), (q5, .inl (t6, 6, .inl ((fun _ => 0)))), (q7, .inl (t8, 6, .inl f23)), (q9, .inl (t10, 6, .inr (.inr (.inr (.inr f21))))), (q11, .inr (11, [.ref q14, .int 0])), (q24, .inr (11, [.null, .int 0]))] H := hP
  have hD : va_D A [(h0, .inr (5, [.ref q1, .ref q3, .ref q5, .ref q7, .ref q9, .ref q11, .int n])), (q1, .inl (t2, 6, .inl ((fun _ => 0)))), (q3, .inl (t4, 6, .inl ((fun _ => 0)))), (q5, .inl (t6, 6, .inl ((fun _ => 0)))), (q7, .inl (t8, 6, .inl f23)), (q9, .inl (t10, 6, .inr (.inr (.inr (.inr f21))))), (q11, .inr (11, [.ref q14, .int 0])), (q24, .inr (11, [.null, .int 0]))] := hD
  refine W.widen (k := 10) (n := 236) (Nat.le_of_ble_eq_true rfl) (Nat.le_of_ble_eq_true rfl) ?_
  refine lv_dup hx hb dX4_init_79 rfl ?_
  have hPc := hP.sub (ws' := [(q24, .inr (11, [.null, .int 0]))]) [7] rfl
  have hDc := hD.sub (ws' := [(q24, .inr (11, [.null, .int 0]))]) [7] (by decide) rfl
  have hKc := hK.sub (tys' := []) [] rfl
  have hFc := va_free (wc := [(q24, .inr (11, [.null, .int 0]))]) hD hS hA [7] rfl
  refine va_callv (va_runIN (As := []) (rest := [.ref q24, .int 1, .ref q9]) ⟨hx, hb, hml, hown, ht⟩ (k_X10_init l d0 cO dC dI H.size q24 .null 0) (my_NI ht M_X10_init q162 rfl q181 (Nat.le_of_ble_eq_true rfl) (Nat.le_of_ble_eq_true rfl)) ⟨PRE.fb, fun U hU hW => ⟨rfl, PRE.mk' hE hS hFc hPc hKc hDc U hU hW⟩⟩ rfl rfl hl.1 rfl (lv_room (Nat.le_of_ble_eq_true rfl)) dX4_init_80 ⟨(Nat.le_of_ble_eq_true rfl), (Nat.le_of_ble_eq_true rfl)⟩) hS (fun q _ h => hFc q h) hFc (fun u25 t H1 locs htt hvm hw hB hz1 hk1 hS => ?_)
  try dsimp only at hw hB
  obtain ⟨q27, hP1, hK1, hD1⟩ := hB
  rw [htt] at hP1
  have hK1 := va_K.moved hvm.symm hK1
  obtain ⟨hP, hD⟩ := va_join (wr := [(h0, .inr (5, [.ref q1, .ref q3, .ref q5, .ref q7, .ref q9, .ref q11, .int n])), (q1, .inl (t2, 6, .inl ((fun _ => 0)))), (q3, .inl (t4, 6, .inl ((fun _ => 0)))), (q5, .inl (t6, 6, .inl ((fun _ => 0)))), (q7, .inl (t8, 6, .inl f23)), (q9, .inl (t10, 6, .inr (.inr (.inr (.inr f21))))), (q11, .inr (11, [.ref q14, .int 0]))]) (w1 := [(q24, .inr (11, [.ref q27, .int 0]))]) hP hD [7] [0, 1, 2, 3, 4, 5, 6] rfl rfl (by decide) (by decide) hk1 hFc hP1 hD1
  have hK := (hK.sub (tys' := [(t2, .char), (t4, .int), (t6, .int), (t8, .int), (t10, .object RX10)]) [0, 1, 2, 3, 4] rfl).app hK1
  generalize H1 = H at hP hS ⊢
  have hP : va_P (dC, dI) vwCl [(h0, .inr (5, [.ref q1, .ref q3, .ref q5, .ref q7, .ref q9, .ref q11, .int n])), (q1, .inl (t2, 6, .inl ((fun _ => 0)))), (q3, .inl (t4, 6, .inl ((fun _ => 0)))), (q5, .inl (t6, 6, .inl ((fun _ => 0)))), (q7, .inl (t8, 6, .inl f23)), (q9, .inl (t10, 6, .inr (.inr (.inr (.inr f21))))), (q11, .inr (11, [.ref q14, .int 0])), (q24, .inr (11, [.ref q27, .int 0]))] H := hP
  have hD : va_D A [(h0, .inr (5, [.ref q1, .ref q3, .ref q5, .ref q7, .ref q9, .ref q11, .int n])), (q1, .inl (t2, 6, .inl ((fun _ => 0)))), (q3, .inl (t4, 6, .inl ((fun _ => 0)))), (q5, .inl (t6, 6, .inl ((fun _ => 0)))), (q7, .inl (t8, 6, .inl f23)), (q9, .inl (t10, 6, .inr (.inr (.inr (.inr f21))))), (q11, .inr (11, [.ref q14, .int 0])), (q24, .inr (11, [.ref q27, .int 0]))] := hD
  have hK : va_K (dC, dI) vwCl [(t2, .char), (t4, .int), (t6, .int), (t8, .int), (t10, .object RX10)] s := hK
  refine W.widen (k := 11) (n := 336) (Nat.le_of_ble_eq_true rfl) (Nat.le_of_ble_eq_true rfl) ?_
  refine va_astq hx hb hK hP hD hS 5 4 7 11 rfl rfl rfl rfl (vp_in_nI (n := 1) (by decide) (by decide)) dX4_init_83 (fun H locs hP hD hS => ?_)
  have hP : va_P (dC, dI) vwCl [(h0, .inr (5, [.ref q1, .ref q3, .ref q5, .ref q7, .ref q9, .ref q11, .int n])), (q1, .inl (t2, 6, .inl ((fun _ => 0)))), (q3, .inl (t4, 6, .inl ((fun _ => 0)))), (q5, .inl (t6, 6, .inl ((fun _ => 0)))), (q7, .inl (t8, 6, .inl f23)), (q9, .inl (t10, 6, .inr (.inr (.inr (.inr ((va_up f21 1 (some q24)))))))), (q11, .inr (11, [.ref q14, .int 0])), (q24, .inr (11, [.ref q27, .int 0]))] H := hP
  have hD : va_D A [(h0, .inr (5, [.ref q1, .ref q3, .ref q5, .ref q7, .ref q9, .ref q11, .int n])), (q1, .inl (t2, 6, .inl ((fun _ => 0)))), (q3, .inl (t4, 6, .inl ((fun _ => 0)))), (q5, .inl (t6, 6, .inl ((fun _ => 0)))), (q7, .inl (t8, 6, .inl f23)), (q9, .inl (t10, 6, .inr (.inr (.inr (.inr ((va_up f21 1 (some q24)))))))), (q11, .inr (11, [.ref q14, .int 0])), (q24, .inr (11, [.ref q27, .int 0]))] := hD
  generalize (va_up f21 1 (some q24)) = f28 at hP hD
  have hP := hP.sub (ws' := [(h0, .inr (5, [.ref q1, .ref q3, .ref q5, .ref q7, .ref q9, .ref q11, .int n])), (q1, .inl (t2, 6, .inl ((fun _ => 0)))), (q3, .inl (t4, 6, .inl ((fun _ => 0)))), (q5, .inl (t6, 6, .inl ((fun _ => 0)))), (q7, .inl (t8, 6, .inl f23)), (q9, .inl (t10, 6, .inr (.inr (.inr (.inr f28))))), (q11, .inr (11, [.ref q14, .int 0]))]) [0, 1, 2, 3, 4, 5, 6] rfl
  have hD := hD.sub (ws' := [(h0, .inr (5, [.ref q1, .ref q3, .ref q5, .ref q7, .ref q9, .ref q11, .int n])), (q1, .inl (t2, 6, .inl ((fun _ => 0)))), (q3, .inl (t4, 6, .inl ((fun _ => 0)))), (q5, .inl (t6, 6, .inl ((fun _ => 0)))), (q7, .inl (t8, 6, .inl f23)), (q9, .inl (t10, 6, .inr (.inr (.inr (.inr f28))))), (q11, .inr (11, [.ref q14, .int 0]))]) [0, 1, 2, 3, 4, 5, 6] (by decide) rfl
  refine lv_iinc (v := 2) (lv' := [(1, .int 2), (0, .ref h0)]) hx hb dX4_init_84 hl (k := 0) rfl (by decide) (by decide) rfl (fun ls hl => ?_)
  refine lv_goto (tgt := 58) hx hb dX4_init_87 (by decide) ?_
  refine lv_iload_n hx hb dX4_init_58 rfl (lv_at hl 0 rfl) ?_
  refine lv_bipush (v := 6) hx hb dX4_init_59 (by decide) ?_
  refine lv_icmp_ge (tgt := 90) hx hb dX4_init_61 (by decide) (fun c29 => absurd c29 (by decide)) (fun c29 => ?_)
  refine lv_aload_n hx hb dX4_init_64 rfl (lv_at hl 1 rfl) ?_
  refine va_get (D := (dC, dI)) (ci := 5) (v := .ref q7) (C := RX4) (T := TX4) (N := 7) hx hb ht inGX4 hown hK hP 0 rfl rfl 3 (by decide) (ht _ q185) (fun _ h9 => h9) rfl dX4_init_65 ?_
  refine lv_iload_n hx hb dX4_init_68 rfl (lv_at hl 0 rfl) ?_
  refine lv_iconst (v := -1) hx hb dX4_init_69 (by decide) ?_
  refine va_iast hx hb hK hP hD hS 4 3 rfl rfl (vp_in_nI (n := 2) (by decide) (by decide)) dX4_init_70 (fun H locs hP hD hS => ?_)
  have hP : va_P (dC, dI) vwCl [(h0, .inr (5, [.ref q1, .ref q3, .ref q5, .ref q7, .ref q9, .ref q11, .int n])), (q1, .inl (t2, 6, .inl ((fun _ => 0)))), (q3, .inl (t4, 6, .inl ((fun _ => 0)))), (q5, .inl (t6, 6, .inl ((fun _ => 0)))), (q7, .inl (t8, 6, .inl ((upd f23 2 (-1))))), (q9, .inl (t10, 6, .inr (.inr (.inr (.inr f28))))), (q11, .inr (11, [.ref q14, .int 0]))] H := hP
  have hD : va_D A [(h0, .inr (5, [.ref q1, .ref q3, .ref q5, .ref q7, .ref q9, .ref q11, .int n])), (q1, .inl (t2, 6, .inl ((fun _ => 0)))), (q3, .inl (t4, 6, .inl ((fun _ => 0)))), (q5, .inl (t6, 6, .inl ((fun _ => 0)))), (q7, .inl (t8, 6, .inl ((upd f23 2 (-1))))), (q9, .inl (t10, 6, .inr (.inr (.inr (.inr f28))))), (q11, .inr (11, [.ref q14, .int 0]))] := hD
  generalize (upd f23 2 (-1)) = f30 at hP hD
  refine lv_aload_n hx hb dX4_init_71 rfl (lv_at hl 1 rfl) ?_
  refine va_get (D := (dC, dI)) (ci := 5) (v := .ref q9) (C := RX4) (T := TX4) (N := 7) hx hb ht inGX4 hown hK hP 0 rfl rfl 4 (by decide) (ht _ q186) (fun _ h9 => h9) rfl dX4_init_72 ?_
  refine lv_iload_n hx hb dX4_init_75 rfl (lv_at hl 0 rfl) ?_
  refine va_new (ci := 11) (fs := [.null, .int 0]) (C := RX10) (T := TX10) (N := 2) hx hb ht inGX10 tyX10 tyX10_ok hown (ht _ q179) (ht _ q160) (ht _ q124) hK hP hD hS hA rfl (fun j hj => by rcases (show j = 0 ∨ j = 1 by omega) with rfl | rfl <;> rfl) (Nat.le_of_ble_eq_true rfl) (Nat.le_of_ble_eq_true rfl) dX4_init_76 (fun q31 H hP hD hS => ?_)
  have hP : va_P (dC, dI) vwCl [(h0, .inr (5, [.ref q1, .ref q3, .ref q5, .ref q7, .ref q9, .ref q11, .int n])), (q1, .inl (t2, 6, .inl ((fun _ => 0)))), (q3, .inl (t4, 6, .inl ((fun _ => 0)))), (q5, .inl (t6, 6, .inl ((fun _ => 0)))), (q7, .inl (t8, 6, .inl f30)), (q9, .inl (t10, 6, .inr (.inr (.inr (.inr f28))))), (q11, .inr (11, [.ref q14, .int 0])), (q31, .inr (11, [.null, .int 0]))] H := hP
  have hD : va_D A [(h0, .inr (5, [.ref q1, .ref q3, .ref q5, .ref q7, .ref q9, .ref q11, .int n])), (q1, .inl (t2, 6, .inl ((fun _ => 0)))), (q3, .inl (t4, 6, .inl ((fun _ => 0)))), (q5, .inl (t6, 6, .inl ((fun _ => 0)))), (q7, .inl (t8, 6, .inl f30)), (q9, .inl (t10, 6, .inr (.inr (.inr (.inr f28))))), (q11, .inr (11, [.ref q14, .int 0])), (q31, .inr (11, [.null, .int 0]))] := hD
  refine W.widen (k := 12) (n := 338) (Nat.le_of_ble_eq_true rfl) (Nat.le_of_ble_eq_true rfl) ?_
  refine lv_dup hx hb dX4_init_79 rfl ?_
  have hPc := hP.sub (ws' := [(q31, .inr (11, [.null, .int 0]))]) [7] rfl
  have hDc := hD.sub (ws' := [(q31, .inr (11, [.null, .int 0]))]) [7] (by decide) rfl
  have hKc := hK.sub (tys' := []) [] rfl
  have hFc := va_free (wc := [(q31, .inr (11, [.null, .int 0]))]) hD hS hA [7] rfl
  refine va_callv (va_runIN (As := []) (rest := [.ref q31, .int 2, .ref q9]) ⟨hx, hb, hml, hown, ht⟩ (k_X10_init l d0 cO dC dI H.size q31 .null 0) (my_NI ht M_X10_init q162 rfl q181 (Nat.le_of_ble_eq_true rfl) (Nat.le_of_ble_eq_true rfl)) ⟨PRE.fb, fun U hU hW => ⟨rfl, PRE.mk' hE hS hFc hPc hKc hDc U hU hW⟩⟩ rfl rfl hl.1 rfl (lv_room (Nat.le_of_ble_eq_true rfl)) dX4_init_80 ⟨(Nat.le_of_ble_eq_true rfl), (Nat.le_of_ble_eq_true rfl)⟩) hS (fun q _ h => hFc q h) hFc (fun u32 t H1 locs htt hvm hw hB hz1 hk1 hS => ?_)
  try dsimp only at hw hB
  obtain ⟨q34, hP1, hK1, hD1⟩ := hB
  rw [htt] at hP1
  have hK1 := va_K.moved hvm.symm hK1
  obtain ⟨hP, hD⟩ := va_join (wr := [(h0, .inr (5, [.ref q1, .ref q3, .ref q5, .ref q7, .ref q9, .ref q11, .int n])), (q1, .inl (t2, 6, .inl ((fun _ => 0)))), (q3, .inl (t4, 6, .inl ((fun _ => 0)))), (q5, .inl (t6, 6, .inl ((fun _ => 0)))), (q7, .inl (t8, 6, .inl f30)), (q9, .inl (t10, 6, .inr (.inr (.inr (.inr f28))))), (q11, .inr (11, [.ref q14, .int 0]))]) (w1 := [(q31, .inr (11, [.ref q34, .int 0]))]) hP hD [7] [0, 1, 2, 3, 4, 5, 6] rfl rfl (by decide) (by decide) hk1 hFc hP1 hD1
  have hK := (hK.sub (tys' := [(t2, .char), (t4, .int), (t6, .int), (t8, .int), (t10, .object RX10)]) [0, 1, 2, 3, 4] rfl).app hK1
  generalize H1 = H at hP hS ⊢
  have hP : va_P (dC, dI) vwCl [(h0, .inr (5, [.ref q1, .ref q3, .ref q5, .ref q7, .ref q9, .ref q11, .int n])), (q1, .inl (t2, 6, .inl ((fun _ => 0)))), (q3, .inl (t4, 6, .inl ((fun _ => 0)))), (q5, .inl (t6, 6, .inl ((fun _ => 0)))), (q7, .inl (t8, 6, .inl f30)), (q9, .inl (t10, 6, .inr (.inr (.inr (.inr f28))))), (q11, .inr (11, [.ref q14, .int 0])), (q31, .inr (11, [.ref q34, .int 0]))] H := hP
  have hD : va_D A [(h0, .inr (5, [.ref q1, .ref q3, .ref q5, .ref q7, .ref q9, .ref q11, .int n])), (q1, .inl (t2, 6, .inl ((fun _ => 0)))), (q3, .inl (t4, 6, .inl ((fun _ => 0)))), (q5, .inl (t6, 6, .inl ((fun _ => 0)))), (q7, .inl (t8, 6, .inl f30)), (q9, .inl (t10, 6, .inr (.inr (.inr (.inr f28))))), (q11, .inr (11, [.ref q14, .int 0])), (q31, .inr (11, [.ref q34, .int 0]))] := hD
  have hK : va_K (dC, dI) vwCl [(t2, .char), (t4, .int), (t6, .int), (t8, .int), (t10, .object RX10)] s := hK
  refine W.widen (k := 13) (n := 438) (Nat.le_of_ble_eq_true rfl) (Nat.le_of_ble_eq_true rfl) ?_
  refine va_astq hx hb hK hP hD hS 5 4 7 11 rfl rfl rfl rfl (vp_in_nI (n := 2) (by decide) (by decide)) dX4_init_83 (fun H locs hP hD hS => ?_)
  have hP : va_P (dC, dI) vwCl [(h0, .inr (5, [.ref q1, .ref q3, .ref q5, .ref q7, .ref q9, .ref q11, .int n])), (q1, .inl (t2, 6, .inl ((fun _ => 0)))), (q3, .inl (t4, 6, .inl ((fun _ => 0)))), (q5, .inl (t6, 6, .inl ((fun _ => 0)))), (q7, .inl (t8, 6, .inl f30)), (q9, .inl (t10, 6, .inr (.inr (.inr (.inr ((va_up f28 2 (some q31)))))))), (q11, .inr (11, [.ref q14, .int 0])), (q31, .inr (11, [.ref q34, .int 0]))] H := hP
  have hD : va_D A [(h0, .inr (5, [.ref q1, .ref q3, .ref q5, .ref q7, .ref q9, .ref q11, .int n])), (q1, .inl (t2, 6, .inl ((fun _ => 0)))), (q3, .inl (t4, 6, .inl ((fun _ => 0)))), (q5, .inl (t6, 6, .inl ((fun _ => 0)))), (q7, .inl (t8, 6, .inl f30)), (q9, .inl (t10, 6, .inr (.inr (.inr (.inr ((va_up f28 2 (some q31)))))))), (q11, .inr (11, [.ref q14, .int 0])), (q31, .inr (11, [.ref q34, .int 0]))] := hD
  generalize (va_up f28 2 (some q31)) = f35 at hP hD
  have hP := hP.sub (ws' := [(h0, .inr (5, [.ref q1, .ref q3, .ref q5, .ref q7, .ref q9, .ref q11, .int n])), (q1, .inl (t2, 6, .inl ((fun _ => 0)))), (q3, .inl (t4, 6, .inl ((fun _ => 0)))), (q5, .inl (t6, 6, .inl ((fun _ => 0)))), (q7, .inl (t8, 6, .inl f30)), (q9, .inl (t10, 6, .inr (.inr (.inr (.inr f35))))), (q11, .inr (11, [.ref q14, .int 0]))]) [0, 1, 2, 3, 4, 5, 6] rfl
  have hD := hD.sub (ws' := [(h0, .inr (5, [.ref q1, .ref q3, .ref q5, .ref q7, .ref q9, .ref q11, .int n])), (q1, .inl (t2, 6, .inl ((fun _ => 0)))), (q3, .inl (t4, 6, .inl ((fun _ => 0)))), (q5, .inl (t6, 6, .inl ((fun _ => 0)))), (q7, .inl (t8, 6, .inl f30)), (q9, .inl (t10, 6, .inr (.inr (.inr (.inr f35))))), (q11, .inr (11, [.ref q14, .int 0]))]) [0, 1, 2, 3, 4, 5, 6] (by decide) rfl
  refine lv_iinc (v := 3) (lv' := [(1, .int 3), (0, .ref h0)]) hx hb dX4_init_84 hl (k := 0) rfl (by decide) (by decide) rfl (fun ls hl => ?_)
  refine lv_goto (tgt := 58) hx hb dX4_init_87 (by decide) ?_
  refine lv_iload_n hx hb dX4_init_58 rfl (lv_at hl 0 rfl) ?_
  refine lv_bipush (v := 6) hx hb dX4_init_59 (by decide) ?_
  refine lv_icmp_ge (tgt := 90) hx hb dX4_init_61 (by decide) (fun c36 => absurd c36 (by decide)) (fun c36 => ?_)
  refine lv_aload_n hx hb dX4_init_64 rfl (lv_at hl 1 rfl) ?_
  refine va_get (D := (dC, dI)) (ci := 5) (v := .ref q7) (C := RX4) (T := TX4) (N := 7) hx hb ht inGX4 hown hK hP 0 rfl rfl 3 (by decide) (ht _ q185) (fun _ h9 => h9) rfl dX4_init_65 ?_
  refine lv_iload_n hx hb dX4_init_68 rfl (lv_at hl 0 rfl) ?_
  refine lv_iconst (v := -1) hx hb dX4_init_69 (by decide) ?_
  refine va_iast hx hb hK hP hD hS 4 3 rfl rfl (vp_in_nI (n := 3) (by decide) (by decide)) dX4_init_70 (fun H locs hP hD hS => ?_)
  have hP : va_P (dC, dI) vwCl [(h0, .inr (5, [.ref q1, .ref q3, .ref q5, .ref q7, .ref q9, .ref q11, .int n])), (q1, .inl (t2, 6, .inl ((fun _ => 0)))), (q3, .inl (t4, 6, .inl ((fun _ => 0)))), (q5, .inl (t6, 6, .inl ((fun _ => 0)))), (q7, .inl (t8, 6, .inl ((upd f30 3 (-1))))), (q9, .inl (t10, 6, .inr (.inr (.inr (.inr f35))))), (q11, .inr (11, [.ref q14, .int 0]))] H := hP
  have hD : va_D A [(h0, .inr (5, [.ref q1, .ref q3, .ref q5, .ref q7, .ref q9, .ref q11, .int n])), (q1, .inl (t2, 6, .inl ((fun _ => 0)))), (q3, .inl (t4, 6, .inl ((fun _ => 0)))), (q5, .inl (t6, 6, .inl ((fun _ => 0)))), (q7, .inl (t8, 6, .inl ((upd f30 3 (-1))))), (q9, .inl (t10, 6, .inr (.inr (.inr (.inr f35))))), (q11, .inr (11, [.ref q14, .int 0]))] := hD
  generalize (upd f30 3 (-1)) = f37 at hP hD
  refine lv_aload_n hx hb dX4_init_71 rfl (lv_at hl 1 rfl) ?_
  refine va_get (D := (dC, dI)) (ci := 5) (v := .ref q9) (C := RX4) (T := TX4) (N := 7) hx hb ht inGX4 hown hK hP 0 rfl rfl 4 (by decide) (ht _ q186) (fun _ h9 => h9) rfl dX4_init_72 ?_
  refine lv_iload_n hx hb dX4_init_75 rfl (lv_at hl 0 rfl) ?_
  refine va_new (ci := 11) (fs := [.null, .int 0]) (C := RX10) (T := TX10) (N := 2) hx hb ht inGX10 tyX10 tyX10_ok hown (ht _ q179) (ht _ q160) (ht _ q124) hK hP hD hS hA rfl (fun j hj => by rcases (show j = 0 ∨ j = 1 by omega) with rfl | rfl <;> rfl) (Nat.le_of_ble_eq_true rfl) (Nat.le_of_ble_eq_true rfl) dX4_init_76 (fun q38 H hP hD hS => ?_)
  have hP : va_P (dC, dI) vwCl [(h0, .inr (5, [.ref q1, .ref q3, .ref q5, .ref q7, .ref q9, .ref q11, .int n])), (q1, .inl (t2, 6, .inl ((fun _ => 0)))), (q3, .inl (t4, 6, .inl ((fun _ => 0)))), (q5, .inl (t6, 6, .inl ((fun _ => 0)))), (q7, .inl (t8, 6, .inl f37)), (q9, .inl (t10, 6, .inr (.inr (.inr (.inr f35))))), (q11, .inr (11, [.ref q14, .int 0])), (q38, .inr (11, [.null, .int 0]))] H := hP
  have hD : va_D A [(h0, .inr (5, [.ref q1, .ref q3, .ref q5, .ref q7, .ref q9, .ref q11, .int n])), (q1, .inl (t2, 6, .inl ((fun _ => 0)))), (q3, .inl (t4, 6, .inl ((fun _ => 0)))), (q5, .inl (t6, 6, .inl ((fun _ => 0)))), (q7, .inl (t8, 6, .inl f37)), (q9, .inl (t10, 6, .inr (.inr (.inr (.inr f35))))), (q11, .inr (11, [.ref q14, .int 0])), (q38, .inr (11, [.null, .int 0]))] := hD
  refine W.widen (k := 14) (n := 440) (Nat.le_of_ble_eq_true rfl) (Nat.le_of_ble_eq_true rfl) ?_
  refine lv_dup hx hb dX4_init_79 rfl ?_
  have hPc := hP.sub (ws' := [(q38, .inr (11, [.null, .int 0]))]) [7] rfl
  have hDc := hD.sub (ws' := [(q38, .inr (11, [.null, .int 0]))]) [7] (by decide) rfl
  have hKc := hK.sub (tys' := []) [] rfl
  have hFc := va_free (wc := [(q38, .inr (11, [.null, .int 0]))]) hD hS hA [7] rfl
  refine va_callv (va_runIN (As := []) (rest := [.ref q38, .int 3, .ref q9]) ⟨hx, hb, hml, hown, ht⟩ (k_X10_init l d0 cO dC dI H.size q38 .null 0) (my_NI ht M_X10_init q162 rfl q181 (Nat.le_of_ble_eq_true rfl) (Nat.le_of_ble_eq_true rfl)) ⟨PRE.fb, fun U hU hW => ⟨rfl, PRE.mk' hE hS hFc hPc hKc hDc U hU hW⟩⟩ rfl rfl hl.1 rfl (lv_room (Nat.le_of_ble_eq_true rfl)) dX4_init_80 ⟨(Nat.le_of_ble_eq_true rfl), (Nat.le_of_ble_eq_true rfl)⟩) hS (fun q _ h => hFc q h) hFc (fun u39 t H1 locs htt hvm hw hB hz1 hk1 hS => ?_)
  try dsimp only at hw hB
  obtain ⟨q41, hP1, hK1, hD1⟩ := hB
  rw [htt] at hP1
  have hK1 := va_K.moved hvm.symm hK1
  obtain ⟨hP, hD⟩ := va_join (wr := [(h0, .inr (5, [.ref q1, .ref q3, .ref q5, .ref q7, .ref q9, .ref q11, .int n])), (q1, .inl (t2, 6, .inl ((fun _ => 0)))), (q3, .inl (t4, 6, .inl ((fun _ => 0)))), (q5, .inl (t6, 6, .inl ((fun _ => 0)))), (q7, .inl (t8, 6, .inl f37)), (q9, .inl (t10, 6, .inr (.inr (.inr (.inr f35))))), (q11, .inr (11, [.ref q14, .int 0]))]) (w1 := [(q38, .inr (11, [.ref q41, .int 0]))]) hP hD [7] [0, 1, 2, 3, 4, 5, 6] rfl rfl (by decide) (by decide) hk1 hFc hP1 hD1
  have hK := (hK.sub (tys' := [(t2, .char), (t4, .int), (t6, .int), (t8, .int), (t10, .object RX10)]) [0, 1, 2, 3, 4] rfl).app hK1
  generalize H1 = H at hP hS ⊢
  have hP : va_P (dC, dI) vwCl [(h0, .inr (5, [.ref q1, .ref q3, .ref q5, .ref q7, .ref q9, .ref q11, .int n])), (q1, .inl (t2, 6, .inl ((fun _ => 0)))), (q3, .inl (t4, 6, .inl ((fun _ => 0)))), (q5, .inl (t6, 6, .inl ((fun _ => 0)))), (q7, .inl (t8, 6, .inl f37)), (q9, .inl (t10, 6, .inr (.inr (.inr (.inr f35))))), (q11, .inr (11, [.ref q14, .int 0])), (q38, .inr (11, [.ref q41, .int 0]))] H := hP
  have hD : va_D A [(h0, .inr (5, [.ref q1, .ref q3, .ref q5, .ref q7, .ref q9, .ref q11, .int n])), (q1, .inl (t2, 6, .inl ((fun _ => 0)))), (q3, .inl (t4, 6, .inl ((fun _ => 0)))), (q5, .inl (t6, 6, .inl ((fun _ => 0)))), (q7, .inl (t8, 6, .inl f37)), (q9, .inl (t10, 6, .inr (.inr (.inr (.inr f35))))), (q11, .inr (11, [.ref q14, .int 0])), (q38, .inr (11, [.ref q41, .int 0]))] := hD
  have hK : va_K (dC, dI) vwCl [(t2, .char), (t4, .int), (t6, .int), (t8, .int), (t10, .object RX10)] s := hK
  refine W.widen (k := 15) (n := 540) (Nat.le_of_ble_eq_true rfl) (Nat.le_of_ble_eq_true rfl) ?_
  refine va_astq hx hb hK hP hD hS 5 4 7 11 rfl rfl rfl rfl (vp_in_nI (n := 3) (by decide) (by decide)) dX4_init_83 (fun H locs hP hD hS => ?_)
  have hP : va_P (dC, dI) vwCl [(h0, .inr (5, [.ref q1, .ref q3, .ref q5, .ref q7, .ref q9, .ref q11, .int n])), (q1, .inl (t2, 6, .inl ((fun _ => 0)))), (q3, .inl (t4, 6, .inl ((fun _ => 0)))), (q5, .inl (t6, 6, .inl ((fun _ => 0)))), (q7, .inl (t8, 6, .inl f37)), (q9, .inl (t10, 6, .inr (.inr (.inr (.inr ((va_up f35 3 (some q38)))))))), (q11, .inr (11, [.ref q14, .int 0])), (q38, .inr (11, [.ref q41, .int 0]))] H := hP
  have hD : va_D A [(h0, .inr (5, [.ref q1, .ref q3, .ref q5, .ref q7, .ref q9, .ref q11, .int n])), (q1, .inl (t2, 6, .inl ((fun _ => 0)))), (q3, .inl (t4, 6, .inl ((fun _ => 0)))), (q5, .inl (t6, 6, .inl ((fun _ => 0)))), (q7, .inl (t8, 6, .inl f37)), (q9, .inl (t10, 6, .inr (.inr (.inr (.inr ((va_up f35 3 (some q38)))))))), (q11, .inr (11, [.ref q14, .int 0])), (q38, .inr (11, [.ref q41, .int 0]))] := hD
  generalize (va_up f35 3 (some q38)) = f42 at hP hD
  have hP := hP.sub (ws' := [(h0, .inr (5, [.ref q1, .ref q3, .ref q5, .ref q7, .ref q9, .ref q11, .int n])), (q1, .inl (t2, 6, .inl ((fun _ => 0)))), (q3, .inl (t4, 6, .inl ((fun _ => 0)))), (q5, .inl (t6, 6, .inl ((fun _ => 0)))), (q7, .inl (t8, 6, .inl f37)), (q9, .inl (t10, 6, .inr (.inr (.inr (.inr f42))))), (q11, .inr (11, [.ref q14, .int 0]))]) [0, 1, 2, 3, 4, 5, 6] rfl
  have hD := hD.sub (ws' := [(h0, .inr (5, [.ref q1, .ref q3, .ref q5, .ref q7, .ref q9, .ref q11, .int n])), (q1, .inl (t2, 6, .inl ((fun _ => 0)))), (q3, .inl (t4, 6, .inl ((fun _ => 0)))), (q5, .inl (t6, 6, .inl ((fun _ => 0)))), (q7, .inl (t8, 6, .inl f37)), (q9, .inl (t10, 6, .inr (.inr (.inr (.inr f42))))), (q11, .inr (11, [.ref q14, .int 0]))]) [0, 1, 2, 3, 4, 5, 6] (by decide) rfl
  refine lv_iinc (v := 4) (lv' := [(1, .int 4), (0, .ref h0)]) hx hb dX4_init_84 hl (k := 0) rfl (by decide) (by decide) rfl (fun ls hl => ?_)
  refine lv_goto (tgt := 58) hx hb dX4_init_87 (by decide) ?_
  refine lv_iload_n hx hb dX4_init_58 rfl (lv_at hl 0 rfl) ?_
  refine lv_bipush (v := 6) hx hb dX4_init_59 (by decide) ?_
  refine lv_icmp_ge (tgt := 90) hx hb dX4_init_61 (by decide) (fun c43 => absurd c43 (by decide)) (fun c43 => ?_)
  refine lv_aload_n hx hb dX4_init_64 rfl (lv_at hl 1 rfl) ?_
  refine va_get (D := (dC, dI)) (ci := 5) (v := .ref q7) (C := RX4) (T := TX4) (N := 7) hx hb ht inGX4 hown hK hP 0 rfl rfl 3 (by decide) (ht _ q185) (fun _ h9 => h9) rfl dX4_init_65 ?_
  refine lv_iload_n hx hb dX4_init_68 rfl (lv_at hl 0 rfl) ?_
  refine lv_iconst (v := -1) hx hb dX4_init_69 (by decide) ?_
  refine va_iast hx hb hK hP hD hS 4 3 rfl rfl (vp_in_nI (n := 4) (by decide) (by decide)) dX4_init_70 (fun H locs hP hD hS => ?_)
  have hP : va_P (dC, dI) vwCl [(h0, .inr (5, [.ref q1, .ref q3, .ref q5, .ref q7, .ref q9, .ref q11, .int n])), (q1, .inl (t2, 6, .inl ((fun _ => 0)))), (q3, .inl (t4, 6, .inl ((fun _ => 0)))), (q5, .inl (t6, 6, .inl ((fun _ => 0)))), (q7, .inl (t8, 6, .inl ((upd f37 4 (-1))))), (q9, .inl (t10, 6, .inr (.inr (.inr (.inr f42))))), (q11, .inr (11, [.ref q14, .int 0]))] H := hP
  have hD : va_D A [(h0, .inr (5, [.ref q1, .ref q3, .ref q5, .ref q7, .ref q9, .ref q11, .int n])), (q1, .inl (t2, 6, .inl ((fun _ => 0)))), (q3, .inl (t4, 6, .inl ((fun _ => 0)))), (q5, .inl (t6, 6, .inl ((fun _ => 0)))), (q7, .inl (t8, 6, .inl ((upd f37 4 (-1))))), (q9, .inl (t10, 6, .inr (.inr (.inr (.inr f42))))), (q11, .inr (11, [.ref q14, .int 0]))] := hD
  generalize (upd f37 4 (-1)) = f44 at hP hD
  refine lv_aload_n hx hb dX4_init_71 rfl (lv_at hl 1 rfl) ?_
  refine va_get (D := (dC, dI)) (ci := 5) (v := .ref q9) (C := RX4) (T := TX4) (N := 7) hx hb ht inGX4 hown hK hP 0 rfl rfl 4 (by decide) (ht _ q186) (fun _ h9 => h9) rfl dX4_init_72 ?_
  refine lv_iload_n hx hb dX4_init_75 rfl (lv_at hl 0 rfl) ?_
  refine va_new (ci := 11) (fs := [.null, .int 0]) (C := RX10) (T := TX10) (N := 2) hx hb ht inGX10 tyX10 tyX10_ok hown (ht _ q179) (ht _ q160) (ht _ q124) hK hP hD hS hA rfl (fun j hj => by rcases (show j = 0 ∨ j = 1 by omega) with rfl | rfl <;> rfl) (Nat.le_of_ble_eq_true rfl) (Nat.le_of_ble_eq_true rfl) dX4_init_76 (fun q45 H hP hD hS => ?_)
  have hP : va_P (dC, dI) vwCl [(h0, .inr (5, [.ref q1, .ref q3, .ref q5, .ref q7, .ref q9, .ref q11, .int n])), (q1, .inl (t2, 6, .inl ((fun _ => 0)))), (q3, .inl (t4, 6, .inl ((fun _ => 0)))), (q5, .inl (t6, 6, .inl ((fun _ => 0)))), (q7, .inl (t8, 6, .inl f44)), (q9, .inl (t10, 6, .inr (.inr (.inr (.inr f42))))), (q11, .inr (11, [.ref q14, .int 0])), (q45, .inr (11, [.null, .int 0]))] H := hP
  have hD : va_D A [(h0, .inr (5, [.ref q1, .ref q3, .ref q5, .ref q7, .ref q9, .ref q11, .int n])), (q1, .inl (t2, 6, .inl ((fun _ => 0)))), (q3, .inl (t4, 6, .inl ((fun _ => 0)))), (q5, .inl (t6, 6, .inl ((fun _ => 0)))), (q7, .inl (t8, 6, .inl f44)), (q9, .inl (t10, 6, .inr (.inr (.inr (.inr f42))))), (q11, .inr (11, [.ref q14, .int 0])), (q45, .inr (11, [.null, .int 0]))] := hD
  refine W.widen (k := 16) (n := 542) (Nat.le_of_ble_eq_true rfl) (Nat.le_of_ble_eq_true rfl) ?_
  refine lv_dup hx hb dX4_init_79 rfl ?_
  have hPc := hP.sub (ws' := [(q45, .inr (11, [.null, .int 0]))]) [7] rfl
  have hDc := hD.sub (ws' := [(q45, .inr (11, [.null, .int 0]))]) [7] (by decide) rfl
  have hKc := hK.sub (tys' := []) [] rfl
  have hFc := va_free (wc := [(q45, .inr (11, [.null, .int 0]))]) hD hS hA [7] rfl
  refine va_callv (va_runIN (As := []) (rest := [.ref q45, .int 4, .ref q9]) ⟨hx, hb, hml, hown, ht⟩ (k_X10_init l d0 cO dC dI H.size q45 .null 0) (my_NI ht M_X10_init q162 rfl q181 (Nat.le_of_ble_eq_true rfl) (Nat.le_of_ble_eq_true rfl)) ⟨PRE.fb, fun U hU hW => ⟨rfl, PRE.mk' hE hS hFc hPc hKc hDc U hU hW⟩⟩ rfl rfl hl.1 rfl (lv_room (Nat.le_of_ble_eq_true rfl)) dX4_init_80 ⟨(Nat.le_of_ble_eq_true rfl), (Nat.le_of_ble_eq_true rfl)⟩) hS (fun q _ h => hFc q h) hFc (fun u46 t H1 locs htt hvm hw hB hz1 hk1 hS => ?_)
  try dsimp only at hw hB
  obtain ⟨q48, hP1, hK1, hD1⟩ := hB
  rw [htt] at hP1
  have hK1 := va_K.moved hvm.symm hK1
  obtain ⟨hP, hD⟩ := va_join (wr := [(h0, .inr (5, [.ref q1, .ref q3, .ref q5, .ref q7, .ref q9, .ref q11, .int n])), (q1, .inl (t2, 6, .inl ((fun _ => 0)))), (q3, .inl (t4, 6, .inl ((fun _ => 0)))), (q5, .inl (t6, 6, .inl ((fun _ => 0)))), (q7, .inl (t8, 6, .inl f44)), (q9, .inl (t10, 6, .inr (.inr (.inr (.inr f42))))), (q11, .inr (11, [.ref q14, .int 0]))]) (w1 := [(q45, .inr (11, [.ref q48, .int 0]))]) hP hD [7] [0, 1, 2, 3, 4, 5, 6] rfl rfl (by decide) (by decide) hk1 hFc hP1 hD1
  have hK := (hK.sub (tys' := [(t2, .char), (t4, .int), (t6, .int), (t8, .int), (t10, .object RX10)]) [0, 1, 2, 3, 4] rfl).app hK1
  generalize H1 = H at hP hS ⊢
  have hP : va_P (dC, dI) vwCl [(h0, .inr (5, [.ref q1, .ref q3, .ref q5, .ref q7, .ref q9, .ref q11, .int n])), (q1, .inl (t2, 6, .inl ((fun _ => 0)))), (q3, .inl (t4, 6, .inl ((fun _ => 0)))), (q5, .inl (t6, 6, .inl ((fun _ => 0)))), (q7, .inl (t8, 6, .inl f44)), (q9, .inl (t10, 6, .inr (.inr (.inr (.inr f42))))), (q11, .inr (11, [.ref q14, .int 0])), (q45, .inr (11, [.ref q48, .int 0]))] H := hP
  have hD : va_D A [(h0, .inr (5, [.ref q1, .ref q3, .ref q5, .ref q7, .ref q9, .ref q11, .int n])), (q1, .inl (t2, 6, .inl ((fun _ => 0)))), (q3, .inl (t4, 6, .inl ((fun _ => 0)))), (q5, .inl (t6, 6, .inl ((fun _ => 0)))), (q7, .inl (t8, 6, .inl f44)), (q9, .inl (t10, 6, .inr (.inr (.inr (.inr f42))))), (q11, .inr (11, [.ref q14, .int 0])), (q45, .inr (11, [.ref q48, .int 0]))] := hD
  have hK : va_K (dC, dI) vwCl [(t2, .char), (t4, .int), (t6, .int), (t8, .int), (t10, .object RX10)] s := hK
  refine W.widen (k := 17) (n := 642) (Nat.le_of_ble_eq_true rfl) (Nat.le_of_ble_eq_true rfl) ?_
  refine va_astq hx hb hK hP hD hS 5 4 7 11 rfl rfl rfl rfl (vp_in_nI (n := 4) (by decide) (by decide)) dX4_init_83 (fun H locs hP hD hS => ?_)
  have hP : va_P (dC, dI) vwCl [(h0, .inr (5, [.ref q1, .ref q3, .ref q5, .ref q7, .ref q9, .ref q11, .int n])), (q1, .inl (t2, 6, .inl ((fun _ => 0)))), (q3, .inl (t4, 6, .inl ((fun _ => 0)))), (q5, .inl (t6, 6, .inl ((fun _ => 0)))), (q7, .inl (t8, 6, .inl f44)), (q9, .inl (t10, 6, .inr (.inr (.inr (.inr ((va_up f42 4 (some q45)))))))), (q11, .inr (11, [.ref q14, .int 0])), (q45, .inr (11, [.ref q48, .int 0]))] H := hP
  have hD : va_D A [(h0, .inr (5, [.ref q1, .ref q3, .ref q5, .ref q7, .ref q9, .ref q11, .int n])), (q1, .inl (t2, 6, .inl ((fun _ => 0)))), (q3, .inl (t4, 6, .inl ((fun _ => 0)))), (q5, .inl (t6, 6, .inl ((fun _ => 0)))), (q7, .inl (t8, 6, .inl f44)), (q9, .inl (t10, 6, .inr (.inr (.inr (.inr ((va_up f42 4 (some q45)))))))), (q11, .inr (11, [.ref q14, .int 0])), (q45, .inr (11, [.ref q48, .int 0]))] := hD
  generalize (va_up f42 4 (some q45)) = f49 at hP hD
  have hP := hP.sub (ws' := [(h0, .inr (5, [.ref q1, .ref q3, .ref q5, .ref q7, .ref q9, .ref q11, .int n])), (q1, .inl (t2, 6, .inl ((fun _ => 0)))), (q3, .inl (t4, 6, .inl ((fun _ => 0)))), (q5, .inl (t6, 6, .inl ((fun _ => 0)))), (q7, .inl (t8, 6, .inl f44)), (q9, .inl (t10, 6, .inr (.inr (.inr (.inr f49))))), (q11, .inr (11, [.ref q14, .int 0]))]) [0, 1, 2, 3, 4, 5, 6] rfl
  have hD := hD.sub (ws' := [(h0, .inr (5, [.ref q1, .ref q3, .ref q5, .ref q7, .ref q9, .ref q11, .int n])), (q1, .inl (t2, 6, .inl ((fun _ => 0)))), (q3, .inl (t4, 6, .inl ((fun _ => 0)))), (q5, .inl (t6, 6, .inl ((fun _ => 0)))), (q7, .inl (t8, 6, .inl f44)), (q9, .inl (t10, 6, .inr (.inr (.inr (.inr f49))))), (q11, .inr (11, [.ref q14, .int 0]))]) [0, 1, 2, 3, 4, 5, 6] (by decide) rfl
  refine lv_iinc (v := 5) (lv' := [(1, .int 5), (0, .ref h0)]) hx hb dX4_init_84 hl (k := 0) rfl (by decide) (by decide) rfl (fun ls hl => ?_)
  refine lv_goto (tgt := 58) hx hb dX4_init_87 (by decide) ?_
  refine lv_iload_n hx hb dX4_init_58 rfl (lv_at hl 0 rfl) ?_
  refine lv_bipush (v := 6) hx hb dX4_init_59 (by decide) ?_
  refine lv_icmp_ge (tgt := 90) hx hb dX4_init_61 (by decide) (fun c50 => absurd c50 (by decide)) (fun c50 => ?_)
  refine lv_aload_n hx hb dX4_init_64 rfl (lv_at hl 1 rfl) ?_
  refine va_get (D := (dC, dI)) (ci := 5) (v := .ref q7) (C := RX4) (T := TX4) (N := 7) hx hb ht inGX4 hown hK hP 0 rfl rfl 3 (by decide) (ht _ q185) (fun _ h9 => h9) rfl dX4_init_65 ?_
  refine lv_iload_n hx hb dX4_init_68 rfl (lv_at hl 0 rfl) ?_
  refine lv_iconst (v := -1) hx hb dX4_init_69 (by decide) ?_
  refine va_iast hx hb hK hP hD hS 4 3 rfl rfl (vp_in_nI (n := 5) (by decide) (by decide)) dX4_init_70 (fun H locs hP hD hS => ?_)
  have hP : va_P (dC, dI) vwCl [(h0, .inr (5, [.ref q1, .ref q3, .ref q5, .ref q7, .ref q9, .ref q11, .int n])), (q1, .inl (t2, 6, .inl ((fun _ => 0)))), (q3, .inl (t4, 6, .inl ((fun _ => 0)))), (q5, .inl (t6, 6, .inl ((fun _ => 0)))), (q7, .inl (t8, 6, .inl ((upd f44 5 (-1))))), (q9, .inl (t10, 6, .inr (.inr (.inr (.inr f49))))), (q11, .inr (11, [.ref q14, .int 0]))] H := hP
  have hD : va_D A [(h0, .inr (5, [.ref q1, .ref q3, .ref q5, .ref q7, .ref q9, .ref q11, .int n])), (q1, .inl (t2, 6, .inl ((fun _ => 0)))), (q3, .inl (t4, 6, .inl ((fun _ => 0)))), (q5, .inl (t6, 6, .inl ((fun _ => 0)))), (q7, .inl (t8, 6, .inl ((upd f44 5 (-1))))), (q9, .inl (t10, 6, .inr (.inr (.inr (.inr f49))))), (q11, .inr (11, [.ref q14, .int 0]))] := hD
  generalize (upd f44 5 (-1)) = f51 at hP hD
  refine lv_aload_n hx hb dX4_init_71 rfl (lv_at hl 1 rfl) ?_
  refine va_get (D := (dC, dI)) (ci := 5) (v := .ref q9) (C := RX4) (T := TX4) (N := 7) hx hb ht inGX4 hown hK hP 0 rfl rfl 4 (by decide) (ht _ q186) (fun _ h9 => h9) rfl dX4_init_72 ?_
  refine lv_iload_n hx hb dX4_init_75 rfl (lv_at hl 0 rfl) ?_
  refine va_new (ci := 11) (fs := [.null, .int 0]) (C := RX10) (T := TX10) (N := 2) hx hb ht inGX10 tyX10 tyX10_ok hown (ht _ q179) (ht _ q160) (ht _ q124) hK hP hD hS hA rfl (fun j hj => by rcases (show j = 0 ∨ j = 1 by omega) with rfl | rfl <;> rfl) (Nat.le_of_ble_eq_true rfl) (Nat.le_of_ble_eq_true rfl) dX4_init_76 (fun q52 H hP hD hS => ?_)
  have hP : va_P (dC, dI) vwCl [(h0, .inr (5, [.ref q1, .ref q3, .ref q5, .ref q7, .ref q9, .ref q11, .int n])), (q1, .inl (t2, 6, .inl ((fun _ => 0)))), (q3, .inl (t4, 6, .inl ((fun _ => 0)))), (q5, .inl (t6, 6, .inl ((fun _ => 0)))), (q7, .inl (t8, 6, .inl f51)), (q9, .inl (t10, 6, .inr (.inr (.inr (.inr f49))))), (q11, .inr (11, [.ref q14, .int 0])), (q52, .inr (11, [.null, .int 0]))] H := hP
  have hD : va_D A [(h0, .inr (5, [.ref q1, .ref q3, .ref q5, .ref q7, .ref q9, .ref q11, .int n])), (q1, .inl (t2, 6, .inl ((fun _ => 0)))), (q3, .inl (t4, 6, .inl ((fun _ => 0)))), (q5, .inl (t6, 6, .inl ((fun _ => 0)))), (q7, .inl (t8, 6, .inl f51)), (q9, .inl (t10, 6, .inr (.inr (.inr (.inr f49))))), (q11, .inr (11, [.ref q14, .int 0])), (q52, .inr (11, [.null, .int 0]))] := hD
  refine W.widen (k := 18) (n := 644) (Nat.le_of_ble_eq_true rfl) (Nat.le_of_ble_eq_true rfl) ?_
  refine lv_dup hx hb dX4_init_79 rfl ?_
  have hPc := hP.sub (ws' := [(q52, .inr (11, [.null, .int 0]))]) [7] rfl
  have hDc := hD.sub (ws' := [(q52, .inr (11, [.null, .int 0]))]) [7] (by decide) rfl
  have hKc := hK.sub (tys' := []) [] rfl
  have hFc := va_free (wc := [(q52, .inr (11, [.null, .int 0]))]) hD hS hA [7] rfl
  refine va_callv (va_runIN (As := []) (rest := [.ref q52, .int 5, .ref q9]) ⟨hx, hb, hml, hown, ht⟩ (k_X10_init l d0 cO dC dI H.size q52 .null 0) (my_NI ht M_X10_init q162 rfl q181 (Nat.le_of_ble_eq_true rfl) (Nat.le_of_ble_eq_true rfl)) ⟨PRE.fb, fun U hU hW => ⟨rfl, PRE.mk' hE hS hFc hPc hKc hDc U hU hW⟩⟩ rfl rfl hl.1 rfl (lv_room (Nat.le_of_ble_eq_true rfl)) dX4_init_80 ⟨(Nat.le_of_ble_eq_true rfl), (Nat.le_of_ble_eq_true rfl)⟩) hS (fun q _ h => hFc q h) hFc (fun u53 t H1 locs htt hvm hw hB hz1 hk1 hS => ?_)
  try dsimp only at hw hB
  obtain ⟨q55, hP1, hK1, hD1⟩ := hB
  rw [htt] at hP1
  have hK1 := va_K.moved hvm.symm hK1
  obtain ⟨hP, hD⟩ := va_join (wr := [(h0, .inr (5, [.ref q1, .ref q3, .ref q5, .ref q7, .ref q9, .ref q11, .int n])), (q1, .inl (t2, 6, .inl ((fun _ => 0)))), (q3, .inl (t4, 6, .inl ((fun _ => 0)))), (q5, .inl (t6, 6, .inl ((fun _ => 0)))), (q7, .inl (t8, 6, .inl f51)), (q9, .inl (t10, 6, .inr (.inr (.inr (.inr f49))))), (q11, .inr (11, [.ref q14, .int 0]))]) (w1 := [(q52, .inr (11, [.ref q55, .int 0]))]) hP hD [7] [0, 1, 2, 3, 4, 5, 6] rfl rfl (by decide) (by decide) hk1 hFc hP1 hD1
  have hK := (hK.sub (tys' := [(t2, .char), (t4, .int), (t6, .int), (t8, .int), (t10, .object RX10)]) [0, 1, 2, 3, 4] rfl).app hK1
  generalize H1 = H at hP hS ⊢
  have hP : va_P (dC, dI) vwCl [(h0, .inr (5, [.ref q1, .ref q3, .ref q5, .ref q7, .ref q9, .ref q11, .int n])), (q1, .inl (t2, 6, .inl ((fun _ => 0)))), (q3, .inl (t4, 6, .inl ((fun _ => 0)))), (q5, .inl (t6, 6, .inl ((fun _ => 0)))), (q7, .inl (t8, 6, .inl f51)), (q9, .inl (t10, 6, .inr (.inr (.inr (.inr f49))))), (q11, .inr (11, [.ref q14, .int 0])), (q52, .inr (11, [.ref q55, .int 0]))] H := hP
  have hD : va_D A [(h0, .inr (5, [.ref q1, .ref q3, .ref q5, .ref q7, .ref q9, .ref q11, .int n])), (q1, .inl (t2, 6, .inl ((fun _ => 0)))), (q3, .inl (t4, 6, .inl ((fun _ => 0)))), (q5, .inl (t6, 6, .inl ((fun _ => 0)))), (q7, .inl (t8, 6, .inl f51)), (q9, .inl (t10, 6, .inr (.inr (.inr (.inr f49))))), (q11, .inr (11, [.ref q14, .int 0])), (q52, .inr (11, [.ref q55, .int 0]))] := hD
  have hK : va_K (dC, dI) vwCl [(t2, .char), (t4, .int), (t6, .int), (t8, .int), (t10, .object RX10)] s := hK
  refine W.widen (k := 19) (n := 744) (Nat.le_of_ble_eq_true rfl) (Nat.le_of_ble_eq_true rfl) ?_
  refine va_astq hx hb hK hP hD hS 5 4 7 11 rfl rfl rfl rfl (vp_in_nI (n := 5) (by decide) (by decide)) dX4_init_83 (fun H locs hP hD hS => ?_)
  have hP : va_P (dC, dI) vwCl [(h0, .inr (5, [.ref q1, .ref q3, .ref q5, .ref q7, .ref q9, .ref q11, .int n])), (q1, .inl (t2, 6, .inl ((fun _ => 0)))), (q3, .inl (t4, 6, .inl ((fun _ => 0)))), (q5, .inl (t6, 6, .inl ((fun _ => 0)))), (q7, .inl (t8, 6, .inl f51)), (q9, .inl (t10, 6, .inr (.inr (.inr (.inr ((va_up f49 5 (some q52)))))))), (q11, .inr (11, [.ref q14, .int 0])), (q52, .inr (11, [.ref q55, .int 0]))] H := hP
  have hD : va_D A [(h0, .inr (5, [.ref q1, .ref q3, .ref q5, .ref q7, .ref q9, .ref q11, .int n])), (q1, .inl (t2, 6, .inl ((fun _ => 0)))), (q3, .inl (t4, 6, .inl ((fun _ => 0)))), (q5, .inl (t6, 6, .inl ((fun _ => 0)))), (q7, .inl (t8, 6, .inl f51)), (q9, .inl (t10, 6, .inr (.inr (.inr (.inr ((va_up f49 5 (some q52)))))))), (q11, .inr (11, [.ref q14, .int 0])), (q52, .inr (11, [.ref q55, .int 0]))] := hD
  generalize (va_up f49 5 (some q52)) = f56 at hP hD
  have hP := hP.sub (ws' := [(h0, .inr (5, [.ref q1, .ref q3, .ref q5, .ref q7, .ref q9, .ref q11, .int n])), (q1, .inl (t2, 6, .inl ((fun _ => 0)))), (q3, .inl (t4, 6, .inl ((fun _ => 0)))), (q5, .inl (t6, 6, .inl ((fun _ => 0)))), (q7, .inl (t8, 6, .inl f51)), (q9, .inl (t10, 6, .inr (.inr (.inr (.inr f56))))), (q11, .inr (11, [.ref q14, .int 0]))]) [0, 1, 2, 3, 4, 5, 6] rfl
  have hD := hD.sub (ws' := [(h0, .inr (5, [.ref q1, .ref q3, .ref q5, .ref q7, .ref q9, .ref q11, .int n])), (q1, .inl (t2, 6, .inl ((fun _ => 0)))), (q3, .inl (t4, 6, .inl ((fun _ => 0)))), (q5, .inl (t6, 6, .inl ((fun _ => 0)))), (q7, .inl (t8, 6, .inl f51)), (q9, .inl (t10, 6, .inr (.inr (.inr (.inr f56))))), (q11, .inr (11, [.ref q14, .int 0]))]) [0, 1, 2, 3, 4, 5, 6] (by decide) rfl
  refine lv_iinc (v := 6) (lv' := [(1, .int 6), (0, .ref h0)]) hx hb dX4_init_84 hl (k := 0) rfl (by decide) (by decide) rfl (fun ls hl => ?_)
  refine lv_goto (tgt := 58) hx hb dX4_init_87 (by decide) ?_
  refine lv_iload_n hx hb dX4_init_58 rfl (lv_at hl 0 rfl) ?_
  refine lv_bipush (v := 6) hx hb dX4_init_59 (by decide) ?_
  refine lv_icmp_ge (tgt := 90) hx hb dX4_init_61 (by decide) (fun c57 => ?_) (fun c57 => absurd (by decide) c57)
  have hP9 := hP.sub (ws' := [(h0, .inr (5, [.ref q1, .ref q3, .ref q5, .ref q7, .ref q9, .ref q11, .int n])), (q1, .inl (t2, 6, .inl ((fun _ => 0)))), (q3, .inl (t4, 6, .inl ((fun _ => 0))))]) [0, 1, 2] rfl
  have hD9 := hD.sub (ws' := [(h0, .inr (5, [.ref q1, .ref q3, .ref q5, .ref q7, .ref q9, .ref q11, .int n])), (q1, .inl (t2, 6, .inl ((fun _ => 0)))), (q3, .inl (t4, 6, .inl ((fun _ => 0))))]) [0, 1, 2] (by decide) rfl
  have hK9 := hK.sub (tys' := [(t2, .char), (t4, .int)]) [0, 1] rfl
  refine W.widen (k := 19) (n := 744) (Nat.le_of_ble_eq_true rfl) (Nat.le_of_ble_eq_true rfl) ?_
  exact W.vret hx hb hr (fun t ht9 hW9 => ⟨⟨(), rfl, trivial, ⟨q1, q3, .ref q5, .ref q7, .ref q9, .ref q11, t2, t4, POW.mk' ht9 hW9.alike hP9 hK9 hD9⟩⟩, hS.F ht9⟩) hS.2.2 dX4_init_90
set_option maxHeartbeats 4000000 in
set_option maxRecDepth 100000 in
theorem k_X3_init (l : Launch) (d0 : Nat) (cO : ClassId) (dC : Nat → ClassId) (dI : Nat → Nat → Nat) (sz : Nat) (h0 : Nat) (i0 : Int32) (v1 v2 v3 v4 v5 v6 v7 : Value) (a1 : Int32) (a2 a3 : Nat) : Met l yX3_init (cn yX3_init cX3_init 5 none) (rmd 4 45 1506) (va_Pc [.ref h0, .int a1, .ref a2, .ref a3] (PRE d0 cO (dC, dI) (va_A [(h0, .inr (4, [.int i0, v1, v2, v3, v4, v5, v6, v7]))] sz) [(h0, .inr (4, [.int i0, v1, v2, v3, v4, v5, v6, v7]))] [] sz)) (va_Qv (fun (_ : Unit) => True) (fun (_ : Unit) (t : State) => ∃ w3 : Value, ∃ w4 : Value, ∃ w5 : Value, ∃ w6 : Value, ∃ ak : Nat, POW (dC, dI) (va_A [(h0, .inr (4, [.int i0, v1, v2, v3, v4, v5, v6, v7]))] sz) [(h0, .inr (4, [.int a1, .ref a2, .ref a3, w3, w4, w5, w6, .ref ak])), (ak, .inr (0, [.int 0, .ref d0, .int 0]))] [] t) (va_A [(h0, .inr (4, [.int i0, v1, v2, v3, v4, v5, v6, v7]))] sz)) 45 1506 (va_A [(h0, .inr (4, [.int i0, v1, v2, v3, v4, v5, v6, v7]))] sz) := by
  refine Met.ofW (cc := cX3_init) (maxL := 5) (ret := none) (by decide) rfl ?_
  intro p e s m args below meth c s₁ B hml hv
  obtain ⟨rfl, hsz, hE, hP, hK, hD0⟩ := hv
  have hx := B.exec
  have hb := B.bytes
  have hr := B.returns
  have hts := atoms_spec (ws := cn yX3_init cX3_init 5 none) B.pre
  have ht : ∀ w ∈ GT, w.before _ s = true := fun w h => hts w (List.mem_cons_of_mem _ h)
  have hown : s.vm.findClass RX3 = some m.cls := findClass_of_methodNamed B.named
  have hlocks := B.notSynchronized
  have hin : meth.name = "<init>" := (name_of_methodNamed B.named B.method).1
  subst hsz
  have hD := hD0.self (sz := s.heap.size)
  generalize hAe : va_A [(h0, .inr (4, [.int i0, v1, v2, v3, v4, v5, v6, v7]))] s.heap.size = A at hD hE ⊢
  have hA : ∀ q : Nat, s.heap.size ≤ q → A q := fun q h => by rw [← hAe]; exact Or.inr h
  obtain ⟨H, hH0⟩ : ∃ H, s.heap = H := ⟨_, rfl⟩
  have hS : va_S A s.heap H [] := by rw [← hH0]; exact va_S.rf
  rw [hH0] at hP
  have hl := lv_entry ([.ref h0, .int a1, .ref a2, .ref a3]) (n := 5) (Nat.le_of_ble_eq_true rfl)
  rw [lg_entry_eq]
  generalize (lg_sl ([.ref h0, .int a1, .ref a2, .ref a3]) ++ List.replicate (5 - (lg_sl ([.ref h0, .int a1, .ref a2, .ref a3])).length) Slot.unset).toArray = ls at hl ⊢
  have hl : lv_has ls 5 [(0, .ref h0), (1, .int a1), (2, .ref a2), (3, .ref a3)] := hl
  rw [hH0]
  refine lv_aload_n hx hb dX3_init_0 rfl (lv_at hl 0 rfl) ?_
  refine W.objInit hx hb hown (ht _ q250) (ht _ q157) (ht _ q158) rfl (by rw [hml]; exact hl.1) rfl dX3_init_1 (Nat.le_of_ble_eq_true rfl) (Nat.le_of_ble_eq_true rfl) ?_
  refine W.eq (g2 := F0 m 4 ls []) rfl ?_
  refine lv_aload_n hx hb dX3_init_4 rfl (lv_at hl 0 rfl) ?_
  refine lv_bipush (v := 6) hx hb dX3_init_5 (by decide) ?_
  refine va_newq (C := RX2) (N' := 6) hx hb hown (ht _ q251) (hE.1.2.1) hK hP hD hS hA (by decide) (by decide) (by decide) (Nat.le_of_ble_eq_true rfl) (Nat.le_of_ble_eq_true rfl) dX3_init_7 (fun q1 t2 H hK hP hD hS => ?_)
  have hK : va_K (dC, dI) vwCl [(t2, .object RX2)] s := hK
  have hP : va_P (dC, dI) vwCl [(h0, .inr (4, [.int i0, v1, v2, v3, v4, v5, v6, v7])), (q1, .inl (t2, 6, .inr (.inr (.inr (.inr ((fun _ => none)))))))] H := hP
  have hD : va_D A [(h0, .inr (4, [.int i0, v1, v2, v3, v4, v5, v6, v7])), (q1, .inl (t2, 6, .inr (.inr (.inr (.inr ((fun _ => none)))))))] := hD
  refine W.widen (k := 1) (n := 6) (Nat.le_of_ble_eq_true rfl) (Nat.le_of_ble_eq_true rfl) ?_
  refine va_putF (D := (dC, dI)) (ci := 4) (v := .ref q1) (ty := .array (.object "ToolPlex$Copy")) (C := RX3) (T := TX3) (N := 8) hx hb ht inGX3 tyX3 tyX3_ok nmX3 hown hK hP hD hS 0 rfl rfl 3 (by decide) (ht _ q315) (fun _ h9 => h9) rfl hin rfl (by decide +kernel) rfl rfl (Nat.le_of_ble_eq_true rfl) dX3_init_10 (fun H locs hP hD hS => ?_)
  have hP : va_P (dC, dI) vwCl [(h0, .inr (4, [.int i0, v1, v2, .ref q1, v4, v5, v6, v7])), (q1, .inl (t2, 6, .inr (.inr (.inr (.inr ((fun _ => none)))))))] H := hP
  have hD : va_D A [(h0, .inr (4, [.int i0, v1, v2, .ref q1, v4, v5, v6, v7])), (q1, .inl (t2, 6, .inr (.inr (.inr (.inr ((fun _ => none)))))))] := hD
  refine lv_aload_n hx hb dX3_init_13 rfl (lv_at hl 0 rfl) ?_
  refine va_new (ci := 3) (fs := [.null, .null, .null, .int 0, .int 0, .int 0, .int 0]) (C := RX2) (T := TX2) (N := 7) hx hb ht inGX2 tyX2 tyX2_ok hown (ht _ q251) (ht _ q253) (ht _ q131) hK hP hD hS hA rfl (fun j hj => by rcases (show j = 0 ∨ j = 1 ∨ j = 2 ∨ j = 3 ∨ j = 4 ∨ j = 5 ∨ j = 6 by omega) with rfl | rfl | rfl | rfl | rfl | rfl | rfl <;> rfl) (Nat.le_of_ble_eq_true rfl) (Nat.le_of_ble_eq_true rfl) dX3_init_14 (fun q3 H hP hD hS => ?_)
  have hP : va_P (dC, dI) vwCl [(h0, .inr (4, [.int i0, v1, v2, .ref q1, v4, v5, v6, v7])), (q1, .inl (t2, 6, .inr (.inr (.inr (.inr ((fun _ => none))))))), (q3, .inr (3, [.null, .null, .null, .int 0, .int 0, .int 0, .int 0]))] H := hP
  have hD : va_D A [(h0, .inr (4, [.int i0, v1, v2, .ref q1, v4, v5, v6, v7])), (q1, .inl (t2, 6, .inr (.inr (.inr (.inr ((fun _ => none))))))), (q3, .inr (3, [.null, .null, .null, .int 0, .int 0, .int 0, .int 0]))] := hD
  refine W.widen (k := 2) (n := 13) (Nat.le_of_ble_eq_true rfl) (Nat.le_of_ble_eq_true rfl) ?_
  refine lv_dup hx hb dX3_init_17 rfl ?_
  have hPc := hP.sub (ws' := [(q3, .inr (3, [.null, .null, .null, .int 0, .int 0, .int 0, .int 0]))]) [2] rfl
  have hDc := hD.sub (ws' := [(q3, .inr (3, [.null, .null, .null, .int 0, .int 0, .int 0, .int 0]))]) [2] (by decide) rfl
  have hKc := hK.sub (tys' := []) [] rfl
  have hFc := va_free (wc := [(q3, .inr (3, [.null, .null, .null, .int 0, .int 0, .int 0, .int 0]))]) hD hS hA [2] rfl
  refine va_callv (va_runIN (As := []) (rest := [.ref q3, .ref h0]) ⟨hx, hb, hml, hown, ht⟩ (k_X2_init l d0 cO dC dI H.size q3 .null .null .null 0 0 0 0) (my_NI ht M_X2_init q255 rfl q254 (Nat.le_of_ble_eq_true rfl) (Nat.le_of_ble_eq_true rfl)) ⟨PRE.fb, fun U hU hW => ⟨rfl, PRE.mk' hE hS hFc hPc hKc hDc U hU hW⟩⟩ rfl rfl hl.1 rfl (lv_room (Nat.le_of_ble_eq_true rfl)) dX3_init_18 ⟨(Nat.le_of_ble_eq_true rfl), (Nat.le_of_ble_eq_true rfl)⟩) hS (fun q _ h => hFc q h) hFc (fun u4 t H1 locs htt hvm hw hB hz1 hk1 hS => ?_)
  try dsimp only at hw hB
  obtain ⟨w06, w17, w28, hP1, hK1, hD1⟩ := hB
  rw [htt] at hP1
  have hK1 := va_K.moved hvm.symm hK1
  obtain ⟨hP, hD⟩ := va_join (wr := [(h0, .inr (4, [.int i0, v1, v2, .ref q1, v4, v5, v6, v7])), (q1, .inl (t2, 6, .inr (.inr (.inr (.inr ((fun _ => none)))))))]) (w1 := [(q3, .inr (3, [w06, w17, w28, .int 0, .int ((-1)), .int ((-1)), .int ((-1))]))]) hP hD [2] [0, 1] rfl rfl (by decide) (by decide) hk1 hFc hP1 hD1
  have hK := (hK.sub (tys' := [(t2, .object RX2)]) [0] rfl).app hK1
  generalize H1 = H at hP hS ⊢
  have hP : va_P (dC, dI) vwCl [(h0, .inr (4, [.int i0, v1, v2, .ref q1, v4, v5, v6, v7])), (q1, .inl (t2, 6, .inr (.inr (.inr (.inr ((fun _ => none))))))), (q3, .inr (3, [w06, w17, w28, .int 0, .int ((-1)), .int ((-1)), .int ((-1))]))] H := hP
  have hD : va_D A [(h0, .inr (4, [.int i0, v1, v2, .ref q1, v4, v5, v6, v7])), (q1, .inl (t2, 6, .inr (.inr (.inr (.inr ((fun _ => none))))))), (q3, .inr (3, [w06, w17, w28, .int 0, .int ((-1)), .int ((-1)), .int ((-1))]))] := hD
  have hK : va_K (dC, dI) vwCl [(t2, .object RX2)] s := hK
  refine W.widen (k := 6) (n := 217) (Nat.le_of_ble_eq_true rfl) (Nat.le_of_ble_eq_true rfl) ?_
  refine va_putF (D := (dC, dI)) (ci := 4) (v := .ref q3) (ty := .object "ToolPlex$Copy") (C := RX3) (T := TX3) (N := 8) hx hb ht inGX3 tyX3 tyX3_ok nmX3 hown hK hP hD hS 0 rfl rfl 4 (by decide) (ht _ q316) (fun _ h9 => h9) rfl hin rfl (by decide +kernel) rfl rfl (Nat.le_of_ble_eq_true rfl) dX3_init_21 (fun H locs hP hD hS => ?_)
  have hP : va_P (dC, dI) vwCl [(h0, .inr (4, [.int i0, v1, v2, .ref q1, .ref q3, v5, v6, v7])), (q1, .inl (t2, 6, .inr (.inr (.inr (.inr ((fun _ => none))))))), (q3, .inr (3, [w06, w17, w28, .int 0, .int ((-1)), .int ((-1)), .int ((-1))]))] H := hP
  have hD : va_D A [(h0, .inr (4, [.int i0, v1, v2, .ref q1, .ref q3, v5, v6, v7])), (q1, .inl (t2, 6, .inr (.inr (.inr (.inr ((fun _ => none))))))), (q3, .inr (3, [w06, w17, w28, .int 0, .int ((-1)), .int ((-1)), .int ((-1))]))] := hD
  refine lv_aload_n hx hb dX3_init_24 rfl (lv_at hl 0 rfl) ?_
  refine lv_bipush (v := 6) hx hb dX3_init_25 (by decide) ?_
  refine va_newq (C := RX5) (N' := 6) hx hb hown (ht _ q295) (hE.1.2.2.1) hK hP hD hS hA (by decide) (by decide) (by decide) (Nat.le_of_ble_eq_true rfl) (Nat.le_of_ble_eq_true rfl) dX3_init_27 (fun q9 t10 H hK hP hD hS => ?_)
  have hK : va_K (dC, dI) vwCl [(t2, .object RX2), (t10, .object RX5)] s := hK
  have hP : va_P (dC, dI) vwCl [(h0, .inr (4, [.int i0, v1, v2, .ref q1, .ref q3, v5, v6, v7])), (q1, .inl (t2, 6, .inr (.inr (.inr (.inr ((fun _ => none))))))), (q3, .inr (3, [w06, w17, w28, .int 0, .int ((-1)), .int ((-1)), .int ((-1))])), (q9, .inl (t10, 6, .inr (.inr (.inr (.inr ((fun _ => none)))))))] H := hP
  have hD : va_D A [(h0, .inr (4, [.int i0, v1, v2, .ref q1, .ref q3, v5, v6, v7])), (q1, .inl (t2, 6, .inr (.inr (.inr (.inr ((fun _ => none))))))), (q3, .inr (3, [w06, w17, w28, .int 0, .int ((-1)), .int ((-1)), .int ((-1))])), (q9, .inl (t10, 6, .inr (.inr (.inr (.inr ((fun _ => none)))))))] := hD
  refine W.widen (k := 7) (n := 223) (Nat.le_of_ble_eq_true rfl) (Nat.le_of_ble_eq_true rfl) ?_
  refine va_putF (D := (dC, dI)) (ci := 4) (v := .ref q9) (ty := .array (.object "ToolPlex$Items")) (C := RX3) (T := TX3) (N := 8) hx hb ht inGX3 tyX3 tyX3_ok nmX3 hown hK hP hD hS 0 rfl rfl 5 (by decide) (ht _ q317) (fun _ h9 => h9) rfl hin rfl (by decide +kernel) rfl rfl (Nat.le_of_ble_eq_true rfl) dX3_init_30 (fun H locs hP hD hS => ?_)
  have hP : va_P (dC, dI) vwCl [(h0, .inr (4, [.int i0, v1, v2, .ref q1, .ref q3, .ref q9, v6, v7])), (q1, .inl (t2, 6, .inr (.inr (.inr (.inr ((fun _ => none))))))), (q3, .inr (3, [w06, w17, w28, .int 0, .int ((-1)), .int ((-1)), .int ((-1))])), (q9, .inl (t10, 6, .inr (.inr (.inr (.inr ((fun _ => none)))))))] H := hP
  have hD : va_D A [(h0, .inr (4, [.int i0, v1, v2, .ref q1, .ref q3, .ref q9, v6, v7])), (q1, .inl (t2, 6, .inr (.inr (.inr (.inr ((fun _ => none))))))), (q3, .inr (3, [w06, w17, w28, .int 0, .int ((-1)), .int ((-1)), .int ((-1))])), (q9, .inl (t10, 6, .inr (.inr (.inr (.inr ((fun _ => none)))))))] := hD
  refine lv_aload_n hx hb dX3_init_33 rfl (lv_at hl 0 rfl) ?_
  refine va_new (ci := 6) (fs := [.null, .int 0]) (C := RX5) (T := TX5) (N := 2) hx hb ht inGX5 tyX5 tyX5_ok hown (ht _ q295) (ht _ q297) (ht _ q132) hK hP hD hS hA rfl (fun j hj => by rcases (show j = 0 ∨ j = 1 by omega) with rfl | rfl <;> rfl) (Nat.le_of_ble_eq_true rfl) (Nat.le_of_ble_eq_true rfl) dX3_init_34 (fun q11 H hP hD hS => ?_)
  have hP : va_P (dC, dI) vwCl [(h0, .inr (4, [.int i0, v1, v2, .ref q1, .ref q3, .ref q9, v6, v7])), (q1, .inl (t2, 6, .inr (.inr (.inr (.inr ((fun _ => none))))))), (q3, .inr (3, [w06, w17, w28, .int 0, .int ((-1)), .int ((-1)), .int ((-1))])), (q9, .inl (t10, 6, .inr (.inr (.inr (.inr ((fun _ => none))))))), (q11, .inr (6, [.null, .int 0]))] H := hP
  have hD : va_D A [(h0, .inr (4, [.int i0, v1, v2, .ref q1, .ref q3, .ref q9, v6, v7])), (q1, .inl (t2, 6, .inr (.inr (.inr (.inr ((fun _ => none))))))), (q3, .inr (3, [w06, w17, w28, .int 0, .int ((-1)), .int ((-1)), .int ((-1))])), (q9, .inl (t10, 6, .inr (.inr (.inr (.inr ((fun _ => none))))))), (q11, .inr (6, [.null, .int 0]))] := hD
  refine W.widen (k := 8) (n := 225) (Nat.le_of_ble_eq_true rfl) (Nat.le_of_ble_eq_true rfl) ?_
  refine lv_dup hx hb dX3_init_37 rfl ?_
  have hPc := hP.sub (ws' := [(q11, .inr (6, [.null, .int 0]))]) [4] rfl
  have hDc := hD.sub (ws' := [(q11, .inr (6, [.null, .int 0]))]) [4] (by decide) rfl
  have hKc := hK.sub (tys' := []) [] rfl
  have hFc := va_free (wc := [(q11, .inr (6, [.null, .int 0]))]) hD hS hA [4] rfl
  refine va_callv (va_runIN (As := []) (rest := [.ref q11, .ref h0]) ⟨hx, hb, hml, hown, ht⟩ (k_X5_init l d0 cO dC dI H.size q11 .null 0) (my_NI ht M_X5_init q299 rfl q298 (Nat.le_of_ble_eq_true rfl) (Nat.le_of_ble_eq_true rfl)) ⟨PRE.fb, fun U hU hW => ⟨rfl, PRE.mk' hE hS hFc hPc hKc hDc U hU hW⟩⟩ rfl rfl hl.1 rfl (lv_room (Nat.le_of_ble_eq_true rfl)) dX3_init_38 ⟨(Nat.le_of_ble_eq_true rfl), (Nat.le_of_ble_eq_true rfl)⟩) hS (fun q _ h => hFc q h) hFc (fun u12 t H1 locs htt hvm hw hB hz1 hk1 hS => ?_)
  try dsimp only at hw hB
  obtain ⟨v14, hP1, hK1, hD1⟩ := hB
  rw [htt] at hP1
  have hK1 := va_K.moved hvm.symm hK1
  obtain ⟨hP, hD⟩ := va_join (wr := [(h0, .inr (4, [.int i0, v1, v2, .ref q1, .ref q3, .ref q9, v6, v7])), (q1, .inl (t2, 6, .inr (.inr (.inr (.inr ((fun _ => none))))))), (q3, .inr (3, [w06, w17, w28, .int 0, .int ((-1)), .int ((-1)), .int ((-1))])), (q9, .inl (t10, 6, .inr (.inr (.inr (.inr ((fun _ => none)))))))]) (w1 := [(q11, .inr (6, [v14, .int 0]))]) hP hD [4] [0, 1, 2, 3] rfl rfl (by decide) (by decide) hk1 hFc hP1 hD1
  have hK := (hK.sub (tys' := [(t2, .object RX2), (t10, .object RX5)]) [0, 1] rfl).app hK1
  generalize H1 = H at hP hS ⊢
  have hP : va_P (dC, dI) vwCl [(h0, .inr (4, [.int i0, v1, v2, .ref q1, .ref q3, .ref q9, v6, v7])), (q1, .inl (t2, 6, .inr (.inr (.inr (.inr ((fun _ => none))))))), (q3, .inr (3, [w06, w17, w28, .int 0, .int ((-1)), .int ((-1)), .int ((-1))])), (q9, .inl (t10, 6, .inr (.inr (.inr (.inr ((fun _ => none))))))), (q11, .inr (6, [v14, .int 0]))] H := hP
  have hD : va_D A [(h0, .inr (4, [.int i0, v1, v2, .ref q1, .ref q3, .ref q9, v6, v7])), (q1, .inl (t2, 6, .inr (.inr (.inr (.inr ((fun _ => none))))))), (q3, .inr (3, [w06, w17, w28, .int 0, .int ((-1)), .int ((-1)), .int ((-1))])), (q9, .inl (t10, 6, .inr (.inr (.inr (.inr ((fun _ => none))))))), (q11, .inr (6, [v14, .int 0]))] := hD
  have hK : va_K (dC, dI) vwCl [(t2, .object RX2), (t10, .object RX5)] s := hK
  refine W.widen (k := 8) (n := 225) (Nat.le_of_ble_eq_true rfl) (Nat.le_of_ble_eq_true rfl) ?_
  refine va_putF (D := (dC, dI)) (ci := 4) (v := .ref q11) (ty := .object "ToolPlex$Items") (C := RX3) (T := TX3) (N := 8) hx hb ht inGX3 tyX3 tyX3_ok nmX3 hown hK hP hD hS 0 rfl rfl 6 (by decide) (ht _ q318) (fun _ h9 => h9) rfl hin rfl (by decide +kernel) rfl rfl (Nat.le_of_ble_eq_true rfl) dX3_init_41 (fun H locs hP hD hS => ?_)
  have hP : va_P (dC, dI) vwCl [(h0, .inr (4, [.int i0, v1, v2, .ref q1, .ref q3, .ref q9, .ref q11, v7])), (q1, .inl (t2, 6, .inr (.inr (.inr (.inr ((fun _ => none))))))), (q3, .inr (3, [w06, w17, w28, .int 0, .int ((-1)), .int ((-1)), .int ((-1))])), (q9, .inl (t10, 6, .inr (.inr (.inr (.inr ((fun _ => none))))))), (q11, .inr (6, [v14, .int 0]))] H := hP
  have hD : va_D A [(h0, .inr (4, [.int i0, v1, v2, .ref q1, .ref q3, .ref q9, .ref q11, v7])), (q1, .inl (t2, 6, .inr (.inr (.inr (.inr ((fun _ => none))))))), (q3, .inr (3, [w06, w17, w28, .int 0, .int ((-1)), .int ((-1)), .int ((-1))])), (q9, .inl (t10, 6, .inr (.inr (.inr (.inr ((fun _ => none))))))), (q11, .inr (6, [v14, .int 0]))] := hD
  refine lv_aload_n hx hb dX3_init_44 rfl (lv_at hl 0 rfl) ?_
  refine va_new (ci := 0) (fs := [.int 0, .null, .int 0]) (C := RJx4a65c) (T := TJx4a65c) (N := 3) hx hb ht inGJx4a65c tyJx4a65c tyJx4a65c_ok hown (ht _ q310) (ht _ q206) (ht _ q128) hK hP hD hS hA rfl (fun j hj => by rcases (show j = 0 ∨ j = 1 ∨ j = 2 by omega) with rfl | rfl | rfl <;> rfl) (Nat.le_of_ble_eq_true rfl) (Nat.le_of_ble_eq_true rfl) dX3_init_45 (fun q15 H hP hD hS => ?_)
  have hP : va_P (dC, dI) vwCl [(h0, .inr (4, [.int i0, v1, v2, .ref q1, .ref q3, .ref q9, .ref q11, v7])), (q1, .inl (t2, 6, .inr (.inr (.inr (.inr ((fun _ => none))))))), (q3, .inr (3, [w06, w17, w28, .int 0, .int ((-1)), .int ((-1)), .int ((-1))])), (q9, .inl (t10, 6, .inr (.inr (.inr (.inr ((fun _ => none))))))), (q11, .inr (6, [v14, .int 0])), (q15, .inr (0, [.int 0, .null, .int 0]))] H := hP
  have hD : va_D A [(h0, .inr (4, [.int i0, v1, v2, .ref q1, .ref q3, .ref q9, .ref q11, v7])), (q1, .inl (t2, 6, .inr (.inr (.inr (.inr ((fun _ => none))))))), (q3, .inr (3, [w06, w17, w28, .int 0, .int ((-1)), .int ((-1)), .int ((-1))])), (q9, .inl (t10, 6, .inr (.inr (.inr (.inr ((fun _ => none))))))), (q11, .inr (6, [v14, .int 0])), (q15, .inr (0, [.int 0, .null, .int 0]))] := hD
  refine W.widen (k := 9) (n := 228) (Nat.le_of_ble_eq_true rfl) (Nat.le_of_ble_eq_true rfl) ?_
  refine lv_dup hx hb dX3_init_48 rfl ?_
  have hPc := hP.sub (ws' := [(q15, .inr (0, [.int 0, .null, .int 0]))]) [5] rfl
  have hDc := hD.sub (ws' := [(q15, .inr (0, [.int 0, .null, .int 0]))]) [5] (by decide) rfl
  have hKc := hK.sub (tys' := []) [] rfl
  have hFc := va_free (wc := [(q15, .inr (0, [.int 0, .null, .int 0]))]) hD hS hA [5] rfl
  refine va_callv (va_runI (As := []) (rest := [.ref q15, .ref h0]) ⟨hx, hb, hml, hown, ht⟩ (k_Jx4a65c_init_da8c8 l d0 cO dC dI H.size q15 0 .null 0) (my_I ht M_Jx4a65c_init_da8c8 q208 rfl q311 (Nat.le_of_ble_eq_true rfl) (Nat.le_of_ble_eq_true rfl)) ⟨PRE.fb, fun U hU hW => ⟨rfl, PRE.mk' hE hS hFc hPc hKc hDc U hU hW⟩⟩ rfl rfl hl.1 rfl (lv_room (Nat.le_of_ble_eq_true rfl)) dX3_init_49 ⟨(Nat.le_of_ble_eq_true rfl), (Nat.le_of_ble_eq_true rfl)⟩) hS (fun q _ h => hFc q h) hFc (fun u16 t H1 locs htt hvm hw hB hz1 hk1 hS => ?_)
  try dsimp only at hw hB
  obtain ⟨hP1, hK1, hD1⟩ := hB
  rw [htt] at hP1
  have hK1 := va_K.moved hvm.symm hK1
  obtain ⟨hP, hD⟩ := va_join (wr := [(h0, .inr (4, [.int i0, v1, v2, .ref q1, .ref q3, .ref q9, .ref q11, v7])), (q1, .inl (t2, 6, .inr (.inr (.inr (.inr ((fun _ => none))))))), (q3, .inr (3, [w06, w17, w28, .int 0, .int ((-1)), .int ((-1)), .int ((-1))])), (q9, .inl (t10, 6, .inr (.inr (.inr (.inr ((fun _ => none))))))), (q11, .inr (6, [v14, .int 0]))]) (w1 := [(q15, .inr (0, [.int 0, .ref d0, .int 0]))]) hP hD [5] [0, 1, 2, 3, 4] rfl rfl (by decide) (by decide) hk1 hFc hP1 hD1
  have hK := (hK.sub (tys' := [(t2, .object RX2), (t10, .object RX5)]) [0, 1] rfl).app hK1
  generalize H1 = H at hP hS ⊢
  have hP : va_P (dC, dI) vwCl [(h0, .inr (4, [.int i0, v1, v2, .ref q1, .ref q3, .ref q9, .ref q11, v7])), (q1, .inl (t2, 6, .inr (.inr (.inr (.inr ((fun _ => none))))))), (q3, .inr (3, [w06, w17, w28, .int 0, .int ((-1)), .int ((-1)), .int ((-1))])), (q9, .inl (t10, 6, .inr (.inr (.inr (.inr ((fun _ => none))))))), (q11, .inr (6, [v14, .int 0])), (q15, .inr (0, [.int 0, .ref d0, .int 0]))] H := hP
  have hD : va_D A [(h0, .inr (4, [.int i0, v1, v2, .ref q1, .ref q3, .ref q9, .ref q11, v7])), (q1, .inl (t2, 6, .inr (.inr (.inr (.inr ((fun _ => none))))))), (q3, .inr (3, [w06, w17, w28, .int 0, .int ((-1)), .int ((-1)), .int ((-1))])), (q9, .inl (t10, 6, .inr (.inr (.inr (.inr ((fun _ => none))))))), (q11, .inr (6, [v14, .int 0])), (q15, .inr (0, [.int 0, .ref d0, .int 0]))] := hD
  have hK : va_K (dC, dI) vwCl [(t2, .object RX2), (t10, .object RX5)] s := hK
  refine W.widen (k := 9) (n := 228) (Nat.le_of_ble_eq_true rfl) (Nat.le_of_ble_eq_true rfl) ?_
  refine va_putF (D := (dC, dI)) (ci := 4) (v := .ref q15) (ty := .object "java/util/ArrayList") (C := RX3) (T := TX3) (N := 8) hx hb ht inGX3 tyX3 tyX3_ok nmX3 hown hK hP hD hS 0 rfl rfl 7 (by decide) (ht _ q319) (fun _ h9 => h9) rfl hin rfl (by decide +kernel) rfl rfl (Nat.le_of_ble_eq_true rfl) dX3_init_52 (fun H locs hP hD hS => ?_)
  have hP : va_P (dC, dI) vwCl [(h0, .inr (4, [.int i0, v1, v2, .ref q1, .ref q3, .ref q9, .ref q11, .ref q15])), (q1, .inl (t2, 6, .inr (.inr (.inr (.inr ((fun _ => none))))))), (q3, .inr (3, [w06, w17, w28, .int 0, .int ((-1)), .int ((-1)), .int ((-1))])), (q9, .inl (t10, 6, .inr (.inr (.inr (.inr ((fun _ => none))))))), (q11, .inr (6, [v14, .int 0])), (q15, .inr (0, [.int 0, .ref d0, .int 0]))] H := hP
  have hD : va_D A [(h0, .inr (4, [.int i0, v1, v2, .ref q1, .ref q3, .ref q9, .ref q11, .ref q15])), (q1, .inl (t2, 6, .inr (.inr (.inr (.inr ((fun _ => none))))))), (q3, .inr (3, [w06, w17, w28, .int 0, .int ((-1)), .int ((-1)), .int ((-1))])), (q9, .inl (t10, 6, .inr (.inr (.inr (.inr ((fun _ => none))))))), (q11, .inr (6, [v14, .int 0])), (q15, .inr (0, [.int 0, .ref d0, .int 0]))] := hD
  refine lv_aload_n hx hb dX3_init_55 rfl (lv_at hl 0 rfl) ?_
  refine lv_iload_n hx hb dX3_init_56 rfl (lv_at hl 1 rfl) ?_
  refine va_putF (D := (dC, dI)) (ci := 4) (v := .int a1) (ty := .int) (C := RX3) (T := TX3) (N := 8) hx hb ht inGX3 tyX3 tyX3_ok nmX3 hown hK hP hD hS 0 rfl rfl 0 (by decide) (ht _ q312) (fun _ h9 => h9) rfl hin rfl (by decide +kernel) rfl rfl (Nat.le_of_ble_eq_true rfl) dX3_init_57 (fun H locs hP hD hS => ?_)
  have hP : va_P (dC, dI) vwCl [(h0, .inr (4, [.int a1, v1, v2, .ref q1, .ref q3, .ref q9, .ref q11, .ref q15])), (q1, .inl (t2, 6, .inr (.inr (.inr (.inr ((fun _ => none))))))), (q3, .inr (3, [w06, w17, w28, .int 0, .int ((-1)), .int ((-1)), .int ((-1))])), (q9, .inl (t10, 6, .inr (.inr (.inr (.inr ((fun _ => none))))))), (q11, .inr (6, [v14, .int 0])), (q15, .inr (0, [.int 0, .ref d0, .int 0]))] H := hP
  have hD : va_D A [(h0, .inr (4, [.int a1, v1, v2, .ref q1, .ref q3, .ref q9, .ref q11, .ref q15])), (q1, .inl (t2, 6, .inr (.inr (.inr (.inr ((fun _ => none))))))), (q3, .inr (3, [w06, w17, w28, .int 0, .int ((-1)), .int ((-1)), .int ((-1))])), (q9, .inl (t10, 6, .inr (.inr (.inr (.inr ((fun _ => none))))))), (q11, .inr (6, [v14, .int 0])), (q15, .inr (0, [.int 0, .ref d0, .int 0]))] := hD
  refine lv_aload_n hx hb dX3_init_60 rfl (lv_at hl 0 rfl) ?_
  refine lv_aload_n hx hb dX3_init_61 rfl (lv_at hl 2 rfl) ?_
  refine va_putF (D := (dC, dI)) (ci := 4) (v := .ref a2) (ty := .object "ToolPlex$Files") (C := RX3) (T := TX3) (N := 8) hx hb ht inGX3 tyX3 tyX3_ok nmX3 hown hK hP hD hS 0 rfl rfl 1 (by decide) (ht _ q313) (fun _ h9 => h9) rfl hin rfl (by decide +kernel) rfl rfl (Nat.le_of_ble_eq_true rfl) dX3_init_62 (fun H locs hP hD hS => ?_)
  have hP : va_P (dC, dI) vwCl [(h0, .inr (4, [.int a1, .ref a2, v2, .ref q1, .ref q3, .ref q9, .ref q11, .ref q15])), (q1, .inl (t2, 6, .inr (.inr (.inr (.inr ((fun _ => none))))))), (q3, .inr (3, [w06, w17, w28, .int 0, .int ((-1)), .int ((-1)), .int ((-1))])), (q9, .inl (t10, 6, .inr (.inr (.inr (.inr ((fun _ => none))))))), (q11, .inr (6, [v14, .int 0])), (q15, .inr (0, [.int 0, .ref d0, .int 0]))] H := hP
  have hD : va_D A [(h0, .inr (4, [.int a1, .ref a2, v2, .ref q1, .ref q3, .ref q9, .ref q11, .ref q15])), (q1, .inl (t2, 6, .inr (.inr (.inr (.inr ((fun _ => none))))))), (q3, .inr (3, [w06, w17, w28, .int 0, .int ((-1)), .int ((-1)), .int ((-1))])), (q9, .inl (t10, 6, .inr (.inr (.inr (.inr ((fun _ => none))))))), (q11, .inr (6, [v14, .int 0])), (q15, .inr (0, [.int 0, .ref d0, .int 0]))] := hD
  refine lv_aload_n hx hb dX3_init_65 rfl (lv_at hl 0 rfl) ?_
  refine lv_aload_n hx hb dX3_init_66 rfl (lv_at hl 3 rfl) ?_
  refine va_putF (D := (dC, dI)) (ci := 4) (v := .ref a3) (ty := .object "ToolPlex$Channel") (C := RX3) (T := TX3) (N := 8) hx hb ht inGX3 tyX3 tyX3_ok nmX3 hown hK hP hD hS 0 rfl rfl 2 (by decide) (ht _ q314) (fun _ h9 => h9) rfl hin rfl (by decide +kernel) rfl rfl (Nat.le_of_ble_eq_true rfl) dX3_init_67 (fun H locs hP hD hS => ?_)
  have hP : va_P (dC, dI) vwCl [(h0, .inr (4, [.int a1, .ref a2, .ref a3, .ref q1, .ref q3, .ref q9, .ref q11, .ref q15])), (q1, .inl (t2, 6, .inr (.inr (.inr (.inr ((fun _ => none))))))), (q3, .inr (3, [w06, w17, w28, .int 0, .int ((-1)), .int ((-1)), .int ((-1))])), (q9, .inl (t10, 6, .inr (.inr (.inr (.inr ((fun _ => none))))))), (q11, .inr (6, [v14, .int 0])), (q15, .inr (0, [.int 0, .ref d0, .int 0]))] H := hP
  have hD : va_D A [(h0, .inr (4, [.int a1, .ref a2, .ref a3, .ref q1, .ref q3, .ref q9, .ref q11, .ref q15])), (q1, .inl (t2, 6, .inr (.inr (.inr (.inr ((fun _ => none))))))), (q3, .inr (3, [w06, w17, w28, .int 0, .int ((-1)), .int ((-1)), .int ((-1))])), (q9, .inl (t10, 6, .inr (.inr (.inr (.inr ((fun _ => none))))))), (q11, .inr (6, [v14, .int 0])), (q15, .inr (0, [.int 0, .ref d0, .int 0]))] := hD
  refine lv_iconst (v := 0) hx hb dX3_init_70 (by decide) ?_
  refine lv_istore (lv' := [(4, .int 0), (0, .ref h0), (1, .int a1), (2, .ref a2), (3, .ref a3)]) hx hb dX3_init_71 hl (by decide) rfl (fun ls hl => ?_)
  refine lv_iload hx hb dX3_init_73 (lv_at hl 0 rfl) ?_
  refine lv_bipush (v := 6) hx hb dX3_init_75 (by decide) ?_
  refine lv_icmp_ge (tgt := 114) hx hb dX3_init_77 (by decide) (fun c18 => absurd c18 (by decide)) (fun c18 => ?_)
  refine lv_aload_n hx hb dX3_init_80 rfl (lv_at hl 1 rfl) ?_
  refine va_get (D := (dC, dI)) (ci := 4) (v := .ref q1) (C := RX3) (T := TX3) (N := 8) hx hb ht inGX3 hown hK hP 0 rfl rfl 3 (by decide) (ht _ q315) (fun _ h9 => h9) rfl dX3_init_81 ?_
  refine lv_iload hx hb dX3_init_84 (lv_at hl 0 rfl) ?_
  refine va_new (ci := 3) (fs := [.null, .null, .null, .int 0, .int 0, .int 0, .int 0]) (C := RX2) (T := TX2) (N := 7) hx hb ht inGX2 tyX2 tyX2_ok hown (ht _ q251) (ht _ q253) (ht _ q131) hK hP hD hS hA rfl (fun j hj => by rcases (show j = 0 ∨ j = 1 ∨ j = 2 ∨ j = 3 ∨ j = 4 ∨ j = 5 ∨ j = 6 by omega) with rfl | rfl | rfl | rfl | rfl | rfl | rfl <;> rfl) (Nat.le_of_ble_eq_true rfl) (Nat.le_of_ble_eq_true rfl) dX3_init_86 (fun q19 H hP hD hS => ?_)
  have hP : va_P (dC, dI) vwCl [(h0, .inr (4, [.int a1, .ref a2, .ref a3, .ref q1, .ref q3, .ref q9, .ref q11, .ref q15])), (q1, .inl (t2, 6, .inr (.inr (.inr (.inr ((fun _ => none))))))), (q3, .inr (3, [w06, w17, w28, .int 0, .int ((-1)), .int ((-1)), .int ((-1))])), (q9, .inl (t10, 6, .inr (.inr (.inr (.inr ((fun _ => none))))))), (q11, .inr (6, [v14, .int 0])), (q15, .inr (0, [.int 0, .ref d0, .int 0])), (q19, .inr (3, [.null, .null, .null, .int 0, .int 0, .int 0, .int 0]))] H := hP
  have hD : va_D A [(h0, .inr (4, [.int a1, .ref a2, .ref a3, .ref q1, .ref q3, .ref q9, .ref q11, .ref q15])), (q1, .inl (t2, 6, .inr (.inr (.inr (.inr ((fun _ => none))))))), (q3, .inr (3, [w06, w17, w28, .int 0, .int ((-1)), .int ((-1)), .int ((-1))])), (q9, .inl (t10, 6, .inr (.inr (.inr (.inr ((fun _ => none))))))), (q11, .inr (6, [v14, .int 0])), (q15, .inr (0, [.int 0, .ref d0, .int 0])), (q19, .inr (3, [.null, .null, .null, .int 0, .int 0, .int 0, .int 0]))] := hD
  refine W.widen (k := 10) (n := 235) (Nat.le_of_ble_eq_true rfl) (Nat.le_of_ble_eq_true rfl) ?_
  refine lv_dup hx hb dX3_init_89 rfl ?_
  have hPc := hP.sub (ws' := [(q19, .inr (3, [.null, .null, .null, .int 0, .int 0, .int 0, .int 0]))]) [6] rfl
  have hDc := hD.sub (ws' := [(q19, .inr (3, [.null, .null, .null, .int 0, .int 0, .int 0, .int 0]))]) [6] (by decide) rfl
  have hKc := hK.sub (tys' := []) [] rfl
  have hFc := va_free (wc := [(q19, .inr (3, [.null, .null, .null, .int 0, .int 0, .int 0, .int 0]))]) hD hS hA [6] rfl
  refine va_callv (va_runIN (As := []) (rest := [.ref q19, .int 0, .ref q1]) ⟨hx, hb, hml, hown, ht⟩ (k_X2_init l d0 cO dC dI H.size q19 .null .null .null 0 0 0 0) (my_NI ht M_X2_init q255 rfl q254 (Nat.le_of_ble_eq_true rfl) (Nat.le_of_ble_eq_true rfl)) ⟨PRE.fb, fun U hU hW => ⟨rfl, PRE.mk' hE hS hFc hPc hKc hDc U hU hW⟩⟩ rfl rfl hl.1 rfl (lv_room (Nat.le_of_ble_eq_true rfl)) dX3_init_90 ⟨(Nat.le_of_ble_eq_true rfl), (Nat.le_of_ble_eq_true rfl)⟩) hS (fun q _ h => hFc q h) hFc (fun u20 t H1 locs htt hvm hw hB hz1 hk1 hS => ?_)
  try dsimp only at hw hB
  obtain ⟨w022, w123, w224, hP1, hK1, hD1⟩ := hB
  rw [htt] at hP1
  have hK1 := va_K.moved hvm.symm hK1
  obtain ⟨hP, hD⟩ := va_join (wr := [(h0, .inr (4, [.int a1, .ref a2, .ref a3, .ref q1, .ref q3, .ref q9, .ref q11, .ref q15])), (q1, .inl (t2, 6, .inr (.inr (.inr (.inr ((fun _ => none))))))), (q3, .inr (3, [w06, w17, w28, .int 0, .int ((-1)), .int ((-1)), .int ((-1))])), (q9, .inl (t10, 6, .inr (.inr (.inr (.inr ((fun _ => none))))))), (q11, .inr (6, [v14, .int 0])), (q15, .inr (0, [.int 0, .ref d0, .int 0]))]) (w1 := [(q19, .inr (3, [w022, w123, w224, .int 0, .int ((-1)), .int ((-1)), .int ((-1))]))]) hP hD [6] [0, 1, 2, 3, 4, 5] rfl rfl (by decide) (by decide) hk1 hFc hP1 hD1
  have hK := (hK.sub (tys' := [(t2, .object RX2), (t10, .object RX5)]) [0, 1] rfl).app hK1
  generalize H1 = H at hP hS ⊢
  have hP : va_P (dC, dI) vwCl [(h0, .inr (4, [.int a1, .ref a2, .ref a3, .ref q1, .ref q3, .ref q9, .ref q11, .ref q15])), (q1, .inl (t2, 6, .inr (.inr (.inr (.inr ((fun _ => none))))))), (q3, .inr (3, [w06, w17, w28, .int 0, .int ((-1)), .int ((-1)), .int ((-1))])), (q9, .inl (t10, 6, .inr (.inr (.inr (.inr ((fun _ => none))))))), (q11, .inr (6, [v14, .int 0])), (q15, .inr (0, [.int 0, .ref d0, .int 0])), (q19, .inr (3, [w022, w123, w224, .int 0, .int ((-1)), .int ((-1)), .int ((-1))]))] H := hP
  have hD : va_D A [(h0, .inr (4, [.int a1, .ref a2, .ref a3, .ref q1, .ref q3, .ref q9, .ref q11, .ref q15])), (q1, .inl (t2, 6, .inr (.inr (.inr (.inr ((fun _ => none))))))), (q3, .inr (3, [w06, w17, w28, .int 0, .int ((-1)), .int ((-1)), .int ((-1))])), (q9, .inl (t10, 6, .inr (.inr (.inr (.inr ((fun _ => none))))))), (q11, .inr (6, [v14, .int 0])), (q15, .inr (0, [.int 0, .ref d0, .int 0])), (q19, .inr (3, [w022, w123, w224, .int 0, .int ((-1)), .int ((-1)), .int ((-1))]))] := hD
  have hK : va_K (dC, dI) vwCl [(t2, .object RX2), (t10, .object RX5)] s := hK
  refine W.widen (k := 14) (n := 439) (Nat.le_of_ble_eq_true rfl) (Nat.le_of_ble_eq_true rfl) ?_
  refine va_astq hx hb hK hP hD hS 1 0 6 3 rfl rfl rfl rfl (vp_in_nI (n := 0) (by decide) (by decide)) dX3_init_93 (fun H locs hP hD hS => ?_)
  have hP : va_P (dC, dI) vwCl [(h0, .inr (4, [.int a1, .ref a2, .ref a3, .ref q1, .ref q3, .ref q9, .ref q11, .ref q15])), (q1, .inl (t2, 6, .inr (.inr (.inr (.inr ((va_up (fun _ => none) 0 (some q19)))))))), (q3, .inr (3, [w06, w17, w28, .int 0, .int ((-1)), .int ((-1)), .int ((-1))])), (q9, .inl (t10, 6, .inr (.inr (.inr (.inr ((fun _ => none))))))), (q11, .inr (6, [v14, .int 0])), (q15, .inr (0, [.int 0, .ref d0, .int 0])), (q19, .inr (3, [w022, w123, w224, .int 0, .int ((-1)), .int ((-1)), .int ((-1))]))] H := hP
  have hD : va_D A [(h0, .inr (4, [.int a1, .ref a2, .ref a3, .ref q1, .ref q3, .ref q9, .ref q11, .ref q15])), (q1, .inl (t2, 6, .inr (.inr (.inr (.inr ((va_up (fun _ => none) 0 (some q19)))))))), (q3, .inr (3, [w06, w17, w28, .int 0, .int ((-1)), .int ((-1)), .int ((-1))])), (q9, .inl (t10, 6, .inr (.inr (.inr (.inr ((fun _ => none))))))), (q11, .inr (6, [v14, .int 0])), (q15, .inr (0, [.int 0, .ref d0, .int 0])), (q19, .inr (3, [w022, w123, w224, .int 0, .int ((-1)), .int ((-1)), .int ((-1))]))] := hD
  generalize (va_up (fun _ => none) 0 (some q19)) = f25 at hP hD
  have hP := hP.sub (ws' := [(h0, .inr (4, [.int a1, .ref a2, .ref a3, .ref q1, .ref q3, .ref q9, .ref q11, .ref q15])), (q1, .inl (t2, 6, .inr (.inr (.inr (.inr f25))))), (q3, .inr (3, [w06, w17, w28, .int 0, .int ((-1)), .int ((-1)), .int ((-1))])), (q9, .inl (t10, 6, .inr (.inr (.inr (.inr ((fun _ => none))))))), (q11, .inr (6, [v14, .int 0])), (q15, .inr (0, [.int 0, .ref d0, .int 0]))]) [0, 1, 2, 3, 4, 5] rfl
  have hD := hD.sub (ws' := [(h0, .inr (4, [.int a1, .ref a2, .ref a3, .ref q1, .ref q3, .ref q9, .ref q11, .ref q15])), (q1, .inl (t2, 6, .inr (.inr (.inr (.inr f25))))), (q3, .inr (3, [w06, w17, w28, .int 0, .int ((-1)), .int ((-1)), .int ((-1))])), (q9, .inl (t10, 6, .inr (.inr (.inr (.inr ((fun _ => none))))))), (q11, .inr (6, [v14, .int 0])), (q15, .inr (0, [.int 0, .ref d0, .int 0]))]) [0, 1, 2, 3, 4, 5] (by decide) rfl
  refine lv_aload_n hx hb dX3_init_94 rfl (lv_at hl 1 rfl) ?_
  refine va_get (D := (dC, dI)) (ci := 4) (v := .ref q9) (C := RX3) (T := TX3) (N := 8) hx hb ht inGX3 hown hK hP 0 rfl rfl 5 (by decide) (ht _ q317) (fun _ h9 => h9) rfl dX3_init_95 ?_
  refine lv_iload hx hb dX3_init_98 (lv_at hl 0 rfl) ?_
  refine va_new (ci := 6) (fs := [.null, .int 0]) (C := RX5) (T := TX5) (N := 2) hx hb ht inGX5 tyX5 tyX5_ok hown (ht _ q295) (ht _ q297) (ht _ q132) hK hP hD hS hA rfl (fun j hj => by rcases (show j = 0 ∨ j = 1 by omega) with rfl | rfl <;> rfl) (Nat.le_of_ble_eq_true rfl) (Nat.le_of_ble_eq_true rfl) dX3_init_100 (fun q26 H hP hD hS => ?_)
  have hP : va_P (dC, dI) vwCl [(h0, .inr (4, [.int a1, .ref a2, .ref a3, .ref q1, .ref q3, .ref q9, .ref q11, .ref q15])), (q1, .inl (t2, 6, .inr (.inr (.inr (.inr f25))))), (q3, .inr (3, [w06, w17, w28, .int 0, .int ((-1)), .int ((-1)), .int ((-1))])), (q9, .inl (t10, 6, .inr (.inr (.inr (.inr ((fun _ => none))))))), (q11, .inr (6, [v14, .int 0])), (q15, .inr (0, [.int 0, .ref d0, .int 0])), (q26, .inr (6, [.null, .int 0]))] H := hP
  have hD : va_D A [(h0, .inr (4, [.int a1, .ref a2, .ref a3, .ref q1, .ref q3, .ref q9, .ref q11, .ref q15])), (q1, .inl (t2, 6, .inr (.inr (.inr (.inr f25))))), (q3, .inr (3, [w06, w17, w28, .int 0, .int ((-1)), .int ((-1)), .int ((-1))])), (q9, .inl (t10, 6, .inr (.inr (.inr (.inr ((fun _ => none))))))), (q11, .inr (6, [v14, .int 0])), (q15, .inr (0, [.int 0, .ref d0, .int 0])), (q26, .inr (6, [.null, .int 0]))] := hD
  refine W.widen (k := 15) (n := 441) (Nat.le_of_ble_eq_true rfl) (Nat.le_of_ble_eq_true rfl) ?_
  refine lv_dup hx hb dX3_init_103 rfl ?_
  have hPc := hP.sub (ws' := [(q26, .inr (6, [.null, .int 0]))]) [6] rfl
  have hDc := hD.sub (ws' := [(q26, .inr (6, [.null, .int 0]))]) [6] (by decide) rfl
  have hKc := hK.sub (tys' := []) [] rfl
  have hFc := va_free (wc := [(q26, .inr (6, [.null, .int 0]))]) hD hS hA [6] rfl
  refine va_callv (va_runIN (As := []) (rest := [.ref q26, .int 0, .ref q9]) ⟨hx, hb, hml, hown, ht⟩ (k_X5_init l d0 cO dC dI H.size q26 .null 0) (my_NI ht M_X5_init q299 rfl q298 (Nat.le_of_ble_eq_true rfl) (Nat.le_of_ble_eq_true rfl)) ⟨PRE.fb, fun U hU hW => ⟨rfl, PRE.mk' hE hS hFc hPc hKc hDc U hU hW⟩⟩ rfl rfl hl.1 rfl (lv_room (Nat.le_of_ble_eq_true rfl)) dX3_init_104 ⟨(Nat.le_of_ble_eq_true rfl), (Nat.le_of_ble_eq_true rfl)⟩) hS (fun q _ h => hFc q h) hFc (fun u27 t H1 locs htt hvm hw hB hz1 hk1 hS => ?_)
  try dsimp only at hw hB
  obtain ⟨v29, hP1, hK1, hD1⟩ := hB
  rw [htt] at hP1
  have hK1 := va_K.moved hvm.symm hK1
  obtain ⟨hP, hD⟩ := va_join (wr := [(h0, .inr (4, [.int a1, .ref a2, .ref a3, .ref q1, .ref q3, .ref q9, .ref q11, .ref q15])), (q1, .inl (t2, 6, .inr (.inr (.inr (.inr f25))))), (q3, .inr (3, [w06, w17, w28, .int 0, .int ((-1)), .int ((-1)), .int ((-1))])), (q9, .inl (t10, 6, .inr (.inr (.inr (.inr ((fun _ => none))))))), (q11, .inr (6, [v14, .int 0])), (q15, .inr (0, [.int 0, .ref d0, .int 0]))]) (w1 := [(q26, .inr (6, [v29, .int 0]))]) hP hD [6] [0, 1, 2, 3, 4, 5] rfl rfl (by decide) (by decide) hk1 hFc hP1 hD1
  have hK := (hK.sub (tys' := [(t2, .object RX2), (t10, .object RX5)]) [0, 1] rfl).app hK1
  generalize H1 = H at hP hS ⊢
  have hP : va_P (dC, dI) vwCl [(h0, .inr (4, [.int a1, .ref a2, .ref a3, .ref q1, .ref q3, .ref q9, .ref q11, .ref q15])), (q1, .inl (t2, 6, .inr (.inr (.inr (.inr f25))))), (q3, .inr (3, [w06, w17, w28, .int 0, .int ((-1)), .int ((-1)), .int ((-1))])), (q9, .inl (t10, 6, .inr (.inr (.inr (.inr ((fun _ => none))))))), (q11, .inr (6, [v14, .int 0])), (q15, .inr (0, [.int 0, .ref d0, .int 0])), (q26, .inr (6, [v29, .int 0]))] H := hP
  have hD : va_D A [(h0, .inr (4, [.int a1, .ref a2, .ref a3, .ref q1, .ref q3, .ref q9, .ref q11, .ref q15])), (q1, .inl (t2, 6, .inr (.inr (.inr (.inr f25))))), (q3, .inr (3, [w06, w17, w28, .int 0, .int ((-1)), .int ((-1)), .int ((-1))])), (q9, .inl (t10, 6, .inr (.inr (.inr (.inr ((fun _ => none))))))), (q11, .inr (6, [v14, .int 0])), (q15, .inr (0, [.int 0, .ref d0, .int 0])), (q26, .inr (6, [v29, .int 0]))] := hD
  have hK : va_K (dC, dI) vwCl [(t2, .object RX2), (t10, .object RX5)] s := hK
  refine W.widen (k := 15) (n := 441) (Nat.le_of_ble_eq_true rfl) (Nat.le_of_ble_eq_true rfl) ?_
  refine va_astq hx hb hK hP hD hS 3 1 6 6 rfl rfl rfl rfl (vp_in_nI (n := 0) (by decide) (by decide)) dX3_init_107 (fun H locs hP hD hS => ?_)
  have hP : va_P (dC, dI) vwCl [(h0, .inr (4, [.int a1, .ref a2, .ref a3, .ref q1, .ref q3, .ref q9, .ref q11, .ref q15])), (q1, .inl (t2, 6, .inr (.inr (.inr (.inr f25))))), (q3, .inr (3, [w06, w17, w28, .int 0, .int ((-1)), .int ((-1)), .int ((-1))])), (q9, .inl (t10, 6, .inr (.inr (.inr (.inr ((va_up (fun _ => none) 0 (some q26)))))))), (q11, .inr (6, [v14, .int 0])), (q15, .inr (0, [.int 0, .ref d0, .int 0])), (q26, .inr (6, [v29, .int 0]))] H := hP
  have hD : va_D A [(h0, .inr (4, [.int a1, .ref a2, .ref a3, .ref q1, .ref q3, .ref q9, .ref q11, .ref q15])), (q1, .inl (t2, 6, .inr (.inr (.inr (.inr f25))))), (q3, .inr (3, [w06, w17, w28, .int 0, .int ((-1)), .int ((-1)), .int ((-1))])), (q9, .inl (t10, 6, .inr (.inr (.inr (.inr ((va_up (fun _ => none) 0 (some q26)))))))), (q11, .inr (6, [v14, .int 0])), (q15, .inr (0, [.int 0, .ref d0, .int 0])), (q26, .inr (6, [v29, .int 0]))] := hD
  generalize (va_up (fun _ => none) 0 (some q26)) = f30 at hP hD
  have hP := hP.sub (ws' := [(h0, .inr (4, [.int a1, .ref a2, .ref a3, .ref q1, .ref q3, .ref q9, .ref q11, .ref q15])), (q1, .inl (t2, 6, .inr (.inr (.inr (.inr f25))))), (q3, .inr (3, [w06, w17, w28, .int 0, .int ((-1)), .int ((-1)), .int ((-1))])), (q9, .inl (t10, 6, .inr (.inr (.inr (.inr f30))))), (q11, .inr (6, [v14, .int 0])), (q15, .inr (0, [.int 0, .ref d0, .int 0]))]) [0, 1, 2, 3, 4, 5] rfl
  have hD := hD.sub (ws' := [(h0, .inr (4, [.int a1, .ref a2, .ref a3, .ref q1, .ref q3, .ref q9, .ref q11, .ref q15])), (q1, .inl (t2, 6, .inr (.inr (.inr (.inr f25))))), (q3, .inr (3, [w06, w17, w28, .int 0, .int ((-1)), .int ((-1)), .int ((-1))])), (q9, .inl (t10, 6, .inr (.inr (.inr (.inr f30))))), (q11, .inr (6, [v14, .int 0])), (q15, .inr (0, [.int 0, .ref d0, .int 0]))]) [0, 1, 2, 3, 4, 5] (by decide) rfl
  refine lv_iinc (v := 1) (lv' := [(4, .int 1), (0, .ref h0), (1, .int a1), (2, .ref a2), (3, .ref a3)]) hx hb dX3_init_108 hl (k := 0) rfl (by decide) (by decide) rfl (fun ls hl => ?_)
  refine lv_goto (tgt := 73) hx hb dX3_init_111 (by decide) ?_
  refine lv_iload hx hb dX3_init_73 (lv_at hl 0 rfl) ?_
  refine lv_bipush (v := 6) hx hb dX3_init_75 (by decide) ?_
  refine lv_icmp_ge (tgt := 114) hx hb dX3_init_77 (by decide) (fun c31 => absurd c31 (by decide)) (fun c31 => ?_)
  refine lv_aload_n hx hb dX3_init_80 rfl (lv_at hl 1 rfl) ?_
  refine va_get (D := (dC, dI)) (ci := 4) (v := .ref q1) (C := RX3) (T := TX3) (N := 8) hx hb ht inGX3 hown hK hP 0 rfl rfl 3 (by decide) (ht _ q315) (fun _ h9 => h9) rfl dX3_init_81 ?_
  refine lv_iload hx hb dX3_init_84 (lv_at hl 0 rfl) ?_
  refine va_new (ci := 3) (fs := [.null, .null, .null, .int 0, .int 0, .int 0, .int 0]) (C := RX2) (T := TX2) (N := 7) hx hb ht inGX2 tyX2 tyX2_ok hown (ht _ q251) (ht _ q253) (ht _ q131) hK hP hD hS hA rfl (fun j hj => by rcases (show j = 0 ∨ j = 1 ∨ j = 2 ∨ j = 3 ∨ j = 4 ∨ j = 5 ∨ j = 6 by omega) with rfl | rfl | rfl | rfl | rfl | rfl | rfl <;> rfl) (Nat.le_of_ble_eq_true rfl) (Nat.le_of_ble_eq_true rfl) dX3_init_86 (fun q32 H hP hD hS => ?_)
  have hP : va_P (dC, dI) vwCl [(h0, .inr (4, [.int a1, .ref a2, .ref a3, .ref q1, .ref q3, .ref q9, .ref q11, .ref q15])), (q1, .inl (t2, 6, .inr (.inr (.inr (.inr f25))))), (q3, .inr (3, [w06, w17, w28, .int 0, .int ((-1)), .int ((-1)), .int ((-1))])), (q9, .inl (t10, 6, .inr (.inr (.inr (.inr f30))))), (q11, .inr (6, [v14, .int 0])), (q15, .inr (0, [.int 0, .ref d0, .int 0])), (q32, .inr (3, [.null, .null, .null, .int 0, .int 0, .int 0, .int 0]))] H := hP
  have hD : va_D A [(h0, .inr (4, [.int a1, .ref a2, .ref a3, .ref q1, .ref q3, .ref q9, .ref q11, .ref q15])), (q1, .inl (t2, 6, .inr (.inr (.inr (.inr f25))))), (q3, .inr (3, [w06, w17, w28, .int 0, .int ((-1)), .int ((-1)), .int ((-1))])), (q9, .inl (t10, 6, .inr (.inr (.inr (.inr f30))))), (q11, .inr (6, [v14, .int 0])), (q15, .inr (0, [.int 0, .ref d0, .int 0])), (q32, .inr (3, [.null, .null, .null, .int 0, .int 0, .int 0, .int 0]))] := hD
  refine W.widen (k := 16) (n := 448) (Nat.le_of_ble_eq_true rfl) (Nat.le_of_ble_eq_true rfl) ?_
  refine lv_dup hx hb dX3_init_89 rfl ?_
  have hPc := hP.sub (ws' := [(q32, .inr (3, [.null, .null, .null, .int 0, .int 0, .int 0, .int 0]))]) [6] rfl
  have hDc := hD.sub (ws' := [(q32, .inr (3, [.null, .null, .null, .int 0, .int 0, .int 0, .int 0]))]) [6] (by decide) rfl
  have hKc := hK.sub (tys' := []) [] rfl
  have hFc := va_free (wc := [(q32, .inr (3, [.null, .null, .null, .int 0, .int 0, .int 0, .int 0]))]) hD hS hA [6] rfl
  refine va_callv (va_runIN (As := []) (rest := [.ref q32, .int 1, .ref q1]) ⟨hx, hb, hml, hown, ht⟩ (k_X2_init l d0 cO dC dI H.size q32 .null .null .null 0 0 0 0) (my_NI ht M_X2_init q255 rfl q254 (Nat.le_of_ble_eq_true rfl) (Nat.le_of_ble_eq_true rfl)) ⟨PRE.fb, fun U hU hW => ⟨rfl, PRE.mk' hE hS hFc hPc hKc hDc U hU hW⟩⟩ rfl rfl hl.1 rfl (lv_room (Nat.le_of_ble_eq_true rfl)) dX3_init_90 ⟨(Nat.le_of_ble_eq_true rfl), (Nat.le_of_ble_eq_true rfl)⟩) hS (fun q _ h => hFc q h) hFc (fun u33 t H1 locs htt hvm hw hB hz1 hk1 hS => ?_)
  try dsimp only at hw hB
  obtain ⟨w035, w136, w237, hP1, hK1, hD1⟩ := hB
  rw [htt] at hP1
  have hK1 := va_K.moved hvm.symm hK1
  obtain ⟨hP, hD⟩ := va_join (wr := [(h0, .inr (4, [.int a1, .ref a2, .ref a3, .ref q1, .ref q3, .ref q9, .ref q11, .ref q15])), (q1, .inl (t2, 6, .inr (.inr (.inr (.inr f25))))), (q3, .inr (3, [w06, w17, w28, .int 0, .int ((-1)), .int ((-1)), .int ((-1))])), (q9, .inl (t10, 6, .inr (.inr (.inr (.inr f30))))), (q11, .inr (6, [v14, .int 0])), (q15, .inr (0, [.int 0, .ref d0, .int 0]))]) (w1 := [(q32, .inr (3, [w035, w136, w237, .int 0, .int ((-1)), .int ((-1)), .int ((-1))]))]) hP hD [6] [0, 1, 2, 3, 4, 5] rfl rfl (by decide) (by decide) hk1 hFc hP1 hD1
  have hK := (hK.sub (tys' := [(t2, .object RX2), (t10, .object RX5)]) [0, 1] rfl).app hK1
  generalize H1 = H at hP hS ⊢
  have hP : va_P (dC, dI) vwCl [(h0, .inr (4, [.int a1, .ref a2, .ref a3, .ref q1, .ref q3, .ref q9, .ref q11, .ref q15])), (q1, .inl (t2, 6, .inr (.inr (.inr (.inr f25))))), (q3, .inr (3, [w06, w17, w28, .int 0, .int ((-1)), .int ((-1)), .int ((-1))])), (q9, .inl (t10, 6, .inr (.inr (.inr (.inr f30))))), (q11, .inr (6, [v14, .int 0])), (q15, .inr (0, [.int 0, .ref d0, .int 0])), (q32, .inr (3, [w035, w136, w237, .int 0, .int ((-1)), .int ((-1)), .int ((-1))]))] H := hP
  have hD : va_D A [(h0, .inr (4, [.int a1, .ref a2, .ref a3, .ref q1, .ref q3, .ref q9, .ref q11, .ref q15])), (q1, .inl (t2, 6, .inr (.inr (.inr (.inr f25))))), (q3, .inr (3, [w06, w17, w28, .int 0, .int ((-1)), .int ((-1)), .int ((-1))])), (q9, .inl (t10, 6, .inr (.inr (.inr (.inr f30))))), (q11, .inr (6, [v14, .int 0])), (q15, .inr (0, [.int 0, .ref d0, .int 0])), (q32, .inr (3, [w035, w136, w237, .int 0, .int ((-1)), .int ((-1)), .int ((-1))]))] := hD
  have hK : va_K (dC, dI) vwCl [(t2, .object RX2), (t10, .object RX5)] s := hK
  refine W.widen (k := 20) (n := 652) (Nat.le_of_ble_eq_true rfl) (Nat.le_of_ble_eq_true rfl) ?_
  refine va_astq hx hb hK hP hD hS 1 0 6 3 rfl rfl rfl rfl (vp_in_nI (n := 1) (by decide) (by decide)) dX3_init_93 (fun H locs hP hD hS => ?_)
  have hP : va_P (dC, dI) vwCl [(h0, .inr (4, [.int a1, .ref a2, .ref a3, .ref q1, .ref q3, .ref q9, .ref q11, .ref q15])), (q1, .inl (t2, 6, .inr (.inr (.inr (.inr ((va_up f25 1 (some q32)))))))), (q3, .inr (3, [w06, w17, w28, .int 0, .int ((-1)), .int ((-1)), .int ((-1))])), (q9, .inl (t10, 6, .inr (.inr (.inr (.inr f30))))), (q11, .inr (6, [v14, .int 0])), (q15, .inr (0, [.int 0, .ref d0, .int 0])), (q32, .inr (3, [w035, w136, w237, .int 0, .int ((-1)), .int ((-1)), .int ((-1))]))] H := hP
  have hD : va_D A [(h0, .inr (4, [.int a1, .ref a2, .ref a3, .ref q1, .ref q3, .ref q9, .ref q11, .ref q15])), (q1, .inl (t2, 6, .inr (.inr (.inr (.inr ((va_up f25 1 (some q32)))))))), (q3, .inr (3, [w06, w17, w28, .int 0, .int ((-1)), .int ((-1)), .int ((-1))])), (q9, .inl (t10, 6, .inr (.inr (.inr (.inr f30))))), (q11, .inr (6, [v14, .int 0])), (q15, .inr (0, [.int 0, .ref d0, .int 0])), (q32, .inr (3, [w035, w136, w237, .int 0, .int ((-1)), .int ((-1)), .int ((-1))]))] := hD
  generalize (va_up f25 1 (some q32)) = f38 at hP hD
  have hP := hP.sub (ws' := [(h0, .inr (4, [.int a1, .ref a2, .ref a3, .ref q1, .ref q3, .ref q9, .ref q11, .ref q15])), (q1, .inl (t2, 6, .inr (.inr (.inr (.inr f38))))), (q3, .inr (3, [w06, w17, w28, .int 0, .int ((-1)), .int ((-1)), .int ((-1))])), (q9, .inl (t10, 6, .inr (.inr (.inr (.inr f30))))), (q11, .inr (6, [v14, .int 0])), (q15, .inr (0, [.int 0, .ref d0, .int 0]))]) [0, 1, 2, 3, 4, 5] rfl
  have hD := hD.sub (ws' := [(h0, .inr (4, [.int a1, .ref a2, .ref a3, .ref q1, .ref q3, .ref q9, .ref q11, .ref q15])), (q1, .inl (t2, 6, .inr (.inr (.inr (.inr f38))))), (q3, .inr (3, [w06, w17, w28, .int 0, .int ((-1)), .int ((-1)), .int ((-1))])), (q9, .inl (t10, 6, .inr (.inr (.inr (.inr f30))))), (q11, .inr (6, [v14, .int 0])), (q15, .inr (0, [.int 0, .ref d0, .int 0]))]) [0, 1, 2, 3, 4, 5] (by decide) rfl
  refine lv_aload_n hx hb dX3_init_94 rfl (lv_at hl 1 rfl) ?_
  refine va_get (D := (dC, dI)) (ci := 4) (v := .ref q9) (C := RX3) (T := TX3) (N := 8) hx hb ht inGX3 hown hK hP 0 rfl rfl 5 (by decide) (ht _ q317) (fun _ h9 => h9) rfl dX3_init_95 ?_
  refine lv_iload hx hb dX3_init_98 (lv_at hl 0 rfl) ?_
  refine va_new (ci := 6) (fs := [.null, .int 0]) (C := RX5) (T := TX5) (N := 2) hx hb ht inGX5 tyX5 tyX5_ok hown (ht _ q295) (ht _ q297) (ht _ q132) hK hP hD hS hA rfl (fun j hj => by rcases (show j = 0 ∨ j = 1 by omega) with rfl | rfl <;> rfl) (Nat.le_of_ble_eq_true rfl) (Nat.le_of_ble_eq_true rfl) dX3_init_100 (fun q39 H hP hD hS => ?_)
  have hP : va_P (dC, dI) vwCl [(h0, .inr (4, [.int a1, .ref a2, .ref a3, .ref q1, .ref q3, .ref q9, .ref q11, .ref q15])), (q1, .inl (t2, 6, .inr (.inr (.inr (.inr f38))))), (q3, .inr (3, [w06, w17, w28, .int 0, .int ((-1)), .int ((-1)), .int ((-1))])), (q9, .inl (t10, 6, .inr (.inr (.inr (.inr f30))))), (q11, .inr (6, [v14, .int 0])), (q15, .inr (0, [.int 0, .ref d0, .int 0])), (q39, .inr (6, [.null, .int 0]))] H := hP
  have hD : va_D A [(h0, .inr (4, [.int a1, .ref a2, .ref a3, .ref q1, .ref q3, .ref q9, .ref q11, .ref q15])), (q1, .inl (t2, 6, .inr (.inr (.inr (.inr f38))))), (q3, .inr (3, [w06, w17, w28, .int 0, .int ((-1)), .int ((-1)), .int ((-1))])), (q9, .inl (t10, 6, .inr (.inr (.inr (.inr f30))))), (q11, .inr (6, [v14, .int 0])), (q15, .inr (0, [.int 0, .ref d0, .int 0])), (q39, .inr (6, [.null, .int 0]))] := hD
  refine W.widen (k := 21) (n := 654) (Nat.le_of_ble_eq_true rfl) (Nat.le_of_ble_eq_true rfl) ?_
  refine lv_dup hx hb dX3_init_103 rfl ?_
  have hPc := hP.sub (ws' := [(q39, .inr (6, [.null, .int 0]))]) [6] rfl
  have hDc := hD.sub (ws' := [(q39, .inr (6, [.null, .int 0]))]) [6] (by decide) rfl
  have hKc := hK.sub (tys' := []) [] rfl
  have hFc := va_free (wc := [(q39, .inr (6, [.null, .int 0]))]) hD hS hA [6] rfl
  refine va_callv (va_runIN (As := []) (rest := [.ref q39, .int 1, .ref q9]) ⟨hx, hb, hml, hown, ht⟩ (k_X5_init l d0 cO dC dI H.size q39 .null 0) (my_NI ht M_X5_init q299 rfl q298 (Nat.le_of_ble_eq_true rfl) (Nat.le_of_ble_eq_true rfl)) ⟨PRE.fb, fun U hU hW => ⟨rfl, PRE.mk' hE hS hFc hPc hKc hDc U hU hW⟩⟩ rfl rfl hl.1 rfl (lv_room (Nat.le_of_ble_eq_true rfl)) dX3_init_104 ⟨(Nat.le_of_ble_eq_true rfl), (Nat.le_of_ble_eq_true rfl)⟩) hS (fun q _ h => hFc q h) hFc (fun u40 t H1 locs htt hvm hw hB hz1 hk1 hS => ?_)
  try dsimp only at hw hB
  obtain ⟨v42, hP1, hK1, hD1⟩ := hB
  rw [htt] at hP1
  have hK1 := va_K.moved hvm.symm hK1
  obtain ⟨hP, hD⟩ := va_join (wr := [(h0, .inr (4, [.int a1, .ref a2, .ref a3, .ref q1, .ref q3, .ref q9, .ref q11, .ref q15])), (q1, .inl (t2, 6, .inr (.inr (.inr (.inr f38))))), (q3, .inr (3, [w06, w17, w28, .int 0, .int ((-1)), .int ((-1)), .int ((-1))])), (q9, .inl (t10, 6, .inr (.inr (.inr (.inr f30))))), (q11, .inr (6, [v14, .int 0])), (q15, .inr (0, [.int 0, .ref d0, .int 0]))]) (w1 := [(q39, .inr (6, [v42, .int 0]))]) hP hD [6] [0, 1, 2, 3, 4, 5] rfl rfl (by decide) (by decide) hk1 hFc hP1 hD1
  have hK := (hK.sub (tys' := [(t2, .object RX2), (t10, .object RX5)]) [0, 1] rfl).app hK1
  generalize H1 = H at hP hS ⊢
  have hP : va_P (dC, dI) vwCl [(h0, .inr (4, [.int a1, .ref a2, .ref a3, .ref q1, .ref q3, .ref q9, .ref q11, .ref q15])), (q1, .inl (t2, 6, .inr (.inr (.inr (.inr f38))))), (q3, .inr (3, [w06, w17, w28, .int 0, .int ((-1)), .int ((-1)), .int ((-1))])), (q9, .inl (t10, 6, .inr (.inr (.inr (.inr f30))))), (q11, .inr (6, [v14, .int 0])), (q15, .inr (0, [.int 0, .ref d0, .int 0])), (q39, .inr (6, [v42, .int 0]))] H := hP
  have hD : va_D A [(h0, .inr (4, [.int a1, .ref a2, .ref a3, .ref q1, .ref q3, .ref q9, .ref q11, .ref q15])), (q1, .inl (t2, 6, .inr (.inr (.inr (.inr f38))))), (q3, .inr (3, [w06, w17, w28, .int 0, .int ((-1)), .int ((-1)), .int ((-1))])), (q9, .inl (t10, 6, .inr (.inr (.inr (.inr f30))))), (q11, .inr (6, [v14, .int 0])), (q15, .inr (0, [.int 0, .ref d0, .int 0])), (q39, .inr (6, [v42, .int 0]))] := hD
  have hK : va_K (dC, dI) vwCl [(t2, .object RX2), (t10, .object RX5)] s := hK
  refine W.widen (k := 21) (n := 654) (Nat.le_of_ble_eq_true rfl) (Nat.le_of_ble_eq_true rfl) ?_
  refine va_astq hx hb hK hP hD hS 3 1 6 6 rfl rfl rfl rfl (vp_in_nI (n := 1) (by decide) (by decide)) dX3_init_107 (fun H locs hP hD hS => ?_)
  have hP : va_P (dC, dI) vwCl [(h0, .inr (4, [.int a1, .ref a2, .ref a3, .ref q1, .ref q3, .ref q9, .ref q11, .ref q15])), (q1, .inl (t2, 6, .inr (.inr (.inr (.inr f38))))), (q3, .inr (3, [w06, w17, w28, .int 0, .int ((-1)), .int ((-1)), .int ((-1))])), (q9, .inl (t10, 6, .inr (.inr (.inr (.inr ((va_up f30 1 (some q39)))))))), (q11, .inr (6, [v14, .int 0])), (q15, .inr (0, [.int 0, .ref d0, .int 0])), (q39, .inr (6, [v42, .int 0]))] H := hP
  have hD : va_D A [(h0, .inr (4, [.int a1, .ref a2, .ref a3, .ref q1, .ref q3, .ref q9, .ref q11, .ref q15])), (q1, .inl (t2, 6, .inr (.inr (.inr (.inr f38))))), (q3, .inr (3, [w06, w17, w28, .int 0, .int ((-1)), .int ((-1)), .int ((-1))])), (q9, .inl (t10, 6, .inr (.inr (.inr (.inr ((va_up f30 1 (some q39)))))))), (q11, .inr (6, [v14, .int 0])), (q15, .inr (0, [.int 0, .ref d0, .int 0])), (q39, .inr (6, [v42, .int 0]))] := hD
  generalize (va_up f30 1 (some q39)) = f43 at hP hD
  have hP := hP.sub (ws' := [(h0, .inr (4, [.int a1, .ref a2, .ref a3, .ref q1, .ref q3, .ref q9, .ref q11, .ref q15])), (q1, .inl (t2, 6, .inr (.inr (.inr (.inr f38))))), (q3, .inr (3, [w06, w17, w28, .int 0, .int ((-1)), .int ((-1)), .int ((-1))])), (q9, .inl (t10, 6, .inr (.inr (.inr (.inr f43))))), (q11, .inr (6, [v14, .int 0])), (q15, .inr (0, [.int 0, .ref d0, .int 0]))]) [0, 1, 2, 3, 4, 5] rfl
  have hD := hD.sub (ws' := [(h0, .inr (4, [.int a1, .ref a2, .ref a3, .ref q1, .ref q3, .ref q9, .ref q11, .ref q15])), (q1, .inl (t2, 6, .inr (.inr (.inr (.inr f38))))), (q3, .inr (3, [w06, w17, w28, .int 0, .int ((-1)), .int ((-1)), .int ((-1))])), (q9, .inl (t10, 6, .inr (.inr (.inr (.inr f43))))), (q11, .inr (6, [v14, .int 0])), (q15, .inr (0, [.int 0, .ref d0, .int 0]))]) [0, 1, 2, 3, 4, 5] (by decide) rfl
  refine lv_iinc (v := 2) (lv' := [(4, .int 2), (0, .ref h0), (1, .int a1), (2, .ref a2), (3, .ref a3)]) hx hb dX3_init_108 hl (k := 0) rfl (by decide) (by decide) rfl (fun ls hl => ?_)
  refine lv_goto (tgt := 73) hx hb dX3_init_111 (by decide) ?_
  refine lv_iload hx hb dX3_init_73 (lv_at hl 0 rfl) ?_
  refine lv_bipush (v := 6) hx hb dX3_init_75 (by decide) ?_
  refine lv_icmp_ge (tgt := 114) hx hb dX3_init_77 (by decide) (fun c44 => absurd c44 (by decide)) (fun c44 => ?_)
  refine lv_aload_n hx hb dX3_init_80 rfl (lv_at hl 1 rfl) ?_
  refine va_get (D := (dC, dI)) (ci := 4) (v := .ref q1) (C := RX3) (T := TX3) (N := 8) hx hb ht inGX3 hown hK hP 0 rfl rfl 3 (by decide) (ht _ q315) (fun _ h9 => h9) rfl dX3_init_81 ?_
  refine lv_iload hx hb dX3_init_84 (lv_at hl 0 rfl) ?_
  refine va_new (ci := 3) (fs := [.null, .null, .null, .int 0, .int 0, .int 0, .int 0]) (C := RX2) (T := TX2) (N := 7) hx hb ht inGX2 tyX2 tyX2_ok hown (ht _ q251) (ht _ q253) (ht _ q131) hK hP hD hS hA rfl (fun j hj => by rcases (show j = 0 ∨ j = 1 ∨ j = 2 ∨ j = 3 ∨ j = 4 ∨ j = 5 ∨ j = 6 by omega) with rfl | rfl | rfl | rfl | rfl | rfl | rfl <;> rfl) (Nat.le_of_ble_eq_true rfl) (Nat.le_of_ble_eq_true rfl) dX3_init_86 (fun q45 H hP hD hS => ?_)
  have hP : va_P (dC, dI) vwCl [(h0, .inr (4, [.int a1, .ref a2, .ref a3, .ref q1, .ref q3, .ref q9, .ref q11, .ref q15])), (q1, .inl (t2, 6, .inr (.inr (.inr (.inr f38))))), (q3, .inr (3, [w06, w17, w28, .int 0, .int ((-1)), .int ((-1)), .int ((-1))])), (q9, .inl (t10, 6, .inr (.inr (.inr (.inr f43))))), (q11, .inr (6, [v14, .int 0])), (q15, .inr (0, [.int 0, .ref d0, .int 0])), (q45, .inr (3, [.null, .null, .null, .int 0, .int 0, .int 0, .int 0]))] H := hP
  have hD : va_D A [(h0, .inr (4, [.int a1, .ref a2, .ref a3, .ref q1, .ref q3, .ref q9, .ref q11, .ref q15])), (q1, .inl (t2, 6, .inr (.inr (.inr (.inr f38))))), (q3, .inr (3, [w06, w17, w28, .int 0, .int ((-1)), .int ((-1)), .int ((-1))])), (q9, .inl (t10, 6, .inr (.inr (.inr (.inr f43))))), (q11, .inr (6, [v14, .int 0])), (q15, .inr (0, [.int 0, .ref d0, .int 0])), (q45, .inr (3, [.null, .null, .null, .int 0, .int 0, .int 0, .int 0]))] := hD
  refine W.widen (k := 22) (n := 661) (Nat.le_of_ble_eq_true rfl) (Nat.le_of_ble_eq_true rfl) ?_
  refine lv_dup hx hb dX3_init_89 rfl ?_
  have hPc := hP.sub (ws' := [(q45, .inr (3, [.null, .null, .null, .int 0, .int 0, .int 0, .int 0]))]) [6] rfl
  have hDc := hD.sub (ws' := [(q45, .inr (3, [.null, .null, .null, .int 0, .int 0, .int 0, .int 0]))]) [6] (by decide) rfl
  have hKc := hK.sub (tys' := []) [] rfl
  have hFc := va_free (wc := [(q45, .inr (3, [.null, .null, .null, .int 0, .int 0, .int 0, .int 0]))]) hD hS hA [6] rfl
  refine va_callv (va_runIN (As := []) (rest := [.ref q45, .int 2, .ref q1]) ⟨hx, hb, hml, hown, ht⟩ (k_X2_init l d0 cO dC dI H.size q45 .null .null .null 0 0 0 0) (my_NI ht M_X2_init q255 rfl q254 (Nat.le_of_ble_eq_true rfl) (Nat.le_of_ble_eq_true rfl)) ⟨PRE.fb, fun U hU hW => ⟨rfl, PRE.mk' hE hS hFc hPc hKc hDc U hU hW⟩⟩ rfl rfl hl.1 rfl (lv_room (Nat.le_of_ble_eq_true rfl)) dX3_init_90 ⟨(Nat.le_of_ble_eq_true rfl), (Nat.le_of_ble_eq_true rfl)⟩) hS (fun q _ h => hFc q h) hFc (fun u46 t H1 locs htt hvm hw hB hz1 hk1 hS => ?_)
  try dsimp only at hw hB
  obtain ⟨w048, w149, w250, hP1, hK1, hD1⟩ := hB
  rw [htt] at hP1
  have hK1 := va_K.moved hvm.symm hK1
  obtain ⟨hP, hD⟩ := va_join (wr := [(h0, .inr (4, [.int a1, .ref a2, .ref a3, .ref q1, .ref q3, .ref q9, .ref q11, .ref q15])), (q1, .inl (t2, 6, .inr (.inr (.inr (.inr f38))))), (q3, .inr (3, [w06, w17, w28, .int 0, .int ((-1)), .int ((-1)), .int ((-1))])), (q9, .inl (t10, 6, .inr (.inr (.inr (.inr f43))))), (q11, .inr (6, [v14, .int 0])), (q15, .inr (0, [.int 0, .ref d0, .int 0]))]) (w1 := [(q45, .inr (3, [w048, w149, w250, .int 0, .int ((-1)), .int ((-1)), .int ((-1))]))]) hP hD [6] [0, 1, 2, 3, 4, 5] rfl rfl (by decide) (by decide) hk1 hFc hP1 hD1
  have hK := (hK.sub (tys' := [(t2, .object RX2), (t10, .object RX5)]) [0, 1] rfl).app hK1
  generalize H1 = H at hP hS ⊢
  have hP : va_P (dC, dI) vwCl [(h0, .inr (4, [.int a1, .ref a2, .ref a3, .ref q1, .ref q3, .ref q9, .ref q11, .ref q15])), (q1, .inl (t2, 6, .inr (.inr (.inr (.inr f38))))), (q3, .inr (3, [w06, w17, w28, .int 0, .int ((-1)), .int ((-1)), .int ((-1))])), (q9, .inl (t10, 6, .inr (.inr (.inr (.inr f43))))), (q11, .inr (6, [v14, .int 0])), (q15, .inr (0, [.int 0, .ref d0, .int 0])), (q45, .inr (3, [w048, w149, w250, .int 0, .int ((-1)), .int ((-1)), .int ((-1))]))] H := hP
  have hD : va_D A [(h0, .inr (4, [.int a1, .ref a2, .ref a3, .ref q1, .ref q3, .ref q9, .ref q11, .ref q15])), (q1, .inl (t2, 6, .inr (.inr (.inr (.inr f38))))), (q3, .inr (3, [w06, w17, w28, .int 0, .int ((-1)), .int ((-1)), .int ((-1))])), (q9, .inl (t10, 6, .inr (.inr (.inr (.inr f43))))), (q11, .inr (6, [v14, .int 0])), (q15, .inr (0, [.int 0, .ref d0, .int 0])), (q45, .inr (3, [w048, w149, w250, .int 0, .int ((-1)), .int ((-1)), .int ((-1))]))] := hD
  have hK : va_K (dC, dI) vwCl [(t2, .object RX2), (t10, .object RX5)] s := hK
  refine W.widen (k := 26) (n := 865) (Nat.le_of_ble_eq_true rfl) (Nat.le_of_ble_eq_true rfl) ?_
  refine va_astq hx hb hK hP hD hS 1 0 6 3 rfl rfl rfl rfl (vp_in_nI (n := 2) (by decide) (by decide)) dX3_init_93 (fun H locs hP hD hS => ?_)
  have hP : va_P (dC, dI) vwCl [(h0, .inr (4, [.int a1, .ref a2, .ref a3, .ref q1, .ref q3, .ref q9, .ref q11, .ref q15])), (q1, .inl (t2, 6, .inr (.inr (.inr (.inr ((va_up f38 2 (some q45)))))))), (q3, .inr (3, [w06, w17, w28, .int 0, .int ((-1)), .int ((-1)), .int ((-1))])), (q9, .inl (t10, 6, .inr (.inr (.inr (.inr f43))))), (q11, .inr (6, [v14, .int 0])), (q15, .inr (0, [.int 0, .ref d0, .int 0])), (q45, .inr (3, [w048, w149, w250, .int 0, .int ((-1)), .int ((-1)), .int ((-1))]))] H := hP
  have hD : va_D A [(h0, .inr (4, [.int a1, .ref a2, .ref a3, .ref q1, .ref q3, .ref q9, .ref q11, .ref q15])), (q1, .inl (t2, 6, .inr (.inr (.inr (.inr ((va_up f38 2 (some q45)))))))), (q3, .inr (3, [w06, w17, w28, .int 0, .int ((-1)), .int ((-1)), .int ((-1))])), (q9, .inl (t10, 6, .inr (.inr (.inr (.inr f43))))), (q11, .inr (6, [v14, .int 0])), (q15, .inr (0, [.int 0, .ref d0, .int 0])), (q45, .inr (3, [w048, w149, w250, .int 0, .int ((-1)), .int ((-1)), .int ((-1))]))] := hD
  generalize (va_up f38 2 (some q45)) = f51 at hP hD
  have hP := hP.sub (ws' := [(h0, .inr (4, [.int a1, .ref a2, .ref a3, .ref q1, .ref q3, .ref q9, .ref q11, .ref q15])), (q1, .inl (t2, 6, .inr (.inr (.inr (.inr f51))))), (q3, .inr (3, [w06, w17, w28, .int 0, .int ((-1)), .int ((-1)), .int ((-1))])), (q9, .inl (t10, 6, .inr (.inr (.inr (.inr f43))))), (q11, .inr (6, [v14, .int 0])), (q15, .inr (0, [.int 0, .ref d0, .int 0]))]) [0, 1, 2, 3, 4, 5] rfl
  have hD := hD.sub (ws' := [(h0, .inr (4, [.int a1, .ref a2, .ref a3, .ref q1, .ref q3, .ref q9, .ref q11, .ref q15])), (q1, .inl (t2, 6, .inr (.inr (.inr (.inr f51))))), (q3, .inr (3, [w06, w17, w28, .int 0, .int ((-1)), .int ((-1)), .int ((-1))])), (q9, .inl (t10, 6, .inr (.inr (.inr (.inr f43))))), (q11, .inr (6, [v14, .int 0])), (q15, .inr (0, [.int 0, .ref d0, .int 0]))]) [0, 1, 2, 3, 4, 5] (by decide) rfl
  refine lv_aload_n hx hb dX3_init_94 rfl (lv_at hl 1 rfl) ?_
  refine va_get (D := (dC, dI)) (ci := 4) (v := .ref q9) (C := RX3) (T := TX3) (N := 8) hx hb ht inGX3 hown hK hP 0 rfl rfl 5 (by decide) (ht _ q317) (fun _ h9 => h9) rfl dX3_init_95 ?_
  refine lv_iload hx hb dX3_init_98 (lv_at hl 0 rfl) ?_
  refine va_new (ci := 6) (fs := [.null, .int 0]) (C := RX5) (T := TX5) (N := 2) hx hb ht inGX5 tyX5 tyX5_ok hown (ht _ q295) (ht _ q297) (ht _ q132) hK hP hD hS hA rfl (fun j hj => by rcases (show j = 0 ∨ j = 1 by omega) with rfl | rfl <;> rfl) (Nat.le_of_ble_eq_true rfl) (Nat.le_of_ble_eq_true rfl) dX3_init_100 (fun q52 H hP hD hS => ?_)
  have hP : va_P (dC, dI) vwCl [(h0, .inr (4, [.int a1, .ref a2, .ref a3, .ref q1, .ref q3, .ref q9, .ref q11, .ref q15])), (q1, .inl (t2, 6, .inr (.inr (.inr (.inr f51))))), (q3, .inr (3, [w06, w17, w28, .int 0, .int ((-1)), .int ((-1)), .int ((-1))])), (q9, .inl (t10, 6, .inr (.inr (.inr (.inr f43))))), (q11, .inr (6, [v14, .int 0])), (q15, .inr (0, [.int 0, .ref d0, .int 0])), (q52, .inr (6, [.null, .int 0]))] H := hP
  have hD : va_D A [(h0, .inr (4, [.int a1, .ref a2, .ref a3, .ref q1, .ref q3, .ref q9, .ref q11, .ref q15])), (q1, .inl (t2, 6, .inr (.inr (.inr (.inr f51))))), (q3, .inr (3, [w06, w17, w28, .int 0, .int ((-1)), .int ((-1)), .int ((-1))])), (q9, .inl (t10, 6, .inr (.inr (.inr (.inr f43))))), (q11, .inr (6, [v14, .int 0])), (q15, .inr (0, [.int 0, .ref d0, .int 0])), (q52, .inr (6, [.null, .int 0]))] := hD
  refine W.widen (k := 27) (n := 867) (Nat.le_of_ble_eq_true rfl) (Nat.le_of_ble_eq_true rfl) ?_
  refine lv_dup hx hb dX3_init_103 rfl ?_
  have hPc := hP.sub (ws' := [(q52, .inr (6, [.null, .int 0]))]) [6] rfl
  have hDc := hD.sub (ws' := [(q52, .inr (6, [.null, .int 0]))]) [6] (by decide) rfl
  have hKc := hK.sub (tys' := []) [] rfl
  have hFc := va_free (wc := [(q52, .inr (6, [.null, .int 0]))]) hD hS hA [6] rfl
  refine va_callv (va_runIN (As := []) (rest := [.ref q52, .int 2, .ref q9]) ⟨hx, hb, hml, hown, ht⟩ (k_X5_init l d0 cO dC dI H.size q52 .null 0) (my_NI ht M_X5_init q299 rfl q298 (Nat.le_of_ble_eq_true rfl) (Nat.le_of_ble_eq_true rfl)) ⟨PRE.fb, fun U hU hW => ⟨rfl, PRE.mk' hE hS hFc hPc hKc hDc U hU hW⟩⟩ rfl rfl hl.1 rfl (lv_room (Nat.le_of_ble_eq_true rfl)) dX3_init_104 ⟨(Nat.le_of_ble_eq_true rfl), (Nat.le_of_ble_eq_true rfl)⟩) hS (fun q _ h => hFc q h) hFc (fun u53 t H1 locs htt hvm hw hB hz1 hk1 hS => ?_)
  try dsimp only at hw hB
  obtain ⟨v55, hP1, hK1, hD1⟩ := hB
  rw [htt] at hP1
  have hK1 := va_K.moved hvm.symm hK1
  obtain ⟨hP, hD⟩ := va_join (wr := [(h0, .inr (4, [.int a1, .ref a2, .ref a3, .ref q1, .ref q3, .ref q9, .ref q11, .ref q15])), (q1, .inl (t2, 6, .inr (.inr (.inr (.inr f51))))), (q3, .inr (3, [w06, w17, w28, .int 0, .int ((-1)), .int ((-1)), .int ((-1))])), (q9, .inl (t10, 6, .inr (.inr (.inr (.inr f43))))), (q11, .inr (6, [v14, .int 0])), (q15, .inr (0, [.int 0, .ref d0, .int 0]))]) (w1 := [(q52, .inr (6, [v55, .int 0]))]) hP hD [6] [0, 1, 2, 3, 4, 5] rfl rfl (by decide) (by decide) hk1 hFc hP1 hD1
  have hK := (hK.sub (tys' := [(t2, .object RX2), (t10, .object RX5)]) [0, 1] rfl).app hK1
  generalize H1 = H at hP hS ⊢
  have hP : va_P (dC, dI) vwCl [(h0, .inr (4, [.int a1, .ref a2, .ref a3, .ref q1, .ref q3, .ref q9, .ref q11, .ref q15])), (q1, .inl (t2, 6, .inr (.inr (.inr (.inr f51))))), (q3, .inr (3, [w06, w17, w28, .int 0, .int ((-1)), .int ((-1)), .int ((-1))])), (q9, .inl (t10, 6, .inr (.inr (.inr (.inr f43))))), (q11, .inr (6, [v14, .int 0])), (q15, .inr (0, [.int 0, .ref d0, .int 0])), (q52, .inr (6, [v55, .int 0]))] H := hP
  have hD : va_D A [(h0, .inr (4, [.int a1, .ref a2, .ref a3, .ref q1, .ref q3, .ref q9, .ref q11, .ref q15])), (q1, .inl (t2, 6, .inr (.inr (.inr (.inr f51))))), (q3, .inr (3, [w06, w17, w28, .int 0, .int ((-1)), .int ((-1)), .int ((-1))])), (q9, .inl (t10, 6, .inr (.inr (.inr (.inr f43))))), (q11, .inr (6, [v14, .int 0])), (q15, .inr (0, [.int 0, .ref d0, .int 0])), (q52, .inr (6, [v55, .int 0]))] := hD
  have hK : va_K (dC, dI) vwCl [(t2, .object RX2), (t10, .object RX5)] s := hK
  refine W.widen (k := 27) (n := 867) (Nat.le_of_ble_eq_true rfl) (Nat.le_of_ble_eq_true rfl) ?_
  refine va_astq hx hb hK hP hD hS 3 1 6 6 rfl rfl rfl rfl (vp_in_nI (n := 2) (by decide) (by decide)) dX3_init_107 (fun H locs hP hD hS => ?_)
  have hP : va_P (dC, dI) vwCl [(h0, .inr (4, [.int a1, .ref a2, .ref a3, .ref q1, .ref q3, .ref q9, .ref q11, .ref q15])), (q1, .inl (t2, 6, .inr (.inr (.inr (.inr f51))))), (q3, .inr (3, [w06, w17, w28, .int 0, .int ((-1)), .int ((-1)), .int ((-1))])), (q9, .inl (t10, 6, .inr (.inr (.inr (.inr ((va_up f43 2 (some q52)))))))), (q11, .inr (6, [v14, .int 0])), (q15, .inr (0, [.int 0, .ref d0, .int 0])), (q52, .inr (6, [v55, .int 0]))] H := hP
  have hD : va_D A [(h0, .inr (4, [.int a1, .ref a2, .ref a3, .ref q1, .ref q3, .ref q9, .ref q11, .ref q15])), (q1, .inl (t2, 6, .inr (.inr (.inr (.inr f51))))), (q3, .inr (3, [w06, w17, w28, .int 0, .int ((-1)), .int ((-1)), .int ((-1))])), (q9, .inl (t10, 6, .inr (.inr (.inr (.inr ((va_up f43 2 (some q52)))))))), (q11, .inr (6, [v14, .int 0])), (q15, .inr (0, [.int 0, .ref d0, .int 0])), (q52, .inr (6, [v55, .int 0]))] := hD
  generalize (va_up f43 2 (some q52)) = f56 at hP hD
  have hP := hP.sub (ws' := [(h0, .inr (4, [.int a1, .ref a2, .ref a3, .ref q1, .ref q3, .ref q9, .ref q11, .ref q15])), (q1, .inl (t2, 6, .inr (.inr (.inr (.inr f51))))), (q3, .inr (3, [w06, w17, w28, .int 0, .int ((-1)), .int ((-1)), .int ((-1))])), (q9, .inl (t10, 6, .inr (.inr (.inr (.inr f56))))), (q11, .inr (6, [v14, .int 0])), (q15, .inr (0, [.int 0, .ref d0, .int 0]))]) [0, 1, 2, 3, 4, 5] rfl
  have hD := hD.sub (ws' := [(h0, .inr (4, [.int a1, .ref a2, .ref a3, .ref q1, .ref q3, .ref q9, .ref q11, .ref q15])), (q1, .inl (t2, 6, .inr (.inr (.inr (.inr f51))))), (q3, .inr (3, [w06, w17, w28, .int 0, .int ((-1)), .int ((-1)), .int ((-1))])), (q9, .inl (t10, 6, .inr (.inr (.inr (.inr f56))))), (q11, .inr (6, [v14, .int 0])), (q15, .inr (0, [.int 0, .ref d0, .int 0]))]) [0, 1, 2, 3, 4, 5] (by decide) rfl
  refine lv_iinc (v := 3) (lv' := [(4, .int 3), (0, .ref h0), (1, .int a1), (2, .ref a2), (3, .ref a3)]) hx hb dX3_init_108 hl (k := 0) rfl (by decide) (by decide) rfl (fun ls hl => ?_)
  refine lv_goto (tgt := 73) hx hb dX3_init_111 (by decide) ?_
  refine lv_iload hx hb dX3_init_73 (lv_at hl 0 rfl) ?_
  refine lv_bipush (v := 6) hx hb dX3_init_75 (by decide) ?_
  refine lv_icmp_ge (tgt := 114) hx hb dX3_init_77 (by decide) (fun c57 => absurd c57 (by decide)) (fun c57 => ?_)
  refine lv_aload_n hx hb dX3_init_80 rfl (lv_at hl 1 rfl) ?_
  refine va_get (D := (dC, dI)) (ci := 4) (v := .ref q1) (C := RX3) (T := TX3) (N := 8) hx hb ht inGX3 hown hK hP 0 rfl rfl 3 (by decide) (ht _ q315) (fun _ h9 => h9) rfl dX3_init_81 ?_
  refine lv_iload hx hb dX3_init_84 (lv_at hl 0 rfl) ?_
  refine va_new (ci := 3) (fs := [.null, .null, .null, .int 0, .int 0, .int 0, .int 0]) (C := RX2) (T := TX2) (N := 7) hx hb ht inGX2 tyX2 tyX2_ok hown (ht _ q251) (ht _ q253) (ht _ q131) hK hP hD hS hA rfl (fun j hj => by rcases (show j = 0 ∨ j = 1 ∨ j = 2 ∨ j = 3 ∨ j = 4 ∨ j = 5 ∨ j = 6 by omega) with rfl | rfl | rfl | rfl | rfl | rfl | rfl <;> rfl) (Nat.le_of_ble_eq_true rfl) (Nat.le_of_ble_eq_true rfl) dX3_init_86 (fun q58 H hP hD hS => ?_)
  have hP : va_P (dC, dI) vwCl [(h0, .inr (4, [.int a1, .ref a2, .ref a3, .ref q1, .ref q3, .ref q9, .ref q11, .ref q15])), (q1, .inl (t2, 6, .inr (.inr (.inr (.inr f51))))), (q3, .inr (3, [w06, w17, w28, .int 0, .int ((-1)), .int ((-1)), .int ((-1))])), (q9, .inl (t10, 6, .inr (.inr (.inr (.inr f56))))), (q11, .inr (6, [v14, .int 0])), (q15, .inr (0, [.int 0, .ref d0, .int 0])), (q58, .inr (3, [.null, .null, .null, .int 0, .int 0, .int 0, .int 0]))] H := hP
  have hD : va_D A [(h0, .inr (4, [.int a1, .ref a2, .ref a3, .ref q1, .ref q3, .ref q9, .ref q11, .ref q15])), (q1, .inl (t2, 6, .inr (.inr (.inr (.inr f51))))), (q3, .inr (3, [w06, w17, w28, .int 0, .int ((-1)), .int ((-1)), .int ((-1))])), (q9, .inl (t10, 6, .inr (.inr (.inr (.inr f56))))), (q11, .inr (6, [v14, .int 0])), (q15, .inr (0, [.int 0, .ref d0, .int 0])), (q58, .inr (3, [.null, .null, .null, .int 0, .int 0, .int 0, .int 0]))] := hD
  refine W.widen (k := 28) (n := 874) (Nat.le_of_ble_eq_true rfl) (Nat.le_of_ble_eq_true rfl) ?_
  refine lv_dup hx hb dX3_init_89 rfl ?_
  have hPc := hP.sub (ws' := [(q58, .inr (3, [.null, .null, .null, .int 0, .int 0, .int 0, .int 0]))]) [6] rfl
  have hDc := hD.sub (ws' := [(q58, .inr (3, [.null, .null, .null, .int 0, .int 0, .int 0, .int 0]))]) [6] (by decide) rfl
  have hKc := hK.sub (tys' := []) [] rfl
  have hFc := va_free (wc := [(q58, .inr (3, [.null, .null, .null, .int 0, .int 0, .int 0, .int 0]))]) hD hS hA [6] rfl
  refine va_callv (va_runIN (As := []) (rest := [.ref q58, .int 3, .ref q1]) ⟨hx, hb, hml, hown, ht⟩ (k_X2_init l d0 cO dC dI H.size q58 .null .null .null 0 0 0 0) (my_NI ht M_X2_init q255 rfl q254 (Nat.le_of_ble_eq_true rfl) (Nat.le_of_ble_eq_true rfl)) ⟨PRE.fb, fun U hU hW => ⟨rfl, PRE.mk' hE hS hFc hPc hKc hDc U hU hW⟩⟩ rfl rfl hl.1 rfl (lv_room (Nat.le_of_ble_eq_true rfl)) dX3_init_90 ⟨(Nat.le_of_ble_eq_true rfl), (Nat.le_of_ble_eq_true rfl)⟩) hS (fun q _ h => hFc q h) hFc (fun u59 t H1 locs htt hvm hw hB hz1 hk1 hS => ?_)
  try dsimp only at hw hB
  obtain ⟨w061, w162, w263, hP1, hK1, hD1⟩ := hB
  rw [htt] at hP1
  have hK1 := va_K.moved hvm.symm hK1
  obtain ⟨hP, hD⟩ := va_join (wr := [(h0, .inr (4, [.int a1, .ref a2, .ref a3, .ref q1, .ref q3, .ref q9, .ref q11, .ref q15])), (q1, .inl (t2, 6, .inr (.inr (.inr (.inr f51))))), (q3, .inr (3, [w06, w17, w28, .int 0, .int ((-1)), .int ((-1)), .int ((-1))])), (q9, .inl (t10, 6, .inr (.inr (.inr (.inr f56))))), (q11, .inr (6, [v14, .int 0])), (q15, .inr (0, [.int 0, .ref d0, .int 0]))]) (w1 := [(q58, .inr (3, [w061, w162, w263, .int 0, .int ((-1)), .int ((-1)), .int ((-1))]))]) hP hD [6] [0, 1, 2, 3, 4, 5] rfl rfl (by decide) (by decide) hk1 hFc hP1 hD1
  have hK := (hK.sub (tys' := [(t2, .object RX2), (t10, .object RX5)]) [0, 1] rfl).app hK1
  generalize H1 = H at hP hS ⊢
  have hP : va_P (dC, dI) vwCl [(h0, .inr (4, [.int a1, .ref a2, .ref a3, .ref q1, .ref q3, .ref q9, .ref q11, .ref q15])), (q1, .inl (t2, 6, .inr (.inr (.inr (.inr f51))))), (q3, .inr (3, [w06, w17, w28, .int 0, .int ((-1)), .int ((-1)), .int ((-1))])), (q9, .inl (t10, 6, .inr (.inr (.inr (.inr f56))))), (q11, .inr (6, [v14, .int 0])), (q15, .inr (0, [.int 0, .ref d0, .int 0])), (q58, .inr (3, [w061, w162, w263, .int 0, .int ((-1)), .int ((-1)), .int ((-1))]))] H := hP
  have hD : va_D A [(h0, .inr (4, [.int a1, .ref a2, .ref a3, .ref q1, .ref q3, .ref q9, .ref q11, .ref q15])), (q1, .inl (t2, 6, .inr (.inr (.inr (.inr f51))))), (q3, .inr (3, [w06, w17, w28, .int 0, .int ((-1)), .int ((-1)), .int ((-1))])), (q9, .inl (t10, 6, .inr (.inr (.inr (.inr f56))))), (q11, .inr (6, [v14, .int 0])), (q15, .inr (0, [.int 0, .ref d0, .int 0])), (q58, .inr (3, [w061, w162, w263, .int 0, .int ((-1)), .int ((-1)), .int ((-1))]))] := hD
  have hK : va_K (dC, dI) vwCl [(t2, .object RX2), (t10, .object RX5)] s := hK
  refine W.widen (k := 32) (n := 1078) (Nat.le_of_ble_eq_true rfl) (Nat.le_of_ble_eq_true rfl) ?_
  refine va_astq hx hb hK hP hD hS 1 0 6 3 rfl rfl rfl rfl (vp_in_nI (n := 3) (by decide) (by decide)) dX3_init_93 (fun H locs hP hD hS => ?_)
  have hP : va_P (dC, dI) vwCl [(h0, .inr (4, [.int a1, .ref a2, .ref a3, .ref q1, .ref q3, .ref q9, .ref q11, .ref q15])), (q1, .inl (t2, 6, .inr (.inr (.inr (.inr ((va_up f51 3 (some q58)))))))), (q3, .inr (3, [w06, w17, w28, .int 0, .int ((-1)), .int ((-1)), .int ((-1))])), (q9, .inl (t10, 6, .inr (.inr (.inr (.inr f56))))), (q11, .inr (6, [v14, .int 0])), (q15, .inr (0, [.int 0, .ref d0, .int 0])), (q58, .inr (3, [w061, w162, w263, .int 0, .int ((-1)), .int ((-1)), .int ((-1))]))] H := hP
  have hD : va_D A [(h0, .inr (4, [.int a1, .ref a2, .ref a3, .ref q1, .ref q3, .ref q9, .ref q11, .ref q15])), (q1, .inl (t2, 6, .inr (.inr (.inr (.inr ((va_up f51 3 (some q58)))))))), (q3, .inr (3, [w06, w17, w28, .int 0, .int ((-1)), .int ((-1)), .int ((-1))])), (q9, .inl (t10, 6, .inr (.inr (.inr (.inr f56))))), (q11, .inr (6, [v14, .int 0])), (q15, .inr (0, [.int 0, .ref d0, .int 0])), (q58, .inr (3, [w061, w162, w263, .int 0, .int ((-1)), .int ((-1)), .int ((-1))]))] := hD
  generalize (va_up f51 3 (some q58)) = f64 at hP hD
  have hP := hP.sub (ws' := [(h0, .inr (4, [.int a1, .ref a2, .ref a3, .ref q1, .ref q3, .ref q9, .ref q11, .ref q15])), (q1, .inl (t2, 6, .inr (.inr (.inr (.inr f64))))), (q3, .inr (3, [w06, w17, w28, .int 0, .int ((-1)), .int ((-1)), .int ((-1))])), (q9, .inl (t10, 6, .inr (.inr (.inr (.inr f56))))), (q11, .inr (6, [v14, .int 0])), (q15, .inr (0, [.int 0, .ref d0, .int 0]))]) [0, 1, 2, 3, 4, 5] rfl
  have hD := hD.sub (ws' := [(h0, .inr (4, [.int a1, .ref a2, .ref a3, .ref q1, .ref q3, .ref q9, .ref q11, .ref q15])), (q1, .inl (t2, 6, .inr (.inr (.inr (.inr f64))))), (q3, .inr (3, [w06, w17, w28, .int 0, .int ((-1)), .int ((-1)), .int ((-1))])), (q9, .inl (t10, 6, .inr (.inr (.inr (.inr f56))))), (q11, .inr (6, [v14, .int 0])), (q15, .inr (0, [.int 0, .ref d0, .int 0]))]) [0, 1, 2, 3, 4, 5] (by decide) rfl
  refine lv_aload_n hx hb dX3_init_94 rfl (lv_at hl 1 rfl) ?_
  refine va_get (D := (dC, dI)) (ci := 4) (v := .ref q9) (C := RX3) (T := TX3) (N := 8) hx hb ht inGX3 hown hK hP 0 rfl rfl 5 (by decide) (ht _ q317) (fun _ h9 => h9) rfl dX3_init_95 ?_
  refine lv_iload hx hb dX3_init_98 (lv_at hl 0 rfl) ?_
  refine va_new (ci := 6) (fs := [.null, .int 0]) (C := RX5) (T := TX5) (N := 2) hx hb ht inGX5 tyX5 tyX5_ok hown (ht _ q295) (ht _ q297) (ht _ q132) hK hP hD hS hA rfl (fun j hj => by rcases (show j = 0 ∨ j = 1 by omega) with rfl | rfl <;> rfl) (Nat.le_of_ble_eq_true rfl) (Nat.le_of_ble_eq_true rfl) dX3_init_100 (fun q65 H hP hD hS => ?_)
  have hP : va_P (dC, dI) vwCl [(h0, .inr (4, [.int a1, .ref a2, .ref a3, .ref q1, .ref q3, .ref q9, .ref q11, .ref q15])), (q1, .inl (t2, 6, .inr (.inr (.inr (.inr f64))))), (q3, .inr (3, [w06, w17, w28, .int 0, .int ((-1)), .int ((-1)), .int ((-1))])), (q9, .inl (t10, 6, .inr (.inr (.inr (.inr f56))))), (q11, .inr (6, [v14, .int 0])), (q15, .inr (0, [.int 0, .ref d0, .int 0])), (q65, .inr (6, [.null, .int 0]))] H := hP
  have hD : va_D A [(h0, .inr (4, [.int a1, .ref a2, .ref a3, .ref q1, .ref q3, .ref q9, .ref q11, .ref q15])), (q1, .inl (t2, 6, .inr (.inr (.inr (.inr f64))))), (q3, .inr (3, [w06, w17, w28, .int 0, .int ((-1)), .int ((-1)), .int ((-1))])), (q9, .inl (t10, 6, .inr (.inr (.inr (.inr f56))))), (q11, .inr (6, [v14, .int 0])), (q15, .inr (0, [.int 0, .ref d0, .int 0])), (q65, .inr (6, [.null, .int 0]))] := hD
  refine W.widen (k := 33) (n := 1080) (Nat.le_of_ble_eq_true rfl) (Nat.le_of_ble_eq_true rfl) ?_
  refine lv_dup hx hb dX3_init_103 rfl ?_
  have hPc := hP.sub (ws' := [(q65, .inr (6, [.null, .int 0]))]) [6] rfl
  have hDc := hD.sub (ws' := [(q65, .inr (6, [.null, .int 0]))]) [6] (by decide) rfl
  have hKc := hK.sub (tys' := []) [] rfl
  have hFc := va_free (wc := [(q65, .inr (6, [.null, .int 0]))]) hD hS hA [6] rfl
  refine va_callv (va_runIN (As := []) (rest := [.ref q65, .int 3, .ref q9]) ⟨hx, hb, hml, hown, ht⟩ (k_X5_init l d0 cO dC dI H.size q65 .null 0) (my_NI ht M_X5_init q299 rfl q298 (Nat.le_of_ble_eq_true rfl) (Nat.le_of_ble_eq_true rfl)) ⟨PRE.fb, fun U hU hW => ⟨rfl, PRE.mk' hE hS hFc hPc hKc hDc U hU hW⟩⟩ rfl rfl hl.1 rfl (lv_room (Nat.le_of_ble_eq_true rfl)) dX3_init_104 ⟨(Nat.le_of_ble_eq_true rfl), (Nat.le_of_ble_eq_true rfl)⟩) hS (fun q _ h => hFc q h) hFc (fun u66 t H1 locs htt hvm hw hB hz1 hk1 hS => ?_)
  try dsimp only at hw hB
  obtain ⟨v68, hP1, hK1, hD1⟩ := hB
  rw [htt] at hP1
  have hK1 := va_K.moved hvm.symm hK1
  obtain ⟨hP, hD⟩ := va_join (wr := [(h0, .inr (4, [.int a1, .ref a2, .ref a3, .ref q1, .ref q3, .ref q9, .ref q11, .ref q15])), (q1, .inl (t2, 6, .inr (.inr (.inr (.inr f64))))), (q3, .inr (3, [w06, w17, w28, .int 0, .int ((-1)), .int ((-1)), .int ((-1))])), (q9, .inl (t10, 6, .inr (.inr (.inr (.inr f56))))), (q11, .inr (6, [v14, .int 0])), (q15, .inr (0, [.int 0, .ref d0, .int 0]))]) (w1 := [(q65, .inr (6, [v68, .int 0]))]) hP hD [6] [0, 1, 2, 3, 4, 5] rfl rfl (by decide) (by decide) hk1 hFc hP1 hD1
  have hK := (hK.sub (tys' := [(t2, .object RX2), (t10, .object RX5)]) [0, 1] rfl).app hK1
  generalize H1 = H at hP hS ⊢
  have hP : va_P (dC, dI) vwCl [(h0, .inr (4, [.int a1, .ref a2, .ref a3, .ref q1, .ref q3, .ref q9, .ref q11, .ref q15])), (q1, .inl (t2, 6, .inr (.inr (.inr (.inr f64))))), (q3, .inr (3, [w06, w17, w28, .int 0, .int ((-1)), .int ((-1)), .int ((-1))])), (q9, .inl (t10, 6, .inr (.inr (.inr (.inr f56))))), (q11, .inr (6, [v14, .int 0])), (q15, .inr (0, [.int 0, .ref d0, .int 0])), (q65, .inr (6, [v68, .int 0]))] H := hP
  have hD : va_D A [(h0, .inr (4, [.int a1, .ref a2, .ref a3, .ref q1, .ref q3, .ref q9, .ref q11, .ref q15])), (q1, .inl (t2, 6, .inr (.inr (.inr (.inr f64))))), (q3, .inr (3, [w06, w17, w28, .int 0, .int ((-1)), .int ((-1)), .int ((-1))])), (q9, .inl (t10, 6, .inr (.inr (.inr (.inr f56))))), (q11, .inr (6, [v14, .int 0])), (q15, .inr (0, [.int 0, .ref d0, .int 0])), (q65, .inr (6, [v68, .int 0]))] := hD
  have hK : va_K (dC, dI) vwCl [(t2, .object RX2), (t10, .object RX5)] s := hK
  refine W.widen (k := 33) (n := 1080) (Nat.le_of_ble_eq_true rfl) (Nat.le_of_ble_eq_true rfl) ?_
  refine va_astq hx hb hK hP hD hS 3 1 6 6 rfl rfl rfl rfl (vp_in_nI (n := 3) (by decide) (by decide)) dX3_init_107 (fun H locs hP hD hS => ?_)
  have hP : va_P (dC, dI) vwCl [(h0, .inr (4, [.int a1, .ref a2, .ref a3, .ref q1, .ref q3, .ref q9, .ref q11, .ref q15])), (q1, .inl (t2, 6, .inr (.inr (.inr (.inr f64))))), (q3, .inr (3, [w06, w17, w28, .int 0, .int ((-1)), .int ((-1)), .int ((-1))])), (q9, .inl (t10, 6, .inr (.inr (.inr (.inr ((va_up f56 3 (some q65)))))))), (q11, .inr (6, [v14, .int 0])), (q15, .inr (0, [.int 0, .ref d0, .int 0])), (q65, .inr (6, [v68, .int 0]))] H := hP
  have hD : va_D A [(h0, .inr (4, [.int a1, .ref a2, .ref a3, .ref q1, .ref q3, .ref q9, .ref q11, .ref q15])), (q1, .inl (t2, 6, .inr (.inr (.inr (.inr f64))))), (q3, .inr (3, [w06, w17, w28, .int 0, .int ((-1)), .int ((-1)), .int ((-1))])), (q9, .inl (t10, 6, .inr (.inr (.inr (.inr ((va_up f56 3 (some q65)))))))), (q11, .inr (6, [v14, .int 0])), (q15, .inr (0, [.int 0, .ref d0, .int 0])), (q65, .inr (6, [v68, .int 0]))] := hD
  generalize (va_up f56 3 (some q65)) = f69 at hP hD
  have hP := hP.sub (ws' := [(h0, .inr (4, [.int a1, .ref a2, .ref a3, .ref q1, .ref q3, .ref q9, .ref q11, .ref q15])), (q1, .inl (t2, 6, .inr (.inr (.inr (.inr f64))))), (q3, .inr (3, [w06, w17, w28, .int 0, .int ((-1)), .int ((-1)), .int ((-1))])), (q9, .inl (t10, 6, .inr (.inr (.inr (.inr f69))))), (q11, .inr (6, [v14, .int 0])), (q15, .inr (0, [.int 0, .ref d0, .int 0]))]) [0, 1, 2, 3, 4, 5] rfl
  have hD := hD.sub (ws' := [(h0, .inr (4, [.int a1, .ref a2, .ref a3, .ref q1, .ref q3, .ref q9, .ref q11, .ref q15])), (q1, .inl (t2, 6, .inr (.inr (.inr (.inr f64))))), (q3, .inr (3, [w06, w17, w28, .int 0, .int ((-1)), .int ((-1)), .int ((-1))])), (q9, .inl (t10, 6, .inr (.inr (.inr (.inr f69))))), (q11, .inr (6, [v14, .int 0])), (q15, .inr (0, [.int 0, .ref d0, .int 0]))]) [0, 1, 2, 3, 4, 5] (by decide) rfl
  refine lv_iinc (v := 4) (lv' := [(4, .int 4), (0, .ref h0), (1, .int a1), (2, .ref a2), (3, .ref a3)]) hx hb dX3_init_108 hl (k := 0) rfl (by decide) (by decide) rfl (fun ls hl => ?_)
  refine lv_goto (tgt := 73) hx hb dX3_init_111 (by decide) ?_
  refine lv_iload hx hb dX3_init_73 (lv_at hl 0 rfl) ?_
  refine lv_bipush (v := 6) hx hb dX3_init_75 (by decide) ?_
  refine lv_icmp_ge (tgt := 114) hx hb dX3_init_77 (by decide) (fun c70 => absurd c70 (by decide)) (fun c70 => ?_)
  refine lv_aload_n hx hb dX3_init_80 rfl (lv_at hl 1 rfl) ?_
  refine va_get (D := (dC, dI)) (ci := 4) (v := .ref q1) (C := RX3) (T := TX3) (N := 8) hx hb ht inGX3 hown hK hP 0 rfl rfl 3 (by decide) (ht _ q315) (fun _ h9 => h9) rfl dX3_init_81 ?_
  refine lv_iload hx hb dX3_init_84 (lv_at hl 0 rfl) ?_
  refine va_new (ci := 3) (fs := [.null, .null, .null, .int 0, .int 0, .int 0, .int 0]) (C := RX2) (T := TX2) (N := 7) hx hb ht inGX2 tyX2 tyX2_ok hown (ht _ q251) (ht _ q253) (ht _ q131) hK hP hD hS hA rfl (fun j hj => by rcases (show j = 0 ∨ j = 1 ∨ j = 2 ∨ j = 3 ∨ j = 4 ∨ j = 5 ∨ j = 6 by omega) with rfl | rfl | rfl | rfl | rfl | rfl | rfl <;> rfl) (Nat.le_of_ble_eq_true rfl) (Nat.le_of_ble_eq_true rfl) dX3_init_86 (fun q71 H hP hD hS => ?_)
  have hP : va_P (dC, dI) vwCl [(h0, .inr (4, [.int a1, .ref a2, .ref a3, .ref q1, .ref q3, .ref q9, .ref q11, .ref q15])), (q1, .inl (t2, 6, .inr (.inr (.inr (.inr f64))))), (q3, .inr (3, [w06, w17, w28, .int 0, .int ((-1)), .int ((-1)), .int ((-1))])), (q9, .inl (t10, 6, .inr (.inr (.inr (.inr f69))))), (q11, .inr (6, [v14, .int 0])), (q15, .inr (0, [.int 0, .ref d0, .int 0])), (q71, .inr (3, [.null, .null, .null, .int 0, .int 0, .int 0, .int 0]))] H := hP
  have hD : va_D A [(h0, .inr (4, [.int a1, .ref a2, .ref a3, .ref q1, .ref q3, .ref q9, .ref q11, .ref q15])), (q1, .inl (t2, 6, .inr (.inr (.inr (.inr f64))))), (q3, .inr (3, [w06, w17, w28, .int 0, .int ((-1)), .int ((-1)), .int ((-1))])), (q9, .inl (t10, 6, .inr (.inr (.inr (.inr f69))))), (q11, .inr (6, [v14, .int 0])), (q15, .inr (0, [.int 0, .ref d0, .int 0])), (q71, .inr (3, [.null, .null, .null, .int 0, .int 0, .int 0, .int 0]))] := hD
  refine W.widen (k := 34) (n := 1087) (Nat.le_of_ble_eq_true rfl) (Nat.le_of_ble_eq_true rfl) ?_
  refine lv_dup hx hb dX3_init_89 rfl ?_
  have hPc := hP.sub (ws' := [(q71, .inr (3, [.null, .null, .null, .int 0, .int 0, .int 0, .int 0]))]) [6] rfl
  have hDc := hD.sub (ws' := [(q71, .inr (3, [.null, .null, .null, .int 0, .int 0, .int 0, .int 0]))]) [6] (by decide) rfl
  have hKc := hK.sub (tys' := []) [] rfl
  have hFc := va_free (wc := [(q71, .inr (3, [.null, .null, .null, .int 0, .int 0, .int 0, .int 0]))]) hD hS hA [6] rfl
  refine va_callv (va_runIN (As := []) (rest := [.ref q71, .int 4, .ref q1]) ⟨hx, hb, hml, hown, ht⟩ (k_X2_init l d0 cO dC dI H.size q71 .null .null .null 0 0 0 0) (my_NI ht M_X2_init q255 rfl q254 (Nat.le_of_ble_eq_true rfl) (Nat.le_of_ble_eq_true rfl)) ⟨PRE.fb, fun U hU hW => ⟨rfl, PRE.mk' hE hS hFc hPc hKc hDc U hU hW⟩⟩ rfl rfl hl.1 rfl (lv_room (Nat.le_of_ble_eq_true rfl)) dX3_init_90 ⟨(Nat.le_of_ble_eq_true rfl), (Nat.le_of_ble_eq_true rfl)⟩) hS (fun q _ h => hFc q h) hFc (fun u72 t H1 locs htt hvm hw hB hz1 hk1 hS => ?_)
  try dsimp only at hw hB
  obtain ⟨w074, w175, w276, hP1, hK1, hD1⟩ := hB
  rw [htt] at hP1
  have hK1 := va_K.moved hvm.symm hK1
  obtain ⟨hP, hD⟩ := va_join (wr := [(h0, .inr (4, [.int a1, .ref a2, .ref a3, .ref q1, .ref q3, .ref q9, .ref q11, .ref q15])), (q1, .inl (t2, 6, .inr (.inr (.inr (.inr f64))))), (q3, .inr (3, [w06, w17, w28, .int 0, .int ((-1)), .int ((-1)), .int ((-1))])), (q9, .inl (t10, 6, .inr (.inr (.inr (.inr f69))))), (q11, .inr (6, [v14, .int 0])), (q15, .inr (0, [.int 0, .ref d0, .int 0]))]) (w1 := [(q71, .inr (3, [w074, w175, w276, .int 0, .int ((-1)), .int ((-1)), .int ((-1))]))]) hP hD [6] [0, 1, 2, 3, 4, 5] rfl rfl (by decide) (by decide) hk1 hFc hP1 hD1
  have hK := (hK.sub (tys' := [(t2, .object RX2), (t10, .object RX5)]) [0, 1] rfl).app hK1
  generalize H1 = H at hP hS ⊢
  have hP : va_P (dC, dI) vwCl [(h0, .inr (4, [.int a1, .ref a2, .ref a3, .ref q1, .ref q3, .ref q9, .ref q11, .ref q15])), (q1, .inl (t2, 6, .inr (.inr (.inr (.inr f64))))), (q3, .inr (3, [w06, w17, w28, .int 0, .int ((-1)), .int ((-1)), .int ((-1))])), (q9, .inl (t10, 6, .inr (.inr (.inr (.inr f69))))), (q11, .inr (6, [v14, .int 0])), (q15, .inr (0, [.int 0, .ref d0, .int 0])), (q71, .inr (3, [w074, w175, w276, .int 0, .int ((-1)), .int ((-1)), .int ((-1))]))] H := hP
  have hD : va_D A [(h0, .inr (4, [.int a1, .ref a2, .ref a3, .ref q1, .ref q3, .ref q9, .ref q11, .ref q15])), (q1, .inl (t2, 6, .inr (.inr (.inr (.inr f64))))), (q3, .inr (3, [w06, w17, w28, .int 0, .int ((-1)), .int ((-1)), .int ((-1))])), (q9, .inl (t10, 6, .inr (.inr (.inr (.inr f69))))), (q11, .inr (6, [v14, .int 0])), (q15, .inr (0, [.int 0, .ref d0, .int 0])), (q71, .inr (3, [w074, w175, w276, .int 0, .int ((-1)), .int ((-1)), .int ((-1))]))] := hD
  have hK : va_K (dC, dI) vwCl [(t2, .object RX2), (t10, .object RX5)] s := hK
  refine W.widen (k := 38) (n := 1291) (Nat.le_of_ble_eq_true rfl) (Nat.le_of_ble_eq_true rfl) ?_
  refine va_astq hx hb hK hP hD hS 1 0 6 3 rfl rfl rfl rfl (vp_in_nI (n := 4) (by decide) (by decide)) dX3_init_93 (fun H locs hP hD hS => ?_)
  have hP : va_P (dC, dI) vwCl [(h0, .inr (4, [.int a1, .ref a2, .ref a3, .ref q1, .ref q3, .ref q9, .ref q11, .ref q15])), (q1, .inl (t2, 6, .inr (.inr (.inr (.inr ((va_up f64 4 (some q71)))))))), (q3, .inr (3, [w06, w17, w28, .int 0, .int ((-1)), .int ((-1)), .int ((-1))])), (q9, .inl (t10, 6, .inr (.inr (.inr (.inr f69))))), (q11, .inr (6, [v14, .int 0])), (q15, .inr (0, [.int 0, .ref d0, .int 0])), (q71, .inr (3, [w074, w175, w276, .int 0, .int ((-1)), .int ((-1)), .int ((-1))]))] H := hP
  have hD : va_D A [(h0, .inr (4, [.int a1, .ref a2, .ref a3, .ref q1, .ref q3, .ref q9, .ref q11, .ref q15])), (q1, .inl (t2, 6, .inr (.inr (.inr (.inr ((va_up f64 4 (some q71)))))))), (q3, .inr (3, [w06, w17, w28, .int 0, .int ((-1)), .int ((-1)), .int ((-1))])), (q9, .inl (t10, 6, .inr (.inr (.inr (.inr f69))))), (q11, .inr (6, [v14, .int 0])), (q15, .inr (0, [.int 0, .ref d0, .int 0])), (q71, .inr (3, [w074, w175, w276, .int 0, .int ((-1)), .int ((-1)), .int ((-1))]))] := hD
  generalize (va_up f64 4 (some q71)) = f77 at hP hD
  have hP := hP.sub (ws' := [(h0, .inr (4, [.int a1, .ref a2, .ref a3, .ref q1, .ref q3, .ref q9, .ref q11, .ref q15])), (q1, .inl (t2, 6, .inr (.inr (.inr (.inr f77))))), (q3, .inr (3, [w06, w17, w28, .int 0, .int ((-1)), .int ((-1)), .int ((-1))])), (q9, .inl (t10, 6, .inr (.inr (.inr (.inr f69))))), (q11, .inr (6, [v14, .int 0])), (q15, .inr (0, [.int 0, .ref d0, .int 0]))]) [0, 1, 2, 3, 4, 5] rfl
  have hD := hD.sub (ws' := [(h0, .inr (4, [.int a1, .ref a2, .ref a3, .ref q1, .ref q3, .ref q9, .ref q11, .ref q15])), (q1, .inl (t2, 6, .inr (.inr (.inr (.inr f77))))), (q3, .inr (3, [w06, w17, w28, .int 0, .int ((-1)), .int ((-1)), .int ((-1))])), (q9, .inl (t10, 6, .inr (.inr (.inr (.inr f69))))), (q11, .inr (6, [v14, .int 0])), (q15, .inr (0, [.int 0, .ref d0, .int 0]))]) [0, 1, 2, 3, 4, 5] (by decide) rfl
  refine lv_aload_n hx hb dX3_init_94 rfl (lv_at hl 1 rfl) ?_
  refine va_get (D := (dC, dI)) (ci := 4) (v := .ref q9) (C := RX3) (T := TX3) (N := 8) hx hb ht inGX3 hown hK hP 0 rfl rfl 5 (by decide) (ht _ q317) (fun _ h9 => h9) rfl dX3_init_95 ?_
  refine lv_iload hx hb dX3_init_98 (lv_at hl 0 rfl) ?_
  refine va_new (ci := 6) (fs := [.null, .int 0]) (C := RX5) (T := TX5) (N := 2) hx hb ht inGX5 tyX5 tyX5_ok hown (ht _ q295) (ht _ q297) (ht _ q132) hK hP hD hS hA rfl (fun j hj => by rcases (show j = 0 ∨ j = 1 by omega) with rfl | rfl <;> rfl) (Nat.le_of_ble_eq_true rfl) (Nat.le_of_ble_eq_true rfl) dX3_init_100 (fun q78 H hP hD hS => ?_)
  have hP : va_P (dC, dI) vwCl [(h0, .inr (4, [.int a1, .ref a2, .ref a3, .ref q1, .ref q3, .ref q9, .ref q11, .ref q15])), (q1, .inl (t2, 6, .inr (.inr (.inr (.inr f77))))), (q3, .inr (3, [w06, w17, w28, .int 0, .int ((-1)), .int ((-1)), .int ((-1))])), (q9, .inl (t10, 6, .inr (.inr (.inr (.inr f69))))), (q11, .inr (6, [v14, .int 0])), (q15, .inr (0, [.int 0, .ref d0, .int 0])), (q78, .inr (6, [.null, .int 0]))] H := hP
  have hD : va_D A [(h0, .inr (4, [.int a1, .ref a2, .ref a3, .ref q1, .ref q3, .ref q9, .ref q11, .ref q15])), (q1, .inl (t2, 6, .inr (.inr (.inr (.inr f77))))), (q3, .inr (3, [w06, w17, w28, .int 0, .int ((-1)), .int ((-1)), .int ((-1))])), (q9, .inl (t10, 6, .inr (.inr (.inr (.inr f69))))), (q11, .inr (6, [v14, .int 0])), (q15, .inr (0, [.int 0, .ref d0, .int 0])), (q78, .inr (6, [.null, .int 0]))] := hD
  refine W.widen (k := 39) (n := 1293) (Nat.le_of_ble_eq_true rfl) (Nat.le_of_ble_eq_true rfl) ?_
  refine lv_dup hx hb dX3_init_103 rfl ?_
  have hPc := hP.sub (ws' := [(q78, .inr (6, [.null, .int 0]))]) [6] rfl
  have hDc := hD.sub (ws' := [(q78, .inr (6, [.null, .int 0]))]) [6] (by decide) rfl
  have hKc := hK.sub (tys' := []) [] rfl
  have hFc := va_free (wc := [(q78, .inr (6, [.null, .int 0]))]) hD hS hA [6] rfl
  refine va_callv (va_runIN (As := []) (rest := [.ref q78, .int 4, .ref q9]) ⟨hx, hb, hml, hown, ht⟩ (k_X5_init l d0 cO dC dI H.size q78 .null 0) (my_NI ht M_X5_init q299 rfl q298 (Nat.le_of_ble_eq_true rfl) (Nat.le_of_ble_eq_true rfl)) ⟨PRE.fb, fun U hU hW => ⟨rfl, PRE.mk' hE hS hFc hPc hKc hDc U hU hW⟩⟩ rfl rfl hl.1 rfl (lv_room (Nat.le_of_ble_eq_true rfl)) dX3_init_104 ⟨(Nat.le_of_ble_eq_true rfl), (Nat.le_of_ble_eq_true rfl)⟩) hS (fun q _ h => hFc q h) hFc (fun u79 t H1 locs htt hvm hw hB hz1 hk1 hS => ?_)
  try dsimp only at hw hB
  obtain ⟨v81, hP1, hK1, hD1⟩ := hB
  rw [htt] at hP1
  have hK1 := va_K.moved hvm.symm hK1
  obtain ⟨hP, hD⟩ := va_join (wr := [(h0, .inr (4, [.int a1, .ref a2, .ref a3, .ref q1, .ref q3, .ref q9, .ref q11, .ref q15])), (q1, .inl (t2, 6, .inr (.inr (.inr (.inr f77))))), (q3, .inr (3, [w06, w17, w28, .int 0, .int ((-1)), .int ((-1)), .int ((-1))])), (q9, .inl (t10, 6, .inr (.inr (.inr (.inr f69))))), (q11, .inr (6, [v14, .int 0])), (q15, .inr (0, [.int 0, .ref d0, .int 0]))]) (w1 := [(q78, .inr (6, [v81, .int 0]))]) hP hD [6] [0, 1, 2, 3, 4, 5] rfl rfl (by decide) (by decide) hk1 hFc hP1 hD1
  have hK := (hK.sub (tys' := [(t2, .object RX2), (t10, .object RX5)]) [0, 1] rfl).app hK1
  generalize H1 = H at hP hS ⊢
  have hP : va_P (dC, dI) vwCl [(h0, .inr (4, [.int a1, .ref a2, .ref a3, .ref q1, .ref q3, .ref q9, .ref q11, .ref q15])), (q1, .inl (t2, 6, .inr (.inr (.inr (.inr f77))))), (q3, .inr (3, [w06, w17, w28, .int 0, .int ((-1)), .int ((-1)), .int ((-1))])), (q9, .inl (t10, 6, .inr (.inr (.inr (.inr f69))))), (q11, .inr (6, [v14, .int 0])), (q15, .inr (0, [.int 0, .ref d0, .int 0])), (q78, .inr (6, [v81, .int 0]))] H := hP
  have hD : va_D A [(h0, .inr (4, [.int a1, .ref a2, .ref a3, .ref q1, .ref q3, .ref q9, .ref q11, .ref q15])), (q1, .inl (t2, 6, .inr (.inr (.inr (.inr f77))))), (q3, .inr (3, [w06, w17, w28, .int 0, .int ((-1)), .int ((-1)), .int ((-1))])), (q9, .inl (t10, 6, .inr (.inr (.inr (.inr f69))))), (q11, .inr (6, [v14, .int 0])), (q15, .inr (0, [.int 0, .ref d0, .int 0])), (q78, .inr (6, [v81, .int 0]))] := hD
  have hK : va_K (dC, dI) vwCl [(t2, .object RX2), (t10, .object RX5)] s := hK
  refine W.widen (k := 39) (n := 1293) (Nat.le_of_ble_eq_true rfl) (Nat.le_of_ble_eq_true rfl) ?_
  refine va_astq hx hb hK hP hD hS 3 1 6 6 rfl rfl rfl rfl (vp_in_nI (n := 4) (by decide) (by decide)) dX3_init_107 (fun H locs hP hD hS => ?_)
  have hP : va_P (dC, dI) vwCl [(h0, .inr (4, [.int a1, .ref a2, .ref a3, .ref q1, .ref q3, .ref q9, .ref q11, .ref q15])), (q1, .inl (t2, 6, .inr (.inr (.inr (.inr f77))))), (q3, .inr (3, [w06, w17, w28, .int 0, .int ((-1)), .int ((-1)), .int ((-1))])), (q9, .inl (t10, 6, .inr (.inr (.inr (.inr ((va_up f69 4 (some q78)))))))), (q11, .inr (6, [v14, .int 0])), (q15, .inr (0, [.int 0, .ref d0, .int 0])), (q78, .inr (6, [v81, .int 0]))] H := hP
  have hD : va_D A [(h0, .inr (4, [.int a1, .ref a2, .ref a3, .ref q1, .ref q3, .ref q9, .ref q11, .ref q15])), (q1, .inl (t2, 6, .inr (.inr (.inr (.inr f77))))), (q3, .inr (3, [w06, w17, w28, .int 0, .int ((-1)), .int ((-1)), .int ((-1))])), (q9, .inl (t10, 6, .inr (.inr (.inr (.inr ((va_up f69 4 (some q78)))))))), (q11, .inr (6, [v14, .int 0])), (q15, .inr (0, [.int 0, .ref d0, .int 0])), (q78, .inr (6, [v81, .int 0]))] := hD
  generalize (va_up f69 4 (some q78)) = f82 at hP hD
  have hP := hP.sub (ws' := [(h0, .inr (4, [.int a1, .ref a2, .ref a3, .ref q1, .ref q3, .ref q9, .ref q11, .ref q15])), (q1, .inl (t2, 6, .inr (.inr (.inr (.inr f77))))), (q3, .inr (3, [w06, w17, w28, .int 0, .int ((-1)), .int ((-1)), .int ((-1))])), (q9, .inl (t10, 6, .inr (.inr (.inr (.inr f82))))), (q11, .inr (6, [v14, .int 0])), (q15, .inr (0, [.int 0, .ref d0, .int 0]))]) [0, 1, 2, 3, 4, 5] rfl
  have hD := hD.sub (ws' := [(h0, .inr (4, [.int a1, .ref a2, .ref a3, .ref q1, .ref q3, .ref q9, .ref q11, .ref q15])), (q1, .inl (t2, 6, .inr (.inr (.inr (.inr f77))))), (q3, .inr (3, [w06, w17, w28, .int 0, .int ((-1)), .int ((-1)), .int ((-1))])), (q9, .inl (t10, 6, .inr (.inr (.inr (.inr f82))))), (q11, .inr (6, [v14, .int 0])), (q15, .inr (0, [.int 0, .ref d0, .int 0]))]) [0, 1, 2, 3, 4, 5] (by decide) rfl
  refine lv_iinc (v := 5) (lv' := [(4, .int 5), (0, .ref h0), (1, .int a1), (2, .ref a2), (3, .ref a3)]) hx hb dX3_init_108 hl (k := 0) rfl (by decide) (by decide) rfl (fun ls hl => ?_)
  refine lv_goto (tgt := 73) hx hb dX3_init_111 (by decide) ?_
  refine lv_iload hx hb dX3_init_73 (lv_at hl 0 rfl) ?_
  refine lv_bipush (v := 6) hx hb dX3_init_75 (by decide) ?_
  refine lv_icmp_ge (tgt := 114) hx hb dX3_init_77 (by decide) (fun c83 => absurd c83 (by decide)) (fun c83 => ?_)
  refine lv_aload_n hx hb dX3_init_80 rfl (lv_at hl 1 rfl) ?_
  refine va_get (D := (dC, dI)) (ci := 4) (v := .ref q1) (C := RX3) (T := TX3) (N := 8) hx hb ht inGX3 hown hK hP 0 rfl rfl 3 (by decide) (ht _ q315) (fun _ h9 => h9) rfl dX3_init_81 ?_
  refine lv_iload hx hb dX3_init_84 (lv_at hl 0 rfl) ?_
  refine va_new (ci := 3) (fs := [.null, .null, .null, .int 0, .int 0, .int 0, .int 0]) (C := RX2) (T := TX2) (N := 7) hx hb ht inGX2 tyX2 tyX2_ok hown (ht _ q251) (ht _ q253) (ht _ q131) hK hP hD hS hA rfl (fun j hj => by rcases (show j = 0 ∨ j = 1 ∨ j = 2 ∨ j = 3 ∨ j = 4 ∨ j = 5 ∨ j = 6 by omega) with rfl | rfl | rfl | rfl | rfl | rfl | rfl <;> rfl) (Nat.le_of_ble_eq_true rfl) (Nat.le_of_ble_eq_true rfl) dX3_init_86 (fun q84 H hP hD hS => ?_)
  have hP : va_P (dC, dI) vwCl [(h0, .inr (4, [.int a1, .ref a2, .ref a3, .ref q1, .ref q3, .ref q9, .ref q11, .ref q15])), (q1, .inl (t2, 6, .inr (.inr (.inr (.inr f77))))), (q3, .inr (3, [w06, w17, w28, .int 0, .int ((-1)), .int ((-1)), .int ((-1))])), (q9, .inl (t10, 6, .inr (.inr (.inr (.inr f82))))), (q11, .inr (6, [v14, .int 0])), (q15, .inr (0, [.int 0, .ref d0, .int 0])), (q84, .inr (3, [.null, .null, .null, .int 0, .int 0, .int 0, .int 0]))] H := hP
  have hD : va_D A [(h0, .inr (4, [.int a1, .ref a2, .ref a3, .ref q1, .ref q3, .ref q9, .ref q11, .ref q15])), (q1, .inl (t2, 6, .inr (.inr (.inr (.inr f77))))), (q3, .inr (3, [w06, w17, w28, .int 0, .int ((-1)), .int ((-1)), .int ((-1))])), (q9, .inl (t10, 6, .inr (.inr (.inr (.inr f82))))), (q11, .inr (6, [v14, .int 0])), (q15, .inr (0, [.int 0, .ref d0, .int 0])), (q84, .inr (3, [.null, .null, .null, .int 0, .int 0, .int 0, .int 0]))] := hD
  refine W.widen (k := 40) (n := 1300) (Nat.le_of_ble_eq_true rfl) (Nat.le_of_ble_eq_true rfl) ?_
  refine lv_dup hx hb dX3_init_89 rfl ?_
  have hPc := hP.sub (ws' := [(q84, .inr (3, [.null, .null, .null, .int 0, .int 0, .int 0, .int 0]))]) [6] rfl
  have hDc := hD.sub (ws' := [(q84, .inr (3, [.null, .null, .null, .int 0, .int 0, .int 0, .int 0]))]) [6] (by decide) rfl
  have hKc := hK.sub (tys' := []) [] rfl
  have hFc := va_free (wc := [(q84, .inr (3, [.null, .null, .null, .int 0, .int 0, .int 0, .int 0]))]) hD hS hA [6] rfl
  refine va_callv (va_runIN (As := []) (rest := [.ref q84, .int 5, .ref q1]) ⟨hx, hb, hml, hown, ht⟩ (k_X2_init l d0 cO dC dI H.size q84 .null .null .null 0 0 0 0) (my_NI ht M_X2_init q255 rfl q254 (Nat.le_of_ble_eq_true rfl) (Nat.le_of_ble_eq_true rfl)) ⟨PRE.fb, fun U hU hW => ⟨rfl, PRE.mk' hE hS hFc hPc hKc hDc U hU hW⟩⟩ rfl rfl hl.1 rfl (lv_room (Nat.le_of_ble_eq_true rfl)) dX3_init_90 ⟨(Nat.le_of_ble_eq_true rfl), (Nat.le_of_ble_eq_true rfl)⟩) hS (fun q _ h => hFc q h) hFc (fun u85 t H1 locs htt hvm hw hB hz1 hk1 hS => ?_)
  try dsimp only at hw hB
  obtain ⟨w087, w188, w289, hP1, hK1, hD1⟩ := hB
  rw [htt] at hP1
  have hK1 := va_K.moved hvm.symm hK1
  obtain ⟨hP, hD⟩ := va_join (wr := [(h0, .inr (4, [.int a1, .ref a2, .ref a3, .ref q1, .ref q3, .ref q9, .ref q11, .ref q15])), (q1, .inl (t2, 6, .inr (.inr (.inr (.inr f77))))), (q3, .inr (3, [w06, w17, w28, .int 0, .int ((-1)), .int ((-1)), .int ((-1))])), (q9, .inl (t10, 6, .inr (.inr (.inr (.inr f82))))), (q11, .inr (6, [v14, .int 0])), (q15, .inr (0, [.int 0, .ref d0, .int 0]))]) (w1 := [(q84, .inr (3, [w087, w188, w289, .int 0, .int ((-1)), .int ((-1)), .int ((-1))]))]) hP hD [6] [0, 1, 2, 3, 4, 5] rfl rfl (by decide) (by decide) hk1 hFc hP1 hD1
  have hK := (hK.sub (tys' := [(t2, .object RX2), (t10, .object RX5)]) [0, 1] rfl).app hK1
  generalize H1 = H at hP hS ⊢
  have hP : va_P (dC, dI) vwCl [(h0, .inr (4, [.int a1, .ref a2, .ref a3, .ref q1, .ref q3, .ref q9, .ref q11, .ref q15])), (q1, .inl (t2, 6, .inr (.inr (.inr (.inr f77))))), (q3, .inr (3, [w06, w17, w28, .int 0, .int ((-1)), .int ((-1)), .int ((-1))])), (q9, .inl (t10, 6, .inr (.inr (.inr (.inr f82))))), (q11, .inr (6, [v14, .int 0])), (q15, .inr (0, [.int 0, .ref d0, .int 0])), (q84, .inr (3, [w087, w188, w289, .int 0, .int ((-1)), .int ((-1)), .int ((-1))]))] H := hP
  have hD : va_D A [(h0, .inr (4, [.int a1, .ref a2, .ref a3, .ref q1, .ref q3, .ref q9, .ref q11, .ref q15])), (q1, .inl (t2, 6, .inr (.inr (.inr (.inr f77))))), (q3, .inr (3, [w06, w17, w28, .int 0, .int ((-1)), .int ((-1)), .int ((-1))])), (q9, .inl (t10, 6, .inr (.inr (.inr (.inr f82))))), (q11, .inr (6, [v14, .int 0])), (q15, .inr (0, [.int 0, .ref d0, .int 0])), (q84, .inr (3, [w087, w188, w289, .int 0, .int ((-1)), .int ((-1)), .int ((-1))]))] := hD
  have hK : va_K (dC, dI) vwCl [(t2, .object RX2), (t10, .object RX5)] s := hK
  refine W.widen (k := 44) (n := 1504) (Nat.le_of_ble_eq_true rfl) (Nat.le_of_ble_eq_true rfl) ?_
  refine va_astq hx hb hK hP hD hS 1 0 6 3 rfl rfl rfl rfl (vp_in_nI (n := 5) (by decide) (by decide)) dX3_init_93 (fun H locs hP hD hS => ?_)
  have hP : va_P (dC, dI) vwCl [(h0, .inr (4, [.int a1, .ref a2, .ref a3, .ref q1, .ref q3, .ref q9, .ref q11, .ref q15])), (q1, .inl (t2, 6, .inr (.inr (.inr (.inr ((va_up f77 5 (some q84)))))))), (q3, .inr (3, [w06, w17, w28, .int 0, .int ((-1)), .int ((-1)), .int ((-1))])), (q9, .inl (t10, 6, .inr (.inr (.inr (.inr f82))))), (q11, .inr (6, [v14, .int 0])), (q15, .inr (0, [.int 0, .ref d0, .int 0])), (q84, .inr (3, [w087, w188, w289, .int 0, .int ((-1)), .int ((-1)), .int ((-1))]))] H := hP
  have hD : va_D A [(h0, .inr (4, [.int a1, .ref a2, .ref a3, .ref q1, .ref q3, .ref q9, .ref q11, .ref q15])), (q1, .inl (t2, 6, .inr (.inr (.inr (.inr ((va_up f77 5 (some q84)))))))), (q3, .inr (3, [w06, w17, w28, .int 0, .int ((-1)), .int ((-1)), .int ((-1))])), (q9, .inl (t10, 6, .inr (.inr (.inr (.inr f82))))), (q11, .inr (6, [v14, .int 0])), (q15, .inr (0, [.int 0, .ref d0, .int 0])), (q84, .inr (3, [w087, w188, w289, .int 0, .int ((-1)), .int ((-1)), .int ((-1))]))] := hD
  generalize (va_up f77 5 (some q84)) = f90 at hP hD
  have hP := hP.sub (ws' := [(h0, .inr (4, [.int a1, .ref a2, .ref a3, .ref q1, .ref q3, .ref q9, .ref q11, .ref q15])), (q1, .inl (t2, 6, .inr (.inr (.inr (.inr f90))))), (q3, .inr (3, [w06, w17, w28, .int 0, .int ((-1)), .int ((-1)), .int ((-1))])), (q9, .inl (t10, 6, .inr (.inr (.inr (.inr f82))))), (q11, .inr (6, [v14, .int 0])), (q15, .inr (0, [.int 0, .ref d0, .int 0]))]) [0, 1, 2, 3, 4, 5] rfl
  have hD := hD.sub (ws' := [(h0, .inr (4, [.int a1, .ref a2, .ref a3, .ref q1, .ref q3, .ref q9, .ref q11, .ref q15])), (q1, .inl (t2, 6, .inr (.inr (.inr (.inr f90))))), (q3, .inr (3, [w06, w17, w28, .int 0, .int ((-1)), .int ((-1)), .int ((-1))])), (q9, .inl (t10, 6, .inr (.inr (.inr (.inr f82))))), (q11, .inr (6, [v14, .int 0])), (q15, .inr (0, [.int 0, .ref d0, .int 0]))]) [0, 1, 2, 3, 4, 5] (by decide) rfl
  refine lv_aload_n hx hb dX3_init_94 rfl (lv_at hl 1 rfl) ?_
  refine va_get (D := (dC, dI)) (ci := 4) (v := .ref q9) (C := RX3) (T := TX3) (N := 8) hx hb ht inGX3 hown hK hP 0 rfl rfl 5 (by decide) (ht _ q317) (fun _ h9 => h9) rfl dX3_init_95 ?_
  refine lv_iload hx hb dX3_init_98 (lv_at hl 0 rfl) ?_
  refine va_new (ci := 6) (fs := [.null, .int 0]) (C := RX5) (T := TX5) (N := 2) hx hb ht inGX5 tyX5 tyX5_ok hown (ht _ q295) (ht _ q297) (ht _ q132) hK hP hD hS hA rfl (fun j hj => by rcases (show j = 0 ∨ j = 1 by omega) with rfl | rfl <;> rfl) (Nat.le_of_ble_eq_true rfl) (Nat.le_of_ble_eq_true rfl) dX3_init_100 (fun q91 H hP hD hS => ?_)
  have hP : va_P (dC, dI) vwCl [(h0, .inr (4, [.int a1, .ref a2, .ref a3, .ref q1, .ref q3, .ref q9, .ref q11, .ref q15])), (q1, .inl (t2, 6, .inr (.inr (.inr (.inr f90))))), (q3, .inr (3, [w06, w17, w28, .int 0, .int ((-1)), .int ((-1)), .int ((-1))])), (q9, .inl (t10, 6, .inr (.inr (.inr (.inr f82))))), (q11, .inr (6, [v14, .int 0])), (q15, .inr (0, [.int 0, .ref d0, .int 0])), (q91, .inr (6, [.null, .int 0]))] H := hP
  have hD : va_D A [(h0, .inr (4, [.int a1, .ref a2, .ref a3, .ref q1, .ref q3, .ref q9, .ref q11, .ref q15])), (q1, .inl (t2, 6, .inr (.inr (.inr (.inr f90))))), (q3, .inr (3, [w06, w17, w28, .int 0, .int ((-1)), .int ((-1)), .int ((-1))])), (q9, .inl (t10, 6, .inr (.inr (.inr (.inr f82))))), (q11, .inr (6, [v14, .int 0])), (q15, .inr (0, [.int 0, .ref d0, .int 0])), (q91, .inr (6, [.null, .int 0]))] := hD
  refine W.widen (k := 45) (n := 1506) (Nat.le_of_ble_eq_true rfl) (Nat.le_of_ble_eq_true rfl) ?_
  refine lv_dup hx hb dX3_init_103 rfl ?_
  have hPc := hP.sub (ws' := [(q91, .inr (6, [.null, .int 0]))]) [6] rfl
  have hDc := hD.sub (ws' := [(q91, .inr (6, [.null, .int 0]))]) [6] (by decide) rfl
  have hKc := hK.sub (tys' := []) [] rfl
  have hFc := va_free (wc := [(q91, .inr (6, [.null, .int 0]))]) hD hS hA [6] rfl
  refine va_callv (va_runIN (As := []) (rest := [.ref q91, .int 5, .ref q9]) ⟨hx, hb, hml, hown, ht⟩ (k_X5_init l d0 cO dC dI H.size q91 .null 0) (my_NI ht M_X5_init q299 rfl q298 (Nat.le_of_ble_eq_true rfl) (Nat.le_of_ble_eq_true rfl)) ⟨PRE.fb, fun U hU hW => ⟨rfl, PRE.mk' hE hS hFc hPc hKc hDc U hU hW⟩⟩ rfl rfl hl.1 rfl (lv_room (Nat.le_of_ble_eq_true rfl)) dX3_init_104 ⟨(Nat.le_of_ble_eq_true rfl), (Nat.le_of_ble_eq_true rfl)⟩) hS (fun q _ h => hFc q h) hFc (fun u92 t H1 locs htt hvm hw hB hz1 hk1 hS => ?_)
  try dsimp only at hw hB
  obtain ⟨v94, hP1, hK1, hD1⟩ := hB
  rw [htt] at hP1
  have hK1 := va_K.moved hvm.symm hK1
  obtain ⟨hP, hD⟩ := va_join (wr := [(h0, .inr (4, [.int a1, .ref a2, .ref a3, .ref q1, .ref q3, .ref q9, .ref q11, .ref q15])), (q1, .inl (t2, 6, .inr (.inr (.inr (.inr f90))))), (q3, .inr (3, [w06, w17, w28, .int 0, .int ((-1)), .int ((-1)), .int ((-1))])), (q9, .inl (t10, 6, .inr (.inr (.inr (.inr f82))))), (q11, .inr (6, [v14, .int 0])), (q15, .inr (0, [.int 0, .ref d0, .int 0]))]) (w1 := [(q91, .inr (6, [v94, .int 0]))]) hP hD [6] [0, 1, 2, 3, 4, 5] rfl rfl (by decide) (by decide) hk1 hFc hP1 hD1
  have hK := (hK.sub (tys' := [(t2, .object RX2), (t10, .object RX5)]) [0, 1] rfl).app hK1
  generalize H1 = H at hP hS ⊢
  have hP : va_P (dC, dI) vwCl [(h0, .inr (4, [.int a1, .ref a2, .ref a3, .ref q1, .ref q3, .ref q9, .ref q11, .ref q15])), (q1, .inl (t2, 6, .inr (.inr (.inr (.inr f90))))), (q3, .inr (3, [w06, w17, w28, .int 0, .int ((-1)), .int ((-1)), .int ((-1))])), (q9, .inl (t10, 6, .inr (.inr (.inr (.inr f82))))), (q11, .inr (6, [v14, .int 0])), (q15, .inr (0, [.int 0, .ref d0, .int 0])), (q91, .inr (6, [v94, .int 0]))] H := hP
  have hD : va_D A [(h0, .inr (4, [.int a1, .ref a2, .ref a3, .ref q1, .ref q3, .ref q9, .ref q11, .ref q15])), (q1, .inl (t2, 6, .inr (.inr (.inr (.inr f90))))), (q3, .inr (3, [w06, w17, w28, .int 0, .int ((-1)), .int ((-1)), .int ((-1))])), (q9, .inl (t10, 6, .inr (.inr (.inr (.inr f82))))), (q11, .inr (6, [v14, .int 0])), (q15, .inr (0, [.int 0, .ref d0, .int 0])), (q91, .inr (6, [v94, .int 0]))] := hD
  have hK : va_K (dC, dI) vwCl [(t2, .object RX2), (t10, .object RX5)] s := hK
  refine W.widen (k := 45) (n := 1506) (Nat.le_of_ble_eq_true rfl) (Nat.le_of_ble_eq_true rfl) ?_
  refine va_astq hx hb hK hP hD hS 3 1 6 6 rfl rfl rfl rfl (vp_in_nI (n := 5) (by decide) (by decide)) dX3_init_107 (fun H locs hP hD hS => ?_)
  have hP : va_P (dC, dI) vwCl [(h0, .inr (4, [.int a1, .ref a2, .ref a3, .ref q1, .ref q3, .ref q9, .ref q11, .ref q15])), (q1, .inl (t2, 6, .inr (.inr (.inr (.inr f90))))), (q3, .inr (3, [w06, w17, w28, .int 0, .int ((-1)), .int ((-1)), .int ((-1))])), (q9, .inl (t10, 6, .inr (.inr (.inr (.inr ((va_up f82 5 (some q91)))))))), (q11, .inr (6, [v14, .int 0])), (q15, .inr (0, [.int 0, .ref d0, .int 0])), (q91, .inr (6, [v94, .int 0]))] H := hP
  have hD : va_D A [(h0, .inr (4, [.int a1, .ref a2, .ref a3, .ref q1, .ref q3, .ref q9, .ref q11, .ref q15])), (q1, .inl (t2, 6, .inr (.inr (.inr (.inr f90))))), (q3, .inr (3, [w06, w17, w28, .int 0, .int ((-1)), .int ((-1)), .int ((-1))])), (q9, .inl (t10, 6, .inr (.inr (.inr (.inr ((va_up f82 5 (some q91)))))))), (q11, .inr (6, [v14, .int 0])), (q15, .inr (0, [.int 0, .ref d0, .int 0])), (q91, .inr (6, [v94, .int 0]))] := hD
  generalize (va_up f82 5 (some q91)) = f95 at hP hD
  have hP := hP.sub (ws' := [(h0, .inr (4, [.int a1, .ref a2, .ref a3, .ref q1, .ref q3, .ref q9, .ref q11, .ref q15])), (q1, .inl (t2, 6, .inr (.inr (.inr (.inr f90))))), (q3, .inr (3, [w06, w17, w28, .int 0, .int ((-1)), .int ((-1)), .int ((-1))])), (q9, .inl (t10, 6, .inr (.inr (.inr (.inr f95))))), (q11, .inr (6, [v14, .int 0])), (q15, .inr (0, [.int 0, .ref d0, .int 0]))]) [0, 1, 2, 3, 4, 5] rfl
  have hD := hD.sub (ws' := [(h0, .inr (4, [.int a1, .ref a2, .ref a3, .ref q1, .ref q3, .ref q9, .ref q11, .ref q15])), (q1, .inl (t2, 6, .inr (.inr (.inr (.inr f90))))), (q3, .inr (3, [w06, w17, w28, .int 0, .int ((-1)), .int ((-1)), .int ((-1))])), (q9, .inl (t10, 6, .inr (.inr (.inr (.inr f95))))), (q11, .inr (6, [v14, .int 0])), (q15, .inr (0, [.int 0, .ref d0, .int 0]))]) [0, 1, 2, 3, 4, 5] (by decide) rfl
  refine lv_iinc (v := 6) (lv' := [(4, .int 6), (0, .ref h0), (1, .int a1), (2, .ref a2), (3, .ref a3)]) hx hb dX3_init_108 hl (k := 0) rfl (by decide) (by decide) rfl (fun ls hl => ?_)
  refine lv_goto (tgt := 73) hx hb dX3_init_111 (by decide) ?_
  refine lv_iload hx hb dX3_init_73 (lv_at hl 0 rfl) ?_
  refine lv_bipush (v := 6) hx hb dX3_init_75 (by decide) ?_
  refine lv_icmp_ge (tgt := 114) hx hb dX3_init_77 (by decide) (fun c96 => ?_) (fun c96 => absurd (by decide) c96)
  have hP9 := hP.sub (ws' := [(h0, .inr (4, [.int a1, .ref a2, .ref a3, .ref q1, .ref q3, .ref q9, .ref q11, .ref q15])), (q15, .inr (0, [.int 0, .ref d0, .int 0]))]) [0, 5] rfl
  have hD9 := hD.sub (ws' := [(h0, .inr (4, [.int a1, .ref a2, .ref a3, .ref q1, .ref q3, .ref q9, .ref q11, .ref q15])), (q15, .inr (0, [.int 0, .ref d0, .int 0]))]) [0, 5] (by decide) rfl
  have hK9 := hK.sub (tys' := []) [] rfl
  refine W.widen (k := 45) (n := 1506) (Nat.le_of_ble_eq_true rfl) (Nat.le_of_ble_eq_true rfl) ?_
  exact W.vret hx hb hr (fun t ht9 hW9 => ⟨⟨(), rfl, trivial, ⟨.ref q1, .ref q3, .ref q9, .ref q11, q15, POW.mk' ht9 hW9.alike hP9 hK9 hD9⟩⟩, hS.F ht9⟩) hS.2.2 dX3_init_114
set_option maxHeartbeats 4000000 in
set_option maxRecDepth 100000 in
theorem k_J7_fill_53178 (l : Launch) (d0 : Nat) (cO : ClassId) (dC : Nat → ClassId) (dI : Nat → Nat → Nat) (sz : Nat) (h0 : Nat) (tI : ClassId) (f : Nat → Int32) (a1 : Int32) : Met l yJ7_fill_53178 (cn yJ7_fill_53178 cJ7_fill_53178 4 none) (rmd 1 0 0) (va_Pc [.ref h0, .int a1] (PRE d0 cO (dC, dI) (va_A [(h0, .inl (tI, 240, .inl f))] sz) [(h0, .inl (tI, 240, .inl f))] [(tI, .int)] sz)) (va_Qv (fun (_ : Unit) => True) (fun (_ : Unit) (t : State) => ∃ g : Nat → Int32, POW (dC, dI) (va_A [(h0, .inl (tI, 240, .inl f))] sz) [(h0, .inl (tI, 240, .inl g))] [(tI, .int)] t) (va_A [(h0, .inl (tI, 240, .inl f))] sz)) 0 0 (va_A [(h0, .inl (tI, 240, .inl f))] sz) := by
  refine Met.ofW (cc := cJ7_fill_53178) (maxL := 4) (ret := none) (by decide) rfl ?_
  intro p e s m args below meth c s₁ B hml hv
  obtain ⟨rfl, hsz, hE, hP, hK, hD0⟩ := hv
  have hx := B.exec
  have hb := B.bytes
  have hr := B.returns
  have hts := atoms_spec (ws := cn yJ7_fill_53178 cJ7_fill_53178 4 none) B.pre
  have ht : ∀ w ∈ GT, w.before _ s = true := fun w h => hts w (List.mem_cons_of_mem _ h)
  have hown : s.vm.findClass RJ7 = some m.cls := findClass_of_methodNamed B.named
  have hlocks := B.notSynchronized
  subst hsz
  have hD := hD0.self (sz := s.heap.size)
  generalize hAe : va_A [(h0, .inl (tI, 240, .inl f))] s.heap.size = A at hD hE ⊢
  have hA : ∀ q : Nat, s.heap.size ≤ q → A q := fun q h => by rw [← hAe]; exact Or.inr h
  obtain ⟨H, hH0⟩ : ∃ H, s.heap = H := ⟨_, rfl⟩
  have hS : va_S A s.heap H [] := by rw [← hH0]; exact va_S.rf
  rw [hH0] at hP
  have hl := lv_entry ([.ref h0, .int a1]) (n := 4) (Nat.le_of_ble_eq_true rfl)
  rw [lg_entry_eq]
  generalize (lg_sl ([.ref h0, .int a1]) ++ List.replicate (4 - (lg_sl ([.ref h0, .int a1])).length) Slot.unset).toArray = ls at hl ⊢
  have hl : lv_has ls 4 [(0, .ref h0), (1, .int a1)] := hl
  rw [hH0]
  refine lv_iconst (v := 0) hx hb dJ7_fill_53178_0 (by decide) ?_
  refine lv_istore_n (lv' := [(2, .int 0), (0, .ref h0), (1, .int a1)]) hx hb dJ7_fill_53178_1 rfl hl (by decide) rfl (fun ls hl => ?_)
  refine lv_aload_n hx hb dJ7_fill_53178_2 rfl (lv_at hl 1 rfl) ?_
  refine va_alen (v := 240) hx hb hK hP 0 0 rfl rfl rfl dJ7_fill_53178_3 ?_
  refine lv_istore_n (lv' := [(3, .int 240), (2, .int 0), (0, .ref h0), (1, .int a1)]) hx hb dJ7_fill_53178_4 rfl hl (by decide) rfl (fun ls hl => ?_)
  have loop5 : ∀ (n i1 : Nat) (ls : Array Slot) (H : Heap) (locs : List Loc) (f2 : Nat → Int32), i1 ≤ 240 → 240 - i1 < n → lv_has ls 4 [(3, .int 240), (2, .int ((nI i1))), (0, .ref h0), (1, .int a1)] → va_P (dC, dI) vwCl [(h0, .inl (tI, 240, .inl f2))] H → va_D A [(h0, .inl (tI, 240, .inl f2))] → va_S A s.heap H locs → W p l e (headSpec (cn yJ7_fill_53178 cJ7_fill_53178 4 none) (rmd 1 0 0)).room s m (List.toArray [.ref h0, .int a1]) below meth c H locs 0 0 (MQ below (va_Qv (fun (_ : Unit) => True) (fun (_ : Unit) (t : State) => ∃ g : Nat → Int32, POW (dC, dI) A [(h0, .inl (tI, 240, .inl g))] [(tI, .int)] t) A) (List.toArray [.ref h0, .int a1]) s 0 0 A) (F0 m 5 ls []) := by
    intro n
    induction n with
    | zero => intro i1 ls H locs f2 h1 h2; omega
    | succ n ih =>
      intro i1 ls H locs f2 h1 h2 hl hP hD hS
      refine lv_iload_n hx hb dJ7_fill_53178_5 rfl (lv_at hl 1 rfl) ?_
      refine lv_iload_n hx hb dJ7_fill_53178_6 rfl (lv_at hl 0 rfl) ?_
      refine lv_icmp_ge (tgt := 20) hx hb dJ7_fill_53178_7 (by decide) (fun c3 => ?_) (fun c3 => ?_)
      · skip
        have hP9 := hP.sub (ws' := [(h0, .inl (tI, 240, .inl f2))]) [0] rfl
        have hD9 := hD.sub (ws' := [(h0, .inl (tI, 240, .inl f2))]) [0] (by decide) rfl
        have hK9 := hK.sub (tys' := [(tI, .int)]) [0] rfl
        refine W.widen (k := 0) (n := 0) (Nat.le_of_ble_eq_true rfl) (Nat.le_of_ble_eq_true rfl) ?_
        exact W.vret hx hb hr (fun t ht9 hW9 => ⟨⟨(), rfl, trivial, ⟨f2, POW.mk' ht9 hW9.alike hP9 hK9 hD9⟩⟩, hS.F ht9⟩) hS.2.2 dJ7_fill_53178_20
      · skip
        have hlt : i1 < 240 := by rcases Nat.lt_or_ge i1 240 with q | q; exact q; exact absurd (nI_le q (by omega)) c3
        refine lv_aload_n hx hb dJ7_fill_53178_10 rfl (lv_at hl 2 rfl) ?_
        refine lv_iload_n hx hb dJ7_fill_53178_11 rfl (lv_at hl 1 rfl) ?_
        refine lv_iload_n hx hb dJ7_fill_53178_12 rfl (lv_at hl 3 rfl) ?_
        refine va_iast hx hb hK hP hD hS 0 0 rfl rfl (vp_in_nI (by omega) (by decide)) dJ7_fill_53178_13 (fun H locs hP hD hS => ?_)
        have hP : va_P (dC, dI) vwCl [(h0, .inl (tI, 240, .inl ((upd f2 ((nI i1)).toNatClampNeg a1))))] H := hP
        have hD : va_D A [(h0, .inl (tI, 240, .inl ((upd f2 ((nI i1)).toNatClampNeg a1))))] := hD
        refine lv_iinc (v := (nI (i1 + 1))) (lv' := [(2, .int ((nI (i1 + 1)))), (3, .int 240), (0, .ref h0), (1, .int a1)]) hx hb dJ7_fill_53178_14 hl (k := 1) rfl (nI_1 _) (by decide) rfl (fun ls hl => ?_)
        refine lv_goto (tgt := 5) hx hb dJ7_fill_53178_17 (by decide) ?_
        have hl := lv_sub (l' := [(3, .int 240), (2, .int ((nI (i1 + 1)))), (0, .ref h0), (1, .int a1)]) hl [1, 0, 2, 3] rfl
        exact ih (i1 + 1) _ _ _ _ (by omega) (by omega) hl hP hD hS
  exact loop5 (240 + 1) 0 _ _ _ f (by omega) (by omega) hl hP hD hS
end
section
theorem dX7_init_0 : decode cX7_init 0 = .ok (.aload_n 0, 1) := by decide +kernel
theorem q342 : Cond.methodLink RX7 3 objectInit ∈ GT := gt 342 (by decide +kernel) (by decide +kernel)
theorem dX7_init_1 : decode cX7_init 1 = .ok (.invokespecial 3, 3) := by decide +kernel
theorem dX7_init_4 : decode cX7_init 4 = .ok (.aload_n 0, 1) := by decide +kernel
theorem dX7_init_5 : decode cX7_init 5 = .ok (.bipush 6, 2) := by decide +kernel
theorem q343 : Cond.classLink RX7 9 RX2 ∈ GT := gt 343 (by decide +kernel) (by decide +kernel)
theorem dX7_init_7 : decode cX7_init 7 = .ok (.anewarray 9, 3) := by decide +kernel
theorem inGX7 : ∀ w ∈ u_ws RX7 TX7 12, w ∈ GT := gts [366, 368, 370, 372, 374, 376, 378, 380, 382, 384, 386, 388] (by decide +kernel) (by decide +kernel)
theorem q357 : Cond.fieldLink RX7 11 "ToolPlex$Multiplexer" "copies" "[LToolPlex$Copy;" ∈ GT := gt 357 (by decide +kernel) (by decide +kernel)
theorem dX7_init_10 : decode cX7_init 10 = .ok (.putfield 11, 3) := by decide +kernel
theorem dX7_init_13 : decode cX7_init 13 = .ok (.aload_n 0, 1) := by decide +kernel
theorem dX7_init_14 : decode cX7_init 14 = .ok (.new 9, 3) := by decide +kernel
theorem dX7_init_17 : decode cX7_init 17 = .ok (.dup, 1) := by decide +kernel
theorem dX7_init_18 : decode cX7_init 18 = .ok (.invokespecial 17, 3) := by decide +kernel
theorem q344 : Cond.methodLinkNest RX7 17 yX2_init "ToolPlex" ∈ GT := gt 344 (by decide +kernel) (by decide +kernel)
theorem q358 : Cond.fieldLink RX7 18 "ToolPlex$Multiplexer" "nothing" "LToolPlex$Copy;" ∈ GT := gt 358 (by decide +kernel) (by decide +kernel)
theorem dX7_init_21 : decode cX7_init 21 = .ok (.putfield 18, 3) := by decide +kernel
theorem dX7_init_24 : decode cX7_init 24 = .ok (.aload_n 0, 1) := by decide +kernel
theorem dX7_init_25 : decode cX7_init 25 = .ok (.bipush 6, 2) := by decide +kernel
theorem dX7_init_27 : decode cX7_init 27 = .ok (.newarray .int, 2) := by decide +kernel
theorem q359 : Cond.fieldLink RX7 22 "ToolPlex$Multiplexer" "taken" "[I" ∈ GT := gt 359 (by decide +kernel) (by decide +kernel)
theorem dX7_init_29 : decode cX7_init 29 = .ok (.putfield 22, 3) := by decide +kernel
theorem dX7_init_32 : decode cX7_init 32 = .ok (.aload_n 0, 1) := by decide +kernel
theorem dX7_init_33 : decode cX7_init 33 = .ok (.bipush 18, 2) := by decide +kernel
theorem q345 : Cond.classLink RX7 26 RX5 ∈ GT := gt 345 (by decide +kernel) (by decide +kernel)
theorem dX7_init_35 : decode cX7_init 35 = .ok (.anewarray 26, 3) := by decide +kernel
theorem q360 : Cond.fieldLink RX7 28 "ToolPlex$Multiplexer" "faults" "[LToolPlex$Items;" ∈ GT := gt 360 (by decide +kernel) (by decide +kernel)
theorem dX7_init_38 : decode cX7_init 38 = .ok (.putfield 28, 3) := by decide +kernel
theorem dX7_init_41 : decode cX7_init 41 = .ok (.aload_n 0, 1) := by decide +kernel
theorem q346 : Cond.classLink RX7 32 RJx4a65c ∈ GT := gt 346 (by decide +kernel) (by decide +kernel)
theorem dX7_init_42 : decode cX7_init 42 = .ok (.new 32, 3) := by decide +kernel
theorem dX7_init_45 : decode cX7_init 45 = .ok (.dup, 1) := by decide +kernel
theorem dX7_init_46 : decode cX7_init 46 = .ok (.invokespecial 34, 3) := by decide +kernel
theorem q347 : Cond.methodLink RX7 34 yJx4a65c_init_da8c8 ∈ GT := gt 347 (by decide +kernel) (by decide +kernel)
theorem q361 : Cond.fieldLink RX7 35 "ToolPlex$Multiplexer" "pending" "Ljava/util/ArrayList;" ∈ GT := gt 361 (by decide +kernel) (by decide +kernel)
theorem dX7_init_49 : decode cX7_init 49 = .ok (.putfield 35, 3) := by decide +kernel
theorem dX7_init_52 : decode cX7_init 52 = .ok (.aload_n 0, 1) := by decide +kernel
theorem dX7_init_53 : decode cX7_init 53 = .ok (.sipush 240, 3) := by decide +kernel
theorem dX7_init_56 : decode cX7_init 56 = .ok (.newarray .int, 2) := by decide +kernel
theorem q362 : Cond.fieldLink RX7 39 "ToolPlex$Multiplexer" "ids" "[I" ∈ GT := gt 362 (by decide +kernel) (by decide +kernel)
theorem dX7_init_58 : decode cX7_init 58 = .ok (.putfield 39, 3) := by decide +kernel
theorem dX7_init_61 : decode cX7_init 61 = .ok (.aload_n 0, 1) := by decide +kernel
theorem dX7_init_62 : decode cX7_init 62 = .ok (.new 26, 3) := by decide +kernel
theorem dX7_init_65 : decode cX7_init 65 = .ok (.dup, 1) := by decide +kernel
theorem dX7_init_66 : decode cX7_init 66 = .ok (.invokespecial 42, 3) := by decide +kernel
theorem q348 : Cond.methodLinkNest RX7 42 yX5_init "ToolPlex" ∈ GT := gt 348 (by decide +kernel) (by decide +kernel)
theorem q364 : Cond.fieldLink RX7 43 "ToolPlex$Multiplexer" "merged" "LToolPlex$Items;" ∈ GT := gt 364 (by decide +kernel) (by decide +kernel)
theorem dX7_init_69 : decode cX7_init 69 = .ok (.putfield 43, 3) := by decide +kernel
theorem dX7_init_72 : decode cX7_init 72 = .ok (.aload_n 0, 1) := by decide +kernel
theorem q349 : Cond.classLink RX7 47 RX1 ∈ GT := gt 349 (by decide +kernel) (by decide +kernel)
theorem q233 : Cond.instantiable RX1 1 ∈ GT := gt 233 (by decide +kernel) (by decide +kernel)
theorem q129 : Cond.initialized RX1 ∈ GT := gt 129 (by decide +kernel) (by decide +kernel)
theorem dX7_init_73 : decode cX7_init 73 = .ok (.new 47, 3) := by decide +kernel
theorem dX7_init_76 : decode cX7_init 76 = .ok (.dup, 1) := by decide +kernel
theorem dX7_init_77 : decode cX7_init 77 = .ok (.invokespecial 49, 3) := by decide +kernel
theorem q236 : Cond.code yX1_init cX1_init 1 none ∈ GT := gt 236 (rfl) (by decide +kernel)
theorem M_X1_init : MY yX1_init cX1_init 1 none 0 := ⟨q236, q129, by decide +kernel, by decide +kernel⟩
theorem q350 : Cond.methodLinkNest RX7 49 yX1_init "ToolPlex" ∈ GT := gt 350 (by decide +kernel) (by decide +kernel)
theorem q235 : Cond.instanceMethod yX1_init ∈ GT := gt 235 (by decide +kernel) (by decide +kernel)
theorem q365 : Cond.fieldLink RX7 50 "ToolPlex$Multiplexer" "nowhere" "LToolPlex$Channel;" ∈ GT := gt 365 (by decide +kernel) (by decide +kernel)
theorem dX7_init_80 : decode cX7_init 80 = .ok (.putfield 50, 3) := by decide +kernel
theorem dX7_init_83 : decode cX7_init 83 = .ok (.aload_n 0, 1) := by decide +kernel
theorem dX7_init_84 : decode cX7_init 84 = .ok (.aload_n 1, 1) := by decide +kernel
theorem q354 : Cond.fieldLink RX7 54 "ToolPlex$Multiplexer" "files" "LToolPlex$Files;" ∈ GT := gt 354 (by decide +kernel) (by decide +kernel)
theorem dX7_init_85 : decode cX7_init 85 = .ok (.putfield 54, 3) := by decide +kernel
theorem dX7_init_88 : decode cX7_init 88 = .ok (.aload_n 0, 1) := by decide +kernel
theorem dX7_init_89 : decode cX7_init 89 = .ok (.aload_n 2, 1) := by decide +kernel
theorem q355 : Cond.fieldLink RX7 58 "ToolPlex$Multiplexer" "servers" "Ljava/util/ArrayList;" ∈ GT := gt 355 (by decide +kernel) (by decide +kernel)
theorem dX7_init_90 : decode cX7_init 90 = .ok (.putfield 58, 3) := by decide +kernel
theorem dX7_init_93 : decode cX7_init 93 = .ok (.aload_n 0, 1) := by decide +kernel
theorem dX7_init_94 : decode cX7_init 94 = .ok (.aload_n 3, 1) := by decide +kernel
theorem q356 : Cond.fieldLink RX7 61 "ToolPlex$Multiplexer" "channels" "[LToolPlex$Channel;" ∈ GT := gt 356 (by decide +kernel) (by decide +kernel)
theorem dX7_init_95 : decode cX7_init 95 = .ok (.putfield 61, 3) := by decide +kernel
theorem dX7_init_98 : decode cX7_init 98 = .ok (.iconst 0, 1) := by decide +kernel
theorem dX7_init_99 : decode cX7_init 99 = .ok (.istore 4, 2) := by decide +kernel
theorem dX7_init_101 : decode cX7_init 101 = .ok (.iload 4, 2) := by decide +kernel
theorem dX7_init_103 : decode cX7_init 103 = .ok (.bipush 6, 2) := by decide +kernel
theorem dX7_init_105 : decode cX7_init 105 = .ok (.if_icmp .ge 23, 3) := by decide +kernel
theorem dX7_init_108 : decode cX7_init 108 = .ok (.aload_n 0, 1) := by decide +kernel
theorem dX7_init_109 : decode cX7_init 109 = .ok (.getfield 11, 3) := by decide +kernel
theorem dX7_init_112 : decode cX7_init 112 = .ok (.iload 4, 2) := by decide +kernel
theorem dX7_init_114 : decode cX7_init 114 = .ok (.new 9, 3) := by decide +kernel
theorem dX7_init_117 : decode cX7_init 117 = .ok (.dup, 1) := by decide +kernel
theorem dX7_init_118 : decode cX7_init 118 = .ok (.invokespecial 17, 3) := by decide +kernel
theorem dX7_init_121 : decode cX7_init 121 = .ok (.aastore, 1) := by decide +kernel
theorem dX7_init_122 : decode cX7_init 122 = .ok (.iinc 4 1, 3) := by decide +kernel
theorem dX7_init_125 : decode cX7_init 125 = .ok (.goto (-24), 3) := by decide +kernel
theorem dX7_init_128 : decode cX7_init 128 = .ok (.iconst 0, 1) := by decide +kernel
theorem dX7_init_129 : decode cX7_init 129 = .ok (.istore 4, 2) := by decide +kernel
theorem dX7_init_131 : decode cX7_init 131 = .ok (.iload 4, 2) := by decide +kernel
theorem dX7_init_133 : decode cX7_init 133 = .ok (.aload_n 0, 1) := by decide +kernel
theorem dX7_init_134 : decode cX7_init 134 = .ok (.getfield 28, 3) := by decide +kernel
theorem dX7_init_137 : decode cX7_init 137 = .ok (.arraylength, 1) := by decide +kernel
theorem dX7_init_138 : decode cX7_init 138 = .ok (.if_icmp .ge 23, 3) := by decide +kernel
theorem dX7_init_141 : decode cX7_init 141 = .ok (.aload_n 0, 1) := by decide +kernel
theorem dX7_init_142 : decode cX7_init 142 = .ok (.getfield 28, 3) := by decide +kernel
theorem dX7_init_145 : decode cX7_init 145 = .ok (.iload 4, 2) := by decide +kernel
theorem dX7_init_147 : decode cX7_init 147 = .ok (.new 26, 3) := by decide +kernel
theorem dX7_init_150 : decode cX7_init 150 = .ok (.dup, 1) := by decide +kernel
theorem dX7_init_151 : decode cX7_init 151 = .ok (.invokespecial 42, 3) := by decide +kernel
theorem dX7_init_154 : decode cX7_init 154 = .ok (.aastore, 1) := by decide +kernel
theorem dX7_init_155 : decode cX7_init 155 = .ok (.iinc 4 1, 3) := by decide +kernel
theorem dX7_init_158 : decode cX7_init 158 = .ok (.goto (-27), 3) := by decide +kernel
theorem dX7_init_161 : decode cX7_init 161 = .ok (.aload_n 0, 1) := by decide +kernel
theorem dX7_init_162 : decode cX7_init 162 = .ok (.getfield 39, 3) := by decide +kernel
theorem dX7_init_165 : decode cX7_init 165 = .ok (.iconst (-1), 1) := by decide +kernel
theorem dX7_init_166 : decode cX7_init 166 = .ok (.invokestatic 65, 3) := by decide +kernel
theorem q353 : Cond.code yJ7_fill_53178 cJ7_fill_53178 4 none ∈ GT := gt 353 (rfl) (by decide +kernel)
theorem q134 : Cond.initialized RJ7 ∈ GT := gt 134 (by decide +kernel) (by decide +kernel)
theorem M_J7_fill_53178 : MY yJ7_fill_53178 cJ7_fill_53178 4 none 2 := ⟨q353, q134, by decide +kernel, by decide +kernel⟩
theorem q351 : Cond.methodLink RX7 65 yJ7_fill_53178 ∈ GT := gt 351 (by decide +kernel) (by decide +kernel)
theorem q352 : Cond.static yJ7_fill_53178 ∈ GT := gt 352 (by decide +kernel) (by decide +kernel)
theorem dX7_init_169 : decode cX7_init 169 = .ok (.return_, 1) := by decide +kernel
set_option maxHeartbeats 4000000 in
set_option maxRecDepth 100000 in
theorem k_X7_init (l : Launch) (d0 : Nat) (cO : ClassId) (dC : Nat → ClassId) (dI : Nat → Nat → Nat) (sz : Nat) (h0 : Nat) (v0 v1 v2 v3 v4 v5 v6 v7 v8 v10 v11 : Value) (i9 : Int32) (a1 a2 a3 : Nat) : Met l yX7_init (cn yX7_init cX7_init 5 none) (rmd 5 61 1792) (va_Pc [.ref h0, .ref a1, .ref a2, .ref a3] (PRE d0 cO (dC, dI) (va_A [(h0, .inr (8, [v0, v1, v2, v3, v4, v5, v6, v7, v8, .int i9, v10, v11]))] sz) [(h0, .inr (8, [v0, v1, v2, v3, v4, v5, v6, v7, v8, .int i9, v10, v11]))] [] sz)) (va_Qv (fun (_ : Unit) => True) (fun (_ : Unit) (t : State) => ∃ w4 : Value, ∃ w5 : Value, ∃ w6 : Value, ∃ w7 : Value, ∃ w8 : Value, ∃ w10 : Value, ∃ w11 : Value, ∃ cp : Nat, ∃ tP : ClassId, ∃ p0 : Nat, ∃ p1 : Nat, ∃ p2 : Nat, ∃ p3 : Nat, ∃ p4 : Nat, ∃ p5 : Nat, ∃ x0 : Value, ∃ y0 : Value, ∃ z0 : Value, ∃ x1 : Value, ∃ y1 : Value, ∃ z1 : Value, ∃ x2 : Value, ∃ y2 : Value, ∃ z2 : Value, ∃ x3 : Value, ∃ y3 : Value, ∃ z3 : Value, ∃ x4 : Value, ∃ y4 : Value, ∃ z4 : Value, ∃ x5 : Value, ∃ y5 : Value, ∃ z5 : Value, POW (dC, dI) (va_A [(h0, .inr (8, [v0, v1, v2, v3, v4, v5, v6, v7, v8, .int i9, v10, v11]))] sz) [(h0, .inr (8, [.ref a1, .ref a2, .ref a3, .ref cp, w4, w5, w6, w7, w8, .int i9, w10, w11])), (cp, .inl (tP, 6, .inr (.inr (.inr (.inr ((va_up (va_up (va_up (va_up (va_up (va_up (fun _ => none) 0 (some p0)) 1 (some p1)) 2 (some p2)) 3 (some p3)) 4 (some p4)) 5 (some p5)))))))), (p0, .inr (3, [x0, y0, z0, .int 0, .int ((-1)), .int ((-1)), .int ((-1))])), (p1, .inr (3, [x1, y1, z1, .int 0, .int ((-1)), .int ((-1)), .int ((-1))])), (p2, .inr (3, [x2, y2, z2, .int 0, .int ((-1)), .int ((-1)), .int ((-1))])), (p3, .inr (3, [x3, y3, z3, .int 0, .int ((-1)), .int ((-1)), .int ((-1))])), (p4, .inr (3, [x4, y4, z4, .int 0, .int ((-1)), .int ((-1)), .int ((-1))])), (p5, .inr (3, [x5, y5, z5, .int 0, .int ((-1)), .int ((-1)), .int ((-1))]))] [(tP, .object RX2)] t) (va_A [(h0, .inr (8, [v0, v1, v2, v3, v4, v5, v6, v7, v8, .int i9, v10, v11]))] sz)) 61 1792 (va_A [(h0, .inr (8, [v0, v1, v2, v3, v4, v5, v6, v7, v8, .int i9, v10, v11]))] sz) := by
  refine Met.ofW (cc := cX7_init) (maxL := 5) (ret := none) (by decide) rfl ?_
  intro p e s m args below meth c s₁ B hml hv
  obtain ⟨rfl, hsz, hE, hP, hK, hD0⟩ := hv
  have hx := B.exec
  have hb := B.bytes
  have hr := B.returns
  have hts := atoms_spec (ws := cn yX7_init cX7_init 5 none) B.pre
  have ht : ∀ w ∈ GT, w.before _ s = true := fun w h => hts w (List.mem_cons_of_mem _ h)
  have hown : s.vm.findClass RX7 = some m.cls := findClass_of_methodNamed B.named
  have hlocks := B.notSynchronized
  have hin : meth.name = "<init>" := (name_of_methodNamed B.named B.method).1
  subst hsz
  have hD := hD0.self (sz := s.heap.size)
  generalize hAe : va_A [(h0, .inr (8, [v0, v1, v2, v3, v4, v5, v6, v7, v8, .int i9, v10, v11]))] s.heap.size = A at hD hE ⊢
  have hA : ∀ q : Nat, s.heap.size ≤ q → A q := fun q h => by rw [← hAe]; exact Or.inr h
  obtain ⟨H, hH0⟩ : ∃ H, s.heap = H := ⟨_, rfl⟩
  have hS : va_S A s.heap H [] := by rw [← hH0]; exact va_S.rf
  rw [hH0] at hP
  have hl := lv_entry ([.ref h0, .ref a1, .ref a2, .ref a3]) (n := 5) (Nat.le_of_ble_eq_true rfl)
  rw [lg_entry_eq]
  generalize (lg_sl ([.ref h0, .ref a1, .ref a2, .ref a3]) ++ List.replicate (5 - (lg_sl ([.ref h0, .ref a1, .ref a2, .ref a3])).length) Slot.unset).toArray = ls at hl ⊢
  have hl : lv_has ls 5 [(0, .ref h0), (1, .ref a1), (2, .ref a2), (3, .ref a3)] := hl
  rw [hH0]
  refine lv_aload_n hx hb dX7_init_0 rfl (lv_at hl 0 rfl) ?_
  refine W.objInit hx hb hown (ht _ q342) (ht _ q157) (ht _ q158) rfl (by rw [hml]; exact hl.1) rfl dX7_init_1 (Nat.le_of_ble_eq_true rfl) (Nat.le_of_ble_eq_true rfl) ?_
  refine W.eq (g2 := F0 m 4 ls []) rfl ?_
  refine lv_aload_n hx hb dX7_init_4 rfl (lv_at hl 0 rfl) ?_
  refine lv_bipush (v := 6) hx hb dX7_init_5 (by decide) ?_
  refine va_newq (C := RX2) (N' := 6) hx hb hown (ht _ q343) (hE.1.2.1) hK hP hD hS hA (by decide) (by decide) (by decide) (Nat.le_of_ble_eq_true rfl) (Nat.le_of_ble_eq_true rfl) dX7_init_7 (fun q1 t2 H hK hP hD hS => ?_)
  have hK : va_K (dC, dI) vwCl [(t2, .object RX2)] s := hK
  have hP : va_P (dC, dI) vwCl [(h0, .inr (8, [v0, v1, v2, v3, v4, v5, v6, v7, v8, .int i9, v10, v11])), (q1, .inl (t2, 6, .inr (.inr (.inr (.inr ((fun _ => none)))))))] H := hP
  have hD : va_D A [(h0, .inr (8, [v0, v1, v2, v3, v4, v5, v6, v7, v8, .int i9, v10, v11])), (q1, .inl (t2, 6, .inr (.inr (.inr (.inr ((fun _ => none)))))))] := hD
  refine W.widen (k := 1) (n := 6) (Nat.le_of_ble_eq_true rfl) (Nat.le_of_ble_eq_true rfl) ?_
  refine va_putF (D := (dC, dI)) (ci := 8) (v := .ref q1) (ty := .array (.object "ToolPlex$Copy")) (C := RX7) (T := TX7) (N := 12) hx hb ht inGX7 tyX7 tyX7_ok nmX7 hown hK hP hD hS 0 rfl rfl 3 (by decide) (ht _ q357) (fun _ h9 => h9) rfl hin rfl (by decide +kernel) rfl rfl (Nat.le_of_ble_eq_true rfl) dX7_init_10 (fun H locs hP hD hS => ?_)
  have hP : va_P (dC, dI) vwCl [(h0, .inr (8, [v0, v1, v2, .ref q1, v4, v5, v6, v7, v8, .int i9, v10, v11])), (q1, .inl (t2, 6, .inr (.inr (.inr (.inr ((fun _ => none)))))))] H := hP
  have hD : va_D A [(h0, .inr (8, [v0, v1, v2, .ref q1, v4, v5, v6, v7, v8, .int i9, v10, v11])), (q1, .inl (t2, 6, .inr (.inr (.inr (.inr ((fun _ => none)))))))] := hD
  refine lv_aload_n hx hb dX7_init_13 rfl (lv_at hl 0 rfl) ?_
  refine va_new (ci := 3) (fs := [.null, .null, .null, .int 0, .int 0, .int 0, .int 0]) (C := RX2) (T := TX2) (N := 7) hx hb ht inGX2 tyX2 tyX2_ok hown (ht _ q343) (ht _ q253) (ht _ q131) hK hP hD hS hA rfl (fun j hj => by rcases (show j = 0 ∨ j = 1 ∨ j = 2 ∨ j = 3 ∨ j = 4 ∨ j = 5 ∨ j = 6 by omega) with rfl | rfl | rfl | rfl | rfl | rfl | rfl <;> rfl) (Nat.le_of_ble_eq_true rfl) (Nat.le_of_ble_eq_true rfl) dX7_init_14 (fun q3 H hP hD hS => ?_)
  have hP : va_P (dC, dI) vwCl [(h0, .inr (8, [v0, v1, v2, .ref q1, v4, v5, v6, v7, v8, .int i9, v10, v11])), (q1, .inl (t2, 6, .inr (.inr (.inr (.inr ((fun _ => none))))))), (q3, .inr (3, [.null, .null, .null, .int 0, .int 0, .int 0, .int 0]))] H := hP
  have hD : va_D A [(h0, .inr (8, [v0, v1, v2, .ref q1, v4, v5, v6, v7, v8, .int i9, v10, v11])), (q1, .inl (t2, 6, .inr (.inr (.inr (.inr ((fun _ => none))))))), (q3, .inr (3, [.null, .null, .null, .int 0, .int 0, .int 0, .int 0]))] := hD
  refine W.widen (k := 2) (n := 13) (Nat.le_of_ble_eq_true rfl) (Nat.le_of_ble_eq_true rfl) ?_
  refine lv_dup hx hb dX7_init_17 rfl ?_
  have hPc := hP.sub (ws' := [(q3, .inr (3, [.null, .null, .null, .int 0, .int 0, .int 0, .int 0]))]) [2] rfl
  have hDc := hD.sub (ws' := [(q3, .inr (3, [.null, .null, .null, .int 0, .int 0, .int 0, .int 0]))]) [2] (by decide) rfl
  have hKc := hK.sub (tys' := []) [] rfl
  have hFc := va_free (wc := [(q3, .inr (3, [.null, .null, .null, .int 0, .int 0, .int 0, .int 0]))]) hD hS hA [2] rfl
  refine va_callv (va_runIN (As := []) (rest := [.ref q3, .ref h0]) ⟨hx, hb, hml, hown, ht⟩ (k_X2_init l d0 cO dC dI H.size q3 .null .null .null 0 0 0 0) (my_NI ht M_X2_init q255 rfl q344 (Nat.le_of_ble_eq_true rfl) (Nat.le_of_ble_eq_true rfl)) ⟨PRE.fb, fun U hU hW => ⟨rfl, PRE.mk' hE hS hFc hPc hKc hDc U hU hW⟩⟩ rfl rfl hl.1 rfl (lv_room (Nat.le_of_ble_eq_true rfl)) dX7_init_18 ⟨(Nat.le_of_ble_eq_true rfl), (Nat.le_of_ble_eq_true rfl)⟩) hS (fun q _ h => hFc q h) hFc (fun u4 t H1 locs htt hvm hw hB hz1 hk1 hS => ?_)
  try dsimp only at hw hB
  obtain ⟨w06, w17, w28, hP1, hK1, hD1⟩ := hB
  rw [htt] at hP1
  have hK1 := va_K.moved hvm.symm hK1
  obtain ⟨hP, hD⟩ := va_join (wr := [(h0, .inr (8, [v0, v1, v2, .ref q1, v4, v5, v6, v7, v8, .int i9, v10, v11])), (q1, .inl (t2, 6, .inr (.inr (.inr (.inr ((fun _ => none)))))))]) (w1 := [(q3, .inr (3, [w06, w17, w28, .int 0, .int ((-1)), .int ((-1)), .int ((-1))]))]) hP hD [2] [0, 1] rfl rfl (by decide) (by decide) hk1 hFc hP1 hD1
  have hK := (hK.sub (tys' := [(t2, .object RX2)]) [0] rfl).app hK1
  generalize H1 = H at hP hS ⊢
  have hP : va_P (dC, dI) vwCl [(h0, .inr (8, [v0, v1, v2, .ref q1, v4, v5, v6, v7, v8, .int i9, v10, v11])), (q1, .inl (t2, 6, .inr (.inr (.inr (.inr ((fun _ => none))))))), (q3, .inr (3, [w06, w17, w28, .int 0, .int ((-1)), .int ((-1)), .int ((-1))]))] H := hP
  have hD : va_D A [(h0, .inr (8, [v0, v1, v2, .ref q1, v4, v5, v6, v7, v8, .int i9, v10, v11])), (q1, .inl (t2, 6, .inr (.inr (.inr (.inr ((fun _ => none))))))), (q3, .inr (3, [w06, w17, w28, .int 0, .int ((-1)), .int ((-1)), .int ((-1))]))] := hD
  have hK : va_K (dC, dI) vwCl [(t2, .object RX2)] s := hK
  refine W.widen (k := 6) (n := 217) (Nat.le_of_ble_eq_true rfl) (Nat.le_of_ble_eq_true rfl) ?_
  refine va_putF (D := (dC, dI)) (ci := 8) (v := .ref q3) (ty := .object "ToolPlex$Copy") (C := RX7) (T := TX7) (N := 12) hx hb ht inGX7 tyX7 tyX7_ok nmX7 hown hK hP hD hS 0 rfl rfl 4 (by decide) (ht _ q358) (fun _ h9 => h9) rfl hin rfl (by decide +kernel) rfl rfl (Nat.le_of_ble_eq_true rfl) dX7_init_21 (fun H locs hP hD hS => ?_)
  have hP : va_P (dC, dI) vwCl [(h0, .inr (8, [v0, v1, v2, .ref q1, .ref q3, v5, v6, v7, v8, .int i9, v10, v11])), (q1, .inl (t2, 6, .inr (.inr (.inr (.inr ((fun _ => none))))))), (q3, .inr (3, [w06, w17, w28, .int 0, .int ((-1)), .int ((-1)), .int ((-1))]))] H := hP
  have hD : va_D A [(h0, .inr (8, [v0, v1, v2, .ref q1, .ref q3, v5, v6, v7, v8, .int i9, v10, v11])), (q1, .inl (t2, 6, .inr (.inr (.inr (.inr ((fun _ => none))))))), (q3, .inr (3, [w06, w17, w28, .int 0, .int ((-1)), .int ((-1)), .int ((-1))]))] := hD
  refine lv_aload_n hx hb dX7_init_24 rfl (lv_at hl 0 rfl) ?_
  refine lv_bipush (v := 6) hx hb dX7_init_25 (by decide) ?_
  refine va_newa (atype := .int) (ty := .int) (a0 := (6, .inl (fun _ => 0))) (N' := 6) hx hb (ht _ q204) rfl hK hP hD hS hA (fun _ => rfl) (by decide) (by decide) (by decide) (Nat.le_of_ble_eq_true rfl) (Nat.le_of_ble_eq_true rfl) dX7_init_27 (fun q9 t10 H hK hP hD hS => ?_)
  have hK : va_K (dC, dI) vwCl [(t2, .object RX2), (t10, .int)] s := hK
  have hP : va_P (dC, dI) vwCl [(h0, .inr (8, [v0, v1, v2, .ref q1, .ref q3, v5, v6, v7, v8, .int i9, v10, v11])), (q1, .inl (t2, 6, .inr (.inr (.inr (.inr ((fun _ => none))))))), (q3, .inr (3, [w06, w17, w28, .int 0, .int ((-1)), .int ((-1)), .int ((-1))])), (q9, .inl (t10, 6, .inl ((fun _ => 0))))] H := hP
  have hD : va_D A [(h0, .inr (8, [v0, v1, v2, .ref q1, .ref q3, v5, v6, v7, v8, .int i9, v10, v11])), (q1, .inl (t2, 6, .inr (.inr (.inr (.inr ((fun _ => none))))))), (q3, .inr (3, [w06, w17, w28, .int 0, .int ((-1)), .int ((-1)), .int ((-1))])), (q9, .inl (t10, 6, .inl ((fun _ => 0))))] := hD
  refine W.widen (k := 7) (n := 223) (Nat.le_of_ble_eq_true rfl) (Nat.le_of_ble_eq_true rfl) ?_
  refine va_putF (D := (dC, dI)) (ci := 8) (v := .ref q9) (ty := .array .int) (C := RX7) (T := TX7) (N := 12) hx hb ht inGX7 tyX7 tyX7_ok nmX7 hown hK hP hD hS 0 rfl rfl 5 (by decide) (ht _ q359) (fun _ h9 => h9) rfl hin rfl (by decide +kernel) rfl rfl (Nat.le_of_ble_eq_true rfl) dX7_init_29 (fun H locs hP hD hS => ?_)
  have hP : va_P (dC, dI) vwCl [(h0, .inr (8, [v0, v1, v2, .ref q1, .ref q3, .ref q9, v6, v7, v8, .int i9, v10, v11])), (q1, .inl (t2, 6, .inr (.inr (.inr (.inr ((fun _ => none))))))), (q3, .inr (3, [w06, w17, w28, .int 0, .int ((-1)), .int ((-1)), .int ((-1))])), (q9, .inl (t10, 6, .inl ((fun _ => 0))))] H := hP
  have hD : va_D A [(h0, .inr (8, [v0, v1, v2, .ref q1, .ref q3, .ref q9, v6, v7, v8, .int i9, v10, v11])), (q1, .inl (t2, 6, .inr (.inr (.inr (.inr ((fun _ => none))))))), (q3, .inr (3, [w06, w17, w28, .int 0, .int ((-1)), .int ((-1)), .int ((-1))])), (q9, .inl (t10, 6, .inl ((fun _ => 0))))] := hD
  refine lv_aload_n hx hb dX7_init_32 rfl (lv_at hl 0 rfl) ?_
  refine lv_bipush (v := 18) hx hb dX7_init_33 (by decide) ?_
  refine va_newq (C := RX5) (N' := 18) hx hb hown (ht _ q345) (hE.1.2.2.1) hK hP hD hS hA (by decide) (by decide) (by decide) (Nat.le_of_ble_eq_true rfl) (Nat.le_of_ble_eq_true rfl) dX7_init_35 (fun q11 t12 H hK hP hD hS => ?_)
  have hK : va_K (dC, dI) vwCl [(t2, .object RX2), (t10, .int), (t12, .object RX5)] s := hK
  have hP : va_P (dC, dI) vwCl [(h0, .inr (8, [v0, v1, v2, .ref q1, .ref q3, .ref q9, v6, v7, v8, .int i9, v10, v11])), (q1, .inl (t2, 6, .inr (.inr (.inr (.inr ((fun _ => none))))))), (q3, .inr (3, [w06, w17, w28, .int 0, .int ((-1)), .int ((-1)), .int ((-1))])), (q9, .inl (t10, 6, .inl ((fun _ => 0)))), (q11, .inl (t12, 18, .inr (.inr (.inr (.inr ((fun _ => none)))))))] H := hP
  have hD : va_D A [(h0, .inr (8, [v0, v1, v2, .ref q1, .ref q3, .ref q9, v6, v7, v8, .int i9, v10, v11])), (q1, .inl (t2, 6, .inr (.inr (.inr (.inr ((fun _ => none))))))), (q3, .inr (3, [w06, w17, w28, .int 0, .int ((-1)), .int ((-1)), .int ((-1))])), (q9, .inl (t10, 6, .inl ((fun _ => 0)))), (q11, .inl (t12, 18, .inr (.inr (.inr (.inr ((fun _ => none)))))))] := hD
  refine W.widen (k := 8) (n := 241) (Nat.le_of_ble_eq_true rfl) (Nat.le_of_ble_eq_true rfl) ?_
  refine va_putF (D := (dC, dI)) (ci := 8) (v := .ref q11) (ty := .array (.object "ToolPlex$Items")) (C := RX7) (T := TX7) (N := 12) hx hb ht inGX7 tyX7 tyX7_ok nmX7 hown hK hP hD hS 0 rfl rfl 6 (by decide) (ht _ q360) (fun _ h9 => h9) rfl hin rfl (by decide +kernel) rfl rfl (Nat.le_of_ble_eq_true rfl) dX7_init_38 (fun H locs hP hD hS => ?_)
  have hP : va_P (dC, dI) vwCl [(h0, .inr (8, [v0, v1, v2, .ref q1, .ref q3, .ref q9, .ref q11, v7, v8, .int i9, v10, v11])), (q1, .inl (t2, 6, .inr (.inr (.inr (.inr ((fun _ => none))))))), (q3, .inr (3, [w06, w17, w28, .int 0, .int ((-1)), .int ((-1)), .int ((-1))])), (q9, .inl (t10, 6, .inl ((fun _ => 0)))), (q11, .inl (t12, 18, .inr (.inr (.inr (.inr ((fun _ => none)))))))] H := hP
  have hD : va_D A [(h0, .inr (8, [v0, v1, v2, .ref q1, .ref q3, .ref q9, .ref q11, v7, v8, .int i9, v10, v11])), (q1, .inl (t2, 6, .inr (.inr (.inr (.inr ((fun _ => none))))))), (q3, .inr (3, [w06, w17, w28, .int 0, .int ((-1)), .int ((-1)), .int ((-1))])), (q9, .inl (t10, 6, .inl ((fun _ => 0)))), (q11, .inl (t12, 18, .inr (.inr (.inr (.inr ((fun _ => none)))))))] := hD
  refine lv_aload_n hx hb dX7_init_41 rfl (lv_at hl 0 rfl) ?_
  refine va_new (ci := 0) (fs := [.int 0, .null, .int 0]) (C := RJx4a65c) (T := TJx4a65c) (N := 3) hx hb ht inGJx4a65c tyJx4a65c tyJx4a65c_ok hown (ht _ q346) (ht _ q206) (ht _ q128) hK hP hD hS hA rfl (fun j hj => by rcases (show j = 0 ∨ j = 1 ∨ j = 2 by omega) with rfl | rfl | rfl <;> rfl) (Nat.le_of_ble_eq_true rfl) (Nat.le_of_ble_eq_true rfl) dX7_init_42 (fun q13 H hP hD hS => ?_)
  have hP : va_P (dC, dI) vwCl [(h0, .inr (8, [v0, v1, v2, .ref q1, .ref q3, .ref q9, .ref q11, v7, v8, .int i9, v10, v11])), (q1, .inl (t2, 6, .inr (.inr (.inr (.inr ((fun _ => none))))))), (q3, .inr (3, [w06, w17, w28, .int 0, .int ((-1)), .int ((-1)), .int ((-1))])), (q9, .inl (t10, 6, .inl ((fun _ => 0)))), (q11, .inl (t12, 18, .inr (.inr (.inr (.inr ((fun _ => none))))))), (q13, .inr (0, [.int 0, .null, .int 0]))] H := hP
  have hD : va_D A [(h0, .inr (8, [v0, v1, v2, .ref q1, .ref q3, .ref q9, .ref q11, v7, v8, .int i9, v10, v11])), (q1, .inl (t2, 6, .inr (.inr (.inr (.inr ((fun _ => none))))))), (q3, .inr (3, [w06, w17, w28, .int 0, .int ((-1)), .int ((-1)), .int ((-1))])), (q9, .inl (t10, 6, .inl ((fun _ => 0)))), (q11, .inl (t12, 18, .inr (.inr (.inr (.inr ((fun _ => none))))))), (q13, .inr (0, [.int 0, .null, .int 0]))] := hD
  refine W.widen (k := 9) (n := 244) (Nat.le_of_ble_eq_true rfl) (Nat.le_of_ble_eq_true rfl) ?_
  refine lv_dup hx hb dX7_init_45 rfl ?_
  have hPc := hP.sub (ws' := [(q13, .inr (0, [.int 0, .null, .int 0]))]) [5] rfl
  have hDc := hD.sub (ws' := [(q13, .inr (0, [.int 0, .null, .int 0]))]) [5] (by decide) rfl
  have hKc := hK.sub (tys' := []) [] rfl
  have hFc := va_free (wc := [(q13, .inr (0, [.int 0, .null, .int 0]))]) hD hS hA [5] rfl
  refine va_callv (va_runI (As := []) (rest := [.ref q13, .ref h0]) ⟨hx, hb, hml, hown, ht⟩ (k_Jx4a65c_init_da8c8 l d0 cO dC dI H.size q13 0 .null 0) (my_I ht M_Jx4a65c_init_da8c8 q208 rfl q347 (Nat.le_of_ble_eq_true rfl) (Nat.le_of_ble_eq_true rfl)) ⟨PRE.fb, fun U hU hW => ⟨rfl, PRE.mk' hE hS hFc hPc hKc hDc U hU hW⟩⟩ rfl rfl hl.1 rfl (lv_room (Nat.le_of_ble_eq_true rfl)) dX7_init_46 ⟨(Nat.le_of_ble_eq_true rfl), (Nat.le_of_ble_eq_true rfl)⟩) hS (fun q _ h => hFc q h) hFc (fun u14 t H1 locs htt hvm hw hB hz1 hk1 hS => ?_)
  try dsimp only at hw hB
  obtain ⟨hP1, hK1, hD1⟩ := hB
  rw [htt] at hP1
  have hK1 := va_K.moved hvm.symm hK1
  obtain ⟨hP, hD⟩ := va_join (wr := [(h0, .inr (8, [v0, v1, v2, .ref q1, .ref q3, .ref q9, .ref q11, v7, v8, .int i9, v10, v11])), (q1, .inl (t2, 6, .inr (.inr (.inr (.inr ((fun _ => none))))))), (q3, .inr (3, [w06, w17, w28, .int 0, .int ((-1)), .int ((-1)), .int ((-1))])), (q9, .inl (t10, 6, .inl ((fun _ => 0)))), (q11, .inl (t12, 18, .inr (.inr (.inr (.inr ((fun _ => none)))))))]) (w1 := [(q13, .inr (0, [.int 0, .ref d0, .int 0]))]) hP hD [5] [0, 1, 2, 3, 4] rfl rfl (by decide) (by decide) hk1 hFc hP1 hD1
  have hK := (hK.sub (tys' := [(t2, .object RX2), (t10, .int), (t12, .object RX5)]) [0, 1, 2] rfl).app hK1
  generalize H1 = H at hP hS ⊢
  have hP : va_P (dC, dI) vwCl [(h0, .inr (8, [v0, v1, v2, .ref q1, .ref q3, .ref q9, .ref q11, v7, v8, .int i9, v10, v11])), (q1, .inl (t2, 6, .inr (.inr (.inr (.inr ((fun _ => none))))))), (q3, .inr (3, [w06, w17, w28, .int 0, .int ((-1)), .int ((-1)), .int ((-1))])), (q9, .inl (t10, 6, .inl ((fun _ => 0)))), (q11, .inl (t12, 18, .inr (.inr (.inr (.inr ((fun _ => none))))))), (q13, .inr (0, [.int 0, .ref d0, .int 0]))] H := hP
  have hD : va_D A [(h0, .inr (8, [v0, v1, v2, .ref q1, .ref q3, .ref q9, .ref q11, v7, v8, .int i9, v10, v11])), (q1, .inl (t2, 6, .inr (.inr (.inr (.inr ((fun _ => none))))))), (q3, .inr (3, [w06, w17, w28, .int 0, .int ((-1)), .int ((-1)), .int ((-1))])), (q9, .inl (t10, 6, .inl ((fun _ => 0)))), (q11, .inl (t12, 18, .inr (.inr (.inr (.inr ((fun _ => none))))))), (q13, .inr (0, [.int 0, .ref d0, .int 0]))] := hD
  have hK : va_K (dC, dI) vwCl [(t2, .object RX2), (t10, .int), (t12, .object RX5)] s := hK
  refine W.widen (k := 9) (n := 244) (Nat.le_of_ble_eq_true rfl) (Nat.le_of_ble_eq_true rfl) ?_
  refine va_putF (D := (dC, dI)) (ci := 8) (v := .ref q13) (ty := .object "java/util/ArrayList") (C := RX7) (T := TX7) (N := 12) hx hb ht inGX7 tyX7 tyX7_ok nmX7 hown hK hP hD hS 0 rfl rfl 7 (by decide) (ht _ q361) (fun _ h9 => h9) rfl hin rfl (by decide +kernel) rfl rfl (Nat.le_of_ble_eq_true rfl) dX7_init_49 (fun H locs hP hD hS => ?_)
  have hP : va_P (dC, dI) vwCl [(h0, .inr (8, [v0, v1, v2, .ref q1, .ref q3, .ref q9, .ref q11, .ref q13, v8, .int i9, v10, v11])), (q1, .inl (t2, 6, .inr (.inr (.inr (.inr ((fun _ => none))))))), (q3, .inr (3, [w06, w17, w28, .int 0, .int ((-1)), .int ((-1)), .int ((-1))])), (q9, .inl (t10, 6, .inl ((fun _ => 0)))), (q11, .inl (t12, 18, .inr (.inr (.inr (.inr ((fun _ => none))))))), (q13, .inr (0, [.int 0, .ref d0, .int 0]))] H := hP
  have hD : va_D A [(h0, .inr (8, [v0, v1, v2, .ref q1, .ref q3, .ref q9, .ref q11, .ref q13, v8, .int i9, v10, v11])), (q1, .inl (t2, 6, .inr (.inr (.inr (.inr ((fun _ => none))))))), (q3, .inr (3, [w06, w17, w28, .int 0, .int ((-1)), .int ((-1)), .int ((-1))])), (q9, .inl (t10, 6, .inl ((fun _ => 0)))), (q11, .inl (t12, 18, .inr (.inr (.inr (.inr ((fun _ => none))))))), (q13, .inr (0, [.int 0, .ref d0, .int 0]))] := hD
  refine lv_aload_n hx hb dX7_init_52 rfl (lv_at hl 0 rfl) ?_
  refine lv_sipush (v := 240) hx hb dX7_init_53 (by decide) ?_
  refine va_newa (atype := .int) (ty := .int) (a0 := (240, .inl (fun _ => 0))) (N' := 240) hx hb (ht _ q204) rfl hK hP hD hS hA (fun _ => rfl) (by decide) (by decide) (by decide) (Nat.le_of_ble_eq_true rfl) (Nat.le_of_ble_eq_true rfl) dX7_init_56 (fun q16 t17 H hK hP hD hS => ?_)
  have hK : va_K (dC, dI) vwCl [(t2, .object RX2), (t10, .int), (t12, .object RX5), (t17, .int)] s := hK
  have hP : va_P (dC, dI) vwCl [(h0, .inr (8, [v0, v1, v2, .ref q1, .ref q3, .ref q9, .ref q11, .ref q13, v8, .int i9, v10, v11])), (q1, .inl (t2, 6, .inr (.inr (.inr (.inr ((fun _ => none))))))), (q3, .inr (3, [w06, w17, w28, .int 0, .int ((-1)), .int ((-1)), .int ((-1))])), (q9, .inl (t10, 6, .inl ((fun _ => 0)))), (q11, .inl (t12, 18, .inr (.inr (.inr (.inr ((fun _ => none))))))), (q13, .inr (0, [.int 0, .ref d0, .int 0])), (q16, .inl (t17, 240, .inl ((fun _ => 0))))] H := hP
  have hD : va_D A [(h0, .inr (8, [v0, v1, v2, .ref q1, .ref q3, .ref q9, .ref q11, .ref q13, v8, .int i9, v10, v11])), (q1, .inl (t2, 6, .inr (.inr (.inr (.inr ((fun _ => none))))))), (q3, .inr (3, [w06, w17, w28, .int 0, .int ((-1)), .int ((-1)), .int ((-1))])), (q9, .inl (t10, 6, .inl ((fun _ => 0)))), (q11, .inl (t12, 18, .inr (.inr (.inr (.inr ((fun _ => none))))))), (q13, .inr (0, [.int 0, .ref d0, .int 0])), (q16, .inl (t17, 240, .inl ((fun _ => 0))))] := hD
  refine W.widen (k := 10) (n := 484) (Nat.le_of_ble_eq_true rfl) (Nat.le_of_ble_eq_true rfl) ?_
  refine va_putF (D := (dC, dI)) (ci := 8) (v := .ref q16) (ty := .array .int) (C := RX7) (T := TX7) (N := 12) hx hb ht inGX7 tyX7 tyX7_ok nmX7 hown hK hP hD hS 0 rfl rfl 8 (by decide) (ht _ q362) (fun _ h9 => h9) rfl hin rfl (by decide +kernel) rfl rfl (Nat.le_of_ble_eq_true rfl) dX7_init_58 (fun H locs hP hD hS => ?_)
  have hP : va_P (dC, dI) vwCl [(h0, .inr (8, [v0, v1, v2, .ref q1, .ref q3, .ref q9, .ref q11, .ref q13, .ref q16, .int i9, v10, v11])), (q1, .inl (t2, 6, .inr (.inr (.inr (.inr ((fun _ => none))))))), (q3, .inr (3, [w06, w17, w28, .int 0, .int ((-1)), .int ((-1)), .int ((-1))])), (q9, .inl (t10, 6, .inl ((fun _ => 0)))), (q11, .inl (t12, 18, .inr (.inr (.inr (.inr ((fun _ => none))))))), (q13, .inr (0, [.int 0, .ref d0, .int 0])), (q16, .inl (t17, 240, .inl ((fun _ => 0))))] H := hP
  have hD : va_D A [(h0, .inr (8, [v0, v1, v2, .ref q1, .ref q3, .ref q9, .ref q11, .ref q13, .ref q16, .int i9, v10, v11])), (q1, .inl (t2, 6, .inr (.inr (.inr (.inr ((fun _ => none))))))), (q3, .inr (3, [w06, w17, w28, .int 0, .int ((-1)), .int ((-1)), .int ((-1))])), (q9, .inl (t10, 6, .inl ((fun _ => 0)))), (q11, .inl (t12, 18, .inr (.inr (.inr (.inr ((fun _ => none))))))), (q13, .inr (0, [.int 0, .ref d0, .int 0])), (q16, .inl (t17, 240, .inl ((fun _ => 0))))] := hD
  refine lv_aload_n hx hb dX7_init_61 rfl (lv_at hl 0 rfl) ?_
  refine va_new (ci := 6) (fs := [.null, .int 0]) (C := RX5) (T := TX5) (N := 2) hx hb ht inGX5 tyX5 tyX5_ok hown (ht _ q345) (ht _ q297) (ht _ q132) hK hP hD hS hA rfl (fun j hj => by rcases (show j = 0 ∨ j = 1 by omega) with rfl | rfl <;> rfl) (Nat.le_of_ble_eq_true rfl) (Nat.le_of_ble_eq_true rfl) dX7_init_62 (fun q18 H hP hD hS => ?_)
  have hP : va_P (dC, dI) vwCl [(h0, .inr (8, [v0, v1, v2, .ref q1, .ref q3, .ref q9, .ref q11, .ref q13, .ref q16, .int i9, v10, v11])), (q1, .inl (t2, 6, .inr (.inr (.inr (.inr ((fun _ => none))))))), (q3, .inr (3, [w06, w17, w28, .int 0, .int ((-1)), .int ((-1)), .int ((-1))])), (q9, .inl (t10, 6, .inl ((fun _ => 0)))), (q11, .inl (t12, 18, .inr (.inr (.inr (.inr ((fun _ => none))))))), (q13, .inr (0, [.int 0, .ref d0, .int 0])), (q16, .inl (t17, 240, .inl ((fun _ => 0)))), (q18, .inr (6, [.null, .int 0]))] H := hP
  have hD : va_D A [(h0, .inr (8, [v0, v1, v2, .ref q1, .ref q3, .ref q9, .ref q11, .ref q13, .ref q16, .int i9, v10, v11])), (q1, .inl (t2, 6, .inr (.inr (.inr (.inr ((fun _ => none))))))), (q3, .inr (3, [w06, w17, w28, .int 0, .int ((-1)), .int ((-1)), .int ((-1))])), (q9, .inl (t10, 6, .inl ((fun _ => 0)))), (q11, .inl (t12, 18, .inr (.inr (.inr (.inr ((fun _ => none))))))), (q13, .inr (0, [.int 0, .ref d0, .int 0])), (q16, .inl (t17, 240, .inl ((fun _ => 0)))), (q18, .inr (6, [.null, .int 0]))] := hD
  refine W.widen (k := 11) (n := 486) (Nat.le_of_ble_eq_true rfl) (Nat.le_of_ble_eq_true rfl) ?_
  refine lv_dup hx hb dX7_init_65 rfl ?_
  have hPc := hP.sub (ws' := [(q18, .inr (6, [.null, .int 0]))]) [7] rfl
  have hDc := hD.sub (ws' := [(q18, .inr (6, [.null, .int 0]))]) [7] (by decide) rfl
  have hKc := hK.sub (tys' := []) [] rfl
  have hFc := va_free (wc := [(q18, .inr (6, [.null, .int 0]))]) hD hS hA [7] rfl
  refine va_callv (va_runIN (As := []) (rest := [.ref q18, .ref h0]) ⟨hx, hb, hml, hown, ht⟩ (k_X5_init l d0 cO dC dI H.size q18 .null 0) (my_NI ht M_X5_init q299 rfl q348 (Nat.le_of_ble_eq_true rfl) (Nat.le_of_ble_eq_true rfl)) ⟨PRE.fb, fun U hU hW => ⟨rfl, PRE.mk' hE hS hFc hPc hKc hDc U hU hW⟩⟩ rfl rfl hl.1 rfl (lv_room (Nat.le_of_ble_eq_true rfl)) dX7_init_66 ⟨(Nat.le_of_ble_eq_true rfl), (Nat.le_of_ble_eq_true rfl)⟩) hS (fun q _ h => hFc q h) hFc (fun u19 t H1 locs htt hvm hw hB hz1 hk1 hS => ?_)
  try dsimp only at hw hB
  obtain ⟨v21, hP1, hK1, hD1⟩ := hB
  rw [htt] at hP1
  have hK1 := va_K.moved hvm.symm hK1
  obtain ⟨hP, hD⟩ := va_join (wr := [(h0, .inr (8, [v0, v1, v2, .ref q1, .ref q3, .ref q9, .ref q11, .ref q13, .ref q16, .int i9, v10, v11])), (q1, .inl (t2, 6, .inr (.inr (.inr (.inr ((fun _ => none))))))), (q3, .inr (3, [w06, w17, w28, .int 0, .int ((-1)), .int ((-1)), .int ((-1))])), (q9, .inl (t10, 6, .inl ((fun _ => 0)))), (q11, .inl (t12, 18, .inr (.inr (.inr (.inr ((fun _ => none))))))), (q13, .inr (0, [.int 0, .ref d0, .int 0])), (q16, .inl (t17, 240, .inl ((fun _ => 0))))]) (w1 := [(q18, .inr (6, [v21, .int 0]))]) hP hD [7] [0, 1, 2, 3, 4, 5, 6] rfl rfl (by decide) (by decide) hk1 hFc hP1 hD1
  have hK := (hK.sub (tys' := [(t2, .object RX2), (t10, .int), (t12, .object RX5), (t17, .int)]) [0, 1, 2, 3] rfl).app hK1
  generalize H1 = H at hP hS ⊢
  have hP : va_P (dC, dI) vwCl [(h0, .inr (8, [v0, v1, v2, .ref q1, .ref q3, .ref q9, .ref q11, .ref q13, .ref q16, .int i9, v10, v11])), (q1, .inl (t2, 6, .inr (.inr (.inr (.inr ((fun _ => none))))))), (q3, .inr (3, [w06, w17, w28, .int 0, .int ((-1)), .int ((-1)), .int ((-1))])), (q9, .inl (t10, 6, .inl ((fun _ => 0)))), (q11, .inl (t12, 18, .inr (.inr (.inr (.inr ((fun _ => none))))))), (q13, .inr (0, [.int 0, .ref d0, .int 0])), (q16, .inl (t17, 240, .inl ((fun _ => 0)))), (q18, .inr (6, [v21, .int 0]))] H := hP
  have hD : va_D A [(h0, .inr (8, [v0, v1, v2, .ref q1, .ref q3, .ref q9, .ref q11, .ref q13, .ref q16, .int i9, v10, v11])), (q1, .inl (t2, 6, .inr (.inr (.inr (.inr ((fun _ => none))))))), (q3, .inr (3, [w06, w17, w28, .int 0, .int ((-1)), .int ((-1)), .int ((-1))])), (q9, .inl (t10, 6, .inl ((fun _ => 0)))), (q11, .inl (t12, 18, .inr (.inr (.inr (.inr ((fun _ => none))))))), (q13, .inr (0, [.int 0, .ref d0, .int 0])), (q16, .inl (t17, 240, .inl ((fun _ => 0)))), (q18, .inr (6, [v21, .int 0]))] := hD
  have hK : va_K (dC, dI) vwCl [(t2, .object RX2), (t10, .int), (t12, .object RX5), (t17, .int)] s := hK
  refine W.widen (k := 11) (n := 486) (Nat.le_of_ble_eq_true rfl) (Nat.le_of_ble_eq_true rfl) ?_
  refine va_putF (D := (dC, dI)) (ci := 8) (v := .ref q18) (ty := .object "ToolPlex$Items") (C := RX7) (T := TX7) (N := 12) hx hb ht inGX7 tyX7 tyX7_ok nmX7 hown hK hP hD hS 0 rfl rfl 10 (by decide) (ht _ q364) (fun _ h9 => h9) rfl hin rfl (by decide +kernel) rfl rfl (Nat.le_of_ble_eq_true rfl) dX7_init_69 (fun H locs hP hD hS => ?_)
  have hP : va_P (dC, dI) vwCl [(h0, .inr (8, [v0, v1, v2, .ref q1, .ref q3, .ref q9, .ref q11, .ref q13, .ref q16, .int i9, .ref q18, v11])), (q1, .inl (t2, 6, .inr (.inr (.inr (.inr ((fun _ => none))))))), (q3, .inr (3, [w06, w17, w28, .int 0, .int ((-1)), .int ((-1)), .int ((-1))])), (q9, .inl (t10, 6, .inl ((fun _ => 0)))), (q11, .inl (t12, 18, .inr (.inr (.inr (.inr ((fun _ => none))))))), (q13, .inr (0, [.int 0, .ref d0, .int 0])), (q16, .inl (t17, 240, .inl ((fun _ => 0)))), (q18, .inr (6, [v21, .int 0]))] H := hP
  have hD : va_D A [(h0, .inr (8, [v0, v1, v2, .ref q1, .ref q3, .ref q9, .ref q11, .ref q13, .ref q16, .int i9, .ref q18, v11])), (q1, .inl (t2, 6, .inr (.inr (.inr (.inr ((fun _ => none))))))), (q3, .inr (3, [w06, w17, w28, .int 0, .int ((-1)), .int ((-1)), .int ((-1))])), (q9, .inl (t10, 6, .inl ((fun _ => 0)))), (q11, .inl (t12, 18, .inr (.inr (.inr (.inr ((fun _ => none))))))), (q13, .inr (0, [.int 0, .ref d0, .int 0])), (q16, .inl (t17, 240, .inl ((fun _ => 0)))), (q18, .inr (6, [v21, .int 0]))] := hD
  refine lv_aload_n hx hb dX7_init_72 rfl (lv_at hl 0 rfl) ?_
  refine va_new (ci := 2) (fs := [.null]) (C := RX1) (T := TX1) (N := 1) hx hb ht inGX1 tyX1 tyX1_ok hown (ht _ q349) (ht _ q233) (ht _ q129) hK hP hD hS hA rfl (fun j hj => by rcases (show j = 0 by omega) with rfl <;> rfl) (Nat.le_of_ble_eq_true rfl) (Nat.le_of_ble_eq_true rfl) dX7_init_73 (fun q22 H hP hD hS => ?_)
  have hP : va_P (dC, dI) vwCl [(h0, .inr (8, [v0, v1, v2, .ref q1, .ref q3, .ref q9, .ref q11, .ref q13, .ref q16, .int i9, .ref q18, v11])), (q1, .inl (t2, 6, .inr (.inr (.inr (.inr ((fun _ => none))))))), (q3, .inr (3, [w06, w17, w28, .int 0, .int ((-1)), .int ((-1)), .int ((-1))])), (q9, .inl (t10, 6, .inl ((fun _ => 0)))), (q11, .inl (t12, 18, .inr (.inr (.inr (.inr ((fun _ => none))))))), (q13, .inr (0, [.int 0, .ref d0, .int 0])), (q16, .inl (t17, 240, .inl ((fun _ => 0)))), (q18, .inr (6, [v21, .int 0])), (q22, .inr (2, [.null]))] H := hP
  have hD : va_D A [(h0, .inr (8, [v0, v1, v2, .ref q1, .ref q3, .ref q9, .ref q11, .ref q13, .ref q16, .int i9, .ref q18, v11])), (q1, .inl (t2, 6, .inr (.inr (.inr (.inr ((fun _ => none))))))), (q3, .inr (3, [w06, w17, w28, .int 0, .int ((-1)), .int ((-1)), .int ((-1))])), (q9, .inl (t10, 6, .inl ((fun _ => 0)))), (q11, .inl (t12, 18, .inr (.inr (.inr (.inr ((fun _ => none))))))), (q13, .inr (0, [.int 0, .ref d0, .int 0])), (q16, .inl (t17, 240, .inl ((fun _ => 0)))), (q18, .inr (6, [v21, .int 0])), (q22, .inr (2, [.null]))] := hD
  refine W.widen (k := 12) (n := 487) (Nat.le_of_ble_eq_true rfl) (Nat.le_of_ble_eq_true rfl) ?_
  refine lv_dup hx hb dX7_init_76 rfl ?_
  have hPc := hP.sub (ws' := [(q22, .inr (2, [.null]))]) [8] rfl
  have hDc := hD.sub (ws' := [(q22, .inr (2, [.null]))]) [8] (by decide) rfl
  have hKc := hK.sub (tys' := []) [] rfl
  have hFc := va_free (wc := [(q22, .inr (2, [.null]))]) hD hS hA [8] rfl
  refine va_callv (va_runIN (As := []) (rest := [.ref q22, .ref h0]) ⟨hx, hb, hml, hown, ht⟩ (k_X1_init l d0 cO dC dI H.size q22 .null) (my_NI ht M_X1_init q235 rfl q350 (Nat.le_of_ble_eq_true rfl) (Nat.le_of_ble_eq_true rfl)) ⟨PRE.fb, fun U hU hW => ⟨rfl, PRE.mk' hE hS hFc hPc hKc hDc U hU hW⟩⟩ rfl rfl hl.1 rfl (lv_room (Nat.le_of_ble_eq_true rfl)) dX7_init_77 ⟨(Nat.le_of_ble_eq_true rfl), (Nat.le_of_ble_eq_true rfl)⟩) hS (fun q _ h => hFc q h) hFc (fun u23 t H1 locs htt hvm hw hB hz1 hk1 hS => ?_)
  try dsimp only at hw hB
  obtain ⟨q25, hP1, hK1, hD1⟩ := hB
  rw [htt] at hP1
  have hK1 := va_K.moved hvm.symm hK1
  obtain ⟨hP, hD⟩ := va_join (wr := [(h0, .inr (8, [v0, v1, v2, .ref q1, .ref q3, .ref q9, .ref q11, .ref q13, .ref q16, .int i9, .ref q18, v11])), (q1, .inl (t2, 6, .inr (.inr (.inr (.inr ((fun _ => none))))))), (q3, .inr (3, [w06, w17, w28, .int 0, .int ((-1)), .int ((-1)), .int ((-1))])), (q9, .inl (t10, 6, .inl ((fun _ => 0)))), (q11, .inl (t12, 18, .inr (.inr (.inr (.inr ((fun _ => none))))))), (q13, .inr (0, [.int 0, .ref d0, .int 0])), (q16, .inl (t17, 240, .inl ((fun _ => 0)))), (q18, .inr (6, [v21, .int 0]))]) (w1 := [(q22, .inr (2, [.ref q25])), (q25, .inr (0, [.int 0, .ref d0, .int 0]))]) hP hD [8] [0, 1, 2, 3, 4, 5, 6, 7] rfl rfl (by decide) (by decide) hk1 hFc hP1 hD1
  have hK := (hK.sub (tys' := [(t2, .object RX2), (t10, .int), (t12, .object RX5), (t17, .int)]) [0, 1, 2, 3] rfl).app hK1
  generalize H1 = H at hP hS ⊢
  have hP : va_P (dC, dI) vwCl [(h0, .inr (8, [v0, v1, v2, .ref q1, .ref q3, .ref q9, .ref q11, .ref q13, .ref q16, .int i9, .ref q18, v11])), (q1, .inl (t2, 6, .inr (.inr (.inr (.inr ((fun _ => none))))))), (q3, .inr (3, [w06, w17, w28, .int 0, .int ((-1)), .int ((-1)), .int ((-1))])), (q9, .inl (t10, 6, .inl ((fun _ => 0)))), (q11, .inl (t12, 18, .inr (.inr (.inr (.inr ((fun _ => none))))))), (q13, .inr (0, [.int 0, .ref d0, .int 0])), (q16, .inl (t17, 240, .inl ((fun _ => 0)))), (q18, .inr (6, [v21, .int 0])), (q22, .inr (2, [.ref q25])), (q25, .inr (0, [.int 0, .ref d0, .int 0]))] H := hP
  have hD : va_D A [(h0, .inr (8, [v0, v1, v2, .ref q1, .ref q3, .ref q9, .ref q11, .ref q13, .ref q16, .int i9, .ref q18, v11])), (q1, .inl (t2, 6, .inr (.inr (.inr (.inr ((fun _ => none))))))), (q3, .inr (3, [w06, w17, w28, .int 0, .int ((-1)), .int ((-1)), .int ((-1))])), (q9, .inl (t10, 6, .inl ((fun _ => 0)))), (q11, .inl (t12, 18, .inr (.inr (.inr (.inr ((fun _ => none))))))), (q13, .inr (0, [.int 0, .ref d0, .int 0])), (q16, .inl (t17, 240, .inl ((fun _ => 0)))), (q18, .inr (6, [v21, .int 0])), (q22, .inr (2, [.ref q25])), (q25, .inr (0, [.int 0, .ref d0, .int 0]))] := hD
  have hK : va_K (dC, dI) vwCl [(t2, .object RX2), (t10, .int), (t12, .object RX5), (t17, .int)] s := hK
  refine W.widen (k := 13) (n := 490) (Nat.le_of_ble_eq_true rfl) (Nat.le_of_ble_eq_true rfl) ?_
  refine va_putF (D := (dC, dI)) (ci := 8) (v := .ref q22) (ty := .object "ToolPlex$Channel") (C := RX7) (T := TX7) (N := 12) hx hb ht inGX7 tyX7 tyX7_ok nmX7 hown hK hP hD hS 0 rfl rfl 11 (by decide) (ht _ q365) (fun _ h9 => h9) rfl hin rfl (by decide +kernel) rfl rfl (Nat.le_of_ble_eq_true rfl) dX7_init_80 (fun H locs hP hD hS => ?_)
  have hP : va_P (dC, dI) vwCl [(h0, .inr (8, [v0, v1, v2, .ref q1, .ref q3, .ref q9, .ref q11, .ref q13, .ref q16, .int i9, .ref q18, .ref q22])), (q1, .inl (t2, 6, .inr (.inr (.inr (.inr ((fun _ => none))))))), (q3, .inr (3, [w06, w17, w28, .int 0, .int ((-1)), .int ((-1)), .int ((-1))])), (q9, .inl (t10, 6, .inl ((fun _ => 0)))), (q11, .inl (t12, 18, .inr (.inr (.inr (.inr ((fun _ => none))))))), (q13, .inr (0, [.int 0, .ref d0, .int 0])), (q16, .inl (t17, 240, .inl ((fun _ => 0)))), (q18, .inr (6, [v21, .int 0])), (q22, .inr (2, [.ref q25])), (q25, .inr (0, [.int 0, .ref d0, .int 0]))] H := hP
  have hD : va_D A [(h0, .inr (8, [v0, v1, v2, .ref q1, .ref q3, .ref q9, .ref q11, .ref q13, .ref q16, .int i9, .ref q18, .ref q22])), (q1, .inl (t2, 6, .inr (.inr (.inr (.inr ((fun _ => none))))))), (q3, .inr (3, [w06, w17, w28, .int 0, .int ((-1)), .int ((-1)), .int ((-1))])), (q9, .inl (t10, 6, .inl ((fun _ => 0)))), (q11, .inl (t12, 18, .inr (.inr (.inr (.inr ((fun _ => none))))))), (q13, .inr (0, [.int 0, .ref d0, .int 0])), (q16, .inl (t17, 240, .inl ((fun _ => 0)))), (q18, .inr (6, [v21, .int 0])), (q22, .inr (2, [.ref q25])), (q25, .inr (0, [.int 0, .ref d0, .int 0]))] := hD
  refine lv_aload_n hx hb dX7_init_83 rfl (lv_at hl 0 rfl) ?_
  refine lv_aload_n hx hb dX7_init_84 rfl (lv_at hl 1 rfl) ?_
  refine va_putF (D := (dC, dI)) (ci := 8) (v := .ref a1) (ty := .object "ToolPlex$Files") (C := RX7) (T := TX7) (N := 12) hx hb ht inGX7 tyX7 tyX7_ok nmX7 hown hK hP hD hS 0 rfl rfl 0 (by decide) (ht _ q354) (fun _ h9 => h9) rfl hin rfl (by decide +kernel) rfl rfl (Nat.le_of_ble_eq_true rfl) dX7_init_85 (fun H locs hP hD hS => ?_)
  have hP : va_P (dC, dI) vwCl [(h0, .inr (8, [.ref a1, v1, v2, .ref q1, .ref q3, .ref q9, .ref q11, .ref q13, .ref q16, .int i9, .ref q18, .ref q22])), (q1, .inl (t2, 6, .inr (.inr (.inr (.inr ((fun _ => none))))))), (q3, .inr (3, [w06, w17, w28, .int 0, .int ((-1)), .int ((-1)), .int ((-1))])), (q9, .inl (t10, 6, .inl ((fun _ => 0)))), (q11, .inl (t12, 18, .inr (.inr (.inr (.inr ((fun _ => none))))))), (q13, .inr (0, [.int 0, .ref d0, .int 0])), (q16, .inl (t17, 240, .inl ((fun _ => 0)))), (q18, .inr (6, [v21, .int 0])), (q22, .inr (2, [.ref q25])), (q25, .inr (0, [.int 0, .ref d0, .int 0]))] H := hP
  have hD : va_D A [(h0, .inr (8, [.ref a1, v1, v2, .ref q1, .ref q3, .ref q9, .ref q11, .ref q13, .ref q16, .int i9, .ref q18, .ref q22])), (q1, .inl (t2, 6, .inr (.inr (.inr (.inr ((fun _ => none))))))), (q3, .inr (3, [w06, w17, w28, .int 0, .int ((-1)), .int ((-1)), .int ((-1))])), (q9, .inl (t10, 6, .inl ((fun _ => 0)))), (q11, .inl (t12, 18, .inr (.inr (.inr (.inr ((fun _ => none))))))), (q13, .inr (0, [.int 0, .ref d0, .int 0])), (q16, .inl (t17, 240, .inl ((fun _ => 0)))), (q18, .inr (6, [v21, .int 0])), (q22, .inr (2, [.ref q25])), (q25, .inr (0, [.int 0, .ref d0, .int 0]))] := hD
  refine lv_aload_n hx hb dX7_init_88 rfl (lv_at hl 0 rfl) ?_
  refine lv_aload_n hx hb dX7_init_89 rfl (lv_at hl 2 rfl) ?_
  refine va_putF (D := (dC, dI)) (ci := 8) (v := .ref a2) (ty := .object "java/util/ArrayList") (C := RX7) (T := TX7) (N := 12) hx hb ht inGX7 tyX7 tyX7_ok nmX7 hown hK hP hD hS 0 rfl rfl 1 (by decide) (ht _ q355) (fun _ h9 => h9) rfl hin rfl (by decide +kernel) rfl rfl (Nat.le_of_ble_eq_true rfl) dX7_init_90 (fun H locs hP hD hS => ?_)
  have hP : va_P (dC, dI) vwCl [(h0, .inr (8, [.ref a1, .ref a2, v2, .ref q1, .ref q3, .ref q9, .ref q11, .ref q13, .ref q16, .int i9, .ref q18, .ref q22])), (q1, .inl (t2, 6, .inr (.inr (.inr (.inr ((fun _ => none))))))), (q3, .inr (3, [w06, w17, w28, .int 0, .int ((-1)), .int ((-1)), .int ((-1))])), (q9, .inl (t10, 6, .inl ((fun _ => 0)))), (q11, .inl (t12, 18, .inr (.inr (.inr (.inr ((fun _ => none))))))), (q13, .inr (0, [.int 0, .ref d0, .int 0])), (q16, .inl (t17, 240, .inl ((fun _ => 0)))), (q18, .inr (6, [v21, .int 0])), (q22, .inr (2, [.ref q25])), (q25, .inr (0, [.int 0, .ref d0, .int 0]))] H := hP
  have hD : va_D A [(h0, .inr (8, [.ref a1, .ref a2, v2, .ref q1, .ref q3, .ref q9, .ref q11, .ref q13, .ref q16, .int i9, .ref q18, .ref q22])), (q1, .inl (t2, 6, .inr (.inr (.inr (.inr ((fun _ => none))))))), (q3, .inr (3, [w06, w17, w28, .int 0, .int ((-1)), .int ((-1)), .int ((-1))])), (q9, .inl (t10, 6, .inl ((fun _ => 0)))), (q11, .inl (t12, 18, .inr (.inr (.inr (.inr ((fun _ => none))))))), (q13, .inr (0, [.int 0, .ref d0, .int 0])), (q16, .inl (t17, 240, .inl ((fun _ => 0)))), (q18, .inr (6, [v21, .int 0])), (q22, .inr (2, [.ref q25])), (q25, .inr (0, [.int 0, .ref d0, .int 0]))] := hD
  refine lv_aload_n hx hb dX7_init_93 rfl (lv_at hl 0 rfl) ?_
  refine lv_aload_n hx hb dX7_init_94 rfl (lv_at hl 3 rfl) ?_
  refine va_putF (D := (dC, dI)) (ci := 8) (v := .ref a3) (ty := .array (.object "ToolPlex$Channel")) (C := RX7) (T := TX7) (N := 12) hx hb ht inGX7 tyX7 tyX7_ok nmX7 hown hK hP hD hS 0 rfl rfl 2 (by decide) (ht _ q356) (fun _ h9 => h9) rfl hin rfl (by decide +kernel) rfl rfl (Nat.le_of_ble_eq_true rfl) dX7_init_95 (fun H locs hP hD hS => ?_)
  have hP : va_P (dC, dI) vwCl [(h0, .inr (8, [.ref a1, .ref a2, .ref a3, .ref q1, .ref q3, .ref q9, .ref q11, .ref q13, .ref q16, .int i9, .ref q18, .ref q22])), (q1, .inl (t2, 6, .inr (.inr (.inr (.inr ((fun _ => none))))))), (q3, .inr (3, [w06, w17, w28, .int 0, .int ((-1)), .int ((-1)), .int ((-1))])), (q9, .inl (t10, 6, .inl ((fun _ => 0)))), (q11, .inl (t12, 18, .inr (.inr (.inr (.inr ((fun _ => none))))))), (q13, .inr (0, [.int 0, .ref d0, .int 0])), (q16, .inl (t17, 240, .inl ((fun _ => 0)))), (q18, .inr (6, [v21, .int 0])), (q22, .inr (2, [.ref q25])), (q25, .inr (0, [.int 0, .ref d0, .int 0]))] H := hP
  have hD : va_D A [(h0, .inr (8, [.ref a1, .ref a2, .ref a3, .ref q1, .ref q3, .ref q9, .ref q11, .ref q13, .ref q16, .int i9, .ref q18, .ref q22])), (q1, .inl (t2, 6, .inr (.inr (.inr (.inr ((fun _ => none))))))), (q3, .inr (3, [w06, w17, w28, .int 0, .int ((-1)), .int ((-1)), .int ((-1))])), (q9, .inl (t10, 6, .inl ((fun _ => 0)))), (q11, .inl (t12, 18, .inr (.inr (.inr (.inr ((fun _ => none))))))), (q13, .inr (0, [.int 0, .ref d0, .int 0])), (q16, .inl (t17, 240, .inl ((fun _ => 0)))), (q18, .inr (6, [v21, .int 0])), (q22, .inr (2, [.ref q25])), (q25, .inr (0, [.int 0, .ref d0, .int 0]))] := hD
  refine lv_iconst (v := 0) hx hb dX7_init_98 (by decide) ?_
  refine lv_istore (lv' := [(4, .int 0), (0, .ref h0), (1, .ref a1), (2, .ref a2), (3, .ref a3)]) hx hb dX7_init_99 hl (by decide) rfl (fun ls hl => ?_)
  refine lv_iload hx hb dX7_init_101 (lv_at hl 0 rfl) ?_
  refine lv_bipush (v := 6) hx hb dX7_init_103 (by decide) ?_
  refine lv_icmp_ge (tgt := 128) hx hb dX7_init_105 (by decide) (fun c26 => absurd c26 (by decide)) (fun c26 => ?_)
  refine lv_aload_n hx hb dX7_init_108 rfl (lv_at hl 1 rfl) ?_
  refine va_get (D := (dC, dI)) (ci := 8) (v := .ref q1) (C := RX7) (T := TX7) (N := 12) hx hb ht inGX7 hown hK hP 0 rfl rfl 3 (by decide) (ht _ q357) (fun _ h9 => h9) rfl dX7_init_109 ?_
  refine lv_iload hx hb dX7_init_112 (lv_at hl 0 rfl) ?_
  refine va_new (ci := 3) (fs := [.null, .null, .null, .int 0, .int 0, .int 0, .int 0]) (C := RX2) (T := TX2) (N := 7) hx hb ht inGX2 tyX2 tyX2_ok hown (ht _ q343) (ht _ q253) (ht _ q131) hK hP hD hS hA rfl (fun j hj => by rcases (show j = 0 ∨ j = 1 ∨ j = 2 ∨ j = 3 ∨ j = 4 ∨ j = 5 ∨ j = 6 by omega) with rfl | rfl | rfl | rfl | rfl | rfl | rfl <;> rfl) (Nat.le_of_ble_eq_true rfl) (Nat.le_of_ble_eq_true rfl) dX7_init_114 (fun q27 H hP hD hS => ?_)
  have hP : va_P (dC, dI) vwCl [(h0, .inr (8, [.ref a1, .ref a2, .ref a3, .ref q1, .ref q3, .ref q9, .ref q11, .ref q13, .ref q16, .int i9, .ref q18, .ref q22])), (q1, .inl (t2, 6, .inr (.inr (.inr (.inr ((fun _ => none))))))), (q3, .inr (3, [w06, w17, w28, .int 0, .int ((-1)), .int ((-1)), .int ((-1))])), (q9, .inl (t10, 6, .inl ((fun _ => 0)))), (q11, .inl (t12, 18, .inr (.inr (.inr (.inr ((fun _ => none))))))), (q13, .inr (0, [.int 0, .ref d0, .int 0])), (q16, .inl (t17, 240, .inl ((fun _ => 0)))), (q18, .inr (6, [v21, .int 0])), (q22, .inr (2, [.ref q25])), (q25, .inr (0, [.int 0, .ref d0, .int 0])), (q27, .inr (3, [.null, .null, .null, .int 0, .int 0, .int 0, .int 0]))] H := hP
  have hD : va_D A [(h0, .inr (8, [.ref a1, .ref a2, .ref a3, .ref q1, .ref q3, .ref q9, .ref q11, .ref q13, .ref q16, .int i9, .ref q18, .ref q22])), (q1, .inl (t2, 6, .inr (.inr (.inr (.inr ((fun _ => none))))))), (q3, .inr (3, [w06, w17, w28, .int 0, .int ((-1)), .int ((-1)), .int ((-1))])), (q9, .inl (t10, 6, .inl ((fun _ => 0)))), (q11, .inl (t12, 18, .inr (.inr (.inr (.inr ((fun _ => none))))))), (q13, .inr (0, [.int 0, .ref d0, .int 0])), (q16, .inl (t17, 240, .inl ((fun _ => 0)))), (q18, .inr (6, [v21, .int 0])), (q22, .inr (2, [.ref q25])), (q25, .inr (0, [.int 0, .ref d0, .int 0])), (q27, .inr (3, [.null, .null, .null, .int 0, .int 0, .int 0, .int 0]))] := hD
  refine W.widen (k := 14) (n := 497) (Nat.le_of_ble_eq_true rfl) (Nat.le_of_ble_eq_true rfl) ?_
  refine lv_dup hx hb dX7_init_117 rfl ?_
  have hPc := hP.sub (ws' := [(q27, .inr (3, [.null, .null, .null, .int 0, .int 0, .int 0, .int 0]))]) [10] rfl
  have hDc := hD.sub (ws' := [(q27, .inr (3, [.null, .null, .null, .int 0, .int 0, .int 0, .int 0]))]) [10] (by decide) rfl
  have hKc := hK.sub (tys' := []) [] rfl
  have hFc := va_free (wc := [(q27, .inr (3, [.null, .null, .null, .int 0, .int 0, .int 0, .int 0]))]) hD hS hA [10] rfl
  refine va_callv (va_runIN (As := []) (rest := [.ref q27, .int 0, .ref q1]) ⟨hx, hb, hml, hown, ht⟩ (k_X2_init l d0 cO dC dI H.size q27 .null .null .null 0 0 0 0) (my_NI ht M_X2_init q255 rfl q344 (Nat.le_of_ble_eq_true rfl) (Nat.le_of_ble_eq_true rfl)) ⟨PRE.fb, fun U hU hW => ⟨rfl, PRE.mk' hE hS hFc hPc hKc hDc U hU hW⟩⟩ rfl rfl hl.1 rfl (lv_room (Nat.le_of_ble_eq_true rfl)) dX7_init_118 ⟨(Nat.le_of_ble_eq_true rfl), (Nat.le_of_ble_eq_true rfl)⟩) hS (fun q _ h => hFc q h) hFc (fun u28 t H1 locs htt hvm hw hB hz1 hk1 hS => ?_)
  try dsimp only at hw hB
  obtain ⟨w030, w131, w232, hP1, hK1, hD1⟩ := hB
  rw [htt] at hP1
  have hK1 := va_K.moved hvm.symm hK1
  obtain ⟨hP, hD⟩ := va_join (wr := [(h0, .inr (8, [.ref a1, .ref a2, .ref a3, .ref q1, .ref q3, .ref q9, .ref q11, .ref q13, .ref q16, .int i9, .ref q18, .ref q22])), (q1, .inl (t2, 6, .inr (.inr (.inr (.inr ((fun _ => none))))))), (q3, .inr (3, [w06, w17, w28, .int 0, .int ((-1)), .int ((-1)), .int ((-1))])), (q9, .inl (t10, 6, .inl ((fun _ => 0)))), (q11, .inl (t12, 18, .inr (.inr (.inr (.inr ((fun _ => none))))))), (q13, .inr (0, [.int 0, .ref d0, .int 0])), (q16, .inl (t17, 240, .inl ((fun _ => 0)))), (q18, .inr (6, [v21, .int 0])), (q22, .inr (2, [.ref q25])), (q25, .inr (0, [.int 0, .ref d0, .int 0]))]) (w1 := [(q27, .inr (3, [w030, w131, w232, .int 0, .int ((-1)), .int ((-1)), .int ((-1))]))]) hP hD [10] [0, 1, 2, 3, 4, 5, 6, 7, 8, 9] rfl rfl (by decide) (by decide) hk1 hFc hP1 hD1
  have hK := (hK.sub (tys' := [(t2, .object RX2), (t10, .int), (t12, .object RX5), (t17, .int)]) [0, 1, 2, 3] rfl).app hK1
  generalize H1 = H at hP hS ⊢
  have hP : va_P (dC, dI) vwCl [(h0, .inr (8, [.ref a1, .ref a2, .ref a3, .ref q1, .ref q3, .ref q9, .ref q11, .ref q13, .ref q16, .int i9, .ref q18, .ref q22])), (q1, .inl (t2, 6, .inr (.inr (.inr (.inr ((fun _ => none))))))), (q3, .inr (3, [w06, w17, w28, .int 0, .int ((-1)), .int ((-1)), .int ((-1))])), (q9, .inl (t10, 6, .inl ((fun _ => 0)))), (q11, .inl (t12, 18, .inr (.inr (.inr (.inr ((fun _ => none))))))), (q13, .inr (0, [.int 0, .ref d0, .int 0])), (q16, .inl (t17, 240, .inl ((fun _ => 0)))), (q18, .inr (6, [v21, .int 0])), (q22, .inr (2, [.ref q25])), (q25, .inr (0, [.int 0, .ref d0, .int 0])), (q27, .inr (3, [w030, w131, w232, .int 0, .int ((-1)), .int ((-1)), .int ((-1))]))] H := hP
  have hD : va_D A [(h0, .inr (8, [.ref a1, .ref a2, .ref a3, .ref q1, .ref q3, .ref q9, .ref q11, .ref q13, .ref q16, .int i9, .ref q18, .ref q22])), (q1, .inl (t2, 6, .inr (.inr (.inr (.inr ((fun _ => none))))))), (q3, .inr (3, [w06, w17, w28, .int 0, .int ((-1)), .int ((-1)), .int ((-1))])), (q9, .inl (t10, 6, .inl ((fun _ => 0)))), (q11, .inl (t12, 18, .inr (.inr (.inr (.inr ((fun _ => none))))))), (q13, .inr (0, [.int 0, .ref d0, .int 0])), (q16, .inl (t17, 240, .inl ((fun _ => 0)))), (q18, .inr (6, [v21, .int 0])), (q22, .inr (2, [.ref q25])), (q25, .inr (0, [.int 0, .ref d0, .int 0])), (q27, .inr (3, [w030, w131, w232, .int 0, .int ((-1)), .int ((-1)), .int ((-1))]))] := hD
  have hK : va_K (dC, dI) vwCl [(t2, .object RX2), (t10, .int), (t12, .object RX5), (t17, .int)] s := hK
  refine W.widen (k := 18) (n := 701) (Nat.le_of_ble_eq_true rfl) (Nat.le_of_ble_eq_true rfl) ?_
  refine va_astq hx hb hK hP hD hS 1 0 10 3 rfl rfl rfl rfl (vp_in_nI (n := 0) (by decide) (by decide)) dX7_init_121 (fun H locs hP hD hS => ?_)
  have hP : va_P (dC, dI) vwCl [(h0, .inr (8, [.ref a1, .ref a2, .ref a3, .ref q1, .ref q3, .ref q9, .ref q11, .ref q13, .ref q16, .int i9, .ref q18, .ref q22])), (q1, .inl (t2, 6, .inr (.inr (.inr (.inr ((va_up (fun _ => none) 0 (some q27)))))))), (q3, .inr (3, [w06, w17, w28, .int 0, .int ((-1)), .int ((-1)), .int ((-1))])), (q9, .inl (t10, 6, .inl ((fun _ => 0)))), (q11, .inl (t12, 18, .inr (.inr (.inr (.inr ((fun _ => none))))))), (q13, .inr (0, [.int 0, .ref d0, .int 0])), (q16, .inl (t17, 240, .inl ((fun _ => 0)))), (q18, .inr (6, [v21, .int 0])), (q22, .inr (2, [.ref q25])), (q25, .inr (0, [.int 0, .ref d0, .int 0])), (q27, .inr (3, [w030, w131, w232, .int 0, .int ((-1)), .int ((-1)), .int ((-1))]))] H := hP
  have hD : va_D A [(h0, .inr (8, [.ref a1, .ref a2, .ref a3, .ref q1, .ref q3, .ref q9, .ref q11, .ref q13, .ref q16, .int i9, .ref q18, .ref q22])), (q1, .inl (t2, 6, .inr (.inr (.inr (.inr ((va_up (fun _ => none) 0 (some q27)))))))), (q3, .inr (3, [w06, w17, w28, .int 0, .int ((-1)), .int ((-1)), .int ((-1))])), (q9, .inl (t10, 6, .inl ((fun _ => 0)))), (q11, .inl (t12, 18, .inr (.inr (.inr (.inr ((fun _ => none))))))), (q13, .inr (0, [.int 0, .ref d0, .int 0])), (q16, .inl (t17, 240, .inl ((fun _ => 0)))), (q18, .inr (6, [v21, .int 0])), (q22, .inr (2, [.ref q25])), (q25, .inr (0, [.int 0, .ref d0, .int 0])), (q27, .inr (3, [w030, w131, w232, .int 0, .int ((-1)), .int ((-1)), .int ((-1))]))] := hD
  refine lv_iinc (v := 1) (lv' := [(4, .int 1), (0, .ref h0), (1, .ref a1), (2, .ref a2), (3, .ref a3)]) hx hb dX7_init_122 hl (k := 0) rfl (by decide) (by decide) rfl (fun ls hl => ?_)
  refine lv_goto (tgt := 101) hx hb dX7_init_125 (by decide) ?_
  refine lv_iload hx hb dX7_init_101 (lv_at hl 0 rfl) ?_
  refine lv_bipush (v := 6) hx hb dX7_init_103 (by decide) ?_
  refine lv_icmp_ge (tgt := 128) hx hb dX7_init_105 (by decide) (fun c33 => absurd c33 (by decide)) (fun c33 => ?_)
  refine lv_aload_n hx hb dX7_init_108 rfl (lv_at hl 1 rfl) ?_
  refine va_get (D := (dC, dI)) (ci := 8) (v := .ref q1) (C := RX7) (T := TX7) (N := 12) hx hb ht inGX7 hown hK hP 0 rfl rfl 3 (by decide) (ht _ q357) (fun _ h9 => h9) rfl dX7_init_109 ?_
  refine lv_iload hx hb dX7_init_112 (lv_at hl 0 rfl) ?_
  refine va_new (ci := 3) (fs := [.null, .null, .null, .int 0, .int 0, .int 0, .int 0]) (C := RX2) (T := TX2) (N := 7) hx hb ht inGX2 tyX2 tyX2_ok hown (ht _ q343) (ht _ q253) (ht _ q131) hK hP hD hS hA rfl (fun j hj => by rcases (show j = 0 ∨ j = 1 ∨ j = 2 ∨ j = 3 ∨ j = 4 ∨ j = 5 ∨ j = 6 by omega) with rfl | rfl | rfl | rfl | rfl | rfl | rfl <;> rfl) (Nat.le_of_ble_eq_true rfl) (Nat.le_of_ble_eq_true rfl) dX7_init_114 (fun q34 H hP hD hS => ?_)
  have hP : va_P (dC, dI) vwCl [(h0, .inr (8, [.ref a1, .ref a2, .ref a3, .ref q1, .ref q3, .ref q9, .ref q11, .ref q13, .ref q16, .int i9, .ref q18, .ref q22])), (q1, .inl (t2, 6, .inr (.inr (.inr (.inr ((va_up (fun _ => none) 0 (some q27)))))))), (q3, .inr (3, [w06, w17, w28, .int 0, .int ((-1)), .int ((-1)), .int ((-1))])), (q9, .inl (t10, 6, .inl ((fun _ => 0)))), (q11, .inl (t12, 18, .inr (.inr (.inr (.inr ((fun _ => none))))))), (q13, .inr (0, [.int 0, .ref d0, .int 0])), (q16, .inl (t17, 240, .inl ((fun _ => 0)))), (q18, .inr (6, [v21, .int 0])), (q22, .inr (2, [.ref q25])), (q25, .inr (0, [.int 0, .ref d0, .int 0])), (q27, .inr (3, [w030, w131, w232, .int 0, .int ((-1)), .int ((-1)), .int ((-1))])), (q34, .inr (3, [.null, .null, .null, .int 0, .int 0, .int 0, .int 0]))] H := hP
  have hD : va_D A [(h0, .inr (8, [.ref a1, .ref a2, .ref a3, .ref q1, .ref q3, .ref q9, .ref q11, .ref q13, .ref q16, .int i9, .ref q18, .ref q22])), (q1, .inl (t2, 6, .inr (.inr (.inr (.inr ((va_up (fun _ => none) 0 (some q27)))))))), (q3, .inr (3, [w06, w17, w28, .int 0, .int ((-1)), .int ((-1)), .int ((-1))])), (q9, .inl (t10, 6, .inl ((fun _ => 0)))), (q11, .inl (t12, 18, .inr (.inr (.inr (.inr ((fun _ => none))))))), (q13, .inr (0, [.int 0, .ref d0, .int 0])), (q16, .inl (t17, 240, .inl ((fun _ => 0)))), (q18, .inr (6, [v21, .int 0])), (q22, .inr (2, [.ref q25])), (q25, .inr (0, [.int 0, .ref d0, .int 0])), (q27, .inr (3, [w030, w131, w232, .int 0, .int ((-1)), .int ((-1)), .int ((-1))])), (q34, .inr (3, [.null, .null, .null, .int 0, .int 0, .int 0, .int 0]))] := hD
  refine W.widen (k := 19) (n := 708) (Nat.le_of_ble_eq_true rfl) (Nat.le_of_ble_eq_true rfl) ?_
  refine lv_dup hx hb dX7_init_117 rfl ?_
  have hPc := hP.sub (ws' := [(q34, .inr (3, [.null, .null, .null, .int 0, .int 0, .int 0, .int 0]))]) [11] rfl
  have hDc := hD.sub (ws' := [(q34, .inr (3, [.null, .null, .null, .int 0, .int 0, .int 0, .int 0]))]) [11] (by decide) rfl
  have hKc := hK.sub (tys' := []) [] rfl
  have hFc := va_free (wc := [(q34, .inr (3, [.null, .null, .null, .int 0, .int 0, .int 0, .int 0]))]) hD hS hA [11] rfl
  refine va_callv (va_runIN (As := []) (rest := [.ref q34, .int 1, .ref q1]) ⟨hx, hb, hml, hown, ht⟩ (k_X2_init l d0 cO dC dI H.size q34 .null .null .null 0 0 0 0) (my_NI ht M_X2_init q255 rfl q344 (Nat.le_of_ble_eq_true rfl) (Nat.le_of_ble_eq_true rfl)) ⟨PRE.fb, fun U hU hW => ⟨rfl, PRE.mk' hE hS hFc hPc hKc hDc U hU hW⟩⟩ rfl rfl hl.1 rfl (lv_room (Nat.le_of_ble_eq_true rfl)) dX7_init_118 ⟨(Nat.le_of_ble_eq_true rfl), (Nat.le_of_ble_eq_true rfl)⟩) hS (fun q _ h => hFc q h) hFc (fun u35 t H1 locs htt hvm hw hB hz1 hk1 hS => ?_)
  try dsimp only at hw hB
  obtain ⟨w037, w138, w239, hP1, hK1, hD1⟩ := hB
  rw [htt] at hP1
  have hK1 := va_K.moved hvm.symm hK1
  obtain ⟨hP, hD⟩ := va_join (wr := [(h0, .inr (8, [.ref a1, .ref a2, .ref a3, .ref q1, .ref q3, .ref q9, .ref q11, .ref q13, .ref q16, .int i9, .ref q18, .ref q22])), (q1, .inl (t2, 6, .inr (.inr (.inr (.inr ((va_up (fun _ => none) 0 (some q27)))))))), (q3, .inr (3, [w06, w17, w28, .int 0, .int ((-1)), .int ((-1)), .int ((-1))])), (q9, .inl (t10, 6, .inl ((fun _ => 0)))), (q11, .inl (t12, 18, .inr (.inr (.inr (.inr ((fun _ => none))))))), (q13, .inr (0, [.int 0, .ref d0, .int 0])), (q16, .inl (t17, 240, .inl ((fun _ => 0)))), (q18, .inr (6, [v21, .int 0])), (q22, .inr (2, [.ref q25])), (q25, .inr (0, [.int 0, .ref d0, .int 0])), (q27, .inr (3, [w030, w131, w232, .int 0, .int ((-1)), .int ((-1)), .int ((-1))]))]) (w1 := [(q34, .inr (3, [w037, w138, w239, .int 0, .int ((-1)), .int ((-1)), .int ((-1))]))]) hP hD [11] [0, 1, 2, 3, 4, 5, 6, 7, 8, 9, 10] rfl rfl (by decide) (by decide) hk1 hFc hP1 hD1
  have hK := (hK.sub (tys' := [(t2, .object RX2), (t10, .int), (t12, .object RX5), (t17, .int)]) [0, 1, 2, 3] rfl).app hK1
  generalize H1 = H at hP hS ⊢
  have hP : va_P (dC, dI) vwCl [(h0, .inr (8, [.ref a1, .ref a2, .ref a3, .ref q1, .ref q3, .ref q9, .ref q11, .ref q13, .ref q16, .int i9, .ref q18, .ref q22])), (q1, .inl (t2, 6, .inr (.inr (.inr (.inr ((va_up (fun _ => none) 0 (some q27)))))))), (q3, .inr (3, [w06, w17, w28, .int 0, .int ((-1)), .int ((-1)), .int ((-1))])), (q9, .inl (t10, 6, .inl ((fun _ => 0)))), (q11, .inl (t12, 18, .inr (.inr (.inr (.inr ((fun _ => none))))))), (q13, .inr (0, [.int 0, .ref d0, .int 0])), (q16, .inl (t17, 240, .inl ((fun _ => 0)))), (q18, .inr (6, [v21, .int 0])), (q22, .inr (2, [.ref q25])), (q25, .inr (0, [.int 0, .ref d0, .int 0])), (q27, .inr (3, [w030, w131, w232, .int 0, .int ((-1)), .int ((-1)), .int ((-1))])), (q34, .inr (3, [w037, w138, w239, .int 0, .int ((-1)), .int ((-1)), .int ((-1))]))] H := hP
  have hD : va_D A [(h0, .inr (8, [.ref a1, .ref a2, .ref a3, .ref q1, .ref q3, .ref q9, .ref q11, .ref q13, .ref q16, .int i9, .ref q18, .ref q22])), (q1, .inl (t2, 6, .inr (.inr (.inr (.inr ((va_up (fun _ => none) 0 (some q27)))))))), (q3, .inr (3, [w06, w17, w28, .int 0, .int ((-1)), .int ((-1)), .int ((-1))])), (q9, .inl (t10, 6, .inl ((fun _ => 0)))), (q11, .inl (t12, 18, .inr (.inr (.inr (.inr ((fun _ => none))))))), (q13, .inr (0, [.int 0, .ref d0, .int 0])), (q16, .inl (t17, 240, .inl ((fun _ => 0)))), (q18, .inr (6, [v21, .int 0])), (q22, .inr (2, [.ref q25])), (q25, .inr (0, [.int 0, .ref d0, .int 0])), (q27, .inr (3, [w030, w131, w232, .int 0, .int ((-1)), .int ((-1)), .int ((-1))])), (q34, .inr (3, [w037, w138, w239, .int 0, .int ((-1)), .int ((-1)), .int ((-1))]))] := hD
  have hK : va_K (dC, dI) vwCl [(t2, .object RX2), (t10, .int), (t12, .object RX5), (t17, .int)] s := hK
  refine W.widen (k := 23) (n := 912) (Nat.le_of_ble_eq_true rfl) (Nat.le_of_ble_eq_true rfl) ?_
  refine va_astq hx hb hK hP hD hS 1 0 11 3 rfl rfl rfl rfl (vp_in_nI (n := 1) (by decide) (by decide)) dX7_init_121 (fun H locs hP hD hS => ?_)
  have hP : va_P (dC, dI) vwCl [(h0, .inr (8, [.ref a1, .ref a2, .ref a3, .ref q1, .ref q3, .ref q9, .ref q11, .ref q13, .ref q16, .int i9, .ref q18, .ref q22])), (q1, .inl (t2, 6, .inr (.inr (.inr (.inr ((va_up (va_up (fun _ => none) 0 (some q27)) 1 (some q34)))))))), (q3, .inr (3, [w06, w17, w28, .int 0, .int ((-1)), .int ((-1)), .int ((-1))])), (q9, .inl (t10, 6, .inl ((fun _ => 0)))), (q11, .inl (t12, 18, .inr (.inr (.inr (.inr ((fun _ => none))))))), (q13, .inr (0, [.int 0, .ref d0, .int 0])), (q16, .inl (t17, 240, .inl ((fun _ => 0)))), (q18, .inr (6, [v21, .int 0])), (q22, .inr (2, [.ref q25])), (q25, .inr (0, [.int 0, .ref d0, .int 0])), (q27, .inr (3, [w030, w131, w232, .int 0, .int ((-1)), .int ((-1)), .int ((-1))])), (q34, .inr (3, [w037, w138, w239, .int 0, .int ((-1)), .int ((-1)), .int ((-1))]))] H := hP
  have hD : va_D A [(h0, .inr (8, [.ref a1, .ref a2, .ref a3, .ref q1, .ref q3, .ref q9, .ref q11, .ref q13, .ref q16, .int i9, .ref q18, .ref q22])), (q1, .inl (t2, 6, .inr (.inr (.inr (.inr ((va_up (va_up (fun _ => none) 0 (some q27)) 1 (some q34)))))))), (q3, .inr (3, [w06, w17, w28, .int 0, .int ((-1)), .int ((-1)), .int ((-1))])), (q9, .inl (t10, 6, .inl ((fun _ => 0)))), (q11, .inl (t12, 18, .inr (.inr (.inr (.inr ((fun _ => none))))))), (q13, .inr (0, [.int 0, .ref d0, .int 0])), (q16, .inl (t17, 240, .inl ((fun _ => 0)))), (q18, .inr (6, [v21, .int 0])), (q22, .inr (2, [.ref q25])), (q25, .inr (0, [.int 0, .ref d0, .int 0])), (q27, .inr (3, [w030, w131, w232, .int 0, .int ((-1)), .int ((-1)), .int ((-1))])), (q34, .inr (3, [w037, w138, w239, .int 0, .int ((-1)), .int ((-1)), .int ((-1))]))] := hD
  refine lv_iinc (v := 2) (lv' := [(4, .int 2), (0, .ref h0), (1, .ref a1), (2, .ref a2), (3, .ref a3)]) hx hb dX7_init_122 hl (k := 0) rfl (by decide) (by decide) rfl (fun ls hl => ?_)
  refine lv_goto (tgt := 101) hx hb dX7_init_125 (by decide) ?_
  refine lv_iload hx hb dX7_init_101 (lv_at hl 0 rfl) ?_
  refine lv_bipush (v := 6) hx hb dX7_init_103 (by decide) ?_
  refine lv_icmp_ge (tgt := 128) hx hb dX7_init_105 (by decide) (fun c40 => absurd c40 (by decide)) (fun c40 => ?_)
  refine lv_aload_n hx hb dX7_init_108 rfl (lv_at hl 1 rfl) ?_
  refine va_get (D := (dC, dI)) (ci := 8) (v := .ref q1) (C := RX7) (T := TX7) (N := 12) hx hb ht inGX7 hown hK hP 0 rfl rfl 3 (by decide) (ht _ q357) (fun _ h9 => h9) rfl dX7_init_109 ?_
  refine lv_iload hx hb dX7_init_112 (lv_at hl 0 rfl) ?_
  refine va_new (ci := 3) (fs := [.null, .null, .null, .int 0, .int 0, .int 0, .int 0]) (C := RX2) (T := TX2) (N := 7) hx hb ht inGX2 tyX2 tyX2_ok hown (ht _ q343) (ht _ q253) (ht _ q131) hK hP hD hS hA rfl (fun j hj => by rcases (show j = 0 ∨ j = 1 ∨ j = 2 ∨ j = 3 ∨ j = 4 ∨ j = 5 ∨ j = 6 by omega) with rfl | rfl | rfl | rfl | rfl | rfl | rfl <;> rfl) (Nat.le_of_ble_eq_true rfl) (Nat.le_of_ble_eq_true rfl) dX7_init_114 (fun q41 H hP hD hS => ?_)
  have hP : va_P (dC, dI) vwCl [(h0, .inr (8, [.ref a1, .ref a2, .ref a3, .ref q1, .ref q3, .ref q9, .ref q11, .ref q13, .ref q16, .int i9, .ref q18, .ref q22])), (q1, .inl (t2, 6, .inr (.inr (.inr (.inr ((va_up (va_up (fun _ => none) 0 (some q27)) 1 (some q34)))))))), (q3, .inr (3, [w06, w17, w28, .int 0, .int ((-1)), .int ((-1)), .int ((-1))])), (q9, .inl (t10, 6, .inl ((fun _ => 0)))), (q11, .inl (t12, 18, .inr (.inr (.inr (.inr ((fun _ => none))))))), (q13, .inr (0, [.int 0, .ref d0, .int 0])), (q16, .inl (t17, 240, .inl ((fun _ => 0)))), (q18, .inr (6, [v21, .int 0])), (q22, .inr (2, [.ref q25])), (q25, .inr (0, [.int 0, .ref d0, .int 0])), (q27, .inr (3, [w030, w131, w232, .int 0, .int ((-1)), .int ((-1)), .int ((-1))])), (q34, .inr (3, [w037, w138, w239, .int 0, .int ((-1)), .int ((-1)), .int ((-1))])), (q41, .inr (3, [.null, .null, .null, .int 0, .int 0, .int 0, .int 0]))] H := hP
  have hD : va_D A [(h0, .inr (8, [.ref a1, .ref a2, .ref a3, .ref q1, .ref q3, .ref q9, .ref q11, .ref q13, .ref q16, .int i9, .ref q18, .ref q22])), (q1, .inl (t2, 6, .inr (.inr (.inr (.inr ((va_up (va_up (fun _ => none) 0 (some q27)) 1 (some q34)))))))), (q3, .inr (3, [w06, w17, w28, .int 0, .int ((-1)), .int ((-1)), .int ((-1))])), (q9, .inl (t10, 6, .inl ((fun _ => 0)))), (q11, .inl (t12, 18, .inr (.inr (.inr (.inr ((fun _ => none))))))), (q13, .inr (0, [.int 0, .ref d0, .int 0])), (q16, .inl (t17, 240, .inl ((fun _ => 0)))), (q18, .inr (6, [v21, .int 0])), (q22, .inr (2, [.ref q25])), (q25, .inr (0, [.int 0, .ref d0, .int 0])), (q27, .inr (3, [w030, w131, w232, .int 0, .int ((-1)), .int ((-1)), .int ((-1))])), (q34, .inr (3, [w037, w138, w239, .int 0, .int ((-1)), .int ((-1)), .int ((-1))])), (q41, .inr (3, [.null, .null, .null, .int 0, .int 0, .int 0, .int 0]))] := hD
  refine W.widen (k := 24) (n := 919) (Nat.le_of_ble_eq_true rfl) (Nat.le_of_ble_eq_true rfl) ?_
  refine lv_dup hx hb dX7_init_117 rfl ?_
  have hPc := hP.sub (ws' := [(q41, .inr (3, [.null, .null, .null, .int 0, .int 0, .int 0, .int 0]))]) [12] rfl
  have hDc := hD.sub (ws' := [(q41, .inr (3, [.null, .null, .null, .int 0, .int 0, .int 0, .int 0]))]) [12] (by decide) rfl
  have hKc := hK.sub (tys' := []) [] rfl
  have hFc := va_free (wc := [(q41, .inr (3, [.null, .null, .null, .int 0, .int 0, .int 0, .int 0]))]) hD hS hA [12] rfl
  refine va_callv (va_runIN (As := []) (rest := [.ref q41, .int 2, .ref q1]) ⟨hx, hb, hml, hown, ht⟩ (k_X2_init l d0 cO dC dI H.size q41 .null .null .null 0 0 0 0) (my_NI ht M_X2_init q255 rfl q344 (Nat.le_of_ble_eq_true rfl) (Nat.le_of_ble_eq_true rfl)) ⟨PRE.fb, fun U hU hW => ⟨rfl, PRE.mk' hE hS hFc hPc hKc hDc U hU hW⟩⟩ rfl rfl hl.1 rfl (lv_room (Nat.le_of_ble_eq_true rfl)) dX7_init_118 ⟨(Nat.le_of_ble_eq_true rfl), (Nat.le_of_ble_eq_true rfl)⟩) hS (fun q _ h => hFc q h) hFc (fun u42 t H1 locs htt hvm hw hB hz1 hk1 hS => ?_)
  try dsimp only at hw hB
  obtain ⟨w044, w145, w246, hP1, hK1, hD1⟩ := hB
  rw [htt] at hP1
  have hK1 := va_K.moved hvm.symm hK1
  obtain ⟨hP, hD⟩ := va_join (wr := [(h0, .inr (8, [.ref a1, .ref a2, .ref a3, .ref q1, .ref q3, .ref q9, .ref q11, .ref q13, .ref q16, .int i9, .ref q18, .ref q22])), (q1, .inl (t2, 6, .inr (.inr (.inr (.inr ((va_up (va_up (fun _ => none) 0 (some q27)) 1 (some q34)))))))), (q3, .inr (3, [w06, w17, w28, .int 0, .int ((-1)), .int ((-1)), .int ((-1))])), (q9, .inl (t10, 6, .inl ((fun _ => 0)))), (q11, .inl (t12, 18, .inr (.inr (.inr (.inr ((fun _ => none))))))), (q13, .inr (0, [.int 0, .ref d0, .int 0])), (q16, .inl (t17, 240, .inl ((fun _ => 0)))), (q18, .inr (6, [v21, .int 0])), (q22, .inr (2, [.ref q25])), (q25, .inr (0, [.int 0, .ref d0, .int 0])), (q27, .inr (3, [w030, w131, w232, .int 0, .int ((-1)), .int ((-1)), .int ((-1))])), (q34, .inr (3, [w037, w138, w239, .int 0, .int ((-1)), .int ((-1)), .int ((-1))]))]) (w1 := [(q41, .inr (3, [w044, w145, w246, .int 0, .int ((-1)), .int ((-1)), .int ((-1))]))]) hP hD [12] [0, 1, 2, 3, 4, 5, 6, 7, 8, 9, 10, 11] rfl rfl (by decide) (by decide) hk1 hFc hP1 hD1
  have hK := (hK.sub (tys' := [(t2, .object RX2), (t10, .int), (t12, .object RX5), (t17, .int)]) [0, 1, 2, 3] rfl).app hK1
  generalize H1 = H at hP hS ⊢
  have hP : va_P (dC, dI) vwCl [(h0, .inr (8, [.ref a1, .ref a2, .ref a3, .ref q1, .ref q3, .ref q9, .ref q11, .ref q13, .ref q16, .int i9, .ref q18, .ref q22])), (q1, .inl (t2, 6, .inr (.inr (.inr (.inr ((va_up (va_up (fun _ => none) 0 (some q27)) 1 (some q34)))))))), (q3, .inr (3, [w06, w17, w28, .int 0, .int ((-1)), .int ((-1)), .int ((-1))])), (q9, .inl (t10, 6, .inl ((fun _ => 0)))), (q11, .inl (t12, 18, .inr (.inr (.inr (.inr ((fun _ => none))))))), (q13, .inr (0, [.int 0, .ref d0, .int 0])), (q16, .inl (t17, 240, .inl ((fun _ => 0)))), (q18, .inr (6, [v21, .int 0])), (q22, .inr (2, [.ref q25])), (q25, .inr (0, [.int 0, .ref d0, .int 0])), (q27, .inr (3, [w030, w131, w232, .int 0, .int ((-1)), .int ((-1)), .int ((-1))])), (q34, .inr (3, [w037, w138, w239, .int 0, .int ((-1)), .int ((-1)), .int ((-1))])), (q41, .inr (3, [w044, w145, w246, .int 0, .int ((-1)), .int ((-1)), .int ((-1))]))] H := hP
  have hD : va_D A [(h0, .inr (8, [.ref a1, .ref a2, .ref a3, .ref q1, .ref q3, .ref q9, .ref q11, .ref q13, .ref q16, .int i9, .ref q18, .ref q22])), (q1, .inl (t2, 6, .inr (.inr (.inr (.inr ((va_up (va_up (fun _ => none) 0 (some q27)) 1 (some q34)))))))), (q3, .inr (3, [w06, w17, w28, .int 0, .int ((-1)), .int ((-1)), .int ((-1))])), (q9, .inl (t10, 6, .inl ((fun _ => 0)))), (q11, .inl (t12, 18, .inr (.inr (.inr (.inr ((fun _ => none))))))), (q13, .inr (0, [.int 0, .ref d0, .int 0])), (q16, .inl (t17, 240, .inl ((fun _ => 0)))), (q18, .inr (6, [v21, .int 0])), (q22, .inr (2, [.ref q25])), (q25, .inr (0, [.int 0, .ref d0, .int 0])), (q27, .inr (3, [w030, w131, w232, .int 0, .int ((-1)), .int ((-1)), .int ((-1))])), (q34, .inr (3, [w037, w138, w239, .int 0, .int ((-1)), .int ((-1)), .int ((-1))])), (q41, .inr (3, [w044, w145, w246, .int 0, .int ((-1)), .int ((-1)), .int ((-1))]))] := hD
  have hK : va_K (dC, dI) vwCl [(t2, .object RX2), (t10, .int), (t12, .object RX5), (t17, .int)] s := hK
  refine W.widen (k := 28) (n := 1123) (Nat.le_of_ble_eq_true rfl) (Nat.le_of_ble_eq_true rfl) ?_
  refine va_astq hx hb hK hP hD hS 1 0 12 3 rfl rfl rfl rfl (vp_in_nI (n := 2) (by decide) (by decide)) dX7_init_121 (fun H locs hP hD hS => ?_)
  have hP : va_P (dC, dI) vwCl [(h0, .inr (8, [.ref a1, .ref a2, .ref a3, .ref q1, .ref q3, .ref q9, .ref q11, .ref q13, .ref q16, .int i9, .ref q18, .ref q22])), (q1, .inl (t2, 6, .inr (.inr (.inr (.inr ((va_up (va_up (va_up (fun _ => none) 0 (some q27)) 1 (some q34)) 2 (some q41)))))))), (q3, .inr (3, [w06, w17, w28, .int 0, .int ((-1)), .int ((-1)), .int ((-1))])), (q9, .inl (t10, 6, .inl ((fun _ => 0)))), (q11, .inl (t12, 18, .inr (.inr (.inr (.inr ((fun _ => none))))))), (q13, .inr (0, [.int 0, .ref d0, .int 0])), (q16, .inl (t17, 240, .inl ((fun _ => 0)))), (q18, .inr (6, [v21, .int 0])), (q22, .inr (2, [.ref q25])), (q25, .inr (0, [.int 0, .ref d0, .int 0])), (q27, .inr (3, [w030, w131, w232, .int 0, .int ((-1)), .int ((-1)), .int ((-1))])), (q34, .inr (3, [w037, w138, w239, .int 0, .int ((-1)), .int ((-1)), .int ((-1))])), (q41, .inr (3, [w044, w145, w246, .int 0, .int ((-1)), .int ((-1)), .int ((-1))]))] H := hP
  have hD : va_D A [(h0, .inr (8, [.ref a1, .ref a2, .ref a3, .ref q1, .ref q3, .ref q9, .ref q11, .ref q13, .ref q16, .int i9, .ref q18, .ref q22])), (q1, .inl (t2, 6, .inr (.inr (.inr (.inr ((va_up (va_up (va_up (fun _ => none) 0 (some q27)) 1 (some q34)) 2 (some q41)))))))), (q3, .inr (3, [w06, w17, w28, .int 0, .int ((-1)), .int ((-1)), .int ((-1))])), (q9, .inl (t10, 6, .inl ((fun _ => 0)))), (q11, .inl (t12, 18, .inr (.inr (.inr (.inr ((fun _ => none))))))), (q13, .inr (0, [.int 0, .ref d0, .int 0])), (q16, .inl (t17, 240, .inl ((fun _ => 0)))), (q18, .inr (6, [v21, .int 0])), (q22, .inr (2, [.ref q25])), (q25, .inr (0, [.int 0, .ref d0, .int 0])), (q27, .inr (3, [w030, w131, w232, .int 0, .int ((-1)), .int ((-1)), .int ((-1))])), (q34, .inr (3, [w037, w138, w239, .int 0, .int ((-1)), .int ((-1)), .int ((-1))])), (q41, .inr (3, [w044, w145, w246, .int 0, .int ((-1)), .int ((-1)), .int ((-1))]))] := hD
  refine lv_iinc (v := 3) (lv' := [(4, .int 3), (0, .ref h0), (1, .ref a1), (2, .ref a2), (3, .ref a3)]) hx hb dX7_init_122 hl (k := 0) rfl (by decide) (by decide) rfl (fun ls hl => ?_)
  refine lv_goto (tgt := 101) hx hb dX7_init_125 (by decide) ?_
  refine lv_iload hx hb dX7_init_101 (lv_at hl 0 rfl) ?_
  refine lv_bipush (v := 6) hx hb dX7_init_103 (by decide) ?_
  refine lv_icmp_ge (tgt := 128) hx hb dX7_init_105 (by decide) (fun c47 => absurd c47 (by decide)) (fun c47 => ?_)
  refine lv_aload_n hx hb dX7_init_108 rfl (lv_at hl 1 rfl) ?_
  refine va_get (D := (dC, dI)) (ci := 8) (v := .ref q1) (C := RX7) (T := TX7) (N := 12) hx hb ht inGX7 hown hK hP 0 rfl rfl 3 (by decide) (ht _ q357) (fun _ h9 => h9) rfl dX7_init_109 ?_
  refine lv_iload hx hb dX7_init_112 (lv_at hl 0 rfl) ?_
  refine va_new (ci := 3) (fs := [.null, .null, .null, .int 0, .int 0, .int 0, .int 0]) (C := RX2) (T := TX2) (N := 7) hx hb ht inGX2 tyX2 tyX2_ok hown (ht _ q343) (ht _ q253) (ht _ q131) hK hP hD hS hA rfl (fun j hj => by rcases (show j = 0 ∨ j = 1 ∨ j = 2 ∨ j = 3 ∨ j = 4 ∨ j = 5 ∨ j = 6 by omega) with rfl | rfl | rfl | rfl | rfl | rfl | rfl <;> rfl) (Nat.le_of_ble_eq_true rfl) (Nat.le_of_ble_eq_true rfl) dX7_init_114 (fun q48 H hP hD hS => ?_)
  have hP : va_P (dC, dI) vwCl [(h0, .inr (8, [.ref a1, .ref a2, .ref a3, .ref q1, .ref q3, .ref q9, .ref q11, .ref q13, .ref q16, .int i9, .ref q18, .ref q22])), (q1, .inl (t2, 6, .inr (.inr (.inr (.inr ((va_up (va_up (va_up (fun _ => none) 0 (some q27)) 1 (some q34)) 2 (some q41)))))))), (q3, .inr (3, [w06, w17, w28, .int 0, .int ((-1)), .int ((-1)), .int ((-1))])), (q9, .inl (t10, 6, .inl ((fun _ => 0)))), (q11, .inl (t12, 18, .inr (.inr (.inr (.inr ((fun _ => none))))))), (q13, .inr (0, [.int 0, .ref d0, .int 0])), (q16, .inl (t17, 240, .inl ((fun _ => 0)))), (q18, .inr (6, [v21, .int 0])), (q22, .inr (2, [.ref q25])), (q25, .inr (0, [.int 0, .ref d0, .int 0])), (q27, .inr (3, [w030, w131, w232, .int 0, .int ((-1)), .int ((-1)), .int ((-1))])), (q34, .inr (3, [w037, w138, w239, .int 0, .int ((-1)), .int ((-1)), .int ((-1))])), (q41, .inr (3, [w044, w145, w246, .int 0, .int ((-1)), .int ((-1)), .int ((-1))])), (q48, .inr (3, [.null, .null, .null, .int 0, .int 0, .int 0, .int 0]))] H := hP
  have hD : va_D A [(h0, .inr (8, [.ref a1, .ref a2, .ref a3, .ref q1, .ref q3, .ref q9, .ref q11, .ref q13, .ref q16, .int i9, .ref q18, .ref q22])), (q1, .inl (t2, 6, .inr (.inr (.inr (.inr ((va_up (va_up (va_up (fun _ => none) 0 (some q27)) 1 (some q34)) 2 (some q41)))))))), (q3, .inr (3, [w06, w17, w28, .int 0, .int ((-1)), .int ((-1)), .int ((-1))])), (q9, .inl (t10, 6, .inl ((fun _ => 0)))), (q11, .inl (t12, 18, .inr (.inr (.inr (.inr ((fun _ => none))))))), (q13, .inr (0, [.int 0, .ref d0, .int 0])), (q16, .inl (t17, 240, .inl ((fun _ => 0)))), (q18, .inr (6, [v21, .int 0])), (q22, .inr (2, [.ref q25])), (q25, .inr (0, [.int 0, .ref d0, .int 0])), (q27, .inr (3, [w030, w131, w232, .int 0, .int ((-1)), .int ((-1)), .int ((-1))])), (q34, .inr (3, [w037, w138, w239, .int 0, .int ((-1)), .int ((-1)), .int ((-1))])), (q41, .inr (3, [w044, w145, w246, .int 0, .int ((-1)), .int ((-1)), .int ((-1))])), (q48, .inr (3, [.null, .null, .null, .int 0, .int 0, .int 0, .int 0]))] := hD
  refine W.widen (k := 29) (n := 1130) (Nat.le_of_ble_eq_true rfl) (Nat.le_of_ble_eq_true rfl) ?_
  refine lv_dup hx hb dX7_init_117 rfl ?_
  have hPc := hP.sub (ws' := [(q48, .inr (3, [.null, .null, .null, .int 0, .int 0, .int 0, .int 0]))]) [13] rfl
  have hDc := hD.sub (ws' := [(q48, .inr (3, [.null, .null, .null, .int 0, .int 0, .int 0, .int 0]))]) [13] (by decide) rfl
  have hKc := hK.sub (tys' := []) [] rfl
  have hFc := va_free (wc := [(q48, .inr (3, [.null, .null, .null, .int 0, .int 0, .int 0, .int 0]))]) hD hS hA [13] rfl
  refine va_callv (va_runIN (As := []) (rest := [.ref q48, .int 3, .ref q1]) ⟨hx, hb, hml, hown, ht⟩ (k_X2_init l d0 cO dC dI H.size q48 .null .null .null 0 0 0 0) (my_NI ht M_X2_init q255 rfl q344 (Nat.le_of_ble_eq_true rfl) (Nat.le_of_ble_eq_true rfl)) ⟨PRE.fb, fun U hU hW => ⟨rfl, PRE.mk' hE hS hFc hPc hKc hDc U hU hW⟩⟩ rfl rfl hl.1 rfl (lv_room (Nat.le_of_ble_eq_true rfl)) dX7_init_118 ⟨(Nat.le_of_ble_eq_true rfl), (Nat.le_of_ble_eq_true rfl)⟩) hS (fun q _ h => hFc q h) hFc (fun u49 t H1 locs htt hvm hw hB hz1 hk1 hS => ?_)
  try dsimp only at hw hB
  obtain ⟨w051, w152, w253, hP1, hK1, hD1⟩ := hB
  rw [htt] at hP1
  have hK1 := va_K.moved hvm.symm hK1
  obtain ⟨hP, hD⟩ := va_join (wr := [(h0, .inr (8, [.ref a1, .ref a2, .ref a3, .ref q1, .ref q3, .ref q9, .ref q11, .ref q13, .ref q16, .int i9, .ref q18, .ref q22])), (q1, .inl (t2, 6, .inr (.inr (.inr (.inr ((va_up (va_up (va_up (fun _ => none) 0 (some q27)) 1 (some q34)) 2 (some q41)))))))), (q3, .inr (3, [w06, w17, w28, .int 0, .int ((-1)), .int ((-1)), .int ((-1))])), (q9, .inl (t10, 6, .inl ((fun _ => 0)))), (q11, .inl (t12, 18, .inr (.inr (.inr (.inr ((fun _ => none))))))), (q13, .inr (0, [.int 0, .ref d0, .int 0])), (q16, .inl (t17, 240, .inl ((fun _ => 0)))), (q18, .inr (6, [v21, .int 0])), (q22, .inr (2, [.ref q25])), (q25, .inr (0, [.int 0, .ref d0, .int 0])), (q27, .inr (3, [w030, w131, w232, .int 0, .int ((-1)), .int ((-1)), .int ((-1))])), (q34, .inr (3, [w037, w138, w239, .int 0, .int ((-1)), .int ((-1)), .int ((-1))])), (q41, .inr (3, [w044, w145, w246, .int 0, .int ((-1)), .int ((-1)), .int ((-1))]))]) (w1 := [(q48, .inr (3, [w051, w152, w253, .int 0, .int ((-1)), .int ((-1)), .int ((-1))]))]) hP hD [13] [0, 1, 2, 3, 4, 5, 6, 7, 8, 9, 10, 11, 12] rfl rfl (by decide) (by decide) hk1 hFc hP1 hD1
  have hK := (hK.sub (tys' := [(t2, .object RX2), (t10, .int), (t12, .object RX5), (t17, .int)]) [0, 1, 2, 3] rfl).app hK1
  generalize H1 = H at hP hS ⊢
  have hP : va_P (dC, dI) vwCl [(h0, .inr (8, [.ref a1, .ref a2, .ref a3, .ref q1, .ref q3, .ref q9, .ref q11, .ref q13, .ref q16, .int i9, .ref q18, .ref q22])), (q1, .inl (t2, 6, .inr (.inr (.inr (.inr ((va_up (va_up (va_up (fun _ => none) 0 (some q27)) 1 (some q34)) 2 (some q41)))))))), (q3, .inr (3, [w06, w17, w28, .int 0, .int ((-1)), .int ((-1)), .int ((-1))])), (q9, .inl (t10, 6, .inl ((fun _ => 0)))), (q11, .inl (t12, 18, .inr (.inr (.inr (.inr ((fun _ => none))))))), (q13, .inr (0, [.int 0, .ref d0, .int 0])), (q16, .inl (t17, 240, .inl ((fun _ => 0)))), (q18, .inr (6, [v21, .int 0])), (q22, .inr (2, [.ref q25])), (q25, .inr (0, [.int 0, .ref d0, .int 0])), (q27, .inr (3, [w030, w131, w232, .int 0, .int ((-1)), .int ((-1)), .int ((-1))])), (q34, .inr (3, [w037, w138, w239, .int 0, .int ((-1)), .int ((-1)), .int ((-1))])), (q41, .inr (3, [w044, w145, w246, .int 0, .int ((-1)), .int ((-1)), .int ((-1))])), (q48, .inr (3, [w051, w152, w253, .int 0, .int ((-1)), .int ((-1)), .int ((-1))]))] H := hP
  have hD : va_D A [(h0, .inr (8, [.ref a1, .ref a2, .ref a3, .ref q1, .ref q3, .ref q9, .ref q11, .ref q13, .ref q16, .int i9, .ref q18, .ref q22])), (q1, .inl (t2, 6, .inr (.inr (.inr (.inr ((va_up (va_up (va_up (fun _ => none) 0 (some q27)) 1 (some q34)) 2 (some q41)))))))), (q3, .inr (3, [w06, w17, w28, .int 0, .int ((-1)), .int ((-1)), .int ((-1))])), (q9, .inl (t10, 6, .inl ((fun _ => 0)))), (q11, .inl (t12, 18, .inr (.inr (.inr (.inr ((fun _ => none))))))), (q13, .inr (0, [.int 0, .ref d0, .int 0])), (q16, .inl (t17, 240, .inl ((fun _ => 0)))), (q18, .inr (6, [v21, .int 0])), (q22, .inr (2, [.ref q25])), (q25, .inr (0, [.int 0, .ref d0, .int 0])), (q27, .inr (3, [w030, w131, w232, .int 0, .int ((-1)), .int ((-1)), .int ((-1))])), (q34, .inr (3, [w037, w138, w239, .int 0, .int ((-1)), .int ((-1)), .int ((-1))])), (q41, .inr (3, [w044, w145, w246, .int 0, .int ((-1)), .int ((-1)), .int ((-1))])), (q48, .inr (3, [w051, w152, w253, .int 0, .int ((-1)), .int ((-1)), .int ((-1))]))] := hD
  have hK : va_K (dC, dI) vwCl [(t2, .object RX2), (t10, .int), (t12, .object RX5), (t17, .int)] s := hK
  refine W.widen (k := 33) (n := 1334) (Nat.le_of_ble_eq_true rfl) (Nat.le_of_ble_eq_true rfl) ?_
  refine va_astq hx hb hK hP hD hS 1 0 13 3 rfl rfl rfl rfl (vp_in_nI (n := 3) (by decide) (by decide)) dX7_init_121 (fun H locs hP hD hS => ?_)
  have hP : va_P (dC, dI) vwCl [(h0, .inr (8, [.ref a1, .ref a2, .ref a3, .ref q1, .ref q3, .ref q9, .ref q11, .ref q13, .ref q16, .int i9, .ref q18, .ref q22])), (q1, .inl (t2, 6, .inr (.inr (.inr (.inr ((va_up (va_up (va_up (va_up (fun _ => none) 0 (some q27)) 1 (some q34)) 2 (some q41)) 3 (some q48)))))))), (q3, .inr (3, [w06, w17, w28, .int 0, .int ((-1)), .int ((-1)), .int ((-1))])), (q9, .inl (t10, 6, .inl ((fun _ => 0)))), (q11, .inl (t12, 18, .inr (.inr (.inr (.inr ((fun _ => none))))))), (q13, .inr (0, [.int 0, .ref d0, .int 0])), (q16, .inl (t17, 240, .inl ((fun _ => 0)))), (q18, .inr (6, [v21, .int 0])), (q22, .inr (2, [.ref q25])), (q25, .inr (0, [.int 0, .ref d0, .int 0])), (q27, .inr (3, [w030, w131, w232, .int 0, .int ((-1)), .int ((-1)), .int ((-1))])), (q34, .inr (3, [w037, w138, w239, .int 0, .int ((-1)), .int ((-1)), .int ((-1))])), (q41, .inr (3, [w044, w145, w246, .int 0, .int ((-1)), .int ((-1)), .int ((-1))])), (q48, .inr (3, [w051, w152, w253, .int 0, .int ((-1)), .int ((-1)), .int ((-1))]))] H := hP
  have hD : va_D A [(h0, .inr (8, [.ref a1, .ref a2, .ref a3, .ref q1, .ref q3, .ref q9, .ref q11, .ref q13, .ref q16, .int i9, .ref q18, .ref q22])), (q1, .inl (t2, 6, .inr (.inr (.inr (.inr ((va_up (va_up (va_up (va_up (fun _ => none) 0 (some q27)) 1 (some q34)) 2 (some q41)) 3 (some q48)))))))), (q3, .inr (3, [w06, w17, w28, .int 0, .int ((-1)), .int ((-1)), .int ((-1))])), (q9, .inl (t10, 6, .inl ((fun _ => 0)))), (q11, .inl (t12, 18, .inr (.inr (.inr (.inr ((fun _ => none))))))), (q13, .inr (0, [.int 0, .ref d0, .int 0])), (q16, .inl (t17, 240, .inl ((fun _ => 0)))), (q18, .inr (6, [v21, .int 0])), (q22, .inr (2, [.ref q25])), (q25, .inr (0, [.int 0, .ref d0, .int 0])), (q27, .inr (3, [w030, w131, w232, .int 0, .int ((-1)), .int ((-1)), .int ((-1))])), (q34, .inr (3, [w037, w138, w239, .int 0, .int ((-1)), .int ((-1)), .int ((-1))])), (q41, .inr (3, [w044, w145, w246, .int 0, .int ((-1)), .int ((-1)), .int ((-1))])), (q48, .inr (3, [w051, w152, w253, .int 0, .int ((-1)), .int ((-1)), .int ((-1))]))] := hD
  refine lv_iinc (v := 4) (lv' := [(4, .int 4), (0, .ref h0), (1, .ref a1), (2, .ref a2), (3, .ref a3)]) hx hb dX7_init_122 hl (k := 0) rfl (by decide) (by decide) rfl (fun ls hl => ?_)
  refine lv_goto (tgt := 101) hx hb dX7_init_125 (by decide) ?_
  refine lv_iload hx hb dX7_init_101 (lv_at hl 0 rfl) ?_
  refine lv_bipush (v := 6) hx hb dX7_init_103 (by decide) ?_
  refine lv_icmp_ge (tgt := 128) hx hb dX7_init_105 (by decide) (fun c54 => absurd c54 (by decide)) (fun c54 => ?_)
  refine lv_aload_n hx hb dX7_init_108 rfl (lv_at hl 1 rfl) ?_
  refine va_get (D := (dC, dI)) (ci := 8) (v := .ref q1) (C := RX7) (T := TX7) (N := 12) hx hb ht inGX7 hown hK hP 0 rfl rfl 3 (by decide) (ht _ q357) (fun _ h9 => h9) rfl dX7_init_109 ?_
  refine lv_iload hx hb dX7_init_112 (lv_at hl 0 rfl) ?_
  refine va_new (ci := 3) (fs := [.null, .null, .null, .int 0, .int 0, .int 0, .int 0]) (C := RX2) (T := TX2) (N := 7) hx hb ht inGX2 tyX2 tyX2_ok hown (ht _ q343) (ht _ q253) (ht _ q131) hK hP hD hS hA rfl (fun j hj => by rcases (show j = 0 ∨ j = 1 ∨ j = 2 ∨ j = 3 ∨ j = 4 ∨ j = 5 ∨ j = 6 by omega) with rfl | rfl | rfl | rfl | rfl | rfl | rfl <;> rfl) (Nat.le_of_ble_eq_true rfl) (Nat.le_of_ble_eq_true rfl) dX7_init_114 (fun q55 H hP hD hS => ?_)
  have hP : va_P (dC, dI) vwCl [(h0, .inr (8, [.ref a1, .ref a2, .ref a3, .ref q1, .ref q3, .ref q9, .ref q11, .ref q13, .ref q16, .int i9, .ref q18, .ref q22])), (q1, .inl (t2, 6, .inr (.inr (.inr (.inr ((va_up (va_up (va_up (va_up (fun _ => none) 0 (some q27)) 1 (some q34)) 2 (some q41)) 3 (some q48)))))))), (q3, .inr (3, [w06, w17, w28, .int 0, .int ((-1)), .int ((-1)), .int ((-1))])), (q9, .inl (t10, 6, .inl ((fun _ => 0)))), (q11, .inl (t12, 18, .inr (.inr (.inr (.inr ((fun _ => none))))))), (q13, .inr (0, [.int 0, .ref d0, .int 0])), (q16, .inl (t17, 240, .inl ((fun _ => 0)))), (q18, .inr (6, [v21, .int 0])), (q22, .inr (2, [.ref q25])), (q25, .inr (0, [.int 0, .ref d0, .int 0])), (q27, .inr (3, [w030, w131, w232, .int 0, .int ((-1)), .int ((-1)), .int ((-1))])), (q34, .inr (3, [w037, w138, w239, .int 0, .int ((-1)), .int ((-1)), .int ((-1))])), (q41, .inr (3, [w044, w145, w246, .int 0, .int ((-1)), .int ((-1)), .int ((-1))])), (q48, .inr (3, [w051, w152, w253, .int 0, .int ((-1)), .int ((-1)), .int ((-1))])), (q55, .inr (3, [.null, .null, .null, .int 0, .int 0, .int 0, .int 0]))] H := hP
  have hD : va_D A [(h0, .inr (8, [.ref a1, .ref a2, .ref a3, .ref q1, .ref q3, .ref q9, .ref q11, .ref q13, .ref q16, .int i9, .ref q18, .ref q22])), (q1, .inl (t2, 6, .inr (.inr (.inr (.inr ((va_up (va_up (va_up (va_up (fun _ => none) 0 (some q27)) 1 (some q34)) 2 (some q41)) 3 (some q48)))))))), (q3, .inr (3, [w06, w17, w28, .int 0, .int ((-1)), .int ((-1)), .int ((-1))])), (q9, .inl (t10, 6, .inl ((fun _ => 0)))), (q11, .inl (t12, 18, .inr (.inr (.inr (.inr ((fun _ => none))))))), (q13, .inr (0, [.int 0, .ref d0, .int 0])), (q16, .inl (t17, 240, .inl ((fun _ => 0)))), (q18, .inr (6, [v21, .int 0])), (q22, .inr (2, [.ref q25])), (q25, .inr (0, [.int 0, .ref d0, .int 0])), (q27, .inr (3, [w030, w131, w232, .int 0, .int ((-1)), .int ((-1)), .int ((-1))])), (q34, .inr (3, [w037, w138, w239, .int 0, .int ((-1)), .int ((-1)), .int ((-1))])), (q41, .inr (3, [w044, w145, w246, .int 0, .int ((-1)), .int ((-1)), .int ((-1))])), (q48, .inr (3, [w051, w152, w253, .int 0, .int ((-1)), .int ((-1)), .int ((-1))])), (q55, .inr (3, [.null, .null, .null, .int 0, .int 0, .int 0, .int 0]))] := hD
  refine W.widen (k := 34) (n := 1341) (Nat.le_of_ble_eq_true rfl) (Nat.le_of_ble_eq_true rfl) ?_
  refine lv_dup hx hb dX7_init_117 rfl ?_
  have hPc := hP.sub (ws' := [(q55, .inr (3, [.null, .null, .null, .int 0, .int 0, .int 0, .int 0]))]) [14] rfl
  have hDc := hD.sub (ws' := [(q55, .inr (3, [.null, .null, .null, .int 0, .int 0, .int 0, .int 0]))]) [14] (by decide) rfl
  have hKc := hK.sub (tys' := []) [] rfl
  have hFc := va_free (wc := [(q55, .inr (3, [.null, .null, .null, .int 0, .int 0, .int 0, .int 0]))]) hD hS hA [14] rfl
  refine va_callv (va_runIN (As := []) (rest := [.ref q55, .int 4, .ref q1]) ⟨hx, hb, hml, hown, ht⟩ (k_X2_init l d0 cO dC dI H.size q55 .null .null .null 0 0 0 0) (my_NI ht M_X2_init q255 rfl q344 (Nat.le_of_ble_eq_true rfl) (Nat.le_of_ble_eq_true rfl)) ⟨PRE.fb, fun U hU hW => ⟨rfl, PRE.mk' hE hS hFc hPc hKc hDc U hU hW⟩⟩ rfl rfl hl.1 rfl (lv_room (Nat.le_of_ble_eq_true rfl)) dX7_init_118 ⟨(Nat.le_of_ble_eq_true rfl), (Nat.le_of_ble_eq_true rfl)⟩) hS (fun q _ h => hFc q h) hFc (fun u56 t H1 locs htt hvm hw hB hz1 hk1 hS => ?_)
  try dsimp only at hw hB
  obtain ⟨w058, w159, w260, hP1, hK1, hD1⟩ := hB
  rw [htt] at hP1
  have hK1 := va_K.moved hvm.symm hK1
  obtain ⟨hP, hD⟩ := va_join (wr := [(h0, .inr (8, [.ref a1, .ref a2, .ref a3, .ref q1, .ref q3, .ref q9, .ref q11, .ref q13, .ref q16, .int i9, .ref q18, .ref q22])), (q1, .inl (t2, 6, .inr (.inr (.inr (.inr ((va_up (va_up (va_up (va_up (fun _ => none) 0 (some q27)) 1 (some q34)) 2 (some q41)) 3 (some q48)))))))), (q3, .inr (3, [w06, w17, w28, .int 0, .int ((-1)), .int ((-1)), .int ((-1))])), (q9, .inl (t10, 6, .inl ((fun _ => 0)))), (q11, .inl (t12, 18, .inr (.inr (.inr (.inr ((fun _ => none))))))), (q13, .inr (0, [.int 0, .ref d0, .int 0])), (q16, .inl (t17, 240, .inl ((fun _ => 0)))), (q18, .inr (6, [v21, .int 0])), (q22, .inr (2, [.ref q25])), (q25, .inr (0, [.int 0, .ref d0, .int 0])), (q27, .inr (3, [w030, w131, w232, .int 0, .int ((-1)), .int ((-1)), .int ((-1))])), (q34, .inr (3, [w037, w138, w239, .int 0, .int ((-1)), .int ((-1)), .int ((-1))])), (q41, .inr (3, [w044, w145, w246, .int 0, .int ((-1)), .int ((-1)), .int ((-1))])), (q48, .inr (3, [w051, w152, w253, .int 0, .int ((-1)), .int ((-1)), .int ((-1))]))]) (w1 := [(q55, .inr (3, [w058, w159, w260, .int 0, .int ((-1)), .int ((-1)), .int ((-1))]))]) hP hD [14] [0, 1, 2, 3, 4, 5, 6, 7, 8, 9, 10, 11, 12, 13] rfl rfl (by decide) (by decide) hk1 hFc hP1 hD1
  have hK := (hK.sub (tys' := [(t2, .object RX2), (t10, .int), (t12, .object RX5), (t17, .int)]) [0, 1, 2, 3] rfl).app hK1
  generalize H1 = H at hP hS ⊢
  have hP : va_P (dC, dI) vwCl [(h0, .inr (8, [.ref a1, .ref a2, .ref a3, .ref q1, .ref q3, .ref q9, .ref q11, .ref q13, .ref q16, .int i9, .ref q18, .ref q22])), (q1, .inl (t2, 6, .inr (.inr (.inr (.inr ((va_up (va_up (va_up (va_up (fun _ => none) 0 (some q27)) 1 (some q34)) 2 (some q41)) 3 (some q48)))))))), (q3, .inr (3, [w06, w17, w28, .int 0, .int ((-1)), .int ((-1)), .int ((-1))])), (q9, .inl (t10, 6, .inl ((fun _ => 0)))), (q11, .inl (t12, 18, .inr (.inr (.inr (.inr ((fun _ => none))))))), (q13, .inr (0, [.int 0, .ref d0, .int 0])), (q16, .inl (t17, 240, .inl ((fun _ => 0)))), (q18, .inr (6, [v21, .int 0])), (q22, .inr (2, [.ref q25])), (q25, .inr (0, [.int 0, .ref d0, .int 0])), (q27, .inr (3, [w030, w131, w232, .int 0, .int ((-1)), .int ((-1)), .int ((-1))])), (q34, .inr (3, [w037, w138, w239, .int 0, .int ((-1)), .int ((-1)), .int ((-1))])), (q41, .inr (3, [w044, w145, w246, .int 0, .int ((-1)), .int ((-1)), .int ((-1))])), (q48, .inr (3, [w051, w152, w253, .int 0, .int ((-1)), .int ((-1)), .int ((-1))])), (q55, .inr (3, [w058, w159, w260, .int 0, .int ((-1)), .int ((-1)), .int ((-1))]))] H := hP
  have hD : va_D A [(h0, .inr (8, [.ref a1, .ref a2, .ref a3, .ref q1, .ref q3, .ref q9, .ref q11, .ref q13, .ref q16, .int i9, .ref q18, .ref q22])), (q1, .inl (t2, 6, .inr (.inr (.inr (.inr ((va_up (va_up (va_up (va_up (fun _ => none) 0 (some q27)) 1 (some q34)) 2 (some q41)) 3 (some q48)))))))), (q3, .inr (3, [w06, w17, w28, .int 0, .int ((-1)), .int ((-1)), .int ((-1))])), (q9, .inl (t10, 6, .inl ((fun _ => 0)))), (q11, .inl (t12, 18, .inr (.inr (.inr (.inr ((fun _ => none))))))), (q13, .inr (0, [.int 0, .ref d0, .int 0])), (q16, .inl (t17, 240, .inl ((fun _ => 0)))), (q18, .inr (6, [v21, .int 0])), (q22, .inr (2, [.ref q25])), (q25, .inr (0, [.int 0, .ref d0, .int 0])), (q27, .inr (3, [w030, w131, w232, .int 0, .int ((-1)), .int ((-1)), .int ((-1))])), (q34, .inr (3, [w037, w138, w239, .int 0, .int ((-1)), .int ((-1)), .int ((-1))])), (q41, .inr (3, [w044, w145, w246, .int 0, .int ((-1)), .int ((-1)), .int ((-1))])), (q48, .inr (3, [w051, w152, w253, .int 0, .int ((-1)), .int ((-1)), .int ((-1))])), (q55, .inr (3, [w058, w159, w260, .int 0, .int ((-1)), .int ((-1)), .int ((-1))]))] := hD
  have hK : va_K (dC, dI) vwCl [(t2, .object RX2), (t10, .int), (t12, .object RX5), (t17, .int)] s := hK
  refine W.widen (k := 38) (n := 1545) (Nat.le_of_ble_eq_true rfl) (Nat.le_of_ble_eq_true rfl) ?_
  refine va_astq hx hb hK hP hD hS 1 0 14 3 rfl rfl rfl rfl (vp_in_nI (n := 4) (by decide) (by decide)) dX7_init_121 (fun H locs hP hD hS => ?_)
  have hP : va_P (dC, dI) vwCl [(h0, .inr (8, [.ref a1, .ref a2, .ref a3, .ref q1, .ref q3, .ref q9, .ref q11, .ref q13, .ref q16, .int i9, .ref q18, .ref q22])), (q1, .inl (t2, 6, .inr (.inr (.inr (.inr ((va_up (va_up (va_up (va_up (va_up (fun _ => none) 0 (some q27)) 1 (some q34)) 2 (some q41)) 3 (some q48)) 4 (some q55)))))))), (q3, .inr (3, [w06, w17, w28, .int 0, .int ((-1)), .int ((-1)), .int ((-1))])), (q9, .inl (t10, 6, .inl ((fun _ => 0)))), (q11, .inl (t12, 18, .inr (.inr (.inr (.inr ((fun _ => none))))))), (q13, .inr (0, [.int 0, .ref d0, .int 0])), (q16, .inl (t17, 240, .inl ((fun _ => 0)))), (q18, .inr (6, [v21, .int 0])), (q22, .inr (2, [.ref q25])), (q25, .inr (0, [.int 0, .ref d0, .int 0])), (q27, .inr (3, [w030, w131, w232, .int 0, .int ((-1)), .int ((-1)), .int ((-1))])), (q34, .inr (3, [w037, w138, w239, .int 0, .int ((-1)), .int ((-1)), .int ((-1))])), (q41, .inr (3, [w044, w145, w246, .int 0, .int ((-1)), .int ((-1)), .int ((-1))])), (q48, .inr (3, [w051, w152, w253, .int 0, .int ((-1)), .int ((-1)), .int ((-1))])), (q55, .inr (3, [w058, w159, w260, .int 0, .int ((-1)), .int ((-1)), .int ((-1))]))] H := hP
  have hD : va_D A [(h0, .inr (8, [.ref a1, .ref a2, .ref a3, .ref q1, .ref q3, .ref q9, .ref q11, .ref q13, .ref q16, .int i9, .ref q18, .ref q22])), (q1, .inl (t2, 6, .inr (.inr (.inr (.inr ((va_up (va_up (va_up (va_up (va_up (fun _ => none) 0 (some q27)) 1 (some q34)) 2 (some q41)) 3 (some q48)) 4 (some q55)))))))), (q3, .inr (3, [w06, w17, w28, .int 0, .int ((-1)), .int ((-1)), .int ((-1))])), (q9, .inl (t10, 6, .inl ((fun _ => 0)))), (q11, .inl (t12, 18, .inr (.inr (.inr (.inr ((fun _ => none))))))), (q13, .inr (0, [.int 0, .ref d0, .int 0])), (q16, .inl (t17, 240, .inl ((fun _ => 0)))), (q18, .inr (6, [v21, .int 0])), (q22, .inr (2, [.ref q25])), (q25, .inr (0, [.int 0, .ref d0, .int 0])), (q27, .inr (3, [w030, w131, w232, .int 0, .int ((-1)), .int ((-1)), .int ((-1))])), (q34, .inr (3, [w037, w138, w239, .int 0, .int ((-1)), .int ((-1)), .int ((-1))])), (q41, .inr (3, [w044, w145, w246, .int 0, .int ((-1)), .int ((-1)), .int ((-1))])), (q48, .inr (3, [w051, w152, w253, .int 0, .int ((-1)), .int ((-1)), .int ((-1))])), (q55, .inr (3, [w058, w159, w260, .int 0, .int ((-1)), .int ((-1)), .int ((-1))]))] := hD
  refine lv_iinc (v := 5) (lv' := [(4, .int 5), (0, .ref h0), (1, .ref a1), (2, .ref a2), (3, .ref a3)]) hx hb dX7_init_122 hl (k := 0) rfl (by decide) (by decide) rfl (fun ls hl => ?_)
  refine lv_goto (tgt := 101) hx hb dX7_init_125 (by decide) ?_
  refine lv_iload hx hb dX7_init_101 (lv_at hl 0 rfl) ?_
  refine lv_bipush (v := 6) hx hb dX7_init_103 (by decide) ?_
  refine lv_icmp_ge (tgt := 128) hx hb dX7_init_105 (by decide) (fun c61 => absurd c61 (by decide)) (fun c61 => ?_)
  refine lv_aload_n hx hb dX7_init_108 rfl (lv_at hl 1 rfl) ?_
  refine va_get (D := (dC, dI)) (ci := 8) (v := .ref q1) (C := RX7) (T := TX7) (N := 12) hx hb ht inGX7 hown hK hP 0 rfl rfl 3 (by decide) (ht _ q357) (fun _ h9 => h9) rfl dX7_init_109 ?_
  refine lv_iload hx hb dX7_init_112 (lv_at hl 0 rfl) ?_
  refine va_new (ci := 3) (fs := [.null, .null, .null, .int 0, .int 0, .int 0, .int 0]) (C := RX2) (T := TX2) (N := 7) hx hb ht inGX2 tyX2 tyX2_ok hown (ht _ q343) (ht _ q253) (ht _ q131) hK hP hD hS hA rfl (fun j hj => by rcases (show j = 0 ∨ j = 1 ∨ j = 2 ∨ j = 3 ∨ j = 4 ∨ j = 5 ∨ j = 6 by omega) with rfl | rfl | rfl | rfl | rfl | rfl | rfl <;> rfl) (Nat.le_of_ble_eq_true rfl) (Nat.le_of_ble_eq_true rfl) dX7_init_114 (fun q62 H hP hD hS => ?_)
  have hP : va_P (dC, dI) vwCl [(h0, .inr (8, [.ref a1, .ref a2, .ref a3, .ref q1, .ref q3, .ref q9, .ref q11, .ref q13, .ref q16, .int i9, .ref q18, .ref q22])), (q1, .inl (t2, 6, .inr (.inr (.inr (.inr ((va_up (va_up (va_up (va_up (va_up (fun _ => none) 0 (some q27)) 1 (some q34)) 2 (some q41)) 3 (some q48)) 4 (some q55)))))))), (q3, .inr (3, [w06, w17, w28, .int 0, .int ((-1)), .int ((-1)), .int ((-1))])), (q9, .inl (t10, 6, .inl ((fun _ => 0)))), (q11, .inl (t12, 18, .inr (.inr (.inr (.inr ((fun _ => none))))))), (q13, .inr (0, [.int 0, .ref d0, .int 0])), (q16, .inl (t17, 240, .inl ((fun _ => 0)))), (q18, .inr (6, [v21, .int 0])), (q22, .inr (2, [.ref q25])), (q25, .inr (0, [.int 0, .ref d0, .int 0])), (q27, .inr (3, [w030, w131, w232, .int 0, .int ((-1)), .int ((-1)), .int ((-1))])), (q34, .inr (3, [w037, w138, w239, .int 0, .int ((-1)), .int ((-1)), .int ((-1))])), (q41, .inr (3, [w044, w145, w246, .int 0, .int ((-1)), .int ((-1)), .int ((-1))])), (q48, .inr (3, [w051, w152, w253, .int 0, .int ((-1)), .int ((-1)), .int ((-1))])), (q55, .inr (3, [w058, w159, w260, .int 0, .int ((-1)), .int ((-1)), .int ((-1))])), (q62, .inr (3, [.null, .null, .null, .int 0, .int 0, .int 0, .int 0]))] H := hP
  have hD : va_D A [(h0, .inr (8, [.ref a1, .ref a2, .ref a3, .ref q1, .ref q3, .ref q9, .ref q11, .ref q13, .ref q16, .int i9, .ref q18, .ref q22])), (q1, .inl (t2, 6, .inr (.inr (.inr (.inr ((va_up (va_up (va_up (va_up (va_up (fun _ => none) 0 (some q27)) 1 (some q34)) 2 (some q41)) 3 (some q48)) 4 (some q55)))))))), (q3, .inr (3, [w06, w17, w28, .int 0, .int ((-1)), .int ((-1)), .int ((-1))])), (q9, .inl (t10, 6, .inl ((fun _ => 0)))), (q11, .inl (t12, 18, .inr (.inr (.inr (.inr ((fun _ => none))))))), (q13, .inr (0, [.int 0, .ref d0, .int 0])), (q16, .inl (t17, 240, .inl ((fun _ => 0)))), (q18, .inr (6, [v21, .int 0])), (q22, .inr (2, [.ref q25])), (q25, .inr (0, [.int 0, .ref d0, .int 0])), (q27, .inr (3, [w030, w131, w232, .int 0, .int ((-1)), .int ((-1)), .int ((-1))])), (q34, .inr (3, [w037, w138, w239, .int 0, .int ((-1)), .int ((-1)), .int ((-1))])), (q41, .inr (3, [w044, w145, w246, .int 0, .int ((-1)), .int ((-1)), .int ((-1))])), (q48, .inr (3, [w051, w152, w253, .int 0, .int ((-1)), .int ((-1)), .int ((-1))])), (q55, .inr (3, [w058, w159, w260, .int 0, .int ((-1)), .int ((-1)), .int ((-1))])), (q62, .inr (3, [.null, .null, .null, .int 0, .int 0, .int 0, .int 0]))] := hD
  refine W.widen (k := 39) (n := 1552) (Nat.le_of_ble_eq_true rfl) (Nat.le_of_ble_eq_true rfl) ?_
  refine lv_dup hx hb dX7_init_117 rfl ?_
  have hPc := hP.sub (ws' := [(q62, .inr (3, [.null, .null, .null, .int 0, .int 0, .int 0, .int 0]))]) [15] rfl
  have hDc := hD.sub (ws' := [(q62, .inr (3, [.null, .null, .null, .int 0, .int 0, .int 0, .int 0]))]) [15] (by decide) rfl
  have hKc := hK.sub (tys' := []) [] rfl
  have hFc := va_free (wc := [(q62, .inr (3, [.null, .null, .null, .int 0, .int 0, .int 0, .int 0]))]) hD hS hA [15] rfl
  refine va_callv (va_runIN (As := []) (rest := [.ref q62, .int 5, .ref q1]) ⟨hx, hb, hml, hown, ht⟩ (k_X2_init l d0 cO dC dI H.size q62 .null .null .null 0 0 0 0) (my_NI ht M_X2_init q255 rfl q344 (Nat.le_of_ble_eq_true rfl) (Nat.le_of_ble_eq_true rfl)) ⟨PRE.fb, fun U hU hW => ⟨rfl, PRE.mk' hE hS hFc hPc hKc hDc U hU hW⟩⟩ rfl rfl hl.1 rfl (lv_room (Nat.le_of_ble_eq_true rfl)) dX7_init_118 ⟨(Nat.le_of_ble_eq_true rfl), (Nat.le_of_ble_eq_true rfl)⟩) hS (fun q _ h => hFc q h) hFc (fun u63 t H1 locs htt hvm hw hB hz1 hk1 hS => ?_)
  try dsimp only at hw hB
  obtain ⟨w065, w166, w267, hP1, hK1, hD1⟩ := hB
  rw [htt] at hP1
  have hK1 := va_K.moved hvm.symm hK1
  obtain ⟨hP, hD⟩ := va_join (wr := [(h0, .inr (8, [.ref a1, .ref a2, .ref a3, .ref q1, .ref q3, .ref q9, .ref q11, .ref q13, .ref q16, .int i9, .ref q18, .ref q22])), (q1, .inl (t2, 6, .inr (.inr (.inr (.inr ((va_up (va_up (va_up (va_up (va_up (fun _ => none) 0 (some q27)) 1 (some q34)) 2 (some q41)) 3 (some q48)) 4 (some q55)))))))), (q3, .inr (3, [w06, w17, w28, .int 0, .int ((-1)), .int ((-1)), .int ((-1))])), (q9, .inl (t10, 6, .inl ((fun _ => 0)))), (q11, .inl (t12, 18, .inr (.inr (.inr (.inr ((fun _ => none))))))), (q13, .inr (0, [.int 0, .ref d0, .int 0])), (q16, .inl (t17, 240, .inl ((fun _ => 0)))), (q18, .inr (6, [v21, .int 0])), (q22, .inr (2, [.ref q25])), (q25, .inr (0, [.int 0, .ref d0, .int 0])), (q27, .inr (3, [w030, w131, w232, .int 0, .int ((-1)), .int ((-1)), .int ((-1))])), (q34, .inr (3, [w037, w138, w239, .int 0, .int ((-1)), .int ((-1)), .int ((-1))])), (q41, .inr (3, [w044, w145, w246, .int 0, .int ((-1)), .int ((-1)), .int ((-1))])), (q48, .inr (3, [w051, w152, w253, .int 0, .int ((-1)), .int ((-1)), .int ((-1))])), (q55, .inr (3, [w058, w159, w260, .int 0, .int ((-1)), .int ((-1)), .int ((-1))]))]) (w1 := [(q62, .inr (3, [w065, w166, w267, .int 0, .int ((-1)), .int ((-1)), .int ((-1))]))]) hP hD [15] [0, 1, 2, 3, 4, 5, 6, 7, 8, 9, 10, 11, 12, 13, 14] rfl rfl (by decide) (by decide) hk1 hFc hP1 hD1
  have hK := (hK.sub (tys' := [(t2, .object RX2), (t10, .int), (t12, .object RX5), (t17, .int)]) [0, 1, 2, 3] rfl).app hK1
  generalize H1 = H at hP hS ⊢
  have hP : va_P (dC, dI) vwCl [(h0, .inr (8, [.ref a1, .ref a2, .ref a3, .ref q1, .ref q3, .ref q9, .ref q11, .ref q13, .ref q16, .int i9, .ref q18, .ref q22])), (q1, .inl (t2, 6, .inr (.inr (.inr (.inr ((va_up (va_up (va_up (va_up (va_up (fun _ => none) 0 (some q27)) 1 (some q34)) 2 (some q41)) 3 (some q48)) 4 (some q55)))))))), (q3, .inr (3, [w06, w17, w28, .int 0, .int ((-1)), .int ((-1)), .int ((-1))])), (q9, .inl (t10, 6, .inl ((fun _ => 0)))), (q11, .inl (t12, 18, .inr (.inr (.inr (.inr ((fun _ => none))))))), (q13, .inr (0, [.int 0, .ref d0, .int 0])), (q16, .inl (t17, 240, .inl ((fun _ => 0)))), (q18, .inr (6, [v21, .int 0])), (q22, .inr (2, [.ref q25])), (q25, .inr (0, [.int 0, .ref d0, .int 0])), (q27, .inr (3, [w030, w131, w232, .int 0, .int ((-1)), .int ((-1)), .int ((-1))])), (q34, .inr (3, [w037, w138, w239, .int 0, .int ((-1)), .int ((-1)), .int ((-1))])), (q41, .inr (3, [w044, w145, w246, .int 0, .int ((-1)), .int ((-1)), .int ((-1))])), (q48, .inr (3, [w051, w152, w253, .int 0, .int ((-1)), .int ((-1)), .int ((-1))])), (q55, .inr (3, [w058, w159, w260, .int 0, .int ((-1)), .int ((-1)), .int ((-1))])), (q62, .inr (3, [w065, w166, w267, .int 0, .int ((-1)), .int ((-1)), .int ((-1))]))] H := hP
  have hD : va_D A [(h0, .inr (8, [.ref a1, .ref a2, .ref a3, .ref q1, .ref q3, .ref q9, .ref q11, .ref q13, .ref q16, .int i9, .ref q18, .ref q22])), (q1, .inl (t2, 6, .inr (.inr (.inr (.inr ((va_up (va_up (va_up (va_up (va_up (fun _ => none) 0 (some q27)) 1 (some q34)) 2 (some q41)) 3 (some q48)) 4 (some q55)))))))), (q3, .inr (3, [w06, w17, w28, .int 0, .int ((-1)), .int ((-1)), .int ((-1))])), (q9, .inl (t10, 6, .inl ((fun _ => 0)))), (q11, .inl (t12, 18, .inr (.inr (.inr (.inr ((fun _ => none))))))), (q13, .inr (0, [.int 0, .ref d0, .int 0])), (q16, .inl (t17, 240, .inl ((fun _ => 0)))), (q18, .inr (6, [v21, .int 0])), (q22, .inr (2, [.ref q25])), (q25, .inr (0, [.int 0, .ref d0, .int 0])), (q27, .inr (3, [w030, w131, w232, .int 0, .int ((-1)), .int ((-1)), .int ((-1))])), (q34, .inr (3, [w037, w138, w239, .int 0, .int ((-1)), .int ((-1)), .int ((-1))])), (q41, .inr (3, [w044, w145, w246, .int 0, .int ((-1)), .int ((-1)), .int ((-1))])), (q48, .inr (3, [w051, w152, w253, .int 0, .int ((-1)), .int ((-1)), .int ((-1))])), (q55, .inr (3, [w058, w159, w260, .int 0, .int ((-1)), .int ((-1)), .int ((-1))])), (q62, .inr (3, [w065, w166, w267, .int 0, .int ((-1)), .int ((-1)), .int ((-1))]))] := hD
  have hK : va_K (dC, dI) vwCl [(t2, .object RX2), (t10, .int), (t12, .object RX5), (t17, .int)] s := hK
  refine W.widen (k := 43) (n := 1756) (Nat.le_of_ble_eq_true rfl) (Nat.le_of_ble_eq_true rfl) ?_
  refine va_astq hx hb hK hP hD hS 1 0 15 3 rfl rfl rfl rfl (vp_in_nI (n := 5) (by decide) (by decide)) dX7_init_121 (fun H locs hP hD hS => ?_)
  have hP : va_P (dC, dI) vwCl [(h0, .inr (8, [.ref a1, .ref a2, .ref a3, .ref q1, .ref q3, .ref q9, .ref q11, .ref q13, .ref q16, .int i9, .ref q18, .ref q22])), (q1, .inl (t2, 6, .inr (.inr (.inr (.inr ((va_up (va_up (va_up (va_up (va_up (va_up (fun _ => none) 0 (some q27)) 1 (some q34)) 2 (some q41)) 3 (some q48)) 4 (some q55)) 5 (some q62)))))))), (q3, .inr (3, [w06, w17, w28, .int 0, .int ((-1)), .int ((-1)), .int ((-1))])), (q9, .inl (t10, 6, .inl ((fun _ => 0)))), (q11, .inl (t12, 18, .inr (.inr (.inr (.inr ((fun _ => none))))))), (q13, .inr (0, [.int 0, .ref d0, .int 0])), (q16, .inl (t17, 240, .inl ((fun _ => 0)))), (q18, .inr (6, [v21, .int 0])), (q22, .inr (2, [.ref q25])), (q25, .inr (0, [.int 0, .ref d0, .int 0])), (q27, .inr (3, [w030, w131, w232, .int 0, .int ((-1)), .int ((-1)), .int ((-1))])), (q34, .inr (3, [w037, w138, w239, .int 0, .int ((-1)), .int ((-1)), .int ((-1))])), (q41, .inr (3, [w044, w145, w246, .int 0, .int ((-1)), .int ((-1)), .int ((-1))])), (q48, .inr (3, [w051, w152, w253, .int 0, .int ((-1)), .int ((-1)), .int ((-1))])), (q55, .inr (3, [w058, w159, w260, .int 0, .int ((-1)), .int ((-1)), .int ((-1))])), (q62, .inr (3, [w065, w166, w267, .int 0, .int ((-1)), .int ((-1)), .int ((-1))]))] H := hP
  have hD : va_D A [(h0, .inr (8, [.ref a1, .ref a2, .ref a3, .ref q1, .ref q3, .ref q9, .ref q11, .ref q13, .ref q16, .int i9, .ref q18, .ref q22])), (q1, .inl (t2, 6, .inr (.inr (.inr (.inr ((va_up (va_up (va_up (va_up (va_up (va_up (fun _ => none) 0 (some q27)) 1 (some q34)) 2 (some q41)) 3 (some q48)) 4 (some q55)) 5 (some q62)))))))), (q3, .inr (3, [w06, w17, w28, .int 0, .int ((-1)), .int ((-1)), .int ((-1))])), (q9, .inl (t10, 6, .inl ((fun _ => 0)))), (q11, .inl (t12, 18, .inr (.inr (.inr (.inr ((fun _ => none))))))), (q13, .inr (0, [.int 0, .ref d0, .int 0])), (q16, .inl (t17, 240, .inl ((fun _ => 0)))), (q18, .inr (6, [v21, .int 0])), (q22, .inr (2, [.ref q25])), (q25, .inr (0, [.int 0, .ref d0, .int 0])), (q27, .inr (3, [w030, w131, w232, .int 0, .int ((-1)), .int ((-1)), .int ((-1))])), (q34, .inr (3, [w037, w138, w239, .int 0, .int ((-1)), .int ((-1)), .int ((-1))])), (q41, .inr (3, [w044, w145, w246, .int 0, .int ((-1)), .int ((-1)), .int ((-1))])), (q48, .inr (3, [w051, w152, w253, .int 0, .int ((-1)), .int ((-1)), .int ((-1))])), (q55, .inr (3, [w058, w159, w260, .int 0, .int ((-1)), .int ((-1)), .int ((-1))])), (q62, .inr (3, [w065, w166, w267, .int 0, .int ((-1)), .int ((-1)), .int ((-1))]))] := hD
  refine lv_iinc (v := 6) (lv' := [(4, .int 6), (0, .ref h0), (1, .ref a1), (2, .ref a2), (3, .ref a3)]) hx hb dX7_init_122 hl (k := 0) rfl (by decide) (by decide) rfl (fun ls hl => ?_)
  refine lv_goto (tgt := 101) hx hb dX7_init_125 (by decide) ?_
  refine lv_iload hx hb dX7_init_101 (lv_at hl 0 rfl) ?_
  refine lv_bipush (v := 6) hx hb dX7_init_103 (by decide) ?_
  refine lv_icmp_ge (tgt := 128) hx hb dX7_init_105 (by decide) (fun c68 => ?_) (fun c68 => absurd (by decide) c68)
  refine lv_iconst (v := 0) hx hb dX7_init_128 (by decide) ?_
  refine lv_istore (lv' := [(4, .int 0), (0, .ref h0), (1, .ref a1), (2, .ref a2), (3, .ref a3)]) hx hb dX7_init_129 hl (by decide) rfl (fun ls hl => ?_)
  refine lv_iload hx hb dX7_init_131 (lv_at hl 0 rfl) ?_
  refine lv_aload_n hx hb dX7_init_133 rfl (lv_at hl 1 rfl) ?_
  refine va_get (D := (dC, dI)) (ci := 8) (v := .ref q11) (C := RX7) (T := TX7) (N := 12) hx hb ht inGX7 hown hK hP 0 rfl rfl 6 (by decide) (ht _ q360) (fun _ h9 => h9) rfl dX7_init_134 ?_
  refine va_alen (v := 18) hx hb hK hP 4 2 rfl rfl rfl dX7_init_137 ?_
  refine lv_icmp_ge (tgt := 161) hx hb dX7_init_138 (by decide) (fun c69 => absurd c69 (by decide)) (fun c69 => ?_)
  refine lv_aload_n hx hb dX7_init_141 rfl (lv_at hl 1 rfl) ?_
  refine va_get (D := (dC, dI)) (ci := 8) (v := .ref q11) (C := RX7) (T := TX7) (N := 12) hx hb ht inGX7 hown hK hP 0 rfl rfl 6 (by decide) (ht _ q360) (fun _ h9 => h9) rfl dX7_init_142 ?_
  refine lv_iload hx hb dX7_init_145 (lv_at hl 0 rfl) ?_
  refine va_new (ci := 6) (fs := [.null, .int 0]) (C := RX5) (T := TX5) (N := 2) hx hb ht inGX5 tyX5 tyX5_ok hown (ht _ q345) (ht _ q297) (ht _ q132) hK hP hD hS hA rfl (fun j hj => by rcases (show j = 0 ∨ j = 1 by omega) with rfl | rfl <;> rfl) (Nat.le_of_ble_eq_true rfl) (Nat.le_of_ble_eq_true rfl) dX7_init_147 (fun q70 H hP hD hS => ?_)
  have hP : va_P (dC, dI) vwCl [(h0, .inr (8, [.ref a1, .ref a2, .ref a3, .ref q1, .ref q3, .ref q9, .ref q11, .ref q13, .ref q16, .int i9, .ref q18, .ref q22])), (q1, .inl (t2, 6, .inr (.inr (.inr (.inr ((va_up (va_up (va_up (va_up (va_up (va_up (fun _ => none) 0 (some q27)) 1 (some q34)) 2 (some q41)) 3 (some q48)) 4 (some q55)) 5 (some q62)))))))), (q3, .inr (3, [w06, w17, w28, .int 0, .int ((-1)), .int ((-1)), .int ((-1))])), (q9, .inl (t10, 6, .inl ((fun _ => 0)))), (q11, .inl (t12, 18, .inr (.inr (.inr (.inr ((fun _ => none))))))), (q13, .inr (0, [.int 0, .ref d0, .int 0])), (q16, .inl (t17, 240, .inl ((fun _ => 0)))), (q18, .inr (6, [v21, .int 0])), (q22, .inr (2, [.ref q25])), (q25, .inr (0, [.int 0, .ref d0, .int 0])), (q27, .inr (3, [w030, w131, w232, .int 0, .int ((-1)), .int ((-1)), .int ((-1))])), (q34, .inr (3, [w037, w138, w239, .int 0, .int ((-1)), .int ((-1)), .int ((-1))])), (q41, .inr (3, [w044, w145, w246, .int 0, .int ((-1)), .int ((-1)), .int ((-1))])), (q48, .inr (3, [w051, w152, w253, .int 0, .int ((-1)), .int ((-1)), .int ((-1))])), (q55, .inr (3, [w058, w159, w260, .int 0, .int ((-1)), .int ((-1)), .int ((-1))])), (q62, .inr (3, [w065, w166, w267, .int 0, .int ((-1)), .int ((-1)), .int ((-1))])), (q70, .inr (6, [.null, .int 0]))] H := hP
  have hD : va_D A [(h0, .inr (8, [.ref a1, .ref a2, .ref a3, .ref q1, .ref q3, .ref q9, .ref q11, .ref q13, .ref q16, .int i9, .ref q18, .ref q22])), (q1, .inl (t2, 6, .inr (.inr (.inr (.inr ((va_up (va_up (va_up (va_up (va_up (va_up (fun _ => none) 0 (some q27)) 1 (some q34)) 2 (some q41)) 3 (some q48)) 4 (some q55)) 5 (some q62)))))))), (q3, .inr (3, [w06, w17, w28, .int 0, .int ((-1)), .int ((-1)), .int ((-1))])), (q9, .inl (t10, 6, .inl ((fun _ => 0)))), (q11, .inl (t12, 18, .inr (.inr (.inr (.inr ((fun _ => none))))))), (q13, .inr (0, [.int 0, .ref d0, .int 0])), (q16, .inl (t17, 240, .inl ((fun _ => 0)))), (q18, .inr (6, [v21, .int 0])), (q22, .inr (2, [.ref q25])), (q25, .inr (0, [.int 0, .ref d0, .int 0])), (q27, .inr (3, [w030, w131, w232, .int 0, .int ((-1)), .int ((-1)), .int ((-1))])), (q34, .inr (3, [w037, w138, w239, .int 0, .int ((-1)), .int ((-1)), .int ((-1))])), (q41, .inr (3, [w044, w145, w246, .int 0, .int ((-1)), .int ((-1)), .int ((-1))])), (q48, .inr (3, [w051, w152, w253, .int 0, .int ((-1)), .int ((-1)), .int ((-1))])), (q55, .inr (3, [w058, w159, w260, .int 0, .int ((-1)), .int ((-1)), .int ((-1))])), (q62, .inr (3, [w065, w166, w267, .int 0, .int ((-1)), .int ((-1)), .int ((-1))])), (q70, .inr (6, [.null, .int 0]))] := hD
  refine W.widen (k := 44) (n := 1758) (Nat.le_of_ble_eq_true rfl) (Nat.le_of_ble_eq_true rfl) ?_
  refine lv_dup hx hb dX7_init_150 rfl ?_
  have hPc := hP.sub (ws' := [(q70, .inr (6, [.null, .int 0]))]) [16] rfl
  have hDc := hD.sub (ws' := [(q70, .inr (6, [.null, .int 0]))]) [16] (by decide) rfl
  have hKc := hK.sub (tys' := []) [] rfl
  have hFc := va_free (wc := [(q70, .inr (6, [.null, .int 0]))]) hD hS hA [16] rfl
  refine va_callv (va_runIN (As := []) (rest := [.ref q70, .int 0, .ref q11]) ⟨hx, hb, hml, hown, ht⟩ (k_X5_init l d0 cO dC dI H.size q70 .null 0) (my_NI ht M_X5_init q299 rfl q348 (Nat.le_of_ble_eq_true rfl) (Nat.le_of_ble_eq_true rfl)) ⟨PRE.fb, fun U hU hW => ⟨rfl, PRE.mk' hE hS hFc hPc hKc hDc U hU hW⟩⟩ rfl rfl hl.1 rfl (lv_room (Nat.le_of_ble_eq_true rfl)) dX7_init_151 ⟨(Nat.le_of_ble_eq_true rfl), (Nat.le_of_ble_eq_true rfl)⟩) hS (fun q _ h => hFc q h) hFc (fun u71 t H1 locs htt hvm hw hB hz1 hk1 hS => ?_)
  try dsimp only at hw hB
  obtain ⟨v73, hP1, hK1, hD1⟩ := hB
  rw [htt] at hP1
  have hK1 := va_K.moved hvm.symm hK1
  obtain ⟨hP, hD⟩ := va_join (wr := [(h0, .inr (8, [.ref a1, .ref a2, .ref a3, .ref q1, .ref q3, .ref q9, .ref q11, .ref q13, .ref q16, .int i9, .ref q18, .ref q22])), (q1, .inl (t2, 6, .inr (.inr (.inr (.inr ((va_up (va_up (va_up (va_up (va_up (va_up (fun _ => none) 0 (some q27)) 1 (some q34)) 2 (some q41)) 3 (some q48)) 4 (some q55)) 5 (some q62)))))))), (q3, .inr (3, [w06, w17, w28, .int 0, .int ((-1)), .int ((-1)), .int ((-1))])), (q9, .inl (t10, 6, .inl ((fun _ => 0)))), (q11, .inl (t12, 18, .inr (.inr (.inr (.inr ((fun _ => none))))))), (q13, .inr (0, [.int 0, .ref d0, .int 0])), (q16, .inl (t17, 240, .inl ((fun _ => 0)))), (q18, .inr (6, [v21, .int 0])), (q22, .inr (2, [.ref q25])), (q25, .inr (0, [.int 0, .ref d0, .int 0])), (q27, .inr (3, [w030, w131, w232, .int 0, .int ((-1)), .int ((-1)), .int ((-1))])), (q34, .inr (3, [w037, w138, w239, .int 0, .int ((-1)), .int ((-1)), .int ((-1))])), (q41, .inr (3, [w044, w145, w246, .int 0, .int ((-1)), .int ((-1)), .int ((-1))])), (q48, .inr (3, [w051, w152, w253, .int 0, .int ((-1)), .int ((-1)), .int ((-1))])), (q55, .inr (3, [w058, w159, w260, .int 0, .int ((-1)), .int ((-1)), .int ((-1))])), (q62, .inr (3, [w065, w166, w267, .int 0, .int ((-1)), .int ((-1)), .int ((-1))]))]) (w1 := [(q70, .inr (6, [v73, .int 0]))]) hP hD [16] [0, 1, 2, 3, 4, 5, 6, 7, 8, 9, 10, 11, 12, 13, 14, 15] rfl rfl (by decide) (by decide) hk1 hFc hP1 hD1
  have hK := (hK.sub (tys' := [(t2, .object RX2), (t10, .int), (t12, .object RX5), (t17, .int)]) [0, 1, 2, 3] rfl).app hK1
  generalize H1 = H at hP hS ⊢
  have hP : va_P (dC, dI) vwCl [(h0, .inr (8, [.ref a1, .ref a2, .ref a3, .ref q1, .ref q3, .ref q9, .ref q11, .ref q13, .ref q16, .int i9, .ref q18, .ref q22])), (q1, .inl (t2, 6, .inr (.inr (.inr (.inr ((va_up (va_up (va_up (va_up (va_up (va_up (fun _ => none) 0 (some q27)) 1 (some q34)) 2 (some q41)) 3 (some q48)) 4 (some q55)) 5 (some q62)))))))), (q3, .inr (3, [w06, w17, w28, .int 0, .int ((-1)), .int ((-1)), .int ((-1))])), (q9, .inl (t10, 6, .inl ((fun _ => 0)))), (q11, .inl (t12, 18, .inr (.inr (.inr (.inr ((fun _ => none))))))), (q13, .inr (0, [.int 0, .ref d0, .int 0])), (q16, .inl (t17, 240, .inl ((fun _ => 0)))), (q18, .inr (6, [v21, .int 0])), (q22, .inr (2, [.ref q25])), (q25, .inr (0, [.int 0, .ref d0, .int 0])), (q27, .inr (3, [w030, w131, w232, .int 0, .int ((-1)), .int ((-1)), .int ((-1))])), (q34, .inr (3, [w037, w138, w239, .int 0, .int ((-1)), .int ((-1)), .int ((-1))])), (q41, .inr (3, [w044, w145, w246, .int 0, .int ((-1)), .int ((-1)), .int ((-1))])), (q48, .inr (3, [w051, w152, w253, .int 0, .int ((-1)), .int ((-1)), .int ((-1))])), (q55, .inr (3, [w058, w159, w260, .int 0, .int ((-1)), .int ((-1)), .int ((-1))])), (q62, .inr (3, [w065, w166, w267, .int 0, .int ((-1)), .int ((-1)), .int ((-1))])), (q70, .inr (6, [v73, .int 0]))] H := hP
  have hD : va_D A [(h0, .inr (8, [.ref a1, .ref a2, .ref a3, .ref q1, .ref q3, .ref q9, .ref q11, .ref q13, .ref q16, .int i9, .ref q18, .ref q22])), (q1, .inl (t2, 6, .inr (.inr (.inr (.inr ((va_up (va_up (va_up (va_up (va_up (va_up (fun _ => none) 0 (some q27)) 1 (some q34)) 2 (some q41)) 3 (some q48)) 4 (some q55)) 5 (some q62)))))))), (q3, .inr (3, [w06, w17, w28, .int 0, .int ((-1)), .int ((-1)), .int ((-1))])), (q9, .inl (t10, 6, .inl ((fun _ => 0)))), (q11, .inl (t12, 18, .inr (.inr (.inr (.inr ((fun _ => none))))))), (q13, .inr (0, [.int 0, .ref d0, .int 0])), (q16, .inl (t17, 240, .inl ((fun _ => 0)))), (q18, .inr (6, [v21, .int 0])), (q22, .inr (2, [.ref q25])), (q25, .inr (0, [.int 0, .ref d0, .int 0])), (q27, .inr (3, [w030, w131, w232, .int 0, .int ((-1)), .int ((-1)), .int ((-1))])), (q34, .inr (3, [w037, w138, w239, .int 0, .int ((-1)), .int ((-1)), .int ((-1))])), (q41, .inr (3, [w044, w145, w246, .int 0, .int ((-1)), .int ((-1)), .int ((-1))])), (q48, .inr (3, [w051, w152, w253, .int 0, .int ((-1)), .int ((-1)), .int ((-1))])), (q55, .inr (3, [w058, w159, w260, .int 0, .int ((-1)), .int ((-1)), .int ((-1))])), (q62, .inr (3, [w065, w166, w267, .int 0, .int ((-1)), .int ((-1)), .int ((-1))])), (q70, .inr (6, [v73, .int 0]))] := hD
  have hK : va_K (dC, dI) vwCl [(t2, .object RX2), (t10, .int), (t12, .object RX5), (t17, .int)] s := hK
  refine W.widen (k := 44) (n := 1758) (Nat.le_of_ble_eq_true rfl) (Nat.le_of_ble_eq_true rfl) ?_
  refine va_astq hx hb hK hP hD hS 4 2 16 6 rfl rfl rfl rfl (vp_in_nI (n := 0) (by decide) (by decide)) dX7_init_154 (fun H locs hP hD hS => ?_)
  have hP : va_P (dC, dI) vwCl [(h0, .inr (8, [.ref a1, .ref a2, .ref a3, .ref q1, .ref q3, .ref q9, .ref q11, .ref q13, .ref q16, .int i9, .ref q18, .ref q22])), (q1, .inl (t2, 6, .inr (.inr (.inr (.inr ((va_up (va_up (va_up (va_up (va_up (va_up (fun _ => none) 0 (some q27)) 1 (some q34)) 2 (some q41)) 3 (some q48)) 4 (some q55)) 5 (some q62)))))))), (q3, .inr (3, [w06, w17, w28, .int 0, .int ((-1)), .int ((-1)), .int ((-1))])), (q9, .inl (t10, 6, .inl ((fun _ => 0)))), (q11, .inl (t12, 18, .inr (.inr (.inr (.inr ((va_up (fun _ => none) 0 (some q70)))))))), (q13, .inr (0, [.int 0, .ref d0, .int 0])), (q16, .inl (t17, 240, .inl ((fun _ => 0)))), (q18, .inr (6, [v21, .int 0])), (q22, .inr (2, [.ref q25])), (q25, .inr (0, [.int 0, .ref d0, .int 0])), (q27, .inr (3, [w030, w131, w232, .int 0, .int ((-1)), .int ((-1)), .int ((-1))])), (q34, .inr (3, [w037, w138, w239, .int 0, .int ((-1)), .int ((-1)), .int ((-1))])), (q41, .inr (3, [w044, w145, w246, .int 0, .int ((-1)), .int ((-1)), .int ((-1))])), (q48, .inr (3, [w051, w152, w253, .int 0, .int ((-1)), .int ((-1)), .int ((-1))])), (q55, .inr (3, [w058, w159, w260, .int 0, .int ((-1)), .int ((-1)), .int ((-1))])), (q62, .inr (3, [w065, w166, w267, .int 0, .int ((-1)), .int ((-1)), .int ((-1))])), (q70, .inr (6, [v73, .int 0]))] H := hP
  have hD : va_D A [(h0, .inr (8, [.ref a1, .ref a2, .ref a3, .ref q1, .ref q3, .ref q9, .ref q11, .ref q13, .ref q16, .int i9, .ref q18, .ref q22])), (q1, .inl (t2, 6, .inr (.inr (.inr (.inr ((va_up (va_up (va_up (va_up (va_up (va_up (fun _ => none) 0 (some q27)) 1 (some q34)) 2 (some q41)) 3 (some q48)) 4 (some q55)) 5 (some q62)))))))), (q3, .inr (3, [w06, w17, w28, .int 0, .int ((-1)), .int ((-1)), .int ((-1))])), (q9, .inl (t10, 6, .inl ((fun _ => 0)))), (q11, .inl (t12, 18, .inr (.inr (.inr (.inr ((va_up (fun _ => none) 0 (some q70)))))))), (q13, .inr (0, [.int 0, .ref d0, .int 0])), (q16, .inl (t17, 240, .inl ((fun _ => 0)))), (q18, .inr (6, [v21, .int 0])), (q22, .inr (2, [.ref q25])), (q25, .inr (0, [.int 0, .ref d0, .int 0])), (q27, .inr (3, [w030, w131, w232, .int 0, .int ((-1)), .int ((-1)), .int ((-1))])), (q34, .inr (3, [w037, w138, w239, .int 0, .int ((-1)), .int ((-1)), .int ((-1))])), (q41, .inr (3, [w044, w145, w246, .int 0, .int ((-1)), .int ((-1)), .int ((-1))])), (q48, .inr (3, [w051, w152, w253, .int 0, .int ((-1)), .int ((-1)), .int ((-1))])), (q55, .inr (3, [w058, w159, w260, .int 0, .int ((-1)), .int ((-1)), .int ((-1))])), (q62, .inr (3, [w065, w166, w267, .int 0, .int ((-1)), .int ((-1)), .int ((-1))])), (q70, .inr (6, [v73, .int 0]))] := hD
  generalize (va_up (fun _ => none) 0 (some q70)) = f74 at hP hD
  have hP := hP.sub (ws' := [(h0, .inr (8, [.ref a1, .ref a2, .ref a3, .ref q1, .ref q3, .ref q9, .ref q11, .ref q13, .ref q16, .int i9, .ref q18, .ref q22])), (q1, .inl (t2, 6, .inr (.inr (.inr (.inr ((va_up (va_up (va_up (va_up (va_up (va_up (fun _ => none) 0 (some q27)) 1 (some q34)) 2 (some q41)) 3 (some q48)) 4 (some q55)) 5 (some q62)))))))), (q3, .inr (3, [w06, w17, w28, .int 0, .int ((-1)), .int ((-1)), .int ((-1))])), (q9, .inl (t10, 6, .inl ((fun _ => 0)))), (q11, .inl (t12, 18, .inr (.inr (.inr (.inr f74))))), (q13, .inr (0, [.int 0, .ref d0, .int 0])), (q16, .inl (t17, 240, .inl ((fun _ => 0)))), (q18, .inr (6, [v21, .int 0])), (q22, .inr (2, [.ref q25])), (q25, .inr (0, [.int 0, .ref d0, .int 0])), (q27, .inr (3, [w030, w131, w232, .int 0, .int ((-1)), .int ((-1)), .int ((-1))])), (q34, .inr (3, [w037, w138, w239, .int 0, .int ((-1)), .int ((-1)), .int ((-1))])), (q41, .inr (3, [w044, w145, w246, .int 0, .int ((-1)), .int ((-1)), .int ((-1))])), (q48, .inr (3, [w051, w152, w253, .int 0, .int ((-1)), .int ((-1)), .int ((-1))])), (q55, .inr (3, [w058, w159, w260, .int 0, .int ((-1)), .int ((-1)), .int ((-1))])), (q62, .inr (3, [w065, w166, w267, .int 0, .int ((-1)), .int ((-1)), .int ((-1))]))]) [0, 1, 2, 3, 4, 5, 6, 7, 8, 9, 10, 11, 12, 13, 14, 15] rfl
  have hD := hD.sub (ws' := [(h0, .inr (8, [.ref a1, .ref a2, .ref a3, .ref q1, .ref q3, .ref q9, .ref q11, .ref q13, .ref q16, .int i9, .ref q18, .ref q22])), (q1, .inl (t2, 6, .inr (.inr (.inr (.inr ((va_up (va_up (va_up (va_up (va_up (va_up (fun _ => none) 0 (some q27)) 1 (some q34)) 2 (some q41)) 3 (some q48)) 4 (some q55)) 5 (some q62)))))))), (q3, .inr (3, [w06, w17, w28, .int 0, .int ((-1)), .int ((-1)), .int ((-1))])), (q9, .inl (t10, 6, .inl ((fun _ => 0)))), (q11, .inl (t12, 18, .inr (.inr (.inr (.inr f74))))), (q13, .inr (0, [.int 0, .ref d0, .int 0])), (q16, .inl (t17, 240, .inl ((fun _ => 0)))), (q18, .inr (6, [v21, .int 0])), (q22, .inr (2, [.ref q25])), (q25, .inr (0, [.int 0, .ref d0, .int 0])), (q27, .inr (3, [w030, w131, w232, .int 0, .int ((-1)), .int ((-1)), .int ((-1))])), (q34, .inr (3, [w037, w138, w239, .int 0, .int ((-1)), .int ((-1)), .int ((-1))])), (q41, .inr (3, [w044, w145, w246, .int 0, .int ((-1)), .int ((-1)), .int ((-1))])), (q48, .inr (3, [w051, w152, w253, .int 0, .int ((-1)), .int ((-1)), .int ((-1))])), (q55, .inr (3, [w058, w159, w260, .int 0, .int ((-1)), .int ((-1)), .int ((-1))])), (q62, .inr (3, [w065, w166, w267, .int 0, .int ((-1)), .int ((-1)), .int ((-1))]))]) [0, 1, 2, 3, 4, 5, 6, 7, 8, 9, 10, 11, 12, 13, 14, 15] (by decide) rfl
  refine lv_iinc (v := 1) (lv' := [(4, .int 1), (0, .ref h0), (1, .ref a1), (2, .ref a2), (3, .ref a3)]) hx hb dX7_init_155 hl (k := 0) rfl (by decide) (by decide) rfl (fun ls hl => ?_)
  refine lv_goto (tgt := 131) hx hb dX7_init_158 (by decide) ?_
  refine lv_iload hx hb dX7_init_131 (lv_at hl 0 rfl) ?_
  refine lv_aload_n hx hb dX7_init_133 rfl (lv_at hl 1 rfl) ?_
  refine va_get (D := (dC, dI)) (ci := 8) (v := .ref q11) (C := RX7) (T := TX7) (N := 12) hx hb ht inGX7 hown hK hP 0 rfl rfl 6 (by decide) (ht _ q360) (fun _ h9 => h9) rfl dX7_init_134 ?_
  refine va_alen (v := 18) hx hb hK hP 4 2 rfl rfl rfl dX7_init_137 ?_
  refine lv_icmp_ge (tgt := 161) hx hb dX7_init_138 (by decide) (fun c75 => absurd c75 (by decide)) (fun c75 => ?_)
  refine lv_aload_n hx hb dX7_init_141 rfl (lv_at hl 1 rfl) ?_
  refine va_get (D := (dC, dI)) (ci := 8) (v := .ref q11) (C := RX7) (T := TX7) (N := 12) hx hb ht inGX7 hown hK hP 0 rfl rfl 6 (by decide) (ht _ q360) (fun _ h9 => h9) rfl dX7_init_142 ?_
  refine lv_iload hx hb dX7_init_145 (lv_at hl 0 rfl) ?_
  refine va_new (ci := 6) (fs := [.null, .int 0]) (C := RX5) (T := TX5) (N := 2) hx hb ht inGX5 tyX5 tyX5_ok hown (ht _ q345) (ht _ q297) (ht _ q132) hK hP hD hS hA rfl (fun j hj => by rcases (show j = 0 ∨ j = 1 by omega) with rfl | rfl <;> rfl) (Nat.le_of_ble_eq_true rfl) (Nat.le_of_ble_eq_true rfl) dX7_init_147 (fun q76 H hP hD hS => ?_)
  have hP : va_P (dC, dI) vwCl [(h0, .inr (8, [.ref a1, .ref a2, .ref a3, .ref q1, .ref q3, .ref q9, .ref q11, .ref q13, .ref q16, .int i9, .ref q18, .ref q22])), (q1, .inl (t2, 6, .inr (.inr (.inr (.inr ((va_up (va_up (va_up (va_up (va_up (va_up (fun _ => none) 0 (some q27)) 1 (some q34)) 2 (some q41)) 3 (some q48)) 4 (some q55)) 5 (some q62)))))))), (q3, .inr (3, [w06, w17, w28, .int 0, .int ((-1)), .int ((-1)), .int ((-1))])), (q9, .inl (t10, 6, .inl ((fun _ => 0)))), (q11, .inl (t12, 18, .inr (.inr (.inr (.inr f74))))), (q13, .inr (0, [.int 0, .ref d0, .int 0])), (q16, .inl (t17, 240, .inl ((fun _ => 0)))), (q18, .inr (6, [v21, .int 0])), (q22, .inr (2, [.ref q25])), (q25, .inr (0, [.int 0, .ref d0, .int 0])), (q27, .inr (3, [w030, w131, w232, .int 0, .int ((-1)), .int ((-1)), .int ((-1))])), (q34, .inr (3, [w037, w138, w239, .int 0, .int ((-1)), .int ((-1)), .int ((-1))])), (q41, .inr (3, [w044, w145, w246, .int 0, .int ((-1)), .int ((-1)), .int ((-1))])), (q48, .inr (3, [w051, w152, w253, .int 0, .int ((-1)), .int ((-1)), .int ((-1))])), (q55, .inr (3, [w058, w159, w260, .int 0, .int ((-1)), .int ((-1)), .int ((-1))])), (q62, .inr (3, [w065, w166, w267, .int 0, .int ((-1)), .int ((-1)), .int ((-1))])), (q76, .inr (6, [.null, .int 0]))] H := hP
  have hD : va_D A [(h0, .inr (8, [.ref a1, .ref a2, .ref a3, .ref q1, .ref q3, .ref q9, .ref q11, .ref q13, .ref q16, .int i9, .ref q18, .ref q22])), (q1, .inl (t2, 6, .inr (.inr (.inr (.inr ((va_up (va_up (va_up (va_up (va_up (va_up (fun _ => none) 0 (some q27)) 1 (some q34)) 2 (some q41)) 3 (some q48)) 4 (some q55)) 5 (some q62)))))))), (q3, .inr (3, [w06, w17, w28, .int 0, .int ((-1)), .int ((-1)), .int ((-1))])), (q9, .inl (t10, 6, .inl ((fun _ => 0)))), (q11, .inl (t12, 18, .inr (.inr (.inr (.inr f74))))), (q13, .inr (0, [.int 0, .ref d0, .int 0])), (q16, .inl (t17, 240, .inl ((fun _ => 0)))), (q18, .inr (6, [v21, .int 0])), (q22, .inr (2, [.ref q25])), (q25, .inr (0, [.int 0, .ref d0, .int 0])), (q27, .inr (3, [w030, w131, w232, .int 0, .int ((-1)), .int ((-1)), .int ((-1))])), (q34, .inr (3, [w037, w138, w239, .int 0, .int ((-1)), .int ((-1)), .int ((-1))])), (q41, .inr (3, [w044, w145, w246, .int 0, .int ((-1)), .int ((-1)), .int ((-1))])), (q48, .inr (3, [w051, w152, w253, .int 0, .int ((-1)), .int ((-1)), .int ((-1))])), (q55, .inr (3, [w058, w159, w260, .int 0, .int ((-1)), .int ((-1)), .int ((-1))])), (q62, .inr (3, [w065, w166, w267, .int 0, .int ((-1)), .int ((-1)), .int ((-1))])), (q76, .inr (6, [.null, .int 0]))] := hD
  refine W.widen (k := 45) (n := 1760) (Nat.le_of_ble_eq_true rfl) (Nat.le_of_ble_eq_true rfl) ?_
  refine lv_dup hx hb dX7_init_150 rfl ?_
  have hPc := hP.sub (ws' := [(q76, .inr (6, [.null, .int 0]))]) [16] rfl
  have hDc := hD.sub (ws' := [(q76, .inr (6, [.null, .int 0]))]) [16] (by decide) rfl
  have hKc := hK.sub (tys' := []) [] rfl
  have hFc := va_free (wc := [(q76, .inr (6, [.null, .int 0]))]) hD hS hA [16] rfl
  refine va_callv (va_runIN (As := []) (rest := [.ref q76, .int 1, .ref q11]) ⟨hx, hb, hml, hown, ht⟩ (k_X5_init l d0 cO dC dI H.size q76 .null 0) (my_NI ht M_X5_init q299 rfl q348 (Nat.le_of_ble_eq_true rfl) (Nat.le_of_ble_eq_true rfl)) ⟨PRE.fb, fun U hU hW => ⟨rfl, PRE.mk' hE hS hFc hPc hKc hDc U hU hW⟩⟩ rfl rfl hl.1 rfl (lv_room (Nat.le_of_ble_eq_true rfl)) dX7_init_151 ⟨(Nat.le_of_ble_eq_true rfl), (Nat.le_of_ble_eq_true rfl)⟩) hS (fun q _ h => hFc q h) hFc (fun u77 t H1 locs htt hvm hw hB hz1 hk1 hS => ?_)
  try dsimp only at hw hB
  obtain ⟨v79, hP1, hK1, hD1⟩ := hB
  rw [htt] at hP1
  have hK1 := va_K.moved hvm.symm hK1
  obtain ⟨hP, hD⟩ := va_join (wr := [(h0, .inr (8, [.ref a1, .ref a2, .ref a3, .ref q1, .ref q3, .ref q9, .ref q11, .ref q13, .ref q16, .int i9, .ref q18, .ref q22])), (q1, .inl (t2, 6, .inr (.inr (.inr (.inr ((va_up (va_up (va_up (va_up (va_up (va_up (fun _ => none) 0 (some q27)) 1 (some q34)) 2 (some q41)) 3 (some q48)) 4 (some q55)) 5 (some q62)))))))), (q3, .inr (3, [w06, w17, w28, .int 0, .int ((-1)), .int ((-1)), .int ((-1))])), (q9, .inl (t10, 6, .inl ((fun _ => 0)))), (q11, .inl (t12, 18, .inr (.inr (.inr (.inr f74))))), (q13, .inr (0, [.int 0, .ref d0, .int 0])), (q16, .inl (t17, 240, .inl ((fun _ => 0)))), (q18, .inr (6, [v21, .int 0])), (q22, .inr (2, [.ref q25])), (q25, .inr (0, [.int 0, .ref d0, .int 0])), (q27, .inr (3, [w030, w131, w232, .int 0, .int ((-1)), .int ((-1)), .int ((-1))])), (q34, .inr (3, [w037, w138, w239, .int 0, .int ((-1)), .int ((-1)), .int ((-1))])), (q41, .inr (3, [w044, w145, w246, .int 0, .int ((-1)), .int ((-1)), .int ((-1))])), (q48, .inr (3, [w051, w152, w253, .int 0, .int ((-1)), .int ((-1)), .int ((-1))])), (q55, .inr (3, [w058, w159, w260, .int 0, .int ((-1)), .int ((-1)), .int ((-1))])), (q62, .inr (3, [w065, w166, w267, .int 0, .int ((-1)), .int ((-1)), .int ((-1))]))]) (w1 := [(q76, .inr (6, [v79, .int 0]))]) hP hD [16] [0, 1, 2, 3, 4, 5, 6, 7, 8, 9, 10, 11, 12, 13, 14, 15] rfl rfl (by decide) (by decide) hk1 hFc hP1 hD1
  have hK := (hK.sub (tys' := [(t2, .object RX2), (t10, .int), (t12, .object RX5), (t17, .int)]) [0, 1, 2, 3] rfl).app hK1
  generalize H1 = H at hP hS ⊢
  have hP : va_P (dC, dI) vwCl [(h0, .inr (8, [.ref a1, .ref a2, .ref a3, .ref q1, .ref q3, .ref q9, .ref q11, .ref q13, .ref q16, .int i9, .ref q18, .ref q22])), (q1, .inl (t2, 6, .inr (.inr (.inr (.inr ((va_up (va_up (va_up (va_up (va_up (va_up (fun _ => none) 0 (some q27)) 1 (some q34)) 2 (some q41)) 3 (some q48)) 4 (some q55)) 5 (some q62)))))))), (q3, .inr (3, [w06, w17, w28, .int 0, .int ((-1)), .int ((-1)), .int ((-1))])), (q9, .inl (t10, 6, .inl ((fun _ => 0)))), (q11, .inl (t12, 18, .inr (.inr (.inr (.inr f74))))), (q13, .inr (0, [.int 0, .ref d0, .int 0])), (q16, .inl (t17, 240, .inl ((fun _ => 0)))), (q18, .inr (6, [v21, .int 0])), (q22, .inr (2, [.ref q25])), (q25, .inr (0, [.int 0, .ref d0, .int 0])), (q27, .inr (3, [w030, w131, w232, .int 0, .int ((-1)), .int ((-1)), .int ((-1))])), (q34, .inr (3, [w037, w138, w239, .int 0, .int ((-1)), .int ((-1)), .int ((-1))])), (q41, .inr (3, [w044, w145, w246, .int 0, .int ((-1)), .int ((-1)), .int ((-1))])), (q48, .inr (3, [w051, w152, w253, .int 0, .int ((-1)), .int ((-1)), .int ((-1))])), (q55, .inr (3, [w058, w159, w260, .int 0, .int ((-1)), .int ((-1)), .int ((-1))])), (q62, .inr (3, [w065, w166, w267, .int 0, .int ((-1)), .int ((-1)), .int ((-1))])), (q76, .inr (6, [v79, .int 0]))] H := hP
  have hD : va_D A [(h0, .inr (8, [.ref a1, .ref a2, .ref a3, .ref q1, .ref q3, .ref q9, .ref q11, .ref q13, .ref q16, .int i9, .ref q18, .ref q22])), (q1, .inl (t2, 6, .inr (.inr (.inr (.inr ((va_up (va_up (va_up (va_up (va_up (va_up (fun _ => none) 0 (some q27)) 1 (some q34)) 2 (some q41)) 3 (some q48)) 4 (some q55)) 5 (some q62)))))))), (q3, .inr (3, [w06, w17, w28, .int 0, .int ((-1)), .int ((-1)), .int ((-1))])), (q9, .inl (t10, 6, .inl ((fun _ => 0)))), (q11, .inl (t12, 18, .inr (.inr (.inr (.inr f74))))), (q13, .inr (0, [.int 0, .ref d0, .int 0])), (q16, .inl (t17, 240, .inl ((fun _ => 0)))), (q18, .inr (6, [v21, .int 0])), (q22, .inr (2, [.ref q25])), (q25, .inr (0, [.int 0, .ref d0, .int 0])), (q27, .inr (3, [w030, w131, w232, .int 0, .int ((-1)), .int ((-1)), .int ((-1))])), (q34, .inr (3, [w037, w138, w239, .int 0, .int ((-1)), .int ((-1)), .int ((-1))])), (q41, .inr (3, [w044, w145, w246, .int 0, .int ((-1)), .int ((-1)), .int ((-1))])), (q48, .inr (3, [w051, w152, w253, .int 0, .int ((-1)), .int ((-1)), .int ((-1))])), (q55, .inr (3, [w058, w159, w260, .int 0, .int ((-1)), .int ((-1)), .int ((-1))])), (q62, .inr (3, [w065, w166, w267, .int 0, .int ((-1)), .int ((-1)), .int ((-1))])), (q76, .inr (6, [v79, .int 0]))] := hD
  have hK : va_K (dC, dI) vwCl [(t2, .object RX2), (t10, .int), (t12, .object RX5), (t17, .int)] s := hK
  refine W.widen (k := 45) (n := 1760) (Nat.le_of_ble_eq_true rfl) (Nat.le_of_ble_eq_true rfl) ?_
  refine va_astq hx hb hK hP hD hS 4 2 16 6 rfl rfl rfl rfl (vp_in_nI (n := 1) (by decide) (by decide)) dX7_init_154 (fun H locs hP hD hS => ?_)
  have hP : va_P (dC, dI) vwCl [(h0, .inr (8, [.ref a1, .ref a2, .ref a3, .ref q1, .ref q3, .ref q9, .ref q11, .ref q13, .ref q16, .int i9, .ref q18, .ref q22])), (q1, .inl (t2, 6, .inr (.inr (.inr (.inr ((va_up (va_up (va_up (va_up (va_up (va_up (fun _ => none) 0 (some q27)) 1 (some q34)) 2 (some q41)) 3 (some q48)) 4 (some q55)) 5 (some q62)))))))), (q3, .inr (3, [w06, w17, w28, .int 0, .int ((-1)), .int ((-1)), .int ((-1))])), (q9, .inl (t10, 6, .inl ((fun _ => 0)))), (q11, .inl (t12, 18, .inr (.inr (.inr (.inr ((va_up f74 1 (some q76)))))))), (q13, .inr (0, [.int 0, .ref d0, .int 0])), (q16, .inl (t17, 240, .inl ((fun _ => 0)))), (q18, .inr (6, [v21, .int 0])), (q22, .inr (2, [.ref q25])), (q25, .inr (0, [.int 0, .ref d0, .int 0])), (q27, .inr (3, [w030, w131, w232, .int 0, .int ((-1)), .int ((-1)), .int ((-1))])), (q34, .inr (3, [w037, w138, w239, .int 0, .int ((-1)), .int ((-1)), .int ((-1))])), (q41, .inr (3, [w044, w145, w246, .int 0, .int ((-1)), .int ((-1)), .int ((-1))])), (q48, .inr (3, [w051, w152, w253, .int 0, .int ((-1)), .int ((-1)), .int ((-1))])), (q55, .inr (3, [w058, w159, w260, .int 0, .int ((-1)), .int ((-1)), .int ((-1))])), (q62, .inr (3, [w065, w166, w267, .int 0, .int ((-1)), .int ((-1)), .int ((-1))])), (q76, .inr (6, [v79, .int 0]))] H := hP
  have hD : va_D A [(h0, .inr (8, [.ref a1, .ref a2, .ref a3, .ref q1, .ref q3, .ref q9, .ref q11, .ref q13, .ref q16, .int i9, .ref q18, .ref q22])), (q1, .inl (t2, 6, .inr (.inr (.inr (.inr ((va_up (va_up (va_up (va_up (va_up (va_up (fun _ => none) 0 (some q27)) 1 (some q34)) 2 (some q41)) 3 (some q48)) 4 (some q55)) 5 (some q62)))))))), (q3, .inr (3, [w06, w17, w28, .int 0, .int ((-1)), .int ((-1)), .int ((-1))])), (q9, .inl (t10, 6, .inl ((fun _ => 0)))), (q11, .inl (t12, 18, .inr (.inr (.inr (.inr ((va_up f74 1 (some q76)))))))), (q13, .inr (0, [.int 0, .ref d0, .int 0])), (q16, .inl (t17, 240, .inl ((fun _ => 0)))), (q18, .inr (6, [v21, .int 0])), (q22, .inr (2, [.ref q25])), (q25, .inr (0, [.int 0, .ref d0, .int 0])), (q27, .inr (3, [w030, w131, w232, .int 0, .int ((-1)), .int ((-1)), .int ((-1))])), (q34, .inr (3, [w037, w138, w239, .int 0, .int ((-1)), .int ((-1)), .int ((-1))])), (q41, .inr (3, [w044, w145, w246, .int 0, .int ((-1)), .int ((-1)), .int ((-1))])), (q48, .inr (3, [w051, w152, w253, .int 0, .int ((-1)), .int ((-1)), .int ((-1))])), (q55, .inr (3, [w058, w159, w260, .int 0, .int ((-1)), .int ((-1)), .int ((-1))])), (q62, .inr (3, [w065, w166, w267, .int 0, .int ((-1)), .int ((-1)), .int ((-1))])), (q76, .inr (6, [v79, .int 0]))] := hD
  generalize (va_up f74 1 (some q76)) = f80 at hP hD
  have hP := hP.sub (ws' := [(h0, .inr (8, [.ref a1, .ref a2, .ref a3, .ref q1, .ref q3, .ref q9, .ref q11, .ref q13, .ref q16, .int i9, .ref q18, .ref q22])), (q1, .inl (t2, 6, .inr (.inr (.inr (.inr ((va_up (va_up (va_up (va_up (va_up (va_up (fun _ => none) 0 (some q27)) 1 (some q34)) 2 (some q41)) 3 (some q48)) 4 (some q55)) 5 (some q62)))))))), (q3, .inr (3, [w06, w17, w28, .int 0, .int ((-1)), .int ((-1)), .int ((-1))])), (q9, .inl (t10, 6, .inl ((fun _ => 0)))), (q11, .inl (t12, 18, .inr (.inr (.inr (.inr f80))))), (q13, .inr (0, [.int 0, .ref d0, .int 0])), (q16, .inl (t17, 240, .inl ((fun _ => 0)))), (q18, .inr (6, [v21, .int 0])), (q22, .inr (2, [.ref q25])), (q25, .inr (0, [.int 0, .ref d0, .int 0])), (q27, .inr (3, [w030, w131, w232, .int 0, .int ((-1)), .int ((-1)), .int ((-1))])), (q34, .inr (3, [w037, w138, w239, .int 0, .int ((-1)), .int ((-1)), .int ((-1))])), (q41, .inr (3, [w044, w145, w246, .int 0, .int ((-1)), .int ((-1)), .int ((-1))])), (q48, .inr (3, [w051, w152, w253, .int 0, .int ((-1)), .int ((-1)), .int ((-1))])), (q55, .inr (3, [w058, w159, w260, .int 0, .int ((-1)), .int ((-1)), .int ((-1))])), (q62, .inr (3, [w065, w166, w267, .int 0, .int ((-1)), .int ((-1)), .int ((-1))]))]) [0, 1, 2, 3, 4, 5, 6, 7, 8, 9, 10, 11, 12, 13, 14, 15] rfl
  have hD := hD.sub (ws' := [(h0, .inr (8, [.ref a1, .ref a2, .ref a3, .ref q1, .ref q3, .ref q9, .ref q11, .ref q13, .ref q16, .int i9, .ref q18, .ref q22])), (q1, .inl (t2, 6, .inr (.inr (.inr (.inr ((va_up (va_up (va_up (va_up (va_up (va_up (fun _ => none) 0 (some q27)) 1 (some q34)) 2 (some q41)) 3 (some q48)) 4 (some q55)) 5 (some q62)))))))), (q3, .inr (3, [w06, w17, w28, .int 0, .int ((-1)), .int ((-1)), .int ((-1))])), (q9, .inl (t10, 6, .inl ((fun _ => 0)))), (q11, .inl (t12, 18, .inr (.inr (.inr (.inr f80))))), (q13, .inr (0, [.int 0, .ref d0, .int 0])), (q16, .inl (t17, 240, .inl ((fun _ => 0)))), (q18, .inr (6, [v21, .int 0])), (q22, .inr (2, [.ref q25])), (q25, .inr (0, [.int 0, .ref d0, .int 0])), (q27, .inr (3, [w030, w131, w232, .int 0, .int ((-1)), .int ((-1)), .int ((-1))])), (q34, .inr (3, [w037, w138, w239, .int 0, .int ((-1)), .int ((-1)), .int ((-1))])), (q41, .inr (3, [w044, w145, w246, .int 0, .int ((-1)), .int ((-1)), .int ((-1))])), (q48, .inr (3, [w051, w152, w253, .int 0, .int ((-1)), .int ((-1)), .int ((-1))])), (q55, .inr (3, [w058, w159, w260, .int 0, .int ((-1)), .int ((-1)), .int ((-1))])), (q62, .inr (3, [w065, w166, w267, .int 0, .int ((-1)), .int ((-1)), .int ((-1))]))]) [0, 1, 2, 3, 4, 5, 6, 7, 8, 9, 10, 11, 12, 13, 14, 15] (by decide) rfl
  refine lv_iinc (v := 2) (lv' := [(4, .int 2), (0, .ref h0), (1, .ref a1), (2, .ref a2), (3, .ref a3)]) hx hb dX7_init_155 hl (k := 0) rfl (by decide) (by decide) rfl (fun ls hl => ?_)
  refine lv_goto (tgt := 131) hx hb dX7_init_158 (by decide) ?_
  refine lv_iload hx hb dX7_init_131 (lv_at hl 0 rfl) ?_
  refine lv_aload_n hx hb dX7_init_133 rfl (lv_at hl 1 rfl) ?_
  refine va_get (D := (dC, dI)) (ci := 8) (v := .ref q11) (C := RX7) (T := TX7) (N := 12) hx hb ht inGX7 hown hK hP 0 rfl rfl 6 (by decide) (ht _ q360) (fun _ h9 => h9) rfl dX7_init_134 ?_
  refine va_alen (v := 18) hx hb hK hP 4 2 rfl rfl rfl dX7_init_137 ?_
  refine lv_icmp_ge (tgt := 161) hx hb dX7_init_138 (by decide) (fun c81 => absurd c81 (by decide)) (fun c81 => ?_)
  refine lv_aload_n hx hb dX7_init_141 rfl (lv_at hl 1 rfl) ?_
  refine va_get (D := (dC, dI)) (ci := 8) (v := .ref q11) (C := RX7) (T := TX7) (N := 12) hx hb ht inGX7 hown hK hP 0 rfl rfl 6 (by decide) (ht _ q360) (fun _ h9 => h9) rfl dX7_init_142 ?_
  refine lv_iload hx hb dX7_init_145 (lv_at hl 0 rfl) ?_
  refine va_new (ci := 6) (fs := [.null, .int 0]) (C := RX5) (T := TX5) (N := 2) hx hb ht inGX5 tyX5 tyX5_ok hown (ht _ q345) (ht _ q297) (ht _ q132) hK hP hD hS hA rfl (fun j hj => by rcases (show j = 0 ∨ j = 1 by omega) with rfl | rfl <;> rfl) (Nat.le_of_ble_eq_true rfl) (Nat.le_of_ble_eq_true rfl) dX7_init_147 (fun q82 H hP hD hS => ?_)
  have hP : va_P (dC, dI) vwCl [(h0, .inr (8, [.ref a1, .ref a2, .ref a3, .ref q1, .ref q3, .ref q9, .ref q11, .ref q13, .ref q16, .int i9, .ref q18, .ref q22])), (q1, .inl (t2, 6, .inr (.inr (.inr (.inr ((va_up (va_up (va_up (va_up (va_up (va_up (fun _ => none) 0 (some q27)) 1 (some q34)) 2 (some q41)) 3 (some q48)) 4 (some q55)) 5 (some q62)))))))), (q3, .inr (3, [w06, w17, w28, .int 0, .int ((-1)), .int ((-1)), .int ((-1))])), (q9, .inl (t10, 6, .inl ((fun _ => 0)))), (q11, .inl (t12, 18, .inr (.inr (.inr (.inr f80))))), (q13, .inr (0, [.int 0, .ref d0, .int 0])), (q16, .inl (t17, 240, .inl ((fun _ => 0)))), (q18, .inr (6, [v21, .int 0])), (q22, .inr (2, [.ref q25])), (q25, .inr (0, [.int 0, .ref d0, .int 0])), (q27, .inr (3, [w030, w131, w232, .int 0, .int ((-1)), .int ((-1)), .int ((-1))])), (q34, .inr (3, [w037, w138, w239, .int 0, .int ((-1)), .int ((-1)), .int ((-1))])), (q41, .inr (3, [w044, w145, w246, .int 0, .int ((-1)), .int ((-1)), .int ((-1))])), (q48, .inr (3, [w051, w152, w253, .int 0, .int ((-1)), .int ((-1)), .int ((-1))])), (q55, .inr (3, [w058, w159, w260, .int 0, .int ((-1)), .int ((-1)), .int ((-1))])), (q62, .inr (3, [w065, w166, w267, .int 0, .int ((-1)), .int ((-1)), .int ((-1))])), (q82, .inr (6, [.null, .int 0]))] H := hP
  have hD : va_D A [(h0, .inr (8, [.ref a1, .ref a2, .ref a3, .ref q1, .ref q3, .ref q9, .ref q11, .ref q13, .ref q16, .int i9, .ref q18, .ref q22])), (q1, .inl (t2, 6, .inr (.inr (.inr (.inr ((va_up (va_up (va_up (va_up (va_up (va_up (fun _ => none) 0 (some q27)) 1 (some q34)) 2 (some q41)) 3 (some q48)) 4 (some q55)) 5 (some q62)))))))), (q3, .inr (3, [w06, w17, w28, .int 0, .int ((-1)), .int ((-1)), .int ((-1))])), (q9, .inl (t10, 6, .inl ((fun _ => 0)))), (q11, .inl (t12, 18, .inr (.inr (.inr (.inr f80))))), (q13, .inr (0, [.int 0, .ref d0, .int 0])), (q16, .inl (t17, 240, .inl ((fun _ => 0)))), (q18, .inr (6, [v21, .int 0])), (q22, .inr (2, [.ref q25])), (q25, .inr (0, [.int 0, .ref d0, .int 0])), (q27, .inr (3, [w030, w131, w232, .int 0, .int ((-1)), .int ((-1)), .int ((-1))])), (q34, .inr (3, [w037, w138, w239, .int 0, .int ((-1)), .int ((-1)), .int ((-1))])), (q41, .inr (3, [w044, w145, w246, .int 0, .int ((-1)), .int ((-1)), .int ((-1))])), (q48, .inr (3, [w051, w152, w253, .int 0, .int ((-1)), .int ((-1)), .int ((-1))])), (q55, .inr (3, [w058, w159, w260, .int 0, .int ((-1)), .int ((-1)), .int ((-1))])), (q62, .inr (3, [w065, w166, w267, .int 0, .int ((-1)), .int ((-1)), .int ((-1))])), (q82, .inr (6, [.null, .int 0]))] := hD
  refine W.widen (k := 46) (n := 1762) (Nat.le_of_ble_eq_true rfl) (Nat.le_of_ble_eq_true rfl) ?_
  refine lv_dup hx hb dX7_init_150 rfl ?_
  have hPc := hP.sub (ws' := [(q82, .inr (6, [.null, .int 0]))]) [16] rfl
  have hDc := hD.sub (ws' := [(q82, .inr (6, [.null, .int 0]))]) [16] (by decide) rfl
  have hKc := hK.sub (tys' := []) [] rfl
  have hFc := va_free (wc := [(q82, .inr (6, [.null, .int 0]))]) hD hS hA [16] rfl
  refine va_callv (va_runIN (As := []) (rest := [.ref q82, .int 2, .ref q11]) ⟨hx, hb, hml, hown, ht⟩ (k_X5_init l d0 cO dC dI H.size q82 .null 0) (my_NI ht M_X5_init q299 rfl q348 (Nat.le_of_ble_eq_true rfl) (Nat.le_of_ble_eq_true rfl)) ⟨PRE.fb, fun U hU hW => ⟨rfl, PRE.mk' hE hS hFc hPc hKc hDc U hU hW⟩⟩ rfl rfl hl.1 rfl (lv_room (Nat.le_of_ble_eq_true rfl)) dX7_init_151 ⟨(Nat.le_of_ble_eq_true rfl), (Nat.le_of_ble_eq_true rfl)⟩) hS (fun q _ h => hFc q h) hFc (fun u83 t H1 locs htt hvm hw hB hz1 hk1 hS => ?_)
  try dsimp only at hw hB
  obtain ⟨v85, hP1, hK1, hD1⟩ := hB
  rw [htt] at hP1
  have hK1 := va_K.moved hvm.symm hK1
  obtain ⟨hP, hD⟩ := va_join (wr := [(h0, .inr (8, [.ref a1, .ref a2, .ref a3, .ref q1, .ref q3, .ref q9, .ref q11, .ref q13, .ref q16, .int i9, .ref q18, .ref q22])), (q1, .inl (t2, 6, .inr (.inr (.inr (.inr ((va_up (va_up (va_up (va_up (va_up (va_up (fun _ => none) 0 (some q27)) 1 (some q34)) 2 (some q41)) 3 (some q48)) 4 (some q55)) 5 (some q62)))))))), (q3, .inr (3, [w06, w17, w28, .int 0, .int ((-1)), .int ((-1)), .int ((-1))])), (q9, .inl (t10, 6, .inl ((fun _ => 0)))), (q11, .inl (t12, 18, .inr (.inr (.inr (.inr f80))))), (q13, .inr (0, [.int 0, .ref d0, .int 0])), (q16, .inl (t17, 240, .inl ((fun _ => 0)))), (q18, .inr (6, [v21, .int 0])), (q22, .inr (2, [.ref q25])), (q25, .inr (0, [.int 0, .ref d0, .int 0])), (q27, .inr (3, [w030, w131, w232, .int 0, .int ((-1)), .int ((-1)), .int ((-1))])), (q34, .inr (3, [w037, w138, w239, .int 0, .int ((-1)), .int ((-1)), .int ((-1))])), (q41, .inr (3, [w044, w145, w246, .int 0, .int ((-1)), .int ((-1)), .int ((-1))])), (q48, .inr (3, [w051, w152, w253, .int 0, .int ((-1)), .int ((-1)), .int ((-1))])), (q55, .inr (3, [w058, w159, w260, .int 0, .int ((-1)), .int ((-1)), .int ((-1))])), (q62, .inr (3, [w065, w166, w267, .int 0, .int ((-1)), .int ((-1)), .int ((-1))]))]) (w1 := [(q82, .inr (6, [v85, .int 0]))]) hP hD [16] [0, 1, 2, 3, 4, 5, 6, 7, 8, 9, 10, 11, 12, 13, 14, 15] rfl rfl (by decide) (by decide) hk1 hFc hP1 hD1
  have hK := (hK.sub (tys' := [(t2, .object RX2), (t10, .int), (t12, .object RX5), (t17, .int)]) [0, 1, 2, 3] rfl).app hK1
  generalize H1 = H at hP hS ⊢
  have hP : va_P (dC, dI) vwCl [(h0, .inr (8, [.ref a1, .ref a2, .ref a3, .ref q1, .ref q3, .ref q9, .ref q11, .ref q13, .ref q16, .int i9, .ref q18, .ref q22])), (q1, .inl (t2, 6, .inr (.inr (.inr (.inr ((va_up (va_up (va_up (va_up (va_up (va_up (fun _ => none) 0 (some q27)) 1 (some q34)) 2 (some q41)) 3 (some q48)) 4 (some q55)) 5 (some q62)))))))), (q3, .inr (3, [w06, w17, w28, .int 0, .int ((-1)), .int ((-1)), .int ((-1))])), (q9, .inl (t10, 6, .inl ((fun _ => 0)))), (q11, .inl (t12, 18, .inr (.inr (.inr (.inr f80))))), (q13, .inr (0, [.int 0, .ref d0, .int 0])), (q16, .inl (t17, 240, .inl ((fun _ => 0)))), (q18, .inr (6, [v21, .int 0])), (q22, .inr (2, [.ref q25])), (q25, .inr (0, [.int 0, .ref d0, .int 0])), (q27, .inr (3, [w030, w131, w232, .int 0, .int ((-1)), .int ((-1)), .int ((-1))])), (q34, .inr (3, [w037, w138, w239, .int 0, .int ((-1)), .int ((-1)), .int ((-1))])), (q41, .inr (3, [w044, w145, w246, .int 0, .int ((-1)), .int ((-1)), .int ((-1))])), (q48, .inr (3, [w051, w152, w253, .int 0, .int ((-1)), .int ((-1)), .int ((-1))])), (q55, .inr (3, [w058, w159, w260, .int 0, .int ((-1)), .int ((-1)), .int ((-1))])), (q62, .inr (3, [w065, w166, w267, .int 0, .int ((-1)), .int ((-1)), .int ((-1))])), (q82, .inr (6, [v85, .int 0]))] H := hP
  have hD : va_D A [(h0, .inr (8, [.ref a1, .ref a2, .ref a3, .ref q1, .ref q3, .ref q9, .ref q11, .ref q13, .ref q16, .int i9, .ref q18, .ref q22])), (q1, .inl (t2, 6, .inr (.inr (.inr (.inr ((va_up (va_up (va_up (va_up (va_up (va_up (fun _ => none) 0 (some q27)) 1 (some q34)) 2 (some q41)) 3 (some q48)) 4 (some q55)) 5 (some q62)))))))), (q3, .inr (3, [w06, w17, w28, .int 0, .int ((-1)), .int ((-1)), .int ((-1))])), (q9, .inl (t10, 6, .inl ((fun _ => 0)))), (q11, .inl (t12, 18, .inr (.inr (.inr (.inr f80))))), (q13, .inr (0, [.int 0, .ref d0, .int 0])), (q16, .inl (t17, 240, .inl ((fun _ => 0)))), (q18, .inr (6, [v21, .int 0])), (q22, .inr (2, [.ref q25])), (q25, .inr (0, [.int 0, .ref d0, .int 0])), (q27, .inr (3, [w030, w131, w232, .int 0, .int ((-1)), .int ((-1)), .int ((-1))])), (q34, .inr (3, [w037, w138, w239, .int 0, .int ((-1)), .int ((-1)), .int ((-1))])), (q41, .inr (3, [w044, w145, w246, .int 0, .int ((-1)), .int ((-1)), .int ((-1))])), (q48, .inr (3, [w051, w152, w253, .int 0, .int ((-1)), .int ((-1)), .int ((-1))])), (q55, .inr (3, [w058, w159, w260, .int 0, .int ((-1)), .int ((-1)), .int ((-1))])), (q62, .inr (3, [w065, w166, w267, .int 0, .int ((-1)), .int ((-1)), .int ((-1))])), (q82, .inr (6, [v85, .int 0]))] := hD
  have hK : va_K (dC, dI) vwCl [(t2, .object RX2), (t10, .int), (t12, .object RX5), (t17, .int)] s := hK
  refine W.widen (k := 46) (n := 1762) (Nat.le_of_ble_eq_true rfl) (Nat.le_of_ble_eq_true rfl) ?_
  refine va_astq hx hb hK hP hD hS 4 2 16 6 rfl rfl rfl rfl (vp_in_nI (n := 2) (by decide) (by decide)) dX7_init_154 (fun H locs hP hD hS => ?_)
  have hP : va_P (dC, dI) vwCl [(h0, .inr (8, [.ref a1, .ref a2, .ref a3, .ref q1, .ref q3, .ref q9, .ref q11, .ref q13, .ref q16, .int i9, .ref q18, .ref q22])), (q1, .inl (t2, 6, .inr (.inr (.inr (.inr ((va_up (va_up (va_up (va_up (va_up (va_up (fun _ => none) 0 (some q27)) 1 (some q34)) 2 (some q41)) 3 (some q48)) 4 (some q55)) 5 (some q62)))))))), (q3, .inr (3, [w06, w17, w28, .int 0, .int ((-1)), .int ((-1)), .int ((-1))])), (q9, .inl (t10, 6, .inl ((fun _ => 0)))), (q11, .inl (t12, 18, .inr (.inr (.inr (.inr ((va_up f80 2 (some q82)))))))), (q13, .inr (0, [.int 0, .ref d0, .int 0])), (q16, .inl (t17, 240, .inl ((fun _ => 0)))), (q18, .inr (6, [v21, .int 0])), (q22, .inr (2, [.ref q25])), (q25, .inr (0, [.int 0, .ref d0, .int 0])), (q27, .inr (3, [w030, w131, w232, .int 0, .int ((-1)), .int ((-1)), .int ((-1))])), (q34, .inr (3, [w037, w138, w239, .int 0, .int ((-1)), .int ((-1)), .int ((-1))])), (q41, .inr (3, [w044, w145, w246, .int 0, .int ((-1)), .int ((-1)), .int ((-1))])), (q48, .inr (3, [w051, w152, w253, .int 0, .int ((-1)), .int ((-1)), .int ((-1))])), (q55, .inr (3, [w058, w159, w260, .int 0, .int ((-1)), .int ((-1)), .int ((-1))])), (q62, .inr (3, [w065, w166, w267, .int 0, .int ((-1)), .int ((-1)), .int ((-1))])), (q82, .inr (6, [v85, .int 0]))] H := hP
  have hD : va_D A [(h0, .inr (8, [.ref a1, .ref a2, .ref a3, .ref q1, .ref q3, .ref q9, .ref q11, .ref q13, .ref q16, .int i9, .ref q18, .ref q22])), (q1, .inl (t2, 6, .inr (.inr (.inr (.inr ((va_up (va_up (va_up (va_up (va_up (va_up (fun _ => none) 0 (some q27)) 1 (some q34)) 2 (some q41)) 3 (some q48)) 4 (some q55)) 5 (some q62)))))))), (q3, .inr (3, [w06, w17, w28, .int 0, .int ((-1)), .int ((-1)), .int ((-1))])), (q9, .inl (t10, 6, .inl ((fun _ => 0)))), (q11, .inl (t12, 18, .inr (.inr (.inr (.inr ((va_up f80 2 (some q82)))))))), (q13, .inr (0, [.int 0, .ref d0, .int 0])), (q16, .inl (t17, 240, .inl ((fun _ => 0)))), (q18, .inr (6, [v21, .int 0])), (q22, .inr (2, [.ref q25])), (q25, .inr (0, [.int 0, .ref d0, .int 0])), (q27, .inr (3, [w030, w131, w232, .int 0, .int ((-1)), .int ((-1)), .int ((-1))])), (q34, .inr (3, [w037, w138, w239, .int 0, .int ((-1)), .int ((-1)), .int ((-1))])), (q41, .inr (3, [w044, w145, w246, .int 0, .int ((-1)), .int ((-1)), .int ((-1))])), (q48, .inr (3, [w051, w152, w253, .int 0, .int ((-1)), .int ((-1)), .int ((-1))])), (q55, .inr (3, [w058, w159, w260, .int 0, .int ((-1)), .int ((-1)), .int ((-1))])), (q62, .inr (3, [w065, w166, w267, .int 0, .int ((-1)), .int ((-1)), .int ((-1))])), (q82, .inr (6, [v85, .int 0]))] := hD
  generalize (va_up f80 2 (some q82)) = f86 at hP hD
  have hP := hP.sub (ws' := [(h0, .inr (8, [.ref a1, .ref a2, .ref a3, .ref q1, .ref q3, .ref q9, .ref q11, .ref q13, .ref q16, .int i9, .ref q18, .ref q22])), (q1, .inl (t2, 6, .inr (.inr (.inr (.inr ((va_up (va_up (va_up (va_up (va_up (va_up (fun _ => none) 0 (some q27)) 1 (some q34)) 2 (some q41)) 3 (some q48)) 4 (some q55)) 5 (some q62)))))))), (q3, .inr (3, [w06, w17, w28, .int 0, .int ((-1)), .int ((-1)), .int ((-1))])), (q9, .inl (t10, 6, .inl ((fun _ => 0)))), (q11, .inl (t12, 18, .inr (.inr (.inr (.inr f86))))), (q13, .inr (0, [.int 0, .ref d0, .int 0])), (q16, .inl (t17, 240, .inl ((fun _ => 0)))), (q18, .inr (6, [v21, .int 0])), (q22, .inr (2, [.ref q25])), (q25, .inr (0, [.int 0, .ref d0, .int 0])), (q27, .inr (3, [w030, w131, w232, .int 0, .int ((-1)), .int ((-1)), .int ((-1))])), (q34, .inr (3, [w037, w138, w239, .int 0, .int ((-1)), .int ((-1)), .int ((-1))])), (q41, .inr (3, [w044, w145, w246, .int 0, .int ((-1)), .int ((-1)), .int ((-1))])), (q48, .inr (3, [w051, w152, w253, .int 0, .int ((-1)), .int ((-1)), .int ((-1))])), (q55, .inr (3, [w058, w159, w260, .int 0, .int ((-1)), .int ((-1)), .int ((-1))])), (q62, .inr (3, [w065, w166, w267, .int 0, .int ((-1)), .int ((-1)), .int ((-1))]))]) [0, 1, 2, 3, 4, 5, 6, 7, 8, 9, 10, 11, 12, 13, 14, 15] rfl
  have hD := hD.sub (ws' := [(h0, .inr (8, [.ref a1, .ref a2, .ref a3, .ref q1, .ref q3, .ref q9, .ref q11, .ref q13, .ref q16, .int i9, .ref q18, .ref q22])), (q1, .inl (t2, 6, .inr (.inr (.inr (.inr ((va_up (va_up (va_up (va_up (va_up (va_up (fun _ => none) 0 (some q27)) 1 (some q34)) 2 (some q41)) 3 (some q48)) 4 (some q55)) 5 (some q62)))))))), (q3, .inr (3, [w06, w17, w28, .int 0, .int ((-1)), .int ((-1)), .int ((-1))])), (q9, .inl (t10, 6, .inl ((fun _ => 0)))), (q11, .inl (t12, 18, .inr (.inr (.inr (.inr f86))))), (q13, .inr (0, [.int 0, .ref d0, .int 0])), (q16, .inl (t17, 240, .inl ((fun _ => 0)))), (q18, .inr (6, [v21, .int 0])), (q22, .inr (2, [.ref q25])), (q25, .inr (0, [.int 0, .ref d0, .int 0])), (q27, .inr (3, [w030, w131, w232, .int 0, .int ((-1)), .int ((-1)), .int ((-1))])), (q34, .inr (3, [w037, w138, w239, .int 0, .int ((-1)), .int ((-1)), .int ((-1))])), (q41, .inr (3, [w044, w145, w246, .int 0, .int ((-1)), .int ((-1)), .int ((-1))])), (q48, .inr (3, [w051, w152, w253, .int 0, .int ((-1)), .int ((-1)), .int ((-1))])), (q55, .inr (3, [w058, w159, w260, .int 0, .int ((-1)), .int ((-1)), .int ((-1))])), (q62, .inr (3, [w065, w166, w267, .int 0, .int ((-1)), .int ((-1)), .int ((-1))]))]) [0, 1, 2, 3, 4, 5, 6, 7, 8, 9, 10, 11, 12, 13, 14, 15] (by decide) rfl
  refine lv_iinc (v := 3) (lv' := [(4, .int 3), (0, .ref h0), (1, .ref a1), (2, .ref a2), (3, .ref a3)]) hx hb dX7_init_155 hl (k := 0) rfl (by decide) (by decide) rfl (fun ls hl => ?_)
  refine lv_goto (tgt := 131) hx hb dX7_init_158 (by decide) ?_
  refine lv_iload hx hb dX7_init_131 (lv_at hl 0 rfl) ?_
  refine lv_aload_n hx hb dX7_init_133 rfl (lv_at hl 1 rfl) ?_
  refine va_get (D := (dC, dI)) (ci := 8) (v := .ref q11) (C := RX7) (T := TX7) (N := 12) hx hb ht inGX7 hown hK hP 0 rfl rfl 6 (by decide) (ht _ q360) (fun _ h9 => h9) rfl dX7_init_134 ?_
  refine va_alen (v := 18) hx hb hK hP 4 2 rfl rfl rfl dX7_init_137 ?_
  refine lv_icmp_ge (tgt := 161) hx hb dX7_init_138 (by decide) (fun c87 => absurd c87 (by decide)) (fun c87 => ?_)
  refine lv_aload_n hx hb dX7_init_141 rfl (lv_at hl 1 rfl) ?_
  refine va_get (D := (dC, dI)) (ci := 8) (v := .ref q11) (C := RX7) (T := TX7) (N := 12) hx hb ht inGX7 hown hK hP 0 rfl rfl 6 (by decide) (ht _ q360) (fun _ h9 => h9) rfl dX7_init_142 ?_
  refine lv_iload hx hb dX7_init_145 (lv_at hl 0 rfl) ?_
  refine va_new (ci := 6) (fs := [.null, .int 0]) (C := RX5) (T := TX5) (N := 2) hx hb ht inGX5 tyX5 tyX5_ok hown (ht _ q345) (ht _ q297) (ht _ q132) hK hP hD hS hA rfl (fun j hj => by rcases (show j = 0 ∨ j = 1 by omega) with rfl | rfl <;> rfl) (Nat.le_of_ble_eq_true rfl) (Nat.le_of_ble_eq_true rfl) dX7_init_147 (fun q88 H hP hD hS => ?_)
  have hP : va_P (dC, dI) vwCl [(h0, .inr (8, [.ref a1, .ref a2, .ref a3, .ref q1, .ref q3, .ref q9, .ref q11, .ref q13, .ref q16, .int i9, .ref q18, .ref q22])), (q1, .inl (t2, 6, .inr (.inr (.inr (.inr ((va_up (va_up (va_up (va_up (va_up (va_up (fun _ => none) 0 (some q27)) 1 (some q34)) 2 (some q41)) 3 (some q48)) 4 (some q55)) 5 (some q62)))))))), (q3, .inr (3, [w06, w17, w28, .int 0, .int ((-1)), .int ((-1)), .int ((-1))])), (q9, .inl (t10, 6, .inl ((fun _ => 0)))), (q11, .inl (t12, 18, .inr (.inr (.inr (.inr f86))))), (q13, .inr (0, [.int 0, .ref d0, .int 0])), (q16, .inl (t17, 240, .inl ((fun _ => 0)))), (q18, .inr (6, [v21, .int 0])), (q22, .inr (2, [.ref q25])), (q25, .inr (0, [.int 0, .ref d0, .int 0])), (q27, .inr (3, [w030, w131, w232, .int 0, .int ((-1)), .int ((-1)), .int ((-1))])), (q34, .inr (3, [w037, w138, w239, .int 0, .int ((-1)), .int ((-1)), .int ((-1))])), (q41, .inr (3, [w044, w145, w246, .int 0, .int ((-1)), .int ((-1)), .int ((-1))])), (q48, .inr (3, [w051, w152, w253, .int 0, .int ((-1)), .int ((-1)), .int ((-1))])), (q55, .inr (3, [w058, w159, w260, .int 0, .int ((-1)), .int ((-1)), .int ((-1))])), (q62, .inr (3, [w065, w166, w267, .int 0, .int ((-1)), .int ((-1)), .int ((-1))])), (q88, .inr (6, [.null, .int 0]))] H := hP
  have hD : va_D A [(h0, .inr (8, [.ref a1, .ref a2, .ref a3, .ref q1, .ref q3, .ref q9, .ref q11, .ref q13, .ref q16, .int i9, .ref q18, .ref q22])), (q1, .inl (t2, 6, .inr (.inr (.inr (.inr ((va_up (va_up (va_up (va_up (va_up (va_up (fun _ => none) 0 (some q27)) 1 (some q34)) 2 (some q41)) 3 (some q48)) 4 (some q55)) 5 (some q62)))))))), (q3, .inr (3, [w06, w17, w28, .int 0, .int ((-1)), .int ((-1)), .int ((-1))])), (q9, .inl (t10, 6, .inl ((fun _ => 0)))), (q11, .inl (t12, 18, .inr (.inr (.inr (.inr f86))))), (q13, .inr (0, [.int 0, .ref d0, .int 0])), (q16, .inl (t17, 240, .inl ((fun _ => 0)))), (q18, .inr (6, [v21, .int 0])), (q22, .inr (2, [.ref q25])), (q25, .inr (0, [.int 0, .ref d0, .int 0])), (q27, .inr (3, [w030, w131, w232, .int 0, .int ((-1)), .int ((-1)), .int ((-1))])), (q34, .inr (3, [w037, w138, w239, .int 0, .int ((-1)), .int ((-1)), .int ((-1))])), (q41, .inr (3, [w044, w145, w246, .int 0, .int ((-1)), .int ((-1)), .int ((-1))])), (q48, .inr (3, [w051, w152, w253, .int 0, .int ((-1)), .int ((-1)), .int ((-1))])), (q55, .inr (3, [w058, w159, w260, .int 0, .int ((-1)), .int ((-1)), .int ((-1))])), (q62, .inr (3, [w065, w166, w267, .int 0, .int ((-1)), .int ((-1)), .int ((-1))])), (q88, .inr (6, [.null, .int 0]))] := hD
  refine W.widen (k := 47) (n := 1764) (Nat.le_of_ble_eq_true rfl) (Nat.le_of_ble_eq_true rfl) ?_
  refine lv_dup hx hb dX7_init_150 rfl ?_
  have hPc := hP.sub (ws' := [(q88, .inr (6, [.null, .int 0]))]) [16] rfl
  have hDc := hD.sub (ws' := [(q88, .inr (6, [.null, .int 0]))]) [16] (by decide) rfl
  have hKc := hK.sub (tys' := []) [] rfl
  have hFc := va_free (wc := [(q88, .inr (6, [.null, .int 0]))]) hD hS hA [16] rfl
  refine va_callv (va_runIN (As := []) (rest := [.ref q88, .int 3, .ref q11]) ⟨hx, hb, hml, hown, ht⟩ (k_X5_init l d0 cO dC dI H.size q88 .null 0) (my_NI ht M_X5_init q299 rfl q348 (Nat.le_of_ble_eq_true rfl) (Nat.le_of_ble_eq_true rfl)) ⟨PRE.fb, fun U hU hW => ⟨rfl, PRE.mk' hE hS hFc hPc hKc hDc U hU hW⟩⟩ rfl rfl hl.1 rfl (lv_room (Nat.le_of_ble_eq_true rfl)) dX7_init_151 ⟨(Nat.le_of_ble_eq_true rfl), (Nat.le_of_ble_eq_true rfl)⟩) hS (fun q _ h => hFc q h) hFc (fun u89 t H1 locs htt hvm hw hB hz1 hk1 hS => ?_)
  try dsimp only at hw hB
  obtain ⟨v91, hP1, hK1, hD1⟩ := hB
  rw [htt] at hP1
  have hK1 := va_K.moved hvm.symm hK1
  obtain ⟨hP, hD⟩ := va_join (wr := [(h0, .inr (8, [.ref a1, .ref a2, .ref a3, .ref q1, .ref q3, .ref q9, .ref q11, .ref q13, .ref q16, .int i9, .ref q18, .ref q22])), (q1, .inl (t2, 6, .inr (.inr (.inr (.inr ((va_up (va_up (va_up (va_up (va_up (va_up (fun _ => none) 0 (some q27)) 1 (some q34)) 2 (some q41)) 3 (some q48)) 4 (some q55)) 5 (some q62)))))))), (q3, .inr (3, [w06, w17, w28, .int 0, .int ((-1)), .int ((-1)), .int ((-1))])), (q9, .inl (t10, 6, .inl ((fun _ => 0)))), (q11, .inl (t12, 18, .inr (.inr (.inr (.inr f86))))), (q13, .inr (0, [.int 0, .ref d0, .int 0])), (q16, .inl (t17, 240, .inl ((fun _ => 0)))), (q18, .inr (6, [v21, .int 0])), (q22, .inr (2, [.ref q25])), (q25, .inr (0, [.int 0, .ref d0, .int 0])), (q27, .inr (3, [w030, w131, w232, .int 0, .int ((-1)), .int ((-1)), .int ((-1))])), (q34, .inr (3, [w037, w138, w239, .int 0, .int ((-1)), .int ((-1)), .int ((-1))])), (q41, .inr (3, [w044, w145, w246, .int 0, .int ((-1)), .int ((-1)), .int ((-1))])), (q48, .inr (3, [w051, w152, w253, .int 0, .int ((-1)), .int ((-1)), .int ((-1))])), (q55, .inr (3, [w058, w159, w260, .int 0, .int ((-1)), .int ((-1)), .int ((-1))])), (q62, .inr (3, [w065, w166, w267, .int 0, .int ((-1)), .int ((-1)), .int ((-1))]))]) (w1 := [(q88, .inr (6, [v91, .int 0]))]) hP hD [16] [0, 1, 2, 3, 4, 5, 6, 7, 8, 9, 10, 11, 12, 13, 14, 15] rfl rfl (by decide) (by decide) hk1 hFc hP1 hD1
  have hK := (hK.sub (tys' := [(t2, .object RX2), (t10, .int), (t12, .object RX5), (t17, .int)]) [0, 1, 2, 3] rfl).app hK1
  generalize H1 = H at hP hS ⊢
  have hP : va_P (dC, dI) vwCl [(h0, .inr (8, [.ref a1, .ref a2, .ref a3, .ref q1, .ref q3, .ref q9, .ref q11, .ref q13, .ref q16, .int i9, .ref q18, .ref q22])), (q1, .inl (t2, 6, .inr (.inr (.inr (.inr ((va_up (va_up (va_up (va_up (va_up (va_up (fun _ => none) 0 (some q27)) 1 (some q34)) 2 (some q41)) 3 (some q48)) 4 (some q55)) 5 (some q62)))))))), (q3, .inr (3, [w06, w17, w28, .int 0, .int ((-1)), .int ((-1)), .int ((-1))])), (q9, .inl (t10, 6, .inl ((fun _ => 0)))), (q11, .inl (t12, 18, .inr (.inr (.inr (.inr f86))))), (q13, .inr (0, [.int 0, .ref d0, .int 0])), (q16, .inl (t17, 240, .inl ((fun _ => 0)))), (q18, .inr (6, [v21, .int 0])), (q22, .inr (2, [.ref q25])), (q25, .inr (0, [.int 0, .ref d0, .int 0])), (q27, .inr (3, [w030, w131, w232, .int 0, .int ((-1)), .int ((-1)), .int ((-1))])), (q34, .inr (3, [w037, w138, w239, .int 0, .int ((-1)), .int ((-1)), .int ((-1))])), (q41, .inr (3, [w044, w145, w246, .int 0, .int ((-1)), .int ((-1)), .int ((-1))])), (q48, .inr (3, [w051, w152, w253, .int 0, .int ((-1)), .int ((-1)), .int ((-1))])), (q55, .inr (3, [w058, w159, w260, .int 0, .int ((-1)), .int ((-1)), .int ((-1))])), (q62, .inr (3, [w065, w166, w267, .int 0, .int ((-1)), .int ((-1)), .int ((-1))])), (q88, .inr (6, [v91, .int 0]))] H := hP
  have hD : va_D A [(h0, .inr (8, [.ref a1, .ref a2, .ref a3, .ref q1, .ref q3, .ref q9, .ref q11, .ref q13, .ref q16, .int i9, .ref q18, .ref q22])), (q1, .inl (t2, 6, .inr (.inr (.inr (.inr ((va_up (va_up (va_up (va_up (va_up (va_up (fun _ => none) 0 (some q27)) 1 (some q34)) 2 (some q41)) 3 (some q48)) 4 (some q55)) 5 (some q62)))))))), (q3, .inr (3, [w06, w17, w28, .int 0, .int ((-1)), .int ((-1)), .int ((-1))])), (q9, .inl (t10, 6, .inl ((fun _ => 0)))), (q11, .inl (t12, 18, .inr (.inr (.inr (.inr f86))))), (q13, .inr (0, [.int 0, .ref d0, .int 0])), (q16, .inl (t17, 240, .inl ((fun _ => 0)))), (q18, .inr (6, [v21, .int 0])), (q22, .inr (2, [.ref q25])), (q25, .inr (0, [.int 0, .ref d0, .int 0])), (q27, .inr (3, [w030, w131, w232, .int 0, .int ((-1)), .int ((-1)), .int ((-1))])), (q34, .inr (3, [w037, w138, w239, .int 0, .int ((-1)), .int ((-1)), .int ((-1))])), (q41, .inr (3, [w044, w145, w246, .int 0, .int ((-1)), .int ((-1)), .int ((-1))])), (q48, .inr (3, [w051, w152, w253, .int 0, .int ((-1)), .int ((-1)), .int ((-1))])), (q55, .inr (3, [w058, w159, w260, .int 0, .int ((-1)), .int ((-1)), .int ((-1))])), (q62, .inr (3, [w065, w166, w267, .int 0, .int ((-1)), .int ((-1)), .int ((-1))])), (q88, .inr (6, [v91, .int 0]))] := hD
  have hK : va_K (dC, dI) vwCl [(t2, .object RX2), (t10, .int), (t12, .object RX5), (t17, .int)] s := hK
  refine W.widen (k := 47) (n := 1764) (Nat.le_of_ble_eq_true rfl) (Nat.le_of_ble_eq_true rfl) ?_
  refine va_astq hx hb hK hP hD hS 4 2 16 6 rfl rfl rfl rfl (vp_in_nI (n := 3) (by decide) (by decide)) dX7_init_154 (fun H locs hP hD hS => ?_)
  have hP : va_P (dC, dI) vwCl [(h0, .inr (8, [.ref a1, .ref a2, .ref a3, .ref q1, .ref q3, .ref q9, .ref q11, .ref q13, .ref q16, .int i9, .ref q18, .ref q22])), (q1, .inl (t2, 6, .inr (.inr (.inr (.inr ((va_up (va_up (va_up (va_up (va_up (va_up (fun _ => none) 0 (some q27)) 1 (some q34)) 2 (some q41)) 3 (some q48)) 4 (some q55)) 5 (some q62)))))))), (q3, .inr (3, [w06, w17, w28, .int 0, .int ((-1)), .int ((-1)), .int ((-1))])), (q9, .inl (t10, 6, .inl ((fun _ => 0)))), (q11, .inl (t12, 18, .inr (.inr (.inr (.inr ((va_up f86 3 (some q88)))))))), (q13, .inr (0, [.int 0, .ref d0, .int 0])), (q16, .inl (t17, 240, .inl ((fun _ => 0)))), (q18, .inr (6, [v21, .int 0])), (q22, .inr (2, [.ref q25])), (q25, .inr (0, [.int 0, .ref d0, .int 0])), (q27, .inr (3, [w030, w131, w232, .int 0, .int ((-1)), .int ((-1)), .int ((-1))])), (q34, .inr (3, [w037, w138, w239, .int 0, .int ((-1)), .int ((-1)), .int ((-1))])), (q41, .inr (3, [w044, w145, w246, .int 0, .int ((-1)), .int ((-1)), .int ((-1))])), (q48, .inr (3, [w051, w152, w253, .int 0, .int ((-1)), .int ((-1)), .int ((-1))])), (q55, .inr (3, [w058, w159, w260, .int 0, .int ((-1)), .int ((-1)), .int ((-1))])), (q62, .inr (3, [w065, w166, w267, .int 0, .int ((-1)), .int ((-1)), .int ((-1))])), (q88, .inr (6, [v91, .int 0]))] H := hP
  have hD : va_D A [(h0, .inr (8, [.ref a1, .ref a2, .ref a3, .ref q1, .ref q3, .ref q9, .ref q11, .ref q13, .ref q16, .int i9, .ref q18, .ref q22])), (q1, .inl (t2, 6, .inr (.inr (.inr (.inr ((va_up (va_up (va_up (va_up (va_up (va_up (fun _ => none) 0 (some q27)) 1 (some q34)) 2 (some q41)) 3 (some q48)) 4 (some q55)) 5 (some q62)))))))), (q3, .inr (3, [w06, w17, w28, .int 0, .int ((-1)), .int ((-1)), .int ((-1))])), (q9, .inl (t10, 6, .inl ((fun _ => 0)))), (q11, .inl (t12, 18, .inr (.inr (.inr (.inr ((va_up f86 3 (some q88)))))))), (q13, .inr (0, [.int 0, .ref d0, .int 0])), (q16, .inl (t17, 240, .inl ((fun _ => 0)))), (q18, .inr (6, [v21, .int 0])), (q22, .inr (2, [.ref q25])), (q25, .inr (0, [.int 0, .ref d0, .int 0])), (q27, .inr (3, [w030, w131, w232, .int 0, .int ((-1)), .int ((-1)), .int ((-1))])), (q34, .inr (3, [w037, w138, w239, .int 0, .int ((-1)), .int ((-1)), .int ((-1))])), (q41, .inr (3, [w044, w145, w246, .int 0, .int ((-1)), .int ((-1)), .int ((-1))])), (q48, .inr (3, [w051, w152, w253, .int 0, .int ((-1)), .int ((-1)), .int ((-1))])), (q55, .inr (3, [w058, w159, w260, .int 0, .int ((-1)), .int ((-1)), .int ((-1))])), (q62, .inr (3, [w065, w166, w267, .int 0, .int ((-1)), .int ((-1)), .int ((-1))])), (q88, .inr (6, [v91, .int 0]))] := hD
  generalize (va_up f86 3 (some q88)) = f92 at hP hD
  have hP := hP.sub (ws' := [(h0, .inr (8, [.ref a1, .ref a2, .ref a3, .ref q1, .ref q3, .ref q9, .ref q11, .ref q13, .ref q16, .int i9, .ref q18, .ref q22])), (q1, .inl (t2, 6, .inr (.inr (.inr (.inr ((va_up (va_up (va_up (va_up (va_up (va_up (fun _ => none) 0 (some q27)) 1 (some q34)) 2 (some q41)) 3 (some q48)) 4 (some q55)) 5 (some q62)))))))), (q3, .inr (3, [w06, w17, w28, .int 0, .int ((-1)), .int ((-1)), .int ((-1))])), (q9, .inl (t10, 6, .inl ((fun _ => 0)))), (q11, .inl (t12, 18, .inr (.inr (.inr (.inr f92))))), (q13, .inr (0, [.int 0, .ref d0, .int 0])), (q16, .inl (t17, 240, .inl ((fun _ => 0)))), (q18, .inr (6, [v21, .int 0])), (q22, .inr (2, [.ref q25])), (q25, .inr (0, [.int 0, .ref d0, .int 0])), (q27, .inr (3, [w030, w131, w232, .int 0, .int ((-1)), .int ((-1)), .int ((-1))])), (q34, .inr (3, [w037, w138, w239, .int 0, .int ((-1)), .int ((-1)), .int ((-1))])), (q41, .inr (3, [w044, w145, w246, .int 0, .int ((-1)), .int ((-1)), .int ((-1))])), (q48, .inr (3, [w051, w152, w253, .int 0, .int ((-1)), .int ((-1)), .int ((-1))])), (q55, .inr (3, [w058, w159, w260, .int 0, .int ((-1)), .int ((-1)), .int ((-1))])), (q62, .inr (3, [w065, w166, w267, .int 0, .int ((-1)), .int ((-1)), .int ((-1))]))]) [0, 1, 2, 3, 4, 5, 6, 7, 8, 9, 10, 11, 12, 13, 14, 15] rfl
  have hD := hD.sub (ws' := [(h0, .inr (8, [.ref a1, .ref a2, .ref a3, .ref q1, .ref q3, .ref q9, .ref q11, .ref q13, .ref q16, .int i9, .ref q18, .ref q22])), (q1, .inl (t2, 6, .inr (.inr (.inr (.inr ((va_up (va_up (va_up (va_up (va_up (va_up (fun _ => none) 0 (some q27)) 1 (some q34)) 2 (some q41)) 3 (some q48)) 4 (some q55)) 5 (some q62)))))))), (q3, .inr (3, [w06, w17, w28, .int 0, .int ((-1)), .int ((-1)), .int ((-1))])), (q9, .inl (t10, 6, .inl ((fun _ => 0)))), (q11, .inl (t12, 18, .inr (.inr (.inr (.inr f92))))), (q13, .inr (0, [.int 0, .ref d0, .int 0])), (q16, .inl (t17, 240, .inl ((fun _ => 0)))), (q18, .inr (6, [v21, .int 0])), (q22, .inr (2, [.ref q25])), (q25, .inr (0, [.int 0, .ref d0, .int 0])), (q27, .inr (3, [w030, w131, w232, .int 0, .int ((-1)), .int ((-1)), .int ((-1))])), (q34, .inr (3, [w037, w138, w239, .int 0, .int ((-1)), .int ((-1)), .int ((-1))])), (q41, .inr (3, [w044, w145, w246, .int 0, .int ((-1)), .int ((-1)), .int ((-1))])), (q48, .inr (3, [w051, w152, w253, .int 0, .int ((-1)), .int ((-1)), .int ((-1))])), (q55, .inr (3, [w058, w159, w260, .int 0, .int ((-1)), .int ((-1)), .int ((-1))])), (q62, .inr (3, [w065, w166, w267, .int 0, .int ((-1)), .int ((-1)), .int ((-1))]))]) [0, 1, 2, 3, 4, 5, 6, 7, 8, 9, 10, 11, 12, 13, 14, 15] (by decide) rfl
  refine lv_iinc (v := 4) (lv' := [(4, .int 4), (0, .ref h0), (1, .ref a1), (2, .ref a2), (3, .ref a3)]) hx hb dX7_init_155 hl (k := 0) rfl (by decide) (by decide) rfl (fun ls hl => ?_)
  refine lv_goto (tgt := 131) hx hb dX7_init_158 (by decide) ?_
  refine lv_iload hx hb dX7_init_131 (lv_at hl 0 rfl) ?_
  refine lv_aload_n hx hb dX7_init_133 rfl (lv_at hl 1 rfl) ?_
  refine va_get (D := (dC, dI)) (ci := 8) (v := .ref q11) (C := RX7) (T := TX7) (N := 12) hx hb ht inGX7 hown hK hP 0 rfl rfl 6 (by decide) (ht _ q360) (fun _ h9 => h9) rfl dX7_init_134 ?_
  refine va_alen (v := 18) hx hb hK hP 4 2 rfl rfl rfl dX7_init_137 ?_
  refine lv_icmp_ge (tgt := 161) hx hb dX7_init_138 (by decide) (fun c93 => absurd c93 (by decide)) (fun c93 => ?_)
  refine lv_aload_n hx hb dX7_init_141 rfl (lv_at hl 1 rfl) ?_
  refine va_get (D := (dC, dI)) (ci := 8) (v := .ref q11) (C := RX7) (T := TX7) (N := 12) hx hb ht inGX7 hown hK hP 0 rfl rfl 6 (by decide) (ht _ q360) (fun _ h9 => h9) rfl dX7_init_142 ?_
  refine lv_iload hx hb dX7_init_145 (lv_at hl 0 rfl) ?_
  refine va_new (ci := 6) (fs := [.null, .int 0]) (C := RX5) (T := TX5) (N := 2) hx hb ht inGX5 tyX5 tyX5_ok hown (ht _ q345) (ht _ q297) (ht _ q132) hK hP hD hS hA rfl (fun j hj => by rcases (show j = 0 ∨ j = 1 by omega) with rfl | rfl <;> rfl) (Nat.le_of_ble_eq_true rfl) (Nat.le_of_ble_eq_true rfl) dX7_init_147 (fun q94 H hP hD hS => ?_)
  have hP : va_P (dC, dI) vwCl [(h0, .inr (8, [.ref a1, .ref a2, .ref a3, .ref q1, .ref q3, .ref q9, .ref q11, .ref q13, .ref q16, .int i9, .ref q18, .ref q22])), (q1, .inl (t2, 6, .inr (.inr (.inr (.inr ((va_up (va_up (va_up (va_up (va_up (va_up (fun _ => none) 0 (some q27)) 1 (some q34)) 2 (some q41)) 3 (some q48)) 4 (some q55)) 5 (some q62)))))))), (q3, .inr (3, [w06, w17, w28, .int 0, .int ((-1)), .int ((-1)), .int ((-1))])), (q9, .inl (t10, 6, .inl ((fun _ => 0)))), (q11, .inl (t12, 18, .inr (.inr (.inr (.inr f92))))), (q13, .inr (0, [.int 0, .ref d0, .int 0])), (q16, .inl (t17, 240, .inl ((fun _ => 0)))), (q18, .inr (6, [v21, .int 0])), (q22, .inr (2, [.ref q25])), (q25, .inr (0, [.int 0, .ref d0, .int 0])), (q27, .inr (3, [w030, w131, w232, .int 0, .int ((-1)), .int ((-1)), .int ((-1))])), (q34, .inr (3, [w037, w138, w239, .int 0, .int ((-1)), .int ((-1)), .int ((-1))])), (q41, .inr (3, [w044, w145, w246, .int 0, .int ((-1)), .int ((-1)), .int ((-1))])), (q48, .inr (3, [w051, w152, w253, .int 0, .int ((-1)), .int ((-1)), .int ((-1))])), (q55, .inr (3, [w058, w159, w260, .int 0, .int ((-1)), .int ((-1)), .int ((-1))])), (q62, .inr (3, [w065, w166, w267, .int 0, .int ((-1)), .int ((-1)), .int ((-1))])), (q94, .inr (6, [.null, .int 0]))] H := hP
  have hD : va_D A [(h0, .inr (8, [.ref a1, .ref a2, .ref a3, .ref q1, .ref q3, .ref q9, .ref q11, .ref q13, .ref q16, .int i9, .ref q18, .ref q22])), (q1, .inl (t2, 6, .inr (.inr (.inr (.inr ((va_up (va_up (va_up (va_up (va_up (va_up (fun _ => none) 0 (some q27)) 1 (some q34)) 2 (some q41)) 3 (some q48)) 4 (some q55)) 5 (some q62)))))))), (q3, .inr (3, [w06, w17, w28, .int 0, .int ((-1)), .int ((-1)), .int ((-1))])), (q9, .inl (t10, 6, .inl ((fun _ => 0)))), (q11, .inl (t12, 18, .inr (.inr (.inr (.inr f92))))), (q13, .inr (0, [.int 0, .ref d0, .int 0])), (q16, .inl (t17, 240, .inl ((fun _ => 0)))), (q18, .inr (6, [v21, .int 0])), (q22, .inr (2, [.ref q25])), (q25, .inr (0, [.int 0, .ref d0, .int 0])), (q27, .inr (3, [w030, w131, w232, .int 0, .int ((-1)), .int ((-1)), .int ((-1))])), (q34, .inr (3, [w037, w138, w239, .int 0, .int ((-1)), .int ((-1)), .int ((-1))])), (q41, .inr (3, [w044, w145, w246, .int 0, .int ((-1)), .int ((-1)), .int ((-1))])), (q48, .inr (3, [w051, w152, w253, .int 0, .int ((-1)), .int ((-1)), .int ((-1))])), (q55, .inr (3, [w058, w159, w260, .int 0, .int ((-1)), .int ((-1)), .int ((-1))])), (q62, .inr (3, [w065, w166, w267, .int 0, .int ((-1)), .int ((-1)), .int ((-1))])), (q94, .inr (6, [.null, .int 0]))] := hD
  refine W.widen (k := 48) (n := 1766) (Nat.le_of_ble_eq_true rfl) (Nat.le_of_ble_eq_true rfl) ?_
  refine lv_dup hx hb dX7_init_150 rfl ?_
  have hPc := hP.sub (ws' := [(q94, .inr (6, [.null, .int 0]))]) [16] rfl
  have hDc := hD.sub (ws' := [(q94, .inr (6, [.null, .int 0]))]) [16] (by decide) rfl
  have hKc := hK.sub (tys' := []) [] rfl
  have hFc := va_free (wc := [(q94, .inr (6, [.null, .int 0]))]) hD hS hA [16] rfl
  refine va_callv (va_runIN (As := []) (rest := [.ref q94, .int 4, .ref q11]) ⟨hx, hb, hml, hown, ht⟩ (k_X5_init l d0 cO dC dI H.size q94 .null 0) (my_NI ht M_X5_init q299 rfl q348 (Nat.le_of_ble_eq_true rfl) (Nat.le_of_ble_eq_true rfl)) ⟨PRE.fb, fun U hU hW => ⟨rfl, PRE.mk' hE hS hFc hPc hKc hDc U hU hW⟩⟩ rfl rfl hl.1 rfl (lv_room (Nat.le_of_ble_eq_true rfl)) dX7_init_151 ⟨(Nat.le_of_ble_eq_true rfl), (Nat.le_of_ble_eq_true rfl)⟩) hS (fun q _ h => hFc q h) hFc (fun u95 t H1 locs htt hvm hw hB hz1 hk1 hS => ?_)
  try dsimp only at hw hB
  obtain ⟨v97, hP1, hK1, hD1⟩ := hB
  rw [htt] at hP1
  have hK1 := va_K.moved hvm.symm hK1
  obtain ⟨hP, hD⟩ := va_join (wr := [(h0, .inr (8, [.ref a1, .ref a2, .ref a3, .ref q1, .ref q3, .ref q9, .ref q11, .ref q13, .ref q16, .int i9, .ref q18, .ref q22])), (q1, .inl (t2, 6, .inr (.inr (.inr (.inr ((va_up (va_up (va_up (va_up (va_up (va_up (fun _ => none) 0 (some q27)) 1 (some q34)) 2 (some q41)) 3 (some q48)) 4 (some q55)) 5 (some q62)))))))), (q3, .inr (3, [w06, w17, w28, .int 0, .int ((-1)), .int ((-1)), .int ((-1))])), (q9, .inl (t10, 6, .inl ((fun _ => 0)))), (q11, .inl (t12, 18, .inr (.inr (.inr (.inr f92))))), (q13, .inr (0, [.int 0, .ref d0, .int 0])), (q16, .inl (t17, 240, .inl ((fun _ => 0)))), (q18, .inr (6, [v21, .int 0])), (q22, .inr (2, [.ref q25])), (q25, .inr (0, [.int 0, .ref d0, .int 0])), (q27, .inr (3, [w030, w131, w232, .int 0, .int ((-1)), .int ((-1)), .int ((-1))])), (q34, .inr (3, [w037, w138, w239, .int 0, .int ((-1)), .int ((-1)), .int ((-1))])), (q41, .inr (3, [w044, w145, w246, .int 0, .int ((-1)), .int ((-1)), .int ((-1))])), (q48, .inr (3, [w051, w152, w253, .int 0, .int ((-1)), .int ((-1)), .int ((-1))])), (q55, .inr (3, [w058, w159, w260, .int 0, .int ((-1)), .int ((-1)), .int ((-1))])), (q62, .inr (3, [w065, w166, w267, .int 0, .int ((-1)), .int ((-1)), .int ((-1))]))]) (w1 := [(q94, .inr (6, [v97, .int 0]))]) hP hD [16] [0, 1, 2, 3, 4, 5, 6, 7, 8, 9, 10, 11, 12, 13, 14, 15] rfl rfl (by decide) (by decide) hk1 hFc hP1 hD1
  have hK := (hK.sub (tys' := [(t2, .object RX2), (t10, .int), (t12, .object RX5), (t17, .int)]) [0, 1, 2, 3] rfl).app hK1
  generalize H1 = H at hP hS ⊢
  have hP : va_P (dC, dI) vwCl [(h0, .inr (8, [.ref a1, .ref a2, .ref a3, .ref q1, .ref q3, .ref q9, .ref q11, .ref q13, .ref q16, .int i9, .ref q18, .ref q22])), (q1, .inl (t2, 6, .inr (.inr (.inr (.inr ((va_up (va_up (va_up (va_up (va_up (va_up (fun _ => none) 0 (some q27)) 1 (some q34)) 2 (some q41)) 3 (some q48)) 4 (some q55)) 5 (some q62)))))))), (q3, .inr (3, [w06, w17, w28, .int 0, .int ((-1)), .int ((-1)), .int ((-1))])), (q9, .inl (t10, 6, .inl ((fun _ => 0)))), (q11, .inl (t12, 18, .inr (.inr (.inr (.inr f92))))), (q13, .inr (0, [.int 0, .ref d0, .int 0])), (q16, .inl (t17, 240, .inl ((fun _ => 0)))), (q18, .inr (6, [v21, .int 0])), (q22, .inr (2, [.ref q25])), (q25, .inr (0, [.int 0, .ref d0, .int 0])), (q27, .inr (3, [w030, w131, w232, .int 0, .int ((-1)), .int ((-1)), .int ((-1))])), (q34, .inr (3, [w037, w138, w239, .int 0, .int ((-1)), .int ((-1)), .int ((-1))])), (q41, .inr (3, [w044, w145, w246, .int 0, .int ((-1)), .int ((-1)), .int ((-1))])), (q48, .inr (3, [w051, w152, w253, .int 0, .int ((-1)), .int ((-1)), .int ((-1))])), (q55, .inr (3, [w058, w159, w260, .int 0, .int ((-1)), .int ((-1)), .int ((-1))])), (q62, .inr (3, [w065, w166, w267, .int 0, .int ((-1)), .int ((-1)), .int ((-1))])), (q94, .inr (6, [v97, .int 0]))] H := hP
  have hD : va_D A [(h0, .inr (8, [.ref a1, .ref a2, .ref a3, .ref q1, .ref q3, .ref q9, .ref q11, .ref q13, .ref q16, .int i9, .ref q18, .ref q22])), (q1, .inl (t2, 6, .inr (.inr (.inr (.inr ((va_up (va_up (va_up (va_up (va_up (va_up (fun _ => none) 0 (some q27)) 1 (some q34)) 2 (some q41)) 3 (some q48)) 4 (some q55)) 5 (some q62)))))))), (q3, .inr (3, [w06, w17, w28, .int 0, .int ((-1)), .int ((-1)), .int ((-1))])), (q9, .inl (t10, 6, .inl ((fun _ => 0)))), (q11, .inl (t12, 18, .inr (.inr (.inr (.inr f92))))), (q13, .inr (0, [.int 0, .ref d0, .int 0])), (q16, .inl (t17, 240, .inl ((fun _ => 0)))), (q18, .inr (6, [v21, .int 0])), (q22, .inr (2, [.ref q25])), (q25, .inr (0, [.int 0, .ref d0, .int 0])), (q27, .inr (3, [w030, w131, w232, .int 0, .int ((-1)), .int ((-1)), .int ((-1))])), (q34, .inr (3, [w037, w138, w239, .int 0, .int ((-1)), .int ((-1)), .int ((-1))])), (q41, .inr (3, [w044, w145, w246, .int 0, .int ((-1)), .int ((-1)), .int ((-1))])), (q48, .inr (3, [w051, w152, w253, .int 0, .int ((-1)), .int ((-1)), .int ((-1))])), (q55, .inr (3, [w058, w159, w260, .int 0, .int ((-1)), .int ((-1)), .int ((-1))])), (q62, .inr (3, [w065, w166, w267, .int 0, .int ((-1)), .int ((-1)), .int ((-1))])), (q94, .inr (6, [v97, .int 0]))] := hD
  have hK : va_K (dC, dI) vwCl [(t2, .object RX2), (t10, .int), (t12, .object RX5), (t17, .int)] s := hK
  refine W.widen (k := 48) (n := 1766) (Nat.le_of_ble_eq_true rfl) (Nat.le_of_ble_eq_true rfl) ?_
  refine va_astq hx hb hK hP hD hS 4 2 16 6 rfl rfl rfl rfl (vp_in_nI (n := 4) (by decide) (by decide)) dX7_init_154 (fun H locs hP hD hS => ?_)
  have hP : va_P (dC, dI) vwCl [(h0, .inr (8, [.ref a1, .ref a2, .ref a3, .ref q1, .ref q3, .ref q9, .ref q11, .ref q13, .ref q16, .int i9, .ref q18, .ref q22])), (q1, .inl (t2, 6, .inr (.inr (.inr (.inr ((va_up (va_up (va_up (va_up (va_up (va_up (fun _ => none) 0 (some q27)) 1 (some q34)) 2 (some q41)) 3 (some q48)) 4 (some q55)) 5 (some q62)))))))), (q3, .inr (3, [w06, w17, w28, .int 0, .int ((-1)), .int ((-1)), .int ((-1))])), (q9, .inl (t10, 6, .inl ((fun _ => 0)))), (q11, .inl (t12, 18, .inr (.inr (.inr (.inr ((va_up f92 4 (some q94)))))))), (q13, .inr (0, [.int 0, .ref d0, .int 0])), (q16, .inl (t17, 240, .inl ((fun _ => 0)))), (q18, .inr (6, [v21, .int 0])), (q22, .inr (2, [.ref q25])), (q25, .inr (0, [.int 0, .ref d0, .int 0])), (q27, .inr (3, [w030, w131, w232, .int 0, .int ((-1)), .int ((-1)), .int ((-1))])), (q34, .inr (3, [w037, w138, w239, .int 0, .int ((-1)), .int ((-1)), .int ((-1))])), (q41, .inr (3, [w044, w145, w246, .int 0, .int ((-1)), .int ((-1)), .int ((-1))])), (q48, .inr (3, [w051, w152, w253, .int 0, .int ((-1)), .int ((-1)), .int ((-1))])), (q55, .inr (3, [w058, w159, w260, .int 0, .int ((-1)), .int ((-1)), .int ((-1))])), (q62, .inr (3, [w065, w166, w267, .int 0, .int ((-1)), .int ((-1)), .int ((-1))])), (q94, .inr (6, [v97, .int 0]))] H := hP
  have hD : va_D A [(h0, .inr (8, [.ref a1, .ref a2, .ref a3, .ref q1, .ref q3, .ref q9, .ref q11, .ref q13, .ref q16, .int i9, .ref q18, .ref q22])), (q1, .inl (t2, 6, .inr (.inr (.inr (.inr ((va_up (va_up (va_up (va_up (va_up (va_up (fun _ => none) 0 (some q27)) 1 (some q34)) 2 (some q41)) 3 (some q48)) 4 (some q55)) 5 (some q62)))))))), (q3, .inr (3, [w06, w17, w28, .int 0, .int ((-1)), .int ((-1)), .int ((-1))])), (q9, .inl (t10, 6, .inl ((fun _ => 0)))), (q11, .inl (t12, 18, .inr (.inr (.inr (.inr ((va_up f92 4 (some q94)))))))), (q13, .inr (0, [.int 0, .ref d0, .int 0])), (q16, .inl (t17, 240, .inl ((fun _ => 0)))), (q18, .inr (6, [v21, .int 0])), (q22, .inr (2, [.ref q25])), (q25, .inr (0, [.int 0, .ref d0, .int 0])), (q27, .inr (3, [w030, w131, w232, .int 0, .int ((-1)), .int ((-1)), .int ((-1))])), (q34, .inr (3, [w037, w138, w239, .int 0, .int ((-1)), .int ((-1)), .int ((-1))])), (q41, .inr (3, [w044, w145, w246, .int 0, .int ((-1)), .int ((-1)), .int ((-1))])), (q48, .inr (3, [w051, w152, w253, .int 0, .int ((-1)), .int ((-1)), .int ((-1))])), (q55, .inr (3, [w058, w159, w260, .int 0, .int ((-1)), .int ((-1)), .int ((-1))])), (q62, .inr (3, [w065, w166, w267, .int 0, .int ((-1)), .int ((-1)), .int ((-1))])), (q94, .inr (6, [v97, .int 0]))] := hD
  generalize (va_up f92 4 (some q94)) = f98 at hP hD
  have hP := hP.sub (ws' := [(h0, .inr (8, [.ref a1, .ref a2, .ref a3, .ref q1, .ref q3, .ref q9, .ref q11, .ref q13, .ref q16, .int i9, .ref q18, .ref q22])), (q1, .inl (t2, 6, .inr (.inr (.inr (.inr ((va_up (va_up (va_up (va_up (va_up (va_up (fun _ => none) 0 (some q27)) 1 (some q34)) 2 (some q41)) 3 (some q48)) 4 (some q55)) 5 (some q62)))))))), (q3, .inr (3, [w06, w17, w28, .int 0, .int ((-1)), .int ((-1)), .int ((-1))])), (q9, .inl (t10, 6, .inl ((fun _ => 0)))), (q11, .inl (t12, 18, .inr (.inr (.inr (.inr f98))))), (q13, .inr (0, [.int 0, .ref d0, .int 0])), (q16, .inl (t17, 240, .inl ((fun _ => 0)))), (q18, .inr (6, [v21, .int 0])), (q22, .inr (2, [.ref q25])), (q25, .inr (0, [.int 0, .ref d0, .int 0])), (q27, .inr (3, [w030, w131, w232, .int 0, .int ((-1)), .int ((-1)), .int ((-1))])), (q34, .inr (3, [w037, w138, w239, .int 0, .int ((-1)), .int ((-1)), .int ((-1))])), (q41, .inr (3, [w044, w145, w246, .int 0, .int ((-1)), .int ((-1)), .int ((-1))])), (q48, .inr (3, [w051, w152, w253, .int 0, .int ((-1)), .int ((-1)), .int ((-1))])), (q55, .inr (3, [w058, w159, w260, .int 0, .int ((-1)), .int ((-1)), .int ((-1))])), (q62, .inr (3, [w065, w166, w267, .int 0, .int ((-1)), .int ((-1)), .int ((-1))]))]) [0, 1, 2, 3, 4, 5, 6, 7, 8, 9, 10, 11, 12, 13, 14, 15] rfl
  have hD := hD.sub (ws' := [(h0, .inr (8, [.ref a1, .ref a2, .ref a3, .ref q1, .ref q3, .ref q9, .ref q11, .ref q13, .ref q16, .int i9, .ref q18, .ref q22])), (q1, .inl (t2, 6, .inr (.inr (.inr (.inr ((va_up (va_up (va_up (va_up (va_up (va_up (fun _ => none) 0 (some q27)) 1 (some q34)) 2 (some q41)) 3 (some q48)) 4 (some q55)) 5 (some q62)))))))), (q3, .inr (3, [w06, w17, w28, .int 0, .int ((-1)), .int ((-1)), .int ((-1))])), (q9, .inl (t10, 6, .inl ((fun _ => 0)))), (q11, .inl (t12, 18, .inr (.inr (.inr (.inr f98))))), (q13, .inr (0, [.int 0, .ref d0, .int 0])), (q16, .inl (t17, 240, .inl ((fun _ => 0)))), (q18, .inr (6, [v21, .int 0])), (q22, .inr (2, [.ref q25])), (q25, .inr (0, [.int 0, .ref d0, .int 0])), (q27, .inr (3, [w030, w131, w232, .int 0, .int ((-1)), .int ((-1)), .int ((-1))])), (q34, .inr (3, [w037, w138, w239, .int 0, .int ((-1)), .int ((-1)), .int ((-1))])), (q41, .inr (3, [w044, w145, w246, .int 0, .int ((-1)), .int ((-1)), .int ((-1))])), (q48, .inr (3, [w051, w152, w253, .int 0, .int ((-1)), .int ((-1)), .int ((-1))])), (q55, .inr (3, [w058, w159, w260, .int 0, .int ((-1)), .int ((-1)), .int ((-1))])), (q62, .inr (3, [w065, w166, w267, .int 0, .int ((-1)), .int ((-1)), .int ((-1))]))]) [0, 1, 2, 3, 4, 5, 6, 7, 8, 9, 10, 11, 12, 13, 14, 15] (by decide) rfl
  refine lv_iinc (v := 5) (lv' := [(4, .int 5), (0, .ref h0), (1, .ref a1), (2, .ref a2), (3, .ref a3)]) hx hb dX7_init_155 hl (k := 0) rfl (by decide) (by decide) rfl (fun ls hl => ?_)
  refine lv_goto (tgt := 131) hx hb dX7_init_158 (by decide) ?_
  refine lv_iload hx hb dX7_init_131 (lv_at hl 0 rfl) ?_
  refine lv_aload_n hx hb dX7_init_133 rfl (lv_at hl 1 rfl) ?_
  refine va_get (D := (dC, dI)) (ci := 8) (v := .ref q11) (C := RX7) (T := TX7) (N := 12) hx hb ht inGX7 hown hK hP 0 rfl rfl 6 (by decide) (ht _ q360) (fun _ h9 => h9) rfl dX7_init_134 ?_
  refine va_alen (v := 18) hx hb hK hP 4 2 rfl rfl rfl dX7_init_137 ?_
  refine lv_icmp_ge (tgt := 161) hx hb dX7_init_138 (by decide) (fun c99 => absurd c99 (by decide)) (fun c99 => ?_)
  refine lv_aload_n hx hb dX7_init_141 rfl (lv_at hl 1 rfl) ?_
  refine va_get (D := (dC, dI)) (ci := 8) (v := .ref q11) (C := RX7) (T := TX7) (N := 12) hx hb ht inGX7 hown hK hP 0 rfl rfl 6 (by decide) (ht _ q360) (fun _ h9 => h9) rfl dX7_init_142 ?_
  refine lv_iload hx hb dX7_init_145 (lv_at hl 0 rfl) ?_
  refine va_new (ci := 6) (fs := [.null, .int 0]) (C := RX5) (T := TX5) (N := 2) hx hb ht inGX5 tyX5 tyX5_ok hown (ht _ q345) (ht _ q297) (ht _ q132) hK hP hD hS hA rfl (fun j hj => by rcases (show j = 0 ∨ j = 1 by omega) with rfl | rfl <;> rfl) (Nat.le_of_ble_eq_true rfl) (Nat.le_of_ble_eq_true rfl) dX7_init_147 (fun q100 H hP hD hS => ?_)
  have hP : va_P (dC, dI) vwCl [(h0, .inr (8, [.ref a1, .ref a2, .ref a3, .ref q1, .ref q3, .ref q9, .ref q11, .ref q13, .ref q16, .int i9, .ref q18, .ref q22])), (q1, .inl (t2, 6, .inr (.inr (.inr (.inr ((va_up (va_up (va_up (va_up (va_up (va_up (fun _ => none) 0 (some q27)) 1 (some q34)) 2 (some q41)) 3 (some q48)) 4 (some q55)) 5 (some q62)))))))), (q3, .inr (3, [w06, w17, w28, .int 0, .int ((-1)), .int ((-1)), .int ((-1))])), (q9, .inl (t10, 6, .inl ((fun _ => 0)))), (q11, .inl (t12, 18, .inr (.inr (.inr (.inr f98))))), (q13, .inr (0, [.int 0, .ref d0, .int 0])), (q16, .inl (t17, 240, .inl ((fun _ => 0)))), (q18, .inr (6, [v21, .int 0])), (q22, .inr (2, [.ref q25])), (q25, .inr (0, [.int 0, .ref d0, .int 0])), (q27, .inr (3, [w030, w131, w232, .int 0, .int ((-1)), .int ((-1)), .int ((-1))])), (q34, .inr (3, [w037, w138, w239, .int 0, .int ((-1)), .int ((-1)), .int ((-1))])), (q41, .inr (3, [w044, w145, w246, .int 0, .int ((-1)), .int ((-1)), .int ((-1))])), (q48, .inr (3, [w051, w152, w253, .int 0, .int ((-1)), .int ((-1)), .int ((-1))])), (q55, .inr (3, [w058, w159, w260, .int 0, .int ((-1)), .int ((-1)), .int ((-1))])), (q62, .inr (3, [w065, w166, w267, .int 0, .int ((-1)), .int ((-1)), .int ((-1))])), (q100, .inr (6, [.null, .int 0]))] H := hP
  have hD : va_D A [(h0, .inr (8, [.ref a1, .ref a2, .ref a3, .ref q1, .ref q3, .ref q9, .ref q11, .ref q13, .ref q16, .int i9, .ref q18, .ref q22])), (q1, .inl (t2, 6, .inr (.inr (.inr (.inr ((va_up (va_up (va_up (va_up (va_up (va_up (fun _ => none) 0 (some q27)) 1 (some q34)) 2 (some q41)) 3 (some q48)) 4 (some q55)) 5 (some q62)))))))), (q3, .inr (3, [w06, w17, w28, .int 0, .int ((-1)), .int ((-1)), .int ((-1))])), (q9, .inl (t10, 6, .inl ((fun _ => 0)))), (q11, .inl (t12, 18, .inr (.inr (.inr (.inr f98))))), (q13, .inr (0, [.int 0, .ref d0, .int 0])), (q16, .inl (t17, 240, .inl ((fun _ => 0)))), (q18, .inr (6, [v21, .int 0])), (q22, .inr (2, [.ref q25])), (q25, .inr (0, [.int 0, .ref d0, .int 0])), (q27, .inr (3, [w030, w131, w232, .int 0, .int ((-1)), .int ((-1)), .int ((-1))])), (q34, .inr (3, [w037, w138, w239, .int 0, .int ((-1)), .int ((-1)), .int ((-1))])), (q41, .inr (3, [w044, w145, w246, .int 0, .int ((-1)), .int ((-1)), .int ((-1))])), (q48, .inr (3, [w051, w152, w253, .int 0, .int ((-1)), .int ((-1)), .int ((-1))])), (q55, .inr (3, [w058, w159, w260, .int 0, .int ((-1)), .int ((-1)), .int ((-1))])), (q62, .inr (3, [w065, w166, w267, .int 0, .int ((-1)), .int ((-1)), .int ((-1))])), (q100, .inr (6, [.null, .int 0]))] := hD
  refine W.widen (k := 49) (n := 1768) (Nat.le_of_ble_eq_true rfl) (Nat.le_of_ble_eq_true rfl) ?_
  refine lv_dup hx hb dX7_init_150 rfl ?_
  have hPc := hP.sub (ws' := [(q100, .inr (6, [.null, .int 0]))]) [16] rfl
  have hDc := hD.sub (ws' := [(q100, .inr (6, [.null, .int 0]))]) [16] (by decide) rfl
  have hKc := hK.sub (tys' := []) [] rfl
  have hFc := va_free (wc := [(q100, .inr (6, [.null, .int 0]))]) hD hS hA [16] rfl
  refine va_callv (va_runIN (As := []) (rest := [.ref q100, .int 5, .ref q11]) ⟨hx, hb, hml, hown, ht⟩ (k_X5_init l d0 cO dC dI H.size q100 .null 0) (my_NI ht M_X5_init q299 rfl q348 (Nat.le_of_ble_eq_true rfl) (Nat.le_of_ble_eq_true rfl)) ⟨PRE.fb, fun U hU hW => ⟨rfl, PRE.mk' hE hS hFc hPc hKc hDc U hU hW⟩⟩ rfl rfl hl.1 rfl (lv_room (Nat.le_of_ble_eq_true rfl)) dX7_init_151 ⟨(Nat.le_of_ble_eq_true rfl), (Nat.le_of_ble_eq_true rfl)⟩) hS (fun q _ h => hFc q h) hFc (fun u101 t H1 locs htt hvm hw hB hz1 hk1 hS => ?_)
  try dsimp only at hw hB
  obtain ⟨v103, hP1, hK1, hD1⟩ := hB
  rw [htt] at hP1
  have hK1 := va_K.moved hvm.symm hK1
  obtain ⟨hP, hD⟩ := va_join (wr := [(h0, .inr (8, [.ref a1, .ref a2, .ref a3, .ref q1, .ref q3, .ref q9, .ref q11, .ref q13, .ref q16, .int i9, .ref q18, .ref q22])), (q1, .inl (t2, 6, .inr (.inr (.inr (.inr ((va_up (va_up (va_up (va_up (va_up (va_up (fun _ => none) 0 (some q27)) 1 (some q34)) 2 (some q41)) 3 (some q48)) 4 (some q55)) 5 (some q62)))))))), (q3, .inr (3, [w06, w17, w28, .int 0, .int ((-1)), .int ((-1)), .int ((-1))])), (q9, .inl (t10, 6, .inl ((fun _ => 0)))), (q11, .inl (t12, 18, .inr (.inr (.inr (.inr f98))))), (q13, .inr (0, [.int 0, .ref d0, .int 0])), (q16, .inl (t17, 240, .inl ((fun _ => 0)))), (q18, .inr (6, [v21, .int 0])), (q22, .inr (2, [.ref q25])), (q25, .inr (0, [.int 0, .ref d0, .int 0])), (q27, .inr (3, [w030, w131, w232, .int 0, .int ((-1)), .int ((-1)), .int ((-1))])), (q34, .inr (3, [w037, w138, w239, .int 0, .int ((-1)), .int ((-1)), .int ((-1))])), (q41, .inr (3, [w044, w145, w246, .int 0, .int ((-1)), .int ((-1)), .int ((-1))])), (q48, .inr (3, [w051, w152, w253, .int 0, .int ((-1)), .int ((-1)), .int ((-1))])), (q55, .inr (3, [w058, w159, w260, .int 0, .int ((-1)), .int ((-1)), .int ((-1))])), (q62, .inr (3, [w065, w166, w267, .int 0, .int ((-1)), .int ((-1)), .int ((-1))]))]) (w1 := [(q100, .inr (6, [v103, .int 0]))]) hP hD [16] [0, 1, 2, 3, 4, 5, 6, 7, 8, 9, 10, 11, 12, 13, 14, 15] rfl rfl (by decide) (by decide) hk1 hFc hP1 hD1
  have hK := (hK.sub (tys' := [(t2, .object RX2), (t10, .int), (t12, .object RX5), (t17, .int)]) [0, 1, 2, 3] rfl).app hK1
  generalize H1 = H at hP hS ⊢
  have hP : va_P (dC, dI) vwCl [(h0, .inr (8, [.ref a1, .ref a2, .ref a3, .ref q1, .ref q3, .ref q9, .ref q11, .ref q13, .ref q16, .int i9, .ref q18, .ref q22])), (q1, .inl (t2, 6, .inr (.inr (.inr (.inr ((va_up (va_up (va_up (va_up (va_up (va_up (fun _ => none) 0 (some q27)) 1 (some q34)) 2 (some q41)) 3 (some q48)) 4 (some q55)) 5 (some q62)))))))), (q3, .inr (3, [w06, w17, w28, .int 0, .int ((-1)), .int ((-1)), .int ((-1))])), (q9, .inl (t10, 6, .inl ((fun _ => 0)))), (q11, .inl (t12, 18, .inr (.inr (.inr (.inr f98))))), (q13, .inr (0, [.int 0, .ref d0, .int 0])), (q16, .inl (t17, 240, .inl ((fun _ => 0)))), (q18, .inr (6, [v21, .int 0])), (q22, .inr (2, [.ref q25])), (q25, .inr (0, [.int 0, .ref d0, .int 0])), (q27, .inr (3, [w030, w131, w232, .int 0, .int ((-1)), .int ((-1)), .int ((-1))])), (q34, .inr (3, [w037, w138, w239, .int 0, .int ((-1)), .int ((-1)), .int ((-1))])), (q41, .inr (3, [w044, w145, w246, .int 0, .int ((-1)), .int ((-1)), .int ((-1))])), (q48, .inr (3, [w051, w152, w253, .int 0, .int ((-1)), .int ((-1)), .int ((-1))])), (q55, .inr (3, [w058, w159, w260, .int 0, .int ((-1)), .int ((-1)), .int ((-1))])), (q62, .inr (3, [w065, w166, w267, .int 0, .int ((-1)), .int ((-1)), .int ((-1))])), (q100, .inr (6, [v103, .int 0]))] H := hP
  have hD : va_D A [(h0, .inr (8, [.ref a1, .ref a2, .ref a3, .ref q1, .ref q3, .ref q9, .ref q11, .ref q13, .ref q16, .int i9, .ref q18, .ref q22])), (q1, .inl (t2, 6, .inr (.inr (.inr (.inr ((va_up (va_up (va_up (va_up (va_up (va_up (fun _ => none) 0 (some q27)) 1 (some q34)) 2 (some q41)) 3 (some q48)) 4 (some q55)) 5 (some q62)))))))), (q3, .inr (3, [w06, w17, w28, .int 0, .int ((-1)), .int ((-1)), .int ((-1))])), (q9, .inl (t10, 6, .inl ((fun _ => 0)))), (q11, .inl (t12, 18, .inr (.inr (.inr (.inr f98))))), (q13, .inr (0, [.int 0, .ref d0, .int 0])), (q16, .inl (t17, 240, .inl ((fun _ => 0)))), (q18, .inr (6, [v21, .int 0])), (q22, .inr (2, [.ref q25])), (q25, .inr (0, [.int 0, .ref d0, .int 0])), (q27, .inr (3, [w030, w131, w232, .int 0, .int ((-1)), .int ((-1)), .int ((-1))])), (q34, .inr (3, [w037, w138, w239, .int 0, .int ((-1)), .int ((-1)), .int ((-1))])), (q41, .inr (3, [w044, w145, w246, .int 0, .int ((-1)), .int ((-1)), .int ((-1))])), (q48, .inr (3, [w051, w152, w253, .int 0, .int ((-1)), .int ((-1)), .int ((-1))])), (q55, .inr (3, [w058, w159, w260, .int 0, .int ((-1)), .int ((-1)), .int ((-1))])), (q62, .inr (3, [w065, w166, w267, .int 0, .int ((-1)), .int ((-1)), .int ((-1))])), (q100, .inr (6, [v103, .int 0]))] := hD
  have hK : va_K (dC, dI) vwCl [(t2, .object RX2), (t10, .int), (t12, .object RX5), (t17, .int)] s := hK
  refine W.widen (k := 49) (n := 1768) (Nat.le_of_ble_eq_true rfl) (Nat.le_of_ble_eq_true rfl) ?_
  refine va_astq hx hb hK hP hD hS 4 2 16 6 rfl rfl rfl rfl (vp_in_nI (n := 5) (by decide) (by decide)) dX7_init_154 (fun H locs hP hD hS => ?_)
  have hP : va_P (dC, dI) vwCl [(h0, .inr (8, [.ref a1, .ref a2, .ref a3, .ref q1, .ref q3, .ref q9, .ref q11, .ref q13, .ref q16, .int i9, .ref q18, .ref q22])), (q1, .inl (t2, 6, .inr (.inr (.inr (.inr ((va_up (va_up (va_up (va_up (va_up (va_up (fun _ => none) 0 (some q27)) 1 (some q34)) 2 (some q41)) 3 (some q48)) 4 (some q55)) 5 (some q62)))))))), (q3, .inr (3, [w06, w17, w28, .int 0, .int ((-1)), .int ((-1)), .int ((-1))])), (q9, .inl (t10, 6, .inl ((fun _ => 0)))), (q11, .inl (t12, 18, .inr (.inr (.inr (.inr ((va_up f98 5 (some q100)))))))), (q13, .inr (0, [.int 0, .ref d0, .int 0])), (q16, .inl (t17, 240, .inl ((fun _ => 0)))), (q18, .inr (6, [v21, .int 0])), (q22, .inr (2, [.ref q25])), (q25, .inr (0, [.int 0, .ref d0, .int 0])), (q27, .inr (3, [w030, w131, w232, .int 0, .int ((-1)), .int ((-1)), .int ((-1))])), (q34, .inr (3, [w037, w138, w239, .int 0, .int ((-1)), .int ((-1)), .int ((-1))])), (q41, .inr (3, [w044, w145, w246, .int 0, .int ((-1)), .int ((-1)), .int ((-1))])), (q48, .inr (3, [w051, w152, w253, .int 0, .int ((-1)), .int ((-1)), .int ((-1))])), (q55, .inr (3, [w058, w159, w260, .int 0, .int ((-1)), .int ((-1)), .int ((-1))])), (q62, .inr (3, [w065, w166, w267, .int 0, .int ((-1)), .int ((-1)), .int ((-1))])), (q100, .inr (6, [v103, .int 0]))] H := hP
  have hD : va_D A [(h0, .inr (8, [.ref a1, .ref a2, .ref a3, .ref q1, .ref q3, .ref q9, .ref q11, .ref q13, .ref q16, .int i9, .ref q18, .ref q22])), (q1, .inl (t2, 6, .inr (.inr (.inr (.inr ((va_up (va_up (va_up (va_up (va_up (va_up (fun _ => none) 0 (some q27)) 1 (some q34)) 2 (some q41)) 3 (some q48)) 4 (some q55)) 5 (some q62)))))))), (q3, .inr (3, [w06, w17, w28, .int 0, .int ((-1)), .int ((-1)), .int ((-1))])), (q9, .inl (t10, 6, .inl ((fun _ => 0)))), (q11, .inl (t12, 18, .inr (.inr (.inr (.inr ((va_up f98 5 (some q100)))))))), (q13, .inr (0, [.int 0, .ref d0, .int 0])), (q16, .inl (t17, 240, .inl ((fun _ => 0)))), (q18, .inr (6, [v21, .int 0])), (q22, .inr (2, [.ref q25])), (q25, .inr (0, [.int 0, .ref d0, .int 0])), (q27, .inr (3, [w030, w131, w232, .int 0, .int ((-1)), .int ((-1)), .int ((-1))])), (q34, .inr (3, [w037, w138, w239, .int 0, .int ((-1)), .int ((-1)), .int ((-1))])), (q41, .inr (3, [w044, w145, w246, .int 0, .int ((-1)), .int ((-1)), .int ((-1))])), (q48, .inr (3, [w051, w152, w253, .int 0, .int ((-1)), .int ((-1)), .int ((-1))])), (q55, .inr (3, [w058, w159, w260, .int 0, .int ((-1)), .int ((-1)), .int ((-1))])), (q62, .inr (3, [w065, w166, w267, .int 0, .int ((-1)), .int ((-1)), .int ((-1))])), (q100, .inr (6, [v103, .int 0]))] := hD
  generalize (va_up f98 5 (some q100)) = f104 at hP hD
  have hP := hP.sub (ws' := [(h0, .inr (8, [.ref a1, .ref a2, .ref a3, .ref q1, .ref q3, .ref q9, .ref q11, .ref q13, .ref q16, .int i9, .ref q18, .ref q22])), (q1, .inl (t2, 6, .inr (.inr (.inr (.inr ((va_up (va_up (va_up (va_up (va_up (va_up (fun _ => none) 0 (some q27)) 1 (some q34)) 2 (some q41)) 3 (some q48)) 4 (some q55)) 5 (some q62)))))))), (q3, .inr (3, [w06, w17, w28, .int 0, .int ((-1)), .int ((-1)), .int ((-1))])), (q9, .inl (t10, 6, .inl ((fun _ => 0)))), (q11, .inl (t12, 18, .inr (.inr (.inr (.inr f104))))), (q13, .inr (0, [.int 0, .ref d0, .int 0])), (q16, .inl (t17, 240, .inl ((fun _ => 0)))), (q18, .inr (6, [v21, .int 0])), (q22, .inr (2, [.ref q25])), (q25, .inr (0, [.int 0, .ref d0, .int 0])), (q27, .inr (3, [w030, w131, w232, .int 0, .int ((-1)), .int ((-1)), .int ((-1))])), (q34, .inr (3, [w037, w138, w239, .int 0, .int ((-1)), .int ((-1)), .int ((-1))])), (q41, .inr (3, [w044, w145, w246, .int 0, .int ((-1)), .int ((-1)), .int ((-1))])), (q48, .inr (3, [w051, w152, w253, .int 0, .int ((-1)), .int ((-1)), .int ((-1))])), (q55, .inr (3, [w058, w159, w260, .int 0, .int ((-1)), .int ((-1)), .int ((-1))])), (q62, .inr (3, [w065, w166, w267, .int 0, .int ((-1)), .int ((-1)), .int ((-1))]))]) [0, 1, 2, 3, 4, 5, 6, 7, 8, 9, 10, 11, 12, 13, 14, 15] rfl
  have hD := hD.sub (ws' := [(h0, .inr (8, [.ref a1, .ref a2, .ref a3, .ref q1, .ref q3, .ref q9, .ref q11, .ref q13, .ref q16, .int i9, .ref q18, .ref q22])), (q1, .inl (t2, 6, .inr (.inr (.inr (.inr ((va_up (va_up (va_up (va_up (va_up (va_up (fun _ => none) 0 (some q27)) 1 (some q34)) 2 (some q41)) 3 (some q48)) 4 (some q55)) 5 (some q62)))))))), (q3, .inr (3, [w06, w17, w28, .int 0, .int ((-1)), .int ((-1)), .int ((-1))])), (q9, .inl (t10, 6, .inl ((fun _ => 0)))), (q11, .inl (t12, 18, .inr (.inr (.inr (.inr f104))))), (q13, .inr (0, [.int 0, .ref d0, .int 0])), (q16, .inl (t17, 240, .inl ((fun _ => 0)))), (q18, .inr (6, [v21, .int 0])), (q22, .inr (2, [.ref q25])), (q25, .inr (0, [.int 0, .ref d0, .int 0])), (q27, .inr (3, [w030, w131, w232, .int 0, .int ((-1)), .int ((-1)), .int ((-1))])), (q34, .inr (3, [w037, w138, w239, .int 0, .int ((-1)), .int ((-1)), .int ((-1))])), (q41, .inr (3, [w044, w145, w246, .int 0, .int ((-1)), .int ((-1)), .int ((-1))])), (q48, .inr (3, [w051, w152, w253, .int 0, .int ((-1)), .int ((-1)), .int ((-1))])), (q55, .inr (3, [w058, w159, w260, .int 0, .int ((-1)), .int ((-1)), .int ((-1))])), (q62, .inr (3, [w065, w166, w267, .int 0, .int ((-1)), .int ((-1)), .int ((-1))]))]) [0, 1, 2, 3, 4, 5, 6, 7, 8, 9, 10, 11, 12, 13, 14, 15] (by decide) rfl
  refine lv_iinc (v := 6) (lv' := [(4, .int 6), (0, .ref h0), (1, .ref a1), (2, .ref a2), (3, .ref a3)]) hx hb dX7_init_155 hl (k := 0) rfl (by decide) (by decide) rfl (fun ls hl => ?_)
  refine lv_goto (tgt := 131) hx hb dX7_init_158 (by decide) ?_
  refine lv_iload hx hb dX7_init_131 (lv_at hl 0 rfl) ?_
  refine lv_aload_n hx hb dX7_init_133 rfl (lv_at hl 1 rfl) ?_
  refine va_get (D := (dC, dI)) (ci := 8) (v := .ref q11) (C := RX7) (T := TX7) (N := 12) hx hb ht inGX7 hown hK hP 0 rfl rfl 6 (by decide) (ht _ q360) (fun _ h9 => h9) rfl dX7_init_134 ?_
  refine va_alen (v := 18) hx hb hK hP 4 2 rfl rfl rfl dX7_init_137 ?_
  refine lv_icmp_ge (tgt := 161) hx hb dX7_init_138 (by decide) (fun c105 => absurd c105 (by decide)) (fun c105 => ?_)
  refine lv_aload_n hx hb dX7_init_141 rfl (lv_at hl 1 rfl) ?_
  refine va_get (D := (dC, dI)) (ci := 8) (v := .ref q11) (C := RX7) (T := TX7) (N := 12) hx hb ht inGX7 hown hK hP 0 rfl rfl 6 (by decide) (ht _ q360) (fun _ h9 => h9) rfl dX7_init_142 ?_
  refine lv_iload hx hb dX7_init_145 (lv_at hl 0 rfl) ?_
  refine va_new (ci := 6) (fs := [.null, .int 0]) (C := RX5) (T := TX5) (N := 2) hx hb ht inGX5 tyX5 tyX5_ok hown (ht _ q345) (ht _ q297) (ht _ q132) hK hP hD hS hA rfl (fun j hj => by rcases (show j = 0 ∨ j = 1 by omega) with rfl | rfl <;> rfl) (Nat.le_of_ble_eq_true rfl) (Nat.le_of_ble_eq_true rfl) dX7_init_147 (fun q106 H hP hD hS => ?_)
  have hP : va_P (dC, dI) vwCl [(h0, .inr (8, [.ref a1, .ref a2, .ref a3, .ref q1, .ref q3, .ref q9, .ref q11, .ref q13, .ref q16, .int i9, .ref q18, .ref q22])), (q1, .inl (t2, 6, .inr (.inr (.inr (.inr ((va_up (va_up (va_up (va_up (va_up (va_up (fun _ => none) 0 (some q27)) 1 (some q34)) 2 (some q41)) 3 (some q48)) 4 (some q55)) 5 (some q62)))))))), (q3, .inr (3, [w06, w17, w28, .int 0, .int ((-1)), .int ((-1)), .int ((-1))])), (q9, .inl (t10, 6, .inl ((fun _ => 0)))), (q11, .inl (t12, 18, .inr (.inr (.inr (.inr f104))))), (q13, .inr (0, [.int 0, .ref d0, .int 0])), (q16, .inl (t17, 240, .inl ((fun _ => 0)))), (q18, .inr (6, [v21, .int 0])), (q22, .inr (2, [.ref q25])), (q25, .inr (0, [.int 0, .ref d0, .int 0])), (q27, .inr (3, [w030, w131, w232, .int 0, .int ((-1)), .int ((-1)), .int ((-1))])), (q34, .inr (3, [w037, w138, w239, .int 0, .int ((-1)), .int ((-1)), .int ((-1))])), (q41, .inr (3, [w044, w145, w246, .int 0, .int ((-1)), .int ((-1)), .int ((-1))])), (q48, .inr (3, [w051, w152, w253, .int 0, .int ((-1)), .int ((-1)), .int ((-1))])), (q55, .inr (3, [w058, w159, w260, .int 0, .int ((-1)), .int ((-1)), .int ((-1))])), (q62, .inr (3, [w065, w166, w267, .int 0, .int ((-1)), .int ((-1)), .int ((-1))])), (q106, .inr (6, [.null, .int 0]))] H := hP
  have hD : va_D A [(h0, .inr (8, [.ref a1, .ref a2, .ref a3, .ref q1, .ref q3, .ref q9, .ref q11, .ref q13, .ref q16, .int i9, .ref q18, .ref q22])), (q1, .inl (t2, 6, .inr (.inr (.inr (.inr ((va_up (va_up (va_up (va_up (va_up (va_up (fun _ => none) 0 (some q27)) 1 (some q34)) 2 (some q41)) 3 (some q48)) 4 (some q55)) 5 (some q62)))))))), (q3, .inr (3, [w06, w17, w28, .int 0, .int ((-1)), .int ((-1)), .int ((-1))])), (q9, .inl (t10, 6, .inl ((fun _ => 0)))), (q11, .inl (t12, 18, .inr (.inr (.inr (.inr f104))))), (q13, .inr (0, [.int 0, .ref d0, .int 0])), (q16, .inl (t17, 240, .inl ((fun _ => 0)))), (q18, .inr (6, [v21, .int 0])), (q22, .inr (2, [.ref q25])), (q25, .inr (0, [.int 0, .ref d0, .int 0])), (q27, .inr (3, [w030, w131, w232, .int 0, .int ((-1)), .int ((-1)), .int ((-1))])), (q34, .inr (3, [w037, w138, w239, .int 0, .int ((-1)), .int ((-1)), .int ((-1))])), (q41, .inr (3, [w044, w145, w246, .int 0, .int ((-1)), .int ((-1)), .int ((-1))])), (q48, .inr (3, [w051, w152, w253, .int 0, .int ((-1)), .int ((-1)), .int ((-1))])), (q55, .inr (3, [w058, w159, w260, .int 0, .int ((-1)), .int ((-1)), .int ((-1))])), (q62, .inr (3, [w065, w166, w267, .int 0, .int ((-1)), .int ((-1)), .int ((-1))])), (q106, .inr (6, [.null, .int 0]))] := hD
  refine W.widen (k := 50) (n := 1770) (Nat.le_of_ble_eq_true rfl) (Nat.le_of_ble_eq_true rfl) ?_
  refine lv_dup hx hb dX7_init_150 rfl ?_
  have hPc := hP.sub (ws' := [(q106, .inr (6, [.null, .int 0]))]) [16] rfl
  have hDc := hD.sub (ws' := [(q106, .inr (6, [.null, .int 0]))]) [16] (by decide) rfl
  have hKc := hK.sub (tys' := []) [] rfl
  have hFc := va_free (wc := [(q106, .inr (6, [.null, .int 0]))]) hD hS hA [16] rfl
  refine va_callv (va_runIN (As := []) (rest := [.ref q106, .int 6, .ref q11]) ⟨hx, hb, hml, hown, ht⟩ (k_X5_init l d0 cO dC dI H.size q106 .null 0) (my_NI ht M_X5_init q299 rfl q348 (Nat.le_of_ble_eq_true rfl) (Nat.le_of_ble_eq_true rfl)) ⟨PRE.fb, fun U hU hW => ⟨rfl, PRE.mk' hE hS hFc hPc hKc hDc U hU hW⟩⟩ rfl rfl hl.1 rfl (lv_room (Nat.le_of_ble_eq_true rfl)) dX7_init_151 ⟨(Nat.le_of_ble_eq_true rfl), (Nat.le_of_ble_eq_true rfl)⟩) hS (fun q _ h => hFc q h) hFc (fun u107 t H1 locs htt hvm hw hB hz1 hk1 hS => ?_)
  try dsimp only at hw hB
  obtain ⟨v109, hP1, hK1, hD1⟩ := hB
  rw [htt] at hP1
  have hK1 := va_K.moved hvm.symm hK1
  obtain ⟨hP, hD⟩ := va_join (wr := [(h0, .inr (8, [.ref a1, .ref a2, .ref a3, .ref q1, .ref q3, .ref q9, .ref q11, .ref q13, .ref q16, .int i9, .ref q18, .ref q22])), (q1, .inl (t2, 6, .inr (.inr (.inr (.inr ((va_up (va_up (va_up (va_up (va_up (va_up (fun _ => none) 0 (some q27)) 1 (some q34)) 2 (some q41)) 3 (some q48)) 4 (some q55)) 5 (some q62)))))))), (q3, .inr (3, [w06, w17, w28, .int 0, .int ((-1)), .int ((-1)), .int ((-1))])), (q9, .inl (t10, 6, .inl ((fun _ => 0)))), (q11, .inl (t12, 18, .inr (.inr (.inr (.inr f104))))), (q13, .inr (0, [.int 0, .ref d0, .int 0])), (q16, .inl (t17, 240, .inl ((fun _ => 0)))), (q18, .inr (6, [v21, .int 0])), (q22, .inr (2, [.ref q25])), (q25, .inr (0, [.int 0, .ref d0, .int 0])), (q27, .inr (3, [w030, w131, w232, .int 0, .int ((-1)), .int ((-1)), .int ((-1))])), (q34, .inr (3, [w037, w138, w239, .int 0, .int ((-1)), .int ((-1)), .int ((-1))])), (q41, .inr (3, [w044, w145, w246, .int 0, .int ((-1)), .int ((-1)), .int ((-1))])), (q48, .inr (3, [w051, w152, w253, .int 0, .int ((-1)), .int ((-1)), .int ((-1))])), (q55, .inr (3, [w058, w159, w260, .int 0, .int ((-1)), .int ((-1)), .int ((-1))])), (q62, .inr (3, [w065, w166, w267, .int 0, .int ((-1)), .int ((-1)), .int ((-1))]))]) (w1 := [(q106, .inr (6, [v109, .int 0]))]) hP hD [16] [0, 1, 2, 3, 4, 5, 6, 7, 8, 9, 10, 11, 12, 13, 14, 15] rfl rfl (by decide) (by decide) hk1 hFc hP1 hD1
  have hK := (hK.sub (tys' := [(t2, .object RX2), (t10, .int), (t12, .object RX5), (t17, .int)]) [0, 1, 2, 3] rfl).app hK1
  generalize H1 = H at hP hS ⊢
  have hP : va_P (dC, dI) vwCl [(h0, .inr (8, [.ref a1, .ref a2, .ref a3, .ref q1, .ref q3, .ref q9, .ref q11, .ref q13, .ref q16, .int i9, .ref q18, .ref q22])), (q1, .inl (t2, 6, .inr (.inr (.inr (.inr ((va_up (va_up (va_up (va_up (va_up (va_up (fun _ => none) 0 (some q27)) 1 (some q34)) 2 (some q41)) 3 (some q48)) 4 (some q55)) 5 (some q62)))))))), (q3, .inr (3, [w06, w17, w28, .int 0, .int ((-1)), .int ((-1)), .int ((-1))])), (q9, .inl (t10, 6, .inl ((fun _ => 0)))), (q11, .inl (t12, 18, .inr (.inr (.inr (.inr f104))))), (q13, .inr (0, [.int 0, .ref d0, .int 0])), (q16, .inl (t17, 240, .inl ((fun _ => 0)))), (q18, .inr (6, [v21, .int 0])), (q22, .inr (2, [.ref q25])), (q25, .inr (0, [.int 0, .ref d0, .int 0])), (q27, .inr (3, [w030, w131, w232, .int 0, .int ((-1)), .int ((-1)), .int ((-1))])), (q34, .inr (3, [w037, w138, w239, .int 0, .int ((-1)), .int ((-1)), .int ((-1))])), (q41, .inr (3, [w044, w145, w246, .int 0, .int ((-1)), .int ((-1)), .int ((-1))])), (q48, .inr (3, [w051, w152, w253, .int 0, .int ((-1)), .int ((-1)), .int ((-1))])), (q55, .inr (3, [w058, w159, w260, .int 0, .int ((-1)), .int ((-1)), .int ((-1))])), (q62, .inr (3, [w065, w166, w267, .int 0, .int ((-1)), .int ((-1)), .int ((-1))])), (q106, .inr (6, [v109, .int 0]))] H := hP
  have hD : va_D A [(h0, .inr (8, [.ref a1, .ref a2, .ref a3, .ref q1, .ref q3, .ref q9, .ref q11, .ref q13, .ref q16, .int i9, .ref q18, .ref q22])), (q1, .inl (t2, 6, .inr (.inr (.inr (.inr ((va_up (va_up (va_up (va_up (va_up (va_up (fun _ => none) 0 (some q27)) 1 (some q34)) 2 (some q41)) 3 (some q48)) 4 (some q55)) 5 (some q62)))))))), (q3, .inr (3, [w06, w17, w28, .int 0, .int ((-1)), .int ((-1)), .int ((-1))])), (q9, .inl (t10, 6, .inl ((fun _ => 0)))), (q11, .inl (t12, 18, .inr (.inr (.inr (.inr f104))))), (q13, .inr (0, [.int 0, .ref d0, .int 0])), (q16, .inl (t17, 240, .inl ((fun _ => 0)))), (q18, .inr (6, [v21, .int 0])), (q22, .inr (2, [.ref q25])), (q25, .inr (0, [.int 0, .ref d0, .int 0])), (q27, .inr (3, [w030, w131, w232, .int 0, .int ((-1)), .int ((-1)), .int ((-1))])), (q34, .inr (3, [w037, w138, w239, .int 0, .int ((-1)), .int ((-1)), .int ((-1))])), (q41, .inr (3, [w044, w145, w246, .int 0, .int ((-1)), .int ((-1)), .int ((-1))])), (q48, .inr (3, [w051, w152, w253, .int 0, .int ((-1)), .int ((-1)), .int ((-1))])), (q55, .inr (3, [w058, w159, w260, .int 0, .int ((-1)), .int ((-1)), .int ((-1))])), (q62, .inr (3, [w065, w166, w267, .int 0, .int ((-1)), .int ((-1)), .int ((-1))])), (q106, .inr (6, [v109, .int 0]))] := hD
  have hK : va_K (dC, dI) vwCl [(t2, .object RX2), (t10, .int), (t12, .object RX5), (t17, .int)] s := hK
  refine W.widen (k := 50) (n := 1770) (Nat.le_of_ble_eq_true rfl) (Nat.le_of_ble_eq_true rfl) ?_
  refine va_astq hx hb hK hP hD hS 4 2 16 6 rfl rfl rfl rfl (vp_in_nI (n := 6) (by decide) (by decide)) dX7_init_154 (fun H locs hP hD hS => ?_)
  have hP : va_P (dC, dI) vwCl [(h0, .inr (8, [.ref a1, .ref a2, .ref a3, .ref q1, .ref q3, .ref q9, .ref q11, .ref q13, .ref q16, .int i9, .ref q18, .ref q22])), (q1, .inl (t2, 6, .inr (.inr (.inr (.inr ((va_up (va_up (va_up (va_up (va_up (va_up (fun _ => none) 0 (some q27)) 1 (some q34)) 2 (some q41)) 3 (some q48)) 4 (some q55)) 5 (some q62)))))))), (q3, .inr (3, [w06, w17, w28, .int 0, .int ((-1)), .int ((-1)), .int ((-1))])), (q9, .inl (t10, 6, .inl ((fun _ => 0)))), (q11, .inl (t12, 18, .inr (.inr (.inr (.inr ((va_up f104 6 (some q106)))))))), (q13, .inr (0, [.int 0, .ref d0, .int 0])), (q16, .inl (t17, 240, .inl ((fun _ => 0)))), (q18, .inr (6, [v21, .int 0])), (q22, .inr (2, [.ref q25])), (q25, .inr (0, [.int 0, .ref d0, .int 0])), (q27, .inr (3, [w030, w131, w232, .int 0, .int ((-1)), .int ((-1)), .int ((-1))])), (q34, .inr (3, [w037, w138, w239, .int 0, .int ((-1)), .int ((-1)), .int ((-1))])), (q41, .inr (3, [w044, w145, w246, .int 0, .int ((-1)), .int ((-1)), .int ((-1))])), (q48, .inr (3, [w051, w152, w253, .int 0, .int ((-1)), .int ((-1)), .int ((-1))])), (q55, .inr (3, [w058, w159, w260, .int 0, .int ((-1)), .int ((-1)), .int ((-1))])), (q62, .inr (3, [w065, w166, w267, .int 0, .int ((-1)), .int ((-1)), .int ((-1))])), (q106, .inr (6, [v109, .int 0]))] H := hP
  have hD : va_D A [(h0, .inr (8, [.ref a1, .ref a2, .ref a3, .ref q1, .ref q3, .ref q9, .ref q11, .ref q13, .ref q16, .int i9, .ref q18, .ref q22])), (q1, .inl (t2, 6, .inr (.inr (.inr (.inr ((va_up (va_up (va_up (va_up (va_up (va_up (fun _ => none) 0 (some q27)) 1 (some q34)) 2 (some q41)) 3 (some q48)) 4 (some q55)) 5 (some q62)))))))), (q3, .inr (3, [w06, w17, w28, .int 0, .int ((-1)), .int ((-1)), .int ((-1))])), (q9, .inl (t10, 6, .inl ((fun _ => 0)))), (q11, .inl (t12, 18, .inr (.inr (.inr (.inr ((va_up f104 6 (some q106)))))))), (q13, .inr (0, [.int 0, .ref d0, .int 0])), (q16, .inl (t17, 240, .inl ((fun _ => 0)))), (q18, .inr (6, [v21, .int 0])), (q22, .inr (2, [.ref q25])), (q25, .inr (0, [.int 0, .ref d0, .int 0])), (q27, .inr (3, [w030, w131, w232, .int 0, .int ((-1)), .int ((-1)), .int ((-1))])), (q34, .inr (3, [w037, w138, w239, .int 0, .int ((-1)), .int ((-1)), .int ((-1))])), (q41, .inr (3, [w044, w145, w246, .int 0, .int ((-1)), .int ((-1)), .int ((-1))])), (q48, .inr (3, [w051, w152, w253, .int 0, .int ((-1)), .int ((-1)), .int ((-1))])), (q55, .inr (3, [w058, w159, w260, .int 0, .int ((-1)), .int ((-1)), .int ((-1))])), (q62, .inr (3, [w065, w166, w267, .int 0, .int ((-1)), .int ((-1)), .int ((-1))])), (q106, .inr (6, [v109, .int 0]))] := hD
  generalize (va_up f104 6 (some q106)) = f110 at hP hD
  have hP := hP.sub (ws' := [(h0, .inr (8, [.ref a1, .ref a2, .ref a3, .ref q1, .ref q3, .ref q9, .ref q11, .ref q13, .ref q16, .int i9, .ref q18, .ref q22])), (q1, .inl (t2, 6, .inr (.inr (.inr (.inr ((va_up (va_up (va_up (va_up (va_up (va_up (fun _ => none) 0 (some q27)) 1 (some q34)) 2 (some q41)) 3 (some q48)) 4 (some q55)) 5 (some q62)))))))), (q3, .inr (3, [w06, w17, w28, .int 0, .int ((-1)), .int ((-1)), .int ((-1))])), (q9, .inl (t10, 6, .inl ((fun _ => 0)))), (q11, .inl (t12, 18, .inr (.inr (.inr (.inr f110))))), (q13, .inr (0, [.int 0, .ref d0, .int 0])), (q16, .inl (t17, 240, .inl ((fun _ => 0)))), (q18, .inr (6, [v21, .int 0])), (q22, .inr (2, [.ref q25])), (q25, .inr (0, [.int 0, .ref d0, .int 0])), (q27, .inr (3, [w030, w131, w232, .int 0, .int ((-1)), .int ((-1)), .int ((-1))])), (q34, .inr (3, [w037, w138, w239, .int 0, .int ((-1)), .int ((-1)), .int ((-1))])), (q41, .inr (3, [w044, w145, w246, .int 0, .int ((-1)), .int ((-1)), .int ((-1))])), (q48, .inr (3, [w051, w152, w253, .int 0, .int ((-1)), .int ((-1)), .int ((-1))])), (q55, .inr (3, [w058, w159, w260, .int 0, .int ((-1)), .int ((-1)), .int ((-1))])), (q62, .inr (3, [w065, w166, w267, .int 0, .int ((-1)), .int ((-1)), .int ((-1))]))]) [0, 1, 2, 3, 4, 5, 6, 7, 8, 9, 10, 11, 12, 13, 14, 15] rfl
  have hD := hD.sub (ws' := [(h0, .inr (8, [.ref a1, .ref a2, .ref a3, .ref q1, .ref q3, .ref q9, .ref q11, .ref q13, .ref q16, .int i9, .ref q18, .ref q22])), (q1, .inl (t2, 6, .inr (.inr (.inr (.inr ((va_up (va_up (va_up (va_up (va_up (va_up (fun _ => none) 0 (some q27)) 1 (some q34)) 2 (some q41)) 3 (some q48)) 4 (some q55)) 5 (some q62)))))))), (q3, .inr (3, [w06, w17, w28, .int 0, .int ((-1)), .int ((-1)), .int ((-1))])), (q9, .inl (t10, 6, .inl ((fun _ => 0)))), (q11, .inl (t12, 18, .inr (.inr (.inr (.inr f110))))), (q13, .inr (0, [.int 0, .ref d0, .int 0])), (q16, .inl (t17, 240, .inl ((fun _ => 0)))), (q18, .inr (6, [v21, .int 0])), (q22, .inr (2, [.ref q25])), (q25, .inr (0, [.int 0, .ref d0, .int 0])), (q27, .inr (3, [w030, w131, w232, .int 0, .int ((-1)), .int ((-1)), .int ((-1))])), (q34, .inr (3, [w037, w138, w239, .int 0, .int ((-1)), .int ((-1)), .int ((-1))])), (q41, .inr (3, [w044, w145, w246, .int 0, .int ((-1)), .int ((-1)), .int ((-1))])), (q48, .inr (3, [w051, w152, w253, .int 0, .int ((-1)), .int ((-1)), .int ((-1))])), (q55, .inr (3, [w058, w159, w260, .int 0, .int ((-1)), .int ((-1)), .int ((-1))])), (q62, .inr (3, [w065, w166, w267, .int 0, .int ((-1)), .int ((-1)), .int ((-1))]))]) [0, 1, 2, 3, 4, 5, 6, 7, 8, 9, 10, 11, 12, 13, 14, 15] (by decide) rfl
  refine lv_iinc (v := 7) (lv' := [(4, .int 7), (0, .ref h0), (1, .ref a1), (2, .ref a2), (3, .ref a3)]) hx hb dX7_init_155 hl (k := 0) rfl (by decide) (by decide) rfl (fun ls hl => ?_)
  refine lv_goto (tgt := 131) hx hb dX7_init_158 (by decide) ?_
  refine lv_iload hx hb dX7_init_131 (lv_at hl 0 rfl) ?_
  refine lv_aload_n hx hb dX7_init_133 rfl (lv_at hl 1 rfl) ?_
  refine va_get (D := (dC, dI)) (ci := 8) (v := .ref q11) (C := RX7) (T := TX7) (N := 12) hx hb ht inGX7 hown hK hP 0 rfl rfl 6 (by decide) (ht _ q360) (fun _ h9 => h9) rfl dX7_init_134 ?_
  refine va_alen (v := 18) hx hb hK hP 4 2 rfl rfl rfl dX7_init_137 ?_
  refine lv_icmp_ge (tgt := 161) hx hb dX7_init_138 (by decide) (fun c111 => absurd c111 (by decide)) (fun c111 => ?_)
  refine lv_aload_n hx hb dX7_init_141 rfl (lv_at hl 1 rfl) ?_
  refine va_get (D := (dC, dI)) (ci := 8) (v := .ref q11) (C := RX7) (T := TX7) (N := 12) hx hb ht inGX7 hown hK hP 0 rfl rfl 6 (by decide) (ht _ q360) (fun _ h9 => h9) rfl dX7_init_142 ?_
  refine lv_iload hx hb dX7_init_145 (lv_at hl 0 rfl) ?_
  refine va_new (ci := 6) (fs := [.null, .int 0]) (C := RX5) (T := TX5) (N := 2) hx hb ht inGX5 tyX5 tyX5_ok hown (ht _ q345) (ht _ q297) (ht _ q132) hK hP hD hS hA rfl (fun j hj => by rcases (show j = 0 ∨ j = 1 by omega) with rfl | rfl <;> rfl) (Nat.le_of_ble_eq_true rfl) (Nat.le_of_ble_eq_true rfl) dX7_init_147 (fun q112 H hP hD hS => ?_)
  have hP : va_P (dC, dI) vwCl [(h0, .inr (8, [.ref a1, .ref a2, .ref a3, .ref q1, .ref q3, .ref q9, .ref q11, .ref q13, .ref q16, .int i9, .ref q18, .ref q22])), (q1, .inl (t2, 6, .inr (.inr (.inr (.inr ((va_up (va_up (va_up (va_up (va_up (va_up (fun _ => none) 0 (some q27)) 1 (some q34)) 2 (some q41)) 3 (some q48)) 4 (some q55)) 5 (some q62)))))))), (q3, .inr (3, [w06, w17, w28, .int 0, .int ((-1)), .int ((-1)), .int ((-1))])), (q9, .inl (t10, 6, .inl ((fun _ => 0)))), (q11, .inl (t12, 18, .inr (.inr (.inr (.inr f110))))), (q13, .inr (0, [.int 0, .ref d0, .int 0])), (q16, .inl (t17, 240, .inl ((fun _ => 0)))), (q18, .inr (6, [v21, .int 0])), (q22, .inr (2, [.ref q25])), (q25, .inr (0, [.int 0, .ref d0, .int 0])), (q27, .inr (3, [w030, w131, w232, .int 0, .int ((-1)), .int ((-1)), .int ((-1))])), (q34, .inr (3, [w037, w138, w239, .int 0, .int ((-1)), .int ((-1)), .int ((-1))])), (q41, .inr (3, [w044, w145, w246, .int 0, .int ((-1)), .int ((-1)), .int ((-1))])), (q48, .inr (3, [w051, w152, w253, .int 0, .int ((-1)), .int ((-1)), .int ((-1))])), (q55, .inr (3, [w058, w159, w260, .int 0, .int ((-1)), .int ((-1)), .int ((-1))])), (q62, .inr (3, [w065, w166, w267, .int 0, .int ((-1)), .int ((-1)), .int ((-1))])), (q112, .inr (6, [.null, .int 0]))] H := hP
  have hD : va_D A [(h0, .inr (8, [.ref a1, .ref a2, .ref a3, .ref q1, .ref q3, .ref q9, .ref q11, .ref q13, .ref q16, .int i9, .ref q18, .ref q22])), (q1, .inl (t2, 6, .inr (.inr (.inr (.inr ((va_up (va_up (va_up (va_up (va_up (va_up (fun _ => none) 0 (some q27)) 1 (some q34)) 2 (some q41)) 3 (some q48)) 4 (some q55)) 5 (some q62)))))))), (q3, .inr (3, [w06, w17, w28, .int 0, .int ((-1)), .int ((-1)), .int ((-1))])), (q9, .inl (t10, 6, .inl ((fun _ => 0)))), (q11, .inl (t12, 18, .inr (.inr (.inr (.inr f110))))), (q13, .inr (0, [.int 0, .ref d0, .int 0])), (q16, .inl (t17, 240, .inl ((fun _ => 0)))), (q18, .inr (6, [v21, .int 0])), (q22, .inr (2, [.ref q25])), (q25, .inr (0, [.int 0, .ref d0, .int 0])), (q27, .inr (3, [w030, w131, w232, .int 0, .int ((-1)), .int ((-1)), .int ((-1))])), (q34, .inr (3, [w037, w138, w239, .int 0, .int ((-1)), .int ((-1)), .int ((-1))])), (q41, .inr (3, [w044, w145, w246, .int 0, .int ((-1)), .int ((-1)), .int ((-1))])), (q48, .inr (3, [w051, w152, w253, .int 0, .int ((-1)), .int ((-1)), .int ((-1))])), (q55, .inr (3, [w058, w159, w260, .int 0, .int ((-1)), .int ((-1)), .int ((-1))])), (q62, .inr (3, [w065, w166, w267, .int 0, .int ((-1)), .int ((-1)), .int ((-1))])), (q112, .inr (6, [.null, .int 0]))] := hD
  refine W.widen (k := 51) (n := 1772) (Nat.le_of_ble_eq_true rfl) (Nat.le_of_ble_eq_true rfl) ?_
  refine lv_dup hx hb dX7_init_150 rfl ?_
  have hPc := hP.sub (ws' := [(q112, .inr (6, [.null, .int 0]))]) [16] rfl
  have hDc := hD.sub (ws' := [(q112, .inr (6, [.null, .int 0]))]) [16] (by decide) rfl
  have hKc := hK.sub (tys' := []) [] rfl
  have hFc := va_free (wc := [(q112, .inr (6, [.null, .int 0]))]) hD hS hA [16] rfl
  refine va_callv (va_runIN (As := []) (rest := [.ref q112, .int 7, .ref q11]) ⟨hx, hb, hml, hown, ht⟩ (k_X5_init l d0 cO dC dI H.size q112 .null 0) (my_NI ht M_X5_init q299 rfl q348 (Nat.le_of_ble_eq_true rfl) (Nat.le_of_ble_eq_true rfl)) ⟨PRE.fb, fun U hU hW => ⟨rfl, PRE.mk' hE hS hFc hPc hKc hDc U hU hW⟩⟩ rfl rfl hl.1 rfl (lv_room (Nat.le_of_ble_eq_true rfl)) dX7_init_151 ⟨(Nat.le_of_ble_eq_true rfl), (Nat.le_of_ble_eq_true rfl)⟩) hS (fun q _ h => hFc q h) hFc (fun u113 t H1 locs htt hvm hw hB hz1 hk1 hS => ?_)
  try dsimp only at hw hB
  obtain ⟨v115, hP1, hK1, hD1⟩ := hB
  rw [htt] at hP1
  have hK1 := va_K.moved hvm.symm hK1
  obtain ⟨hP, hD⟩ := va_join (wr := [(h0, .inr (8, [.ref a1, .ref a2, .ref a3, .ref q1, .ref q3, .ref q9, .ref q11, .ref q13, .ref q16, .int i9, .ref q18, .ref q22])), (q1, .inl (t2, 6, .inr (.inr (.inr (.inr ((va_up (va_up (va_up (va_up (va_up (va_up (fun _ => none) 0 (some q27)) 1 (some q34)) 2 (some q41)) 3 (some q48)) 4 (some q55)) 5 (some q62)))))))), (q3, .inr (3, [w06, w17, w28, .int 0, .int ((-1)), .int ((-1)), .int ((-1))])), (q9, .inl (t10, 6, .inl ((fun _ => 0)))), (q11, .inl (t12, 18, .inr (.inr (.inr (.inr f110))))), (q13, .inr (0, [.int 0, .ref d0, .int 0])), (q16, .inl (t17, 240, .inl ((fun _ => 0)))), (q18, .inr (6, [v21, .int 0])), (q22, .inr (2, [.ref q25])), (q25, .inr (0, [.int 0, .ref d0, .int 0])), (q27, .inr (3, [w030, w131, w232, .int 0, .int ((-1)), .int ((-1)), .int ((-1))])), (q34, .inr (3, [w037, w138, w239, .int 0, .int ((-1)), .int ((-1)), .int ((-1))])), (q41, .inr (3, [w044, w145, w246, .int 0, .int ((-1)), .int ((-1)), .int ((-1))])), (q48, .inr (3, [w051, w152, w253, .int 0, .int ((-1)), .int ((-1)), .int ((-1))])), (q55, .inr (3, [w058, w159, w260, .int 0, .int ((-1)), .int ((-1)), .int ((-1))])), (q62, .inr (3, [w065, w166, w267, .int 0, .int ((-1)), .int ((-1)), .int ((-1))]))]) (w1 := [(q112, .inr (6, [v115, .int 0]))]) hP hD [16] [0, 1, 2, 3, 4, 5, 6, 7, 8, 9, 10, 11, 12, 13, 14, 15] rfl rfl (by decide) (by decide) hk1 hFc hP1 hD1
  have hK := (hK.sub (tys' := [(t2, .object RX2), (t10, .int), (t12, .object RX5), (t17, .int)]) [0, 1, 2, 3] rfl).app hK1
  generalize H1 = H at hP hS ⊢
  have hP : va_P (dC, dI) vwCl [(h0, .inr (8, [.ref a1, .ref a2, .ref a3, .ref q1, .ref q3, .ref q9, .ref q11, .ref q13, .ref q16, .int i9, .ref q18, .ref q22])), (q1, .inl (t2, 6, .inr (.inr (.inr (.inr ((va_up (va_up (va_up (va_up (va_up (va_up (fun _ => none) 0 (some q27)) 1 (some q34)) 2 (some q41)) 3 (some q48)) 4 (some q55)) 5 (some q62)))))))), (q3, .inr (3, [w06, w17, w28, .int 0, .int ((-1)), .int ((-1)), .int ((-1))])), (q9, .inl (t10, 6, .inl ((fun _ => 0)))), (q11, .inl (t12, 18, .inr (.inr (.inr (.inr f110))))), (q13, .inr (0, [.int 0, .ref d0, .int 0])), (q16, .inl (t17, 240, .inl ((fun _ => 0)))), (q18, .inr (6, [v21, .int 0])), (q22, .inr (2, [.ref q25])), (q25, .inr (0, [.int 0, .ref d0, .int 0])), (q27, .inr (3, [w030, w131, w232, .int 0, .int ((-1)), .int ((-1)), .int ((-1))])), (q34, .inr (3, [w037, w138, w239, .int 0, .int ((-1)), .int ((-1)), .int ((-1))])), (q41, .inr (3, [w044, w145, w246, .int 0, .int ((-1)), .int ((-1)), .int ((-1))])), (q48, .inr (3, [w051, w152, w253, .int 0, .int ((-1)), .int ((-1)), .int ((-1))])), (q55, .inr (3, [w058, w159, w260, .int 0, .int ((-1)), .int ((-1)), .int ((-1))])), (q62, .inr (3, [w065, w166, w267, .int 0, .int ((-1)), .int ((-1)), .int ((-1))])), (q112, .inr (6, [v115, .int 0]))] H := hP
  have hD : va_D A [(h0, .inr (8, [.ref a1, .ref a2, .ref a3, .ref q1, .ref q3, .ref q9, .ref q11, .ref q13, .ref q16, .int i9, .ref q18, .ref q22])), (q1, .inl (t2, 6, .inr (.inr (.inr (.inr ((va_up (va_up (va_up (va_up (va_up (va_up (fun _ => none) 0 (some q27)) 1 (some q34)) 2 (some q41)) 3 (some q48)) 4 (some q55)) 5 (some q62)))))))), (q3, .inr (3, [w06, w17, w28, .int 0, .int ((-1)), .int ((-1)), .int ((-1))])), (q9, .inl (t10, 6, .inl ((fun _ => 0)))), (q11, .inl (t12, 18, .inr (.inr (.inr (.inr f110))))), (q13, .inr (0, [.int 0, .ref d0, .int 0])), (q16, .inl (t17, 240, .inl ((fun _ => 0)))), (q18, .inr (6, [v21, .int 0])), (q22, .inr (2, [.ref q25])), (q25, .inr (0, [.int 0, .ref d0, .int 0])), (q27, .inr (3, [w030, w131, w232, .int 0, .int ((-1)), .int ((-1)), .int ((-1))])), (q34, .inr (3, [w037, w138, w239, .int 0, .int ((-1)), .int ((-1)), .int ((-1))])), (q41, .inr (3, [w044, w145, w246, .int 0, .int ((-1)), .int ((-1)), .int ((-1))])), (q48, .inr (3, [w051, w152, w253, .int 0, .int ((-1)), .int ((-1)), .int ((-1))])), (q55, .inr (3, [w058, w159, w260, .int 0, .int ((-1)), .int ((-1)), .int ((-1))])), (q62, .inr (3, [w065, w166, w267, .int 0, .int ((-1)), .int ((-1)), .int ((-1))])), (q112, .inr (6, [v115, .int 0]))] := hD
  have hK : va_K (dC, dI) vwCl [(t2, .object RX2), (t10, .int), (t12, .object RX5), (t17, .int)] s := hK
  refine W.widen (k := 51) (n := 1772) (Nat.le_of_ble_eq_true rfl) (Nat.le_of_ble_eq_true rfl) ?_
  refine va_astq hx hb hK hP hD hS 4 2 16 6 rfl rfl rfl rfl (vp_in_nI (n := 7) (by decide) (by decide)) dX7_init_154 (fun H locs hP hD hS => ?_)
  have hP : va_P (dC, dI) vwCl [(h0, .inr (8, [.ref a1, .ref a2, .ref a3, .ref q1, .ref q3, .ref q9, .ref q11, .ref q13, .ref q16, .int i9, .ref q18, .ref q22])), (q1, .inl (t2, 6, .inr (.inr (.inr (.inr ((va_up (va_up (va_up (va_up (va_up (va_up (fun _ => none) 0 (some q27)) 1 (some q34)) 2 (some q41)) 3 (some q48)) 4 (some q55)) 5 (some q62)))))))), (q3, .inr (3, [w06, w17, w28, .int 0, .int ((-1)), .int ((-1)), .int ((-1))])), (q9, .inl (t10, 6, .inl ((fun _ => 0)))), (q11, .inl (t12, 18, .inr (.inr (.inr (.inr ((va_up f110 7 (some q112)))))))), (q13, .inr (0, [.int 0, .ref d0, .int 0])), (q16, .inl (t17, 240, .inl ((fun _ => 0)))), (q18, .inr (6, [v21, .int 0])), (q22, .inr (2, [.ref q25])), (q25, .inr (0, [.int 0, .ref d0, .int 0])), (q27, .inr (3, [w030, w131, w232, .int 0, .int ((-1)), .int ((-1)), .int ((-1))])), (q34, .inr (3, [w037, w138, w239, .int 0, .int ((-1)), .int ((-1)), .int ((-1))])), (q41, .inr (3, [w044, w145, w246, .int 0, .int ((-1)), .int ((-1)), .int ((-1))])), (q48, .inr (3, [w051, w152, w253, .int 0, .int ((-1)), .int ((-1)), .int ((-1))])), (q55, .inr (3, [w058, w159, w260, .int 0, .int ((-1)), .int ((-1)), .int ((-1))])), (q62, .inr (3, [w065, w166, w267, .int 0, .int ((-1)), .int ((-1)), .int ((-1))])), (q112, .inr (6, [v115, .int 0]))] H := hP
  have hD : va_D A [(h0, .inr (8, [.ref a1, .ref a2, .ref a3, .ref q1, .ref q3, .ref q9, .ref q11, .ref q13, .ref q16, .int i9, .ref q18, .ref q22])), (q1, .inl (t2, 6, .inr (.inr (.inr (.inr ((va_up (va_up (va_up (va_up (va_up (va_up (fun _ => none) 0 (some q27)) 1 (some q34)) 2 (some q41)) 3 (some q48)) 4 (some q55)) 5 (some q62)))))))), (q3, .inr (3, [w06, w17, w28, .int 0, .int ((-1)), .int ((-1)), .int ((-1))])), (q9, .inl (t10, 6, .inl ((fun _ => 0)))), (q11, .inl (t12, 18, .inr (.inr (.inr (.inr ((va_up f110 7 (some q112)))))))), (q13, .inr (0, [.int 0, .ref d0, .int 0])), (q16, .inl (t17, 240, .inl ((fun _ => 0)))), (q18, .inr (6, [v21, .int 0])), (q22, .inr (2, [.ref q25])), (q25, .inr (0, [.int 0, .ref d0, .int 0])), (q27, .inr (3, [w030, w131, w232, .int 0, .int ((-1)), .int ((-1)), .int ((-1))])), (q34, .inr (3, [w037, w138, w239, .int 0, .int ((-1)), .int ((-1)), .int ((-1))])), (q41, .inr (3, [w044, w145, w246, .int 0, .int ((-1)), .int ((-1)), .int ((-1))])), (q48, .inr (3, [w051, w152, w253, .int 0, .int ((-1)), .int ((-1)), .int ((-1))])), (q55, .inr (3, [w058, w159, w260, .int 0, .int ((-1)), .int ((-1)), .int ((-1))])), (q62, .inr (3, [w065, w166, w267, .int 0, .int ((-1)), .int ((-1)), .int ((-1))])), (q112, .inr (6, [v115, .int 0]))] := hD
  generalize (va_up f110 7 (some q112)) = f116 at hP hD
  have hP := hP.sub (ws' := [(h0, .inr (8, [.ref a1, .ref a2, .ref a3, .ref q1, .ref q3, .ref q9, .ref q11, .ref q13, .ref q16, .int i9, .ref q18, .ref q22])), (q1, .inl (t2, 6, .inr (.inr (.inr (.inr ((va_up (va_up (va_up (va_up (va_up (va_up (fun _ => none) 0 (some q27)) 1 (some q34)) 2 (some q41)) 3 (some q48)) 4 (some q55)) 5 (some q62)))))))), (q3, .inr (3, [w06, w17, w28, .int 0, .int ((-1)), .int ((-1)), .int ((-1))])), (q9, .inl (t10, 6, .inl ((fun _ => 0)))), (q11, .inl (t12, 18, .inr (.inr (.inr (.inr f116))))), (q13, .inr (0, [.int 0, .ref d0, .int 0])), (q16, .inl (t17, 240, .inl ((fun _ => 0)))), (q18, .inr (6, [v21, .int 0])), (q22, .inr (2, [.ref q25])), (q25, .inr (0, [.int 0, .ref d0, .int 0])), (q27, .inr (3, [w030, w131, w232, .int 0, .int ((-1)), .int ((-1)), .int ((-1))])), (q34, .inr (3, [w037, w138, w239, .int 0, .int ((-1)), .int ((-1)), .int ((-1))])), (q41, .inr (3, [w044, w145, w246, .int 0, .int ((-1)), .int ((-1)), .int ((-1))])), (q48, .inr (3, [w051, w152, w253, .int 0, .int ((-1)), .int ((-1)), .int ((-1))])), (q55, .inr (3, [w058, w159, w260, .int 0, .int ((-1)), .int ((-1)), .int ((-1))])), (q62, .inr (3, [w065, w166, w267, .int 0, .int ((-1)), .int ((-1)), .int ((-1))]))]) [0, 1, 2, 3, 4, 5, 6, 7, 8, 9, 10, 11, 12, 13, 14, 15] rfl
  have hD := hD.sub (ws' := [(h0, .inr (8, [.ref a1, .ref a2, .ref a3, .ref q1, .ref q3, .ref q9, .ref q11, .ref q13, .ref q16, .int i9, .ref q18, .ref q22])), (q1, .inl (t2, 6, .inr (.inr (.inr (.inr ((va_up (va_up (va_up (va_up (va_up (va_up (fun _ => none) 0 (some q27)) 1 (some q34)) 2 (some q41)) 3 (some q48)) 4 (some q55)) 5 (some q62)))))))), (q3, .inr (3, [w06, w17, w28, .int 0, .int ((-1)), .int ((-1)), .int ((-1))])), (q9, .inl (t10, 6, .inl ((fun _ => 0)))), (q11, .inl (t12, 18, .inr (.inr (.inr (.inr f116))))), (q13, .inr (0, [.int 0, .ref d0, .int 0])), (q16, .inl (t17, 240, .inl ((fun _ => 0)))), (q18, .inr (6, [v21, .int 0])), (q22, .inr (2, [.ref q25])), (q25, .inr (0, [.int 0, .ref d0, .int 0])), (q27, .inr (3, [w030, w131, w232, .int 0, .int ((-1)), .int ((-1)), .int ((-1))])), (q34, .inr (3, [w037, w138, w239, .int 0, .int ((-1)), .int ((-1)), .int ((-1))])), (q41, .inr (3, [w044, w145, w246, .int 0, .int ((-1)), .int ((-1)), .int ((-1))])), (q48, .inr (3, [w051, w152, w253, .int 0, .int ((-1)), .int ((-1)), .int ((-1))])), (q55, .inr (3, [w058, w159, w260, .int 0, .int ((-1)), .int ((-1)), .int ((-1))])), (q62, .inr (3, [w065, w166, w267, .int 0, .int ((-1)), .int ((-1)), .int ((-1))]))]) [0, 1, 2, 3, 4, 5, 6, 7, 8, 9, 10, 11, 12, 13, 14, 15] (by decide) rfl
  refine lv_iinc (v := 8) (lv' := [(4, .int 8), (0, .ref h0), (1, .ref a1), (2, .ref a2), (3, .ref a3)]) hx hb dX7_init_155 hl (k := 0) rfl (by decide) (by decide) rfl (fun ls hl => ?_)
  refine lv_goto (tgt := 131) hx hb dX7_init_158 (by decide) ?_
  refine lv_iload hx hb dX7_init_131 (lv_at hl 0 rfl) ?_
  refine lv_aload_n hx hb dX7_init_133 rfl (lv_at hl 1 rfl) ?_
  refine va_get (D := (dC, dI)) (ci := 8) (v := .ref q11) (C := RX7) (T := TX7) (N := 12) hx hb ht inGX7 hown hK hP 0 rfl rfl 6 (by decide) (ht _ q360) (fun _ h9 => h9) rfl dX7_init_134 ?_
  refine va_alen (v := 18) hx hb hK hP 4 2 rfl rfl rfl dX7_init_137 ?_
  refine lv_icmp_ge (tgt := 161) hx hb dX7_init_138 (by decide) (fun c117 => absurd c117 (by decide)) (fun c117 => ?_)
  refine lv_aload_n hx hb dX7_init_141 rfl (lv_at hl 1 rfl) ?_
  refine va_get (D := (dC, dI)) (ci := 8) (v := .ref q11) (C := RX7) (T := TX7) (N := 12) hx hb ht inGX7 hown hK hP 0 rfl rfl 6 (by decide) (ht _ q360) (fun _ h9 => h9) rfl dX7_init_142 ?_
  refine lv_iload hx hb dX7_init_145 (lv_at hl 0 rfl) ?_
  refine va_new (ci := 6) (fs := [.null, .int 0]) (C := RX5) (T := TX5) (N := 2) hx hb ht inGX5 tyX5 tyX5_ok hown (ht _ q345) (ht _ q297) (ht _ q132) hK hP hD hS hA rfl (fun j hj => by rcases (show j = 0 ∨ j = 1 by omega) with rfl | rfl <;> rfl) (Nat.le_of_ble_eq_true rfl) (Nat.le_of_ble_eq_true rfl) dX7_init_147 (fun q118 H hP hD hS => ?_)
  have hP : va_P (dC, dI) vwCl [(h0, .inr (8, [.ref a1, .ref a2, .ref a3, .ref q1, .ref q3, .ref q9, .ref q11, .ref q13, .ref q16, .int i9, .ref q18, .ref q22])), (q1, .inl (t2, 6, .inr (.inr (.inr (.inr ((va_up (va_up (va_up (va_up (va_up (va_up (fun _ => none) 0 (some q27)) 1 (some q34)) 2 (some q41)) 3 (some q48)) 4 (some q55)) 5 (some q62)))))))), (q3, .inr (3, [w06, w17, w28, .int 0, .int ((-1)), .int ((-1)), .int ((-1))])), (q9, .inl (t10, 6, .inl ((fun _ => 0)))), (q11, .inl (t12, 18, .inr (.inr (.inr (.inr f116))))), (q13, .inr (0, [.int 0, .ref d0, .int 0])), (q16, .inl (t17, 240, .inl ((fun _ => 0)))), (q18, .inr (6, [v21, .int 0])), (q22, .inr (2, [.ref q25])), (q25, .inr (0, [.int 0, .ref d0, .int 0])), (q27, .inr (3, [w030, w131, w232, .int 0, .int ((-1)), .int ((-1)), .int ((-1))])), (q34, .inr (3, [w037, w138, w239, .int 0, .int ((-1)), .int ((-1)), .int ((-1))])), (q41, .inr (3, [w044, w145, w246, .int 0, .int ((-1)), .int ((-1)), .int ((-1))])), (q48, .inr (3, [w051, w152, w253, .int 0, .int ((-1)), .int ((-1)), .int ((-1))])), (q55, .inr (3, [w058, w159, w260, .int 0, .int ((-1)), .int ((-1)), .int ((-1))])), (q62, .inr (3, [w065, w166, w267, .int 0, .int ((-1)), .int ((-1)), .int ((-1))])), (q118, .inr (6, [.null, .int 0]))] H := hP
  have hD : va_D A [(h0, .inr (8, [.ref a1, .ref a2, .ref a3, .ref q1, .ref q3, .ref q9, .ref q11, .ref q13, .ref q16, .int i9, .ref q18, .ref q22])), (q1, .inl (t2, 6, .inr (.inr (.inr (.inr ((va_up (va_up (va_up (va_up (va_up (va_up (fun _ => none) 0 (some q27)) 1 (some q34)) 2 (some q41)) 3 (some q48)) 4 (some q55)) 5 (some q62)))))))), (q3, .inr (3, [w06, w17, w28, .int 0, .int ((-1)), .int ((-1)), .int ((-1))])), (q9, .inl (t10, 6, .inl ((fun _ => 0)))), (q11, .inl (t12, 18, .inr (.inr (.inr (.inr f116))))), (q13, .inr (0, [.int 0, .ref d0, .int 0])), (q16, .inl (t17, 240, .inl ((fun _ => 0)))), (q18, .inr (6, [v21, .int 0])), (q22, .inr (2, [.ref q25])), (q25, .inr (0, [.int 0, .ref d0, .int 0])), (q27, .inr (3, [w030, w131, w232, .int 0, .int ((-1)), .int ((-1)), .int ((-1))])), (q34, .inr (3, [w037, w138, w239, .int 0, .int ((-1)), .int ((-1)), .int ((-1))])), (q41, .inr (3, [w044, w145, w246, .int 0, .int ((-1)), .int ((-1)), .int ((-1))])), (q48, .inr (3, [w051, w152, w253, .int 0, .int ((-1)), .int ((-1)), .int ((-1))])), (q55, .inr (3, [w058, w159, w260, .int 0, .int ((-1)), .int ((-1)), .int ((-1))])), (q62, .inr (3, [w065, w166, w267, .int 0, .int ((-1)), .int ((-1)), .int ((-1))])), (q118, .inr (6, [.null, .int 0]))] := hD
  refine W.widen (k := 52) (n := 1774) (Nat.le_of_ble_eq_true rfl) (Nat.le_of_ble_eq_true rfl) ?_
  refine lv_dup hx hb dX7_init_150 rfl ?_
  have hPc := hP.sub (ws' := [(q118, .inr (6, [.null, .int 0]))]) [16] rfl
  have hDc := hD.sub (ws' := [(q118, .inr (6, [.null, .int 0]))]) [16] (by decide) rfl
  have hKc := hK.sub (tys' := []) [] rfl
  have hFc := va_free (wc := [(q118, .inr (6, [.null, .int 0]))]) hD hS hA [16] rfl
  refine va_callv (va_runIN (As := []) (rest := [.ref q118, .int 8, .ref q11]) ⟨hx, hb, hml, hown, ht⟩ (k_X5_init l d0 cO dC dI H.size q118 .null 0) (my_NI ht M_X5_init q299 rfl q348 (Nat.le_of_ble_eq_true rfl) (Nat.le_of_ble_eq_true rfl)) ⟨PRE.fb, fun U hU hW => ⟨rfl, PRE.mk' hE hS hFc hPc hKc hDc U hU hW⟩⟩ rfl rfl hl.1 rfl (lv_room (Nat.le_of_ble_eq_true rfl)) dX7_init_151 ⟨(Nat.le_of_ble_eq_true rfl), (Nat.le_of_ble_eq_true rfl)⟩) hS (fun q _ h => hFc q h) hFc (fun u119 t H1 locs htt hvm hw hB hz1 hk1 hS => ?_)
  try dsimp only at hw hB
  obtain ⟨v121, hP1, hK1, hD1⟩ := hB
  rw [htt] at hP1
  have hK1 := va_K.moved hvm.symm hK1
  obtain ⟨hP, hD⟩ := va_join (wr := [(h0, .inr (8, [.ref a1, .ref a2, .ref a3, .ref q1, .ref q3, .ref q9, .ref q11, .ref q13, .ref q16, .int i9, .ref q18, .ref q22])), (q1, .inl (t2, 6, .inr (.inr (.inr (.inr ((va_up (va_up (va_up (va_up (va_up (va_up (fun _ => none) 0 (some q27)) 1 (some q34)) 2 (some q41)) 3 (some q48)) 4 (some q55)) 5 (some q62)))))))), (q3, .inr (3, [w06, w17, w28, .int 0, .int ((-1)), .int ((-1)), .int ((-1))])), (q9, .inl (t10, 6, .inl ((fun _ => 0)))), (q11, .inl (t12, 18, .inr (.inr (.inr (.inr f116))))), (q13, .inr (0, [.int 0, .ref d0, .int 0])), (q16, .inl (t17, 240, .inl ((fun _ => 0)))), (q18, .inr (6, [v21, .int 0])), (q22, .inr (2, [.ref q25])), (q25, .inr (0, [.int 0, .ref d0, .int 0])), (q27, .inr (3, [w030, w131, w232, .int 0, .int ((-1)), .int ((-1)), .int ((-1))])), (q34, .inr (3, [w037, w138, w239, .int 0, .int ((-1)), .int ((-1)), .int ((-1))])), (q41, .inr (3, [w044, w145, w246, .int 0, .int ((-1)), .int ((-1)), .int ((-1))])), (q48, .inr (3, [w051, w152, w253, .int 0, .int ((-1)), .int ((-1)), .int ((-1))])), (q55, .inr (3, [w058, w159, w260, .int 0, .int ((-1)), .int ((-1)), .int ((-1))])), (q62, .inr (3, [w065, w166, w267, .int 0, .int ((-1)), .int ((-1)), .int ((-1))]))]) (w1 := [(q118, .inr (6, [v121, .int 0]))]) hP hD [16] [0, 1, 2, 3, 4, 5, 6, 7, 8, 9, 10, 11, 12, 13, 14, 15] rfl rfl (by decide) (by decide) hk1 hFc hP1 hD1
  have hK := (hK.sub (tys' := [(t2, .object RX2), (t10, .int), (t12, .object RX5), (t17, .int)]) [0, 1, 2, 3] rfl).app hK1
  generalize H1 = H at hP hS ⊢
  have hP : va_P (dC, dI) vwCl [(h0, .inr (8, [.ref a1, .ref a2, .ref a3, .ref q1, .ref q3, .ref q9, .ref q11, .ref q13, .ref q16, .int i9, .ref q18, .ref q22])), (q1, .inl (t2, 6, .inr (.inr (.inr (.inr ((va_up (va_up (va_up (va_up (va_up (va_up (fun _ => none) 0 (some q27)) 1 (some q34)) 2 (some q41)) 3 (some q48)) 4 (some q55)) 5 (some q62)))))))), (q3, .inr (3, [w06, w17, w28, .int 0, .int ((-1)), .int ((-1)), .int ((-1))])), (q9, .inl (t10, 6, .inl ((fun _ => 0)))), (q11, .inl (t12, 18, .inr (.inr (.inr (.inr f116))))), (q13, .inr (0, [.int 0, .ref d0, .int 0])), (q16, .inl (t17, 240, .inl ((fun _ => 0)))), (q18, .inr (6, [v21, .int 0])), (q22, .inr (2, [.ref q25])), (q25, .inr (0, [.int 0, .ref d0, .int 0])), (q27, .inr (3, [w030, w131, w232, .int 0, .int ((-1)), .int ((-1)), .int ((-1))])), (q34, .inr (3, [w037, w138, w239, .int 0, .int ((-1)), .int ((-1)), .int ((-1))])), (q41, .inr (3, [w044, w145, w246, .int 0, .int ((-1)), .int ((-1)), .int ((-1))])), (q48, .inr (3, [w051, w152, w253, .int 0, .int ((-1)), .int ((-1)), .int ((-1))])), (q55, .inr (3, [w058, w159, w260, .int 0, .int ((-1)), .int ((-1)), .int ((-1))])), (q62, .inr (3, [w065, w166, w267, .int 0, .int ((-1)), .int ((-1)), .int ((-1))])), (q118, .inr (6, [v121, .int 0]))] H := hP
  have hD : va_D A [(h0, .inr (8, [.ref a1, .ref a2, .ref a3, .ref q1, .ref q3, .ref q9, .ref q11, .ref q13, .ref q16, .int i9, .ref q18, .ref q22])), (q1, .inl (t2, 6, .inr (.inr (.inr (.inr ((va_up (va_up (va_up (va_up (va_up (va_up (fun _ => none) 0 (some q27)) 1 (some q34)) 2 (some q41)) 3 (some q48)) 4 (some q55)) 5 (some q62)))))))), (q3, .inr (3, [w06, w17, w28, .int 0, .int ((-1)), .int ((-1)), .int ((-1))])), (q9, .inl (t10, 6, .inl ((fun _ => 0)))), (q11, .inl (t12, 18, .inr (.inr (.inr (.inr f116))))), (q13, .inr (0, [.int 0, .ref d0, .int 0])), (q16, .inl (t17, 240, .inl ((fun _ => 0)))), (q18, .inr (6, [v21, .int 0])), (q22, .inr (2, [.ref q25])), (q25, .inr (0, [.int 0, .ref d0, .int 0])), (q27, .inr (3, [w030, w131, w232, .int 0, .int ((-1)), .int ((-1)), .int ((-1))])), (q34, .inr (3, [w037, w138, w239, .int 0, .int ((-1)), .int ((-1)), .int ((-1))])), (q41, .inr (3, [w044, w145, w246, .int 0, .int ((-1)), .int ((-1)), .int ((-1))])), (q48, .inr (3, [w051, w152, w253, .int 0, .int ((-1)), .int ((-1)), .int ((-1))])), (q55, .inr (3, [w058, w159, w260, .int 0, .int ((-1)), .int ((-1)), .int ((-1))])), (q62, .inr (3, [w065, w166, w267, .int 0, .int ((-1)), .int ((-1)), .int ((-1))])), (q118, .inr (6, [v121, .int 0]))] := hD
  have hK : va_K (dC, dI) vwCl [(t2, .object RX2), (t10, .int), (t12, .object RX5), (t17, .int)] s := hK
  refine W.widen (k := 52) (n := 1774) (Nat.le_of_ble_eq_true rfl) (Nat.le_of_ble_eq_true rfl) ?_
  refine va_astq hx hb hK hP hD hS 4 2 16 6 rfl rfl rfl rfl (vp_in_nI (n := 8) (by decide) (by decide)) dX7_init_154 (fun H locs hP hD hS => ?_)
  have hP : va_P (dC, dI) vwCl [(h0, .inr (8, [.ref a1, .ref a2, .ref a3, .ref q1, .ref q3, .ref q9, .ref q11, .ref q13, .ref q16, .int i9, .ref q18, .ref q22])), (q1, .inl (t2, 6, .inr (.inr (.inr (.inr ((va_up (va_up (va_up (va_up (va_up (va_up (fun _ => none) 0 (some q27)) 1 (some q34)) 2 (some q41)) 3 (some q48)) 4 (some q55)) 5 (some q62)))))))), (q3, .inr (3, [w06, w17, w28, .int 0, .int ((-1)), .int ((-1)), .int ((-1))])), (q9, .inl (t10, 6, .inl ((fun _ => 0)))), (q11, .inl (t12, 18, .inr (.inr (.inr (.inr ((va_up f116 8 (some q118)))))))), (q13, .inr (0, [.int 0, .ref d0, .int 0])), (q16, .inl (t17, 240, .inl ((fun _ => 0)))), (q18, .inr (6, [v21, .int 0])), (q22, .inr (2, [.ref q25])), (q25, .inr (0, [.int 0, .ref d0, .int 0])), (q27, .inr (3, [w030, w131, w232, .int 0, .int ((-1)), .int ((-1)), .int ((-1))])), (q34, .inr (3, [w037, w138, w239, .int 0, .int ((-1)), .int ((-1)), .int ((-1))])), (q41, .inr (3, [w044, w145, w246, .int 0, .int ((-1)), .int ((-1)), .int ((-1))])), (q48, .inr (3, [w051, w152, w253, .int 0, .int ((-1)), .int ((-1)), .int ((-1))])), (q55, .inr (3, [w058, w159, w260, .int 0, .int ((-1)), .int ((-1)), .int ((-1))])), (q62, .inr (3, [w065, w166, w267, .int 0, .int ((-1)), .int ((-1)), .int ((-1))])), (q118, .inr (6, [v121, .int 0]))] H := hP
  have hD : va_D A [(h0, .inr (8, [.ref a1, .ref a2, .ref a3, .ref q1, .ref q3, .ref q9, .ref q11, .ref q13, .ref q16, .int i9, .ref q18, .ref q22])), (q1, .inl (t2, 6, .inr (.inr (.inr (.inr ((va_up (va_up (va_up (va_up (va_up (va_up (fun _ => none) 0 (some q27)) 1 (some q34)) 2 (some q41)) 3 (some q48)) 4 (some q55)) 5 (some q62)))))))), (q3, .inr (3, [w06, w17, w28, .int 0, .int ((-1)), .int ((-1)), .int ((-1))])), (q9, .inl (t10, 6, .inl ((fun _ => 0)))), (q11, .inl (t12, 18, .inr (.inr (.inr (.inr ((va_up f116 8 (some q118)))))))), (q13, .inr (0, [.int 0, .ref d0, .int 0])), (q16, .inl (t17, 240, .inl ((fun _ => 0)))), (q18, .inr (6, [v21, .int 0])), (q22, .inr (2, [.ref q25])), (q25, .inr (0, [.int 0, .ref d0, .int 0])), (q27, .inr (3, [w030, w131, w232, .int 0, .int ((-1)), .int ((-1)), .int ((-1))])), (q34, .inr (3, [w037, w138, w239, .int 0, .int ((-1)), .int ((-1)), .int ((-1))])), (q41, .inr (3, [w044, w145, w246, .int 0, .int ((-1)), .int ((-1)), .int ((-1))])), (q48, .inr (3, [w051, w152, w253, .int 0, .int ((-1)), .int ((-1)), .int ((-1))])), (q55, .inr (3, [w058, w159, w260, .int 0, .int ((-1)), .int ((-1)), .int ((-1))])), (q62, .inr (3, [w065, w166, w267, .int 0, .int ((-1)), .int ((-1)), .int ((-1))])), (q118, .inr (6, [v121, .int 0]))] := hD
  generalize (va_up f116 8 (some q118)) = f122 at hP hD
  have hP := hP.sub (ws' := [(h0, .inr (8, [.ref a1, .ref a2, .ref a3, .ref q1, .ref q3, .ref q9, .ref q11, .ref q13, .ref q16, .int i9, .ref q18, .ref q22])), (q1, .inl (t2, 6, .inr (.inr (.inr (.inr ((va_up (va_up (va_up (va_up (va_up (va_up (fun _ => none) 0 (some q27)) 1 (some q34)) 2 (some q41)) 3 (some q48)) 4 (some q55)) 5 (some q62)))))))), (q3, .inr (3, [w06, w17, w28, .int 0, .int ((-1)), .int ((-1)), .int ((-1))])), (q9, .inl (t10, 6, .inl ((fun _ => 0)))), (q11, .inl (t12, 18, .inr (.inr (.inr (.inr f122))))), (q13, .inr (0, [.int 0, .ref d0, .int 0])), (q16, .inl (t17, 240, .inl ((fun _ => 0)))), (q18, .inr (6, [v21, .int 0])), (q22, .inr (2, [.ref q25])), (q25, .inr (0, [.int 0, .ref d0, .int 0])), (q27, .inr (3, [w030, w131, w232, .int 0, .int ((-1)), .int ((-1)), .int ((-1))])), (q34, .inr (3, [w037, w138, w239, .int 0, .int ((-1)), .int ((-1)), .int ((-1))])), (q41, .inr (3, [w044, w145, w246, .int 0, .int ((-1)), .int ((-1)), .int ((-1))])), (q48, .inr (3, [w051, w152, w253, .int 0, .int ((-1)), .int ((-1)), .int ((-1))])), (q55, .inr (3, [w058, w159, w260, .int 0, .int ((-1)), .int ((-1)), .int ((-1))])), (q62, .inr (3, [w065, w166, w267, .int 0, .int ((-1)), .int ((-1)), .int ((-1))]))]) [0, 1, 2, 3, 4, 5, 6, 7, 8, 9, 10, 11, 12, 13, 14, 15] rfl
  have hD := hD.sub (ws' := [(h0, .inr (8, [.ref a1, .ref a2, .ref a3, .ref q1, .ref q3, .ref q9, .ref q11, .ref q13, .ref q16, .int i9, .ref q18, .ref q22])), (q1, .inl (t2, 6, .inr (.inr (.inr (.inr ((va_up (va_up (va_up (va_up (va_up (va_up (fun _ => none) 0 (some q27)) 1 (some q34)) 2 (some q41)) 3 (some q48)) 4 (some q55)) 5 (some q62)))))))), (q3, .inr (3, [w06, w17, w28, .int 0, .int ((-1)), .int ((-1)), .int ((-1))])), (q9, .inl (t10, 6, .inl ((fun _ => 0)))), (q11, .inl (t12, 18, .inr (.inr (.inr (.inr f122))))), (q13, .inr (0, [.int 0, .ref d0, .int 0])), (q16, .inl (t17, 240, .inl ((fun _ => 0)))), (q18, .inr (6, [v21, .int 0])), (q22, .inr (2, [.ref q25])), (q25, .inr (0, [.int 0, .ref d0, .int 0])), (q27, .inr (3, [w030, w131, w232, .int 0, .int ((-1)), .int ((-1)), .int ((-1))])), (q34, .inr (3, [w037, w138, w239, .int 0, .int ((-1)), .int ((-1)), .int ((-1))])), (q41, .inr (3, [w044, w145, w246, .int 0, .int ((-1)), .int ((-1)), .int ((-1))])), (q48, .inr (3, [w051, w152, w253, .int 0, .int ((-1)), .int ((-1)), .int ((-1))])), (q55, .inr (3, [w058, w159, w260, .int 0, .int ((-1)), .int ((-1)), .int ((-1))])), (q62, .inr (3, [w065, w166, w267, .int 0, .int ((-1)), .int ((-1)), .int ((-1))]))]) [0, 1, 2, 3, 4, 5, 6, 7, 8, 9, 10, 11, 12, 13, 14, 15] (by decide) rfl
  refine lv_iinc (v := 9) (lv' := [(4, .int 9), (0, .ref h0), (1, .ref a1), (2, .ref a2), (3, .ref a3)]) hx hb dX7_init_155 hl (k := 0) rfl (by decide) (by decide) rfl (fun ls hl => ?_)
  refine lv_goto (tgt := 131) hx hb dX7_init_158 (by decide) ?_
  refine lv_iload hx hb dX7_init_131 (lv_at hl 0 rfl) ?_
  refine lv_aload_n hx hb dX7_init_133 rfl (lv_at hl 1 rfl) ?_
  refine va_get (D := (dC, dI)) (ci := 8) (v := .ref q11) (C := RX7) (T := TX7) (N := 12) hx hb ht inGX7 hown hK hP 0 rfl rfl 6 (by decide) (ht _ q360) (fun _ h9 => h9) rfl dX7_init_134 ?_
  refine va_alen (v := 18) hx hb hK hP 4 2 rfl rfl rfl dX7_init_137 ?_
  refine lv_icmp_ge (tgt := 161) hx hb dX7_init_138 (by decide) (fun c123 => absurd c123 (by decide)) (fun c123 => ?_)
  refine lv_aload_n hx hb dX7_init_141 rfl (lv_at hl 1 rfl) ?_
  refine va_get (D := (dC, dI)) (ci := 8) (v := .ref q11) (C := RX7) (T := TX7) (N := 12) hx hb ht inGX7 hown hK hP 0 rfl rfl 6 (by decide) (ht _ q360) (fun _ h9 => h9) rfl dX7_init_142 ?_
  refine lv_iload hx hb dX7_init_145 (lv_at hl 0 rfl) ?_
  refine va_new (ci := 6) (fs := [.null, .int 0]) (C := RX5) (T := TX5) (N := 2) hx hb ht inGX5 tyX5 tyX5_ok hown (ht _ q345) (ht _ q297) (ht _ q132) hK hP hD hS hA rfl (fun j hj => by rcases (show j = 0 ∨ j = 1 by omega) with rfl | rfl <;> rfl) (Nat.le_of_ble_eq_true rfl) (Nat.le_of_ble_eq_true rfl) dX7_init_147 (fun q124 H hP hD hS => ?_)
  have hP : va_P (dC, dI) vwCl [(h0, .inr (8, [.ref a1, .ref a2, .ref a3, .ref q1, .ref q3, .ref q9, .ref q11, .ref q13, .ref q16, .int i9, .ref q18, .ref q22])), (q1, .inl (t2, 6, .inr (.inr (.inr (.inr ((va_up (va_up (va_up (va_up (va_up (va_up (fun _ => none) 0 (some q27)) 1 (some q34)) 2 (some q41)) 3 (some q48)) 4 (some q55)) 5 (some q62)))))))), (q3, .inr (3, [w06, w17, w28, .int 0, .int ((-1)), .int ((-1)), .int ((-1))])), (q9, .inl (t10, 6, .inl ((fun _ => 0)))), (q11, .inl (t12, 18, .inr (.inr (.inr (.inr f122))))), (q13, .inr (0, [.int 0, .ref d0, .int 0])), (q16, .inl (t17, 240, .inl ((fun _ => 0)))), (q18, .inr (6, [v21, .int 0])), (q22, .inr (2, [.ref q25])), (q25, .inr (0, [.int 0, .ref d0, .int 0])), (q27, .inr (3, [w030, w131, w232, .int 0, .int ((-1)), .int ((-1)), .int ((-1))])), (q34, .inr (3, [w037, w138, w239, .int 0, .int ((-1)), .int ((-1)), .int ((-1))])), (q41, .inr (3, [w044, w145, w246, .int 0, .int ((-1)), .int ((-1)), .int ((-1))])), (q48, .inr (3, [w051, w152, w253, .int 0, .int ((-1)), .int ((-1)), .int ((-1))])), (q55, .inr (3, [w058, w159, w260, .int 0, .int ((-1)), .int ((-1)), .int ((-1))])), (q62, .inr (3, [w065, w166, w267, .int 0, .int ((-1)), .int ((-1)), .int ((-1))])), (q124, .inr (6, [.null, .int 0]))] H := hP
  have hD : va_D A [(h0, .inr (8, [.ref a1, .ref a2, .ref a3, .ref q1, .ref q3, .ref q9, .ref q11, .ref q13, .ref q16, .int i9, .ref q18, .ref q22])), (q1, .inl (t2, 6, .inr (.inr (.inr (.inr ((va_up (va_up (va_up (va_up (va_up (va_up (fun _ => none) 0 (some q27)) 1 (some q34)) 2 (some q41)) 3 (some q48)) 4 (some q55)) 5 (some q62)))))))), (q3, .inr (3, [w06, w17, w28, .int 0, .int ((-1)), .int ((-1)), .int ((-1))])), (q9, .inl (t10, 6, .inl ((fun _ => 0)))), (q11, .inl (t12, 18, .inr (.inr (.inr (.inr f122))))), (q13, .inr (0, [.int 0, .ref d0, .int 0])), (q16, .inl (t17, 240, .inl ((fun _ => 0)))), (q18, .inr (6, [v21, .int 0])), (q22, .inr (2, [.ref q25])), (q25, .inr (0, [.int 0, .ref d0, .int 0])), (q27, .inr (3, [w030, w131, w232, .int 0, .int ((-1)), .int ((-1)), .int ((-1))])), (q34, .inr (3, [w037, w138, w239, .int 0, .int ((-1)), .int ((-1)), .int ((-1))])), (q41, .inr (3, [w044, w145, w246, .int 0, .int ((-1)), .int ((-1)), .int ((-1))])), (q48, .inr (3, [w051, w152, w253, .int 0, .int ((-1)), .int ((-1)), .int ((-1))])), (q55, .inr (3, [w058, w159, w260, .int 0, .int ((-1)), .int ((-1)), .int ((-1))])), (q62, .inr (3, [w065, w166, w267, .int 0, .int ((-1)), .int ((-1)), .int ((-1))])), (q124, .inr (6, [.null, .int 0]))] := hD
  refine W.widen (k := 53) (n := 1776) (Nat.le_of_ble_eq_true rfl) (Nat.le_of_ble_eq_true rfl) ?_
  refine lv_dup hx hb dX7_init_150 rfl ?_
  have hPc := hP.sub (ws' := [(q124, .inr (6, [.null, .int 0]))]) [16] rfl
  have hDc := hD.sub (ws' := [(q124, .inr (6, [.null, .int 0]))]) [16] (by decide) rfl
  have hKc := hK.sub (tys' := []) [] rfl
  have hFc := va_free (wc := [(q124, .inr (6, [.null, .int 0]))]) hD hS hA [16] rfl
  refine va_callv (va_runIN (As := []) (rest := [.ref q124, .int 9, .ref q11]) ⟨hx, hb, hml, hown, ht⟩ (k_X5_init l d0 cO dC dI H.size q124 .null 0) (my_NI ht M_X5_init q299 rfl q348 (Nat.le_of_ble_eq_true rfl) (Nat.le_of_ble_eq_true rfl)) ⟨PRE.fb, fun U hU hW => ⟨rfl, PRE.mk' hE hS hFc hPc hKc hDc U hU hW⟩⟩ rfl rfl hl.1 rfl (lv_room (Nat.le_of_ble_eq_true rfl)) dX7_init_151 ⟨(Nat.le_of_ble_eq_true rfl), (Nat.le_of_ble_eq_true rfl)⟩) hS (fun q _ h => hFc q h) hFc (fun u125 t H1 locs htt hvm hw hB hz1 hk1 hS => ?_)
  try dsimp only at hw hB
  obtain ⟨v127, hP1, hK1, hD1⟩ := hB
  rw [htt] at hP1
  have hK1 := va_K.moved hvm.symm hK1
  obtain ⟨hP, hD⟩ := va_join (wr := [(h0, .inr (8, [.ref a1, .ref a2, .ref a3, .ref q1, .ref q3, .ref q9, .ref q11, .ref q13, .ref q16, .int i9, .ref q18, .ref q22])), (q1, .inl (t2, 6, .inr (.inr (.inr (.inr ((va_up (va_up (va_up (va_up (va_up (va_up (fun _ => none) 0 (some q27)) 1 (some q34)) 2 (some q41)) 3 (some q48)) 4 (some q55)) 5 (some q62)))))))), (q3, .inr (3, [w06, w17, w28, .int 0, .int ((-1)), .int ((-1)), .int ((-1))])), (q9, .inl (t10, 6, .inl ((fun _ => 0)))), (q11, .inl (t12, 18, .inr (.inr (.inr (.inr f122))))), (q13, .inr (0, [.int 0, .ref d0, .int 0])), (q16, .inl (t17, 240, .inl ((fun _ => 0)))), (q18, .inr (6, [v21, .int 0])), (q22, .inr (2, [.ref q25])), (q25, .inr (0, [.int 0, .ref d0, .int 0])), (q27, .inr (3, [w030, w131, w232, .int 0, .int ((-1)), .int ((-1)), .int ((-1))])), (q34, .inr (3, [w037, w138, w239, .int 0, .int ((-1)), .int ((-1)), .int ((-1))])), (q41, .inr (3, [w044, w145, w246, .int 0, .int ((-1)), .int ((-1)), .int ((-1))])), (q48, .inr (3, [w051, w152, w253, .int 0, .int ((-1)), .int ((-1)), .int ((-1))])), (q55, .inr (3, [w058, w159, w260, .int 0, .int ((-1)), .int ((-1)), .int ((-1))])), (q62, .inr (3, [w065, w166, w267, .int 0, .int ((-1)), .int ((-1)), .int ((-1))]))]) (w1 := [(q124, .inr (6, [v127, .int 0]))]) hP hD [16] [0, 1, 2, 3, 4, 5, 6, 7, 8, 9, 10, 11, 12, 13, 14, 15] rfl rfl (by decide) (by decide) hk1 hFc hP1 hD1
  have hK := (hK.sub (tys' := [(t2, .object RX2), (t10, .int), (t12, .object RX5), (t17, .int)]) [0, 1, 2, 3] rfl).app hK1
  generalize H1 = H at hP hS ⊢
  have hP : va_P (dC, dI) vwCl [(h0, .inr (8, [.ref a1, .ref a2, .ref a3, .ref q1, .ref q3, .ref q9, .ref q11, .ref q13, .ref q16, .int i9, .ref q18, .ref q22])), (q1, .inl (t2, 6, .inr (.inr (.inr (.inr ((va_up (va_up (va_up (va_up (va_up (va_up (fun _ => none) 0 (some q27)) 1 (some q34)) 2 (some q41)) 3 (some q48)) 4 (some q55)) 5 (some q62)))))))), (q3, .inr (3, [w06, w17, w28, .int 0, .int ((-1)), .int ((-1)), .int ((-1))])), (q9, .inl (t10, 6, .inl ((fun _ => 0)))), (q11, .inl (t12, 18, .inr (.inr (.inr (.inr f122))))), (q13, .inr (0, [.int 0, .ref d0, .int 0])), (q16, .inl (t17, 240, .inl ((fun _ => 0)))), (q18, .inr (6, [v21, .int 0])), (q22, .inr (2, [.ref q25])), (q25, .inr (0, [.int 0, .ref d0, .int 0])), (q27, .inr (3, [w030, w131, w232, .int 0, .int ((-1)), .int ((-1)), .int ((-1))])), (q34, .inr (3, [w037, w138, w239, .int 0, .int ((-1)), .int ((-1)), .int ((-1))])), (q41, .inr (3, [w044, w145, w246, .int 0, .int ((-1)), .int ((-1)), .int ((-1))])), (q48, .inr (3, [w051, w152, w253, .int 0, .int ((-1)), .int ((-1)), .int ((-1))])), (q55, .inr (3, [w058, w159, w260, .int 0, .int ((-1)), .int ((-1)), .int ((-1))])), (q62, .inr (3, [w065, w166, w267, .int 0, .int ((-1)), .int ((-1)), .int ((-1))])), (q124, .inr (6, [v127, .int 0]))] H := hP
  have hD : va_D A [(h0, .inr (8, [.ref a1, .ref a2, .ref a3, .ref q1, .ref q3, .ref q9, .ref q11, .ref q13, .ref q16, .int i9, .ref q18, .ref q22])), (q1, .inl (t2, 6, .inr (.inr (.inr (.inr ((va_up (va_up (va_up (va_up (va_up (va_up (fun _ => none) 0 (some q27)) 1 (some q34)) 2 (some q41)) 3 (some q48)) 4 (some q55)) 5 (some q62)))))))), (q3, .inr (3, [w06, w17, w28, .int 0, .int ((-1)), .int ((-1)), .int ((-1))])), (q9, .inl (t10, 6, .inl ((fun _ => 0)))), (q11, .inl (t12, 18, .inr (.inr (.inr (.inr f122))))), (q13, .inr (0, [.int 0, .ref d0, .int 0])), (q16, .inl (t17, 240, .inl ((fun _ => 0)))), (q18, .inr (6, [v21, .int 0])), (q22, .inr (2, [.ref q25])), (q25, .inr (0, [.int 0, .ref d0, .int 0])), (q27, .inr (3, [w030, w131, w232, .int 0, .int ((-1)), .int ((-1)), .int ((-1))])), (q34, .inr (3, [w037, w138, w239, .int 0, .int ((-1)), .int ((-1)), .int ((-1))])), (q41, .inr (3, [w044, w145, w246, .int 0, .int ((-1)), .int ((-1)), .int ((-1))])), (q48, .inr (3, [w051, w152, w253, .int 0, .int ((-1)), .int ((-1)), .int ((-1))])), (q55, .inr (3, [w058, w159, w260, .int 0, .int ((-1)), .int ((-1)), .int ((-1))])), (q62, .inr (3, [w065, w166, w267, .int 0, .int ((-1)), .int ((-1)), .int ((-1))])), (q124, .inr (6, [v127, .int 0]))] := hD
  have hK : va_K (dC, dI) vwCl [(t2, .object RX2), (t10, .int), (t12, .object RX5), (t17, .int)] s := hK
  refine W.widen (k := 53) (n := 1776) (Nat.le_of_ble_eq_true rfl) (Nat.le_of_ble_eq_true rfl) ?_
  refine va_astq hx hb hK hP hD hS 4 2 16 6 rfl rfl rfl rfl (vp_in_nI (n := 9) (by decide) (by decide)) dX7_init_154 (fun H locs hP hD hS => ?_)
  have hP : va_P (dC, dI) vwCl [(h0, .inr (8, [.ref a1, .ref a2, .ref a3, .ref q1, .ref q3, .ref q9, .ref q11, .ref q13, .ref q16, .int i9, .ref q18, .ref q22])), (q1, .inl (t2, 6, .inr (.inr (.inr (.inr ((va_up (va_up (va_up (va_up (va_up (va_up (fun _ => none) 0 (some q27)) 1 (some q34)) 2 (some q41)) 3 (some q48)) 4 (some q55)) 5 (some q62)))))))), (q3, .inr (3, [w06, w17, w28, .int 0, .int ((-1)), .int ((-1)), .int ((-1))])), (q9, .inl (t10, 6, .inl ((fun _ => 0)))), (q11, .inl (t12, 18, .inr (.inr (.inr (.inr ((va_up f122 9 (some q124)))))))), (q13, .inr (0, [.int 0, .ref d0, .int 0])), (q16, .inl (t17, 240, .inl ((fun _ => 0)))), (q18, .inr (6, [v21, .int 0])), (q22, .inr (2, [.ref q25])), (q25, .inr (0, [.int 0, .ref d0, .int 0])), (q27, .inr (3, [w030, w131, w232, .int 0, .int ((-1)), .int ((-1)), .int ((-1))])), (q34, .inr (3, [w037, w138, w239, .int 0, .int ((-1)), .int ((-1)), .int ((-1))])), (q41, .inr (3, [w044, w145, w246, .int 0, .int ((-1)), .int ((-1)), .int ((-1))])), (q48, .inr (3, [w051, w152, w253, .int 0, .int ((-1)), .int ((-1)), .int ((-1))])), (q55, .inr (3, [w058, w159, w260, .int 0, .int ((-1)), .int ((-1)), .int ((-1))])), (q62, .inr (3, [w065, w166, w267, .int 0, .int ((-1)), .int ((-1)), .int ((-1))])), (q124, .inr (6, [v127, .int 0]))] H := hP
  have hD : va_D A [(h0, .inr (8, [.ref a1, .ref a2, .ref a3, .ref q1, .ref q3, .ref q9, .ref q11, .ref q13, .ref q16, .int i9, .ref q18, .ref q22])), (q1, .inl (t2, 6, .inr (.inr (.inr (.inr ((va_up (va_up (va_up (va_up (va_up (va_up (fun _ => none) 0 (some q27)) 1 (some q34)) 2 (some q41)) 3 (some q48)) 4 (some q55)) 5 (some q62)))))))), (q3, .inr (3, [w06, w17, w28, .int 0, .int ((-1)), .int ((-1)), .int ((-1))])), (q9, .inl (t10, 6, .inl ((fun _ => 0)))), (q11, .inl (t12, 18, .inr (.inr (.inr (.inr ((va_up f122 9 (some q124)))))))), (q13, .inr (0, [.int 0, .ref d0, .int 0])), (q16, .inl (t17, 240, .inl ((fun _ => 0)))), (q18, .inr (6, [v21, .int 0])), (q22, .inr (2, [.ref q25])), (q25, .inr (0, [.int 0, .ref d0, .int 0])), (q27, .inr (3, [w030, w131, w232, .int 0, .int ((-1)), .int ((-1)), .int ((-1))])), (q34, .inr (3, [w037, w138, w239, .int 0, .int ((-1)), .int ((-1)), .int ((-1))])), (q41, .inr (3, [w044, w145, w246, .int 0, .int ((-1)), .int ((-1)), .int ((-1))])), (q48, .inr (3, [w051, w152, w253, .int 0, .int ((-1)), .int ((-1)), .int ((-1))])), (q55, .inr (3, [w058, w159, w260, .int 0, .int ((-1)), .int ((-1)), .int ((-1))])), (q62, .inr (3, [w065, w166, w267, .int 0, .int ((-1)), .int ((-1)), .int ((-1))])), (q124, .inr (6, [v127, .int 0]))] := hD
  generalize (va_up f122 9 (some q124)) = f128 at hP hD
  have hP := hP.sub (ws' := [(h0, .inr (8, [.ref a1, .ref a2, .ref a3, .ref q1, .ref q3, .ref q9, .ref q11, .ref q13, .ref q16, .int i9, .ref q18, .ref q22])), (q1, .inl (t2, 6, .inr (.inr (.inr (.inr ((va_up (va_up (va_up (va_up (va_up (va_up (fun _ => none) 0 (some q27)) 1 (some q34)) 2 (some q41)) 3 (some q48)) 4 (some q55)) 5 (some q62)))))))), (q3, .inr (3, [w06, w17, w28, .int 0, .int ((-1)), .int ((-1)), .int ((-1))])), (q9, .inl (t10, 6, .inl ((fun _ => 0)))), (q11, .inl (t12, 18, .inr (.inr (.inr (.inr f128))))), (q13, .inr (0, [.int 0, .ref d0, .int 0])), (q16, .inl (t17, 240, .inl ((fun _ => 0)))), (q18, .inr (6, [v21, .int 0])), (q22, .inr (2, [.ref q25])), (q25, .inr (0, [.int 0, .ref d0, .int 0])), (q27, .inr (3, [w030, w131, w232, .int 0, .int ((-1)), .int ((-1)), .int ((-1))])), (q34, .inr (3, [w037, w138, w239, .int 0, .int ((-1)), .int ((-1)), .int ((-1))])), (q41, .inr (3, [w044, w145, w246, .int 0, .int ((-1)), .int ((-1)), .int ((-1))])), (q48, .inr (3, [w051, w152, w253, .int 0, .int ((-1)), .int ((-1)), .int ((-1))])), (q55, .inr (3, [w058, w159, w260, .int 0, .int ((-1)), .int ((-1)), .int ((-1))])), (q62, .inr (3, [w065, w166, w267, .int 0, .int ((-1)), .int ((-1)), .int ((-1))]))]) [0, 1, 2, 3, 4, 5, 6, 7, 8, 9, 10, 11, 12, 13, 14, 15] rfl
  have hD := hD.sub (ws' := [(h0, .inr (8, [.ref a1, .ref a2, .ref a3, .ref q1, .ref q3, .ref q9, .ref q11, .ref q13, .ref q16, .int i9, .ref q18, .ref q22])), (q1, .inl (t2, 6, .inr (.inr (.inr (.inr ((va_up (va_up (va_up (va_up (va_up (va_up (fun _ => none) 0 (some q27)) 1 (some q34)) 2 (some q41)) 3 (some q48)) 4 (some q55)) 5 (some q62)))))))), (q3, .inr (3, [w06, w17, w28, .int 0, .int ((-1)), .int ((-1)), .int ((-1))])), (q9, .inl (t10, 6, .inl ((fun _ => 0)))), (q11, .inl (t12, 18, .inr (.inr (.inr (.inr f128))))), (q13, .inr (0, [.int 0, .ref d0, .int 0])), (q16, .inl (t17, 240, .inl ((fun _ => 0)))), (q18, .inr (6, [v21, .int 0])), (q22, .inr (2, [.ref q25])), (q25, .inr (0, [.int 0, .ref d0, .int 0])), (q27, .inr (3, [w030, w131, w232, .int 0, .int ((-1)), .int ((-1)), .int ((-1))])), (q34, .inr (3, [w037, w138, w239, .int 0, .int ((-1)), .int ((-1)), .int ((-1))])), (q41, .inr (3, [w044, w145, w246, .int 0, .int ((-1)), .int ((-1)), .int ((-1))])), (q48, .inr (3, [w051, w152, w253, .int 0, .int ((-1)), .int ((-1)), .int ((-1))])), (q55, .inr (3, [w058, w159, w260, .int 0, .int ((-1)), .int ((-1)), .int ((-1))])), (q62, .inr (3, [w065, w166, w267, .int 0, .int ((-1)), .int ((-1)), .int ((-1))]))]) [0, 1, 2, 3, 4, 5, 6, 7, 8, 9, 10, 11, 12, 13, 14, 15] (by decide) rfl
  refine lv_iinc (v := 10) (lv' := [(4, .int 10), (0, .ref h0), (1, .ref a1), (2, .ref a2), (3, .ref a3)]) hx hb dX7_init_155 hl (k := 0) rfl (by decide) (by decide) rfl (fun ls hl => ?_)
  refine lv_goto (tgt := 131) hx hb dX7_init_158 (by decide) ?_
  refine lv_iload hx hb dX7_init_131 (lv_at hl 0 rfl) ?_
  refine lv_aload_n hx hb dX7_init_133 rfl (lv_at hl 1 rfl) ?_
  refine va_get (D := (dC, dI)) (ci := 8) (v := .ref q11) (C := RX7) (T := TX7) (N := 12) hx hb ht inGX7 hown hK hP 0 rfl rfl 6 (by decide) (ht _ q360) (fun _ h9 => h9) rfl dX7_init_134 ?_
  refine va_alen (v := 18) hx hb hK hP 4 2 rfl rfl rfl dX7_init_137 ?_
  refine lv_icmp_ge (tgt := 161) hx hb dX7_init_138 (by decide) (fun c129 => absurd c129 (by decide)) (fun c129 => ?_)
  refine lv_aload_n hx hb dX7_init_141 rfl (lv_at hl 1 rfl) ?_
  refine va_get (D := (dC, dI)) (ci := 8) (v := .ref q11) (C := RX7) (T := TX7) (N := 12) hx hb ht inGX7 hown hK hP 0 rfl rfl 6 (by decide) (ht _ q360) (fun _ h9 => h9) rfl dX7_init_142 ?_
  refine lv_iload hx hb dX7_init_145 (lv_at hl 0 rfl) ?_
  refine va_new (ci := 6) (fs := [.null, .int 0]) (C := RX5) (T := TX5) (N := 2) hx hb ht inGX5 tyX5 tyX5_ok hown (ht _ q345) (ht _ q297) (ht _ q132) hK hP hD hS hA rfl (fun j hj => by rcases (show j = 0 ∨ j = 1 by omega) with rfl | rfl <;> rfl) (Nat.le_of_ble_eq_true rfl) (Nat.le_of_ble_eq_true rfl) dX7_init_147 (fun q130 H hP hD hS => ?_)
  have hP : va_P (dC, dI) vwCl [(h0, .inr (8, [.ref a1, .ref a2, .ref a3, .ref q1, .ref q3, .ref q9, .ref q11, .ref q13, .ref q16, .int i9, .ref q18, .ref q22])), (q1, .inl (t2, 6, .inr (.inr (.inr (.inr ((va_up (va_up (va_up (va_up (va_up (va_up (fun _ => none) 0 (some q27)) 1 (some q34)) 2 (some q41)) 3 (some q48)) 4 (some q55)) 5 (some q62)))))))), (q3, .inr (3, [w06, w17, w28, .int 0, .int ((-1)), .int ((-1)), .int ((-1))])), (q9, .inl (t10, 6, .inl ((fun _ => 0)))), (q11, .inl (t12, 18, .inr (.inr (.inr (.inr f128))))), (q13, .inr (0, [.int 0, .ref d0, .int 0])), (q16, .inl (t17, 240, .inl ((fun _ => 0)))), (q18, .inr (6, [v21, .int 0])), (q22, .inr (2, [.ref q25])), (q25, .inr (0, [.int 0, .ref d0, .int 0])), (q27, .inr (3, [w030, w131, w232, .int 0, .int ((-1)), .int ((-1)), .int ((-1))])), (q34, .inr (3, [w037, w138, w239, .int 0, .int ((-1)), .int ((-1)), .int ((-1))])), (q41, .inr (3, [w044, w145, w246, .int 0, .int ((-1)), .int ((-1)), .int ((-1))])), (q48, .inr (3, [w051, w152, w253, .int 0, .int ((-1)), .int ((-1)), .int ((-1))])), (q55, .inr (3, [w058, w159, w260, .int 0, .int ((-1)), .int ((-1)), .int ((-1))])), (q62, .inr (3, [w065, w166, w267, .int 0, .int ((-1)), .int ((-1)), .int ((-1))])), (q130, .inr (6, [.null, .int 0]))] H := hP
  have hD : va_D A [(h0, .inr (8, [.ref a1, .ref a2, .ref a3, .ref q1, .ref q3, .ref q9, .ref q11, .ref q13, .ref q16, .int i9, .ref q18, .ref q22])), (q1, .inl (t2, 6, .inr (.inr (.inr (.inr ((va_up (va_up (va_up (va_up (va_up (va_up (fun _ => none) 0 (some q27)) 1 (some q34)) 2 (some q41)) 3 (some q48)) 4 (some q55)) 5 (some q62)))))))), (q3, .inr (3, [w06, w17, w28, .int 0, .int ((-1)), .int ((-1)), .int ((-1))])), (q9, .inl (t10, 6, .inl ((fun _ => 0)))), (q11, .inl (t12, 18, .inr (.inr (.inr (.inr f128))))), (q13, .inr (0, [.int 0, .ref d0, .int 0])), (q16, .inl (t17, 240, .inl ((fun _ => 0)))), (q18, .inr (6, [v21, .int 0])), (q22, .inr (2, [.ref q25])), (q25, .inr (0, [.int 0, .ref d0, .int 0])), (q27, .inr (3, [w030, w131, w232, .int 0, .int ((-1)), .int ((-1)), .int ((-1))])), (q34, .inr (3, [w037, w138, w239, .int 0, .int ((-1)), .int ((-1)), .int ((-1))])), (q41, .inr (3, [w044, w145, w246, .int 0, .int ((-1)), .int ((-1)), .int ((-1))])), (q48, .inr (3, [w051, w152, w253, .int 0, .int ((-1)), .int ((-1)), .int ((-1))])), (q55, .inr (3, [w058, w159, w260, .int 0, .int ((-1)), .int ((-1)), .int ((-1))])), (q62, .inr (3, [w065, w166, w267, .int 0, .int ((-1)), .int ((-1)), .int ((-1))])), (q130, .inr (6, [.null, .int 0]))] := hD
  refine W.widen (k := 54) (n := 1778) (Nat.le_of_ble_eq_true rfl) (Nat.le_of_ble_eq_true rfl) ?_
  refine lv_dup hx hb dX7_init_150 rfl ?_
  have hPc := hP.sub (ws' := [(q130, .inr (6, [.null, .int 0]))]) [16] rfl
  have hDc := hD.sub (ws' := [(q130, .inr (6, [.null, .int 0]))]) [16] (by decide) rfl
  have hKc := hK.sub (tys' := []) [] rfl
  have hFc := va_free (wc := [(q130, .inr (6, [.null, .int 0]))]) hD hS hA [16] rfl
  refine va_callv (va_runIN (As := []) (rest := [.ref q130, .int 10, .ref q11]) ⟨hx, hb, hml, hown, ht⟩ (k_X5_init l d0 cO dC dI H.size q130 .null 0) (my_NI ht M_X5_init q299 rfl q348 (Nat.le_of_ble_eq_true rfl) (Nat.le_of_ble_eq_true rfl)) ⟨PRE.fb, fun U hU hW => ⟨rfl, PRE.mk' hE hS hFc hPc hKc hDc U hU hW⟩⟩ rfl rfl hl.1 rfl (lv_room (Nat.le_of_ble_eq_true rfl)) dX7_init_151 ⟨(Nat.le_of_ble_eq_true rfl), (Nat.le_of_ble_eq_true rfl)⟩) hS (fun q _ h => hFc q h) hFc (fun u131 t H1 locs htt hvm hw hB hz1 hk1 hS => ?_)
  try dsimp only at hw hB
  obtain ⟨v133, hP1, hK1, hD1⟩ := hB
  rw [htt] at hP1
  have hK1 := va_K.moved hvm.symm hK1
  obtain ⟨hP, hD⟩ := va_join (wr := [(h0, .inr (8, [.ref a1, .ref a2, .ref a3, .ref q1, .ref q3, .ref q9, .ref q11, .ref q13, .ref q16, .int i9, .ref q18, .ref q22])), (q1, .inl (t2, 6, .inr (.inr (.inr (.inr ((va_up (va_up (va_up (va_up (va_up (va_up (fun _ => none) 0 (some q27)) 1 (some q34)) 2 (some q41)) 3 (some q48)) 4 (some q55)) 5 (some q62)))))))), (q3, .inr (3, [w06, w17, w28, .int 0, .int ((-1)), .int ((-1)), .int ((-1))])), (q9, .inl (t10, 6, .inl ((fun _ => 0)))), (q11, .inl (t12, 18, .inr (.inr (.inr (.inr f128))))), (q13, .inr (0, [.int 0, .ref d0, .int 0])), (q16, .inl (t17, 240, .inl ((fun _ => 0)))), (q18, .inr (6, [v21, .int 0])), (q22, .inr (2, [.ref q25])), (q25, .inr (0, [.int 0, .ref d0, .int 0])), (q27, .inr (3, [w030, w131, w232, .int 0, .int ((-1)), .int ((-1)), .int ((-1))])), (q34, .inr (3, [w037, w138, w239, .int 0, .int ((-1)), .int ((-1)), .int ((-1))])), (q41, .inr (3, [w044, w145, w246, .int 0, .int ((-1)), .int ((-1)), .int ((-1))])), (q48, .inr (3, [w051, w152, w253, .int 0, .int ((-1)), .int ((-1)), .int ((-1))])), (q55, .inr (3, [w058, w159, w260, .int 0, .int ((-1)), .int ((-1)), .int ((-1))])), (q62, .inr (3, [w065, w166, w267, .int 0, .int ((-1)), .int ((-1)), .int ((-1))]))]) (w1 := [(q130, .inr (6, [v133, .int 0]))]) hP hD [16] [0, 1, 2, 3, 4, 5, 6, 7, 8, 9, 10, 11, 12, 13, 14, 15] rfl rfl (by decide) (by decide) hk1 hFc hP1 hD1
  have hK := (hK.sub (tys' := [(t2, .object RX2), (t10, .int), (t12, .object RX5), (t17, .int)]) [0, 1, 2, 3] rfl).app hK1
  generalize H1 = H at hP hS ⊢
  have hP : va_P (dC, dI) vwCl [(h0, .inr (8, [.ref a1, .ref a2, .ref a3, .ref q1, .ref q3, .ref q9, .ref q11, .ref q13, .ref q16, .int i9, .ref q18, .ref q22])), (q1, .inl (t2, 6, .inr (.inr (.inr (.inr ((va_up (va_up (va_up (va_up (va_up (va_up (fun _ => none) 0 (some q27)) 1 (some q34)) 2 (some q41)) 3 (some q48)) 4 (some q55)) 5 (some q62)))))))), (q3, .inr (3, [w06, w17, w28, .int 0, .int ((-1)), .int ((-1)), .int ((-1))])), (q9, .inl (t10, 6, .inl ((fun _ => 0)))), (q11, .inl (t12, 18, .inr (.inr (.inr (.inr f128))))), (q13, .inr (0, [.int 0, .ref d0, .int 0])), (q16, .inl (t17, 240, .inl ((fun _ => 0)))), (q18, .inr (6, [v21, .int 0])), (q22, .inr (2, [.ref q25])), (q25, .inr (0, [.int 0, .ref d0, .int 0])), (q27, .inr (3, [w030, w131, w232, .int 0, .int ((-1)), .int ((-1)), .int ((-1))])), (q34, .inr (3, [w037, w138, w239, .int 0, .int ((-1)), .int ((-1)), .int ((-1))])), (q41, .inr (3, [w044, w145, w246, .int 0, .int ((-1)), .int ((-1)), .int ((-1))])), (q48, .inr (3, [w051, w152, w253, .int 0, .int ((-1)), .int ((-1)), .int ((-1))])), (q55, .inr (3, [w058, w159, w260, .int 0, .int ((-1)), .int ((-1)), .int ((-1))])), (q62, .inr (3, [w065, w166, w267, .int 0, .int ((-1)), .int ((-1)), .int ((-1))])), (q130, .inr (6, [v133, .int 0]))] H := hP
  have hD : va_D A [(h0, .inr (8, [.ref a1, .ref a2, .ref a3, .ref q1, .ref q3, .ref q9, .ref q11, .ref q13, .ref q16, .int i9, .ref q18, .ref q22])), (q1, .inl (t2, 6, .inr (.inr (.inr (.inr ((va_up (va_up (va_up (va_up (va_up (va_up (fun _ => none) 0 (some q27)) 1 (some q34)) 2 (some q41)) 3 (some q48)) 4 (some q55)) 5 (some q62)))))))), (q3, .inr (3, [w06, w17, w28, .int 0, .int ((-1)), .int ((-1)), .int ((-1))])), (q9, .inl (t10, 6, .inl ((fun _ => 0)))), (q11, .inl (t12, 18, .inr (.inr (.inr (.inr f128))))), (q13, .inr (0, [.int 0, .ref d0, .int 0])), (q16, .inl (t17, 240, .inl ((fun _ => 0)))), (q18, .inr (6, [v21, .int 0])), (q22, .inr (2, [.ref q25])), (q25, .inr (0, [.int 0, .ref d0, .int 0])), (q27, .inr (3, [w030, w131, w232, .int 0, .int ((-1)), .int ((-1)), .int ((-1))])), (q34, .inr (3, [w037, w138, w239, .int 0, .int ((-1)), .int ((-1)), .int ((-1))])), (q41, .inr (3, [w044, w145, w246, .int 0, .int ((-1)), .int ((-1)), .int ((-1))])), (q48, .inr (3, [w051, w152, w253, .int 0, .int ((-1)), .int ((-1)), .int ((-1))])), (q55, .inr (3, [w058, w159, w260, .int 0, .int ((-1)), .int ((-1)), .int ((-1))])), (q62, .inr (3, [w065, w166, w267, .int 0, .int ((-1)), .int ((-1)), .int ((-1))])), (q130, .inr (6, [v133, .int 0]))] := hD
  have hK : va_K (dC, dI) vwCl [(t2, .object RX2), (t10, .int), (t12, .object RX5), (t17, .int)] s := hK
  refine W.widen (k := 54) (n := 1778) (Nat.le_of_ble_eq_true rfl) (Nat.le_of_ble_eq_true rfl) ?_
  refine va_astq hx hb hK hP hD hS 4 2 16 6 rfl rfl rfl rfl (vp_in_nI (n := 10) (by decide) (by decide)) dX7_init_154 (fun H locs hP hD hS => ?_)
  have hP : va_P (dC, dI) vwCl [(h0, .inr (8, [.ref a1, .ref a2, .ref a3, .ref q1, .ref q3, .ref q9, .ref q11, .ref q13, .ref q16, .int i9, .ref q18, .ref q22])), (q1, .inl (t2, 6, .inr (.inr (.inr (.inr ((va_up (va_up (va_up (va_up (va_up (va_up (fun _ => none) 0 (some q27)) 1 (some q34)) 2 (some q41)) 3 (some q48)) 4 (some q55)) 5 (some q62)))))))), (q3, .inr (3, [w06, w17, w28, .int 0, .int ((-1)), .int ((-1)), .int ((-1))])), (q9, .inl (t10, 6, .inl ((fun _ => 0)))), (q11, .inl (t12, 18, .inr (.inr (.inr (.inr ((va_up f128 10 (some q130)))))))), (q13, .inr (0, [.int 0, .ref d0, .int 0])), (q16, .inl (t17, 240, .inl ((fun _ => 0)))), (q18, .inr (6, [v21, .int 0])), (q22, .inr (2, [.ref q25])), (q25, .inr (0, [.int 0, .ref d0, .int 0])), (q27, .inr (3, [w030, w131, w232, .int 0, .int ((-1)), .int ((-1)), .int ((-1))])), (q34, .inr (3, [w037, w138, w239, .int 0, .int ((-1)), .int ((-1)), .int ((-1))])), (q41, .inr (3, [w044, w145, w246, .int 0, .int ((-1)), .int ((-1)), .int ((-1))])), (q48, .inr (3, [w051, w152, w253, .int 0, .int ((-1)), .int ((-1)), .int ((-1))])), (q55, .inr (3, [w058, w159, w260, .int 0, .int ((-1)), .int ((-1)), .int ((-1))])), (q62, .inr (3, [w065, w166, w267, .int 0, .int ((-1)), .int ((-1)), .int ((-1))])), (q130, .inr (6, [v133, .int 0]))] H := hP
  have hD : va_D A [(h0, .inr (8, [.ref a1, .ref a2, .ref a3, .ref q1, .ref q3, .ref q9, .ref q11, .ref q13, .ref q16, .int i9, .ref q18, .ref q22])), (q1, .inl (t2, 6, .inr (.inr (.inr (.inr ((va_up (va_up (va_up (va_up (va_up (va_up (fun _ => none) 0 (some q27)) 1 (some q34)) 2 (some q41)) 3 (some q48)) 4 (some q55)) 5 (some q62)))))))), (q3, .inr (3, [w06, w17, w28, .int 0, .int ((-1)), .int ((-1)), .int ((-1))])), (q9, .inl (t10, 6, .inl ((fun _ => 0)))), (q11, .inl (t12, 18, .inr (.inr (.inr (.inr ((va_up f128 10 (some q130)))))))), (q13, .inr (0, [.int 0, .ref d0, .int 0])), (q16, .inl (t17, 240, .inl ((fun _ => 0)))), (q18, .inr (6, [v21, .int 0])), (q22, .inr (2, [.ref q25])), (q25, .inr (0, [.int 0, .ref d0, .int 0])), (q27, .inr (3, [w030, w131, w232, .int 0, .int ((-1)), .int ((-1)), .int ((-1))])), (q34, .inr (3, [w037, w138, w239, .int 0, .int ((-1)), .int ((-1)), .int ((-1))])), (q41, .inr (3, [w044, w145, w246, .int 0, .int ((-1)), .int ((-1)), .int ((-1))])), (q48, .inr (3, [w051, w152, w253, .int 0, .int ((-1)), .int ((-1)), .int ((-1))])), (q55, .inr (3, [w058, w159, w260, .int 0, .int ((-1)), .int ((-1)), .int ((-1))])), (q62, .inr (3, [w065, w166, w267, .int 0, .int ((-1)), .int ((-1)), .int ((-1))])), (q130, .inr (6, [v133, .int 0]))] := hD
  generalize (va_up f128 10 (some q130)) = f134 at hP hD
  have hP := hP.sub (ws' := [(h0, .inr (8, [.ref a1, .ref a2, .ref a3, .ref q1, .ref q3, .ref q9, .ref q11, .ref q13, .ref q16, .int i9, .ref q18, .ref q22])), (q1, .inl (t2, 6, .inr (.inr (.inr (.inr ((va_up (va_up (va_up (va_up (va_up (va_up (fun _ => none) 0 (some q27)) 1 (some q34)) 2 (some q41)) 3 (some q48)) 4 (some q55)) 5 (some q62)))))))), (q3, .inr (3, [w06, w17, w28, .int 0, .int ((-1)), .int ((-1)), .int ((-1))])), (q9, .inl (t10, 6, .inl ((fun _ => 0)))), (q11, .inl (t12, 18, .inr (.inr (.inr (.inr f134))))), (q13, .inr (0, [.int 0, .ref d0, .int 0])), (q16, .inl (t17, 240, .inl ((fun _ => 0)))), (q18, .inr (6, [v21, .int 0])), (q22, .inr (2, [.ref q25])), (q25, .inr (0, [.int 0, .ref d0, .int 0])), (q27, .inr (3, [w030, w131, w232, .int 0, .int ((-1)), .int ((-1)), .int ((-1))])), (q34, .inr (3, [w037, w138, w239, .int 0, .int ((-1)), .int ((-1)), .int ((-1))])), (q41, .inr (3, [w044, w145, w246, .int 0, .int ((-1)), .int ((-1)), .int ((-1))])), (q48, .inr (3, [w051, w152, w253, .int 0, .int ((-1)), .int ((-1)), .int ((-1))])), (q55, .inr (3, [w058, w159, w260, .int 0, .int ((-1)), .int ((-1)), .int ((-1))])), (q62, .inr (3, [w065, w166, w267, .int 0, .int ((-1)), .int ((-1)), .int ((-1))]))]) [0, 1, 2, 3, 4, 5, 6, 7, 8, 9, 10, 11, 12, 13, 14, 15] rfl
  have hD := hD.sub (ws' := [(h0, .inr (8, [.ref a1, .ref a2, .ref a3, .ref q1, .ref q3, .ref q9, .ref q11, .ref q13, .ref q16, .int i9, .ref q18, .ref q22])), (q1, .inl (t2, 6, .inr (.inr (.inr (.inr ((va_up (va_up (va_up (va_up (va_up (va_up (fun _ => none) 0 (some q27)) 1 (some q34)) 2 (some q41)) 3 (some q48)) 4 (some q55)) 5 (some q62)))))))), (q3, .inr (3, [w06, w17, w28, .int 0, .int ((-1)), .int ((-1)), .int ((-1))])), (q9, .inl (t10, 6, .inl ((fun _ => 0)))), (q11, .inl (t12, 18, .inr (.inr (.inr (.inr f134))))), (q13, .inr (0, [.int 0, .ref d0, .int 0])), (q16, .inl (t17, 240, .inl ((fun _ => 0)))), (q18, .inr (6, [v21, .int 0])), (q22, .inr (2, [.ref q25])), (q25, .inr (0, [.int 0, .ref d0, .int 0])), (q27, .inr (3, [w030, w131, w232, .int 0, .int ((-1)), .int ((-1)), .int ((-1))])), (q34, .inr (3, [w037, w138, w239, .int 0, .int ((-1)), .int ((-1)), .int ((-1))])), (q41, .inr (3, [w044, w145, w246, .int 0, .int ((-1)), .int ((-1)), .int ((-1))])), (q48, .inr (3, [w051, w152, w253, .int 0, .int ((-1)), .int ((-1)), .int ((-1))])), (q55, .inr (3, [w058, w159, w260, .int 0, .int ((-1)), .int ((-1)), .int ((-1))])), (q62, .inr (3, [w065, w166, w267, .int 0, .int ((-1)), .int ((-1)), .int ((-1))]))]) [0, 1, 2, 3, 4, 5, 6, 7, 8, 9, 10, 11, 12, 13, 14, 15] (by decide) rfl
  refine lv_iinc (v := 11) (lv' := [(4, .int 11), (0, .ref h0), (1, .ref a1), (2, .ref a2), (3, .ref a3)]) hx hb dX7_init_155 hl (k := 0) rfl (by decide) (by decide) rfl (fun ls hl => ?_)
  refine lv_goto (tgt := 131) hx hb dX7_init_158 (by decide) ?_
  refine lv_iload hx hb dX7_init_131 (lv_at hl 0 rfl) ?_
  refine lv_aload_n hx hb dX7_init_133 rfl (lv_at hl 1 rfl) ?_
  refine va_get (D := (dC, dI)) (ci := 8) (v := .ref q11) (C := RX7) (T := TX7) (N := 12) hx hb ht inGX7 hown hK hP 0 rfl rfl 6 (by decide) (ht _ q360) (fun _ h9 => h9) rfl dX7_init_134 ?_
  refine va_alen (v := 18) hx hb hK hP 4 2 rfl rfl rfl dX7_init_137 ?_
  refine lv_icmp_ge (tgt := 161) hx hb dX7_init_138 (by decide) (fun c135 => absurd c135 (by decide)) (fun c135 => ?_)
  refine lv_aload_n hx hb dX7_init_141 rfl (lv_at hl 1 rfl) ?_
  refine va_get (D := (dC, dI)) (ci := 8) (v := .ref q11) (C := RX7) (T := TX7) (N := 12) hx hb ht inGX7 hown hK hP 0 rfl rfl 6 (by decide) (ht _ q360) (fun _ h9 => h9) rfl dX7_init_142 ?_
  refine lv_iload hx hb dX7_init_145 (lv_at hl 0 rfl) ?_
  refine va_new (ci := 6) (fs := [.null, .int 0]) (C := RX5) (T := TX5) (N := 2) hx hb ht inGX5 tyX5 tyX5_ok hown (ht _ q345) (ht _ q297) (ht _ q132) hK hP hD hS hA rfl (fun j hj => by rcases (show j = 0 ∨ j = 1 by omega) with rfl | rfl <;> rfl) (Nat.le_of_ble_eq_true rfl) (Nat.le_of_ble_eq_true rfl) dX7_init_147 (fun q136 H hP hD hS => ?_)
  have hP : va_P (dC, dI) vwCl [(h0, .inr (8, [.ref a1, .ref a2, .ref a3, .ref q1, .ref q3, .ref q9, .ref q11, .ref q13, .ref q16, .int i9, .ref q18, .ref q22])), (q1, .inl (t2, 6, .inr (.inr (.inr (.inr ((va_up (va_up (va_up (va_up (va_up (va_up (fun _ => none) 0 (some q27)) 1 (some q34)) 2 (some q41)) 3 (some q48)) 4 (some q55)) 5 (some q62)))))))), (q3, .inr (3, [w06, w17, w28, .int 0, .int ((-1)), .int ((-1)), .int ((-1))])), (q9, .inl (t10, 6, .inl ((fun _ => 0)))), (q11, .inl (t12, 18, .inr (.inr (.inr (.inr f134))))), (q13, .inr (0, [.int 0, .ref d0, .int 0])), (q16, .inl (t17, 240, .inl ((fun _ => 0)))), (q18, .inr (6, [v21, .int 0])), (q22, .inr (2, [.ref q25])), (q25, .inr (0, [.int 0, .ref d0, .int 0])), (q27, .inr (3, [w030, w131, w232, .int 0, .int ((-1)), .int ((-1)), .int ((-1))])), (q34, .inr (3, [w037, w138, w239, .int 0, .int ((-1)), .int ((-1)), .int ((-1))])), (q41, .inr (3, [w044, w145, w246, .int 0, .int ((-1)), .int ((-1)), .int ((-1))])), (q48, .inr (3, [w051, w152, w253, .int 0, .int ((-1)), .int ((-1)), .int ((-1))])), (q55, .inr (3, [w058, w159, w260, .int 0, .int ((-1)), .int ((-1)), .int ((-1))])), (q62, .inr (3, [w065, w166, w267, .int 0, .int ((-1)), .int ((-1)), .int ((-1))])), (q136, .inr (6, [.null, .int 0]))] H := hP
  have hD : va_D A [(h0, .inr (8, [.ref a1, .ref a2, .ref a3, .ref q1, .ref q3, .ref q9, .ref q11, .ref q13, .ref q16, .int i9, .ref q18, .ref q22])), (q1, .inl (t2, 6, .inr (.inr (.inr (.inr ((va_up (va_up (va_up (va_up (va_up (va_up (fun _ => none) 0 (some q27)) 1 (some q34)) 2 (some q41)) 3 (some q48)) 4 (some q55)) 5 (some q62)))))))), (q3, .inr (3, [w06, w17, w28, .int 0, .int ((-1)), .int ((-1)), .int ((-1))])), (q9, .inl (t10, 6, .inl ((fun _ => 0)))), (q11, .inl (t12, 18, .inr (.inr (.inr (.inr f134))))), (q13, .inr (0, [.int 0, .ref d0, .int 0])), (q16, .inl (t17, 240, .inl ((fun _ => 0)))), (q18, .inr (6, [v21, .int 0])), (q22, .inr (2, [.ref q25])), (q25, .inr (0, [.int 0, .ref d0, .int 0])), (q27, .inr (3, [w030, w131, w232, .int 0, .int ((-1)), .int ((-1)), .int ((-1))])), (q34, .inr (3, [w037, w138, w239, .int 0, .int ((-1)), .int ((-1)), .int ((-1))])), (q41, .inr (3, [w044, w145, w246, .int 0, .int ((-1)), .int ((-1)), .int ((-1))])), (q48, .inr (3, [w051, w152, w253, .int 0, .int ((-1)), .int ((-1)), .int ((-1))])), (q55, .inr (3, [w058, w159, w260, .int 0, .int ((-1)), .int ((-1)), .int ((-1))])), (q62, .inr (3, [w065, w166, w267, .int 0, .int ((-1)), .int ((-1)), .int ((-1))])), (q136, .inr (6, [.null, .int 0]))] := hD
  refine W.widen (k := 55) (n := 1780) (Nat.le_of_ble_eq_true rfl) (Nat.le_of_ble_eq_true rfl) ?_
  refine lv_dup hx hb dX7_init_150 rfl ?_
  have hPc := hP.sub (ws' := [(q136, .inr (6, [.null, .int 0]))]) [16] rfl
  have hDc := hD.sub (ws' := [(q136, .inr (6, [.null, .int 0]))]) [16] (by decide) rfl
  have hKc := hK.sub (tys' := []) [] rfl
  have hFc := va_free (wc := [(q136, .inr (6, [.null, .int 0]))]) hD hS hA [16] rfl
  refine va_callv (va_runIN (As := []) (rest := [.ref q136, .int 11, .ref q11]) ⟨hx, hb, hml, hown, ht⟩ (k_X5_init l d0 cO dC dI H.size q136 .null 0) (my_NI ht M_X5_init q299 rfl q348 (Nat.le_of_ble_eq_true rfl) (Nat.le_of_ble_eq_true rfl)) ⟨PRE.fb, fun U hU hW => ⟨rfl, PRE.mk' hE hS hFc hPc hKc hDc U hU hW⟩⟩ rfl rfl hl.1 rfl (lv_room (Nat.le_of_ble_eq_true rfl)) dX7_init_151 ⟨(Nat.le_of_ble_eq_true rfl), (Nat.le_of_ble_eq_true rfl)⟩) hS (fun q _ h => hFc q h) hFc (fun u137 t H1 locs htt hvm hw hB hz1 hk1 hS => ?_)
  try dsimp only at hw hB
  obtain ⟨v139, hP1, hK1, hD1⟩ := hB
  rw [htt] at hP1
  have hK1 := va_K.moved hvm.symm hK1
  obtain ⟨hP, hD⟩ := va_join (wr := [(h0, .inr (8, [.ref a1, .ref a2, .ref a3, .ref q1, .ref q3, .ref q9, .ref q11, .ref q13, .ref q16, .int i9, .ref q18, .ref q22])), (q1, .inl (t2, 6, .inr (.inr (.inr (.inr ((va_up (va_up (va_up (va_up (va_up (va_up (fun _ => none) 0 (some q27)) 1 (some q34)) 2 (some q41)) 3 (some q48)) 4 (some q55)) 5 (some q62)))))))), (q3, .inr (3, [w06, w17, w28, .int 0, .int ((-1)), .int ((-1)), .int ((-1))])), (q9, .inl (t10, 6, .inl ((fun _ => 0)))), (q11, .inl (t12, 18, .inr (.inr (.inr (.inr f134))))), (q13, .inr (0, [.int 0, .ref d0, .int 0])), (q16, .inl (t17, 240, .inl ((fun _ => 0)))), (q18, .inr (6, [v21, .int 0])), (q22, .inr (2, [.ref q25])), (q25, .inr (0, [.int 0, .ref d0, .int 0])), (q27, .inr (3, [w030, w131, w232, .int 0, .int ((-1)), .int ((-1)), .int ((-1))])), (q34, .inr (3, [w037, w138, w239, .int 0, .int ((-1)), .int ((-1)), .int ((-1))])), (q41, .inr (3, [w044, w145, w246, .int 0, .int ((-1)), .int ((-1)), .int ((-1))])), (q48, .inr (3, [w051, w152, w253, .int 0, .int ((-1)), .int ((-1)), .int ((-1))])), (q55, .inr (3, [w058, w159, w260, .int 0, .int ((-1)), .int ((-1)), .int ((-1))])), (q62, .inr (3, [w065, w166, w267, .int 0, .int ((-1)), .int ((-1)), .int ((-1))]))]) (w1 := [(q136, .inr (6, [v139, .int 0]))]) hP hD [16] [0, 1, 2, 3, 4, 5, 6, 7, 8, 9, 10, 11, 12, 13, 14, 15] rfl rfl (by decide) (by decide) hk1 hFc hP1 hD1
  have hK := (hK.sub (tys' := [(t2, .object RX2), (t10, .int), (t12, .object RX5), (t17, .int)]) [0, 1, 2, 3] rfl).app hK1
  generalize H1 = H at hP hS ⊢
  have hP : va_P (dC, dI) vwCl [(h0, .inr (8, [.ref a1, .ref a2, .ref a3, .ref q1, .ref q3, .ref q9, .ref q11, .ref q13, .ref q16, .int i9, .ref q18, .ref q22])), (q1, .inl (t2, 6, .inr (.inr (.inr (.inr ((va_up (va_up (va_up (va_up (va_up (va_up (fun _ => none) 0 (some q27)) 1 (some q34)) 2 (some q41)) 3 (some q48)) 4 (some q55)) 5 (some q62)))))))), (q3, .inr (3, [w06, w17, w28, .int 0, .int ((-1)), .int ((-1)), .int ((-1))])), (q9, .inl (t10, 6, .inl ((fun _ => 0)))), (q11, .inl (t12, 18, .inr (.inr (.inr (.inr f134))))), (q13, .inr (0, [.int 0, .ref d0, .int 0])), (q16, .inl (t17, 240, .inl ((fun _ => 0)))), (q18, .inr (6, [v21, .int 0])), (q22, .inr (2, [.ref q25])), (q25, .inr (0, [.int 0, .ref d0, .int 0])), (q27, .inr (3, [w030, w131, w232, .int 0, .int ((-1)), .int ((-1)), .int ((-1))])), (q34, .inr (3, [w037, w138, w239, .int 0, .int ((-1)), .int ((-1)), .int ((-1))])), (q41, .inr (3, [w044, w145, w246, .int 0, .int ((-1)), .int ((-1)), .int ((-1))])), (q48, .inr (3, [w051, w152, w253, .int 0, .int ((-1)), .int ((-1)), .int ((-1))])), (q55, .inr (3, [w058, w159, w260, .int 0, .int ((-1)), .int ((-1)), .int ((-1))])), (q62, .inr (3, [w065, w166, w267, .int 0, .int ((-1)), .int ((-1)), .int ((-1))])), (q136, .inr (6, [v139, .int 0]))] H := hP
  have hD : va_D A [(h0, .inr (8, [.ref a1, .ref a2, .ref a3, .ref q1, .ref q3, .ref q9, .ref q11, .ref q13, .ref q16, .int i9, .ref q18, .ref q22])), (q1, .inl (t2, 6, .inr (.inr (.inr (.inr ((va_up (va_up (va_up (va_up (va_up (va_up (fun _ => none) 0 (some q27)) 1 (some q34)) 2 (some q41)) 3 (some q48)) 4 (some q55)) 5 (some q62)))))))), (q3, .inr (3, [w06, w17, w28, .int 0, .int ((-1)), .int ((-1)), .int ((-1))])), (q9, .inl (t10, 6, .inl ((fun _ => 0)))), (q11, .inl (t12, 18, .inr (.inr (.inr (.inr f134))))), (q13, .inr (0, [.int 0, .ref d0, .int 0])), (q16, .inl (t17, 240, .inl ((fun _ => 0)))), (q18, .inr (6, [v21, .int 0])), (q22, .inr (2, [.ref q25])), (q25, .inr (0, [.int 0, .ref d0, .int 0])), (q27, .inr (3, [w030, w131, w232, .int 0, .int ((-1)), .int ((-1)), .int ((-1))])), (q34, .inr (3, [w037, w138, w239, .int 0, .int ((-1)), .int ((-1)), .int ((-1))])), (q41, .inr (3, [w044, w145, w246, .int 0, .int ((-1)), .int ((-1)), .int ((-1))])), (q48, .inr (3, [w051, w152, w253, .int 0, .int ((-1)), .int ((-1)), .int ((-1))])), (q55, .inr (3, [w058, w159, w260, .int 0, .int ((-1)), .int ((-1)), .int ((-1))])), (q62, .inr (3, [w065, w166, w267, .int 0, .int ((-1)), .int ((-1)), .int ((-1))])), (q136, .inr (6, [v139, .int 0]))] := hD
  have hK : va_K (dC, dI) vwCl [(t2, .object RX2), (t10, .int), (t12, .object RX5), (t17, .int)] s := hK
  refine W.widen (k := 55) (n := 1780) (Nat.le_of_ble_eq_true rfl) (Nat.le_of_ble_eq_true rfl) ?_
  refine va_astq hx hb hK hP hD hS 4 2 16 6 rfl rfl rfl rfl (vp_in_nI (n := 11) (by decide) (by decide)) dX7_init_154 (fun H locs hP hD hS => ?_)
  have hP : va_P (dC, dI) vwCl [(h0, .inr (8, [.ref a1, .ref a2, .ref a3, .ref q1, .ref q3, .ref q9, .ref q11, .ref q13, .ref q16, .int i9, .ref q18, .ref q22])), (q1, .inl (t2, 6, .inr (.inr (.inr (.inr ((va_up (va_up (va_up (va_up (va_up (va_up (fun _ => none) 0 (some q27)) 1 (some q34)) 2 (some q41)) 3 (some q48)) 4 (some q55)) 5 (some q62)))))))), (q3, .inr (3, [w06, w17, w28, .int 0, .int ((-1)), .int ((-1)), .int ((-1))])), (q9, .inl (t10, 6, .inl ((fun _ => 0)))), (q11, .inl (t12, 18, .inr (.inr (.inr (.inr ((va_up f134 11 (some q136)))))))), (q13, .inr (0, [.int 0, .ref d0, .int 0])), (q16, .inl (t17, 240, .inl ((fun _ => 0)))), (q18, .inr (6, [v21, .int 0])), (q22, .inr (2, [.ref q25])), (q25, .inr (0, [.int 0, .ref d0, .int 0])), (q27, .inr (3, [w030, w131, w232, .int 0, .int ((-1)), .int ((-1)), .int ((-1))])), (q34, .inr (3, [w037, w138, w239, .int 0, .int ((-1)), .int ((-1)), .int ((-1))])), (q41, .inr (3, [w044, w145, w246, .int 0, .int ((-1)), .int ((-1)), .int ((-1))])), (q48, .inr (3, [w051, w152, w253, .int 0, .int ((-1)), .int ((-1)), .int ((-1))])), (q55, .inr (3, [w058, w159, w260, .int 0, .int ((-1)), .int ((-1)), .int ((-1))])), (q62, .inr (3, [w065, w166, w267, .int 0, .int ((-1)), .int ((-1)), .int ((-1))])), (q136, .inr (6, [v139, .int 0]))] H := hP
  have hD : va_D A [(h0, .inr (8, [.ref a1, .ref a2, .ref a3, .ref q1, .ref q3, .ref q9, .ref q11, .ref q13, .ref q16, .int i9, .ref q18, .ref q22])), (q1, .inl (t2, 6, .inr (.inr (.inr (.inr ((va_up (va_up (va_up (va_up (va_up (va_up (fun _ => none) 0 (some q27)) 1 (some q34)) 2 (some q41)) 3 (some q48)) 4 (some q55)) 5 (some q62)))))))), (q3, .inr (3, [w06, w17, w28, .int 0, .int ((-1)), .int ((-1)), .int ((-1))])), (q9, .inl (t10, 6, .inl ((fun _ => 0)))), (q11, .inl (t12, 18, .inr (.inr (.inr (.inr ((va_up f134 11 (some q136)))))))), (q13, .inr (0, [.int 0, .ref d0, .int 0])), (q16, .inl (t17, 240, .inl ((fun _ => 0)))), (q18, .inr (6, [v21, .int 0])), (q22, .inr (2, [.ref q25])), (q25, .inr (0, [.int 0, .ref d0, .int 0])), (q27, .inr (3, [w030, w131, w232, .int 0, .int ((-1)), .int ((-1)), .int ((-1))])), (q34, .inr (3, [w037, w138, w239, .int 0, .int ((-1)), .int ((-1)), .int ((-1))])), (q41, .inr (3, [w044, w145, w246, .int 0, .int ((-1)), .int ((-1)), .int ((-1))])), (q48, .inr (3, [w051, w152, w253, .int 0, .int ((-1)), .int ((-1)), .int ((-1))])), (q55, .inr (3, [w058, w159, w260, .int 0, .int ((-1)), .int ((-1)), .int ((-1))])), (q62, .inr (3, [w065, w166, w267, .int 0, .int ((-1)), .int ((-1)), .int ((-1))])), (q136, .inr (6, [v139, .int 0]))] := hD
  generalize (va_up f134 11 (some q136)) = f140 at hP hD
  have hP := hP.sub (ws' := [(h0, .inr (8, [.ref a1, .ref a2, .ref a3, .ref q1, .ref q3, .ref q9, .ref q11, .ref q13, .ref q16, .int i9, .ref q18, .ref q22])), (q1, .inl (t2, 6, .inr (.inr (.inr (.inr ((va_up (va_up (va_up (va_up (va_up (va_up (fun _ => none) 0 (some q27)) 1 (some q34)) 2 (some q41)) 3 (some q48)) 4 (some q55)) 5 (some q62)))))))), (q3, .inr (3, [w06, w17, w28, .int 0, .int ((-1)), .int ((-1)), .int ((-1))])), (q9, .inl (t10, 6, .inl ((fun _ => 0)))), (q11, .inl (t12, 18, .inr (.inr (.inr (.inr f140))))), (q13, .inr (0, [.int 0, .ref d0, .int 0])), (q16, .inl (t17, 240, .inl ((fun _ => 0)))), (q18, .inr (6, [v21, .int 0])), (q22, .inr (2, [.ref q25])), (q25, .inr (0, [.int 0, .ref d0, .int 0])), (q27, .inr (3, [w030, w131, w232, .int 0, .int ((-1)), .int ((-1)), .int ((-1))])), (q34, .inr (3, [w037, w138, w239, .int 0, .int ((-1)), .int ((-1)), .int ((-1))])), (q41, .inr (3, [w044, w145, w246, .int 0, .int ((-1)), .int ((-1)), .int ((-1))])), (q48, .inr (3, [w051, w152, w253, .int 0, .int ((-1)), .int ((-1)), .int ((-1))])), (q55, .inr (3, [w058, w159, w260, .int 0, .int ((-1)), .int ((-1)), .int ((-1))])), (q62, .inr (3, [w065, w166, w267, .int 0, .int ((-1)), .int ((-1)), .int ((-1))]))]) [0, 1, 2, 3, 4, 5, 6, 7, 8, 9, 10, 11, 12, 13, 14, 15] rfl
  have hD := hD.sub (ws' := [(h0, .inr (8, [.ref a1, .ref a2, .ref a3, .ref q1, .ref q3, .ref q9, .ref q11, .ref q13, .ref q16, .int i9, .ref q18, .ref q22])), (q1, .inl (t2, 6, .inr (.inr (.inr (.inr ((va_up (va_up (va_up (va_up (va_up (va_up (fun _ => none) 0 (some q27)) 1 (some q34)) 2 (some q41)) 3 (some q48)) 4 (some q55)) 5 (some q62)))))))), (q3, .inr (3, [w06, w17, w28, .int 0, .int ((-1)), .int ((-1)), .int ((-1))])), (q9, .inl (t10, 6, .inl ((fun _ => 0)))), (q11, .inl (t12, 18, .inr (.inr (.inr (.inr f140))))), (q13, .inr (0, [.int 0, .ref d0, .int 0])), (q16, .inl (t17, 240, .inl ((fun _ => 0)))), (q18, .inr (6, [v21, .int 0])), (q22, .inr (2, [.ref q25])), (q25, .inr (0, [.int 0, .ref d0, .int 0])), (q27, .inr (3, [w030, w131, w232, .int 0, .int ((-1)), .int ((-1)), .int ((-1))])), (q34, .inr (3, [w037, w138, w239, .int 0, .int ((-1)), .int ((-1)), .int ((-1))])), (q41, .inr (3, [w044, w145, w246, .int 0, .int ((-1)), .int ((-1)), .int ((-1))])), (q48, .inr (3, [w051, w152, w253, .int 0, .int ((-1)), .int ((-1)), .int ((-1))])), (q55, .inr (3, [w058, w159, w260, .int 0, .int ((-1)), .int ((-1)), .int ((-1))])), (q62, .inr (3, [w065, w166, w267, .int 0, .int ((-1)), .int ((-1)), .int ((-1))]))]) [0, 1, 2, 3, 4, 5, 6, 7, 8, 9, 10, 11, 12, 13, 14, 15] (by decide) rfl
  refine lv_iinc (v := 12) (lv' := [(4, .int 12), (0, .ref h0), (1, .ref a1), (2, .ref a2), (3, .ref a3)]) hx hb dX7_init_155 hl (k := 0) rfl (by decide) (by decide) rfl (fun ls hl => ?_)
  refine lv_goto (tgt := 131) hx hb dX7_init_158 (by decide) ?_
  refine lv_iload hx hb dX7_init_131 (lv_at hl 0 rfl) ?_
  refine lv_aload_n hx hb dX7_init_133 rfl (lv_at hl 1 rfl) ?_
  refine va_get (D := (dC, dI)) (ci := 8) (v := .ref q11) (C := RX7) (T := TX7) (N := 12) hx hb ht inGX7 hown hK hP 0 rfl rfl 6 (by decide) (ht _ q360) (fun _ h9 => h9) rfl dX7_init_134 ?_
  refine va_alen (v := 18) hx hb hK hP 4 2 rfl rfl rfl dX7_init_137 ?_
  refine lv_icmp_ge (tgt := 161) hx hb dX7_init_138 (by decide) (fun c141 => absurd c141 (by decide)) (fun c141 => ?_)
  refine lv_aload_n hx hb dX7_init_141 rfl (lv_at hl 1 rfl) ?_
  refine va_get (D := (dC, dI)) (ci := 8) (v := .ref q11) (C := RX7) (T := TX7) (N := 12) hx hb ht inGX7 hown hK hP 0 rfl rfl 6 (by decide) (ht _ q360) (fun _ h9 => h9) rfl dX7_init_142 ?_
  refine lv_iload hx hb dX7_init_145 (lv_at hl 0 rfl) ?_
  refine va_new (ci := 6) (fs := [.null, .int 0]) (C := RX5) (T := TX5) (N := 2) hx hb ht inGX5 tyX5 tyX5_ok hown (ht _ q345) (ht _ q297) (ht _ q132) hK hP hD hS hA rfl (fun j hj => by rcases (show j = 0 ∨ j = 1 by omega) with rfl | rfl <;> rfl) (Nat.le_of_ble_eq_true rfl) (Nat.le_of_ble_eq_true rfl) dX7_init_147 (fun q142 H hP hD hS => ?_)
  have hP : va_P (dC, dI) vwCl [(h0, .inr (8, [.ref a1, .ref a2, .ref a3, .ref q1, .ref q3, .ref q9, .ref q11, .ref q13, .ref q16, .int i9, .ref q18, .ref q22])), (q1, .inl (t2, 6, .inr (.inr (.inr (.inr ((va_up (va_up (va_up (va_up (va_up (va_up (fun _ => none) 0 (some q27)) 1 (some q34)) 2 (some q41)) 3 (some q48)) 4 (some q55)) 5 (some q62)))))))), (q3, .inr (3, [w06, w17, w28, .int 0, .int ((-1)), .int ((-1)), .int ((-1))])), (q9, .inl (t10, 6, .inl ((fun _ => 0)))), (q11, .inl (t12, 18, .inr (.inr (.inr (.inr f140))))), (q13, .inr (0, [.int 0, .ref d0, .int 0])), (q16, .inl (t17, 240, .inl ((fun _ => 0)))), (q18, .inr (6, [v21, .int 0])), (q22, .inr (2, [.ref q25])), (q25, .inr (0, [.int 0, .ref d0, .int 0])), (q27, .inr (3, [w030, w131, w232, .int 0, .int ((-1)), .int ((-1)), .int ((-1))])), (q34, .inr (3, [w037, w138, w239, .int 0, .int ((-1)), .int ((-1)), .int ((-1))])), (q41, .inr (3, [w044, w145, w246, .int 0, .int ((-1)), .int ((-1)), .int ((-1))])), (q48, .inr (3, [w051, w152, w253, .int 0, .int ((-1)), .int ((-1)), .int ((-1))])), (q55, .inr (3, [w058, w159, w260, .int 0, .int ((-1)), .int ((-1)), .int ((-1))])), (q62, .inr (3, [w065, w166, w267, .int 0, .int ((-1)), .int ((-1)), .int ((-1))])), (q142, .inr (6, [.null, .int 0]))] H := hP
  have hD : va_D A [(h0, .inr (8, [.ref a1, .ref a2, .ref a3, .ref q1, .ref q3, .ref q9, .ref q11, .ref q13, .ref q16, .int i9, .ref q18, .ref q22])), (q1, .inl (t2, 6, .inr (.inr (.inr (.inr ((va_up (va_up (va_up (va_up (va_up (va_up (fun _ => none) 0 (some q27)) 1 (some q34)) 2 (some q41)) 3 (some q48)) 4 (some q55)) 5 (some q62)))))))), (q3, .inr (3, [w06, w17, w28, .int 0, .int ((-1)), .int ((-1)), .int ((-1))])), (q9, .inl (t10, 6, .inl ((fun _ => 0)))), (q11, .inl (t12, 18, .inr (.inr (.inr (.inr f140))))), (q13, .inr (0, [.int 0, .ref d0, .int 0])), (q16, .inl (t17, 240, .inl ((fun _ => 0)))), (q18, .inr (6, [v21, .int 0])), (q22, .inr (2, [.ref q25])), (q25, .inr (0, [.int 0, .ref d0, .int 0])), (q27, .inr (3, [w030, w131, w232, .int 0, .int ((-1)), .int ((-1)), .int ((-1))])), (q34, .inr (3, [w037, w138, w239, .int 0, .int ((-1)), .int ((-1)), .int ((-1))])), (q41, .inr (3, [w044, w145, w246, .int 0, .int ((-1)), .int ((-1)), .int ((-1))])), (q48, .inr (3, [w051, w152, w253, .int 0, .int ((-1)), .int ((-1)), .int ((-1))])), (q55, .inr (3, [w058, w159, w260, .int 0, .int ((-1)), .int ((-1)), .int ((-1))])), (q62, .inr (3, [w065, w166, w267, .int 0, .int ((-1)), .int ((-1)), .int ((-1))])), (q142, .inr (6, [.null, .int 0]))] := hD
  refine W.widen (k := 56) (n := 1782) (Nat.le_of_ble_eq_true rfl) (Nat.le_of_ble_eq_true rfl) ?_
  refine lv_dup hx hb dX7_init_150 rfl ?_
  have hPc := hP.sub (ws' := [(q142, .inr (6, [.null, .int 0]))]) [16] rfl
  have hDc := hD.sub (ws' := [(q142, .inr (6, [.null, .int 0]))]) [16] (by decide) rfl
  have hKc := hK.sub (tys' := []) [] rfl
  have hFc := va_free (wc := [(q142, .inr (6, [.null, .int 0]))]) hD hS hA [16] rfl
  refine va_callv (va_runIN (As := []) (rest := [.ref q142, .int 12, .ref q11]) ⟨hx, hb, hml, hown, ht⟩ (k_X5_init l d0 cO dC dI H.size q142 .null 0) (my_NI ht M_X5_init q299 rfl q348 (Nat.le_of_ble_eq_true rfl) (Nat.le_of_ble_eq_true rfl)) ⟨PRE.fb, fun U hU hW => ⟨rfl, PRE.mk' hE hS hFc hPc hKc hDc U hU hW⟩⟩ rfl rfl hl.1 rfl (lv_room (Nat.le_of_ble_eq_true rfl)) dX7_init_151 ⟨(Nat.le_of_ble_eq_true rfl), (Nat.le_of_ble_eq_true rfl)⟩) hS (fun q _ h => hFc q h) hFc (fun u143 t H1 locs htt hvm hw hB hz1 hk1 hS => ?_)
  try dsimp only at hw hB
  obtain ⟨v145, hP1, hK1, hD1⟩ := hB
  rw [htt] at hP1
  have hK1 := va_K.moved hvm.symm hK1
  obtain ⟨hP, hD⟩ := va_join (wr := [(h0, .inr (8, [.ref a1, .ref a2, .ref a3, .ref q1, .ref q3, .ref q9, .ref q11, .ref q13, .ref q16, .int i9, .ref q18, .ref q22])), (q1, .inl (t2, 6, .inr (.inr (.inr (.inr ((va_up (va_up (va_up (va_up (va_up (va_up (fun _ => none) 0 (some q27)) 1 (some q34)) 2 (some q41)) 3 (some q48)) 4 (some q55)) 5 (some q62)))))))), (q3, .inr (3, [w06, w17, w28, .int 0, .int ((-1)), .int ((-1)), .int ((-1))])), (q9, .inl (t10, 6, .inl ((fun _ => 0)))), (q11, .inl (t12, 18, .inr (.inr (.inr (.inr f140))))), (q13, .inr (0, [.int 0, .ref d0, .int 0])), (q16, .inl (t17, 240, .inl ((fun _ => 0)))), (q18, .inr (6, [v21, .int 0])), (q22, .inr (2, [.ref q25])), (q25, .inr (0, [.int 0, .ref d0, .int 0])), (q27, .inr (3, [w030, w131, w232, .int 0, .int ((-1)), .int ((-1)), .int ((-1))])), (q34, .inr (3, [w037, w138, w239, .int 0, .int ((-1)), .int ((-1)), .int ((-1))])), (q41, .inr (3, [w044, w145, w246, .int 0, .int ((-1)), .int ((-1)), .int ((-1))])), (q48, .inr (3, [w051, w152, w253, .int 0, .int ((-1)), .int ((-1)), .int ((-1))])), (q55, .inr (3, [w058, w159, w260, .int 0, .int ((-1)), .int ((-1)), .int ((-1))])), (q62, .inr (3, [w065, w166, w267, .int 0, .int ((-1)), .int ((-1)), .int ((-1))]))]) (w1 := [(q142, .inr (6, [v145, .int 0]))]) hP hD [16] [0, 1, 2, 3, 4, 5, 6, 7, 8, 9, 10, 11, 12, 13, 14, 15] rfl rfl (by decide) (by decide) hk1 hFc hP1 hD1
  have hK := (hK.sub (tys' := [(t2, .object RX2), (t10, .int), (t12, .object RX5), (t17, .int)]) [0, 1, 2, 3] rfl).app hK1
  generalize H1 = H at hP hS ⊢
  have hP : va_P (dC, dI) vwCl [(h0, .inr (8, [.ref a1, .ref a2, .ref a3, .ref q1, .ref q3, .ref q9, .ref q11, .ref q13, .ref q16, .int i9, .ref q18, .ref q22])), (q1, .inl (t2, 6, .inr (.inr (.inr (.inr ((va_up (va_up (va_up (va_up (va_up (va_up (fun _ => none) 0 (some q27)) 1 (some q34)) 2 (some q41)) 3 (some q48)) 4 (some q55)) 5 (some q62)))))))), (q3, .inr (3, [w06, w17, w28, .int 0, .int ((-1)), .int ((-1)), .int ((-1))])), (q9, .inl (t10, 6, .inl ((fun _ => 0)))), (q11, .inl (t12, 18, .inr (.inr (.inr (.inr f140))))), (q13, .inr (0, [.int 0, .ref d0, .int 0])), (q16, .inl (t17, 240, .inl ((fun _ => 0)))), (q18, .inr (6, [v21, .int 0])), (q22, .inr (2, [.ref q25])), (q25, .inr (0, [.int 0, .ref d0, .int 0])), (q27, .inr (3, [w030, w131, w232, .int 0, .int ((-1)), .int ((-1)), .int ((-1))])), (q34, .inr (3, [w037, w138, w239, .int 0, .int ((-1)), .int ((-1)), .int ((-1))])), (q41, .inr (3, [w044, w145, w246, .int 0, .int ((-1)), .int ((-1)), .int ((-1))])), (q48, .inr (3, [w051, w152, w253, .int 0, .int ((-1)), .int ((-1)), .int ((-1))])), (q55, .inr (3, [w058, w159, w260, .int 0, .int ((-1)), .int ((-1)), .int ((-1))])), (q62, .inr (3, [w065, w166, w267, .int 0, .int ((-1)), .int ((-1)), .int ((-1))])), (q142, .inr (6, [v145, .int 0]))] H := hP
  have hD : va_D A [(h0, .inr (8, [.ref a1, .ref a2, .ref a3, .ref q1, .ref q3, .ref q9, .ref q11, .ref q13, .ref q16, .int i9, .ref q18, .ref q22])), (q1, .inl (t2, 6, .inr (.inr (.inr (.inr ((va_up (va_up (va_up (va_up (va_up (va_up (fun _ => none) 0 (some q27)) 1 (some q34)) 2 (some q41)) 3 (some q48)) 4 (some q55)) 5 (some q62)))))))), (q3, .inr (3, [w06, w17, w28, .int 0, .int ((-1)), .int ((-1)), .int ((-1))])), (q9, .inl (t10, 6, .inl ((fun _ => 0)))), (q11, .inl (t12, 18, .inr (.inr (.inr (.inr f140))))), (q13, .inr (0, [.int 0, .ref d0, .int 0])), (q16, .inl (t17, 240, .inl ((fun _ => 0)))), (q18, .inr (6, [v21, .int 0])), (q22, .inr (2, [.ref q25])), (q25, .inr (0, [.int 0, .ref d0, .int 0])), (q27, .inr (3, [w030, w131, w232, .int 0, .int ((-1)), .int ((-1)), .int ((-1))])), (q34, .inr (3, [w037, w138, w239, .int 0, .int ((-1)), .int ((-1)), .int ((-1))])), (q41, .inr (3, [w044, w145, w246, .int 0, .int ((-1)), .int ((-1)), .int ((-1))])), (q48, .inr (3, [w051, w152, w253, .int 0, .int ((-1)), .int ((-1)), .int ((-1))])), (q55, .inr (3, [w058, w159, w260, .int 0, .int ((-1)), .int ((-1)), .int ((-1))])), (q62, .inr (3, [w065, w166, w267, .int 0, .int ((-1)), .int ((-1)), .int ((-1))])), (q142, .inr (6, [v145, .int 0]))] := hD
  have hK : va_K (dC, dI) vwCl [(t2, .object RX2), (t10, .int), (t12, .object RX5), (t17, .int)] s := hK
  refine W.widen (k := 56) (n := 1782) (Nat.le_of_ble_eq_true rfl) (Nat.le_of_ble_eq_true rfl) ?_
  refine va_astq hx hb hK hP hD hS 4 2 16 6 rfl rfl rfl rfl (vp_in_nI (n := 12) (by decide) (by decide)) dX7_init_154 (fun H locs hP hD hS => ?_)
  have hP : va_P (dC, dI) vwCl [(h0, .inr (8, [.ref a1, .ref a2, .ref a3, .ref q1, .ref q3, .ref q9, .ref q11, .ref q13, .ref q16, .int i9, .ref q18, .ref q22])), (q1, .inl (t2, 6, .inr (.inr (.inr (.inr ((va_up (va_up (va_up (va_up (va_up (va_up (fun _ => none) 0 (some q27)) 1 (some q34)) 2 (some q41)) 3 (some q48)) 4 (some q55)) 5 (some q62)))))))), (q3, .inr (3, [w06, w17, w28, .int 0, .int ((-1)), .int ((-1)), .int ((-1))])), (q9, .inl (t10, 6, .inl ((fun _ => 0)))), (q11, .inl (t12, 18, .inr (.inr (.inr (.inr ((va_up f140 12 (some q142)))))))), (q13, .inr (0, [.int 0, .ref d0, .int 0])), (q16, .inl (t17, 240, .inl ((fun _ => 0)))), (q18, .inr (6, [v21, .int 0])), (q22, .inr (2, [.ref q25])), (q25, .inr (0, [.int 0, .ref d0, .int 0])), (q27, .inr (3, [w030, w131, w232, .int 0, .int ((-1)), .int ((-1)), .int ((-1))])), (q34, .inr (3, [w037, w138, w239, .int 0, .int ((-1)), .int ((-1)), .int ((-1))])), (q41, .inr (3, [w044, w145, w246, .int 0, .int ((-1)), .int ((-1)), .int ((-1))])), (q48, .inr (3, [w051, w152, w253, .int 0, .int ((-1)), .int ((-1)), .int ((-1))])), (q55, .inr (3, [w058, w159, w260, .int 0, .int ((-1)), .int ((-1)), .int ((-1))])), (q62, .inr (3, [w065, w166, w267, .int 0, .int ((-1)), .int ((-1)), .int ((-1))])), (q142, .inr (6, [v145, .int 0]))] H := hP
  have hD : va_D A [(h0, .inr (8, [.ref a1, .ref a2, .ref a3, .ref q1, .ref q3, .ref q9, .ref q11, .ref q13, .ref q16, .int i9, .ref q18, .ref q22])), (q1, .inl (t2, 6, .inr (.inr (.inr (.inr ((va_up (va_up (va_up (va_up (va_up (va_up (fun _ => none) 0 (some q27)) 1 (some q34)) 2 (some q41)) 3 (some q48)) 4 (some q55)) 5 (some q62)))))))), (q3, .inr (3, [w06, w17, w28, .int 0, .int ((-1)), .int ((-1)), .int ((-1))])), (q9, .inl (t10, 6, .inl ((fun _ => 0)))), (q11, .inl (t12, 18, .inr (.inr (.inr (.inr ((va_up f140 12 (some q142)))))))), (q13, .inr (0, [.int 0, .ref d0, .int 0])), (q16, .inl (t17, 240, .inl ((fun _ => 0)))), (q18, .inr (6, [v21, .int 0])), (q22, .inr (2, [.ref q25])), (q25, .inr (0, [.int 0, .ref d0, .int 0])), (q27, .inr (3, [w030, w131, w232, .int 0, .int ((-1)), .int ((-1)), .int ((-1))])), (q34, .inr (3, [w037, w138, w239, .int 0, .int ((-1)), .int ((-1)), .int ((-1))])), (q41, .inr (3, [w044, w145, w246, .int 0, .int ((-1)), .int ((-1)), .int ((-1))])), (q48, .inr (3, [w051, w152, w253, .int 0, .int ((-1)), .int ((-1)), .int ((-1))])), (q55, .inr (3, [w058, w159, w260, .int 0, .int ((-1)), .int ((-1)), .int ((-1))])), (q62, .inr (3, [w065, w166, w267, .int 0, .int ((-1)), .int ((-1)), .int ((-1))])), (q142, .inr (6, [v145, .int 0]))] := hD
  generalize (va_up f140 12 (some q142)) = f146 at hP hD
  have hP := hP.sub (ws' := [(h0, .inr (8, [.ref a1, .ref a2, .ref a3, .ref q1, .ref q3, .ref q9, .ref q11, .ref q13, .ref q16, .int i9, .ref q18, .ref q22])), (q1, .inl (t2, 6, .inr (.inr (.inr (.inr ((va_up (va_up (va_up (va_up (va_up (va_up (fun _ => none) 0 (some q27)) 1 (some q34)) 2 (some q41)) 3 (some q48)) 4 (some q55)) 5 (some q62)))))))), (q3, .inr (3, [w06, w17, w28, .int 0, .int ((-1)), .int ((-1)), .int ((-1))])), (q9, .inl (t10, 6, .inl ((fun _ => 0)))), (q11, .inl (t12, 18, .inr (.inr (.inr (.inr f146))))), (q13, .inr (0, [.int 0, .ref d0, .int 0])), (q16, .inl (t17, 240, .inl ((fun _ => 0)))), (q18, .inr (6, [v21, .int 0])), (q22, .inr (2, [.ref q25])), (q25, .inr (0, [.int 0, .ref d0, .int 0])), (q27, .inr (3, [w030, w131, w232, .int 0, .int ((-1)), .int ((-1)), .int ((-1))])), (q34, .inr (3, [w037, w138, w239, .int 0, .int ((-1)), .int ((-1)), .int ((-1))])), (q41, .inr (3, [w044, w145, w246, .int 0, .int ((-1)), .int ((-1)), .int ((-1))])), (q48, .inr (3, [w051, w152, w253, .int 0, .int ((-1)), .int ((-1)), .int ((-1))])), (q55, .inr (3, [w058, w159, w260, .int 0, .int ((-1)), .int ((-1)), .int ((-1))])), (q62, .inr (3, [w065, w166, w267, .int 0, .int ((-1)), .int ((-1)), .int ((-1))]))]) [0, 1, 2, 3, 4, 5, 6, 7, 8, 9, 10, 11, 12, 13, 14, 15] rfl
  have hD := hD.sub (ws' := [(h0, .inr (8, [.ref a1, .ref a2, .ref a3, .ref q1, .ref q3, .ref q9, .ref q11, .ref q13, .ref q16, .int i9, .ref q18, .ref q22])), (q1, .inl (t2, 6, .inr (.inr (.inr (.inr ((va_up (va_up (va_up (va_up (va_up (va_up (fun _ => none) 0 (some q27)) 1 (some q34)) 2 (some q41)) 3 (some q48)) 4 (some q55)) 5 (some q62)))))))), (q3, .inr (3, [w06, w17, w28, .int 0, .int ((-1)), .int ((-1)), .int ((-1))])), (q9, .inl (t10, 6, .inl ((fun _ => 0)))), (q11, .inl (t12, 18, .inr (.inr (.inr (.inr f146))))), (q13, .inr (0, [.int 0, .ref d0, .int 0])), (q16, .inl (t17, 240, .inl ((fun _ => 0)))), (q18, .inr (6, [v21, .int 0])), (q22, .inr (2, [.ref q25])), (q25, .inr (0, [.int 0, .ref d0, .int 0])), (q27, .inr (3, [w030, w131, w232, .int 0, .int ((-1)), .int ((-1)), .int ((-1))])), (q34, .inr (3, [w037, w138, w239, .int 0, .int ((-1)), .int ((-1)), .int ((-1))])), (q41, .inr (3, [w044, w145, w246, .int 0, .int ((-1)), .int ((-1)), .int ((-1))])), (q48, .inr (3, [w051, w152, w253, .int 0, .int ((-1)), .int ((-1)), .int ((-1))])), (q55, .inr (3, [w058, w159, w260, .int 0, .int ((-1)), .int ((-1)), .int ((-1))])), (q62, .inr (3, [w065, w166, w267, .int 0, .int ((-1)), .int ((-1)), .int ((-1))]))]) [0, 1, 2, 3, 4, 5, 6, 7, 8, 9, 10, 11, 12, 13, 14, 15] (by decide) rfl
  refine lv_iinc (v := 13) (lv' := [(4, .int 13), (0, .ref h0), (1, .ref a1), (2, .ref a2), (3, .ref a3)]) hx hb dX7_init_155 hl (k := 0) rfl (by decide) (by decide) rfl (fun ls hl => ?_)
  refine lv_goto (tgt := 131) hx hb dX7_init_158 (by decide) ?_
  refine lv_iload hx hb dX7_init_131 (lv_at hl 0 rfl) ?_
  refine lv_aload_n hx hb dX7_init_133 rfl (lv_at hl 1 rfl) ?_
  refine va_get (D := (dC, dI)) (ci := 8) (v := .ref q11) (C := RX7) (T := TX7) (N := 12) hx hb ht inGX7 hown hK hP 0 rfl rfl 6 (by decide) (ht _ q360) (fun _ h9 => h9) rfl dX7_init_134 ?_
  refine va_alen (v := 18) hx hb hK hP 4 2 rfl rfl rfl dX7_init_137 ?_
  refine lv_icmp_ge (tgt := 161) hx hb dX7_init_138 (by decide) (fun c147 => absurd c147 (by decide)) (fun c147 => ?_)
  refine lv_aload_n hx hb dX7_init_141 rfl (lv_at hl 1 rfl) ?_
  refine va_get (D := (dC, dI)) (ci := 8) (v := .ref q11) (C := RX7) (T := TX7) (N := 12) hx hb ht inGX7 hown hK hP 0 rfl rfl 6 (by decide) (ht _ q360) (fun _ h9 => h9) rfl dX7_init_142 ?_
  refine lv_iload hx hb dX7_init_145 (lv_at hl 0 rfl) ?_
  refine va_new (ci := 6) (fs := [.null, .int 0]) (C := RX5) (T := TX5) (N := 2) hx hb ht inGX5 tyX5 tyX5_ok hown (ht _ q345) (ht _ q297) (ht _ q132) hK hP hD hS hA rfl (fun j hj => by rcases (show j = 0 ∨ j = 1 by omega) with rfl | rfl <;> rfl) (Nat.le_of_ble_eq_true rfl) (Nat.le_of_ble_eq_true rfl) dX7_init_147 (fun q148 H hP hD hS => ?_)
  have hP : va_P (dC, dI) vwCl [(h0, .inr (8, [.ref a1, .ref a2, .ref a3, .ref q1, .ref q3, .ref q9, .ref q11, .ref q13, .ref q16, .int i9, .ref q18, .ref q22])), (q1, .inl (t2, 6, .inr (.inr (.inr (.inr ((va_up (va_up (va_up (va_up (va_up (va_up (fun _ => none) 0 (some q27)) 1 (some q34)) 2 (some q41)) 3 (some q48)) 4 (some q55)) 5 (some q62)))))))), (q3, .inr (3, [w06, w17, w28, .int 0, .int ((-1)), .int ((-1)), .int ((-1))])), (q9, .inl (t10, 6, .inl ((fun _ => 0)))), (q11, .inl (t12, 18, .inr (.inr (.inr (.inr f146))))), (q13, .inr (0, [.int 0, .ref d0, .int 0])), (q16, .inl (t17, 240, .inl ((fun _ => 0)))), (q18, .inr (6, [v21, .int 0])), (q22, .inr (2, [.ref q25])), (q25, .inr (0, [.int 0, .ref d0, .int 0])), (q27, .inr (3, [w030, w131, w232, .int 0, .int ((-1)), .int ((-1)), .int ((-1))])), (q34, .inr (3, [w037, w138, w239, .int 0, .int ((-1)), .int ((-1)), .int ((-1))])), (q41, .inr (3, [w044, w145, w246, .int 0, .int ((-1)), .int ((-1)), .int ((-1))])), (q48, .inr (3, [w051, w152, w253, .int 0, .int ((-1)), .int ((-1)), .int ((-1))])), (q55, .inr (3, [w058, w159, w260, .int 0, .int ((-1)), .int ((-1)), .int ((-1))])), (q62, .inr (3, [w065, w166, w267, .int 0, .int ((-1)), .int ((-1)), .int ((-1))])), (q148, .inr (6, [.null, .int 0]))] H := hP
  have hD : va_D A [(h0, .inr (8, [.ref a1, .ref a2, .ref a3, .ref q1, .ref q3, .ref q9, .ref q11, .ref q13, .ref q16, .int i9, .ref q18, .ref q22])), (q1, .inl (t2, 6, .inr (.inr (.inr (.inr ((va_up (va_up (va_up (va_up (va_up (va_up (fun _ => none) 0 (some q27)) 1 (some q34)) 2 (some q41)) 3 (some q48)) 4 (some q55)) 5 (some q62)))))))), (q3, .inr (3, [w06, w17, w28, .int 0, .int ((-1)), .int ((-1)), .int ((-1))])), (q9, .inl (t10, 6, .inl ((fun _ => 0)))), (q11, .inl (t12, 18, .inr (.inr (.inr (.inr f146))))), (q13, .inr (0, [.int 0, .ref d0, .int 0])), (q16, .inl (t17, 240, .inl ((fun _ => 0)))), (q18, .inr (6, [v21, .int 0])), (q22, .inr (2, [.ref q25])), (q25, .inr (0, [.int 0, .ref d0, .int 0])), (q27, .inr (3, [w030, w131, w232, .int 0, .int ((-1)), .int ((-1)), .int ((-1))])), (q34, .inr (3, [w037, w138, w239, .int 0, .int ((-1)), .int ((-1)), .int ((-1))])), (q41, .inr (3, [w044, w145, w246, .int 0, .int ((-1)), .int ((-1)), .int ((-1))])), (q48, .inr (3, [w051, w152, w253, .int 0, .int ((-1)), .int ((-1)), .int ((-1))])), (q55, .inr (3, [w058, w159, w260, .int 0, .int ((-1)), .int ((-1)), .int ((-1))])), (q62, .inr (3, [w065, w166, w267, .int 0, .int ((-1)), .int ((-1)), .int ((-1))])), (q148, .inr (6, [.null, .int 0]))] := hD
  refine W.widen (k := 57) (n := 1784) (Nat.le_of_ble_eq_true rfl) (Nat.le_of_ble_eq_true rfl) ?_
  refine lv_dup hx hb dX7_init_150 rfl ?_
  have hPc := hP.sub (ws' := [(q148, .inr (6, [.null, .int 0]))]) [16] rfl
  have hDc := hD.sub (ws' := [(q148, .inr (6, [.null, .int 0]))]) [16] (by decide) rfl
  have hKc := hK.sub (tys' := []) [] rfl
  have hFc := va_free (wc := [(q148, .inr (6, [.null, .int 0]))]) hD hS hA [16] rfl
  refine va_callv (va_runIN (As := []) (rest := [.ref q148, .int 13, .ref q11]) ⟨hx, hb, hml, hown, ht⟩ (k_X5_init l d0 cO dC dI H.size q148 .null 0) (my_NI ht M_X5_init q299 rfl q348 (Nat.le_of_ble_eq_true rfl) (Nat.le_of_ble_eq_true rfl)) ⟨PRE.fb, fun U hU hW => ⟨rfl, PRE.mk' hE hS hFc hPc hKc hDc U hU hW⟩⟩ rfl rfl hl.1 rfl (lv_room (Nat.le_of_ble_eq_true rfl)) dX7_init_151 ⟨(Nat.le_of_ble_eq_true rfl), (Nat.le_of_ble_eq_true rfl)⟩) hS (fun q _ h => hFc q h) hFc (fun u149 t H1 locs htt hvm hw hB hz1 hk1 hS => ?_)
  try dsimp only at hw hB
  obtain ⟨v151, hP1, hK1, hD1⟩ := hB
  rw [htt] at hP1
  have hK1 := va_K.moved hvm.symm hK1
  obtain ⟨hP, hD⟩ := va_join (wr := [(h0, .inr (8, [.ref a1, .ref a2, .ref a3, .ref q1, .ref q3, .ref q9, .ref q11, .ref q13, .ref q16, .int i9, .ref q18, .ref q22])), (q1, .inl (t2, 6, .inr (.inr (.inr (.inr ((va_up (va_up (va_up (va_up (va_up (va_up (fun _ => none) 0 (some q27)) 1 (some q34)) 2 (some q41)) 3 (some q48)) 4 (some q55)) 5 (some q62)))))))), (q3, .inr (3, [w06, w17, w28, .int 0, .int ((-1)), .int ((-1)), .int ((-1))])), (q9, .inl (t10, 6, .inl ((fun _ => 0)))), (q11, .inl (t12, 18, .inr (.inr (.inr (.inr f146))))), (q13, .inr (0, [.int 0, .ref d0, .int 0])), (q16, .inl (t17, 240, .inl ((fun _ => 0)))), (q18, .inr (6, [v21, .int 0])), (q22, .inr (2, [.ref q25])), (q25, .inr (0, [.int 0, .ref d0, .int 0])), (q27, .inr (3, [w030, w131, w232, .int 0, .int ((-1)), .int ((-1)), .int ((-1))])), (q34, .inr (3, [w037, w138, w239, .int 0, .int ((-1)), .int ((-1)), .int ((-1))])), (q41, .inr (3, [w044, w145, w246, .int 0, .int ((-1)), .int ((-1)), .int ((-1))])), (q48, .inr (3, [w051, w152, w253, .int 0, .int ((-1)), .int ((-1)), .int ((-1))])), (q55, .inr (3, [w058, w159, w260, .int 0, .int ((-1)), .int ((-1)), .int ((-1))])), (q62, .inr (3, [w065, w166, w267, .int 0, .int ((-1)), .int ((-1)), .int ((-1))]))]) (w1 := [(q148, .inr (6, [v151, .int 0]))]) hP hD [16] [0, 1, 2, 3, 4, 5, 6, 7, 8, 9, 10, 11, 12, 13, 14, 15] rfl rfl (by decide) (by decide) hk1 hFc hP1 hD1
  have hK := (hK.sub (tys' := [(t2, .object RX2), (t10, .int), (t12, .object RX5), (t17, .int)]) [0, 1, 2, 3] rfl).app hK1
  generalize H1 = H at hP hS ⊢
  have hP : va_P (dC, dI) vwCl [(h0, .inr (8, [.ref a1, .ref a2, .ref a3, .ref q1, .ref q3, .ref q9, .ref q11, .ref q13, .ref q16, .int i9, .ref q18, .ref q22])), (q1, .inl (t2, 6, .inr (.inr (.inr (.inr ((va_up (va_up (va_up (va_up (va_up (va_up (fun _ => none) 0 (some q27)) 1 (some q34)) 2 (some q41)) 3 (some q48)) 4 (some q55)) 5 (some q62)))))))), (q3, .inr (3, [w06, w17, w28, .int 0, .int ((-1)), .int ((-1)), .int ((-1))])), (q9, .inl (t10, 6, .inl ((fun _ => 0)))), (q11, .inl (t12, 18, .inr (.inr (.inr (.inr f146))))), (q13, .inr (0, [.int 0, .ref d0, .int 0])), (q16, .inl (t17, 240, .inl ((fun _ => 0)))), (q18, .inr (6, [v21, .int 0])), (q22, .inr (2, [.ref q25])), (q25, .inr (0, [.int 0, .ref d0, .int 0])), (q27, .inr (3, [w030, w131, w232, .int 0, .int ((-1)), .int ((-1)), .int ((-1))])), (q34, .inr (3, [w037, w138, w239, .int 0, .int ((-1)), .int ((-1)), .int ((-1))])), (q41, .inr (3, [w044, w145, w246, .int 0, .int ((-1)), .int ((-1)), .int ((-1))])), (q48, .inr (3, [w051, w152, w253, .int 0, .int ((-1)), .int ((-1)), .int ((-1))])), (q55, .inr (3, [w058, w159, w260, .int 0, .int ((-1)), .int ((-1)), .int ((-1))])), (q62, .inr (3, [w065, w166, w267, .int 0, .int ((-1)), .int ((-1)), .int ((-1))])), (q148, .inr (6, [v151, .int 0]))] H := hP
  have hD : va_D A [(h0, .inr (8, [.ref a1, .ref a2, .ref a3, .ref q1, .ref q3, .ref q9, .ref q11, .ref q13, .ref q16, .int i9, .ref q18, .ref q22])), (q1, .inl (t2, 6, .inr (.inr (.inr (.inr ((va_up (va_up (va_up (va_up (va_up (va_up (fun _ => none) 0 (some q27)) 1 (some q34)) 2 (some q41)) 3 (some q48)) 4 (some q55)) 5 (some q62)))))))), (q3, .inr (3, [w06, w17, w28, .int 0, .int ((-1)), .int ((-1)), .int ((-1))])), (q9, .inl (t10, 6, .inl ((fun _ => 0)))), (q11, .inl (t12, 18, .inr (.inr (.inr (.inr f146))))), (q13, .inr (0, [.int 0, .ref d0, .int 0])), (q16, .inl (t17, 240, .inl ((fun _ => 0)))), (q18, .inr (6, [v21, .int 0])), (q22, .inr (2, [.ref q25])), (q25, .inr (0, [.int 0, .ref d0, .int 0])), (q27, .inr (3, [w030, w131, w232, .int 0, .int ((-1)), .int ((-1)), .int ((-1))])), (q34, .inr (3, [w037, w138, w239, .int 0, .int ((-1)), .int ((-1)), .int ((-1))])), (q41, .inr (3, [w044, w145, w246, .int 0, .int ((-1)), .int ((-1)), .int ((-1))])), (q48, .inr (3, [w051, w152, w253, .int 0, .int ((-1)), .int ((-1)), .int ((-1))])), (q55, .inr (3, [w058, w159, w260, .int 0, .int ((-1)), .int ((-1)), .int ((-1))])), (q62, .inr (3, [w065, w166, w267, .int 0, .int ((-1)), .int ((-1)), .int ((-1))])), (q148, .inr (6, [v151, .int 0]))] := hD
  have hK : va_K (dC, dI) vwCl [(t2, .object RX2), (t10, .int), (t12, .object RX5), (t17, .int)] s := hK
  refine W.widen (k := 57) (n := 1784) (Nat.le_of_ble_eq_true rfl) (Nat.le_of_ble_eq_true rfl) ?_
  refine va_astq hx hb hK hP hD hS 4 2 16 6 rfl rfl rfl rfl (vp_in_nI (n := 13) (by decide) (by decide)) dX7_init_154 (fun H locs hP hD hS => ?_)
  have hP : va_P (dC, dI) vwCl [(h0, .inr (8, [.ref a1, .ref a2, .ref a3, .ref q1, .ref q3, .ref q9, .ref q11, .ref q13, .ref q16, .int i9, .ref q18, .ref q22])), (q1, .inl (t2, 6, .inr (.inr (.inr (.inr ((va_up (va_up (va_up (va_up (va_up (va_up (fun _ => none) 0 (some q27)) 1 (some q34)) 2 (some q41)) 3 (some q48)) 4 (some q55)) 5 (some q62)))))))), (q3, .inr (3, [w06, w17, w28, .int 0, .int ((-1)), .int ((-1)), .int ((-1))])), (q9, .inl (t10, 6, .inl ((fun _ => 0)))), (q11, .inl (t12, 18, .inr (.inr (.inr (.inr ((va_up f146 13 (some q148)))))))), (q13, .inr (0, [.int 0, .ref d0, .int 0])), (q16, .inl (t17, 240, .inl ((fun _ => 0)))), (q18, .inr (6, [v21, .int 0])), (q22, .inr (2, [.ref q25])), (q25, .inr (0, [.int 0, .ref d0, .int 0])), (q27, .inr (3, [w030, w131, w232, .int 0, .int ((-1)), .int ((-1)), .int ((-1))])), (q34, .inr (3, [w037, w138, w239, .int 0, .int ((-1)), .int ((-1)), .int ((-1))])), (q41, .inr (3, [w044, w145, w246, .int 0, .int ((-1)), .int ((-1)), .int ((-1))])), (q48, .inr (3, [w051, w152, w253, .int 0, .int ((-1)), .int ((-1)), .int ((-1))])), (q55, .inr (3, [w058, w159, w260, .int 0, .int ((-1)), .int ((-1)), .int ((-1))])), (q62, .inr (3, [w065, w166, w267, .int 0, .int ((-1)), .int ((-1)), .int ((-1))])), (q148, .inr (6, [v151, .int 0]))] H := hP
  have hD : va_D A [(h0, .inr (8, [.ref a1, .ref a2, .ref a3, .ref q1, .ref q3, .ref q9, .ref q11, .ref q13, .ref q16, .int i9, .ref q18, .ref q22])), (q1, .inl (t2, 6, .inr (.inr (.inr (.inr ((va_up (va_up (va_up (va_up (va_up (va_up (fun _ => none) 0 (some q27)) 1 (some q34)) 2 (some q41)) 3 (some q48)) 4 (some q55)) 5 (some q62)))))))), (q3, .inr (3, [w06, w17, w28, .int 0, .int ((-1)), .int ((-1)), .int ((-1))])), (q9, .inl (t10, 6, .inl ((fun _ => 0)))), (q11, .inl (t12, 18, .inr (.inr (.inr (.inr ((va_up f146 13 (some q148)))))))), (q13, .inr (0, [.int 0, .ref d0, .int 0])), (q16, .inl (t17, 240, .inl ((fun _ => 0)))), (q18, .inr (6, [v21, .int 0])), (q22, .inr (2, [.ref q25])), (q25, .inr (0, [.int 0, .ref d0, .int 0])), (q27, .inr (3, [w030, w131, w232, .int 0, .int ((-1)), .int ((-1)), .int ((-1))])), (q34, .inr (3, [w037, w138, w239, .int 0, .int ((-1)), .int ((-1)), .int ((-1))])), (q41, .inr (3, [w044, w145, w246, .int 0, .int ((-1)), .int ((-1)), .int ((-1))])), (q48, .inr (3, [w051, w152, w253, .int 0, .int ((-1)), .int ((-1)), .int ((-1))])), (q55, .inr (3, [w058, w159, w260, .int 0, .int ((-1)), .int ((-1)), .int ((-1))])), (q62, .inr (3, [w065, w166, w267, .int 0, .int ((-1)), .int ((-1)), .int ((-1))])), (q148, .inr (6, [v151, .int 0]))] := hD
  generalize (va_up f146 13 (some q148)) = f152 at hP hD
  have hP := hP.sub (ws' := [(h0, .inr (8, [.ref a1, .ref a2, .ref a3, .ref q1, .ref q3, .ref q9, .ref q11, .ref q13, .ref q16, .int i9, .ref q18, .ref q22])), (q1, .inl (t2, 6, .inr (.inr (.inr (.inr ((va_up (va_up (va_up (va_up (va_up (va_up (fun _ => none) 0 (some q27)) 1 (some q34)) 2 (some q41)) 3 (some q48)) 4 (some q55)) 5 (some q62)))))))), (q3, .inr (3, [w06, w17, w28, .int 0, .int ((-1)), .int ((-1)), .int ((-1))])), (q9, .inl (t10, 6, .inl ((fun _ => 0)))), (q11, .inl (t12, 18, .inr (.inr (.inr (.inr f152))))), (q13, .inr (0, [.int 0, .ref d0, .int 0])), (q16, .inl (t17, 240, .inl ((fun _ => 0)))), (q18, .inr (6, [v21, .int 0])), (q22, .inr (2, [.ref q25])), (q25, .inr (0, [.int 0, .ref d0, .int 0])), (q27, .inr (3, [w030, w131, w232, .int 0, .int ((-1)), .int ((-1)), .int ((-1))])), (q34, .inr (3, [w037, w138, w239, .int 0, .int ((-1)), .int ((-1)), .int ((-1))])), (q41, .inr (3, [w044, w145, w246, .int 0, .int ((-1)), .int ((-1)), .int ((-1))])), (q48, .inr (3, [w051, w152, w253, .int 0, .int ((-1)), .int ((-1)), .int ((-1))])), (q55, .inr (3, [w058, w159, w260, .int 0, .int ((-1)), .int ((-1)), .int ((-1))])), (q62, .inr (3, [w065, w166, w267, .int 0, .int ((-1)), .int ((-1)), .int ((-1))]))]) [0, 1, 2, 3, 4, 5, 6, 7, 8, 9, 10, 11, 12, 13, 14, 15] rfl
  have hD := hD.sub (ws' := [(h0, .inr (8, [.ref a1, .ref a2, .ref a3, .ref q1, .ref q3, .ref q9, .ref q11, .ref q13, .ref q16, .int i9, .ref q18, .ref q22])), (q1, .inl (t2, 6, .inr (.inr (.inr (.inr ((va_up (va_up (va_up (va_up (va_up (va_up (fun _ => none) 0 (some q27)) 1 (some q34)) 2 (some q41)) 3 (some q48)) 4 (some q55)) 5 (some q62)))))))), (q3, .inr (3, [w06, w17, w28, .int 0, .int ((-1)), .int ((-1)), .int ((-1))])), (q9, .inl (t10, 6, .inl ((fun _ => 0)))), (q11, .inl (t12, 18, .inr (.inr (.inr (.inr f152))))), (q13, .inr (0, [.int 0, .ref d0, .int 0])), (q16, .inl (t17, 240, .inl ((fun _ => 0)))), (q18, .inr (6, [v21, .int 0])), (q22, .inr (2, [.ref q25])), (q25, .inr (0, [.int 0, .ref d0, .int 0])), (q27, .inr (3, [w030, w131, w232, .int 0, .int ((-1)), .int ((-1)), .int ((-1))])), (q34, .inr (3, [w037, w138, w239, .int 0, .int ((-1)), .int ((-1)), .int ((-1))])), (q41, .inr (3, [w044, w145, w246, .int 0, .int ((-1)), .int ((-1)), .int ((-1))])), (q48, .inr (3, [w051, w152, w253, .int 0, .int ((-1)), .int ((-1)), .int ((-1))])), (q55, .inr (3, [w058, w159, w260, .int 0, .int ((-1)), .int ((-1)), .int ((-1))])), (q62, .inr (3, [w065, w166, w267, .int 0, .int ((-1)), .int ((-1)), .int ((-1))]))]) [0, 1, 2, 3, 4, 5, 6, 7, 8, 9, 10, 11, 12, 13, 14, 15] (by decide) rfl
  refine lv_iinc (v := 14) (lv' := [(4, .int 14), (0, .ref h0), (1, .ref a1), (2, .ref a2), (3, .ref a3)]) hx hb dX7_init_155 hl (k := 0) rfl (by decide) (by decide) rfl (fun ls hl => ?_)
  refine lv_goto (tgt := 131) hx hb dX7_init_158 (by decide) ?_
  refine lv_iload hx hb dX7_init_131 (lv_at hl 0 rfl) ?_
  refine lv_aload_n hx hb dX7_init_133 rfl (lv_at hl 1 rfl) ?_
  refine va_get (D := (dC, dI)) (ci := 8) (v := .ref q11) (C := RX7) (T := TX7) (N := 12) hx hb ht inGX7 hown hK hP 0 rfl rfl 6 (by decide) (ht _ q360) (fun _ h9 => h9) rfl dX7_init_134 ?_
  refine va_alen (v := 18) hx hb hK hP 4 2 rfl rfl rfl dX7_init_137 ?_
  refine lv_icmp_ge (tgt := 161) hx hb dX7_init_138 (by decide) (fun c153 => absurd c153 (by decide)) (fun c153 => ?_)
  refine lv_aload_n hx hb dX7_init_141 rfl (lv_at hl 1 rfl) ?_
  refine va_get (D := (dC, dI)) (ci := 8) (v := .ref q11) (C := RX7) (T := TX7) (N := 12) hx hb ht inGX7 hown hK hP 0 rfl rfl 6 (by decide) (ht _ q360) (fun _ h9 => h9) rfl dX7_init_142 ?_
  refine lv_iload hx hb dX7_init_145 (lv_at hl 0 rfl) ?_
  refine va_new (ci := 6) (fs := [.null, .int 0]) (C := RX5) (T := TX5) (N := 2) hx hb ht inGX5 tyX5 tyX5_ok hown (ht _ q345) (ht _ q297) (ht _ q132) hK hP hD hS hA rfl (fun j hj => by rcases (show j = 0 ∨ j = 1 by omega) with rfl | rfl <;> rfl) (Nat.le_of_ble_eq_true rfl) (Nat.le_of_ble_eq_true rfl) dX7_init_147 (fun q154 H hP hD hS => ?_)
  have hP : va_P (dC, dI) vwCl [(h0, .inr (8, [.ref a1, .ref a2, .ref a3, .ref q1, .ref q3, .ref q9, .ref q11, .ref q13, .ref q16, .int i9, .ref q18, .ref q22])), (q1, .inl (t2, 6, .inr (.inr (.inr (.inr ((va_up (va_up (va_up (va_up (va_up (va_up (fun _ => none) 0 (some q27)) 1 (some q34)) 2 (some q41)) 3 (some q48)) 4 (some q55)) 5 (some q62)))))))), (q3, .inr (3, [w06, w17, w28, .int 0, .int ((-1)), .int ((-1)), .int ((-1))])), (q9, .inl (t10, 6, .inl ((fun _ => 0)))), (q11, .inl (t12, 18, .inr (.inr (.inr (.inr f152))))), (q13, .inr (0, [.int 0, .ref d0, .int 0])), (q16, .inl (t17, 240, .inl ((fun _ => 0)))), (q18, .inr (6, [v21, .int 0])), (q22, .inr (2, [.ref q25])), (q25, .inr (0, [.int 0, .ref d0, .int 0])), (q27, .inr (3, [w030, w131, w232, .int 0, .int ((-1)), .int ((-1)), .int ((-1))])), (q34, .inr (3, [w037, w138, w239, .int 0, .int ((-1)), .int ((-1)), .int ((-1))])), (q41, .inr (3, [w044, w145, w246, .int 0, .int ((-1)), .int ((-1)), .int ((-1))])), (q48, .inr (3, [w051, w152, w253, .int 0, .int ((-1)), .int ((-1)), .int ((-1))])), (q55, .inr (3, [w058, w159, w260, .int 0, .int ((-1)), .int ((-1)), .int ((-1))])), (q62, .inr (3, [w065, w166, w267, .int 0, .int ((-1)), .int ((-1)), .int ((-1))])), (q154, .inr (6, [.null, .int 0]))] H := hP
  have hD : va_D A [(h0, .inr (8, [.ref a1, .ref a2, .ref a3, .ref q1, .ref q3, .ref q9, .ref q11, .ref q13, .ref q16, .int i9, .ref q18, .ref q22])), (q1, .inl (t2, 6, .inr (.inr (.inr (.inr ((va_up (va_up (va_up (va_up (va_up (va_up (fun _ => none) 0 (some q27)) 1 (some q34)) 2 (some q41)) 3 (some q48)) 4 (some q55)) 5 (some q62)))))))), (q3, .inr (3, [w06, w17, w28, .int 0, .int ((-1)), .int ((-1)), .int ((-1))])), (q9, .inl (t10, 6, .inl ((fun _ => 0)))), (q11, .inl (t12, 18, .inr (.inr (.inr (.inr f152))))), (q13, .inr (0, [.int 0, .ref d0, .int 0])), (q16, .inl (t17, 240, .inl ((fun _ => 0)))), (q18, .inr (6, [v21, .int 0])), (q22, .inr (2, [.ref q25])), (q25, .inr (0, [.int 0, .ref d0, .int 0])), (q27, .inr (3, [w030, w131, w232, .int 0, .int ((-1)), .int ((-1)), .int ((-1))])), (q34, .inr (3, [w037, w138, w239, .int 0, .int ((-1)), .int ((-1)), .int ((-1))])), (q41, .inr (3, [w044, w145, w246, .int 0, .int ((-1)), .int ((-1)), .int ((-1))])), (q48, .inr (3, [w051, w152, w253, .int 0, .int ((-1)), .int ((-1)), .int ((-1))])), (q55, .inr (3, [w058, w159, w260, .int 0, .int ((-1)), .int ((-1)), .int ((-1))])), (q62, .inr (3, [w065, w166, w267, .int 0, .int ((-1)), .int ((-1)), .int ((-1))])), (q154, .inr (6, [.null, .int 0]))] := hD
  refine W.widen (k := 58) (n := 1786) (Nat.le_of_ble_eq_true rfl) (Nat.le_of_ble_eq_true rfl) ?_
  refine lv_dup hx hb dX7_init_150 rfl ?_
  have hPc := hP.sub (ws' := [(q154, .inr (6, [.null, .int 0]))]) [16] rfl
  have hDc := hD.sub (ws' := [(q154, .inr (6, [.null, .int 0]))]) [16] (by decide) rfl
  have hKc := hK.sub (tys' := []) [] rfl
  have hFc := va_free (wc := [(q154, .inr (6, [.null, .int 0]))]) hD hS hA [16] rfl
  refine va_callv (va_runIN (As := []) (rest := [.ref q154, .int 14, .ref q11]) ⟨hx, hb, hml, hown, ht⟩ (k_X5_init l d0 cO dC dI H.size q154 .null 0) (my_NI ht M_X5_init q299 rfl q348 (Nat.le_of_ble_eq_true rfl) (Nat.le_of_ble_eq_true rfl)) ⟨PRE.fb, fun U hU hW => ⟨rfl, PRE.mk' hE hS hFc hPc hKc hDc U hU hW⟩⟩ rfl rfl hl.1 rfl (lv_room (Nat.le_of_ble_eq_true rfl)) dX7_init_151 ⟨(Nat.le_of_ble_eq_true rfl), (Nat.le_of_ble_eq_true rfl)⟩) hS (fun q _ h => hFc q h) hFc (fun u155 t H1 locs htt hvm hw hB hz1 hk1 hS => ?_)
  try dsimp only at hw hB
  obtain ⟨v157, hP1, hK1, hD1⟩ := hB
  rw [htt] at hP1
  have hK1 := va_K.moved hvm.symm hK1
  obtain ⟨hP, hD⟩ := va_join (wr := [(h0, .inr (8, [.ref a1, .ref a2, .ref a3, .ref q1, .ref q3, .ref q9, .ref q11, .ref q13, .ref q16, .int i9, .ref q18, .ref q22])), (q1, .inl (t2, 6, .inr (.inr (.inr (.inr ((va_up (va_up (va_up (va_up (va_up (va_up (fun _ => none) 0 (some q27)) 1 (some q34)) 2 (some q41)) 3 (some q48)) 4 (some q55)) 5 (some q62)))))))), (q3, .inr (3, [w06, w17, w28, .int 0, .int ((-1)), .int ((-1)), .int ((-1))])), (q9, .inl (t10, 6, .inl ((fun _ => 0)))), (q11, .inl (t12, 18, .inr (.inr (.inr (.inr f152))))), (q13, .inr (0, [.int 0, .ref d0, .int 0])), (q16, .inl (t17, 240, .inl ((fun _ => 0)))), (q18, .inr (6, [v21, .int 0])), (q22, .inr (2, [.ref q25])), (q25, .inr (0, [.int 0, .ref d0, .int 0])), (q27, .inr (3, [w030, w131, w232, .int 0, .int ((-1)), .int ((-1)), .int ((-1))])), (q34, .inr (3, [w037, w138, w239, .int 0, .int ((-1)), .int ((-1)), .int ((-1))])), (q41, .inr (3, [w044, w145, w246, .int 0, .int ((-1)), .int ((-1)), .int ((-1))])), (q48, .inr (3, [w051, w152, w253, .int 0, .int ((-1)), .int ((-1)), .int ((-1))])), (q55, .inr (3, [w058, w159, w260, .int 0, .int ((-1)), .int ((-1)), .int ((-1))])), (q62, .inr (3, [w065, w166, w267, .int 0, .int ((-1)), .int ((-1)), .int ((-1))]))]) (w1 := [(q154, .inr (6, [v157, .int 0]))]) hP hD [16] [0, 1, 2, 3, 4, 5, 6, 7, 8, 9, 10, 11, 12, 13, 14, 15] rfl rfl (by decide) (by decide) hk1 hFc hP1 hD1
  have hK := (hK.sub (tys' := [(t2, .object RX2), (t10, .int), (t12, .object RX5), (t17, .int)]) [0, 1, 2, 3] rfl).app hK1
  generalize H1 = H at hP hS ⊢
  have hP : va_P (dC, dI) vwCl [(h0, .inr (8, [.ref a1, .ref a2, .ref a3, .ref q1, .ref q3, .ref q9, .ref q11, .ref q13, .ref q16, .int i9, .ref q18, .ref q22])), (q1, .inl (t2, 6, .inr (.inr (.inr (.inr ((va_up (va_up (va_up (va_up (va_up (va_up (fun _ => none) 0 (some q27)) 1 (some q34)) 2 (some q41)) 3 (some q48)) 4 (some q55)) 5 (some q62)))))))), (q3, .inr (3, [w06, w17, w28, .int 0, .int ((-1)), .int ((-1)), .int ((-1))])), (q9, .inl (t10, 6, .inl ((fun _ => 0)))), (q11, .inl (t12, 18, .inr (.inr (.inr (.inr f152))))), (q13, .inr (0, [.int 0, .ref d0, .int 0])), (q16, .inl (t17, 240, .inl ((fun _ => 0)))), (q18, .inr (6, [v21, .int 0])), (q22, .inr (2, [.ref q25])), (q25, .inr (0, [.int 0, .ref d0, .int 0])), (q27, .inr (3, [w030, w131, w232, .int 0, .int ((-1)), .int ((-1)), .int ((-1))])), (q34, .inr (3, [w037, w138, w239, .int 0, .int ((-1)), .int ((-1)), .int ((-1))])), (q41, .inr (3, [w044, w145, w246, .int 0, .int ((-1)), .int ((-1)), .int ((-1))])), (q48, .inr (3, [w051, w152, w253, .int 0, .int ((-1)), .int ((-1)), .int ((-1))])), (q55, .inr (3, [w058, w159, w260, .int 0, .int ((-1)), .int ((-1)), .int ((-1))])), (q62, .inr (3, [w065, w166, w267, .int 0, .int ((-1)), .int ((-1)), .int ((-1))])), (q154, .inr (6, [v157, .int 0]))] H := hP
  have hD : va_D A [(h0, .inr (8, [.ref a1, .ref a2, .ref a3, .ref q1, .ref q3, .ref q9, .ref q11, .ref q13, .ref q16, .int i9, .ref q18, .ref q22])), (q1, .inl (t2, 6, .inr (.inr (.inr (.inr ((va_up (va_up (va_up (va_up (va_up (va_up (fun _ => none) 0 (some q27)) 1 (some q34)) 2 (some q41)) 3 (some q48)) 4 (some q55)) 5 (some q62)))))))), (q3, .inr (3, [w06, w17, w28, .int 0, .int ((-1)), .int ((-1)), .int ((-1))])), (q9, .inl (t10, 6, .inl ((fun _ => 0)))), (q11, .inl (t12, 18, .inr (.inr (.inr (.inr f152))))), (q13, .inr (0, [.int 0, .ref d0, .int 0])), (q16, .inl (t17, 240, .inl ((fun _ => 0)))), (q18, .inr (6, [v21, .int 0])), (q22, .inr (2, [.ref q25])), (q25, .inr (0, [.int 0, .ref d0, .int 0])), (q27, .inr (3, [w030, w131, w232, .int 0, .int ((-1)), .int ((-1)), .int ((-1))])), (q34, .inr (3, [w037, w138, w239, .int 0, .int ((-1)), .int ((-1)), .int ((-1))])), (q41, .inr (3, [w044, w145, w246, .int 0, .int ((-1)), .int ((-1)), .int ((-1))])), (q48, .inr (3, [w051, w152, w253, .int 0, .int ((-1)), .int ((-1)), .int ((-1))])), (q55, .inr (3, [w058, w159, w260, .int 0, .int ((-1)), .int ((-1)), .int ((-1))])), (q62, .inr (3, [w065, w166, w267, .int 0, .int ((-1)), .int ((-1)), .int ((-1))])), (q154, .inr (6, [v157, .int 0]))] := hD
  have hK : va_K (dC, dI) vwCl [(t2, .object RX2), (t10, .int), (t12, .object RX5), (t17, .int)] s := hK
  refine W.widen (k := 58) (n := 1786) (Nat.le_of_ble_eq_true rfl) (Nat.le_of_ble_eq_true rfl) ?_
  refine va_astq hx hb hK hP hD hS 4 2 16 6 rfl rfl rfl rfl (vp_in_nI (n := 14) (by decide) (by decide)) dX7_init_154 (fun H locs hP hD hS => ?_)
  have hP : va_P (dC, dI) vwCl [(h0, .inr (8, [.ref a1, .ref a2, .ref a3, .ref q1, .ref q3, .ref q9, .ref q11, .ref q13, .ref q16, .int i9, .ref q18, .ref q22])), (q1, .inl (t2, 6, .inr (.inr (.inr (.inr ((va_up (va_up (va_up (va_up (va_up (va_up (fun _ => none) 0 (some q27)) 1 (some q34)) 2 (some q41)) 3 (some q48)) 4 (some q55)) 5 (some q62)))))))), (q3, .inr (3, [w06, w17, w28, .int 0, .int ((-1)), .int ((-1)), .int ((-1))])), (q9, .inl (t10, 6, .inl ((fun _ => 0)))), (q11, .inl (t12, 18, .inr (.inr (.inr (.inr ((va_up f152 14 (some q154)))))))), (q13, .inr (0, [.int 0, .ref d0, .int 0])), (q16, .inl (t17, 240, .inl ((fun _ => 0)))), (q18, .inr (6, [v21, .int 0])), (q22, .inr (2, [.ref q25])), (q25, .inr (0, [.int 0, .ref d0, .int 0])), (q27, .inr (3, [w030, w131, w232, .int 0, .int ((-1)), .int ((-1)), .int ((-1))])), (q34, .inr (3, [w037, w138, w239, .int 0, .int ((-1)), .int ((-1)), .int ((-1))])), (q41, .inr (3, [w044, w145, w246, .int 0, .int ((-1)), .int ((-1)), .int ((-1))])), (q48, .inr (3, [w051, w152, w253, .int 0, .int ((-1)), .int ((-1)), .int ((-1))])), (q55, .inr (3, [w058, w159, w260, .int 0, .int ((-1)), .int ((-1)), .int ((-1))])), (q62, .inr (3, [w065, w166, w267, .int 0, .int ((-1)), .int ((-1)), .int ((-1))])), (q154, .inr (6, [v157, .int 0]))] H := hP
  have hD : va_D A [(h0, .inr (8, [.ref a1, .ref a2, .ref a3, .ref q1, .ref q3, .ref q9, .ref q11, .ref q13, .ref q16, .int i9, .ref q18, .ref q22])), (q1, .inl (t2, 6, .inr (.inr (.inr (.inr ((va_up (va_up (va_up (va_up (va_up (va_up (fun _ => none) 0 (some q27)) 1 (some q34)) 2 (some q41)) 3 (some q48)) 4 (some q55)) 5 (some q62)))))))), (q3, .inr (3, [w06, w17, w28, .int 0, .int ((-1)), .int ((-1)), .int ((-1))])), (q9, .inl (t10, 6, .inl ((fun _ => 0)))), (q11, .inl (t12, 18, .inr (.inr (.inr (.inr ((va_up f152 14 (some q154)))))))), (q13, .inr (0, [.int 0, .ref d0, .int 0])), (q16, .inl (t17, 240, .inl ((fun _ => 0)))), (q18, .inr (6, [v21, .int 0])), (q22, .inr (2, [.ref q25])), (q25, .inr (0, [.int 0, .ref d0, .int 0])), (q27, .inr (3, [w030, w131, w232, .int 0, .int ((-1)), .int ((-1)), .int ((-1))])), (q34, .inr (3, [w037, w138, w239, .int 0, .int ((-1)), .int ((-1)), .int ((-1))])), (q41, .inr (3, [w044, w145, w246, .int 0, .int ((-1)), .int ((-1)), .int ((-1))])), (q48, .inr (3, [w051, w152, w253, .int 0, .int ((-1)), .int ((-1)), .int ((-1))])), (q55, .inr (3, [w058, w159, w260, .int 0, .int ((-1)), .int ((-1)), .int ((-1))])), (q62, .inr (3, [w065, w166, w267, .int 0, .int ((-1)), .int ((-1)), .int ((-1))])), (q154, .inr (6, [v157, .int 0]))] := hD
  generalize (va_up f152 14 (some q154)) = f158 at hP hD
  have hP := hP.sub (ws' := [(h0, .inr (8, [.ref a1, .ref a2, .ref a3, .ref q1, .ref q3, .ref q9, .ref q11, .ref q13, .ref q16, .int i9, .ref q18, .ref q22])), (q1, .inl (t2, 6, .inr (.inr (.inr (.inr ((va_up (va_up (va_up (va_up (va_up (va_up (fun _ => none) 0 (some q27)) 1 (some q34)) 2 (some q41)) 3 (some q48)) 4 (some q55)) 5 (some q62)))))))), (q3, .inr (3, [w06, w17, w28, .int 0, .int ((-1)), .int ((-1)), .int ((-1))])), (q9, .inl (t10, 6, .inl ((fun _ => 0)))), (q11, .inl (t12, 18, .inr (.inr (.inr (.inr f158))))), (q13, .inr (0, [.int 0, .ref d0, .int 0])), (q16, .inl (t17, 240, .inl ((fun _ => 0)))), (q18, .inr (6, [v21, .int 0])), (q22, .inr (2, [.ref q25])), (q25, .inr (0, [.int 0, .ref d0, .int 0])), (q27, .inr (3, [w030, w131, w232, .int 0, .int ((-1)), .int ((-1)), .int ((-1))])), (q34, .inr (3, [w037, w138, w239, .int 0, .int ((-1)), .int ((-1)), .int ((-1))])), (q41, .inr (3, [w044, w145, w246, .int 0, .int ((-1)), .int ((-1)), .int ((-1))])), (q48, .inr (3, [w051, w152, w253, .int 0, .int ((-1)), .int ((-1)), .int ((-1))])), (q55, .inr (3, [w058, w159, w260, .int 0, .int ((-1)), .int ((-1)), .int ((-1))])), (q62, .inr (3, [w065, w166, w267, .int 0, .int ((-1)), .int ((-1)), .int ((-1))]))]) [0, 1, 2, 3, 4, 5, 6, 7, 8, 9, 10, 11, 12, 13, 14, 15] rfl
  have hD := hD.sub (ws' := [(h0, .inr (8, [.ref a1, .ref a2, .ref a3, .ref q1, .ref q3, .ref q9, .ref q11, .ref q13, .ref q16, .int i9, .ref q18, .ref q22])), (q1, .inl (t2, 6, .inr (.inr (.inr (.inr ((va_up (va_up (va_up (va_up (va_up (va_up (fun _ => none) 0 (some q27)) 1 (some q34)) 2 (some q41)) 3 (some q48)) 4 (some q55)) 5 (some q62)))))))), (q3, .inr (3, [w06, w17, w28, .int 0, .int ((-1)), .int ((-1)), .int ((-1))])), (q9, .inl (t10, 6, .inl ((fun _ => 0)))), (q11, .inl (t12, 18, .inr (.inr (.inr (.inr f158))))), (q13, .inr (0, [.int 0, .ref d0, .int 0])), (q16, .inl (t17, 240, .inl ((fun _ => 0)))), (q18, .inr (6, [v21, .int 0])), (q22, .inr (2, [.ref q25])), (q25, .inr (0, [.int 0, .ref d0, .int 0])), (q27, .inr (3, [w030, w131, w232, .int 0, .int ((-1)), .int ((-1)), .int ((-1))])), (q34, .inr (3, [w037, w138, w239, .int 0, .int ((-1)), .int ((-1)), .int ((-1))])), (q41, .inr (3, [w044, w145, w246, .int 0, .int ((-1)), .int ((-1)), .int ((-1))])), (q48, .inr (3, [w051, w152, w253, .int 0, .int ((-1)), .int ((-1)), .int ((-1))])), (q55, .inr (3, [w058, w159, w260, .int 0, .int ((-1)), .int ((-1)), .int ((-1))])), (q62, .inr (3, [w065, w166, w267, .int 0, .int ((-1)), .int ((-1)), .int ((-1))]))]) [0, 1, 2, 3, 4, 5, 6, 7, 8, 9, 10, 11, 12, 13, 14, 15] (by decide) rfl
  refine lv_iinc (v := 15) (lv' := [(4, .int 15), (0, .ref h0), (1, .ref a1), (2, .ref a2), (3, .ref a3)]) hx hb dX7_init_155 hl (k := 0) rfl (by decide) (by decide) rfl (fun ls hl => ?_)
  refine lv_goto (tgt := 131) hx hb dX7_init_158 (by decide) ?_
  refine lv_iload hx hb dX7_init_131 (lv_at hl 0 rfl) ?_
  refine lv_aload_n hx hb dX7_init_133 rfl (lv_at hl 1 rfl) ?_
  refine va_get (D := (dC, dI)) (ci := 8) (v := .ref q11) (C := RX7) (T := TX7) (N := 12) hx hb ht inGX7 hown hK hP 0 rfl rfl 6 (by decide) (ht _ q360) (fun _ h9 => h9) rfl dX7_init_134 ?_
  refine va_alen (v := 18) hx hb hK hP 4 2 rfl rfl rfl dX7_init_137 ?_
  refine lv_icmp_ge (tgt := 161) hx hb dX7_init_138 (by decide) (fun c159 => absurd c159 (by decide)) (fun c159 => ?_)
  refine lv_aload_n hx hb dX7_init_141 rfl (lv_at hl 1 rfl) ?_
  refine va_get (D := (dC, dI)) (ci := 8) (v := .ref q11) (C := RX7) (T := TX7) (N := 12) hx hb ht inGX7 hown hK hP 0 rfl rfl 6 (by decide) (ht _ q360) (fun _ h9 => h9) rfl dX7_init_142 ?_
  refine lv_iload hx hb dX7_init_145 (lv_at hl 0 rfl) ?_
  refine va_new (ci := 6) (fs := [.null, .int 0]) (C := RX5) (T := TX5) (N := 2) hx hb ht inGX5 tyX5 tyX5_ok hown (ht _ q345) (ht _ q297) (ht _ q132) hK hP hD hS hA rfl (fun j hj => by rcases (show j = 0 ∨ j = 1 by omega) with rfl | rfl <;> rfl) (Nat.le_of_ble_eq_true rfl) (Nat.le_of_ble_eq_true rfl) dX7_init_147 (fun q160 H hP hD hS => ?_)
  have hP : va_P (dC, dI) vwCl [(h0, .inr (8, [.ref a1, .ref a2, .ref a3, .ref q1, .ref q3, .ref q9, .ref q11, .ref q13, .ref q16, .int i9, .ref q18, .ref q22])), (q1, .inl (t2, 6, .inr (.inr (.inr (.inr ((va_up (va_up (va_up (va_up (va_up (va_up (fun _ => none) 0 (some q27)) 1 (some q34)) 2 (some q41)) 3 (some q48)) 4 (some q55)) 5 (some q62)))))))), (q3, .inr (3, [w06, w17, w28, .int 0, .int ((-1)), .int ((-1)), .int ((-1))])), (q9, .inl (t10, 6, .inl ((fun _ => 0)))), (q11, .inl (t12, 18, .inr (.inr (.inr (.inr f158))))), (q13, .inr (0, [.int 0, .ref d0, .int 0])), (q16, .inl (t17, 240, .inl ((fun _ => 0)))), (q18, .inr (6, [v21, .int 0])), (q22, .inr (2, [.ref q25])), (q25, .inr (0, [.int 0, .ref d0, .int 0])), (q27, .inr (3, [w030, w131, w232, .int 0, .int ((-1)), .int ((-1)), .int ((-1))])), (q34, .inr (3, [w037, w138, w239, .int 0, .int ((-1)), .int ((-1)), .int ((-1))])), (q41, .inr (3, [w044, w145, w246, .int 0, .int ((-1)), .int ((-1)), .int ((-1))])), (q48, .inr (3, [w051, w152, w253, .int 0, .int ((-1)), .int ((-1)), .int ((-1))])), (q55, .inr (3, [w058, w159, w260, .int 0, .int ((-1)), .int ((-1)), .int ((-1))])), (q62, .inr (3, [w065, w166, w267, .int 0, .int ((-1)), .int ((-1)), .int ((-1))])), (q160, .inr (6, [.null, .int 0]))] H := hP
  have hD : va_D A [(h0, .inr (8, [.ref a1, .ref a2, .ref a3, .ref q1, .ref q3, .ref q9, .ref q11, .ref q13, .ref q16, .int i9, .ref q18, .ref q22])), (q1, .inl (t2, 6, .inr (.inr (.inr (.inr ((va_up (va_up (va_up (va_up (va_up (va_up (fun _ => none) 0 (some q27)) 1 (some q34)) 2 (some q41)) 3 (some q48)) 4 (some q55)) 5 (some q62)))))))), (q3, .inr (3, [w06, w17, w28, .int 0, .int ((-1)), .int ((-1)), .int ((-1))])), (q9, .inl (t10, 6, .inl ((fun _ => 0)))), (q11, .inl (t12, 18, .inr (.inr (.inr (.inr f158))))), (q13, .inr (0, [.int 0, .ref d0, .int 0])), (q16, .inl (t17, 240, .inl ((fun _ => 0)))), (q18, .inr (6, [v21, .int 0])), (q22, .inr (2, [.ref q25])), (q25, .inr (0, [.int 0, .ref d0, .int 0])), (q27, .inr (3, [w030, w131, w232, .int 0, .int ((-1)), .int ((-1)), .int ((-1))])), (q34, .inr (3, [w037, w138, w239, .int 0, .int ((-1)), .int ((-1)), .int ((-1))])), (q41, .inr (3, [w044, w145, w246, .int 0, .int ((-1)), .int ((-1)), .int ((-1))])), (q48, .inr (3, [w051, w152, w253, .int 0, .int ((-1)), .int ((-1)), .int ((-1))])), (q55, .inr (3, [w058, w159, w260, .int 0, .int ((-1)), .int ((-1)), .int ((-1))])), (q62, .inr (3, [w065, w166, w267, .int 0, .int ((-1)), .int ((-1)), .int ((-1))])), (q160, .inr (6, [.null, .int 0]))] := hD
  refine W.widen (k := 59) (n := 1788) (Nat.le_of_ble_eq_true rfl) (Nat.le_of_ble_eq_true rfl) ?_
  refine lv_dup hx hb dX7_init_150 rfl ?_
  have hPc := hP.sub (ws' := [(q160, .inr (6, [.null, .int 0]))]) [16] rfl
  have hDc := hD.sub (ws' := [(q160, .inr (6, [.null, .int 0]))]) [16] (by decide) rfl
  have hKc := hK.sub (tys' := []) [] rfl
  have hFc := va_free (wc := [(q160, .inr (6, [.null, .int 0]))]) hD hS hA [16] rfl
  refine va_callv (va_runIN (As := []) (rest := [.ref q160, .int 15, .ref q11]) ⟨hx, hb, hml, hown, ht⟩ (k_X5_init l d0 cO dC dI H.size q160 .null 0) (my_NI ht M_X5_init q299 rfl q348 (Nat.le_of_ble_eq_true rfl) (Nat.le_of_ble_eq_true rfl)) ⟨PRE.fb, fun U hU hW => ⟨rfl, PRE.mk' hE hS hFc hPc hKc hDc U hU hW⟩⟩ rfl rfl hl.1 rfl (lv_room (Nat.le_of_ble_eq_true rfl)) dX7_init_151 ⟨(Nat.le_of_ble_eq_true rfl), (Nat.le_of_ble_eq_true rfl)⟩) hS (fun q _ h => hFc q h) hFc (fun u161 t H1 locs htt hvm hw hB hz1 hk1 hS => ?_)
  try dsimp only at hw hB
  obtain ⟨v163, hP1, hK1, hD1⟩ := hB
  rw [htt] at hP1
  have hK1 := va_K.moved hvm.symm hK1
  obtain ⟨hP, hD⟩ := va_join (wr := [(h0, .inr (8, [.ref a1, .ref a2, .ref a3, .ref q1, .ref q3, .ref q9, .ref q11, .ref q13, .ref q16, .int i9, .ref q18, .ref q22])), (q1, .inl (t2, 6, .inr (.inr (.inr (.inr ((va_up (va_up (va_up (va_up (va_up (va_up (fun _ => none) 0 (some q27)) 1 (some q34)) 2 (some q41)) 3 (some q48)) 4 (some q55)) 5 (some q62)))))))), (q3, .inr (3, [w06, w17, w28, .int 0, .int ((-1)), .int ((-1)), .int ((-1))])), (q9, .inl (t10, 6, .inl ((fun _ => 0)))), (q11, .inl (t12, 18, .inr (.inr (.inr (.inr f158))))), (q13, .inr (0, [.int 0, .ref d0, .int 0])), (q16, .inl (t17, 240, .inl ((fun _ => 0)))), (q18, .inr (6, [v21, .int 0])), (q22, .inr (2, [.ref q25])), (q25, .inr (0, [.int 0, .ref d0, .int 0])), (q27, .inr (3, [w030, w131, w232, .int 0, .int ((-1)), .int ((-1)), .int ((-1))])), (q34, .inr (3, [w037, w138, w239, .int 0, .int ((-1)), .int ((-1)), .int ((-1))])), (q41, .inr (3, [w044, w145, w246, .int 0, .int ((-1)), .int ((-1)), .int ((-1))])), (q48, .inr (3, [w051, w152, w253, .int 0, .int ((-1)), .int ((-1)), .int ((-1))])), (q55, .inr (3, [w058, w159, w260, .int 0, .int ((-1)), .int ((-1)), .int ((-1))])), (q62, .inr (3, [w065, w166, w267, .int 0, .int ((-1)), .int ((-1)), .int ((-1))]))]) (w1 := [(q160, .inr (6, [v163, .int 0]))]) hP hD [16] [0, 1, 2, 3, 4, 5, 6, 7, 8, 9, 10, 11, 12, 13, 14, 15] rfl rfl (by decide) (by decide) hk1 hFc hP1 hD1
  have hK := (hK.sub (tys' := [(t2, .object RX2), (t10, .int), (t12, .object RX5), (t17, .int)]) [0, 1, 2, 3] rfl).app hK1
  generalize H1 = H at hP hS ⊢
  have hP : va_P (dC, dI) vwCl [(h0, .inr (8, [.ref a1, .ref a2, .ref a3, .ref q1, .ref q3, .ref q9, .ref q11, .ref q13, .ref q16, .int i9, .ref q18, .ref q22])), (q1, .inl (t2, 6, .inr (.inr (.inr (.inr ((va_up (va_up (va_up (va_up (va_up (va_up (fun _ => none) 0 (some q27)) 1 (some q34)) 2 (some q41)) 3 (some q48)) 4 (some q55)) 5 (some q62)))))))), (q3, .inr (3, [w06, w17, w28, .int 0, .int ((-1)), .int ((-1)), .int ((-1))])), (q9, .inl (t10, 6, .inl ((fun _ => 0)))), (q11, .inl (t12, 18, .inr (.inr (.inr (.inr f158))))), (q13, .inr (0, [.int 0, .ref d0, .int 0])), (q16, .inl (t17, 240, .inl ((fun _ => 0)))), (q18, .inr (6, [v21, .int 0])), (q22, .inr (2, [.ref q25])), (q25, .inr (0, [.int 0, .ref d0, .int 0])), (q27, .inr (3, [w030, w131, w232, .int 0, .int ((-1)), .int ((-1)), .int ((-1))])), (q34, .inr (3, [w037, w138, w239, .int 0, .int ((-1)), .int ((-1)), .int ((-1))])), (q41, .inr (3, [w044, w145, w246, .int 0, .int ((-1)), .int ((-1)), .int ((-1))])), (q48, .inr (3, [w051, w152, w253, .int 0, .int ((-1)), .int ((-1)), .int ((-1))])), (q55, .inr (3, [w058, w159, w260, .int 0, .int ((-1)), .int ((-1)), .int ((-1))])), (q62, .inr (3, [w065, w166, w267, .int 0, .int ((-1)), .int ((-1)), .int ((-1))])), (q160, .inr (6, [v163, .int 0]))] H := hP
  have hD : va_D A [(h0, .inr (8, [.ref a1, .ref a2, .ref a3, .ref q1, .ref q3, .ref q9, .ref q11, .ref q13, .ref q16, .int i9, .ref q18, .ref q22])), (q1, .inl (t2, 6, .inr (.inr (.inr (.inr ((va_up (va_up (va_up (va_up (va_up (va_up (fun _ => none) 0 (some q27)) 1 (some q34)) 2 (some q41)) 3 (some q48)) 4 (some q55)) 5 (some q62)))))))), (q3, .inr (3, [w06, w17, w28, .int 0, .int ((-1)), .int ((-1)), .int ((-1))])), (q9, .inl (t10, 6, .inl ((fun _ => 0)))), (q11, .inl (t12, 18, .inr (.inr (.inr (.inr f158))))), (q13, .inr (0, [.int 0, .ref d0, .int 0])), (q16, .inl (t17, 240, .inl ((fun _ => 0)))), (q18, .inr (6, [v21, .int 0])), (q22, .inr (2, [.ref q25])), (q25, .inr (0, [.int 0, .ref d0, .int 0])), (q27, .inr (3, [w030, w131, w232, .int 0, .int ((-1)), .int ((-1)), .int ((-1))])), (q34, .inr (3, [w037, w138, w239, .int 0, .int ((-1)), .int ((-1)), .int ((-1))])), (q41, .inr (3, [w044, w145, w246, .int 0, .int ((-1)), .int ((-1)), .int ((-1))])), (q48, .inr (3, [w051, w152, w253, .int 0, .int ((-1)), .int ((-1)), .int ((-1))])), (q55, .inr (3, [w058, w159, w260, .int 0, .int ((-1)), .int ((-1)), .int ((-1))])), (q62, .inr (3, [w065, w166, w267, .int 0, .int ((-1)), .int ((-1)), .int ((-1))])), (q160, .inr (6, [v163, .int 0]))] := hD
  have hK : va_K (dC, dI) vwCl [(t2, .object RX2), (t10, .int), (t12, .object RX5), (t17, .int)] s := hK
  refine W.widen (k := 59) (n := 1788) (Nat.le_of_ble_eq_true rfl) (Nat.le_of_ble_eq_true rfl) ?_
  refine va_astq hx hb hK hP hD hS 4 2 16 6 rfl rfl rfl rfl (vp_in_nI (n := 15) (by decide) (by decide)) dX7_init_154 (fun H locs hP hD hS => ?_)
  have hP : va_P (dC, dI) vwCl [(h0, .inr (8, [.ref a1, .ref a2, .ref a3, .ref q1, .ref q3, .ref q9, .ref q11, .ref q13, .ref q16, .int i9, .ref q18, .ref q22])), (q1, .inl (t2, 6, .inr (.inr (.inr (.inr ((va_up (va_up (va_up (va_up (va_up (va_up (fun _ => none) 0 (some q27)) 1 (some q34)) 2 (some q41)) 3 (some q48)) 4 (some q55)) 5 (some q62)))))))), (q3, .inr (3, [w06, w17, w28, .int 0, .int ((-1)), .int ((-1)), .int ((-1))])), (q9, .inl (t10, 6, .inl ((fun _ => 0)))), (q11, .inl (t12, 18, .inr (.inr (.inr (.inr ((va_up f158 15 (some q160)))))))), (q13, .inr (0, [.int 0, .ref d0, .int 0])), (q16, .inl (t17, 240, .inl ((fun _ => 0)))), (q18, .inr (6, [v21, .int 0])), (q22, .inr (2, [.ref q25])), (q25, .inr (0, [.int 0, .ref d0, .int 0])), (q27, .inr (3, [w030, w131, w232, .int 0, .int ((-1)), .int ((-1)), .int ((-1))])), (q34, .inr (3, [w037, w138, w239, .int 0, .int ((-1)), .int ((-1)), .int ((-1))])), (q41, .inr (3, [w044, w145, w246, .int 0, .int ((-1)), .int ((-1)), .int ((-1))])), (q48, .inr (3, [w051, w152, w253, .int 0, .int ((-1)), .int ((-1)), .int ((-1))])), (q55, .inr (3, [w058, w159, w260, .int 0, .int ((-1)), .int ((-1)), .int ((-1))])), (q62, .inr (3, [w065, w166, w267, .int 0, .int ((-1)), .int ((-1)), .int ((-1))])), (q160, .inr (6, [v163, .int 0]))] H := hP
  have hD : va_D A [(h0, .inr (8, [.ref a1, .ref a2, .ref a3, .ref q1, .ref q3, .ref q9, .ref q11, .ref q13, .ref q16, .int i9, .ref q18, .ref q22])), (q1, .inl (t2, 6, .inr (.inr (.inr (.inr ((va_up (va_up (va_up (va_up (va_up (va_up (fun _ => none) 0 (some q27)) 1 (some q34)) 2 (some q41)) 3 (some q48)) 4 (some q55)) 5 (some q62)))))))), (q3, .inr (3, [w06, w17, w28, .int 0, .int ((-1)), .int ((-1)), .int ((-1))])), (q9, .inl (t10, 6, .inl ((fun _ => 0)))), (q11, .inl (t12, 18, .inr (.inr (.inr (.inr ((va_up f158 15 (some q160)))))))), (q13, .inr (0, [.int 0, .ref d0, .int 0])), (q16, .inl (t17, 240, .inl ((fun _ => 0)))), (q18, .inr (6, [v21, .int 0])), (q22, .inr (2, [.ref q25])), (q25, .inr (0, [.int 0, .ref d0, .int 0])), (q27, .inr (3, [w030, w131, w232, .int 0, .int ((-1)), .int ((-1)), .int ((-1))])), (q34, .inr (3, [w037, w138, w239, .int 0, .int ((-1)), .int ((-1)), .int ((-1))])), (q41, .inr (3, [w044, w145, w246, .int 0, .int ((-1)), .int ((-1)), .int ((-1))])), (q48, .inr (3, [w051, w152, w253, .int 0, .int ((-1)), .int ((-1)), .int ((-1))])), (q55, .inr (3, [w058, w159, w260, .int 0, .int ((-1)), .int ((-1)), .int ((-1))])), (q62, .inr (3, [w065, w166, w267, .int 0, .int ((-1)), .int ((-1)), .int ((-1))])), (q160, .inr (6, [v163, .int 0]))] := hD
  generalize (va_up f158 15 (some q160)) = f164 at hP hD
  have hP := hP.sub (ws' := [(h0, .inr (8, [.ref a1, .ref a2, .ref a3, .ref q1, .ref q3, .ref q9, .ref q11, .ref q13, .ref q16, .int i9, .ref q18, .ref q22])), (q1, .inl (t2, 6, .inr (.inr (.inr (.inr ((va_up (va_up (va_up (va_up (va_up (va_up (fun _ => none) 0 (some q27)) 1 (some q34)) 2 (some q41)) 3 (some q48)) 4 (some q55)) 5 (some q62)))))))), (q3, .inr (3, [w06, w17, w28, .int 0, .int ((-1)), .int ((-1)), .int ((-1))])), (q9, .inl (t10, 6, .inl ((fun _ => 0)))), (q11, .inl (t12, 18, .inr (.inr (.inr (.inr f164))))), (q13, .inr (0, [.int 0, .ref d0, .int 0])), (q16, .inl (t17, 240, .inl ((fun _ => 0)))), (q18, .inr (6, [v21, .int 0])), (q22, .inr (2, [.ref q25])), (q25, .inr (0, [.int 0, .ref d0, .int 0])), (q27, .inr (3, [w030, w131, w232, .int 0, .int ((-1)), .int ((-1)), .int ((-1))])), (q34, .inr (3, [w037, w138, w239, .int 0, .int ((-1)), .int ((-1)), .int ((-1))])), (q41, .inr (3, [w044, w145, w246, .int 0, .int ((-1)), .int ((-1)), .int ((-1))])), (q48, .inr (3, [w051, w152, w253, .int 0, .int ((-1)), .int ((-1)), .int ((-1))])), (q55, .inr (3, [w058, w159, w260, .int 0, .int ((-1)), .int ((-1)), .int ((-1))])), (q62, .inr (3, [w065, w166, w267, .int 0, .int ((-1)), .int ((-1)), .int ((-1))]))]) [0, 1, 2, 3, 4, 5, 6, 7, 8, 9, 10, 11, 12, 13, 14, 15] rfl
  have hD := hD.sub (ws' := [(h0, .inr (8, [.ref a1, .ref a2, .ref a3, .ref q1, .ref q3, .ref q9, .ref q11, .ref q13, .ref q16, .int i9, .ref q18, .ref q22])), (q1, .inl (t2, 6, .inr (.inr (.inr (.inr ((va_up (va_up (va_up (va_up (va_up (va_up (fun _ => none) 0 (some q27)) 1 (some q34)) 2 (some q41)) 3 (some q48)) 4 (some q55)) 5 (some q62)))))))), (q3, .inr (3, [w06, w17, w28, .int 0, .int ((-1)), .int ((-1)), .int ((-1))])), (q9, .inl (t10, 6, .inl ((fun _ => 0)))), (q11, .inl (t12, 18, .inr (.inr (.inr (.inr f164))))), (q13, .inr (0, [.int 0, .ref d0, .int 0])), (q16, .inl (t17, 240, .inl ((fun _ => 0)))), (q18, .inr (6, [v21, .int 0])), (q22, .inr (2, [.ref q25])), (q25, .inr (0, [.int 0, .ref d0, .int 0])), (q27, .inr (3, [w030, w131, w232, .int 0, .int ((-1)), .int ((-1)), .int ((-1))])), (q34, .inr (3, [w037, w138, w239, .int 0, .int ((-1)), .int ((-1)), .int ((-1))])), (q41, .inr (3, [w044, w145, w246, .int 0, .int ((-1)), .int ((-1)), .int ((-1))])), (q48, .inr (3, [w051, w152, w253, .int 0, .int ((-1)), .int ((-1)), .int ((-1))])), (q55, .inr (3, [w058, w159, w260, .int 0, .int ((-1)), .int ((-1)), .int ((-1))])), (q62, .inr (3, [w065, w166, w267, .int 0, .int ((-1)), .int ((-1)), .int ((-1))]))]) [0, 1, 2, 3, 4, 5, 6, 7, 8, 9, 10, 11, 12, 13, 14, 15] (by decide) rfl
  refine lv_iinc (v := 16) (lv' := [(4, .int 16), (0, .ref h0), (1, .ref a1), (2, .ref a2), (3, .ref a3)]) hx hb dX7_init_155 hl (k := 0) rfl (by decide) (by decide) rfl (fun ls hl => ?_)
  refine lv_goto (tgt := 131) hx hb dX7_init_158 (by decide) ?_
  refine lv_iload hx hb dX7_init_131 (lv_at hl 0 rfl) ?_
  refine lv_aload_n hx hb dX7_init_133 rfl (lv_at hl 1 rfl) ?_
  refine va_get (D := (dC, dI)) (ci := 8) (v := .ref q11) (C := RX7) (T := TX7) (N := 12) hx hb ht inGX7 hown hK hP 0 rfl rfl 6 (by decide) (ht _ q360) (fun _ h9 => h9) rfl dX7_init_134 ?_
  refine va_alen (v := 18) hx hb hK hP 4 2 rfl rfl rfl dX7_init_137 ?_
  refine lv_icmp_ge (tgt := 161) hx hb dX7_init_138 (by decide) (fun c165 => absurd c165 (by decide)) (fun c165 => ?_)
  refine lv_aload_n hx hb dX7_init_141 rfl (lv_at hl 1 rfl) ?_
  refine va_get (D := (dC, dI)) (ci := 8) (v := .ref q11) (C := RX7) (T := TX7) (N := 12) hx hb ht inGX7 hown hK hP 0 rfl rfl 6 (by decide) (ht _ q360) (fun _ h9 => h9) rfl dX7_init_142 ?_
  refine lv_iload hx hb dX7_init_145 (lv_at hl 0 rfl) ?_
  refine va_new (ci := 6) (fs := [.null, .int 0]) (C := RX5) (T := TX5) (N := 2) hx hb ht inGX5 tyX5 tyX5_ok hown (ht _ q345) (ht _ q297) (ht _ q132) hK hP hD hS hA rfl (fun j hj => by rcases (show j = 0 ∨ j = 1 by omega) with rfl | rfl <;> rfl) (Nat.le_of_ble_eq_true rfl) (Nat.le_of_ble_eq_true rfl) dX7_init_147 (fun q166 H hP hD hS => ?_)
  have hP : va_P (dC, dI) vwCl [(h0, .inr (8, [.ref a1, .ref a2, .ref a3, .ref q1, .ref q3, .ref q9, .ref q11, .ref q13, .ref q16, .int i9, .ref q18, .ref q22])), (q1, .inl (t2, 6, .inr (.inr (.inr (.inr ((va_up (va_up (va_up (va_up (va_up (va_up (fun _ => none) 0 (some q27)) 1 (some q34)) 2 (some q41)) 3 (some q48)) 4 (some q55)) 5 (some q62)))))))), (q3, .inr (3, [w06, w17, w28, .int 0, .int ((-1)), .int ((-1)), .int ((-1))])), (q9, .inl (t10, 6, .inl ((fun _ => 0)))), (q11, .inl (t12, 18, .inr (.inr (.inr (.inr f164))))), (q13, .inr (0, [.int 0, .ref d0, .int 0])), (q16, .inl (t17, 240, .inl ((fun _ => 0)))), (q18, .inr (6, [v21, .int 0])), (q22, .inr (2, [.ref q25])), (q25, .inr (0, [.int 0, .ref d0, .int 0])), (q27, .inr (3, [w030, w131, w232, .int 0, .int ((-1)), .int ((-1)), .int ((-1))])), (q34, .inr (3, [w037, w138, w239, .int 0, .int ((-1)), .int ((-1)), .int ((-1))])), (q41, .inr (3, [w044, w145, w246, .int 0, .int ((-1)), .int ((-1)), .int ((-1))])), (q48, .inr (3, [w051, w152, w253, .int 0, .int ((-1)), .int ((-1)), .int ((-1))])), (q55, .inr (3, [w058, w159, w260, .int 0, .int ((-1)), .int ((-1)), .int ((-1))])), (q62, .inr (3, [w065, w166, w267, .int 0, .int ((-1)), .int ((-1)), .int ((-1))])), (q166, .inr (6, [.null, .int 0]))] H := hP
  have hD : va_D A [(h0, .inr (8, [.ref a1, .ref a2, .ref a3, .ref q1, .ref q3, .ref q9, .ref q11, .ref q13, .ref q16, .int i9, .ref q18, .ref q22])), (q1, .inl (t2, 6, .inr (.inr (.inr (.inr ((va_up (va_up (va_up (va_up (va_up (va_up (fun _ => none) 0 (some q27)) 1 (some q34)) 2 (some q41)) 3 (some q48)) 4 (some q55)) 5 (some q62)))))))), (q3, .inr (3, [w06, w17, w28, .int 0, .int ((-1)), .int ((-1)), .int ((-1))])), (q9, .inl (t10, 6, .inl ((fun _ => 0)))), (q11, .inl (t12, 18, .inr (.inr (.inr (.inr f164))))), (q13, .inr (0, [.int 0, .ref d0, .int 0])), (q16, .inl (t17, 240, .inl ((fun _ => 0)))), (q18, .inr (6, [v21, .int 0])), (q22, .inr (2, [.ref q25])), (q25, .inr (0, [.int 0, .ref d0, .int 0])), (q27, .inr (3, [w030, w131, w232, .int 0, .int ((-1)), .int ((-1)), .int ((-1))])), (q34, .inr (3, [w037, w138, w239, .int 0, .int ((-1)), .int ((-1)), .int ((-1))])), (q41, .inr (3, [w044, w145, w246, .int 0, .int ((-1)), .int ((-1)), .int ((-1))])), (q48, .inr (3, [w051, w152, w253, .int 0, .int ((-1)), .int ((-1)), .int ((-1))])), (q55, .inr (3, [w058, w159, w260, .int 0, .int ((-1)), .int ((-1)), .int ((-1))])), (q62, .inr (3, [w065, w166, w267, .int 0, .int ((-1)), .int ((-1)), .int ((-1))])), (q166, .inr (6, [.null, .int 0]))] := hD
  refine W.widen (k := 60) (n := 1790) (Nat.le_of_ble_eq_true rfl) (Nat.le_of_ble_eq_true rfl) ?_
  refine lv_dup hx hb dX7_init_150 rfl ?_
  have hPc := hP.sub (ws' := [(q166, .inr (6, [.null, .int 0]))]) [16] rfl
  have hDc := hD.sub (ws' := [(q166, .inr (6, [.null, .int 0]))]) [16] (by decide) rfl
  have hKc := hK.sub (tys' := []) [] rfl
  have hFc := va_free (wc := [(q166, .inr (6, [.null, .int 0]))]) hD hS hA [16] rfl
  refine va_callv (va_runIN (As := []) (rest := [.ref q166, .int 16, .ref q11]) ⟨hx, hb, hml, hown, ht⟩ (k_X5_init l d0 cO dC dI H.size q166 .null 0) (my_NI ht M_X5_init q299 rfl q348 (Nat.le_of_ble_eq_true rfl) (Nat.le_of_ble_eq_true rfl)) ⟨PRE.fb, fun U hU hW => ⟨rfl, PRE.mk' hE hS hFc hPc hKc hDc U hU hW⟩⟩ rfl rfl hl.1 rfl (lv_room (Nat.le_of_ble_eq_true rfl)) dX7_init_151 ⟨(Nat.le_of_ble_eq_true rfl), (Nat.le_of_ble_eq_true rfl)⟩) hS (fun q _ h => hFc q h) hFc (fun u167 t H1 locs htt hvm hw hB hz1 hk1 hS => ?_)
  try dsimp only at hw hB
  obtain ⟨v169, hP1, hK1, hD1⟩ := hB
  rw [htt] at hP1
  have hK1 := va_K.moved hvm.symm hK1
  obtain ⟨hP, hD⟩ := va_join (wr := [(h0, .inr (8, [.ref a1, .ref a2, .ref a3, .ref q1, .ref q3, .ref q9, .ref q11, .ref q13, .ref q16, .int i9, .ref q18, .ref q22])), (q1, .inl (t2, 6, .inr (.inr (.inr (.inr ((va_up (va_up (va_up (va_up (va_up (va_up (fun _ => none) 0 (some q27)) 1 (some q34)) 2 (some q41)) 3 (some q48)) 4 (some q55)) 5 (some q62)))))))), (q3, .inr (3, [w06, w17, w28, .int 0, .int ((-1)), .int ((-1)), .int ((-1))])), (q9, .inl (t10, 6, .inl ((fun _ => 0)))), (q11, .inl (t12, 18, .inr (.inr (.inr (.inr f164))))), (q13, .inr (0, [.int 0, .ref d0, .int 0])), (q16, .inl (t17, 240, .inl ((fun _ => 0)))), (q18, .inr (6, [v21, .int 0])), (q22, .inr (2, [.ref q25])), (q25, .inr (0, [.int 0, .ref d0, .int 0])), (q27, .inr (3, [w030, w131, w232, .int 0, .int ((-1)), .int ((-1)), .int ((-1))])), (q34, .inr (3, [w037, w138, w239, .int 0, .int ((-1)), .int ((-1)), .int ((-1))])), (q41, .inr (3, [w044, w145, w246, .int 0, .int ((-1)), .int ((-1)), .int ((-1))])), (q48, .inr (3, [w051, w152, w253, .int 0, .int ((-1)), .int ((-1)), .int ((-1))])), (q55, .inr (3, [w058, w159, w260, .int 0, .int ((-1)), .int ((-1)), .int ((-1))])), (q62, .inr (3, [w065, w166, w267, .int 0, .int ((-1)), .int ((-1)), .int ((-1))]))]) (w1 := [(q166, .inr (6, [v169, .int 0]))]) hP hD [16] [0, 1, 2, 3, 4, 5, 6, 7, 8, 9, 10, 11, 12, 13, 14, 15] rfl rfl (by decide) (by decide) hk1 hFc hP1 hD1
  have hK := (hK.sub (tys' := [(t2, .object RX2), (t10, .int), (t12, .object RX5), (t17, .int)]) [0, 1, 2, 3] rfl).app hK1
  generalize H1 = H at hP hS ⊢
  have hP : va_P (dC, dI) vwCl [(h0, .inr (8, [.ref a1, .ref a2, .ref a3, .ref q1, .ref q3, .ref q9, .ref q11, .ref q13, .ref q16, .int i9, .ref q18, .ref q22])), (q1, .inl (t2, 6, .inr (.inr (.inr (.inr ((va_up (va_up (va_up (va_up (va_up (va_up (fun _ => none) 0 (some q27)) 1 (some q34)) 2 (some q41)) 3 (some q48)) 4 (some q55)) 5 (some q62)))))))), (q3, .inr (3, [w06, w17, w28, .int 0, .int ((-1)), .int ((-1)), .int ((-1))])), (q9, .inl (t10, 6, .inl ((fun _ => 0)))), (q11, .inl (t12, 18, .inr (.inr (.inr (.inr f164))))), (q13, .inr (0, [.int 0, .ref d0, .int 0])), (q16, .inl (t17, 240, .inl ((fun _ => 0)))), (q18, .inr (6, [v21, .int 0])), (q22, .inr (2, [.ref q25])), (q25, .inr (0, [.int 0, .ref d0, .int 0])), (q27, .inr (3, [w030, w131, w232, .int 0, .int ((-1)), .int ((-1)), .int ((-1))])), (q34, .inr (3, [w037, w138, w239, .int 0, .int ((-1)), .int ((-1)), .int ((-1))])), (q41, .inr (3, [w044, w145, w246, .int 0, .int ((-1)), .int ((-1)), .int ((-1))])), (q48, .inr (3, [w051, w152, w253, .int 0, .int ((-1)), .int ((-1)), .int ((-1))])), (q55, .inr (3, [w058, w159, w260, .int 0, .int ((-1)), .int ((-1)), .int ((-1))])), (q62, .inr (3, [w065, w166, w267, .int 0, .int ((-1)), .int ((-1)), .int ((-1))])), (q166, .inr (6, [v169, .int 0]))] H := hP
  have hD : va_D A [(h0, .inr (8, [.ref a1, .ref a2, .ref a3, .ref q1, .ref q3, .ref q9, .ref q11, .ref q13, .ref q16, .int i9, .ref q18, .ref q22])), (q1, .inl (t2, 6, .inr (.inr (.inr (.inr ((va_up (va_up (va_up (va_up (va_up (va_up (fun _ => none) 0 (some q27)) 1 (some q34)) 2 (some q41)) 3 (some q48)) 4 (some q55)) 5 (some q62)))))))), (q3, .inr (3, [w06, w17, w28, .int 0, .int ((-1)), .int ((-1)), .int ((-1))])), (q9, .inl (t10, 6, .inl ((fun _ => 0)))), (q11, .inl (t12, 18, .inr (.inr (.inr (.inr f164))))), (q13, .inr (0, [.int 0, .ref d0, .int 0])), (q16, .inl (t17, 240, .inl ((fun _ => 0)))), (q18, .inr (6, [v21, .int 0])), (q22, .inr (2, [.ref q25])), (q25, .inr (0, [.int 0, .ref d0, .int 0])), (q27, .inr (3, [w030, w131, w232, .int 0, .int ((-1)), .int ((-1)), .int ((-1))])), (q34, .inr (3, [w037, w138, w239, .int 0, .int ((-1)), .int ((-1)), .int ((-1))])), (q41, .inr (3, [w044, w145, w246, .int 0, .int ((-1)), .int ((-1)), .int ((-1))])), (q48, .inr (3, [w051, w152, w253, .int 0, .int ((-1)), .int ((-1)), .int ((-1))])), (q55, .inr (3, [w058, w159, w260, .int 0, .int ((-1)), .int ((-1)), .int ((-1))])), (q62, .inr (3, [w065, w166, w267, .int 0, .int ((-1)), .int ((-1)), .int ((-1))])), (q166, .inr (6, [v169, .int 0]))] := hD
  have hK : va_K (dC, dI) vwCl [(t2, .object RX2), (t10, .int), (t12, .object RX5), (t17, .int)] s := hK
  refine W.widen (k := 60) (n := 1790) (Nat.le_of_ble_eq_true rfl) (Nat.le_of_ble_eq_true rfl) ?_
  refine va_astq hx hb hK hP hD hS 4 2 16 6 rfl rfl rfl rfl (vp_in_nI (n := 16) (by decide) (by decide)) dX7_init_154 (fun H locs hP hD hS => ?_)
  have hP : va_P (dC, dI) vwCl [(h0, .inr (8, [.ref a1, .ref a2, .ref a3, .ref q1, .ref q3, .ref q9, .ref q11, .ref q13, .ref q16, .int i9, .ref q18, .ref q22])), (q1, .inl (t2, 6, .inr (.inr (.inr (.inr ((va_up (va_up (va_up (va_up (va_up (va_up (fun _ => none) 0 (some q27)) 1 (some q34)) 2 (some q41)) 3 (some q48)) 4 (some q55)) 5 (some q62)))))))), (q3, .inr (3, [w06, w17, w28, .int 0, .int ((-1)), .int ((-1)), .int ((-1))])), (q9, .inl (t10, 6, .inl ((fun _ => 0)))), (q11, .inl (t12, 18, .inr (.inr (.inr (.inr ((va_up f164 16 (some q166)))))))), (q13, .inr (0, [.int 0, .ref d0, .int 0])), (q16, .inl (t17, 240, .inl ((fun _ => 0)))), (q18, .inr (6, [v21, .int 0])), (q22, .inr (2, [.ref q25])), (q25, .inr (0, [.int 0, .ref d0, .int 0])), (q27, .inr (3, [w030, w131, w232, .int 0, .int ((-1)), .int ((-1)), .int ((-1))])), (q34, .inr (3, [w037, w138, w239, .int 0, .int ((-1)), .int ((-1)), .int ((-1))])), (q41, .inr (3, [w044, w145, w246, .int 0, .int ((-1)), .int ((-1)), .int ((-1))])), (q48, .inr (3, [w051, w152, w253, .int 0, .int ((-1)), .int ((-1)), .int ((-1))])), (q55, .inr (3, [w058, w159, w260, .int 0, .int ((-1)), .int ((-1)), .int ((-1))])), (q62, .inr (3, [w065, w166, w267, .int 0, .int ((-1)), .int ((-1)), .int ((-1))])), (q166, .inr (6, [v169, .int 0]))] H := hP
  have hD : va_D A [(h0, .inr (8, [.ref a1, .ref a2, .ref a3, .ref q1, .ref q3, .ref q9, .ref q11, .ref q13, .ref q16, .int i9, .ref q18, .ref q22])), (q1, .inl (t2, 6, .inr (.inr (.inr (.inr ((va_up (va_up (va_up (va_up (va_up (va_up (fun _ => none) 0 (some q27)) 1 (some q34)) 2 (some q41)) 3 (some q48)) 4 (some q55)) 5 (some q62)))))))), (q3, .inr (3, [w06, w17, w28, .int 0, .int ((-1)), .int ((-1)), .int ((-1))])), (q9, .inl (t10, 6, .inl ((fun _ => 0)))), (q11, .inl (t12, 18, .inr (.inr (.inr (.inr ((va_up f164 16 (some q166)))))))), (q13, .inr (0, [.int 0, .ref d0, .int 0])), (q16, .inl (t17, 240, .inl ((fun _ => 0)))), (q18, .inr (6, [v21, .int 0])), (q22, .inr (2, [.ref q25])), (q25, .inr (0, [.int 0, .ref d0, .int 0])), (q27, .inr (3, [w030, w131, w232, .int 0, .int ((-1)), .int ((-1)), .int ((-1))])), (q34, .inr (3, [w037, w138, w239, .int 0, .int ((-1)), .int ((-1)), .int ((-1))])), (q41, .inr (3, [w044, w145, w246, .int 0, .int ((-1)), .int ((-1)), .int ((-1))])), (q48, .inr (3, [w051, w152, w253, .int 0, .int ((-1)), .int ((-1)), .int ((-1))])), (q55, .inr (3, [w058, w159, w260, .int 0, .int ((-1)), .int ((-1)), .int ((-1))])), (q62, .inr (3, [w065, w166, w267, .int 0, .int ((-1)), .int ((-1)), .int ((-1))])), (q166, .inr (6, [v169, .int 0]))] := hD
  generalize (va_up f164 16 (some q166)) = f170 at hP hD
  have hP := hP.sub (ws' := [(h0, .inr (8, [.ref a1, .ref a2, .ref a3, .ref q1, .ref q3, .ref q9, .ref q11, .ref q13, .ref q16, .int i9, .ref q18, .ref q22])), (q1, .inl (t2, 6, .inr (.inr (.inr (.inr ((va_up (va_up (va_up (va_up (va_up (va_up (fun _ => none) 0 (some q27)) 1 (some q34)) 2 (some q41)) 3 (some q48)) 4 (some q55)) 5 (some q62)))))))), (q3, .inr (3, [w06, w17, w28, .int 0, .int ((-1)), .int ((-1)), .int ((-1))])), (q9, .inl (t10, 6, .inl ((fun _ => 0)))), (q11, .inl (t12, 18, .inr (.inr (.inr (.inr f170))))), (q13, .inr (0, [.int 0, .ref d0, .int 0])), (q16, .inl (t17, 240, .inl ((fun _ => 0)))), (q18, .inr (6, [v21, .int 0])), (q22, .inr (2, [.ref q25])), (q25, .inr (0, [.int 0, .ref d0, .int 0])), (q27, .inr (3, [w030, w131, w232, .int 0, .int ((-1)), .int ((-1)), .int ((-1))])), (q34, .inr (3, [w037, w138, w239, .int 0, .int ((-1)), .int ((-1)), .int ((-1))])), (q41, .inr (3, [w044, w145, w246, .int 0, .int ((-1)), .int ((-1)), .int ((-1))])), (q48, .inr (3, [w051, w152, w253, .int 0, .int ((-1)), .int ((-1)), .int ((-1))])), (q55, .inr (3, [w058, w159, w260, .int 0, .int ((-1)), .int ((-1)), .int ((-1))])), (q62, .inr (3, [w065, w166, w267, .int 0, .int ((-1)), .int ((-1)), .int ((-1))]))]) [0, 1, 2, 3, 4, 5, 6, 7, 8, 9, 10, 11, 12, 13, 14, 15] rfl
  have hD := hD.sub (ws' := [(h0, .inr (8, [.ref a1, .ref a2, .ref a3, .ref q1, .ref q3, .ref q9, .ref q11, .ref q13, .ref q16, .int i9, .ref q18, .ref q22])), (q1, .inl (t2, 6, .inr (.inr (.inr (.inr ((va_up (va_up (va_up (va_up (va_up (va_up (fun _ => none) 0 (some q27)) 1 (some q34)) 2 (some q41)) 3 (some q48)) 4 (some q55)) 5 (some q62)))))))), (q3, .inr (3, [w06, w17, w28, .int 0, .int ((-1)), .int ((-1)), .int ((-1))])), (q9, .inl (t10, 6, .inl ((fun _ => 0)))), (q11, .inl (t12, 18, .inr (.inr (.inr (.inr f170))))), (q13, .inr (0, [.int 0, .ref d0, .int 0])), (q16, .inl (t17, 240, .inl ((fun _ => 0)))), (q18, .inr (6, [v21, .int 0])), (q22, .inr (2, [.ref q25])), (q25, .inr (0, [.int 0, .ref d0, .int 0])), (q27, .inr (3, [w030, w131, w232, .int 0, .int ((-1)), .int ((-1)), .int ((-1))])), (q34, .inr (3, [w037, w138, w239, .int 0, .int ((-1)), .int ((-1)), .int ((-1))])), (q41, .inr (3, [w044, w145, w246, .int 0, .int ((-1)), .int ((-1)), .int ((-1))])), (q48, .inr (3, [w051, w152, w253, .int 0, .int ((-1)), .int ((-1)), .int ((-1))])), (q55, .inr (3, [w058, w159, w260, .int 0, .int ((-1)), .int ((-1)), .int ((-1))])), (q62, .inr (3, [w065, w166, w267, .int 0, .int ((-1)), .int ((-1)), .int ((-1))]))]) [0, 1, 2, 3, 4, 5, 6, 7, 8, 9, 10, 11, 12, 13, 14, 15] (by decide) rfl
  refine lv_iinc (v := 17) (lv' := [(4, .int 17), (0, .ref h0), (1, .ref a1), (2, .ref a2), (3, .ref a3)]) hx hb dX7_init_155 hl (k := 0) rfl (by decide) (by decide) rfl (fun ls hl => ?_)
  refine lv_goto (tgt := 131) hx hb dX7_init_158 (by decide) ?_
  refine lv_iload hx hb dX7_init_131 (lv_at hl 0 rfl) ?_
  refine lv_aload_n hx hb dX7_init_133 rfl (lv_at hl 1 rfl) ?_
  refine va_get (D := (dC, dI)) (ci := 8) (v := .ref q11) (C := RX7) (T := TX7) (N := 12) hx hb ht inGX7 hown hK hP 0 rfl rfl 6 (by decide) (ht _ q360) (fun _ h9 => h9) rfl dX7_init_134 ?_
  refine va_alen (v := 18) hx hb hK hP 4 2 rfl rfl rfl dX7_init_137 ?_
  refine lv_icmp_ge (tgt := 161) hx hb dX7_init_138 (by decide) (fun c171 => absurd c171 (by decide)) (fun c171 => ?_)
  refine lv_aload_n hx hb dX7_init_141 rfl (lv_at hl 1 rfl) ?_
  refine va_get (D := (dC, dI)) (ci := 8) (v := .ref q11) (C := RX7) (T := TX7) (N := 12) hx hb ht inGX7 hown hK hP 0 rfl rfl 6 (by decide) (ht _ q360) (fun _ h9 => h9) rfl dX7_init_142 ?_
  refine lv_iload hx hb dX7_init_145 (lv_at hl 0 rfl) ?_
  refine va_new (ci := 6) (fs := [.null, .int 0]) (C := RX5) (T := TX5) (N := 2) hx hb ht inGX5 tyX5 tyX5_ok hown (ht _ q345) (ht _ q297) (ht _ q132) hK hP hD hS hA rfl (fun j hj => by rcases (show j = 0 ∨ j = 1 by omega) with rfl | rfl <;> rfl) (Nat.le_of_ble_eq_true rfl) (Nat.le_of_ble_eq_true rfl) dX7_init_147 (fun q172 H hP hD hS => ?_)
  have hP : va_P (dC, dI) vwCl [(h0, .inr (8, [.ref a1, .ref a2, .ref a3, .ref q1, .ref q3, .ref q9, .ref q11, .ref q13, .ref q16, .int i9, .ref q18, .ref q22])), (q1, .inl (t2, 6, .inr (.inr (.inr (.inr ((va_up (va_up (va_up (va_up (va_up (va_up (fun _ => none) 0 (some q27)) 1 (some q34)) 2 (some q41)) 3 (some q48)) 4 (some q55)) 5 (some q62)))))))), (q3, .inr (3, [w06, w17, w28, .int 0, .int ((-1)), .int ((-1)), .int ((-1))])), (q9, .inl (t10, 6, .inl ((fun _ => 0)))), (q11, .inl (t12, 18, .inr (.inr (.inr (.inr f170))))), (q13, .inr (0, [.int 0, .ref d0, .int 0])), (q16, .inl (t17, 240, .inl ((fun _ => 0)))), (q18, .inr (6, [v21, .int 0])), (q22, .inr (2, [.ref q25])), (q25, .inr (0, [.int 0, .ref d0, .int 0])), (q27, .inr (3, [w030, w131, w232, .int 0, .int ((-1)), .int ((-1)), .int ((-1))])), (q34, .inr (3, [w037, w138, w239, .int 0, .int ((-1)), .int ((-1)), .int ((-1))])), (q41, .inr (3, [w044, w145, w246, .int 0, .int ((-1)), .int ((-1)), .int ((-1))])), (q48, .inr (3, [w051, w152, w253, .int 0, .int ((-1)), .int ((-1)), .int ((-1))])), (q55, .inr (3, [w058, w159, w260, .int 0, .int ((-1)), .int ((-1)), .int ((-1))])), (q62, .inr (3, [w065, w166, w267, .int 0, .int ((-1)), .int ((-1)), .int ((-1))])), (q172, .inr (6, [.null, .int 0]))] H := hP
  have hD : va_D A [(h0, .inr (8, [.ref a1, .ref a2, .ref a3, .ref q1, .ref q3, .ref q9, .ref q11, .ref q13, .ref q16, .int i9, .ref q18, .ref q22])), (q1, .inl (t2, 6, .inr (.inr (.inr (.inr ((va_up (va_up (va_up (va_up (va_up (va_up (fun _ => none) 0 (some q27)) 1 (some q34)) 2 (some q41)) 3 (some q48)) 4 (some q55)) 5 (some q62)))))))), (q3, .inr (3, [w06, w17, w28, .int 0, .int ((-1)), .int ((-1)), .int ((-1))])), (q9, .inl (t10, 6, .inl ((fun _ => 0)))), (q11, .inl (t12, 18, .inr (.inr (.inr (.inr f170))))), (q13, .inr (0, [.int 0, .ref d0, .int 0])), (q16, .inl (t17, 240, .inl ((fun _ => 0)))), (q18, .inr (6, [v21, .int 0])), (q22, .inr (2, [.ref q25])), (q25, .inr (0, [.int 0, .ref d0, .int 0])), (q27, .inr (3, [w030, w131, w232, .int 0, .int ((-1)), .int ((-1)), .int ((-1))])), (q34, .inr (3, [w037, w138, w239, .int 0, .int ((-1)), .int ((-1)), .int ((-1))])), (q41, .inr (3, [w044, w145, w246, .int 0, .int ((-1)), .int ((-1)), .int ((-1))])), (q48, .inr (3, [w051, w152, w253, .int 0, .int ((-1)), .int ((-1)), .int ((-1))])), (q55, .inr (3, [w058, w159, w260, .int 0, .int ((-1)), .int ((-1)), .int ((-1))])), (q62, .inr (3, [w065, w166, w267, .int 0, .int ((-1)), .int ((-1)), .int ((-1))])), (q172, .inr (6, [.null, .int 0]))] := hD
  refine W.widen (k := 61) (n := 1792) (Nat.le_of_ble_eq_true rfl) (Nat.le_of_ble_eq_true rfl) ?_
  refine lv_dup hx hb dX7_init_150 rfl ?_
  have hPc := hP.sub (ws' := [(q172, .inr (6, [.null, .int 0]))]) [16] rfl
  have hDc := hD.sub (ws' := [(q172, .inr (6, [.null, .int 0]))]) [16] (by decide) rfl
  have hKc := hK.sub (tys' := []) [] rfl
  have hFc := va_free (wc := [(q172, .inr (6, [.null, .int 0]))]) hD hS hA [16] rfl
  refine va_callv (va_runIN (As := []) (rest := [.ref q172, .int 17, .ref q11]) ⟨hx, hb, hml, hown, ht⟩ (k_X5_init l d0 cO dC dI H.size q172 .null 0) (my_NI ht M_X5_init q299 rfl q348 (Nat.le_of_ble_eq_true rfl) (Nat.le_of_ble_eq_true rfl)) ⟨PRE.fb, fun U hU hW => ⟨rfl, PRE.mk' hE hS hFc hPc hKc hDc U hU hW⟩⟩ rfl rfl hl.1 rfl (lv_room (Nat.le_of_ble_eq_true rfl)) dX7_init_151 ⟨(Nat.le_of_ble_eq_true rfl), (Nat.le_of_ble_eq_true rfl)⟩) hS (fun q _ h => hFc q h) hFc (fun u173 t H1 locs htt hvm hw hB hz1 hk1 hS => ?_)
  try dsimp only at hw hB
  obtain ⟨v175, hP1, hK1, hD1⟩ := hB
  rw [htt] at hP1
  have hK1 := va_K.moved hvm.symm hK1
  obtain ⟨hP, hD⟩ := va_join (wr := [(h0, .inr (8, [.ref a1, .ref a2, .ref a3, .ref q1, .ref q3, .ref q9, .ref q11, .ref q13, .ref q16, .int i9, .ref q18, .ref q22])), (q1, .inl (t2, 6, .inr (.inr (.inr (.inr ((va_up (va_up (va_up (va_up (va_up (va_up (fun _ => none) 0 (some q27)) 1 (some q34)) 2 (some q41)) 3 (some q48)) 4 (some q55)) 5 (some q62)))))))), (q3, .inr (3, [w06, w17, w28, .int 0, .int ((-1)), .int ((-1)), .int ((-1))])), (q9, .inl (t10, 6, .inl ((fun _ => 0)))), (q11, .inl (t12, 18, .inr (.inr (.inr (.inr f170))))), (q13, .inr (0, [.int 0, .ref d0, .int 0])), (q16, .inl (t17, 240, .inl ((fun _ => 0)))), (q18, .inr (6, [v21, .int 0])), (q22, .inr (2, [.ref q25])), (q25, .inr (0, [.int 0, .ref d0, .int 0])), (q27, .inr (3, [w030, w131, w232, .int 0, .int ((-1)), .int ((-1)), .int ((-1))])), (q34, .inr (3, [w037, w138, w239, .int 0, .int ((-1)), .int ((-1)), .int ((-1))])), (q41, .inr (3, [w044, w145, w246, .int 0, .int ((-1)), .int ((-1)), .int ((-1))])), (q48, .inr (3, [w051, w152, w253, .int 0, .int ((-1)), .int ((-1)), .int ((-1))])), (q55, .inr (3, [w058, w159, w260, .int 0, .int ((-1)), .int ((-1)), .int ((-1))])), (q62, .inr (3, [w065, w166, w267, .int 0, .int ((-1)), .int ((-1)), .int ((-1))]))]) (w1 := [(q172, .inr (6, [v175, .int 0]))]) hP hD [16] [0, 1, 2, 3, 4, 5, 6, 7, 8, 9, 10, 11, 12, 13, 14, 15] rfl rfl (by decide) (by decide) hk1 hFc hP1 hD1
  have hK := (hK.sub (tys' := [(t2, .object RX2), (t10, .int), (t12, .object RX5), (t17, .int)]) [0, 1, 2, 3] rfl).app hK1
  generalize H1 = H at hP hS ⊢
  have hP : va_P (dC, dI) vwCl [(h0, .inr (8, [.ref a1, .ref a2, .ref a3, .ref q1, .ref q3, .ref q9, .ref q11, .ref q13, .ref q16, .int i9, .ref q18, .ref q22])), (q1, .inl (t2, 6, .inr (.inr (.inr (.inr ((va_up (va_up (va_up (va_up (va_up (va_up (fun _ => none) 0 (some q27)) 1 (some q34)) 2 (some q41)) 3 (some q48)) 4 (some q55)) 5 (some q62)))))))), (q3, .inr (3, [w06, w17, w28, .int 0, .int ((-1)), .int ((-1)), .int ((-1))])), (q9, .inl (t10, 6, .inl ((fun _ => 0)))), (q11, .inl (t12, 18, .inr (.inr (.inr (.inr f170))))), (q13, .inr (0, [.int 0, .ref d0, .int 0])), (q16, .inl (t17, 240, .inl ((fun _ => 0)))), (q18, .inr (6, [v21, .int 0])), (q22, .inr (2, [.ref q25])), (q25, .inr (0, [.int 0, .ref d0, .int 0])), (q27, .inr (3, [w030, w131, w232, .int 0, .int ((-1)), .int ((-1)), .int ((-1))])), (q34, .inr (3, [w037, w138, w239, .int 0, .int ((-1)), .int ((-1)), .int ((-1))])), (q41, .inr (3, [w044, w145, w246, .int 0, .int ((-1)), .int ((-1)), .int ((-1))])), (q48, .inr (3, [w051, w152, w253, .int 0, .int ((-1)), .int ((-1)), .int ((-1))])), (q55, .inr (3, [w058, w159, w260, .int 0, .int ((-1)), .int ((-1)), .int ((-1))])), (q62, .inr (3, [w065, w166, w267, .int 0, .int ((-1)), .int ((-1)), .int ((-1))])), (q172, .inr (6, [v175, .int 0]))] H := hP
  have hD : va_D A [(h0, .inr (8, [.ref a1, .ref a2, .ref a3, .ref q1, .ref q3, .ref q9, .ref q11, .ref q13, .ref q16, .int i9, .ref q18, .ref q22])), (q1, .inl (t2, 6, .inr (.inr (.inr (.inr ((va_up (va_up (va_up (va_up (va_up (va_up (fun _ => none) 0 (some q27)) 1 (some q34)) 2 (some q41)) 3 (some q48)) 4 (some q55)) 5 (some q62)))))))), (q3, .inr (3, [w06, w17, w28, .int 0, .int ((-1)), .int ((-1)), .int ((-1))])), (q9, .inl (t10, 6, .inl ((fun _ => 0)))), (q11, .inl (t12, 18, .inr (.inr (.inr (.inr f170))))), (q13, .inr (0, [.int 0, .ref d0, .int 0])), (q16, .inl (t17, 240, .inl ((fun _ => 0)))), (q18, .inr (6, [v21, .int 0])), (q22, .inr (2, [.ref q25])), (q25, .inr (0, [.int 0, .ref d0, .int 0])), (q27, .inr (3, [w030, w131, w232, .int 0, .int ((-1)), .int ((-1)), .int ((-1))])), (q34, .inr (3, [w037, w138, w239, .int 0, .int ((-1)), .int ((-1)), .int ((-1))])), (q41, .inr (3, [w044, w145, w246, .int 0, .int ((-1)), .int ((-1)), .int ((-1))])), (q48, .inr (3, [w051, w152, w253, .int 0, .int ((-1)), .int ((-1)), .int ((-1))])), (q55, .inr (3, [w058, w159, w260, .int 0, .int ((-1)), .int ((-1)), .int ((-1))])), (q62, .inr (3, [w065, w166, w267, .int 0, .int ((-1)), .int ((-1)), .int ((-1))])), (q172, .inr (6, [v175, .int 0]))] := hD
  have hK : va_K (dC, dI) vwCl [(t2, .object RX2), (t10, .int), (t12, .object RX5), (t17, .int)] s := hK
  refine W.widen (k := 61) (n := 1792) (Nat.le_of_ble_eq_true rfl) (Nat.le_of_ble_eq_true rfl) ?_
  refine va_astq hx hb hK hP hD hS 4 2 16 6 rfl rfl rfl rfl (vp_in_nI (n := 17) (by decide) (by decide)) dX7_init_154 (fun H locs hP hD hS => ?_)
  have hP : va_P (dC, dI) vwCl [(h0, .inr (8, [.ref a1, .ref a2, .ref a3, .ref q1, .ref q3, .ref q9, .ref q11, .ref q13, .ref q16, .int i9, .ref q18, .ref q22])), (q1, .inl (t2, 6, .inr (.inr (.inr (.inr ((va_up (va_up (va_up (va_up (va_up (va_up (fun _ => none) 0 (some q27)) 1 (some q34)) 2 (some q41)) 3 (some q48)) 4 (some q55)) 5 (some q62)))))))), (q3, .inr (3, [w06, w17, w28, .int 0, .int ((-1)), .int ((-1)), .int ((-1))])), (q9, .inl (t10, 6, .inl ((fun _ => 0)))), (q11, .inl (t12, 18, .inr (.inr (.inr (.inr ((va_up f170 17 (some q172)))))))), (q13, .inr (0, [.int 0, .ref d0, .int 0])), (q16, .inl (t17, 240, .inl ((fun _ => 0)))), (q18, .inr (6, [v21, .int 0])), (q22, .inr (2, [.ref q25])), (q25, .inr (0, [.int 0, .ref d0, .int 0])), (q27, .inr (3, [w030, w131, w232, .int 0, .int ((-1)), .int ((-1)), .int ((-1))])), (q34, .inr (3, [w037, w138, w239, .int 0, .int ((-1)), .int ((-1)), .int ((-1))])), (q41, .inr (3, [w044, w145, w246, .int 0, .int ((-1)), .int ((-1)), .int ((-1))])), (q48, .inr (3, [w051, w152, w253, .int 0, .int ((-1)), .int ((-1)), .int ((-1))])), (q55, .inr (3, [w058, w159, w260, .int 0, .int ((-1)), .int ((-1)), .int ((-1))])), (q62, .inr (3, [w065, w166, w267, .int 0, .int ((-1)), .int ((-1)), .int ((-1))])), (q172, .inr (6, [v175, .int 0]))] H := hP
  have hD : va_D A [(h0, .inr (8, [.ref a1, .ref a2, .ref a3, .ref q1, .ref q3, .ref q9, .ref q11, .ref q13, .ref q16, .int i9, .ref q18, .ref q22])), (q1, .inl (t2, 6, .inr (.inr (.inr (.inr ((va_up (va_up (va_up (va_up (va_up (va_up (fun _ => none) 0 (some q27)) 1 (some q34)) 2 (some q41)) 3 (some q48)) 4 (some q55)) 5 (some q62)))))))), (q3, .inr (3, [w06, w17, w28, .int 0, .int ((-1)), .int ((-1)), .int ((-1))])), (q9, .inl (t10, 6, .inl ((fun _ => 0)))), (q11, .inl (t12, 18, .inr (.inr (.inr (.inr ((va_up f170 17 (some q172)))))))), (q13, .inr (0, [.int 0, .ref d0, .int 0])), (q16, .inl (t17, 240, .inl ((fun _ => 0)))), (q18, .inr (6, [v21, .int 0])), (q22, .inr (2, [.ref q25])), (q25, .inr (0, [.int 0, .ref d0, .int 0])), (q27, .inr (3, [w030, w131, w232, .int 0, .int ((-1)), .int ((-1)), .int ((-1))])), (q34, .inr (3, [w037, w138, w239, .int 0, .int ((-1)), .int ((-1)), .int ((-1))])), (q41, .inr (3, [w044, w145, w246, .int 0, .int ((-1)), .int ((-1)), .int ((-1))])), (q48, .inr (3, [w051, w152, w253, .int 0, .int ((-1)), .int ((-1)), .int ((-1))])), (q55, .inr (3, [w058, w159, w260, .int 0, .int ((-1)), .int ((-1)), .int ((-1))])), (q62, .inr (3, [w065, w166, w267, .int 0, .int ((-1)), .int ((-1)), .int ((-1))])), (q172, .inr (6, [v175, .int 0]))] := hD
  generalize (va_up f170 17 (some q172)) = f176 at hP hD
  have hP := hP.sub (ws' := [(h0, .inr (8, [.ref a1, .ref a2, .ref a3, .ref q1, .ref q3, .ref q9, .ref q11, .ref q13, .ref q16, .int i9, .ref q18, .ref q22])), (q1, .inl (t2, 6, .inr (.inr (.inr (.inr ((va_up (va_up (va_up (va_up (va_up (va_up (fun _ => none) 0 (some q27)) 1 (some q34)) 2 (some q41)) 3 (some q48)) 4 (some q55)) 5 (some q62)))))))), (q3, .inr (3, [w06, w17, w28, .int 0, .int ((-1)), .int ((-1)), .int ((-1))])), (q9, .inl (t10, 6, .inl ((fun _ => 0)))), (q11, .inl (t12, 18, .inr (.inr (.inr (.inr f176))))), (q13, .inr (0, [.int 0, .ref d0, .int 0])), (q16, .inl (t17, 240, .inl ((fun _ => 0)))), (q18, .inr (6, [v21, .int 0])), (q22, .inr (2, [.ref q25])), (q25, .inr (0, [.int 0, .ref d0, .int 0])), (q27, .inr (3, [w030, w131, w232, .int 0, .int ((-1)), .int ((-1)), .int ((-1))])), (q34, .inr (3, [w037, w138, w239, .int 0, .int ((-1)), .int ((-1)), .int ((-1))])), (q41, .inr (3, [w044, w145, w246, .int 0, .int ((-1)), .int ((-1)), .int ((-1))])), (q48, .inr (3, [w051, w152, w253, .int 0, .int ((-1)), .int ((-1)), .int ((-1))])), (q55, .inr (3, [w058, w159, w260, .int 0, .int ((-1)), .int ((-1)), .int ((-1))])), (q62, .inr (3, [w065, w166, w267, .int 0, .int ((-1)), .int ((-1)), .int ((-1))]))]) [0, 1, 2, 3, 4, 5, 6, 7, 8, 9, 10, 11, 12, 13, 14, 15] rfl
  have hD := hD.sub (ws' := [(h0, .inr (8, [.ref a1, .ref a2, .ref a3, .ref q1, .ref q3, .ref q9, .ref q11, .ref q13, .ref q16, .int i9, .ref q18, .ref q22])), (q1, .inl (t2, 6, .inr (.inr (.inr (.inr ((va_up (va_up (va_up (va_up (va_up (va_up (fun _ => none) 0 (some q27)) 1 (some q34)) 2 (some q41)) 3 (some q48)) 4 (some q55)) 5 (some q62)))))))), (q3, .inr (3, [w06, w17, w28, .int 0, .int ((-1)), .int ((-1)), .int ((-1))])), (q9, .inl (t10, 6, .inl ((fun _ => 0)))), (q11, .inl (t12, 18, .inr (.inr (.inr (.inr f176))))), (q13, .inr (0, [.int 0, .ref d0, .int 0])), (q16, .inl (t17, 240, .inl ((fun _ => 0)))), (q18, .inr (6, [v21, .int 0])), (q22, .inr (2, [.ref q25])), (q25, .inr (0, [.int 0, .ref d0, .int 0])), (q27, .inr (3, [w030, w131, w232, .int 0, .int ((-1)), .int ((-1)), .int ((-1))])), (q34, .inr (3, [w037, w138, w239, .int 0, .int ((-1)), .int ((-1)), .int ((-1))])), (q41, .inr (3, [w044, w145, w246, .int 0, .int ((-1)), .int ((-1)), .int ((-1))])), (q48, .inr (3, [w051, w152, w253, .int 0, .int ((-1)), .int ((-1)), .int ((-1))])), (q55, .inr (3, [w058, w159, w260, .int 0, .int ((-1)), .int ((-1)), .int ((-1))])), (q62, .inr (3, [w065, w166, w267, .int 0, .int ((-1)), .int ((-1)), .int ((-1))]))]) [0, 1, 2, 3, 4, 5, 6, 7, 8, 9, 10, 11, 12, 13, 14, 15] (by decide) rfl
  refine lv_iinc (v := 18) (lv' := [(4, .int 18), (0, .ref h0), (1, .ref a1), (2, .ref a2), (3, .ref a3)]) hx hb dX7_init_155 hl (k := 0) rfl (by decide) (by decide) rfl (fun ls hl => ?_)
  refine lv_goto (tgt := 131) hx hb dX7_init_158 (by decide) ?_
  refine lv_iload hx hb dX7_init_131 (lv_at hl 0 rfl) ?_
  refine lv_aload_n hx hb dX7_init_133 rfl (lv_at hl 1 rfl) ?_
  refine va_get (D := (dC, dI)) (ci := 8) (v := .ref q11) (C := RX7) (T := TX7) (N := 12) hx hb ht inGX7 hown hK hP 0 rfl rfl 6 (by decide) (ht _ q360) (fun _ h9 => h9) rfl dX7_init_134 ?_
  refine va_alen (v := 18) hx hb hK hP 4 2 rfl rfl rfl dX7_init_137 ?_
  refine lv_icmp_ge (tgt := 161) hx hb dX7_init_138 (by decide) (fun c177 => ?_) (fun c177 => absurd (by decide) c177)
  refine lv_aload_n hx hb dX7_init_161 rfl (lv_at hl 1 rfl) ?_
  refine va_get (D := (dC, dI)) (ci := 8) (v := .ref q16) (C := RX7) (T := TX7) (N := 12) hx hb ht inGX7 hown hK hP 0 rfl rfl 8 (by decide) (ht _ q362) (fun _ h9 => h9) rfl dX7_init_162 ?_
  refine lv_iconst (v := -1) hx hb dX7_init_165 (by decide) ?_
  have hPc := hP.sub (ws' := [(q16, .inl (t17, 240, .inl ((fun _ => 0))))]) [6] rfl
  have hDc := hD.sub (ws' := [(q16, .inl (t17, 240, .inl ((fun _ => 0))))]) [6] (by decide) rfl
  have hKc := hK.sub (tys' := [(t17, .int)]) [3] rfl
  have hFc := va_free (wc := [(q16, .inl (t17, 240, .inl ((fun _ => 0))))]) hD hS hA [6] rfl
  refine va_callv (va_runS (As := [.ref q16, .int (-1)]) (rest := []) ⟨hx, hb, hml, hown, ht⟩ (k_J7_fill_53178 l d0 cO dC dI H.size q16 t17 ((fun _ => 0)) (-1)) (my_S ht M_J7_fill_53178 q352 q351 (Nat.le_of_ble_eq_true rfl) (Nat.le_of_ble_eq_true rfl)) ⟨PRE.fb, fun U hU hW => ⟨rfl, PRE.mk' hE hS hFc hPc hKc hDc U hU hW⟩⟩ rfl rfl hl.1 rfl (lv_room (Nat.le_of_ble_eq_true rfl)) dX7_init_166 ⟨(Nat.le_of_ble_eq_true rfl), (Nat.le_of_ble_eq_true rfl)⟩) hS (fun q _ h => hFc q h) hFc (fun u178 t H1 locs htt hvm hw hB hz1 hk1 hS => ?_)
  try dsimp only at hw hB
  obtain ⟨g180, hP1, hK1, hD1⟩ := hB
  rw [htt] at hP1
  have hK1 := va_K.moved hvm.symm hK1
  obtain ⟨hP, hD⟩ := va_join (wr := [(h0, .inr (8, [.ref a1, .ref a2, .ref a3, .ref q1, .ref q3, .ref q9, .ref q11, .ref q13, .ref q16, .int i9, .ref q18, .ref q22])), (q1, .inl (t2, 6, .inr (.inr (.inr (.inr ((va_up (va_up (va_up (va_up (va_up (va_up (fun _ => none) 0 (some q27)) 1 (some q34)) 2 (some q41)) 3 (some q48)) 4 (some q55)) 5 (some q62)))))))), (q3, .inr (3, [w06, w17, w28, .int 0, .int ((-1)), .int ((-1)), .int ((-1))])), (q9, .inl (t10, 6, .inl ((fun _ => 0)))), (q11, .inl (t12, 18, .inr (.inr (.inr (.inr f176))))), (q13, .inr (0, [.int 0, .ref d0, .int 0])), (q18, .inr (6, [v21, .int 0])), (q22, .inr (2, [.ref q25])), (q25, .inr (0, [.int 0, .ref d0, .int 0])), (q27, .inr (3, [w030, w131, w232, .int 0, .int ((-1)), .int ((-1)), .int ((-1))])), (q34, .inr (3, [w037, w138, w239, .int 0, .int ((-1)), .int ((-1)), .int ((-1))])), (q41, .inr (3, [w044, w145, w246, .int 0, .int ((-1)), .int ((-1)), .int ((-1))])), (q48, .inr (3, [w051, w152, w253, .int 0, .int ((-1)), .int ((-1)), .int ((-1))])), (q55, .inr (3, [w058, w159, w260, .int 0, .int ((-1)), .int ((-1)), .int ((-1))])), (q62, .inr (3, [w065, w166, w267, .int 0, .int ((-1)), .int ((-1)), .int ((-1))]))]) (w1 := [(q16, .inl (t17, 240, .inl g180))]) hP hD [6] [0, 1, 2, 3, 4, 5, 7, 8, 9, 10, 11, 12, 13, 14, 15] rfl rfl (by decide) (by decide) hk1 hFc hP1 hD1
  have hK := (hK.sub (tys' := [(t2, .object RX2), (t10, .int), (t12, .object RX5), (t17, .int)]) [0, 1, 2, 3] rfl).app hK1
  generalize H1 = H at hP hS ⊢
  have hP : va_P (dC, dI) vwCl [(h0, .inr (8, [.ref a1, .ref a2, .ref a3, .ref q1, .ref q3, .ref q9, .ref q11, .ref q13, .ref q16, .int i9, .ref q18, .ref q22])), (q1, .inl (t2, 6, .inr (.inr (.inr (.inr ((va_up (va_up (va_up (va_up (va_up (va_up (fun _ => none) 0 (some q27)) 1 (some q34)) 2 (some q41)) 3 (some q48)) 4 (some q55)) 5 (some q62)))))))), (q3, .inr (3, [w06, w17, w28, .int 0, .int ((-1)), .int ((-1)), .int ((-1))])), (q9, .inl (t10, 6, .inl ((fun _ => 0)))), (q11, .inl (t12, 18, .inr (.inr (.inr (.inr f176))))), (q13, .inr (0, [.int 0, .ref d0, .int 0])), (q18, .inr (6, [v21, .int 0])), (q22, .inr (2, [.ref q25])), (q25, .inr (0, [.int 0, .ref d0, .int 0])), (q27, .inr (3, [w030, w131, w232, .int 0, .int ((-1)), .int ((-1)), .int ((-1))])), (q34, .inr (3, [w037, w138, w239, .int 0, .int ((-1)), .int ((-1)), .int ((-1))])), (q41, .inr (3, [w044, w145, w246, .int 0, .int ((-1)), .int ((-1)), .int ((-1))])), (q48, .inr (3, [w051, w152, w253, .int 0, .int ((-1)), .int ((-1)), .int ((-1))])), (q55, .inr (3, [w058, w159, w260, .int 0, .int ((-1)), .int ((-1)), .int ((-1))])), (q62, .inr (3, [w065, w166, w267, .int 0, .int ((-1)), .int ((-1)), .int ((-1))])), (q16, .inl (t17, 240, .inl g180))] H := hP
  have hD : va_D A [(h0, .inr (8, [.ref a1, .ref a2, .ref a3, .ref q1, .ref q3, .ref q9, .ref q11, .ref q13, .ref q16, .int i9, .ref q18, .ref q22])), (q1, .inl (t2, 6, .inr (.inr (.inr (.inr ((va_up (va_up (va_up (va_up (va_up (va_up (fun _ => none) 0 (some q27)) 1 (some q34)) 2 (some q41)) 3 (some q48)) 4 (some q55)) 5 (some q62)))))))), (q3, .inr (3, [w06, w17, w28, .int 0, .int ((-1)), .int ((-1)), .int ((-1))])), (q9, .inl (t10, 6, .inl ((fun _ => 0)))), (q11, .inl (t12, 18, .inr (.inr (.inr (.inr f176))))), (q13, .inr (0, [.int 0, .ref d0, .int 0])), (q18, .inr (6, [v21, .int 0])), (q22, .inr (2, [.ref q25])), (q25, .inr (0, [.int 0, .ref d0, .int 0])), (q27, .inr (3, [w030, w131, w232, .int 0, .int ((-1)), .int ((-1)), .int ((-1))])), (q34, .inr (3, [w037, w138, w239, .int 0, .int ((-1)), .int ((-1)), .int ((-1))])), (q41, .inr (3, [w044, w145, w246, .int 0, .int ((-1)), .int ((-1)), .int ((-1))])), (q48, .inr (3, [w051, w152, w253, .int 0, .int ((-1)), .int ((-1)), .int ((-1))])), (q55, .inr (3, [w058, w159, w260, .int 0, .int ((-1)), .int ((-1)), .int ((-1))])), (q62, .inr (3, [w065, w166, w267, .int 0, .int ((-1)), .int ((-1)), .int ((-1))])), (q16, .inl (t17, 240, .inl g180))] := hD
  have hK : va_K (dC, dI) vwCl [(t2, .object RX2), (t10, .int), (t12, .object RX5), (t17, .int), (t17, .int)] s := hK
  refine W.widen (k := 61) (n := 1792) (Nat.le_of_ble_eq_true rfl) (Nat.le_of_ble_eq_true rfl) ?_
  have hP9 := hP.sub (ws' := [(h0, .inr (8, [.ref a1, .ref a2, .ref a3, .ref q1, .ref q3, .ref q9, .ref q11, .ref q13, .ref q16, .int i9, .ref q18, .ref q22])), (q1, .inl (t2, 6, .inr (.inr (.inr (.inr ((va_up (va_up (va_up (va_up (va_up (va_up (fun _ => none) 0 (some q27)) 1 (some q34)) 2 (some q41)) 3 (some q48)) 4 (some q55)) 5 (some q62)))))))), (q27, .inr (3, [w030, w131, w232, .int 0, .int ((-1)), .int ((-1)), .int ((-1))])), (q34, .inr (3, [w037, w138, w239, .int 0, .int ((-1)), .int ((-1)), .int ((-1))])), (q41, .inr (3, [w044, w145, w246, .int 0, .int ((-1)), .int ((-1)), .int ((-1))])), (q48, .inr (3, [w051, w152, w253, .int 0, .int ((-1)), .int ((-1)), .int ((-1))])), (q55, .inr (3, [w058, w159, w260, .int 0, .int ((-1)), .int ((-1)), .int ((-1))])), (q62, .inr (3, [w065, w166, w267, .int 0, .int ((-1)), .int ((-1)), .int ((-1))]))]) [0, 1, 9, 10, 11, 12, 13, 14] rfl
  have hD9 := hD.sub (ws' := [(h0, .inr (8, [.ref a1, .ref a2, .ref a3, .ref q1, .ref q3, .ref q9, .ref q11, .ref q13, .ref q16, .int i9, .ref q18, .ref q22])), (q1, .inl (t2, 6, .inr (.inr (.inr (.inr ((va_up (va_up (va_up (va_up (va_up (va_up (fun _ => none) 0 (some q27)) 1 (some q34)) 2 (some q41)) 3 (some q48)) 4 (some q55)) 5 (some q62)))))))), (q27, .inr (3, [w030, w131, w232, .int 0, .int ((-1)), .int ((-1)), .int ((-1))])), (q34, .inr (3, [w037, w138, w239, .int 0, .int ((-1)), .int ((-1)), .int ((-1))])), (q41, .inr (3, [w044, w145, w246, .int 0, .int ((-1)), .int ((-1)), .int ((-1))])), (q48, .inr (3, [w051, w152, w253, .int 0, .int ((-1)), .int ((-1)), .int ((-1))])), (q55, .inr (3, [w058, w159, w260, .int 0, .int ((-1)), .int ((-1)), .int ((-1))])), (q62, .inr (3, [w065, w166, w267, .int 0, .int ((-1)), .int ((-1)), .int ((-1))]))]) [0, 1, 9, 10, 11, 12, 13, 14] (by decide) rfl
  have hK9 := hK.sub (tys' := [(t2, .object RX2)]) [0] rfl
  refine W.widen (k := 61) (n := 1792) (Nat.le_of_ble_eq_true rfl) (Nat.le_of_ble_eq_true rfl) ?_
  exact W.vret hx hb hr (fun t ht9 hW9 => ⟨⟨(), rfl, trivial, ⟨.ref q3, .ref q9, .ref q11, .ref q13, .ref q16, .ref q18, .ref q22, q1, t2, q27, q34, q41, q48, q55, q62, w030, w131, w232, w037, w138, w239, w044, w145, w246, w051, w152, w253, w058, w159, w260, w065, w166, w267, POW.mk' ht9 hW9.alike hP9 hK9 hD9⟩⟩, hS.F ht9⟩) hS.2.2 dX7_init_169
end
