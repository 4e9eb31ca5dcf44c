section
-- ===== PART A: goes FIRST, ahead of the names: the tables' words, and 'selects' of the private methods out of them =====
/-- a private method of a class that the tables say can be made, by its rows of tables_1 -/
def lw_okq (q : MethodName × Nat) : Prop := (q.1.cls ≠ "java/lang/invoke/MethodHandle" ∧ q.1.cls ≠ "java/lang/invoke/VarHandle") ∧ Cond.instantiable q.1.cls q.2 ∈ tables_1 ∧ Cond.privateMethod q.1 ∈ tables_1 ∧ Cond.instanceMethod q.1 ∈ tables_1
theorem lw_p0 : lw_okq (⟨"LevelUnits", "putBytes", "(I)V"⟩, 5) := ⟨⟨by decide +kernel, by decide +kernel⟩, List.mem_of_getElem? (i := 34) (by decide +kernel), List.mem_of_getElem? (i := 182) (by decide +kernel), List.mem_of_getElem? (i := 183) (by decide +kernel)⟩
theorem lw_p1 : lw_okq (⟨"LevelUnits$Scanner", "scanToken", "()Z"⟩, 13) := ⟨⟨by decide +kernel, by decide +kernel⟩, List.mem_of_getElem? (i := 42) (by decide +kernel), List.mem_of_getElem? (i := 208) (by decide +kernel), List.mem_of_getElem? (i := 209) (by decide +kernel)⟩
theorem lw_p2 : lw_okq (⟨"LevelUnits$Scanner", "skipBlanks", "()I"⟩, 13) := ⟨⟨by decide +kernel, by decide +kernel⟩, List.mem_of_getElem? (i := 42) (by decide +kernel), List.mem_of_getElem? (i := 212) (by decide +kernel), List.mem_of_getElem? (i := 213) (by decide +kernel)⟩
theorem lw_p3 : lw_okq (⟨"LevelUnits$Scanner", "isPair", "(II)Z"⟩, 13) := ⟨⟨by decide +kernel, by decide +kernel⟩, List.mem_of_getElem? (i := 42) (by decide +kernel), List.mem_of_getElem? (i := 216) (by decide +kernel), List.mem_of_getElem? (i := 217) (by decide +kernel)⟩
theorem lw_p4 : lw_okq (⟨"LevelUnits$Scanner", "skipNote", "()Z"⟩, 13) := ⟨⟨by decide +kernel, by decide +kernel⟩, List.mem_of_getElem? (i := 42) (by decide +kernel), List.mem_of_getElem? (i := 220) (by decide +kernel), List.mem_of_getElem? (i := 221) (by decide +kernel)⟩
theorem lw_p5 : lw_okq (⟨"LevelUnits$Scanner", "putToken", "(III)Z"⟩, 13) := ⟨⟨by decide +kernel, by decide +kernel⟩, List.mem_of_getElem? (i := 42) (by decide +kernel), List.mem_of_getElem? (i := 224) (by decide +kernel), List.mem_of_getElem? (i := 225) (by decide +kernel)⟩
theorem lw_p6 : lw_okq (⟨"LevelUnits$Scanner", "scanName", "()Z"⟩, 13) := ⟨⟨by decide +kernel, by decide +kernel⟩, List.mem_of_getElem? (i := 42) (by decide +kernel), List.mem_of_getElem? (i := 231) (by decide +kernel), List.mem_of_getElem? (i := 232) (by decide +kernel)⟩
theorem lw_p7 : lw_okq (⟨"LevelUnits$Scanner", "wordAt", "(II)I"⟩, 13) := ⟨⟨by decide +kernel, by decide +kernel⟩, List.mem_of_getElem? (i := 42) (by decide +kernel), List.mem_of_getElem? (i := 238) (by decide +kernel), List.mem_of_getElem? (i := 239) (by decide +kernel)⟩
theorem lw_p8 : lw_okq (⟨"LevelUnits$Scanner", "nameAt", "(II)I"⟩, 13) := ⟨⟨by decide +kernel, by decide +kernel⟩, List.mem_of_getElem? (i := 42) (by decide +kernel), List.mem_of_getElem? (i := 291) (by decide +kernel), List.mem_of_getElem? (i := 292) (by decide +kernel)⟩
theorem lw_p9 : lw_okq (⟨"LevelUnits$Scanner", "isSameText", "(III)Z"⟩, 13) := ⟨⟨by decide +kernel, by decide +kernel⟩, List.mem_of_getElem? (i := 42) (by decide +kernel), List.mem_of_getElem? (i := 295) (by decide +kernel), List.mem_of_getElem? (i := 296) (by decide +kernel)⟩
theorem lw_p10 : lw_okq (⟨"LevelUnits$Scanner", "scanNumber", "()Z"⟩, 13) := ⟨⟨by decide +kernel, by decide +kernel⟩, List.mem_of_getElem? (i := 42) (by decide +kernel), List.mem_of_getElem? (i := 299) (by decide +kernel), List.mem_of_getElem? (i := 300) (by decide +kernel)⟩
theorem lw_p11 : lw_okq (⟨"LevelUnits$Scanner", "scanSign", "(I)Z"⟩, 13) := ⟨⟨by decide +kernel, by decide +kernel⟩, List.mem_of_getElem? (i := 42) (by decide +kernel), List.mem_of_getElem? (i := 310) (by decide +kernel), List.mem_of_getElem? (i := 311) (by decide +kernel)⟩
theorem lw_p12 : lw_okq (⟨"LevelUnits$Parser", "take", "(I)V"⟩, 20) := ⟨⟨by decide +kernel, by decide +kernel⟩, List.mem_of_getElem? (i := 372) (by decide +kernel), List.mem_of_getElem? (i := 561) (by decide +kernel), List.mem_of_getElem? (i := 562) (by decide +kernel)⟩
theorem lw_p13 : lw_okq (⟨"LevelUnits$Parser", "accept", "(I)Z"⟩, 20) := ⟨⟨by decide +kernel, by decide +kernel⟩, List.mem_of_getElem? (i := 372) (by decide +kernel), List.mem_of_getElem? (i := 565) (by decide +kernel), List.mem_of_getElem? (i := 566) (by decide +kernel)⟩
theorem lw_p14 : lw_okq (⟨"LevelUnits$Parser", "fail", "(I)V"⟩, 20) := ⟨⟨by decide +kernel, by decide +kernel⟩, List.mem_of_getElem? (i := 372) (by decide +kernel), List.mem_of_getElem? (i := 569) (by decide +kernel), List.mem_of_getElem? (i := 570) (by decide +kernel)⟩
theorem lw_p15 : lw_okq (⟨"LevelUnits$Parser", "told", "(I)LLevelUnits$Decl;"⟩, 20) := ⟨⟨by decide +kernel, by decide +kernel⟩, List.mem_of_getElem? (i := 372) (by decide +kernel), List.mem_of_getElem? (i := 573) (by decide +kernel), List.mem_of_getElem? (i := 574) (by decide +kernel)⟩
def lw_privs_1 : List (MethodName × Nat) := [(⟨"LevelUnits", "putBytes", "(I)V"⟩, 5), (⟨"LevelUnits$Scanner", "scanToken", "()Z"⟩, 13), (⟨"LevelUnits$Scanner", "skipBlanks", "()I"⟩, 13), (⟨"LevelUnits$Scanner", "isPair", "(II)Z"⟩, 13), (⟨"LevelUnits$Scanner", "skipNote", "()Z"⟩, 13), (⟨"LevelUnits$Scanner", "putToken", "(III)Z"⟩, 13), (⟨"LevelUnits$Scanner", "scanName", "()Z"⟩, 13), (⟨"LevelUnits$Scanner", "wordAt", "(II)I"⟩, 13), (⟨"LevelUnits$Scanner", "nameAt", "(II)I"⟩, 13), (⟨"LevelUnits$Scanner", "isSameText", "(III)Z"⟩, 13), (⟨"LevelUnits$Scanner", "scanNumber", "()Z"⟩, 13), (⟨"LevelUnits$Scanner", "scanSign", "(I)Z"⟩, 13), (⟨"LevelUnits$Parser", "take", "(I)V"⟩, 20), (⟨"LevelUnits$Parser", "accept", "(I)Z"⟩, 20), (⟨"LevelUnits$Parser", "fail", "(I)V"⟩, 20), (⟨"LevelUnits$Parser", "told", "(I)LLevelUnits$Decl;"⟩, 20)]
theorem lw_r1 : ∀ q ∈ lw_privs_1, lw_okq q := List.forall_mem_cons.mpr ⟨lw_p0, List.forall_mem_cons.mpr ⟨lw_p1, List.forall_mem_cons.mpr ⟨lw_p2, List.forall_mem_cons.mpr ⟨lw_p3, List.forall_mem_cons.mpr ⟨lw_p4, List.forall_mem_cons.mpr ⟨lw_p5, List.forall_mem_cons.mpr ⟨lw_p6, List.forall_mem_cons.mpr ⟨lw_p7, List.forall_mem_cons.mpr ⟨lw_p8, List.forall_mem_cons.mpr ⟨lw_p9, List.forall_mem_cons.mpr ⟨lw_p10, List.forall_mem_cons.mpr ⟨lw_p11, List.forall_mem_cons.mpr ⟨lw_p12, List.forall_mem_cons.mpr ⟨lw_p13, List.forall_mem_cons.mpr ⟨lw_p14, List.forall_mem_cons.mpr ⟨lw_p15, fun _ h => absurd h List.not_mem_nil⟩⟩⟩⟩⟩⟩⟩⟩⟩⟩⟩⟩⟩⟩⟩⟩
theorem lw_p16 : lw_okq (⟨"LevelUnits$Parser", "takeName", "()I"⟩, 20) := ⟨⟨by decide +kernel, by decide +kernel⟩, List.mem_of_getElem? (i := 372) (by decide +kernel), List.mem_of_getElem? (i := 579) (by decide +kernel), List.mem_of_getElem? (i := 580) (by decide +kernel)⟩
theorem lw_p17 : lw_okq (⟨"LevelUnits$Parser", "parseImports", "()V"⟩, 20) := ⟨⟨by decide +kernel, by decide +kernel⟩, List.mem_of_getElem? (i := 372) (by decide +kernel), List.mem_of_getElem? (i := 692) (by decide +kernel), List.mem_of_getElem? (i := 693) (by decide +kernel)⟩
theorem lw_p18 : lw_okq (⟨"LevelUnits$Parser", "append", "(LLevelUnits$Decl;)V"⟩, 20) := ⟨⟨by decide +kernel, by decide +kernel⟩, List.mem_of_getElem? (i := 372) (by decide +kernel), List.mem_of_getElem? (i := 696) (by decide +kernel), List.mem_of_getElem? (i := 697) (by decide +kernel)⟩
theorem lw_p19 : lw_okq (⟨"LevelUnits$Parser", "beginsDeclaration", "()Z"⟩, 20) := ⟨⟨by decide +kernel, by decide +kernel⟩, List.mem_of_getElem? (i := 372) (by decide +kernel), List.mem_of_getElem? (i := 700) (by decide +kernel), List.mem_of_getElem? (i := 701) (by decide +kernel)⟩
theorem lw_p20 : lw_okq (⟨"LevelUnits$Parser", "parseProcedure", "()V"⟩, 20) := ⟨⟨by decide +kernel, by decide +kernel⟩, List.mem_of_getElem? (i := 372) (by decide +kernel), List.mem_of_getElem? (i := 704) (by decide +kernel), List.mem_of_getElem? (i := 705) (by decide +kernel)⟩
theorem lw_p21 : lw_okq (⟨"LevelUnits$Parser", "advance", "()V"⟩, 20) := ⟨⟨by decide +kernel, by decide +kernel⟩, List.mem_of_getElem? (i := 372) (by decide +kernel), List.mem_of_getElem? (i := 708) (by decide +kernel), List.mem_of_getElem? (i := 709) (by decide +kernel)⟩
theorem lw_p22 : lw_okq (⟨"LevelUnits$Parser", "parseSignature", "()LLevelUnits$Node;"⟩, 20) := ⟨⟨by decide +kernel, by decide +kernel⟩, List.mem_of_getElem? (i := 372) (by decide +kernel), List.mem_of_getElem? (i := 712) (by decide +kernel), List.mem_of_getElem? (i := 713) (by decide +kernel)⟩
theorem lw_p23 : lw_okq (⟨"LevelUnits$Parser", "makeNode", "(I)LLevelUnits$Node;"⟩, 20) := ⟨⟨by decide +kernel, by decide +kernel⟩, List.mem_of_getElem? (i := 372) (by decide +kernel), List.mem_of_getElem? (i := 716) (by decide +kernel), List.mem_of_getElem? (i := 717) (by decide +kernel)⟩
theorem lw_p24 : lw_okq (⟨"LevelUnits$Parser", "takeOpening", "(I)V"⟩, 20) := ⟨⟨by decide +kernel, by decide +kernel⟩, List.mem_of_getElem? (i := 372) (by decide +kernel), List.mem_of_getElem? (i := 720) (by decide +kernel), List.mem_of_getElem? (i := 721) (by decide +kernel)⟩
theorem lw_p25 : lw_okq (⟨"LevelUnits$Parser", "parseFormals", "(LLevelUnits$Node;)LLevelUnits$Decl;"⟩, 20) := ⟨⟨by decide +kernel, by decide +kernel⟩, List.mem_of_getElem? (i := 372) (by decide +kernel), List.mem_of_getElem? (i := 724) (by decide +kernel), List.mem_of_getElem? (i := 725) (by decide +kernel)⟩
theorem lw_p26 : lw_okq (⟨"LevelUnits$Parser", "parseGroup", "(ILLevelUnits$Node;)LLevelUnits$Decl;"⟩, 20) := ⟨⟨by decide +kernel, by decide +kernel⟩, List.mem_of_getElem? (i := 372) (by decide +kernel), List.mem_of_getElem? (i := 728) (by decide +kernel), List.mem_of_getElem? (i := 729) (by decide +kernel)⟩
theorem lw_p27 : lw_okq (⟨"LevelUnits$Parser", "parseType", "()LLevelUnits$Node;"⟩, 20) := ⟨⟨by decide +kernel, by decide +kernel⟩, List.mem_of_getElem? (i := 372) (by decide +kernel), List.mem_of_getElem? (i := 732) (by decide +kernel), List.mem_of_getElem? (i := 733) (by decide +kernel)⟩
theorem lw_p28 : lw_okq (⟨"LevelUnits$Parser", "beginsType", "()Z"⟩, 20) := ⟨⟨by decide +kernel, by decide +kernel⟩, List.mem_of_getElem? (i := 372) (by decide +kernel), List.mem_of_getElem? (i := 736) (by decide +kernel), List.mem_of_getElem? (i := 737) (by decide +kernel)⟩
theorem lw_p29 : lw_okq (⟨"LevelUnits$Parser", "parseShape", "()LLevelUnits$Node;"⟩, 20) := ⟨⟨by decide +kernel, by decide +kernel⟩, List.mem_of_getElem? (i := 372) (by decide +kernel), List.mem_of_getElem? (i := 740) (by decide +kernel), List.mem_of_getElem? (i := 741) (by decide +kernel)⟩
theorem lw_p30 : lw_okq (⟨"LevelUnits$Parser", "parseNamed", "()LLevelUnits$Node;"⟩, 20) := ⟨⟨by decide +kernel, by decide +kernel⟩, List.mem_of_getElem? (i := 372) (by decide +kernel), List.mem_of_getElem? (i := 744) (by decide +kernel), List.mem_of_getElem? (i := 745) (by decide +kernel)⟩
theorem lw_p31 : lw_okq (⟨"LevelUnits$Parser", "qname", "()LLevelUnits$Op;"⟩, 20) := ⟨⟨by decide +kernel, by decide +kernel⟩, List.mem_of_getElem? (i := 372) (by decide +kernel), List.mem_of_getElem? (i := 748) (by decide +kernel), List.mem_of_getElem? (i := 749) (by decide +kernel)⟩
def lw_privs_2 : List (MethodName × Nat) := [(⟨"LevelUnits$Parser", "takeName", "()I"⟩, 20), (⟨"LevelUnits$Parser", "parseImports", "()V"⟩, 20), (⟨"LevelUnits$Parser", "append", "(LLevelUnits$Decl;)V"⟩, 20), (⟨"LevelUnits$Parser", "beginsDeclaration", "()Z"⟩, 20), (⟨"LevelUnits$Parser", "parseProcedure", "()V"⟩, 20), (⟨"LevelUnits$Parser", "advance", "()V"⟩, 20), (⟨"LevelUnits$Parser", "parseSignature", "()LLevelUnits$Node;"⟩, 20), (⟨"LevelUnits$Parser", "makeNode", "(I)LLevelUnits$Node;"⟩, 20), (⟨"LevelUnits$Parser", "takeOpening", "(I)V"⟩, 20), (⟨"LevelUnits$Parser", "parseFormals", "(LLevelUnits$Node;)LLevelUnits$Decl;"⟩, 20), (⟨"LevelUnits$Parser", "parseGroup", "(ILLevelUnits$Node;)LLevelUnits$Decl;"⟩, 20), (⟨"LevelUnits$Parser", "parseType", "()LLevelUnits$Node;"⟩, 20), (⟨"LevelUnits$Parser", "beginsType", "()Z"⟩, 20), (⟨"LevelUnits$Parser", "parseShape", "()LLevelUnits$Node;"⟩, 20), (⟨"LevelUnits$Parser", "parseNamed", "()LLevelUnits$Node;"⟩, 20), (⟨"LevelUnits$Parser", "qname", "()LLevelUnits$Op;"⟩, 20)]
theorem lw_r2 : ∀ q ∈ lw_privs_2, lw_okq q := List.forall_mem_cons.mpr ⟨lw_p16, List.forall_mem_cons.mpr ⟨lw_p17, List.forall_mem_cons.mpr ⟨lw_p18, List.forall_mem_cons.mpr ⟨lw_p19, List.forall_mem_cons.mpr ⟨lw_p20, List.forall_mem_cons.mpr ⟨lw_p21, List.forall_mem_cons.mpr ⟨lw_p22, List.forall_mem_cons.mpr ⟨lw_p23, List.forall_mem_cons.mpr ⟨lw_p24, List.forall_mem_cons.mpr ⟨lw_p25, List.forall_mem_cons.mpr ⟨lw_p26, List.forall_mem_cons.mpr ⟨lw_p27, List.forall_mem_cons.mpr ⟨lw_p28, List.forall_mem_cons.mpr ⟨lw_p29, List.forall_mem_cons.mpr ⟨lw_p30, List.forall_mem_cons.mpr ⟨lw_p31, fun _ h => absurd h List.not_mem_nil⟩⟩⟩⟩⟩⟩⟩⟩⟩⟩⟩⟩⟩⟩⟩⟩
theorem lw_p32 : lw_okq (⟨"LevelUnits$Parser", "parseLevel", "(LLevelUnits$Node;)LLevelUnits$Node;"⟩, 20) := ⟨⟨by decide +kernel, by decide +kernel⟩, List.mem_of_getElem? (i := 372) (by decide +kernel), List.mem_of_getElem? (i := 805) (by decide +kernel), List.mem_of_getElem? (i := 806) (by decide +kernel)⟩
theorem lw_p33 : lw_okq (⟨"LevelUnits$Parser", "parseFields", "(LLevelUnits$Node;)LLevelUnits$Decl;"⟩, 20) := ⟨⟨by decide +kernel, by decide +kernel⟩, List.mem_of_getElem? (i := 372) (by decide +kernel), List.mem_of_getElem? (i := 809) (by decide +kernel), List.mem_of_getElem? (i := 810) (by decide +kernel)⟩
theorem lw_p34 : lw_okq (⟨"LevelUnits$Parser", "parseMethods", "(LLevelUnits$Node;LLevelUnits$Decl;I)LLevelUnits$Decl;"⟩, 20) := ⟨⟨by decide +kernel, by decide +kernel⟩, List.mem_of_getElem? (i := 372) (by decide +kernel), List.mem_of_getElem? (i := 816) (by decide +kernel), List.mem_of_getElem? (i := 817) (by decide +kernel)⟩
theorem lw_p35 : lw_okq (⟨"LevelUnits$Parser", "parseBounds", "(LLevelUnits$Node;)V"⟩, 20) := ⟨⟨by decide +kernel, by decide +kernel⟩, List.mem_of_getElem? (i := 372) (by decide +kernel), List.mem_of_getElem? (i := 820) (by decide +kernel), List.mem_of_getElem? (i := 821) (by decide +kernel)⟩
theorem lw_p36 : lw_okq (⟨"LevelUnits$Parser", "parseBound", "()I"⟩, 20) := ⟨⟨by decide +kernel, by decide +kernel⟩, List.mem_of_getElem? (i := 372) (by decide +kernel), List.mem_of_getElem? (i := 824) (by decide +kernel), List.mem_of_getElem? (i := 825) (by decide +kernel)⟩
theorem lw_p37 : lw_okq (⟨"LevelUnits$Parser", "takeClosing", "(I)V"⟩, 20) := ⟨⟨by decide +kernel, by decide +kernel⟩, List.mem_of_getElem? (i := 372) (by decide +kernel), List.mem_of_getElem? (i := 828) (by decide +kernel), List.mem_of_getElem? (i := 829) (by decide +kernel)⟩
theorem lw_p38 : lw_okq (⟨"LevelUnits$Parser", "parseSimple", "()LLevelUnits$Node;"⟩, 20) := ⟨⟨by decide +kernel, by decide +kernel⟩, List.mem_of_getElem? (i := 372) (by decide +kernel), List.mem_of_getElem? (i := 832) (by decide +kernel), List.mem_of_getElem? (i := 833) (by decide +kernel)⟩
theorem lw_p39 : lw_okq (⟨"LevelUnits$Parser", "makeBody", "(LLevelUnits$Decl;)LLevelUnits$Stat;"⟩, 20) := ⟨⟨by decide +kernel, by decide +kernel⟩, List.mem_of_getElem? (i := 372) (by decide +kernel), List.mem_of_getElem? (i := 836) (by decide +kernel), List.mem_of_getElem? (i := 837) (by decide +kernel)⟩
theorem lw_p40 : lw_okq (⟨"LevelUnits$Parser", "parseStatements", "(LLevelUnits$Stat;)V"⟩, 20) := ⟨⟨by decide +kernel, by decide +kernel⟩, List.mem_of_getElem? (i := 372) (by decide +kernel), List.mem_of_getElem? (i := 941) (by decide +kernel), List.mem_of_getElem? (i := 942) (by decide +kernel)⟩
theorem lw_p41 : lw_okq (⟨"LevelUnits$Parser", "beginsStatement", "()Z"⟩, 20) := ⟨⟨by decide +kernel, by decide +kernel⟩, List.mem_of_getElem? (i := 372) (by decide +kernel), List.mem_of_getElem? (i := 945) (by decide +kernel), List.mem_of_getElem? (i := 946) (by decide +kernel)⟩
theorem lw_p42 : lw_okq (⟨"LevelUnits$Parser", "parseStatement", "(LLevelUnits$Stat;)LLevelUnits$Stat;"⟩, 20) := ⟨⟨by decide +kernel, by decide +kernel⟩, List.mem_of_getElem? (i := 372) (by decide +kernel), List.mem_of_getElem? (i := 949) (by decide +kernel), List.mem_of_getElem? (i := 950) (by decide +kernel)⟩
theorem lw_p43 : lw_okq (⟨"LevelUnits$Parser", "parseAction", "(LLevelUnits$Stat;)V"⟩, 20) := ⟨⟨by decide +kernel, by decide +kernel⟩, List.mem_of_getElem? (i := 372) (by decide +kernel), List.mem_of_getElem? (i := 953) (by decide +kernel), List.mem_of_getElem? (i := 954) (by decide +kernel)⟩
theorem lw_p44 : lw_okq (⟨"LevelUnits$Parser", "parsePlace", "()LLevelUnits$Op;"⟩, 20) := ⟨⟨by decide +kernel, by decide +kernel⟩, List.mem_of_getElem? (i := 372) (by decide +kernel), List.mem_of_getElem? (i := 957) (by decide +kernel), List.mem_of_getElem? (i := 958) (by decide +kernel)⟩
theorem lw_p45 : lw_okq (⟨"LevelUnits$Parser", "put", "(IILLevelUnits$Node;)V"⟩, 20) := ⟨⟨by decide +kernel, by decide +kernel⟩, List.mem_of_getElem? (i := 372) (by decide +kernel), List.mem_of_getElem? (i := 961) (by decide +kernel), List.mem_of_getElem? (i := 962) (by decide +kernel)⟩
theorem lw_p46 : lw_okq (⟨"LevelUnits$Parser", "parseE", "(LLevelUnits$Op;Z)LLevelUnits$Op;"⟩, 20) := ⟨⟨by decide +kernel, by decide +kernel⟩, List.mem_of_getElem? (i := 372) (by decide +kernel), List.mem_of_getElem? (i := 965) (by decide +kernel), List.mem_of_getElem? (i := 966) (by decide +kernel)⟩
theorem lw_p47 : lw_okq (⟨"LevelUnits$Parser", "parsePrefixes", "(I)V"⟩, 20) := ⟨⟨by decide +kernel, by decide +kernel⟩, List.mem_of_getElem? (i := 372) (by decide +kernel), List.mem_of_getElem? (i := 969) (by decide +kernel), List.mem_of_getElem? (i := 970) (by decide +kernel)⟩
def lw_privs_3 : List (MethodName × Nat) := [(⟨"LevelUnits$Parser", "parseLevel", "(LLevelUnits$Node;)LLevelUnits$Node;"⟩, 20), (⟨"LevelUnits$Parser", "parseFields", "(LLevelUnits$Node;)LLevelUnits$Decl;"⟩, 20), (⟨"LevelUnits$Parser", "parseMethods", "(LLevelUnits$Node;LLevelUnits$Decl;I)LLevelUnits$Decl;"⟩, 20), (⟨"LevelUnits$Parser", "parseBounds", "(LLevelUnits$Node;)V"⟩, 20), (⟨"LevelUnits$Parser", "parseBound", "()I"⟩, 20), (⟨"LevelUnits$Parser", "takeClosing", "(I)V"⟩, 20), (⟨"LevelUnits$Parser", "parseSimple", "()LLevelUnits$Node;"⟩, 20), (⟨"LevelUnits$Parser", "makeBody", "(LLevelUnits$Decl;)LLevelUnits$Stat;"⟩, 20), (⟨"LevelUnits$Parser", "parseStatements", "(LLevelUnits$Stat;)V"⟩, 20), (⟨"LevelUnits$Parser", "beginsStatement", "()Z"⟩, 20), (⟨"LevelUnits$Parser", "parseStatement", "(LLevelUnits$Stat;)LLevelUnits$Stat;"⟩, 20), (⟨"LevelUnits$Parser", "parseAction", "(LLevelUnits$Stat;)V"⟩, 20), (⟨"LevelUnits$Parser", "parsePlace", "()LLevelUnits$Op;"⟩, 20), (⟨"LevelUnits$Parser", "put", "(IILLevelUnits$Node;)V"⟩, 20), (⟨"LevelUnits$Parser", "parseE", "(LLevelUnits$Op;Z)LLevelUnits$Op;"⟩, 20), (⟨"LevelUnits$Parser", "parsePrefixes", "(I)V"⟩, 20)]
theorem lw_r3 : ∀ q ∈ lw_privs_3, lw_okq q := List.forall_mem_cons.mpr ⟨lw_p32, List.forall_mem_cons.mpr ⟨lw_p33, List.forall_mem_cons.mpr ⟨lw_p34, List.forall_mem_cons.mpr ⟨lw_p35, List.forall_mem_cons.mpr ⟨lw_p36, List.forall_mem_cons.mpr ⟨lw_p37, List.forall_mem_cons.mpr ⟨lw_p38, List.forall_mem_cons.mpr ⟨lw_p39, List.forall_mem_cons.mpr ⟨lw_p40, List.forall_mem_cons.mpr ⟨lw_p41, List.forall_mem_cons.mpr ⟨lw_p42, List.forall_mem_cons.mpr ⟨lw_p43, List.forall_mem_cons.mpr ⟨lw_p44, List.forall_mem_cons.mpr ⟨lw_p45, List.forall_mem_cons.mpr ⟨lw_p46, List.forall_mem_cons.mpr ⟨lw_p47, fun _ h => absurd h List.not_mem_nil⟩⟩⟩⟩⟩⟩⟩⟩⟩⟩⟩⟩⟩⟩⟩⟩
theorem lw_p48 : lw_okq (⟨"LevelUnits$Parser", "lastBinds", "(I)I"⟩, 20) := ⟨⟨by decide +kernel, by decide +kernel⟩, List.mem_of_getElem? (i := 372) (by decide +kernel), List.mem_of_getElem? (i := 973) (by decide +kernel), List.mem_of_getElem? (i := 974) (by decide +kernel)⟩
theorem lw_p49 : lw_okq (⟨"LevelUnits$Parser", "await", "(II)V"⟩, 20) := ⟨⟨by decide +kernel, by decide +kernel⟩, List.mem_of_getElem? (i := 372) (by decide +kernel), List.mem_of_getElem? (i := 977) (by decide +kernel), List.mem_of_getElem? (i := 978) (by decide +kernel)⟩
theorem lw_p50 : lw_okq (⟨"LevelUnits$Parser", "parseOperand", "()V"⟩, 20) := ⟨⟨by decide +kernel, by decide +kernel⟩, List.mem_of_getElem? (i := 372) (by decide +kernel), List.mem_of_getElem? (i := 981) (by decide +kernel), List.mem_of_getElem? (i := 982) (by decide +kernel)⟩
theorem lw_p51 : lw_okq (⟨"LevelUnits$Parser", "putWaiting", "(II)V"⟩, 20) := ⟨⟨by decide +kernel, by decide +kernel⟩, List.mem_of_getElem? (i := 372) (by decide +kernel), List.mem_of_getElem? (i := 988) (by decide +kernel), List.mem_of_getElem? (i := 989) (by decide +kernel)⟩
theorem lw_p52 : lw_okq (⟨"LevelUnits$Parser", "parseWorded", "(LLevelUnits$Stat;)V"⟩, 20) := ⟨⟨by decide +kernel, by decide +kernel⟩, List.mem_of_getElem? (i := 372) (by decide +kernel), List.mem_of_getElem? (i := 992) (by decide +kernel), List.mem_of_getElem? (i := 993) (by decide +kernel)⟩
theorem lw_p53 : lw_okq (⟨"LevelUnits$Parser", "parseIf", "(LLevelUnits$Stat;)V"⟩, 20) := ⟨⟨by decide +kernel, by decide +kernel⟩, List.mem_of_getElem? (i := 372) (by decide +kernel), List.mem_of_getElem? (i := 996) (by decide +kernel), List.mem_of_getElem? (i := 997) (by decide +kernel)⟩
theorem lw_p54 : lw_okq (⟨"LevelUnits$Parser", "makePart", "(LLevelUnits$Stat;LLevelUnits$Stat;I)LLevelUnits$Stat;"⟩, 20) := ⟨⟨by decide +kernel, by decide +kernel⟩, List.mem_of_getElem? (i := 372) (by decide +kernel), List.mem_of_getElem? (i := 1000) (by decide +kernel), List.mem_of_getElem? (i := 1001) (by decide +kernel)⟩
theorem lw_p55 : lw_okq (⟨"LevelUnits$Parser", "parseFor", "(LLevelUnits$Stat;)V"⟩, 20) := ⟨⟨by decide +kernel, by decide +kernel⟩, List.mem_of_getElem? (i := 372) (by decide +kernel), List.mem_of_getElem? (i := 1004) (by decide +kernel), List.mem_of_getElem? (i := 1005) (by decide +kernel)⟩
theorem lw_p56 : lw_okq (⟨"LevelUnits$Parser", "toldInSlot", "(LLevelUnits$Stat;I)LLevelUnits$Decl;"⟩, 20) := ⟨⟨by decide +kernel, by decide +kernel⟩, List.mem_of_getElem? (i := 372) (by decide +kernel), List.mem_of_getElem? (i := 1008) (by decide +kernel), List.mem_of_getElem? (i := 1009) (by decide +kernel)⟩
theorem lw_p57 : lw_okq (⟨"LevelUnits$Parser", "parseTry", "(LLevelUnits$Stat;)V"⟩, 20) := ⟨⟨by decide +kernel, by decide +kernel⟩, List.mem_of_getElem? (i := 372) (by decide +kernel), List.mem_of_getElem? (i := 1012) (by decide +kernel), List.mem_of_getElem? (i := 1013) (by decide +kernel)⟩
theorem lw_p58 : lw_okq (⟨"LevelUnits$Parser", "parsePartName", "(LLevelUnits$Stat;LLevelUnits$Stat;)V"⟩, 20) := ⟨⟨by decide +kernel, by decide +kernel⟩, List.mem_of_getElem? (i := 372) (by decide +kernel), List.mem_of_getElem? (i := 1016) (by decide +kernel), List.mem_of_getElem? (i := 1017) (by decide +kernel)⟩
theorem lw_p59 : lw_okq (⟨"LevelUnits$Parser", "parseTypecase", "(LLevelUnits$Stat;)V"⟩, 20) := ⟨⟨by decide +kernel, by decide +kernel⟩, List.mem_of_getElem? (i := 372) (by decide +kernel), List.mem_of_getElem? (i := 1020) (by decide +kernel), List.mem_of_getElem? (i := 1021) (by decide +kernel)⟩
theorem lw_p60 : lw_okq (⟨"LevelUnits$Parser", "takeEndName", "(LLevelUnits$Decl;)V"⟩, 20) := ⟨⟨by decide +kernel, by decide +kernel⟩, List.mem_of_getElem? (i := 372) (by decide +kernel), List.mem_of_getElem? (i := 1024) (by decide +kernel), List.mem_of_getElem? (i := 1025) (by decide +kernel)⟩
theorem lw_p61 : lw_okq (⟨"LevelUnits$Parser", "parseDeclaration", "()V"⟩, 20) := ⟨⟨by decide +kernel, by decide +kernel⟩, List.mem_of_getElem? (i := 372) (by decide +kernel), List.mem_of_getElem? (i := 1028) (by decide +kernel), List.mem_of_getElem? (i := 1029) (by decide +kernel)⟩
theorem lw_p62 : lw_okq (⟨"LevelUnits$Parser", "parseTypeTold", "()V"⟩, 20) := ⟨⟨by decide +kernel, by decide +kernel⟩, List.mem_of_getElem? (i := 372) (by decide +kernel), List.mem_of_getElem? (i := 1032) (by decide +kernel), List.mem_of_getElem? (i := 1033) (by decide +kernel)⟩
theorem lw_p63 : lw_okq (⟨"LevelUnits$Parser", "parseReveal", "()V"⟩, 20) := ⟨⟨by decide +kernel, by decide +kernel⟩, List.mem_of_getElem? (i := 372) (by decide +kernel), List.mem_of_getElem? (i := 1036) (by decide +kernel), List.mem_of_getElem? (i := 1037) (by decide +kernel)⟩
def lw_privs_4 : List (MethodName × Nat) := [(⟨"LevelUnits$Parser", "lastBinds", "(I)I"⟩, 20), (⟨"LevelUnits$Parser", "await", "(II)V"⟩, 20), (⟨"LevelUnits$Parser", "parseOperand", "()V"⟩, 20), (⟨"LevelUnits$Parser", "putWaiting", "(II)V"⟩, 20), (⟨"LevelUnits$Parser", "parseWorded", "(LLevelUnits$Stat;)V"⟩, 20), (⟨"LevelUnits$Parser", "parseIf", "(LLevelUnits$Stat;)V"⟩, 20), (⟨"LevelUnits$Parser", "makePart", "(LLevelUnits$Stat;LLevelUnits$Stat;I)LLevelUnits$Stat;"⟩, 20), (⟨"LevelUnits$Parser", "parseFor", "(LLevelUnits$Stat;)V"⟩, 20), (⟨"LevelUnits$Parser", "toldInSlot", "(LLevelUnits$Stat;I)LLevelUnits$Decl;"⟩, 20), (⟨"LevelUnits$Parser", "parseTry", "(LLevelUnits$Stat;)V"⟩, 20), (⟨"LevelUnits$Parser", "parsePartName", "(LLevelUnits$Stat;LLevelUnits$Stat;)V"⟩, 20), (⟨"LevelUnits$Parser", "parseTypecase", "(LLevelUnits$Stat;)V"⟩, 20), (⟨"LevelUnits$Parser", "takeEndName", "(LLevelUnits$Decl;)V"⟩, 20), (⟨"LevelUnits$Parser", "parseDeclaration", "()V"⟩, 20), (⟨"LevelUnits$Parser", "parseTypeTold", "()V"⟩, 20), (⟨"LevelUnits$Parser", "parseReveal", "()V"⟩, 20)]
theorem lw_r4 : ∀ q ∈ lw_privs_4, lw_okq q := List.forall_mem_cons.mpr ⟨lw_p48, List.forall_mem_cons.mpr ⟨lw_p49, List.forall_mem_cons.mpr ⟨lw_p50, List.forall_mem_cons.mpr ⟨lw_p51, List.forall_mem_cons.mpr ⟨lw_p52, List.forall_mem_cons.mpr ⟨lw_p53, List.forall_mem_cons.mpr ⟨lw_p54, List.forall_mem_cons.mpr ⟨lw_p55, List.forall_mem_cons.mpr ⟨lw_p56, List.forall_mem_cons.mpr ⟨lw_p57, List.forall_mem_cons.mpr ⟨lw_p58, List.forall_mem_cons.mpr ⟨lw_p59, List.forall_mem_cons.mpr ⟨lw_p60, List.forall_mem_cons.mpr ⟨lw_p61, List.forall_mem_cons.mpr ⟨lw_p62, List.forall_mem_cons.mpr ⟨lw_p63, fun _ h => absurd h List.not_mem_nil⟩⟩⟩⟩⟩⟩⟩⟩⟩⟩⟩⟩⟩⟩⟩⟩
theorem lw_p64 : lw_okq (⟨"LevelUnits$Names", "judgeUnit", "(LLevelUnits$Decl;)V"⟩, 2) := ⟨⟨by decide +kernel, by decide +kernel⟩, List.mem_of_getElem? (i := 1040) (by decide +kernel), List.mem_of_getElem? (i := 1058) (by decide +kernel), List.mem_of_getElem? (i := 1059) (by decide +kernel)⟩
theorem lw_p65 : lw_okq (⟨"LevelUnits$Names", "fault", "(II)V"⟩, 2) := ⟨⟨by decide +kernel, by decide +kernel⟩, List.mem_of_getElem? (i := 1040) (by decide +kernel), List.mem_of_getElem? (i := 1062) (by decide +kernel), List.mem_of_getElem? (i := 1063) (by decide +kernel)⟩
theorem lw_p66 : lw_okq (⟨"LevelUnits$Names", "interfaceAhead", "(LLevelUnits$Decl;I)LLevelUnits$Decl;"⟩, 2) := ⟨⟨by decide +kernel, by decide +kernel⟩, List.mem_of_getElem? (i := 1040) (by decide +kernel), List.mem_of_getElem? (i := 1067) (by decide +kernel), List.mem_of_getElem? (i := 1068) (by decide +kernel)⟩
theorem lw_p67 : lw_okq (⟨"LevelUnits$Names", "linkProcedures", "(LLevelUnits$Decl;)V"⟩, 2) := ⟨⟨by decide +kernel, by decide +kernel⟩, List.mem_of_getElem? (i := 1040) (by decide +kernel), List.mem_of_getElem? (i := 1071) (by decide +kernel), List.mem_of_getElem? (i := 1072) (by decide +kernel)⟩
theorem lw_p68 : lw_okq (⟨"LevelUnits$Names", "judgeDeclaration", "(LLevelUnits$Decl;LLevelUnits$Decl;)V"⟩, 2) := ⟨⟨by decide +kernel, by decide +kernel⟩, List.mem_of_getElem? (i := 1040) (by decide +kernel), List.mem_of_getElem? (i := 1078) (by decide +kernel), List.mem_of_getElem? (i := 1079) (by decide +kernel)⟩
theorem lw_p69 : lw_okq (⟨"LevelUnits$Names", "judgeUse", "(LLevelUnits$Decl;LLevelUnits$Op;I)V"⟩, 2) := ⟨⟨by decide +kernel, by decide +kernel⟩, List.mem_of_getElem? (i := 1040) (by decide +kernel), List.mem_of_getElem? (i := 1082) (by decide +kernel), List.mem_of_getElem? (i := 1083) (by decide +kernel)⟩
theorem lw_p70 : lw_okq (⟨"LevelUnits$Names", "judgeNode", "(LLevelUnits$Node;)V"⟩, 2) := ⟨⟨by decide +kernel, by decide +kernel⟩, List.mem_of_getElem? (i := 1040) (by decide +kernel), List.mem_of_getElem? (i := 1095) (by decide +kernel), List.mem_of_getElem? (i := 1096) (by decide +kernel)⟩
theorem lw_p71 : lw_okq (⟨"LevelUnits$Names", "judgeStatement", "(LLevelUnits$Stat;)V"⟩, 2) := ⟨⟨by decide +kernel, by decide +kernel⟩, List.mem_of_getElem? (i := 1040) (by decide +kernel), List.mem_of_getElem? (i := 1099) (by decide +kernel), List.mem_of_getElem? (i := 1100) (by decide +kernel)⟩
theorem lw_p72 : lw_okq (⟨"LevelUnits$Names", "judgePlaces", "(LLevelUnits$Stat;LLevelUnits$Op;)V"⟩, 2) := ⟨⟨by decide +kernel, by decide +kernel⟩, List.mem_of_getElem? (i := 1040) (by decide +kernel), List.mem_of_getElem? (i := 1103) (by decide +kernel), List.mem_of_getElem? (i := 1104) (by decide +kernel)⟩
theorem lw_p73 : lw_okq (⟨"LevelUnits$Names", "judgePlace", "(LLevelUnits$Stat;LLevelUnits$Op;)V"⟩, 2) := ⟨⟨by decide +kernel, by decide +kernel⟩, List.mem_of_getElem? (i := 1040) (by decide +kernel), List.mem_of_getElem? (i := 1107) (by decide +kernel), List.mem_of_getElem? (i := 1108) (by decide +kernel)⟩
theorem lw_p74 : lw_okq (⟨"LevelUnits$Types", "number", "()V"⟩, 13) := ⟨⟨by decide +kernel, by decide +kernel⟩, List.mem_of_getElem? (i := 1114) (by decide +kernel), List.mem_of_getElem? (i := 1189) (by decide +kernel), List.mem_of_getElem? (i := 1190) (by decide +kernel)⟩
theorem lw_p75 : lw_okq (⟨"LevelUnits$Types", "replaced", "(LLevelUnits$Node;)LLevelUnits$Node;"⟩, 13) := ⟨⟨by decide +kernel, by decide +kernel⟩, List.mem_of_getElem? (i := 1114) (by decide +kernel), List.mem_of_getElem? (i := 1193) (by decide +kernel), List.mem_of_getElem? (i := 1194) (by decide +kernel)⟩
theorem lw_p76 : lw_okq (⟨"LevelUnits$Types", "linkReveals", "()V"⟩, 13) := ⟨⟨by decide +kernel, by decide +kernel⟩, List.mem_of_getElem? (i := 1114) (by decide +kernel), List.mem_of_getElem? (i := 1197) (by decide +kernel), List.mem_of_getElem? (i := 1198) (by decide +kernel)⟩
theorem lw_p77 : lw_okq (⟨"LevelUnits$Types", "aboveInWhole", "(LLevelUnits$Node;)LLevelUnits$Node;"⟩, 13) := ⟨⟨by decide +kernel, by decide +kernel⟩, List.mem_of_getElem? (i := 1114) (by decide +kernel), List.mem_of_getElem? (i := 1204) (by decide +kernel), List.mem_of_getElem? (i := 1205) (by decide +kernel)⟩
theorem lw_p78 : lw_okq (⟨"LevelUnits$Types", "findShapes", "()V"⟩, 13) := ⟨⟨by decide +kernel, by decide +kernel⟩, List.mem_of_getElem? (i := 1114) (by decide +kernel), List.mem_of_getElem? (i := 1212) (by decide +kernel), List.mem_of_getElem? (i := 1213) (by decide +kernel)⟩
theorem lw_p79 : lw_okq (⟨"LevelUnits$Types", "findViews", "()V"⟩, 13) := ⟨⟨by decide +kernel, by decide +kernel⟩, List.mem_of_getElem? (i := 1114) (by decide +kernel), List.mem_of_getElem? (i := 1238) (by decide +kernel), List.mem_of_getElem? (i := 1239) (by decide +kernel)⟩
def lw_privs_5 : List (MethodName × Nat) := [(⟨"LevelUnits$Names", "judgeUnit", "(LLevelUnits$Decl;)V"⟩, 2), (⟨"LevelUnits$Names", "fault", "(II)V"⟩, 2), (⟨"LevelUnits$Names", "interfaceAhead", "(LLevelUnits$Decl;I)LLevelUnits$Decl;"⟩, 2), (⟨"LevelUnits$Names", "linkProcedures", "(LLevelUnits$Decl;)V"⟩, 2), (⟨"LevelUnits$Names", "judgeDeclaration", "(LLevelUnits$Decl;LLevelUnits$Decl;)V"⟩, 2), (⟨"LevelUnits$Names", "judgeUse", "(LLevelUnits$Decl;LLevelUnits$Op;I)V"⟩, 2), (⟨"LevelUnits$Names", "judgeNode", "(LLevelUnits$Node;)V"⟩, 2), (⟨"LevelUnits$Names", "judgeStatement", "(LLevelUnits$Stat;)V"⟩, 2), (⟨"LevelUnits$Names", "judgePlaces", "(LLevelUnits$Stat;LLevelUnits$Op;)V"⟩, 2), (⟨"LevelUnits$Names", "judgePlace", "(LLevelUnits$Stat;LLevelUnits$Op;)V"⟩, 2), (⟨"LevelUnits$Types", "number", "()V"⟩, 13), (⟨"LevelUnits$Types", "replaced", "(LLevelUnits$Node;)LLevelUnits$Node;"⟩, 13), (⟨"LevelUnits$Types", "linkReveals", "()V"⟩, 13), (⟨"LevelUnits$Types", "aboveInWhole", "(LLevelUnits$Node;)LLevelUnits$Node;"⟩, 13), (⟨"LevelUnits$Types", "findShapes", "()V"⟩, 13), (⟨"LevelUnits$Types", "findViews", "()V"⟩, 13)]
theorem lw_r5 : ∀ q ∈ lw_privs_5, lw_okq q := List.forall_mem_cons.mpr ⟨lw_p64, List.forall_mem_cons.mpr ⟨lw_p65, List.forall_mem_cons.mpr ⟨lw_p66, List.forall_mem_cons.mpr ⟨lw_p67, List.forall_mem_cons.mpr ⟨lw_p68, List.forall_mem_cons.mpr ⟨lw_p69, List.forall_mem_cons.mpr ⟨lw_p70, List.forall_mem_cons.mpr ⟨lw_p71, List.forall_mem_cons.mpr ⟨lw_p72, List.forall_mem_cons.mpr ⟨lw_p73, List.forall_mem_cons.mpr ⟨lw_p74, List.forall_mem_cons.mpr ⟨lw_p75, List.forall_mem_cons.mpr ⟨lw_p76, List.forall_mem_cons.mpr ⟨lw_p77, List.forall_mem_cons.mpr ⟨lw_p78, List.forall_mem_cons.mpr ⟨lw_p79, fun _ h => absurd h List.not_mem_nil⟩⟩⟩⟩⟩⟩⟩⟩⟩⟩⟩⟩⟩⟩⟩⟩
theorem lw_p80 : lw_okq (⟨"LevelUnits$Types", "viewed", "(LLevelUnits$Decl;LLevelUnits$Node;)LLevelUnits$Node;"⟩, 13) := ⟨⟨by decide +kernel, by decide +kernel⟩, List.mem_of_getElem? (i := 1114) (by decide +kernel), List.mem_of_getElem? (i := 1242) (by decide +kernel), List.mem_of_getElem? (i := 1243) (by decide +kernel)⟩
theorem lw_p81 : lw_okq (⟨"LevelUnits$Types", "findCells", "()Z"⟩, 13) := ⟨⟨by decide +kernel, by decide +kernel⟩, List.mem_of_getElem? (i := 1114) (by decide +kernel), List.mem_of_getElem? (i := 1249) (by decide +kernel), List.mem_of_getElem? (i := 1250) (by decide +kernel)⟩
theorem lw_p82 : lw_okq (⟨"LevelUnits$Types", "judgeDeclaration", "(LLevelUnits$Decl;)V"⟩, 13) := ⟨⟨by decide +kernel, by decide +kernel⟩, List.mem_of_getElem? (i := 1114) (by decide +kernel), List.mem_of_getElem? (i := 1268) (by decide +kernel), List.mem_of_getElem? (i := 1269) (by decide +kernel)⟩
theorem lw_p83 : lw_okq (⟨"LevelUnits$Types", "isInRing", "(LLevelUnits$Decl;)Z"⟩, 13) := ⟨⟨by decide +kernel, by decide +kernel⟩, List.mem_of_getElem? (i := 1114) (by decide +kernel), List.mem_of_getElem? (i := 1272) (by decide +kernel), List.mem_of_getElem? (i := 1273) (by decide +kernel)⟩
theorem lw_p84 : lw_okq (⟨"LevelUnits$Types", "aboveByName", "(LLevelUnits$Decl;)LLevelUnits$Decl;"⟩, 13) := ⟨⟨by decide +kernel, by decide +kernel⟩, List.mem_of_getElem? (i := 1114) (by decide +kernel), List.mem_of_getElem? (i := 1276) (by decide +kernel), List.mem_of_getElem? (i := 1277) (by decide +kernel)⟩
theorem lw_p85 : lw_okq (⟨"LevelUnits$Types", "holdsItself", "(LLevelUnits$Decl;)Z"⟩, 13) := ⟨⟨by decide +kernel, by decide +kernel⟩, List.mem_of_getElem? (i := 1114) (by decide +kernel), List.mem_of_getElem? (i := 1280) (by decide +kernel), List.mem_of_getElem? (i := 1281) (by decide +kernel)⟩
theorem lw_p86 : lw_okq (⟨"LevelUnits$Types", "fault", "(II)V"⟩, 13) := ⟨⟨by decide +kernel, by decide +kernel⟩, List.mem_of_getElem? (i := 1114) (by decide +kernel), List.mem_of_getElem? (i := 1284) (by decide +kernel), List.mem_of_getElem? (i := 1285) (by decide +kernel)⟩
theorem lw_p87 : lw_okq (⟨"LevelUnits$Types", "isAboveInWhole", "(LLevelUnits$Node;LLevelUnits$Node;)Z"⟩, 13) := ⟨⟨by decide +kernel, by decide +kernel⟩, List.mem_of_getElem? (i := 1114) (by decide +kernel), List.mem_of_getElem? (i := 1289) (by decide +kernel), List.mem_of_getElem? (i := 1290) (by decide +kernel)⟩
theorem lw_p88 : lw_okq (⟨"LevelUnits$Types", "judgeReveal", "(LLevelUnits$Decl;)V"⟩, 13) := ⟨⟨by decide +kernel, by decide +kernel⟩, List.mem_of_getElem? (i := 1114) (by decide +kernel), List.mem_of_getElem? (i := 1296) (by decide +kernel), List.mem_of_getElem? (i := 1297) (by decide +kernel)⟩
theorem lw_p89 : lw_okq (⟨"LevelUnits$Types", "judgeTold", "(LLevelUnits$Decl;)V"⟩, 13) := ⟨⟨by decide +kernel, by decide +kernel⟩, List.mem_of_getElem? (i := 1114) (by decide +kernel), List.mem_of_getElem? (i := 1301) (by decide +kernel), List.mem_of_getElem? (i := 1302) (by decide +kernel)⟩
theorem lw_p90 : lw_okq (⟨"LevelUnits$Types", "judgeNode", "(LLevelUnits$Node;)V"⟩, 13) := ⟨⟨by decide +kernel, by decide +kernel⟩, List.mem_of_getElem? (i := 1114) (by decide +kernel), List.mem_of_getElem? (i := 1305) (by decide +kernel), List.mem_of_getElem? (i := 1306) (by decide +kernel)⟩
theorem lw_p91 : lw_okq (⟨"LevelUnits$Types", "judgeMethods", "(LLevelUnits$Node;)V"⟩, 13) := ⟨⟨by decide +kernel, by decide +kernel⟩, List.mem_of_getElem? (i := 1114) (by decide +kernel), List.mem_of_getElem? (i := 1313) (by decide +kernel), List.mem_of_getElem? (i := 1314) (by decide +kernel)⟩
theorem lw_p92 : lw_okq (⟨"LevelUnits$Types", "isFitting", "(LLevelUnits$Decl;LLevelUnits$Node;LLevelUnits$Node;LLevelUnits$Decl;)Z"⟩, 13) := ⟨⟨by decide +kernel, by decide +kernel⟩, List.mem_of_getElem? (i := 1114) (by decide +kernel), List.mem_of_getElem? (i := 1317) (by decide +kernel), List.mem_of_getElem? (i := 1318) (by decide +kernel)⟩
theorem lw_p93 : lw_okq (⟨"LevelUnits$Types", "fieldCells", "(LLevelUnits$Node;)I"⟩, 13) := ⟨⟨by decide +kernel, by decide +kernel⟩, List.mem_of_getElem? (i := 1114) (by decide +kernel), List.mem_of_getElem? (i := 1340) (by decide +kernel), List.mem_of_getElem? (i := 1341) (by decide +kernel)⟩
theorem lw_p94 : lw_okq (⟨"LevelUnits$Checker", "judgeStatement", "(LLevelUnits$Stat;)V"⟩, 7) := ⟨⟨by decide +kernel, by decide +kernel⟩, List.mem_of_getElem? (i := 1347) (by decide +kernel), List.mem_of_getElem? (i := 1381) (by decide +kernel), List.mem_of_getElem? (i := 1382) (by decide +kernel)⟩
theorem lw_p95 : lw_okq (⟨"LevelUnits$Checker", "typeOf", "(LLevelUnits$Op;Z)LLevelUnits$Node;"⟩, 7) := ⟨⟨by decide +kernel, by decide +kernel⟩, List.mem_of_getElem? (i := 1347) (by decide +kernel), List.mem_of_getElem? (i := 1385) (by decide +kernel), List.mem_of_getElem? (i := 1386) (by decide +kernel)⟩
def lw_privs_6 : List (MethodName × Nat) := [(⟨"LevelUnits$Types", "viewed", "(LLevelUnits$Decl;LLevelUnits$Node;)LLevelUnits$Node;"⟩, 13), (⟨"LevelUnits$Types", "findCells", "()Z"⟩, 13), (⟨"LevelUnits$Types", "judgeDeclaration", "(LLevelUnits$Decl;)V"⟩, 13), (⟨"LevelUnits$Types", "isInRing", "(LLevelUnits$Decl;)Z"⟩, 13), (⟨"LevelUnits$Types", "aboveByName", "(LLevelUnits$Decl;)LLevelUnits$Decl;"⟩, 13), (⟨"LevelUnits$Types", "holdsItself", "(LLevelUnits$Decl;)Z"⟩, 13), (⟨"LevelUnits$Types", "fault", "(II)V"⟩, 13), (⟨"LevelUnits$Types", "isAboveInWhole", "(LLevelUnits$Node;LLevelUnits$Node;)Z"⟩, 13), (⟨"LevelUnits$Types", "judgeReveal", "(LLevelUnits$Decl;)V"⟩, 13), (⟨"LevelUnits$Types", "judgeTold", "(LLevelUnits$Decl;)V"⟩, 13), (⟨"LevelUnits$Types", "judgeNode", "(LLevelUnits$Node;)V"⟩, 13), (⟨"LevelUnits$Types", "judgeMethods", "(LLevelUnits$Node;)V"⟩, 13), (⟨"LevelUnits$Types", "isFitting", "(LLevelUnits$Decl;LLevelUnits$Node;LLevelUnits$Node;LLevelUnits$Decl;)Z"⟩, 13), (⟨"LevelUnits$Types", "fieldCells", "(LLevelUnits$Node;)I"⟩, 13), (⟨"LevelUnits$Checker", "judgeStatement", "(LLevelUnits$Stat;)V"⟩, 7), (⟨"LevelUnits$Checker", "typeOf", "(LLevelUnits$Op;Z)LLevelUnits$Node;"⟩, 7)]
theorem lw_r6 : ∀ q ∈ lw_privs_6, lw_okq q := List.forall_mem_cons.mpr ⟨lw_p80, List.forall_mem_cons.mpr ⟨lw_p81, List.forall_mem_cons.mpr ⟨lw_p82, List.forall_mem_cons.mpr ⟨lw_p83, List.forall_mem_cons.mpr ⟨lw_p84, List.forall_mem_cons.mpr ⟨lw_p85, List.forall_mem_cons.mpr ⟨lw_p86, List.forall_mem_cons.mpr ⟨lw_p87, List.forall_mem_cons.mpr ⟨lw_p88, List.forall_mem_cons.mpr ⟨lw_p89, List.forall_mem_cons.mpr ⟨lw_p90, List.forall_mem_cons.mpr ⟨lw_p91, List.forall_mem_cons.mpr ⟨lw_p92, List.forall_mem_cons.mpr ⟨lw_p93, List.forall_mem_cons.mpr ⟨lw_p94, List.forall_mem_cons.mpr ⟨lw_p95, fun _ h => absurd h List.not_mem_nil⟩⟩⟩⟩⟩⟩⟩⟩⟩⟩⟩⟩⟩⟩⟩⟩
theorem lw_p96 : lw_okq (⟨"LevelUnits$Checker", "push", "(LLevelUnits$Node;)V"⟩, 7) := ⟨⟨by decide +kernel, by decide +kernel⟩, List.mem_of_getElem? (i := 1347) (by decide +kernel), List.mem_of_getElem? (i := 1389) (by decide +kernel), List.mem_of_getElem? (i := 1390) (by decide +kernel)⟩
theorem lw_p97 : lw_okq (⟨"LevelUnits$Checker", "judgeName", "(LLevelUnits$Op;)V"⟩, 7) := ⟨⟨by decide +kernel, by decide +kernel⟩, List.mem_of_getElem? (i := 1347) (by decide +kernel), List.mem_of_getElem? (i := 1393) (by decide +kernel), List.mem_of_getElem? (i := 1394) (by decide +kernel)⟩
theorem lw_p98 : lw_okq (⟨"LevelUnits$Checker", "pop", "()LLevelUnits$Node;"⟩, 7) := ⟨⟨by decide +kernel, by decide +kernel⟩, List.mem_of_getElem? (i := 1347) (by decide +kernel), List.mem_of_getElem? (i := 1397) (by decide +kernel), List.mem_of_getElem? (i := 1398) (by decide +kernel)⟩
theorem lw_p99 : lw_okq (⟨"LevelUnits$Checker", "judgeMember", "(LLevelUnits$Op;LLevelUnits$Node;Z)V"⟩, 7) := ⟨⟨by decide +kernel, by decide +kernel⟩, List.mem_of_getElem? (i := 1347) (by decide +kernel), List.mem_of_getElem? (i := 1401) (by decide +kernel), List.mem_of_getElem? (i := 1402) (by decide +kernel)⟩
theorem lw_p100 : lw_okq (⟨"LevelUnits$Checker", "fault", "(I)V"⟩, 7) := ⟨⟨by decide +kernel, by decide +kernel⟩, List.mem_of_getElem? (i := 1347) (by decide +kernel), List.mem_of_getElem? (i := 1407) (by decide +kernel), List.mem_of_getElem? (i := 1408) (by decide +kernel)⟩
theorem lw_p101 : lw_okq (⟨"LevelUnits$Checker", "judgeInside", "(LLevelUnits$Op;)V"⟩, 7) := ⟨⟨by decide +kernel, by decide +kernel⟩, List.mem_of_getElem? (i := 1347) (by decide +kernel), List.mem_of_getElem? (i := 1412) (by decide +kernel), List.mem_of_getElem? (i := 1413) (by decide +kernel)⟩
theorem lw_p102 : lw_okq (⟨"LevelUnits$Checker", "needKind", "(LLevelUnits$Node;I)V"⟩, 7) := ⟨⟨by decide +kernel, by decide +kernel⟩, List.mem_of_getElem? (i := 1347) (by decide +kernel), List.mem_of_getElem? (i := 1416) (by decide +kernel), List.mem_of_getElem? (i := 1417) (by decide +kernel)⟩
theorem lw_p103 : lw_okq (⟨"LevelUnits$Checker", "judgeEqual", "(LLevelUnits$Node;LLevelUnits$Node;)V"⟩, 7) := ⟨⟨by decide +kernel, by decide +kernel⟩, List.mem_of_getElem? (i := 1347) (by decide +kernel), List.mem_of_getElem? (i := 1421) (by decide +kernel), List.mem_of_getElem? (i := 1422) (by decide +kernel)⟩
theorem lw_p104 : lw_okq (⟨"LevelUnits$Checker", "judgeNew", "(LLevelUnits$Node;)V"⟩, 7) := ⟨⟨by decide +kernel, by decide +kernel⟩, List.mem_of_getElem? (i := 1347) (by decide +kernel), List.mem_of_getElem? (i := 1433) (by decide +kernel), List.mem_of_getElem? (i := 1434) (by decide +kernel)⟩
theorem lw_p105 : lw_okq (⟨"LevelUnits$Checker", "needRelated", "(LLevelUnits$Node;LLevelUnits$Node;)V"⟩, 7) := ⟨⟨by decide +kernel, by decide +kernel⟩, List.mem_of_getElem? (i := 1347) (by decide +kernel), List.mem_of_getElem? (i := 1438) (by decide +kernel), List.mem_of_getElem? (i := 1439) (by decide +kernel)⟩
theorem lw_p106 : lw_okq (⟨"LevelUnits$Checker", "judgeOperator", "(I)V"⟩, 7) := ⟨⟨by decide +kernel, by decide +kernel⟩, List.mem_of_getElem? (i := 1347) (by decide +kernel), List.mem_of_getElem? (i := 1442) (by decide +kernel), List.mem_of_getElem? (i := 1443) (by decide +kernel)⟩
theorem lw_p107 : lw_okq (⟨"LevelUnits$Checker", "target", "(LLevelUnits$Op;LLevelUnits$Node;)LLevelUnits$Node;"⟩, 7) := ⟨⟨by decide +kernel, by decide +kernel⟩, List.mem_of_getElem? (i := 1347) (by decide +kernel), List.mem_of_getElem? (i := 1446) (by decide +kernel), List.mem_of_getElem? (i := 1447) (by decide +kernel)⟩
theorem lw_p108 : lw_okq (⟨"LevelUnits$Checker", "needAssignable", "(LLevelUnits$Node;LLevelUnits$Node;)V"⟩, 7) := ⟨⟨by decide +kernel, by decide +kernel⟩, List.mem_of_getElem? (i := 1347) (by decide +kernel), List.mem_of_getElem? (i := 1456) (by decide +kernel), List.mem_of_getElem? (i := 1457) (by decide +kernel)⟩
theorem lw_p109 : lw_okq (⟨"LevelUnits$Checker", "judgeCall", "(LLevelUnits$Stat;LLevelUnits$Node;)V"⟩, 7) := ⟨⟨by decide +kernel, by decide +kernel⟩, List.mem_of_getElem? (i := 1347) (by decide +kernel), List.mem_of_getElem? (i := 1460) (by decide +kernel), List.mem_of_getElem? (i := 1461) (by decide +kernel)⟩
theorem lw_p110 : lw_okq (⟨"LevelUnits$Checker", "judgeParameter", "(LLevelUnits$Op;LLevelUnits$Node;LLevelUnits$Decl;)V"⟩, 7) := ⟨⟨by decide +kernel, by decide +kernel⟩, List.mem_of_getElem? (i := 1347) (by decide +kernel), List.mem_of_getElem? (i := 1464) (by decide +kernel), List.mem_of_getElem? (i := 1465) (by decide +kernel)⟩
theorem lw_p111 : lw_okq (⟨"LevelUnits$Checker", "judgeReturn", "(LLevelUnits$Stat;LLevelUnits$Node;)V"⟩, 7) := ⟨⟨by decide +kernel, by decide +kernel⟩, List.mem_of_getElem? (i := 1347) (by decide +kernel), List.mem_of_getElem? (i := 1471) (by decide +kernel), List.mem_of_getElem? (i := 1472) (by decide +kernel)⟩
def lw_privs_7 : List (MethodName × Nat) := [(⟨"LevelUnits$Checker", "push", "(LLevelUnits$Node;)V"⟩, 7), (⟨"LevelUnits$Checker", "judgeName", "(LLevelUnits$Op;)V"⟩, 7), (⟨"LevelUnits$Checker", "pop", "()LLevelUnits$Node;"⟩, 7), (⟨"LevelUnits$Checker", "judgeMember", "(LLevelUnits$Op;LLevelUnits$Node;Z)V"⟩, 7), (⟨"LevelUnits$Checker", "fault", "(I)V"⟩, 7), (⟨"LevelUnits$Checker", "judgeInside", "(LLevelUnits$Op;)V"⟩, 7), (⟨"LevelUnits$Checker", "needKind", "(LLevelUnits$Node;I)V"⟩, 7), (⟨"LevelUnits$Checker", "judgeEqual", "(LLevelUnits$Node;LLevelUnits$Node;)V"⟩, 7), (⟨"LevelUnits$Checker", "judgeNew", "(LLevelUnits$Node;)V"⟩, 7), (⟨"LevelUnits$Checker", "needRelated", "(LLevelUnits$Node;LLevelUnits$Node;)V"⟩, 7), (⟨"LevelUnits$Checker", "judgeOperator", "(I)V"⟩, 7), (⟨"LevelUnits$Checker", "target", "(LLevelUnits$Op;LLevelUnits$Node;)LLevelUnits$Node;"⟩, 7), (⟨"LevelUnits$Checker", "needAssignable", "(LLevelUnits$Node;LLevelUnits$Node;)V"⟩, 7), (⟨"LevelUnits$Checker", "judgeCall", "(LLevelUnits$Stat;LLevelUnits$Node;)V"⟩, 7), (⟨"LevelUnits$Checker", "judgeParameter", "(LLevelUnits$Op;LLevelUnits$Node;LLevelUnits$Decl;)V"⟩, 7), (⟨"LevelUnits$Checker", "judgeReturn", "(LLevelUnits$Stat;LLevelUnits$Node;)V"⟩, 7)]
theorem lw_r7 : ∀ q ∈ lw_privs_7, lw_okq q := List.forall_mem_cons.mpr ⟨lw_p96, List.forall_mem_cons.mpr ⟨lw_p97, List.forall_mem_cons.mpr ⟨lw_p98, List.forall_mem_cons.mpr ⟨lw_p99, List.forall_mem_cons.mpr ⟨lw_p100, List.forall_mem_cons.mpr ⟨lw_p101, List.forall_mem_cons.mpr ⟨lw_p102, List.forall_mem_cons.mpr ⟨lw_p103, List.forall_mem_cons.mpr ⟨lw_p104, List.forall_mem_cons.mpr ⟨lw_p105, List.forall_mem_cons.mpr ⟨lw_p106, List.forall_mem_cons.mpr ⟨lw_p107, List.forall_mem_cons.mpr ⟨lw_p108, List.forall_mem_cons.mpr ⟨lw_p109, List.forall_mem_cons.mpr ⟨lw_p110, List.forall_mem_cons.mpr ⟨lw_p111, fun _ h => absurd h List.not_mem_nil⟩⟩⟩⟩⟩⟩⟩⟩⟩⟩⟩⟩⟩⟩⟩⟩
theorem lw_p112 : lw_okq (⟨"LevelUnits$Checker", "judgeTypecase", "(LLevelUnits$Stat;LLevelUnits$Node;)V"⟩, 7) := ⟨⟨by decide +kernel, by decide +kernel⟩, List.mem_of_getElem? (i := 1347) (by decide +kernel), List.mem_of_getElem? (i := 1475) (by decide +kernel), List.mem_of_getElem? (i := 1476) (by decide +kernel)⟩
theorem lw_p113 : lw_okq (⟨"LevelUnits$Checker", "judgeLeaving", "(LLevelUnits$Stat;LLevelUnits$Op;)V"⟩, 7) := ⟨⟨by decide +kernel, by decide +kernel⟩, List.mem_of_getElem? (i := 1347) (by decide +kernel), List.mem_of_getElem? (i := 1486) (by decide +kernel), List.mem_of_getElem? (i := 1487) (by decide +kernel)⟩
theorem lw_p114 : lw_okq (⟨"LevelUnits$Checker", "judgeHandlers", "(LLevelUnits$Stat;)V"⟩, 7) := ⟨⟨by decide +kernel, by decide +kernel⟩, List.mem_of_getElem? (i := 1347) (by decide +kernel), List.mem_of_getElem? (i := 1493) (by decide +kernel), List.mem_of_getElem? (i := 1494) (by decide +kernel)⟩
theorem lw_p115 : lw_okq (⟨"LevelUnits$Machine", "howItIs", "()I"⟩, 19) := ⟨⟨by decide +kernel, by decide +kernel⟩, List.mem_of_getElem? (i := 94) (by decide +kernel), List.mem_of_getElem? (i := 1505) (by decide +kernel), List.mem_of_getElem? (i := 1506) (by decide +kernel)⟩
theorem lw_p116 : lw_okq (⟨"LevelUnits$Machine", "countOver", "()I"⟩, 19) := ⟨⟨by decide +kernel, by decide +kernel⟩, List.mem_of_getElem? (i := 94) (by decide +kernel), List.mem_of_getElem? (i := 1509) (by decide +kernel), List.mem_of_getElem? (i := 1510) (by decide +kernel)⟩
theorem lw_p117 : lw_okq (⟨"LevelUnits$Machine", "countReady", "()I"⟩, 19) := ⟨⟨by decide +kernel, by decide +kernel⟩, List.mem_of_getElem? (i := 94) (by decide +kernel), List.mem_of_getElem? (i := 1517) (by decide +kernel), List.mem_of_getElem? (i := 1518) (by decide +kernel)⟩
theorem lw_p118 : lw_okq (⟨"LevelUnits$Machine", "isReady", "(LLevelUnits$Strand;)Z"⟩, 19) := ⟨⟨by decide +kernel, by decide +kernel⟩, List.mem_of_getElem? (i := 94) (by decide +kernel), List.mem_of_getElem? (i := 1521) (by decide +kernel), List.mem_of_getElem? (i := 1522) (by decide +kernel)⟩
theorem lw_p119 : lw_okq (⟨"LevelUnits$Machine", "holderOf", "(I)I"⟩, 19) := ⟨⟨by decide +kernel, by decide +kernel⟩, List.mem_of_getElem? (i := 94) (by decide +kernel), List.mem_of_getElem? (i := 1525) (by decide +kernel), List.mem_of_getElem? (i := 1526) (by decide +kernel)⟩
theorem lw_p120 : lw_okq (⟨"LevelUnits$Machine", "isOver", "(I)Z"⟩, 19) := ⟨⟨by decide +kernel, by decide +kernel⟩, List.mem_of_getElem? (i := 94) (by decide +kernel), List.mem_of_getElem? (i := 1529) (by decide +kernel), List.mem_of_getElem? (i := 1530) (by decide +kernel)⟩
theorem lw_p121 : lw_okq (⟨"LevelUnits$Machine", "countCallCells", "()I"⟩, 19) := ⟨⟨by decide +kernel, by decide +kernel⟩, List.mem_of_getElem? (i := 94) (by decide +kernel), List.mem_of_getElem? (i := 1533) (by decide +kernel), List.mem_of_getElem? (i := 1534) (by decide +kernel)⟩
theorem lw_p122 : lw_okq (⟨"LevelUnits$Machine", "countHeld", "()I"⟩, 19) := ⟨⟨by decide +kernel, by decide +kernel⟩, List.mem_of_getElem? (i := 94) (by decide +kernel), List.mem_of_getElem? (i := 1537) (by decide +kernel), List.mem_of_getElem? (i := 1538) (by decide +kernel)⟩
theorem lw_p123 : lw_okq (⟨"LevelUnits", "typeNumbered", "(I)LLevelUnits$Node;"⟩, 5) := ⟨⟨by decide +kernel, by decide +kernel⟩, List.mem_of_getElem? (i := 34) (by decide +kernel), List.mem_of_getElem? (i := 1545) (by decide +kernel), List.mem_of_getElem? (i := 1546) (by decide +kernel)⟩
theorem lw_p124 : lw_okq (⟨"LevelUnits", "unitNumbered", "(I)LLevelUnits$Decl;"⟩, 5) := ⟨⟨by decide +kernel, by decide +kernel⟩, List.mem_of_getElem? (i := 34) (by decide +kernel), List.mem_of_getElem? (i := 1553) (by decide +kernel), List.mem_of_getElem? (i := 1554) (by decide +kernel)⟩
theorem lw_p125 : lw_okq (⟨"LevelUnits$Machine", "countRow", "(I)I"⟩, 19) := ⟨⟨by decide +kernel, by decide +kernel⟩, List.mem_of_getElem? (i := 94) (by decide +kernel), List.mem_of_getElem? (i := 1607) (by decide +kernel), List.mem_of_getElem? (i := 1608) (by decide +kernel)⟩
theorem lw_p126 : lw_okq (⟨"java/lang/Throwable", "fillInStackTrace", "(I)Ljava/lang/Throwable;"⟩, 6) := ⟨⟨by decide +kernel, by decide +kernel⟩, List.mem_of_getElem? (i := 1665) (by decide +kernel), List.mem_of_getElem? (i := 1663) (by decide +kernel), List.mem_of_getElem? (i := 1664) (by decide +kernel)⟩
theorem lw_p127 : lw_okq (⟨"LevelUnits$Machine", "newStrand", "()LLevelUnits$Strand;"⟩, 19) := ⟨⟨by decide +kernel, by decide +kernel⟩, List.mem_of_getElem? (i := 94) (by decide +kernel), List.mem_of_getElem? (i := 1925) (by decide +kernel), List.mem_of_getElem? (i := 1926) (by decide +kernel)⟩
def lw_privs_8 : List (MethodName × Nat) := [(⟨"LevelUnits$Checker", "judgeTypecase", "(LLevelUnits$Stat;LLevelUnits$Node;)V"⟩, 7), (⟨"LevelUnits$Checker", "judgeLeaving", "(LLevelUnits$Stat;LLevelUnits$Op;)V"⟩, 7), (⟨"LevelUnits$Checker", "judgeHandlers", "(LLevelUnits$Stat;)V"⟩, 7), (⟨"LevelUnits$Machine", "howItIs", "()I"⟩, 19), (⟨"LevelUnits$Machine", "countOver", "()I"⟩, 19), (⟨"LevelUnits$Machine", "countReady", "()I"⟩, 19), (⟨"LevelUnits$Machine", "isReady", "(LLevelUnits$Strand;)Z"⟩, 19), (⟨"LevelUnits$Machine", "holderOf", "(I)I"⟩, 19), (⟨"LevelUnits$Machine", "isOver", "(I)Z"⟩, 19), (⟨"LevelUnits$Machine", "countCallCells", "()I"⟩, 19), (⟨"LevelUnits$Machine", "countHeld", "()I"⟩, 19), (⟨"LevelUnits", "typeNumbered", "(I)LLevelUnits$Node;"⟩, 5), (⟨"LevelUnits", "unitNumbered", "(I)LLevelUnits$Decl;"⟩, 5), (⟨"LevelUnits$Machine", "countRow", "(I)I"⟩, 19), (⟨"java/lang/Throwable", "fillInStackTrace", "(I)Ljava/lang/Throwable;"⟩, 6), (⟨"LevelUnits$Machine", "newStrand", "()LLevelUnits$Strand;"⟩, 19)]
theorem lw_r8 : ∀ q ∈ lw_privs_8, lw_okq q := List.forall_mem_cons.mpr ⟨lw_p112, List.forall_mem_cons.mpr ⟨lw_p113, List.forall_mem_cons.mpr ⟨lw_p114, List.forall_mem_cons.mpr ⟨lw_p115, List.forall_mem_cons.mpr ⟨lw_p116, List.forall_mem_cons.mpr ⟨lw_p117, List.forall_mem_cons.mpr ⟨lw_p118, List.forall_mem_cons.mpr ⟨lw_p119, List.forall_mem_cons.mpr ⟨lw_p120, List.forall_mem_cons.mpr ⟨lw_p121, List.forall_mem_cons.mpr ⟨lw_p122, List.forall_mem_cons.mpr ⟨lw_p123, List.forall_mem_cons.mpr ⟨lw_p124, List.forall_mem_cons.mpr ⟨lw_p125, List.forall_mem_cons.mpr ⟨lw_p126, List.forall_mem_cons.mpr ⟨lw_p127, fun _ h => absurd h List.not_mem_nil⟩⟩⟩⟩⟩⟩⟩⟩⟩⟩⟩⟩⟩⟩⟩⟩
theorem lw_p128 : lw_okq (⟨"LevelUnits$Machine", "goToUnit", "(LLevelUnits$Strand;I)V"⟩, 19) := ⟨⟨by decide +kernel, by decide +kernel⟩, List.mem_of_getElem? (i := 94) (by decide +kernel), List.mem_of_getElem? (i := 2013) (by decide +kernel), List.mem_of_getElem? (i := 2014) (by decide +kernel)⟩
theorem lw_p129 : lw_okq (⟨"LevelUnits$Machine", "goOn", "(LLevelUnits$Strand;)V"⟩, 19) := ⟨⟨by decide +kernel, by decide +kernel⟩, List.mem_of_getElem? (i := 94) (by decide +kernel), List.mem_of_getElem? (i := 2021) (by decide +kernel), List.mem_of_getElem? (i := 2022) (by decide +kernel)⟩
theorem lw_p130 : lw_okq (⟨"LevelUnits$Machine", "passOut", "(LLevelUnits$Strand;)V"⟩, 19) := ⟨⟨by decide +kernel, by decide +kernel⟩, List.mem_of_getElem? (i := 94) (by decide +kernel), List.mem_of_getElem? (i := 2026) (by decide +kernel), List.mem_of_getElem? (i := 2027) (by decide +kernel)⟩
theorem lw_p131 : lw_okq (⟨"LevelUnits$Machine", "leaveBody", "(LLevelUnits$Strand;)V"⟩, 19) := ⟨⟨by decide +kernel, by decide +kernel⟩, List.mem_of_getElem? (i := 94) (by decide +kernel), List.mem_of_getElem? (i := 2030) (by decide +kernel), List.mem_of_getElem? (i := 2031) (by decide +kernel)⟩
theorem lw_p132 : lw_okq (⟨"LevelUnits$Machine", "closeCall", "(LLevelUnits$Strand;)LLevelUnits$Stat;"⟩, 19) := ⟨⟨by decide +kernel, by decide +kernel⟩, List.mem_of_getElem? (i := 94) (by decide +kernel), List.mem_of_getElem? (i := 2034) (by decide +kernel), List.mem_of_getElem? (i := 2035) (by decide +kernel)⟩
theorem lw_p133 : lw_okq (⟨"LevelUnits$Machine", "goToCaller", "(LLevelUnits$Strand;LLevelUnits$Stat;)V"⟩, 19) := ⟨⟨by decide +kernel, by decide +kernel⟩, List.mem_of_getElem? (i := 94) (by decide +kernel), List.mem_of_getElem? (i := 2038) (by decide +kernel), List.mem_of_getElem? (i := 2039) (by decide +kernel)⟩
theorem lw_p134 : lw_okq (⟨"LevelUnits$Machine", "holdAgainst", "(ILLevelUnits$Node;)I"⟩, 19) := ⟨⟨by decide +kernel, by decide +kernel⟩, List.mem_of_getElem? (i := 94) (by decide +kernel), List.mem_of_getElem? (i := 2046) (by decide +kernel), List.mem_of_getElem? (i := 2047) (by decide +kernel)⟩
theorem lw_p135 : lw_okq (⟨"LevelUnits$Machine", "fail", "(I)V"⟩, 19) := ⟨⟨by decide +kernel, by decide +kernel⟩, List.mem_of_getElem? (i := 94) (by decide +kernel), List.mem_of_getElem? (i := 2050) (by decide +kernel), List.mem_of_getElem? (i := 2051) (by decide +kernel)⟩
theorem lw_p136 : lw_okq (⟨"LevelUnits$Machine", "isOf", "(ILLevelUnits$Node;)Z"⟩, 19) := ⟨⟨by decide +kernel, by decide +kernel⟩, List.mem_of_getElem? (i := 94) (by decide +kernel), List.mem_of_getElem? (i := 2054) (by decide +kernel), List.mem_of_getElem? (i := 2055) (by decide +kernel)⟩
theorem lw_p137 : lw_okq (⟨"LevelUnits$Machine", "store", "(LLevelUnits$Strand;II)V"⟩, 19) := ⟨⟨by decide +kernel, by decide +kernel⟩, List.mem_of_getElem? (i := 94) (by decide +kernel), List.mem_of_getElem? (i := 2058) (by decide +kernel), List.mem_of_getElem? (i := 2059) (by decide +kernel)⟩
theorem lw_p138 : lw_okq (⟨"LevelUnits$Machine", "rowOf", "(LLevelUnits$Strand;I)[I"⟩, 19) := ⟨⟨by decide +kernel, by decide +kernel⟩, List.mem_of_getElem? (i := 94) (by decide +kernel), List.mem_of_getElem? (i := 2062) (by decide +kernel), List.mem_of_getElem? (i := 2063) (by decide +kernel)⟩
theorem lw_p139 : lw_okq (⟨"LevelUnits$Machine", "hold", "(II)V"⟩, 19) := ⟨⟨by decide +kernel, by decide +kernel⟩, List.mem_of_getElem? (i := 94) (by decide +kernel), List.mem_of_getElem? (i := 2075) (by decide +kernel), List.mem_of_getElem? (i := 2076) (by decide +kernel)⟩
theorem lw_p140 : lw_okq (⟨"LevelUnits$Machine", "goFinally", "(LLevelUnits$Strand;LLevelUnits$Stat;)V"⟩, 19) := ⟨⟨by decide +kernel, by decide +kernel⟩, List.mem_of_getElem? (i := 94) (by decide +kernel), List.mem_of_getElem? (i := 2079) (by decide +kernel), List.mem_of_getElem? (i := 2080) (by decide +kernel)⟩
theorem lw_p141 : lw_okq (⟨"LevelUnits$Machine", "goToHandler", "(LLevelUnits$Strand;LLevelUnits$Stat;)V"⟩, 19) := ⟨⟨by decide +kernel, by decide +kernel⟩, List.mem_of_getElem? (i := 94) (by decide +kernel), List.mem_of_getElem? (i := 2087) (by decide +kernel), List.mem_of_getElem? (i := 2088) (by decide +kernel)⟩
theorem lw_p142 : lw_okq (⟨"LevelUnits$Machine", "passEnd", "(LLevelUnits$Strand;)V"⟩, 19) := ⟨⟨by decide +kernel, by decide +kernel⟩, List.mem_of_getElem? (i := 94) (by decide +kernel), List.mem_of_getElem? (i := 2092) (by decide +kernel), List.mem_of_getElem? (i := 2093) (by decide +kernel)⟩
theorem lw_p143 : lw_okq (⟨"LevelUnits$Machine", "endBody", "(LLevelUnits$Strand;LLevelUnits$Decl;)V"⟩, 19) := ⟨⟨by decide +kernel, by decide +kernel⟩, List.mem_of_getElem? (i := 94) (by decide +kernel), List.mem_of_getElem? (i := 2096) (by decide +kernel), List.mem_of_getElem? (i := 2097) (by decide +kernel)⟩
def lw_privs_9 : List (MethodName × Nat) := [(⟨"LevelUnits$Machine", "goToUnit", "(LLevelUnits$Strand;I)V"⟩, 19), (⟨"LevelUnits$Machine", "goOn", "(LLevelUnits$Strand;)V"⟩, 19), (⟨"LevelUnits$Machine", "passOut", "(LLevelUnits$Strand;)V"⟩, 19), (⟨"LevelUnits$Machine", "leaveBody", "(LLevelUnits$Strand;)V"⟩, 19), (⟨"LevelUnits$Machine", "closeCall", "(LLevelUnits$Strand;)LLevelUnits$Stat;"⟩, 19), (⟨"LevelUnits$Machine", "goToCaller", "(LLevelUnits$Strand;LLevelUnits$Stat;)V"⟩, 19), (⟨"LevelUnits$Machine", "holdAgainst", "(ILLevelUnits$Node;)I"⟩, 19), (⟨"LevelUnits$Machine", "fail", "(I)V"⟩, 19), (⟨"LevelUnits$Machine", "isOf", "(ILLevelUnits$Node;)Z"⟩, 19), (⟨"LevelUnits$Machine", "store", "(LLevelUnits$Strand;II)V"⟩, 19), (⟨"LevelUnits$Machine", "rowOf", "(LLevelUnits$Strand;I)[I"⟩, 19), (⟨"LevelUnits$Machine", "hold", "(II)V"⟩, 19), (⟨"LevelUnits$Machine", "goFinally", "(LLevelUnits$Strand;LLevelUnits$Stat;)V"⟩, 19), (⟨"LevelUnits$Machine", "goToHandler", "(LLevelUnits$Strand;LLevelUnits$Stat;)V"⟩, 19), (⟨"LevelUnits$Machine", "passEnd", "(LLevelUnits$Strand;)V"⟩, 19), (⟨"LevelUnits$Machine", "endBody", "(LLevelUnits$Strand;LLevelUnits$Decl;)V"⟩, 19)]
theorem lw_r9 : ∀ q ∈ lw_privs_9, lw_okq q := List.forall_mem_cons.mpr ⟨lw_p128, List.forall_mem_cons.mpr ⟨lw_p129, List.forall_mem_cons.mpr ⟨lw_p130, List.forall_mem_cons.mpr ⟨lw_p131, List.forall_mem_cons.mpr ⟨lw_p132, List.forall_mem_cons.mpr ⟨lw_p133, List.forall_mem_cons.mpr ⟨lw_p134, List.forall_mem_cons.mpr ⟨lw_p135, List.forall_mem_cons.mpr ⟨lw_p136, List.forall_mem_cons.mpr ⟨lw_p137, List.forall_mem_cons.mpr ⟨lw_p138, List.forall_mem_cons.mpr ⟨lw_p139, List.forall_mem_cons.mpr ⟨lw_p140, List.forall_mem_cons.mpr ⟨lw_p141, List.forall_mem_cons.mpr ⟨lw_p142, List.forall_mem_cons.mpr ⟨lw_p143, fun _ h => absurd h List.not_mem_nil⟩⟩⟩⟩⟩⟩⟩⟩⟩⟩⟩⟩⟩⟩⟩⟩
theorem lw_p144 : lw_okq (⟨"LevelUnits$Machine", "goFromFinally", "(LLevelUnits$Strand;LLevelUnits$Stat;)V"⟩, 19) := ⟨⟨by decide +kernel, by decide +kernel⟩, List.mem_of_getElem? (i := 94) (by decide +kernel), List.mem_of_getElem? (i := 2100) (by decide +kernel), List.mem_of_getElem? (i := 2101) (by decide +kernel)⟩
theorem lw_p145 : lw_okq (⟨"LevelUnits$Machine", "endByFault", "(LLevelUnits$Strand;)V"⟩, 19) := ⟨⟨by decide +kernel, by decide +kernel⟩, List.mem_of_getElem? (i := 94) (by decide +kernel), List.mem_of_getElem? (i := 2104) (by decide +kernel), List.mem_of_getElem? (i := 2105) (by decide +kernel)⟩
theorem lw_p146 : lw_okq (⟨"LevelUnits$Machine", "chosen", "()LLevelUnits$Strand;"⟩, 19) := ⟨⟨by decide +kernel, by decide +kernel⟩, List.mem_of_getElem? (i := 94) (by decide +kernel), List.mem_of_getElem? (i := 2128) (by decide +kernel), List.mem_of_getElem? (i := 2129) (by decide +kernel)⟩
theorem lw_p147 : lw_okq (⟨"LevelUnits$Machine", "act", "(LLevelUnits$Strand;LLevelUnits$Stat;)V"⟩, 19) := ⟨⟨by decide +kernel, by decide +kernel⟩, List.mem_of_getElem? (i := 94) (by decide +kernel), List.mem_of_getElem? (i := 2133) (by decide +kernel), List.mem_of_getElem? (i := 2134) (by decide +kernel)⟩
theorem lw_p148 : lw_okq (⟨"LevelUnits$Machine", "worth", "(LLevelUnits$Strand;LLevelUnits$Op;)I"⟩, 19) := ⟨⟨by decide +kernel, by decide +kernel⟩, List.mem_of_getElem? (i := 94) (by decide +kernel), List.mem_of_getElem? (i := 2137) (by decide +kernel), List.mem_of_getElem? (i := 2138) (by decide +kernel)⟩
theorem lw_p149 : lw_okq (⟨"LevelUnits$Machine", "push", "(I)V"⟩, 19) := ⟨⟨by decide +kernel, by decide +kernel⟩, List.mem_of_getElem? (i := 94) (by decide +kernel), List.mem_of_getElem? (i := 2141) (by decide +kernel), List.mem_of_getElem? (i := 2142) (by decide +kernel)⟩
theorem lw_p150 : lw_okq (⟨"LevelUnits$Machine", "placeOf", "(LLevelUnits$Strand;LLevelUnits$Decl;)I"⟩, 19) := ⟨⟨by decide +kernel, by decide +kernel⟩, List.mem_of_getElem? (i := 94) (by decide +kernel), List.mem_of_getElem? (i := 2145) (by decide +kernel), List.mem_of_getElem? (i := 2146) (by decide +kernel)⟩
theorem lw_p151 : lw_okq (⟨"LevelUnits$Machine", "pop", "()I"⟩, 19) := ⟨⟨by decide +kernel, by decide +kernel⟩, List.mem_of_getElem? (i := 94) (by decide +kernel), List.mem_of_getElem? (i := 2156) (by decide +kernel), List.mem_of_getElem? (i := 2157) (by decide +kernel)⟩
theorem lw_p152 : lw_okq (⟨"LevelUnits$Machine", "fetch", "(LLevelUnits$Strand;I)I"⟩, 19) := ⟨⟨by decide +kernel, by decide +kernel⟩, List.mem_of_getElem? (i := 94) (by decide +kernel), List.mem_of_getElem? (i := 2160) (by decide +kernel), List.mem_of_getElem? (i := 2161) (by decide +kernel)⟩
theorem lw_p153 : lw_okq (⟨"LevelUnits$Machine", "insideOf", "(I)I"⟩, 19) := ⟨⟨by decide +kernel, by decide +kernel⟩, List.mem_of_getElem? (i := 94) (by decide +kernel), List.mem_of_getElem? (i := 2164) (by decide +kernel), List.mem_of_getElem? (i := 2165) (by decide +kernel)⟩
theorem lw_p154 : lw_okq (⟨"LevelUnits$Machine", "pushElement", "(LLevelUnits$Node;)V"⟩, 19) := ⟨⟨by decide +kernel, by decide +kernel⟩, List.mem_of_getElem? (i := 94) (by decide +kernel), List.mem_of_getElem? (i := 2169) (by decide +kernel), List.mem_of_getElem? (i := 2170) (by decide +kernel)⟩
theorem lw_p155 : lw_okq (⟨"LevelUnits$Machine", "makeThing", "(LLevelUnits$Node;)I"⟩, 19) := ⟨⟨by decide +kernel, by decide +kernel⟩, List.mem_of_getElem? (i := 94) (by decide +kernel), List.mem_of_getElem? (i := 2173) (by decide +kernel), List.mem_of_getElem? (i := 2174) (by decide +kernel)⟩
theorem lw_p156 : lw_okq (⟨"LevelUnits$Machine", "pushNumber", "(J)V"⟩, 19) := ⟨⟨by decide +kernel, by decide +kernel⟩, List.mem_of_getElem? (i := 94) (by decide +kernel), List.mem_of_getElem? (i := 2178) (by decide +kernel), List.mem_of_getElem? (i := 2179) (by decide +kernel)⟩
theorem lw_p157 : lw_okq (⟨"LevelUnits$Machine", "operate", "(III)J"⟩, 19) := ⟨⟨by decide +kernel, by decide +kernel⟩, List.mem_of_getElem? (i := 94) (by decide +kernel), List.mem_of_getElem? (i := 2182) (by decide +kernel), List.mem_of_getElem? (i := 2183) (by decide +kernel)⟩
theorem lw_p158 : lw_okq (⟨"LevelUnits$Machine", "assign", "(LLevelUnits$Strand;ILLevelUnits$Node;I)V"⟩, 19) := ⟨⟨by decide +kernel, by decide +kernel⟩, List.mem_of_getElem? (i := 94) (by decide +kernel), List.mem_of_getElem? (i := 2192) (by decide +kernel), List.mem_of_getElem? (i := 2193) (by decide +kernel)⟩
theorem lw_p159 : lw_okq (⟨"LevelUnits$Machine", "call", "(LLevelUnits$Strand;LLevelUnits$Stat;)V"⟩, 19) := ⟨⟨by decide +kernel, by decide +kernel⟩, List.mem_of_getElem? (i := 94) (by decide +kernel), List.mem_of_getElem? (i := 2200) (by decide +kernel), List.mem_of_getElem? (i := 2201) (by decide +kernel)⟩
def lw_privs_10 : List (MethodName × Nat) := [(⟨"LevelUnits$Machine", "goFromFinally", "(LLevelUnits$Strand;LLevelUnits$Stat;)V"⟩, 19), (⟨"LevelUnits$Machine", "endByFault", "(LLevelUnits$Strand;)V"⟩, 19), (⟨"LevelUnits$Machine", "chosen", "()LLevelUnits$Strand;"⟩, 19), (⟨"LevelUnits$Machine", "act", "(LLevelUnits$Strand;LLevelUnits$Stat;)V"⟩, 19), (⟨"LevelUnits$Machine", "worth", "(LLevelUnits$Strand;LLevelUnits$Op;)I"⟩, 19), (⟨"LevelUnits$Machine", "push", "(I)V"⟩, 19), (⟨"LevelUnits$Machine", "placeOf", "(LLevelUnits$Strand;LLevelUnits$Decl;)I"⟩, 19), (⟨"LevelUnits$Machine", "pop", "()I"⟩, 19), (⟨"LevelUnits$Machine", "fetch", "(LLevelUnits$Strand;I)I"⟩, 19), (⟨"LevelUnits$Machine", "insideOf", "(I)I"⟩, 19), (⟨"LevelUnits$Machine", "pushElement", "(LLevelUnits$Node;)V"⟩, 19), (⟨"LevelUnits$Machine", "makeThing", "(LLevelUnits$Node;)I"⟩, 19), (⟨"LevelUnits$Machine", "pushNumber", "(J)V"⟩, 19), (⟨"LevelUnits$Machine", "operate", "(III)J"⟩, 19), (⟨"LevelUnits$Machine", "assign", "(LLevelUnits$Strand;ILLevelUnits$Node;I)V"⟩, 19), (⟨"LevelUnits$Machine", "call", "(LLevelUnits$Strand;LLevelUnits$Stat;)V"⟩, 19)]
theorem lw_r10 : ∀ q ∈ lw_privs_10, lw_okq q := List.forall_mem_cons.mpr ⟨lw_p144, List.forall_mem_cons.mpr ⟨lw_p145, List.forall_mem_cons.mpr ⟨lw_p146, List.forall_mem_cons.mpr ⟨lw_p147, List.forall_mem_cons.mpr ⟨lw_p148, List.forall_mem_cons.mpr ⟨lw_p149, List.forall_mem_cons.mpr ⟨lw_p150, List.forall_mem_cons.mpr ⟨lw_p151, List.forall_mem_cons.mpr ⟨lw_p152, List.forall_mem_cons.mpr ⟨lw_p153, List.forall_mem_cons.mpr ⟨lw_p154, List.forall_mem_cons.mpr ⟨lw_p155, List.forall_mem_cons.mpr ⟨lw_p156, List.forall_mem_cons.mpr ⟨lw_p157, List.forall_mem_cons.mpr ⟨lw_p158, List.forall_mem_cons.mpr ⟨lw_p159, fun _ h => absurd h List.not_mem_nil⟩⟩⟩⟩⟩⟩⟩⟩⟩⟩⟩⟩⟩⟩⟩⟩
theorem lw_p160 : lw_okq (⟨"LevelUnits$Machine", "calledProcedure", "(LLevelUnits$Strand;LLevelUnits$Stat;)I"⟩, 19) := ⟨⟨by decide +kernel, by decide +kernel⟩, List.mem_of_getElem? (i := 94) (by decide +kernel), List.mem_of_getElem? (i := 2204) (by decide +kernel), List.mem_of_getElem? (i := 2205) (by decide +kernel)⟩
theorem lw_p161 : lw_okq (⟨"LevelUnits$Machine", "methodOf", "(ILLevelUnits$Decl;)I"⟩, 19) := ⟨⟨by decide +kernel, by decide +kernel⟩, List.mem_of_getElem? (i := 94) (by decide +kernel), List.mem_of_getElem? (i := 2208) (by decide +kernel), List.mem_of_getElem? (i := 2209) (by decide +kernel)⟩
theorem lw_p162 : lw_okq (⟨"LevelUnits$Machine", "passParameters", "(LLevelUnits$Strand;LLevelUnits$Stat;LLevelUnits$Decl;)V"⟩, 19) := ⟨⟨by decide +kernel, by decide +kernel⟩, List.mem_of_getElem? (i := 94) (by decide +kernel), List.mem_of_getElem? (i := 2215) (by decide +kernel), List.mem_of_getElem? (i := 2216) (by decide +kernel)⟩
theorem lw_p163 : lw_okq (⟨"LevelUnits$Machine", "openCall", "(LLevelUnits$Strand;LLevelUnits$Stat;ILLevelUnits$Decl;)V"⟩, 19) := ⟨⟨by decide +kernel, by decide +kernel⟩, List.mem_of_getElem? (i := 94) (by decide +kernel), List.mem_of_getElem? (i := 2219) (by decide +kernel), List.mem_of_getElem? (i := 2220) (by decide +kernel)⟩
theorem lw_p164 : lw_okq (⟨"LevelUnits$Machine", "leave", "(LLevelUnits$Strand;LLevelUnits$Stat;I)V"⟩, 19) := ⟨⟨by decide +kernel, by decide +kernel⟩, List.mem_of_getElem? (i := 94) (by decide +kernel), List.mem_of_getElem? (i := 2223) (by decide +kernel), List.mem_of_getElem? (i := 2224) (by decide +kernel)⟩
theorem lw_p165 : lw_okq (⟨"LevelUnits$Machine", "doIf", "(LLevelUnits$Strand;LLevelUnits$Stat;)V"⟩, 19) := ⟨⟨by decide +kernel, by decide +kernel⟩, List.mem_of_getElem? (i := 94) (by decide +kernel), List.mem_of_getElem? (i := 2227) (by decide +kernel), List.mem_of_getElem? (i := 2228) (by decide +kernel)⟩
theorem lw_p166 : lw_okq (⟨"LevelUnits$Machine", "goIf", "(LLevelUnits$Strand;LLevelUnits$Stat;Z)V"⟩, 19) := ⟨⟨by decide +kernel, by decide +kernel⟩, List.mem_of_getElem? (i := 94) (by decide +kernel), List.mem_of_getElem? (i := 2231) (by decide +kernel), List.mem_of_getElem? (i := 2232) (by decide +kernel)⟩
theorem lw_p167 : lw_okq (⟨"LevelUnits$Machine", "doFor", "(LLevelUnits$Strand;LLevelUnits$Stat;)V"⟩, 19) := ⟨⟨by decide +kernel, by decide +kernel⟩, List.mem_of_getElem? (i := 94) (by decide +kernel), List.mem_of_getElem? (i := 2235) (by decide +kernel), List.mem_of_getElem? (i := 2236) (by decide +kernel)⟩
theorem lw_p168 : lw_okq (⟨"LevelUnits$Machine", "doTypecase", "(LLevelUnits$Strand;LLevelUnits$Stat;)V"⟩, 19) := ⟨⟨by decide +kernel, by decide +kernel⟩, List.mem_of_getElem? (i := 94) (by decide +kernel), List.mem_of_getElem? (i := 2239) (by decide +kernel), List.mem_of_getElem? (i := 2240) (by decide +kernel)⟩
theorem lw_p169 : lw_okq (⟨"LevelUnits$Machine", "doThreads", "(LLevelUnits$Strand;LLevelUnits$Stat;)V"⟩, 19) := ⟨⟨by decide +kernel, by decide +kernel⟩, List.mem_of_getElem? (i := 94) (by decide +kernel), List.mem_of_getElem? (i := 2243) (by decide +kernel), List.mem_of_getElem? (i := 2244) (by decide +kernel)⟩
theorem lw_p170 : lw_okq (⟨"LevelUnits$Machine", "takeMutex", "(LLevelUnits$Strand;LLevelUnits$Stat;I)V"⟩, 19) := ⟨⟨by decide +kernel, by decide +kernel⟩, List.mem_of_getElem? (i := 94) (by decide +kernel), List.mem_of_getElem? (i := 2247) (by decide +kernel), List.mem_of_getElem? (i := 2248) (by decide +kernel)⟩
theorem lw_p171 : lw_okq (⟨"LevelUnits$Machine", "waitInRow", "(LLevelUnits$Strand;II)V"⟩, 19) := ⟨⟨by decide +kernel, by decide +kernel⟩, List.mem_of_getElem? (i := 94) (by decide +kernel), List.mem_of_getElem? (i := 2251) (by decide +kernel), List.mem_of_getElem? (i := 2252) (by decide +kernel)⟩
theorem lw_p172 : lw_okq (⟨"LevelUnits$Machine", "wake", "(IZ)V"⟩, 19) := ⟨⟨by decide +kernel, by decide +kernel⟩, List.mem_of_getElem? (i := 94) (by decide +kernel), List.mem_of_getElem? (i := 2255) (by decide +kernel), List.mem_of_getElem? (i := 2256) (by decide +kernel)⟩
theorem lw_p173 : lw_okq (⟨"LevelUnits$Machine", "stopWaiting", "(LLevelUnits$Strand;)V"⟩, 19) := ⟨⟨by decide +kernel, by decide +kernel⟩, List.mem_of_getElem? (i := 94) (by decide +kernel), List.mem_of_getElem? (i := 2259) (by decide +kernel), List.mem_of_getElem? (i := 2260) (by decide +kernel)⟩
theorem lw_p174 : lw_okq (⟨"LevelUnitsModel", "four", "(I)V"⟩, 134) := ⟨⟨by decide +kernel, by decide +kernel⟩, List.mem_of_getElem? (i := 2263) (by decide +kernel), List.mem_of_getElem? (i := 2703) (by decide +kernel), List.mem_of_getElem? (i := 2704) (by decide +kernel)⟩
theorem lw_p175 : lw_okq (⟨"LevelUnitsModel", "cut", "()V"⟩, 134) := ⟨⟨by decide +kernel, by decide +kernel⟩, List.mem_of_getElem? (i := 2263) (by decide +kernel), List.mem_of_getElem? (i := 2715) (by decide +kernel), List.mem_of_getElem? (i := 2716) (by decide +kernel)⟩
def lw_privs_11 : List (MethodName × Nat) := [(⟨"LevelUnits$Machine", "calledProcedure", "(LLevelUnits$Strand;LLevelUnits$Stat;)I"⟩, 19), (⟨"LevelUnits$Machine", "methodOf", "(ILLevelUnits$Decl;)I"⟩, 19), (⟨"LevelUnits$Machine", "passParameters", "(LLevelUnits$Strand;LLevelUnits$Stat;LLevelUnits$Decl;)V"⟩, 19), (⟨"LevelUnits$Machine", "openCall", "(LLevelUnits$Strand;LLevelUnits$Stat;ILLevelUnits$Decl;)V"⟩, 19), (⟨"LevelUnits$Machine", "leave", "(LLevelUnits$Strand;LLevelUnits$Stat;I)V"⟩, 19), (⟨"LevelUnits$Machine", "doIf", "(LLevelUnits$Strand;LLevelUnits$Stat;)V"⟩, 19), (⟨"LevelUnits$Machine", "goIf", "(LLevelUnits$Strand;LLevelUnits$Stat;Z)V"⟩, 19), (⟨"LevelUnits$Machine", "doFor", "(LLevelUnits$Strand;LLevelUnits$Stat;)V"⟩, 19), (⟨"LevelUnits$Machine", "doTypecase", "(LLevelUnits$Strand;LLevelUnits$Stat;)V"⟩, 19), (⟨"LevelUnits$Machine", "doThreads", "(LLevelUnits$Strand;LLevelUnits$Stat;)V"⟩, 19), (⟨"LevelUnits$Machine", "takeMutex", "(LLevelUnits$Strand;LLevelUnits$Stat;I)V"⟩, 19), (⟨"LevelUnits$Machine", "waitInRow", "(LLevelUnits$Strand;II)V"⟩, 19), (⟨"LevelUnits$Machine", "wake", "(IZ)V"⟩, 19), (⟨"LevelUnits$Machine", "stopWaiting", "(LLevelUnits$Strand;)V"⟩, 19), (⟨"LevelUnitsModel", "four", "(I)V"⟩, 134), (⟨"LevelUnitsModel", "cut", "()V"⟩, 134)]
theorem lw_r11 : ∀ q ∈ lw_privs_11, lw_okq q := List.forall_mem_cons.mpr ⟨lw_p160, List.forall_mem_cons.mpr ⟨lw_p161, List.forall_mem_cons.mpr ⟨lw_p162, List.forall_mem_cons.mpr ⟨lw_p163, List.forall_mem_cons.mpr ⟨lw_p164, List.forall_mem_cons.mpr ⟨lw_p165, List.forall_mem_cons.mpr ⟨lw_p166, List.forall_mem_cons.mpr ⟨lw_p167, List.forall_mem_cons.mpr ⟨lw_p168, List.forall_mem_cons.mpr ⟨lw_p169, List.forall_mem_cons.mpr ⟨lw_p170, List.forall_mem_cons.mpr ⟨lw_p171, List.forall_mem_cons.mpr ⟨lw_p172, List.forall_mem_cons.mpr ⟨lw_p173, List.forall_mem_cons.mpr ⟨lw_p174, List.forall_mem_cons.mpr ⟨lw_p175, fun _ h => absurd h List.not_mem_nil⟩⟩⟩⟩⟩⟩⟩⟩⟩⟩⟩⟩⟩⟩⟩⟩
theorem lw_p176 : lw_okq (⟨"LevelUnitsModel", "knowWords", "()V"⟩, 134) := ⟨⟨by decide +kernel, by decide +kernel⟩, List.mem_of_getElem? (i := 2263) (by decide +kernel), List.mem_of_getElem? (i := 2719) (by decide +kernel), List.mem_of_getElem? (i := 2720) (by decide +kernel)⟩
theorem lw_p177 : lw_okq (⟨"LevelUnitsModel", "nameOf", "(I)I"⟩, 134) := ⟨⟨by decide +kernel, by decide +kernel⟩, List.mem_of_getElem? (i := 2263) (by decide +kernel), List.mem_of_getElem? (i := 2726) (by decide +kernel), List.mem_of_getElem? (i := 2727) (by decide +kernel)⟩
theorem lw_p178 : lw_okq (⟨"LevelUnitsModel", "passes", "()Z"⟩, 134) := ⟨⟨by decide +kernel, by decide +kernel⟩, List.mem_of_getElem? (i := 2263) (by decide +kernel), List.mem_of_getElem? (i := 2730) (by decide +kernel), List.mem_of_getElem? (i := 2731) (by decide +kernel)⟩
theorem lw_p179 : lw_okq (⟨"LevelUnitsModel", "see", "(I)I"⟩, 134) := ⟨⟨by decide +kernel, by decide +kernel⟩, List.mem_of_getElem? (i := 2263) (by decide +kernel), List.mem_of_getElem? (i := 2734) (by decide +kernel), List.mem_of_getElem? (i := 2735) (by decide +kernel)⟩
theorem lw_p180 : lw_okq (⟨"LevelUnitsModel", "note", "()Z"⟩, 134) := ⟨⟨by decide +kernel, by decide +kernel⟩, List.mem_of_getElem? (i := 2263) (by decide +kernel), List.mem_of_getElem? (i := 2738) (by decide +kernel), List.mem_of_getElem? (i := 2739) (by decide +kernel)⟩
theorem lw_p181 : lw_okq (⟨"LevelUnitsModel", "token", "(III)V"⟩, 134) := ⟨⟨by decide +kernel, by decide +kernel⟩, List.mem_of_getElem? (i := 2263) (by decide +kernel), List.mem_of_getElem? (i := 2742) (by decide +kernel), List.mem_of_getElem? (i := 2743) (by decide +kernel)⟩
theorem lw_p182 : lw_okq (⟨"LevelUnitsModel", "one", "()Z"⟩, 134) := ⟨⟨by decide +kernel, by decide +kernel⟩, List.mem_of_getElem? (i := 2263) (by decide +kernel), List.mem_of_getElem? (i := 2746) (by decide +kernel), List.mem_of_getElem? (i := 2747) (by decide +kernel)⟩
theorem lw_p183 : lw_okq (⟨"LevelUnitsModel", "parse", "()V"⟩, 134) := ⟨⟨by decide +kernel, by decide +kernel⟩, List.mem_of_getElem? (i := 2263) (by decide +kernel), List.mem_of_getElem? (i := 2771) (by decide +kernel), List.mem_of_getElem? (i := 2772) (by decide +kernel)⟩
theorem lw_p184 : lw_okq (⟨"LevelUnitsModel", "look", "()V"⟩, 134) := ⟨⟨by decide +kernel, by decide +kernel⟩, List.mem_of_getElem? (i := 2263) (by decide +kernel), List.mem_of_getElem? (i := 2775) (by decide +kernel), List.mem_of_getElem? (i := 2776) (by decide +kernel)⟩
theorem lw_p185 : lw_okq (⟨"LevelUnitsModel", "line", "()I"⟩, 134) := ⟨⟨by decide +kernel, by decide +kernel⟩, List.mem_of_getElem? (i := 2263) (by decide +kernel), List.mem_of_getElem? (i := 2779) (by decide +kernel), List.mem_of_getElem? (i := 2780) (by decide +kernel)⟩
theorem lw_p186 : lw_okq (⟨"LevelUnitsModel", "first", "(II)V"⟩, 134) := ⟨⟨by decide +kernel, by decide +kernel⟩, List.mem_of_getElem? (i := 2263) (by decide +kernel), List.mem_of_getElem? (i := 2783) (by decide +kernel), List.mem_of_getElem? (i := 2784) (by decide +kernel)⟩
theorem lw_p187 : lw_okq (⟨"LevelUnitsModel", "is", "(I)Z"⟩, 134) := ⟨⟨by decide +kernel, by decide +kernel⟩, List.mem_of_getElem? (i := 2263) (by decide +kernel), List.mem_of_getElem? (i := 2787) (by decide +kernel), List.mem_of_getElem? (i := 2788) (by decide +kernel)⟩
theorem lw_p188 : lw_okq (⟨"LevelUnitsModel", "unfit", "()V"⟩, 134) := ⟨⟨by decide +kernel, by decide +kernel⟩, List.mem_of_getElem? (i := 2263) (by decide +kernel), List.mem_of_getElem? (i := 2791) (by decide +kernel), List.mem_of_getElem? (i := 2792) (by decide +kernel)⟩
theorem lw_p189 : lw_okq (⟨"LevelUnitsModel", "parseUnit", "()V"⟩, 134) := ⟨⟨by decide +kernel, by decide +kernel⟩, List.mem_of_getElem? (i := 2263) (by decide +kernel), List.mem_of_getElem? (i := 2795) (by decide +kernel), List.mem_of_getElem? (i := 2796) (by decide +kernel)⟩
theorem lw_p190 : lw_okq (⟨"LevelUnitsModel", "next", "()V"⟩, 134) := ⟨⟨by decide +kernel, by decide +kernel⟩, List.mem_of_getElem? (i := 2263) (by decide +kernel), List.mem_of_getElem? (i := 2799) (by decide +kernel), List.mem_of_getElem? (i := 2800) (by decide +kernel)⟩
theorem lw_p191 : lw_okq (⟨"LevelUnitsModel", "node", "(III)I"⟩, 134) := ⟨⟨by decide +kernel, by decide +kernel⟩, List.mem_of_getElem? (i := 2263) (by decide +kernel), List.mem_of_getElem? (i := 2803) (by decide +kernel), List.mem_of_getElem? (i := 2804) (by decide +kernel)⟩
def lw_privs_12 : List (MethodName × Nat) := [(⟨"LevelUnitsModel", "knowWords", "()V"⟩, 134), (⟨"LevelUnitsModel", "nameOf", "(I)I"⟩, 134), (⟨"LevelUnitsModel", "passes", "()Z"⟩, 134), (⟨"LevelUnitsModel", "see", "(I)I"⟩, 134), (⟨"LevelUnitsModel", "note", "()Z"⟩, 134), (⟨"LevelUnitsModel", "token", "(III)V"⟩, 134), (⟨"LevelUnitsModel", "one", "()Z"⟩, 134), (⟨"LevelUnitsModel", "parse", "()V"⟩, 134), (⟨"LevelUnitsModel", "look", "()V"⟩, 134), (⟨"LevelUnitsModel", "line", "()I"⟩, 134), (⟨"LevelUnitsModel", "first", "(II)V"⟩, 134), (⟨"LevelUnitsModel", "is", "(I)Z"⟩, 134), (⟨"LevelUnitsModel", "unfit", "()V"⟩, 134), (⟨"LevelUnitsModel", "parseUnit", "()V"⟩, 134), (⟨"LevelUnitsModel", "next", "()V"⟩, 134), (⟨"LevelUnitsModel", "node", "(III)I"⟩, 134)]
theorem lw_r12 : ∀ q ∈ lw_privs_12, lw_okq q := List.forall_mem_cons.mpr ⟨lw_p176, List.forall_mem_cons.mpr ⟨lw_p177, List.forall_mem_cons.mpr ⟨lw_p178, List.forall_mem_cons.mpr ⟨lw_p179, List.forall_mem_cons.mpr ⟨lw_p180, List.forall_mem_cons.mpr ⟨lw_p181, List.forall_mem_cons.mpr ⟨lw_p182, List.forall_mem_cons.mpr ⟨lw_p183, List.forall_mem_cons.mpr ⟨lw_p184, List.forall_mem_cons.mpr ⟨lw_p185, List.forall_mem_cons.mpr ⟨lw_p186, List.forall_mem_cons.mpr ⟨lw_p187, List.forall_mem_cons.mpr ⟨lw_p188, List.forall_mem_cons.mpr ⟨lw_p189, List.forall_mem_cons.mpr ⟨lw_p190, List.forall_mem_cons.mpr ⟨lw_p191, fun _ h => absurd h List.not_mem_nil⟩⟩⟩⟩⟩⟩⟩⟩⟩⟩⟩⟩⟩⟩⟩⟩
theorem lw_p192 : lw_okq (⟨"LevelUnitsModel", "name", "()I"⟩, 134) := ⟨⟨by decide +kernel, by decide +kernel⟩, List.mem_of_getElem? (i := 2263) (by decide +kernel), List.mem_of_getElem? (i := 2807) (by decide +kernel), List.mem_of_getElem? (i := 2808) (by decide +kernel)⟩
theorem lw_p193 : lw_okq (⟨"LevelUnitsModel", "expect", "(I)V"⟩, 134) := ⟨⟨by decide +kernel, by decide +kernel⟩, List.mem_of_getElem? (i := 2263) (by decide +kernel), List.mem_of_getElem? (i := 2811) (by decide +kernel), List.mem_of_getElem? (i := 2812) (by decide +kernel)⟩
theorem lw_p194 : lw_okq (⟨"LevelUnitsModel", "nameRow", "(I)I"⟩, 134) := ⟨⟨by decide +kernel, by decide +kernel⟩, List.mem_of_getElem? (i := 2263) (by decide +kernel), List.mem_of_getElem? (i := 2815) (by decide +kernel), List.mem_of_getElem? (i := 2816) (by decide +kernel)⟩
theorem lw_p195 : lw_okq (⟨"LevelUnitsModel", "declaration", "(Z)I"⟩, 134) := ⟨⟨by decide +kernel, by decide +kernel⟩, List.mem_of_getElem? (i := 2263) (by decide +kernel), List.mem_of_getElem? (i := 2819) (by decide +kernel), List.mem_of_getElem? (i := 2820) (by decide +kernel)⟩
theorem lw_p196 : lw_okq (⟨"LevelUnitsModel", "type", "()I"⟩, 134) := ⟨⟨by decide +kernel, by decide +kernel⟩, List.mem_of_getElem? (i := 2263) (by decide +kernel), List.mem_of_getElem? (i := 2823) (by decide +kernel), List.mem_of_getElem? (i := 2824) (by decide +kernel)⟩
theorem lw_p197 : lw_okq (⟨"LevelUnitsModel", "beginsType", "()Z"⟩, 134) := ⟨⟨by decide +kernel, by decide +kernel⟩, List.mem_of_getElem? (i := 2263) (by decide +kernel), List.mem_of_getElem? (i := 2827) (by decide +kernel), List.mem_of_getElem? (i := 2828) (by decide +kernel)⟩
theorem lw_p198 : lw_okq (⟨"LevelUnitsModel", "typeInside", "()I"⟩, 134) := ⟨⟨by decide +kernel, by decide +kernel⟩, List.mem_of_getElem? (i := 2263) (by decide +kernel), List.mem_of_getElem? (i := 2831) (by decide +kernel), List.mem_of_getElem? (i := 2832) (by decide +kernel)⟩
theorem lw_p199 : lw_okq (⟨"LevelUnitsModel", "qname", "()I"⟩, 134) := ⟨⟨by decide +kernel, by decide +kernel⟩, List.mem_of_getElem? (i := 2263) (by decide +kernel), List.mem_of_getElem? (i := 2835) (by decide +kernel), List.mem_of_getElem? (i := 2836) (by decide +kernel)⟩
theorem lw_p200 : lw_okq (⟨"LevelUnitsModel", "level", "(I)I"⟩, 134) := ⟨⟨by decide +kernel, by decide +kernel⟩, List.mem_of_getElem? (i := 2263) (by decide +kernel), List.mem_of_getElem? (i := 2839) (by decide +kernel), List.mem_of_getElem? (i := 2840) (by decide +kernel)⟩
theorem lw_p201 : lw_okq (⟨"LevelUnitsModel", "fields", "()I"⟩, 134) := ⟨⟨by decide +kernel, by decide +kernel⟩, List.mem_of_getElem? (i := 2263) (by decide +kernel), List.mem_of_getElem? (i := 2843) (by decide +kernel), List.mem_of_getElem? (i := 2844) (by decide +kernel)⟩
theorem lw_p202 : lw_okq (⟨"LevelUnitsModel", "members", "(I)I"⟩, 134) := ⟨⟨by decide +kernel, by decide +kernel⟩, List.mem_of_getElem? (i := 2263) (by decide +kernel), List.mem_of_getElem? (i := 2847) (by decide +kernel), List.mem_of_getElem? (i := 2848) (by decide +kernel)⟩
theorem lw_p203 : lw_okq (⟨"LevelUnitsModel", "signature", "()I"⟩, 134) := ⟨⟨by decide +kernel, by decide +kernel⟩, List.mem_of_getElem? (i := 2263) (by decide +kernel), List.mem_of_getElem? (i := 2851) (by decide +kernel), List.mem_of_getElem? (i := 2852) (by decide +kernel)⟩
theorem lw_p204 : lw_okq (⟨"LevelUnitsModel", "open", "(I)V"⟩, 134) := ⟨⟨by decide +kernel, by decide +kernel⟩, List.mem_of_getElem? (i := 2263) (by decide +kernel), List.mem_of_getElem? (i := 2855) (by decide +kernel), List.mem_of_getElem? (i := 2856) (by decide +kernel)⟩
theorem lw_p205 : lw_okq (⟨"LevelUnitsModel", "close", "(I)V"⟩, 134) := ⟨⟨by decide +kernel, by decide +kernel⟩, List.mem_of_getElem? (i := 2263) (by decide +kernel), List.mem_of_getElem? (i := 2859) (by decide +kernel), List.mem_of_getElem? (i := 2860) (by decide +kernel)⟩
theorem lw_p206 : lw_okq (⟨"LevelUnitsModel", "qnames", "()I"⟩, 134) := ⟨⟨by decide +kernel, by decide +kernel⟩, List.mem_of_getElem? (i := 2263) (by decide +kernel), List.mem_of_getElem? (i := 2863) (by decide +kernel), List.mem_of_getElem? (i := 2864) (by decide +kernel)⟩
theorem lw_p207 : lw_okq (⟨"LevelUnitsModel", "bounds", "(I)V"⟩, 134) := ⟨⟨by decide +kernel, by decide +kernel⟩, List.mem_of_getElem? (i := 2263) (by decide +kernel), List.mem_of_getElem? (i := 2867) (by decide +kernel), List.mem_of_getElem? (i := 2868) (by decide +kernel)⟩
def lw_privs_13 : List (MethodName × Nat) := [(⟨"LevelUnitsModel", "name", "()I"⟩, 134), (⟨"LevelUnitsModel", "expect", "(I)V"⟩, 134), (⟨"LevelUnitsModel", "nameRow", "(I)I"⟩, 134), (⟨"LevelUnitsModel", "declaration", "(Z)I"⟩, 134), (⟨"LevelUnitsModel", "type", "()I"⟩, 134), (⟨"LevelUnitsModel", "beginsType", "()Z"⟩, 134), (⟨"LevelUnitsModel", "typeInside", "()I"⟩, 134), (⟨"LevelUnitsModel", "qname", "()I"⟩, 134), (⟨"LevelUnitsModel", "level", "(I)I"⟩, 134), (⟨"LevelUnitsModel", "fields", "()I"⟩, 134), (⟨"LevelUnitsModel", "members", "(I)I"⟩, 134), (⟨"LevelUnitsModel", "signature", "()I"⟩, 134), (⟨"LevelUnitsModel", "open", "(I)V"⟩, 134), (⟨"LevelUnitsModel", "close", "(I)V"⟩, 134), (⟨"LevelUnitsModel", "qnames", "()I"⟩, 134), (⟨"LevelUnitsModel", "bounds", "(I)V"⟩, 134)]
theorem lw_r13 : ∀ q ∈ lw_privs_13, lw_okq q := List.forall_mem_cons.mpr ⟨lw_p192, List.forall_mem_cons.mpr ⟨lw_p193, List.forall_mem_cons.mpr ⟨lw_p194, List.forall_mem_cons.mpr ⟨lw_p195, List.forall_mem_cons.mpr ⟨lw_p196, List.forall_mem_cons.mpr ⟨lw_p197, List.forall_mem_cons.mpr ⟨lw_p198, List.forall_mem_cons.mpr ⟨lw_p199, List.forall_mem_cons.mpr ⟨lw_p200, List.forall_mem_cons.mpr ⟨lw_p201, List.forall_mem_cons.mpr ⟨lw_p202, List.forall_mem_cons.mpr ⟨lw_p203, List.forall_mem_cons.mpr ⟨lw_p204, List.forall_mem_cons.mpr ⟨lw_p205, List.forall_mem_cons.mpr ⟨lw_p206, List.forall_mem_cons.mpr ⟨lw_p207, fun _ h => absurd h List.not_mem_nil⟩⟩⟩⟩⟩⟩⟩⟩⟩⟩⟩⟩⟩⟩⟩⟩
theorem lw_p208 : lw_okq (⟨"LevelUnitsModel", "bound", "()I"⟩, 134) := ⟨⟨by decide +kernel, by decide +kernel⟩, List.mem_of_getElem? (i := 2263) (by decide +kernel), List.mem_of_getElem? (i := 2871) (by decide +kernel), List.mem_of_getElem? (i := 2872) (by decide +kernel)⟩
theorem lw_p209 : lw_okq (⟨"LevelUnitsModel", "levelAlone", "()I"⟩, 134) := ⟨⟨by decide +kernel, by decide +kernel⟩, List.mem_of_getElem? (i := 2263) (by decide +kernel), List.mem_of_getElem? (i := 2875) (by decide +kernel), List.mem_of_getElem? (i := 2876) (by decide +kernel)⟩
theorem lw_p210 : lw_okq (⟨"LevelUnitsModel", "variables", "(I)V"⟩, 134) := ⟨⟨by decide +kernel, by decide +kernel⟩, List.mem_of_getElem? (i := 2263) (by decide +kernel), List.mem_of_getElem? (i := 2879) (by decide +kernel), List.mem_of_getElem? (i := 2880) (by decide +kernel)⟩
theorem lw_p211 : lw_okq (⟨"LevelUnitsModel", "procedure", "(IZ)V"⟩, 134) := ⟨⟨by decide +kernel, by decide +kernel⟩, List.mem_of_getElem? (i := 2263) (by decide +kernel), List.mem_of_getElem? (i := 2883) (by decide +kernel), List.mem_of_getElem? (i := 2884) (by decide +kernel)⟩
theorem lw_p212 : lw_okq (⟨"LevelUnitsModel", "statements", "()I"⟩, 134) := ⟨⟨by decide +kernel, by decide +kernel⟩, List.mem_of_getElem? (i := 2263) (by decide +kernel), List.mem_of_getElem? (i := 2887) (by decide +kernel), List.mem_of_getElem? (i := 2888) (by decide +kernel)⟩
theorem lw_p213 : lw_okq (⟨"LevelUnitsModel", "beginsStatement", "()Z"⟩, 134) := ⟨⟨by decide +kernel, by decide +kernel⟩, List.mem_of_getElem? (i := 2263) (by decide +kernel), List.mem_of_getElem? (i := 2891) (by decide +kernel), List.mem_of_getElem? (i := 2892) (by decide +kernel)⟩
theorem lw_p214 : lw_okq (⟨"LevelUnitsModel", "statement", "()I"⟩, 134) := ⟨⟨by decide +kernel, by decide +kernel⟩, List.mem_of_getElem? (i := 2263) (by decide +kernel), List.mem_of_getElem? (i := 2895) (by decide +kernel), List.mem_of_getElem? (i := 2896) (by decide +kernel)⟩
theorem lw_p215 : lw_okq (⟨"LevelUnitsModel", "byPlace", "(I)V"⟩, 134) := ⟨⟨by decide +kernel, by decide +kernel⟩, List.mem_of_getElem? (i := 2263) (by decide +kernel), List.mem_of_getElem? (i := 2899) (by decide +kernel), List.mem_of_getElem? (i := 2900) (by decide +kernel)⟩
theorem lw_p216 : lw_okq (⟨"LevelUnitsModel", "place", "()I"⟩, 134) := ⟨⟨by decide +kernel, by decide +kernel⟩, List.mem_of_getElem? (i := 2263) (by decide +kernel), List.mem_of_getElem? (i := 2903) (by decide +kernel), List.mem_of_getElem? (i := 2904) (by decide +kernel)⟩
theorem lw_p217 : lw_okq (⟨"LevelUnitsModel", "expression", "()I"⟩, 134) := ⟨⟨by decide +kernel, by decide +kernel⟩, List.mem_of_getElem? (i := 2263) (by decide +kernel), List.mem_of_getElem? (i := 2907) (by decide +kernel), List.mem_of_getElem? (i := 2908) (by decide +kernel)⟩
theorem lw_p218 : lw_okq (⟨"LevelUnitsModel", "chain", "(I)I"⟩, 134) := ⟨⟨by decide +kernel, by decide +kernel⟩, List.mem_of_getElem? (i := 2263) (by decide +kernel), List.mem_of_getElem? (i := 2911) (by decide +kernel), List.mem_of_getElem? (i := 2912) (by decide +kernel)⟩
theorem lw_p219 : lw_okq (⟨"LevelUnitsModel", "operand", "(I)I"⟩, 134) := ⟨⟨by decide +kernel, by decide +kernel⟩, List.mem_of_getElem? (i := 2263) (by decide +kernel), List.mem_of_getElem? (i := 2915) (by decide +kernel), List.mem_of_getElem? (i := 2916) (by decide +kernel)⟩
theorem lw_p220 : lw_okq (⟨"LevelUnitsModel", "not", "()I"⟩, 134) := ⟨⟨by decide +kernel, by decide +kernel⟩, List.mem_of_getElem? (i := 2263) (by decide +kernel), List.mem_of_getElem? (i := 2919) (by decide +kernel), List.mem_of_getElem? (i := 2920) (by decide +kernel)⟩
theorem lw_p221 : lw_okq (⟨"LevelUnitsModel", "relation", "()I"⟩, 134) := ⟨⟨by decide +kernel, by decide +kernel⟩, List.mem_of_getElem? (i := 2263) (by decide +kernel), List.mem_of_getElem? (i := 2923) (by decide +kernel), List.mem_of_getElem? (i := 2924) (by decide +kernel)⟩
theorem lw_p222 : lw_okq (⟨"LevelUnitsModel", "minus", "()I"⟩, 134) := ⟨⟨by decide +kernel, by decide +kernel⟩, List.mem_of_getElem? (i := 2263) (by decide +kernel), List.mem_of_getElem? (i := 2927) (by decide +kernel), List.mem_of_getElem? (i := 2928) (by decide +kernel)⟩
theorem lw_p223 : lw_okq (⟨"LevelUnitsModel", "simple", "()I"⟩, 134) := ⟨⟨by decide +kernel, by decide +kernel⟩, List.mem_of_getElem? (i := 2263) (by decide +kernel), List.mem_of_getElem? (i := 2931) (by decide +kernel), List.mem_of_getElem? (i := 2932) (by decide +kernel)⟩
def lw_privs_14 : List (MethodName × Nat) := [(⟨"LevelUnitsModel", "bound", "()I"⟩, 134), (⟨"LevelUnitsModel", "levelAlone", "()I"⟩, 134), (⟨"LevelUnitsModel", "variables", "(I)V"⟩, 134), (⟨"LevelUnitsModel", "procedure", "(IZ)V"⟩, 134), (⟨"LevelUnitsModel", "statements", "()I"⟩, 134), (⟨"LevelUnitsModel", "beginsStatement", "()Z"⟩, 134), (⟨"LevelUnitsModel", "statement", "()I"⟩, 134), (⟨"LevelUnitsModel", "byPlace", "(I)V"⟩, 134), (⟨"LevelUnitsModel", "place", "()I"⟩, 134), (⟨"LevelUnitsModel", "expression", "()I"⟩, 134), (⟨"LevelUnitsModel", "chain", "(I)I"⟩, 134), (⟨"LevelUnitsModel", "operand", "(I)I"⟩, 134), (⟨"LevelUnitsModel", "not", "()I"⟩, 134), (⟨"LevelUnitsModel", "relation", "()I"⟩, 134), (⟨"LevelUnitsModel", "minus", "()I"⟩, 134), (⟨"LevelUnitsModel", "simple", "()I"⟩, 134)]
theorem lw_r14 : ∀ q ∈ lw_privs_14, lw_okq q := List.forall_mem_cons.mpr ⟨lw_p208, List.forall_mem_cons.mpr ⟨lw_p209, List.forall_mem_cons.mpr ⟨lw_p210, List.forall_mem_cons.mpr ⟨lw_p211, List.forall_mem_cons.mpr ⟨lw_p212, List.forall_mem_cons.mpr ⟨lw_p213, List.forall_mem_cons.mpr ⟨lw_p214, List.forall_mem_cons.mpr ⟨lw_p215, List.forall_mem_cons.mpr ⟨lw_p216, List.forall_mem_cons.mpr ⟨lw_p217, List.forall_mem_cons.mpr ⟨lw_p218, List.forall_mem_cons.mpr ⟨lw_p219, List.forall_mem_cons.mpr ⟨lw_p220, List.forall_mem_cons.mpr ⟨lw_p221, List.forall_mem_cons.mpr ⟨lw_p222, List.forall_mem_cons.mpr ⟨lw_p223, fun _ h => absurd h List.not_mem_nil⟩⟩⟩⟩⟩⟩⟩⟩⟩⟩⟩⟩⟩⟩⟩⟩
theorem lw_p224 : lw_okq (⟨"LevelUnitsModel", "joins", "(I)Z"⟩, 134) := ⟨⟨by decide +kernel, by decide +kernel⟩, List.mem_of_getElem? (i := 2263) (by decide +kernel), List.mem_of_getElem? (i := 2935) (by decide +kernel), List.mem_of_getElem? (i := 2936) (by decide +kernel)⟩
theorem lw_p225 : lw_okq (⟨"LevelUnitsModel", "call", "(I)I"⟩, 134) := ⟨⟨by decide +kernel, by decide +kernel⟩, List.mem_of_getElem? (i := 2263) (by decide +kernel), List.mem_of_getElem? (i := 2939) (by decide +kernel), List.mem_of_getElem? (i := 2940) (by decide +kernel)⟩
theorem lw_p226 : lw_okq (⟨"LevelUnitsModel", "arms", "()I"⟩, 134) := ⟨⟨by decide +kernel, by decide +kernel⟩, List.mem_of_getElem? (i := 2263) (by decide +kernel), List.mem_of_getElem? (i := 2943) (by decide +kernel), List.mem_of_getElem? (i := 2944) (by decide +kernel)⟩
theorem lw_p227 : lw_okq (⟨"LevelUnitsModel", "forStatement", "(I)V"⟩, 134) := ⟨⟨by decide +kernel, by decide +kernel⟩, List.mem_of_getElem? (i := 2263) (by decide +kernel), List.mem_of_getElem? (i := 2947) (by decide +kernel), List.mem_of_getElem? (i := 2948) (by decide +kernel)⟩
theorem lw_p228 : lw_okq (⟨"LevelUnitsModel", "tryStatement", "(I)V"⟩, 134) := ⟨⟨by decide +kernel, by decide +kernel⟩, List.mem_of_getElem? (i := 2263) (by decide +kernel), List.mem_of_getElem? (i := 2951) (by decide +kernel), List.mem_of_getElem? (i := 2952) (by decide +kernel)⟩
theorem lw_p229 : lw_okq (⟨"LevelUnitsModel", "cases", "(I)I"⟩, 134) := ⟨⟨by decide +kernel, by decide +kernel⟩, List.mem_of_getElem? (i := 2263) (by decide +kernel), List.mem_of_getElem? (i := 2955) (by decide +kernel), List.mem_of_getElem? (i := 2956) (by decide +kernel)⟩
theorem lw_p230 : lw_okq (⟨"LevelUnitsModel", "otherwise", "(I)V"⟩, 134) := ⟨⟨by decide +kernel, by decide +kernel⟩, List.mem_of_getElem? (i := 2263) (by decide +kernel), List.mem_of_getElem? (i := 2959) (by decide +kernel), List.mem_of_getElem? (i := 2960) (by decide +kernel)⟩
theorem lw_p231 : lw_okq (⟨"LevelUnitsModel", "typecase", "(I)V"⟩, 134) := ⟨⟨by decide +kernel, by decide +kernel⟩, List.mem_of_getElem? (i := 2263) (by decide +kernel), List.mem_of_getElem? (i := 2963) (by decide +kernel), List.mem_of_getElem? (i := 2964) (by decide +kernel)⟩
theorem lw_p232 : lw_okq (⟨"LevelUnitsModel", "endName", "(I)V"⟩, 134) := ⟨⟨by decide +kernel, by decide +kernel⟩, List.mem_of_getElem? (i := 2263) (by decide +kernel), List.mem_of_getElem? (i := 2967) (by decide +kernel), List.mem_of_getElem? (i := 2968) (by decide +kernel)⟩
theorem lw_p233 : lw_okq (⟨"LevelUnitsModel", "nameRound", "()V"⟩, 134) := ⟨⟨by decide +kernel, by decide +kernel⟩, List.mem_of_getElem? (i := 2263) (by decide +kernel), List.mem_of_getElem? (i := 2971) (by decide +kernel), List.mem_of_getElem? (i := 2972) (by decide +kernel)⟩
theorem lw_p234 : lw_okq (⟨"LevelUnitsModel", "declareAll", "()V"⟩, 134) := ⟨⟨by decide +kernel, by decide +kernel⟩, List.mem_of_getElem? (i := 2263) (by decide +kernel), List.mem_of_getElem? (i := 2975) (by decide +kernel), List.mem_of_getElem? (i := 2976) (by decide +kernel)⟩
theorem lw_p235 : lw_okq (⟨"LevelUnitsModel", "rule", "(II)V"⟩, 134) := ⟨⟨by decide +kernel, by decide +kernel⟩, List.mem_of_getElem? (i := 2263) (by decide +kernel), List.mem_of_getElem? (i := 2979) (by decide +kernel), List.mem_of_getElem? (i := 2980) (by decide +kernel)⟩
theorem lw_p236 : lw_okq (⟨"LevelUnitsModel", "imported", "(II)V"⟩, 134) := ⟨⟨by decide +kernel, by decide +kernel⟩, List.mem_of_getElem? (i := 2263) (by decide +kernel), List.mem_of_getElem? (i := 2983) (by decide +kernel), List.mem_of_getElem? (i := 2984) (by decide +kernel)⟩
theorem lw_p237 : lw_okq (⟨"LevelUnitsModel", "isThere", "(III)Z"⟩, 134) := ⟨⟨by decide +kernel, by decide +kernel⟩, List.mem_of_getElem? (i := 2263) (by decide +kernel), List.mem_of_getElem? (i := 2987) (by decide +kernel), List.mem_of_getElem? (i := 2988) (by decide +kernel)⟩
theorem lw_p238 : lw_okq (⟨"LevelUnitsModel", "findIn", "(IIZ)I"⟩, 134) := ⟨⟨by decide +kernel, by decide +kernel⟩, List.mem_of_getElem? (i := 2263) (by decide +kernel), List.mem_of_getElem? (i := 2991) (by decide +kernel), List.mem_of_getElem? (i := 2992) (by decide +kernel)⟩
theorem lw_p239 : lw_okq (⟨"LevelUnitsModel", "symbol", "(IIII)V"⟩, 134) := ⟨⟨by decide +kernel, by decide +kernel⟩, List.mem_of_getElem? (i := 2263) (by decide +kernel), List.mem_of_getElem? (i := 2995) (by decide +kernel), List.mem_of_getElem? (i := 2996) (by decide +kernel)⟩
def lw_privs_15 : List (MethodName × Nat) := [(⟨"LevelUnitsModel", "joins", "(I)Z"⟩, 134), (⟨"LevelUnitsModel", "call", "(I)I"⟩, 134), (⟨"LevelUnitsModel", "arms", "()I"⟩, 134), (⟨"LevelUnitsModel", "forStatement", "(I)V"⟩, 134), (⟨"LevelUnitsModel", "tryStatement", "(I)V"⟩, 134), (⟨"LevelUnitsModel", "cases", "(I)I"⟩, 134), (⟨"LevelUnitsModel", "otherwise", "(I)V"⟩, 134), (⟨"LevelUnitsModel", "typecase", "(I)V"⟩, 134), (⟨"LevelUnitsModel", "endName", "(I)V"⟩, 134), (⟨"LevelUnitsModel", "nameRound", "()V"⟩, 134), (⟨"LevelUnitsModel", "declareAll", "()V"⟩, 134), (⟨"LevelUnitsModel", "rule", "(II)V"⟩, 134), (⟨"LevelUnitsModel", "imported", "(II)V"⟩, 134), (⟨"LevelUnitsModel", "isThere", "(III)Z"⟩, 134), (⟨"LevelUnitsModel", "findIn", "(IIZ)I"⟩, 134), (⟨"LevelUnitsModel", "symbol", "(IIII)V"⟩, 134)]
theorem lw_r15 : ∀ q ∈ lw_privs_15, lw_okq q := List.forall_mem_cons.mpr ⟨lw_p224, List.forall_mem_cons.mpr ⟨lw_p225, List.forall_mem_cons.mpr ⟨lw_p226, List.forall_mem_cons.mpr ⟨lw_p227, List.forall_mem_cons.mpr ⟨lw_p228, List.forall_mem_cons.mpr ⟨lw_p229, List.forall_mem_cons.mpr ⟨lw_p230, List.forall_mem_cons.mpr ⟨lw_p231, List.forall_mem_cons.mpr ⟨lw_p232, List.forall_mem_cons.mpr ⟨lw_p233, List.forall_mem_cons.mpr ⟨lw_p234, List.forall_mem_cons.mpr ⟨lw_p235, List.forall_mem_cons.mpr ⟨lw_p236, List.forall_mem_cons.mpr ⟨lw_p237, List.forall_mem_cons.mpr ⟨lw_p238, List.forall_mem_cons.mpr ⟨lw_p239, fun _ h => absurd h List.not_mem_nil⟩⟩⟩⟩⟩⟩⟩⟩⟩⟩⟩⟩⟩⟩⟩⟩
theorem lw_p240 : lw_okq (⟨"LevelUnitsModel", "declared", "(II)V"⟩, 134) := ⟨⟨by decide +kernel, by decide +kernel⟩, List.mem_of_getElem? (i := 2263) (by decide +kernel), List.mem_of_getElem? (i := 2999) (by decide +kernel), List.mem_of_getElem? (i := 3000) (by decide +kernel)⟩
theorem lw_p241 : lw_okq (⟨"LevelUnitsModel", "tell", "(IIIIII)V"⟩, 134) := ⟨⟨by decide +kernel, by decide +kernel⟩, List.mem_of_getElem? (i := 2263) (by decide +kernel), List.mem_of_getElem? (i := 3003) (by decide +kernel), List.mem_of_getElem? (i := 3004) (by decide +kernel)⟩
theorem lw_p242 : lw_okq (⟨"LevelUnitsModel", "variable", "(II)I"⟩, 134) := ⟨⟨by decide +kernel, by decide +kernel⟩, List.mem_of_getElem? (i := 2263) (by decide +kernel), List.mem_of_getElem? (i := 3007) (by decide +kernel), List.mem_of_getElem? (i := 3008) (by decide +kernel)⟩
theorem lw_p243 : lw_okq (⟨"LevelUnitsModel", "nameDeclaration", "(I)V"⟩, 134) := ⟨⟨by decide +kernel, by decide +kernel⟩, List.mem_of_getElem? (i := 2263) (by decide +kernel), List.mem_of_getElem? (i := 3011) (by decide +kernel), List.mem_of_getElem? (i := 3012) (by decide +kernel)⟩
theorem lw_p244 : lw_okq (⟨"LevelUnitsModel", "nameType", "(I)V"⟩, 134) := ⟨⟨by decide +kernel, by decide +kernel⟩, List.mem_of_getElem? (i := 2263) (by decide +kernel), List.mem_of_getElem? (i := 3015) (by decide +kernel), List.mem_of_getElem? (i := 3016) (by decide +kernel)⟩
theorem lw_p245 : lw_okq (⟨"LevelUnitsModel", "qualified", "(III)V"⟩, 134) := ⟨⟨by decide +kernel, by decide +kernel⟩, List.mem_of_getElem? (i := 2263) (by decide +kernel), List.mem_of_getElem? (i := 3019) (by decide +kernel), List.mem_of_getElem? (i := 3020) (by decide +kernel)⟩
theorem lw_p246 : lw_okq (⟨"LevelUnitsModel", "find", "(II)I"⟩, 134) := ⟨⟨by decide +kernel, by decide +kernel⟩, List.mem_of_getElem? (i := 2263) (by decide +kernel), List.mem_of_getElem? (i := 3023) (by decide +kernel), List.mem_of_getElem? (i := 3024) (by decide +kernel)⟩
theorem lw_p247 : lw_okq (⟨"LevelUnitsModel", "nameFields", "(II)V"⟩, 134) := ⟨⟨by decide +kernel, by decide +kernel⟩, List.mem_of_getElem? (i := 2263) (by decide +kernel), List.mem_of_getElem? (i := 3027) (by decide +kernel), List.mem_of_getElem? (i := 3028) (by decide +kernel)⟩
theorem lw_p248 : lw_okq (⟨"LevelUnitsModel", "again", "(I)V"⟩, 134) := ⟨⟨by decide +kernel, by decide +kernel⟩, List.mem_of_getElem? (i := 2263) (by decide +kernel), List.mem_of_getElem? (i := 3031) (by decide +kernel), List.mem_of_getElem? (i := 3032) (by decide +kernel)⟩
theorem lw_p249 : lw_okq (⟨"LevelUnitsModel", "nameSignature", "(I)V"⟩, 134) := ⟨⟨by decide +kernel, by decide +kernel⟩, List.mem_of_getElem? (i := 2263) (by decide +kernel), List.mem_of_getElem? (i := 3035) (by decide +kernel), List.mem_of_getElem? (i := 3036) (by decide +kernel)⟩
theorem lw_p250 : lw_okq (⟨"LevelUnitsModel", "nameMembers", "(I)V"⟩, 134) := ⟨⟨by decide +kernel, by decide +kernel⟩, List.mem_of_getElem? (i := 2263) (by decide +kernel), List.mem_of_getElem? (i := 3039) (by decide +kernel), List.mem_of_getElem? (i := 3040) (by decide +kernel)⟩
theorem lw_p251 : lw_okq (⟨"LevelUnitsModel", "nameBody", "(I)V"⟩, 134) := ⟨⟨by decide +kernel, by decide +kernel⟩, List.mem_of_getElem? (i := 2263) (by decide +kernel), List.mem_of_getElem? (i := 3043) (by decide +kernel), List.mem_of_getElem? (i := 3044) (by decide +kernel)⟩
theorem lw_p252 : lw_okq (⟨"LevelUnitsModel", "see", "(II)V"⟩, 134) := ⟨⟨by decide +kernel, by decide +kernel⟩, List.mem_of_getElem? (i := 2263) (by decide +kernel), List.mem_of_getElem? (i := 3047) (by decide +kernel), List.mem_of_getElem? (i := 3048) (by decide +kernel)⟩
theorem lw_p253 : lw_okq (⟨"LevelUnitsModel", "nameStatements", "(I)V"⟩, 134) := ⟨⟨by decide +kernel, by decide +kernel⟩, List.mem_of_getElem? (i := 2263) (by decide +kernel), List.mem_of_getElem? (i := 3051) (by decide +kernel), List.mem_of_getElem? (i := 3052) (by decide +kernel)⟩
theorem lw_p254 : lw_okq (⟨"LevelUnitsModel", "nameStatement", "(I)V"⟩, 134) := ⟨⟨by decide +kernel, by decide +kernel⟩, List.mem_of_getElem? (i := 2263) (by decide +kernel), List.mem_of_getElem? (i := 3055) (by decide +kernel), List.mem_of_getElem? (i := 3056) (by decide +kernel)⟩
theorem lw_p255 : lw_okq (⟨"LevelUnitsModel", "namePlace", "(I)V"⟩, 134) := ⟨⟨by decide +kernel, by decide +kernel⟩, List.mem_of_getElem? (i := 2263) (by decide +kernel), List.mem_of_getElem? (i := 3059) (by decide +kernel), List.mem_of_getElem? (i := 3060) (by decide +kernel)⟩
def lw_privs_16 : List (MethodName × Nat) := [(⟨"LevelUnitsModel", "declared", "(II)V"⟩, 134), (⟨"LevelUnitsModel", "tell", "(IIIIII)V"⟩, 134), (⟨"LevelUnitsModel", "variable", "(II)I"⟩, 134), (⟨"LevelUnitsModel", "nameDeclaration", "(I)V"⟩, 134), (⟨"LevelUnitsModel", "nameType", "(I)V"⟩, 134), (⟨"LevelUnitsModel", "qualified", "(III)V"⟩, 134), (⟨"LevelUnitsModel", "find", "(II)I"⟩, 134), (⟨"LevelUnitsModel", "nameFields", "(II)V"⟩, 134), (⟨"LevelUnitsModel", "again", "(I)V"⟩, 134), (⟨"LevelUnitsModel", "nameSignature", "(I)V"⟩, 134), (⟨"LevelUnitsModel", "nameMembers", "(I)V"⟩, 134), (⟨"LevelUnitsModel", "nameBody", "(I)V"⟩, 134), (⟨"LevelUnitsModel", "see", "(II)V"⟩, 134), (⟨"LevelUnitsModel", "nameStatements", "(I)V"⟩, 134), (⟨"LevelUnitsModel", "nameStatement", "(I)V"⟩, 134), (⟨"LevelUnitsModel", "namePlace", "(I)V"⟩, 134)]
theorem lw_r16 : ∀ q ∈ lw_privs_16, lw_okq q := List.forall_mem_cons.mpr ⟨lw_p240, List.forall_mem_cons.mpr ⟨lw_p241, List.forall_mem_cons.mpr ⟨lw_p242, List.forall_mem_cons.mpr ⟨lw_p243, List.forall_mem_cons.mpr ⟨lw_p244, List.forall_mem_cons.mpr ⟨lw_p245, List.forall_mem_cons.mpr ⟨lw_p246, List.forall_mem_cons.mpr ⟨lw_p247, List.forall_mem_cons.mpr ⟨lw_p248, List.forall_mem_cons.mpr ⟨lw_p249, List.forall_mem_cons.mpr ⟨lw_p250, List.forall_mem_cons.mpr ⟨lw_p251, List.forall_mem_cons.mpr ⟨lw_p252, List.forall_mem_cons.mpr ⟨lw_p253, List.forall_mem_cons.mpr ⟨lw_p254, List.forall_mem_cons.mpr ⟨lw_p255, fun _ h => absurd h List.not_mem_nil⟩⟩⟩⟩⟩⟩⟩⟩⟩⟩⟩⟩⟩⟩⟩⟩
theorem lw_p256 : lw_okq (⟨"LevelUnitsModel", "nameE", "(I)V"⟩, 134) := ⟨⟨by decide +kernel, by decide +kernel⟩, List.mem_of_getElem? (i := 2263) (by decide +kernel), List.mem_of_getElem? (i := 3063) (by decide +kernel), List.mem_of_getElem? (i := 3064) (by decide +kernel)⟩
theorem lw_p257 : lw_okq (⟨"LevelUnitsModel", "within", "(IIII)V"⟩, 134) := ⟨⟨by decide +kernel, by decide +kernel⟩, List.mem_of_getElem? (i := 2263) (by decide +kernel), List.mem_of_getElem? (i := 3067) (by decide +kernel), List.mem_of_getElem? (i := 3068) (by decide +kernel)⟩
theorem lw_p258 : lw_okq (⟨"LevelUnitsModel", "typeRound", "()V"⟩, 134) := ⟨⟨by decide +kernel, by decide +kernel⟩, List.mem_of_getElem? (i := 2263) (by decide +kernel), List.mem_of_getElem? (i := 3071) (by decide +kernel), List.mem_of_getElem? (i := 3072) (by decide +kernel)⟩
theorem lw_p259 : lw_okq (⟨"LevelUnitsModel", "revealed", "(I)V"⟩, 134) := ⟨⟨by decide +kernel, by decide +kernel⟩, List.mem_of_getElem? (i := 2263) (by decide +kernel), List.mem_of_getElem? (i := 3075) (by decide +kernel), List.mem_of_getElem? (i := 3076) (by decide +kernel)⟩
theorem lw_p260 : lw_okq (⟨"LevelUnitsModel", "opaqueOf", "(I)I"⟩, 134) := ⟨⟨by decide +kernel, by decide +kernel⟩, List.mem_of_getElem? (i := 2263) (by decide +kernel), List.mem_of_getElem? (i := 3079) (by decide +kernel), List.mem_of_getElem? (i := 3080) (by decide +kernel)⟩
theorem lw_p261 : lw_okq (⟨"LevelUnitsModel", "real", "(I)I"⟩, 134) := ⟨⟨by decide +kernel, by decide +kernel⟩, List.mem_of_getElem? (i := 2263) (by decide +kernel), List.mem_of_getElem? (i := 3083) (by decide +kernel), List.mem_of_getElem? (i := 3084) (by decide +kernel)⟩
theorem lw_p262 : lw_okq (⟨"LevelUnitsModel", "declaration", "(I)I"⟩, 134) := ⟨⟨by decide +kernel, by decide +kernel⟩, List.mem_of_getElem? (i := 2263) (by decide +kernel), List.mem_of_getElem? (i := 3087) (by decide +kernel), List.mem_of_getElem? (i := 3088) (by decide +kernel)⟩
theorem lw_p263 : lw_okq (⟨"LevelUnitsModel", "firstOfRing", "(I)I"⟩, 134) := ⟨⟨by decide +kernel, by decide +kernel⟩, List.mem_of_getElem? (i := 2263) (by decide +kernel), List.mem_of_getElem? (i := 3091) (by decide +kernel), List.mem_of_getElem? (i := 3092) (by decide +kernel)⟩
theorem lw_p264 : lw_okq (⟨"LevelUnitsModel", "rings", "()V"⟩, 134) := ⟨⟨by decide +kernel, by decide +kernel⟩, List.mem_of_getElem? (i := 2263) (by decide +kernel), List.mem_of_getElem? (i := 3096) (by decide +kernel), List.mem_of_getElem? (i := 3097) (by decide +kernel)⟩
theorem lw_p265 : lw_okq (⟨"LevelUnitsModel", "holds", "(II)Z"⟩, 134) := ⟨⟨by decide +kernel, by decide +kernel⟩, List.mem_of_getElem? (i := 2263) (by decide +kernel), List.mem_of_getElem? (i := 3100) (by decide +kernel), List.mem_of_getElem? (i := 3101) (by decide +kernel)⟩
theorem lw_p266 : lw_okq (⟨"LevelUnitsModel", "goesTo", "(I)I"⟩, 134) := ⟨⟨by decide +kernel, by decide +kernel⟩, List.mem_of_getElem? (i := 2263) (by decide +kernel), List.mem_of_getElem? (i := 3104) (by decide +kernel), List.mem_of_getElem? (i := 3105) (by decide +kernel)⟩
theorem lw_p267 : lw_okq (⟨"LevelUnitsModel", "superOf", "(I)I"⟩, 134) := ⟨⟨by decide +kernel, by decide +kernel⟩, List.mem_of_getElem? (i := 2263) (by decide +kernel), List.mem_of_getElem? (i := 3108) (by decide +kernel), List.mem_of_getElem? (i := 3109) (by decide +kernel)⟩
theorem lw_p268 : lw_okq (⟨"LevelUnitsModel", "bounds", "()V"⟩, 134) := ⟨⟨by decide +kernel, by decide +kernel⟩, List.mem_of_getElem? (i := 2263) (by decide +kernel), List.mem_of_getElem? (i := 3112) (by decide +kernel), List.mem_of_getElem? (i := 3113) (by decide +kernel)⟩
theorem lw_p269 : lw_okq (⟨"LevelUnitsModel", "cellsOf", "(I)I"⟩, 134) := ⟨⟨by decide +kernel, by decide +kernel⟩, List.mem_of_getElem? (i := 2263) (by decide +kernel), List.mem_of_getElem? (i := 3117) (by decide +kernel), List.mem_of_getElem? (i := 3118) (by decide +kernel)⟩
theorem lw_p270 : lw_okq (⟨"LevelUnitsModel", "typeDeclaration", "(I)V"⟩, 134) := ⟨⟨by decide +kernel, by decide +kernel⟩, List.mem_of_getElem? (i := 2263) (by decide +kernel), List.mem_of_getElem? (i := 3123) (by decide +kernel), List.mem_of_getElem? (i := 3124) (by decide +kernel)⟩
theorem lw_p271 : lw_okq (⟨"LevelUnitsModel", "tells", "(II)V"⟩, 134) := ⟨⟨by decide +kernel, by decide +kernel⟩, List.mem_of_getElem? (i := 2263) (by decide +kernel), List.mem_of_getElem? (i := 3128) (by decide +kernel), List.mem_of_getElem? (i := 3129) (by decide +kernel)⟩
def lw_privs_17 : List (MethodName × Nat) := [(⟨"LevelUnitsModel", "nameE", "(I)V"⟩, 134), (⟨"LevelUnitsModel", "within", "(IIII)V"⟩, 134), (⟨"LevelUnitsModel", "typeRound", "()V"⟩, 134), (⟨"LevelUnitsModel", "revealed", "(I)V"⟩, 134), (⟨"LevelUnitsModel", "opaqueOf", "(I)I"⟩, 134), (⟨"LevelUnitsModel", "real", "(I)I"⟩, 134), (⟨"LevelUnitsModel", "declaration", "(I)I"⟩, 134), (⟨"LevelUnitsModel", "firstOfRing", "(I)I"⟩, 134), (⟨"LevelUnitsModel", "rings", "()V"⟩, 134), (⟨"LevelUnitsModel", "holds", "(II)Z"⟩, 134), (⟨"LevelUnitsModel", "goesTo", "(I)I"⟩, 134), (⟨"LevelUnitsModel", "superOf", "(I)I"⟩, 134), (⟨"LevelUnitsModel", "bounds", "()V"⟩, 134), (⟨"LevelUnitsModel", "cellsOf", "(I)I"⟩, 134), (⟨"LevelUnitsModel", "typeDeclaration", "(I)V"⟩, 134), (⟨"LevelUnitsModel", "tells", "(II)V"⟩, 134)]
theorem lw_r17 : ∀ q ∈ lw_privs_17, lw_okq q := List.forall_mem_cons.mpr ⟨lw_p256, List.forall_mem_cons.mpr ⟨lw_p257, List.forall_mem_cons.mpr ⟨lw_p258, List.forall_mem_cons.mpr ⟨lw_p259, List.forall_mem_cons.mpr ⟨lw_p260, List.forall_mem_cons.mpr ⟨lw_p261, List.forall_mem_cons.mpr ⟨lw_p262, List.forall_mem_cons.mpr ⟨lw_p263, List.forall_mem_cons.mpr ⟨lw_p264, List.forall_mem_cons.mpr ⟨lw_p265, List.forall_mem_cons.mpr ⟨lw_p266, List.forall_mem_cons.mpr ⟨lw_p267, List.forall_mem_cons.mpr ⟨lw_p268, List.forall_mem_cons.mpr ⟨lw_p269, List.forall_mem_cons.mpr ⟨lw_p270, List.forall_mem_cons.mpr ⟨lw_p271, fun _ h => absurd h List.not_mem_nil⟩⟩⟩⟩⟩⟩⟩⟩⟩⟩⟩⟩⟩⟩⟩⟩
theorem lw_p272 : lw_okq (⟨"LevelUnitsModel", "isObject", "(I)Z"⟩, 134) := ⟨⟨by decide +kernel, by decide +kernel⟩, List.mem_of_getElem? (i := 2263) (by decide +kernel), List.mem_of_getElem? (i := 3132) (by decide +kernel), List.mem_of_getElem? (i := 3133) (by decide +kernel)⟩
theorem lw_p273 : lw_okq (⟨"LevelUnitsModel", "placeIn", "(II)I"⟩, 134) := ⟨⟨by decide +kernel, by decide +kernel⟩, List.mem_of_getElem? (i := 2263) (by decide +kernel), List.mem_of_getElem? (i := 3136) (by decide +kernel), List.mem_of_getElem? (i := 3137) (by decide +kernel)⟩
theorem lw_p274 : lw_okq (⟨"LevelUnitsModel", "wholeChain", "(I)V"⟩, 134) := ⟨⟨by decide +kernel, by decide +kernel⟩, List.mem_of_getElem? (i := 2263) (by decide +kernel), List.mem_of_getElem? (i := 3140) (by decide +kernel), List.mem_of_getElem? (i := 3141) (by decide +kernel)⟩
theorem lw_p275 : lw_okq (⟨"LevelUnitsModel", "wholeAbove", "(I)I"⟩, 134) := ⟨⟨by decide +kernel, by decide +kernel⟩, List.mem_of_getElem? (i := 2263) (by decide +kernel), List.mem_of_getElem? (i := 3144) (by decide +kernel), List.mem_of_getElem? (i := 3145) (by decide +kernel)⟩
theorem lw_p276 : lw_okq (⟨"LevelUnitsModel", "areAlike", "(II)Z"⟩, 134) := ⟨⟨by decide +kernel, by decide +kernel⟩, List.mem_of_getElem? (i := 2263) (by decide +kernel), List.mem_of_getElem? (i := 3148) (by decide +kernel), List.mem_of_getElem? (i := 3149) (by decide +kernel)⟩
theorem lw_p277 : lw_okq (⟨"LevelUnitsModel", "pair", "(II)V"⟩, 134) := ⟨⟨by decide +kernel, by decide +kernel⟩, List.mem_of_getElem? (i := 2263) (by decide +kernel), List.mem_of_getElem? (i := 3152) (by decide +kernel), List.mem_of_getElem? (i := 3153) (by decide +kernel)⟩
theorem lw_p278 : lw_okq (⟨"LevelUnitsModel", "joins", "()Z"⟩, 134) := ⟨⟨by decide +kernel, by decide +kernel⟩, List.mem_of_getElem? (i := 2263) (by decide +kernel), List.mem_of_getElem? (i := 3156) (by decide +kernel), List.mem_of_getElem? (i := 3157) (by decide +kernel)⟩
theorem lw_p279 : lw_okq (⟨"LevelUnitsModel", "classOf", "(I)I"⟩, 134) := ⟨⟨by decide +kernel, by decide +kernel⟩, List.mem_of_getElem? (i := 2263) (by decide +kernel), List.mem_of_getElem? (i := 3160) (by decide +kernel), List.mem_of_getElem? (i := 3161) (by decide +kernel)⟩
theorem lw_p280 : lw_okq (⟨"LevelUnitsModel", "partsPair", "(II)Z"⟩, 134) := ⟨⟨by decide +kernel, by decide +kernel⟩, List.mem_of_getElem? (i := 2263) (by decide +kernel), List.mem_of_getElem? (i := 3164) (by decide +kernel), List.mem_of_getElem? (i := 3165) (by decide +kernel)⟩
theorem lw_p281 : lw_okq (⟨"LevelUnitsModel", "fieldsPair", "(II)Z"⟩, 134) := ⟨⟨by decide +kernel, by decide +kernel⟩, List.mem_of_getElem? (i := 2263) (by decide +kernel), List.mem_of_getElem? (i := 3168) (by decide +kernel), List.mem_of_getElem? (i := 3169) (by decide +kernel)⟩
theorem lw_p282 : lw_okq (⟨"LevelUnitsModel", "signaturesPair", "(IIII)Z"⟩, 134) := ⟨⟨by decide +kernel, by decide +kernel⟩, List.mem_of_getElem? (i := 2263) (by decide +kernel), List.mem_of_getElem? (i := 3172) (by decide +kernel), List.mem_of_getElem? (i := 3173) (by decide +kernel)⟩
theorem lw_p283 : lw_okq (⟨"LevelUnitsModel", "sameSets", "(II)Z"⟩, 134) := ⟨⟨by decide +kernel, by decide +kernel⟩, List.mem_of_getElem? (i := 2263) (by decide +kernel), List.mem_of_getElem? (i := 3176) (by decide +kernel), List.mem_of_getElem? (i := 3177) (by decide +kernel)⟩
theorem lw_p284 : lw_okq (⟨"LevelUnitsModel", "setWithin", "(II)Z"⟩, 134) := ⟨⟨by decide +kernel, by decide +kernel⟩, List.mem_of_getElem? (i := 2263) (by decide +kernel), List.mem_of_getElem? (i := 3180) (by decide +kernel), List.mem_of_getElem? (i := 3181) (by decide +kernel)⟩
theorem lw_p285 : lw_okq (⟨"LevelUnitsModel", "numberOf", "(I)I"⟩, 134) := ⟨⟨by decide +kernel, by decide +kernel⟩, List.mem_of_getElem? (i := 2263) (by decide +kernel), List.mem_of_getElem? (i := 3184) (by decide +kernel), List.mem_of_getElem? (i := 3185) (by decide +kernel)⟩
theorem lw_p286 : lw_okq (⟨"LevelUnitsModel", "hasException", "(II)Z"⟩, 134) := ⟨⟨by decide +kernel, by decide +kernel⟩, List.mem_of_getElem? (i := 2263) (by decide +kernel), List.mem_of_getElem? (i := 3188) (by decide +kernel), List.mem_of_getElem? (i := 3189) (by decide +kernel)⟩
theorem lw_p287 : lw_okq (⟨"LevelUnitsModel", "methodsPair", "(II)Z"⟩, 134) := ⟨⟨by decide +kernel, by decide +kernel⟩, List.mem_of_getElem? (i := 2263) (by decide +kernel), List.mem_of_getElem? (i := 3192) (by decide +kernel), List.mem_of_getElem? (i := 3193) (by decide +kernel)⟩
def lw_privs_18 : List (MethodName × Nat) := [(⟨"LevelUnitsModel", "isObject", "(I)Z"⟩, 134), (⟨"LevelUnitsModel", "placeIn", "(II)I"⟩, 134), (⟨"LevelUnitsModel", "wholeChain", "(I)V"⟩, 134), (⟨"LevelUnitsModel", "wholeAbove", "(I)I"⟩, 134), (⟨"LevelUnitsModel", "areAlike", "(II)Z"⟩, 134), (⟨"LevelUnitsModel", "pair", "(II)V"⟩, 134), (⟨"LevelUnitsModel", "joins", "()Z"⟩, 134), (⟨"LevelUnitsModel", "classOf", "(I)I"⟩, 134), (⟨"LevelUnitsModel", "partsPair", "(II)Z"⟩, 134), (⟨"LevelUnitsModel", "fieldsPair", "(II)Z"⟩, 134), (⟨"LevelUnitsModel", "signaturesPair", "(IIII)Z"⟩, 134), (⟨"LevelUnitsModel", "sameSets", "(II)Z"⟩, 134), (⟨"LevelUnitsModel", "setWithin", "(II)Z"⟩, 134), (⟨"LevelUnitsModel", "numberOf", "(I)I"⟩, 134), (⟨"LevelUnitsModel", "hasException", "(II)Z"⟩, 134), (⟨"LevelUnitsModel", "methodsPair", "(II)Z"⟩, 134)]
theorem lw_r18 : ∀ q ∈ lw_privs_18, lw_okq q := List.forall_mem_cons.mpr ⟨lw_p272, List.forall_mem_cons.mpr ⟨lw_p273, List.forall_mem_cons.mpr ⟨lw_p274, List.forall_mem_cons.mpr ⟨lw_p275, List.forall_mem_cons.mpr ⟨lw_p276, List.forall_mem_cons.mpr ⟨lw_p277, List.forall_mem_cons.mpr ⟨lw_p278, List.forall_mem_cons.mpr ⟨lw_p279, List.forall_mem_cons.mpr ⟨lw_p280, List.forall_mem_cons.mpr ⟨lw_p281, List.forall_mem_cons.mpr ⟨lw_p282, List.forall_mem_cons.mpr ⟨lw_p283, List.forall_mem_cons.mpr ⟨lw_p284, List.forall_mem_cons.mpr ⟨lw_p285, List.forall_mem_cons.mpr ⟨lw_p286, List.forall_mem_cons.mpr ⟨lw_p287, fun _ h => absurd h List.not_mem_nil⟩⟩⟩⟩⟩⟩⟩⟩⟩⟩⟩⟩⟩⟩⟩⟩
theorem lw_p288 : lw_okq (⟨"LevelUnitsModel", "within", "(II)Z"⟩, 134) := ⟨⟨by decide +kernel, by decide +kernel⟩, List.mem_of_getElem? (i := 2263) (by decide +kernel), List.mem_of_getElem? (i := 3196) (by decide +kernel), List.mem_of_getElem? (i := 3197) (by decide +kernel)⟩
theorem lw_p289 : lw_okq (⟨"LevelUnitsModel", "alikeSignatures", "(II)Z"⟩, 134) := ⟨⟨by decide +kernel, by decide +kernel⟩, List.mem_of_getElem? (i := 2263) (by decide +kernel), List.mem_of_getElem? (i := 3200) (by decide +kernel), List.mem_of_getElem? (i := 3201) (by decide +kernel)⟩
theorem lw_p290 : lw_okq (⟨"LevelUnitsModel", "alikeFrom", "(IIII)Z"⟩, 134) := ⟨⟨by decide +kernel, by decide +kernel⟩, List.mem_of_getElem? (i := 2263) (by decide +kernel), List.mem_of_getElem? (i := 3204) (by decide +kernel), List.mem_of_getElem? (i := 3205) (by decide +kernel)⟩
theorem lw_p291 : lw_okq (⟨"LevelUnitsModel", "memberRound", "(I)V"⟩, 134) := ⟨⟨by decide +kernel, by decide +kernel⟩, List.mem_of_getElem? (i := 2263) (by decide +kernel), List.mem_of_getElem? (i := 3208) (by decide +kernel), List.mem_of_getElem? (i := 3209) (by decide +kernel)⟩
theorem lw_p292 : lw_okq (⟨"LevelUnitsModel", "fits", "(IIII)Z"⟩, 134) := ⟨⟨by decide +kernel, by decide +kernel⟩, List.mem_of_getElem? (i := 2263) (by decide +kernel), List.mem_of_getElem? (i := 3212) (by decide +kernel), List.mem_of_getElem? (i := 3213) (by decide +kernel)⟩
theorem lw_p293 : lw_okq (⟨"LevelUnitsModel", "isBelow", "(III)Z"⟩, 134) := ⟨⟨by decide +kernel, by decide +kernel⟩, List.mem_of_getElem? (i := 2263) (by decide +kernel), List.mem_of_getElem? (i := 3216) (by decide +kernel), List.mem_of_getElem? (i := 3217) (by decide +kernel)⟩
theorem lw_p294 : lw_okq (⟨"LevelUnitsModel", "above", "(II)I"⟩, 134) := ⟨⟨by decide +kernel, by decide +kernel⟩, List.mem_of_getElem? (i := 2263) (by decide +kernel), List.mem_of_getElem? (i := 3220) (by decide +kernel), List.mem_of_getElem? (i := 3221) (by decide +kernel)⟩
theorem lw_p295 : lw_okq (⟨"LevelUnitsModel", "seesNode", "(II)Z"⟩, 134) := ⟨⟨by decide +kernel, by decide +kernel⟩, List.mem_of_getElem? (i := 2263) (by decide +kernel), List.mem_of_getElem? (i := 3224) (by decide +kernel), List.mem_of_getElem? (i := 3225) (by decide +kernel)⟩
theorem lw_p296 : lw_okq (⟨"LevelUnitsModel", "memberOf", "(III)I"⟩, 134) := ⟨⟨by decide +kernel, by decide +kernel⟩, List.mem_of_getElem? (i := 2263) (by decide +kernel), List.mem_of_getElem? (i := 3228) (by decide +kernel), List.mem_of_getElem? (i := 3229) (by decide +kernel)⟩
theorem lw_p297 : lw_okq (⟨"LevelUnitsModel", "statementRound", "()V"⟩, 134) := ⟨⟨by decide +kernel, by decide +kernel⟩, List.mem_of_getElem? (i := 2263) (by decide +kernel), List.mem_of_getElem? (i := 3232) (by decide +kernel), List.mem_of_getElem? (i := 3233) (by decide +kernel)⟩
theorem lw_p298 : lw_okq (⟨"LevelUnitsModel", "signatureOf", "(I)I"⟩, 134) := ⟨⟨by decide +kernel, by decide +kernel⟩, List.mem_of_getElem? (i := 2263) (by decide +kernel), List.mem_of_getElem? (i := 3236) (by decide +kernel), List.mem_of_getElem? (i := 3237) (by decide +kernel)⟩
theorem lw_p299 : lw_okq (⟨"LevelUnitsModel", "checkRow", "(I)V"⟩, 134) := ⟨⟨by decide +kernel, by decide +kernel⟩, List.mem_of_getElem? (i := 2263) (by decide +kernel), List.mem_of_getElem? (i := 3240) (by decide +kernel), List.mem_of_getElem? (i := 3241) (by decide +kernel)⟩
theorem lw_p300 : lw_okq (⟨"LevelUnitsModel", "check", "(I)V"⟩, 134) := ⟨⟨by decide +kernel, by decide +kernel⟩, List.mem_of_getElem? (i := 2263) (by decide +kernel), List.mem_of_getElem? (i := 3244) (by decide +kernel), List.mem_of_getElem? (i := 3245) (by decide +kernel)⟩
theorem lw_p301 : lw_okq (⟨"LevelUnitsModel", "target", "(I)I"⟩, 134) := ⟨⟨by decide +kernel, by decide +kernel⟩, List.mem_of_getElem? (i := 2263) (by decide +kernel), List.mem_of_getElem? (i := 3248) (by decide +kernel), List.mem_of_getElem? (i := 3249) (by decide +kernel)⟩
theorem lw_p302 : lw_okq (⟨"LevelUnitsModel", "typePlace", "(IZ)I"⟩, 134) := ⟨⟨by decide +kernel, by decide +kernel⟩, List.mem_of_getElem? (i := 2263) (by decide +kernel), List.mem_of_getElem? (i := 3252) (by decide +kernel), List.mem_of_getElem? (i := 3253) (by decide +kernel)⟩
theorem lw_p303 : lw_okq (⟨"LevelUnitsModel", "wanted", "(II)V"⟩, 134) := ⟨⟨by decide +kernel, by decide +kernel⟩, List.mem_of_getElem? (i := 2263) (by decide +kernel), List.mem_of_getElem? (i := 3256) (by decide +kernel), List.mem_of_getElem? (i := 3257) (by decide +kernel)⟩
def lw_privs_19 : List (MethodName × Nat) := [(⟨"LevelUnitsModel", "within", "(II)Z"⟩, 134), (⟨"LevelUnitsModel", "alikeSignatures", "(II)Z"⟩, 134), (⟨"LevelUnitsModel", "alikeFrom", "(IIII)Z"⟩, 134), (⟨"LevelUnitsModel", "memberRound", "(I)V"⟩, 134), (⟨"LevelUnitsModel", "fits", "(IIII)Z"⟩, 134), (⟨"LevelUnitsModel", "isBelow", "(III)Z"⟩, 134), (⟨"LevelUnitsModel", "above", "(II)I"⟩, 134), (⟨"LevelUnitsModel", "seesNode", "(II)Z"⟩, 134), (⟨"LevelUnitsModel", "memberOf", "(III)I"⟩, 134), (⟨"LevelUnitsModel", "statementRound", "()V"⟩, 134), (⟨"LevelUnitsModel", "signatureOf", "(I)I"⟩, 134), (⟨"LevelUnitsModel", "checkRow", "(I)V"⟩, 134), (⟨"LevelUnitsModel", "check", "(I)V"⟩, 134), (⟨"LevelUnitsModel", "target", "(I)I"⟩, 134), (⟨"LevelUnitsModel", "typePlace", "(IZ)I"⟩, 134), (⟨"LevelUnitsModel", "wanted", "(II)V"⟩, 134)]
theorem lw_r19 : ∀ q ∈ lw_privs_19, lw_okq q := List.forall_mem_cons.mpr ⟨lw_p288, List.forall_mem_cons.mpr ⟨lw_p289, List.forall_mem_cons.mpr ⟨lw_p290, List.forall_mem_cons.mpr ⟨lw_p291, List.forall_mem_cons.mpr ⟨lw_p292, List.forall_mem_cons.mpr ⟨lw_p293, List.forall_mem_cons.mpr ⟨lw_p294, List.forall_mem_cons.mpr ⟨lw_p295, List.forall_mem_cons.mpr ⟨lw_p296, List.forall_mem_cons.mpr ⟨lw_p297, List.forall_mem_cons.mpr ⟨lw_p298, List.forall_mem_cons.mpr ⟨lw_p299, List.forall_mem_cons.mpr ⟨lw_p300, List.forall_mem_cons.mpr ⟨lw_p301, List.forall_mem_cons.mpr ⟨lw_p302, List.forall_mem_cons.mpr ⟨lw_p303, fun _ h => absurd h List.not_mem_nil⟩⟩⟩⟩⟩⟩⟩⟩⟩⟩⟩⟩⟩⟩⟩⟩
theorem lw_p304 : lw_okq (⟨"LevelUnitsModel", "typeE", "(I)I"⟩, 134) := ⟨⟨by decide +kernel, by decide +kernel⟩, List.mem_of_getElem? (i := 2263) (by decide +kernel), List.mem_of_getElem? (i := 3260) (by decide +kernel), List.mem_of_getElem? (i := 3261) (by decide +kernel)⟩
theorem lw_p305 : lw_okq (⟨"LevelUnitsModel", "typeInE", "(I)I"⟩, 134) := ⟨⟨by decide +kernel, by decide +kernel⟩, List.mem_of_getElem? (i := 2263) (by decide +kernel), List.mem_of_getElem? (i := 3264) (by decide +kernel), List.mem_of_getElem? (i := 3265) (by decide +kernel)⟩
theorem lw_p306 : lw_okq (⟨"LevelUnitsModel", "wrong", "(II)I"⟩, 134) := ⟨⟨by decide +kernel, by decide +kernel⟩, List.mem_of_getElem? (i := 2263) (by decide +kernel), List.mem_of_getElem? (i := 3268) (by decide +kernel), List.mem_of_getElem? (i := 3269) (by decide +kernel)⟩
theorem lw_p307 : lw_okq (⟨"LevelUnitsModel", "objects", "(IIII)Z"⟩, 134) := ⟨⟨by decide +kernel, by decide +kernel⟩, List.mem_of_getElem? (i := 2263) (by decide +kernel), List.mem_of_getElem? (i := 3272) (by decide +kernel), List.mem_of_getElem? (i := 3273) (by decide +kernel)⟩
theorem lw_p308 : lw_okq (⟨"LevelUnitsModel", "chained", "(I)I"⟩, 134) := ⟨⟨by decide +kernel, by decide +kernel⟩, List.mem_of_getElem? (i := 2263) (by decide +kernel), List.mem_of_getElem? (i := 3276) (by decide +kernel), List.mem_of_getElem? (i := 3277) (by decide +kernel)⟩
theorem lw_p309 : lw_okq (⟨"LevelUnitsModel", "isKind", "(II)Z"⟩, 134) := ⟨⟨by decide +kernel, by decide +kernel⟩, List.mem_of_getElem? (i := 2263) (by decide +kernel), List.mem_of_getElem? (i := 3280) (by decide +kernel), List.mem_of_getElem? (i := 3281) (by decide +kernel)⟩
theorem lw_p310 : lw_okq (⟨"LevelUnitsModel", "isInteger", "(I)Z"⟩, 134) := ⟨⟨by decide +kernel, by decide +kernel⟩, List.mem_of_getElem? (i := 2263) (by decide +kernel), List.mem_of_getElem? (i := 3284) (by decide +kernel), List.mem_of_getElem? (i := 3285) (by decide +kernel)⟩
theorem lw_p311 : lw_okq (⟨"LevelUnitsModel", "relationType", "(I)I"⟩, 134) := ⟨⟨by decide +kernel, by decide +kernel⟩, List.mem_of_getElem? (i := 2263) (by decide +kernel), List.mem_of_getElem? (i := 3288) (by decide +kernel), List.mem_of_getElem? (i := 3289) (by decide +kernel)⟩
theorem lw_p312 : lw_okq (⟨"LevelUnitsModel", "isReference", "(I)Z"⟩, 134) := ⟨⟨by decide +kernel, by decide +kernel⟩, List.mem_of_getElem? (i := 2263) (by decide +kernel), List.mem_of_getElem? (i := 3292) (by decide +kernel), List.mem_of_getElem? (i := 3293) (by decide +kernel)⟩
theorem lw_p313 : lw_okq (⟨"LevelUnitsModel", "typeDot", "(IIIIZ)I"⟩, 134) := ⟨⟨by decide +kernel, by decide +kernel⟩, List.mem_of_getElem? (i := 2263) (by decide +kernel), List.mem_of_getElem? (i := 3296) (by decide +kernel), List.mem_of_getElem? (i := 3297) (by decide +kernel)⟩
theorem lw_p314 : lw_okq (⟨"LevelUnitsModel", "offsetIn", "(II)I"⟩, 134) := ⟨⟨by decide +kernel, by decide +kernel⟩, List.mem_of_getElem? (i := 2263) (by decide +kernel), List.mem_of_getElem? (i := 3300) (by decide +kernel), List.mem_of_getElem? (i := 3301) (by decide +kernel)⟩
theorem lw_p315 : lw_okq (⟨"LevelUnitsModel", "cellsAbove", "(I)I"⟩, 134) := ⟨⟨by decide +kernel, by decide +kernel⟩, List.mem_of_getElem? (i := 2263) (by decide +kernel), List.mem_of_getElem? (i := 3304) (by decide +kernel), List.mem_of_getElem? (i := 3305) (by decide +kernel)⟩
theorem lw_p316 : lw_okq (⟨"LevelUnitsModel", "fieldCells", "(I)I"⟩, 134) := ⟨⟨by decide +kernel, by decide +kernel⟩, List.mem_of_getElem? (i := 2263) (by decide +kernel), List.mem_of_getElem? (i := 3308) (by decide +kernel), List.mem_of_getElem? (i := 3309) (by decide +kernel)⟩
theorem lw_p317 : lw_okq (⟨"LevelUnitsModel", "levelOf", "(I)I"⟩, 134) := ⟨⟨by decide +kernel, by decide +kernel⟩, List.mem_of_getElem? (i := 2263) (by decide +kernel), List.mem_of_getElem? (i := 3312) (by decide +kernel), List.mem_of_getElem? (i := 3313) (by decide +kernel)⟩
theorem lw_p318 : lw_okq (⟨"LevelUnitsModel", "assignable", "(III)Z"⟩, 134) := ⟨⟨by decide +kernel, by decide +kernel⟩, List.mem_of_getElem? (i := 2263) (by decide +kernel), List.mem_of_getElem? (i := 3316) (by decide +kernel), List.mem_of_getElem? (i := 3317) (by decide +kernel)⟩
theorem lw_p319 : lw_okq (⟨"LevelUnitsModel", "calls", "(I)V"⟩, 134) := ⟨⟨by decide +kernel, by decide +kernel⟩, List.mem_of_getElem? (i := 2263) (by decide +kernel), List.mem_of_getElem? (i := 3320) (by decide +kernel), List.mem_of_getElem? (i := 3321) (by decide +kernel)⟩
def lw_privs_20 : List (MethodName × Nat) := [(⟨"LevelUnitsModel", "typeE", "(I)I"⟩, 134), (⟨"LevelUnitsModel", "typeInE", "(I)I"⟩, 134), (⟨"LevelUnitsModel", "wrong", "(II)I"⟩, 134), (⟨"LevelUnitsModel", "objects", "(IIII)Z"⟩, 134), (⟨"LevelUnitsModel", "chained", "(I)I"⟩, 134), (⟨"LevelUnitsModel", "isKind", "(II)Z"⟩, 134), (⟨"LevelUnitsModel", "isInteger", "(I)Z"⟩, 134), (⟨"LevelUnitsModel", "relationType", "(I)I"⟩, 134), (⟨"LevelUnitsModel", "isReference", "(I)Z"⟩, 134), (⟨"LevelUnitsModel", "typeDot", "(IIIIZ)I"⟩, 134), (⟨"LevelUnitsModel", "offsetIn", "(II)I"⟩, 134), (⟨"LevelUnitsModel", "cellsAbove", "(I)I"⟩, 134), (⟨"LevelUnitsModel", "fieldCells", "(I)I"⟩, 134), (⟨"LevelUnitsModel", "levelOf", "(I)I"⟩, 134), (⟨"LevelUnitsModel", "assignable", "(III)Z"⟩, 134), (⟨"LevelUnitsModel", "calls", "(I)V"⟩, 134)]
theorem lw_r20 : ∀ q ∈ lw_privs_20, lw_okq q := List.forall_mem_cons.mpr ⟨lw_p304, List.forall_mem_cons.mpr ⟨lw_p305, List.forall_mem_cons.mpr ⟨lw_p306, List.forall_mem_cons.mpr ⟨lw_p307, List.forall_mem_cons.mpr ⟨lw_p308, List.forall_mem_cons.mpr ⟨lw_p309, List.forall_mem_cons.mpr ⟨lw_p310, List.forall_mem_cons.mpr ⟨lw_p311, List.forall_mem_cons.mpr ⟨lw_p312, List.forall_mem_cons.mpr ⟨lw_p313, List.forall_mem_cons.mpr ⟨lw_p314, List.forall_mem_cons.mpr ⟨lw_p315, List.forall_mem_cons.mpr ⟨lw_p316, List.forall_mem_cons.mpr ⟨lw_p317, List.forall_mem_cons.mpr ⟨lw_p318, List.forall_mem_cons.mpr ⟨lw_p319, fun _ h => absurd h List.not_mem_nil⟩⟩⟩⟩⟩⟩⟩⟩⟩⟩⟩⟩⟩⟩⟩⟩
theorem lw_p320 : lw_okq (⟨"LevelUnitsModel", "parameters", "(III)V"⟩, 134) := ⟨⟨by decide +kernel, by decide +kernel⟩, List.mem_of_getElem? (i := 2263) (by decide +kernel), List.mem_of_getElem? (i := 3324) (by decide +kernel), List.mem_of_getElem? (i := 3325) (by decide +kernel)⟩
theorem lw_p321 : lw_okq (⟨"LevelUnitsModel", "inLoop", "(I)V"⟩, 134) := ⟨⟨by decide +kernel, by decide +kernel⟩, List.mem_of_getElem? (i := 2263) (by decide +kernel), List.mem_of_getElem? (i := 3328) (by decide +kernel), List.mem_of_getElem? (i := 3329) (by decide +kernel)⟩
theorem lw_p322 : lw_okq (⟨"LevelUnitsModel", "returns", "(I)V"⟩, 134) := ⟨⟨by decide +kernel, by decide +kernel⟩, List.mem_of_getElem? (i := 2263) (by decide +kernel), List.mem_of_getElem? (i := 3332) (by decide +kernel), List.mem_of_getElem? (i := 3333) (by decide +kernel)⟩
theorem lw_p323 : lw_okq (⟨"LevelUnitsModel", "typecaseCheck", "(I)V"⟩, 134) := ⟨⟨by decide +kernel, by decide +kernel⟩, List.mem_of_getElem? (i := 2263) (by decide +kernel), List.mem_of_getElem? (i := 3336) (by decide +kernel), List.mem_of_getElem? (i := 3337) (by decide +kernel)⟩
theorem lw_p324 : lw_okq (⟨"LevelUnitsModel", "exceptionRound", "()V"⟩, 134) := ⟨⟨by decide +kernel, by decide +kernel⟩, List.mem_of_getElem? (i := 2263) (by decide +kernel), List.mem_of_getElem? (i := 3340) (by decide +kernel), List.mem_of_getElem? (i := 3341) (by decide +kernel)⟩
theorem lw_p325 : lw_okq (⟨"LevelUnitsModel", "leaveRow", "(I)V"⟩, 134) := ⟨⟨by decide +kernel, by decide +kernel⟩, List.mem_of_getElem? (i := 2263) (by decide +kernel), List.mem_of_getElem? (i := 3344) (by decide +kernel), List.mem_of_getElem? (i := 3345) (by decide +kernel)⟩
theorem lw_p326 : lw_okq (⟨"LevelUnitsModel", "leaveStatement", "(I)V"⟩, 134) := ⟨⟨by decide +kernel, by decide +kernel⟩, List.mem_of_getElem? (i := 2263) (by decide +kernel), List.mem_of_getElem? (i := 3348) (by decide +kernel), List.mem_of_getElem? (i := 3349) (by decide +kernel)⟩
theorem lw_p327 : lw_okq (⟨"LevelUnitsModel", "leaves", "(II)V"⟩, 134) := ⟨⟨by decide +kernel, by decide +kernel⟩, List.mem_of_getElem? (i := 2263) (by decide +kernel), List.mem_of_getElem? (i := 3352) (by decide +kernel), List.mem_of_getElem? (i := 3353) (by decide +kernel)⟩
theorem lw_p328 : lw_okq (⟨"LevelUnitsModel", "handlerOf", "(II)I"⟩, 134) := ⟨⟨by decide +kernel, by decide +kernel⟩, List.mem_of_getElem? (i := 2263) (by decide +kernel), List.mem_of_getElem? (i := 3356) (by decide +kernel), List.mem_of_getElem? (i := 3357) (by decide +kernel)⟩
theorem lw_p329 : lw_okq (⟨"LevelUnitsModel", "layOut", "()V"⟩, 134) := ⟨⟨by decide +kernel, by decide +kernel⟩, List.mem_of_getElem? (i := 2263) (by decide +kernel), List.mem_of_getElem? (i := 3360) (by decide +kernel), List.mem_of_getElem? (i := 3361) (by decide +kernel)⟩
theorem lw_p330 : lw_okq (⟨"LevelUnitsModel", "layRow", "(II)V"⟩, 134) := ⟨⟨by decide +kernel, by decide +kernel⟩, List.mem_of_getElem? (i := 2263) (by decide +kernel), List.mem_of_getElem? (i := 3364) (by decide +kernel), List.mem_of_getElem? (i := 3365) (by decide +kernel)⟩
theorem lw_p331 : lw_okq (⟨"LevelUnitsModel", "layName", "(III)V"⟩, 134) := ⟨⟨by decide +kernel, by decide +kernel⟩, List.mem_of_getElem? (i := 2263) (by decide +kernel), List.mem_of_getElem? (i := 3368) (by decide +kernel), List.mem_of_getElem? (i := 3369) (by decide +kernel)⟩
theorem lw_p332 : lw_okq (⟨"LevelUnitsModel", "isTold", "(I)Z"⟩, 134) := ⟨⟨by decide +kernel, by decide +kernel⟩, List.mem_of_getElem? (i := 2263) (by decide +kernel), List.mem_of_getElem? (i := 3376) (by decide +kernel), List.mem_of_getElem? (i := 3377) (by decide +kernel)⟩
theorem lw_p333 : lw_okq (⟨"LevelUnitsModel", "toldType", "(I)I"⟩, 134) := ⟨⟨by decide +kernel, by decide +kernel⟩, List.mem_of_getElem? (i := 2263) (by decide +kernel), List.mem_of_getElem? (i := 3380) (by decide +kernel), List.mem_of_getElem? (i := 3381) (by decide +kernel)⟩
theorem lw_p334 : lw_okq (⟨"LevelUnitsModel", "leastAlike", "(I)I"⟩, 134) := ⟨⟨by decide +kernel, by decide +kernel⟩, List.mem_of_getElem? (i := 2263) (by decide +kernel), List.mem_of_getElem? (i := 3394) (by decide +kernel), List.mem_of_getElem? (i := 3395) (by decide +kernel)⟩
theorem lw_p335 : lw_okq (⟨"LevelUnitsModel", "fails", "(ZZ)Z"⟩, 134) := ⟨⟨by decide +kernel, by decide +kernel⟩, List.mem_of_getElem? (i := 2263) (by decide +kernel), List.mem_of_getElem? (i := 3406) (by decide +kernel), List.mem_of_getElem? (i := 3407) (by decide +kernel)⟩
def lw_privs_21 : List (MethodName × Nat) := [(⟨"LevelUnitsModel", "parameters", "(III)V"⟩, 134), (⟨"LevelUnitsModel", "inLoop", "(I)V"⟩, 134), (⟨"LevelUnitsModel", "returns", "(I)V"⟩, 134), (⟨"LevelUnitsModel", "typecaseCheck", "(I)V"⟩, 134), (⟨"LevelUnitsModel", "exceptionRound", "()V"⟩, 134), (⟨"LevelUnitsModel", "leaveRow", "(I)V"⟩, 134), (⟨"LevelUnitsModel", "leaveStatement", "(I)V"⟩, 134), (⟨"LevelUnitsModel", "leaves", "(II)V"⟩, 134), (⟨"LevelUnitsModel", "handlerOf", "(II)I"⟩, 134), (⟨"LevelUnitsModel", "layOut", "()V"⟩, 134), (⟨"LevelUnitsModel", "layRow", "(II)V"⟩, 134), (⟨"LevelUnitsModel", "layName", "(III)V"⟩, 134), (⟨"LevelUnitsModel", "isTold", "(I)Z"⟩, 134), (⟨"LevelUnitsModel", "toldType", "(I)I"⟩, 134), (⟨"LevelUnitsModel", "leastAlike", "(I)I"⟩, 134), (⟨"LevelUnitsModel", "fails", "(ZZ)Z"⟩, 134)]
theorem lw_r21 : ∀ q ∈ lw_privs_21, lw_okq q := List.forall_mem_cons.mpr ⟨lw_p320, List.forall_mem_cons.mpr ⟨lw_p321, List.forall_mem_cons.mpr ⟨lw_p322, List.forall_mem_cons.mpr ⟨lw_p323, List.forall_mem_cons.mpr ⟨lw_p324, List.forall_mem_cons.mpr ⟨lw_p325, List.forall_mem_cons.mpr ⟨lw_p326, List.forall_mem_cons.mpr ⟨lw_p327, List.forall_mem_cons.mpr ⟨lw_p328, List.forall_mem_cons.mpr ⟨lw_p329, List.forall_mem_cons.mpr ⟨lw_p330, List.forall_mem_cons.mpr ⟨lw_p331, List.forall_mem_cons.mpr ⟨lw_p332, List.forall_mem_cons.mpr ⟨lw_p333, List.forall_mem_cons.mpr ⟨lw_p334, List.forall_mem_cons.mpr ⟨lw_p335, fun _ h => absurd h List.not_mem_nil⟩⟩⟩⟩⟩⟩⟩⟩⟩⟩⟩⟩⟩⟩⟩⟩
theorem lw_p336 : lw_okq (⟨"LevelUnitsModel", "clear", "(II)I"⟩, 134) := ⟨⟨by decide +kernel, by decide +kernel⟩, List.mem_of_getElem? (i := 2263) (by decide +kernel), List.mem_of_getElem? (i := 3410) (by decide +kernel), List.mem_of_getElem? (i := 3411) (by decide +kernel)⟩
theorem lw_p337 : lw_okq (⟨"LevelUnitsModel", "initial", "(I)I"⟩, 134) := ⟨⟨by decide +kernel, by decide +kernel⟩, List.mem_of_getElem? (i := 2263) (by decide +kernel), List.mem_of_getElem? (i := 3414) (by decide +kernel), List.mem_of_getElem? (i := 3415) (by decide +kernel)⟩
theorem lw_p338 : lw_okq (⟨"LevelUnitsModel", "empty", "(I)V"⟩, 134) := ⟨⟨by decide +kernel, by decide +kernel⟩, List.mem_of_getElem? (i := 2263) (by decide +kernel), List.mem_of_getElem? (i := 3418) (by decide +kernel), List.mem_of_getElem? (i := 3419) (by decide +kernel)⟩
theorem lw_p339 : lw_okq (⟨"LevelUnitsModel", "push", "(IIIIII)V"⟩, 134) := ⟨⟨by decide +kernel, by decide +kernel⟩, List.mem_of_getElem? (i := 2263) (by decide +kernel), List.mem_of_getElem? (i := 3422) (by decide +kernel), List.mem_of_getElem? (i := 3423) (by decide +kernel)⟩
theorem lw_p340 : lw_okq (⟨"LevelUnitsModel", "entry", "()I"⟩, 134) := ⟨⟨by decide +kernel, by decide +kernel⟩, List.mem_of_getElem? (i := 2263) (by decide +kernel), List.mem_of_getElem? (i := 3426) (by decide +kernel), List.mem_of_getElem? (i := 3427) (by decide +kernel)⟩
theorem lw_p341 : lw_okq (⟨"LevelUnitsModel", "goesOn", "()V"⟩, 134) := ⟨⟨by decide +kernel, by decide +kernel⟩, List.mem_of_getElem? (i := 2263) (by decide +kernel), List.mem_of_getElem? (i := 3430) (by decide +kernel), List.mem_of_getElem? (i := 3431) (by decide +kernel)⟩
theorem lw_p342 : lw_okq (⟨"LevelUnitsModel", "isAhead", "()Z"⟩, 134) := ⟨⟨by decide +kernel, by decide +kernel⟩, List.mem_of_getElem? (i := 2263) (by decide +kernel), List.mem_of_getElem? (i := 3434) (by decide +kernel), List.mem_of_getElem? (i := 3435) (by decide +kernel)⟩
theorem lw_p343 : lw_okq (⟨"LevelUnitsModel", "further", "()V"⟩, 134) := ⟨⟨by decide +kernel, by decide +kernel⟩, List.mem_of_getElem? (i := 2263) (by decide +kernel), List.mem_of_getElem? (i := 3438) (by decide +kernel), List.mem_of_getElem? (i := 3439) (by decide +kernel)⟩
theorem lw_p344 : lw_okq (⟨"LevelUnitsModel", "ends", "(IIII)V"⟩, 134) := ⟨⟨by decide +kernel, by decide +kernel⟩, List.mem_of_getElem? (i := 2263) (by decide +kernel), List.mem_of_getElem? (i := 3442) (by decide +kernel), List.mem_of_getElem? (i := 3443) (by decide +kernel)⟩
theorem lw_p345 : lw_okq (⟨"LevelUnitsModel", "pop", "()V"⟩, 134) := ⟨⟨by decide +kernel, by decide +kernel⟩, List.mem_of_getElem? (i := 2263) (by decide +kernel), List.mem_of_getElem? (i := 3446) (by decide +kernel), List.mem_of_getElem? (i := 3447) (by decide +kernel)⟩
theorem lw_p346 : lw_okq (⟨"LevelUnitsModel", "row", "(I)V"⟩, 134) := ⟨⟨by decide +kernel, by decide +kernel⟩, List.mem_of_getElem? (i := 2263) (by decide +kernel), List.mem_of_getElem? (i := 3450) (by decide +kernel), List.mem_of_getElem? (i := 3451) (by decide +kernel)⟩
theorem lw_p347 : lw_okq (⟨"LevelUnitsModel", "leave", "(IIII)V"⟩, 134) := ⟨⟨by decide +kernel, by decide +kernel⟩, List.mem_of_getElem? (i := 2263) (by decide +kernel), List.mem_of_getElem? (i := 3454) (by decide +kernel), List.mem_of_getElem? (i := 3455) (by decide +kernel)⟩
theorem lw_p348 : lw_okq (⟨"LevelUnitsModel", "release", "(I)V"⟩, 134) := ⟨⟨by decide +kernel, by decide +kernel⟩, List.mem_of_getElem? (i := 2263) (by decide +kernel), List.mem_of_getElem? (i := 3458) (by decide +kernel), List.mem_of_getElem? (i := 3459) (by decide +kernel)⟩
theorem lw_p349 : lw_okq (⟨"LevelUnitsModel", "catches", "(III)Z"⟩, 134) := ⟨⟨by decide +kernel, by decide +kernel⟩, List.mem_of_getElem? (i := 2263) (by decide +kernel), List.mem_of_getElem? (i := 3462) (by decide +kernel), List.mem_of_getElem? (i := 3463) (by decide +kernel)⟩
theorem lw_p350 : lw_okq (⟨"LevelUnitsModel", "returned", "(I)V"⟩, 134) := ⟨⟨by decide +kernel, by decide +kernel⟩, List.mem_of_getElem? (i := 2263) (by decide +kernel), List.mem_of_getElem? (i := 3466) (by decide +kernel), List.mem_of_getElem? (i := 3467) (by decide +kernel)⟩
theorem lw_p351 : lw_okq (⟨"LevelUnitsModel", "leaveCall", "()I"⟩, 134) := ⟨⟨by decide +kernel, by decide +kernel⟩, List.mem_of_getElem? (i := 2263) (by decide +kernel), List.mem_of_getElem? (i := 3470) (by decide +kernel), List.mem_of_getElem? (i := 3471) (by decide +kernel)⟩
def lw_privs_22 : List (MethodName × Nat) := [(⟨"LevelUnitsModel", "clear", "(II)I"⟩, 134), (⟨"LevelUnitsModel", "initial", "(I)I"⟩, 134), (⟨"LevelUnitsModel", "empty", "(I)V"⟩, 134), (⟨"LevelUnitsModel", "push", "(IIIIII)V"⟩, 134), (⟨"LevelUnitsModel", "entry", "()I"⟩, 134), (⟨"LevelUnitsModel", "goesOn", "()V"⟩, 134), (⟨"LevelUnitsModel", "isAhead", "()Z"⟩, 134), (⟨"LevelUnitsModel", "further", "()V"⟩, 134), (⟨"LevelUnitsModel", "ends", "(IIII)V"⟩, 134), (⟨"LevelUnitsModel", "pop", "()V"⟩, 134), (⟨"LevelUnitsModel", "row", "(I)V"⟩, 134), (⟨"LevelUnitsModel", "leave", "(IIII)V"⟩, 134), (⟨"LevelUnitsModel", "release", "(I)V"⟩, 134), (⟨"LevelUnitsModel", "catches", "(III)Z"⟩, 134), (⟨"LevelUnitsModel", "returned", "(I)V"⟩, 134), (⟨"LevelUnitsModel", "leaveCall", "()I"⟩, 134)]
theorem lw_r22 : ∀ q ∈ lw_privs_22, lw_okq q := List.forall_mem_cons.mpr ⟨lw_p336, List.forall_mem_cons.mpr ⟨lw_p337, List.forall_mem_cons.mpr ⟨lw_p338, List.forall_mem_cons.mpr ⟨lw_p339, List.forall_mem_cons.mpr ⟨lw_p340, List.forall_mem_cons.mpr ⟨lw_p341, List.forall_mem_cons.mpr ⟨lw_p342, List.forall_mem_cons.mpr ⟨lw_p343, List.forall_mem_cons.mpr ⟨lw_p344, List.forall_mem_cons.mpr ⟨lw_p345, List.forall_mem_cons.mpr ⟨lw_p346, List.forall_mem_cons.mpr ⟨lw_p347, List.forall_mem_cons.mpr ⟨lw_p348, List.forall_mem_cons.mpr ⟨lw_p349, List.forall_mem_cons.mpr ⟨lw_p350, List.forall_mem_cons.mpr ⟨lw_p351, fun _ h => absurd h List.not_mem_nil⟩⟩⟩⟩⟩⟩⟩⟩⟩⟩⟩⟩⟩⟩⟩⟩
theorem lw_p352 : lw_okq (⟨"LevelUnitsModel", "held", "(II)V"⟩, 134) := ⟨⟨by decide +kernel, by decide +kernel⟩, List.mem_of_getElem? (i := 2263) (by decide +kernel), List.mem_of_getElem? (i := 3474) (by decide +kernel), List.mem_of_getElem? (i := 3475) (by decide +kernel)⟩
theorem lw_p353 : lw_okq (⟨"LevelUnitsModel", "fail", "(I)V"⟩, 134) := ⟨⟨by decide +kernel, by decide +kernel⟩, List.mem_of_getElem? (i := 2263) (by decide +kernel), List.mem_of_getElem? (i := 3478) (by decide +kernel), List.mem_of_getElem? (i := 3479) (by decide +kernel)⟩
theorem lw_p354 : lw_okq (⟨"LevelUnitsModel", "isOf", "(II)Z"⟩, 134) := ⟨⟨by decide +kernel, by decide +kernel⟩, List.mem_of_getElem? (i := 2263) (by decide +kernel), List.mem_of_getElem? (i := 3482) (by decide +kernel), List.mem_of_getElem? (i := 3483) (by decide +kernel)⟩
theorem lw_p355 : lw_okq (⟨"LevelUnitsModel", "ready", "()I"⟩, 134) := ⟨⟨by decide +kernel, by decide +kernel⟩, List.mem_of_getElem? (i := 2263) (by decide +kernel), List.mem_of_getElem? (i := 3490) (by decide +kernel), List.mem_of_getElem? (i := 3491) (by decide +kernel)⟩
theorem lw_p356 : lw_okq (⟨"LevelUnitsModel", "isReady", "(I)Z"⟩, 134) := ⟨⟨by decide +kernel, by decide +kernel⟩, List.mem_of_getElem? (i := 2263) (by decide +kernel), List.mem_of_getElem? (i := 3494) (by decide +kernel), List.mem_of_getElem? (i := 3495) (by decide +kernel)⟩
theorem lw_p357 : lw_okq (⟨"LevelUnitsModel", "step", "()V"⟩, 134) := ⟨⟨by decide +kernel, by decide +kernel⟩, List.mem_of_getElem? (i := 2263) (by decide +kernel), List.mem_of_getElem? (i := 3499) (by decide +kernel), List.mem_of_getElem? (i := 3500) (by decide +kernel)⟩
theorem lw_p358 : lw_okq (⟨"LevelUnitsModel", "nextStatement", "()V"⟩, 134) := ⟨⟨by decide +kernel, by decide +kernel⟩, List.mem_of_getElem? (i := 2263) (by decide +kernel), List.mem_of_getElem? (i := 3503) (by decide +kernel), List.mem_of_getElem? (i := 3504) (by decide +kernel)⟩
theorem lw_p359 : lw_okq (⟨"LevelUnitsModel", "locked", "(II)V"⟩, 134) := ⟨⟨by decide +kernel, by decide +kernel⟩, List.mem_of_getElem? (i := 2263) (by decide +kernel), List.mem_of_getElem? (i := 3507) (by decide +kernel), List.mem_of_getElem? (i := 3508) (by decide +kernel)⟩
theorem lw_p360 : lw_okq (⟨"LevelUnitsModel", "does", "(I)V"⟩, 134) := ⟨⟨by decide +kernel, by decide +kernel⟩, List.mem_of_getElem? (i := 2263) (by decide +kernel), List.mem_of_getElem? (i := 3511) (by decide +kernel), List.mem_of_getElem? (i := 3512) (by decide +kernel)⟩
theorem lw_p361 : lw_okq (⟨"LevelUnitsModel", "assign", "(I)V"⟩, 134) := ⟨⟨by decide +kernel, by decide +kernel⟩, List.mem_of_getElem? (i := 2263) (by decide +kernel), List.mem_of_getElem? (i := 3515) (by decide +kernel), List.mem_of_getElem? (i := 3516) (by decide +kernel)⟩
theorem lw_p362 : lw_okq (⟨"LevelUnitsModel", "place", "(I)I"⟩, 134) := ⟨⟨by decide +kernel, by decide +kernel⟩, List.mem_of_getElem? (i := 2263) (by decide +kernel), List.mem_of_getElem? (i := 3519) (by decide +kernel), List.mem_of_getElem? (i := 3520) (by decide +kernel)⟩
theorem lw_p363 : lw_okq (⟨"LevelUnitsModel", "behind", "(III)I"⟩, 134) := ⟨⟨by decide +kernel, by decide +kernel⟩, List.mem_of_getElem? (i := 2263) (by decide +kernel), List.mem_of_getElem? (i := 3523) (by decide +kernel), List.mem_of_getElem? (i := 3524) (by decide +kernel)⟩
theorem lw_p364 : lw_okq (⟨"LevelUnitsModel", "eval", "(I)I"⟩, 134) := ⟨⟨by decide +kernel, by decide +kernel⟩, List.mem_of_getElem? (i := 2263) (by decide +kernel), List.mem_of_getElem? (i := 3527) (by decide +kernel), List.mem_of_getElem? (i := 3528) (by decide +kernel)⟩
theorem lw_p365 : lw_okq (⟨"LevelUnitsModel", "create", "(I)I"⟩, 134) := ⟨⟨by decide +kernel, by decide +kernel⟩, List.mem_of_getElem? (i := 2263) (by decide +kernel), List.mem_of_getElem? (i := 3531) (by decide +kernel), List.mem_of_getElem? (i := 3532) (by decide +kernel)⟩
theorem lw_p366 : lw_okq (⟨"LevelUnitsModel", "clearObject", "(II)V"⟩, 134) := ⟨⟨by decide +kernel, by decide +kernel⟩, List.mem_of_getElem? (i := 2263) (by decide +kernel), List.mem_of_getElem? (i := 3535) (by decide +kernel), List.mem_of_getElem? (i := 3536) (by decide +kernel)⟩
theorem lw_p367 : lw_okq (⟨"LevelUnitsModel", "clearFields", "(II)I"⟩, 134) := ⟨⟨by decide +kernel, by decide +kernel⟩, List.mem_of_getElem? (i := 2263) (by decide +kernel), List.mem_of_getElem? (i := 3539) (by decide +kernel), List.mem_of_getElem? (i := 3540) (by decide +kernel)⟩
def lw_privs_23 : List (MethodName × Nat) := [(⟨"LevelUnitsModel", "held", "(II)V"⟩, 134), (⟨"LevelUnitsModel", "fail", "(I)V"⟩, 134), (⟨"LevelUnitsModel", "isOf", "(II)Z"⟩, 134), (⟨"LevelUnitsModel", "ready", "()I"⟩, 134), (⟨"LevelUnitsModel", "isReady", "(I)Z"⟩, 134), (⟨"LevelUnitsModel", "step", "()V"⟩, 134), (⟨"LevelUnitsModel", "nextStatement", "()V"⟩, 134), (⟨"LevelUnitsModel", "locked", "(II)V"⟩, 134), (⟨"LevelUnitsModel", "does", "(I)V"⟩, 134), (⟨"LevelUnitsModel", "assign", "(I)V"⟩, 134), (⟨"LevelUnitsModel", "place", "(I)I"⟩, 134), (⟨"LevelUnitsModel", "behind", "(III)I"⟩, 134), (⟨"LevelUnitsModel", "eval", "(I)I"⟩, 134), (⟨"LevelUnitsModel", "create", "(I)I"⟩, 134), (⟨"LevelUnitsModel", "clearObject", "(II)V"⟩, 134), (⟨"LevelUnitsModel", "clearFields", "(II)I"⟩, 134)]
theorem lw_r23 : ∀ q ∈ lw_privs_23, lw_okq q := List.forall_mem_cons.mpr ⟨lw_p352, List.forall_mem_cons.mpr ⟨lw_p353, List.forall_mem_cons.mpr ⟨lw_p354, List.forall_mem_cons.mpr ⟨lw_p355, List.forall_mem_cons.mpr ⟨lw_p356, List.forall_mem_cons.mpr ⟨lw_p357, List.forall_mem_cons.mpr ⟨lw_p358, List.forall_mem_cons.mpr ⟨lw_p359, List.forall_mem_cons.mpr ⟨lw_p360, List.forall_mem_cons.mpr ⟨lw_p361, List.forall_mem_cons.mpr ⟨lw_p362, List.forall_mem_cons.mpr ⟨lw_p363, List.forall_mem_cons.mpr ⟨lw_p364, List.forall_mem_cons.mpr ⟨lw_p365, List.forall_mem_cons.mpr ⟨lw_p366, List.forall_mem_cons.mpr ⟨lw_p367, fun _ h => absurd h List.not_mem_nil⟩⟩⟩⟩⟩⟩⟩⟩⟩⟩⟩⟩⟩⟩⟩⟩
theorem lw_p368 : lw_okq (⟨"LevelUnitsModel", "reckon", "(III)I"⟩, 134) := ⟨⟨by decide +kernel, by decide +kernel⟩, List.mem_of_getElem? (i := 2263) (by decide +kernel), List.mem_of_getElem? (i := 3543) (by decide +kernel), List.mem_of_getElem? (i := 3544) (by decide +kernel)⟩
theorem lw_p369 : lw_okq (⟨"LevelUnitsModel", "isWide", "(I)Z"⟩, 134) := ⟨⟨by decide +kernel, by decide +kernel⟩, List.mem_of_getElem? (i := 2263) (by decide +kernel), List.mem_of_getElem? (i := 3553) (by decide +kernel), List.mem_of_getElem? (i := 3554) (by decide +kernel)⟩
theorem lw_p370 : lw_okq (⟨"LevelUnitsModel", "begins", "(I)V"⟩, 134) := ⟨⟨by decide +kernel, by decide +kernel⟩, List.mem_of_getElem? (i := 2263) (by decide +kernel), List.mem_of_getElem? (i := 3558) (by decide +kernel), List.mem_of_getElem? (i := 3559) (by decide +kernel)⟩
theorem lw_p371 : lw_okq (⟨"LevelUnitsModel", "methodPlace", "(II)I"⟩, 134) := ⟨⟨by decide +kernel, by decide +kernel⟩, List.mem_of_getElem? (i := 2263) (by decide +kernel), List.mem_of_getElem? (i := 3562) (by decide +kernel), List.mem_of_getElem? (i := 3563) (by decide +kernel)⟩
theorem lw_p372 : lw_okq (⟨"LevelUnitsModel", "methodOf", "(III)I"⟩, 134) := ⟨⟨by decide +kernel, by decide +kernel⟩, List.mem_of_getElem? (i := 2263) (by decide +kernel), List.mem_of_getElem? (i := 3566) (by decide +kernel), List.mem_of_getElem? (i := 3567) (by decide +kernel)⟩
theorem lw_p373 : lw_okq (⟨"LevelUnitsModel", "parameter", "(II)I"⟩, 134) := ⟨⟨by decide +kernel, by decide +kernel⟩, List.mem_of_getElem? (i := 2263) (by decide +kernel), List.mem_of_getElem? (i := 3570) (by decide +kernel), List.mem_of_getElem? (i := 3571) (by decide +kernel)⟩
theorem lw_p374 : lw_okq (⟨"LevelUnitsModel", "fork", "(III)V"⟩, 134) := ⟨⟨by decide +kernel, by decide +kernel⟩, List.mem_of_getElem? (i := 2263) (by decide +kernel), List.mem_of_getElem? (i := 3574) (by decide +kernel), List.mem_of_getElem? (i := 3575) (by decide +kernel)⟩
theorem lw_p375 : lw_okq (⟨"LevelUnitsModel", "makeRoom", "()V"⟩, 134) := ⟨⟨by decide +kernel, by decide +kernel⟩, List.mem_of_getElem? (i := 2263) (by decide +kernel), List.mem_of_getElem? (i := 3578) (by decide +kernel), List.mem_of_getElem? (i := 3579) (by decide +kernel)⟩
theorem lw_p376 : lw_okq (⟨"LevelUnitsModel", "frame", "(I)V"⟩, 134) := ⟨⟨by decide +kernel, by decide +kernel⟩, List.mem_of_getElem? (i := 2263) (by decide +kernel), List.mem_of_getElem? (i := 3582) (by decide +kernel), List.mem_of_getElem? (i := 3583) (by decide +kernel)⟩
theorem lw_p377 : lw_okq (⟨"LevelUnitsModel", "enter", "(III)V"⟩, 134) := ⟨⟨by decide +kernel, by decide +kernel⟩, List.mem_of_getElem? (i := 2263) (by decide +kernel), List.mem_of_getElem? (i := 3586) (by decide +kernel), List.mem_of_getElem? (i := 3587) (by decide +kernel)⟩
theorem lw_p378 : lw_okq (⟨"LevelUnitsModel", "procedureOfCall", "()I"⟩, 134) := ⟨⟨by decide +kernel, by decide +kernel⟩, List.mem_of_getElem? (i := 2263) (by decide +kernel), List.mem_of_getElem? (i := 3590) (by decide +kernel), List.mem_of_getElem? (i := 3591) (by decide +kernel)⟩
theorem lw_p379 : lw_okq (⟨"LevelUnitsModel", "meets", "(I)V"⟩, 134) := ⟨⟨by decide +kernel, by decide +kernel⟩, List.mem_of_getElem? (i := 2263) (by decide +kernel), List.mem_of_getElem? (i := 3594) (by decide +kernel), List.mem_of_getElem? (i := 3595) (by decide +kernel)⟩
theorem lw_p380 : lw_okq (⟨"LevelUnitsModel", "there", "(I)I"⟩, 134) := ⟨⟨by decide +kernel, by decide +kernel⟩, List.mem_of_getElem? (i := 2263) (by decide +kernel), List.mem_of_getElem? (i := 3598) (by decide +kernel), List.mem_of_getElem? (i := 3599) (by decide +kernel)⟩
theorem lw_p381 : lw_okq (⟨"LevelUnitsModel", "waits", "(III)V"⟩, 134) := ⟨⟨by decide +kernel, by decide +kernel⟩, List.mem_of_getElem? (i := 2263) (by decide +kernel), List.mem_of_getElem? (i := 3602) (by decide +kernel), List.mem_of_getElem? (i := 3603) (by decide +kernel)⟩
theorem lw_p382 : lw_okq (⟨"LevelUnitsModel", "signal", "(IZ)V"⟩, 134) := ⟨⟨by decide +kernel, by decide +kernel⟩, List.mem_of_getElem? (i := 2263) (by decide +kernel), List.mem_of_getElem? (i := 3606) (by decide +kernel), List.mem_of_getElem? (i := 3607) (by decide +kernel)⟩
theorem lw_p383 : lw_okq (⟨"LevelUnitsModel", "typecaseStep", "(I)V"⟩, 134) := ⟨⟨by decide +kernel, by decide +kernel⟩, List.mem_of_getElem? (i := 2263) (by decide +kernel), List.mem_of_getElem? (i := 3610) (by decide +kernel), List.mem_of_getElem? (i := 3611) (by decide +kernel)⟩
def lw_privs_24 : List (MethodName × Nat) := [(⟨"LevelUnitsModel", "reckon", "(III)I"⟩, 134), (⟨"LevelUnitsModel", "isWide", "(I)Z"⟩, 134), (⟨"LevelUnitsModel", "begins", "(I)V"⟩, 134), (⟨"LevelUnitsModel", "methodPlace", "(II)I"⟩, 134), (⟨"LevelUnitsModel", "methodOf", "(III)I"⟩, 134), (⟨"LevelUnitsModel", "parameter", "(II)I"⟩, 134), (⟨"LevelUnitsModel", "fork", "(III)V"⟩, 134), (⟨"LevelUnitsModel", "makeRoom", "()V"⟩, 134), (⟨"LevelUnitsModel", "frame", "(I)V"⟩, 134), (⟨"LevelUnitsModel", "enter", "(III)V"⟩, 134), (⟨"LevelUnitsModel", "procedureOfCall", "()I"⟩, 134), (⟨"LevelUnitsModel", "meets", "(I)V"⟩, 134), (⟨"LevelUnitsModel", "there", "(I)I"⟩, 134), (⟨"LevelUnitsModel", "waits", "(III)V"⟩, 134), (⟨"LevelUnitsModel", "signal", "(IZ)V"⟩, 134), (⟨"LevelUnitsModel", "typecaseStep", "(I)V"⟩, 134)]
theorem lw_r24 : ∀ q ∈ lw_privs_24, lw_okq q := List.forall_mem_cons.mpr ⟨lw_p368, List.forall_mem_cons.mpr ⟨lw_p369, List.forall_mem_cons.mpr ⟨lw_p370, List.forall_mem_cons.mpr ⟨lw_p371, List.forall_mem_cons.mpr ⟨lw_p372, List.forall_mem_cons.mpr ⟨lw_p373, List.forall_mem_cons.mpr ⟨lw_p374, List.forall_mem_cons.mpr ⟨lw_p375, List.forall_mem_cons.mpr ⟨lw_p376, List.forall_mem_cons.mpr ⟨lw_p377, List.forall_mem_cons.mpr ⟨lw_p378, List.forall_mem_cons.mpr ⟨lw_p379, List.forall_mem_cons.mpr ⟨lw_p380, List.forall_mem_cons.mpr ⟨lw_p381, List.forall_mem_cons.mpr ⟨lw_p382, List.forall_mem_cons.mpr ⟨lw_p383, fun _ h => absurd h List.not_mem_nil⟩⟩⟩⟩⟩⟩⟩⟩⟩⟩⟩⟩⟩⟩⟩⟩
theorem lw_p384 : lw_okq (⟨"LevelUnitsModel", "again", "(II)V"⟩, 134) := ⟨⟨by decide +kernel, by decide +kernel⟩, List.mem_of_getElem? (i := 2263) (by decide +kernel), List.mem_of_getElem? (i := 3614) (by decide +kernel), List.mem_of_getElem? (i := 3615) (by decide +kernel)⟩
theorem lw_p385 : lw_okq (⟨"LevelUnitsModel", "counted", "(I)I"⟩, 134) := ⟨⟨by decide +kernel, by decide +kernel⟩, List.mem_of_getElem? (i := 2263) (by decide +kernel), List.mem_of_getElem? (i := 3622) (by decide +kernel), List.mem_of_getElem? (i := 3623) (by decide +kernel)⟩
def lw_privs_25 : List (MethodName × Nat) := [(⟨"LevelUnitsModel", "again", "(II)V"⟩, 134), (⟨"LevelUnitsModel", "counted", "(I)I"⟩, 134)]
theorem lw_r25 : ∀ q ∈ lw_privs_25, lw_okq q := List.forall_mem_cons.mpr ⟨lw_p384, List.forall_mem_cons.mpr ⟨lw_p385, fun _ h => absurd h List.not_mem_nil⟩⟩
def lw_privs : List (MethodName × Nat) := lw_privs_1 ++ (lw_privs_2 ++ (lw_privs_3 ++ (lw_privs_4 ++ (lw_privs_5 ++ (lw_privs_6 ++ (lw_privs_7 ++ (lw_privs_8 ++ (lw_privs_9 ++ (lw_privs_10 ++ (lw_privs_11 ++ (lw_privs_12 ++ (lw_privs_13 ++ (lw_privs_14 ++ (lw_privs_15 ++ (lw_privs_16 ++ (lw_privs_17 ++ (lw_privs_18 ++ (lw_privs_19 ++ (lw_privs_20 ++ (lw_privs_21 ++ (lw_privs_22 ++ (lw_privs_23 ++ (lw_privs_24 ++ (lw_privs_25))))))))))))))))))))))))
def lw_tbl : List Cond := k2_sels lw_privs ++ tables_1
theorem lw_privs_ok : ∀ q ∈ lw_privs, lw_okq q := by
  show ∀ q ∈ lw_privs_1 ++ (lw_privs_2 ++ (lw_privs_3 ++ (lw_privs_4 ++ (lw_privs_5 ++ (lw_privs_6 ++ (lw_privs_7 ++ (lw_privs_8 ++ (lw_privs_9 ++ (lw_privs_10 ++ (lw_privs_11 ++ (lw_privs_12 ++ (lw_privs_13 ++ (lw_privs_14 ++ (lw_privs_15 ++ (lw_privs_16 ++ (lw_privs_17 ++ (lw_privs_18 ++ (lw_privs_19 ++ (lw_privs_20 ++ (lw_privs_21 ++ (lw_privs_22 ++ (lw_privs_23 ++ (lw_privs_24 ++ (lw_privs_25)))))))))))))))))))))))), lw_okq q
  exact List.forall_mem_append.mpr ⟨lw_r1, List.forall_mem_append.mpr ⟨lw_r2, List.forall_mem_append.mpr ⟨lw_r3, List.forall_mem_append.mpr ⟨lw_r4, List.forall_mem_append.mpr ⟨lw_r5, List.forall_mem_append.mpr ⟨lw_r6, List.forall_mem_append.mpr ⟨lw_r7, List.forall_mem_append.mpr ⟨lw_r8, List.forall_mem_append.mpr ⟨lw_r9, List.forall_mem_append.mpr ⟨lw_r10, List.forall_mem_append.mpr ⟨lw_r11, List.forall_mem_append.mpr ⟨lw_r12, List.forall_mem_append.mpr ⟨lw_r13, List.forall_mem_append.mpr ⟨lw_r14, List.forall_mem_append.mpr ⟨lw_r15, List.forall_mem_append.mpr ⟨lw_r16, List.forall_mem_append.mpr ⟨lw_r17, List.forall_mem_append.mpr ⟨lw_r18, List.forall_mem_append.mpr ⟨lw_r19, List.forall_mem_append.mpr ⟨lw_r20, List.forall_mem_append.mpr ⟨lw_r21, List.forall_mem_append.mpr ⟨lw_r22, List.forall_mem_append.mpr ⟨lw_r23, List.forall_mem_append.mpr ⟨lw_r24, lw_r25⟩⟩⟩⟩⟩⟩⟩⟩⟩⟩⟩⟩⟩⟩⟩⟩⟩⟩⟩⟩⟩⟩⟩⟩
end
section
/-! ===== BEGIN words of one list among another's, by their places ===== -/
theorem goodIn_r {big : List Cond} (ws : List Cond) (ps : List Nat) (hp : ws = ps.filterMap (fun i => big[i]?)) (h : ws.all goodWord = true) : GoodIn big ws := by
  intro w hw
  have h1 := List.all_eq_true.mp h w hw
  rw [hp] at hw
  obtain ⟨i, -, hi⟩ := List.mem_filterMap.mp hw
  have hm : w ∈ big := by first | exact List.mem_of_getElem? hi | exact List.getElem?_mem hi
  exact ⟨hm, good_of_word h1⟩
theorem goodIn_app {big a b : List Cond} (ha : GoodIn big a) (hb : GoodIn big b) : GoodIn big (a ++ b) := fun w h => (List.mem_append.mp h).elim (ha w) (hb w)
theorem goodIn_ca {big a b : List Cond} {c : Cond} (ha : GoodIn big (c :: a)) (hb : GoodIn big b) : GoodIn big (c :: (a ++ b)) := fun w h => (List.mem_cons.mp h).elim (fun e => ha w (List.mem_cons.mpr (Or.inl e))) (fun h => (List.mem_append.mp h).elim (fun h => ha w (List.mem_cons.mpr (Or.inr h))) (hb w))
theorem goodIn_sub {big ws : List Cond} (hm : ∀ w ∈ ws, w ∈ big) (h : ws.all goodWord = true) : GoodIn big ws := fun w hw => ⟨hm w hw, good_of_word (List.all_eq_true.mp h w hw)⟩
/-! ===== END ===== -/

/-- n fields, as a function tells them -/
def fl (n : Nat) (F : Nat → Value) : List Value := (List.range n).map F
def fu (F : Nat → Value) (k : Nat) (v : Value) : Nat → Value := fun j => if j = k then v else F j
theorem fl_len {n : Nat} {F : Nat → Value} : (fl n F).length = n := by simp [fl]
theorem fl_lt {n k : Nat} {F : Nat → Value} (h : k < n) : k < (fl n F).length := by rw [fl_len]; exact h
theorem fl_get {n k : Nat} {F : Nat → Value} {v : Value} (h : k < n) (e : F k = v) : (fl n F)[k]? = some v := by
  rw [← e]; simp [fl, h]
theorem fl_set {n k : Nat} {F : Nat → Value} {v : Value} (h : k < n) : (fl n F).set k v = fl n (fu F k v) := by
  apply List.ext_getElem?
  intro i
  by_cases hi : i < n
  · by_cases hik : k = i
    · subst hik; rw [List.getElem?_set_self (by simpa [fl] using hi)]; simp [fl, fu, hi]
    · rw [List.getElem?_set_ne hik]; simp [fl, fu, hi, Ne.symm hik]
  · rw [List.getElem?_eq_none (by simp [fl]; omega), List.getElem?_eq_none (by simp [fl]; omega)]
theorem fu_eq {F G : Nat → Value} {k : Nat} {v : Value} (e : G = fu F k v) : G k = v := by rw [e]; simp [fu]
theorem fu_ne {F G : Nat → Value} {k j : Nat} {v w : Value} (e : G = fu F k v) (h : j ≠ k) (hj : F j = w) : G j = w := by rw [e]; simp [fu, h, hj]
def RX0 : String := "LevelUnits$Checker"
def TX0 : u_T := fun k => match k with
  | 0 => ("LevelUnits$Checker", "types", "LLevelUnits$Types;", true)
  | 1 => ("LevelUnits$Checker", "unit", "LLevelUnits$Decl;", false)
  | 2 => ("LevelUnits$Checker", "stack", "[LLevelUnits$Node;", true)
  | 3 => ("LevelUnits$Checker", "top", "I", false)
  | 4 => ("LevelUnits$Checker", "line", "I", false)
  | 5 => ("LevelUnits$Checker", "method", "LLevelUnits$Decl;", false)
  | _ => ("LevelUnits$Checker", "found", "I", false)
def tyX0 : Nat → FieldType := fun k => match k with
  | 0 => .object "LevelUnits$Types"
  | 1 => .object "LevelUnits$Decl"
  | 2 => .array (.object "LevelUnits$Node")
  | 3 => .int
  | 4 => .int
  | 5 => .object "LevelUnits$Decl"
  | _ => .int
abbrev wsX00 : List Cond := u_ws RX0 TX0 7
theorem nmX0 : ∀ a, a < 7 → ∀ b, b < 7 → a ≠ b → (TX0 a).2.1 ≠ (TX0 b).2.1 := by decide +kernel
theorem tyX0_ok : ∀ k, k < 7 → parseFieldDescriptor (TX0 k).2.2.1 = some (tyX0 k) := by decide +kernel
def RX1 : String := "LevelUnits$Decl"
def TX1 : u_T := fun k => match k with
  | 0 => ("LevelUnits$Decl", "kind", "I", false)
  | 1 => ("LevelUnits$Decl", "name", "I", true)
  | 2 => ("LevelUnits$Decl", "line", "I", true)
  | 3 => ("LevelUnits$Decl", "nameLine", "I", true)
  | 4 => ("LevelUnits$Decl", "unit", "LLevelUnits$Decl;", false)
  | 5 => ("LevelUnits$Decl", "next", "LLevelUnits$Decl;", false)
  | 6 => ("LevelUnits$Decl", "type", "LLevelUnits$Node;", false)
  | 7 => ("LevelUnits$Decl", "bound", "LLevelUnits$Node;", false)
  | 8 => ("LevelUnits$Decl", "use", "LLevelUnits$Op;", false)
  | 9 => ("LevelUnits$Decl", "number", "I", false)
  | 10 => ("LevelUnits$Decl", "offset", "I", false)
  | 11 => ("LevelUnits$Decl", "first", "LLevelUnits$Decl;", false)
  | 12 => ("LevelUnits$Decl", "body", "LLevelUnits$Stat;", false)
  | 13 => ("LevelUnits$Decl", "endLine", "I", false)
  | 14 => ("LevelUnits$Decl", "other", "LLevelUnits$Decl;", false)
  | 15 => ("LevelUnits$Decl", "reveal", "LLevelUnits$Decl;", false)
  | 16 => ("LevelUnits$Decl", "mask", "I", false)
  | 17 => ("LevelUnits$Decl", "cells", "I", false)
  | _ => ("LevelUnits$Decl", "held", "LLevelUnits$Node;", false)
def tyX1 : Nat → FieldType := fun k => match k with
  | 0 => .int
  | 1 => .int
  | 2 => .int
  | 3 => .int
  | 4 => .object "LevelUnits$Decl"
  | 5 => .object "LevelUnits$Decl"
  | 6 => .object "LevelUnits$Node"
  | 7 => .object "LevelUnits$Node"
  | 8 => .object "LevelUnits$Op"
  | 9 => .int
  | 10 => .int
  | 11 => .object "LevelUnits$Decl"
  | 12 => .object "LevelUnits$Stat"
  | 13 => .int
  | 14 => .object "LevelUnits$Decl"
  | 15 => .object "LevelUnits$Decl"
  | 16 => .int
  | 17 => .int
  | _ => .object "LevelUnits$Node"
abbrev wsX10 : List Cond := u_ws RX1 TX1 19
theorem nmX1 : ∀ a, a < 19 → ∀ b, b < 19 → a ≠ b → (TX1 a).2.1 ≠ (TX1 b).2.1 := by decide +kernel
theorem tyX1_ok : ∀ k, k < 19 → parseFieldDescriptor (TX1 k).2.2.1 = some (tyX1 k) := by decide +kernel
def RX2 : String := "LevelUnits$Machine"
def TX2 : u_T := fun k => match k with
  | 0 => ("LevelUnits$Machine", "types", "LLevelUnits$Types;", false)
  | 1 => ("LevelUnits$Machine", "globals", "[I", true)
  | 2 => ("LevelUnits$Machine", "heap", "[I", true)
  | 3 => ("LevelUnits$Machine", "starts", "[I", true)
  | 4 => ("LevelUnits$Machine", "kinds", "[LLevelUnits$Node;", true)
  | 5 => ("LevelUnits$Machine", "holders", "[I", true)
  | 6 => ("LevelUnits$Machine", "things", "I", false)
  | 7 => ("LevelUnits$Machine", "strands", "[LLevelUnits$Strand;", true)
  | 8 => ("LevelUnits$Machine", "made", "I", false)
  | 9 => ("LevelUnits$Machine", "seed", "I", false)
  | 10 => ("LevelUnits$Machine", "steps", "I", false)
  | 11 => ("LevelUnits$Machine", "numbers", "[I", true)
  | 12 => ("LevelUnits$Machine", "outputs", "I", false)
  | 13 => ("LevelUnits$Machine", "values", "[I", true)
  | 14 => ("LevelUnits$Machine", "top", "I", false)
  | 15 => ("LevelUnits$Machine", "passed", "[I", true)
  | 16 => ("LevelUnits$Machine", "forked", "LLevelUnits$Strand;", false)
  | 17 => ("LevelUnits$Machine", "fault", "I", false)
  | _ => ("LevelUnits$Machine", "faultLine", "I", false)
def tyX2 : Nat → FieldType := fun k => match k with
  | 0 => .object "LevelUnits$Types"
  | 1 => .array .int
  | 2 => .array .int
  | 3 => .array .int
  | 4 => .array (.object "LevelUnits$Node")
  | 5 => .array .int
  | 6 => .int
  | 7 => .array (.object "LevelUnits$Strand")
  | 8 => .int
  | 9 => .int
  | 10 => .int
  | 11 => .array .int
  | 12 => .int
  | 13 => .array .int
  | 14 => .int
  | 15 => .array .int
  | 16 => .object "LevelUnits$Strand"
  | 17 => .int
  | _ => .int
abbrev wsX20 : List Cond := u_ws RX2 TX2 19
theorem nmX2 : ∀ a, a < 19 → ∀ b, b < 19 → a ≠ b → (TX2 a).2.1 ≠ (TX2 b).2.1 := by decide +kernel
theorem tyX2_ok : ∀ k, k < 19 → parseFieldDescriptor (TX2 k).2.2.1 = some (tyX2 k) := by decide +kernel
abbrev cX2_init : ByteArray := prog_4_method_1_code
def yX2_init : MethodName := ⟨RX2, "<init>", "()V"⟩
def RX3 : String := "LevelUnits$Names"
def TX3 : u_T := fun k => match k with
  | 0 => ("LevelUnits$Names", "text", "LLevelUnits$Parser;", true)
  | _ => ("LevelUnits$Names", "found", "I", false)
def tyX3 : Nat → FieldType := fun k => match k with
  | 0 => .object "LevelUnits$Parser"
  | _ => .int
abbrev wsX30 : List Cond := u_ws RX3 TX3 2
theorem nmX3 : ∀ a, a < 2 → ∀ b, b < 2 → a ≠ b → (TX3 a).2.1 ≠ (TX3 b).2.1 := by decide +kernel
theorem tyX3_ok : ∀ k, k < 2 → parseFieldDescriptor (TX3 k).2.2.1 = some (tyX3 k) := by decide +kernel
def RX4 : String := "LevelUnits$Node"
def TX4 : u_T := fun k => match k with
  | 0 => ("LevelUnits$Node", "kind", "I", true)
  | 1 => ("LevelUnits$Node", "index", "I", true)
  | 2 => ("LevelUnits$Node", "line", "I", true)
  | 3 => ("LevelUnits$Node", "unit", "LLevelUnits$Decl;", true)
  | 4 => ("LevelUnits$Node", "lo", "I", false)
  | 5 => ("LevelUnits$Node", "hi", "I", false)
  | 6 => ("LevelUnits$Node", "elem", "LLevelUnits$Node;", false)
  | 7 => ("LevelUnits$Node", "items", "LLevelUnits$Decl;", false)
  | 8 => ("LevelUnits$Node", "raises", "LLevelUnits$Op;", false)
  | 9 => ("LevelUnits$Node", "use", "LLevelUnits$Op;", false)
  | 10 => ("LevelUnits$Node", "own", "LLevelUnits$Decl;", false)
  | 11 => ("LevelUnits$Node", "real", "LLevelUnits$Node;", false)
  | 12 => ("LevelUnits$Node", "up", "LLevelUnits$Node;", false)
  | 13 => ("LevelUnits$Node", "views", "[LLevelUnits$Node;", false)
  | 14 => ("LevelUnits$Node", "shape", "I", false)
  | 15 => ("LevelUnits$Node", "cells", "I", false)
  | 16 => ("LevelUnits$Node", "firsts", "[I", false)
  | 17 => ("LevelUnits$Node", "size", "I", false)
  | 18 => ("LevelUnits$Node", "next", "LLevelUnits$Node;", false)
  | _ => ("LevelUnits$Node", "nextHeld", "LLevelUnits$Node;", false)
def tyX4 : Nat → FieldType := fun k => match k with
  | 0 => .int
  | 1 => .int
  | 2 => .int
  | 3 => .object "LevelUnits$Decl"
  | 4 => .int
  | 5 => .int
  | 6 => .object "LevelUnits$Node"
  | 7 => .object "LevelUnits$Decl"
  | 8 => .object "LevelUnits$Op"
  | 9 => .object "LevelUnits$Op"
  | 10 => .object "LevelUnits$Decl"
  | 11 => .object "LevelUnits$Node"
  | 12 => .object "LevelUnits$Node"
  | 13 => .array (.object "LevelUnits$Node")
  | 14 => .int
  | 15 => .int
  | 16 => .array .int
  | 17 => .int
  | 18 => .object "LevelUnits$Node"
  | _ => .object "LevelUnits$Node"
abbrev wsX40 : List Cond := u_ws RX4 TX4 20
theorem nmX4 : ∀ a, a < 20 → ∀ b, b < 20 → a ≠ b → (TX4 a).2.1 ≠ (TX4 b).2.1 := by decide +kernel
theorem tyX4_ok : ∀ k, k < 20 → parseFieldDescriptor (TX4 k).2.2.1 = some (tyX4 k) := by decide +kernel
def RX5 : String := "LevelUnits$Op"
def TX5 : u_T := fun k => match k with
  | 0 => ("LevelUnits$Op", "kind", "I", false)
  | 1 => ("LevelUnits$Op", "name", "I", true)
  | 2 => ("LevelUnits$Op", "unitName", "I", true)
  | 3 => ("LevelUnits$Op", "line", "I", true)
  | 4 => ("LevelUnits$Op", "type", "LLevelUnits$Node;", false)
  | 5 => ("LevelUnits$Op", "decl", "LLevelUnits$Decl;", false)
  | 6 => ("LevelUnits$Op", "sub", "LLevelUnits$Op;", false)
  | _ => ("LevelUnits$Op", "next", "LLevelUnits$Op;", false)
def tyX5 : Nat → FieldType := fun k => match k with
  | 0 => .int
  | 1 => .int
  | 2 => .int
  | 3 => .int
  | 4 => .object "LevelUnits$Node"
  | 5 => .object "LevelUnits$Decl"
  | 6 => .object "LevelUnits$Op"
  | _ => .object "LevelUnits$Op"
abbrev wsX50 : List Cond := u_ws RX5 TX5 8
theorem nmX5 : ∀ a, a < 8 → ∀ b, b < 8 → a ≠ b → (TX5 a).2.1 ≠ (TX5 b).2.1 := by decide +kernel
theorem tyX5_ok : ∀ k, k < 8 → parseFieldDescriptor (TX5 k).2.2.1 = some (tyX5 k) := by decide +kernel
def RX6 : String := "LevelUnits$Parser"
def TX6 : u_T := fun k => match k with
  | 0 => ("LevelUnits$Parser", "in", "LLevelUnits$Scanner;", true)
  | 1 => ("LevelUnits$Parser", "at", "I", false)
  | 2 => ("LevelUnits$Parser", "kind", "I", false)
  | 3 => ("LevelUnits$Parser", "fault", "I", false)
  | 4 => ("LevelUnits$Parser", "open", "[I", true)
  | 5 => ("LevelUnits$Parser", "waiting", "[I", true)
  | 6 => ("LevelUnits$Parser", "waitingTop", "I", false)
  | 7 => ("LevelUnits$Parser", "unit", "LLevelUnits$Decl;", false)
  | 8 => ("LevelUnits$Parser", "body", "LLevelUnits$Decl;", false)
  | 9 => ("LevelUnits$Parser", "holder", "LLevelUnits$Decl;", false)
  | 10 => ("LevelUnits$Parser", "line", "I", false)
  | 11 => ("LevelUnits$Parser", "tail", "LLevelUnits$Op;", false)
  | 12 => ("LevelUnits$Parser", "lastTold", "LLevelUnits$Decl;", false)
  | 13 => ("LevelUnits$Parser", "lastNode", "LLevelUnits$Node;", false)
  | 14 => ("LevelUnits$Parser", "lastStat", "LLevelUnits$Stat;", false)
  | 15 => ("LevelUnits$Parser", "units", "LLevelUnits$Decl;", false)
  | 16 => ("LevelUnits$Parser", "stats", "LLevelUnits$Stat;", false)
  | 17 => ("LevelUnits$Parser", "root", "LLevelUnits$Node;", true)
  | 18 => ("LevelUnits$Parser", "integer", "LLevelUnits$Node;", true)
  | _ => ("LevelUnits$Parser", "bool", "LLevelUnits$Node;", true)
def tyX6 : Nat → FieldType := fun k => match k with
  | 0 => .object "LevelUnits$Scanner"
  | 1 => .int
  | 2 => .int
  | 3 => .int
  | 4 => .array .int
  | 5 => .array .int
  | 6 => .int
  | 7 => .object "LevelUnits$Decl"
  | 8 => .object "LevelUnits$Decl"
  | 9 => .object "LevelUnits$Decl"
  | 10 => .int
  | 11 => .object "LevelUnits$Op"
  | 12 => .object "LevelUnits$Decl"
  | 13 => .object "LevelUnits$Node"
  | 14 => .object "LevelUnits$Stat"
  | 15 => .object "LevelUnits$Decl"
  | 16 => .object "LevelUnits$Stat"
  | 17 => .object "LevelUnits$Node"
  | 18 => .object "LevelUnits$Node"
  | _ => .object "LevelUnits$Node"
abbrev wsX60 : List Cond := u_ws RX6 TX6 20
theorem nmX6 : ∀ a, a < 20 → ∀ b, b < 20 → a ≠ b → (TX6 a).2.1 ≠ (TX6 b).2.1 := by decide +kernel
theorem tyX6_ok : ∀ k, k < 20 → parseFieldDescriptor (TX6 k).2.2.1 = some (tyX6 k) := by decide +kernel
def RX7 : String := "LevelUnits$Scanner"
def TX7 : u_T := fun k => match k with
  | 0 => ("LevelUnits$Scanner", "kinds", "[I", true)
  | 1 => ("LevelUnits$Scanner", "values", "[I", true)
  | 2 => ("LevelUnits$Scanner", "lines", "[I", true)
  | 3 => ("LevelUnits$Scanner", "tokens", "I", false)
  | 4 => ("LevelUnits$Scanner", "text", "[B", false)
  | 5 => ("LevelUnits$Scanner", "size", "I", false)
  | 6 => ("LevelUnits$Scanner", "at", "I", false)
  | 7 => ("LevelUnits$Scanner", "line", "I", false)
  | 8 => ("LevelUnits$Scanner", "heads", "[I", true)
  | 9 => ("LevelUnits$Scanner", "chains", "[I", true)
  | 10 => ("LevelUnits$Scanner", "starts", "[I", true)
  | 11 => ("LevelUnits$Scanner", "sizes", "[I", true)
  | _ => ("LevelUnits$Scanner", "names", "I", false)
def tyX7 : Nat → FieldType := fun k => match k with
  | 0 => .array .int
  | 1 => .array .int
  | 2 => .array .int
  | 3 => .int
  | 4 => .array .byte
  | 5 => .int
  | 6 => .int
  | 7 => .int
  | 8 => .array .int
  | 9 => .array .int
  | 10 => .array .int
  | 11 => .array .int
  | _ => .int
abbrev wsX70 : List Cond := u_ws RX7 TX7 13
theorem nmX7 : ∀ a, a < 13 → ∀ b, b < 13 → a ≠ b → (TX7 a).2.1 ≠ (TX7 b).2.1 := by decide +kernel
theorem tyX7_ok : ∀ k, k < 13 → parseFieldDescriptor (TX7 k).2.2.1 = some (tyX7 k) := by decide +kernel
abbrev cX7_init : ByteArray := prog_9_method_1_code
def yX7_init : MethodName := ⟨RX7, "<init>", "()V"⟩
def RX8 : String := "LevelUnits$Stat"
def TX8 : u_T := fun k => match k with
  | 0 => ("LevelUnits$Stat", "kind", "I", false)
  | 1 => ("LevelUnits$Stat", "line", "I", true)
  | 2 => ("LevelUnits$Stat", "home", "LLevelUnits$Stat;", true)
  | 3 => ("LevelUnits$Stat", "decl", "LLevelUnits$Decl;", true)
  | 4 => ("LevelUnits$Stat", "next", "LLevelUnits$Stat;", false)
  | 5 => ("LevelUnits$Stat", "nextOfAll", "LLevelUnits$Stat;", false)
  | 6 => ("LevelUnits$Stat", "parts", "LLevelUnits$Stat;", false)
  | 7 => ("LevelUnits$Stat", "place", "LLevelUnits$Op;", false)
  | 8 => ("LevelUnits$Stat", "first", "LLevelUnits$Op;", false)
  | 9 => ("LevelUnits$Stat", "second", "LLevelUnits$Op;", false)
  | 10 => ("LevelUnits$Stat", "parameters", "LLevelUnits$Op;", false)
  | 11 => ("LevelUnits$Stat", "use", "LLevelUnits$Op;", false)
  | 12 => ("LevelUnits$Stat", "name", "LLevelUnits$Decl;", false)
  | 13 => ("LevelUnits$Stat", "type", "LLevelUnits$Node;", false)
  | _ => ("LevelUnits$Stat", "level", "I", false)
def tyX8 : Nat → FieldType := fun k => match k with
  | 0 => .int
  | 1 => .int
  | 2 => .object "LevelUnits$Stat"
  | 3 => .object "LevelUnits$Decl"
  | 4 => .object "LevelUnits$Stat"
  | 5 => .object "LevelUnits$Stat"
  | 6 => .object "LevelUnits$Stat"
  | 7 => .object "LevelUnits$Op"
  | 8 => .object "LevelUnits$Op"
  | 9 => .object "LevelUnits$Op"
  | 10 => .object "LevelUnits$Op"
  | 11 => .object "LevelUnits$Op"
  | 12 => .object "LevelUnits$Decl"
  | 13 => .object "LevelUnits$Node"
  | _ => .int
abbrev wsX80 : List Cond := u_ws RX8 TX8 15
theorem nmX8 : ∀ a, a < 15 → ∀ b, b < 15 → a ≠ b → (TX8 a).2.1 ≠ (TX8 b).2.1 := by decide +kernel
theorem tyX8_ok : ∀ k, k < 15 → parseFieldDescriptor (TX8 k).2.2.1 = some (tyX8 k) := by decide +kernel
def RX9 : String := "LevelUnits$Strand"
def TX9 : u_T := fun k => match k with
  | 0 => ("LevelUnits$Strand", "number", "I", true)
  | 1 => ("LevelUnits$Strand", "state", "I", false)
  | 2 => ("LevelUnits$Strand", "waitsFor", "I", false)
  | 3 => ("LevelUnits$Strand", "mutex", "I", false)
  | 4 => ("LevelUnits$Strand", "since", "I", false)
  | 5 => ("LevelUnits$Strand", "stat", "LLevelUnits$Stat;", false)
  | 6 => ("LevelUnits$Strand", "again", "Z", false)
  | 7 => ("LevelUnits$Strand", "part", "LLevelUnits$Stat;", false)
  | 8 => ("LevelUnits$Strand", "at", "LLevelUnits$Stat;", false)
  | 9 => ("LevelUnits$Strand", "leaving", "I", false)
  | 10 => ("LevelUnits$Strand", "exception", "I", false)
  | 11 => ("LevelUnits$Strand", "amount", "I", false)
  | 12 => ("LevelUnits$Strand", "faultLine", "I", false)
  | 13 => ("LevelUnits$Strand", "calls", "I", false)
  | 14 => ("LevelUnits$Strand", "cells", "I", false)
  | 15 => ("LevelUnits$Strand", "row", "[I", true)
  | 16 => ("LevelUnits$Strand", "slots", "[I", true)
  | 17 => ("LevelUnits$Strand", "callers", "[LLevelUnits$Stat;", true)
  | 18 => ("LevelUnits$Strand", "targets", "[I", true)
  | _ => ("LevelUnits$Strand", "bases", "[I", true)
def tyX9 : Nat → FieldType := fun k => match k with
  | 0 => .int
  | 1 => .int
  | 2 => .int
  | 3 => .int
  | 4 => .int
  | 5 => .object "LevelUnits$Stat"
  | 6 => .boolean
  | 7 => .object "LevelUnits$Stat"
  | 8 => .object "LevelUnits$Stat"
  | 9 => .int
  | 10 => .int
  | 11 => .int
  | 12 => .int
  | 13 => .int
  | 14 => .int
  | 15 => .array .int
  | 16 => .array .int
  | 17 => .array (.object "LevelUnits$Stat")
  | 18 => .array .int
  | _ => .array .int
abbrev wsX90 : List Cond := u_ws RX9 TX9 20
theorem nmX9 : ∀ a, a < 20 → ∀ b, b < 20 → a ≠ b → (TX9 a).2.1 ≠ (TX9 b).2.1 := by decide +kernel
theorem tyX9_ok : ∀ k, k < 20 → parseFieldDescriptor (TX9 k).2.2.1 = some (tyX9 k) := by decide +kernel
def RX10 : String := "LevelUnits$Types"
def TX10 : u_T := fun k => match k with
  | 0 => ("LevelUnits$Types", "tokens", "I", true)
  | 1 => ("LevelUnits$Types", "unitRow", "[LLevelUnits$Decl;", true)
  | 2 => ("LevelUnits$Types", "typeRow", "[LLevelUnits$Decl;", true)
  | 3 => ("LevelUnits$Types", "procedureRow", "[LLevelUnits$Decl;", true)
  | 4 => ("LevelUnits$Types", "least", "[I", false)
  | 5 => ("LevelUnits$Types", "globalCells", "I", false)
  | 6 => ("LevelUnits$Types", "integer", "LLevelUnits$Node;", true)
  | 7 => ("LevelUnits$Types", "bool", "LLevelUnits$Node;", true)
  | 8 => ("LevelUnits$Types", "nil", "LLevelUnits$Node;", true)
  | 9 => ("LevelUnits$Types", "nodes", "LLevelUnits$Node;", true)
  | 10 => ("LevelUnits$Types", "nodeCount", "I", true)
  | 11 => ("LevelUnits$Types", "seen", "[LLevelUnits$Decl;", true)
  | _ => ("LevelUnits$Types", "found", "I", false)
def tyX10 : Nat → FieldType := fun k => match k with
  | 0 => .int
  | 1 => .array (.object "LevelUnits$Decl")
  | 2 => .array (.object "LevelUnits$Decl")
  | 3 => .array (.object "LevelUnits$Decl")
  | 4 => .array .int
  | 5 => .int
  | 6 => .object "LevelUnits$Node"
  | 7 => .object "LevelUnits$Node"
  | 8 => .object "LevelUnits$Node"
  | 9 => .object "LevelUnits$Node"
  | 10 => .int
  | 11 => .array (.object "LevelUnits$Decl")
  | _ => .int
abbrev wsX100 : List Cond := u_ws RX10 TX10 13
theorem nmX10 : ∀ a, a < 13 → ∀ b, b < 13 → a ≠ b → (TX10 a).2.1 ≠ (TX10 b).2.1 := by decide +kernel
theorem tyX10_ok : ∀ k, k < 13 → parseFieldDescriptor (TX10 k).2.2.1 = some (tyX10 k) := by decide +kernel
def RX11 : String := "LevelUnits"
def TX11 : u_T := fun k => match k with
  | 0 => ("LevelUnits", "tape", "[B", true)
  | 1 => ("LevelUnits", "length", "I", false)
  | 2 => ("LevelUnits", "scanner", "LLevelUnits$Scanner;", true)
  | 3 => ("LevelUnits", "machine", "LLevelUnits$Machine;", true)
  | _ => ("LevelUnits", "program", "LLevelUnits$Types;", false)
def tyX11 : Nat → FieldType := fun k => match k with
  | 0 => .array .byte
  | 1 => .int
  | 2 => .object "LevelUnits$Scanner"
  | 3 => .object "LevelUnits$Machine"
  | _ => .object "LevelUnits$Types"
abbrev wsX110 : List Cond := u_ws RX11 TX11 5
theorem nmX11 : ∀ a, a < 5 → ∀ b, b < 5 → a ≠ b → (TX11 a).2.1 ≠ (TX11 b).2.1 := by decide +kernel
theorem tyX11_ok : ∀ k, k < 5 → parseFieldDescriptor (TX11 k).2.2.1 = some (tyX11 k) := by decide +kernel
abbrev cX11_init : ByteArray := prog_1_method_1_code
def yX11_init : MethodName := ⟨RX11, "<init>", "()V"⟩
def RX12 : String := "LevelUnitsModel$Stop"
def TX12 : u_T := fun k => match k with
  | 0 => ("java/lang/Throwable", "cause", "Ljava/lang/Throwable;", false)
  | 1 => ("java/lang/Throwable", "stackTrace", "[Ljava/lang/StackTraceElement;", false)
  | 2 => ("java/lang/Throwable", "suppressedExceptions", "Ljava/util/List;", false)
  | 3 => ("java/lang/Throwable", "detailMessage", "Ljava/lang/String;", false)
  | 4 => ("java/lang/Throwable", "backtrace", "Ljava/lang/Object;", false)
  | _ => ("java/lang/Throwable", "depth", "I", false)
def tyX12 : Nat → FieldType := fun k => match k with
  | 0 => .object "java/lang/Throwable"
  | 1 => .array (.object "java/lang/StackTraceElement")
  | 2 => .object "java/util/List"
  | 3 => .object "java/lang/String"
  | 4 => .object "java/lang/Object"
  | _ => .int
abbrev wsX120 : List Cond := u_ws RX12 TX12 6
theorem nmX12 : ∀ a, a < 6 → ∀ b, b < 6 → a ≠ b → (TX12 a).2.1 ≠ (TX12 b).2.1 := by decide +kernel
theorem tyX12_ok : ∀ k, k < 6 → parseFieldDescriptor (TX12 k).2.2.1 = some (tyX12 k) := by decide +kernel
def RX13 : String := "LevelUnitsModel"
def TX13 : u_T := fun k => match k with
  | 0 => ("LevelUnitsModel", "thrown", "I", false)
  | 1 => ("LevelUnitsModel", "stop", "LLevelUnitsModel$Stop;", true)
  | 2 => ("LevelUnitsModel", "tape", "[B", true)
  | 3 => ("LevelUnitsModel", "taped", "I", false)
  | 4 => ("LevelUnitsModel", "text", "[B", true)
  | 5 => ("LevelUnitsModel", "size", "I", false)
  | 6 => ("LevelUnitsModel", "scan", "I", false)
  | 7 => ("LevelUnitsModel", "row", "I", false)
  | 8 => ("LevelUnitsModel", "tokens", "I", false)
  | 9 => ("LevelUnitsModel", "tSort", "[I", true)
  | 10 => ("LevelUnitsModel", "tValue", "[I", true)
  | 11 => ("LevelUnitsModel", "tLine", "[I", true)
  | 12 => ("LevelUnitsModel", "names", "I", false)
  | 13 => ("LevelUnitsModel", "nameFrom", "[I", true)
  | 14 => ("LevelUnitsModel", "nameSize", "[I", true)
  | 15 => ("LevelUnitsModel", "letters", "[B", true)
  | 16 => ("LevelUnitsModel", "lettered", "I", false)
  | 17 => ("LevelUnitsModel", "fault", "I", false)
  | 18 => ("LevelUnitsModel", "faultLine", "I", false)
  | 19 => ("LevelUnitsModel", "nodes", "I", false)
  | 20 => ("LevelUnitsModel", "nk", "[I", true)
  | 21 => ("LevelUnitsModel", "nl", "[I", true)
  | 22 => ("LevelUnitsModel", "na", "[I", true)
  | 23 => ("LevelUnitsModel", "nb", "[I", true)
  | 24 => ("LevelUnitsModel", "nc", "[I", true)
  | 25 => ("LevelUnitsModel", "nd", "[I", true)
  | 26 => ("LevelUnitsModel", "ne", "[I", true)
  | 27 => ("LevelUnitsModel", "nn", "[I", true)
  | 28 => ("LevelUnitsModel", "ns", "[I", true)
  | 29 => ("LevelUnitsModel", "nu", "[I", true)
  | 30 => ("LevelUnitsModel", "nf", "[I", true)
  | 31 => ("LevelUnitsModel", "nm", "[I", true)
  | 32 => ("LevelUnitsModel", "at", "I", false)
  | 33 => ("LevelUnitsModel", "unit", "I", false)
  | 34 => ("LevelUnitsModel", "told", "I", false)
  | 35 => ("LevelUnitsModel", "head", "I", false)
  | 36 => ("LevelUnitsModel", "last", "I", false)
  | 37 => ("LevelUnitsModel", "brackets", "I", false)
  | 38 => ("LevelUnitsModel", "nots", "I", false)
  | 39 => ("LevelUnitsModel", "typesOpen", "I", false)
  | 40 => ("LevelUnitsModel", "statementsOpen", "I", false)
  | 41 => ("LevelUnitsModel", "units", "I", false)
  | 42 => ("LevelUnitsModel", "unitNode", "[I", true)
  | 43 => ("LevelUnitsModel", "symbols", "I", false)
  | 44 => ("LevelUnitsModel", "yName", "[I", true)
  | 45 => ("LevelUnitsModel", "yKind", "[I", true)
  | 46 => ("LevelUnitsModel", "yNode", "[I", true)
  | 47 => ("LevelUnitsModel", "yWhat", "[I", true)
  | 48 => ("LevelUnitsModel", "yFrom", "[I", true)
  | 49 => ("LevelUnitsModel", "yUntil", "[I", true)
  | 50 => ("LevelUnitsModel", "face", "[I", true)
  | 51 => ("LevelUnitsModel", "isModule", "[Z", true)
  | 52 => ("LevelUnitsModel", "variables", "I", false)
  | 53 => ("LevelUnitsModel", "vKind", "[I", true)
  | 54 => ("LevelUnitsModel", "vType", "[I", true)
  | 55 => ("LevelUnitsModel", "vAt", "[I", true)
  | 56 => ("LevelUnitsModel", "procedures", "I", false)
  | 57 => ("LevelUnitsModel", "pTold", "[I", true)
  | 58 => ("LevelUnitsModel", "pMade", "[I", true)
  | 59 => ("LevelUnitsModel", "exceptions", "I", false)
  | 60 => ("LevelUnitsModel", "typesTold", "I", false)
  | 61 => ("LevelUnitsModel", "typeNode", "[I", true)
  | 62 => ("LevelUnitsModel", "seen", "I", false)
  | 63 => ("LevelUnitsModel", "seenName", "[I", true)
  | 64 => ("LevelUnitsModel", "seenVariable", "[I", true)
  | 65 => ("LevelUnitsModel", "rootType", "I", false)
  | 66 => ("LevelUnitsModel", "joined", "[I", true)
  | 67 => ("LevelUnitsModel", "trail", "I", false)
  | 68 => ("LevelUnitsModel", "trailed", "[I", true)
  | 69 => ("LevelUnitsModel", "pairs", "I", false)
  | 70 => ("LevelUnitsModel", "pairA", "[I", true)
  | 71 => ("LevelUnitsModel", "pairB", "[I", true)
  | 72 => ("LevelUnitsModel", "reveal", "[I", true)
  | 73 => ("LevelUnitsModel", "ownType", "[I", true)
  | 74 => ("LevelUnitsModel", "chained", "I", false)
  | 75 => ("LevelUnitsModel", "chain", "[I", true)
  | 76 => ("LevelUnitsModel", "chainMark", "I", false)
  | 77 => ("LevelUnitsModel", "wayMark", "I", false)
  | 78 => ("LevelUnitsModel", "inChain", "[I", true)
  | 79 => ("LevelUnitsModel", "onWay", "[I", true)
  | 80 => ("LevelUnitsModel", "foundIn", "I", false)
  | 81 => ("LevelUnitsModel", "cellsKnown", "[I", true)
  | 82 => ("LevelUnitsModel", "holdsItself", "[Z", true)
  | 83 => ("LevelUnitsModel", "unitCells", "I", false)
  | 84 => ("LevelUnitsModel", "isMet", "[Z", true)
  | 85 => ("LevelUnitsModel", "integerType", "I", false)
  | 86 => ("LevelUnitsModel", "booleanType", "I", false)
  | 87 => ("LevelUnitsModel", "procedureType", "[I", true)
  | 88 => ("LevelUnitsModel", "et", "[I", true)
  | 89 => ("LevelUnitsModel", "inProcedure", "I", false)
  | 90 => ("LevelUnitsModel", "loops", "I", false)
  | 91 => ("LevelUnitsModel", "method", "I", false)
  | 92 => ("LevelUnitsModel", "methodIn", "I", false)
  | 93 => ("LevelUnitsModel", "tries", "I", false)
  | 94 => ("LevelUnitsModel", "tryNode", "[I", true)
  | 95 => ("LevelUnitsModel", "pCells", "[I", true)
  | 96 => ("LevelUnitsModel", "pAll", "[I", true)
  | 97 => ("LevelUnitsModel", "deepest", "I", false)
  | 98 => ("LevelUnitsModel", "hasProgram", "Z", false)
  | 99 => ("LevelUnitsModel", "mem", "[I", false)
  | 100 => ("LevelUnitsModel", "begun", "Z", false)
  | 101 => ("LevelUnitsModel", "seed", "I", false)
  | 102 => ("LevelUnitsModel", "steps", "I", false)
  | 103 => ("LevelUnitsModel", "things", "I", false)
  | 104 => ("LevelUnitsModel", "heaped", "I", false)
  | 105 => ("LevelUnitsModel", "thingType", "[I", true)
  | 106 => ("LevelUnitsModel", "thingAt", "[I", true)
  | 107 => ("LevelUnitsModel", "thingCells", "[I", true)
  | 108 => ("LevelUnitsModel", "holder", "[I", true)
  | 109 => ("LevelUnitsModel", "isCondition", "[Z", true)
  | 110 => ("LevelUnitsModel", "threads", "I", false)
  | 111 => ("LevelUnitsModel", "wants", "[I", true)
  | 112 => ("LevelUnitsModel", "wantsOf", "[I", true)
  | 113 => ("LevelUnitsModel", "wantsHow", "[I", true)
  | 114 => ("LevelUnitsModel", "ticket", "[I", true)
  | 115 => ("LevelUnitsModel", "tickets", "I", false)
  | 116 => ("LevelUnitsModel", "over", "[I", true)
  | 117 => ("LevelUnitsModel", "overLine", "[I", true)
  | 118 => ("LevelUnitsModel", "overWhat", "[I", true)
  | 119 => ("LevelUnitsModel", "overNumber", "[I", true)
  | 120 => ("LevelUnitsModel", "openCalls", "[I", true)
  | 121 => ("LevelUnitsModel", "openCells", "[I", true)
  | 122 => ("LevelUnitsModel", "base", "[I", true)
  | 123 => ("LevelUnitsModel", "stackTop", "[I", true)
  | 124 => ("LevelUnitsModel", "entries", "[I", true)
  | 125 => ("LevelUnitsModel", "todo", "[I", false)
  | 126 => ("LevelUnitsModel", "out", "[I", true)
  | 127 => ("LevelUnitsModel", "outputs", "I", false)
  | 128 => ("LevelUnitsModel", "t", "I", false)
  | 129 => ("LevelUnitsModel", "runFault", "I", false)
  | 130 => ("LevelUnitsModel", "runLine", "I", false)
  | 131 => ("LevelUnitsModel", "failure", "LLevelUnitsModel$Stop;", true)
  | 132 => ("LevelUnitsModel", "argument", "[I", true)
  | _ => ("LevelUnitsModel", "arguments", "I", false)
def tyX13 : Nat → FieldType := fun k => match k with
  | 0 => .int
  | 1 => .object "LevelUnitsModel$Stop"
  | 2 => .array .byte
  | 3 => .int
  | 4 => .array .byte
  | 5 => .int
  | 6 => .int
  | 7 => .int
  | 8 => .int
  | 9 => .array .int
  | 10 => .array .int
  | 11 => .array .int
  | 12 => .int
  | 13 => .array .int
  | 14 => .array .int
  | 15 => .array .byte
  | 16 => .int
  | 17 => .int
  | 18 => .int
  | 19 => .int
  | 20 => .array .int
  | 21 => .array .int
  | 22 => .array .int
  | 23 => .array .int
  | 24 => .array .int
  | 25 => .array .int
  | 26 => .array .int
  | 27 => .array .int
  | 28 => .array .int
  | 29 => .array .int
  | 30 => .array .int
  | 31 => .array .int
  | 32 => .int
  | 33 => .int
  | 34 => .int
  | 35 => .int
  | 36 => .int
  | 37 => .int
  | 38 => .int
  | 39 => .int
  | 40 => .int
  | 41 => .int
  | 42 => .array .int
  | 43 => .int
  | 44 => .array .int
  | 45 => .array .int
  | 46 => .array .int
  | 47 => .array .int
  | 48 => .array .int
  | 49 => .array .int
  | 50 => .array .int
  | 51 => .array .boolean
  | 52 => .int
  | 53 => .array .int
  | 54 => .array .int
  | 55 => .array .int
  | 56 => .int
  | 57 => .array .int
  | 58 => .array .int
  | 59 => .int
  | 60 => .int
  | 61 => .array .int
  | 62 => .int
  | 63 => .array .int
  | 64 => .array .int
  | 65 => .int
  | 66 => .array .int
  | 67 => .int
  | 68 => .array .int
  | 69 => .int
  | 70 => .array .int
  | 71 => .array .int
  | 72 => .array .int
  | 73 => .array .int
  | 74 => .int
  | 75 => .array .int
  | 76 => .int
  | 77 => .int
  | 78 => .array .int
  | 79 => .array .int
  | 80 => .int
  | 81 => .array .int
  | 82 => .array .boolean
  | 83 => .int
  | 84 => .array .boolean
  | 85 => .int
  | 86 => .int
  | 87 => .array .int
  | 88 => .array .int
  | 89 => .int
  | 90 => .int
  | 91 => .int
  | 92 => .int
  | 93 => .int
  | 94 => .array .int
  | 95 => .array .int
  | 96 => .array .int
  | 97 => .int
  | 98 => .boolean
  | 99 => .array .int
  | 100 => .boolean
  | 101 => .int
  | 102 => .int
  | 103 => .int
  | 104 => .int
  | 105 => .array .int
  | 106 => .array .int
  | 107 => .array .int
  | 108 => .array .int
  | 109 => .array .boolean
  | 110 => .int
  | 111 => .array .int
  | 112 => .array .int
  | 113 => .array .int
  | 114 => .array .int
  | 115 => .int
  | 116 => .array .int
  | 117 => .array .int
  | 118 => .array .int
  | 119 => .array .int
  | 120 => .array .int
  | 121 => .array .int
  | 122 => .array .int
  | 123 => .array .int
  | 124 => .array .int
  | 125 => .array .int
  | 126 => .array .int
  | 127 => .int
  | 128 => .int
  | 129 => .int
  | 130 => .int
  | 131 => .object "LevelUnitsModel$Stop"
  | 132 => .array .int
  | _ => .int
abbrev wsX130 : List Cond := u_ws RX13 TX13 134
theorem nmX13 : ∀ a, a < 134 → ∀ b, b < 134 → a ≠ b → (TX13 a).2.1 ≠ (TX13 b).2.1 := by decide +kernel
theorem tyX13_ok : ∀ k, k < 134 → parseFieldDescriptor (TX13 k).2.2.1 = some (tyX13 k) := by decide +kernel
def RJ0 : String := "java/lang/String"
def TJ0 : u_T := fun k => match k with
  | 0 => ("java/lang/String", "value", "[B", true)
  | 1 => ("java/lang/String", "coder", "B", true)
  | 2 => ("java/lang/String", "hash", "I", false)
  | _ => ("java/lang/String", "hashIsZero", "Z", false)
def tyJ0 : Nat → FieldType := fun k => match k with
  | 0 => .array .byte
  | 1 => .byte
  | 2 => .int
  | _ => .boolean
abbrev wsJ00 : List Cond := u_ws RJ0 TJ0 4
theorem nmJ0 : ∀ a, a < 4 → ∀ b, b < 4 → a ≠ b → (TJ0 a).2.1 ≠ (TJ0 b).2.1 := by decide +kernel
theorem tyJ0_ok : ∀ k, k < 4 → parseFieldDescriptor (TJ0 k).2.2.1 = some (tyJ0 k) := by decide +kernel
def RJ4 : String := "java/lang/StringBuilder"
def TJ4 : u_T := fun k => match k with
  | 0 => ("java/lang/AbstractStringBuilder", "value", "[B", false)
  | 1 => ("java/lang/AbstractStringBuilder", "coder", "B", false)
  | 2 => ("java/lang/AbstractStringBuilder", "maybeLatin1", "Z", false)
  | _ => ("java/lang/AbstractStringBuilder", "count", "I", false)
def tyJ4 : Nat → FieldType := fun k => match k with
  | 0 => .array .byte
  | 1 => .byte
  | 2 => .boolean
  | _ => .int
abbrev wsJ40 : List Cond := u_ws RJ4 TJ4 4
theorem nmJ4 : ∀ a, a < 4 → ∀ b, b < 4 → a ≠ b → (TJ4 a).2.1 ≠ (TJ4 b).2.1 := by decide +kernel
theorem tyJ4_ok : ∀ k, k < 4 → parseFieldDescriptor (TJ4 k).2.2.1 = some (tyJ4 k) := by decide +kernel
def RL : String := "LevelUnitsLaw"
theorem dX2_init_0 : decode cX2_init 0 = .ok (.aload_n 0, 1) := by decide +kernel
theorem dX2_init_1 : decode cX2_init 1 = .ok (.invokespecial 3, 3) := by decide +kernel
theorem dX2_init_4 : decode cX2_init 4 = .ok (.aload_n 0, 1) := by decide +kernel
theorem dX2_init_5 : decode cX2_init 5 = .ok (.sipush 5000, 3) := by decide +kernel
theorem dX2_init_8 : decode cX2_init 8 = .ok (.newarray .int, 2) := by decide +kernel
theorem dX2_init_10 : decode cX2_init 10 = .ok (.putfield 9, 3) := by decide +kernel
theorem dX2_init_13 : decode cX2_init 13 = .ok (.aload_n 0, 1) := by decide +kernel
theorem dX2_init_14 : decode cX2_init 14 = .ok (.sipush 20000, 3) := by decide +kernel
theorem dX2_init_17 : decode cX2_init 17 = .ok (.newarray .int, 2) := by decide +kernel
theorem dX2_init_19 : decode cX2_init 19 = .ok (.putfield 15, 3) := by decide +kernel
theorem dX2_init_22 : decode cX2_init 22 = .ok (.aload_n 0, 1) := by decide +kernel
theorem dX2_init_23 : decode cX2_init 23 = .ok (.sipush 2002, 3) := by decide +kernel
theorem dX2_init_26 : decode cX2_init 26 = .ok (.newarray .int, 2) := by decide +kernel
theorem dX2_init_28 : decode cX2_init 28 = .ok (.putfield 18, 3) := by decide +kernel
theorem dX2_init_31 : decode cX2_init 31 = .ok (.aload_n 0, 1) := by decide +kernel
theorem dX2_init_32 : decode cX2_init 32 = .ok (.sipush 2001, 3) := by decide +kernel
theorem dX2_init_35 : decode cX2_init 35 = .ok (.anewarray 21, 3) := by decide +kernel
theorem dX2_init_38 : decode cX2_init 38 = .ok (.putfield 23, 3) := by decide +kernel
theorem dX2_init_41 : decode cX2_init 41 = .ok (.aload_n 0, 1) := by decide +kernel
theorem dX2_init_42 : decode cX2_init 42 = .ok (.sipush 2001, 3) := by decide +kernel
theorem dX2_init_45 : decode cX2_init 45 = .ok (.newarray .int, 2) := by decide +kernel
theorem dX2_init_47 : decode cX2_init 47 = .ok (.putfield 27, 3) := by decide +kernel
theorem dX2_init_50 : decode cX2_init 50 = .ok (.aload_n 0, 1) := by decide +kernel
theorem dX2_init_51 : decode cX2_init 51 = .ok (.bipush 64, 2) := by decide +kernel
theorem dX2_init_53 : decode cX2_init 53 = .ok (.anewarray 30, 3) := by decide +kernel
theorem dX2_init_56 : decode cX2_init 56 = .ok (.putfield 32, 3) := by decide +kernel
theorem dX2_init_59 : decode cX2_init 59 = .ok (.aload_n 0, 1) := by decide +kernel
theorem dX2_init_60 : decode cX2_init 60 = .ok (.sipush 500, 3) := by decide +kernel
theorem dX2_init_63 : decode cX2_init 63 = .ok (.newarray .int, 2) := by decide +kernel
theorem dX2_init_65 : decode cX2_init 65 = .ok (.putfield 36, 3) := by decide +kernel
theorem dX2_init_68 : decode cX2_init 68 = .ok (.aload_n 0, 1) := by decide +kernel
theorem dX2_init_69 : decode cX2_init 69 = .ok (.sipush 200, 3) := by decide +kernel
theorem dX2_init_72 : decode cX2_init 72 = .ok (.newarray .int, 2) := by decide +kernel
theorem dX2_init_74 : decode cX2_init 74 = .ok (.putfield 39, 3) := by decide +kernel
theorem dX2_init_77 : decode cX2_init 77 = .ok (.aload_n 0, 1) := by decide +kernel
theorem dX2_init_78 : decode cX2_init 78 = .ok (.sipush 16000, 3) := by decide +kernel
theorem dX2_init_81 : decode cX2_init 81 = .ok (.newarray .int, 2) := by decide +kernel
theorem dX2_init_83 : decode cX2_init 83 = .ok (.putfield 42, 3) := by decide +kernel
theorem dX2_init_86 : decode cX2_init 86 = .ok (.return_, 1) := by decide +kernel
theorem dX7_init_0 : decode cX7_init 0 = .ok (.aload_n 0, 1) := by decide +kernel
theorem dX7_init_1 : decode cX7_init 1 = .ok (.invokespecial 3, 3) := by decide +kernel
theorem dX7_init_4 : decode cX7_init 4 = .ok (.aload_n 0, 1) := by decide +kernel
theorem dX7_init_5 : decode cX7_init 5 = .ok (.sipush 6001, 3) := by decide +kernel
theorem dX7_init_8 : decode cX7_init 8 = .ok (.newarray .int, 2) := by decide +kernel
theorem dX7_init_10 : decode cX7_init 10 = .ok (.putfield 9, 3) := by decide +kernel
theorem dX7_init_13 : decode cX7_init 13 = .ok (.aload_n 0, 1) := by decide +kernel
theorem dX7_init_14 : decode cX7_init 14 = .ok (.sipush 6001, 3) := by decide +kernel
theorem dX7_init_17 : decode cX7_init 17 = .ok (.newarray .int, 2) := by decide +kernel
theorem dX7_init_19 : decode cX7_init 19 = .ok (.putfield 15, 3) := by decide +kernel
theorem dX7_init_22 : decode cX7_init 22 = .ok (.aload_n 0, 1) := by decide +kernel
theorem dX7_init_23 : decode cX7_init 23 = .ok (.sipush 6001, 3) := by decide +kernel
theorem dX7_init_26 : decode cX7_init 26 = .ok (.newarray .int, 2) := by decide +kernel
theorem dX7_init_28 : decode cX7_init 28 = .ok (.putfield 18, 3) := by decide +kernel
theorem dX7_init_31 : decode cX7_init 31 = .ok (.aload_n 0, 1) := by decide +kernel
theorem dX7_init_32 : decode cX7_init 32 = .ok (.sipush 256, 3) := by decide +kernel
theorem dX7_init_35 : decode cX7_init 35 = .ok (.newarray .int, 2) := by decide +kernel
theorem dX7_init_37 : decode cX7_init 37 = .ok (.putfield 21, 3) := by decide +kernel
theorem dX7_init_40 : decode cX7_init 40 = .ok (.aload_n 0, 1) := by decide +kernel
theorem dX7_init_41 : decode cX7_init 41 = .ok (.sipush 3001, 3) := by decide +kernel
theorem dX7_init_44 : decode cX7_init 44 = .ok (.newarray .int, 2) := by decide +kernel
theorem dX7_init_46 : decode cX7_init 46 = .ok (.putfield 24, 3) := by decide +kernel
theorem dX7_init_49 : decode cX7_init 49 = .ok (.aload_n 0, 1) := by decide +kernel
theorem dX7_init_50 : decode cX7_init 50 = .ok (.sipush 3001, 3) := by decide +kernel
theorem dX7_init_53 : decode cX7_init 53 = .ok (.newarray .int, 2) := by decide +kernel
theorem dX7_init_55 : decode cX7_init 55 = .ok (.putfield 27, 3) := by decide +kernel
theorem dX7_init_58 : decode cX7_init 58 = .ok (.aload_n 0, 1) := by decide +kernel
theorem dX7_init_59 : decode cX7_init 59 = .ok (.sipush 3001, 3) := by decide +kernel
theorem dX7_init_62 : decode cX7_init 62 = .ok (.newarray .int, 2) := by decide +kernel
theorem dX7_init_64 : decode cX7_init 64 = .ok (.putfield 30, 3) := by decide +kernel
theorem dX7_init_67 : decode cX7_init 67 = .ok (.return_, 1) := by decide +kernel
theorem dX11_init_0 : decode cX11_init 0 = .ok (.aload_n 0, 1) := by decide +kernel
theorem dX11_init_1 : decode cX11_init 1 = .ok (.invokespecial 3, 3) := by decide +kernel
theorem dX11_init_4 : decode cX11_init 4 = .ok (.aload_n 0, 1) := by decide +kernel
theorem dX11_init_5 : decode cX11_init 5 = .ok (.sipush 6000, 3) := by decide +kernel
theorem dX11_init_8 : decode cX11_init 8 = .ok (.newarray .byte, 2) := by decide +kernel
theorem dX11_init_10 : decode cX11_init 10 = .ok (.putfield 9, 3) := by decide +kernel
theorem dX11_init_13 : decode cX11_init 13 = .ok (.aload_n 0, 1) := by decide +kernel
theorem dX11_init_14 : decode cX11_init 14 = .ok (.new 13, 3) := by decide +kernel
theorem dX11_init_17 : decode cX11_init 17 = .ok (.dup, 1) := by decide +kernel
theorem dX11_init_18 : decode cX11_init 18 = .ok (.invokespecial 15, 3) := by decide +kernel
theorem dX11_init_21 : decode cX11_init 21 = .ok (.putfield 16, 3) := by decide +kernel
theorem dX11_init_24 : decode cX11_init 24 = .ok (.aload_n 0, 1) := by decide +kernel
theorem dX11_init_25 : decode cX11_init 25 = .ok (.new 20, 3) := by decide +kernel
theorem dX11_init_28 : decode cX11_init 28 = .ok (.dup, 1) := by decide +kernel
theorem dX11_init_29 : decode cX11_init 29 = .ok (.invokespecial 22, 3) := by decide +kernel
theorem dX11_init_32 : decode cX11_init 32 = .ok (.putfield 23, 3) := by decide +kernel
theorem dX11_init_35 : decode cX11_init 35 = .ok (.return_, 1) := by decide +kernel
abbrev vwCl : List vw_C := [(RJ0, TJ0, 4), (RJ4, TJ4, 4), (RX0, TX0, 7), (RX1, TX1, 19), (RX2, TX2, 19), (RX3, TX3, 2), (RX4, TX4, 20), (RX5, TX5, 8), (RX6, TX6, 20), (RX7, TX7, 13), (RX8, TX8, 15), (RX9, TX9, 20), (RX10, TX10, 13), (RX11, TX11, 5), (RX12, TX12, 6), (RX13, TX13, 134)]
end
section
def ws_cc_Scanner_init : List Cond := .code yX7_init cX7_init 1 none :: ([.methodLink RX7 3 objectInit, .instanceMethod objectInit, .code objectInit ⟨#[0xb1]⟩ 1 none, .arrayClass .int, .fieldLink RX7 9 "LevelUnits$Scanner" "kinds" "[I", .fieldLink RX7 15 "LevelUnits$Scanner" "values" "[I", .fieldLink RX7 18 "LevelUnits$Scanner" "lines" "[I", .fieldLink RX7 21 "LevelUnits$Scanner" "heads" "[I", .fieldLink RX7 24 "LevelUnits$Scanner" "chains" "[I", .fieldLink RX7 27 "LevelUnits$Scanner" "starts" "[I", .fieldLink RX7 30 "LevelUnits$Scanner" "sizes" "[I"] ++ wsX70)
theorem in_cc_Scanner_init_RX7 : ∀ w ∈ wsX70, w ∈ ws_cc_Scanner_init := fun _ h => List.mem_cons_of_mem _ (List.mem_append_right _ h)
set_option maxHeartbeats 4000000 in
set_option maxRecDepth 100000 in
/-- Scanner(): seven rows -/
theorem cc_Scanner_init (l : Launch) (dC : Nat → ClassId) (dI : Nat → Nat → Nat) (h0 : Nat) (sz : Nat) : Met l yX7_init ws_cc_Scanner_init ({ frames := 1, cells := 7, slots := 27262, locals := 12 }) (va_Pc [.ref h0] (fun U => U.heap.size = sz ∧ va_P (dC, dI) vwCl [(h0, .inr (9, [.null, .null, .null, .int 0, .null, .int 0, .int 0, .int 0, .null, .null, .null, .null, .int 0]))] U.heap ∧ va_K (dC, dI) vwCl [] U ∧ va_D (fun _ => True) [(h0, .inr (9, [.null, .null, .null, .int 0, .null, .int 0, .int 0, .int 0, .null, .null, .null, .null, .int 0]))])) (va_Qv (fun _ : Unit => True) (fun _ t => ∃ q_a : Nat, ∃ q_b : Nat, ∃ q_c : Nat, ∃ q_d : Nat, ∃ q_e : Nat, ∃ q_f : Nat, ∃ q_g : Nat, ∃ cy_a : ClassId, ∃ cy_b : ClassId, ∃ cy_c : ClassId, ∃ cy_d : ClassId, ∃ cy_e : ClassId, ∃ cy_f : ClassId, ∃ cy_g : ClassId, va_P (dC, dI) vwCl [(h0, .inr (9, [.ref q_a, .ref q_b, .ref q_c, .int 0, .null, .int 0, .int 0, .int 0, .ref q_d, .ref q_e, .ref q_f, .ref q_g, .int 0])), (q_a, .inl (cy_a, 6001, .inl (fun _ => 0))), (q_b, .inl (cy_b, 6001, .inl (fun _ => 0))), (q_c, .inl (cy_c, 6001, .inl (fun _ => 0))), (q_d, .inl (cy_d, 256, .inl (fun _ => 0))), (q_e, .inl (cy_e, 3001, .inl (fun _ => 0))), (q_f, .inl (cy_f, 3001, .inl (fun _ => 0))), (q_g, .inl (cy_g, 3001, .inl (fun _ => 0)))] t.heap ∧ va_K (dC, dI) vwCl [(cy_a, .int), (cy_b, .int), (cy_c, .int), (cy_d, .int), (cy_e, .int), (cy_f, .int), (cy_g, .int)] t ∧ va_D (va_A [(h0, .inr (9, [.null, .null, .null, .int 0, .null, .int 0, .int 0, .int 0, .null, .null, .null, .null, .int 0]))] sz) [(h0, .inr (9, [.ref q_a, .ref q_b, .ref q_c, .int 0, .null, .int 0, .int 0, .int 0, .ref q_d, .ref q_e, .ref q_f, .ref q_g, .int 0])), (q_a, .inl (cy_a, 6001, .inl (fun _ => 0))), (q_b, .inl (cy_b, 6001, .inl (fun _ => 0))), (q_c, .inl (cy_c, 6001, .inl (fun _ => 0))), (q_d, .inl (cy_d, 256, .inl (fun _ => 0))), (q_e, .inl (cy_e, 3001, .inl (fun _ => 0))), (q_f, .inl (cy_f, 3001, .inl (fun _ => 0))), (q_g, .inl (cy_g, 3001, .inl (fun _ => 0)))]) (va_A [(h0, .inr (9, [.null, .null, .null, .int 0, .null, .int 0, .int 0, .int 0, .null, .null, .null, .null, .int 0]))] sz)) 7 27262 (va_A [(h0, .inr (9, [.null, .null, .null, .int 0, .null, .int 0, .int 0, .int 0, .null, .null, .null, .null, .int 0]))] sz) := by
  refine Met.ofW (cc := cX7_init) (maxL := 1) (ret := none) (by decide) rfl ?_
  intro p e s m args below meth c s₁ B hml hv
  obtain ⟨rfl, hsz, hP, hK, hD0⟩ := hv
  have hx := B.exec
  have hb := B.bytes
  have hr := B.returns
  have hts := atoms_spec (ws := ws_cc_Scanner_init) B.pre
  have hown : s.vm.findClass RX7 = some m.cls := findClass_of_methodNamed B.named
  have hlocks := B.notSynchronized
  have hin : meth.name = "<init>" := (name_of_methodNamed B.named B.method).1
  subst hsz
  have hD := hD0.self (sz := s.heap.size)
  generalize hAe : va_A [(h0, .inr (9, [.null, .null, .null, .int 0, .null, .int 0, .int 0, .int 0, .null, .null, .null, .null, .int 0]))] s.heap.size = A at hD ⊢
  have hA : ∀ q : Nat, s.heap.size ≤ q → A q := fun q h => by rw [← hAe]; exact Or.inr h
  have hS : va_S A s.heap s.heap [] := va_S.rf
  have hP : va_P (dC, dI) vwCl [(h0, .inr (9, [.null, .null, .null, .int 0, .null, .int 0, .int 0, .int 0, .null, .null, .null, .null, .int 0]))] s.heap := hP
  have hl := lv_entry ([.ref h0]) (n := 1) (Nat.le_of_ble_eq_true rfl)
  rw [lg_entry_eq]
  generalize (lg_sl ([.ref h0]) ++ List.replicate (1 - (lg_sl ([.ref h0])).length) Slot.unset).toArray = ls at hl ⊢
  have hl : lv_has ls 1 [(0, .ref h0)] := hl
  refine lv_aload_n hx hb dX7_init_0 rfl (lv_at hl 0 rfl) ?_
  refine W.objInit hx hb hown (hts (.methodLink RX7 3 objectInit) (List.mem_of_getElem? (i := 1) rfl)) (hts (.instanceMethod objectInit) (List.mem_of_getElem? (i := 2) rfl)) (hts (.code objectInit ⟨#[0xb1]⟩ 1 none) (List.mem_of_getElem? (i := 3) rfl)) rfl (by rw [hml]; exact hl.1) rfl dX7_init_1 (Nat.le_of_ble_eq_true rfl) (Nat.le_of_ble_eq_true rfl) ?_
  refine W.eq (g2 := F0 m 4 ls []) rfl ?_
  refine lv_aload_n hx hb dX7_init_4 rfl (lv_at hl 0 rfl) ?_
  refine lv_sipush (v := 6001) hx hb dX7_init_5 (by decide) ?_
  refine va_newa (atype := .int) (ty := .int) (a0 := (6001, .inl (fun _ => 0))) (N' := 6001) hx hb (hts (.arrayClass .int) (List.mem_of_getElem? (i := 4) rfl)) rfl hK hP hD hS hA (fun _ => rfl) (by decide) (by decide) (Nat.le_of_ble_eq_true rfl) (Nat.le_of_ble_eq_true rfl) (Nat.le_of_ble_eq_true rfl) dX7_init_8 (fun q_1 cy_2 H hK hP hD hS => ?_)
  have hK : va_K (dC, dI) vwCl [(cy_2, .int)] s := hK
  have hP : va_P (dC, dI) vwCl [(h0, .inr (9, [.null, .null, .null, .int 0, .null, .int 0, .int 0, .int 0, .null, .null, .null, .null, .int 0])), (q_1, .inl (cy_2, 6001, .inl (fun _ => 0)))] H := hP
  have hD : va_D A [(h0, .inr (9, [.null, .null, .null, .int 0, .null, .int 0, .int 0, .int 0, .null, .null, .null, .null, .int 0])), (q_1, .inl (cy_2, 6001, .inl (fun _ => 0)))] := hD
  refine W.widen (k := 1) (n := 6001) (Nat.le_of_ble_eq_true rfl) (Nat.le_of_ble_eq_true rfl) ?_
  refine va_putF (D := (dC, dI)) (ci := 9) (v := .ref q_1) (ty := .array .int) (C := RX7) (T := TX7) (N := 13) hx hb hts in_cc_Scanner_init_RX7 tyX7 tyX7_ok nmX7 hown hK hP hD hS 0 rfl rfl 0 (by decide) (hts (.fieldLink RX7 9 "LevelUnits$Scanner" "kinds" "[I") (List.mem_of_getElem? (i := 5) rfl)) (fun _ h9 => h9) rfl hin rfl (by decide +kernel) rfl rfl (Nat.le_of_ble_eq_true rfl) dX7_init_10 (fun H locs hP hD hS => ?_)
  have hP : va_P (dC, dI) vwCl [(h0, .inr (9, [.ref q_1, .null, .null, .int 0, .null, .int 0, .int 0, .int 0, .null, .null, .null, .null, .int 0])), (q_1, .inl (cy_2, 6001, .inl (fun _ => 0)))] H := hP
  have hD : va_D A [(h0, .inr (9, [.ref q_1, .null, .null, .int 0, .null, .int 0, .int 0, .int 0, .null, .null, .null, .null, .int 0])), (q_1, .inl (cy_2, 6001, .inl (fun _ => 0)))] := hD
  refine lv_aload_n hx hb dX7_init_13 rfl (lv_at hl 0 rfl) ?_
  refine lv_sipush (v := 6001) hx hb dX7_init_14 (by decide) ?_
  refine va_newa (atype := .int) (ty := .int) (a0 := (6001, .inl (fun _ => 0))) (N' := 6001) hx hb (hts (.arrayClass .int) (List.mem_of_getElem? (i := 4) rfl)) rfl hK hP hD hS hA (fun _ => rfl) (by decide) (by decide) (Nat.le_of_ble_eq_true rfl) (Nat.le_of_ble_eq_true rfl) (Nat.le_of_ble_eq_true rfl) dX7_init_17 (fun q_3 cy_4 H hK hP hD hS => ?_)
  have hK : va_K (dC, dI) vwCl [(cy_2, .int), (cy_4, .int)] s := hK
  have hP : va_P (dC, dI) vwCl [(h0, .inr (9, [.ref q_1, .null, .null, .int 0, .null, .int 0, .int 0, .int 0, .null, .null, .null, .null, .int 0])), (q_1, .inl (cy_2, 6001, .inl (fun _ => 0))), (q_3, .inl (cy_4, 6001, .inl (fun _ => 0)))] H := hP
  have hD : va_D A [(h0, .inr (9, [.ref q_1, .null, .null, .int 0, .null, .int 0, .int 0, .int 0, .null, .null, .null, .null, .int 0])), (q_1, .inl (cy_2, 6001, .inl (fun _ => 0))), (q_3, .inl (cy_4, 6001, .inl (fun _ => 0)))] := hD
  refine W.widen (k := 2) (n := 12002) (Nat.le_of_ble_eq_true rfl) (Nat.le_of_ble_eq_true rfl) ?_
  refine va_putF (D := (dC, dI)) (ci := 9) (v := .ref q_3) (ty := .array .int) (C := RX7) (T := TX7) (N := 13) hx hb hts in_cc_Scanner_init_RX7 tyX7 tyX7_ok nmX7 hown hK hP hD hS 0 rfl rfl 1 (by decide) (hts (.fieldLink RX7 15 "LevelUnits$Scanner" "values" "[I") (List.mem_of_getElem? (i := 6) rfl)) (fun _ h9 => h9) rfl hin rfl (by decide +kernel) rfl rfl (Nat.le_of_ble_eq_true rfl) dX7_init_19 (fun H locs hP hD hS => ?_)
  have hP : va_P (dC, dI) vwCl [(h0, .inr (9, [.ref q_1, .ref q_3, .null, .int 0, .null, .int 0, .int 0, .int 0, .null, .null, .null, .null, .int 0])), (q_1, .inl (cy_2, 6001, .inl (fun _ => 0))), (q_3, .inl (cy_4, 6001, .inl (fun _ => 0)))] H := hP
  have hD : va_D A [(h0, .inr (9, [.ref q_1, .ref q_3, .null, .int 0, .null, .int 0, .int 0, .int 0, .null, .null, .null, .null, .int 0])), (q_1, .inl (cy_2, 6001, .inl (fun _ => 0))), (q_3, .inl (cy_4, 6001, .inl (fun _ => 0)))] := hD
  refine lv_aload_n hx hb dX7_init_22 rfl (lv_at hl 0 rfl) ?_
  refine lv_sipush (v := 6001) hx hb dX7_init_23 (by decide) ?_
  refine va_newa (atype := .int) (ty := .int) (a0 := (6001, .inl (fun _ => 0))) (N' := 6001) hx hb (hts (.arrayClass .int) (List.mem_of_getElem? (i := 4) rfl)) rfl hK hP hD hS hA (fun _ => rfl) (by decide) (by decide) (Nat.le_of_ble_eq_true rfl) (Nat.le_of_ble_eq_true rfl) (Nat.le_of_ble_eq_true rfl) dX7_init_26 (fun q_5 cy_6 H hK hP hD hS => ?_)
  have hK : va_K (dC, dI) vwCl [(cy_2, .int), (cy_4, .int), (cy_6, .int)] s := hK
  have hP : va_P (dC, dI) vwCl [(h0, .inr (9, [.ref q_1, .ref q_3, .null, .int 0, .null, .int 0, .int 0, .int 0, .null, .null, .null, .null, .int 0])), (q_1, .inl (cy_2, 6001, .inl (fun _ => 0))), (q_3, .inl (cy_4, 6001, .inl (fun _ => 0))), (q_5, .inl (cy_6, 6001, .inl (fun _ => 0)))] H := hP
  have hD : va_D A [(h0, .inr (9, [.ref q_1, .ref q_3, .null, .int 0, .null, .int 0, .int 0, .int 0, .null, .null, .null, .null, .int 0])), (q_1, .inl (cy_2, 6001, .inl (fun _ => 0))), (q_3, .inl (cy_4, 6001, .inl (fun _ => 0))), (q_5, .inl (cy_6, 6001, .inl (fun _ => 0)))] := hD
  refine W.widen (k := 3) (n := 18003) (Nat.le_of_ble_eq_true rfl) (Nat.le_of_ble_eq_true rfl) ?_
  refine va_putF (D := (dC, dI)) (ci := 9) (v := .ref q_5) (ty := .array .int) (C := RX7) (T := TX7) (N := 13) hx hb hts in_cc_Scanner_init_RX7 tyX7 tyX7_ok nmX7 hown hK hP hD hS 0 rfl rfl 2 (by decide) (hts (.fieldLink RX7 18 "LevelUnits$Scanner" "lines" "[I") (List.mem_of_getElem? (i := 7) rfl)) (fun _ h9 => h9) rfl hin rfl (by decide +kernel) rfl rfl (Nat.le_of_ble_eq_true rfl) dX7_init_28 (fun H locs hP hD hS => ?_)
  have hP : va_P (dC, dI) vwCl [(h0, .inr (9, [.ref q_1, .ref q_3, .ref q_5, .int 0, .null, .int 0, .int 0, .int 0, .null, .null, .null, .null, .int 0])), (q_1, .inl (cy_2, 6001, .inl (fun _ => 0))), (q_3, .inl (cy_4, 6001, .inl (fun _ => 0))), (q_5, .inl (cy_6, 6001, .inl (fun _ => 0)))] H := hP
  have hD : va_D A [(h0, .inr (9, [.ref q_1, .ref q_3, .ref q_5, .int 0, .null, .int 0, .int 0, .int 0, .null, .null, .null, .null, .int 0])), (q_1, .inl (cy_2, 6001, .inl (fun _ => 0))), (q_3, .inl (cy_4, 6001, .inl (fun _ => 0))), (q_5, .inl (cy_6, 6001, .inl (fun _ => 0)))] := hD
  refine lv_aload_n hx hb dX7_init_31 rfl (lv_at hl 0 rfl) ?_
  refine lv_sipush (v := 256) hx hb dX7_init_32 (by decide) ?_
  refine va_newa (atype := .int) (ty := .int) (a0 := (256, .inl (fun _ => 0))) (N' := 256) hx hb (hts (.arrayClass .int) (List.mem_of_getElem? (i := 4) rfl)) rfl hK hP hD hS hA (fun _ => rfl) (by decide) (by decide) (Nat.le_of_ble_eq_true rfl) (Nat.le_of_ble_eq_true rfl) (Nat.le_of_ble_eq_true rfl) dX7_init_35 (fun q_7 cy_8 H hK hP hD hS => ?_)
  have hK : va_K (dC, dI) vwCl [(cy_2, .int), (cy_4, .int), (cy_6, .int), (cy_8, .int)] s := hK
  have hP : va_P (dC, dI) vwCl [(h0, .inr (9, [.ref q_1, .ref q_3, .ref q_5, .int 0, .null, .int 0, .int 0, .int 0, .null, .null, .null, .null, .int 0])), (q_1, .inl (cy_2, 6001, .inl (fun _ => 0))), (q_3, .inl (cy_4, 6001, .inl (fun _ => 0))), (q_5, .inl (cy_6, 6001, .inl (fun _ => 0))), (q_7, .inl (cy_8, 256, .inl (fun _ => 0)))] H := hP
  have hD : va_D A [(h0, .inr (9, [.ref q_1, .ref q_3, .ref q_5, .int 0, .null, .int 0, .int 0, .int 0, .null, .null, .null, .null, .int 0])), (q_1, .inl (cy_2, 6001, .inl (fun _ => 0))), (q_3, .inl (cy_4, 6001, .inl (fun _ => 0))), (q_5, .inl (cy_6, 6001, .inl (fun _ => 0))), (q_7, .inl (cy_8, 256, .inl (fun _ => 0)))] := hD
  refine W.widen (k := 4) (n := 18259) (Nat.le_of_ble_eq_true rfl) (Nat.le_of_ble_eq_true rfl) ?_
  refine va_putF (D := (dC, dI)) (ci := 9) (v := .ref q_7) (ty := .array .int) (C := RX7) (T := TX7) (N := 13) hx hb hts in_cc_Scanner_init_RX7 tyX7 tyX7_ok nmX7 hown hK hP hD hS 0 rfl rfl 8 (by decide) (hts (.fieldLink RX7 21 "LevelUnits$Scanner" "heads" "[I") (List.mem_of_getElem? (i := 8) rfl)) (fun _ h9 => h9) rfl hin rfl (by decide +kernel) rfl rfl (Nat.le_of_ble_eq_true rfl) dX7_init_37 (fun H locs hP hD hS => ?_)
  have hP : va_P (dC, dI) vwCl [(h0, .inr (9, [.ref q_1, .ref q_3, .ref q_5, .int 0, .null, .int 0, .int 0, .int 0, .ref q_7, .null, .null, .null, .int 0])), (q_1, .inl (cy_2, 6001, .inl (fun _ => 0))), (q_3, .inl (cy_4, 6001, .inl (fun _ => 0))), (q_5, .inl (cy_6, 6001, .inl (fun _ => 0))), (q_7, .inl (cy_8, 256, .inl (fun _ => 0)))] H := hP
  have hD : va_D A [(h0, .inr (9, [.ref q_1, .ref q_3, .ref q_5, .int 0, .null, .int 0, .int 0, .int 0, .ref q_7, .null, .null, .null, .int 0])), (q_1, .inl (cy_2, 6001, .inl (fun _ => 0))), (q_3, .inl (cy_4, 6001, .inl (fun _ => 0))), (q_5, .inl (cy_6, 6001, .inl (fun _ => 0))), (q_7, .inl (cy_8, 256, .inl (fun _ => 0)))] := hD
  refine lv_aload_n hx hb dX7_init_40 rfl (lv_at hl 0 rfl) ?_
  refine lv_sipush (v := 3001) hx hb dX7_init_41 (by decide) ?_
  refine va_newa (atype := .int) (ty := .int) (a0 := (3001, .inl (fun _ => 0))) (N' := 3001) hx hb (hts (.arrayClass .int) (List.mem_of_getElem? (i := 4) rfl)) rfl hK hP hD hS hA (fun _ => rfl) (by decide) (by decide) (Nat.le_of_ble_eq_true rfl) (Nat.le_of_ble_eq_true rfl) (Nat.le_of_ble_eq_true rfl) dX7_init_44 (fun q_9 cy_10 H hK hP hD hS => ?_)
  have hK : va_K (dC, dI) vwCl [(cy_2, .int), (cy_4, .int), (cy_6, .int), (cy_8, .int), (cy_10, .int)] s := hK
  have hP : va_P (dC, dI) vwCl [(h0, .inr (9, [.ref q_1, .ref q_3, .ref q_5, .int 0, .null, .int 0, .int 0, .int 0, .ref q_7, .null, .null, .null, .int 0])), (q_1, .inl (cy_2, 6001, .inl (fun _ => 0))), (q_3, .inl (cy_4, 6001, .inl (fun _ => 0))), (q_5, .inl (cy_6, 6001, .inl (fun _ => 0))), (q_7, .inl (cy_8, 256, .inl (fun _ => 0))), (q_9, .inl (cy_10, 3001, .inl (fun _ => 0)))] H := hP
  have hD : va_D A [(h0, .inr (9, [.ref q_1, .ref q_3, .ref q_5, .int 0, .null, .int 0, .int 0, .int 0, .ref q_7, .null, .null, .null, .int 0])), (q_1, .inl (cy_2, 6001, .inl (fun _ => 0))), (q_3, .inl (cy_4, 6001, .inl (fun _ => 0))), (q_5, .inl (cy_6, 6001, .inl (fun _ => 0))), (q_7, .inl (cy_8, 256, .inl (fun _ => 0))), (q_9, .inl (cy_10, 3001, .inl (fun _ => 0)))] := hD
  refine W.widen (k := 5) (n := 21260) (Nat.le_of_ble_eq_true rfl) (Nat.le_of_ble_eq_true rfl) ?_
  refine va_putF (D := (dC, dI)) (ci := 9) (v := .ref q_9) (ty := .array .int) (C := RX7) (T := TX7) (N := 13) hx hb hts in_cc_Scanner_init_RX7 tyX7 tyX7_ok nmX7 hown hK hP hD hS 0 rfl rfl 9 (by decide) (hts (.fieldLink RX7 24 "LevelUnits$Scanner" "chains" "[I") (List.mem_of_getElem? (i := 9) rfl)) (fun _ h9 => h9) rfl hin rfl (by decide +kernel) rfl rfl (Nat.le_of_ble_eq_true rfl) dX7_init_46 (fun H locs hP hD hS => ?_)
  have hP : va_P (dC, dI) vwCl [(h0, .inr (9, [.ref q_1, .ref q_3, .ref q_5, .int 0, .null, .int 0, .int 0, .int 0, .ref q_7, .ref q_9, .null, .null, .int 0])), (q_1, .inl (cy_2, 6001, .inl (fun _ => 0))), (q_3, .inl (cy_4, 6001, .inl (fun _ => 0))), (q_5, .inl (cy_6, 6001, .inl (fun _ => 0))), (q_7, .inl (cy_8, 256, .inl (fun _ => 0))), (q_9, .inl (cy_10, 3001, .inl (fun _ => 0)))] H := hP
  have hD : va_D A [(h0, .inr (9, [.ref q_1, .ref q_3, .ref q_5, .int 0, .null, .int 0, .int 0, .int 0, .ref q_7, .ref q_9, .null, .null, .int 0])), (q_1, .inl (cy_2, 6001, .inl (fun _ => 0))), (q_3, .inl (cy_4, 6001, .inl (fun _ => 0))), (q_5, .inl (cy_6, 6001, .inl (fun _ => 0))), (q_7, .inl (cy_8, 256, .inl (fun _ => 0))), (q_9, .inl (cy_10, 3001, .inl (fun _ => 0)))] := hD
  refine lv_aload_n hx hb dX7_init_49 rfl (lv_at hl 0 rfl) ?_
  refine lv_sipush (v := 3001) hx hb dX7_init_50 (by decide) ?_
  refine va_newa (atype := .int) (ty := .int) (a0 := (3001, .inl (fun _ => 0))) (N' := 3001) hx hb (hts (.arrayClass .int) (List.mem_of_getElem? (i := 4) rfl)) rfl hK hP hD hS hA (fun _ => rfl) (by decide) (by decide) (Nat.le_of_ble_eq_true rfl) (Nat.le_of_ble_eq_true rfl) (Nat.le_of_ble_eq_true rfl) dX7_init_53 (fun q_11 cy_12 H hK hP hD hS => ?_)
  have hK : va_K (dC, dI) vwCl [(cy_2, .int), (cy_4, .int), (cy_6, .int), (cy_8, .int), (cy_10, .int), (cy_12, .int)] s := hK
  have hP : va_P (dC, dI) vwCl [(h0, .inr (9, [.ref q_1, .ref q_3, .ref q_5, .int 0, .null, .int 0, .int 0, .int 0, .ref q_7, .ref q_9, .null, .null, .int 0])), (q_1, .inl (cy_2, 6001, .inl (fun _ => 0))), (q_3, .inl (cy_4, 6001, .inl (fun _ => 0))), (q_5, .inl (cy_6, 6001, .inl (fun _ => 0))), (q_7, .inl (cy_8, 256, .inl (fun _ => 0))), (q_9, .inl (cy_10, 3001, .inl (fun _ => 0))), (q_11, .inl (cy_12, 3001, .inl (fun _ => 0)))] H := hP
  have hD : va_D A [(h0, .inr (9, [.ref q_1, .ref q_3, .ref q_5, .int 0, .null, .int 0, .int 0, .int 0, .ref q_7, .ref q_9, .null, .null, .int 0])), (q_1, .inl (cy_2, 6001, .inl (fun _ => 0))), (q_3, .inl (cy_4, 6001, .inl (fun _ => 0))), (q_5, .inl (cy_6, 6001, .inl (fun _ => 0))), (q_7, .inl (cy_8, 256, .inl (fun _ => 0))), (q_9, .inl (cy_10, 3001, .inl (fun _ => 0))), (q_11, .inl (cy_12, 3001, .inl (fun _ => 0)))] := hD
  refine W.widen (k := 6) (n := 24261) (Nat.le_of_ble_eq_true rfl) (Nat.le_of_ble_eq_true rfl) ?_
  refine va_putF (D := (dC, dI)) (ci := 9) (v := .ref q_11) (ty := .array .int) (C := RX7) (T := TX7) (N := 13) hx hb hts in_cc_Scanner_init_RX7 tyX7 tyX7_ok nmX7 hown hK hP hD hS 0 rfl rfl 10 (by decide) (hts (.fieldLink RX7 27 "LevelUnits$Scanner" "starts" "[I") (List.mem_of_getElem? (i := 10) rfl)) (fun _ h9 => h9) rfl hin rfl (by decide +kernel) rfl rfl (Nat.le_of_ble_eq_true rfl) dX7_init_55 (fun H locs hP hD hS => ?_)
  have hP : va_P (dC, dI) vwCl [(h0, .inr (9, [.ref q_1, .ref q_3, .ref q_5, .int 0, .null, .int 0, .int 0, .int 0, .ref q_7, .ref q_9, .ref q_11, .null, .int 0])), (q_1, .inl (cy_2, 6001, .inl (fun _ => 0))), (q_3, .inl (cy_4, 6001, .inl (fun _ => 0))), (q_5, .inl (cy_6, 6001, .inl (fun _ => 0))), (q_7, .inl (cy_8, 256, .inl (fun _ => 0))), (q_9, .inl (cy_10, 3001, .inl (fun _ => 0))), (q_11, .inl (cy_12, 3001, .inl (fun _ => 0)))] H := hP
  have hD : va_D A [(h0, .inr (9, [.ref q_1, .ref q_3, .ref q_5, .int 0, .null, .int 0, .int 0, .int 0, .ref q_7, .ref q_9, .ref q_11, .null, .int 0])), (q_1, .inl (cy_2, 6001, .inl (fun _ => 0))), (q_3, .inl (cy_4, 6001, .inl (fun _ => 0))), (q_5, .inl (cy_6, 6001, .inl (fun _ => 0))), (q_7, .inl (cy_8, 256, .inl (fun _ => 0))), (q_9, .inl (cy_10, 3001, .inl (fun _ => 0))), (q_11, .inl (cy_12, 3001, .inl (fun _ => 0)))] := hD
  refine lv_aload_n hx hb dX7_init_58 rfl (lv_at hl 0 rfl) ?_
  refine lv_sipush (v := 3001) hx hb dX7_init_59 (by decide) ?_
  refine va_newa (atype := .int) (ty := .int) (a0 := (3001, .inl (fun _ => 0))) (N' := 3001) hx hb (hts (.arrayClass .int) (List.mem_of_getElem? (i := 4) rfl)) rfl hK hP hD hS hA (fun _ => rfl) (by decide) (by decide) (Nat.le_of_ble_eq_true rfl) (Nat.le_of_ble_eq_true rfl) (Nat.le_of_ble_eq_true rfl) dX7_init_62 (fun q_13 cy_14 H hK hP hD hS => ?_)
  have hK : va_K (dC, dI) vwCl [(cy_2, .int), (cy_4, .int), (cy_6, .int), (cy_8, .int), (cy_10, .int), (cy_12, .int), (cy_14, .int)] s := hK
  have hP : va_P (dC, dI) vwCl [(h0, .inr (9, [.ref q_1, .ref q_3, .ref q_5, .int 0, .null, .int 0, .int 0, .int 0, .ref q_7, .ref q_9, .ref q_11, .null, .int 0])), (q_1, .inl (cy_2, 6001, .inl (fun _ => 0))), (q_3, .inl (cy_4, 6001, .inl (fun _ => 0))), (q_5, .inl (cy_6, 6001, .inl (fun _ => 0))), (q_7, .inl (cy_8, 256, .inl (fun _ => 0))), (q_9, .inl (cy_10, 3001, .inl (fun _ => 0))), (q_11, .inl (cy_12, 3001, .inl (fun _ => 0))), (q_13, .inl (cy_14, 3001, .inl (fun _ => 0)))] H := hP
  have hD : va_D A [(h0, .inr (9, [.ref q_1, .ref q_3, .ref q_5, .int 0, .null, .int 0, .int 0, .int 0, .ref q_7, .ref q_9, .ref q_11, .null, .int 0])), (q_1, .inl (cy_2, 6001, .inl (fun _ => 0))), (q_3, .inl (cy_4, 6001, .inl (fun _ => 0))), (q_5, .inl (cy_6, 6001, .inl (fun _ => 0))), (q_7, .inl (cy_8, 256, .inl (fun _ => 0))), (q_9, .inl (cy_10, 3001, .inl (fun _ => 0))), (q_11, .inl (cy_12, 3001, .inl (fun _ => 0))), (q_13, .inl (cy_14, 3001, .inl (fun _ => 0)))] := hD
  refine W.widen (k := 7) (n := 27262) (Nat.le_of_ble_eq_true rfl) (Nat.le_of_ble_eq_true rfl) ?_
  refine va_putF (D := (dC, dI)) (ci := 9) (v := .ref q_13) (ty := .array .int) (C := RX7) (T := TX7) (N := 13) hx hb hts in_cc_Scanner_init_RX7 tyX7 tyX7_ok nmX7 hown hK hP hD hS 0 rfl rfl 11 (by decide) (hts (.fieldLink RX7 30 "LevelUnits$Scanner" "sizes" "[I") (List.mem_of_getElem? (i := 11) rfl)) (fun _ h9 => h9) rfl hin rfl (by decide +kernel) rfl rfl (Nat.le_of_ble_eq_true rfl) dX7_init_64 (fun H locs hP hD hS => ?_)
  have hP : va_P (dC, dI) vwCl [(h0, .inr (9, [.ref q_1, .ref q_3, .ref q_5, .int 0, .null, .int 0, .int 0, .int 0, .ref q_7, .ref q_9, .ref q_11, .ref q_13, .int 0])), (q_1, .inl (cy_2, 6001, .inl (fun _ => 0))), (q_3, .inl (cy_4, 6001, .inl (fun _ => 0))), (q_5, .inl (cy_6, 6001, .inl (fun _ => 0))), (q_7, .inl (cy_8, 256, .inl (fun _ => 0))), (q_9, .inl (cy_10, 3001, .inl (fun _ => 0))), (q_11, .inl (cy_12, 3001, .inl (fun _ => 0))), (q_13, .inl (cy_14, 3001, .inl (fun _ => 0)))] H := hP
  have hD : va_D A [(h0, .inr (9, [.ref q_1, .ref q_3, .ref q_5, .int 0, .null, .int 0, .int 0, .int 0, .ref q_7, .ref q_9, .ref q_11, .ref q_13, .int 0])), (q_1, .inl (cy_2, 6001, .inl (fun _ => 0))), (q_3, .inl (cy_4, 6001, .inl (fun _ => 0))), (q_5, .inl (cy_6, 6001, .inl (fun _ => 0))), (q_7, .inl (cy_8, 256, .inl (fun _ => 0))), (q_9, .inl (cy_10, 3001, .inl (fun _ => 0))), (q_11, .inl (cy_12, 3001, .inl (fun _ => 0))), (q_13, .inl (cy_14, 3001, .inl (fun _ => 0)))] := hD
  have hP9 := hP.sub (ws' := [(h0, .inr (9, [.ref q_1, .ref q_3, .ref q_5, .int 0, .null, .int 0, .int 0, .int 0, .ref q_7, .ref q_9, .ref q_11, .ref q_13, .int 0])), (q_1, .inl (cy_2, 6001, .inl (fun _ => 0))), (q_3, .inl (cy_4, 6001, .inl (fun _ => 0))), (q_5, .inl (cy_6, 6001, .inl (fun _ => 0))), (q_7, .inl (cy_8, 256, .inl (fun _ => 0))), (q_9, .inl (cy_10, 3001, .inl (fun _ => 0))), (q_11, .inl (cy_12, 3001, .inl (fun _ => 0))), (q_13, .inl (cy_14, 3001, .inl (fun _ => 0)))]) [0, 1, 2, 3, 4, 5, 6, 7] rfl
  have hD9 := hD.sub (ws' := [(h0, .inr (9, [.ref q_1, .ref q_3, .ref q_5, .int 0, .null, .int 0, .int 0, .int 0, .ref q_7, .ref q_9, .ref q_11, .ref q_13, .int 0])), (q_1, .inl (cy_2, 6001, .inl (fun _ => 0))), (q_3, .inl (cy_4, 6001, .inl (fun _ => 0))), (q_5, .inl (cy_6, 6001, .inl (fun _ => 0))), (q_7, .inl (cy_8, 256, .inl (fun _ => 0))), (q_9, .inl (cy_10, 3001, .inl (fun _ => 0))), (q_11, .inl (cy_12, 3001, .inl (fun _ => 0))), (q_13, .inl (cy_14, 3001, .inl (fun _ => 0)))]) [0, 1, 2, 3, 4, 5, 6, 7] (by decide) rfl
  have hK9 := hK.sub (tys' := [(cy_2, .int), (cy_4, .int), (cy_6, .int), (cy_8, .int), (cy_10, .int), (cy_12, .int), (cy_14, .int)]) [0, 1, 2, 3, 4, 5, 6] rfl
  refine W.widen (k := 7) (n := 27262) (Nat.le_of_ble_eq_true rfl) (Nat.le_of_ble_eq_true rfl) ?_
  exact W.vret hx hb hr (fun t ht hW => ⟨⟨(), rfl, trivial, q_1, q_3, q_5, q_7, q_9, q_11, q_13, cy_2, cy_4, cy_6, cy_8, cy_10, cy_12, cy_14, by rw [ht]; exact hP9, va_K.moved hW.alike hK9, hD9⟩, hS.F ht⟩) hS.2.2 dX7_init_67
def ws_cc_Machine_init : List Cond := .code yX2_init cX2_init 1 none :: ([.methodLink RX2 3 objectInit, .instanceMethod objectInit, .code objectInit ⟨#[0xb1]⟩ 1 none, .arrayClass .int, .fieldLink RX2 9 "LevelUnits$Machine" "globals" "[I", .fieldLink RX2 15 "LevelUnits$Machine" "heap" "[I", .fieldLink RX2 18 "LevelUnits$Machine" "starts" "[I", .classLink RX2 21 RX4, .fieldLink RX2 23 "LevelUnits$Machine" "kinds" "[LLevelUnits$Node;", .fieldLink RX2 27 "LevelUnits$Machine" "holders" "[I", .classLink RX2 30 RX9, .fieldLink RX2 32 "LevelUnits$Machine" "strands" "[LLevelUnits$Strand;", .fieldLink RX2 36 "LevelUnits$Machine" "numbers" "[I", .fieldLink RX2 39 "LevelUnits$Machine" "values" "[I", .fieldLink RX2 42 "LevelUnits$Machine" "passed" "[I"] ++ wsX20)
theorem in_cc_Machine_init_RX2 : ∀ w ∈ wsX20, w ∈ ws_cc_Machine_init := fun _ h => List.mem_cons_of_mem _ (List.mem_append_right _ h)
set_option maxHeartbeats 4000000 in
set_option maxRecDepth 100000 in
/-- Machine(): its rows (not kept in view) -/
theorem cc_Machine_init (l : Launch) (dC : Nat → ClassId) (dI : Nat → Nat → Nat) (h0 : Nat) (sz : Nat) : Met l yX2_init ws_cc_Machine_init ({ frames := 1, cells := 9, slots := 47768, locals := 12 }) (va_Pc [.ref h0] (fun U => U.heap.size = sz ∧ va_P (dC, dI) vwCl [(h0, .inr (4, [.null, .null, .null, .null, .null, .null, .int 0, .null, .int 0, .int 0, .int 0, .null, .int 0, .null, .int 0, .null, .null, .int 0, .int 0]))] U.heap ∧ va_K (dC, dI) vwCl [] U ∧ va_D (fun _ => True) [(h0, .inr (4, [.null, .null, .null, .null, .null, .null, .int 0, .null, .int 0, .int 0, .int 0, .null, .int 0, .null, .int 0, .null, .null, .int 0, .int 0]))] ∧ va_AO RX4 U ∧ va_AO RX9 U)) (va_Qv (fun _ : Unit => True) (fun _ t => ∃ q_a : Nat, ∃ q_b : Nat, ∃ q_c : Nat, ∃ q_d : Nat, ∃ q_e : Nat, ∃ q_f : Nat, ∃ q_g : Nat, ∃ q_h : Nat, ∃ q_i : Nat, va_P (dC, dI) vwCl [(h0, .inr (4, [.null, .ref q_a, .ref q_b, .ref q_c, .ref q_d, .ref q_e, .int 0, .ref q_f, .int 0, .int 0, .int 0, .ref q_g, .int 0, .ref q_h, .int 0, .ref q_i, .null, .int 0, .int 0]))] t.heap ∧ va_K (dC, dI) vwCl [] t ∧ va_D (va_A [(h0, .inr (4, [.null, .null, .null, .null, .null, .null, .int 0, .null, .int 0, .int 0, .int 0, .null, .int 0, .null, .int 0, .null, .null, .int 0, .int 0]))] sz) [(h0, .inr (4, [.null, .ref q_a, .ref q_b, .ref q_c, .ref q_d, .ref q_e, .int 0, .ref q_f, .int 0, .int 0, .int 0, .ref q_g, .int 0, .ref q_h, .int 0, .ref q_i, .null, .int 0, .int 0]))]) (va_A [(h0, .inr (4, [.null, .null, .null, .null, .null, .null, .int 0, .null, .int 0, .int 0, .int 0, .null, .int 0, .null, .int 0, .null, .null, .int 0, .int 0]))] sz)) 9 47768 (va_A [(h0, .inr (4, [.null, .null, .null, .null, .null, .null, .int 0, .null, .int 0, .int 0, .int 0, .null, .int 0, .null, .int 0, .null, .null, .int 0, .int 0]))] sz) := by
  refine Met.ofW (cc := cX2_init) (maxL := 1) (ret := none) (by decide) rfl ?_
  intro p e s m args below meth c s₁ B hml hv
  obtain ⟨rfl, hsz, hP, hK, hD0, hN0, hN1⟩ := hv
  have hx := B.exec
  have hb := B.bytes
  have hr := B.returns
  have hts := atoms_spec (ws := ws_cc_Machine_init) B.pre
  have hown : s.vm.findClass RX2 = some m.cls := findClass_of_methodNamed B.named
  have hlocks := B.notSynchronized
  have hin : meth.name = "<init>" := (name_of_methodNamed B.named B.method).1
  subst hsz
  have hD := hD0.self (sz := s.heap.size)
  generalize hAe : va_A [(h0, .inr (4, [.null, .null, .null, .null, .null, .null, .int 0, .null, .int 0, .int 0, .int 0, .null, .int 0, .null, .int 0, .null, .null, .int 0, .int 0]))] s.heap.size = A at hD ⊢
  have hA : ∀ q : Nat, s.heap.size ≤ q → A q := fun q h => by rw [← hAe]; exact Or.inr h
  have hS : va_S A s.heap s.heap [] := va_S.rf
  have hP : va_P (dC, dI) vwCl [(h0, .inr (4, [.null, .null, .null, .null, .null, .null, .int 0, .null, .int 0, .int 0, .int 0, .null, .int 0, .null, .int 0, .null, .null, .int 0, .int 0]))] s.heap := hP
  have hl := lv_entry ([.ref h0]) (n := 1) (Nat.le_of_ble_eq_true rfl)
  rw [lg_entry_eq]
  generalize (lg_sl ([.ref h0]) ++ List.replicate (1 - (lg_sl ([.ref h0])).length) Slot.unset).toArray = ls at hl ⊢
  have hl : lv_has ls 1 [(0, .ref h0)] := hl
  refine lv_aload_n hx hb dX2_init_0 rfl (lv_at hl 0 rfl) ?_
  refine W.objInit hx hb hown (hts (.methodLink RX2 3 objectInit) (List.mem_of_getElem? (i := 1) rfl)) (hts (.instanceMethod objectInit) (List.mem_of_getElem? (i := 2) rfl)) (hts (.code objectInit ⟨#[0xb1]⟩ 1 none) (List.mem_of_getElem? (i := 3) rfl)) rfl (by rw [hml]; exact hl.1) rfl dX2_init_1 (Nat.le_of_ble_eq_true rfl) (Nat.le_of_ble_eq_true rfl) ?_
  refine W.eq (g2 := F0 m 4 ls []) rfl ?_
  refine lv_aload_n hx hb dX2_init_4 rfl (lv_at hl 0 rfl) ?_
  refine lv_sipush (v := 5000) hx hb dX2_init_5 (by decide) ?_
  refine va_newa (atype := .int) (ty := .int) (a0 := (5000, .inl (fun _ => 0))) (N' := 5000) hx hb (hts (.arrayClass .int) (List.mem_of_getElem? (i := 4) rfl)) rfl hK hP hD hS hA (fun _ => rfl) (by decide) (by decide) (Nat.le_of_ble_eq_true rfl) (Nat.le_of_ble_eq_true rfl) (Nat.le_of_ble_eq_true rfl) dX2_init_8 (fun q_1 cy_2 H hK hP hD hS => ?_)
  have hK : va_K (dC, dI) vwCl [(cy_2, .int)] s := hK
  have hP : va_P (dC, dI) vwCl [(h0, .inr (4, [.null, .null, .null, .null, .null, .null, .int 0, .null, .int 0, .int 0, .int 0, .null, .int 0, .null, .int 0, .null, .null, .int 0, .int 0])), (q_1, .inl (cy_2, 5000, .inl (fun _ => 0)))] H := hP
  have hD : va_D A [(h0, .inr (4, [.null, .null, .null, .null, .null, .null, .int 0, .null, .int 0, .int 0, .int 0, .null, .int 0, .null, .int 0, .null, .null, .int 0, .int 0])), (q_1, .inl (cy_2, 5000, .inl (fun _ => 0)))] := hD
  refine W.widen (k := 1) (n := 5000) (Nat.le_of_ble_eq_true rfl) (Nat.le_of_ble_eq_true rfl) ?_
  refine va_putF (D := (dC, dI)) (ci := 4) (v := .ref q_1) (ty := .array .int) (C := RX2) (T := TX2) (N := 19) hx hb hts in_cc_Machine_init_RX2 tyX2 tyX2_ok nmX2 hown hK hP hD hS 0 rfl rfl 1 (by decide) (hts (.fieldLink RX2 9 "LevelUnits$Machine" "globals" "[I") (List.mem_of_getElem? (i := 5) rfl)) (fun _ h9 => h9) rfl hin rfl (by decide +kernel) rfl rfl (Nat.le_of_ble_eq_true rfl) dX2_init_10 (fun H locs hP hD hS => ?_)
  have hP : va_P (dC, dI) vwCl [(h0, .inr (4, [.null, .ref q_1, .null, .null, .null, .null, .int 0, .null, .int 0, .int 0, .int 0, .null, .int 0, .null, .int 0, .null, .null, .int 0, .int 0])), (q_1, .inl (cy_2, 5000, .inl (fun _ => 0)))] H := hP
  have hD : va_D A [(h0, .inr (4, [.null, .ref q_1, .null, .null, .null, .null, .int 0, .null, .int 0, .int 0, .int 0, .null, .int 0, .null, .int 0, .null, .null, .int 0, .int 0])), (q_1, .inl (cy_2, 5000, .inl (fun _ => 0)))] := hD
  refine lv_aload_n hx hb dX2_init_13 rfl (lv_at hl 0 rfl) ?_
  refine lv_sipush (v := 20000) hx hb dX2_init_14 (by decide) ?_
  refine va_newa (atype := .int) (ty := .int) (a0 := (20000, .inl (fun _ => 0))) (N' := 20000) hx hb (hts (.arrayClass .int) (List.mem_of_getElem? (i := 4) rfl)) rfl hK hP hD hS hA (fun _ => rfl) (by decide) (by decide) (Nat.le_of_ble_eq_true rfl) (Nat.le_of_ble_eq_true rfl) (Nat.le_of_ble_eq_true rfl) dX2_init_17 (fun q_3 cy_4 H hK hP hD hS => ?_)
  have hK : va_K (dC, dI) vwCl [(cy_2, .int), (cy_4, .int)] s := hK
  have hP : va_P (dC, dI) vwCl [(h0, .inr (4, [.null, .ref q_1, .null, .null, .null, .null, .int 0, .null, .int 0, .int 0, .int 0, .null, .int 0, .null, .int 0, .null, .null, .int 0, .int 0])), (q_1, .inl (cy_2, 5000, .inl (fun _ => 0))), (q_3, .inl (cy_4, 20000, .inl (fun _ => 0)))] H := hP
  have hD : va_D A [(h0, .inr (4, [.null, .ref q_1, .null, .null, .null, .null, .int 0, .null, .int 0, .int 0, .int 0, .null, .int 0, .null, .int 0, .null, .null, .int 0, .int 0])), (q_1, .inl (cy_2, 5000, .inl (fun _ => 0))), (q_3, .inl (cy_4, 20000, .inl (fun _ => 0)))] := hD
  refine W.widen (k := 2) (n := 25000) (Nat.le_of_ble_eq_true rfl) (Nat.le_of_ble_eq_true rfl) ?_
  refine va_putF (D := (dC, dI)) (ci := 4) (v := .ref q_3) (ty := .array .int) (C := RX2) (T := TX2) (N := 19) hx hb hts in_cc_Machine_init_RX2 tyX2 tyX2_ok nmX2 hown hK hP hD hS 0 rfl rfl 2 (by decide) (hts (.fieldLink RX2 15 "LevelUnits$Machine" "heap" "[I") (List.mem_of_getElem? (i := 6) rfl)) (fun _ h9 => h9) rfl hin rfl (by decide +kernel) rfl rfl (Nat.le_of_ble_eq_true rfl) dX2_init_19 (fun H locs hP hD hS => ?_)
  have hP : va_P (dC, dI) vwCl [(h0, .inr (4, [.null, .ref q_1, .ref q_3, .null, .null, .null, .int 0, .null, .int 0, .int 0, .int 0, .null, .int 0, .null, .int 0, .null, .null, .int 0, .int 0])), (q_1, .inl (cy_2, 5000, .inl (fun _ => 0))), (q_3, .inl (cy_4, 20000, .inl (fun _ => 0)))] H := hP
  have hD : va_D A [(h0, .inr (4, [.null, .ref q_1, .ref q_3, .null, .null, .null, .int 0, .null, .int 0, .int 0, .int 0, .null, .int 0, .null, .int 0, .null, .null, .int 0, .int 0])), (q_1, .inl (cy_2, 5000, .inl (fun _ => 0))), (q_3, .inl (cy_4, 20000, .inl (fun _ => 0)))] := hD
  refine lv_aload_n hx hb dX2_init_22 rfl (lv_at hl 0 rfl) ?_
  refine lv_sipush (v := 2002) hx hb dX2_init_23 (by decide) ?_
  refine va_newa (atype := .int) (ty := .int) (a0 := (2002, .inl (fun _ => 0))) (N' := 2002) hx hb (hts (.arrayClass .int) (List.mem_of_getElem? (i := 4) rfl)) rfl hK hP hD hS hA (fun _ => rfl) (by decide) (by decide) (Nat.le_of_ble_eq_true rfl) (Nat.le_of_ble_eq_true rfl) (Nat.le_of_ble_eq_true rfl) dX2_init_26 (fun q_5 cy_6 H hK hP hD hS => ?_)
  have hK : va_K (dC, dI) vwCl [(cy_2, .int), (cy_4, .int), (cy_6, .int)] s := hK
  have hP : va_P (dC, dI) vwCl [(h0, .inr (4, [.null, .ref q_1, .ref q_3, .null, .null, .null, .int 0, .null, .int 0, .int 0, .int 0, .null, .int 0, .null, .int 0, .null, .null, .int 0, .int 0])), (q_1, .inl (cy_2, 5000, .inl (fun _ => 0))), (q_3, .inl (cy_4, 20000, .inl (fun _ => 0))), (q_5, .inl (cy_6, 2002, .inl (fun _ => 0)))] H := hP
  have hD : va_D A [(h0, .inr (4, [.null, .ref q_1, .ref q_3, .null, .null, .null, .int 0, .null, .int 0, .int 0, .int 0, .null, .int 0, .null, .int 0, .null, .null, .int 0, .int 0])), (q_1, .inl (cy_2, 5000, .inl (fun _ => 0))), (q_3, .inl (cy_4, 20000, .inl (fun _ => 0))), (q_5, .inl (cy_6, 2002, .inl (fun _ => 0)))] := hD
  refine W.widen (k := 3) (n := 27002) (Nat.le_of_ble_eq_true rfl) (Nat.le_of_ble_eq_true rfl) ?_
  refine va_putF (D := (dC, dI)) (ci := 4) (v := .ref q_5) (ty := .array .int) (C := RX2) (T := TX2) (N := 19) hx hb hts in_cc_Machine_init_RX2 tyX2 tyX2_ok nmX2 hown hK hP hD hS 0 rfl rfl 3 (by decide) (hts (.fieldLink RX2 18 "LevelUnits$Machine" "starts" "[I") (List.mem_of_getElem? (i := 7) rfl)) (fun _ h9 => h9) rfl hin rfl (by decide +kernel) rfl rfl (Nat.le_of_ble_eq_true rfl) dX2_init_28 (fun H locs hP hD hS => ?_)
  have hP : va_P (dC, dI) vwCl [(h0, .inr (4, [.null, .ref q_1, .ref q_3, .ref q_5, .null, .null, .int 0, .null, .int 0, .int 0, .int 0, .null, .int 0, .null, .int 0, .null, .null, .int 0, .int 0])), (q_1, .inl (cy_2, 5000, .inl (fun _ => 0))), (q_3, .inl (cy_4, 20000, .inl (fun _ => 0))), (q_5, .inl (cy_6, 2002, .inl (fun _ => 0)))] H := hP
  have hD : va_D A [(h0, .inr (4, [.null, .ref q_1, .ref q_3, .ref q_5, .null, .null, .int 0, .null, .int 0, .int 0, .int 0, .null, .int 0, .null, .int 0, .null, .null, .int 0, .int 0])), (q_1, .inl (cy_2, 5000, .inl (fun _ => 0))), (q_3, .inl (cy_4, 20000, .inl (fun _ => 0))), (q_5, .inl (cy_6, 2002, .inl (fun _ => 0)))] := hD
  refine lv_aload_n hx hb dX2_init_31 rfl (lv_at hl 0 rfl) ?_
  refine lv_sipush (v := 2001) hx hb dX2_init_32 (by decide) ?_
  refine va_newq (C := RX4) (N' := 2001) hx hb hown (hts (.classLink RX2 21 RX4) (List.mem_of_getElem? (i := 8) rfl)) hN0 hK hP hD hS hA (by decide) (by decide) (Nat.le_of_ble_eq_true rfl) (Nat.le_of_ble_eq_true rfl) (Nat.le_of_ble_eq_true rfl) dX2_init_35 (fun q_7 cy_8 H hK hP hD hS => ?_)
  have hK : va_K (dC, dI) vwCl [(cy_2, .int), (cy_4, .int), (cy_6, .int), (cy_8, .object RX4)] s := hK
  have hP : va_P (dC, dI) vwCl [(h0, .inr (4, [.null, .ref q_1, .ref q_3, .ref q_5, .null, .null, .int 0, .null, .int 0, .int 0, .int 0, .null, .int 0, .null, .int 0, .null, .null, .int 0, .int 0])), (q_1, .inl (cy_2, 5000, .inl (fun _ => 0))), (q_3, .inl (cy_4, 20000, .inl (fun _ => 0))), (q_5, .inl (cy_6, 2002, .inl (fun _ => 0))), (q_7, .inl (cy_8, 2001, .inr (.inr (.inr (.inr (fun _ => none))))))] H := hP
  have hD : va_D A [(h0, .inr (4, [.null, .ref q_1, .ref q_3, .ref q_5, .null, .null, .int 0, .null, .int 0, .int 0, .int 0, .null, .int 0, .null, .int 0, .null, .null, .int 0, .int 0])), (q_1, .inl (cy_2, 5000, .inl (fun _ => 0))), (q_3, .inl (cy_4, 20000, .inl (fun _ => 0))), (q_5, .inl (cy_6, 2002, .inl (fun _ => 0))), (q_7, .inl (cy_8, 2001, .inr (.inr (.inr (.inr (fun _ => none))))))] := hD
  refine W.widen (k := 4) (n := 29003) (Nat.le_of_ble_eq_true rfl) (Nat.le_of_ble_eq_true rfl) ?_
  refine va_putF (D := (dC, dI)) (ci := 4) (v := .ref q_7) (ty := .array (.object "LevelUnits$Node")) (C := RX2) (T := TX2) (N := 19) hx hb hts in_cc_Machine_init_RX2 tyX2 tyX2_ok nmX2 hown hK hP hD hS 0 rfl rfl 4 (by decide) (hts (.fieldLink RX2 23 "LevelUnits$Machine" "kinds" "[LLevelUnits$Node;") (List.mem_of_getElem? (i := 9) rfl)) (fun _ h9 => h9) rfl hin rfl (by decide +kernel) rfl rfl (Nat.le_of_ble_eq_true rfl) dX2_init_38 (fun H locs hP hD hS => ?_)
  have hP : va_P (dC, dI) vwCl [(h0, .inr (4, [.null, .ref q_1, .ref q_3, .ref q_5, .ref q_7, .null, .int 0, .null, .int 0, .int 0, .int 0, .null, .int 0, .null, .int 0, .null, .null, .int 0, .int 0])), (q_1, .inl (cy_2, 5000, .inl (fun _ => 0))), (q_3, .inl (cy_4, 20000, .inl (fun _ => 0))), (q_5, .inl (cy_6, 2002, .inl (fun _ => 0))), (q_7, .inl (cy_8, 2001, .inr (.inr (.inr (.inr (fun _ => none))))))] H := hP
  have hD : va_D A [(h0, .inr (4, [.null, .ref q_1, .ref q_3, .ref q_5, .ref q_7, .null, .int 0, .null, .int 0, .int 0, .int 0, .null, .int 0, .null, .int 0, .null, .null, .int 0, .int 0])), (q_1, .inl (cy_2, 5000, .inl (fun _ => 0))), (q_3, .inl (cy_4, 20000, .inl (fun _ => 0))), (q_5, .inl (cy_6, 2002, .inl (fun _ => 0))), (q_7, .inl (cy_8, 2001, .inr (.inr (.inr (.inr (fun _ => none))))))] := hD
  refine lv_aload_n hx hb dX2_init_41 rfl (lv_at hl 0 rfl) ?_
  refine lv_sipush (v := 2001) hx hb dX2_init_42 (by decide) ?_
  refine va_newa (atype := .int) (ty := .int) (a0 := (2001, .inl (fun _ => 0))) (N' := 2001) hx hb (hts (.arrayClass .int) (List.mem_of_getElem? (i := 4) rfl)) rfl hK hP hD hS hA (fun _ => rfl) (by decide) (by decide) (Nat.le_of_ble_eq_true rfl) (Nat.le_of_ble_eq_true rfl) (Nat.le_of_ble_eq_true rfl) dX2_init_45 (fun q_9 cy_10 H hK hP hD hS => ?_)
  have hK : va_K (dC, dI) vwCl [(cy_2, .int), (cy_4, .int), (cy_6, .int), (cy_8, .object RX4), (cy_10, .int)] s := hK
  have hP : va_P (dC, dI) vwCl [(h0, .inr (4, [.null, .ref q_1, .ref q_3, .ref q_5, .ref q_7, .null, .int 0, .null, .int 0, .int 0, .int 0, .null, .int 0, .null, .int 0, .null, .null, .int 0, .int 0])), (q_1, .inl (cy_2, 5000, .inl (fun _ => 0))), (q_3, .inl (cy_4, 20000, .inl (fun _ => 0))), (q_5, .inl (cy_6, 2002, .inl (fun _ => 0))), (q_7, .inl (cy_8, 2001, .inr (.inr (.inr (.inr (fun _ => none)))))), (q_9, .inl (cy_10, 2001, .inl (fun _ => 0)))] H := hP
  have hD : va_D A [(h0, .inr (4, [.null, .ref q_1, .ref q_3, .ref q_5, .ref q_7, .null, .int 0, .null, .int 0, .int 0, .int 0, .null, .int 0, .null, .int 0, .null, .null, .int 0, .int 0])), (q_1, .inl (cy_2, 5000, .inl (fun _ => 0))), (q_3, .inl (cy_4, 20000, .inl (fun _ => 0))), (q_5, .inl (cy_6, 2002, .inl (fun _ => 0))), (q_7, .inl (cy_8, 2001, .inr (.inr (.inr (.inr (fun _ => none)))))), (q_9, .inl (cy_10, 2001, .inl (fun _ => 0)))] := hD
  refine W.widen (k := 5) (n := 31004) (Nat.le_of_ble_eq_true rfl) (Nat.le_of_ble_eq_true rfl) ?_
  refine va_putF (D := (dC, dI)) (ci := 4) (v := .ref q_9) (ty := .array .int) (C := RX2) (T := TX2) (N := 19) hx hb hts in_cc_Machine_init_RX2 tyX2 tyX2_ok nmX2 hown hK hP hD hS 0 rfl rfl 5 (by decide) (hts (.fieldLink RX2 27 "LevelUnits$Machine" "holders" "[I") (List.mem_of_getElem? (i := 10) rfl)) (fun _ h9 => h9) rfl hin rfl (by decide +kernel) rfl rfl (Nat.le_of_ble_eq_true rfl) dX2_init_47 (fun H locs hP hD hS => ?_)
  have hP : va_P (dC, dI) vwCl [(h0, .inr (4, [.null, .ref q_1, .ref q_3, .ref q_5, .ref q_7, .ref q_9, .int 0, .null, .int 0, .int 0, .int 0, .null, .int 0, .null, .int 0, .null, .null, .int 0, .int 0])), (q_1, .inl (cy_2, 5000, .inl (fun _ => 0))), (q_3, .inl (cy_4, 20000, .inl (fun _ => 0))), (q_5, .inl (cy_6, 2002, .inl (fun _ => 0))), (q_7, .inl (cy_8, 2001, .inr (.inr (.inr (.inr (fun _ => none)))))), (q_9, .inl (cy_10, 2001, .inl (fun _ => 0)))] H := hP
  have hD : va_D A [(h0, .inr (4, [.null, .ref q_1, .ref q_3, .ref q_5, .ref q_7, .ref q_9, .int 0, .null, .int 0, .int 0, .int 0, .null, .int 0, .null, .int 0, .null, .null, .int 0, .int 0])), (q_1, .inl (cy_2, 5000, .inl (fun _ => 0))), (q_3, .inl (cy_4, 20000, .inl (fun _ => 0))), (q_5, .inl (cy_6, 2002, .inl (fun _ => 0))), (q_7, .inl (cy_8, 2001, .inr (.inr (.inr (.inr (fun _ => none)))))), (q_9, .inl (cy_10, 2001, .inl (fun _ => 0)))] := hD
  refine lv_aload_n hx hb dX2_init_50 rfl (lv_at hl 0 rfl) ?_
  refine lv_bipush (v := 64) hx hb dX2_init_51 (by decide) ?_
  refine va_newq (C := RX9) (N' := 64) hx hb hown (hts (.classLink RX2 30 RX9) (List.mem_of_getElem? (i := 11) rfl)) hN1 hK hP hD hS hA (by decide) (by decide) (Nat.le_of_ble_eq_true rfl) (Nat.le_of_ble_eq_true rfl) (Nat.le_of_ble_eq_true rfl) dX2_init_53 (fun q_11 cy_12 H hK hP hD hS => ?_)
  have hK : va_K (dC, dI) vwCl [(cy_2, .int), (cy_4, .int), (cy_6, .int), (cy_8, .object RX4), (cy_10, .int), (cy_12, .object RX9)] s := hK
  have hP : va_P (dC, dI) vwCl [(h0, .inr (4, [.null, .ref q_1, .ref q_3, .ref q_5, .ref q_7, .ref q_9, .int 0, .null, .int 0, .int 0, .int 0, .null, .int 0, .null, .int 0, .null, .null, .int 0, .int 0])), (q_1, .inl (cy_2, 5000, .inl (fun _ => 0))), (q_3, .inl (cy_4, 20000, .inl (fun _ => 0))), (q_5, .inl (cy_6, 2002, .inl (fun _ => 0))), (q_7, .inl (cy_8, 2001, .inr (.inr (.inr (.inr (fun _ => none)))))), (q_9, .inl (cy_10, 2001, .inl (fun _ => 0))), (q_11, .inl (cy_12, 64, .inr (.inr (.inr (.inr (fun _ => none))))))] H := hP
  have hD : va_D A [(h0, .inr (4, [.null, .ref q_1, .ref q_3, .ref q_5, .ref q_7, .ref q_9, .int 0, .null, .int 0, .int 0, .int 0, .null, .int 0, .null, .int 0, .null, .null, .int 0, .int 0])), (q_1, .inl (cy_2, 5000, .inl (fun _ => 0))), (q_3, .inl (cy_4, 20000, .inl (fun _ => 0))), (q_5, .inl (cy_6, 2002, .inl (fun _ => 0))), (q_7, .inl (cy_8, 2001, .inr (.inr (.inr (.inr (fun _ => none)))))), (q_9, .inl (cy_10, 2001, .inl (fun _ => 0))), (q_11, .inl (cy_12, 64, .inr (.inr (.inr (.inr (fun _ => none))))))] := hD
  refine W.widen (k := 6) (n := 31068) (Nat.le_of_ble_eq_true rfl) (Nat.le_of_ble_eq_true rfl) ?_
  refine va_putF (D := (dC, dI)) (ci := 4) (v := .ref q_11) (ty := .array (.object "LevelUnits$Strand")) (C := RX2) (T := TX2) (N := 19) hx hb hts in_cc_Machine_init_RX2 tyX2 tyX2_ok nmX2 hown hK hP hD hS 0 rfl rfl 7 (by decide) (hts (.fieldLink RX2 32 "LevelUnits$Machine" "strands" "[LLevelUnits$Strand;") (List.mem_of_getElem? (i := 12) rfl)) (fun _ h9 => h9) rfl hin rfl (by decide +kernel) rfl rfl (Nat.le_of_ble_eq_true rfl) dX2_init_56 (fun H locs hP hD hS => ?_)
  have hP : va_P (dC, dI) vwCl [(h0, .inr (4, [.null, .ref q_1, .ref q_3, .ref q_5, .ref q_7, .ref q_9, .int 0, .ref q_11, .int 0, .int 0, .int 0, .null, .int 0, .null, .int 0, .null, .null, .int 0, .int 0])), (q_1, .inl (cy_2, 5000, .inl (fun _ => 0))), (q_3, .inl (cy_4, 20000, .inl (fun _ => 0))), (q_5, .inl (cy_6, 2002, .inl (fun _ => 0))), (q_7, .inl (cy_8, 2001, .inr (.inr (.inr (.inr (fun _ => none)))))), (q_9, .inl (cy_10, 2001, .inl (fun _ => 0))), (q_11, .inl (cy_12, 64, .inr (.inr (.inr (.inr (fun _ => none))))))] H := hP
  have hD : va_D A [(h0, .inr (4, [.null, .ref q_1, .ref q_3, .ref q_5, .ref q_7, .ref q_9, .int 0, .ref q_11, .int 0, .int 0, .int 0, .null, .int 0, .null, .int 0, .null, .null, .int 0, .int 0])), (q_1, .inl (cy_2, 5000, .inl (fun _ => 0))), (q_3, .inl (cy_4, 20000, .inl (fun _ => 0))), (q_5, .inl (cy_6, 2002, .inl (fun _ => 0))), (q_7, .inl (cy_8, 2001, .inr (.inr (.inr (.inr (fun _ => none)))))), (q_9, .inl (cy_10, 2001, .inl (fun _ => 0))), (q_11, .inl (cy_12, 64, .inr (.inr (.inr (.inr (fun _ => none))))))] := hD
  refine lv_aload_n hx hb dX2_init_59 rfl (lv_at hl 0 rfl) ?_
  refine lv_sipush (v := 500) hx hb dX2_init_60 (by decide) ?_
  refine va_newa (atype := .int) (ty := .int) (a0 := (500, .inl (fun _ => 0))) (N' := 500) hx hb (hts (.arrayClass .int) (List.mem_of_getElem? (i := 4) rfl)) rfl hK hP hD hS hA (fun _ => rfl) (by decide) (by decide) (Nat.le_of_ble_eq_true rfl) (Nat.le_of_ble_eq_true rfl) (Nat.le_of_ble_eq_true rfl) dX2_init_63 (fun q_13 cy_14 H hK hP hD hS => ?_)
  have hK : va_K (dC, dI) vwCl [(cy_2, .int), (cy_4, .int), (cy_6, .int), (cy_8, .object RX4), (cy_10, .int), (cy_12, .object RX9), (cy_14, .int)] s := hK
  have hP : va_P (dC, dI) vwCl [(h0, .inr (4, [.null, .ref q_1, .ref q_3, .ref q_5, .ref q_7, .ref q_9, .int 0, .ref q_11, .int 0, .int 0, .int 0, .null, .int 0, .null, .int 0, .null, .null, .int 0, .int 0])), (q_1, .inl (cy_2, 5000, .inl (fun _ => 0))), (q_3, .inl (cy_4, 20000, .inl (fun _ => 0))), (q_5, .inl (cy_6, 2002, .inl (fun _ => 0))), (q_7, .inl (cy_8, 2001, .inr (.inr (.inr (.inr (fun _ => none)))))), (q_9, .inl (cy_10, 2001, .inl (fun _ => 0))), (q_11, .inl (cy_12, 64, .inr (.inr (.inr (.inr (fun _ => none)))))), (q_13, .inl (cy_14, 500, .inl (fun _ => 0)))] H := hP
  have hD : va_D A [(h0, .inr (4, [.null, .ref q_1, .ref q_3, .ref q_5, .ref q_7, .ref q_9, .int 0, .ref q_11, .int 0, .int 0, .int 0, .null, .int 0, .null, .int 0, .null, .null, .int 0, .int 0])), (q_1, .inl (cy_2, 5000, .inl (fun _ => 0))), (q_3, .inl (cy_4, 20000, .inl (fun _ => 0))), (q_5, .inl (cy_6, 2002, .inl (fun _ => 0))), (q_7, .inl (cy_8, 2001, .inr (.inr (.inr (.inr (fun _ => none)))))), (q_9, .inl (cy_10, 2001, .inl (fun _ => 0))), (q_11, .inl (cy_12, 64, .inr (.inr (.inr (.inr (fun _ => none)))))), (q_13, .inl (cy_14, 500, .inl (fun _ => 0)))] := hD
  refine W.widen (k := 7) (n := 31568) (Nat.le_of_ble_eq_true rfl) (Nat.le_of_ble_eq_true rfl) ?_
  refine va_putF (D := (dC, dI)) (ci := 4) (v := .ref q_13) (ty := .array .int) (C := RX2) (T := TX2) (N := 19) hx hb hts in_cc_Machine_init_RX2 tyX2 tyX2_ok nmX2 hown hK hP hD hS 0 rfl rfl 11 (by decide) (hts (.fieldLink RX2 36 "LevelUnits$Machine" "numbers" "[I") (List.mem_of_getElem? (i := 13) rfl)) (fun _ h9 => h9) rfl hin rfl (by decide +kernel) rfl rfl (Nat.le_of_ble_eq_true rfl) dX2_init_65 (fun H locs hP hD hS => ?_)
  have hP : va_P (dC, dI) vwCl [(h0, .inr (4, [.null, .ref q_1, .ref q_3, .ref q_5, .ref q_7, .ref q_9, .int 0, .ref q_11, .int 0, .int 0, .int 0, .ref q_13, .int 0, .null, .int 0, .null, .null, .int 0, .int 0])), (q_1, .inl (cy_2, 5000, .inl (fun _ => 0))), (q_3, .inl (cy_4, 20000, .inl (fun _ => 0))), (q_5, .inl (cy_6, 2002, .inl (fun _ => 0))), (q_7, .inl (cy_8, 2001, .inr (.inr (.inr (.inr (fun _ => none)))))), (q_9, .inl (cy_10, 2001, .inl (fun _ => 0))), (q_11, .inl (cy_12, 64, .inr (.inr (.inr (.inr (fun _ => none)))))), (q_13, .inl (cy_14, 500, .inl (fun _ => 0)))] H := hP
  have hD : va_D A [(h0, .inr (4, [.null, .ref q_1, .ref q_3, .ref q_5, .ref q_7, .ref q_9, .int 0, .ref q_11, .int 0, .int 0, .int 0, .ref q_13, .int 0, .null, .int 0, .null, .null, .int 0, .int 0])), (q_1, .inl (cy_2, 5000, .inl (fun _ => 0))), (q_3, .inl (cy_4, 20000, .inl (fun _ => 0))), (q_5, .inl (cy_6, 2002, .inl (fun _ => 0))), (q_7, .inl (cy_8, 2001, .inr (.inr (.inr (.inr (fun _ => none)))))), (q_9, .inl (cy_10, 2001, .inl (fun _ => 0))), (q_11, .inl (cy_12, 64, .inr (.inr (.inr (.inr (fun _ => none)))))), (q_13, .inl (cy_14, 500, .inl (fun _ => 0)))] := hD
  refine lv_aload_n hx hb dX2_init_68 rfl (lv_at hl 0 rfl) ?_
  refine lv_sipush (v := 200) hx hb dX2_init_69 (by decide) ?_
  refine va_newa (atype := .int) (ty := .int) (a0 := (200, .inl (fun _ => 0))) (N' := 200) hx hb (hts (.arrayClass .int) (List.mem_of_getElem? (i := 4) rfl)) rfl hK hP hD hS hA (fun _ => rfl) (by decide) (by decide) (Nat.le_of_ble_eq_true rfl) (Nat.le_of_ble_eq_true rfl) (Nat.le_of_ble_eq_true rfl) dX2_init_72 (fun q_15 cy_16 H hK hP hD hS => ?_)
  have hK : va_K (dC, dI) vwCl [(cy_2, .int), (cy_4, .int), (cy_6, .int), (cy_8, .object RX4), (cy_10, .int), (cy_12, .object RX9), (cy_14, .int), (cy_16, .int)] s := hK
  have hP : va_P (dC, dI) vwCl [(h0, .inr (4, [.null, .ref q_1, .ref q_3, .ref q_5, .ref q_7, .ref q_9, .int 0, .ref q_11, .int 0, .int 0, .int 0, .ref q_13, .int 0, .null, .int 0, .null, .null, .int 0, .int 0])), (q_1, .inl (cy_2, 5000, .inl (fun _ => 0))), (q_3, .inl (cy_4, 20000, .inl (fun _ => 0))), (q_5, .inl (cy_6, 2002, .inl (fun _ => 0))), (q_7, .inl (cy_8, 2001, .inr (.inr (.inr (.inr (fun _ => none)))))), (q_9, .inl (cy_10, 2001, .inl (fun _ => 0))), (q_11, .inl (cy_12, 64, .inr (.inr (.inr (.inr (fun _ => none)))))), (q_13, .inl (cy_14, 500, .inl (fun _ => 0))), (q_15, .inl (cy_16, 200, .inl (fun _ => 0)))] H := hP
  have hD : va_D A [(h0, .inr (4, [.null, .ref q_1, .ref q_3, .ref q_5, .ref q_7, .ref q_9, .int 0, .ref q_11, .int 0, .int 0, .int 0, .ref q_13, .int 0, .null, .int 0, .null, .null, .int 0, .int 0])), (q_1, .inl (cy_2, 5000, .inl (fun _ => 0))), (q_3, .inl (cy_4, 20000, .inl (fun _ => 0))), (q_5, .inl (cy_6, 2002, .inl (fun _ => 0))), (q_7, .inl (cy_8, 2001, .inr (.inr (.inr (.inr (fun _ => none)))))), (q_9, .inl (cy_10, 2001, .inl (fun _ => 0))), (q_11, .inl (cy_12, 64, .inr (.inr (.inr (.inr (fun _ => none)))))), (q_13, .inl (cy_14, 500, .inl (fun _ => 0))), (q_15, .inl (cy_16, 200, .inl (fun _ => 0)))] := hD
  refine W.widen (k := 8) (n := 31768) (Nat.le_of_ble_eq_true rfl) (Nat.le_of_ble_eq_true rfl) ?_
  refine va_putF (D := (dC, dI)) (ci := 4) (v := .ref q_15) (ty := .array .int) (C := RX2) (T := TX2) (N := 19) hx hb hts in_cc_Machine_init_RX2 tyX2 tyX2_ok nmX2 hown hK hP hD hS 0 rfl rfl 13 (by decide) (hts (.fieldLink RX2 39 "LevelUnits$Machine" "values" "[I") (List.mem_of_getElem? (i := 14) rfl)) (fun _ h9 => h9) rfl hin rfl (by decide +kernel) rfl rfl (Nat.le_of_ble_eq_true rfl) dX2_init_74 (fun H locs hP hD hS => ?_)
  have hP : va_P (dC, dI) vwCl [(h0, .inr (4, [.null, .ref q_1, .ref q_3, .ref q_5, .ref q_7, .ref q_9, .int 0, .ref q_11, .int 0, .int 0, .int 0, .ref q_13, .int 0, .ref q_15, .int 0, .null, .null, .int 0, .int 0])), (q_1, .inl (cy_2, 5000, .inl (fun _ => 0))), (q_3, .inl (cy_4, 20000, .inl (fun _ => 0))), (q_5, .inl (cy_6, 2002, .inl (fun _ => 0))), (q_7, .inl (cy_8, 2001, .inr (.inr (.inr (.inr (fun _ => none)))))), (q_9, .inl (cy_10, 2001, .inl (fun _ => 0))), (q_11, .inl (cy_12, 64, .inr (.inr (.inr (.inr (fun _ => none)))))), (q_13, .inl (cy_14, 500, .inl (fun _ => 0))), (q_15, .inl (cy_16, 200, .inl (fun _ => 0)))] H := hP
  have hD : va_D A [(h0, .inr (4, [.null, .ref q_1, .ref q_3, .ref q_5, .ref q_7, .ref q_9, .int 0, .ref q_11, .int 0, .int 0, .int 0, .ref q_13, .int 0, .ref q_15, .int 0, .null, .null, .int 0, .int 0])), (q_1, .inl (cy_2, 5000, .inl (fun _ => 0))), (q_3, .inl (cy_4, 20000, .inl (fun _ => 0))), (q_5, .inl (cy_6, 2002, .inl (fun _ => 0))), (q_7, .inl (cy_8, 2001, .inr (.inr (.inr (.inr (fun _ => none)))))), (q_9, .inl (cy_10, 2001, .inl (fun _ => 0))), (q_11, .inl (cy_12, 64, .inr (.inr (.inr (.inr (fun _ => none)))))), (q_13, .inl (cy_14, 500, .inl (fun _ => 0))), (q_15, .inl (cy_16, 200, .inl (fun _ => 0)))] := hD
  refine lv_aload_n hx hb dX2_init_77 rfl (lv_at hl 0 rfl) ?_
  refine lv_sipush (v := 16000) hx hb dX2_init_78 (by decide) ?_
  refine va_newa (atype := .int) (ty := .int) (a0 := (16000, .inl (fun _ => 0))) (N' := 16000) hx hb (hts (.arrayClass .int) (List.mem_of_getElem? (i := 4) rfl)) rfl hK hP hD hS hA (fun _ => rfl) (by decide) (by decide) (Nat.le_of_ble_eq_true rfl) (Nat.le_of_ble_eq_true rfl) (Nat.le_of_ble_eq_true rfl) dX2_init_81 (fun q_17 cy_18 H hK hP hD hS => ?_)
  have hK : va_K (dC, dI) vwCl [(cy_2, .int), (cy_4, .int), (cy_6, .int), (cy_8, .object RX4), (cy_10, .int), (cy_12, .object RX9), (cy_14, .int), (cy_16, .int), (cy_18, .int)] s := hK
  have hP : va_P (dC, dI) vwCl [(h0, .inr (4, [.null, .ref q_1, .ref q_3, .ref q_5, .ref q_7, .ref q_9, .int 0, .ref q_11, .int 0, .int 0, .int 0, .ref q_13, .int 0, .ref q_15, .int 0, .null, .null, .int 0, .int 0])), (q_1, .inl (cy_2, 5000, .inl (fun _ => 0))), (q_3, .inl (cy_4, 20000, .inl (fun _ => 0))), (q_5, .inl (cy_6, 2002, .inl (fun _ => 0))), (q_7, .inl (cy_8, 2001, .inr (.inr (.inr (.inr (fun _ => none)))))), (q_9, .inl (cy_10, 2001, .inl (fun _ => 0))), (q_11, .inl (cy_12, 64, .inr (.inr (.inr (.inr (fun _ => none)))))), (q_13, .inl (cy_14, 500, .inl (fun _ => 0))), (q_15, .inl (cy_16, 200, .inl (fun _ => 0))), (q_17, .inl (cy_18, 16000, .inl (fun _ => 0)))] H := hP
  have hD : va_D A [(h0, .inr (4, [.null, .ref q_1, .ref q_3, .ref q_5, .ref q_7, .ref q_9, .int 0, .ref q_11, .int 0, .int 0, .int 0, .ref q_13, .int 0, .ref q_15, .int 0, .null, .null, .int 0, .int 0])), (q_1, .inl (cy_2, 5000, .inl (fun _ => 0))), (q_3, .inl (cy_4, 20000, .inl (fun _ => 0))), (q_5, .inl (cy_6, 2002, .inl (fun _ => 0))), (q_7, .inl (cy_8, 2001, .inr (.inr (.inr (.inr (fun _ => none)))))), (q_9, .inl (cy_10, 2001, .inl (fun _ => 0))), (q_11, .inl (cy_12, 64, .inr (.inr (.inr (.inr (fun _ => none)))))), (q_13, .inl (cy_14, 500, .inl (fun _ => 0))), (q_15, .inl (cy_16, 200, .inl (fun _ => 0))), (q_17, .inl (cy_18, 16000, .inl (fun _ => 0)))] := hD
  refine W.widen (k := 9) (n := 47768) (Nat.le_of_ble_eq_true rfl) (Nat.le_of_ble_eq_true rfl) ?_
  refine va_putF (D := (dC, dI)) (ci := 4) (v := .ref q_17) (ty := .array .int) (C := RX2) (T := TX2) (N := 19) hx hb hts in_cc_Machine_init_RX2 tyX2 tyX2_ok nmX2 hown hK hP hD hS 0 rfl rfl 15 (by decide) (hts (.fieldLink RX2 42 "LevelUnits$Machine" "passed" "[I") (List.mem_of_getElem? (i := 15) rfl)) (fun _ h9 => h9) rfl hin rfl (by decide +kernel) rfl rfl (Nat.le_of_ble_eq_true rfl) dX2_init_83 (fun H locs hP hD hS => ?_)
  have hP : va_P (dC, dI) vwCl [(h0, .inr (4, [.null, .ref q_1, .ref q_3, .ref q_5, .ref q_7, .ref q_9, .int 0, .ref q_11, .int 0, .int 0, .int 0, .ref q_13, .int 0, .ref q_15, .int 0, .ref q_17, .null, .int 0, .int 0])), (q_1, .inl (cy_2, 5000, .inl (fun _ => 0))), (q_3, .inl (cy_4, 20000, .inl (fun _ => 0))), (q_5, .inl (cy_6, 2002, .inl (fun _ => 0))), (q_7, .inl (cy_8, 2001, .inr (.inr (.inr (.inr (fun _ => none)))))), (q_9, .inl (cy_10, 2001, .inl (fun _ => 0))), (q_11, .inl (cy_12, 64, .inr (.inr (.inr (.inr (fun _ => none)))))), (q_13, .inl (cy_14, 500, .inl (fun _ => 0))), (q_15, .inl (cy_16, 200, .inl (fun _ => 0))), (q_17, .inl (cy_18, 16000, .inl (fun _ => 0)))] H := hP
  have hD : va_D A [(h0, .inr (4, [.null, .ref q_1, .ref q_3, .ref q_5, .ref q_7, .ref q_9, .int 0, .ref q_11, .int 0, .int 0, .int 0, .ref q_13, .int 0, .ref q_15, .int 0, .ref q_17, .null, .int 0, .int 0])), (q_1, .inl (cy_2, 5000, .inl (fun _ => 0))), (q_3, .inl (cy_4, 20000, .inl (fun _ => 0))), (q_5, .inl (cy_6, 2002, .inl (fun _ => 0))), (q_7, .inl (cy_8, 2001, .inr (.inr (.inr (.inr (fun _ => none)))))), (q_9, .inl (cy_10, 2001, .inl (fun _ => 0))), (q_11, .inl (cy_12, 64, .inr (.inr (.inr (.inr (fun _ => none)))))), (q_13, .inl (cy_14, 500, .inl (fun _ => 0))), (q_15, .inl (cy_16, 200, .inl (fun _ => 0))), (q_17, .inl (cy_18, 16000, .inl (fun _ => 0)))] := hD
  have hP9 := hP.sub (ws' := [(h0, .inr (4, [.null, .ref q_1, .ref q_3, .ref q_5, .ref q_7, .ref q_9, .int 0, .ref q_11, .int 0, .int 0, .int 0, .ref q_13, .int 0, .ref q_15, .int 0, .ref q_17, .null, .int 0, .int 0]))]) [0] rfl
  have hD9 := hD.sub (ws' := [(h0, .inr (4, [.null, .ref q_1, .ref q_3, .ref q_5, .ref q_7, .ref q_9, .int 0, .ref q_11, .int 0, .int 0, .int 0, .ref q_13, .int 0, .ref q_15, .int 0, .ref q_17, .null, .int 0, .int 0]))]) [0] (by decide) rfl
  have hK9 := hK.sub (tys' := []) [] rfl
  refine W.widen (k := 9) (n := 47768) (Nat.le_of_ble_eq_true rfl) (Nat.le_of_ble_eq_true rfl) ?_
  exact W.vret hx hb hr (fun t ht hW => ⟨⟨(), rfl, trivial, q_1, q_3, q_5, q_7, q_9, q_11, q_13, q_15, q_17, by rw [ht]; exact hP9, va_K.moved hW.alike hK9, hD9⟩, hS.F ht⟩) hS.2.2 dX2_init_86
def ws_cc_LevelUnits_init : List Cond := .code yX11_init cX11_init 1 none :: ([.methodLink RX11 3 objectInit, .instanceMethod objectInit, .code objectInit ⟨#[0xb1]⟩ 1 none, .arrayClass .byte, .fieldLink RX11 9 "LevelUnits" "tape" "[B", .classLink RX11 13 RX7, .instantiable RX7 13, .initialized RX7, .methodLink RX7 3 objectInit, .arrayClass .int, .fieldLink RX7 9 "LevelUnits$Scanner" "kinds" "[I", .fieldLink RX7 15 "LevelUnits$Scanner" "values" "[I", .fieldLink RX7 18 "LevelUnits$Scanner" "lines" "[I", .fieldLink RX7 21 "LevelUnits$Scanner" "heads" "[I", .fieldLink RX7 24 "LevelUnits$Scanner" "chains" "[I", .fieldLink RX7 27 "LevelUnits$Scanner" "starts" "[I", .fieldLink RX7 30 "LevelUnits$Scanner" "sizes" "[I", .code yX7_init cX7_init 1 none, .instanceMethod yX7_init, .fieldLink RX11 16 "LevelUnits" "scanner" "LLevelUnits$Scanner;", .classLink RX11 20 RX2, .instantiable RX2 19, .initialized RX2, .methodLink RX2 3 objectInit, .fieldLink RX2 9 "LevelUnits$Machine" "globals" "[I", .fieldLink RX2 15 "LevelUnits$Machine" "heap" "[I", .fieldLink RX2 18 "LevelUnits$Machine" "starts" "[I", .classLink RX2 21 RX4, .fieldLink RX2 23 "LevelUnits$Machine" "kinds" "[LLevelUnits$Node;", .fieldLink RX2 27 "LevelUnits$Machine" "holders" "[I", .classLink RX2 30 RX9, .fieldLink RX2 32 "LevelUnits$Machine" "strands" "[LLevelUnits$Strand;", .fieldLink RX2 36 "LevelUnits$Machine" "numbers" "[I", .fieldLink RX2 39 "LevelUnits$Machine" "values" "[I", .fieldLink RX2 42 "LevelUnits$Machine" "passed" "[I", .code yX2_init cX2_init 1 none, .instanceMethod yX2_init, .fieldLink RX11 23 "LevelUnits" "machine" "LLevelUnits$Machine;"] ++ wsX110 ++ wsX70 ++ wsX20)
theorem in_cc_LevelUnits_init_RX11 : ∀ w ∈ wsX110, w ∈ ws_cc_LevelUnits_init := fun _ h => List.mem_cons_of_mem _ (List.mem_append_left _ (List.mem_append_left _ (List.mem_append_right _ h)))
theorem in_cc_LevelUnits_init_RX7 : ∀ w ∈ wsX70, w ∈ ws_cc_LevelUnits_init := fun _ h => List.mem_cons_of_mem _ (List.mem_append_left _ (List.mem_append_right _ h))
theorem in_cc_LevelUnits_init_RX2 : ∀ w ∈ wsX20, w ∈ ws_cc_LevelUnits_init := fun _ h => List.mem_cons_of_mem _ (List.mem_append_right _ h)
theorem g0_cc_LevelUnits_init_cc_Scanner_init_15 : GoodIn ws_cc_LevelUnits_init ws_cc_Scanner_init := goodIn_r _ [18, 9, 2, 3, 10, 11, 12, 13, 14, 15, 16, 17, 44, 45, 46, 47, 48, 49, 50, 51, 52, 53, 54, 55, 56] (by decide +kernel) (by decide +kernel)
theorem gg_cc_LevelUnits_init_cc_Scanner_init_15 : GoodIn ws_cc_LevelUnits_init ws_cc_Scanner_init := g0_cc_LevelUnits_init_cc_Scanner_init_15
theorem g0_cc_LevelUnits_init_cc_Machine_init_22 : GoodIn ws_cc_LevelUnits_init ws_cc_Machine_init := goodIn_r _ [36, 24, 2, 3, 10, 25, 26, 27, 28, 29, 30, 31, 32, 33, 34, 35, 57, 58, 59, 60, 61, 62, 63, 64, 65, 66, 67, 68, 69, 70, 71, 72, 73, 74, 75] (by decide +kernel) (by decide +kernel)
theorem gg_cc_LevelUnits_init_cc_Machine_init_22 : GoodIn ws_cc_LevelUnits_init ws_cc_Machine_init := g0_cc_LevelUnits_init_cc_Machine_init_22
set_option maxHeartbeats 4000000 in
set_option maxRecDepth 100000 in
/-- LevelUnits() -/
theorem cc_LevelUnits_init (l : Launch) (dC : Nat → ClassId) (dI : Nat → Nat → Nat) (h0 : Nat) (sz : Nat) : Met l yX11_init ws_cc_LevelUnits_init ({ frames := 2, cells := 19, slots := 81062, locals := 32 }) (va_Pc [.ref h0] (fun U => U.heap.size = sz ∧ va_P (dC, dI) vwCl [(h0, .inr (13, [.null, .int 0, .null, .null, .null]))] U.heap ∧ va_K (dC, dI) vwCl [] U ∧ va_D (fun _ => True) [(h0, .inr (13, [.null, .int 0, .null, .null, .null]))] ∧ va_Nw (.methodLinkNest RX11 15 yX7_init "LevelUnits") U ∧ va_AO RX4 U ∧ va_AO RX9 U ∧ va_Nw (.methodLinkNest RX11 22 yX2_init "LevelUnits") U)) (va_Qv (fun _ : Unit => True) (fun _ t => ∃ q_a : Nat, ∃ q_b : Nat, ∃ q_c : Nat, ∃ cy_a : ClassId, ∃ q_d : Nat, ∃ q_e : Nat, ∃ q_f : Nat, ∃ q_g : Nat, ∃ q_h : Nat, ∃ q_i : Nat, ∃ q_j : Nat, ∃ cy_b : ClassId, ∃ cy_c : ClassId, ∃ cy_d : ClassId, ∃ cy_e : ClassId, ∃ cy_f : ClassId, ∃ cy_g : ClassId, ∃ cy_h : ClassId, ∃ q_k : Nat, ∃ q_l : Nat, ∃ q_m : Nat, ∃ q_n : Nat, ∃ q_o : Nat, ∃ q_p : Nat, ∃ q_q : Nat, ∃ q_r : Nat, ∃ q_s : Nat, va_P (dC, dI) vwCl [(h0, .inr (13, [.ref q_a, .int 0, .ref q_b, .ref q_c, .null])), (q_a, .inl (cy_a, 6000, .inl (fun _ => 0))), (q_b, .inr (9, [.ref q_d, .ref q_e, .ref q_f, .int 0, .null, .int 0, .int 0, .int 0, .ref q_g, .ref q_h, .ref q_i, .ref q_j, .int 0])), (q_d, .inl (cy_b, 6001, .inl (fun _ => 0))), (q_e, .inl (cy_c, 6001, .inl (fun _ => 0))), (q_f, .inl (cy_d, 6001, .inl (fun _ => 0))), (q_g, .inl (cy_e, 256, .inl (fun _ => 0))), (q_h, .inl (cy_f, 3001, .inl (fun _ => 0))), (q_i, .inl (cy_g, 3001, .inl (fun _ => 0))), (q_j, .inl (cy_h, 3001, .inl (fun _ => 0))), (q_c, .inr (4, [.null, .ref q_k, .ref q_l, .ref q_m, .ref q_n, .ref q_o, .int 0, .ref q_p, .int 0, .int 0, .int 0, .ref q_q, .int 0, .ref q_r, .int 0, .ref q_s, .null, .int 0, .int 0]))] t.heap ∧ va_K (dC, dI) vwCl [(cy_a, .byte), (cy_b, .int), (cy_c, .int), (cy_d, .int), (cy_e, .int), (cy_f, .int), (cy_g, .int), (cy_h, .int)] t ∧ va_D (va_A [(h0, .inr (13, [.null, .int 0, .null, .null, .null]))] sz) [(h0, .inr (13, [.ref q_a, .int 0, .ref q_b, .ref q_c, .null])), (q_a, .inl (cy_a, 6000, .inl (fun _ => 0))), (q_b, .inr (9, [.ref q_d, .ref q_e, .ref q_f, .int 0, .null, .int 0, .int 0, .int 0, .ref q_g, .ref q_h, .ref q_i, .ref q_j, .int 0])), (q_d, .inl (cy_b, 6001, .inl (fun _ => 0))), (q_e, .inl (cy_c, 6001, .inl (fun _ => 0))), (q_f, .inl (cy_d, 6001, .inl (fun _ => 0))), (q_g, .inl (cy_e, 256, .inl (fun _ => 0))), (q_h, .inl (cy_f, 3001, .inl (fun _ => 0))), (q_i, .inl (cy_g, 3001, .inl (fun _ => 0))), (q_j, .inl (cy_h, 3001, .inl (fun _ => 0))), (q_c, .inr (4, [.null, .ref q_k, .ref q_l, .ref q_m, .ref q_n, .ref q_o, .int 0, .ref q_p, .int 0, .int 0, .int 0, .ref q_q, .int 0, .ref q_r, .int 0, .ref q_s, .null, .int 0, .int 0]))]) (va_A [(h0, .inr (13, [.null, .int 0, .null, .null, .null]))] sz)) 19 81062 (va_A [(h0, .inr (13, [.null, .int 0, .null, .null, .null]))] sz) := by
  refine Met.ofW (cc := cX11_init) (maxL := 1) (ret := none) (by decide) rfl ?_
  intro p e s m args below meth c s₁ B hml hv
  obtain ⟨rfl, hsz, hP, hK, hD0, hN0, hN1, hN2, hN3⟩ := hv
  have hx := B.exec
  have hb := B.bytes
  have hr := B.returns
  have hts := atoms_spec (ws := ws_cc_LevelUnits_init) B.pre
  have hown : s.vm.findClass RX11 = some m.cls := findClass_of_methodNamed B.named
  have hlocks := B.notSynchronized
  have hin : meth.name = "<init>" := (name_of_methodNamed B.named B.method).1
  subst hsz
  have hD := hD0.self (sz := s.heap.size)
  generalize hAe : va_A [(h0, .inr (13, [.null, .int 0, .null, .null, .null]))] s.heap.size = A at hD ⊢
  have hA : ∀ q : Nat, s.heap.size ≤ q → A q := fun q h => by rw [← hAe]; exact Or.inr h
  have hS : va_S A s.heap s.heap [] := va_S.rf
  have hP : va_P (dC, dI) vwCl [(h0, .inr (13, [.null, .int 0, .null, .null, .null]))] s.heap := hP
  have hl := lv_entry ([.ref h0]) (n := 1) (Nat.le_of_ble_eq_true rfl)
  rw [lg_entry_eq]
  generalize (lg_sl ([.ref h0]) ++ List.replicate (1 - (lg_sl ([.ref h0])).length) Slot.unset).toArray = ls at hl ⊢
  have hl : lv_has ls 1 [(0, .ref h0)] := hl
  refine lv_aload_n hx hb dX11_init_0 rfl (lv_at hl 0 rfl) ?_
  refine W.objInit hx hb hown (hts (.methodLink RX11 3 objectInit) (List.mem_of_getElem? (i := 1) rfl)) (hts (.instanceMethod objectInit) (List.mem_of_getElem? (i := 2) rfl)) (hts (.code objectInit ⟨#[0xb1]⟩ 1 none) (List.mem_of_getElem? (i := 3) rfl)) rfl (by rw [hml]; exact hl.1) rfl dX11_init_1 (Nat.le_of_ble_eq_true rfl) (Nat.le_of_ble_eq_true rfl) ?_
  refine W.eq (g2 := F0 m 4 ls []) rfl ?_
  refine lv_aload_n hx hb dX11_init_4 rfl (lv_at hl 0 rfl) ?_
  refine lv_sipush (v := 6000) hx hb dX11_init_5 (by decide) ?_
  refine va_newa (atype := .byte) (ty := .byte) (a0 := (6000, .inl (fun _ => 0))) (N' := 6000) hx hb (hts (.arrayClass .byte) (List.mem_of_getElem? (i := 4) rfl)) rfl hK hP hD hS hA (fun _ => rfl) (by decide) (by decide) (Nat.le_of_ble_eq_true rfl) (Nat.le_of_ble_eq_true rfl) (Nat.le_of_ble_eq_true rfl) dX11_init_8 (fun q_1 cy_2 H hK hP hD hS => ?_)
  have hK : va_K (dC, dI) vwCl [(cy_2, .byte)] s := hK
  have hP : va_P (dC, dI) vwCl [(h0, .inr (13, [.null, .int 0, .null, .null, .null])), (q_1, .inl (cy_2, 6000, .inl (fun _ => 0)))] H := hP
  have hD : va_D A [(h0, .inr (13, [.null, .int 0, .null, .null, .null])), (q_1, .inl (cy_2, 6000, .inl (fun _ => 0)))] := hD
  refine W.widen (k := 1) (n := 6000) (Nat.le_of_ble_eq_true rfl) (Nat.le_of_ble_eq_true rfl) ?_
  refine va_putF (D := (dC, dI)) (ci := 13) (v := .ref q_1) (ty := .array .byte) (C := RX11) (T := TX11) (N := 5) hx hb hts in_cc_LevelUnits_init_RX11 tyX11 tyX11_ok nmX11 hown hK hP hD hS 0 rfl rfl 0 (by decide) (hts (.fieldLink RX11 9 "LevelUnits" "tape" "[B") (List.mem_of_getElem? (i := 5) rfl)) (fun _ h9 => h9) rfl hin rfl (by decide +kernel) rfl rfl (Nat.le_of_ble_eq_true rfl) dX11_init_10 (fun H locs hP hD hS => ?_)
  have hP : va_P (dC, dI) vwCl [(h0, .inr (13, [.ref q_1, .int 0, .null, .null, .null])), (q_1, .inl (cy_2, 6000, .inl (fun _ => 0)))] H := hP
  have hD : va_D A [(h0, .inr (13, [.ref q_1, .int 0, .null, .null, .null])), (q_1, .inl (cy_2, 6000, .inl (fun _ => 0)))] := hD
  refine lv_aload_n hx hb dX11_init_13 rfl (lv_at hl 0 rfl) ?_
  refine va_new (ci := 9) (fs := [.null, .null, .null, .int 0, .null, .int 0, .int 0, .int 0, .null, .null, .null, .null, .int 0]) (C := RX7) (T := TX7) (N := 13) hx hb hts in_cc_LevelUnits_init_RX7 tyX7 tyX7_ok hown (hts (.classLink RX11 13 RX7) (List.mem_of_getElem? (i := 6) rfl)) (hts (.instantiable RX7 13) (List.mem_of_getElem? (i := 7) rfl)) (hts (.initialized RX7) (List.mem_of_getElem? (i := 8) rfl)) hK hP hD hS hA rfl (fun j hj => by rcases (show j = 0 ∨ j = 1 ∨ j = 2 ∨ j = 3 ∨ j = 4 ∨ j = 5 ∨ j = 6 ∨ j = 7 ∨ j = 8 ∨ j = 9 ∨ j = 10 ∨ j = 11 ∨ j = 12 by omega) with rfl | rfl | rfl | rfl | rfl | rfl | rfl | rfl | rfl | rfl | rfl | rfl | rfl <;> rfl) (Nat.le_of_ble_eq_true rfl) (Nat.le_of_ble_eq_true rfl) dX11_init_14 (fun q_3 H hP hD hS => ?_)
  have hP : va_P (dC, dI) vwCl [(h0, .inr (13, [.ref q_1, .int 0, .null, .null, .null])), (q_1, .inl (cy_2, 6000, .inl (fun _ => 0))), (q_3, .inr (9, [.null, .null, .null, .int 0, .null, .int 0, .int 0, .int 0, .null, .null, .null, .null, .int 0]))] H := hP
  have hD : va_D A [(h0, .inr (13, [.ref q_1, .int 0, .null, .null, .null])), (q_1, .inl (cy_2, 6000, .inl (fun _ => 0))), (q_3, .inr (9, [.null, .null, .null, .int 0, .null, .int 0, .int 0, .int 0, .null, .null, .null, .null, .int 0]))] := hD
  refine W.widen (k := 2) (n := 6013) (Nat.le_of_ble_eq_true rfl) (Nat.le_of_ble_eq_true rfl) ?_
  refine lv_dup hx hb dX11_init_17 rfl ?_
  have hPc := hP.sub (ws' := [(q_3, .inr (9, [.null, .null, .null, .int 0, .null, .int 0, .int 0, .int 0, .null, .null, .null, .null, .int 0]))]) [2] rfl
  have hDc := hD.sub (ws' := [(q_3, .inr (9, [.null, .null, .null, .int 0, .null, .int 0, .int 0, .int 0, .null, .null, .null, .null, .int 0]))]) [2] (by decide) rfl
  have hKc := hK.sub (tys' := []) [] rfl
  have hFc := va_free (wc := [(q_3, .inr (9, [.null, .null, .null, .int 0, .null, .int 0, .int 0, .int 0, .null, .null, .null, .null, .int 0]))]) hD hS hA [2] rfl
  refine va_callv (va_runIN (As := []) (rest := [.ref q_3, .ref h0]) ⟨hx, hb, hml, hown, hts⟩ (cc_Scanner_init l dC dI q_3 H.size) ⟨va_cnB 0 hts gg_cc_LevelUnits_init_cc_Scanner_init_15 rfl rfl rfl hN0 (hts (.initialized RX7) (List.mem_of_getElem? (i := 8) rfl)) (by decide +kernel) ⟨(Nat.le_of_ble_eq_true rfl), (Nat.le_of_ble_eq_true rfl)⟩, rfl, (hts (.instanceMethod yX7_init) (List.mem_of_getElem? (i := 19) rfl))⟩ ⟨fun a U g mk q => by obtain ⟨q0, q1, qP, qK, qD⟩ := q; exact ⟨q0, q1, qP, va_K.moved (u := U) (U := U.calling g mk a) (Vm.Alike.refl U.vm) qK, qD⟩, fun U hU hW => ⟨rfl, by rw [hU], by rw [hU]; exact hPc, va_K.moved hW.alike hKc, hDc.weaken (fun _ _ _ _ => trivial)⟩⟩ rfl rfl hl.1 rfl (lv_room (Nat.le_of_ble_eq_true rfl)) dX11_init_18 ⟨(Nat.le_of_ble_eq_true rfl), (Nat.le_of_ble_eq_true rfl)⟩) hS (fun q _ h => hFc q h) hFc (fun u t H1 locs ht hvm hw hB hz1 hk1 hS => ?_)
  obtain ⟨q_4, q_5, q_6, q_7, q_8, q_9, q_10, cy_11, cy_12, cy_13, cy_14, cy_15, cy_16, cy_17, hP1, hK1, hD1⟩ := hB
  rw [ht] at hP1
  have hK1 := va_K.moved hvm.symm hK1
  obtain ⟨hP, hD⟩ := va_join (wr := [(h0, .inr (13, [.ref q_1, .int 0, .null, .null, .null])), (q_1, .inl (cy_2, 6000, .inl (fun _ => 0)))]) (w1 := [(q_3, .inr (9, [.ref q_4, .ref q_5, .ref q_6, .int 0, .null, .int 0, .int 0, .int 0, .ref q_7, .ref q_8, .ref q_9, .ref q_10, .int 0])), (q_4, .inl (cy_11, 6001, .inl (fun _ => 0))), (q_5, .inl (cy_12, 6001, .inl (fun _ => 0))), (q_6, .inl (cy_13, 6001, .inl (fun _ => 0))), (q_7, .inl (cy_14, 256, .inl (fun _ => 0))), (q_8, .inl (cy_15, 3001, .inl (fun _ => 0))), (q_9, .inl (cy_16, 3001, .inl (fun _ => 0))), (q_10, .inl (cy_17, 3001, .inl (fun _ => 0)))]) hP hD [2] [0, 1] rfl rfl (by decide) (by decide) hk1 hFc hP1 hD1
  have hK := (hK.sub (tys' := [(cy_2, .byte)]) [0] rfl).app hK1
  generalize H1 = H at hP hS ⊢
  have hK : va_K (dC, dI) vwCl [(cy_2, .byte), (cy_11, .int), (cy_12, .int), (cy_13, .int), (cy_14, .int), (cy_15, .int), (cy_16, .int), (cy_17, .int)] s := hK
  have hP : va_P (dC, dI) vwCl [(h0, .inr (13, [.ref q_1, .int 0, .null, .null, .null])), (q_1, .inl (cy_2, 6000, .inl (fun _ => 0))), (q_3, .inr (9, [.ref q_4, .ref q_5, .ref q_6, .int 0, .null, .int 0, .int 0, .int 0, .ref q_7, .ref q_8, .ref q_9, .ref q_10, .int 0])), (q_4, .inl (cy_11, 6001, .inl (fun _ => 0))), (q_5, .inl (cy_12, 6001, .inl (fun _ => 0))), (q_6, .inl (cy_13, 6001, .inl (fun _ => 0))), (q_7, .inl (cy_14, 256, .inl (fun _ => 0))), (q_8, .inl (cy_15, 3001, .inl (fun _ => 0))), (q_9, .inl (cy_16, 3001, .inl (fun _ => 0))), (q_10, .inl (cy_17, 3001, .inl (fun _ => 0)))] H := hP
  have hD : va_D A [(h0, .inr (13, [.ref q_1, .int 0, .null, .null, .null])), (q_1, .inl (cy_2, 6000, .inl (fun _ => 0))), (q_3, .inr (9, [.ref q_4, .ref q_5, .ref q_6, .int 0, .null, .int 0, .int 0, .int 0, .ref q_7, .ref q_8, .ref q_9, .ref q_10, .int 0])), (q_4, .inl (cy_11, 6001, .inl (fun _ => 0))), (q_5, .inl (cy_12, 6001, .inl (fun _ => 0))), (q_6, .inl (cy_13, 6001, .inl (fun _ => 0))), (q_7, .inl (cy_14, 256, .inl (fun _ => 0))), (q_8, .inl (cy_15, 3001, .inl (fun _ => 0))), (q_9, .inl (cy_16, 3001, .inl (fun _ => 0))), (q_10, .inl (cy_17, 3001, .inl (fun _ => 0)))] := hD
  refine W.widen (k := 9) (n := 33275) (Nat.le_of_ble_eq_true rfl) (Nat.le_of_ble_eq_true rfl) ?_
  refine va_putF (D := (dC, dI)) (ci := 13) (v := .ref q_3) (ty := .object "LevelUnits$Scanner") (C := RX11) (T := TX11) (N := 5) hx hb hts in_cc_LevelUnits_init_RX11 tyX11 tyX11_ok nmX11 hown hK hP hD hS 0 rfl rfl 2 (by decide) (hts (.fieldLink RX11 16 "LevelUnits" "scanner" "LLevelUnits$Scanner;") (List.mem_of_getElem? (i := 20) rfl)) (fun _ h9 => h9) rfl hin rfl (by decide +kernel) rfl rfl (Nat.le_of_ble_eq_true rfl) dX11_init_21 (fun H locs hP hD hS => ?_)
  have hP : va_P (dC, dI) vwCl [(h0, .inr (13, [.ref q_1, .int 0, .ref q_3, .null, .null])), (q_1, .inl (cy_2, 6000, .inl (fun _ => 0))), (q_3, .inr (9, [.ref q_4, .ref q_5, .ref q_6, .int 0, .null, .int 0, .int 0, .int 0, .ref q_7, .ref q_8, .ref q_9, .ref q_10, .int 0])), (q_4, .inl (cy_11, 6001, .inl (fun _ => 0))), (q_5, .inl (cy_12, 6001, .inl (fun _ => 0))), (q_6, .inl (cy_13, 6001, .inl (fun _ => 0))), (q_7, .inl (cy_14, 256, .inl (fun _ => 0))), (q_8, .inl (cy_15, 3001, .inl (fun _ => 0))), (q_9, .inl (cy_16, 3001, .inl (fun _ => 0))), (q_10, .inl (cy_17, 3001, .inl (fun _ => 0)))] H := hP
  have hD : va_D A [(h0, .inr (13, [.ref q_1, .int 0, .ref q_3, .null, .null])), (q_1, .inl (cy_2, 6000, .inl (fun _ => 0))), (q_3, .inr (9, [.ref q_4, .ref q_5, .ref q_6, .int 0, .null, .int 0, .int 0, .int 0, .ref q_7, .ref q_8, .ref q_9, .ref q_10, .int 0])), (q_4, .inl (cy_11, 6001, .inl (fun _ => 0))), (q_5, .inl (cy_12, 6001, .inl (fun _ => 0))), (q_6, .inl (cy_13, 6001, .inl (fun _ => 0))), (q_7, .inl (cy_14, 256, .inl (fun _ => 0))), (q_8, .inl (cy_15, 3001, .inl (fun _ => 0))), (q_9, .inl (cy_16, 3001, .inl (fun _ => 0))), (q_10, .inl (cy_17, 3001, .inl (fun _ => 0)))] := hD
  refine lv_aload_n hx hb dX11_init_24 rfl (lv_at hl 0 rfl) ?_
  refine va_new (ci := 4) (fs := [.null, .null, .null, .null, .null, .null, .int 0, .null, .int 0, .int 0, .int 0, .null, .int 0, .null, .int 0, .null, .null, .int 0, .int 0]) (C := RX2) (T := TX2) (N := 19) hx hb hts in_cc_LevelUnits_init_RX2 tyX2 tyX2_ok hown (hts (.classLink RX11 20 RX2) (List.mem_of_getElem? (i := 21) rfl)) (hts (.instantiable RX2 19) (List.mem_of_getElem? (i := 22) rfl)) (hts (.initialized RX2) (List.mem_of_getElem? (i := 23) rfl)) hK hP hD hS hA rfl (fun j hj => by rcases (show j = 0 ∨ j = 1 ∨ j = 2 ∨ j = 3 ∨ j = 4 ∨ j = 5 ∨ j = 6 ∨ j = 7 ∨ j = 8 ∨ j = 9 ∨ j = 10 ∨ j = 11 ∨ j = 12 ∨ j = 13 ∨ j = 14 ∨ j = 15 ∨ j = 16 ∨ j = 17 ∨ j = 18 by omega) with rfl | rfl | rfl | rfl | rfl | rfl | rfl | rfl | rfl | rfl | rfl | rfl | rfl | rfl | rfl | rfl | rfl | rfl | rfl <;> rfl) (Nat.le_of_ble_eq_true rfl) (Nat.le_of_ble_eq_true rfl) dX11_init_25 (fun q_18 H hP hD hS => ?_)
  have hP : va_P (dC, dI) vwCl [(h0, .inr (13, [.ref q_1, .int 0, .ref q_3, .null, .null])), (q_1, .inl (cy_2, 6000, .inl (fun _ => 0))), (q_3, .inr (9, [.ref q_4, .ref q_5, .ref q_6, .int 0, .null, .int 0, .int 0, .int 0, .ref q_7, .ref q_8, .ref q_9, .ref q_10, .int 0])), (q_4, .inl (cy_11, 6001, .inl (fun _ => 0))), (q_5, .inl (cy_12, 6001, .inl (fun _ => 0))), (q_6, .inl (cy_13, 6001, .inl (fun _ => 0))), (q_7, .inl (cy_14, 256, .inl (fun _ => 0))), (q_8, .inl (cy_15, 3001, .inl (fun _ => 0))), (q_9, .inl (cy_16, 3001, .inl (fun _ => 0))), (q_10, .inl (cy_17, 3001, .inl (fun _ => 0))), (q_18, .inr (4, [.null, .null, .null, .null, .null, .null, .int 0, .null, .int 0, .int 0, .int 0, .null, .int 0, .null, .int 0, .null, .null, .int 0, .int 0]))] H := hP
  have hD : va_D A [(h0, .inr (13, [.ref q_1, .int 0, .ref q_3, .null, .null])), (q_1, .inl (cy_2, 6000, .inl (fun _ => 0))), (q_3, .inr (9, [.ref q_4, .ref q_5, .ref q_6, .int 0, .null, .int 0, .int 0, .int 0, .ref q_7, .ref q_8, .ref q_9, .ref q_10, .int 0])), (q_4, .inl (cy_11, 6001, .inl (fun _ => 0))), (q_5, .inl (cy_12, 6001, .inl (fun _ => 0))), (q_6, .inl (cy_13, 6001, .inl (fun _ => 0))), (q_7, .inl (cy_14, 256, .inl (fun _ => 0))), (q_8, .inl (cy_15, 3001, .inl (fun _ => 0))), (q_9, .inl (cy_16, 3001, .inl (fun _ => 0))), (q_10, .inl (cy_17, 3001, .inl (fun _ => 0))), (q_18, .inr (4, [.null, .null, .null, .null, .null, .null, .int 0, .null, .int 0, .int 0, .int 0, .null, .int 0, .null, .int 0, .null, .null, .int 0, .int 0]))] := hD
  refine W.widen (k := 10) (n := 33294) (Nat.le_of_ble_eq_true rfl) (Nat.le_of_ble_eq_true rfl) ?_
  refine lv_dup hx hb dX11_init_28 rfl ?_
  have hPc := hP.sub (ws' := [(q_18, .inr (4, [.null, .null, .null, .null, .null, .null, .int 0, .null, .int 0, .int 0, .int 0, .null, .int 0, .null, .int 0, .null, .null, .int 0, .int 0]))]) [10] rfl
  have hDc := hD.sub (ws' := [(q_18, .inr (4, [.null, .null, .null, .null, .null, .null, .int 0, .null, .int 0, .int 0, .int 0, .null, .int 0, .null, .int 0, .null, .null, .int 0, .int 0]))]) [10] (by decide) rfl
  have hKc := hK.sub (tys' := []) [] rfl
  have hFc := va_free (wc := [(q_18, .inr (4, [.null, .null, .null, .null, .null, .null, .int 0, .null, .int 0, .int 0, .int 0, .null, .int 0, .null, .int 0, .null, .null, .int 0, .int 0]))]) hD hS hA [10] rfl
  refine va_callv (va_runIN (As := []) (rest := [.ref q_18, .ref h0]) ⟨hx, hb, hml, hown, hts⟩ (cc_Machine_init l dC dI q_18 H.size) ⟨va_cnB 0 hts gg_cc_LevelUnits_init_cc_Machine_init_22 rfl rfl rfl hN3 (hts (.initialized RX2) (List.mem_of_getElem? (i := 23) rfl)) (by decide +kernel) ⟨(Nat.le_of_ble_eq_true rfl), (Nat.le_of_ble_eq_true rfl)⟩, rfl, (hts (.instanceMethod yX2_init) (List.mem_of_getElem? (i := 37) rfl))⟩ ⟨fun a U g mk q => by obtain ⟨q0, q1, qP, qK, qD, qN0, qN1⟩ := q; exact ⟨q0, q1, qP, va_K.moved (u := U) (U := U.calling g mk a) (Vm.Alike.refl U.vm) qK, qD, va_AO.moved (u := U) (U := U.calling g mk a) (Vm.Alike.refl U.vm) qN0, va_AO.moved (u := U) (U := U.calling g mk a) (Vm.Alike.refl U.vm) qN1⟩, fun U hU hW => ⟨rfl, by rw [hU], by rw [hU]; exact hPc, va_K.moved hW.alike hKc, hDc.weaken (fun _ _ _ _ => trivial), va_AO.moved hW.alike hN1, va_AO.moved hW.alike hN2⟩⟩ rfl rfl hl.1 rfl (lv_room (Nat.le_of_ble_eq_true rfl)) dX11_init_29 ⟨(Nat.le_of_ble_eq_true rfl), (Nat.le_of_ble_eq_true rfl)⟩) hS (fun q _ h => hFc q h) hFc (fun u t H1 locs ht hvm hw hB hz1 hk1 hS => ?_)
  obtain ⟨q_19, q_20, q_21, q_22, q_23, q_24, q_25, q_26, q_27, hP1, hK1, hD1⟩ := hB
  rw [ht] at hP1
  have hK1 := va_K.moved hvm.symm hK1
  obtain ⟨hP, hD⟩ := va_join (wr := [(h0, .inr (13, [.ref q_1, .int 0, .ref q_3, .null, .null])), (q_1, .inl (cy_2, 6000, .inl (fun _ => 0))), (q_3, .inr (9, [.ref q_4, .ref q_5, .ref q_6, .int 0, .null, .int 0, .int 0, .int 0, .ref q_7, .ref q_8, .ref q_9, .ref q_10, .int 0])), (q_4, .inl (cy_11, 6001, .inl (fun _ => 0))), (q_5, .inl (cy_12, 6001, .inl (fun _ => 0))), (q_6, .inl (cy_13, 6001, .inl (fun _ => 0))), (q_7, .inl (cy_14, 256, .inl (fun _ => 0))), (q_8, .inl (cy_15, 3001, .inl (fun _ => 0))), (q_9, .inl (cy_16, 3001, .inl (fun _ => 0))), (q_10, .inl (cy_17, 3001, .inl (fun _ => 0)))]) (w1 := [(q_18, .inr (4, [.null, .ref q_19, .ref q_20, .ref q_21, .ref q_22, .ref q_23, .int 0, .ref q_24, .int 0, .int 0, .int 0, .ref q_25, .int 0, .ref q_26, .int 0, .ref q_27, .null, .int 0, .int 0]))]) hP hD [10] [0, 1, 2, 3, 4, 5, 6, 7, 8, 9] rfl rfl (by decide) (by decide) hk1 hFc hP1 hD1
  have hK := (hK.sub (tys' := [(cy_2, .byte), (cy_11, .int), (cy_12, .int), (cy_13, .int), (cy_14, .int), (cy_15, .int), (cy_16, .int), (cy_17, .int)]) [0, 1, 2, 3, 4, 5, 6, 7] rfl).app hK1
  generalize H1 = H at hP hS ⊢
  have hK : va_K (dC, dI) vwCl [(cy_2, .byte), (cy_11, .int), (cy_12, .int), (cy_13, .int), (cy_14, .int), (cy_15, .int), (cy_16, .int), (cy_17, .int)] s := hK
  have hP : va_P (dC, dI) vwCl [(h0, .inr (13, [.ref q_1, .int 0, .ref q_3, .null, .null])), (q_1, .inl (cy_2, 6000, .inl (fun _ => 0))), (q_3, .inr (9, [.ref q_4, .ref q_5, .ref q_6, .int 0, .null, .int 0, .int 0, .int 0, .ref q_7, .ref q_8, .ref q_9, .ref q_10, .int 0])), (q_4, .inl (cy_11, 6001, .inl (fun _ => 0))), (q_5, .inl (cy_12, 6001, .inl (fun _ => 0))), (q_6, .inl (cy_13, 6001, .inl (fun _ => 0))), (q_7, .inl (cy_14, 256, .inl (fun _ => 0))), (q_8, .inl (cy_15, 3001, .inl (fun _ => 0))), (q_9, .inl (cy_16, 3001, .inl (fun _ => 0))), (q_10, .inl (cy_17, 3001, .inl (fun _ => 0))), (q_18, .inr (4, [.null, .ref q_19, .ref q_20, .ref q_21, .ref q_22, .ref q_23, .int 0, .ref q_24, .int 0, .int 0, .int 0, .ref q_25, .int 0, .ref q_26, .int 0, .ref q_27, .null, .int 0, .int 0]))] H := hP
  have hD : va_D A [(h0, .inr (13, [.ref q_1, .int 0, .ref q_3, .null, .null])), (q_1, .inl (cy_2, 6000, .inl (fun _ => 0))), (q_3, .inr (9, [.ref q_4, .ref q_5, .ref q_6, .int 0, .null, .int 0, .int 0, .int 0, .ref q_7, .ref q_8, .ref q_9, .ref q_10, .int 0])), (q_4, .inl (cy_11, 6001, .inl (fun _ => 0))), (q_5, .inl (cy_12, 6001, .inl (fun _ => 0))), (q_6, .inl (cy_13, 6001, .inl (fun _ => 0))), (q_7, .inl (cy_14, 256, .inl (fun _ => 0))), (q_8, .inl (cy_15, 3001, .inl (fun _ => 0))), (q_9, .inl (cy_16, 3001, .inl (fun _ => 0))), (q_10, .inl (cy_17, 3001, .inl (fun _ => 0))), (q_18, .inr (4, [.null, .ref q_19, .ref q_20, .ref q_21, .ref q_22, .ref q_23, .int 0, .ref q_24, .int 0, .int 0, .int 0, .ref q_25, .int 0, .ref q_26, .int 0, .ref q_27, .null, .int 0, .int 0]))] := hD
  refine W.widen (k := 19) (n := 81062) (Nat.le_of_ble_eq_true rfl) (Nat.le_of_ble_eq_true rfl) ?_
  refine va_putF (D := (dC, dI)) (ci := 13) (v := .ref q_18) (ty := .object "LevelUnits$Machine") (C := RX11) (T := TX11) (N := 5) hx hb hts in_cc_LevelUnits_init_RX11 tyX11 tyX11_ok nmX11 hown hK hP hD hS 0 rfl rfl 3 (by decide) (hts (.fieldLink RX11 23 "LevelUnits" "machine" "LLevelUnits$Machine;") (List.mem_of_getElem? (i := 38) rfl)) (fun _ h9 => h9) rfl hin rfl (by decide +kernel) rfl rfl (Nat.le_of_ble_eq_true rfl) dX11_init_32 (fun H locs hP hD hS => ?_)
  have hP : va_P (dC, dI) vwCl [(h0, .inr (13, [.ref q_1, .int 0, .ref q_3, .ref q_18, .null])), (q_1, .inl (cy_2, 6000, .inl (fun _ => 0))), (q_3, .inr (9, [.ref q_4, .ref q_5, .ref q_6, .int 0, .null, .int 0, .int 0, .int 0, .ref q_7, .ref q_8, .ref q_9, .ref q_10, .int 0])), (q_4, .inl (cy_11, 6001, .inl (fun _ => 0))), (q_5, .inl (cy_12, 6001, .inl (fun _ => 0))), (q_6, .inl (cy_13, 6001, .inl (fun _ => 0))), (q_7, .inl (cy_14, 256, .inl (fun _ => 0))), (q_8, .inl (cy_15, 3001, .inl (fun _ => 0))), (q_9, .inl (cy_16, 3001, .inl (fun _ => 0))), (q_10, .inl (cy_17, 3001, .inl (fun _ => 0))), (q_18, .inr (4, [.null, .ref q_19, .ref q_20, .ref q_21, .ref q_22, .ref q_23, .int 0, .ref q_24, .int 0, .int 0, .int 0, .ref q_25, .int 0, .ref q_26, .int 0, .ref q_27, .null, .int 0, .int 0]))] H := hP
  have hD : va_D A [(h0, .inr (13, [.ref q_1, .int 0, .ref q_3, .ref q_18, .null])), (q_1, .inl (cy_2, 6000, .inl (fun _ => 0))), (q_3, .inr (9, [.ref q_4, .ref q_5, .ref q_6, .int 0, .null, .int 0, .int 0, .int 0, .ref q_7, .ref q_8, .ref q_9, .ref q_10, .int 0])), (q_4, .inl (cy_11, 6001, .inl (fun _ => 0))), (q_5, .inl (cy_12, 6001, .inl (fun _ => 0))), (q_6, .inl (cy_13, 6001, .inl (fun _ => 0))), (q_7, .inl (cy_14, 256, .inl (fun _ => 0))), (q_8, .inl (cy_15, 3001, .inl (fun _ => 0))), (q_9, .inl (cy_16, 3001, .inl (fun _ => 0))), (q_10, .inl (cy_17, 3001, .inl (fun _ => 0))), (q_18, .inr (4, [.null, .ref q_19, .ref q_20, .ref q_21, .ref q_22, .ref q_23, .int 0, .ref q_24, .int 0, .int 0, .int 0, .ref q_25, .int 0, .ref q_26, .int 0, .ref q_27, .null, .int 0, .int 0]))] := hD
  have hP9 := hP.sub (ws' := [(h0, .inr (13, [.ref q_1, .int 0, .ref q_3, .ref q_18, .null])), (q_1, .inl (cy_2, 6000, .inl (fun _ => 0))), (q_3, .inr (9, [.ref q_4, .ref q_5, .ref q_6, .int 0, .null, .int 0, .int 0, .int 0, .ref q_7, .ref q_8, .ref q_9, .ref q_10, .int 0])), (q_4, .inl (cy_11, 6001, .inl (fun _ => 0))), (q_5, .inl (cy_12, 6001, .inl (fun _ => 0))), (q_6, .inl (cy_13, 6001, .inl (fun _ => 0))), (q_7, .inl (cy_14, 256, .inl (fun _ => 0))), (q_8, .inl (cy_15, 3001, .inl (fun _ => 0))), (q_9, .inl (cy_16, 3001, .inl (fun _ => 0))), (q_10, .inl (cy_17, 3001, .inl (fun _ => 0))), (q_18, .inr (4, [.null, .ref q_19, .ref q_20, .ref q_21, .ref q_22, .ref q_23, .int 0, .ref q_24, .int 0, .int 0, .int 0, .ref q_25, .int 0, .ref q_26, .int 0, .ref q_27, .null, .int 0, .int 0]))]) [0, 1, 2, 3, 4, 5, 6, 7, 8, 9, 10] rfl
  have hD9 := hD.sub (ws' := [(h0, .inr (13, [.ref q_1, .int 0, .ref q_3, .ref q_18, .null])), (q_1, .inl (cy_2, 6000, .inl (fun _ => 0))), (q_3, .inr (9, [.ref q_4, .ref q_5, .ref q_6, .int 0, .null, .int 0, .int 0, .int 0, .ref q_7, .ref q_8, .ref q_9, .ref q_10, .int 0])), (q_4, .inl (cy_11, 6001, .inl (fun _ => 0))), (q_5, .inl (cy_12, 6001, .inl (fun _ => 0))), (q_6, .inl (cy_13, 6001, .inl (fun _ => 0))), (q_7, .inl (cy_14, 256, .inl (fun _ => 0))), (q_8, .inl (cy_15, 3001, .inl (fun _ => 0))), (q_9, .inl (cy_16, 3001, .inl (fun _ => 0))), (q_10, .inl (cy_17, 3001, .inl (fun _ => 0))), (q_18, .inr (4, [.null, .ref q_19, .ref q_20, .ref q_21, .ref q_22, .ref q_23, .int 0, .ref q_24, .int 0, .int 0, .int 0, .ref q_25, .int 0, .ref q_26, .int 0, .ref q_27, .null, .int 0, .int 0]))]) [0, 1, 2, 3, 4, 5, 6, 7, 8, 9, 10] (by decide) rfl
  have hK9 := hK.sub (tys' := [(cy_2, .byte), (cy_11, .int), (cy_12, .int), (cy_13, .int), (cy_14, .int), (cy_15, .int), (cy_16, .int), (cy_17, .int)]) [0, 1, 2, 3, 4, 5, 6, 7] rfl
  refine W.widen (k := 19) (n := 81062) (Nat.le_of_ble_eq_true rfl) (Nat.le_of_ble_eq_true rfl) ?_
  exact W.vret hx hb hr (fun t ht hW => ⟨⟨(), rfl, trivial, q_1, q_3, q_18, cy_2, q_4, q_5, q_6, q_7, q_8, q_9, q_10, cy_11, cy_12, cy_13, cy_14, cy_15, cy_16, cy_17, q_19, q_20, q_21, q_22, q_23, q_24, q_25, q_26, q_27, by rw [ht]; exact hP9, va_K.moved hW.alike hK9, hD9⟩, hS.F ht⟩) hS.2.2 dX11_init_35
end
section
/-! THE CLAIM OUT OF ONE WALK OF THE LAW'S BODY. Your part is whole_start (and what it stands on); all else here is the same for every law, but numbers. -/
def R_law : String := "LevelUnitsLaw"
def lw_P (b : Addr) (xs : List Int32) (args : Array Value) (s : State) : Prop := args = #[.ref b] ∧ s.IntsAt b xs ∧ xs.length ≤ 6 ∧ (Jvm.Cond.and given_1 narrow_1).before args s = true
def lw_Q (_ : Array Value) (s : State) (o : Outcome) (t : State) : Prop := o = .returned (some (.int 1)) ∧ Framed s o t [] 600002 7302232
def lw_Z (below : List Frame) (a : Array Value) (s : State) : State → Prop := fun t => ∃ o, t.status = .running ∧ Ended t below o ∧ lw_Q a s o t
/-- the law's own end, with 1 on the stack, nothing written that was there before, its room as the claim has it -/
theorem lw_ret {p : Program} {l : Launch} {e : Env} {s : State} {m : MethodId} {below : List Frame} {meth : Method} {c : Code} {b : Nat} (hx : p.tables.exec = Jvm.exec) (hb : c.code = code) (hr : meth.sig.returnType = ret) (hlocks : meth.locks = false) {pc : Nat} {H : Heap} {ls : Array Slot} (hdg : decode code pc = .ok (.ireturn, 1)) : W p l e room_1 s m #[Value.ref b] below meth c H [] 600002 7302232 (lw_Z below #[Value.ref b] s) (F0 m pc ls [.int 1]) := by
  intro T hT X
  obtain ⟨fs, hret, hrun, hended, hW, hframe⟩ := X.leave (v := some (.int 1)) (hlocks := hlocks) (fun h => by rw [hr] at h; cases h)
  have hmeth' : T.vm.method? m = some meth := X.method'
  refine ⟨T.setFrames fs, ?_, .returned (some (.int 1)), hrun, hended, rfl, ⟨_, rfl⟩, hW, hframe⟩
  jvm_step X.here [X.here.top, hx, hb, hdg, hmeth', hr, ret, narrow_b1]
  (try refine ⟨rfl, ?_⟩); (try refine ⟨rfl, ?_⟩)
  first | (intro acts; rw [hret _ acts rfl rfl rfl]) | rw [hret _ _ rfl rfl rfl]
  exact Steps.refl _
/-- what holds at the law's entry: the machine, the code, the tables' words (any of lw_tbl by 'hts w (by decide +kernel)'), the script of L ints xs at the cell b, what the Statement gives of the start (any of its parts by flat_of_before) -/
def lw_At (p : Program) (s : State) (m : MethodId) (meth : Method) (c : Code) (b L : Nat) (xs : Nat → Int32) : Prop :=
  p.tables.exec = Jvm.exec ∧ c.code = code ∧ meth.sig.returnType = ret ∧ c.maxLocals = 7 ∧ s.vm.findClass R_law = some m.cls ∧ (∀ w ∈ lw_tbl, w.before #[Value.ref b] s = true) ∧ va_X b L xs s s.heap ∧ b < s.heap.size ∧ meth.locks = false ∧ (Jvm.Cond.and given_1 narrow_1).before #[Value.ref b] s = true
-- ===== YOUR PART BEGINS =====
/-- YOUR PART: from the entry, for every script of at most 6 ints, the law comes to its end with true ('hflags': the launch's flags, for a law that throws: no stack traces) -/
theorem whole_start {p : Program} {e : Env} {s : State} {m : MethodId} {below : List Frame} {meth : Method} {c : Code} (l : Launch) (hflags : l.flags = flags0) {b L : Nat} {xs : Nat → Int32} (hL : L ≤ 6) (C0 : lw_At p s m meth c b L xs) : W p l e room_1 s m #[Value.ref b] below meth c s.heap [] 0 0 (lw_Z below #[Value.ref b] s) (entryFrame m ([Value.ref b] : List Value).toArray 7) := by
  sorry
-- ===== YOUR PART ENDS =====
set_option maxHeartbeats 4000000 in
theorem lw_walk (l : Launch) (hflags : l.flags = flags0) (b : Addr) (xs : List Int32) : MetFree l x (headSpec (Jvm.Cond.code x code maxLocals ret :: tables_1) room_1) (lw_P b xs) (fun _ _ _ _ _ => True) lw_Q := by
  refine MetFree.of_bodyS (code := code) (maxLocals := maxLocals) (ret := ret) (by decide) ?_ ?_
  · intro args s m h hn
    obtain ⟨meth, c, h1, h2, h3, h4, h5, h6, -, -⟩ := Cond.code_spec hn (atoms_spec (ws := Jvm.Cond.code x code maxLocals ret :: tables_1) h _ List.mem_cons_self)
    exact ⟨meth, c, h1, h2, h3, h4, h5, h6⟩
  · intro p e s m args below meth c s₁ B hml0 hP _
    obtain ⟨rfl, hx, hbd, hgv⟩ := hP
    obtain ⟨scr, harrAt, hlist, hof, hsmall⟩ := hx
    obtain ⟨hcb, hkn, -, -⟩ := State.arrayAt?_spec harrAt
    have hown : s.vm.findClass R_law = some m.cls := findClass_of_methodNamed B.named
    have hts0 : ∀ c ∈ (Jvm.Cond.code x code maxLocals ret :: tables_1), c.before #[Value.ref b] s = true := atoms_spec (ws := Jvm.Cond.code x code maxLocals ret :: tables_1) B.pre
    have hts : ∀ w ∈ lw_tbl, w.before #[Value.ref b] s = true := k2_hts_sels lw_privs (fun w hw => hts0 w (List.mem_cons_of_mem _ hw)) lw_privs_ok
    have hml : c.maxLocals = 7 := B.maxLocals_eq (hts0 _ List.mem_cons_self)
    have X₀ : Stand p l e room_1 s m #[Value.ref b] below meth c s₁ [] 0 0 := Stand.of_body B
    have hh0 : s₁.heap = s.heap := by rw [B.state]; rfl
    have hsz : scr.slots.size = xs.length := by rw [← Array.length_toList, hlist, List.length_map]
    have hval : ∀ j : Nat, j < xs.length → scr.slots[j]? = some (.int (xs.getD j 0)) := fun j hj => by
      rw [← Array.getElem?_toList, hlist]
      simp [hj]
    have hbl : b < s.heap.size := (Array.getElem?_eq_some_iff.mp hcb).1
    have hX : va_X b xs.length (fun j => xs.getD j 0) s s.heap := ⟨scr, hcb, hof, hkn, hsz, hval⟩
    have K : W p l e room_1 s m #[Value.ref b] below meth c s₁.heap [] 0 0 (lw_Z below #[Value.ref b] s) (entryFrame m ([Value.ref b] : List Value).toArray 7) := by
      rw [hh0]
      exact whole_start l hflags hbd ⟨B.exec, B.bytes, B.returns, hml, hown, hts, hX, hbl, B.notSynchronized, hgv⟩
    obtain ⟨t, a1, o, b1, b2, b3⟩ := K s₁ rfl X₀
    exact ⟨t, o, a1, b1, b2, b3⟩
theorem lw_pre_spec {args : Array Value} {s : State} (h : (Jvm.Cond.and given_1 narrow_1).before args s = true) (hr : rest_1_c.before args s = true) : ∃ (b : Addr) (xs : List Int32), lw_P b xs args s := by
  have hs := flat_of_before _ h
  have hq := flat_of_before _ hr
  have hc : (Cond.count 1).before args s = true := hs _ (by decide +kernel)
  have harr : (Cond.arrayOf (.arg 0) .int).before args s = true := hs _ (by decide +kernel)
  have hle : (Cond.le (.length (.arg 0)) (.int 6)).before args s = true := hs _ (by decide +kernel)
  have hlen : (Cond.isInt (.length (.arg 0))).before args s = true := hq _ (by decide +kernel)
  have hall : (Cond.all (.arg 0) (.isInt (.elem (.arg 0) (.index 0)))).before args s = true := hq _ (by decide +kernel)
  obtain ⟨b, xs, hb, hx⟩ := State.ints_of_pre rfl harr hlen hall
  have hsm : xs.length < 2 ^ 31 := hx.choose_spec.2.2.2
  have hev : (Term.length (.arg 0)).eval args s none [] s = some (.int xs.length.toInt32) := hx.length_eval hb
  have hv := Cond.le_ints hev (show (Term.int 6).eval args s none [] s = some (.int 6) from rfl)
  have hd : xs.length.toInt32 ≤ 6 := by
    simpa [Cond.before, Cond.holds, hv] using hle
  have hN : xs.length ≤ 6 := (Int32.ofNat_le_ofNat hsm (by decide)).mp (show Int32.ofNat xs.length ≤ Int32.ofNat 6 from hd)
  exact ⟨b, xs, Cond.one_arg hc (show args[0]? = some (.ref b) from hb), hx, hN, h⟩
theorem lw_comes (l : Launch) (hflags : l.flags = flags0) : Comes l x (Jvm.Cond.code x code maxLocals ret :: tables_1) room_1 (fun tb e args s => Calls_1 tb e args s ∧ rest_1 tb e args s ∧ Pre_1 tb e args s)
    (fun _ _ args s o t => lw_Q args s o t) := by
  intro p e ha hc hk s m args below hf hfit hheap happ hpre
  obtain ⟨b, xs, hP⟩ := lw_pre_spec hpre.2.2 hpre.2.1
  obtain ⟨k, o, h1, h2, h3, hQ⟩ := lw_walk l hflags b xs p e ha hc hk s m args below hf ((Spec.applies_iff_loose hf).mp happ).1 hP trivial
  exact ⟨k, o, h1, h2, h3, hQ⟩
theorem lw_frame {s t : State} {o : Outcome} {args : Array Value} (h : Framed s o t [] 600002 7302232) :
    Framed s o t (fieldLocs frame_1_writes args s ++ arrayLocs frame_1_arrays args s ++ staticLocs frame_1_statics s) 600002 7302232 := h
theorem lw_limb (L : Cond) (hL : ∀ (args : Array Value) (s t : State), L.after args s (.returned (some (.int 1))) t = true) :
    ArmFor flags0 classFile x code maxLocals ret World_1 tables_1 room_1 Calls_1 rest_1 Pre_1
      (fun tb e a s o t => postC L tb e a s o t ∧ Framed s o t (fieldLocs frame_1_writes a s ++ arrayLocs frame_1_arrays a s ++ staticLocs frame_1_statics s) 600002 7302232) := by
  intro l hflags _ _ p e ha hc hk s m args below hf hfit hheap happ hpre
  obtain ⟨k, o, h1, h2, h3, rfl, hF⟩ := lw_comes l hflags p e ha hc hk s m args below hf hfit hheap happ hpre
  exact ⟨k, _, h1, h2, h3, hL args s _, lw_frame hF⟩
theorem i_vc : Claimed_1_1 ∧ Claimed_1_2 := ⟨lw_limb limb_1_1 (fun args s t => by simp [limb_1_1, Cond.after, Cond.holds, Cond.value]), lw_limb limb_1_2 (fun args s t => Cond.after_iff.mpr (by
  first | (rw [show limb_1_2 = Cond.eq .result (.int 1) from rfl, Cond.eq_ints (x := 1) (y := 1) rfl rfl]; simp; done) | (simp [limb_1_2, Cond.value, Term.eval]; done)))⟩
end
