section
-- ===== PART A: goes FIRST, ahead of the names: the tables' words, and 'selects' of the private methods out of them =====
/-- a private method of a class that the tables say can be made, by its rows of tables_1 -/
def lw_okq (q : MethodName × Nat) : Prop := (q.1.cls ≠ "java/lang/invoke/MethodHandle" ∧ q.1.cls ≠ "java/lang/invoke/VarHandle") ∧ Cond.instantiable q.1.cls q.2 ∈ tables_1 ∧ Cond.privateMethod q.1 ∈ tables_1 ∧ Cond.instanceMethod q.1 ∈ tables_1
theorem lw_p0 : lw_okq (⟨"LevelUnits", "putBytes", "(I)V"⟩, 5) := ⟨⟨by decide +kernel, by decide +kernel⟩, List.mem_of_getElem? (i := 34) (by decide +kernel), List.mem_of_getElem? (i := 182) (by decide +kernel), List.mem_of_getElem? (i := 183) (by decide +kernel)⟩
theorem lw_p1 : lw_okq (⟨"LevelUnits$Scanner", "scanToken", "()Z"⟩, 13) := ⟨⟨by decide +kernel, by decide +kernel⟩, List.mem_of_getElem? (i := 42) (by decide +kernel), List.mem_of_getElem? (i := 208) (by decide +kernel), List.mem_of_getElem? (i := 209) (by decide +kernel)⟩
theorem lw_p2 : lw_okq (⟨"LevelUnits$Scanner", "skipBlanks", "()I"⟩, 13) := ⟨⟨by decide +kernel, by decide +kernel⟩, List.mem_of_getElem? (i := 42) (by decide +kernel), List.mem_of_getElem? (i := 212) (by decide +kernel), List.mem_of_getElem? (i := 213) (by decide +kernel)⟩
theorem lw_p3 : lw_okq (⟨"LevelUnits$Scanner", "isPair", "(II)Z"⟩, 13) := ⟨⟨by decide +kernel, by decide +kernel⟩, List.mem_of_getElem? (i := 42) (by decide +kernel), List.mem_of_getElem? (i := 216) (by decide +kernel), List.mem_of_getElem? (i := 217) (by decide +kernel)⟩
theorem lw_p4 : lw_okq (⟨"LevelUnits$Scanner", "skipNote", "()Z"⟩, 13) := ⟨⟨by decide +kernel, by decide +kernel⟩, List.mem_of_getElem? (i := 42) (by decide +kernel), List.mem_of_getElem? (i := 220) (by decide +kernel), List.mem_of_getElem? (i := 221) (by decide +kernel)⟩
theorem lw_p5 : lw_okq (⟨"LevelUnits$Scanner", "putToken", "(III)Z"⟩, 13) := ⟨⟨by decide +kernel, by decide +kernel⟩, List.mem_of_getElem? (i := 42) (by decide +kernel), List.mem_of_getElem? (i := 224) (by decide +kernel), List.mem_of_getElem? (i := 225) (by decide +kernel)⟩
theorem lw_p6 : lw_okq (⟨"LevelUnits$Scanner", "scanName", "()Z"⟩, 13) := ⟨⟨by decide +kernel, by decide +kernel⟩, List.mem_of_getElem? (i := 42) (by decide +kernel), List.mem_of_getElem? (i := 231) (by decide +kernel), List.mem_of_getElem? (i := 232) (by decide +kernel)⟩
theorem lw_p7 : lw_okq (⟨"LevelUnits$Scanner", "wordAt", "(II)I"⟩, 13) := ⟨⟨by decide +kernel, by decide +kernel⟩, List.mem_of_getElem? (i := 42) (by decide +kernel), List.mem_of_getElem? (i := 238) (by decide +kernel), List.mem_of_getElem? (i := 239) (by decide +kernel)⟩
theorem lw_p8 : lw_okq (⟨"LevelUnits$Scanner", "nameAt", "(II)I"⟩, 13) := ⟨⟨by decide +kernel, by decide +kernel⟩, List.mem_of_getElem? (i := 42) (by decide +kernel), List.mem_of_getElem? (i := 291) (by decide +kernel), List.mem_of_getElem? (i := 292) (by decide +kernel)⟩
theorem lw_p9 : lw_okq (⟨"LevelUnits$Scanner", "isSameText", "(III)Z"⟩, 13) := ⟨⟨by decide +kernel, by decide +kernel⟩, List.mem_of_getElem? (i := 42) (by decide +kernel), List.mem_of_getElem? (i := 295) (by decide +kernel), List.mem_of_getElem? (i := 296) (by decide +kernel)⟩
theorem lw_p10 : lw_okq (⟨"LevelUnits$Scanner", "scanNumber", "()Z"⟩, 13) := ⟨⟨by decide +kernel, by decide +kernel⟩, List.mem_of_getElem? (i := 42) (by decide +kernel), List.mem_of_getElem? (i := 299) (by decide +kernel), List.mem_of_getElem? (i := 300) (by decide +kernel)⟩
theorem lw_p11 : lw_okq (⟨"LevelUnits$Scanner", "scanSign", "(I)Z"⟩, 13) := ⟨⟨by decide +kernel, by decide +kernel⟩, List.mem_of_getElem? (i := 42) (by decide +kernel), List.mem_of_getElem? (i := 310) (by decide +kernel), List.mem_of_getElem? (i := 311) (by decide +kernel)⟩
theorem lw_p12 : lw_okq (⟨"LevelUnits$Parser", "take", "(I)V"⟩, 20) := ⟨⟨by decide +kernel, by decide +kernel⟩, List.mem_of_getElem? (i := 372) (by decide +kernel), List.mem_of_getElem? (i := 561) (by decide +kernel), List.mem_of_getElem? (i := 562) (by decide +kernel)⟩
theorem lw_p13 : lw_okq (⟨"LevelUnits$Parser", "accept", "(I)Z"⟩, 20) := ⟨⟨by decide +kernel, by decide +kernel⟩, List.mem_of_getElem? (i := 372) (by decide +kernel), List.mem_of_getElem? (i := 565) (by decide +kernel), List.mem_of_getElem? (i := 566) (by decide +kernel)⟩
theorem lw_p14 : lw_okq (⟨"LevelUnits$Parser", "fail", "(I)V"⟩, 20) := ⟨⟨by decide +kernel, by decide +kernel⟩, List.mem_of_getElem? (i := 372) (by decide +kernel), List.mem_of_getElem? (i := 569) (by decide +kernel), List.mem_of_getElem? (i := 570) (by decide +kernel)⟩
theorem lw_p15 : lw_okq (⟨"LevelUnits$Parser", "told", "(I)LLevelUnits$Decl;"⟩, 20) := ⟨⟨by decide +kernel, by decide +kernel⟩, List.mem_of_getElem? (i := 372) (by decide +kernel), List.mem_of_getElem? (i := 573) (by decide +kernel), List.mem_of_getElem? (i := 574) (by decide +kernel)⟩
def lw_privs_1 : List (MethodName × Nat) := [(⟨"LevelUnits", "putBytes", "(I)V"⟩, 5), (⟨"LevelUnits$Scanner", "scanToken", "()Z"⟩, 13), (⟨"LevelUnits$Scanner", "skipBlanks", "()I"⟩, 13), (⟨"LevelUnits$Scanner", "isPair", "(II)Z"⟩, 13), (⟨"LevelUnits$Scanner", "skipNote", "()Z"⟩, 13), (⟨"LevelUnits$Scanner", "putToken", "(III)Z"⟩, 13), (⟨"LevelUnits$Scanner", "scanName", "()Z"⟩, 13), (⟨"LevelUnits$Scanner", "wordAt", "(II)I"⟩, 13), (⟨"LevelUnits$Scanner", "nameAt", "(II)I"⟩, 13), (⟨"LevelUnits$Scanner", "isSameText", "(III)Z"⟩, 13), (⟨"LevelUnits$Scanner", "scanNumber", "()Z"⟩, 13), (⟨"LevelUnits$Scanner", "scanSign", "(I)Z"⟩, 13), (⟨"LevelUnits$Parser", "take", "(I)V"⟩, 20), (⟨"LevelUnits$Parser", "accept", "(I)Z"⟩, 20), (⟨"LevelUnits$Parser", "fail", "(I)V"⟩, 20), (⟨"LevelUnits$Parser", "told", "(I)LLevelUnits$Decl;"⟩, 20)]
theorem lw_r1 : ∀ q ∈ lw_privs_1, lw_okq q := List.forall_mem_cons.mpr ⟨lw_p0, List.forall_mem_cons.mpr ⟨lw_p1, List.forall_mem_cons.mpr ⟨lw_p2, List.forall_mem_cons.mpr ⟨lw_p3, List.forall_mem_cons.mpr ⟨lw_p4, List.forall_mem_cons.mpr ⟨lw_p5, List.forall_mem_cons.mpr ⟨lw_p6, List.forall_mem_cons.mpr ⟨lw_p7, List.forall_mem_cons.mpr ⟨lw_p8, List.forall_mem_cons.mpr ⟨lw_p9, List.forall_mem_cons.mpr ⟨lw_p10, List.forall_mem_cons.mpr ⟨lw_p11, List.forall_mem_cons.mpr ⟨lw_p12, List.forall_mem_cons.mpr ⟨lw_p13, List.forall_mem_cons.mpr ⟨lw_p14, List.forall_mem_cons.mpr ⟨lw_p15, fun _ h => absurd h List.not_mem_nil⟩⟩⟩⟩⟩⟩⟩⟩⟩⟩⟩⟩⟩⟩⟩⟩
theorem lw_p16 : lw_okq (⟨"LevelUnits$Parser", "takeName", "()I"⟩, 20) := ⟨⟨by decide +kernel, by decide +kernel⟩, List.mem_of_getElem? (i := 372) (by decide +kernel), List.mem_of_getElem? (i := 579) (by decide +kernel), List.mem_of_getElem? (i := 580) (by decide +kernel)⟩
theorem lw_p17 : lw_okq (⟨"LevelUnits$Parser", "parseImports", "()V"⟩, 20) := ⟨⟨by decide +kernel, by decide +kernel⟩, List.mem_of_getElem? (i := 372) (by decide +kernel), List.mem_of_getElem? (i := 692) (by decide +kernel), List.mem_of_getElem? (i := 693) (by decide +kernel)⟩
theorem lw_p18 : lw_okq (⟨"LevelUnits$Parser", "append", "(LLevelUnits$Decl;)V"⟩, 20) := ⟨⟨by decide +kernel, by decide +kernel⟩, List.mem_of_getElem? (i := 372) (by decide +kernel), List.mem_of_getElem? (i := 696) (by decide +kernel), List.mem_of_getElem? (i := 697) (by decide +kernel)⟩
theorem lw_p19 : lw_okq (⟨"LevelUnits$Parser", "beginsDeclaration", "()Z"⟩, 20) := ⟨⟨by decide +kernel, by decide +kernel⟩, List.mem_of_getElem? (i := 372) (by decide +kernel), List.mem_of_getElem? (i := 700) (by decide +kernel), List.mem_of_getElem? (i := 701) (by decide +kernel)⟩
theorem lw_p20 : lw_okq (⟨"LevelUnits$Parser", "parseProcedure", "()V"⟩, 20) := ⟨⟨by decide +kernel, by decide +kernel⟩, List.mem_of_getElem? (i := 372) (by decide +kernel), List.mem_of_getElem? (i := 704) (by decide +kernel), List.mem_of_getElem? (i := 705) (by decide +kernel)⟩
theorem lw_p21 : lw_okq (⟨"LevelUnits$Parser", "advance", "()V"⟩, 20) := ⟨⟨by decide +kernel, by decide +kernel⟩, List.mem_of_getElem? (i := 372) (by decide +kernel), List.mem_of_getElem? (i := 708) (by decide +kernel), List.mem_of_getElem? (i := 709) (by decide +kernel)⟩
theorem lw_p22 : lw_okq (⟨"LevelUnits$Parser", "parseSignature", "()LLevelUnits$Node;"⟩, 20) := ⟨⟨by decide +kernel, by decide +kernel⟩, List.mem_of_getElem? (i := 372) (by decide +kernel), List.mem_of_getElem? (i := 712) (by decide +kernel), List.mem_of_getElem? (i := 713) (by decide +kernel)⟩
theorem lw_p23 : lw_okq (⟨"LevelUnits$Parser", "makeNode", "(I)LLevelUnits$Node;"⟩, 20) := ⟨⟨by decide +kernel, by decide +kernel⟩, List.mem_of_getElem? (i := 372) (by decide +kernel), List.mem_of_getElem? (i := 716) (by decide +kernel), List.mem_of_getElem? (i := 717) (by decide +kernel)⟩
theorem lw_p24 : lw_okq (⟨"LevelUnits$Parser", "takeOpening", "(I)V"⟩, 20) := ⟨⟨by decide +kernel, by decide +kernel⟩, List.mem_of_getElem? (i := 372) (by decide +kernel), List.mem_of_getElem? (i := 720) (by decide +kernel), List.mem_of_getElem? (i := 721) (by decide +kernel)⟩
theorem lw_p25 : lw_okq (⟨"LevelUnits$Parser", "parseFormals", "(LLevelUnits$Node;)LLevelUnits$Decl;"⟩, 20) := ⟨⟨by decide +kernel, by decide +kernel⟩, List.mem_of_getElem? (i := 372) (by decide +kernel), List.mem_of_getElem? (i := 724) (by decide +kernel), List.mem_of_getElem? (i := 725) (by decide +kernel)⟩
theorem lw_p26 : lw_okq (⟨"LevelUnits$Parser", "parseGroup", "(ILLevelUnits$Node;)LLevelUnits$Decl;"⟩, 20) := ⟨⟨by decide +kernel, by decide +kernel⟩, List.mem_of_getElem? (i := 372) (by decide +kernel), List.mem_of_getElem? (i := 728) (by decide +kernel), List.mem_of_getElem? (i := 729) (by decide +kernel)⟩
theorem lw_p27 : lw_okq (⟨"LevelUnits$Parser", "parseType", "()LLevelUnits$Node;"⟩, 20) := ⟨⟨by decide +kernel, by decide +kernel⟩, List.mem_of_getElem? (i := 372) (by decide +kernel), List.mem_of_getElem? (i := 732) (by decide +kernel), List.mem_of_getElem? (i := 733) (by decide +kernel)⟩
theorem lw_p28 : lw_okq (⟨"LevelUnits$Parser", "beginsType", "()Z"⟩, 20) := ⟨⟨by decide +kernel, by decide +kernel⟩, List.mem_of_getElem? (i := 372) (by decide +kernel), List.mem_of_getElem? (i := 736) (by decide +kernel), List.mem_of_getElem? (i := 737) (by decide +kernel)⟩
theorem lw_p29 : lw_okq (⟨"LevelUnits$Parser", "parseShape", "()LLevelUnits$Node;"⟩, 20) := ⟨⟨by decide +kernel, by decide +kernel⟩, List.mem_of_getElem? (i := 372) (by decide +kernel), List.mem_of_getElem? (i := 740) (by decide +kernel), List.mem_of_getElem? (i := 741) (by decide +kernel)⟩
theorem lw_p30 : lw_okq (⟨"LevelUnits$Parser", "parseNamed", "()LLevelUnits$Node;"⟩, 20) := ⟨⟨by decide +kernel, by decide +kernel⟩, List.mem_of_getElem? (i := 372) (by decide +kernel), List.mem_of_getElem? (i := 744) (by decide +kernel), List.mem_of_getElem? (i := 745) (by decide +kernel)⟩
theorem lw_p31 : lw_okq (⟨"LevelUnits$Parser", "qname", "()LLevelUnits$Op;"⟩, 20) := ⟨⟨by decide +kernel, by decide +kernel⟩, List.mem_of_getElem? (i := 372) (by decide +kernel), List.mem_of_getElem? (i := 748) (by decide +kernel), List.mem_of_getElem? (i := 749) (by decide +kernel)⟩
def lw_privs_2 : List (MethodName × Nat) := [(⟨"LevelUnits$Parser", "takeName", "()I"⟩, 20), (⟨"LevelUnits$Parser", "parseImports", "()V"⟩, 20), (⟨"LevelUnits$Parser", "append", "(LLevelUnits$Decl;)V"⟩, 20), (⟨"LevelUnits$Parser", "beginsDeclaration", "()Z"⟩, 20), (⟨"LevelUnits$Parser", "parseProcedure", "()V"⟩, 20), (⟨"LevelUnits$Parser", "advance", "()V"⟩, 20), (⟨"LevelUnits$Parser", "parseSignature", "()LLevelUnits$Node;"⟩, 20), (⟨"LevelUnits$Parser", "makeNode", "(I)LLevelUnits$Node;"⟩, 20), (⟨"LevelUnits$Parser", "takeOpening", "(I)V"⟩, 20), (⟨"LevelUnits$Parser", "parseFormals", "(LLevelUnits$Node;)LLevelUnits$Decl;"⟩, 20), (⟨"LevelUnits$Parser", "parseGroup", "(ILLevelUnits$Node;)LLevelUnits$Decl;"⟩, 20), (⟨"LevelUnits$Parser", "parseType", "()LLevelUnits$Node;"⟩, 20), (⟨"LevelUnits$Parser", "beginsType", "()Z"⟩, 20), (⟨"LevelUnits$Parser", "parseShape", "()LLevelUnits$Node;"⟩, 20), (⟨"LevelUnits$Parser", "parseNamed", "()LLevelUnits$Node;"⟩, 20), (⟨"LevelUnits$Parser", "qname", "()LLevelUnits$Op;"⟩, 20)]
theorem lw_r2 : ∀ q ∈ lw_privs_2, lw_okq q := List.forall_mem_cons.mpr ⟨lw_p16, List.forall_mem_cons.mpr ⟨lw_p17, List.forall_mem_cons.mpr ⟨lw_p18, List.forall_mem_cons.mpr ⟨lw_p19, List.forall_mem_cons.mpr ⟨lw_p20, List.forall_mem_cons.mpr ⟨lw_p21, List.forall_mem_cons.mpr ⟨lw_p22, List.forall_mem_cons.mpr ⟨lw_p23, List.forall_mem_cons.mpr ⟨lw_p24, List.forall_mem_cons.mpr ⟨lw_p25, List.forall_mem_cons.mpr ⟨lw_p26, List.forall_mem_cons.mpr ⟨lw_p27, List.forall_mem_cons.mpr ⟨lw_p28, List.forall_mem_cons.mpr ⟨lw_p29, List.forall_mem_cons.mpr ⟨lw_p30, List.forall_mem_cons.mpr ⟨lw_p31, fun _ h => absurd h List.not_mem_nil⟩⟩⟩⟩⟩⟩⟩⟩⟩⟩⟩⟩⟩⟩⟩⟩
theorem lw_p32 : lw_okq (⟨"LevelUnits$Parser", "parseLevel", "(LLevelUnits$Node;)LLevelUnits$Node;"⟩, 20) := ⟨⟨by decide +kernel, by decide +kernel⟩, List.mem_of_getElem? (i := 372) (by decide +kernel), List.mem_of_getElem? (i := 805) (by decide +kernel), List.mem_of_getElem? (i := 806) (by decide +kernel)⟩
theorem lw_p33 : lw_okq (⟨"LevelUnits$Parser", "parseFields", "(LLevelUnits$Node;)LLevelUnits$Decl;"⟩, 20) := ⟨⟨by decide +kernel, by decide +kernel⟩, List.mem_of_getElem? (i := 372) (by decide +kernel), List.mem_of_getElem? (i := 809) (by decide +kernel), List.mem_of_getElem? (i := 810) (by decide +kernel)⟩
theorem lw_p34 : lw_okq (⟨"LevelUnits$Parser", "parseMethods", "(LLevelUnits$Node;LLevelUnits$Decl;I)LLevelUnits$Decl;"⟩, 20) := ⟨⟨by decide +kernel, by decide +kernel⟩, List.mem_of_getElem? (i := 372) (by decide +kernel), List.mem_of_getElem? (i := 816) (by decide +kernel), List.mem_of_getElem? (i := 817) (by decide +kernel)⟩
theorem lw_p35 : lw_okq (⟨"LevelUnits$Parser", "parseBounds", "(LLevelUnits$Node;)V"⟩, 20) := ⟨⟨by decide +kernel, by decide +kernel⟩, List.mem_of_getElem? (i := 372) (by decide +kernel), List.mem_of_getElem? (i := 820) (by decide +kernel), List.mem_of_getElem? (i := 821) (by decide +kernel)⟩
theorem lw_p36 : lw_okq (⟨"LevelUnits$Parser", "parseBound", "()I"⟩, 20) := ⟨⟨by decide +kernel, by decide +kernel⟩, List.mem_of_getElem? (i := 372) (by decide +kernel), List.mem_of_getElem? (i := 824) (by decide +kernel), List.mem_of_getElem? (i := 825) (by decide +kernel)⟩
theorem lw_p37 : lw_okq (⟨"LevelUnits$Parser", "takeClosing", "(I)V"⟩, 20) := ⟨⟨by decide +kernel, by decide +kernel⟩, List.mem_of_getElem? (i := 372) (by decide +kernel), List.mem_of_getElem? (i := 828) (by decide +kernel), List.mem_of_getElem? (i := 829) (by decide +kernel)⟩
theorem lw_p38 : lw_okq (⟨"LevelUnits$Parser", "parseSimple", "()LLevelUnits$Node;"⟩, 20) := ⟨⟨by decide +kernel, by decide +kernel⟩, List.mem_of_getElem? (i := 372) (by decide +kernel), List.mem_of_getElem? (i := 832) (by decide +kernel), List.mem_of_getElem? (i := 833) (by decide +kernel)⟩
theorem lw_p39 : lw_okq (⟨"LevelUnits$Parser", "makeBody", "(LLevelUnits$Decl;)LLevelUnits$Stat;"⟩, 20) := ⟨⟨by decide +kernel, by decide +kernel⟩, List.mem_of_getElem? (i := 372) (by decide +kernel), List.mem_of_getElem? (i := 836) (by decide +kernel), List.mem_of_getElem? (i := 837) (by decide +kernel)⟩
theorem lw_p40 : lw_okq (⟨"LevelUnits$Parser", "parseStatements", "(LLevelUnits$Stat;)V"⟩, 20) := ⟨⟨by decide +kernel, by decide +kernel⟩, List.mem_of_getElem? (i := 372) (by decide +kernel), List.mem_of_getElem? (i := 941) (by decide +kernel), List.mem_of_getElem? (i := 942) (by decide +kernel)⟩
theorem lw_p41 : lw_okq (⟨"LevelUnits$Parser", "beginsStatement", "()Z"⟩, 20) := ⟨⟨by decide +kernel, by decide +kernel⟩, List.mem_of_getElem? (i := 372) (by decide +kernel), List.mem_of_getElem? (i := 945) (by decide +kernel), List.mem_of_getElem? (i := 946) (by decide +kernel)⟩
theorem lw_p42 : lw_okq (⟨"LevelUnits$Parser", "parseStatement", "(LLevelUnits$Stat;)LLevelUnits$Stat;"⟩, 20) := ⟨⟨by decide +kernel, by decide +kernel⟩, List.mem_of_getElem? (i := 372) (by decide +kernel), List.mem_of_getElem? (i := 949) (by decide +kernel), List.mem_of_getElem? (i := 950) (by decide +kernel)⟩
theorem lw_p43 : lw_okq (⟨"LevelUnits$Parser", "parseAction", "(LLevelUnits$Stat;)V"⟩, 20) := ⟨⟨by decide +kernel, by decide +kernel⟩, List.mem_of_getElem? (i := 372) (by decide +kernel), List.mem_of_getElem? (i := 953) (by decide +kernel), List.mem_of_getElem? (i := 954) (by decide +kernel)⟩
theorem lw_p44 : lw_okq (⟨"LevelUnits$Parser", "parsePlace", "()LLevelUnits$Op;"⟩, 20) := ⟨⟨by decide +kernel, by decide +kernel⟩, List.mem_of_getElem? (i := 372) (by decide +kernel), List.mem_of_getElem? (i := 957) (by decide +kernel), List.mem_of_getElem? (i := 958) (by decide +kernel)⟩
theorem lw_p45 : lw_okq (⟨"LevelUnits$Parser", "put", "(IILLevelUnits$Node;)V"⟩, 20) := ⟨⟨by decide +kernel, by decide +kernel⟩, List.mem_of_getElem? (i := 372) (by decide +kernel), List.mem_of_getElem? (i := 961) (by decide +kernel), List.mem_of_getElem? (i := 962) (by decide +kernel)⟩
theorem lw_p46 : lw_okq (⟨"LevelUnits$Parser", "parseE", "(LLevelUnits$Op;Z)LLevelUnits$Op;"⟩, 20) := ⟨⟨by decide +kernel, by decide +kernel⟩, List.mem_of_getElem? (i := 372) (by decide +kernel), List.mem_of_getElem? (i := 965) (by decide +kernel), List.mem_of_getElem? (i := 966) (by decide +kernel)⟩
theorem lw_p47 : lw_okq (⟨"LevelUnits$Parser", "parsePrefixes", "(I)V"⟩, 20) := ⟨⟨by decide +kernel, by decide +kernel⟩, List.mem_of_getElem? (i := 372) (by decide +kernel), List.mem_of_getElem? (i := 969) (by decide +kernel), List.mem_of_getElem? (i := 970) (by decide +kernel)⟩
def lw_privs_3 : List (MethodName × Nat) := [(⟨"LevelUnits$Parser", "parseLevel", "(LLevelUnits$Node;)LLevelUnits$Node;"⟩, 20), (⟨"LevelUnits$Parser", "parseFields", "(LLevelUnits$Node;)LLevelUnits$Decl;"⟩, 20), (⟨"LevelUnits$Parser", "parseMethods", "(LLevelUnits$Node;LLevelUnits$Decl;I)LLevelUnits$Decl;"⟩, 20), (⟨"LevelUnits$Parser", "parseBounds", "(LLevelUnits$Node;)V"⟩, 20), (⟨"LevelUnits$Parser", "parseBound", "()I"⟩, 20), (⟨"LevelUnits$Parser", "takeClosing", "(I)V"⟩, 20), (⟨"LevelUnits$Parser", "parseSimple", "()LLevelUnits$Node;"⟩, 20), (⟨"LevelUnits$Parser", "makeBody", "(LLevelUnits$Decl;)LLevelUnits$Stat;"⟩, 20), (⟨"LevelUnits$Parser", "parseStatements", "(LLevelUnits$Stat;)V"⟩, 20), (⟨"LevelUnits$Parser", "beginsStatement", "()Z"⟩, 20), (⟨"LevelUnits$Parser", "parseStatement", "(LLevelUnits$Stat;)LLevelUnits$Stat;"⟩, 20), (⟨"LevelUnits$Parser", "parseAction", "(LLevelUnits$Stat;)V"⟩, 20), (⟨"LevelUnits$Parser", "parsePlace", "()LLevelUnits$Op;"⟩, 20), (⟨"LevelUnits$Parser", "put", "(IILLevelUnits$Node;)V"⟩, 20), (⟨"LevelUnits$Parser", "parseE", "(LLevelUnits$Op;Z)LLevelUnits$Op;"⟩, 20), (⟨"LevelUnits$Parser", "parsePrefixes", "(I)V"⟩, 20)]
theorem lw_r3 : ∀ q ∈ lw_privs_3, lw_okq q := List.forall_mem_cons.mpr ⟨lw_p32, List.forall_mem_cons.mpr ⟨lw_p33, List.forall_mem_cons.mpr ⟨lw_p34, List.forall_mem_cons.mpr ⟨lw_p35, List.forall_mem_cons.mpr ⟨lw_p36, List.forall_mem_cons.mpr ⟨lw_p37, List.forall_mem_cons.mpr ⟨lw_p38, List.forall_mem_cons.mpr ⟨lw_p39, List.forall_mem_cons.mpr ⟨lw_p40, List.forall_mem_cons.mpr ⟨lw_p41, List.forall_mem_cons.mpr ⟨lw_p42, List.forall_mem_cons.mpr ⟨lw_p43, List.forall_mem_cons.mpr ⟨lw_p44, List.forall_mem_cons.mpr ⟨lw_p45, List.forall_mem_cons.mpr ⟨lw_p46, List.forall_mem_cons.mpr ⟨lw_p47, fun _ h => absurd h List.not_mem_nil⟩⟩⟩⟩⟩⟩⟩⟩⟩⟩⟩⟩⟩⟩⟩⟩
theorem lw_p48 : lw_okq (⟨"LevelUnits$Parser", "lastBinds", "(I)I"⟩, 20) := ⟨⟨by decide +kernel, by decide +kernel⟩, List.mem_of_getElem? (i := 372) (by decide +kernel), List.mem_of_getElem? (i := 973) (by decide +kernel), List.mem_of_getElem? (i := 974) (by decide +kernel)⟩
theorem lw_p49 : lw_okq (⟨"LevelUnits$Parser", "await", "(II)V"⟩, 20) := ⟨⟨by decide +kernel, by decide +kernel⟩, List.mem_of_getElem? (i := 372) (by decide +kernel), List.mem_of_getElem? (i := 977) (by decide +kernel), List.mem_of_getElem? (i := 978) (by decide +kernel)⟩
theorem lw_p50 : lw_okq (⟨"LevelUnits$Parser", "parseOperand", "()V"⟩, 20) := ⟨⟨by decide +kernel, by decide +kernel⟩, List.mem_of_getElem? (i := 372) (by decide +kernel), List.mem_of_getElem? (i := 981) (by decide +kernel), List.mem_of_getElem? (i := 982) (by decide +kernel)⟩
theorem lw_p51 : lw_okq (⟨"LevelUnits$Parser", "putWaiting", "(II)V"⟩, 20) := ⟨⟨by decide +kernel, by decide +kernel⟩, List.mem_of_getElem? (i := 372) (by decide +kernel), List.mem_of_getElem? (i := 988) (by decide +kernel), List.mem_of_getElem? (i := 989) (by decide +kernel)⟩
theorem lw_p52 : lw_okq (⟨"LevelUnits$Parser", "parseWorded", "(LLevelUnits$Stat;)V"⟩, 20) := ⟨⟨by decide +kernel, by decide +kernel⟩, List.mem_of_getElem? (i := 372) (by decide +kernel), List.mem_of_getElem? (i := 992) (by decide +kernel), List.mem_of_getElem? (i := 993) (by decide +kernel)⟩
theorem lw_p53 : lw_okq (⟨"LevelUnits$Parser", "parseIf", "(LLevelUnits$Stat;)V"⟩, 20) := ⟨⟨by decide +kernel, by decide +kernel⟩, List.mem_of_getElem? (i := 372) (by decide +kernel), List.mem_of_getElem? (i := 996) (by decide +kernel), List.mem_of_getElem? (i := 997) (by decide +kernel)⟩
theorem lw_p54 : lw_okq (⟨"LevelUnits$Parser", "makePart", "(LLevelUnits$Stat;LLevelUnits$Stat;I)LLevelUnits$Stat;"⟩, 20) := ⟨⟨by decide +kernel, by decide +kernel⟩, List.mem_of_getElem? (i := 372) (by decide +kernel), List.mem_of_getElem? (i := 1000) (by decide +kernel), List.mem_of_getElem? (i := 1001) (by decide +kernel)⟩
theorem lw_p55 : lw_okq (⟨"LevelUnits$Parser", "parseFor", "(LLevelUnits$Stat;)V"⟩, 20) := ⟨⟨by decide +kernel, by decide +kernel⟩, List.mem_of_getElem? (i := 372) (by decide +kernel), List.mem_of_getElem? (i := 1004) (by decide +kernel), List.mem_of_getElem? (i := 1005) (by decide +kernel)⟩
theorem lw_p56 : lw_okq (⟨"LevelUnits$Parser", "toldInSlot", "(LLevelUnits$Stat;I)LLevelUnits$Decl;"⟩, 20) := ⟨⟨by decide +kernel, by decide +kernel⟩, List.mem_of_getElem? (i := 372) (by decide +kernel), List.mem_of_getElem? (i := 1008) (by decide +kernel), List.mem_of_getElem? (i := 1009) (by decide +kernel)⟩
theorem lw_p57 : lw_okq (⟨"LevelUnits$Parser", "parseTry", "(LLevelUnits$Stat;)V"⟩, 20) := ⟨⟨by decide +kernel, by decide +kernel⟩, List.mem_of_getElem? (i := 372) (by decide +kernel), List.mem_of_getElem? (i := 1012) (by decide +kernel), List.mem_of_getElem? (i := 1013) (by decide +kernel)⟩
theorem lw_p58 : lw_okq (⟨"LevelUnits$Parser", "parsePartName", "(LLevelUnits$Stat;LLevelUnits$Stat;)V"⟩, 20) := ⟨⟨by decide +kernel, by decide +kernel⟩, List.mem_of_getElem? (i := 372) (by decide +kernel), List.mem_of_getElem? (i := 1016) (by decide +kernel), List.mem_of_getElem? (i := 1017) (by decide +kernel)⟩
theorem lw_p59 : lw_okq (⟨"LevelUnits$Parser", "parseTypecase", "(LLevelUnits$Stat;)V"⟩, 20) := ⟨⟨by decide +kernel, by decide +kernel⟩, List.mem_of_getElem? (i := 372) (by decide +kernel), List.mem_of_getElem? (i := 1020) (by decide +kernel), List.mem_of_getElem? (i := 1021) (by decide +kernel)⟩
theorem lw_p60 : lw_okq (⟨"LevelUnits$Parser", "takeEndName", "(LLevelUnits$Decl;)V"⟩, 20) := ⟨⟨by decide +kernel, by decide +kernel⟩, List.mem_of_getElem? (i := 372) (by decide +kernel), List.mem_of_getElem? (i := 1024) (by decide +kernel), List.mem_of_getElem? (i := 1025) (by decide +kernel)⟩
theorem lw_p61 : lw_okq (⟨"LevelUnits$Parser", "parseDeclaration", "()V"⟩, 20) := ⟨⟨by decide +kernel, by decide +kernel⟩, List.mem_of_getElem? (i := 372) (by decide +kernel), List.mem_of_getElem? (i := 1028) (by decide +kernel), List.mem_of_getElem? (i := 1029) (by decide +kernel)⟩
theorem lw_p62 : lw_okq (⟨"LevelUnits$Parser", "parseTypeTold", "()V"⟩, 20) := ⟨⟨by decide +kernel, by decide +kernel⟩, List.mem_of_getElem? (i := 372) (by decide +kernel), List.mem_of_getElem? (i := 1032) (by decide +kernel), List.mem_of_getElem? (i := 1033) (by decide +kernel)⟩
theorem lw_p63 : lw_okq (⟨"LevelUnits$Parser", "parseReveal", "()V"⟩, 20) := ⟨⟨by decide +kernel, by decide +kernel⟩, List.mem_of_getElem? (i := 372) (by decide +kernel), List.mem_of_getElem? (i := 1036) (by decide +kernel), List.mem_of_getElem? (i := 1037) (by decide +kernel)⟩
def lw_privs_4 : List (MethodName × Nat) := [(⟨"LevelUnits$Parser", "lastBinds", "(I)I"⟩, 20), (⟨"LevelUnits$Parser", "await", "(II)V"⟩, 20), (⟨"LevelUnits$Parser", "parseOperand", "()V"⟩, 20), (⟨"LevelUnits$Parser", "putWaiting", "(II)V"⟩, 20), (⟨"LevelUnits$Parser", "parseWorded", "(LLevelUnits$Stat;)V"⟩, 20), (⟨"LevelUnits$Parser", "parseIf", "(LLevelUnits$Stat;)V"⟩, 20), (⟨"LevelUnits$Parser", "makePart", "(LLevelUnits$Stat;LLevelUnits$Stat;I)LLevelUnits$Stat;"⟩, 20), (⟨"LevelUnits$Parser", "parseFor", "(LLevelUnits$Stat;)V"⟩, 20), (⟨"LevelUnits$Parser", "toldInSlot", "(LLevelUnits$Stat;I)LLevelUnits$Decl;"⟩, 20), (⟨"LevelUnits$Parser", "parseTry", "(LLevelUnits$Stat;)V"⟩, 20), (⟨"LevelUnits$Parser", "parsePartName", "(LLevelUnits$Stat;LLevelUnits$Stat;)V"⟩, 20), (⟨"LevelUnits$Parser", "parseTypecase", "(LLevelUnits$Stat;)V"⟩, 20), (⟨"LevelUnits$Parser", "takeEndName", "(LLevelUnits$Decl;)V"⟩, 20), (⟨"LevelUnits$Parser", "parseDeclaration", "()V"⟩, 20), (⟨"LevelUnits$Parser", "parseTypeTold", "()V"⟩, 20), (⟨"LevelUnits$Parser", "parseReveal", "()V"⟩, 20)]
theorem lw_r4 : ∀ q ∈ lw_privs_4, lw_okq q := List.forall_mem_cons.mpr ⟨lw_p48, List.forall_mem_cons.mpr ⟨lw_p49, List.forall_mem_cons.mpr ⟨lw_p50, List.forall_mem_cons.mpr ⟨lw_p51, List.forall_mem_cons.mpr ⟨lw_p52, List.forall_mem_cons.mpr ⟨lw_p53, List.forall_mem_cons.mpr ⟨lw_p54, List.forall_mem_cons.mpr ⟨lw_p55, List.forall_mem_cons.mpr ⟨lw_p56, List.forall_mem_cons.mpr ⟨lw_p57, List.forall_mem_cons.mpr ⟨lw_p58, List.forall_mem_cons.mpr ⟨lw_p59, List.forall_mem_cons.mpr ⟨lw_p60, List.forall_mem_cons.mpr ⟨lw_p61, List.forall_mem_cons.mpr ⟨lw_p62, List.forall_mem_cons.mpr ⟨lw_p63, fun _ h => absurd h List.not_mem_nil⟩⟩⟩⟩⟩⟩⟩⟩⟩⟩⟩⟩⟩⟩⟩⟩
theorem lw_p64 : lw_okq (⟨"LevelUnits$Names", "judgeUnit", "(LLevelUnits$Decl;)V"⟩, 2) := ⟨⟨by decide +kernel, by decide +kernel⟩, List.mem_of_getElem? (i := 1040) (by decide +kernel), List.mem_of_getElem? (i := 1058) (by decide +kernel), List.mem_of_getElem? (i := 1059) (by decide +kernel)⟩
theorem lw_p65 : lw_okq (⟨"LevelUnits$Names", "fault", "(II)V"⟩, 2) := ⟨⟨by decide +kernel, by decide +kernel⟩, List.mem_of_getElem? (i := 1040) (by decide +kernel), List.mem_of_getElem? (i := 1062) (by decide +kernel), List.mem_of_getElem? (i := 1063) (by decide +kernel)⟩
theorem lw_p66 : lw_okq (⟨"LevelUnits$Names", "interfaceAhead", "(LLevelUnits$Decl;I)LLevelUnits$Decl;"⟩, 2) := ⟨⟨by decide +kernel, by decide +kernel⟩, List.mem_of_getElem? (i := 1040) (by decide +kernel), List.mem_of_getElem? (i := 1067) (by decide +kernel), List.mem_of_getElem? (i := 1068) (by decide +kernel)⟩
theorem lw_p67 : lw_okq (⟨"LevelUnits$Names", "linkProcedures", "(LLevelUnits$Decl;)V"⟩, 2) := ⟨⟨by decide +kernel, by decide +kernel⟩, List.mem_of_getElem? (i := 1040) (by decide +kernel), List.mem_of_getElem? (i := 1071) (by decide +kernel), List.mem_of_getElem? (i := 1072) (by decide +kernel)⟩
theorem lw_p68 : lw_okq (⟨"LevelUnits$Names", "judgeDeclaration", "(LLevelUnits$Decl;LLevelUnits$Decl;)V"⟩, 2) := ⟨⟨by decide +kernel, by decide +kernel⟩, List.mem_of_getElem? (i := 1040) (by decide +kernel), List.mem_of_getElem? (i := 1078) (by decide +kernel), List.mem_of_getElem? (i := 1079) (by decide +kernel)⟩
theorem lw_p69 : lw_okq (⟨"LevelUnits$Names", "judgeUse", "(LLevelUnits$Decl;LLevelUnits$Op;I)V"⟩, 2) := ⟨⟨by decide +kernel, by decide +kernel⟩, List.mem_of_getElem? (i := 1040) (by decide +kernel), List.mem_of_getElem? (i := 1082) (by decide +kernel), List.mem_of_getElem? (i := 1083) (by decide +kernel)⟩
theorem lw_p70 : lw_okq (⟨"LevelUnits$Names", "judgeNode", "(LLevelUnits$Node;)V"⟩, 2) := ⟨⟨by decide +kernel, by decide +kernel⟩, List.mem_of_getElem? (i := 1040) (by decide +kernel), List.mem_of_getElem? (i := 1095) (by decide +kernel), List.mem_of_getElem? (i := 1096) (by decide +kernel)⟩
theorem lw_p71 : lw_okq (⟨"LevelUnits$Names", "judgeStatement", "(LLevelUnits$Stat;)V"⟩, 2) := ⟨⟨by decide +kernel, by decide +kernel⟩, List.mem_of_getElem? (i := 1040) (by decide +kernel), List.mem_of_getElem? (i := 1099) (by decide +kernel), List.mem_of_getElem? (i := 1100) (by decide +kernel)⟩
theorem lw_p72 : lw_okq (⟨"LevelUnits$Names", "judgePlaces", "(LLevelUnits$Stat;LLevelUnits$Op;)V"⟩, 2) := ⟨⟨by decide +kernel, by decide +kernel⟩, List.mem_of_getElem? (i := 1040) (by decide +kernel), List.mem_of_getElem? (i := 1103) (by decide +kernel), List.mem_of_getElem? (i := 1104) (by decide +kernel)⟩
theorem lw_p73 : lw_okq (⟨"LevelUnits$Names", "judgePlace", "(LLevelUnits$Stat;LLevelUnits$Op;)V"⟩, 2) := ⟨⟨by decide +kernel, by decide +kernel⟩, List.mem_of_getElem? (i := 1040) (by decide +kernel), List.mem_of_getElem? (i := 1107) (by decide +kernel), List.mem_of_getElem? (i := 1108) (by decide +kernel)⟩
theorem lw_p74 : lw_okq (⟨"LevelUnits$Types", "number", "()V"⟩, 13) := ⟨⟨by decide +kernel, by decide +kernel⟩, List.mem_of_getElem? (i := 1114) (by decide +kernel), List.mem_of_getElem? (i := 1189) (by decide +kernel), List.mem_of_getElem? (i := 1190) (by decide +kernel)⟩
theorem lw_p75 : lw_okq (⟨"LevelUnits$Types", "replaced", "(LLevelUnits$Node;)LLevelUnits$Node;"⟩, 13) := ⟨⟨by decide +kernel, by decide +kernel⟩, List.mem_of_getElem? (i := 1114) (by decide +kernel), List.mem_of_getElem? (i := 1193) (by decide +kernel), List.mem_of_getElem? (i := 1194) (by decide +kernel)⟩
theorem lw_p76 : lw_okq (⟨"LevelUnits$Types", "linkReveals", "()V"⟩, 13) := ⟨⟨by decide +kernel, by decide +kernel⟩, List.mem_of_getElem? (i := 1114) (by decide +kernel), List.mem_of_getElem? (i := 1197) (by decide +kernel), List.mem_of_getElem? (i := 1198) (by decide +kernel)⟩
theorem lw_p77 : lw_okq (⟨"LevelUnits$Types", "aboveInWhole", "(LLevelUnits$Node;)LLevelUnits$Node;"⟩, 13) := ⟨⟨by decide +kernel, by decide +kernel⟩, List.mem_of_getElem? (i := 1114) (by decide +kernel), List.mem_of_getElem? (i := 1204) (by decide +kernel), List.mem_of_getElem? (i := 1205) (by decide +kernel)⟩
theorem lw_p78 : lw_okq (⟨"LevelUnits$Types", "findShapes", "()V"⟩, 13) := ⟨⟨by decide +kernel, by decide +kernel⟩, List.mem_of_getElem? (i := 1114) (by decide +kernel), List.mem_of_getElem? (i := 1212) (by decide +kernel), List.mem_of_getElem? (i := 1213) (by decide +kernel)⟩
theorem lw_p79 : lw_okq (⟨"LevelUnits$Types", "findViews", "()V"⟩, 13) := ⟨⟨by decide +kernel, by decide +kernel⟩, List.mem_of_getElem? (i := 1114) (by decide +kernel), List.mem_of_getElem? (i := 1238) (by decide +kernel), List.mem_of_getElem? (i := 1239) (by decide +kernel)⟩
def lw_privs_5 : List (MethodName × Nat) := [(⟨"LevelUnits$Names", "judgeUnit", "(LLevelUnits$Decl;)V"⟩, 2), (⟨"LevelUnits$Names", "fault", "(II)V"⟩, 2), (⟨"LevelUnits$Names", "interfaceAhead", "(LLevelUnits$Decl;I)LLevelUnits$Decl;"⟩, 2), (⟨"LevelUnits$Names", "linkProcedures", "(LLevelUnits$Decl;)V"⟩, 2), (⟨"LevelUnits$Names", "judgeDeclaration", "(LLevelUnits$Decl;LLevelUnits$Decl;)V"⟩, 2), (⟨"LevelUnits$Names", "judgeUse", "(LLevelUnits$Decl;LLevelUnits$Op;I)V"⟩, 2), (⟨"LevelUnits$Names", "judgeNode", "(LLevelUnits$Node;)V"⟩, 2), (⟨"LevelUnits$Names", "judgeStatement", "(LLevelUnits$Stat;)V"⟩, 2), (⟨"LevelUnits$Names", "judgePlaces", "(LLevelUnits$Stat;LLevelUnits$Op;)V"⟩, 2), (⟨"LevelUnits$Names", "judgePlace", "(LLevelUnits$Stat;LLevelUnits$Op;)V"⟩, 2), (⟨"LevelUnits$Types", "number", "()V"⟩, 13), (⟨"LevelUnits$Types", "replaced", "(LLevelUnits$Node;)LLevelUnits$Node;"⟩, 13), (⟨"LevelUnits$Types", "linkReveals", "()V"⟩, 13), (⟨"LevelUnits$Types", "aboveInWhole", "(LLevelUnits$Node;)LLevelUnits$Node;"⟩, 13), (⟨"LevelUnits$Types", "findShapes", "()V"⟩, 13), (⟨"LevelUnits$Types", "findViews", "()V"⟩, 13)]
theorem lw_r5 : ∀ q ∈ lw_privs_5, lw_okq q := List.forall_mem_cons.mpr ⟨lw_p64, List.forall_mem_cons.mpr ⟨lw_p65, List.forall_mem_cons.mpr ⟨lw_p66, List.forall_mem_cons.mpr ⟨lw_p67, List.forall_mem_cons.mpr ⟨lw_p68, List.forall_mem_cons.mpr ⟨lw_p69, List.forall_mem_cons.mpr ⟨lw_p70, List.forall_mem_cons.mpr ⟨lw_p71, List.forall_mem_cons.mpr ⟨lw_p72, List.forall_mem_cons.mpr ⟨lw_p73, List.forall_mem_cons.mpr ⟨lw_p74, List.forall_mem_cons.mpr ⟨lw_p75, List.forall_mem_cons.mpr ⟨lw_p76, List.forall_mem_cons.mpr ⟨lw_p77, List.forall_mem_cons.mpr ⟨lw_p78, List.forall_mem_cons.mpr ⟨lw_p79, fun _ h => absurd h List.not_mem_nil⟩⟩⟩⟩⟩⟩⟩⟩⟩⟩⟩⟩⟩⟩⟩⟩
theorem lw_p80 : lw_okq (⟨"LevelUnits$Types", "viewed", "(LLevelUnits$Decl;LLevelUnits$Node;)LLevelUnits$Node;"⟩, 13) := ⟨⟨by decide +kernel, by decide +kernel⟩, List.mem_of_getElem? (i := 1114) (by decide +kernel), List.mem_of_getElem? (i := 1242) (by decide +kernel), List.mem_of_getElem? (i := 1243) (by decide +kernel)⟩
theorem lw_p81 : lw_okq (⟨"LevelUnits$Types", "findCells", "()Z"⟩, 13) := ⟨⟨by decide +kernel, by decide +kernel⟩, List.mem_of_getElem? (i := 1114) (by decide +kernel), List.mem_of_getElem? (i := 1249) (by decide +kernel), List.mem_of_getElem? (i := 1250) (by decide +kernel)⟩
theorem lw_p82 : lw_okq (⟨"LevelUnits$Types", "judgeDeclaration", "(LLevelUnits$Decl;)V"⟩, 13) := ⟨⟨by decide +kernel, by decide +kernel⟩, List.mem_of_getElem? (i := 1114) (by decide +kernel), List.mem_of_getElem? (i := 1268) (by decide +kernel), List.mem_of_getElem? (i := 1269) (by decide +kernel)⟩
theorem lw_p83 : lw_okq (⟨"LevelUnits$Types", "isInRing", "(LLevelUnits$Decl;)Z"⟩, 13) := ⟨⟨by decide +kernel, by decide +kernel⟩, List.mem_of_getElem? (i := 1114) (by decide +kernel), List.mem_of_getElem? (i := 1272) (by decide +kernel), List.mem_of_getElem? (i := 1273) (by decide +kernel)⟩
theorem lw_p84 : lw_okq (⟨"LevelUnits$Types", "aboveByName", "(LLevelUnits$Decl;)LLevelUnits$Decl;"⟩, 13) := ⟨⟨by decide +kernel, by decide +kernel⟩, List.mem_of_getElem? (i := 1114) (by decide +kernel), List.mem_of_getElem? (i := 1276) (by decide +kernel), List.mem_of_getElem? (i := 1277) (by decide +kernel)⟩
theorem lw_p85 : lw_okq (⟨"LevelUnits$Types", "holdsItself", "(LLevelUnits$Decl;)Z"⟩, 13) := ⟨⟨by decide +kernel, by decide +kernel⟩, List.mem_of_getElem? (i := 1114) (by decide +kernel), List.mem_of_getElem? (i := 1280) (by decide +kernel), List.mem_of_getElem? (i := 1281) (by decide +kernel)⟩
theorem lw_p86 : lw_okq (⟨"LevelUnits$Types", "fault", "(II)V"⟩, 13) := ⟨⟨by decide +kernel, by decide +kernel⟩, List.mem_of_getElem? (i := 1114) (by decide +kernel), List.mem_of_getElem? (i := 1284) (by decide +kernel), List.mem_of_getElem? (i := 1285) (by decide +kernel)⟩
theorem lw_p87 : lw_okq (⟨"LevelUnits$Types", "isAboveInWhole", "(LLevelUnits$Node;LLevelUnits$Node;)Z"⟩, 13) := ⟨⟨by decide +kernel, by decide +kernel⟩, List.mem_of_getElem? (i := 1114) (by decide +kernel), List.mem_of_getElem? (i := 1289) (by decide +kernel), List.mem_of_getElem? (i := 1290) (by decide +kernel)⟩
theorem lw_p88 : lw_okq (⟨"LevelUnits$Types", "judgeReveal", "(LLevelUnits$Decl;)V"⟩, 13) := ⟨⟨by decide +kernel, by decide +kernel⟩, List.mem_of_getElem? (i := 1114) (by decide +kernel), List.mem_of_getElem? (i := 1296) (by decide +kernel), List.mem_of_getElem? (i := 1297) (by decide +kernel)⟩
theorem lw_p89 : lw_okq (⟨"LevelUnits$Types", "judgeTold", "(LLevelUnits$Decl;)V"⟩, 13) := ⟨⟨by decide +kernel, by decide +kernel⟩, List.mem_of_getElem? (i := 1114) (by decide +kernel), List.mem_of_getElem? (i := 1301) (by decide +kernel), List.mem_of_getElem? (i := 1302) (by decide +kernel)⟩
theorem lw_p90 : lw_okq (⟨"LevelUnits$Types", "judgeNode", "(LLevelUnits$Node;)V"⟩, 13) := ⟨⟨by decide +kernel, by decide +kernel⟩, List.mem_of_getElem? (i := 1114) (by decide +kernel), List.mem_of_getElem? (i := 1305) (by decide +kernel), List.mem_of_getElem? (i := 1306) (by decide +kernel)⟩
theorem lw_p91 : lw_okq (⟨"LevelUnits$Types", "judgeMethods", "(LLevelUnits$Node;)V"⟩, 13) := ⟨⟨by decide +kernel, by decide +kernel⟩, List.mem_of_getElem? (i := 1114) (by decide +kernel), List.mem_of_getElem? (i := 1313) (by decide +kernel), List.mem_of_getElem? (i := 1314) (by decide +kernel)⟩
theorem lw_p92 : lw_okq (⟨"LevelUnits$Types", "isFitting", "(LLevelUnits$Decl;LLevelUnits$Node;LLevelUnits$Node;LLevelUnits$Decl;)Z"⟩, 13) := ⟨⟨by decide +kernel, by decide +kernel⟩, List.mem_of_getElem? (i := 1114) (by decide +kernel), List.mem_of_getElem? (i := 1317) (by decide +kernel), List.mem_of_getElem? (i := 1318) (by decide +kernel)⟩
theorem lw_p93 : lw_okq (⟨"LevelUnits$Types", "fieldCells", "(LLevelUnits$Node;)I"⟩, 13) := ⟨⟨by decide +kernel, by decide +kernel⟩, List.mem_of_getElem? (i := 1114) (by decide +kernel), List.mem_of_getElem? (i := 1340) (by decide +kernel), List.mem_of_getElem? (i := 1341) (by decide +kernel)⟩
theorem lw_p94 : lw_okq (⟨"LevelUnits$Checker", "judgeStatement", "(LLevelUnits$Stat;)V"⟩, 7) := ⟨⟨by decide +kernel, by decide +kernel⟩, List.mem_of_getElem? (i := 1347) (by decide +kernel), List.mem_of_getElem? (i := 1381) (by decide +kernel), List.mem_of_getElem? (i := 1382) (by decide +kernel)⟩
theorem lw_p95 : lw_okq (⟨"LevelUnits$Checker", "typeOf", "(LLevelUnits$Op;Z)LLevelUnits$Node;"⟩, 7) := ⟨⟨by decide +kernel, by decide +kernel⟩, List.mem_of_getElem? (i := 1347) (by decide +kernel), List.mem_of_getElem? (i := 1385) (by decide +kernel), List.mem_of_getElem? (i := 1386) (by decide +kernel)⟩
def lw_privs_6 : List (MethodName × Nat) := [(⟨"LevelUnits$Types", "viewed", "(LLevelUnits$Decl;LLevelUnits$Node;)LLevelUnits$Node;"⟩, 13), (⟨"LevelUnits$Types", "findCells", "()Z"⟩, 13), (⟨"LevelUnits$Types", "judgeDeclaration", "(LLevelUnits$Decl;)V"⟩, 13), (⟨"LevelUnits$Types", "isInRing", "(LLevelUnits$Decl;)Z"⟩, 13), (⟨"LevelUnits$Types", "aboveByName", "(LLevelUnits$Decl;)LLevelUnits$Decl;"⟩, 13), (⟨"LevelUnits$Types", "holdsItself", "(LLevelUnits$Decl;)Z"⟩, 13), (⟨"LevelUnits$Types", "fault", "(II)V"⟩, 13), (⟨"LevelUnits$Types", "isAboveInWhole", "(LLevelUnits$Node;LLevelUnits$Node;)Z"⟩, 13), (⟨"LevelUnits$Types", "judgeReveal", "(LLevelUnits$Decl;)V"⟩, 13), (⟨"LevelUnits$Types", "judgeTold", "(LLevelUnits$Decl;)V"⟩, 13), (⟨"LevelUnits$Types", "judgeNode", "(LLevelUnits$Node;)V"⟩, 13), (⟨"LevelUnits$Types", "judgeMethods", "(LLevelUnits$Node;)V"⟩, 13), (⟨"LevelUnits$Types", "isFitting", "(LLevelUnits$Decl;LLevelUnits$Node;LLevelUnits$Node;LLevelUnits$Decl;)Z"⟩, 13), (⟨"LevelUnits$Types", "fieldCells", "(LLevelUnits$Node;)I"⟩, 13), (⟨"LevelUnits$Checker", "judgeStatement", "(LLevelUnits$Stat;)V"⟩, 7), (⟨"LevelUnits$Checker", "typeOf", "(LLevelUnits$Op;Z)LLevelUnits$Node;"⟩, 7)]
theorem lw_r6 : ∀ q ∈ lw_privs_6, lw_okq q := List.forall_mem_cons.mpr ⟨lw_p80, List.forall_mem_cons.mpr ⟨lw_p81, List.forall_mem_cons.mpr ⟨lw_p82, List.forall_mem_cons.mpr ⟨lw_p83, List.forall_mem_cons.mpr ⟨lw_p84, List.forall_mem_cons.mpr ⟨lw_p85, List.forall_mem_cons.mpr ⟨lw_p86, List.forall_mem_cons.mpr ⟨lw_p87, List.forall_mem_cons.mpr ⟨lw_p88, List.forall_mem_cons.mpr ⟨lw_p89, List.forall_mem_cons.mpr ⟨lw_p90, List.forall_mem_cons.mpr ⟨lw_p91, List.forall_mem_cons.mpr ⟨lw_p92, List.forall_mem_cons.mpr ⟨lw_p93, List.forall_mem_cons.mpr ⟨lw_p94, List.forall_mem_cons.mpr ⟨lw_p95, fun _ h => absurd h List.not_mem_nil⟩⟩⟩⟩⟩⟩⟩⟩⟩⟩⟩⟩⟩⟩⟩⟩
theorem lw_p96 : lw_okq (⟨"LevelUnits$Checker", "push", "(LLevelUnits$Node;)V"⟩, 7) := ⟨⟨by decide +kernel, by decide +kernel⟩, List.mem_of_getElem? (i := 1347) (by decide +kernel), List.mem_of_getElem? (i := 1389) (by decide +kernel), List.mem_of_getElem? (i := 1390) (by decide +kernel)⟩
theorem lw_p97 : lw_okq (⟨"LevelUnits$Checker", "judgeName", "(LLevelUnits$Op;)V"⟩, 7) := ⟨⟨by decide +kernel, by decide +kernel⟩, List.mem_of_getElem? (i := 1347) (by decide +kernel), List.mem_of_getElem? (i := 1393) (by decide +kernel), List.mem_of_getElem? (i := 1394) (by decide +kernel)⟩
theorem lw_p98 : lw_okq (⟨"LevelUnits$Checker", "pop", "()LLevelUnits$Node;"⟩, 7) := ⟨⟨by decide +kernel, by decide +kernel⟩, List.mem_of_getElem? (i := 1347) (by decide +kernel), List.mem_of_getElem? (i := 1397) (by decide +kernel), List.mem_of_getElem? (i := 1398) (by decide +kernel)⟩
theorem lw_p99 : lw_okq (⟨"LevelUnits$Checker", "judgeMember", "(LLevelUnits$Op;LLevelUnits$Node;Z)V"⟩, 7) := ⟨⟨by decide +kernel, by decide +kernel⟩, List.mem_of_getElem? (i := 1347) (by decide +kernel), List.mem_of_getElem? (i := 1401) (by decide +kernel), List.mem_of_getElem? (i := 1402) (by decide +kernel)⟩
theorem lw_p100 : lw_okq (⟨"LevelUnits$Checker", "fault", "(I)V"⟩, 7) := ⟨⟨by decide +kernel, by decide +kernel⟩, List.mem_of_getElem? (i := 1347) (by decide +kernel), List.mem_of_getElem? (i := 1407) (by decide +kernel), List.mem_of_getElem? (i := 1408) (by decide +kernel)⟩
theorem lw_p101 : lw_okq (⟨"LevelUnits$Checker", "judgeInside", "(LLevelUnits$Op;)V"⟩, 7) := ⟨⟨by decide +kernel, by decide +kernel⟩, List.mem_of_getElem? (i := 1347) (by decide +kernel), List.mem_of_getElem? (i := 1412) (by decide +kernel), List.mem_of_getElem? (i := 1413) (by decide +kernel)⟩
theorem lw_p102 : lw_okq (⟨"LevelUnits$Checker", "needKind", "(LLevelUnits$Node;I)V"⟩, 7) := ⟨⟨by decide +kernel, by decide +kernel⟩, List.mem_of_getElem? (i := 1347) (by decide +kernel), List.mem_of_getElem? (i := 1416) (by decide +kernel), List.mem_of_getElem? (i := 1417) (by decide +kernel)⟩
theorem lw_p103 : lw_okq (⟨"LevelUnits$Checker", "judgeEqual", "(LLevelUnits$Node;LLevelUnits$Node;)V"⟩, 7) := ⟨⟨by decide +kernel, by decide +kernel⟩, List.mem_of_getElem? (i := 1347) (by decide +kernel), List.mem_of_getElem? (i := 1421) (by decide +kernel), List.mem_of_getElem? (i := 1422) (by decide +kernel)⟩
theorem lw_p104 : lw_okq (⟨"LevelUnits$Checker", "judgeNew", "(LLevelUnits$Node;)V"⟩, 7) := ⟨⟨by decide +kernel, by decide +kernel⟩, List.mem_of_getElem? (i := 1347) (by decide +kernel), List.mem_of_getElem? (i := 1433) (by decide +kernel), List.mem_of_getElem? (i := 1434) (by decide +kernel)⟩
theorem lw_p105 : lw_okq (⟨"LevelUnits$Checker", "needRelated", "(LLevelUnits$Node;LLevelUnits$Node;)V"⟩, 7) := ⟨⟨by decide +kernel, by decide +kernel⟩, List.mem_of_getElem? (i := 1347) (by decide +kernel), List.mem_of_getElem? (i := 1438) (by decide +kernel), List.mem_of_getElem? (i := 1439) (by decide +kernel)⟩
theorem lw_p106 : lw_okq (⟨"LevelUnits$Checker", "judgeOperator", "(I)V"⟩, 7) := ⟨⟨by decide +kernel, by decide +kernel⟩, List.mem_of_getElem? (i := 1347) (by decide +kernel), List.mem_of_getElem? (i := 1442) (by decide +kernel), List.mem_of_getElem? (i := 1443) (by decide +kernel)⟩
theorem lw_p107 : lw_okq (⟨"LevelUnits$Checker", "target", "(LLevelUnits$Op;LLevelUnits$Node;)LLevelUnits$Node;"⟩, 7) := ⟨⟨by decide +kernel, by decide +kernel⟩, List.mem_of_getElem? (i := 1347) (by decide +kernel), List.mem_of_getElem? (i := 1446) (by decide +kernel), List.mem_of_getElem? (i := 1447) (by decide +kernel)⟩
theorem lw_p108 : lw_okq (⟨"LevelUnits$Checker", "needAssignable", "(LLevelUnits$Node;LLevelUnits$Node;)V"⟩, 7) := ⟨⟨by decide +kernel, by decide +kernel⟩, List.mem_of_getElem? (i := 1347) (by decide +kernel), List.mem_of_getElem? (i := 1456) (by decide +kernel), List.mem_of_getElem? (i := 1457) (by decide +kernel)⟩
theorem lw_p109 : lw_okq (⟨"LevelUnits$Checker", "judgeCall", "(LLevelUnits$Stat;LLevelUnits$Node;)V"⟩, 7) := ⟨⟨by decide +kernel, by decide +kernel⟩, List.mem_of_getElem? (i := 1347) (by decide +kernel), List.mem_of_getElem? (i := 1460) (by decide +kernel), List.mem_of_getElem? (i := 1461) (by decide +kernel)⟩
theorem lw_p110 : lw_okq (⟨"LevelUnits$Checker", "judgeParameter", "(LLevelUnits$Op;LLevelUnits$Node;LLevelUnits$Decl;)V"⟩, 7) := ⟨⟨by decide +kernel, by decide +kernel⟩, List.mem_of_getElem? (i := 1347) (by decide +kernel), List.mem_of_getElem? (i := 1464) (by decide +kernel), List.mem_of_getElem? (i := 1465) (by decide +kernel)⟩
theorem lw_p111 : lw_okq (⟨"LevelUnits$Checker", "judgeReturn", "(LLevelUnits$Stat;LLevelUnits$Node;)V"⟩, 7) := ⟨⟨by decide +kernel, by decide +kernel⟩, List.mem_of_getElem? (i := 1347) (by decide +kernel), List.mem_of_getElem? (i := 1471) (by decide +kernel), List.mem_of_getElem? (i := 1472) (by decide +kernel)⟩
def lw_privs_7 : List (MethodName × Nat) := [(⟨"LevelUnits$Checker", "push", "(LLevelUnits$Node;)V"⟩, 7), (⟨"LevelUnits$Checker", "judgeName", "(LLevelUnits$Op;)V"⟩, 7), (⟨"LevelUnits$Checker", "pop", "()LLevelUnits$Node;"⟩, 7), (⟨"LevelUnits$Checker", "judgeMember", "(LLevelUnits$Op;LLevelUnits$Node;Z)V"⟩, 7), (⟨"LevelUnits$Checker", "fault", "(I)V"⟩, 7), (⟨"LevelUnits$Checker", "judgeInside", "(LLevelUnits$Op;)V"⟩, 7), (⟨"LevelUnits$Checker", "needKind", "(LLevelUnits$Node;I)V"⟩, 7), (⟨"LevelUnits$Checker", "judgeEqual", "(LLevelUnits$Node;LLevelUnits$Node;)V"⟩, 7), (⟨"LevelUnits$Checker", "judgeNew", "(LLevelUnits$Node;)V"⟩, 7), (⟨"LevelUnits$Checker", "needRelated", "(LLevelUnits$Node;LLevelUnits$Node;)V"⟩, 7), (⟨"LevelUnits$Checker", "judgeOperator", "(I)V"⟩, 7), (⟨"LevelUnits$Checker", "target", "(LLevelUnits$Op;LLevelUnits$Node;)LLevelUnits$Node;"⟩, 7), (⟨"LevelUnits$Checker", "needAssignable", "(LLevelUnits$Node;LLevelUnits$Node;)V"⟩, 7), (⟨"LevelUnits$Checker", "judgeCall", "(LLevelUnits$Stat;LLevelUnits$Node;)V"⟩, 7), (⟨"LevelUnits$Checker", "judgeParameter", "(LLevelUnits$Op;LLevelUnits$Node;LLevelUnits$Decl;)V"⟩, 7), (⟨"LevelUnits$Checker", "judgeReturn", "(LLevelUnits$Stat;LLevelUnits$Node;)V"⟩, 7)]
theorem lw_r7 : ∀ q ∈ lw_privs_7, lw_okq q := List.forall_mem_cons.mpr ⟨lw_p96, List.forall_mem_cons.mpr ⟨lw_p97, List.forall_mem_cons.mpr ⟨lw_p98, List.forall_mem_cons.mpr ⟨lw_p99, List.forall_mem_cons.mpr ⟨lw_p100, List.forall_mem_cons.mpr ⟨lw_p101, List.forall_mem_cons.mpr ⟨lw_p102, List.forall_mem_cons.mpr ⟨lw_p103, List.forall_mem_cons.mpr ⟨lw_p104, List.forall_mem_cons.mpr ⟨lw_p105, List.forall_mem_cons.mpr ⟨lw_p106, List.forall_mem_cons.mpr ⟨lw_p107, List.forall_mem_cons.mpr ⟨lw_p108, List.forall_mem_cons.mpr ⟨lw_p109, List.forall_mem_cons.mpr ⟨lw_p110, List.forall_mem_cons.mpr ⟨lw_p111, fun _ h => absurd h List.not_mem_nil⟩⟩⟩⟩⟩⟩⟩⟩⟩⟩⟩⟩⟩⟩⟩⟩
theorem lw_p112 : lw_okq (⟨"LevelUnits$Checker", "judgeTypecase", "(LLevelUnits$Stat;LLevelUnits$Node;)V"⟩, 7) := ⟨⟨by decide +kernel, by decide +kernel⟩, List.mem_of_getElem? (i := 1347) (by decide +kernel), List.mem_of_getElem? (i := 1475) (by decide +kernel), List.mem_of_getElem? (i := 1476) (by decide +kernel)⟩
theorem lw_p113 : lw_okq (⟨"LevelUnits$Checker", "judgeLeaving", "(LLevelUnits$Stat;LLevelUnits$Op;)V"⟩, 7) := ⟨⟨by decide +kernel, by decide +kernel⟩, List.mem_of_getElem? (i := 1347) (by decide +kernel), List.mem_of_getElem? (i := 1486) (by decide +kernel), List.mem_of_getElem? (i := 1487) (by decide +kernel)⟩
theorem lw_p114 : lw_okq (⟨"LevelUnits$Checker", "judgeHandlers", "(LLevelUnits$Stat;)V"⟩, 7) := ⟨⟨by decide +kernel, by decide +kernel⟩, List.mem_of_getElem? (i := 1347) (by decide +kernel), List.mem_of_getElem? (i := 1493) (by decide +kernel), List.mem_of_getElem? (i := 1494) (by decide +kernel)⟩
theorem lw_p115 : lw_okq (⟨"LevelUnits$Machine", "howItIs", "()I"⟩, 19) := ⟨⟨by decide +kernel, by decide +kernel⟩, List.mem_of_getElem? (i := 94) (by decide +kernel), List.mem_of_getElem? (i := 1505) (by decide +kernel), List.mem_of_getElem? (i := 1506) (by decide +kernel)⟩
theorem lw_p116 : lw_okq (⟨"LevelUnits$Machine", "countOver", "()I"⟩, 19) := ⟨⟨by decide +kernel, by decide +kernel⟩, List.mem_of_getElem? (i := 94) (by decide +kernel), List.mem_of_getElem? (i := 1509) (by decide +kernel), List.mem_of_getElem? (i := 1510) (by decide +kernel)⟩
theorem lw_p117 : lw_okq (⟨"LevelUnits$Machine", "countReady", "()I"⟩, 19) := ⟨⟨by decide +kernel, by decide +kernel⟩, List.mem_of_getElem? (i := 94) (by decide +kernel), List.mem_of_getElem? (i := 1517) (by decide +kernel), List.mem_of_getElem? (i := 1518) (by decide +kernel)⟩
theorem lw_p118 : lw_okq (⟨"LevelUnits$Machine", "isReady", "(LLevelUnits$Strand;)Z"⟩, 19) := ⟨⟨by decide +kernel, by decide +kernel⟩, List.mem_of_getElem? (i := 94) (by decide +kernel), List.mem_of_getElem? (i := 1521) (by decide +kernel), List.mem_of_getElem? (i := 1522) (by decide +kernel)⟩
theorem lw_p119 : lw_okq (⟨"LevelUnits$Machine", "holderOf", "(I)I"⟩, 19) := ⟨⟨by decide +kernel, by decide +kernel⟩, List.mem_of_getElem? (i := 94) (by decide +kernel), List.mem_of_getElem? (i := 1525) (by decide +kernel), List.mem_of_getElem? (i := 1526) (by decide +kernel)⟩
theorem lw_p120 : lw_okq (⟨"LevelUnits$Machine", "isOver", "(I)Z"⟩, 19) := ⟨⟨by decide +kernel, by decide +kernel⟩, List.mem_of_getElem? (i := 94) (by decide +kernel), List.mem_of_getElem? (i := 1529) (by decide +kernel), List.mem_of_getElem? (i := 1530) (by decide +kernel)⟩
theorem lw_p121 : lw_okq (⟨"LevelUnits$Machine", "countCallCells", "()I"⟩, 19) := ⟨⟨by decide +kernel, by decide +kernel⟩, List.mem_of_getElem? (i := 94) (by decide +kernel), List.mem_of_getElem? (i := 1533) (by decide +kernel), List.mem_of_getElem? (i := 1534) (by decide +kernel)⟩
theorem lw_p122 : lw_okq (⟨"LevelUnits$Machine", "countHeld", "()I"⟩, 19) := ⟨⟨by decide +kernel, by decide +kernel⟩, List.mem_of_getElem? (i := 94) (by decide +kernel), List.mem_of_getElem? (i := 1537) (by decide +kernel), List.mem_of_getElem? (i := 1538) (by decide +kernel)⟩
theorem lw_p123 : lw_okq (⟨"LevelUnits", "typeNumbered", "(I)LLevelUnits$Node;"⟩, 5) := ⟨⟨by decide +kernel, by decide +kernel⟩, List.mem_of_getElem? (i := 34) (by decide +kernel), List.mem_of_getElem? (i := 1545) (by decide +kernel), List.mem_of_getElem? (i := 1546) (by decide +kernel)⟩
theorem lw_p124 : lw_okq (⟨"LevelUnits", "unitNumbered", "(I)LLevelUnits$Decl;"⟩, 5) := ⟨⟨by decide +kernel, by decide +kernel⟩, List.mem_of_getElem? (i := 34) (by decide +kernel), List.mem_of_getElem? (i := 1553) (by decide +kernel), List.mem_of_getElem? (i := 1554) (by decide +kernel)⟩
theorem lw_p125 : lw_okq (⟨"LevelUnits$Machine", "countRow", "(I)I"⟩, 19) := ⟨⟨by decide +kernel, by decide +kernel⟩, List.mem_of_getElem? (i := 94) (by decide +kernel), List.mem_of_getElem? (i := 1607) (by decide +kernel), List.mem_of_getElem? (i := 1608) (by decide +kernel)⟩
theorem lw_p126 : lw_okq (⟨"java/lang/Throwable", "fillInStackTrace", "(I)Ljava/lang/Throwable;"⟩, 6) := ⟨⟨by decide +kernel, by decide +kernel⟩, List.mem_of_getElem? (i := 1665) (by decide +kernel), List.mem_of_getElem? (i := 1663) (by decide +kernel), List.mem_of_getElem? (i := 1664) (by decide +kernel)⟩
theorem lw_p127 : lw_okq (⟨"LevelUnits$Machine", "newStrand", "()LLevelUnits$Strand;"⟩, 19) := ⟨⟨by decide +kernel, by decide +kernel⟩, List.mem_of_getElem? (i := 94) (by decide +kernel), List.mem_of_getElem? (i := 1925) (by decide +kernel), List.mem_of_getElem? (i := 1926) (by decide +kernel)⟩
def lw_privs_8 : List (MethodName × Nat) := [(⟨"LevelUnits$Checker", "judgeTypecase", "(LLevelUnits$Stat;LLevelUnits$Node;)V"⟩, 7), (⟨"LevelUnits$Checker", "judgeLeaving", "(LLevelUnits$Stat;LLevelUnits$Op;)V"⟩, 7), (⟨"LevelUnits$Checker", "judgeHandlers", "(LLevelUnits$Stat;)V"⟩, 7), (⟨"LevelUnits$Machine", "howItIs", "()I"⟩, 19), (⟨"LevelUnits$Machine", "countOver", "()I"⟩, 19), (⟨"LevelUnits$Machine", "countReady", "()I"⟩, 19), (⟨"LevelUnits$Machine", "isReady", "(LLevelUnits$Strand;)Z"⟩, 19), (⟨"LevelUnits$Machine", "holderOf", "(I)I"⟩, 19), (⟨"LevelUnits$Machine", "isOver", "(I)Z"⟩, 19), (⟨"LevelUnits$Machine", "countCallCells", "()I"⟩, 19), (⟨"LevelUnits$Machine", "countHeld", "()I"⟩, 19), (⟨"LevelUnits", "typeNumbered", "(I)LLevelUnits$Node;"⟩, 5), (⟨"LevelUnits", "unitNumbered", "(I)LLevelUnits$Decl;"⟩, 5), (⟨"LevelUnits$Machine", "countRow", "(I)I"⟩, 19), (⟨"java/lang/Throwable", "fillInStackTrace", "(I)Ljava/lang/Throwable;"⟩, 6), (⟨"LevelUnits$Machine", "newStrand", "()LLevelUnits$Strand;"⟩, 19)]
theorem lw_r8 : ∀ q ∈ lw_privs_8, lw_okq q := List.forall_mem_cons.mpr ⟨lw_p112, List.forall_mem_cons.mpr ⟨lw_p113, List.forall_mem_cons.mpr ⟨lw_p114, List.forall_mem_cons.mpr ⟨lw_p115, List.forall_mem_cons.mpr ⟨lw_p116, List.forall_mem_cons.mpr ⟨lw_p117, List.forall_mem_cons.mpr ⟨lw_p118, List.forall_mem_cons.mpr ⟨lw_p119, List.forall_mem_cons.mpr ⟨lw_p120, List.forall_mem_cons.mpr ⟨lw_p121, List.forall_mem_cons.mpr ⟨lw_p122, List.forall_mem_cons.mpr ⟨lw_p123, List.forall_mem_cons.mpr ⟨lw_p124, List.forall_mem_cons.mpr ⟨lw_p125, List.forall_mem_cons.mpr ⟨lw_p126, List.forall_mem_cons.mpr ⟨lw_p127, fun _ h => absurd h List.not_mem_nil⟩⟩⟩⟩⟩⟩⟩⟩⟩⟩⟩⟩⟩⟩⟩⟩
theorem lw_p128 : lw_okq (⟨"LevelUnits$Machine", "goToUnit", "(LLevelUnits$Strand;I)V"⟩, 19) := ⟨⟨by decide +kernel, by decide +kernel⟩, List.mem_of_getElem? (i := 94) (by decide +kernel), List.mem_of_getElem? (i := 2013) (by decide +kernel), List.mem_of_getElem? (i := 2014) (by decide +kernel)⟩
theorem lw_p129 : lw_okq (⟨"LevelUnits$Machine", "goOn", "(LLevelUnits$Strand;)V"⟩, 19) := ⟨⟨by decide +kernel, by decide +kernel⟩, List.mem_of_getElem? (i := 94) (by decide +kernel), List.mem_of_getElem? (i := 2021) (by decide +kernel), List.mem_of_getElem? (i := 2022) (by decide +kernel)⟩
theorem lw_p130 : lw_okq (⟨"LevelUnits$Machine", "passOut", "(LLevelUnits$Strand;)V"⟩, 19) := ⟨⟨by decide +kernel, by decide +kernel⟩, List.mem_of_getElem? (i := 94) (by decide +kernel), List.mem_of_getElem? (i := 2026) (by decide +kernel), List.mem_of_getElem? (i := 2027) (by decide +kernel)⟩
theorem lw_p131 : lw_okq (⟨"LevelUnits$Machine", "leaveBody", "(LLevelUnits$Strand;)V"⟩, 19) := ⟨⟨by decide +kernel, by decide +kernel⟩, List.mem_of_getElem? (i := 94) (by decide +kernel), List.mem_of_getElem? (i := 2030) (by decide +kernel), List.mem_of_getElem? (i := 2031) (by decide +kernel)⟩
theorem lw_p132 : lw_okq (⟨"LevelUnits$Machine", "closeCall", "(LLevelUnits$Strand;)LLevelUnits$Stat;"⟩, 19) := ⟨⟨by decide +kernel, by decide +kernel⟩, List.mem_of_getElem? (i := 94) (by decide +kernel), List.mem_of_getElem? (i := 2034) (by decide +kernel), List.mem_of_getElem? (i := 2035) (by decide +kernel)⟩
theorem lw_p133 : lw_okq (⟨"LevelUnits$Machine", "goToCaller", "(LLevelUnits$Strand;LLevelUnits$Stat;)V"⟩, 19) := ⟨⟨by decide +kernel, by decide +kernel⟩, List.mem_of_getElem? (i := 94) (by decide +kernel), List.mem_of_getElem? (i := 2038) (by decide +kernel), List.mem_of_getElem? (i := 2039) (by decide +kernel)⟩
theorem lw_p134 : lw_okq (⟨"LevelUnits$Machine", "holdAgainst", "(ILLevelUnits$Node;)I"⟩, 19) := ⟨⟨by decide +kernel, by decide +kernel⟩, List.mem_of_getElem? (i := 94) (by decide +kernel), List.mem_of_getElem? (i := 2046) (by decide +kernel), List.mem_of_getElem? (i := 2047) (by decide +kernel)⟩
theorem lw_p135 : lw_okq (⟨"LevelUnits$Machine", "fail", "(I)V"⟩, 19) := ⟨⟨by decide +kernel, by decide +kernel⟩, List.mem_of_getElem? (i := 94) (by decide +kernel), List.mem_of_getElem? (i := 2050) (by decide +kernel), List.mem_of_getElem? (i := 2051) (by decide +kernel)⟩
theorem lw_p136 : lw_okq (⟨"LevelUnits$Machine", "isOf", "(ILLevelUnits$Node;)Z"⟩, 19) := ⟨⟨by decide +kernel, by decide +kernel⟩, List.mem_of_getElem? (i := 94) (by decide +kernel), List.mem_of_getElem? (i := 2054) (by decide +kernel), List.mem_of_getElem? (i := 2055) (by decide +kernel)⟩
theorem lw_p137 : lw_okq (⟨"LevelUnits$Machine", "store", "(LLevelUnits$Strand;II)V"⟩, 19) := ⟨⟨by decide +kernel, by decide +kernel⟩, List.mem_of_getElem? (i := 94) (by decide +kernel), List.mem_of_getElem? (i := 2058) (by decide +kernel), List.mem_of_getElem? (i := 2059) (by decide +kernel)⟩
theorem lw_p138 : lw_okq (⟨"LevelUnits$Machine", "rowOf", "(LLevelUnits$Strand;I)[I"⟩, 19) := ⟨⟨by decide +kernel, by decide +kernel⟩, List.mem_of_getElem? (i := 94) (by decide +kernel), List.mem_of_getElem? (i := 2062) (by decide +kernel), List.mem_of_getElem? (i := 2063) (by decide +kernel)⟩
theorem lw_p139 : lw_okq (⟨"LevelUnits$Machine", "hold", "(II)V"⟩, 19) := ⟨⟨by decide +kernel, by decide +kernel⟩, List.mem_of_getElem? (i := 94) (by decide +kernel), List.mem_of_getElem? (i := 2075) (by decide +kernel), List.mem_of_getElem? (i := 2076) (by decide +kernel)⟩
theorem lw_p140 : lw_okq (⟨"LevelUnits$Machine", "goFinally", "(LLevelUnits$Strand;LLevelUnits$Stat;)V"⟩, 19) := ⟨⟨by decide +kernel, by decide +kernel⟩, List.mem_of_getElem? (i := 94) (by decide +kernel), List.mem_of_getElem? (i := 2079) (by decide +kernel), List.mem_of_getElem? (i := 2080) (by decide +kernel)⟩
theorem lw_p141 : lw_okq (⟨"LevelUnits$Machine", "goToHandler", "(LLevelUnits$Strand;LLevelUnits$Stat;)V"⟩, 19) := ⟨⟨by decide +kernel, by decide +kernel⟩, List.mem_of_getElem? (i := 94) (by decide +kernel), List.mem_of_getElem? (i := 2087) (by decide +kernel), List.mem_of_getElem? (i := 2088) (by decide +kernel)⟩
theorem lw_p142 : lw_okq (⟨"LevelUnits$Machine", "passEnd", "(LLevelUnits$Strand;)V"⟩, 19) := ⟨⟨by decide +kernel, by decide +kernel⟩, List.mem_of_getElem? (i := 94) (by decide +kernel), List.mem_of_getElem? (i := 2092) (by decide +kernel), List.mem_of_getElem? (i := 2093) (by decide +kernel)⟩
theorem lw_p143 : lw_okq (⟨"LevelUnits$Machine", "endBody", "(LLevelUnits$Strand;LLevelUnits$Decl;)V"⟩, 19) := ⟨⟨by decide +kernel, by decide +kernel⟩, List.mem_of_getElem? (i := 94) (by decide +kernel), List.mem_of_getElem? (i := 2096) (by decide +kernel), List.mem_of_getElem? (i := 2097) (by decide +kernel)⟩
def lw_privs_9 : List (MethodName × Nat) := [(⟨"LevelUnits$Machine", "goToUnit", "(LLevelUnits$Strand;I)V"⟩, 19), (⟨"LevelUnits$Machine", "goOn", "(LLevelUnits$Strand;)V"⟩, 19), (⟨"LevelUnits$Machine", "passOut", "(LLevelUnits$Strand;)V"⟩, 19), (⟨"LevelUnits$Machine", "leaveBody", "(LLevelUnits$Strand;)V"⟩, 19), (⟨"LevelUnits$Machine", "closeCall", "(LLevelUnits$Strand;)LLevelUnits$Stat;"⟩, 19), (⟨"LevelUnits$Machine", "goToCaller", "(LLevelUnits$Strand;LLevelUnits$Stat;)V"⟩, 19), (⟨"LevelUnits$Machine", "holdAgainst", "(ILLevelUnits$Node;)I"⟩, 19), (⟨"LevelUnits$Machine", "fail", "(I)V"⟩, 19), (⟨"LevelUnits$Machine", "isOf", "(ILLevelUnits$Node;)Z"⟩, 19), (⟨"LevelUnits$Machine", "store", "(LLevelUnits$Strand;II)V"⟩, 19), (⟨"LevelUnits$Machine", "rowOf", "(LLevelUnits$Strand;I)[I"⟩, 19), (⟨"LevelUnits$Machine", "hold", "(II)V"⟩, 19), (⟨"LevelUnits$Machine", "goFinally", "(LLevelUnits$Strand;LLevelUnits$Stat;)V"⟩, 19), (⟨"LevelUnits$Machine", "goToHandler", "(LLevelUnits$Strand;LLevelUnits$Stat;)V"⟩, 19), (⟨"LevelUnits$Machine", "passEnd", "(LLevelUnits$Strand;)V"⟩, 19), (⟨"LevelUnits$Machine", "endBody", "(LLevelUnits$Strand;LLevelUnits$Decl;)V"⟩, 19)]
theorem lw_r9 : ∀ q ∈ lw_privs_9, lw_okq q := List.forall_mem_cons.mpr ⟨lw_p128, List.forall_mem_cons.mpr ⟨lw_p129, List.forall_mem_cons.mpr ⟨lw_p130, List.forall_mem_cons.mpr ⟨lw_p131, List.forall_mem_cons.mpr ⟨lw_p132, List.forall_mem_cons.mpr ⟨lw_p133, List.forall_mem_cons.mpr ⟨lw_p134, List.forall_mem_cons.mpr ⟨lw_p135, List.forall_mem_cons.mpr ⟨lw_p136, List.forall_mem_cons.mpr ⟨lw_p137, List.forall_mem_cons.mpr ⟨lw_p138, List.forall_mem_cons.mpr ⟨lw_p139, List.forall_mem_cons.mpr ⟨lw_p140, List.forall_mem_cons.mpr ⟨lw_p141, List.forall_mem_cons.mpr ⟨lw_p142, List.forall_mem_cons.mpr ⟨lw_p143, fun _ h => absurd h List.not_mem_nil⟩⟩⟩⟩⟩⟩⟩⟩⟩⟩⟩⟩⟩⟩⟩⟩
theorem lw_p144 : lw_okq (⟨"LevelUnits$Machine", "goFromFinally", "(LLevelUnits$Strand;LLevelUnits$Stat;)V"⟩, 19) := ⟨⟨by decide +kernel, by decide +kernel⟩, List.mem_of_getElem? (i := 94) (by decide +kernel), List.mem_of_getElem? (i := 2100) (by decide +kernel), List.mem_of_getElem? (i := 2101) (by decide +kernel)⟩
theorem lw_p145 : lw_okq (⟨"LevelUnits$Machine", "endByFault", "(LLevelUnits$Strand;)V"⟩, 19) := ⟨⟨by decide +kernel, by decide +kernel⟩, List.mem_of_getElem? (i := 94) (by decide +kernel), List.mem_of_getElem? (i := 2104) (by decide +kernel), List.mem_of_getElem? (i := 2105) (by decide +kernel)⟩
theorem lw_p146 : lw_okq (⟨"LevelUnits$Machine", "chosen", "()LLevelUnits$Strand;"⟩, 19) := ⟨⟨by decide +kernel, by decide +kernel⟩, List.mem_of_getElem? (i := 94) (by decide +kernel), List.mem_of_getElem? (i := 2128) (by decide +kernel), List.mem_of_getElem? (i := 2129) (by decide +kernel)⟩
theorem lw_p147 : lw_okq (⟨"LevelUnits$Machine", "act", "(LLevelUnits$Strand;LLevelUnits$Stat;)V"⟩, 19) := ⟨⟨by decide +kernel, by decide +kernel⟩, List.mem_of_getElem? (i := 94) (by decide +kernel), List.mem_of_getElem? (i := 2133) (by decide +kernel), List.mem_of_getElem? (i := 2134) (by decide +kernel)⟩
theorem lw_p148 : lw_okq (⟨"LevelUnits$Machine", "worth", "(LLevelUnits$Strand;LLevelUnits$Op;)I"⟩, 19) := ⟨⟨by decide +kernel, by decide +kernel⟩, List.mem_of_getElem? (i := 94) (by decide +kernel), List.mem_of_getElem? (i := 2137) (by decide +kernel), List.mem_of_getElem? (i := 2138) (by decide +kernel)⟩
theorem lw_p149 : lw_okq (⟨"LevelUnits$Machine", "push", "(I)V"⟩, 19) := ⟨⟨by decide +kernel, by decide +kernel⟩, List.mem_of_getElem? (i := 94) (by decide +kernel), List.mem_of_getElem? (i := 2141) (by decide +kernel), List.mem_of_getElem? (i := 2142) (by decide +kernel)⟩
theorem lw_p150 : lw_okq (⟨"LevelUnits$Machine", "placeOf", "(LLevelUnits$Strand;LLevelUnits$Decl;)I"⟩, 19) := ⟨⟨by decide +kernel, by decide +kernel⟩, List.mem_of_getElem? (i := 94) (by decide +kernel), List.mem_of_getElem? (i := 2145) (by decide +kernel), List.mem_of_getElem? (i := 2146) (by decide +kernel)⟩
theorem lw_p151 : lw_okq (⟨"LevelUnits$Machine", "pop", "()I"⟩, 19) := ⟨⟨by decide +kernel, by decide +kernel⟩, List.mem_of_getElem? (i := 94) (by decide +kernel), List.mem_of_getElem? (i := 2156) (by decide +kernel), List.mem_of_getElem? (i := 2157) (by decide +kernel)⟩
theorem lw_p152 : lw_okq (⟨"LevelUnits$Machine", "fetch", "(LLevelUnits$Strand;I)I"⟩, 19) := ⟨⟨by decide +kernel, by decide +kernel⟩, List.mem_of_getElem? (i := 94) (by decide +kernel), List.mem_of_getElem? (i := 2160) (by decide +kernel), List.mem_of_getElem? (i := 2161) (by decide +kernel)⟩
theorem lw_p153 : lw_okq (⟨"LevelUnits$Machine", "insideOf", "(I)I"⟩, 19) := ⟨⟨by decide +kernel, by decide +kernel⟩, List.mem_of_getElem? (i := 94) (by decide +kernel), List.mem_of_getElem? (i := 2164) (by decide +kernel), List.mem_of_getElem? (i := 2165) (by decide +kernel)⟩
theorem lw_p154 : lw_okq (⟨"LevelUnits$Machine", "pushElement", "(LLevelUnits$Node;)V"⟩, 19) := ⟨⟨by decide +kernel, by decide +kernel⟩, List.mem_of_getElem? (i := 94) (by decide +kernel), List.mem_of_getElem? (i := 2169) (by decide +kernel), List.mem_of_getElem? (i := 2170) (by decide +kernel)⟩
theorem lw_p155 : lw_okq (⟨"LevelUnits$Machine", "makeThing", "(LLevelUnits$Node;)I"⟩, 19) := ⟨⟨by decide +kernel, by decide +kernel⟩, List.mem_of_getElem? (i := 94) (by decide +kernel), List.mem_of_getElem? (i := 2173) (by decide +kernel), List.mem_of_getElem? (i := 2174) (by decide +kernel)⟩
theorem lw_p156 : lw_okq (⟨"LevelUnits$Machine", "pushNumber", "(J)V"⟩, 19) := ⟨⟨by decide +kernel, by decide +kernel⟩, List.mem_of_getElem? (i := 94) (by decide +kernel), List.mem_of_getElem? (i := 2178) (by decide +kernel), List.mem_of_getElem? (i := 2179) (by decide +kernel)⟩
theorem lw_p157 : lw_okq (⟨"LevelUnits$Machine", "operate", "(III)J"⟩, 19) := ⟨⟨by decide +kernel, by decide +kernel⟩, List.mem_of_getElem? (i := 94) (by decide +kernel), List.mem_of_getElem? (i := 2182) (by decide +kernel), List.mem_of_getElem? (i := 2183) (by decide +kernel)⟩
theorem lw_p158 : lw_okq (⟨"LevelUnits$Machine", "assign", "(LLevelUnits$Strand;ILLevelUnits$Node;I)V"⟩, 19) := ⟨⟨by decide +kernel, by decide +kernel⟩, List.mem_of_getElem? (i := 94) (by decide +kernel), List.mem_of_getElem? (i := 2192) (by decide +kernel), List.mem_of_getElem? (i := 2193) (by decide +kernel)⟩
theorem lw_p159 : lw_okq (⟨"LevelUnits$Machine", "call", "(LLevelUnits$Strand;LLevelUnits$Stat;)V"⟩, 19) := ⟨⟨by decide +kernel, by decide +kernel⟩, List.mem_of_getElem? (i := 94) (by decide +kernel), List.mem_of_getElem? (i := 2200) (by decide +kernel), List.mem_of_getElem? (i := 2201) (by decide +kernel)⟩
def lw_privs_10 : List (MethodName × Nat) := [(⟨"LevelUnits$Machine", "goFromFinally", "(LLevelUnits$Strand;LLevelUnits$Stat;)V"⟩, 19), (⟨"LevelUnits$Machine", "endByFault", "(LLevelUnits$Strand;)V"⟩, 19), (⟨"LevelUnits$Machine", "chosen", "()LLevelUnits$Strand;"⟩, 19), (⟨"LevelUnits$Machine", "act", "(LLevelUnits$Strand;LLevelUnits$Stat;)V"⟩, 19), (⟨"LevelUnits$Machine", "worth", "(LLevelUnits$Strand;LLevelUnits$Op;)I"⟩, 19), (⟨"LevelUnits$Machine", "push", "(I)V"⟩, 19), (⟨"LevelUnits$Machine", "placeOf", "(LLevelUnits$Strand;LLevelUnits$Decl;)I"⟩, 19), (⟨"LevelUnits$Machine", "pop", "()I"⟩, 19), (⟨"LevelUnits$Machine", "fetch", "(LLevelUnits$Strand;I)I"⟩, 19), (⟨"LevelUnits$Machine", "insideOf", "(I)I"⟩, 19), (⟨"LevelUnits$Machine", "pushElement", "(LLevelUnits$Node;)V"⟩, 19), (⟨"LevelUnits$Machine", "makeThing", "(LLevelUnits$Node;)I"⟩, 19), (⟨"LevelUnits$Machine", "pushNumber", "(J)V"⟩, 19), (⟨"LevelUnits$Machine", "operate", "(III)J"⟩, 19), (⟨"LevelUnits$Machine", "assign", "(LLevelUnits$Strand;ILLevelUnits$Node;I)V"⟩, 19), (⟨"LevelUnits$Machine", "call", "(LLevelUnits$Strand;LLevelUnits$Stat;)V"⟩, 19)]
theorem lw_r10 : ∀ q ∈ lw_privs_10, lw_okq q := List.forall_mem_cons.mpr ⟨lw_p144, List.forall_mem_cons.mpr ⟨lw_p145, List.forall_mem_cons.mpr ⟨lw_p146, List.forall_mem_cons.mpr ⟨lw_p147, List.forall_mem_cons.mpr ⟨lw_p148, List.forall_mem_cons.mpr ⟨lw_p149, List.forall_mem_cons.mpr ⟨lw_p150, List.forall_mem_cons.mpr ⟨lw_p151, List.forall_mem_cons.mpr ⟨lw_p152, List.forall_mem_cons.mpr ⟨lw_p153, List.forall_mem_cons.mpr ⟨lw_p154, List.forall_mem_cons.mpr ⟨lw_p155, List.forall_mem_cons.mpr ⟨lw_p156, List.forall_mem_cons.mpr ⟨lw_p157, List.forall_mem_cons.mpr ⟨lw_p158, List.forall_mem_cons.mpr ⟨lw_p159, fun _ h => absurd h List.not_mem_nil⟩⟩⟩⟩⟩⟩⟩⟩⟩⟩⟩⟩⟩⟩⟩⟩
theorem lw_p160 : lw_okq (⟨"LevelUnits$Machine", "calledProcedure", "(LLevelUnits$Strand;LLevelUnits$Stat;)I"⟩, 19) := ⟨⟨by decide +kernel, by decide +kernel⟩, List.mem_of_getElem? (i := 94) (by decide +kernel), List.mem_of_getElem? (i := 2204) (by decide +kernel), List.mem_of_getElem? (i := 2205) (by decide +kernel)⟩
theorem lw_p161 : lw_okq (⟨"LevelUnits$Machine", "methodOf", "(ILLevelUnits$Decl;)I"⟩, 19) := ⟨⟨by decide +kernel, by decide +kernel⟩, List.mem_of_getElem? (i := 94) (by decide +kernel), List.mem_of_getElem? (i := 2208) (by decide +kernel), List.mem_of_getElem? (i := 2209) (by decide +kernel)⟩
theorem lw_p162 : lw_okq (⟨"LevelUnits$Machine", "passParameters", "(LLevelUnits$Strand;LLevelUnits$Stat;LLevelUnits$Decl;)V"⟩, 19) := ⟨⟨by decide +kernel, by decide +kernel⟩, List.mem_of_getElem? (i := 94) (by decide +kernel), List.mem_of_getElem? (i := 2215) (by decide +kernel), List.mem_of_getElem? (i := 2216) (by decide +kernel)⟩
theorem lw_p163 : lw_okq (⟨"LevelUnits$Machine", "openCall", "(LLevelUnits$Strand;LLevelUnits$Stat;ILLevelUnits$Decl;)V"⟩, 19) := ⟨⟨by decide +kernel, by decide +kernel⟩, List.mem_of_getElem? (i := 94) (by decide +kernel), List.mem_of_getElem? (i := 2219) (by decide +kernel), List.mem_of_getElem? (i := 2220) (by decide +kernel)⟩
theorem lw_p164 : lw_okq (⟨"LevelUnits$Machine", "leave", "(LLevelUnits$Strand;LLevelUnits$Stat;I)V"⟩, 19) := ⟨⟨by decide +kernel, by decide +kernel⟩, List.mem_of_getElem? (i := 94) (by decide +kernel), List.mem_of_getElem? (i := 2223) (by decide +kernel), List.mem_of_getElem? (i := 2224) (by decide +kernel)⟩
theorem lw_p165 : lw_okq (⟨"LevelUnits$Machine", "doIf", "(LLevelUnits$Strand;LLevelUnits$Stat;)V"⟩, 19) := ⟨⟨by decide +kernel, by decide +kernel⟩, List.mem_of_getElem? (i := 94) (by decide +kernel), List.mem_of_getElem? (i := 2227) (by decide +kernel), List.mem_of_getElem? (i := 2228) (by decide +kernel)⟩
theorem lw_p166 : lw_okq (⟨"LevelUnits$Machine", "goIf", "(LLevelUnits$Strand;LLevelUnits$Stat;Z)V"⟩, 19) := ⟨⟨by decide +kernel, by decide +kernel⟩, List.mem_of_getElem? (i := 94) (by decide +kernel), List.mem_of_getElem? (i := 2231) (by decide +kernel), List.mem_of_getElem? (i := 2232) (by decide +kernel)⟩
theorem lw_p167 : lw_okq (⟨"LevelUnits$Machine", "doFor", "(LLevelUnits$Strand;LLevelUnits$Stat;)V"⟩, 19) := ⟨⟨by decide +kernel, by decide +kernel⟩, List.mem_of_getElem? (i := 94) (by decide +kernel), List.mem_of_getElem? (i := 2235) (by decide +kernel), List.mem_of_getElem? (i := 2236) (by decide +kernel)⟩
theorem lw_p168 : lw_okq (⟨"LevelUnits$Machine", "doTypecase", "(LLevelUnits$Strand;LLevelUnits$Stat;)V"⟩, 19) := ⟨⟨by decide +kernel, by decide +kernel⟩, List.mem_of_getElem? (i := 94) (by decide +kernel), List.mem_of_getElem? (i := 2239) (by decide +kernel), List.mem_of_getElem? (i := 2240) (by decide +kernel)⟩
theorem lw_p169 : lw_okq (⟨"LevelUnits$Machine", "doThreads", "(LLevelUnits$Strand;LLevelUnits$Stat;)V"⟩, 19) := ⟨⟨by decide +kernel, by decide +kernel⟩, List.mem_of_getElem? (i := 94) (by decide +kernel), List.mem_of_getElem? (i := 2243) (by decide +kernel), List.mem_of_getElem? (i := 2244) (by decide +kernel)⟩
theorem lw_p170 : lw_okq (⟨"LevelUnits$Machine", "takeMutex", "(LLevelUnits$Strand;LLevelUnits$Stat;I)V"⟩, 19) := ⟨⟨by decide +kernel, by decide +kernel⟩, List.mem_of_getElem? (i := 94) (by decide +kernel), List.mem_of_getElem? (i := 2247) (by decide +kernel), List.mem_of_getElem? (i := 2248) (by decide +kernel)⟩
theorem lw_p171 : lw_okq (⟨"LevelUnits$Machine", "waitInRow", "(LLevelUnits$Strand;II)V"⟩, 19) := ⟨⟨by decide +kernel, by decide +kernel⟩, List.mem_of_getElem? (i := 94) (by decide +kernel), List.mem_of_getElem? (i := 2251) (by decide +kernel), List.mem_of_getElem? (i := 2252) (by decide +kernel)⟩
theorem lw_p172 : lw_okq (⟨"LevelUnits$Machine", "wake", "(IZ)V"⟩, 19) := ⟨⟨by decide +kernel, by decide +kernel⟩, List.mem_of_getElem? (i := 94) (by decide +kernel), List.mem_of_getElem? (i := 2255) (by decide +kernel), List.mem_of_getElem? (i := 2256) (by decide +kernel)⟩
theorem lw_p173 : lw_okq (⟨"LevelUnits$Machine", "stopWaiting", "(LLevelUnits$Strand;)V"⟩, 19) := ⟨⟨by decide +kernel, by decide +kernel⟩, List.mem_of_getElem? (i := 94) (by decide +kernel), List.mem_of_getElem? (i := 2259) (by decide +kernel), List.mem_of_getElem? (i := 2260) (by decide +kernel)⟩
theorem lw_p174 : lw_okq (⟨"LevelUnitsModel", "four", "(I)V"⟩, 134) := ⟨⟨by decide +kernel, by decide +kernel⟩, List.mem_of_getElem? (i := 2263) (by decide +kernel), List.mem_of_getElem? (i := 2703) (by decide +kernel), List.mem_of_getElem? (i := 2704) (by decide +kernel)⟩
theorem lw_p175 : lw_okq (⟨"LevelUnitsModel", "cut", "()V"⟩, 134) := ⟨⟨by decide +kernel, by decide +kernel⟩, List.mem_of_getElem? (i := 2263) (by decide +kernel), List.mem_of_getElem? (i := 2715) (by decide +kernel), List.mem_of_getElem? (i := 2716) (by decide +kernel)⟩
def lw_privs_11 : List (MethodName × Nat) := [(⟨"LevelUnits$Machine", "calledProcedure", "(LLevelUnits$Strand;LLevelUnits$Stat;)I"⟩, 19), (⟨"LevelUnits$Machine", "methodOf", "(ILLevelUnits$Decl;)I"⟩, 19), (⟨"LevelUnits$Machine", "passParameters", "(LLevelUnits$Strand;LLevelUnits$Stat;LLevelUnits$Decl;)V"⟩, 19), (⟨"LevelUnits$Machine", "openCall", "(LLevelUnits$Strand;LLevelUnits$Stat;ILLevelUnits$Decl;)V"⟩, 19), (⟨"LevelUnits$Machine", "leave", "(LLevelUnits$Strand;LLevelUnits$Stat;I)V"⟩, 19), (⟨"LevelUnits$Machine", "doIf", "(LLevelUnits$Strand;LLevelUnits$Stat;)V"⟩, 19), (⟨"LevelUnits$Machine", "goIf", "(LLevelUnits$Strand;LLevelUnits$Stat;Z)V"⟩, 19), (⟨"LevelUnits$Machine", "doFor", "(LLevelUnits$Strand;LLevelUnits$Stat;)V"⟩, 19), (⟨"LevelUnits$Machine", "doTypecase", "(LLevelUnits$Strand;LLevelUnits$Stat;)V"⟩, 19), (⟨"LevelUnits$Machine", "doThreads", "(LLevelUnits$Strand;LLevelUnits$Stat;)V"⟩, 19), (⟨"LevelUnits$Machine", "takeMutex", "(LLevelUnits$Strand;LLevelUnits$Stat;I)V"⟩, 19), (⟨"LevelUnits$Machine", "waitInRow", "(LLevelUnits$Strand;II)V"⟩, 19), (⟨"LevelUnits$Machine", "wake", "(IZ)V"⟩, 19), (⟨"LevelUnits$Machine", "stopWaiting", "(LLevelUnits$Strand;)V"⟩, 19), (⟨"LevelUnitsModel", "four", "(I)V"⟩, 134), (⟨"LevelUnitsModel", "cut", "()V"⟩, 134)]
theorem lw_r11 : ∀ q ∈ lw_privs_11, lw_okq q := List.forall_mem_cons.mpr ⟨lw_p160, List.forall_mem_cons.mpr ⟨lw_p161, List.forall_mem_cons.mpr ⟨lw_p162, List.forall_mem_cons.mpr ⟨lw_p163, List.forall_mem_cons.mpr ⟨lw_p164, List.forall_mem_cons.mpr ⟨lw_p165, List.forall_mem_cons.mpr ⟨lw_p166, List.forall_mem_cons.mpr ⟨lw_p167, List.forall_mem_cons.mpr ⟨lw_p168, List.forall_mem_cons.mpr ⟨lw_p169, List.forall_mem_cons.mpr ⟨lw_p170, List.forall_mem_cons.mpr ⟨lw_p171, List.forall_mem_cons.mpr ⟨lw_p172, List.forall_mem_cons.mpr ⟨lw_p173, List.forall_mem_cons.mpr ⟨lw_p174, List.forall_mem_cons.mpr ⟨lw_p175, fun _ h => absurd h List.not_mem_nil⟩⟩⟩⟩⟩⟩⟩⟩⟩⟩⟩⟩⟩⟩⟩⟩
theorem lw_p176 : lw_okq (⟨"LevelUnitsModel", "knowWords", "()V"⟩, 134) := ⟨⟨by decide +kernel, by decide +kernel⟩, List.mem_of_getElem? (i := 2263) (by decide +kernel), List.mem_of_getElem? (i := 2719) (by decide +kernel), List.mem_of_getElem? (i := 2720) (by decide +kernel)⟩
theorem lw_p177 : lw_okq (⟨"LevelUnitsModel", "nameOf", "(I)I"⟩, 134) := ⟨⟨by decide +kernel, by decide +kernel⟩, List.mem_of_getElem? (i := 2263) (by decide +kernel), List.mem_of_getElem? (i := 2726) (by decide +kernel), List.mem_of_getElem? (i := 2727) (by decide +kernel)⟩
theorem lw_p178 : lw_okq (⟨"LevelUnitsModel", "passes", "()Z"⟩, 134) := ⟨⟨by decide +kernel, by decide +kernel⟩, List.mem_of_getElem? (i := 2263) (by decide +kernel), List.mem_of_getElem? (i := 2730) (by decide +kernel), List.mem_of_getElem? (i := 2731) (by decide +kernel)⟩
theorem lw_p179 : lw_okq (⟨"LevelUnitsModel", "see", "(I)I"⟩, 134) := ⟨⟨by decide +kernel, by decide +kernel⟩, List.mem_of_getElem? (i := 2263) (by decide +kernel), List.mem_of_getElem? (i := 2734) (by decide +kernel), List.mem_of_getElem? (i := 2735) (by decide +kernel)⟩
theorem lw_p180 : lw_okq (⟨"LevelUnitsModel", "note", "()Z"⟩, 134) := ⟨⟨by decide +kernel, by decide +kernel⟩, List.mem_of_getElem? (i := 2263) (by decide +kernel), List.mem_of_getElem? (i := 2738) (by decide +kernel), List.mem_of_getElem? (i := 2739) (by decide +kernel)⟩
theorem lw_p181 : lw_okq (⟨"LevelUnitsModel", "token", "(III)V"⟩, 134) := ⟨⟨by decide +kernel, by decide +kernel⟩, List.mem_of_getElem? (i := 2263) (by decide +kernel), List.mem_of_getElem? (i := 2742) (by decide +kernel), List.mem_of_getElem? (i := 2743) (by decide +kernel)⟩
theorem lw_p182 : lw_okq (⟨"LevelUnitsModel", "one", "()Z"⟩, 134) := ⟨⟨by decide +kernel, by decide +kernel⟩, List.mem_of_getElem? (i := 2263) (by decide +kernel), List.mem_of_getElem? (i := 2746) (by decide +kernel), List.mem_of_getElem? (i := 2747) (by decide +kernel)⟩
theorem lw_p183 : lw_okq (⟨"LevelUnitsModel", "parse", "()V"⟩, 134) := ⟨⟨by decide +kernel, by decide +kernel⟩, List.mem_of_getElem? (i := 2263) (by decide +kernel), List.mem_of_getElem? (i := 2771) (by decide +kernel), List.mem_of_getElem? (i := 2772) (by decide +kernel)⟩
theorem lw_p184 : lw_okq (⟨"LevelUnitsModel", "look", "()V"⟩, 134) := ⟨⟨by decide +kernel, by decide +kernel⟩, List.mem_of_getElem? (i := 2263) (by decide +kernel), List.mem_of_getElem? (i := 2775) (by decide +kernel), List.mem_of_getElem? (i := 2776) (by decide +kernel)⟩
theorem lw_p185 : lw_okq (⟨"LevelUnitsModel", "line", "()I"⟩, 134) := ⟨⟨by decide +kernel, by decide +kernel⟩, List.mem_of_getElem? (i := 2263) (by decide +kernel), List.mem_of_getElem? (i := 2779) (by decide +kernel), List.mem_of_getElem? (i := 2780) (by decide +kernel)⟩
theorem lw_p186 : lw_okq (⟨"LevelUnitsModel", "first", "(II)V"⟩, 134) := ⟨⟨by decide +kernel, by decide +kernel⟩, List.mem_of_getElem? (i := 2263) (by decide +kernel), List.mem_of_getElem? (i := 2783) (by decide +kernel), List.mem_of_getElem? (i := 2784) (by decide +kernel)⟩
theorem lw_p187 : lw_okq (⟨"LevelUnitsModel", "is", "(I)Z"⟩, 134) := ⟨⟨by decide +kernel, by decide +kernel⟩, List.mem_of_getElem? (i := 2263) (by decide +kernel), List.mem_of_getElem? (i := 2787) (by decide +kernel), List.mem_of_getElem? (i := 2788) (by decide +kernel)⟩
theorem lw_p188 : lw_okq (⟨"LevelUnitsModel", "unfit", "()V"⟩, 134) := ⟨⟨by decide +kernel, by decide +kernel⟩, List.mem_of_getElem? (i := 2263) (by decide +kernel), List.mem_of_getElem? (i := 2791) (by decide +kernel), List.mem_of_getElem? (i := 2792) (by decide +kernel)⟩
theorem lw_p189 : lw_okq (⟨"LevelUnitsModel", "parseUnit", "()V"⟩, 134) := ⟨⟨by decide +kernel, by decide +kernel⟩, List.mem_of_getElem? (i := 2263) (by decide +kernel), List.mem_of_getElem? (i := 2795) (by decide +kernel), List.mem_of_getElem? (i := 2796) (by decide +kernel)⟩
theorem lw_p190 : lw_okq (⟨"LevelUnitsModel", "next", "()V"⟩, 134) := ⟨⟨by decide +kernel, by decide +kernel⟩, List.mem_of_getElem? (i := 2263) (by decide +kernel), List.mem_of_getElem? (i := 2799) (by decide +kernel), List.mem_of_getElem? (i := 2800) (by decide +kernel)⟩
theorem lw_p191 : lw_okq (⟨"LevelUnitsModel", "node", "(III)I"⟩, 134) := ⟨⟨by decide +kernel, by decide +kernel⟩, List.mem_of_getElem? (i := 2263) (by decide +kernel), List.mem_of_getElem? (i := 2803) (by decide +kernel), List.mem_of_getElem? (i := 2804) (by decide +kernel)⟩
def lw_privs_12 : List (MethodName × Nat) := [(⟨"LevelUnitsModel", "knowWords", "()V"⟩, 134), (⟨"LevelUnitsModel", "nameOf", "(I)I"⟩, 134), (⟨"LevelUnitsModel", "passes", "()Z"⟩, 134), (⟨"LevelUnitsModel", "see", "(I)I"⟩, 134), (⟨"LevelUnitsModel", "note", "()Z"⟩, 134), (⟨"LevelUnitsModel", "token", "(III)V"⟩, 134), (⟨"LevelUnitsModel", "one", "()Z"⟩, 134), (⟨"LevelUnitsModel", "parse", "()V"⟩, 134), (⟨"LevelUnitsModel", "look", "()V"⟩, 134), (⟨"LevelUnitsModel", "line", "()I"⟩, 134), (⟨"LevelUnitsModel", "first", "(II)V"⟩, 134), (⟨"LevelUnitsModel", "is", "(I)Z"⟩, 134), (⟨"LevelUnitsModel", "unfit", "()V"⟩, 134), (⟨"LevelUnitsModel", "parseUnit", "()V"⟩, 134), (⟨"LevelUnitsModel", "next", "()V"⟩, 134), (⟨"LevelUnitsModel", "node", "(III)I"⟩, 134)]
theorem lw_r12 : ∀ q ∈ lw_privs_12, lw_okq q := List.forall_mem_cons.mpr ⟨lw_p176, List.forall_mem_cons.mpr ⟨lw_p177, List.forall_mem_cons.mpr ⟨lw_p178, List.forall_mem_cons.mpr ⟨lw_p179, List.forall_mem_cons.mpr ⟨lw_p180, List.forall_mem_cons.mpr ⟨lw_p181, List.forall_mem_cons.mpr ⟨lw_p182, List.forall_mem_cons.mpr ⟨lw_p183, List.forall_mem_cons.mpr ⟨lw_p184, List.forall_mem_cons.mpr ⟨lw_p185, List.forall_mem_cons.mpr ⟨lw_p186, List.forall_mem_cons.mpr ⟨lw_p187, List.forall_mem_cons.mpr ⟨lw_p188, List.forall_mem_cons.mpr ⟨lw_p189, List.forall_mem_cons.mpr ⟨lw_p190, List.forall_mem_cons.mpr ⟨lw_p191, fun _ h => absurd h List.not_mem_nil⟩⟩⟩⟩⟩⟩⟩⟩⟩⟩⟩⟩⟩⟩⟩⟩
theorem lw_p192 : lw_okq (⟨"LevelUnitsModel", "name", "()I"⟩, 134) := ⟨⟨by decide +kernel, by decide +kernel⟩, List.mem_of_getElem? (i := 2263) (by decide +kernel), List.mem_of_getElem? (i := 2807) (by decide +kernel), List.mem_of_getElem? (i := 2808) (by decide +kernel)⟩
theorem lw_p193 : lw_okq (⟨"LevelUnitsModel", "expect", "(I)V"⟩, 134) := ⟨⟨by decide +kernel, by decide +kernel⟩, List.mem_of_getElem? (i := 2263) (by decide +kernel), List.mem_of_getElem? (i := 2811) (by decide +kernel), List.mem_of_getElem? (i := 2812) (by decide +kernel)⟩
theorem lw_p194 : lw_okq (⟨"LevelUnitsModel", "nameRow", "(I)I"⟩, 134) := ⟨⟨by decide +kernel, by decide +kernel⟩, List.mem_of_getElem? (i := 2263) (by decide +kernel), List.mem_of_getElem? (i := 2815) (by decide +kernel), List.mem_of_getElem? (i := 2816) (by decide +kernel)⟩
theorem lw_p195 : lw_okq (⟨"LevelUnitsModel", "declaration", "(Z)I"⟩, 134) := ⟨⟨by decide +kernel, by decide +kernel⟩, List.mem_of_getElem? (i := 2263) (by decide +kernel), List.mem_of_getElem? (i := 2819) (by decide +kernel), List.mem_of_getElem? (i := 2820) (by decide +kernel)⟩
theorem lw_p196 : lw_okq (⟨"LevelUnitsModel", "type", "()I"⟩, 134) := ⟨⟨by decide +kernel, by decide +kernel⟩, List.mem_of_getElem? (i := 2263) (by decide +kernel), List.mem_of_getElem? (i := 2823) (by decide +kernel), List.mem_of_getElem? (i := 2824) (by decide +kernel)⟩
theorem lw_p197 : lw_okq (⟨"LevelUnitsModel", "beginsType", "()Z"⟩, 134) := ⟨⟨by decide +kernel, by decide +kernel⟩, List.mem_of_getElem? (i := 2263) (by decide +kernel), List.mem_of_getElem? (i := 2827) (by decide +kernel), List.mem_of_getElem? (i := 2828) (by decide +kernel)⟩
theorem lw_p198 : lw_okq (⟨"LevelUnitsModel", "typeInside", "()I"⟩, 134) := ⟨⟨by decide +kernel, by decide +kernel⟩, List.mem_of_getElem? (i := 2263) (by decide +kernel), List.mem_of_getElem? (i := 2831) (by decide +kernel), List.mem_of_getElem? (i := 2832) (by decide +kernel)⟩
theorem lw_p199 : lw_okq (⟨"LevelUnitsModel", "qname", "()I"⟩, 134) := ⟨⟨by decide +kernel, by decide +kernel⟩, List.mem_of_getElem? (i := 2263) (by decide +kernel), List.mem_of_getElem? (i := 2835) (by decide +kernel), List.mem_of_getElem? (i := 2836) (by decide +kernel)⟩
theorem lw_p200 : lw_okq (⟨"LevelUnitsModel", "level", "(I)I"⟩, 134) := ⟨⟨by decide +kernel, by decide +kernel⟩, List.mem_of_getElem? (i := 2263) (by decide +kernel), List.mem_of_getElem? (i := 2839) (by decide +kernel), List.mem_of_getElem? (i := 2840) (by decide +kernel)⟩
theorem lw_p201 : lw_okq (⟨"LevelUnitsModel", "fields", "()I"⟩, 134) := ⟨⟨by decide +kernel, by decide +kernel⟩, List.mem_of_getElem? (i := 2263) (by decide +kernel), List.mem_of_getElem? (i := 2843) (by decide +kernel), List.mem_of_getElem? (i := 2844) (by decide +kernel)⟩
theorem lw_p202 : lw_okq (⟨"LevelUnitsModel", "members", "(I)I"⟩, 134) := ⟨⟨by decide +kernel, by decide +kernel⟩, List.mem_of_getElem? (i := 2263) (by decide +kernel), List.mem_of_getElem? (i := 2847) (by decide +kernel), List.mem_of_getElem? (i := 2848) (by decide +kernel)⟩
theorem lw_p203 : lw_okq (⟨"LevelUnitsModel", "signature", "()I"⟩, 134) := ⟨⟨by decide +kernel, by decide +kernel⟩, List.mem_of_getElem? (i := 2263) (by decide +kernel), List.mem_of_getElem? (i := 2851) (by decide +kernel), List.mem_of_getElem? (i := 2852) (by decide +kernel)⟩
theorem lw_p204 : lw_okq (⟨"LevelUnitsModel", "open", "(I)V"⟩, 134) := ⟨⟨by decide +kernel, by decide +kernel⟩, List.mem_of_getElem? (i := 2263) (by decide +kernel), List.mem_of_getElem? (i := 2855) (by decide +kernel), List.mem_of_getElem? (i := 2856) (by decide +kernel)⟩
theorem lw_p205 : lw_okq (⟨"LevelUnitsModel", "close", "(I)V"⟩, 134) := ⟨⟨by decide +kernel, by decide +kernel⟩, List.mem_of_getElem? (i := 2263) (by decide +kernel), List.mem_of_getElem? (i := 2859) (by decide +kernel), List.mem_of_getElem? (i := 2860) (by decide +kernel)⟩
theorem lw_p206 : lw_okq (⟨"LevelUnitsModel", "qnames", "()I"⟩, 134) := ⟨⟨by decide +kernel, by decide +kernel⟩, List.mem_of_getElem? (i := 2263) (by decide +kernel), List.mem_of_getElem? (i := 2863) (by decide +kernel), List.mem_of_getElem? (i := 2864) (by decide +kernel)⟩
theorem lw_p207 : lw_okq (⟨"LevelUnitsModel", "bounds", "(I)V"⟩, 134) := ⟨⟨by decide +kernel, by decide +kernel⟩, List.mem_of_getElem? (i := 2263) (by decide +kernel), List.mem_of_getElem? (i := 2867) (by decide +kernel), List.mem_of_getElem? (i := 2868) (by decide +kernel)⟩
def lw_privs_13 : List (MethodName × Nat) := [(⟨"LevelUnitsModel", "name", "()I"⟩, 134), (⟨"LevelUnitsModel", "expect", "(I)V"⟩, 134), (⟨"LevelUnitsModel", "nameRow", "(I)I"⟩, 134), (⟨"LevelUnitsModel", "declaration", "(Z)I"⟩, 134), (⟨"LevelUnitsModel", "type", "()I"⟩, 134), (⟨"LevelUnitsModel", "beginsType", "()Z"⟩, 134), (⟨"LevelUnitsModel", "typeInside", "()I"⟩, 134), (⟨"LevelUnitsModel", "qname", "()I"⟩, 134), (⟨"LevelUnitsModel", "level", "(I)I"⟩, 134), (⟨"LevelUnitsModel", "fields", "()I"⟩, 134), (⟨"LevelUnitsModel", "members", "(I)I"⟩, 134), (⟨"LevelUnitsModel", "signature", "()I"⟩, 134), (⟨"LevelUnitsModel", "open", "(I)V"⟩, 134), (⟨"LevelUnitsModel", "close", "(I)V"⟩, 134), (⟨"LevelUnitsModel", "qnames", "()I"⟩, 134), (⟨"LevelUnitsModel", "bounds", "(I)V"⟩, 134)]
theorem lw_r13 : ∀ q ∈ lw_privs_13, lw_okq q := List.forall_mem_cons.mpr ⟨lw_p192, List.forall_mem_cons.mpr ⟨lw_p193, List.forall_mem_cons.mpr ⟨lw_p194, List.forall_mem_cons.mpr ⟨lw_p195, List.forall_mem_cons.mpr ⟨lw_p196, List.forall_mem_cons.mpr ⟨lw_p197, List.forall_mem_cons.mpr ⟨lw_p198, List.forall_mem_cons.mpr ⟨lw_p199, List.forall_mem_cons.mpr ⟨lw_p200, List.forall_mem_cons.mpr ⟨lw_p201, List.forall_mem_cons.mpr ⟨lw_p202, List.forall_mem_cons.mpr ⟨lw_p203, List.forall_mem_cons.mpr ⟨lw_p204, List.forall_mem_cons.mpr ⟨lw_p205, List.forall_mem_cons.mpr ⟨lw_p206, List.forall_mem_cons.mpr ⟨lw_p207, fun _ h => absurd h List.not_mem_nil⟩⟩⟩⟩⟩⟩⟩⟩⟩⟩⟩⟩⟩⟩⟩⟩
theorem lw_p208 : lw_okq (⟨"LevelUnitsModel", "bound", "()I"⟩, 134) := ⟨⟨by decide +kernel, by decide +kernel⟩, List.mem_of_getElem? (i := 2263) (by decide +kernel), List.mem_of_getElem? (i := 2871) (by decide +kernel), List.mem_of_getElem? (i := 2872) (by decide +kernel)⟩
theorem lw_p209 : lw_okq (⟨"LevelUnitsModel", "levelAlone", "()I"⟩, 134) := ⟨⟨by decide +kernel, by decide +kernel⟩, List.mem_of_getElem? (i := 2263) (by decide +kernel), List.mem_of_getElem? (i := 2875) (by decide +kernel), List.mem_of_getElem? (i := 2876) (by decide +kernel)⟩
theorem lw_p210 : lw_okq (⟨"LevelUnitsModel", "variables", "(I)V"⟩, 134) := ⟨⟨by decide +kernel, by decide +kernel⟩, List.mem_of_getElem? (i := 2263) (by decide +kernel), List.mem_of_getElem? (i := 2879) (by decide +kernel), List.mem_of_getElem? (i := 2880) (by decide +kernel)⟩
theorem lw_p211 : lw_okq (⟨"LevelUnitsModel", "procedure", "(IZ)V"⟩, 134) := ⟨⟨by decide +kernel, by decide +kernel⟩, List.mem_of_getElem? (i := 2263) (by decide +kernel), List.mem_of_getElem? (i := 2883) (by decide +kernel), List.mem_of_getElem? (i := 2884) (by decide +kernel)⟩
theorem lw_p212 : lw_okq (⟨"LevelUnitsModel", "statements", "()I"⟩, 134) := ⟨⟨by decide +kernel, by decide +kernel⟩, List.mem_of_getElem? (i := 2263) (by decide +kernel), List.mem_of_getElem? (i := 2887) (by decide +kernel), List.mem_of_getElem? (i := 2888) (by decide +kernel)⟩
theorem lw_p213 : lw_okq (⟨"LevelUnitsModel", "beginsStatement", "()Z"⟩, 134) := ⟨⟨by decide +kernel, by decide +kernel⟩, List.mem_of_getElem? (i := 2263) (by decide +kernel), List.mem_of_getElem? (i := 2891) (by decide +kernel), List.mem_of_getElem? (i := 2892) (by decide +kernel)⟩
theorem lw_p214 : lw_okq (⟨"LevelUnitsModel", "statement", "()I"⟩, 134) := ⟨⟨by decide +kernel, by decide +kernel⟩, List.mem_of_getElem? (i := 2263) (by decide +kernel), List.mem_of_getElem? (i := 2895) (by decide +kernel), List.mem_of_getElem? (i := 2896) (by decide +kernel)⟩
theorem lw_p215 : lw_okq (⟨"LevelUnitsModel", "byPlace", "(I)V"⟩, 134) := ⟨⟨by decide +kernel, by decide +kernel⟩, List.mem_of_getElem? (i := 2263) (by decide +kernel), List.mem_of_getElem? (i := 2899) (by decide +kernel), List.mem_of_getElem? (i := 2900) (by decide +kernel)⟩
theorem lw_p216 : lw_okq (⟨"LevelUnitsModel", "place", "()I"⟩, 134) := ⟨⟨by decide +kernel, by decide +kernel⟩, List.mem_of_getElem? (i := 2263) (by decide +kernel), List.mem_of_getElem? (i := 2903) (by decide +kernel), List.mem_of_getElem? (i := 2904) (by decide +kernel)⟩
theorem lw_p217 : lw_okq (⟨"LevelUnitsModel", "expression", "()I"⟩, 134) := ⟨⟨by decide +kernel, by decide +kernel⟩, List.mem_of_getElem? (i := 2263) (by decide +kernel), List.mem_of_getElem? (i := 2907) (by decide +kernel), List.mem_of_getElem? (i := 2908) (by decide +kernel)⟩
theorem lw_p218 : lw_okq (⟨"LevelUnitsModel", "chain", "(I)I"⟩, 134) := ⟨⟨by decide +kernel, by decide +kernel⟩, List.mem_of_getElem? (i := 2263) (by decide +kernel), List.mem_of_getElem? (i := 2911) (by decide +kernel), List.mem_of_getElem? (i := 2912) (by decide +kernel)⟩
theorem lw_p219 : lw_okq (⟨"LevelUnitsModel", "operand", "(I)I"⟩, 134) := ⟨⟨by decide +kernel, by decide +kernel⟩, List.mem_of_getElem? (i := 2263) (by decide +kernel), List.mem_of_getElem? (i := 2915) (by decide +kernel), List.mem_of_getElem? (i := 2916) (by decide +kernel)⟩
theorem lw_p220 : lw_okq (⟨"LevelUnitsModel", "not", "()I"⟩, 134) := ⟨⟨by decide +kernel, by decide +kernel⟩, List.mem_of_getElem? (i := 2263) (by decide +kernel), List.mem_of_getElem? (i := 2919) (by decide +kernel), List.mem_of_getElem? (i := 2920) (by decide +kernel)⟩
theorem lw_p221 : lw_okq (⟨"LevelUnitsModel", "relation", "()I"⟩, 134) := ⟨⟨by decide +kernel, by decide +kernel⟩, List.mem_of_getElem? (i := 2263) (by decide +kernel), List.mem_of_getElem? (i := 2923) (by decide +kernel), List.mem_of_getElem? (i := 2924) (by decide +kernel)⟩
theorem lw_p222 : lw_okq (⟨"LevelUnitsModel", "minus", "()I"⟩, 134) := ⟨⟨by decide +kernel, by decide +kernel⟩, List.mem_of_getElem? (i := 2263) (by decide +kernel), List.mem_of_getElem? (i := 2927) (by decide +kernel), List.mem_of_getElem? (i := 2928) (by decide +kernel)⟩
theorem lw_p223 : lw_okq (⟨"LevelUnitsModel", "simple", "()I"⟩, 134) := ⟨⟨by decide +kernel, by decide +kernel⟩, List.mem_of_getElem? (i := 2263) (by decide +kernel), List.mem_of_getElem? (i := 2931) (by decide +kernel), List.mem_of_getElem? (i := 2932) (by decide +kernel)⟩
def lw_privs_14 : List (MethodName × Nat) := [(⟨"LevelUnitsModel", "bound", "()I"⟩, 134), (⟨"LevelUnitsModel", "levelAlone", "()I"⟩, 134), (⟨"LevelUnitsModel", "variables", "(I)V"⟩, 134), (⟨"LevelUnitsModel", "procedure", "(IZ)V"⟩, 134), (⟨"LevelUnitsModel", "statements", "()I"⟩, 134), (⟨"LevelUnitsModel", "beginsStatement", "()Z"⟩, 134), (⟨"LevelUnitsModel", "statement", "()I"⟩, 134), (⟨"LevelUnitsModel", "byPlace", "(I)V"⟩, 134), (⟨"LevelUnitsModel", "place", "()I"⟩, 134), (⟨"LevelUnitsModel", "expression", "()I"⟩, 134), (⟨"LevelUnitsModel", "chain", "(I)I"⟩, 134), (⟨"LevelUnitsModel", "operand", "(I)I"⟩, 134), (⟨"LevelUnitsModel", "not", "()I"⟩, 134), (⟨"LevelUnitsModel", "relation", "()I"⟩, 134), (⟨"LevelUnitsModel", "minus", "()I"⟩, 134), (⟨"LevelUnitsModel", "simple", "()I"⟩, 134)]
theorem lw_r14 : ∀ q ∈ lw_privs_14, lw_okq q := List.forall_mem_cons.mpr ⟨lw_p208, List.forall_mem_cons.mpr ⟨lw_p209, List.forall_mem_cons.mpr ⟨lw_p210, List.forall_mem_cons.mpr ⟨lw_p211, List.forall_mem_cons.mpr ⟨lw_p212, List.forall_mem_cons.mpr ⟨lw_p213, List.forall_mem_cons.mpr ⟨lw_p214, List.forall_mem_cons.mpr ⟨lw_p215, List.forall_mem_cons.mpr ⟨lw_p216, List.forall_mem_cons.mpr ⟨lw_p217, List.forall_mem_cons.mpr ⟨lw_p218, List.forall_mem_cons.mpr ⟨lw_p219, List.forall_mem_cons.mpr ⟨lw_p220, List.forall_mem_cons.mpr ⟨lw_p221, List.forall_mem_cons.mpr ⟨lw_p222, List.forall_mem_cons.mpr ⟨lw_p223, fun _ h => absurd h List.not_mem_nil⟩⟩⟩⟩⟩⟩⟩⟩⟩⟩⟩⟩⟩⟩⟩⟩
theorem lw_p224 : lw_okq (⟨"LevelUnitsModel", "joins", "(I)Z"⟩, 134) := ⟨⟨by decide +kernel, by decide +kernel⟩, List.mem_of_getElem? (i := 2263) (by decide +kernel), List.mem_of_getElem? (i := 2935) (by decide +kernel), List.mem_of_getElem? (i := 2936) (by decide +kernel)⟩
theorem lw_p225 : lw_okq (⟨"LevelUnitsModel", "call", "(I)I"⟩, 134) := ⟨⟨by decide +kernel, by decide +kernel⟩, List.mem_of_getElem? (i := 2263) (by decide +kernel), List.mem_of_getElem? (i := 2939) (by decide +kernel), List.mem_of_getElem? (i := 2940) (by decide +kernel)⟩
theorem lw_p226 : lw_okq (⟨"LevelUnitsModel", "arms", "()I"⟩, 134) := ⟨⟨by decide +kernel, by decide +kernel⟩, List.mem_of_getElem? (i := 2263) (by decide +kernel), List.mem_of_getElem? (i := 2943) (by decide +kernel), List.mem_of_getElem? (i := 2944) (by decide +kernel)⟩
theorem lw_p227 : lw_okq (⟨"LevelUnitsModel", "forStatement", "(I)V"⟩, 134) := ⟨⟨by decide +kernel, by decide +kernel⟩, List.mem_of_getElem? (i := 2263) (by decide +kernel), List.mem_of_getElem? (i := 2947) (by decide +kernel), List.mem_of_getElem? (i := 2948) (by decide +kernel)⟩
theorem lw_p228 : lw_okq (⟨"LevelUnitsModel", "tryStatement", "(I)V"⟩, 134) := ⟨⟨by decide +kernel, by decide +kernel⟩, List.mem_of_getElem? (i := 2263) (by decide +kernel), List.mem_of_getElem? (i := 2951) (by decide +kernel), List.mem_of_getElem? (i := 2952) (by decide +kernel)⟩
theorem lw_p229 : lw_okq (⟨"LevelUnitsModel", "cases", "(I)I"⟩, 134) := ⟨⟨by decide +kernel, by decide +kernel⟩, List.mem_of_getElem? (i := 2263) (by decide +kernel), List.mem_of_getElem? (i := 2955) (by decide +kernel), List.mem_of_getElem? (i := 2956) (by decide +kernel)⟩
theorem lw_p230 : lw_okq (⟨"LevelUnitsModel", "otherwise", "(I)V"⟩, 134) := ⟨⟨by decide +kernel, by decide +kernel⟩, List.mem_of_getElem? (i := 2263) (by decide +kernel), List.mem_of_getElem? (i := 2959) (by decide +kernel), List.mem_of_getElem? (i := 2960) (by decide +kernel)⟩
theorem lw_p231 : lw_okq (⟨"LevelUnitsModel", "typecase", "(I)V"⟩, 134) := ⟨⟨by decide +kernel, by decide +kernel⟩, List.mem_of_getElem? (i := 2263) (by decide +kernel), List.mem_of_getElem? (i := 2963) (by decide +kernel), List.mem_of_getElem? (i := 2964) (by decide +kernel)⟩
theorem lw_p232 : lw_okq (⟨"LevelUnitsModel", "endName", "(I)V"⟩, 134) := ⟨⟨by decide +kernel, by decide +kernel⟩, List.mem_of_getElem? (i := 2263) (by decide +kernel), List.mem_of_getElem? (i := 2967) (by decide +kernel), List.mem_of_getElem? (i := 2968) (by decide +kernel)⟩
theorem lw_p233 : lw_okq (⟨"LevelUnitsModel", "nameRound", "()V"⟩, 134) := ⟨⟨by decide +kernel, by decide +kernel⟩, List.mem_of_getElem? (i := 2263) (by decide +kernel), List.mem_of_getElem? (i := 2971) (by decide +kernel), List.mem_of_getElem? (i := 2972) (by decide +kernel)⟩
theorem lw_p234 : lw_okq (⟨"LevelUnitsModel", "declareAll", "()V"⟩, 134) := ⟨⟨by decide +kernel, by decide +kernel⟩, List.mem_of_getElem? (i := 2263) (by decide +kernel), List.mem_of_getElem? (i := 2975) (by decide +kernel), List.mem_of_getElem? (i := 2976) (by decide +kernel)⟩
theorem lw_p235 : lw_okq (⟨"LevelUnitsModel", "rule", "(II)V"⟩, 134) := ⟨⟨by decide +kernel, by decide +kernel⟩, List.mem_of_getElem? (i := 2263) (by decide +kernel), List.mem_of_getElem? (i := 2979) (by decide +kernel), List.mem_of_getElem? (i := 2980) (by decide +kernel)⟩
theorem lw_p236 : lw_okq (⟨"LevelUnitsModel", "imported", "(II)V"⟩, 134) := ⟨⟨by decide +kernel, by decide +kernel⟩, List.mem_of_getElem? (i := 2263) (by decide +kernel), List.mem_of_getElem? (i := 2983) (by decide +kernel), List.mem_of_getElem? (i := 2984) (by decide +kernel)⟩
theorem lw_p237 : lw_okq (⟨"LevelUnitsModel", "isThere", "(III)Z"⟩, 134) := ⟨⟨by decide +kernel, by decide +kernel⟩, List.mem_of_getElem? (i := 2263) (by decide +kernel), List.mem_of_getElem? (i := 2987) (by decide +kernel), List.mem_of_getElem? (i := 2988) (by decide +kernel)⟩
theorem lw_p238 : lw_okq (⟨"LevelUnitsModel", "findIn", "(IIZ)I"⟩, 134) := ⟨⟨by decide +kernel, by decide +kernel⟩, List.mem_of_getElem? (i := 2263) (by decide +kernel), List.mem_of_getElem? (i := 2991) (by decide +kernel), List.mem_of_getElem? (i := 2992) (by decide +kernel)⟩
theorem lw_p239 : lw_okq (⟨"LevelUnitsModel", "symbol", "(IIII)V"⟩, 134) := ⟨⟨by decide +kernel, by decide +kernel⟩, List.mem_of_getElem? (i := 2263) (by decide +kernel), List.mem_of_getElem? (i := 2995) (by decide +kernel), List.mem_of_getElem? (i := 2996) (by decide +kernel)⟩
def lw_privs_15 : List (MethodName × Nat) := [(⟨"LevelUnitsModel", "joins", "(I)Z"⟩, 134), (⟨"LevelUnitsModel", "call", "(I)I"⟩, 134), (⟨"LevelUnitsModel", "arms", "()I"⟩, 134), (⟨"LevelUnitsModel", "forStatement", "(I)V"⟩, 134), (⟨"LevelUnitsModel", "tryStatement", "(I)V"⟩, 134), (⟨"LevelUnitsModel", "cases", "(I)I"⟩, 134), (⟨"LevelUnitsModel", "otherwise", "(I)V"⟩, 134), (⟨"LevelUnitsModel", "typecase", "(I)V"⟩, 134), (⟨"LevelUnitsModel", "endName", "(I)V"⟩, 134), (⟨"LevelUnitsModel", "nameRound", "()V"⟩, 134), (⟨"LevelUnitsModel", "declareAll", "()V"⟩, 134), (⟨"LevelUnitsModel", "rule", "(II)V"⟩, 134), (⟨"LevelUnitsModel", "imported", "(II)V"⟩, 134), (⟨"LevelUnitsModel", "isThere", "(III)Z"⟩, 134), (⟨"LevelUnitsModel", "findIn", "(IIZ)I"⟩, 134), (⟨"LevelUnitsModel", "symbol", "(IIII)V"⟩, 134)]
theorem lw_r15 : ∀ q ∈ lw_privs_15, lw_okq q := List.forall_mem_cons.mpr ⟨lw_p224, List.forall_mem_cons.mpr ⟨lw_p225, List.forall_mem_cons.mpr ⟨lw_p226, List.forall_mem_cons.mpr ⟨lw_p227, List.forall_mem_cons.mpr ⟨lw_p228, List.forall_mem_cons.mpr ⟨lw_p229, List.forall_mem_cons.mpr ⟨lw_p230, List.forall_mem_cons.mpr ⟨lw_p231, List.forall_mem_cons.mpr ⟨lw_p232, List.forall_mem_cons.mpr ⟨lw_p233, List.forall_mem_cons.mpr ⟨lw_p234, List.forall_mem_cons.mpr ⟨lw_p235, List.forall_mem_cons.mpr ⟨lw_p236, List.forall_mem_cons.mpr ⟨lw_p237, List.forall_mem_cons.mpr ⟨lw_p238, List.forall_mem_cons.mpr ⟨lw_p239, fun _ h => absurd h List.not_mem_nil⟩⟩⟩⟩⟩⟩⟩⟩⟩⟩⟩⟩⟩⟩⟩⟩
theorem lw_p240 : lw_okq (⟨"LevelUnitsModel", "declared", "(II)V"⟩, 134) := ⟨⟨by decide +kernel, by decide +kernel⟩, List.mem_of_getElem? (i := 2263) (by decide +kernel), List.mem_of_getElem? (i := 2999) (by decide +kernel), List.mem_of_getElem? (i := 3000) (by decide +kernel)⟩
theorem lw_p241 : lw_okq (⟨"LevelUnitsModel", "tell", "(IIIIII)V"⟩, 134) := ⟨⟨by decide +kernel, by decide +kernel⟩, List.mem_of_getElem? (i := 2263) (by decide +kernel), List.mem_of_getElem? (i := 3003) (by decide +kernel), List.mem_of_getElem? (i := 3004) (by decide +kernel)⟩
theorem lw_p242 : lw_okq (⟨"LevelUnitsModel", "variable", "(II)I"⟩, 134) := ⟨⟨by decide +kernel, by decide +kernel⟩, List.mem_of_getElem? (i := 2263) (by decide +kernel), List.mem_of_getElem? (i := 3007) (by decide +kernel), List.mem_of_getElem? (i := 3008) (by decide +kernel)⟩
theorem lw_p243 : lw_okq (⟨"LevelUnitsModel", "nameDeclaration", "(I)V"⟩, 134) := ⟨⟨by decide +kernel, by decide +kernel⟩, List.mem_of_getElem? (i := 2263) (by decide +kernel), List.mem_of_getElem? (i := 3011) (by decide +kernel), List.mem_of_getElem? (i := 3012) (by decide +kernel)⟩
theorem lw_p244 : lw_okq (⟨"LevelUnitsModel", "nameType", "(I)V"⟩, 134) := ⟨⟨by decide +kernel, by decide +kernel⟩, List.mem_of_getElem? (i := 2263) (by decide +kernel), List.mem_of_getElem? (i := 3015) (by decide +kernel), List.mem_of_getElem? (i := 3016) (by decide +kernel)⟩
theorem lw_p245 : lw_okq (⟨"LevelUnitsModel", "qualified", "(III)V"⟩, 134) := ⟨⟨by decide +kernel, by decide +kernel⟩, List.mem_of_getElem? (i := 2263) (by decide +kernel), List.mem_of_getElem? (i := 3019) (by decide +kernel), List.mem_of_getElem? (i := 3020) (by decide +kernel)⟩
theorem lw_p246 : lw_okq (⟨"LevelUnitsModel", "find", "(II)I"⟩, 134) := ⟨⟨by decide +kernel, by decide +kernel⟩, List.mem_of_getElem? (i := 2263) (by decide +kernel), List.mem_of_getElem? (i := 3023) (by decide +kernel), List.mem_of_getElem? (i := 3024) (by decide +kernel)⟩
theorem lw_p247 : lw_okq (⟨"LevelUnitsModel", "nameFields", "(II)V"⟩, 134) := ⟨⟨by decide +kernel, by decide +kernel⟩, List.mem_of_getElem? (i := 2263) (by decide +kernel), List.mem_of_getElem? (i := 3027) (by decide +kernel), List.mem_of_getElem? (i := 3028) (by decide +kernel)⟩
theorem lw_p248 : lw_okq (⟨"LevelUnitsModel", "again", "(I)V"⟩, 134) := ⟨⟨by decide +kernel, by decide +kernel⟩, List.mem_of_getElem? (i := 2263) (by decide +kernel), List.mem_of_getElem? (i := 3031) (by decide +kernel), List.mem_of_getElem? (i := 3032) (by decide +kernel)⟩
theorem lw_p249 : lw_okq (⟨"LevelUnitsModel", "nameSignature", "(I)V"⟩, 134) := ⟨⟨by decide +kernel, by decide +kernel⟩, List.mem_of_getElem? (i := 2263) (by decide +kernel), List.mem_of_getElem? (i := 3035) (by decide +kernel), List.mem_of_getElem? (i := 3036) (by decide +kernel)⟩
theorem lw_p250 : lw_okq (⟨"LevelUnitsModel", "nameMembers", "(I)V"⟩, 134) := ⟨⟨by decide +kernel, by decide +kernel⟩, List.mem_of_getElem? (i := 2263) (by decide +kernel), List.mem_of_getElem? (i := 3039) (by decide +kernel), List.mem_of_getElem? (i := 3040) (by decide +kernel)⟩
theorem lw_p251 : lw_okq (⟨"LevelUnitsModel", "nameBody", "(I)V"⟩, 134) := ⟨⟨by decide +kernel, by decide +kernel⟩, List.mem_of_getElem? (i := 2263) (by decide +kernel), List.mem_of_getElem? (i := 3043) (by decide +kernel), List.mem_of_getElem? (i := 3044) (by decide +kernel)⟩
theorem lw_p252 : lw_okq (⟨"LevelUnitsModel", "see", "(II)V"⟩, 134) := ⟨⟨by decide +kernel, by decide +kernel⟩, List.mem_of_getElem? (i := 2263) (by decide +kernel), List.mem_of_getElem? (i := 3047) (by decide +kernel), List.mem_of_getElem? (i := 3048) (by decide +kernel)⟩
theorem lw_p253 : lw_okq (⟨"LevelUnitsModel", "nameStatements", "(I)V"⟩, 134) := ⟨⟨by decide +kernel, by decide +kernel⟩, List.mem_of_getElem? (i := 2263) (by decide +kernel), List.mem_of_getElem? (i := 3051) (by decide +kernel), List.mem_of_getElem? (i := 3052) (by decide +kernel)⟩
theorem lw_p254 : lw_okq (⟨"LevelUnitsModel", "nameStatement", "(I)V"⟩, 134) := ⟨⟨by decide +kernel, by decide +kernel⟩, List.mem_of_getElem? (i := 2263) (by decide +kernel), List.mem_of_getElem? (i := 3055) (by decide +kernel), List.mem_of_getElem? (i := 3056) (by decide +kernel)⟩
theorem lw_p255 : lw_okq (⟨"LevelUnitsModel", "namePlace", "(I)V"⟩, 134) := ⟨⟨by decide +kernel, by decide +kernel⟩, List.mem_of_getElem? (i := 2263) (by decide +kernel), List.mem_of_getElem? (i := 3059) (by decide +kernel), List.mem_of_getElem? (i := 3060) (by decide +kernel)⟩
def lw_privs_16 : List (MethodName × Nat) := [(⟨"LevelUnitsModel", "declared", "(II)V"⟩, 134), (⟨"LevelUnitsModel", "tell", "(IIIIII)V"⟩, 134), (⟨"LevelUnitsModel", "variable", "(II)I"⟩, 134), (⟨"LevelUnitsModel", "nameDeclaration", "(I)V"⟩, 134), (⟨"LevelUnitsModel", "nameType", "(I)V"⟩, 134), (⟨"LevelUnitsModel", "qualified", "(III)V"⟩, 134), (⟨"LevelUnitsModel", "find", "(II)I"⟩, 134), (⟨"LevelUnitsModel", "nameFields", "(II)V"⟩, 134), (⟨"LevelUnitsModel", "again", "(I)V"⟩, 134), (⟨"LevelUnitsModel", "nameSignature", "(I)V"⟩, 134), (⟨"LevelUnitsModel", "nameMembers", "(I)V"⟩, 134), (⟨"LevelUnitsModel", "nameBody", "(I)V"⟩, 134), (⟨"LevelUnitsModel", "see", "(II)V"⟩, 134), (⟨"LevelUnitsModel", "nameStatements", "(I)V"⟩, 134), (⟨"LevelUnitsModel", "nameStatement", "(I)V"⟩, 134), (⟨"LevelUnitsModel", "namePlace", "(I)V"⟩, 134)]
theorem lw_r16 : ∀ q ∈ lw_privs_16, lw_okq q := List.forall_mem_cons.mpr ⟨lw_p240, List.forall_mem_cons.mpr ⟨lw_p241, List.forall_mem_cons.mpr ⟨lw_p242, List.forall_mem_cons.mpr ⟨lw_p243, List.forall_mem_cons.mpr ⟨lw_p244, List.forall_mem_cons.mpr ⟨lw_p245, List.forall_mem_cons.mpr ⟨lw_p246, List.forall_mem_cons.mpr ⟨lw_p247, List.forall_mem_cons.mpr ⟨lw_p248, List.forall_mem_cons.mpr ⟨lw_p249, List.forall_mem_cons.mpr ⟨lw_p250, List.forall_mem_cons.mpr ⟨lw_p251, List.forall_mem_cons.mpr ⟨lw_p252, List.forall_mem_cons.mpr ⟨lw_p253, List.forall_mem_cons.mpr ⟨lw_p254, List.forall_mem_cons.mpr ⟨lw_p255, fun _ h => absurd h List.not_mem_nil⟩⟩⟩⟩⟩⟩⟩⟩⟩⟩⟩⟩⟩⟩⟩⟩
theorem lw_p256 : lw_okq (⟨"LevelUnitsModel", "nameE", "(I)V"⟩, 134) := ⟨⟨by decide +kernel, by decide +kernel⟩, List.mem_of_getElem? (i := 2263) (by decide +kernel), List.mem_of_getElem? (i := 3063) (by decide +kernel), List.mem_of_getElem? (i := 3064) (by decide +kernel)⟩
theorem lw_p257 : lw_okq (⟨"LevelUnitsModel", "within", "(IIII)V"⟩, 134) := ⟨⟨by decide +kernel, by decide +kernel⟩, List.mem_of_getElem? (i := 2263) (by decide +kernel), List.mem_of_getElem? (i := 3067) (by decide +kernel), List.mem_of_getElem? (i := 3068) (by decide +kernel)⟩
theorem lw_p258 : lw_okq (⟨"LevelUnitsModel", "typeRound", "()V"⟩, 134) := ⟨⟨by decide +kernel, by decide +kernel⟩, List.mem_of_getElem? (i := 2263) (by decide +kernel), List.mem_of_getElem? (i := 3071) (by decide +kernel), List.mem_of_getElem? (i := 3072) (by decide +kernel)⟩
theorem lw_p259 : lw_okq (⟨"LevelUnitsModel", "revealed", "(I)V"⟩, 134) := ⟨⟨by decide +kernel, by decide +kernel⟩, List.mem_of_getElem? (i := 2263) (by decide +kernel), List.mem_of_getElem? (i := 3075) (by decide +kernel), List.mem_of_getElem? (i := 3076) (by decide +kernel)⟩
theorem lw_p260 : lw_okq (⟨"LevelUnitsModel", "opaqueOf", "(I)I"⟩, 134) := ⟨⟨by decide +kernel, by decide +kernel⟩, List.mem_of_getElem? (i := 2263) (by decide +kernel), List.mem_of_getElem? (i := 3079) (by decide +kernel), List.mem_of_getElem? (i := 3080) (by decide +kernel)⟩
theorem lw_p261 : lw_okq (⟨"LevelUnitsModel", "real", "(I)I"⟩, 134) := ⟨⟨by decide +kernel, by decide +kernel⟩, List.mem_of_getElem? (i := 2263) (by decide +kernel), List.mem_of_getElem? (i := 3083) (by decide +kernel), List.mem_of_getElem? (i := 3084) (by decide +kernel)⟩
theorem lw_p262 : lw_okq (⟨"LevelUnitsModel", "declaration", "(I)I"⟩, 134) := ⟨⟨by decide +kernel, by decide +kernel⟩, List.mem_of_getElem? (i := 2263) (by decide +kernel), List.mem_of_getElem? (i := 3087) (by decide +kernel), List.mem_of_getElem? (i := 3088) (by decide +kernel)⟩
theorem lw_p263 : lw_okq (⟨"LevelUnitsModel", "firstOfRing", "(I)I"⟩, 134) := ⟨⟨by decide +kernel, by decide +kernel⟩, List.mem_of_getElem? (i := 2263) (by decide +kernel), List.mem_of_getElem? (i := 3091) (by decide +kernel), List.mem_of_getElem? (i := 3092) (by decide +kernel)⟩
theorem lw_p264 : lw_okq (⟨"LevelUnitsModel", "rings", "()V"⟩, 134) := ⟨⟨by decide +kernel, by decide +kernel⟩, List.mem_of_getElem? (i := 2263) (by decide +kernel), List.mem_of_getElem? (i := 3096) (by decide +kernel), List.mem_of_getElem? (i := 3097) (by decide +kernel)⟩
theorem lw_p265 : lw_okq (⟨"LevelUnitsModel", "holds", "(II)Z"⟩, 134) := ⟨⟨by decide +kernel, by decide +kernel⟩, List.mem_of_getElem? (i := 2263) (by decide +kernel), List.mem_of_getElem? (i := 3100) (by decide +kernel), List.mem_of_getElem? (i := 3101) (by decide +kernel)⟩
theorem lw_p266 : lw_okq (⟨"LevelUnitsModel", "goesTo", "(I)I"⟩, 134) := ⟨⟨by decide +kernel, by decide +kernel⟩, List.mem_of_getElem? (i := 2263) (by decide +kernel), List.mem_of_getElem? (i := 3104) (by decide +kernel), List.mem_of_getElem? (i := 3105) (by decide +kernel)⟩
theorem lw_p267 : lw_okq (⟨"LevelUnitsModel", "superOf", "(I)I"⟩, 134) := ⟨⟨by decide +kernel, by decide +kernel⟩, List.mem_of_getElem? (i := 2263) (by decide +kernel), List.mem_of_getElem? (i := 3108) (by decide +kernel), List.mem_of_getElem? (i := 3109) (by decide +kernel)⟩
theorem lw_p268 : lw_okq (⟨"LevelUnitsModel", "bounds", "()V"⟩, 134) := ⟨⟨by decide +kernel, by decide +kernel⟩, List.mem_of_getElem? (i := 2263) (by decide +kernel), List.mem_of_getElem? (i := 3112) (by decide +kernel), List.mem_of_getElem? (i := 3113) (by decide +kernel)⟩
theorem lw_p269 : lw_okq (⟨"LevelUnitsModel", "cellsOf", "(I)I"⟩, 134) := ⟨⟨by decide +kernel, by decide +kernel⟩, List.mem_of_getElem? (i := 2263) (by decide +kernel), List.mem_of_getElem? (i := 3117) (by decide +kernel), List.mem_of_getElem? (i := 3118) (by decide +kernel)⟩
theorem lw_p270 : lw_okq (⟨"LevelUnitsModel", "typeDeclaration", "(I)V"⟩, 134) := ⟨⟨by decide +kernel, by decide +kernel⟩, List.mem_of_getElem? (i := 2263) (by decide +kernel), List.mem_of_getElem? (i := 3123) (by decide +kernel), List.mem_of_getElem? (i := 3124) (by decide +kernel)⟩
theorem lw_p271 : lw_okq (⟨"LevelUnitsModel", "tells", "(II)V"⟩, 134) := ⟨⟨by decide +kernel, by decide +kernel⟩, List.mem_of_getElem? (i := 2263) (by decide +kernel), List.mem_of_getElem? (i := 3128) (by decide +kernel), List.mem_of_getElem? (i := 3129) (by decide +kernel)⟩
def lw_privs_17 : List (MethodName × Nat) := [(⟨"LevelUnitsModel", "nameE", "(I)V"⟩, 134), (⟨"LevelUnitsModel", "within", "(IIII)V"⟩, 134), (⟨"LevelUnitsModel", "typeRound", "()V"⟩, 134), (⟨"LevelUnitsModel", "revealed", "(I)V"⟩, 134), (⟨"LevelUnitsModel", "opaqueOf", "(I)I"⟩, 134), (⟨"LevelUnitsModel", "real", "(I)I"⟩, 134), (⟨"LevelUnitsModel", "declaration", "(I)I"⟩, 134), (⟨"LevelUnitsModel", "firstOfRing", "(I)I"⟩, 134), (⟨"LevelUnitsModel", "rings", "()V"⟩, 134), (⟨"LevelUnitsModel", "holds", "(II)Z"⟩, 134), (⟨"LevelUnitsModel", "goesTo", "(I)I"⟩, 134), (⟨"LevelUnitsModel", "superOf", "(I)I"⟩, 134), (⟨"LevelUnitsModel", "bounds", "()V"⟩, 134), (⟨"LevelUnitsModel", "cellsOf", "(I)I"⟩, 134), (⟨"LevelUnitsModel", "typeDeclaration", "(I)V"⟩, 134), (⟨"LevelUnitsModel", "tells", "(II)V"⟩, 134)]
theorem lw_r17 : ∀ q ∈ lw_privs_17, lw_okq q := List.forall_mem_cons.mpr ⟨lw_p256, List.forall_mem_cons.mpr ⟨lw_p257, List.forall_mem_cons.mpr ⟨lw_p258, List.forall_mem_cons.mpr ⟨lw_p259, List.forall_mem_cons.mpr ⟨lw_p260, List.forall_mem_cons.mpr ⟨lw_p261, List.forall_mem_cons.mpr ⟨lw_p262, List.forall_mem_cons.mpr ⟨lw_p263, List.forall_mem_cons.mpr ⟨lw_p264, List.forall_mem_cons.mpr ⟨lw_p265, List.forall_mem_cons.mpr ⟨lw_p266, List.forall_mem_cons.mpr ⟨lw_p267, List.forall_mem_cons.mpr ⟨lw_p268, List.forall_mem_cons.mpr ⟨lw_p269, List.forall_mem_cons.mpr ⟨lw_p270, List.forall_mem_cons.mpr ⟨lw_p271, fun _ h => absurd h List.not_mem_nil⟩⟩⟩⟩⟩⟩⟩⟩⟩⟩⟩⟩⟩⟩⟩⟩
theorem lw_p272 : lw_okq (⟨"LevelUnitsModel", "isObject", "(I)Z"⟩, 134) := ⟨⟨by decide +kernel, by decide +kernel⟩, List.mem_of_getElem? (i := 2263) (by decide +kernel), List.mem_of_getElem? (i := 3132) (by decide +kernel), List.mem_of_getElem? (i := 3133) (by decide +kernel)⟩
theorem lw_p273 : lw_okq (⟨"LevelUnitsModel", "placeIn", "(II)I"⟩, 134) := ⟨⟨by decide +kernel, by decide +kernel⟩, List.mem_of_getElem? (i := 2263) (by decide +kernel), List.mem_of_getElem? (i := 3136) (by decide +kernel), List.mem_of_getElem? (i := 3137) (by decide +kernel)⟩
theorem lw_p274 : lw_okq (⟨"LevelUnitsModel", "wholeChain", "(I)V"⟩, 134) := ⟨⟨by decide +kernel, by decide +kernel⟩, List.mem_of_getElem? (i := 2263) (by decide +kernel), List.mem_of_getElem? (i := 3140) (by decide +kernel), List.mem_of_getElem? (i := 3141) (by decide +kernel)⟩
theorem lw_p275 : lw_okq (⟨"LevelUnitsModel", "wholeAbove", "(I)I"⟩, 134) := ⟨⟨by decide +kernel, by decide +kernel⟩, List.mem_of_getElem? (i := 2263) (by decide +kernel), List.mem_of_getElem? (i := 3144) (by decide +kernel), List.mem_of_getElem? (i := 3145) (by decide +kernel)⟩
theorem lw_p276 : lw_okq (⟨"LevelUnitsModel", "areAlike", "(II)Z"⟩, 134) := ⟨⟨by decide +kernel, by decide +kernel⟩, List.mem_of_getElem? (i := 2263) (by decide +kernel), List.mem_of_getElem? (i := 3148) (by decide +kernel), List.mem_of_getElem? (i := 3149) (by decide +kernel)⟩
theorem lw_p277 : lw_okq (⟨"LevelUnitsModel", "pair", "(II)V"⟩, 134) := ⟨⟨by decide +kernel, by decide +kernel⟩, List.mem_of_getElem? (i := 2263) (by decide +kernel), List.mem_of_getElem? (i := 3152) (by decide +kernel), List.mem_of_getElem? (i := 3153) (by decide +kernel)⟩
theorem lw_p278 : lw_okq (⟨"LevelUnitsModel", "joins", "()Z"⟩, 134) := ⟨⟨by decide +kernel, by decide +kernel⟩, List.mem_of_getElem? (i := 2263) (by decide +kernel), List.mem_of_getElem? (i := 3156) (by decide +kernel), List.mem_of_getElem? (i := 3157) (by decide +kernel)⟩
theorem lw_p279 : lw_okq (⟨"LevelUnitsModel", "classOf", "(I)I"⟩, 134) := ⟨⟨by decide +kernel, by decide +kernel⟩, List.mem_of_getElem? (i := 2263) (by decide +kernel), List.mem_of_getElem? (i := 3160) (by decide +kernel), List.mem_of_getElem? (i := 3161) (by decide +kernel)⟩
theorem lw_p280 : lw_okq (⟨"LevelUnitsModel", "partsPair", "(II)Z"⟩, 134) := ⟨⟨by decide +kernel, by decide +kernel⟩, List.mem_of_getElem? (i := 2263) (by decide +kernel), List.mem_of_getElem? (i := 3164) (by decide +kernel), List.mem_of_getElem? (i := 3165) (by decide +kernel)⟩
theorem lw_p281 : lw_okq (⟨"LevelUnitsModel", "fieldsPair", "(II)Z"⟩, 134) := ⟨⟨by decide +kernel, by decide +kernel⟩, List.mem_of_getElem? (i := 2263) (by decide +kernel), List.mem_of_getElem? (i := 3168) (by decide +kernel), List.mem_of_getElem? (i := 3169) (by decide +kernel)⟩
theorem lw_p282 : lw_okq (⟨"LevelUnitsModel", "signaturesPair", "(IIII)Z"⟩, 134) := ⟨⟨by decide +kernel, by decide +kernel⟩, List.mem_of_getElem? (i := 2263) (by decide +kernel), List.mem_of_getElem? (i := 3172) (by decide +kernel), List.mem_of_getElem? (i := 3173) (by decide +kernel)⟩
theorem lw_p283 : lw_okq (⟨"LevelUnitsModel", "sameSets", "(II)Z"⟩, 134) := ⟨⟨by decide +kernel, by decide +kernel⟩, List.mem_of_getElem? (i := 2263) (by decide +kernel), List.mem_of_getElem? (i := 3176) (by decide +kernel), List.mem_of_getElem? (i := 3177) (by decide +kernel)⟩
theorem lw_p284 : lw_okq (⟨"LevelUnitsModel", "setWithin", "(II)Z"⟩, 134) := ⟨⟨by decide +kernel, by decide +kernel⟩, List.mem_of_getElem? (i := 2263) (by decide +kernel), List.mem_of_getElem? (i := 3180) (by decide +kernel), List.mem_of_getElem? (i := 3181) (by decide +kernel)⟩
theorem lw_p285 : lw_okq (⟨"LevelUnitsModel", "numberOf", "(I)I"⟩, 134) := ⟨⟨by decide +kernel, by decide +kernel⟩, List.mem_of_getElem? (i := 2263) (by decide +kernel), List.mem_of_getElem? (i := 3184) (by decide +kernel), List.mem_of_getElem? (i := 3185) (by decide +kernel)⟩
theorem lw_p286 : lw_okq (⟨"LevelUnitsModel", "hasException", "(II)Z"⟩, 134) := ⟨⟨by decide +kernel, by decide +kernel⟩, List.mem_of_getElem? (i := 2263) (by decide +kernel), List.mem_of_getElem? (i := 3188) (by decide +kernel), List.mem_of_getElem? (i := 3189) (by decide +kernel)⟩
theorem lw_p287 : lw_okq (⟨"LevelUnitsModel", "methodsPair", "(II)Z"⟩, 134) := ⟨⟨by decide +kernel, by decide +kernel⟩, List.mem_of_getElem? (i := 2263) (by decide +kernel), List.mem_of_getElem? (i := 3192) (by decide +kernel), List.mem_of_getElem? (i := 3193) (by decide +kernel)⟩
def lw_privs_18 : List (MethodName × Nat) := [(⟨"LevelUnitsModel", "isObject", "(I)Z"⟩, 134), (⟨"LevelUnitsModel", "placeIn", "(II)I"⟩, 134), (⟨"LevelUnitsModel", "wholeChain", "(I)V"⟩, 134), (⟨"LevelUnitsModel", "wholeAbove", "(I)I"⟩, 134), (⟨"LevelUnitsModel", "areAlike", "(II)Z"⟩, 134), (⟨"LevelUnitsModel", "pair", "(II)V"⟩, 134), (⟨"LevelUnitsModel", "joins", "()Z"⟩, 134), (⟨"LevelUnitsModel", "classOf", "(I)I"⟩, 134), (⟨"LevelUnitsModel", "partsPair", "(II)Z"⟩, 134), (⟨"LevelUnitsModel", "fieldsPair", "(II)Z"⟩, 134), (⟨"LevelUnitsModel", "signaturesPair", "(IIII)Z"⟩, 134), (⟨"LevelUnitsModel", "sameSets", "(II)Z"⟩, 134), (⟨"LevelUnitsModel", "setWithin", "(II)Z"⟩, 134), (⟨"LevelUnitsModel", "numberOf", "(I)I"⟩, 134), (⟨"LevelUnitsModel", "hasException", "(II)Z"⟩, 134), (⟨"LevelUnitsModel", "methodsPair", "(II)Z"⟩, 134)]
theorem lw_r18 : ∀ q ∈ lw_privs_18, lw_okq q := List.forall_mem_cons.mpr ⟨lw_p272, List.forall_mem_cons.mpr ⟨lw_p273, List.forall_mem_cons.mpr ⟨lw_p274, List.forall_mem_cons.mpr ⟨lw_p275, List.forall_mem_cons.mpr ⟨lw_p276, List.forall_mem_cons.mpr ⟨lw_p277, List.forall_mem_cons.mpr ⟨lw_p278, List.forall_mem_cons.mpr ⟨lw_p279, List.forall_mem_cons.mpr ⟨lw_p280, List.forall_mem_cons.mpr ⟨lw_p281, List.forall_mem_cons.mpr ⟨lw_p282, List.forall_mem_cons.mpr ⟨lw_p283, List.forall_mem_cons.mpr ⟨lw_p284, List.forall_mem_cons.mpr ⟨lw_p285, List.forall_mem_cons.mpr ⟨lw_p286, List.forall_mem_cons.mpr ⟨lw_p287, fun _ h => absurd h List.not_mem_nil⟩⟩⟩⟩⟩⟩⟩⟩⟩⟩⟩⟩⟩⟩⟩⟩
theorem lw_p288 : lw_okq (⟨"LevelUnitsModel", "within", "(II)Z"⟩, 134) := ⟨⟨by decide +kernel, by decide +kernel⟩, List.mem_of_getElem? (i := 2263) (by decide +kernel), List.mem_of_getElem? (i := 3196) (by decide +kernel), List.mem_of_getElem? (i := 3197) (by decide +kernel)⟩
theorem lw_p289 : lw_okq (⟨"LevelUnitsModel", "alikeSignatures", "(II)Z"⟩, 134) := ⟨⟨by decide +kernel, by decide +kernel⟩, List.mem_of_getElem? (i := 2263) (by decide +kernel), List.mem_of_getElem? (i := 3200) (by decide +kernel), List.mem_of_getElem? (i := 3201) (by decide +kernel)⟩
theorem lw_p290 : lw_okq (⟨"LevelUnitsModel", "alikeFrom", "(IIII)Z"⟩, 134) := ⟨⟨by decide +kernel, by decide +kernel⟩, List.mem_of_getElem? (i := 2263) (by decide +kernel), List.mem_of_getElem? (i := 3204) (by decide +kernel), List.mem_of_getElem? (i := 3205) (by decide +kernel)⟩
theorem lw_p291 : lw_okq (⟨"LevelUnitsModel", "memberRound", "(I)V"⟩, 134) := ⟨⟨by decide +kernel, by decide +kernel⟩, List.mem_of_getElem? (i := 2263) (by decide +kernel), List.mem_of_getElem? (i := 3208) (by decide +kernel), List.mem_of_getElem? (i := 3209) (by decide +kernel)⟩
theorem lw_p292 : lw_okq (⟨"LevelUnitsModel", "fits", "(IIII)Z"⟩, 134) := ⟨⟨by decide +kernel, by decide +kernel⟩, List.mem_of_getElem? (i := 2263) (by decide +kernel), List.mem_of_getElem? (i := 3212) (by decide +kernel), List.mem_of_getElem? (i := 3213) (by decide +kernel)⟩
theorem lw_p293 : lw_okq (⟨"LevelUnitsModel", "isBelow", "(III)Z"⟩, 134) := ⟨⟨by decide +kernel, by decide +kernel⟩, List.mem_of_getElem? (i := 2263) (by decide +kernel), List.mem_of_getElem? (i := 3216) (by decide +kernel), List.mem_of_getElem? (i := 3217) (by decide +kernel)⟩
theorem lw_p294 : lw_okq (⟨"LevelUnitsModel", "above", "(II)I"⟩, 134) := ⟨⟨by decide +kernel, by decide +kernel⟩, List.mem_of_getElem? (i := 2263) (by decide +kernel), List.mem_of_getElem? (i := 3220) (by decide +kernel), List.mem_of_getElem? (i := 3221) (by decide +kernel)⟩
theorem lw_p295 : lw_okq (⟨"LevelUnitsModel", "seesNode", "(II)Z"⟩, 134) := ⟨⟨by decide +kernel, by decide +kernel⟩, List.mem_of_getElem? (i := 2263) (by decide +kernel), List.mem_of_getElem? (i := 3224) (by decide +kernel), List.mem_of_getElem? (i := 3225) (by decide +kernel)⟩
theorem lw_p296 : lw_okq (⟨"LevelUnitsModel", "memberOf", "(III)I"⟩, 134) := ⟨⟨by decide +kernel, by decide +kernel⟩, List.mem_of_getElem? (i := 2263) (by decide +kernel), List.mem_of_getElem? (i := 3228) (by decide +kernel), List.mem_of_getElem? (i := 3229) (by decide +kernel)⟩
theorem lw_p297 : lw_okq (⟨"LevelUnitsModel", "statementRound", "()V"⟩, 134) := ⟨⟨by decide +kernel, by decide +kernel⟩, List.mem_of_getElem? (i := 2263) (by decide +kernel), List.mem_of_getElem? (i := 3232) (by decide +kernel), List.mem_of_getElem? (i := 3233) (by decide +kernel)⟩
theorem lw_p298 : lw_okq (⟨"LevelUnitsModel", "signatureOf", "(I)I"⟩, 134) := ⟨⟨by decide +kernel, by decide +kernel⟩, List.mem_of_getElem? (i := 2263) (by decide +kernel), List.mem_of_getElem? (i := 3236) (by decide +kernel), List.mem_of_getElem? (i := 3237) (by decide +kernel)⟩
theorem lw_p299 : lw_okq (⟨"LevelUnitsModel", "checkRow", "(I)V"⟩, 134) := ⟨⟨by decide +kernel, by decide +kernel⟩, List.mem_of_getElem? (i := 2263) (by decide +kernel), List.mem_of_getElem? (i := 3240) (by decide +kernel), List.mem_of_getElem? (i := 3241) (by decide +kernel)⟩
theorem lw_p300 : lw_okq (⟨"LevelUnitsModel", "check", "(I)V"⟩, 134) := ⟨⟨by decide +kernel, by decide +kernel⟩, List.mem_of_getElem? (i := 2263) (by decide +kernel), List.mem_of_getElem? (i := 3244) (by decide +kernel), List.mem_of_getElem? (i := 3245) (by decide +kernel)⟩
theorem lw_p301 : lw_okq (⟨"LevelUnitsModel", "target", "(I)I"⟩, 134) := ⟨⟨by decide +kernel, by decide +kernel⟩, List.mem_of_getElem? (i := 2263) (by decide +kernel), List.mem_of_getElem? (i := 3248) (by decide +kernel), List.mem_of_getElem? (i := 3249) (by decide +kernel)⟩
theorem lw_p302 : lw_okq (⟨"LevelUnitsModel", "typePlace", "(IZ)I"⟩, 134) := ⟨⟨by decide +kernel, by decide +kernel⟩, List.mem_of_getElem? (i := 2263) (by decide +kernel), List.mem_of_getElem? (i := 3252) (by decide +kernel), List.mem_of_getElem? (i := 3253) (by decide +kernel)⟩
theorem lw_p303 : lw_okq (⟨"LevelUnitsModel", "wanted", "(II)V"⟩, 134) := ⟨⟨by decide +kernel, by decide +kernel⟩, List.mem_of_getElem? (i := 2263) (by decide +kernel), List.mem_of_getElem? (i := 3256) (by decide +kernel), List.mem_of_getElem? (i := 3257) (by decide +kernel)⟩
def lw_privs_19 : List (MethodName × Nat) := [(⟨"LevelUnitsModel", "within", "(II)Z"⟩, 134), (⟨"LevelUnitsModel", "alikeSignatures", "(II)Z"⟩, 134), (⟨"LevelUnitsModel", "alikeFrom", "(IIII)Z"⟩, 134), (⟨"LevelUnitsModel", "memberRound", "(I)V"⟩, 134), (⟨"LevelUnitsModel", "fits", "(IIII)Z"⟩, 134), (⟨"LevelUnitsModel", "isBelow", "(III)Z"⟩, 134), (⟨"LevelUnitsModel", "above", "(II)I"⟩, 134), (⟨"LevelUnitsModel", "seesNode", "(II)Z"⟩, 134), (⟨"LevelUnitsModel", "memberOf", "(III)I"⟩, 134), (⟨"LevelUnitsModel", "statementRound", "()V"⟩, 134), (⟨"LevelUnitsModel", "signatureOf", "(I)I"⟩, 134), (⟨"LevelUnitsModel", "checkRow", "(I)V"⟩, 134), (⟨"LevelUnitsModel", "check", "(I)V"⟩, 134), (⟨"LevelUnitsModel", "target", "(I)I"⟩, 134), (⟨"LevelUnitsModel", "typePlace", "(IZ)I"⟩, 134), (⟨"LevelUnitsModel", "wanted", "(II)V"⟩, 134)]
theorem lw_r19 : ∀ q ∈ lw_privs_19, lw_okq q := List.forall_mem_cons.mpr ⟨lw_p288, List.forall_mem_cons.mpr ⟨lw_p289, List.forall_mem_cons.mpr ⟨lw_p290, List.forall_mem_cons.mpr ⟨lw_p291, List.forall_mem_cons.mpr ⟨lw_p292, List.forall_mem_cons.mpr ⟨lw_p293, List.forall_mem_cons.mpr ⟨lw_p294, List.forall_mem_cons.mpr ⟨lw_p295, List.forall_mem_cons.mpr ⟨lw_p296, List.forall_mem_cons.mpr ⟨lw_p297, List.forall_mem_cons.mpr ⟨lw_p298, List.forall_mem_cons.mpr ⟨lw_p299, List.forall_mem_cons.mpr ⟨lw_p300, List.forall_mem_cons.mpr ⟨lw_p301, List.forall_mem_cons.mpr ⟨lw_p302, List.forall_mem_cons.mpr ⟨lw_p303, fun _ h => absurd h List.not_mem_nil⟩⟩⟩⟩⟩⟩⟩⟩⟩⟩⟩⟩⟩⟩⟩⟩
theorem lw_p304 : lw_okq (⟨"LevelUnitsModel", "typeE", "(I)I"⟩, 134) := ⟨⟨by decide +kernel, by decide +kernel⟩, List.mem_of_getElem? (i := 2263) (by decide +kernel), List.mem_of_getElem? (i := 3260) (by decide +kernel), List.mem_of_getElem? (i := 3261) (by decide +kernel)⟩
theorem lw_p305 : lw_okq (⟨"LevelUnitsModel", "typeInE", "(I)I"⟩, 134) := ⟨⟨by decide +kernel, by decide +kernel⟩, List.mem_of_getElem? (i := 2263) (by decide +kernel), List.mem_of_getElem? (i := 3264) (by decide +kernel), List.mem_of_getElem? (i := 3265) (by decide +kernel)⟩
theorem lw_p306 : lw_okq (⟨"LevelUnitsModel", "wrong", "(II)I"⟩, 134) := ⟨⟨by decide +kernel, by decide +kernel⟩, List.mem_of_getElem? (i := 2263) (by decide +kernel), List.mem_of_getElem? (i := 3268) (by decide +kernel), List.mem_of_getElem? (i := 3269) (by decide +kernel)⟩
theorem lw_p307 : lw_okq (⟨"LevelUnitsModel", "objects", "(IIII)Z"⟩, 134) := ⟨⟨by decide +kernel, by decide +kernel⟩, List.mem_of_getElem? (i := 2263) (by decide +kernel), List.mem_of_getElem? (i := 3272) (by decide +kernel), List.mem_of_getElem? (i := 3273) (by decide +kernel)⟩
theorem lw_p308 : lw_okq (⟨"LevelUnitsModel", "chained", "(I)I"⟩, 134) := ⟨⟨by decide +kernel, by decide +kernel⟩, List.mem_of_getElem? (i := 2263) (by decide +kernel), List.mem_of_getElem? (i := 3276) (by decide +kernel), List.mem_of_getElem? (i := 3277) (by decide +kernel)⟩
theorem lw_p309 : lw_okq (⟨"LevelUnitsModel", "isKind", "(II)Z"⟩, 134) := ⟨⟨by decide +kernel, by decide +kernel⟩, List.mem_of_getElem? (i := 2263) (by decide +kernel), List.mem_of_getElem? (i := 3280) (by decide +kernel), List.mem_of_getElem? (i := 3281) (by decide +kernel)⟩
theorem lw_p310 : lw_okq (⟨"LevelUnitsModel", "isInteger", "(I)Z"⟩, 134) := ⟨⟨by decide +kernel, by decide +kernel⟩, List.mem_of_getElem? (i := 2263) (by decide +kernel), List.mem_of_getElem? (i := 3284) (by decide +kernel), List.mem_of_getElem? (i := 3285) (by decide +kernel)⟩
theorem lw_p311 : lw_okq (⟨"LevelUnitsModel", "relationType", "(I)I"⟩, 134) := ⟨⟨by decide +kernel, by decide +kernel⟩, List.mem_of_getElem? (i := 2263) (by decide +kernel), List.mem_of_getElem? (i := 3288) (by decide +kernel), List.mem_of_getElem? (i := 3289) (by decide +kernel)⟩
theorem lw_p312 : lw_okq (⟨"LevelUnitsModel", "isReference", "(I)Z"⟩, 134) := ⟨⟨by decide +kernel, by decide +kernel⟩, List.mem_of_getElem? (i := 2263) (by decide +kernel), List.mem_of_getElem? (i := 3292) (by decide +kernel), List.mem_of_getElem? (i := 3293) (by decide +kernel)⟩
theorem lw_p313 : lw_okq (⟨"LevelUnitsModel", "typeDot", "(IIIIZ)I"⟩, 134) := ⟨⟨by decide +kernel, by decide +kernel⟩, List.mem_of_getElem? (i := 2263) (by decide +kernel), List.mem_of_getElem? (i := 3296) (by decide +kernel), List.mem_of_getElem? (i := 3297) (by decide +kernel)⟩
theorem lw_p314 : lw_okq (⟨"LevelUnitsModel", "offsetIn", "(II)I"⟩, 134) := ⟨⟨by decide +kernel, by decide +kernel⟩, List.mem_of_getElem? (i := 2263) (by decide +kernel), List.mem_of_getElem? (i := 3300) (by decide +kernel), List.mem_of_getElem? (i := 3301) (by decide +kernel)⟩
theorem lw_p315 : lw_okq (⟨"LevelUnitsModel", "cellsAbove", "(I)I"⟩, 134) := ⟨⟨by decide +kernel, by decide +kernel⟩, List.mem_of_getElem? (i := 2263) (by decide +kernel), List.mem_of_getElem? (i := 3304) (by decide +kernel), List.mem_of_getElem? (i := 3305) (by decide +kernel)⟩
theorem lw_p316 : lw_okq (⟨"LevelUnitsModel", "fieldCells", "(I)I"⟩, 134) := ⟨⟨by decide +kernel, by decide +kernel⟩, List.mem_of_getElem? (i := 2263) (by decide +kernel), List.mem_of_getElem? (i := 3308) (by decide +kernel), List.mem_of_getElem? (i := 3309) (by decide +kernel)⟩
theorem lw_p317 : lw_okq (⟨"LevelUnitsModel", "levelOf", "(I)I"⟩, 134) := ⟨⟨by decide +kernel, by decide +kernel⟩, List.mem_of_getElem? (i := 2263) (by decide +kernel), List.mem_of_getElem? (i := 3312) (by decide +kernel), List.mem_of_getElem? (i := 3313) (by decide +kernel)⟩
theorem lw_p318 : lw_okq (⟨"LevelUnitsModel", "assignable", "(III)Z"⟩, 134) := ⟨⟨by decide +kernel, by decide +kernel⟩, List.mem_of_getElem? (i := 2263) (by decide +kernel), List.mem_of_getElem? (i := 3316) (by decide +kernel), List.mem_of_getElem? (i := 3317) (by decide +kernel)⟩
theorem lw_p319 : lw_okq (⟨"LevelUnitsModel", "calls", "(I)V"⟩, 134) := ⟨⟨by decide +kernel, by decide +kernel⟩, List.mem_of_getElem? (i := 2263) (by decide +kernel), List.mem_of_getElem? (i := 3320) (by decide +kernel), List.mem_of_getElem? (i := 3321) (by decide +kernel)⟩
def lw_privs_20 : List (MethodName × Nat) := [(⟨"LevelUnitsModel", "typeE", "(I)I"⟩, 134), (⟨"LevelUnitsModel", "typeInE", "(I)I"⟩, 134), (⟨"LevelUnitsModel", "wrong", "(II)I"⟩, 134), (⟨"LevelUnitsModel", "objects", "(IIII)Z"⟩, 134), (⟨"LevelUnitsModel", "chained", "(I)I"⟩, 134), (⟨"LevelUnitsModel", "isKind", "(II)Z"⟩, 134), (⟨"LevelUnitsModel", "isInteger", "(I)Z"⟩, 134), (⟨"LevelUnitsModel", "relationType", "(I)I"⟩, 134), (⟨"LevelUnitsModel", "isReference", "(I)Z"⟩, 134), (⟨"LevelUnitsModel", "typeDot", "(IIIIZ)I"⟩, 134), (⟨"LevelUnitsModel", "offsetIn", "(II)I"⟩, 134), (⟨"LevelUnitsModel", "cellsAbove", "(I)I"⟩, 134), (⟨"LevelUnitsModel", "fieldCells", "(I)I"⟩, 134), (⟨"LevelUnitsModel", "levelOf", "(I)I"⟩, 134), (⟨"LevelUnitsModel", "assignable", "(III)Z"⟩, 134), (⟨"LevelUnitsModel", "calls", "(I)V"⟩, 134)]
theorem lw_r20 : ∀ q ∈ lw_privs_20, lw_okq q := List.forall_mem_cons.mpr ⟨lw_p304, List.forall_mem_cons.mpr ⟨lw_p305, List.forall_mem_cons.mpr ⟨lw_p306, List.forall_mem_cons.mpr ⟨lw_p307, List.forall_mem_cons.mpr ⟨lw_p308, List.forall_mem_cons.mpr ⟨lw_p309, List.forall_mem_cons.mpr ⟨lw_p310, List.forall_mem_cons.mpr ⟨lw_p311, List.forall_mem_cons.mpr ⟨lw_p312, List.forall_mem_cons.mpr ⟨lw_p313, List.forall_mem_cons.mpr ⟨lw_p314, List.forall_mem_cons.mpr ⟨lw_p315, List.forall_mem_cons.mpr ⟨lw_p316, List.forall_mem_cons.mpr ⟨lw_p317, List.forall_mem_cons.mpr ⟨lw_p318, List.forall_mem_cons.mpr ⟨lw_p319, fun _ h => absurd h List.not_mem_nil⟩⟩⟩⟩⟩⟩⟩⟩⟩⟩⟩⟩⟩⟩⟩⟩
theorem lw_p320 : lw_okq (⟨"LevelUnitsModel", "parameters", "(III)V"⟩, 134) := ⟨⟨by decide +kernel, by decide +kernel⟩, List.mem_of_getElem? (i := 2263) (by decide +kernel), List.mem_of_getElem? (i := 3324) (by decide +kernel), List.mem_of_getElem? (i := 3325) (by decide +kernel)⟩
theorem lw_p321 : lw_okq (⟨"LevelUnitsModel", "inLoop", "(I)V"⟩, 134) := ⟨⟨by decide +kernel, by decide +kernel⟩, List.mem_of_getElem? (i := 2263) (by decide +kernel), List.mem_of_getElem? (i := 3328) (by decide +kernel), List.mem_of_getElem? (i := 3329) (by decide +kernel)⟩
theorem lw_p322 : lw_okq (⟨"LevelUnitsModel", "returns", "(I)V"⟩, 134) := ⟨⟨by decide +kernel, by decide +kernel⟩, List.mem_of_getElem? (i := 2263) (by decide +kernel), List.mem_of_getElem? (i := 3332) (by decide +kernel), List.mem_of_getElem? (i := 3333) (by decide +kernel)⟩
theorem lw_p323 : lw_okq (⟨"LevelUnitsModel", "typecaseCheck", "(I)V"⟩, 134) := ⟨⟨by decide +kernel, by decide +kernel⟩, List.mem_of_getElem? (i := 2263) (by decide +kernel), List.mem_of_getElem? (i := 3336) (by decide +kernel), List.mem_of_getElem? (i := 3337) (by decide +kernel)⟩
theorem lw_p324 : lw_okq (⟨"LevelUnitsModel", "exceptionRound", "()V"⟩, 134) := ⟨⟨by decide +kernel, by decide +kernel⟩, List.mem_of_getElem? (i := 2263) (by decide +kernel), List.mem_of_getElem? (i := 3340) (by decide +kernel), List.mem_of_getElem? (i := 3341) (by decide +kernel)⟩
theorem lw_p325 : lw_okq (⟨"LevelUnitsModel", "leaveRow", "(I)V"⟩, 134) := ⟨⟨by decide +kernel, by decide +kernel⟩, List.mem_of_getElem? (i := 2263) (by decide +kernel), List.mem_of_getElem? (i := 3344) (by decide +kernel), List.mem_of_getElem? (i := 3345) (by decide +kernel)⟩
theorem lw_p326 : lw_okq (⟨"LevelUnitsModel", "leaveStatement", "(I)V"⟩, 134) := ⟨⟨by decide +kernel, by decide +kernel⟩, List.mem_of_getElem? (i := 2263) (by decide +kernel), List.mem_of_getElem? (i := 3348) (by decide +kernel), List.mem_of_getElem? (i := 3349) (by decide +kernel)⟩
theorem lw_p327 : lw_okq (⟨"LevelUnitsModel", "leaves", "(II)V"⟩, 134) := ⟨⟨by decide +kernel, by decide +kernel⟩, List.mem_of_getElem? (i := 2263) (by decide +kernel), List.mem_of_getElem? (i := 3352) (by decide +kernel), List.mem_of_getElem? (i := 3353) (by decide +kernel)⟩
theorem lw_p328 : lw_okq (⟨"LevelUnitsModel", "handlerOf", "(II)I"⟩, 134) := ⟨⟨by decide +kernel, by decide +kernel⟩, List.mem_of_getElem? (i := 2263) (by decide +kernel), List.mem_of_getElem? (i := 3356) (by decide +kernel), List.mem_of_getElem? (i := 3357) (by decide +kernel)⟩
theorem lw_p329 : lw_okq (⟨"LevelUnitsModel", "layOut", "()V"⟩, 134) := ⟨⟨by decide +kernel, by decide +kernel⟩, List.mem_of_getElem? (i := 2263) (by decide +kernel), List.mem_of_getElem? (i := 3360) (by decide +kernel), List.mem_of_getElem? (i := 3361) (by decide +kernel)⟩
theorem lw_p330 : lw_okq (⟨"LevelUnitsModel", "layRow", "(II)V"⟩, 134) := ⟨⟨by decide +kernel, by decide +kernel⟩, List.mem_of_getElem? (i := 2263) (by decide +kernel), List.mem_of_getElem? (i := 3364) (by decide +kernel), List.mem_of_getElem? (i := 3365) (by decide +kernel)⟩
theorem lw_p331 : lw_okq (⟨"LevelUnitsModel", "layName", "(III)V"⟩, 134) := ⟨⟨by decide +kernel, by decide +kernel⟩, List.mem_of_getElem? (i := 2263) (by decide +kernel), List.mem_of_getElem? (i := 3368) (by decide +kernel), List.mem_of_getElem? (i := 3369) (by decide +kernel)⟩
theorem lw_p332 : lw_okq (⟨"LevelUnitsModel", "isTold", "(I)Z"⟩, 134) := ⟨⟨by decide +kernel, by decide +kernel⟩, List.mem_of_getElem? (i := 2263) (by decide +kernel), List.mem_of_getElem? (i := 3376) (by decide +kernel), List.mem_of_getElem? (i := 3377) (by decide +kernel)⟩
theorem lw_p333 : lw_okq (⟨"LevelUnitsModel", "toldType", "(I)I"⟩, 134) := ⟨⟨by decide +kernel, by decide +kernel⟩, List.mem_of_getElem? (i := 2263) (by decide +kernel), List.mem_of_getElem? (i := 3380) (by decide +kernel), List.mem_of_getElem? (i := 3381) (by decide +kernel)⟩
theorem lw_p334 : lw_okq (⟨"LevelUnitsModel", "leastAlike", "(I)I"⟩, 134) := ⟨⟨by decide +kernel, by decide +kernel⟩, List.mem_of_getElem? (i := 2263) (by decide +kernel), List.mem_of_getElem? (i := 3394) (by decide +kernel), List.mem_of_getElem? (i := 3395) (by decide +kernel)⟩
theorem lw_p335 : lw_okq (⟨"LevelUnitsModel", "fails", "(ZZ)Z"⟩, 134) := ⟨⟨by decide +kernel, by decide +kernel⟩, List.mem_of_getElem? (i := 2263) (by decide +kernel), List.mem_of_getElem? (i := 3406) (by decide +kernel), List.mem_of_getElem? (i := 3407) (by decide +kernel)⟩
def lw_privs_21 : List (MethodName × Nat) := [(⟨"LevelUnitsModel", "parameters", "(III)V"⟩, 134), (⟨"LevelUnitsModel", "inLoop", "(I)V"⟩, 134), (⟨"LevelUnitsModel", "returns", "(I)V"⟩, 134), (⟨"LevelUnitsModel", "typecaseCheck", "(I)V"⟩, 134), (⟨"LevelUnitsModel", "exceptionRound", "()V"⟩, 134), (⟨"LevelUnitsModel", "leaveRow", "(I)V"⟩, 134), (⟨"LevelUnitsModel", "leaveStatement", "(I)V"⟩, 134), (⟨"LevelUnitsModel", "leaves", "(II)V"⟩, 134), (⟨"LevelUnitsModel", "handlerOf", "(II)I"⟩, 134), (⟨"LevelUnitsModel", "layOut", "()V"⟩, 134), (⟨"LevelUnitsModel", "layRow", "(II)V"⟩, 134), (⟨"LevelUnitsModel", "layName", "(III)V"⟩, 134), (⟨"LevelUnitsModel", "isTold", "(I)Z"⟩, 134), (⟨"LevelUnitsModel", "toldType", "(I)I"⟩, 134), (⟨"LevelUnitsModel", "leastAlike", "(I)I"⟩, 134), (⟨"LevelUnitsModel", "fails", "(ZZ)Z"⟩, 134)]
theorem lw_r21 : ∀ q ∈ lw_privs_21, lw_okq q := List.forall_mem_cons.mpr ⟨lw_p320, List.forall_mem_cons.mpr ⟨lw_p321, List.forall_mem_cons.mpr ⟨lw_p322, List.forall_mem_cons.mpr ⟨lw_p323, List.forall_mem_cons.mpr ⟨lw_p324, List.forall_mem_cons.mpr ⟨lw_p325, List.forall_mem_cons.mpr ⟨lw_p326, List.forall_mem_cons.mpr ⟨lw_p327, List.forall_mem_cons.mpr ⟨lw_p328, List.forall_mem_cons.mpr ⟨lw_p329, List.forall_mem_cons.mpr ⟨lw_p330, List.forall_mem_cons.mpr ⟨lw_p331, List.forall_mem_cons.mpr ⟨lw_p332, List.forall_mem_cons.mpr ⟨lw_p333, List.forall_mem_cons.mpr ⟨lw_p334, List.forall_mem_cons.mpr ⟨lw_p335, fun _ h => absurd h List.not_mem_nil⟩⟩⟩⟩⟩⟩⟩⟩⟩⟩⟩⟩⟩⟩⟩⟩
theorem lw_p336 : lw_okq (⟨"LevelUnitsModel", "clear", "(II)I"⟩, 134) := ⟨⟨by decide +kernel, by decide +kernel⟩, List.mem_of_getElem? (i := 2263) (by decide +kernel), List.mem_of_getElem? (i := 3410) (by decide +kernel), List.mem_of_getElem? (i := 3411) (by decide +kernel)⟩
theorem lw_p337 : lw_okq (⟨"LevelUnitsModel", "initial", "(I)I"⟩, 134) := ⟨⟨by decide +kernel, by decide +kernel⟩, List.mem_of_getElem? (i := 2263) (by decide +kernel), List.mem_of_getElem? (i := 3414) (by decide +kernel), List.mem_of_getElem? (i := 3415) (by decide +kernel)⟩
theorem lw_p338 : lw_okq (⟨"LevelUnitsModel", "empty", "(I)V"⟩, 134) := ⟨⟨by decide +kernel, by decide +kernel⟩, List.mem_of_getElem? (i := 2263) (by decide +kernel), List.mem_of_getElem? (i := 3418) (by decide +kernel), List.mem_of_getElem? (i := 3419) (by decide +kernel)⟩
theorem lw_p339 : lw_okq (⟨"LevelUnitsModel", "push", "(IIIIII)V"⟩, 134) := ⟨⟨by decide +kernel, by decide +kernel⟩, List.mem_of_getElem? (i := 2263) (by decide +kernel), List.mem_of_getElem? (i := 3422) (by decide +kernel), List.mem_of_getElem? (i := 3423) (by decide +kernel)⟩
theorem lw_p340 : lw_okq (⟨"LevelUnitsModel", "entry", "()I"⟩, 134) := ⟨⟨by decide +kernel, by decide +kernel⟩, List.mem_of_getElem? (i := 2263) (by decide +kernel), List.mem_of_getElem? (i := 3426) (by decide +kernel), List.mem_of_getElem? (i := 3427) (by decide +kernel)⟩
theorem lw_p341 : lw_okq (⟨"LevelUnitsModel", "goesOn", "()V"⟩, 134) := ⟨⟨by decide +kernel, by decide +kernel⟩, List.mem_of_getElem? (i := 2263) (by decide +kernel), List.mem_of_getElem? (i := 3430) (by decide +kernel), List.mem_of_getElem? (i := 3431) (by decide +kernel)⟩
theorem lw_p342 : lw_okq (⟨"LevelUnitsModel", "isAhead", "()Z"⟩, 134) := ⟨⟨by decide +kernel, by decide +kernel⟩, List.mem_of_getElem? (i := 2263) (by decide +kernel), List.mem_of_getElem? (i := 3434) (by decide +kernel), List.mem_of_getElem? (i := 3435) (by decide +kernel)⟩
theorem lw_p343 : lw_okq (⟨"LevelUnitsModel", "further", "()V"⟩, 134) := ⟨⟨by decide +kernel, by decide +kernel⟩, List.mem_of_getElem? (i := 2263) (by decide +kernel), List.mem_of_getElem? (i := 3438) (by decide +kernel), List.mem_of_getElem? (i := 3439) (by decide +kernel)⟩
theorem lw_p344 : lw_okq (⟨"LevelUnitsModel", "ends", "(IIII)V"⟩, 134) := ⟨⟨by decide +kernel, by decide +kernel⟩, List.mem_of_getElem? (i := 2263) (by decide +kernel), List.mem_of_getElem? (i := 3442) (by decide +kernel), List.mem_of_getElem? (i := 3443) (by decide +kernel)⟩
theorem lw_p345 : lw_okq (⟨"LevelUnitsModel", "pop", "()V"⟩, 134) := ⟨⟨by decide +kernel, by decide +kernel⟩, List.mem_of_getElem? (i := 2263) (by decide +kernel), List.mem_of_getElem? (i := 3446) (by decide +kernel), List.mem_of_getElem? (i := 3447) (by decide +kernel)⟩
theorem lw_p346 : lw_okq (⟨"LevelUnitsModel", "row", "(I)V"⟩, 134) := ⟨⟨by decide +kernel, by decide +kernel⟩, List.mem_of_getElem? (i := 2263) (by decide +kernel), List.mem_of_getElem? (i := 3450) (by decide +kernel), List.mem_of_getElem? (i := 3451) (by decide +kernel)⟩
theorem lw_p347 : lw_okq (⟨"LevelUnitsModel", "leave", "(IIII)V"⟩, 134) := ⟨⟨by decide +kernel, by decide +kernel⟩, List.mem_of_getElem? (i := 2263) (by decide +kernel), List.mem_of_getElem? (i := 3454) (by decide +kernel), List.mem_of_getElem? (i := 3455) (by decide +kernel)⟩
theorem lw_p348 : lw_okq (⟨"LevelUnitsModel", "release", "(I)V"⟩, 134) := ⟨⟨by decide +kernel, by decide +kernel⟩, List.mem_of_getElem? (i := 2263) (by decide +kernel), List.mem_of_getElem? (i := 3458) (by decide +kernel), List.mem_of_getElem? (i := 3459) (by decide +kernel)⟩
theorem lw_p349 : lw_okq (⟨"LevelUnitsModel", "catches", "(III)Z"⟩, 134) := ⟨⟨by decide +kernel, by decide +kernel⟩, List.mem_of_getElem? (i := 2263) (by decide +kernel), List.mem_of_getElem? (i := 3462) (by decide +kernel), List.mem_of_getElem? (i := 3463) (by decide +kernel)⟩
theorem lw_p350 : lw_okq (⟨"LevelUnitsModel", "returned", "(I)V"⟩, 134) := ⟨⟨by decide +kernel, by decide +kernel⟩, List.mem_of_getElem? (i := 2263) (by decide +kernel), List.mem_of_getElem? (i := 3466) (by decide +kernel), List.mem_of_getElem? (i := 3467) (by decide +kernel)⟩
theorem lw_p351 : lw_okq (⟨"LevelUnitsModel", "leaveCall", "()I"⟩, 134) := ⟨⟨by decide +kernel, by decide +kernel⟩, List.mem_of_getElem? (i := 2263) (by decide +kernel), List.mem_of_getElem? (i := 3470) (by decide +kernel), List.mem_of_getElem? (i := 3471) (by decide +kernel)⟩
def lw_privs_22 : List (MethodName × Nat) := [(⟨"LevelUnitsModel", "clear", "(II)I"⟩, 134), (⟨"LevelUnitsModel", "initial", "(I)I"⟩, 134), (⟨"LevelUnitsModel", "empty", "(I)V"⟩, 134), (⟨"LevelUnitsModel", "push", "(IIIIII)V"⟩, 134), (⟨"LevelUnitsModel", "entry", "()I"⟩, 134), (⟨"LevelUnitsModel", "goesOn", "()V"⟩, 134), (⟨"LevelUnitsModel", "isAhead", "()Z"⟩, 134), (⟨"LevelUnitsModel", "further", "()V"⟩, 134), (⟨"LevelUnitsModel", "ends", "(IIII)V"⟩, 134), (⟨"LevelUnitsModel", "pop", "()V"⟩, 134), (⟨"LevelUnitsModel", "row", "(I)V"⟩, 134), (⟨"LevelUnitsModel", "leave", "(IIII)V"⟩, 134), (⟨"LevelUnitsModel", "release", "(I)V"⟩, 134), (⟨"LevelUnitsModel", "catches", "(III)Z"⟩, 134), (⟨"LevelUnitsModel", "returned", "(I)V"⟩, 134), (⟨"LevelUnitsModel", "leaveCall", "()I"⟩, 134)]
theorem lw_r22 : ∀ q ∈ lw_privs_22, lw_okq q := List.forall_mem_cons.mpr ⟨lw_p336, List.forall_mem_cons.mpr ⟨lw_p337, List.forall_mem_cons.mpr ⟨lw_p338, List.forall_mem_cons.mpr ⟨lw_p339, List.forall_mem_cons.mpr ⟨lw_p340, List.forall_mem_cons.mpr ⟨lw_p341, List.forall_mem_cons.mpr ⟨lw_p342, List.forall_mem_cons.mpr ⟨lw_p343, List.forall_mem_cons.mpr ⟨lw_p344, List.forall_mem_cons.mpr ⟨lw_p345, List.forall_mem_cons.mpr ⟨lw_p346, List.forall_mem_cons.mpr ⟨lw_p347, List.forall_mem_cons.mpr ⟨lw_p348, List.forall_mem_cons.mpr ⟨lw_p349, List.forall_mem_cons.mpr ⟨lw_p350, List.forall_mem_cons.mpr ⟨lw_p351, fun _ h => absurd h List.not_mem_nil⟩⟩⟩⟩⟩⟩⟩⟩⟩⟩⟩⟩⟩⟩⟩⟩
theorem lw_p352 : lw_okq (⟨"LevelUnitsModel", "held", "(II)V"⟩, 134) := ⟨⟨by decide +kernel, by decide +kernel⟩, List.mem_of_getElem? (i := 2263) (by decide +kernel), List.mem_of_getElem? (i := 3474) (by decide +kernel), List.mem_of_getElem? (i := 3475) (by decide +kernel)⟩
theorem lw_p353 : lw_okq (⟨"LevelUnitsModel", "fail", "(I)V"⟩, 134) := ⟨⟨by decide +kernel, by decide +kernel⟩, List.mem_of_getElem? (i := 2263) (by decide +kernel), List.mem_of_getElem? (i := 3478) (by decide +kernel), List.mem_of_getElem? (i := 3479) (by decide +kernel)⟩
theorem lw_p354 : lw_okq (⟨"LevelUnitsModel", "isOf", "(II)Z"⟩, 134) := ⟨⟨by decide +kernel, by decide +kernel⟩, List.mem_of_getElem? (i := 2263) (by decide +kernel), List.mem_of_getElem? (i := 3482) (by decide +kernel), List.mem_of_getElem? (i := 3483) (by decide +kernel)⟩
theorem lw_p355 : lw_okq (⟨"LevelUnitsModel", "ready", "()I"⟩, 134) := ⟨⟨by decide +kernel, by decide +kernel⟩, List.mem_of_getElem? (i := 2263) (by decide +kernel), List.mem_of_getElem? (i := 3490) (by decide +kernel), List.mem_of_getElem? (i := 3491) (by decide +kernel)⟩
theorem lw_p356 : lw_okq (⟨"LevelUnitsModel", "isReady", "(I)Z"⟩, 134) := ⟨⟨by decide +kernel, by decide +kernel⟩, List.mem_of_getElem? (i := 2263) (by decide +kernel), List.mem_of_getElem? (i := 3494) (by decide +kernel), List.mem_of_getElem? (i := 3495) (by decide +kernel)⟩
theorem lw_p357 : lw_okq (⟨"LevelUnitsModel", "step", "()V"⟩, 134) := ⟨⟨by decide +kernel, by decide +kernel⟩, List.mem_of_getElem? (i := 2263) (by decide +kernel), List.mem_of_getElem? (i := 3499) (by decide +kernel), List.mem_of_getElem? (i := 3500) (by decide +kernel)⟩
theorem lw_p358 : lw_okq (⟨"LevelUnitsModel", "nextStatement", "()V"⟩, 134) := ⟨⟨by decide +kernel, by decide +kernel⟩, List.mem_of_getElem? (i := 2263) (by decide +kernel), List.mem_of_getElem? (i := 3503) (by decide +kernel), List.mem_of_getElem? (i := 3504) (by decide +kernel)⟩
theorem lw_p359 : lw_okq (⟨"LevelUnitsModel", "locked", "(II)V"⟩, 134) := ⟨⟨by decide +kernel, by decide +kernel⟩, List.mem_of_getElem? (i := 2263) (by decide +kernel), List.mem_of_getElem? (i := 3507) (by decide +kernel), List.mem_of_getElem? (i := 3508) (by decide +kernel)⟩
theorem lw_p360 : lw_okq (⟨"LevelUnitsModel", "does", "(I)V"⟩, 134) := ⟨⟨by decide +kernel, by decide +kernel⟩, List.mem_of_getElem? (i := 2263) (by decide +kernel), List.mem_of_getElem? (i := 3511) (by decide +kernel), List.mem_of_getElem? (i := 3512) (by decide +kernel)⟩
theorem lw_p361 : lw_okq (⟨"LevelUnitsModel", "assign", "(I)V"⟩, 134) := ⟨⟨by decide +kernel, by decide +kernel⟩, List.mem_of_getElem? (i := 2263) (by decide +kernel), List.mem_of_getElem? (i := 3515) (by decide +kernel), List.mem_of_getElem? (i := 3516) (by decide +kernel)⟩
theorem lw_p362 : lw_okq (⟨"LevelUnitsModel", "place", "(I)I"⟩, 134) := ⟨⟨by decide +kernel, by decide +kernel⟩, List.mem_of_getElem? (i := 2263) (by decide +kernel), List.mem_of_getElem? (i := 3519) (by decide +kernel), List.mem_of_getElem? (i := 3520) (by decide +kernel)⟩
theorem lw_p363 : lw_okq (⟨"LevelUnitsModel", "behind", "(III)I"⟩, 134) := ⟨⟨by decide +kernel, by decide +kernel⟩, List.mem_of_getElem? (i := 2263) (by decide +kernel), List.mem_of_getElem? (i := 3523) (by decide +kernel), List.mem_of_getElem? (i := 3524) (by decide +kernel)⟩
theorem lw_p364 : lw_okq (⟨"LevelUnitsModel", "eval", "(I)I"⟩, 134) := ⟨⟨by decide +kernel, by decide +kernel⟩, List.mem_of_getElem? (i := 2263) (by decide +kernel), List.mem_of_getElem? (i := 3527) (by decide +kernel), List.mem_of_getElem? (i := 3528) (by decide +kernel)⟩
theorem lw_p365 : lw_okq (⟨"LevelUnitsModel", "create", "(I)I"⟩, 134) := ⟨⟨by decide +kernel, by decide +kernel⟩, List.mem_of_getElem? (i := 2263) (by decide +kernel), List.mem_of_getElem? (i := 3531) (by decide +kernel), List.mem_of_getElem? (i := 3532) (by decide +kernel)⟩
theorem lw_p366 : lw_okq (⟨"LevelUnitsModel", "clearObject", "(II)V"⟩, 134) := ⟨⟨by decide +kernel, by decide +kernel⟩, List.mem_of_getElem? (i := 2263) (by decide +kernel), List.mem_of_getElem? (i := 3535) (by decide +kernel), List.mem_of_getElem? (i := 3536) (by decide +kernel)⟩
theorem lw_p367 : lw_okq (⟨"LevelUnitsModel", "clearFields", "(II)I"⟩, 134) := ⟨⟨by decide +kernel, by decide +kernel⟩, List.mem_of_getElem? (i := 2263) (by decide +kernel), List.mem_of_getElem? (i := 3539) (by decide +kernel), List.mem_of_getElem? (i := 3540) (by decide +kernel)⟩
def lw_privs_23 : List (MethodName × Nat) := [(⟨"LevelUnitsModel", "held", "(II)V"⟩, 134), (⟨"LevelUnitsModel", "fail", "(I)V"⟩, 134), (⟨"LevelUnitsModel", "isOf", "(II)Z"⟩, 134), (⟨"LevelUnitsModel", "ready", "()I"⟩, 134), (⟨"LevelUnitsModel", "isReady", "(I)Z"⟩, 134), (⟨"LevelUnitsModel", "step", "()V"⟩, 134), (⟨"LevelUnitsModel", "nextStatement", "()V"⟩, 134), (⟨"LevelUnitsModel", "locked", "(II)V"⟩, 134), (⟨"LevelUnitsModel", "does", "(I)V"⟩, 134), (⟨"LevelUnitsModel", "assign", "(I)V"⟩, 134), (⟨"LevelUnitsModel", "place", "(I)I"⟩, 134), (⟨"LevelUnitsModel", "behind", "(III)I"⟩, 134), (⟨"LevelUnitsModel", "eval", "(I)I"⟩, 134), (⟨"LevelUnitsModel", "create", "(I)I"⟩, 134), (⟨"LevelUnitsModel", "clearObject", "(II)V"⟩, 134), (⟨"LevelUnitsModel", "clearFields", "(II)I"⟩, 134)]
theorem lw_r23 : ∀ q ∈ lw_privs_23, lw_okq q := List.forall_mem_cons.mpr ⟨lw_p352, List.forall_mem_cons.mpr ⟨lw_p353, List.forall_mem_cons.mpr ⟨lw_p354, List.forall_mem_cons.mpr ⟨lw_p355, List.forall_mem_cons.mpr ⟨lw_p356, List.forall_mem_cons.mpr ⟨lw_p357, List.forall_mem_cons.mpr ⟨lw_p358, List.forall_mem_cons.mpr ⟨lw_p359, List.forall_mem_cons.mpr ⟨lw_p360, List.forall_mem_cons.mpr ⟨lw_p361, List.forall_mem_cons.mpr ⟨lw_p362, List.forall_mem_cons.mpr ⟨lw_p363, List.forall_mem_cons.mpr ⟨lw_p364, List.forall_mem_cons.mpr ⟨lw_p365, List.forall_mem_cons.mpr ⟨lw_p366, List.forall_mem_cons.mpr ⟨lw_p367, fun _ h => absurd h List.not_mem_nil⟩⟩⟩⟩⟩⟩⟩⟩⟩⟩⟩⟩⟩⟩⟩⟩
theorem lw_p368 : lw_okq (⟨"LevelUnitsModel", "reckon", "(III)I"⟩, 134) := ⟨⟨by decide +kernel, by decide +kernel⟩, List.mem_of_getElem? (i := 2263) (by decide +kernel), List.mem_of_getElem? (i := 3543) (by decide +kernel), List.mem_of_getElem? (i := 3544) (by decide +kernel)⟩
theorem lw_p369 : lw_okq (⟨"LevelUnitsModel", "isWide", "(I)Z"⟩, 134) := ⟨⟨by decide +kernel, by decide +kernel⟩, List.mem_of_getElem? (i := 2263) (by decide +kernel), List.mem_of_getElem? (i := 3553) (by decide +kernel), List.mem_of_getElem? (i := 3554) (by decide +kernel)⟩
theorem lw_p370 : lw_okq (⟨"LevelUnitsModel", "begins", "(I)V"⟩, 134) := ⟨⟨by decide +kernel, by decide +kernel⟩, List.mem_of_getElem? (i := 2263) (by decide +kernel), List.mem_of_getElem? (i := 3558) (by decide +kernel), List.mem_of_getElem? (i := 3559) (by decide +kernel)⟩
theorem lw_p371 : lw_okq (⟨"LevelUnitsModel", "methodPlace", "(II)I"⟩, 134) := ⟨⟨by decide +kernel, by decide +kernel⟩, List.mem_of_getElem? (i := 2263) (by decide +kernel), List.mem_of_getElem? (i := 3562) (by decide +kernel), List.mem_of_getElem? (i := 3563) (by decide +kernel)⟩
theorem lw_p372 : lw_okq (⟨"LevelUnitsModel", "methodOf", "(III)I"⟩, 134) := ⟨⟨by decide +kernel, by decide +kernel⟩, List.mem_of_getElem? (i := 2263) (by decide +kernel), List.mem_of_getElem? (i := 3566) (by decide +kernel), List.mem_of_getElem? (i := 3567) (by decide +kernel)⟩
theorem lw_p373 : lw_okq (⟨"LevelUnitsModel", "parameter", "(II)I"⟩, 134) := ⟨⟨by decide +kernel, by decide +kernel⟩, List.mem_of_getElem? (i := 2263) (by decide +kernel), List.mem_of_getElem? (i := 3570) (by decide +kernel), List.mem_of_getElem? (i := 3571) (by decide +kernel)⟩
theorem lw_p374 : lw_okq (⟨"LevelUnitsModel", "fork", "(III)V"⟩, 134) := ⟨⟨by decide +kernel, by decide +kernel⟩, List.mem_of_getElem? (i := 2263) (by decide +kernel), List.mem_of_getElem? (i := 3574) (by decide +kernel), List.mem_of_getElem? (i := 3575) (by decide +kernel)⟩
theorem lw_p375 : lw_okq (⟨"LevelUnitsModel", "makeRoom", "()V"⟩, 134) := ⟨⟨by decide +kernel, by decide +kernel⟩, List.mem_of_getElem? (i := 2263) (by decide +kernel), List.mem_of_getElem? (i := 3578) (by decide +kernel), List.mem_of_getElem? (i := 3579) (by decide +kernel)⟩
theorem lw_p376 : lw_okq (⟨"LevelUnitsModel", "frame", "(I)V"⟩, 134) := ⟨⟨by decide +kernel, by decide +kernel⟩, List.mem_of_getElem? (i := 2263) (by decide +kernel), List.mem_of_getElem? (i := 3582) (by decide +kernel), List.mem_of_getElem? (i := 3583) (by decide +kernel)⟩
theorem lw_p377 : lw_okq (⟨"LevelUnitsModel", "enter", "(III)V"⟩, 134) := ⟨⟨by decide +kernel, by decide +kernel⟩, List.mem_of_getElem? (i := 2263) (by decide +kernel), List.mem_of_getElem? (i := 3586) (by decide +kernel), List.mem_of_getElem? (i := 3587) (by decide +kernel)⟩
theorem lw_p378 : lw_okq (⟨"LevelUnitsModel", "procedureOfCall", "()I"⟩, 134) := ⟨⟨by decide +kernel, by decide +kernel⟩, List.mem_of_getElem? (i := 2263) (by decide +kernel), List.mem_of_getElem? (i := 3590) (by decide +kernel), List.mem_of_getElem? (i := 3591) (by decide +kernel)⟩
theorem lw_p379 : lw_okq (⟨"LevelUnitsModel", "meets", "(I)V"⟩, 134) := ⟨⟨by decide +kernel, by decide +kernel⟩, List.mem_of_getElem? (i := 2263) (by decide +kernel), List.mem_of_getElem? (i := 3594) (by decide +kernel), List.mem_of_getElem? (i := 3595) (by decide +kernel)⟩
theorem lw_p380 : lw_okq (⟨"LevelUnitsModel", "there", "(I)I"⟩, 134) := ⟨⟨by decide +kernel, by decide +kernel⟩, List.mem_of_getElem? (i := 2263) (by decide +kernel), List.mem_of_getElem? (i := 3598) (by decide +kernel), List.mem_of_getElem? (i := 3599) (by decide +kernel)⟩
theorem lw_p381 : lw_okq (⟨"LevelUnitsModel", "waits", "(III)V"⟩, 134) := ⟨⟨by decide +kernel, by decide +kernel⟩, List.mem_of_getElem? (i := 2263) (by decide +kernel), List.mem_of_getElem? (i := 3602) (by decide +kernel), List.mem_of_getElem? (i := 3603) (by decide +kernel)⟩
theorem lw_p382 : lw_okq (⟨"LevelUnitsModel", "signal", "(IZ)V"⟩, 134) := ⟨⟨by decide +kernel, by decide +kernel⟩, List.mem_of_getElem? (i := 2263) (by decide +kernel), List.mem_of_getElem? (i := 3606) (by decide +kernel), List.mem_of_getElem? (i := 3607) (by decide +kernel)⟩
theorem lw_p383 : lw_okq (⟨"LevelUnitsModel", "typecaseStep", "(I)V"⟩, 134) := ⟨⟨by decide +kernel, by decide +kernel⟩, List.mem_of_getElem? (i := 2263) (by decide +kernel), List.mem_of_getElem? (i := 3610) (by decide +kernel), List.mem_of_getElem? (i := 3611) (by decide +kernel)⟩
def lw_privs_24 : List (MethodName × Nat) := [(⟨"LevelUnitsModel", "reckon", "(III)I"⟩, 134), (⟨"LevelUnitsModel", "isWide", "(I)Z"⟩, 134), (⟨"LevelUnitsModel", "begins", "(I)V"⟩, 134), (⟨"LevelUnitsModel", "methodPlace", "(II)I"⟩, 134), (⟨"LevelUnitsModel", "methodOf", "(III)I"⟩, 134), (⟨"LevelUnitsModel", "parameter", "(II)I"⟩, 134), (⟨"LevelUnitsModel", "fork", "(III)V"⟩, 134), (⟨"LevelUnitsModel", "makeRoom", "()V"⟩, 134), (⟨"LevelUnitsModel", "frame", "(I)V"⟩, 134), (⟨"LevelUnitsModel", "enter", "(III)V"⟩, 134), (⟨"LevelUnitsModel", "procedureOfCall", "()I"⟩, 134), (⟨"LevelUnitsModel", "meets", "(I)V"⟩, 134), (⟨"LevelUnitsModel", "there", "(I)I"⟩, 134), (⟨"LevelUnitsModel", "waits", "(III)V"⟩, 134), (⟨"LevelUnitsModel", "signal", "(IZ)V"⟩, 134), (⟨"LevelUnitsModel", "typecaseStep", "(I)V"⟩, 134)]
theorem lw_r24 : ∀ q ∈ lw_privs_24, lw_okq q := List.forall_mem_cons.mpr ⟨lw_p368, List.forall_mem_cons.mpr ⟨lw_p369, List.forall_mem_cons.mpr ⟨lw_p370, List.forall_mem_cons.mpr ⟨lw_p371, List.forall_mem_cons.mpr ⟨lw_p372, List.forall_mem_cons.mpr ⟨lw_p373, List.forall_mem_cons.mpr ⟨lw_p374, List.forall_mem_cons.mpr ⟨lw_p375, List.forall_mem_cons.mpr ⟨lw_p376, List.forall_mem_cons.mpr ⟨lw_p377, List.forall_mem_cons.mpr ⟨lw_p378, List.forall_mem_cons.mpr ⟨lw_p379, List.forall_mem_cons.mpr ⟨lw_p380, List.forall_mem_cons.mpr ⟨lw_p381, List.forall_mem_cons.mpr ⟨lw_p382, List.forall_mem_cons.mpr ⟨lw_p383, fun _ h => absurd h List.not_mem_nil⟩⟩⟩⟩⟩⟩⟩⟩⟩⟩⟩⟩⟩⟩⟩⟩
theorem lw_p384 : lw_okq (⟨"LevelUnitsModel", "again", "(II)V"⟩, 134) := ⟨⟨by decide +kernel, by decide +kernel⟩, List.mem_of_getElem? (i := 2263) (by decide +kernel), List.mem_of_getElem? (i := 3614) (by decide +kernel), List.mem_of_getElem? (i := 3615) (by decide +kernel)⟩
theorem lw_p385 : lw_okq (⟨"LevelUnitsModel", "counted", "(I)I"⟩, 134) := ⟨⟨by decide +kernel, by decide +kernel⟩, List.mem_of_getElem? (i := 2263) (by decide +kernel), List.mem_of_getElem? (i := 3622) (by decide +kernel), List.mem_of_getElem? (i := 3623) (by decide +kernel)⟩
def lw_privs_25 : List (MethodName × Nat) := [(⟨"LevelUnitsModel", "again", "(II)V"⟩, 134), (⟨"LevelUnitsModel", "counted", "(I)I"⟩, 134)]
theorem lw_r25 : ∀ q ∈ lw_privs_25, lw_okq q := List.forall_mem_cons.mpr ⟨lw_p384, List.forall_mem_cons.mpr ⟨lw_p385, fun _ h => absurd h List.not_mem_nil⟩⟩
def lw_privs : List (MethodName × Nat) := lw_privs_1 ++ (lw_privs_2 ++ (lw_privs_3 ++ (lw_privs_4 ++ (lw_privs_5 ++ (lw_privs_6 ++ (lw_privs_7 ++ (lw_privs_8 ++ (lw_privs_9 ++ (lw_privs_10 ++ (lw_privs_11 ++ (lw_privs_12 ++ (lw_privs_13 ++ (lw_privs_14 ++ (lw_privs_15 ++ (lw_privs_16 ++ (lw_privs_17 ++ (lw_privs_18 ++ (lw_privs_19 ++ (lw_privs_20 ++ (lw_privs_21 ++ (lw_privs_22 ++ (lw_privs_23 ++ (lw_privs_24 ++ (lw_privs_25))))))))))))))))))))))))
def lw_tbl : List Cond := k2_sels lw_privs ++ tables_1
theorem lw_privs_ok : ∀ q ∈ lw_privs, lw_okq q := by
  show ∀ q ∈ lw_privs_1 ++ (lw_privs_2 ++ (lw_privs_3 ++ (lw_privs_4 ++ (lw_privs_5 ++ (lw_privs_6 ++ (lw_privs_7 ++ (lw_privs_8 ++ (lw_privs_9 ++ (lw_privs_10 ++ (lw_privs_11 ++ (lw_privs_12 ++ (lw_privs_13 ++ (lw_privs_14 ++ (lw_privs_15 ++ (lw_privs_16 ++ (lw_privs_17 ++ (lw_privs_18 ++ (lw_privs_19 ++ (lw_privs_20 ++ (lw_privs_21 ++ (lw_privs_22 ++ (lw_privs_23 ++ (lw_privs_24 ++ (lw_privs_25)))))))))))))))))))))))), lw_okq q
  exact List.forall_mem_append.mpr ⟨lw_r1, List.forall_mem_append.mpr ⟨lw_r2, List.forall_mem_append.mpr ⟨lw_r3, List.forall_mem_append.mpr ⟨lw_r4, List.forall_mem_append.mpr ⟨lw_r5, List.forall_mem_append.mpr ⟨lw_r6, List.forall_mem_append.mpr ⟨lw_r7, List.forall_mem_append.mpr ⟨lw_r8, List.forall_mem_append.mpr ⟨lw_r9, List.forall_mem_append.mpr ⟨lw_r10, List.forall_mem_append.mpr ⟨lw_r11, List.forall_mem_append.mpr ⟨lw_r12, List.forall_mem_append.mpr ⟨lw_r13, List.forall_mem_append.mpr ⟨lw_r14, List.forall_mem_append.mpr ⟨lw_r15, List.forall_mem_append.mpr ⟨lw_r16, List.forall_mem_append.mpr ⟨lw_r17, List.forall_mem_append.mpr ⟨lw_r18, List.forall_mem_append.mpr ⟨lw_r19, List.forall_mem_append.mpr ⟨lw_r20, List.forall_mem_append.mpr ⟨lw_r21, List.forall_mem_append.mpr ⟨lw_r22, List.forall_mem_append.mpr ⟨lw_r23, List.forall_mem_append.mpr ⟨lw_r24, lw_r25⟩⟩⟩⟩⟩⟩⟩⟩⟩⟩⟩⟩⟩⟩⟩⟩⟩⟩⟩⟩⟩⟩⟩⟩
end
section
/-! ===== BEGIN exceptions that leave a method, and their catching by the caller (launches without stack traces) ===== -/
section VXA
/-! The laws vx_back, vx_callV, vx_callS, vx_callSW, vx_throw0, vx_throwS follow proofs of the library, with one case more: JvmDerived/Free/Laws.lean (Back.of_free), Shelf42/LK1.lean (callV, callS), Shelf/KitTraced.lean (throwNew0V, throwNewS). -/
/-- where a method has thrown q: the class by its name, the cell, what was written, the world -/
def vx_T (XC : String → State → State → Prop) (st : State) (q : Addr) (t : State) (mc ms : Nat) (free : Addr → Prop) : Prop :=
  ∃ (E : String) (ce : Cell) (L : List Loc), XC E st t ∧ t.heap[q]? = some ce ∧ ce.vm = .none ∧ st.vm.findClass E = some ce.cls ∧ st.WarmedH t.vm ∧ st.sameButNew ({ t with vm := st.vm } : State) L mc ms ∧ ∀ z ∈ L, free z.base
def vx_Q (Qc : Array Value → State → Outcome → State → Prop) (XC : String → State → State → Prop) (mc ms : Nat) (free : Addr → Prop) : Array Value → State → Outcome → State → Prop := fun a st o t =>
  (Qc a st o t ∧ ∃ L, FrameEnd st o t L mc ms ∧ ∀ q ∈ L, free q.base) ∨ ∃ q, o = .threw q ∧ vx_T XC st q t mc ms free
/-- a callee that returns or throws -/
def vx_Met (l : Launch) (y : MethodName) (ws : List Cond) (rm : Room) (Pc : Array Value → State → Prop) (Qc : Array Value → State → Outcome → State → Prop) (XC : String → State → State → Prop) (mc ms : Nat) (free : Addr → Prop) : Prop :=
  MetFree l y (headSpec ws rm) Pc (fun _ _ _ _ _ => True) (vx_Q Qc XC mc ms free)
def vx_Post (XC : String → State → State → Prop) (mc ms : Nat) (free : Addr → Prop) : Pt → Array Value → Addr → Pt → Prop := fun A a q B =>
  ∃ (g : JFrame) (mk : MethodId) (t : State) (L : List Loc) (E : String) (ce : Cell), B.U.heap = t.heap ∧ B.U.vm = t.vm ∧ XC E (A.U.calling g mk a) t ∧ t.heap[q]? = some ce ∧ ce.vm = .none ∧ A.U.vm.findClass E = some ce.cls ∧ B.locs = A.locs ++ L ∧ (∀ z ∈ L, free z.base) ∧ B.cells = A.cells + mc ∧ B.slots = A.slots + ms
def vx_Back (l : Launch) (R : Room) (p : Program) (e : Env) (below : List Frame) (s : State) (sargs : Array Value) (y : MethodName) (len W9 : Nat)
    (Pre : Pt → Array Value → Prop) (Post : Pt → Array Value → Option Value → Pt → Prop) (PostX : Pt → Array Value → Addr → Pt → Prop) : Prop :=
  ∀ (m : MethodId) (meth : Method) (c : Code) (A : Pt) (g : JFrame) (ig : Instr) (mk : MethodId) (a : Array Value),
    Stand p l e R s m sargs below meth c A.U A.locs A.cells A.slots → g.method = m → g.locals.size = c.maxLocals → decode c.code g.pc = .ok (ig, len) →
    2 * g.monitorRoom + (g.stack.map fun v => v.category).sum ≤ W9 → A.U.methodNamed? y = some mk → Pre A a →
    (∃ (v : Option Value) (B : Pt), Stand p l e R s m sargs below meth c B.U B.locs B.cells B.slots ∧ Post A a v B ∧
      Steps p.tables e below (doInvoke e (A.U.setTop g) [] mk a).1 (B.U.setTop { g with pc := g.pc + len, stack := v.toList ++ g.stack })) ∨
    (∃ (q : Addr) (B : Pt), Stand p l e R s m sargs below meth c B.U B.locs B.cells B.slots ∧ PostX A a q B ∧
      Steps p.tables e below (doInvoke e (A.U.setTop g) [] mk a).1 ((B.U.setTop g).pushFrame (.throwing q)))
section Payer
variable {l : Launch} {R : Room} {p : Program} {e : Env} {below : List Frame} {s : State} {sargs : Array Value} {y : MethodName} {len W9 : Nat}
theorem vx_back {ws : List Cond} {rm : Room} {Pc : Array Value → State → Prop} {Qc : Array Value → State → Outcome → State → Prop} {XC : String → State → State → Prop} {mc ms : Nat} {free : Addr → Prop} {bytes : ByteArray} {maxL : Nat} {ret : Option FieldType}
    (hM : vx_Met l y ws rm Pc Qc XC mc ms free) (hblind : FrameBlind Pc) (hrc : rm.cells = mc) (hrs : rm.slots = ms)
    (hframes : rm.frames + 1 ≤ R.frames) (hlocals : W9 + (maxL + 11) + rm.locals ≤ R.locals)
    (hws : ∀ w ∈ ws, ∀ a' U, s.WarmedH U.vm → w.before a' U = true) (hcode : Cond.code y bytes maxL ret ∈ ws) (hinit : ∀ a' U, s.WarmedH U.vm → (Cond.initialized y.cls).before a' U = true) :
    vx_Back l R p e below s sargs y len W9 (PreOf R mc ms Pc) (PostOf Qc mc ms free) (vx_Post XC mc ms free) := by
  intro m meth c A g ig mk a X hg hsize hdg hW hn hp
  have h1 : (headSpec ws rm).pre.before a A.U = true := atoms_intro fun w hw => hws w hw _ _ X.warmed
  have h2 : (Cond.code y bytes maxL ret).before a A.U = true := hws _ hcode _ _ X.warmed
  have h3 : (Cond.initialized y.cls).before a A.U = true := hinit _ _ X.warmed
  have h4 : A.cells + (headSpec ws rm).room.cells ≤ R.cells := by rw [show (headSpec ws rm).room.cells = mc from hrc]; exact hp.1
  have h5 : A.slots + (headSpec ws rm).room.slots ≤ R.slots := by rw [show (headSpec ws rm).room.slots = ms from hrs]; exact hp.2.1
  have hPc : Pc a (A.U.calling g mk a) := hblind _ _ _ _ hp.2.2
  obtain ⟨U, Ls, c0, s0⟩ := A
  dsimp only [Pt.U, Pt.locs, Pt.cells, Pt.slots] at h1 h2 h3 h4 h5 X hn hPc ⊢
  obtain ⟨methY, cY, hmY, hcY, -, hlY, -, -, -, -⟩ := Cond.code_spec hn h2
  obtain ⟨kY, hkY, -⟩ := className_of_methodNamed hn
  have hinitY : kY.init = .initialized := Cond.initialized_spec (findClass_of_methodNamed hn) hkY h3
  have h : At U g.method c below := by rw [hg]; exact X.here
  have hlocals9 : W9 + (maxL + 11) + (headSpec ws rm).room.locals ≤ R.locals := hlocals
  have happ : (headSpec ws rm).appliesLoose y e.platform (U.calling g mk a) = true :=
    Spec.appliesLoose_calling (g := g) h hdg hn hkY hinitY
      (X.room_calling (g := g) (R' := (headSpec ws rm).room) hsize hmY hcY hframes (by rw [hlY]; omega) h4 h5) h1
  obtain ⟨mid, hmid⟩ := h.above
  have hfr : (U.setTop g).frames = (.java g :: mid) ++ below := by rw [State.frames_setTop' g h.top, hmid]; rfl
  obtain ⟨o, s₂, hsteps, -, hend, hq⟩ := Steps.callFree hM p X.admits X.cas X.clock (acts := []) hfr happ hPc trivial
  have hq' : vx_Q Qc XC mc ms free a (U.calling g mk a) o s₂ := hq
  rw [State.frames_setTop' g h.top] at hend
  obtain ⟨g₀, hg0⟩ := Option.isSome_iff_exists.mp h.top
  obtain ⟨r, hr⟩ := State.topJava?_eq_some.mp hg0
  have hr' : (({ U with heap := s₂.heap, slotsUsed := s₂.slotsUsed } : State).setVm s₂.vm).frames = .java g₀ :: r := hr
  rcases hq' with ⟨hqc, L, hfe, hL⟩ | ⟨q, rfl, E, ce, L, hx, hce, hcv, hcl, hW₂, hsm, hL⟩
  · obtain ⟨⟨v, rfl⟩, hW₂, e2, q2, q3, q4, q5, q6⟩ := id hfe
    have e3 : s₂ = ({ (U.calling g mk a).setFrames s₂.frames with heap := s₂.heap, slotsUsed := s₂.slotsUsed } : State).setVm s₂.vm := by
      have : s₂ = ({ s₂ with vm := (U.calling g mk a).vm } : State).setVm s₂.vm := rfl
      rw [e2] at this
      exact this
    obtain ⟨c₂, i₂, len₂, hc₂, hd₂, hf₂⟩ := hend
    have hW' : U.WarmedH s₂.vm := hW₂
    have hcc : c₂ = c := by
      have h1 : s₂.code? g.method = U.code? g.method := by
        rw [State.code?_eq, State.code?_eq, hW'.alike.method?]
      exact Option.some.inj (hc₂.symm.trans (h1.trans h.code))
    subst hcc
    have hlen : len₂ = len := by rw [hdg] at hd₂; cases hd₂; rfl
    subst hlen
    have hs₂ : s₂ = (({ U with heap := s₂.heap, slotsUsed := s₂.slotsUsed } : State).setVm s₂.vm).setTop { g with pc := g.pc + len₂, stack := v.toList ++ g.stack } := by
      refine e3.trans ?_
      rw [hf₂, State.calling_eq h.top, State.setFrames_setFrames, State.setTop_of_frames _ hr', hr]
      rfl
    have hsame : U.sameButNew ({ U with heap := s₂.heap, slotsUsed := s₂.slotsUsed } : State) L mc ms := by
      refine ⟨?_, q2, q3, q4, q5, q6⟩
      obtain ⟨t, ht, -⟩ := State.frames_cons hr
      show ({ U with heap := s₂.heap, slotsUsed := s₂.slotsUsed } : State) = { U.setFrames U.frames with heap := s₂.heap, slotsUsed := s₂.slotsUsed }
      rw [State.setFrames_self ht]
    subst hg
    refine Or.inl ⟨v, ⟨(({ U with heap := s₂.heap, slotsUsed := s₂.slotsUsed } : State).setVm s₂.vm), Ls ++ L, c0 + mc, s0 + ms⟩,
      ⟨X.admits, X.cas, X.clock, X.frames, X.room, X.hears, X.method, X.code, (X.here.setHeapUsed s₂.heap s₂.slotsUsed).setVm hW'.alike, X.tail, State.WarmedH.trans X.warmed hW', X.limits, X.bytes, X.same.trans (hsame.setVm s.vm)⟩,
      ⟨g, mk, s₂, L, rfl, rfl, hqc, rfl, hL, rfl, rfl⟩, ?_⟩
    show Steps p.tables e below _ ((({ U with heap := s₂.heap, slotsUsed := s₂.slotsUsed } : State).setVm s₂.vm).setTop { g with pc := g.pc + len₂, stack := v.toList ++ g.stack })
    rw [← hs₂]
    exact hsteps
  · obtain ⟨e2, q2, q3, q4, q5, q6⟩ := id hsm
    have e3 : s₂ = ({ (U.calling g mk a).setFrames s₂.frames with heap := s₂.heap, slotsUsed := s₂.slotsUsed } : State).setVm s₂.vm := by
      have : s₂ = ({ s₂ with vm := (U.calling g mk a).vm } : State).setVm s₂.vm := rfl
      rw [e2] at this
      exact this
    have hf₂ : s₂.frames = .throwing q :: .java g :: U.frames.tail := hend
    have hW' : U.WarmedH s₂.vm := hW₂
    have hs₂ : s₂ = ((({ U with heap := s₂.heap, slotsUsed := s₂.slotsUsed } : State).setVm s₂.vm).setTop g).pushFrame (.throwing q) := by
      refine e3.trans ?_
      rw [hf₂, State.calling_eq h.top, State.setFrames_setFrames, State.pushFrame, State.frames_setTop _ hr', State.setTop_of_frames _ hr', State.setFrames_setFrames, hr]
      rfl
    have hsame : U.sameButNew ({ U with heap := s₂.heap, slotsUsed := s₂.slotsUsed } : State) L mc ms := by
      refine ⟨?_, q2, q3, q4, q5, q6⟩
      obtain ⟨t, ht, -⟩ := State.frames_cons hr
      show ({ U with heap := s₂.heap, slotsUsed := s₂.slotsUsed } : State) = { U.setFrames U.frames with heap := s₂.heap, slotsUsed := s₂.slotsUsed }
      rw [State.setFrames_self ht]
    subst hg
    refine Or.inr ⟨q, ⟨(({ U with heap := s₂.heap, slotsUsed := s₂.slotsUsed } : State).setVm s₂.vm), Ls ++ L, c0 + mc, s0 + ms⟩,
      ⟨X.admits, X.cas, X.clock, X.frames, X.room, X.hears, X.method, X.code, (X.here.setHeapUsed s₂.heap s₂.slotsUsed).setVm hW'.alike, X.tail, State.WarmedH.trans X.warmed hW', X.limits, X.bytes, X.same.trans (hsame.setVm s.vm)⟩,
      ⟨g, mk, s₂, L, E, ce, rfl, rfl, hx, hce, hcv, hcl, rfl, hL, rfl, rfl⟩, ?_⟩
    show Steps p.tables e below _ (((({ U with heap := s₂.heap, slotsUsed := s₂.slotsUsed } : State).setVm s₂.vm).setTop g).pushFrame (.throwing q))
    rw [← hs₂]
    exact hsteps
end Payer
section Calls
variable {p : Program} {l : Launch} {e : Env} {R : Room} {s : State} {m : MethodId} {args : Array Value} {below : List Frame} {meth : Method} {c : Code} {T : State} {locs : List Loc} {cells slots : Nat}
theorem vx_callV (X : Stand p l e R s m args below meth c T locs cells slots) (hexec : p.tables.exec = Jvm.exec) {own C : String} {index : Nat} {y : MethodName} {bytes : ByteArray} {maxL : Nat} {ret : Option FieldType}
    (hown : s.vm.findClass own = some m.cls) (hlink : (Cond.methodLink own index y).before args s = true) (hinst : (Cond.instanceMethod y).before args s = true) (hsel : (Cond.selects C y y).before args s = true)
    (hcode : (Cond.code y bytes maxL ret).before args s = true) (hy : y.cls ≠ "java/lang/invoke/MethodHandle" ∧ y.cls ≠ "java/lang/invoke/VarHandle")
    {W9 : Nat} {Pre : Pt → Array Value → Prop} {Post : Pt → Array Value → Option Value → Pt → Prop} {PostX : Pt → Array Value → Addr → Pt → Prop} (hK : vx_Back l R p e below s args y 3 W9 Pre Post PostX)
    {b : Addr} {cellB : Cell} (hcell : T.heap[b]? = some cellB) (hobj : cellB.vm.isStatics = false) (hcls : s.vm.findClass C = some cellB.cls)
    {g : JFrame} (hg : g.method = m) (hsize : g.locals.size = c.maxLocals) {argsL rest : List Value} (hlen : ∀ sig, parseMethodDescriptor y.desc = some sig → argsL.length = sig.parameters.length)
    (hstack : g.stack = argsL.reverse ++ .ref b :: rest) (hW : 2 * g.monitorRoom + (rest.map fun v => v.category).sum ≤ W9) (hdg : decode c.code g.pc = .ok (.invokevirtual index, 3))
    (hpre : ∀ vm₁, s.WarmedH vm₁ → Pre ⟨T.setVm vm₁, locs, cells, slots⟩ (Value.ref b :: argsL).toArray) :
    (∃ (v : Option Value) (vm₁ : Vm) (B : Pt), s.WarmedH vm₁ ∧ Stand p l e R s m args below meth c B.U B.locs B.cells B.slots ∧ Post ⟨T.setVm vm₁, locs, cells, slots⟩ (Value.ref b :: argsL).toArray v B ∧
      ∀ target, Steps p.tables e below (B.U.setTop { g with pc := g.pc + 3, stack := v.toList ++ rest }) target → Steps p.tables e below (T.setTop g) target) ∨
    (∃ (q : Addr) (vm₁ : Vm) (B : Pt), s.WarmedH vm₁ ∧ Stand p l e R s m args below meth c B.U B.locs B.cells B.slots ∧ PostX ⟨T.setVm vm₁, locs, cells, slots⟩ (Value.ref b :: argsL).toArray q B ∧
      Steps p.tables e below (T.setTop g) ((B.U.setTop { g with stack := rest }).pushFrame (.throwing q))) := by
  obtain ⟨mk, methM, hnamed, hmethM, hstM, habM⟩ := Cond.instanceMethod_spec hinst
  obtain ⟨methM', cM, hmethM', -, -, -, -, -, -, hsigM⟩ := Cond.code_spec hnamed hcode
  cases hmethM.symm.trans hmethM'
  obtain ⟨c2, r2, m2, q1, q2, q3, q4, kP, hkP, hkPi⟩ := Cond.selects_spec hsel
  cases hcls.symm.trans q1
  cases (State.methodFound?_of_named hnamed hy).symm.trans q2
  cases hnamed.symm.trans q3
  have hselP : selectMethod e.platform s.vm cellB.cls mk = .method mk := by rw [Launch.admits_selectMethod X.admits]; exact q4
  obtain ⟨vm₁, X₁, hstep₁⟩ := X.invokevirtual hexec hown hlink hnamed hmethM hstM hkP hkPi hy (a := b) (cell := cellB) hcell
    (fun z h => by rw [h] at hobj; cases hobj) hselP hmethM habM hkP hkPi (g := g) hg (argsL := argsL) (rest := rest) (hlen _ hsigM) hstack hdg
  rcases hK m meth c ⟨T.setVm vm₁, locs, cells, slots⟩ { g with stack := rest } (.invokevirtual index) mk (Value.ref b :: argsL).toArray X₁ hg hsize hdg hW (X₁.named hnamed) (hpre vm₁ X₁.warmed) with ⟨v, B, X', hpost, hsteps⟩ | ⟨q, B, X', hpost, hsteps⟩
  · exact Or.inl ⟨v, vm₁, B, X₁.warmed, X', hpost, fun target h => hstep₁ _ fun acts => by rw [doInvoke_state]; exact hsteps.trans h⟩
  · exact Or.inr ⟨q, vm₁, B, X₁.warmed, X', hpost, hstep₁ _ fun acts => by rw [doInvoke_state]; exact hsteps⟩
theorem vx_callS (X : Stand p l e R s m args below meth c T locs cells slots) (hexec : p.tables.exec = Jvm.exec) {own : String} {index : Nat} {y : MethodName} {bytes : ByteArray} {maxL : Nat} {ret : Option FieldType}
    (hown : s.vm.findClass own = some m.cls) (hlink : (Cond.methodLink own index y).before args s = true) (hstat : (Cond.static y).before args s = true) (hinit : (Cond.initialized y.cls).before args s = true)
    (hcode : (Cond.code y bytes maxL ret).before args s = true) (hy : y.cls ≠ "java/lang/invoke/MethodHandle" ∧ y.cls ≠ "java/lang/invoke/VarHandle")
    {W9 : Nat} {Pre : Pt → Array Value → Prop} {Post : Pt → Array Value → Option Value → Pt → Prop} {PostX : Pt → Array Value → Addr → Pt → Prop} (hK : vx_Back l R p e below s args y 3 W9 Pre Post PostX)
    {g : JFrame} (hg : g.method = m) (hsize : g.locals.size = c.maxLocals) {argsL rest : List Value} (hlen : ∀ sig, parseMethodDescriptor y.desc = some sig → argsL.length = sig.parameters.length)
    (hstack : g.stack = argsL.reverse ++ rest) (hW : 2 * g.monitorRoom + (rest.map fun v => v.category).sum ≤ W9) (hdg : decode c.code g.pc = .ok (.invokestatic index, 3))
    (hpre : ∀ vm₁, s.WarmedH vm₁ → Pre ⟨T.setVm vm₁, locs, cells, slots⟩ argsL.toArray) :
    (∃ (v : Option Value) (vm₁ : Vm) (B : Pt), s.WarmedH vm₁ ∧ Stand p l e R s m args below meth c B.U B.locs B.cells B.slots ∧ Post ⟨T.setVm vm₁, locs, cells, slots⟩ argsL.toArray v B ∧
      ∀ target, Steps p.tables e below (B.U.setTop { g with pc := g.pc + 3, stack := v.toList ++ rest }) target → Steps p.tables e below (T.setTop g) target) ∨
    (∃ (q : Addr) (vm₁ : Vm) (B : Pt), s.WarmedH vm₁ ∧ Stand p l e R s m args below meth c B.U B.locs B.cells B.slots ∧ PostX ⟨T.setVm vm₁, locs, cells, slots⟩ argsL.toArray q B ∧
      Steps p.tables e below (T.setTop g) ((B.U.setTop { g with stack := rest }).pushFrame (.throwing q))) := by
  obtain ⟨mk, hnamed⟩ := Cond.code_named hcode
  obtain ⟨methM, cM, hmethM, -, -, -, -, -, -, hsigM⟩ := Cond.code_spec hnamed hcode
  have hstatic : methM.isStatic = true := Cond.static_spec hnamed hmethM hstat
  obtain ⟨kP, hkP, -⟩ := className_of_methodNamed hnamed
  have hinitP : kP.init = .initialized := Cond.initialized_spec (findClass_of_methodNamed hnamed) hkP hinit
  obtain ⟨vm₁, X₁, hstep₁⟩ := X.invokestatic hexec hown hlink hnamed hmethM hstatic hkP hinitP hy (g := g) hg (argsL := argsL) (rest := rest) (hlen _ hsigM) hstack hdg
  rcases hK m meth c ⟨T.setVm vm₁, locs, cells, slots⟩ { g with stack := rest } (.invokestatic index) mk argsL.toArray X₁ hg hsize hdg hW (X₁.named hnamed) (hpre vm₁ X₁.warmed) with ⟨v, B, X', hpost, hsteps⟩ | ⟨q, B, X', hpost, hsteps⟩
  · exact Or.inl ⟨v, vm₁, B, X₁.warmed, X', hpost, fun target h => hstep₁ _ fun acts => by rw [doInvoke_state]; exact hsteps.trans h⟩
  · exact Or.inr ⟨q, vm₁, B, X₁.warmed, X', hpost, hstep₁ _ fun acts => by rw [doInvoke_state]; exact hsteps⟩
end Calls
theorem vx_cls {s : State} {T : State} {vm₁ : Vm} {E : String} {k : ClassId} (hW : s.WarmedH vm₁) (h : (T.setVm vm₁).vm.findClass E = some k) : s.vm.findClass E = some k := by
  have h1 : vm₁.findClass E = some k := h
  rw [hW.alike.findClass] at h1
  exact h1
/-- the method's frame g, with q thrown over it -/
def vx_W (p : Program) (l : Launch) (e : Env) (R : Room) (s : State) (m : MethodId) (args : Array Value) (below : List Frame) (meth : Method) (c : Code) (H : Heap) (locs : List Loc) (cells slots : Nat) (Q : State → Prop) (g : JFrame) (q : Addr) : Prop :=
  ∀ T : State, T.heap = H → Stand p l e R s m args below meth c T locs cells slots → ∃ t, Steps p.tables e below ((T.setTop g).pushFrame (.throwing q)) t ∧ Q t
def vx_Run (p : Program) (l : Launch) (e : Env) (R : Room) (s : State) (m : MethodId) (args : Array Value) (below : List Frame) (meth : Method) (c : Code) (H : Heap) (locs : List Loc) (cells slots mc ms : Nat) (g : JFrame) (rest : List Value) (Qa : State → Outcome → State → Prop) (XC : String → State → State → Prop) (free : Addr → Prop) : Prop :=
  ∀ T : State, T.heap = H → Stand p l e R s m args below meth c T locs cells slots →
    (∃ (v : Option Value) (st₀ t T' : State) (L : List Loc), st₀.heap = H ∧ Stand p l e R s m args below meth c T' (locs ++ L) (cells + mc) (slots + ms) ∧ (∀ q ∈ L, free q.base) ∧ T'.heap = t.heap ∧ T'.vm = t.vm ∧ Qa st₀ (.returned v) t ∧
      Goes p e below T g T' { g with pc := g.pc + 3, stack := v.toList ++ rest }) ∨
    (∃ (q : Addr) (st₀ t T' : State) (L : List Loc) (E : String) (ce : Cell), st₀.heap = H ∧ Stand p l e R s m args below meth c T' (locs ++ L) (cells + mc) (slots + ms) ∧ (∀ z ∈ L, free z.base) ∧ T'.heap = t.heap ∧ T'.vm = t.vm ∧ XC E st₀ t ∧ t.heap[q]? = some ce ∧ ce.vm = .none ∧ s.vm.findClass E = some ce.cls ∧
      Steps p.tables e below (T.setTop g) ((T'.setTop { g with stack := rest }).pushFrame (.throwing q)))
def vx_X {S : Type} (px : S → Prop) (B : String → S → State → Prop) (A : Nat → Prop) : String → State → State → Prop := fun E st t => ∃ u : S, px u ∧ B E u t ∧ va_F A st t
section Runs
variable {p : Program} {l : Launch} {e : Env} {R : Room} {s : State} {m : MethodId} {args : Array Value} {below : List Frame} {meth : Method} {c : Code} {H : Heap} {locs : List Loc} {cells slots : Nat}
variable {y : MethodName} {bytes cc : ByteArray} {maxL nL mc ms n index : Nat} {ret : Option FieldType} {ws : List Cond} {rm : Room} {Pc : Array Value → State → Prop} {Qc : Array Value → State → Outcome → State → Prop} {XC : String → State → State → Prop} {free : Addr → Prop} {Ts : List Cond} {own C : String} {b : Addr} {As rest : List Value} {g : JFrame}
theorem vx_callBack (cb : CallB R s args own index y bytes maxL ret ws rm mc ms n) (hM : vx_Met l y ws rm Pc Qc XC mc ms free) (hbl : FrameBlind Pc) : vx_Back l R p e below s args y 3 8 (PreOf R mc ms Pc) (PostOf Qc mc ms free) (vx_Post XC mc ms free) := by
  obtain ⟨hrc, hrs, hfr, hlo, hws, hcw, -, hini, -⟩ := cb
  exact vx_back (bytes := bytes) (maxL := maxL) (ret := ret) hM hbl hrc hrs hfr hlo hws hcw (fun a' U hW => word_at hW (Or.inl (by first | rfl | simp [Cond.onTables, Cond.keeps, Cond.steady])) hini)
theorem vx_runV (S : CallFix p m c cc nL s args Ts own) (hM : vx_Met l y ws rm Pc Qc XC mc ms free) (cw : CallW R s args own C index y bytes maxL ret ws rm mc ms n) (hp : PreV s H C b Pc As)
    (hg : g.method = m) (hn : As.length = n) (hsize : g.locals.size = nL) (hstack : g.stack = As.reverse ++ .ref b :: rest) (hW : 2 * g.monitorRoom + (rest.map fun v => v.category).sum ≤ 8) (hdg : decode cc g.pc = .ok (.invokevirtual index, 3)) (hf : cells + mc ≤ R.cells ∧ slots + ms ≤ R.slots) :
    vx_Run p l e R s m args below meth c H locs cells slots mc ms g rest (Qc (Value.ref b :: As).toArray) XC free := by
  have hK : vx_Back l R p e below s args y 3 8 (PreOf R mc ms Pc) (PostOf Qc mc ms free) (vx_Post XC mc ms free) := vx_callBack cw.1 hM hp.1
  obtain ⟨⟨-, -, -, -, -, -, hcode, -, hy, hlen, hl⟩, hin, hse⟩ := cw
  obtain ⟨hx, hb, hml, ho, -⟩ := S
  obtain ⟨-, ⟨cellB, hcB, hoB, hclB⟩, hPc⟩ := hp
  intro T hT X
  rcases vx_callV X hx (C := C) (bytes := bytes) (maxL := maxL) (ret := ret) ho hl hin hse hcode hy hK (by rw [hT]; exact hcB) hoB hclB hg (hsize.trans hml.symm) (argsL := As) (rest := rest) (fun sig h => hn.trans (hlen sig h)) hstack hW (by rw [hb]; exact hdg)
    (fun vm₁ hW₁ => ⟨hf.1, hf.2, hPc (T.setVm vm₁) hT hW₁⟩) with ⟨v, vm₁, ⟨U', l2, c2, s2⟩, hW₁, X', ⟨g', mk, t, L, e1, e2, hq, h1, hL, h2, h3⟩, st⟩ | ⟨q, vm₁, ⟨U', l2, c2, s2⟩, hW₁, X', ⟨g', mk, t, L, E, ce, e1, e2, hq, hce, hcv, hcl, h1, hL, h2, h3⟩, st⟩
  · dsimp only [Pt.U, Pt.locs, Pt.cells, Pt.slots] at X' e1 e2 h1 h2 h3 st
    subst h1; subst h2; subst h3
    exact Or.inl ⟨v, (T.setVm vm₁).calling g' mk (Value.ref b :: As).toArray, t, U', L, hT, X', hL, e1, e2, hq, st⟩
  · dsimp only [Pt.U, Pt.locs, Pt.cells, Pt.slots] at X' e1 e2 h1 h2 h3 st hcl
    subst h1; subst h2; subst h3
    exact Or.inr ⟨q, (T.setVm vm₁).calling g' mk (Value.ref b :: As).toArray, t, U', L, E, ce, hT, X', hL, e1, e2, hq, hce, hcv, vx_cls hW₁ hcl, st⟩
theorem vx_runS (S : CallFix p m c cc nL s args Ts own) (hM : vx_Met l y ws rm Pc Qc XC mc ms free) (cw : CallB R s args own index y bytes maxL ret ws rm mc ms n ∧ (Cond.static y).before args s = true) (hp : PreS s H Pc As)
    (hg : g.method = m) (hn : As.length = n) (hsize : g.locals.size = nL) (hstack : g.stack = As.reverse ++ rest) (hW : 2 * g.monitorRoom + (rest.map fun v => v.category).sum ≤ 8) (hdg : decode cc g.pc = .ok (.invokestatic index, 3)) (hf : cells + mc ≤ R.cells ∧ slots + ms ≤ R.slots) :
    vx_Run p l e R s m args below meth c H locs cells slots mc ms g rest (Qc As.toArray) XC free := by
  have hK : vx_Back l R p e below s args y 3 8 (PreOf R mc ms Pc) (PostOf Qc mc ms free) (vx_Post XC mc ms free) := vx_callBack cw.1 hM hp.1
  obtain ⟨⟨-, -, -, -, -, -, hcode, hini, hy, hlen, hl⟩, hstt⟩ := cw
  obtain ⟨hx, hb, hml, ho, -⟩ := S
  intro T hT X
  rcases vx_callS X hx (bytes := bytes) (maxL := maxL) (ret := ret) ho hl hstt hini hcode hy hK hg (hsize.trans hml.symm) (argsL := As) (rest := rest) (fun sig h => hn.trans (hlen sig h)) hstack hW (by rw [hb]; exact hdg)
    (fun vm₁ hW₁ => ⟨hf.1, hf.2, hp.2 (T.setVm vm₁) hT hW₁⟩) with ⟨v, vm₁, ⟨U', l2, c2, s2⟩, hW₁, X', ⟨g', mk, t, L, e1, e2, hq, h1, hL, h2, h3⟩, st⟩ | ⟨q, vm₁, ⟨U', l2, c2, s2⟩, hW₁, X', ⟨g', mk, t, L, E, ce, e1, e2, hq, hce, hcv, hcl, h1, hL, h2, h3⟩, st⟩
  · dsimp only [Pt.U, Pt.locs, Pt.cells, Pt.slots] at X' e1 e2 h1 h2 h3 st
    subst h1; subst h2; subst h3
    exact Or.inl ⟨v, (T.setVm vm₁).calling g' mk As.toArray, t, U', L, hT, X', hL, e1, e2, hq, st⟩
  · dsimp only [Pt.U, Pt.locs, Pt.cells, Pt.slots] at X' e1 e2 h1 h2 h3 st hcl
    subst h1; subst h2; subst h3
    exact Or.inr ⟨q, (T.setVm vm₁).calling g' mk As.toArray, t, U', L, E, ce, hT, X', hL, e1, e2, hq, hce, hcv, vx_cls hW₁ hcl, st⟩
end Runs
section Rows
variable {p : Program} {l : Launch} {e : Env} {R : Room} {s : State} {m : MethodId} {args : Array Value} {below : List Frame} {meth : Method} {c : Code} {H : Heap} {locs : List Loc} {cells slots : Nat} {Q : State → Prop}
variable {mc ms : Nat} {free : Addr → Prop} {A0 A1 : Nat → Prop} {H0 : Heap} {a : Array Value} {pc : Nat} {ls : Array Slot} {st0 rest : List Value}
theorem vx_keep {st₀ t T' : State} {L : List Loc} (h0 : st₀.heap = H) (e1 : T'.heap = t.heap) (hS : va_S A0 H0 H locs) (hA : ∀ q, q < H.size → A1 q → A0 q) (hf : ∀ q, free q → A0 q) (hL : ∀ q ∈ L, free q.base) (hF : va_F A1 st₀ t) :
    H.size ≤ T'.heap.size ∧ (∀ q : Nat, q < H.size → ¬ A1 q → T'.heap[q]? = H[q]?) ∧ va_S A0 H0 T'.heap (locs ++ L) := by
  obtain ⟨hz, hk⟩ := hF
  rw [h0] at hz hk
  exact ⟨by rw [e1]; exact hz, fun q h1 h2 => by rw [e1]; exact hk q h1 h2,
    ⟨Nat.le_trans hS.1 (by rw [e1]; exact hz), fun q h1 h2 => by rw [e1, hk q (Nat.lt_of_lt_of_le h1 hS.1) (fun z => h2 (hA q (Nat.lt_of_lt_of_le h1 hS.1) z))]; exact hS.2.1 q h1 h2, fun q hq => by
      rcases List.mem_append.mp hq with h | h
      · exact hS.2.2 q h
      · exact hf _ (hL q h)⟩⟩
theorem vx_calli {S SX : Type} {post : Int32 → S → Prop} {px : SX → Prop} {B : S → State → Prop} {BX : String → SX → State → Prop} {AX : Nat → Prop} (hr : vx_Run p l e R s m args below meth c H locs cells slots mc ms (F0 m pc ls st0) rest (va_Qi post B A1 a) (vx_X px BX AX) free) (hS : va_S A0 H0 H locs) (hA : ∀ q, q < H.size → A1 q → A0 q) (hf : ∀ q, free q → A0 q) (hAX : ∀ q, q < H.size → AX q → A0 q)
    (kx : ∀ (E : String) (ce : Cell) (q9 : Addr) (u : SX) (t : State) (H1 : Heap) (locs1 : List Loc), t.heap = H1 → s.vm.Alike t.vm → px u → BX E u t → H.size ≤ H1.size → (∀ q : Nat, q < H.size → ¬ AX q → H1[q]? = H[q]?) → va_S A0 H0 H1 locs1 → H1[q9]? = some ce → ce.vm = .none → s.vm.findClass E = some ce.cls → vx_W p l e R s m args below meth c H1 locs1 (cells + mc) (slots + ms) Q (F0 m pc ls rest) q9)
    (kk : ∀ (r : Int32) (u : S) (t : State) (H1 : Heap) (locs1 : List Loc), t.heap = H1 → s.vm.Alike t.vm → post r u → B u t → H.size ≤ H1.size → (∀ q : Nat, q < H.size → ¬ A1 q → H1[q]? = H[q]?) → va_S A0 H0 H1 locs1 → W p l e R s m args below meth c H1 locs1 (cells + mc) (slots + ms) Q (F0 m (pc + 3) ls (.int r :: rest))) : W p l e R s m args below meth c H locs cells slots Q (F0 m pc ls st0) := by
  intro T hT X
  rcases hr T hT X with ⟨v, st₀, t, T', L, h0, X', hL, e1, e2, ⟨⟨r, u, hv, hp, hb⟩, hF⟩, st⟩ | ⟨q, st₀, t, T', L, E, ce, h0, X', hL, e1, e2, ⟨u, hp, hb, hF⟩, hce, hcv, hcl, st⟩
  · cases hv
    obtain ⟨k1, k2, k3⟩ := vx_keep h0 e1 hS hA hf hL hF
    obtain ⟨t2, a1, b1⟩ := kk r u t T'.heap (locs ++ L) e1.symm (by rw [← e2]; exact X'.warmed.alike) hp hb k1 k2 k3 T' rfl X'
    exact ⟨t2, st t2 a1, b1⟩
  · obtain ⟨k1, k2, k3⟩ := vx_keep h0 e1 hS hAX hf hL hF
    obtain ⟨t2, a1, b1⟩ := kx E ce q u t T'.heap (locs ++ L) e1.symm (by rw [← e2]; exact X'.warmed.alike) hp hb k1 k2 k3 (by rw [e1]; exact hce) hcv hcl T' rfl X'
    exact ⟨t2, st.trans a1, b1⟩
theorem vx_calll {S SX : Type} {post : Int64 → S → Prop} {px : SX → Prop} {B : S → State → Prop} {BX : String → SX → State → Prop} {AX : Nat → Prop} (hr : vx_Run p l e R s m args below meth c H locs cells slots mc ms (F0 m pc ls st0) rest (va_Ql post B A1 a) (vx_X px BX AX) free) (hS : va_S A0 H0 H locs) (hA : ∀ q, q < H.size → A1 q → A0 q) (hf : ∀ q, free q → A0 q) (hAX : ∀ q, q < H.size → AX q → A0 q)
    (kx : ∀ (E : String) (ce : Cell) (q9 : Addr) (u : SX) (t : State) (H1 : Heap) (locs1 : List Loc), t.heap = H1 → s.vm.Alike t.vm → px u → BX E u t → H.size ≤ H1.size → (∀ q : Nat, q < H.size → ¬ AX q → H1[q]? = H[q]?) → va_S A0 H0 H1 locs1 → H1[q9]? = some ce → ce.vm = .none → s.vm.findClass E = some ce.cls → vx_W p l e R s m args below meth c H1 locs1 (cells + mc) (slots + ms) Q (F0 m pc ls rest) q9)
    (kk : ∀ (r : Int64) (u : S) (t : State) (H1 : Heap) (locs1 : List Loc), t.heap = H1 → s.vm.Alike t.vm → post r u → B u t → H.size ≤ H1.size → (∀ q : Nat, q < H.size → ¬ A1 q → H1[q]? = H[q]?) → va_S A0 H0 H1 locs1 → W p l e R s m args below meth c H1 locs1 (cells + mc) (slots + ms) Q (F0 m (pc + 3) ls (.long r :: rest))) : W p l e R s m args below meth c H locs cells slots Q (F0 m pc ls st0) := by
  intro T hT X
  rcases hr T hT X with ⟨v, st₀, t, T', L, h0, X', hL, e1, e2, ⟨⟨r, u, hv, hp, hb⟩, hF⟩, st⟩ | ⟨q, st₀, t, T', L, E, ce, h0, X', hL, e1, e2, ⟨u, hp, hb, hF⟩, hce, hcv, hcl, st⟩
  · cases hv
    obtain ⟨k1, k2, k3⟩ := vx_keep h0 e1 hS hA hf hL hF
    obtain ⟨t2, a1, b1⟩ := kk r u t T'.heap (locs ++ L) e1.symm (by rw [← e2]; exact X'.warmed.alike) hp hb k1 k2 k3 T' rfl X'
    exact ⟨t2, st t2 a1, b1⟩
  · obtain ⟨k1, k2, k3⟩ := vx_keep h0 e1 hS hAX hf hL hF
    obtain ⟨t2, a1, b1⟩ := kx E ce q u t T'.heap (locs ++ L) e1.symm (by rw [← e2]; exact X'.warmed.alike) hp hb k1 k2 k3 (by rw [e1]; exact hce) hcv hcl T' rfl X'
    exact ⟨t2, st.trans a1, b1⟩
theorem vx_callf {S SX : Type} {post : UInt32 → S → Prop} {px : SX → Prop} {B : S → State → Prop} {BX : String → SX → State → Prop} {AX : Nat → Prop} (hr : vx_Run p l e R s m args below meth c H locs cells slots mc ms (F0 m pc ls st0) rest (va_Qf post B A1 a) (vx_X px BX AX) free) (hS : va_S A0 H0 H locs) (hA : ∀ q, q < H.size → A1 q → A0 q) (hf : ∀ q, free q → A0 q) (hAX : ∀ q, q < H.size → AX q → A0 q)
    (kx : ∀ (E : String) (ce : Cell) (q9 : Addr) (u : SX) (t : State) (H1 : Heap) (locs1 : List Loc), t.heap = H1 → s.vm.Alike t.vm → px u → BX E u t → H.size ≤ H1.size → (∀ q : Nat, q < H.size → ¬ AX q → H1[q]? = H[q]?) → va_S A0 H0 H1 locs1 → H1[q9]? = some ce → ce.vm = .none → s.vm.findClass E = some ce.cls → vx_W p l e R s m args below meth c H1 locs1 (cells + mc) (slots + ms) Q (F0 m pc ls rest) q9)
    (kk : ∀ (r : UInt32) (u : S) (t : State) (H1 : Heap) (locs1 : List Loc), t.heap = H1 → s.vm.Alike t.vm → post r u → B u t → H.size ≤ H1.size → (∀ q : Nat, q < H.size → ¬ A1 q → H1[q]? = H[q]?) → va_S A0 H0 H1 locs1 → W p l e R s m args below meth c H1 locs1 (cells + mc) (slots + ms) Q (F0 m (pc + 3) ls (.float r :: rest))) : W p l e R s m args below meth c H locs cells slots Q (F0 m pc ls st0) := by
  intro T hT X
  rcases hr T hT X with ⟨v, st₀, t, T', L, h0, X', hL, e1, e2, ⟨⟨r, u, hv, hp, hb⟩, hF⟩, st⟩ | ⟨q, st₀, t, T', L, E, ce, h0, X', hL, e1, e2, ⟨u, hp, hb, hF⟩, hce, hcv, hcl, st⟩
  · cases hv
    obtain ⟨k1, k2, k3⟩ := vx_keep h0 e1 hS hA hf hL hF
    obtain ⟨t2, a1, b1⟩ := kk r u t T'.heap (locs ++ L) e1.symm (by rw [← e2]; exact X'.warmed.alike) hp hb k1 k2 k3 T' rfl X'
    exact ⟨t2, st t2 a1, b1⟩
  · obtain ⟨k1, k2, k3⟩ := vx_keep h0 e1 hS hAX hf hL hF
    obtain ⟨t2, a1, b1⟩ := kx E ce q u t T'.heap (locs ++ L) e1.symm (by rw [← e2]; exact X'.warmed.alike) hp hb k1 k2 k3 (by rw [e1]; exact hce) hcv hcl T' rfl X'
    exact ⟨t2, st.trans a1, b1⟩
theorem vx_calld {S SX : Type} {post : UInt64 → S → Prop} {px : SX → Prop} {B : S → State → Prop} {BX : String → SX → State → Prop} {AX : Nat → Prop} (hr : vx_Run p l e R s m args below meth c H locs cells slots mc ms (F0 m pc ls st0) rest (va_Qd post B A1 a) (vx_X px BX AX) free) (hS : va_S A0 H0 H locs) (hA : ∀ q, q < H.size → A1 q → A0 q) (hf : ∀ q, free q → A0 q) (hAX : ∀ q, q < H.size → AX q → A0 q)
    (kx : ∀ (E : String) (ce : Cell) (q9 : Addr) (u : SX) (t : State) (H1 : Heap) (locs1 : List Loc), t.heap = H1 → s.vm.Alike t.vm → px u → BX E u t → H.size ≤ H1.size → (∀ q : Nat, q < H.size → ¬ AX q → H1[q]? = H[q]?) → va_S A0 H0 H1 locs1 → H1[q9]? = some ce → ce.vm = .none → s.vm.findClass E = some ce.cls → vx_W p l e R s m args below meth c H1 locs1 (cells + mc) (slots + ms) Q (F0 m pc ls rest) q9)
    (kk : ∀ (r : UInt64) (u : S) (t : State) (H1 : Heap) (locs1 : List Loc), t.heap = H1 → s.vm.Alike t.vm → post r u → B u t → H.size ≤ H1.size → (∀ q : Nat, q < H.size → ¬ A1 q → H1[q]? = H[q]?) → va_S A0 H0 H1 locs1 → W p l e R s m args below meth c H1 locs1 (cells + mc) (slots + ms) Q (F0 m (pc + 3) ls (.double r :: rest))) : W p l e R s m args below meth c H locs cells slots Q (F0 m pc ls st0) := by
  intro T hT X
  rcases hr T hT X with ⟨v, st₀, t, T', L, h0, X', hL, e1, e2, ⟨⟨r, u, hv, hp, hb⟩, hF⟩, st⟩ | ⟨q, st₀, t, T', L, E, ce, h0, X', hL, e1, e2, ⟨u, hp, hb, hF⟩, hce, hcv, hcl, st⟩
  · cases hv
    obtain ⟨k1, k2, k3⟩ := vx_keep h0 e1 hS hA hf hL hF
    obtain ⟨t2, a1, b1⟩ := kk r u t T'.heap (locs ++ L) e1.symm (by rw [← e2]; exact X'.warmed.alike) hp hb k1 k2 k3 T' rfl X'
    exact ⟨t2, st t2 a1, b1⟩
  · obtain ⟨k1, k2, k3⟩ := vx_keep h0 e1 hS hAX hf hL hF
    obtain ⟨t2, a1, b1⟩ := kx E ce q u t T'.heap (locs ++ L) e1.symm (by rw [← e2]; exact X'.warmed.alike) hp hb k1 k2 k3 (by rw [e1]; exact hce) hcv hcl T' rfl X'
    exact ⟨t2, st.trans a1, b1⟩
theorem vx_callv {S SX : Type} {post : S → Prop} {px : SX → Prop} {B : S → State → Prop} {BX : String → SX → State → Prop} {AX : Nat → Prop} (hr : vx_Run p l e R s m args below meth c H locs cells slots mc ms (F0 m pc ls st0) rest (va_Qv post B A1 a) (vx_X px BX AX) free) (hS : va_S A0 H0 H locs) (hA : ∀ q, q < H.size → A1 q → A0 q) (hf : ∀ q, free q → A0 q) (hAX : ∀ q, q < H.size → AX q → A0 q)
    (kx : ∀ (E : String) (ce : Cell) (q9 : Addr) (u : SX) (t : State) (H1 : Heap) (locs1 : List Loc), t.heap = H1 → s.vm.Alike t.vm → px u → BX E u t → H.size ≤ H1.size → (∀ q : Nat, q < H.size → ¬ AX q → H1[q]? = H[q]?) → va_S A0 H0 H1 locs1 → H1[q9]? = some ce → ce.vm = .none → s.vm.findClass E = some ce.cls → vx_W p l e R s m args below meth c H1 locs1 (cells + mc) (slots + ms) Q (F0 m pc ls rest) q9)
    (kk : ∀ (u : S) (t : State) (H1 : Heap) (locs1 : List Loc), t.heap = H1 → s.vm.Alike t.vm → post u → B u t → H.size ≤ H1.size → (∀ q : Nat, q < H.size → ¬ A1 q → H1[q]? = H[q]?) → va_S A0 H0 H1 locs1 → W p l e R s m args below meth c H1 locs1 (cells + mc) (slots + ms) Q (F0 m (pc + 3) ls (rest))) : W p l e R s m args below meth c H locs cells slots Q (F0 m pc ls st0) := by
  intro T hT X
  rcases hr T hT X with ⟨v, st₀, t, T', L, h0, X', hL, e1, e2, ⟨⟨u, hv, hp, hb⟩, hF⟩, st⟩ | ⟨q, st₀, t, T', L, E, ce, h0, X', hL, e1, e2, ⟨u, hp, hb, hF⟩, hce, hcv, hcl, st⟩
  · cases hv
    obtain ⟨k1, k2, k3⟩ := vx_keep h0 e1 hS hA hf hL hF
    obtain ⟨t2, a1, b1⟩ := kk u t T'.heap (locs ++ L) e1.symm (by rw [← e2]; exact X'.warmed.alike) hp hb k1 k2 k3 T' rfl X'
    exact ⟨t2, st t2 a1, b1⟩
  · obtain ⟨k1, k2, k3⟩ := vx_keep h0 e1 hS hAX hf hL hF
    obtain ⟨t2, a1, b1⟩ := kx E ce q u t T'.heap (locs ++ L) e1.symm (by rw [← e2]; exact X'.warmed.alike) hp hb k1 k2 k3 (by rw [e1]; exact hce) hcv hcl T' rfl X'
    exact ⟨t2, st.trans a1, b1⟩
/-- caught by the row x of this method's table; the rows ahead don't take it -/
theorem vx_catch {own name : String} {E : String} {ce : Cell} {q : Addr} (hown : s.vm.findClass own = some m.cls) (pre : List ExceptionTableEntry) (x : ExceptionTableEntry) (suf : List ExceptionTableEntry) (hsplit : c.exceptionTable.toList = pre ++ x :: suf)
    (hpass : ∀ z ∈ pre, covers z pc = false ∨ (z.catchType ≠ 0 ∧ ∃ nm : String, (Cond.classLink own z.catchType nm).before args s = true ∧ va_Nc E nm s)) (hx : covers x pc = true) (h0 : x.catchType ≠ 0)
    (hlink : (Cond.classLink own x.catchType name).before args s = true) (hcast : (Cond.castable E name).before args s = true) (hcell : H[q]? = some ce) (hv : ce.vm = .none) (hcl : s.vm.findClass E = some ce.cls)
    (kk : W p l e R s m args below meth c H locs cells slots Q (F0 m x.handlerPc ls [.ref q])) : vx_W p l e R s m args below meth c H locs cells slots Q (F0 m pc ls rest) q := by
  intro T hT X
  have hpl : e.platform.magicAccessors = ({} : Platform).magicAccessors := by rw [X.admits.platform]
  obtain ⟨c3, c4, hc3, hc4, hasg⟩ := Cond.castable_spec hcast
  cases Option.some.inj (hc3.symm.trans hcl)
  obtain ⟨c5, hc5, hcl5⟩ := Cond.classLink_spec hown hlink e.platform hpl
  cases Option.some.inj (hc4.symm.trans hc5)
  obtain ⟨vm', X', st⟩ := X.thenCaughtThrough q (g := F0 m pc ls rest) rfl (Steps.refl _) (by rw [hT]; exact hcell) (by rw [hv]; rfl) (by obtain ⟨k9, h9, -⟩ := Vm.findClass_spec hcl; exact ⟨k9, h9⟩) pre x suf hsplit
    (fun z hz => by
      rcases hpass z hz with h | ⟨hz0, nm, hl1, hn1⟩
      · exact Or.inl h
      · obtain ⟨c6, hc6, hcl6⟩ := Cond.classLink_spec hown hl1 e.platform hpl
        obtain ⟨a8, b8, h1, h2, h3⟩ := hn1
        cases Option.some.inj (h1.symm.trans hcl)
        cases Option.some.inj (h2.symm.trans hc6)
        exact Or.inr ⟨hz0, _, hcl6, h3⟩) hx (Or.inr ⟨h0, c4, hcl5, hasg⟩)
  obtain ⟨t, a1, b1⟩ := kk (T.setVm vm') hT X'
  exact ⟨t, st.trans a1, b1⟩
end Rows
section Ends
variable {p : Program} {l : Launch} {e : Env} {R : Room} {s : State} {m : MethodId} {args : Array Value} {below : List Frame} {meth : Method} {c : Code} {H : Heap} {locs : List Loc} {cells slots : Nat} {Q : State → Prop}
variable {mc ms : Nat} {free : Addr → Prop} {A0 A1 : Nat → Prop} {H0 : Heap} {a : Array Value} {ls : Array Slot} {st0 rest : List Value}
variable {Qc : Array Value → State → Outcome → State → Prop} {XC : String → State → State → Prop}
/-- what a body that may throw owes at its end -/
def vx_MQ (below : List Frame) (Qc : Array Value → State → Outcome → State → Prop) (XC : String → State → State → Prop) (a : Array Value) (s : State) (mc ms : Nat) (free : Addr → Prop) : State → Prop := fun t =>
  ∃ o, t.status = .running ∧ Ended t below o ∧ vx_Q Qc XC mc ms free a s o t
theorem vx_ret {g : JFrame} {mc ms : Nat} (k : W p l e R s m args below meth c H locs cells slots (MQ below Qc args s mc ms free) g) : W p l e R s m args below meth c H locs cells slots (vx_MQ below Qc XC args s mc ms free) g := by
  intro T hT X
  obtain ⟨t, a1, o, b1, b2, b3, b4⟩ := k T hT X
  exact ⟨t, a1, o, b1, b2, Or.inl ⟨b3, b4⟩⟩
/-- not caught here: it goes on to the caller -/
theorem vx_widen {g : JFrame} {q : Addr} {k n : Nat} (h1 : cells ≤ k) (h2 : slots ≤ n) (kk : vx_W p l e R s m args below meth c H locs k n Q g q) : vx_W p l e R s m args below meth c H locs cells slots Q g q := fun T hT X => kk T hT (stand_widen X h1 h2)
theorem vx_out {pc : Nat} {E : String} {ce : Cell} {q : Addr} {mc ms : Nat} (hout : ∀ x ∈ c.exceptionTable.toList, covers x pc = false) (hlocks : meth.locks = false) (hcell : H[q]? = some ce) (hv : ce.vm = .none) (hcl : s.vm.findClass E = some ce.cls)
    (hx : ∀ t : State, t.heap = H → s.vm.Alike t.vm → XC E s t) (hf : ∀ z ∈ locs, free z.base) (hc : cells ≤ mc) (hs : slots ≤ ms) :
    vx_W p l e R s m args below meth c H locs cells slots (vx_MQ below Qc XC args s mc ms free) (F0 m pc ls rest) q := by
  intro T hT X
  obtain ⟨st1, hrun, hend, hW, hsm⟩ := X.leaveThrown q (g := F0 m pc ls rest) rfl rfl rfl hout hlocks
  have hcell9 : (T.setFrames (.throwing q :: below)).heap[q]? = some ce := by
    show T.heap[q]? = some ce
    rw [hT]; exact hcell
  exact ⟨_, st1, .threw q, hrun, hend, Or.inr ⟨q, rfl, E, ce, locs, hx _ hT hW.alike, hcell9, hv, hcl, hW, hsm.mono hc hs, hf⟩⟩
theorem vx_frame {U : State} {k n : Nat} (h : s.sameButNew ({ U with vm := s.vm } : State) locs k n) : s.heap.size ≤ U.heap.size ∧ ∀ q : Nat, q < s.heap.size → (∀ z ∈ locs, z.base ≠ q) → U.heap[q]? = s.heap[q]? := by
  obtain ⟨-, h2, -, -, -, h6⟩ := h
  refine ⟨h2, fun q hq hz => ?_⟩
  obtain ⟨c9, e1, e2, e3, e4⟩ := h6 q _ (Array.getElem?_eq_getElem hq)
  have hs : c9.slots = (s.heap[q]).slots := Array.ext_getElem? fun i => e4 i fun hm => hz _ hm rfl
  have h9 : c9 = s.heap[q] := by
    rw [hs] at e2
    exact e2
  have e5 : U.heap[q]? = some c9 := e1
  rw [e5, h9, Array.getElem?_eq_getElem hq]
/-- the words of a throw but the four that speak of the heap -/
def vx_no (w : Cond) : Bool := decide (w ≠ .isRef (.static Bundle.tN "UNASSIGNED_STACK" Bundle.steD)) && decide (w ≠ .isRef (.static Bundle.tN "SUPPRESSED_SENTINEL" Bundle.listD)) && decide (w ≠ .laysStatic Bundle.tN "UNASSIGNED_STACK" Bundle.steD) && decide (w ≠ .laysStatic Bundle.tN "SUPPRESSED_SENTINEL" Bundle.listD)
def vx_at0 (own : String) (ic : Nat) (X : String) (names : List String) : List Cond := (Bundle.ownAtoms0 own ic X names).filter vx_no
def vx_atS (own : String) (ic : Nat) (X : String) (names : List String) : List Cond := (Bundle.ownAtoms own ic X names).filter vx_no
/-- a word that the tables alone decide, or a good one -/
def vx_ot (w : Cond) : Bool := w.onTables || goodWord w
theorem vx_ot_at {args a' : Array Value} {s U : State} {w : Cond} (hW : s.WarmedH U.vm) (hvm : s.vm = U.vm) (hg : vx_ot w = true) (h : w.before args s = true) : w.before a' U = true := by
  simp only [vx_ot, Bool.or_eq_true] at hg
  rcases hg with hg | hg
  · exact va_tabs hg hvm h
  · exact word_at hW (good_of_word hg) h
/-- a list's words: the good ones out of the method's own list, the others by premises of their own -/
theorem vx_hat {args : Array Value} {s : State} {L B : List Cond} (h1 : ∀ w ∈ L.filter goodWord, w.before args s = true) (h2 : ∀ w ∈ L.filter (fun w => !goodWord w), w ∈ B) (h3 : ∀ w ∈ B, w.before args s = true) : ∀ w ∈ L, w.before args s = true := by
  intro w hw
  by_cases g : goodWord w = true
  · exact h1 w (List.mem_filter.mpr ⟨hw, g⟩)
  · refine h3 w (h2 w (List.mem_filter.mpr ⟨hw, ?_⟩))
    show (!goodWord w) = true
    cases hgw : goodWord w
    · rfl
    · exact absurd hgw g
theorem vx_c {args : Array Value} {s : State} {w : Cond} {B : List Cond} (h : w.before args s = true) (t : ∀ w ∈ B, w.before args s = true) : ∀ w' ∈ w :: B, w'.before args s = true := fun w' h' => (List.mem_cons.mp h').elim (fun e => by rw [e]; exact h) (t w')
theorem vx_n {args : Array Value} {s : State} : ∀ w ∈ ([] : List Cond), w.before args s = true := fun _ h => nomatch h
theorem vx_own {args : Array Value} {s : State} {L : List Cond} (h1 : ∀ w ∈ L.filter vx_no, w.before args s = true)
    (hU : (Cond.isRef (.static Bundle.tN "UNASSIGNED_STACK" Bundle.steD)).before args s = true) (hN : (Cond.isRef (.static Bundle.tN "SUPPRESSED_SENTINEL" Bundle.listD)).before args s = true)
    (lU : (Cond.laysStatic Bundle.tN "UNASSIGNED_STACK" Bundle.steD).before args s = true) (lN : (Cond.laysStatic Bundle.tN "SUPPRESSED_SENTINEL" Bundle.listD).before args s = true) : ∀ w ∈ L, w.before args s = true := by
  intro w hw
  by_cases e1 : w = .isRef (.static Bundle.tN "UNASSIGNED_STACK" Bundle.steD)
  · rw [e1]; exact hU
  · by_cases e2 : w = .isRef (.static Bundle.tN "SUPPRESSED_SENTINEL" Bundle.listD)
    · rw [e2]; exact hN
    · by_cases e3 : w = .laysStatic Bundle.tN "UNASSIGNED_STACK" Bundle.steD
      · rw [e3]; exact lU
      · by_cases e4 : w = .laysStatic Bundle.tN "SUPPRESSED_SENTINEL" Bundle.listD
        · rw [e4]; exact lN
        · exact h1 w (List.mem_filter.mpr ⟨hw, by unfold vx_no; rw [decide_eq_true e1, decide_eq_true e2, decide_eq_true e3, decide_eq_true e4]; rfl⟩)
/-- where a static field lies, its class's statics cell in H -/
def vx_L (C n d : String) (A : Nat → Prop) (U : State) (H : Heap) : Prop := ∃ (c : ClassId) (k : Class) (i : Nat) (f : Field) (a : Nat) (cell : Cell), U.vm.findClass C = some c ∧ U.fieldFound? C n d = some (c, k, i, f) ∧ f.isStatic = true ∧ k.statics = some a ∧ H[a]? = some cell ∧ cell.vm.isStatics = true ∧ cell.cls = c ∧ f.slot < cell.slots.size ∧ k.staticTypes[f.slot]? = some f.type ∧ ¬ A a
theorem vx_L.moved {C n d : String} {A : Nat → Prop} {u U : State} {H : Heap} (hvm : u.vm.Alike U.vm) (h : vx_L C n d A u H) : vx_L C n d A U H := by
  obtain ⟨c, k, i, f, a, cell, h1, h2, h3, h4, h5, h6, h7, h8, h9, h10⟩ := h
  obtain ⟨k', hi', he⟩ := State.fieldFound?_setVm hvm h2
  exact ⟨c, k', i, f, a, cell, by rw [hvm.findClass]; exact h1, hi', h3, by rw [he]; exact h4, h5, h6, h7, h8, by rw [he]; exact h9, h10⟩
theorem vx_L.kept {C n d : String} {A : Nat → Prop} {U : State} {H H1 : Heap} (h : vx_L C n d A U H) (hq : ∀ a : Nat, a < H.size → ¬ A a → H1[a]? = H[a]?) : vx_L C n d A U H1 := by
  obtain ⟨c, k, i, f, a, cell, h1, h2, h3, h4, h5, h6, h7, h8, h9, h10⟩ := h
  exact ⟨c, k, i, f, a, cell, h1, h2, h3, h4, by rw [hq a (Array.getElem?_eq_some_iff.mp h5).1 h10]; exact h5, h6, h7, h8, h9, h10⟩
theorem vx_L.narrow {C n d : String} {A B : Nat → Prop} {U : State} {H : Heap} (h : vx_L C n d A U H) (hAB : ∀ q, B q → A q) : vx_L C n d B U H := by
  obtain ⟨c, k, i, f, a, cell, h1, h2, h3, h4, h5, h6, h7, h8, h9, h10⟩ := h
  exact ⟨c, k, i, f, a, cell, h1, h2, h3, h4, h5, h6, h7, h8, h9, fun z => h10 (hAB _ z)⟩
theorem vx_L.word {C n d : String} {A : Nat → Prop} {s : State} {args : Array Value} (h : vx_L C n d A s s.heap) : (Cond.laysStatic C n d).before args s = true := by
  obtain ⟨c, k, i, f, a, cell, h1, h2, h3, h4, h5, h6, h7, h8, h9, -⟩ := h
  show (Cond.laysStatic C n d).holds args s none s [] = true
  exact Cond.laysStatic_of h1 h2 h3 h4 h5 h6 h7 h8 h9
/-- .. and what it holds: null or some reference -/
def vx_Zq (C n d : String) (A : Nat → Prop) (U : State) (H : Heap) : Prop := va_Zq C n d A U H ∧ vx_L C n d A U H
theorem vx_Zq.moved {C n d : String} {A : Nat → Prop} {u U : State} {H : Heap} (hvm : u.vm.Alike U.vm) (h : vx_Zq C n d A u H) : vx_Zq C n d A U H := ⟨va_Zq.moved hvm h.1, vx_L.moved hvm h.2⟩
theorem vx_Zq.kept {C n d : String} {A : Nat → Prop} {U : State} {H H1 : Heap} (h : vx_Zq C n d A U H) (hq : ∀ a : Nat, a < H.size → ¬ A a → H1[a]? = H[a]?) : vx_Zq C n d A U H1 := ⟨va_Zq.kept h.1 hq, vx_L.kept h.2 hq⟩
theorem vx_Zq.narrow {C n d : String} {A B : Nat → Prop} {U : State} {H : Heap} (h : vx_Zq C n d A U H) (hAB : ∀ q, B q → A q) : vx_Zq C n d B U H := ⟨va_Zq.narrow h.1 hAB, vx_L.narrow h.2 hAB⟩
theorem vx_Zqof {args : Array Value} {s : State} {C n d : String} {A : Nat → Prop} (hl : (Cond.laysStatic C n d).before args s = true) (hini : (Cond.initialized C).before args s = true) (h : (Cond.isRef (.static C n d)).before args s = true) (hA : ∀ a : Nat, a < s.heap.size → ¬ A a) : vx_Zq C n d A s s.heap := by
  refine ⟨va_Zqof hl hini h hA, ?_⟩
  obtain ⟨c, k, i, f, a, cell, h1, h2, h3, h4, h5, h6, h7, h8, h9⟩ := Cond.laysStatic_spec hl
  exact ⟨c, k, i, f, a, cell, h1, h2, h3, h4, h5, h6, h7, h8, h9, hA a (Array.getElem?_eq_some_iff.mp h5).1⟩
theorem vx_isRef {C n d : String} {v : Value} {A : Nat → Prop} {s : State} {args : Array Value} (h : va_Z C n d v A s s.heap) (hv : v.isRef = true) : (Cond.isRef (.static C n d)).before args s = true := by
  obtain ⟨cf, kf, fi, f, a, cell, h1, h2, h3, h4, h5, h6, h7, -⟩ := h
  have he : (Term.static C n d).eval args s none [] s = some v := by
    simp [Term.eval, State.fieldNamed?, h1, h2, h4, h5, h6, h7]
  simp only [Cond.before, Cond.holds, Cond.value, he]
  cases v <;> simp_all [Value.isRef]
theorem vx_isRefq {C n d : String} {A : Nat → Prop} {s : State} {args : Array Value} (h : va_Zq C n d A s s.heap) : (Cond.isRef (.static C n d)).before args s = true := by
  rcases h with h | ⟨t, h⟩
  · exact vx_isRef h rfl
  · exact vx_isRef h rfl
/-- the same frame, seen from here: as if the method were called anew in this heap -/
theorem vx_rebase {T : State} (X : Stand p l e R s m args below meth c T locs cells slots) {R' : Room} (hf : R'.frames ≤ R.frames) (hl : R'.locals ≤ R.locals) (hc : cells + R'.cells ≤ R.cells) (hs : slots + R'.slots ≤ R.slots) :
    Stand p l e R' ((T.setVm s.vm).setFrames (.invoking m args :: below)) m args below meth c T [] 0 0 := by
  have htop : (T.setVm s.vm).topJava?.isSome := X.here.top
  have hF : ((T.setVm s.vm).setFrames (.invoking m args :: below)).frames = .invoking m args :: below := State.frames_setFrames _ (State.cur_lt_of_top htop)
  obtain ⟨g₀, hg0⟩ := Option.isSome_iff_exists.mp htop
  obtain ⟨r, hr⟩ := State.topJava?_eq_some.mp hg0
  have hl9 : e.platform.stackLimits (T.setVm s.vm).me = e.platform.stackLimits s.me := X.limits
  have hb9 : (T.setVm s.vm).me.stackBytes = s.me.stackBytes := X.bytes
  refine ⟨X.admits, X.cas, X.clock, hF, ?_, X.hears, X.method, X.code, X.here, X.tail, X.warmed, ?_, ?_, ?_⟩
  · have h := X.room
    have hU : ((T.setVm s.vm).setFrames (.invoking m args :: below)).localsInUse = s.localsInUse := by
      rw [State.localsInUse_invoking hF (meth := meth) (c := c) X.method X.code, State.localsInUse_invoking X.frames X.method X.code]
    simp only [State.hasRoom, Bool.and_eq_true, decide_eq_true_eq] at h ⊢
    obtain ⟨⟨⟨⟨h1, h2, h3, h4, h5, h6⟩, h7⟩, h8⟩, h9⟩ := h
    rw [X.frames, List.length_cons] at h2 h3
    have q1 := X.heapSize
    have q2 := X.used
    simp only [hF, hU, List.length_cons, State.stackLimits_setFrames, State.stackBytes_setFrames, hl9, hb9]
    refine ⟨⟨⟨⟨by omega, by omega, by omega, by omega, by omega, h6⟩, ?_⟩, ?_⟩, X.book⟩
    · show T.heap.size + R'.cells ≤ e.platform.maxCells
      omega
    · show T.slotsUsed + R'.slots ≤ e.platform.maxSlots
      omega
  · rw [State.stackLimits_setFrames]; rfl
  · rw [State.stackBytes_setFrames]; rfl
  · refine ⟨?_, Nat.le_refl _, Nat.le_refl _, ?_, ?_, fun a c9 h9 => ⟨c9, h9, rfl, rfl, fun _ _ => rfl⟩⟩
    · obtain ⟨t, ht, -⟩ := State.frames_cons hr
      show T.setVm s.vm = { ((T.setVm s.vm).setFrames (.invoking m args :: below)).setFrames (T.setVm s.vm).frames with heap := T.heap, slotsUsed := T.slotsUsed }
      rw [State.setFrames_setFrames, State.setFrames_self ht]
      rfl
    · show T.slotsUsed = T.slotsUsed + ((T.heap.toList.drop T.heap.size).map (·.slots.size)).sum
      rw [List.drop_eq_nil_of_le (Nat.le_of_eq Array.length_toList)]
      rfl
    · show ((T.heap.toList.drop T.heap.size).map (·.slots.size)).sum ≤ 0
      rw [List.drop_eq_nil_of_le (Nat.le_of_eq Array.length_toList)]
      exact Nat.le_refl _
/-- 'throw new E()': new; dup; invokespecial; athrow -/
theorem vx_throw0 {cc : ByteArray} {pc : Nat} (hexec : p.tables.exec = Jvm.exec) (hb : c.code = cc) (hl : l.stackTraces = false) {own cls : String} {names : List String} {ik ic mc ms : Nat} {A : Nat → Prop}
    (hown : s.vm.findClass own = some m.cls) (hcls : Bundle.fit cls = true) (hnames : ∀ n ∈ names, Bundle.fit n = true)
    (hk : (Cond.classLink own ik cls).before args s = true) (hini : (Cond.initialized cls).before args s = true) (hat : ∀ w ∈ vx_at0 own ic cls names, w.before args s = true)
    (hgood : ∀ w ∈ Cond.classLink own ik cls :: Cond.initialized cls :: vx_at0 own ic cls names, vx_ot w = true)
    (hU : vx_Zq Bundle.tN "UNASSIGNED_STACK" Bundle.steD A s s.heap) (hN : vx_Zq Bundle.tN "SUPPRESSED_SENTINEL" Bundle.listD A s s.heap) (hS : va_S A s.heap H locs) (hsize : ls.size = c.maxLocals)
    (d0 : decode cc pc = .ok (.new ik, 3)) (d3 : decode cc (pc + 3) = .ok (.dup, 1)) (d4 : decode cc (pc + 4) = .ok (.invokespecial ic, 3)) (d7 : decode cc (pc + 7) = .ok (.athrow, 1))
    (hout : ∀ x ∈ c.exceptionTable.toList, covers x (pc + 7) = false)
    (hRframes : names.length + 3 < R.frames) (hRlocals : (rest.map fun v => v.category).sum + (13 * (names.length + 1) + 42) ≤ R.locals) (hRcells : cells + 1 ≤ R.cells) (hRslots : slots + 6 ≤ R.slots) (hlocks : meth.locks = false)
    (hx : ∀ t : State, s.vm.Alike t.vm → H.size ≤ t.heap.size → (∀ q : Nat, q < H.size → t.heap[q]? = H[q]?) → XC cls s t)
    (hf : ∀ z ∈ locs, free z.base) (hc : cells + 1 ≤ mc) (hs : slots + 6 ≤ ms) :
    W p l e R s m args below meth c H locs cells slots (vx_MQ below Qc XC args s mc ms free) (F0 m pc ls rest) := by
  intro T hT X
  have htr : e.platform.stackTraces = false := (show e.platform.stackTraces = l.stackTraces by rw [X.admits.platform]).trans hl
  have Y := vx_rebase X (R' := { frames := R.frames, locals := R.locals, cells := 1, slots := 6 }) (Nat.le_refl _) (Nat.le_refl _) hRcells hRslots
  obtain ⟨s', hA⟩ : ∃ z, z = (T.setVm s.vm).setFrames (.invoking m args :: below) := ⟨_, rfl⟩
  rw [← hA] at Y
  have hvm : s'.vm = s.vm := by rw [hA]; rfl
  have hhp : s'.heap = H := by rw [hA]; exact hT
  have hW0 : s.WarmedH s'.vm := by rw [hvm]; exact State.WarmedH.refl s
  have hat' : ∀ w ∈ vx_at0 own ic cls names, w.before args s' = true := fun w hw => vx_ot_at hW0 hvm.symm (hgood w (List.mem_cons_of_mem _ (List.mem_cons_of_mem _ hw))) (hat w hw)
  have hk' : (Cond.classLink own ik cls).before args s' = true := vx_ot_at hW0 hvm.symm (hgood _ List.mem_cons_self) hk
  have hini' : (Cond.initialized cls).before args s' = true := vx_ot_at hW0 hvm.symm (hgood _ (List.mem_cons_of_mem _ List.mem_cons_self)) hini
  have hU' : vx_Zq Bundle.tN "UNASSIGNED_STACK" Bundle.steD A s' s'.heap := by rw [hhp]; exact vx_Zq.moved hW0.alike (hU.kept hS.2.1)
  have hN' : vx_Zq Bundle.tN "SUPPRESSED_SENTINEL" Bundle.listD A s' s'.heap := by rw [hhp]; exact vx_Zq.moved hW0.alike (hN.kept hS.2.1)
  have h : ∀ w ∈ Bundle.ownAtoms0 own ic cls names, w.before args s' = true := vx_own hat' (vx_isRefq hU'.1) (vx_isRefq hN'.1) hU'.2.word hN'.2.word
  have hown' : s'.vm.findClass own = some m.cls := by rw [hvm]; exact hown
  have hins : (Cond.instantiable cls 6).before args s' = true := h _ (by simp [Bundle.ownAtoms0])
  obtain ⟨vm₁, cX, kX, hfX, hkX, -, -, X₁, st1⟩ := Y.newCold hexec (own := own) (C := cls) (index := ik) (n := 6) hown' hk' hins hini'
    (g := F0 m pc ls rest) rfl (by rw [hb]; exact d0) (Nat.le_refl _) (Nat.le_refl _)
  generalize hT1 : (T.setVm vm₁).pushCell { cls := cX, slots := kX.instanceTypes.map defaultValue, vm := .none } = T1 at X₁ st1
  have hcat : (Value.ref T.heap.size).category = 1 := rfl
  have hcellA : T1.heap[T.heap.size]? = some (freshCell cX kX) := by rw [← hT1]; exact State.heap_pushCell_size _ _
  have d3' : decode c.code (pc + 3) = .ok (.dup, 1) := by rw [hb]; exact d3
  obtain ⟨U, hsteps, hrun, hend, hW, hsame, ce, hce, hO⟩ := X₁.ctorThrow0 hexec htr (own := own) (cls := cls) (names := names) (ic := ic) hown' hcls hnames h (fun x hx => nomatch hx) hfX hkX hcellA (by rw [hhp, hT]; exact Nat.le_refl _)
    (g := { method := m, pc := pc + 4, locals := ls, stack := .ref T.heap.size :: .ref T.heap.size :: rest, locked := none }) rfl hsize rfl rfl (rest := rest) rfl
    (by rw [hb]; exact d4) (by rw [hb]; exact d7) hout hRframes (by simp only [List.map_cons, List.sum_cons, hcat]; omega) hlocks
  obtain ⟨f1, f2⟩ := vx_frame hsame
  rw [hhp] at f1 f2
  have hWs : s.WarmedH U.vm := State.WarmedH.trans hW0 hW
  have hcl : s.vm.findClass cls = some ce.cls := by
    have h9 := hO.cls
    rw [hvm] at h9
    exact h9
  have hall : s.sameButNew ({ U with vm := s.vm } : State) locs mc ms := by
    subst hA
    obtain ⟨e1, e2⟩ := hsame
    rw [State.setFrames_setFrames] at e1
    have h2 : (T.setVm s.vm).sameButNew ({ U with vm := s.vm } : State) [] (0 + 1) (0 + 6) := ⟨e1, e2⟩
    have h3 := X.same.trans h2
    rw [List.append_nil] at h3
    exact h3.mono hc hs
  refine ⟨U, ?_, .threw T.heap.size, hrun, hend, Or.inr ⟨T.heap.size, rfl, cls, ce, locs, hx U hWs.alike f1 (fun q hq => f2 q hq (fun z hz => nomatch hz)), hce, hO.vm, hcl, hWs, hall, hf⟩⟩
  refine st1 _ ?_
  show Steps p.tables e below (T1.setTop { method := m, pc := pc + 3, locals := ls, stack := .ref T.heap.size :: rest, locked := none }) _
  jvm_step X₁.here [X₁.here.top, hexec, d3', Value.category]
  exact hsteps
/-- 'throw new E("text")': new; dup; ldc; invokespecial; athrow -/
theorem vx_throwS {cc : ByteArray} {pc : Nat} (hexec : p.tables.exec = Jvm.exec) (hb : c.code = cc) (hl : l.stackTraces = false) {own cls text : String} {names : List String} {ik is ic mc ms sa : Nat} {A : Nat → Prop}
    (hown : s.vm.findClass own = some m.cls) (hcls : Bundle.fit cls = true) (hnames : ∀ n ∈ names, Bundle.fit n = true)
    (hk : (Cond.classLink own ik cls).before args s = true) (hini : (Cond.initialized cls).before args s = true) (hstr : vk_R own is text sa s) (hat : ∀ w ∈ vx_atS own ic cls names, w.before args s = true)
    (hgood : ∀ w ∈ Cond.classLink own ik cls :: Cond.initialized cls :: vx_atS own ic cls names, vx_ot w = true)
    (hU : vx_Zq Bundle.tN "UNASSIGNED_STACK" Bundle.steD A s s.heap) (hN : vx_Zq Bundle.tN "SUPPRESSED_SENTINEL" Bundle.listD A s s.heap) (hS : va_S A s.heap H locs) (hsize : ls.size = c.maxLocals)
    (d0 : decode cc pc = .ok (.new ik, 3)) (d3 : decode cc (pc + 3) = .ok (.dup, 1)) (d4 : decode cc (pc + 4) = .ok (.ldc is, 2)) (d6 : decode cc (pc + 6) = .ok (.invokespecial ic, 3)) (d9 : decode cc (pc + 9) = .ok (.athrow, 1))
    (hout : ∀ x ∈ c.exceptionTable.toList, covers x (pc + 9) = false)
    (hRframes : names.length + 3 < R.frames) (hRlocals : (rest.map fun v => v.category).sum + (13 * (names.length + 1) + 43) ≤ R.locals) (hRcells : cells + 1 ≤ R.cells) (hRslots : slots + 6 ≤ R.slots) (hlocks : meth.locks = false)
    (hx : ∀ t : State, s.vm.Alike t.vm → H.size ≤ t.heap.size → (∀ q : Nat, q < H.size → t.heap[q]? = H[q]?) → XC cls s t)
    (hf : ∀ z ∈ locs, free z.base) (hc : cells + 1 ≤ mc) (hs : slots + 6 ≤ ms) :
    W p l e R s m args below meth c H locs cells slots (vx_MQ below Qc XC args s mc ms free) (F0 m pc ls rest) := by
  intro T hT X
  have htr : e.platform.stackTraces = false := (show e.platform.stackTraces = l.stackTraces by rw [X.admits.platform]).trans hl
  have Y := vx_rebase X (R' := { frames := R.frames, locals := R.locals, cells := 1, slots := 6 }) (Nat.le_refl _) (Nat.le_refl _) hRcells hRslots
  obtain ⟨s', hA⟩ : ∃ z, z = (T.setVm s.vm).setFrames (.invoking m args :: below) := ⟨_, rfl⟩
  rw [← hA] at Y
  have hvm : s'.vm = s.vm := by rw [hA]; rfl
  have hhp : s'.heap = H := by rw [hA]; exact hT
  have hW0 : s.WarmedH s'.vm := by rw [hvm]; exact State.WarmedH.refl s
  have hat' : ∀ w ∈ vx_atS own ic cls names, w.before args s' = true := fun w hw => vx_ot_at hW0 hvm.symm (hgood w (List.mem_cons_of_mem _ (List.mem_cons_of_mem _ hw))) (hat w hw)
  have hk' : (Cond.classLink own ik cls).before args s' = true := vx_ot_at hW0 hvm.symm (hgood _ List.mem_cons_self) hk
  have hini' : (Cond.initialized cls).before args s' = true := vx_ot_at hW0 hvm.symm (hgood _ (List.mem_cons_of_mem _ List.mem_cons_self)) hini
  have hU' : vx_Zq Bundle.tN "UNASSIGNED_STACK" Bundle.steD A s' s'.heap := by rw [hhp]; exact vx_Zq.moved hW0.alike (hU.kept hS.2.1)
  have hN' : vx_Zq Bundle.tN "SUPPRESSED_SENTINEL" Bundle.listD A s' s'.heap := by rw [hhp]; exact vx_Zq.moved hW0.alike (hN.kept hS.2.1)
  have h : ∀ w ∈ Bundle.ownAtoms own ic cls names, w.before args s' = true := vx_own hat' (vx_isRefq hU'.1) (vx_isRefq hN'.1) hU'.2.word hN'.2.word
  have hown' : s'.vm.findClass own = some m.cls := by rw [hvm]; exact hown
  have hins : (Cond.instantiable cls 6).before args s' = true := h _ (by simp [Bundle.ownAtoms])
  obtain ⟨vm₁, cX, kX, hfX, hkX, -, -, X₁, st1⟩ := Y.newCold hexec (own := own) (C := cls) (index := ik) (n := 6) hown' hk' hins hini'
    (g := F0 m pc ls rest) rfl (by rw [hb]; exact d0) (Nat.le_refl _) (Nat.le_refl _)
  generalize hT1 : (T.setVm vm₁).pushCell { cls := cX, slots := kX.instanceTypes.map defaultValue, vm := .none } = T1 at X₁ st1
  have hcat : (Value.ref T.heap.size).category = 1 := rfl
  have hcellA : T1.heap[T.heap.size]? = some (freshCell cX kX) := by rw [← hT1]; exact State.heap_pushCell_size _ _
  have d3' : decode c.code (pc + 3) = .ok (.dup, 1) := by rw [hb]; exact d3
  have d4' : decode c.code (pc + 4) = .ok (.ldc is, 2) := by rw [hb]; exact d4
  have hstr' : vk_R own is text sa s' := vk_R.warm hW0 hstr
  obtain ⟨U, hsteps, hrun, hend, hW, hsame, ce, hce, hO⟩ := X₁.ctorThrowS hexec htr (own := own) (cls := cls) (names := names) (ic := ic) hown' hcls hnames h (fun x hx => nomatch hx) hfX hkX hcellA (by rw [hhp, hT]; exact Nat.le_refl _) (msg := .ref sa) rfl
    (g := { method := m, pc := pc + 6, locals := ls, stack := .ref sa :: .ref T.heap.size :: .ref T.heap.size :: rest, locked := none }) rfl hsize rfl rfl (rest := rest) rfl
    (by rw [hb]; exact d6) (by rw [hb]; exact d9) hout hRframes (by simp only [List.map_cons, List.sum_cons, hcat]; omega) hlocks
  obtain ⟨f1, f2⟩ := vx_frame hsame
  rw [hhp] at f1 f2
  have hWs : s.WarmedH U.vm := State.WarmedH.trans hW0 hW
  have hcl : s.vm.findClass cls = some ce.cls := by
    have h9 := hO.cls
    rw [hvm] at h9
    exact h9
  have hall : s.sameButNew ({ U with vm := s.vm } : State) locs mc ms := by
    subst hA
    obtain ⟨e1, e2⟩ := hsame
    rw [State.setFrames_setFrames] at e1
    have h2 : (T.setVm s.vm).sameButNew ({ U with vm := s.vm } : State) [] (0 + 1) (0 + 6) := ⟨e1, e2⟩
    have h3 := X.same.trans h2
    rw [List.append_nil] at h3
    exact h3.mono hc hs
  refine ⟨U, ?_, .threw T.heap.size, hrun, hend, Or.inr ⟨T.heap.size, rfl, cls, ce, locs, hx U hWs.alike f1 (fun q hq => f2 q hq (fun z hz => nomatch hz)), hce, hO.vm, hcl, hWs, hall, hf⟩⟩
  refine st1 _ ?_
  show Steps p.tables e below (T1.setTop { method := m, pc := pc + 3, locals := ls, stack := .ref T.heap.size :: rest, locked := none }) _
  jvm_step X₁.here [X₁.here.top, hexec, d3', Value.category]
  exact X₁.ldcString hexec (own := own) (text := text) (index := is) (a := sa) hown' hstr'.1 hstr'.2
    (g := { method := m, pc := pc + 4, locals := ls, stack := .ref T.heap.size :: .ref T.heap.size :: rest, locked := none }) rfl d4' _ hsteps
/-- 'throw new E("text")', the text by a wide index -/
theorem vx_throwSW {cc : ByteArray} {pc : Nat} (hexec : p.tables.exec = Jvm.exec) (hb : c.code = cc) (hl : l.stackTraces = false) {own cls text : String} {names : List String} {ik is ic mc ms sa : Nat} {A : Nat → Prop}
    (hown : s.vm.findClass own = some m.cls) (hcls : Bundle.fit cls = true) (hnames : ∀ n ∈ names, Bundle.fit n = true)
    (hk : (Cond.classLink own ik cls).before args s = true) (hini : (Cond.initialized cls).before args s = true) (hstr : vk_R own is text sa s) (hat : ∀ w ∈ vx_atS own ic cls names, w.before args s = true)
    (hgood : ∀ w ∈ Cond.classLink own ik cls :: Cond.initialized cls :: vx_atS own ic cls names, vx_ot w = true)
    (hU : vx_Zq Bundle.tN "UNASSIGNED_STACK" Bundle.steD A s s.heap) (hN : vx_Zq Bundle.tN "SUPPRESSED_SENTINEL" Bundle.listD A s s.heap) (hS : va_S A s.heap H locs) (hsize : ls.size = c.maxLocals)
    (d0 : decode cc pc = .ok (.new ik, 3)) (d3 : decode cc (pc + 3) = .ok (.dup, 1)) (d4 : decode cc (pc + 4) = .ok (.ldc_w is, 3)) (d7 : decode cc (pc + 7) = .ok (.invokespecial ic, 3)) (d10 : decode cc (pc + 10) = .ok (.athrow, 1))
    (hout : ∀ x ∈ c.exceptionTable.toList, covers x (pc + 10) = false)
    (hRframes : names.length + 3 < R.frames) (hRlocals : (rest.map fun v => v.category).sum + (13 * (names.length + 1) + 43) ≤ R.locals) (hRcells : cells + 1 ≤ R.cells) (hRslots : slots + 6 ≤ R.slots) (hlocks : meth.locks = false)
    (hx : ∀ t : State, s.vm.Alike t.vm → H.size ≤ t.heap.size → (∀ q : Nat, q < H.size → t.heap[q]? = H[q]?) → XC cls s t)
    (hf : ∀ z ∈ locs, free z.base) (hc : cells + 1 ≤ mc) (hs : slots + 6 ≤ ms) :
    W p l e R s m args below meth c H locs cells slots (vx_MQ below Qc XC args s mc ms free) (F0 m pc ls rest) := by
  intro T hT X
  have htr : e.platform.stackTraces = false := (show e.platform.stackTraces = l.stackTraces by rw [X.admits.platform]).trans hl
  have Y := vx_rebase X (R' := { frames := R.frames, locals := R.locals, cells := 1, slots := 6 }) (Nat.le_refl _) (Nat.le_refl _) hRcells hRslots
  obtain ⟨s', hA⟩ : ∃ z, z = (T.setVm s.vm).setFrames (.invoking m args :: below) := ⟨_, rfl⟩
  rw [← hA] at Y
  have hvm : s'.vm = s.vm := by rw [hA]; rfl
  have hhp : s'.heap = H := by rw [hA]; exact hT
  have hW0 : s.WarmedH s'.vm := by rw [hvm]; exact State.WarmedH.refl s
  have hat' : ∀ w ∈ vx_atS own ic cls names, w.before args s' = true := fun w hw => vx_ot_at hW0 hvm.symm (hgood w (List.mem_cons_of_mem _ (List.mem_cons_of_mem _ hw))) (hat w hw)
  have hk' : (Cond.classLink own ik cls).before args s' = true := vx_ot_at hW0 hvm.symm (hgood _ List.mem_cons_self) hk
  have hini' : (Cond.initialized cls).before args s' = true := vx_ot_at hW0 hvm.symm (hgood _ (List.mem_cons_of_mem _ List.mem_cons_self)) hini
  have hU' : vx_Zq Bundle.tN "UNASSIGNED_STACK" Bundle.steD A s' s'.heap := by rw [hhp]; exact vx_Zq.moved hW0.alike (hU.kept hS.2.1)
  have hN' : vx_Zq Bundle.tN "SUPPRESSED_SENTINEL" Bundle.listD A s' s'.heap := by rw [hhp]; exact vx_Zq.moved hW0.alike (hN.kept hS.2.1)
  have h : ∀ w ∈ Bundle.ownAtoms own ic cls names, w.before args s' = true := vx_own hat' (vx_isRefq hU'.1) (vx_isRefq hN'.1) hU'.2.word hN'.2.word
  have hown' : s'.vm.findClass own = some m.cls := by rw [hvm]; exact hown
  have hins : (Cond.instantiable cls 6).before args s' = true := h _ (by simp [Bundle.ownAtoms])
  obtain ⟨vm₁, cX, kX, hfX, hkX, -, -, X₁, st1⟩ := Y.newCold hexec (own := own) (C := cls) (index := ik) (n := 6) hown' hk' hins hini'
    (g := F0 m pc ls rest) rfl (by rw [hb]; exact d0) (Nat.le_refl _) (Nat.le_refl _)
  generalize hT1 : (T.setVm vm₁).pushCell { cls := cX, slots := kX.instanceTypes.map defaultValue, vm := .none } = T1 at X₁ st1
  have hcat : (Value.ref T.heap.size).category = 1 := rfl
  have hcellA : T1.heap[T.heap.size]? = some (freshCell cX kX) := by rw [← hT1]; exact State.heap_pushCell_size _ _
  have d3' : decode c.code (pc + 3) = .ok (.dup, 1) := by rw [hb]; exact d3
  have d4' : decode c.code (pc + 4) = .ok (.ldc_w is, 3) := by rw [hb]; exact d4
  have hstr' : vk_R own is text sa s' := vk_R.warm hW0 hstr
  obtain ⟨U, hsteps, hrun, hend, hW, hsame, ce, hce, hO⟩ := X₁.ctorThrowS hexec htr (own := own) (cls := cls) (names := names) (ic := ic) hown' hcls hnames h (fun x hx => nomatch hx) hfX hkX hcellA (by rw [hhp, hT]; exact Nat.le_refl _) (msg := .ref sa) rfl
    (g := { method := m, pc := pc + 7, locals := ls, stack := .ref sa :: .ref T.heap.size :: .ref T.heap.size :: rest, locked := none }) rfl hsize rfl rfl (rest := rest) rfl
    (by rw [hb]; exact d7) (by rw [hb]; exact d10) hout hRframes (by simp only [List.map_cons, List.sum_cons, hcat]; omega) hlocks
  obtain ⟨f1, f2⟩ := vx_frame hsame
  rw [hhp] at f1 f2
  have hWs : s.WarmedH U.vm := State.WarmedH.trans hW0 hW
  have hcl : s.vm.findClass cls = some ce.cls := by
    have h9 := hO.cls
    rw [hvm] at h9
    exact h9
  have hall : s.sameButNew ({ U with vm := s.vm } : State) locs mc ms := by
    subst hA
    obtain ⟨e1, e2⟩ := hsame
    rw [State.setFrames_setFrames] at e1
    have h2 : (T.setVm s.vm).sameButNew ({ U with vm := s.vm } : State) [] (0 + 1) (0 + 6) := ⟨e1, e2⟩
    have h3 := X.same.trans h2
    rw [List.append_nil] at h3
    exact h3.mono hc hs
  refine ⟨U, ?_, .threw T.heap.size, hrun, hend, Or.inr ⟨T.heap.size, rfl, cls, ce, locs, hx U hWs.alike f1 (fun q hq => f2 q hq (fun z hz => nomatch hz)), hce, hO.vm, hcl, hWs, hall, hf⟩⟩
  refine st1 _ ?_
  show Steps p.tables e below (T1.setTop { method := m, pc := pc + 3, locals := ls, stack := .ref T.heap.size :: rest, locked := none }) _
  jvm_step X₁.here [X₁.here.top, hexec, d3', Value.category]
  exact X₁.ldcStringW hexec (own := own) (text := text) (index := is) (a := sa) hown' hstr'.1 hstr'.2
    (g := { method := m, pc := pc + 4, locals := ls, stack := .ref T.heap.size :: .ref T.heap.size :: rest, locked := none }) rfl d4' _ hsteps
end Ends
section Bodies
variable {l : Launch}
theorem vx_ofW {y : MethodName} {ws ws' : List Cond} {rm : Room} {Pc : Array Value → State → Prop} {Qc : Array Value → State → Outcome → State → Prop} {XC : String → State → State → Prop} {mc ms : Nat} {free : Addr → Prop} {cc : ByteArray} {maxL : Nat} {ret : Option FieldType}
    (hy : plainName y.cls = true) (hw : ws = Cond.code y cc maxL ret :: ws')
    (body : ∀ p e s m args below meth c s₁, BodyLoose p l y (headSpec ws rm) cc maxL ret e s m args below meth c s₁ → c.maxLocals = maxL → (∀ x ∈ c.exceptionTable.toList, False) → Pc args s →
      W p l e (headSpec ws rm).room s m args below meth c s.heap [] 0 0 (vx_MQ below Qc XC args s mc ms free) (entryFrame m args maxL)) : vx_Met l y ws rm Pc Qc XC mc ms free := by
  refine MetFree.of_bodyS (code := cc) (maxLocals := maxL) (ret := ret) hy ?_ ?_
  · intro args s m h hn
    obtain ⟨meth, c, h1, h2, h3, h4, h5, h6, -, -⟩ := Cond.code_spec hn (atoms_spec (ws := ws) h _ (by rw [hw]; exact List.mem_cons_self))
    exact ⟨meth, c, h1, h2, h3, h4, h5, h6⟩
  · intro p e s m args below meth c s₁ B hml hP _
    have hh0 : s₁.heap = s.heap := by rw [B.state]; rfl
    have ht : ∀ x ∈ c.exceptionTable.toList, False := by
      obtain ⟨meth9, c9, h1, h2, -, -, -, -, h7, -⟩ := Cond.code_spec B.named (atoms_spec (ws := ws) B.pre _ (by rw [hw]; exact List.mem_cons_self))
      cases Option.some.inj (h1.symm.trans B.method)
      cases Option.some.inj (h2.symm.trans (Stand.of_body B).code)
      intro x hx
      rw [Array.isEmpty_iff.mp h7] at hx
      cases hx
    obtain ⟨t, a1, o, b1, b2, b3⟩ := body p e s m args below meth c s₁ B hml ht hP s₁ hh0 (Stand.of_body B)
    exact ⟨t, o, a1, b1, b2, b3⟩
/-- the table of a body with handlers -/
theorem vx_table {p : Program} {x y : MethodName} {S : Spec} {cc bytes : ByteArray} {maxL maxL' : Nat} {ret ret' : Option FieldType} {e : Env} {s s₁ : State} {m : MethodId} {args : Array Value} {below : List Frame} {meth : Method} {c : Code} {hh : List (Nat × Nat × Nat × Nat)}
    (B : BodyLoose p l y S cc maxL ret e s m args below meth c s₁) (h : (Cond.codeWith y bytes maxL' ret' hh).before args s = true) : c.exceptionTable.toList = tableOf hh := by
  obtain ⟨m9, meth9, c9, hn9, h1, h2, -, -, h6, -⟩ := Cond.codeWith_spec h
  cases Option.some.inj (hn9.symm.trans B.named)
  cases Option.some.inj (h1.symm.trans B.method)
  cases Option.some.inj (h2.symm.trans (Stand.of_body B).code)
  rw [← h6, table_eq]
end Bodies
end VXA
/-! ===== END ===== -/
/-! ===== BEGIN a static call of a method with an exception table ===== -/
section VXS
variable {p : Program} {l : Launch} {e : Env} {R : Room} {s : State} {m : MethodId} {args : Array Value} {below : List Frame} {meth : Method} {c : Code} {T : State} {H : Heap} {locs : List Loc} {cells slots : Nat}
abbrev vx_CSW (R : Room) (s : State) (args : Array Value) (own : String) (index : Nat) (y : MethodName) (bytes : ByteArray) (maxL : Nat) (ret : Option FieldType) (hh : List (Nat × Nat × Nat × Nat)) (ws : List Cond) (rm : Room) (mc ms n : Nat) : Prop :=
  (rm.cells = mc ∧ rm.slots = ms ∧ rm.frames + 1 ≤ R.frames ∧ 8 + (maxL + 11) + rm.locals ≤ R.locals ∧ (∀ w ∈ ws, ∀ (a' : Array Value) (U : State), s.WarmedH U.vm → w.before a' U = true) ∧ Cond.codeWith y bytes maxL ret hh ∈ ws) ∧
  (Cond.codeWith y bytes maxL ret hh).before args s = true ∧ (Cond.initialized y.cls).before args s = true ∧ (y.cls ≠ "java/lang/invoke/MethodHandle" ∧ y.cls ≠ "java/lang/invoke/VarHandle") ∧
  (∀ sig, parseMethodDescriptor y.desc = some sig → n = sig.parameters.length) ∧ (Cond.methodLink own index y).before args s = true ∧ (Cond.static y).before args s = true
theorem vx_cwSW {own : String} {index maxL mc ms : Nat} {y : MethodName} {bytes : ByteArray} {ret : Option FieldType} {hh : List (Nat × Nat × Nat × Nat)} {Ts ws ws' : List Cond} {rm : Room} (n : Nat) (ht : ∀ w ∈ Ts, w.before args s = true) (hT : GoodIn Ts (va_wsS own index y ws)) (hw : ws = Cond.codeWith y bytes maxL ret hh :: ws') (hrc : rm.cells = mc) (hrs : rm.slots = ms)
    (hd : y.cls ≠ "java/lang/invoke/MethodHandle" ∧ y.cls ≠ "java/lang/invoke/VarHandle" ∧ (parseMethodDescriptor y.desc).map (fun d => d.parameters.length) = some n) (hR : rm.frames + 1 ≤ R.frames ∧ 8 + (maxL + 11) + rm.locals ≤ R.locals) :
    vx_CSW R s args own index y bytes maxL ret hh ws rm mc ms n := by
  have ok : ∀ w ∈ va_wsS own index y ws, w.before args s = true := fun w h => ht w (hT w h).1
  have hG : GoodIn Ts ws := fun w h => hT w (by unfold va_wsS; exact List.mem_append_right _ h)
  have hc : Cond.codeWith y bytes maxL ret hh ∈ ws := by rw [hw]; exact List.mem_cons_self
  refine ⟨⟨hrc, hrs, hR.1, hR.2, pay_in ht hG, hc⟩, ht _ (hG _ hc).1, ok _ (by simp [va_wsS]), ⟨hd.1, hd.2.1⟩, fun sig h => ?_, ok _ (by simp [va_wsS]), ok _ (by simp [va_wsS])⟩
  have h2 := hd.2.2
  rw [h] at h2
  exact (Option.some.inj h2).symm
theorem vx_callSW (X : Stand p l e R s m args below meth c T locs cells slots) (hexec : p.tables.exec = Jvm.exec) {own : String} {index : Nat} {y : MethodName} {bytes : ByteArray} {maxL : Nat} {ret : Option FieldType} {hh : List (Nat × Nat × Nat × Nat)}
    (hown : s.vm.findClass own = some m.cls) (hlink : (Cond.methodLink own index y).before args s = true) (hstat : (Cond.static y).before args s = true) (hinit : (Cond.initialized y.cls).before args s = true)
    (hcode : (Cond.codeWith y bytes maxL ret hh).before args s = true) (hy : y.cls ≠ "java/lang/invoke/MethodHandle" ∧ y.cls ≠ "java/lang/invoke/VarHandle")
    {W9 : Nat} {Pre : Pt → Array Value → Prop} {Post : Pt → Array Value → Option Value → Pt → Prop} (hK : Back l R p e below s args y 3 W9 Pre Post)
    {g : JFrame} (hg : g.method = m) (hsize : g.locals.size = c.maxLocals) {argsL rest : List Value} (hlen : ∀ sig, parseMethodDescriptor y.desc = some sig → argsL.length = sig.parameters.length)
    (hstack : g.stack = argsL.reverse ++ rest) (hW : 2 * g.monitorRoom + (rest.map fun v => v.category).sum ≤ W9) (hdg : decode c.code g.pc = .ok (.invokestatic index, 3))
    (hpre : ∀ vm₁, s.WarmedH vm₁ → Pre ⟨T.setVm vm₁, locs, cells, slots⟩ argsL.toArray) :
    ∃ (v : Option Value) (vm₁ : Vm) (B : Pt), s.WarmedH vm₁ ∧ Stand p l e R s m args below meth c B.U B.locs B.cells B.slots ∧ Post ⟨T.setVm vm₁, locs, cells, slots⟩ argsL.toArray v B ∧
      ∀ target, Steps p.tables e below (B.U.setTop { g with pc := g.pc + 3, stack := v.toList ++ rest }) target → Steps p.tables e below (T.setTop g) target := by
  obtain ⟨mk, methM, cM, hnamed, hmethM, -, -, -, -, -, -, hsigM⟩ := Cond.codeWith_spec hcode
  have hstatic : methM.isStatic = true := Cond.static_spec hnamed hmethM hstat
  obtain ⟨kP, hkP, -⟩ := className_of_methodNamed hnamed
  have hinitP : kP.init = .initialized := Cond.initialized_spec (findClass_of_methodNamed hnamed) hkP hinit
  obtain ⟨vm₁, X₁, hstep₁⟩ := X.invokestatic hexec hown hlink hnamed hmethM hstatic hkP hinitP hy (g := g) hg (argsL := argsL) (rest := rest) (hlen _ hsigM) hstack hdg
  obtain ⟨v, B, X', hpost, hsteps⟩ := hK m meth c ⟨T.setVm vm₁, locs, cells, slots⟩ { g with stack := rest } (.invokestatic index) mk argsL.toArray X₁ hg hsize hdg hW (X₁.named hnamed) (hpre vm₁ X₁.warmed)
  exact ⟨v, vm₁, B, X₁.warmed, X', hpost, fun target h => hstep₁ _ fun acts => by rw [doInvoke_state]; exact hsteps.trans h⟩
theorem vx_runSW {y : MethodName} {bytes cc : ByteArray} {maxL nL mc ms n index : Nat} {ret : Option FieldType} {hh : List (Nat × Nat × Nat × Nat)} {ws : List Cond} {rm : Room} {Pc : Array Value → State → Prop} {Qc : Array Value → State → Outcome → State → Prop} {free : Addr → Prop} {Ts : List Cond} {own : String} {As rest : List Value} {g : JFrame}
    (S : CallFix p m c cc nL s args Ts own) (hM : Met l y ws rm Pc Qc mc ms free) (cw : vx_CSW R s args own index y bytes maxL ret hh ws rm mc ms n) (hp : PreS s H Pc As)
    (hg : g.method = m) (hn : As.length = n) (hsize : g.locals.size = nL) (hstack : g.stack = As.reverse ++ rest) (hW : 2 * g.monitorRoom + (rest.map fun v => v.category).sum ≤ 8) (hdg : decode cc g.pc = .ok (.invokestatic index, 3)) (hf : cells + mc ≤ R.cells ∧ slots + ms ≤ R.slots) :
    va_Run p l e R s m args below meth c H locs cells slots mc ms g rest (Qc As.toArray) (free) := by
  obtain ⟨⟨hrc, hrs, hfr, hlo, hws, hcw⟩, hcode, hini, hy, hlen, hl, hstt⟩ := cw
  have hK : Back l R p e below s args y 3 8 (PreOf R mc ms Pc) (PostOf Qc mc ms free) := va_backW (hh := hh) (bytes := bytes) (maxL := maxL) (ret := ret) hM hp.1 hrc hrs hfr hlo hws hcw (fun a' U hW => word_at hW (Or.inl (by first | rfl | simp [Cond.onTables, Cond.keeps, Cond.steady])) hini)
  obtain ⟨hx, hb, hml, ho, -⟩ := S
  intro T hT X
  obtain ⟨v, vm₁, ⟨U', l2, c2, s2⟩, hW₁, X', ⟨g', mk, t, L, e1, e2, hq, h1, hL, h2, h3⟩, st⟩ := vx_callSW X hx (hh := hh) (bytes := bytes) (maxL := maxL) (ret := ret) ho hl hstt hini hcode hy hK hg (hsize.trans hml.symm) (argsL := As) (rest := rest) (fun sig h => hn.trans (hlen sig h)) hstack hW (by rw [hb]; exact hdg)
    (fun vm₁ hW₁ => ⟨hf.1, hf.2, hp.2 (T.setVm vm₁) hT hW₁⟩)
  dsimp only [Pt.U, Pt.locs, Pt.cells, Pt.slots] at X' e1 e2 h1 h2 h3 st
  subst h1; subst h2; subst h3
  exact ⟨v, (T.setVm vm₁).calling g' mk As.toArray, t, U', L, hT, X', hL, e1, e2, hq, st⟩
/-- not caught here, past rows that name other classes: it goes on to the caller -/
theorem vx_outP {p : Program} {l : Launch} {e : Env} {R : Room} {s : State} {m : MethodId} {args : Array Value} {below : List Frame} {meth : Method} {c : Code} {H : Heap} {locs : List Loc} {cells slots : Nat} {free : Addr → Prop} {ls : Array Slot} {rest : List Value} {Qc : Array Value → State → Outcome → State → Prop} {XC : String → State → State → Prop}
    {pc : Nat} {own E : String} {ce : Cell} {q : Addr} {mc ms : Nat} (hown : s.vm.findClass own = some m.cls) (hlocks : meth.locks = false)
    (hpass : ∀ z ∈ c.exceptionTable.toList, covers z pc = false ∨ (z.catchType ≠ 0 ∧ ∃ nm : String, (Cond.classLink own z.catchType nm).before args s = true ∧ va_Nc E nm s)) (hcell : H[q]? = some ce) (hv : ce.vm = .none) (hcl : s.vm.findClass E = some ce.cls)
    (hx : ∀ t : State, t.heap = H → s.vm.Alike t.vm → XC E s t) (hf : ∀ z ∈ locs, free z.base) (hc : cells ≤ mc) (hs : slots ≤ ms) :
    vx_W p l e R s m args below meth c H locs cells slots (vx_MQ below Qc XC args s mc ms free) (F0 m pc ls rest) q := by
  intro T hT X
  have hpl : e.platform.magicAccessors = ({} : Platform).magicAccessors := by rw [X.admits.platform]
  obtain ⟨vm', hW', X', st⟩ := X.outThrough hlocks q (g := F0 m pc ls rest) rfl rfl rfl (cell := ce) (by rw [hT]; exact hcell) (by rw [hv]; rfl)
    (by obtain ⟨k9, h9, -⟩ := Vm.findClass_spec hcl; exact ⟨k9, h9⟩) (fun z hz => by
      rcases hpass z hz with h | ⟨hz0, nm, hl1, hn1⟩
      · exact Or.inl h
      · obtain ⟨c6, hc6, hcl6⟩ := Cond.classLink_spec hown hl1 e.platform hpl
        obtain ⟨a8, b8, h1, h2, h3⟩ := hn1
        cases Option.some.inj (h1.symm.trans hcl)
        cases Option.some.inj (h2.symm.trans hc6)
        exact Or.inr ⟨hz0, _, hcl6, h3⟩)
  obtain ⟨g₀, hfr⟩ := X'.frames_eq
  have hcell9 : ((T.setVm vm').setFrames (.throwing q :: below)).heap[q]? = some ce := by
    show T.heap[q]? = some ce
    rw [hT]; exact hcell
  have hend : Ended ((T.setVm vm').setFrames (.throwing q :: below)) below (.threw q) := State.frames_setFrames _ (State.cur_lt_of_frames hfr)
  refine ⟨(T.setVm vm').setFrames (.throwing q :: below), ?_, .threw q, X'.here.running, hend, Or.inr ⟨q, rfl, E, ce, locs, hx _ hT (X'.ends _).1.alike, hcell9, hv, hcl, (X'.ends _).1, (X'.ends _).2.mono hc hs, hf⟩⟩
  rw [X.pushThrowing_eq]
  exact st
/-- a thing of a world lies in the heap -/
theorem vx_lt {D : va_G} {cl : List vw_C} {ws : va_W} {H1 : Heap} (h : va_P D cl ws H1) {k : Nat} {q : Nat × va_E} (hk : ws[k]? = some q) : q.1 < H1.size := (h k q hk).lt
end VXS
/-! ===== END ===== -/
/-! ===== BEGIN methods with a table of their own: called by a name, returning or throwing ===== -/
section VXH
/-! vx_backW, vx_callVX, vx_callSX, vx_callVW, vx_runVW, vx_runVX, vx_runSX, vx_ofWH follow the same proofs as their sisters above (Free/Laws.lean, Shelf42/LK1.lean); vx_outP calls Shelf42/NT130.lean (outThrough). -/
section
variable {l : Launch} {R : Room} {p : Program} {e : Env} {below : List Frame} {s : State} {sargs : Array Value} {y : MethodName} {len W9 : Nat}
theorem vx_backW {ws : List Cond} {rm : Room} {Pc : Array Value → State → Prop} {Qc : Array Value → State → Outcome → State → Prop} {XC : String → State → State → Prop} {mc ms : Nat} {free : Addr → Prop} {bytes : ByteArray} {maxL : Nat} {ret : Option FieldType} {hh : List (Nat × Nat × Nat × Nat)}
    (hM : vx_Met l y ws rm Pc Qc XC mc ms free) (hblind : FrameBlind Pc) (hrc : rm.cells = mc) (hrs : rm.slots = ms)
    (hframes : rm.frames + 1 ≤ R.frames) (hlocals : W9 + (maxL + 11) + rm.locals ≤ R.locals)
    (hws : ∀ w ∈ ws, ∀ a' U, s.WarmedH U.vm → w.before a' U = true) (hcode : Cond.codeWith y bytes maxL ret hh ∈ ws) (hinit : ∀ a' U, s.WarmedH U.vm → (Cond.initialized y.cls).before a' U = true) :
    vx_Back l R p e below s sargs y len W9 (PreOf R mc ms Pc) (PostOf Qc mc ms free) (vx_Post XC mc ms free) := by
  intro m meth c A g ig mk a X hg hsize hdg hW hn hp
  have h1 : (headSpec ws rm).pre.before a A.U = true := atoms_intro fun w hw => hws w hw _ _ X.warmed
  have h2 : (Cond.codeWith y bytes maxL ret hh).before a A.U = true := hws _ hcode _ _ X.warmed
  have h3 : (Cond.initialized y.cls).before a A.U = true := hinit _ _ X.warmed
  have h4 : A.cells + (headSpec ws rm).room.cells ≤ R.cells := by rw [show (headSpec ws rm).room.cells = mc from hrc]; exact hp.1
  have h5 : A.slots + (headSpec ws rm).room.slots ≤ R.slots := by rw [show (headSpec ws rm).room.slots = ms from hrs]; exact hp.2.1
  have hPc : Pc a (A.U.calling g mk a) := hblind _ _ _ _ hp.2.2
  obtain ⟨U, Ls, c0, s0⟩ := A
  dsimp only [Pt.U, Pt.locs, Pt.cells, Pt.slots] at h1 h2 h3 h4 h5 X hn hPc ⊢
  obtain ⟨m9, methY, cY, hn9, hmY, hcY, -, hlY, -⟩ := Cond.codeWith_spec h2
  cases Option.some.inj (hn9.symm.trans hn)
  obtain ⟨kY, hkY, -⟩ := className_of_methodNamed hn
  have hinitY : kY.init = .initialized := Cond.initialized_spec (findClass_of_methodNamed hn) hkY h3
  have h : At U g.method c below := by rw [hg]; exact X.here
  have hlocals9 : W9 + (maxL + 11) + (headSpec ws rm).room.locals ≤ R.locals := hlocals
  have happ : (headSpec ws rm).appliesLoose y e.platform (U.calling g mk a) = true :=
    Spec.appliesLoose_calling (g := g) h hdg hn hkY hinitY
      (X.room_calling (g := g) (R' := (headSpec ws rm).room) hsize hmY hcY hframes (by rw [hlY]; omega) h4 h5) h1
  obtain ⟨mid, hmid⟩ := h.above
  have hfr : (U.setTop g).frames = (.java g :: mid) ++ below := by rw [State.frames_setTop' g h.top, hmid]; rfl
  obtain ⟨o, s₂, hsteps, -, hend, hq⟩ := Steps.callFree hM p X.admits X.cas X.clock (acts := []) hfr happ hPc trivial
  have hq' : vx_Q Qc XC mc ms free a (U.calling g mk a) o s₂ := hq
  rw [State.frames_setTop' g h.top] at hend
  obtain ⟨g₀, hg0⟩ := Option.isSome_iff_exists.mp h.top
  obtain ⟨r, hr⟩ := State.topJava?_eq_some.mp hg0
  have hr' : (({ U with heap := s₂.heap, slotsUsed := s₂.slotsUsed } : State).setVm s₂.vm).frames = .java g₀ :: r := hr
  rcases hq' with ⟨hqc, L, hfe, hL⟩ | ⟨q, rfl, E, ce, L, hx, hce, hcv, hcl, hW₂, hsm, hL⟩
  · obtain ⟨⟨v, rfl⟩, hW₂, e2, q2, q3, q4, q5, q6⟩ := id hfe
    have e3 : s₂ = ({ (U.calling g mk a).setFrames s₂.frames with heap := s₂.heap, slotsUsed := s₂.slotsUsed } : State).setVm s₂.vm := by
      have : s₂ = ({ s₂ with vm := (U.calling g mk a).vm } : State).setVm s₂.vm := rfl
      rw [e2] at this
      exact this
    obtain ⟨c₂, i₂, len₂, hc₂, hd₂, hf₂⟩ := hend
    have hW' : U.WarmedH s₂.vm := hW₂
    have hcc : c₂ = c := by
      have h1 : s₂.code? g.method = U.code? g.method := by
        rw [State.code?_eq, State.code?_eq, hW'.alike.method?]
      exact Option.some.inj (hc₂.symm.trans (h1.trans h.code))
    subst hcc
    have hlen : len₂ = len := by rw [hdg] at hd₂; cases hd₂; rfl
    subst hlen
    have hs₂ : s₂ = (({ U with heap := s₂.heap, slotsUsed := s₂.slotsUsed } : State).setVm s₂.vm).setTop { g with pc := g.pc + len₂, stack := v.toList ++ g.stack } := by
      refine e3.trans ?_
      rw [hf₂, State.calling_eq h.top, State.setFrames_setFrames, State.setTop_of_frames _ hr', hr]
      rfl
    have hsame : U.sameButNew ({ U with heap := s₂.heap, slotsUsed := s₂.slotsUsed } : State) L mc ms := by
      refine ⟨?_, q2, q3, q4, q5, q6⟩
      obtain ⟨t, ht, -⟩ := State.frames_cons hr
      show ({ U with heap := s₂.heap, slotsUsed := s₂.slotsUsed } : State) = { U.setFrames U.frames with heap := s₂.heap, slotsUsed := s₂.slotsUsed }
      rw [State.setFrames_self ht]
    subst hg
    refine Or.inl ⟨v, ⟨(({ U with heap := s₂.heap, slotsUsed := s₂.slotsUsed } : State).setVm s₂.vm), Ls ++ L, c0 + mc, s0 + ms⟩,
      ⟨X.admits, X.cas, X.clock, X.frames, X.room, X.hears, X.method, X.code, (X.here.setHeapUsed s₂.heap s₂.slotsUsed).setVm hW'.alike, X.tail, State.WarmedH.trans X.warmed hW', X.limits, X.bytes, X.same.trans (hsame.setVm s.vm)⟩,
      ⟨g, mk, s₂, L, rfl, rfl, hqc, rfl, hL, rfl, rfl⟩, ?_⟩
    show Steps p.tables e below _ ((({ U with heap := s₂.heap, slotsUsed := s₂.slotsUsed } : State).setVm s₂.vm).setTop { g with pc := g.pc + len₂, stack := v.toList ++ g.stack })
    rw [← hs₂]
    exact hsteps
  · obtain ⟨e2, q2, q3, q4, q5, q6⟩ := id hsm
    have e3 : s₂ = ({ (U.calling g mk a).setFrames s₂.frames with heap := s₂.heap, slotsUsed := s₂.slotsUsed } : State).setVm s₂.vm := by
      have : s₂ = ({ s₂ with vm := (U.calling g mk a).vm } : State).setVm s₂.vm := rfl
      rw [e2] at this
      exact this
    have hf₂ : s₂.frames = .throwing q :: .java g :: U.frames.tail := hend
    have hW' : U.WarmedH s₂.vm := hW₂
    have hs₂ : s₂ = ((({ U with heap := s₂.heap, slotsUsed := s₂.slotsUsed } : State).setVm s₂.vm).setTop g).pushFrame (.throwing q) := by
      refine e3.trans ?_
      rw [hf₂, State.calling_eq h.top, State.setFrames_setFrames, State.pushFrame, State.frames_setTop _ hr', State.setTop_of_frames _ hr', State.setFrames_setFrames, hr]
      rfl
    have hsame : U.sameButNew ({ U with heap := s₂.heap, slotsUsed := s₂.slotsUsed } : State) L mc ms := by
      refine ⟨?_, q2, q3, q4, q5, q6⟩
      obtain ⟨t, ht, -⟩ := State.frames_cons hr
      show ({ U with heap := s₂.heap, slotsUsed := s₂.slotsUsed } : State) = { U.setFrames U.frames with heap := s₂.heap, slotsUsed := s₂.slotsUsed }
      rw [State.setFrames_self ht]
    subst hg
    refine Or.inr ⟨q, ⟨(({ U with heap := s₂.heap, slotsUsed := s₂.slotsUsed } : State).setVm s₂.vm), Ls ++ L, c0 + mc, s0 + ms⟩,
      ⟨X.admits, X.cas, X.clock, X.frames, X.room, X.hears, X.method, X.code, (X.here.setHeapUsed s₂.heap s₂.slotsUsed).setVm hW'.alike, X.tail, State.WarmedH.trans X.warmed hW', X.limits, X.bytes, X.same.trans (hsame.setVm s.vm)⟩,
      ⟨g, mk, s₂, L, E, ce, rfl, rfl, hx, hce, hcv, hcl, rfl, hL, rfl, rfl⟩, ?_⟩
    show Steps p.tables e below _ (((({ U with heap := s₂.heap, slotsUsed := s₂.slotsUsed } : State).setVm s₂.vm).setTop g).pushFrame (.throwing q))
    rw [← hs₂]
    exact hsteps
end
variable {p : Program} {l : Launch} {e : Env} {R : Room} {s : State} {m : MethodId} {args : Array Value} {below : List Frame} {meth : Method} {c : Code} {T : State} {H : Heap} {locs : List Loc} {cells slots : Nat}
theorem vx_callVX (X : Stand p l e R s m args below meth c T locs cells slots) (hexec : p.tables.exec = Jvm.exec) {own C : String} {index : Nat} {y : MethodName} {bytes : ByteArray} {maxL : Nat} {ret : Option FieldType} {hh : List (Nat × Nat × Nat × Nat)}
    (hown : s.vm.findClass own = some m.cls) (hlink : (Cond.methodLink own index y).before args s = true) (hinst : (Cond.instanceMethod y).before args s = true) (hsel : (Cond.selects C y y).before args s = true)
    (hcode : (Cond.codeWith y bytes maxL ret hh).before args s = true) (hy : y.cls ≠ "java/lang/invoke/MethodHandle" ∧ y.cls ≠ "java/lang/invoke/VarHandle")
    {W9 : Nat} {Pre : Pt → Array Value → Prop} {Post : Pt → Array Value → Option Value → Pt → Prop} {PostX : Pt → Array Value → Addr → Pt → Prop} (hK : vx_Back l R p e below s args y 3 W9 Pre Post PostX)
    {b : Addr} {cellB : Cell} (hcell : T.heap[b]? = some cellB) (hobj : cellB.vm.isStatics = false) (hcls : s.vm.findClass C = some cellB.cls)
    {g : JFrame} (hg : g.method = m) (hsize : g.locals.size = c.maxLocals) {argsL rest : List Value} (hlen : ∀ sig, parseMethodDescriptor y.desc = some sig → argsL.length = sig.parameters.length)
    (hstack : g.stack = argsL.reverse ++ .ref b :: rest) (hW : 2 * g.monitorRoom + (rest.map fun v => v.category).sum ≤ W9) (hdg : decode c.code g.pc = .ok (.invokevirtual index, 3))
    (hpre : ∀ vm₁, s.WarmedH vm₁ → Pre ⟨T.setVm vm₁, locs, cells, slots⟩ (Value.ref b :: argsL).toArray) :
    (∃ (v : Option Value) (vm₁ : Vm) (B : Pt), s.WarmedH vm₁ ∧ Stand p l e R s m args below meth c B.U B.locs B.cells B.slots ∧ Post ⟨T.setVm vm₁, locs, cells, slots⟩ (Value.ref b :: argsL).toArray v B ∧
      ∀ target, Steps p.tables e below (B.U.setTop { g with pc := g.pc + 3, stack := v.toList ++ rest }) target → Steps p.tables e below (T.setTop g) target) ∨
    (∃ (q : Addr) (vm₁ : Vm) (B : Pt), s.WarmedH vm₁ ∧ Stand p l e R s m args below meth c B.U B.locs B.cells B.slots ∧ PostX ⟨T.setVm vm₁, locs, cells, slots⟩ (Value.ref b :: argsL).toArray q B ∧
      Steps p.tables e below (T.setTop g) ((B.U.setTop { g with stack := rest }).pushFrame (.throwing q))) := by
  obtain ⟨mk, methM, hnamed, hmethM, hstM, habM⟩ := Cond.instanceMethod_spec hinst
  obtain ⟨m8, methM', cM, hn8, hmethM', -, -, -, -, -, -, hsigM⟩ := Cond.codeWith_spec hcode
  cases Option.some.inj (hn8.symm.trans hnamed)
  cases hmethM.symm.trans hmethM'
  obtain ⟨c2, r2, m2, q1, q2, q3, q4, kP, hkP, hkPi⟩ := Cond.selects_spec hsel
  cases hcls.symm.trans q1
  cases (State.methodFound?_of_named hnamed hy).symm.trans q2
  cases hnamed.symm.trans q3
  have hselP : selectMethod e.platform s.vm cellB.cls mk = .method mk := by rw [Launch.admits_selectMethod X.admits]; exact q4
  obtain ⟨vm₁, X₁, hstep₁⟩ := X.invokevirtual hexec hown hlink hnamed hmethM hstM hkP hkPi hy (a := b) (cell := cellB) hcell
    (fun z h => by rw [h] at hobj; cases hobj) hselP hmethM habM hkP hkPi (g := g) hg (argsL := argsL) (rest := rest) (hlen _ hsigM) hstack hdg
  rcases hK m meth c ⟨T.setVm vm₁, locs, cells, slots⟩ { g with stack := rest } (.invokevirtual index) mk (Value.ref b :: argsL).toArray X₁ hg hsize hdg hW (X₁.named hnamed) (hpre vm₁ X₁.warmed) with ⟨v, B, X', hpost, hsteps⟩ | ⟨q, B, X', hpost, hsteps⟩
  · exact Or.inl ⟨v, vm₁, B, X₁.warmed, X', hpost, fun target h => hstep₁ _ fun acts => by rw [doInvoke_state]; exact hsteps.trans h⟩
  · exact Or.inr ⟨q, vm₁, B, X₁.warmed, X', hpost, hstep₁ _ fun acts => by rw [doInvoke_state]; exact hsteps⟩
theorem vx_callSX (X : Stand p l e R s m args below meth c T locs cells slots) (hexec : p.tables.exec = Jvm.exec) {own : String} {index : Nat} {y : MethodName} {bytes : ByteArray} {maxL : Nat} {ret : Option FieldType} {hh : List (Nat × Nat × Nat × Nat)}
    (hown : s.vm.findClass own = some m.cls) (hlink : (Cond.methodLink own index y).before args s = true) (hstat : (Cond.static y).before args s = true) (hinit : (Cond.initialized y.cls).before args s = true)
    (hcode : (Cond.codeWith y bytes maxL ret hh).before args s = true) (hy : y.cls ≠ "java/lang/invoke/MethodHandle" ∧ y.cls ≠ "java/lang/invoke/VarHandle")
    {W9 : Nat} {Pre : Pt → Array Value → Prop} {Post : Pt → Array Value → Option Value → Pt → Prop} {PostX : Pt → Array Value → Addr → Pt → Prop} (hK : vx_Back l R p e below s args y 3 W9 Pre Post PostX)
    {g : JFrame} (hg : g.method = m) (hsize : g.locals.size = c.maxLocals) {argsL rest : List Value} (hlen : ∀ sig, parseMethodDescriptor y.desc = some sig → argsL.length = sig.parameters.length)
    (hstack : g.stack = argsL.reverse ++ rest) (hW : 2 * g.monitorRoom + (rest.map fun v => v.category).sum ≤ W9) (hdg : decode c.code g.pc = .ok (.invokestatic index, 3))
    (hpre : ∀ vm₁, s.WarmedH vm₁ → Pre ⟨T.setVm vm₁, locs, cells, slots⟩ argsL.toArray) :
    (∃ (v : Option Value) (vm₁ : Vm) (B : Pt), s.WarmedH vm₁ ∧ Stand p l e R s m args below meth c B.U B.locs B.cells B.slots ∧ Post ⟨T.setVm vm₁, locs, cells, slots⟩ argsL.toArray v B ∧
      ∀ target, Steps p.tables e below (B.U.setTop { g with pc := g.pc + 3, stack := v.toList ++ rest }) target → Steps p.tables e below (T.setTop g) target) ∨
    (∃ (q : Addr) (vm₁ : Vm) (B : Pt), s.WarmedH vm₁ ∧ Stand p l e R s m args below meth c B.U B.locs B.cells B.slots ∧ PostX ⟨T.setVm vm₁, locs, cells, slots⟩ argsL.toArray q B ∧
      Steps p.tables e below (T.setTop g) ((B.U.setTop { g with stack := rest }).pushFrame (.throwing q))) := by
  obtain ⟨mk, methM, cM, hnamed, hmethM, -, -, -, -, -, -, hsigM⟩ := Cond.codeWith_spec hcode
  have hstatic : methM.isStatic = true := Cond.static_spec hnamed hmethM hstat
  obtain ⟨kP, hkP, -⟩ := className_of_methodNamed hnamed
  have hinitP : kP.init = .initialized := Cond.initialized_spec (findClass_of_methodNamed hnamed) hkP hinit
  obtain ⟨vm₁, X₁, hstep₁⟩ := X.invokestatic hexec hown hlink hnamed hmethM hstatic hkP hinitP hy (g := g) hg (argsL := argsL) (rest := rest) (hlen _ hsigM) hstack hdg
  rcases hK m meth c ⟨T.setVm vm₁, locs, cells, slots⟩ { g with stack := rest } (.invokestatic index) mk argsL.toArray X₁ hg hsize hdg hW (X₁.named hnamed) (hpre vm₁ X₁.warmed) with ⟨v, B, X', hpost, hsteps⟩ | ⟨q, B, X', hpost, hsteps⟩
  · exact Or.inl ⟨v, vm₁, B, X₁.warmed, X', hpost, fun target h => hstep₁ _ fun acts => by rw [doInvoke_state]; exact hsteps.trans h⟩
  · exact Or.inr ⟨q, vm₁, B, X₁.warmed, X', hpost, hstep₁ _ fun acts => by rw [doInvoke_state]; exact hsteps⟩
theorem vx_callVW (X : Stand p l e R s m args below meth c T locs cells slots) (hexec : p.tables.exec = Jvm.exec) {own C : String} {index : Nat} {y : MethodName} {bytes : ByteArray} {maxL : Nat} {ret : Option FieldType} {hh : List (Nat × Nat × Nat × Nat)}
    (hown : s.vm.findClass own = some m.cls) (hlink : (Cond.methodLink own index y).before args s = true) (hinst : (Cond.instanceMethod y).before args s = true) (hsel : (Cond.selects C y y).before args s = true)
    (hcode : (Cond.codeWith y bytes maxL ret hh).before args s = true) (hy : y.cls ≠ "java/lang/invoke/MethodHandle" ∧ y.cls ≠ "java/lang/invoke/VarHandle")
    {W9 : Nat} {Pre : Pt → Array Value → Prop} {Post : Pt → Array Value → Option Value → Pt → Prop} (hK : Back l R p e below s args y 3 W9 Pre Post)
    {b : Addr} {cellB : Cell} (hcell : T.heap[b]? = some cellB) (hobj : cellB.vm.isStatics = false) (hcls : s.vm.findClass C = some cellB.cls)
    {g : JFrame} (hg : g.method = m) (hsize : g.locals.size = c.maxLocals) {argsL rest : List Value} (hlen : ∀ sig, parseMethodDescriptor y.desc = some sig → argsL.length = sig.parameters.length)
    (hstack : g.stack = argsL.reverse ++ .ref b :: rest) (hW : 2 * g.monitorRoom + (rest.map fun v => v.category).sum ≤ W9) (hdg : decode c.code g.pc = .ok (.invokevirtual index, 3))
    (hpre : ∀ vm₁, s.WarmedH vm₁ → Pre ⟨T.setVm vm₁, locs, cells, slots⟩ (Value.ref b :: argsL).toArray) :
    ∃ (v : Option Value) (vm₁ : Vm) (B : Pt), s.WarmedH vm₁ ∧ Stand p l e R s m args below meth c B.U B.locs B.cells B.slots ∧ Post ⟨T.setVm vm₁, locs, cells, slots⟩ (Value.ref b :: argsL).toArray v B ∧
      ∀ target, Steps p.tables e below (B.U.setTop { g with pc := g.pc + 3, stack := v.toList ++ rest }) target → Steps p.tables e below (T.setTop g) target := by
  obtain ⟨mk, methM, hnamed, hmethM, hstM, habM⟩ := Cond.instanceMethod_spec hinst
  obtain ⟨m8, methM', cM, hn8, hmethM', -, -, -, -, -, -, hsigM⟩ := Cond.codeWith_spec hcode
  cases Option.some.inj (hn8.symm.trans hnamed)
  cases hmethM.symm.trans hmethM'
  obtain ⟨c2, r2, m2, q1, q2, q3, q4, kP, hkP, hkPi⟩ := Cond.selects_spec hsel
  cases hcls.symm.trans q1
  cases (State.methodFound?_of_named hnamed hy).symm.trans q2
  cases hnamed.symm.trans q3
  have hselP : selectMethod e.platform s.vm cellB.cls mk = .method mk := by rw [Launch.admits_selectMethod X.admits]; exact q4
  obtain ⟨vm₁, X₁, hstep₁⟩ := X.invokevirtual hexec hown hlink hnamed hmethM hstM hkP hkPi hy (a := b) (cell := cellB) hcell
    (fun z h => by rw [h] at hobj; cases hobj) hselP hmethM habM hkP hkPi (g := g) hg (argsL := argsL) (rest := rest) (hlen _ hsigM) hstack hdg
  obtain ⟨v, B, X', hpost, hsteps⟩ := hK m meth c ⟨T.setVm vm₁, locs, cells, slots⟩ { g with stack := rest } (.invokevirtual index) mk (Value.ref b :: argsL).toArray X₁ hg hsize hdg hW (X₁.named hnamed) (hpre vm₁ X₁.warmed)
  exact ⟨v, vm₁, B, X₁.warmed, X', hpost, fun target h => hstep₁ _ fun acts => by rw [doInvoke_state]; exact hsteps.trans h⟩
abbrev vx_CVW (R : Room) (s : State) (args : Array Value) (own C : String) (index : Nat) (y : MethodName) (bytes : ByteArray) (maxL : Nat) (ret : Option FieldType) (hh : List (Nat × Nat × Nat × Nat)) (ws : List Cond) (rm : Room) (mc ms n : Nat) : Prop :=
  (rm.cells = mc ∧ rm.slots = ms ∧ rm.frames + 1 ≤ R.frames ∧ 8 + (maxL + 11) + rm.locals ≤ R.locals ∧ (∀ w ∈ ws, ∀ (a' : Array Value) (U : State), s.WarmedH U.vm → w.before a' U = true) ∧ Cond.codeWith y bytes maxL ret hh ∈ ws) ∧
  (Cond.codeWith y bytes maxL ret hh).before args s = true ∧ (Cond.initialized y.cls).before args s = true ∧ (y.cls ≠ "java/lang/invoke/MethodHandle" ∧ y.cls ≠ "java/lang/invoke/VarHandle") ∧
  (∀ sig, parseMethodDescriptor y.desc = some sig → n = sig.parameters.length) ∧ (Cond.methodLink own index y).before args s = true ∧ (Cond.instanceMethod y).before args s = true ∧ (Cond.selects C y y).before args s = true
theorem vx_cwVW {own C : String} {index maxL mc ms : Nat} {y : MethodName} {bytes : ByteArray} {ret : Option FieldType} {hh : List (Nat × Nat × Nat × Nat)} {Ts ws ws' : List Cond} {rm : Room} (n : Nat) (ht : ∀ w ∈ Ts, w.before args s = true) (hT : GoodIn Ts (wsV own index C y ws)) (hw : ws = Cond.codeWith y bytes maxL ret hh :: ws') (hrc : rm.cells = mc) (hrs : rm.slots = ms)
    (hd : y.cls = C ∧ y.cls ≠ "java/lang/invoke/MethodHandle" ∧ y.cls ≠ "java/lang/invoke/VarHandle" ∧ (parseMethodDescriptor y.desc).map (fun d => d.parameters.length) = some n) (hR : rm.frames + 1 ≤ R.frames ∧ 8 + (maxL + 11) + rm.locals ≤ R.locals) :
    vx_CVW R s args own C index y bytes maxL ret hh ws rm mc ms n := by
  obtain ⟨hC, hd⟩ := hd
  subst hC
  have ok : ∀ w ∈ wsV own index y.cls y ws, w.before args s = true := fun w h => ht w (hT w h).1
  have hG : GoodIn Ts ws := fun w h => hT w (by unfold wsV; exact List.mem_append_right _ h)
  have hc : Cond.codeWith y bytes maxL ret hh ∈ ws := by rw [hw]; exact List.mem_cons_self
  refine ⟨⟨hrc, hrs, hR.1, hR.2, pay_in ht hG, hc⟩, ht _ (hG _ hc).1, ok _ (by simp [wsV]), ⟨hd.1, hd.2.1⟩, fun sig h => ?_, ok _ (by simp [wsV]), ok _ (by simp [wsV]), ok _ (by simp [wsV])⟩
  have h2 := hd.2.2
  rw [h] at h2
  exact (Option.some.inj h2).symm
theorem vx_runVW {y : MethodName} {bytes cc : ByteArray} {maxL nL mc ms n index : Nat} {ret : Option FieldType} {hh : List (Nat × Nat × Nat × Nat)} {ws : List Cond} {rm : Room} {Pc : Array Value → State → Prop} {Qc : Array Value → State → Outcome → State → Prop} {free : Addr → Prop} {Ts : List Cond} {own C : String} {b : Addr} {As rest : List Value} {g : JFrame}
    (S : CallFix p m c cc nL s args Ts own) (hM : Met l y ws rm Pc Qc mc ms free) (cw : vx_CVW R s args own C index y bytes maxL ret hh ws rm mc ms n) (hp : PreV s H C b Pc As)
    (hg : g.method = m) (hn : As.length = n) (hsize : g.locals.size = nL) (hstack : g.stack = As.reverse ++ .ref b :: rest) (hW : 2 * g.monitorRoom + (rest.map fun v => v.category).sum ≤ 8) (hdg : decode cc g.pc = .ok (.invokevirtual index, 3)) (hf : cells + mc ≤ R.cells ∧ slots + ms ≤ R.slots) :
    va_Run p l e R s m args below meth c H locs cells slots mc ms g rest (Qc (Value.ref b :: As).toArray) free := by
  obtain ⟨⟨hrc, hrs, hfr, hlo, hws, hcw⟩, hcode, hini, hy, hlen, hl, hin, hse⟩ := cw
  have hK : Back l R p e below s args y 3 8 (PreOf R mc ms Pc) (PostOf Qc mc ms free) := va_backW (hh := hh) (bytes := bytes) (maxL := maxL) (ret := ret) hM hp.1 hrc hrs hfr hlo hws hcw (fun a' U hW => word_at hW (Or.inl (by first | rfl | simp [Cond.onTables, Cond.keeps, Cond.steady])) hini)
  obtain ⟨hx, hb, hml, ho, -⟩ := S
  obtain ⟨-, ⟨cellB, hcB, hoB, hclB⟩, hPc⟩ := hp
  intro T hT X
  obtain ⟨v, vm₁, ⟨U', l2, c2, s2⟩, hW₁, X', ⟨g', mk, t, L, e1, e2, hq, h1, hL, h2, h3⟩, st⟩ := vx_callVW X hx (C := C) (hh := hh) (bytes := bytes) (maxL := maxL) (ret := ret) ho hl hin hse hcode hy hK (by rw [hT]; exact hcB) hoB hclB hg (hsize.trans hml.symm) (argsL := As) (rest := rest) (fun sig h => hn.trans (hlen sig h)) hstack hW (by rw [hb]; exact hdg)
    (fun vm₁ hW₁ => ⟨hf.1, hf.2, hPc (T.setVm vm₁) hT hW₁⟩)
  dsimp only [Pt.U, Pt.locs, Pt.cells, Pt.slots] at X' e1 e2 h1 h2 h3 st
  subst h1; subst h2; subst h3
  exact ⟨v, (T.setVm vm₁).calling g' mk (Value.ref b :: As).toArray, t, U', L, hT, X', hL, e1, e2, hq, st⟩
section
variable {y : MethodName} {bytes cc : ByteArray} {maxL nL mc ms n index : Nat} {ret : Option FieldType} {ws : List Cond} {rm : Room} {Pc : Array Value → State → Prop} {Qc : Array Value → State → Outcome → State → Prop} {XC : String → State → State → Prop} {free : Addr → Prop} {Ts : List Cond} {own C : String} {b : Addr} {As rest : List Value} {g : JFrame}
theorem vx_runVX {hh : List (Nat × Nat × Nat × Nat)} (S : CallFix p m c cc nL s args Ts own) (hM : vx_Met l y ws rm Pc Qc XC mc ms free) (cw : vx_CVW R s args own C index y bytes maxL ret hh ws rm mc ms n) (hp : PreV s H C b Pc As)
    (hg : g.method = m) (hn : As.length = n) (hsize : g.locals.size = nL) (hstack : g.stack = As.reverse ++ .ref b :: rest) (hW : 2 * g.monitorRoom + (rest.map fun v => v.category).sum ≤ 8) (hdg : decode cc g.pc = .ok (.invokevirtual index, 3)) (hf : cells + mc ≤ R.cells ∧ slots + ms ≤ R.slots) :
    vx_Run p l e R s m args below meth c H locs cells slots mc ms g rest (Qc (Value.ref b :: As).toArray) XC free := by
  obtain ⟨⟨hrc, hrs, hfr, hlo, hws, hcw⟩, hcode, hini, hy, hlen, hl, hin, hse⟩ := cw
  have hK : vx_Back l R p e below s args y 3 8 (PreOf R mc ms Pc) (PostOf Qc mc ms free) (vx_Post XC mc ms free) := vx_backW (hh := hh) (bytes := bytes) (maxL := maxL) (ret := ret) hM hp.1 hrc hrs hfr hlo hws hcw (fun a' U hW => word_at hW (Or.inl (by first | rfl | simp [Cond.onTables, Cond.keeps, Cond.steady])) hini)
  obtain ⟨hx, hb, hml, ho, -⟩ := S
  obtain ⟨-, ⟨cellB, hcB, hoB, hclB⟩, hPc⟩ := hp
  intro T hT X
  rcases vx_callVX X hx (C := C) (hh := hh) (bytes := bytes) (maxL := maxL) (ret := ret) ho hl hin hse hcode hy hK (by rw [hT]; exact hcB) hoB hclB hg (hsize.trans hml.symm) (argsL := As) (rest := rest) (fun sig h => hn.trans (hlen sig h)) hstack hW (by rw [hb]; exact hdg)
    (fun vm₁ hW₁ => ⟨hf.1, hf.2, hPc (T.setVm vm₁) hT hW₁⟩) with ⟨v, vm₁, ⟨U', l2, c2, s2⟩, hW₁, X', ⟨g', mk, t, L, e1, e2, hq, h1, hL, h2, h3⟩, st⟩ | ⟨q, vm₁, ⟨U', l2, c2, s2⟩, hW₁, X', ⟨g', mk, t, L, E, ce, e1, e2, hq, hce, hcv, hcl, h1, hL, h2, h3⟩, st⟩
  · dsimp only [Pt.U, Pt.locs, Pt.cells, Pt.slots] at X' e1 e2 h1 h2 h3 st
    subst h1; subst h2; subst h3
    exact Or.inl ⟨v, (T.setVm vm₁).calling g' mk (Value.ref b :: As).toArray, t, U', L, hT, X', hL, e1, e2, hq, st⟩
  · dsimp only [Pt.U, Pt.locs, Pt.cells, Pt.slots] at X' e1 e2 h1 h2 h3 st hcl
    subst h1; subst h2; subst h3
    exact Or.inr ⟨q, (T.setVm vm₁).calling g' mk (Value.ref b :: As).toArray, t, U', L, E, ce, hT, X', hL, e1, e2, hq, hce, hcv, vx_cls hW₁ hcl, st⟩
theorem vx_runSX {hh : List (Nat × Nat × Nat × Nat)} (S : CallFix p m c cc nL s args Ts own) (hM : vx_Met l y ws rm Pc Qc XC mc ms free) (cw : vx_CSW R s args own index y bytes maxL ret hh ws rm mc ms n) (hp : PreS s H Pc As)
    (hg : g.method = m) (hn : As.length = n) (hsize : g.locals.size = nL) (hstack : g.stack = As.reverse ++ rest) (hW : 2 * g.monitorRoom + (rest.map fun v => v.category).sum ≤ 8) (hdg : decode cc g.pc = .ok (.invokestatic index, 3)) (hf : cells + mc ≤ R.cells ∧ slots + ms ≤ R.slots) :
    vx_Run p l e R s m args below meth c H locs cells slots mc ms g rest (Qc As.toArray) XC free := by
  obtain ⟨⟨hrc, hrs, hfr, hlo, hws, hcw⟩, hcode, hini, hy, hlen, hl, hstt⟩ := cw
  have hK : vx_Back l R p e below s args y 3 8 (PreOf R mc ms Pc) (PostOf Qc mc ms free) (vx_Post XC mc ms free) := vx_backW (hh := hh) (bytes := bytes) (maxL := maxL) (ret := ret) hM hp.1 hrc hrs hfr hlo hws hcw (fun a' U hW => word_at hW (Or.inl (by first | rfl | simp [Cond.onTables, Cond.keeps, Cond.steady])) hini)
  obtain ⟨hx, hb, hml, ho, -⟩ := S
  intro T hT X
  rcases vx_callSX X hx (hh := hh) (bytes := bytes) (maxL := maxL) (ret := ret) ho hl hstt hini hcode hy hK hg (hsize.trans hml.symm) (argsL := As) (rest := rest) (fun sig h => hn.trans (hlen sig h)) hstack hW (by rw [hb]; exact hdg)
    (fun vm₁ hW₁ => ⟨hf.1, hf.2, hp.2 (T.setVm vm₁) hT hW₁⟩) with ⟨v, vm₁, ⟨U', l2, c2, s2⟩, hW₁, X', ⟨g', mk, t, L, e1, e2, hq, h1, hL, h2, h3⟩, st⟩ | ⟨q, vm₁, ⟨U', l2, c2, s2⟩, hW₁, X', ⟨g', mk, t, L, E, ce, e1, e2, hq, hce, hcv, hcl, h1, hL, h2, h3⟩, st⟩
  · dsimp only [Pt.U, Pt.locs, Pt.cells, Pt.slots] at X' e1 e2 h1 h2 h3 st
    subst h1; subst h2; subst h3
    exact Or.inl ⟨v, (T.setVm vm₁).calling g' mk As.toArray, t, U', L, hT, X', hL, e1, e2, hq, st⟩
  · dsimp only [Pt.U, Pt.locs, Pt.cells, Pt.slots] at X' e1 e2 h1 h2 h3 st hcl
    subst h1; subst h2; subst h3
    exact Or.inr ⟨q, (T.setVm vm₁).calling g' mk As.toArray, t, U', L, E, ce, hT, X', hL, e1, e2, hq, hce, hcv, vx_cls hW₁ hcl, st⟩
end
end VXH
theorem vx_ofWH {l : Launch} {y : MethodName} {ws ws' : List Cond} {rm : Room} {Pc : Array Value → State → Prop} {Qc : Array Value → State → Outcome → State → Prop} {XC : String → State → State → Prop} {mc ms : Nat} {free : Addr → Prop} {cc : ByteArray} {maxL : Nat} {ret : Option FieldType} {hh : List (Nat × Nat × Nat × Nat)}
    (hy : plainName y.cls = true) (hw : ws = Cond.codeWith y cc maxL ret hh :: ws')
    (body : ∀ p e s m args below meth c s₁, BodyLoose p l y (headSpec ws rm) cc maxL ret e s m args below meth c s₁ → c.maxLocals = maxL → Pc args s →
      W p l e (headSpec ws rm).room s m args below meth c s.heap [] 0 0 (vx_MQ below Qc XC args s mc ms free) (entryFrame m args maxL)) : vx_Met l y ws rm Pc Qc XC mc ms free := by
  refine MetFree.of_bodyS (code := cc) (maxLocals := maxL) (ret := ret) hy ?_ ?_
  · intro args s m h hn
    obtain ⟨m9, meth, c, hn9, h1, h2, h3, h4, -, h5, h6, -⟩ := Cond.codeWith_spec (atoms_spec (ws := ws) h _ (by rw [hw]; exact List.mem_cons_self))
    cases hn.symm.trans hn9
    exact ⟨meth, c, h1, h2, h3, h4, h5, h6⟩
  · intro p e s m args below meth c s₁ B hml hP _
    have hh0 : s₁.heap = s.heap := by rw [B.state]; rfl
    obtain ⟨t, a1, o, b1, b2, b3⟩ := body p e s m args below meth c s₁ B hml hP s₁ hh0 (Stand.of_body B)
    exact ⟨t, o, a1, b1, b2, b3⟩
/-! ===== END ===== -/
end
section
/-! ===== BEGIN words of one list among another's, by their places ===== -/
theorem goodIn_r {big : List Cond} (ws : List Cond) (ps : List Nat) (hp : ws = ps.filterMap (fun i => big[i]?)) (h : ws.all goodWord = true) : GoodIn big ws := by
  intro w hw
  have h1 := List.all_eq_true.mp h w hw
  rw [hp] at hw
  obtain ⟨i, -, hi⟩ := List.mem_filterMap.mp hw
  have hm : w ∈ big := by first | exact List.mem_of_getElem? hi | exact List.getElem?_mem hi
  exact ⟨hm, good_of_word h1⟩
theorem goodIn_app {big a b : List Cond} (ha : GoodIn big a) (hb : GoodIn big b) : GoodIn big (a ++ b) := fun w h => (List.mem_append.mp h).elim (ha w) (hb w)
theorem goodIn_ca {big a b : List Cond} {c : Cond} (ha : GoodIn big (c :: a)) (hb : GoodIn big b) : GoodIn big (c :: (a ++ b)) := fun w h => (List.mem_cons.mp h).elim (fun e => ha w (List.mem_cons.mpr (Or.inl e))) (fun h => (List.mem_append.mp h).elim (fun h => ha w (List.mem_cons.mpr (Or.inr h))) (hb w))
theorem goodIn_sub {big ws : List Cond} (hm : ∀ w ∈ ws, w ∈ big) (h : ws.all goodWord = true) : GoodIn big ws := fun w hw => ⟨hm w hw, good_of_word (List.all_eq_true.mp h w hw)⟩
/-! ===== END ===== -/

/-- n fields, as a function tells them -/
def fl (n : Nat) (F : Nat → Value) : List Value := (List.range n).map F
def fu (F : Nat → Value) (k : Nat) (v : Value) : Nat → Value := fun j => if j = k then v else F j
theorem fl_len {n : Nat} {F : Nat → Value} : (fl n F).length = n := by simp [fl]
theorem fl_lt {n k : Nat} {F : Nat → Value} (h : k < n) : k < (fl n F).length := by rw [fl_len]; exact h
theorem fl_get {n k : Nat} {F : Nat → Value} {v : Value} (h : k < n) (e : F k = v) : (fl n F)[k]? = some v := by
  rw [← e]; simp [fl, h]
theorem fl_set {n k : Nat} {F : Nat → Value} {v : Value} (h : k < n) : (fl n F).set k v = fl n (fu F k v) := by
  apply List.ext_getElem?
  intro i
  by_cases hi : i < n
  · by_cases hik : k = i
    · subst hik; rw [List.getElem?_set_self (by simpa [fl] using hi)]; simp [fl, fu, hi]
    · rw [List.getElem?_set_ne hik]; simp [fl, fu, hi, Ne.symm hik]
  · rw [List.getElem?_eq_none (by simp [fl]; omega), List.getElem?_eq_none (by simp [fl]; omega)]
theorem fu_eq {F G : Nat → Value} {k : Nat} {v : Value} (e : G = fu F k v) : G k = v := by rw [e]; simp [fu]
theorem fu_ne {F G : Nat → Value} {k j : Nat} {v w : Value} (e : G = fu F k v) (h : j ≠ k) (hj : F j = w) : G j = w := by rw [e]; simp [fu, h, hj]
theorem va_P_pre {D : va_G} {cl : List vw_C} {ws w2 : va_W} {H : Heap} (h : va_P D cl (ws ++ w2) H) : va_P D cl ws H := fun k q hk => h k q (by rw [List.getElem?_append_left (List.getElem?_eq_some_iff.mp hk).1]; exact hk)
theorem va_D_pre {A : Nat → Prop} {ws w2 : va_W} (h : va_D A (ws ++ w2)) : va_D A ws := ⟨fun i j p q hi hj e => h.1 i j p q (by rw [List.getElem?_append_left (List.getElem?_eq_some_iff.mp hi).1]; exact hi) (by rw [List.getElem?_append_left (List.getElem?_eq_some_iff.mp hj).1]; exact hj) e, fun k q hk => h.2 k q (by rw [List.getElem?_append_left (List.getElem?_eq_some_iff.mp hk).1]; exact hk)⟩
theorem zq_val {C n d : String} {A : Nat → Prop} {U : State} {H : Heap} (h : va_Zq C n d A U H) : ∃ v : Value, (v = .null ∨ ∃ t : Nat, v = .ref t) ∧ va_Z C n d v A U H := by
  rcases h with h | ⟨t, h⟩
  · exact ⟨.null, Or.inl rfl, h⟩
  · exact ⟨.ref t, Or.inr ⟨t, rfl⟩, h⟩
def RX0 : String := "LevelUnits$Checker"
def TX0 : u_T := fun k => match k with
  | 0 => ("LevelUnits$Checker", "types", "LLevelUnits$Types;", true)
  | 1 => ("LevelUnits$Checker", "unit", "LLevelUnits$Decl;", false)
  | 2 => ("LevelUnits$Checker", "stack", "[LLevelUnits$Node;", true)
  | 3 => ("LevelUnits$Checker", "top", "I", false)
  | 4 => ("LevelUnits$Checker", "line", "I", false)
  | 5 => ("LevelUnits$Checker", "method", "LLevelUnits$Decl;", false)
  | _ => ("LevelUnits$Checker", "found", "I", false)
def tyX0 : Nat → FieldType := fun k => match k with
  | 0 => .object "LevelUnits$Types"
  | 1 => .object "LevelUnits$Decl"
  | 2 => .array (.object "LevelUnits$Node")
  | 3 => .int
  | 4 => .int
  | 5 => .object "LevelUnits$Decl"
  | _ => .int
abbrev wsX00 : List Cond := u_ws RX0 TX0 7
theorem nmX0 : ∀ a, a < 7 → ∀ b, b < 7 → a ≠ b → (TX0 a).2.1 ≠ (TX0 b).2.1 := by decide +kernel
theorem tyX0_ok : ∀ k, k < 7 → parseFieldDescriptor (TX0 k).2.2.1 = some (tyX0 k) := by decide +kernel
def RX1 : String := "LevelUnits$Decl"
def TX1 : u_T := fun k => match k with
  | 0 => ("LevelUnits$Decl", "kind", "I", false)
  | 1 => ("LevelUnits$Decl", "name", "I", true)
  | 2 => ("LevelUnits$Decl", "line", "I", true)
  | 3 => ("LevelUnits$Decl", "nameLine", "I", true)
  | 4 => ("LevelUnits$Decl", "unit", "LLevelUnits$Decl;", false)
  | 5 => ("LevelUnits$Decl", "next", "LLevelUnits$Decl;", false)
  | 6 => ("LevelUnits$Decl", "type", "LLevelUnits$Node;", false)
  | 7 => ("LevelUnits$Decl", "bound", "LLevelUnits$Node;", false)
  | 8 => ("LevelUnits$Decl", "use", "LLevelUnits$Op;", false)
  | 9 => ("LevelUnits$Decl", "number", "I", false)
  | 10 => ("LevelUnits$Decl", "offset", "I", false)
  | 11 => ("LevelUnits$Decl", "first", "LLevelUnits$Decl;", false)
  | 12 => ("LevelUnits$Decl", "body", "LLevelUnits$Stat;", false)
  | 13 => ("LevelUnits$Decl", "endLine", "I", false)
  | 14 => ("LevelUnits$Decl", "other", "LLevelUnits$Decl;", false)
  | 15 => ("LevelUnits$Decl", "reveal", "LLevelUnits$Decl;", false)
  | 16 => ("LevelUnits$Decl", "mask", "I", false)
  | 17 => ("LevelUnits$Decl", "cells", "I", false)
  | _ => ("LevelUnits$Decl", "held", "LLevelUnits$Node;", false)
def tyX1 : Nat → FieldType := fun k => match k with
  | 0 => .int
  | 1 => .int
  | 2 => .int
  | 3 => .int
  | 4 => .object "LevelUnits$Decl"
  | 5 => .object "LevelUnits$Decl"
  | 6 => .object "LevelUnits$Node"
  | 7 => .object "LevelUnits$Node"
  | 8 => .object "LevelUnits$Op"
  | 9 => .int
  | 10 => .int
  | 11 => .object "LevelUnits$Decl"
  | 12 => .object "LevelUnits$Stat"
  | 13 => .int
  | 14 => .object "LevelUnits$Decl"
  | 15 => .object "LevelUnits$Decl"
  | 16 => .int
  | 17 => .int
  | _ => .object "LevelUnits$Node"
abbrev wsX10 : List Cond := u_ws RX1 TX1 19
theorem nmX1 : ∀ a, a < 19 → ∀ b, b < 19 → a ≠ b → (TX1 a).2.1 ≠ (TX1 b).2.1 := by decide +kernel
theorem tyX1_ok : ∀ k, k < 19 → parseFieldDescriptor (TX1 k).2.2.1 = some (tyX1 k) := by decide +kernel
def RX2 : String := "LevelUnits$Machine"
def TX2 : u_T := fun k => match k with
  | 0 => ("LevelUnits$Machine", "types", "LLevelUnits$Types;", false)
  | 1 => ("LevelUnits$Machine", "globals", "[I", true)
  | 2 => ("LevelUnits$Machine", "heap", "[I", true)
  | 3 => ("LevelUnits$Machine", "starts", "[I", true)
  | 4 => ("LevelUnits$Machine", "kinds", "[LLevelUnits$Node;", true)
  | 5 => ("LevelUnits$Machine", "holders", "[I", true)
  | 6 => ("LevelUnits$Machine", "things", "I", false)
  | 7 => ("LevelUnits$Machine", "strands", "[LLevelUnits$Strand;", true)
  | 8 => ("LevelUnits$Machine", "made", "I", false)
  | 9 => ("LevelUnits$Machine", "seed", "I", false)
  | 10 => ("LevelUnits$Machine", "steps", "I", false)
  | 11 => ("LevelUnits$Machine", "numbers", "[I", true)
  | 12 => ("LevelUnits$Machine", "outputs", "I", false)
  | 13 => ("LevelUnits$Machine", "values", "[I", true)
  | 14 => ("LevelUnits$Machine", "top", "I", false)
  | 15 => ("LevelUnits$Machine", "passed", "[I", true)
  | 16 => ("LevelUnits$Machine", "forked", "LLevelUnits$Strand;", false)
  | 17 => ("LevelUnits$Machine", "fault", "I", false)
  | _ => ("LevelUnits$Machine", "faultLine", "I", false)
def tyX2 : Nat → FieldType := fun k => match k with
  | 0 => .object "LevelUnits$Types"
  | 1 => .array .int
  | 2 => .array .int
  | 3 => .array .int
  | 4 => .array (.object "LevelUnits$Node")
  | 5 => .array .int
  | 6 => .int
  | 7 => .array (.object "LevelUnits$Strand")
  | 8 => .int
  | 9 => .int
  | 10 => .int
  | 11 => .array .int
  | 12 => .int
  | 13 => .array .int
  | 14 => .int
  | 15 => .array .int
  | 16 => .object "LevelUnits$Strand"
  | 17 => .int
  | _ => .int
abbrev wsX20 : List Cond := u_ws RX2 TX2 19
theorem nmX2 : ∀ a, a < 19 → ∀ b, b < 19 → a ≠ b → (TX2 a).2.1 ≠ (TX2 b).2.1 := by decide +kernel
theorem tyX2_ok : ∀ k, k < 19 → parseFieldDescriptor (TX2 k).2.2.1 = some (tyX2 k) := by decide +kernel
abbrev cX2_init : ByteArray := prog_4_method_1_code
def yX2_init : MethodName := ⟨RX2, "<init>", "()V"⟩
def RX3 : String := "LevelUnits$Names"
def TX3 : u_T := fun k => match k with
  | 0 => ("LevelUnits$Names", "text", "LLevelUnits$Parser;", true)
  | _ => ("LevelUnits$Names", "found", "I", false)
def tyX3 : Nat → FieldType := fun k => match k with
  | 0 => .object "LevelUnits$Parser"
  | _ => .int
abbrev wsX30 : List Cond := u_ws RX3 TX3 2
theorem nmX3 : ∀ a, a < 2 → ∀ b, b < 2 → a ≠ b → (TX3 a).2.1 ≠ (TX3 b).2.1 := by decide +kernel
theorem tyX3_ok : ∀ k, k < 2 → parseFieldDescriptor (TX3 k).2.2.1 = some (tyX3 k) := by decide +kernel
def RX4 : String := "LevelUnits$Node"
def TX4 : u_T := fun k => match k with
  | 0 => ("LevelUnits$Node", "kind", "I", true)
  | 1 => ("LevelUnits$Node", "index", "I", true)
  | 2 => ("LevelUnits$Node", "line", "I", true)
  | 3 => ("LevelUnits$Node", "unit", "LLevelUnits$Decl;", true)
  | 4 => ("LevelUnits$Node", "lo", "I", false)
  | 5 => ("LevelUnits$Node", "hi", "I", false)
  | 6 => ("LevelUnits$Node", "elem", "LLevelUnits$Node;", false)
  | 7 => ("LevelUnits$Node", "items", "LLevelUnits$Decl;", false)
  | 8 => ("LevelUnits$Node", "raises", "LLevelUnits$Op;", false)
  | 9 => ("LevelUnits$Node", "use", "LLevelUnits$Op;", false)
  | 10 => ("LevelUnits$Node", "own", "LLevelUnits$Decl;", false)
  | 11 => ("LevelUnits$Node", "real", "LLevelUnits$Node;", false)
  | 12 => ("LevelUnits$Node", "up", "LLevelUnits$Node;", false)
  | 13 => ("LevelUnits$Node", "views", "[LLevelUnits$Node;", false)
  | 14 => ("LevelUnits$Node", "shape", "I", false)
  | 15 => ("LevelUnits$Node", "cells", "I", false)
  | 16 => ("LevelUnits$Node", "firsts", "[I", false)
  | 17 => ("LevelUnits$Node", "size", "I", false)
  | 18 => ("LevelUnits$Node", "next", "LLevelUnits$Node;", false)
  | _ => ("LevelUnits$Node", "nextHeld", "LLevelUnits$Node;", false)
def tyX4 : Nat → FieldType := fun k => match k with
  | 0 => .int
  | 1 => .int
  | 2 => .int
  | 3 => .object "LevelUnits$Decl"
  | 4 => .int
  | 5 => .int
  | 6 => .object "LevelUnits$Node"
  | 7 => .object "LevelUnits$Decl"
  | 8 => .object "LevelUnits$Op"
  | 9 => .object "LevelUnits$Op"
  | 10 => .object "LevelUnits$Decl"
  | 11 => .object "LevelUnits$Node"
  | 12 => .object "LevelUnits$Node"
  | 13 => .array (.object "LevelUnits$Node")
  | 14 => .int
  | 15 => .int
  | 16 => .array .int
  | 17 => .int
  | 18 => .object "LevelUnits$Node"
  | _ => .object "LevelUnits$Node"
abbrev wsX40 : List Cond := u_ws RX4 TX4 20
theorem nmX4 : ∀ a, a < 20 → ∀ b, b < 20 → a ≠ b → (TX4 a).2.1 ≠ (TX4 b).2.1 := by decide +kernel
theorem tyX4_ok : ∀ k, k < 20 → parseFieldDescriptor (TX4 k).2.2.1 = some (tyX4 k) := by decide +kernel
def RX5 : String := "LevelUnits$Op"
def TX5 : u_T := fun k => match k with
  | 0 => ("LevelUnits$Op", "kind", "I", false)
  | 1 => ("LevelUnits$Op", "name", "I", true)
  | 2 => ("LevelUnits$Op", "unitName", "I", true)
  | 3 => ("LevelUnits$Op", "line", "I", true)
  | 4 => ("LevelUnits$Op", "type", "LLevelUnits$Node;", false)
  | 5 => ("LevelUnits$Op", "decl", "LLevelUnits$Decl;", false)
  | 6 => ("LevelUnits$Op", "sub", "LLevelUnits$Op;", false)
  | _ => ("LevelUnits$Op", "next", "LLevelUnits$Op;", false)
def tyX5 : Nat → FieldType := fun k => match k with
  | 0 => .int
  | 1 => .int
  | 2 => .int
  | 3 => .int
  | 4 => .object "LevelUnits$Node"
  | 5 => .object "LevelUnits$Decl"
  | 6 => .object "LevelUnits$Op"
  | _ => .object "LevelUnits$Op"
abbrev wsX50 : List Cond := u_ws RX5 TX5 8
theorem nmX5 : ∀ a, a < 8 → ∀ b, b < 8 → a ≠ b → (TX5 a).2.1 ≠ (TX5 b).2.1 := by decide +kernel
theorem tyX5_ok : ∀ k, k < 8 → parseFieldDescriptor (TX5 k).2.2.1 = some (tyX5 k) := by decide +kernel
def RX6 : String := "LevelUnits$Parser"
def TX6 : u_T := fun k => match k with
  | 0 => ("LevelUnits$Parser", "in", "LLevelUnits$Scanner;", true)
  | 1 => ("LevelUnits$Parser", "at", "I", false)
  | 2 => ("LevelUnits$Parser", "kind", "I", false)
  | 3 => ("LevelUnits$Parser", "fault", "I", false)
  | 4 => ("LevelUnits$Parser", "open", "[I", true)
  | 5 => ("LevelUnits$Parser", "waiting", "[I", true)
  | 6 => ("LevelUnits$Parser", "waitingTop", "I", false)
  | 7 => ("LevelUnits$Parser", "unit", "LLevelUnits$Decl;", false)
  | 8 => ("LevelUnits$Parser", "body", "LLevelUnits$Decl;", false)
  | 9 => ("LevelUnits$Parser", "holder", "LLevelUnits$Decl;", false)
  | 10 => ("LevelUnits$Parser", "line", "I", false)
  | 11 => ("LevelUnits$Parser", "tail", "LLevelUnits$Op;", false)
  | 12 => ("LevelUnits$Parser", "lastTold", "LLevelUnits$Decl;", false)
  | 13 => ("LevelUnits$Parser", "lastNode", "LLevelUnits$Node;", false)
  | 14 => ("LevelUnits$Parser", "lastStat", "LLevelUnits$Stat;", false)
  | 15 => ("LevelUnits$Parser", "units", "LLevelUnits$Decl;", false)
  | 16 => ("LevelUnits$Parser", "stats", "LLevelUnits$Stat;", false)
  | 17 => ("LevelUnits$Parser", "root", "LLevelUnits$Node;", true)
  | 18 => ("LevelUnits$Parser", "integer", "LLevelUnits$Node;", true)
  | _ => ("LevelUnits$Parser", "bool", "LLevelUnits$Node;", true)
def tyX6 : Nat → FieldType := fun k => match k with
  | 0 => .object "LevelUnits$Scanner"
  | 1 => .int
  | 2 => .int
  | 3 => .int
  | 4 => .array .int
  | 5 => .array .int
  | 6 => .int
  | 7 => .object "LevelUnits$Decl"
  | 8 => .object "LevelUnits$Decl"
  | 9 => .object "LevelUnits$Decl"
  | 10 => .int
  | 11 => .object "LevelUnits$Op"
  | 12 => .object "LevelUnits$Decl"
  | 13 => .object "LevelUnits$Node"
  | 14 => .object "LevelUnits$Stat"
  | 15 => .object "LevelUnits$Decl"
  | 16 => .object "LevelUnits$Stat"
  | 17 => .object "LevelUnits$Node"
  | 18 => .object "LevelUnits$Node"
  | _ => .object "LevelUnits$Node"
abbrev wsX60 : List Cond := u_ws RX6 TX6 20
theorem nmX6 : ∀ a, a < 20 → ∀ b, b < 20 → a ≠ b → (TX6 a).2.1 ≠ (TX6 b).2.1 := by decide +kernel
theorem tyX6_ok : ∀ k, k < 20 → parseFieldDescriptor (TX6 k).2.2.1 = some (tyX6 k) := by decide +kernel
def RX7 : String := "LevelUnits$Scanner"
def TX7 : u_T := fun k => match k with
  | 0 => ("LevelUnits$Scanner", "kinds", "[I", true)
  | 1 => ("LevelUnits$Scanner", "values", "[I", true)
  | 2 => ("LevelUnits$Scanner", "lines", "[I", true)
  | 3 => ("LevelUnits$Scanner", "tokens", "I", false)
  | 4 => ("LevelUnits$Scanner", "text", "[B", false)
  | 5 => ("LevelUnits$Scanner", "size", "I", false)
  | 6 => ("LevelUnits$Scanner", "at", "I", false)
  | 7 => ("LevelUnits$Scanner", "line", "I", false)
  | 8 => ("LevelUnits$Scanner", "heads", "[I", true)
  | 9 => ("LevelUnits$Scanner", "chains", "[I", true)
  | 10 => ("LevelUnits$Scanner", "starts", "[I", true)
  | 11 => ("LevelUnits$Scanner", "sizes", "[I", true)
  | _ => ("LevelUnits$Scanner", "names", "I", false)
def tyX7 : Nat → FieldType := fun k => match k with
  | 0 => .array .int
  | 1 => .array .int
  | 2 => .array .int
  | 3 => .int
  | 4 => .array .byte
  | 5 => .int
  | 6 => .int
  | 7 => .int
  | 8 => .array .int
  | 9 => .array .int
  | 10 => .array .int
  | 11 => .array .int
  | _ => .int
abbrev wsX70 : List Cond := u_ws RX7 TX7 13
theorem nmX7 : ∀ a, a < 13 → ∀ b, b < 13 → a ≠ b → (TX7 a).2.1 ≠ (TX7 b).2.1 := by decide +kernel
theorem tyX7_ok : ∀ k, k < 13 → parseFieldDescriptor (TX7 k).2.2.1 = some (tyX7 k) := by decide +kernel
abbrev cX7_init : ByteArray := prog_9_method_1_code
def yX7_init : MethodName := ⟨RX7, "<init>", "()V"⟩
def RX8 : String := "LevelUnits$Stat"
def TX8 : u_T := fun k => match k with
  | 0 => ("LevelUnits$Stat", "kind", "I", false)
  | 1 => ("LevelUnits$Stat", "line", "I", true)
  | 2 => ("LevelUnits$Stat", "home", "LLevelUnits$Stat;", true)
  | 3 => ("LevelUnits$Stat", "decl", "LLevelUnits$Decl;", true)
  | 4 => ("LevelUnits$Stat", "next", "LLevelUnits$Stat;", false)
  | 5 => ("LevelUnits$Stat", "nextOfAll", "LLevelUnits$Stat;", false)
  | 6 => ("LevelUnits$Stat", "parts", "LLevelUnits$Stat;", false)
  | 7 => ("LevelUnits$Stat", "place", "LLevelUnits$Op;", false)
  | 8 => ("LevelUnits$Stat", "first", "LLevelUnits$Op;", false)
  | 9 => ("LevelUnits$Stat", "second", "LLevelUnits$Op;", false)
  | 10 => ("LevelUnits$Stat", "parameters", "LLevelUnits$Op;", false)
  | 11 => ("LevelUnits$Stat", "use", "LLevelUnits$Op;", false)
  | 12 => ("LevelUnits$Stat", "name", "LLevelUnits$Decl;", false)
  | 13 => ("LevelUnits$Stat", "type", "LLevelUnits$Node;", false)
  | _ => ("LevelUnits$Stat", "level", "I", false)
def tyX8 : Nat → FieldType := fun k => match k with
  | 0 => .int
  | 1 => .int
  | 2 => .object "LevelUnits$Stat"
  | 3 => .object "LevelUnits$Decl"
  | 4 => .object "LevelUnits$Stat"
  | 5 => .object "LevelUnits$Stat"
  | 6 => .object "LevelUnits$Stat"
  | 7 => .object "LevelUnits$Op"
  | 8 => .object "LevelUnits$Op"
  | 9 => .object "LevelUnits$Op"
  | 10 => .object "LevelUnits$Op"
  | 11 => .object "LevelUnits$Op"
  | 12 => .object "LevelUnits$Decl"
  | 13 => .object "LevelUnits$Node"
  | _ => .int
abbrev wsX80 : List Cond := u_ws RX8 TX8 15
theorem nmX8 : ∀ a, a < 15 → ∀ b, b < 15 → a ≠ b → (TX8 a).2.1 ≠ (TX8 b).2.1 := by decide +kernel
theorem tyX8_ok : ∀ k, k < 15 → parseFieldDescriptor (TX8 k).2.2.1 = some (tyX8 k) := by decide +kernel
def RX9 : String := "LevelUnits$Strand"
def TX9 : u_T := fun k => match k with
  | 0 => ("LevelUnits$Strand", "number", "I", true)
  | 1 => ("LevelUnits$Strand", "state", "I", false)
  | 2 => ("LevelUnits$Strand", "waitsFor", "I", false)
  | 3 => ("LevelUnits$Strand", "mutex", "I", false)
  | 4 => ("LevelUnits$Strand", "since", "I", false)
  | 5 => ("LevelUnits$Strand", "stat", "LLevelUnits$Stat;", false)
  | 6 => ("LevelUnits$Strand", "again", "Z", false)
  | 7 => ("LevelUnits$Strand", "part", "LLevelUnits$Stat;", false)
  | 8 => ("LevelUnits$Strand", "at", "LLevelUnits$Stat;", false)
  | 9 => ("LevelUnits$Strand", "leaving", "I", false)
  | 10 => ("LevelUnits$Strand", "exception", "I", false)
  | 11 => ("LevelUnits$Strand", "amount", "I", false)
  | 12 => ("LevelUnits$Strand", "faultLine", "I", false)
  | 13 => ("LevelUnits$Strand", "calls", "I", false)
  | 14 => ("LevelUnits$Strand", "cells", "I", false)
  | 15 => ("LevelUnits$Strand", "row", "[I", true)
  | 16 => ("LevelUnits$Strand", "slots", "[I", true)
  | 17 => ("LevelUnits$Strand", "callers", "[LLevelUnits$Stat;", true)
  | 18 => ("LevelUnits$Strand", "targets", "[I", true)
  | _ => ("LevelUnits$Strand", "bases", "[I", true)
def tyX9 : Nat → FieldType := fun k => match k with
  | 0 => .int
  | 1 => .int
  | 2 => .int
  | 3 => .int
  | 4 => .int
  | 5 => .object "LevelUnits$Stat"
  | 6 => .boolean
  | 7 => .object "LevelUnits$Stat"
  | 8 => .object "LevelUnits$Stat"
  | 9 => .int
  | 10 => .int
  | 11 => .int
  | 12 => .int
  | 13 => .int
  | 14 => .int
  | 15 => .array .int
  | 16 => .array .int
  | 17 => .array (.object "LevelUnits$Stat")
  | 18 => .array .int
  | _ => .array .int
abbrev wsX90 : List Cond := u_ws RX9 TX9 20
theorem nmX9 : ∀ a, a < 20 → ∀ b, b < 20 → a ≠ b → (TX9 a).2.1 ≠ (TX9 b).2.1 := by decide +kernel
theorem tyX9_ok : ∀ k, k < 20 → parseFieldDescriptor (TX9 k).2.2.1 = some (tyX9 k) := by decide +kernel
def RX10 : String := "LevelUnits$Types"
def TX10 : u_T := fun k => match k with
  | 0 => ("LevelUnits$Types", "tokens", "I", true)
  | 1 => ("LevelUnits$Types", "unitRow", "[LLevelUnits$Decl;", true)
  | 2 => ("LevelUnits$Types", "typeRow", "[LLevelUnits$Decl;", true)
  | 3 => ("LevelUnits$Types", "procedureRow", "[LLevelUnits$Decl;", true)
  | 4 => ("LevelUnits$Types", "least", "[I", false)
  | 5 => ("LevelUnits$Types", "globalCells", "I", false)
  | 6 => ("LevelUnits$Types", "integer", "LLevelUnits$Node;", true)
  | 7 => ("LevelUnits$Types", "bool", "LLevelUnits$Node;", true)
  | 8 => ("LevelUnits$Types", "nil", "LLevelUnits$Node;", true)
  | 9 => ("LevelUnits$Types", "nodes", "LLevelUnits$Node;", true)
  | 10 => ("LevelUnits$Types", "nodeCount", "I", true)
  | 11 => ("LevelUnits$Types", "seen", "[LLevelUnits$Decl;", true)
  | _ => ("LevelUnits$Types", "found", "I", false)
def tyX10 : Nat → FieldType := fun k => match k with
  | 0 => .int
  | 1 => .array (.object "LevelUnits$Decl")
  | 2 => .array (.object "LevelUnits$Decl")
  | 3 => .array (.object "LevelUnits$Decl")
  | 4 => .array .int
  | 5 => .int
  | 6 => .object "LevelUnits$Node"
  | 7 => .object "LevelUnits$Node"
  | 8 => .object "LevelUnits$Node"
  | 9 => .object "LevelUnits$Node"
  | 10 => .int
  | 11 => .array (.object "LevelUnits$Decl")
  | _ => .int
abbrev wsX100 : List Cond := u_ws RX10 TX10 13
theorem nmX10 : ∀ a, a < 13 → ∀ b, b < 13 → a ≠ b → (TX10 a).2.1 ≠ (TX10 b).2.1 := by decide +kernel
theorem tyX10_ok : ∀ k, k < 13 → parseFieldDescriptor (TX10 k).2.2.1 = some (tyX10 k) := by decide +kernel
def RX11 : String := "LevelUnits"
def TX11 : u_T := fun k => match k with
  | 0 => ("LevelUnits", "tape", "[B", true)
  | 1 => ("LevelUnits", "length", "I", false)
  | 2 => ("LevelUnits", "scanner", "LLevelUnits$Scanner;", true)
  | 3 => ("LevelUnits", "machine", "LLevelUnits$Machine;", true)
  | _ => ("LevelUnits", "program", "LLevelUnits$Types;", false)
def tyX11 : Nat → FieldType := fun k => match k with
  | 0 => .array .byte
  | 1 => .int
  | 2 => .object "LevelUnits$Scanner"
  | 3 => .object "LevelUnits$Machine"
  | _ => .object "LevelUnits$Types"
abbrev wsX110 : List Cond := u_ws RX11 TX11 5
theorem nmX11 : ∀ a, a < 5 → ∀ b, b < 5 → a ≠ b → (TX11 a).2.1 ≠ (TX11 b).2.1 := by decide +kernel
theorem tyX11_ok : ∀ k, k < 5 → parseFieldDescriptor (TX11 k).2.2.1 = some (tyX11 k) := by decide +kernel
abbrev cX11_init : ByteArray := prog_1_method_1_code
def yX11_init : MethodName := ⟨RX11, "<init>", "()V"⟩
def RX12 : String := "LevelUnitsModel$Stop"
def TX12 : u_T := fun k => match k with
  | 0 => ("java/lang/Throwable", "cause", "Ljava/lang/Throwable;", false)
  | 1 => ("java/lang/Throwable", "stackTrace", "[Ljava/lang/StackTraceElement;", false)
  | 2 => ("java/lang/Throwable", "suppressedExceptions", "Ljava/util/List;", false)
  | 3 => ("java/lang/Throwable", "detailMessage", "Ljava/lang/String;", false)
  | 4 => ("java/lang/Throwable", "backtrace", "Ljava/lang/Object;", false)
  | _ => ("java/lang/Throwable", "depth", "I", false)
def tyX12 : Nat → FieldType := fun k => match k with
  | 0 => .object "java/lang/Throwable"
  | 1 => .array (.object "java/lang/StackTraceElement")
  | 2 => .object "java/util/List"
  | 3 => .object "java/lang/String"
  | 4 => .object "java/lang/Object"
  | _ => .int
abbrev wsX120 : List Cond := u_ws RX12 TX12 6
theorem nmX12 : ∀ a, a < 6 → ∀ b, b < 6 → a ≠ b → (TX12 a).2.1 ≠ (TX12 b).2.1 := by decide +kernel
theorem tyX12_ok : ∀ k, k < 6 → parseFieldDescriptor (TX12 k).2.2.1 = some (tyX12 k) := by decide +kernel
abbrev cX12_init : ByteArray := prog_15_method_1_code
def yX12_init : MethodName := ⟨RX12, "<init>", "()V"⟩
def RX13 : String := "LevelUnitsModel"
def TX13 : u_T := fun k => match k with
  | 0 => ("LevelUnitsModel", "thrown", "I", false)
  | 1 => ("LevelUnitsModel", "stop", "LLevelUnitsModel$Stop;", true)
  | 2 => ("LevelUnitsModel", "tape", "[B", true)
  | 3 => ("LevelUnitsModel", "taped", "I", false)
  | 4 => ("LevelUnitsModel", "text", "[B", true)
  | 5 => ("LevelUnitsModel", "size", "I", false)
  | 6 => ("LevelUnitsModel", "scan", "I", false)
  | 7 => ("LevelUnitsModel", "row", "I", false)
  | 8 => ("LevelUnitsModel", "tokens", "I", false)
  | 9 => ("LevelUnitsModel", "tSort", "[I", true)
  | 10 => ("LevelUnitsModel", "tValue", "[I", true)
  | 11 => ("LevelUnitsModel", "tLine", "[I", true)
  | 12 => ("LevelUnitsModel", "names", "I", false)
  | 13 => ("LevelUnitsModel", "nameFrom", "[I", true)
  | 14 => ("LevelUnitsModel", "nameSize", "[I", true)
  | 15 => ("LevelUnitsModel", "letters", "[B", true)
  | 16 => ("LevelUnitsModel", "lettered", "I", false)
  | 17 => ("LevelUnitsModel", "fault", "I", false)
  | 18 => ("LevelUnitsModel", "faultLine", "I", false)
  | 19 => ("LevelUnitsModel", "nodes", "I", false)
  | 20 => ("LevelUnitsModel", "nk", "[I", true)
  | 21 => ("LevelUnitsModel", "nl", "[I", true)
  | 22 => ("LevelUnitsModel", "na", "[I", true)
  | 23 => ("LevelUnitsModel", "nb", "[I", true)
  | 24 => ("LevelUnitsModel", "nc", "[I", true)
  | 25 => ("LevelUnitsModel", "nd", "[I", true)
  | 26 => ("LevelUnitsModel", "ne", "[I", true)
  | 27 => ("LevelUnitsModel", "nn", "[I", true)
  | 28 => ("LevelUnitsModel", "ns", "[I", true)
  | 29 => ("LevelUnitsModel", "nu", "[I", true)
  | 30 => ("LevelUnitsModel", "nf", "[I", true)
  | 31 => ("LevelUnitsModel", "nm", "[I", true)
  | 32 => ("LevelUnitsModel", "at", "I", false)
  | 33 => ("LevelUnitsModel", "unit", "I", false)
  | 34 => ("LevelUnitsModel", "told", "I", false)
  | 35 => ("LevelUnitsModel", "head", "I", false)
  | 36 => ("LevelUnitsModel", "last", "I", false)
  | 37 => ("LevelUnitsModel", "brackets", "I", false)
  | 38 => ("LevelUnitsModel", "nots", "I", false)
  | 39 => ("LevelUnitsModel", "typesOpen", "I", false)
  | 40 => ("LevelUnitsModel", "statementsOpen", "I", false)
  | 41 => ("LevelUnitsModel", "units", "I", false)
  | 42 => ("LevelUnitsModel", "unitNode", "[I", true)
  | 43 => ("LevelUnitsModel", "symbols", "I", false)
  | 44 => ("LevelUnitsModel", "yName", "[I", true)
  | 45 => ("LevelUnitsModel", "yKind", "[I", true)
  | 46 => ("LevelUnitsModel", "yNode", "[I", true)
  | 47 => ("LevelUnitsModel", "yWhat", "[I", true)
  | 48 => ("LevelUnitsModel", "yFrom", "[I", true)
  | 49 => ("LevelUnitsModel", "yUntil", "[I", true)
  | 50 => ("LevelUnitsModel", "face", "[I", true)
  | 51 => ("LevelUnitsModel", "isModule", "[Z", true)
  | 52 => ("LevelUnitsModel", "variables", "I", false)
  | 53 => ("LevelUnitsModel", "vKind", "[I", true)
  | 54 => ("LevelUnitsModel", "vType", "[I", true)
  | 55 => ("LevelUnitsModel", "vAt", "[I", true)
  | 56 => ("LevelUnitsModel", "procedures", "I", false)
  | 57 => ("LevelUnitsModel", "pTold", "[I", true)
  | 58 => ("LevelUnitsModel", "pMade", "[I", true)
  | 59 => ("LevelUnitsModel", "exceptions", "I", false)
  | 60 => ("LevelUnitsModel", "typesTold", "I", false)
  | 61 => ("LevelUnitsModel", "typeNode", "[I", true)
  | 62 => ("LevelUnitsModel", "seen", "I", false)
  | 63 => ("LevelUnitsModel", "seenName", "[I", true)
  | 64 => ("LevelUnitsModel", "seenVariable", "[I", true)
  | 65 => ("LevelUnitsModel", "rootType", "I", false)
  | 66 => ("LevelUnitsModel", "joined", "[I", true)
  | 67 => ("LevelUnitsModel", "trail", "I", false)
  | 68 => ("LevelUnitsModel", "trailed", "[I", true)
  | 69 => ("LevelUnitsModel", "pairs", "I", false)
  | 70 => ("LevelUnitsModel", "pairA", "[I", true)
  | 71 => ("LevelUnitsModel", "pairB", "[I", true)
  | 72 => ("LevelUnitsModel", "reveal", "[I", true)
  | 73 => ("LevelUnitsModel", "ownType", "[I", true)
  | 74 => ("LevelUnitsModel", "chained", "I", false)
  | 75 => ("LevelUnitsModel", "chain", "[I", true)
  | 76 => ("LevelUnitsModel", "chainMark", "I", false)
  | 77 => ("LevelUnitsModel", "wayMark", "I", false)
  | 78 => ("LevelUnitsModel", "inChain", "[I", true)
  | 79 => ("LevelUnitsModel", "onWay", "[I", true)
  | 80 => ("LevelUnitsModel", "foundIn", "I", false)
  | 81 => ("LevelUnitsModel", "cellsKnown", "[I", true)
  | 82 => ("LevelUnitsModel", "holdsItself", "[Z", true)
  | 83 => ("LevelUnitsModel", "unitCells", "I", false)
  | 84 => ("LevelUnitsModel", "isMet", "[Z", true)
  | 85 => ("LevelUnitsModel", "integerType", "I", false)
  | 86 => ("LevelUnitsModel", "booleanType", "I", false)
  | 87 => ("LevelUnitsModel", "procedureType", "[I", true)
  | 88 => ("LevelUnitsModel", "et", "[I", true)
  | 89 => ("LevelUnitsModel", "inProcedure", "I", false)
  | 90 => ("LevelUnitsModel", "loops", "I", false)
  | 91 => ("LevelUnitsModel", "method", "I", false)
  | 92 => ("LevelUnitsModel", "methodIn", "I", false)
  | 93 => ("LevelUnitsModel", "tries", "I", false)
  | 94 => ("LevelUnitsModel", "tryNode", "[I", true)
  | 95 => ("LevelUnitsModel", "pCells", "[I", true)
  | 96 => ("LevelUnitsModel", "pAll", "[I", true)
  | 97 => ("LevelUnitsModel", "deepest", "I", false)
  | 98 => ("LevelUnitsModel", "hasProgram", "Z", false)
  | 99 => ("LevelUnitsModel", "mem", "[I", false)
  | 100 => ("LevelUnitsModel", "begun", "Z", false)
  | 101 => ("LevelUnitsModel", "seed", "I", false)
  | 102 => ("LevelUnitsModel", "steps", "I", false)
  | 103 => ("LevelUnitsModel", "things", "I", false)
  | 104 => ("LevelUnitsModel", "heaped", "I", false)
  | 105 => ("LevelUnitsModel", "thingType", "[I", true)
  | 106 => ("LevelUnitsModel", "thingAt", "[I", true)
  | 107 => ("LevelUnitsModel", "thingCells", "[I", true)
  | 108 => ("LevelUnitsModel", "holder", "[I", true)
  | 109 => ("LevelUnitsModel", "isCondition", "[Z", true)
  | 110 => ("LevelUnitsModel", "threads", "I", false)
  | 111 => ("LevelUnitsModel", "wants", "[I", true)
  | 112 => ("LevelUnitsModel", "wantsOf", "[I", true)
  | 113 => ("LevelUnitsModel", "wantsHow", "[I", true)
  | 114 => ("LevelUnitsModel", "ticket", "[I", true)
  | 115 => ("LevelUnitsModel", "tickets", "I", false)
  | 116 => ("LevelUnitsModel", "over", "[I", true)
  | 117 => ("LevelUnitsModel", "overLine", "[I", true)
  | 118 => ("LevelUnitsModel", "overWhat", "[I", true)
  | 119 => ("LevelUnitsModel", "overNumber", "[I", true)
  | 120 => ("LevelUnitsModel", "openCalls", "[I", true)
  | 121 => ("LevelUnitsModel", "openCells", "[I", true)
  | 122 => ("LevelUnitsModel", "base", "[I", true)
  | 123 => ("LevelUnitsModel", "stackTop", "[I", true)
  | 124 => ("LevelUnitsModel", "entries", "[I", true)
  | 125 => ("LevelUnitsModel", "todo", "[I", false)
  | 126 => ("LevelUnitsModel", "out", "[I", true)
  | 127 => ("LevelUnitsModel", "outputs", "I", false)
  | 128 => ("LevelUnitsModel", "t", "I", false)
  | 129 => ("LevelUnitsModel", "runFault", "I", false)
  | 130 => ("LevelUnitsModel", "runLine", "I", false)
  | 131 => ("LevelUnitsModel", "failure", "LLevelUnitsModel$Stop;", true)
  | 132 => ("LevelUnitsModel", "argument", "[I", true)
  | _ => ("LevelUnitsModel", "arguments", "I", false)
def tyX13 : Nat → FieldType := fun k => match k with
  | 0 => .int
  | 1 => .object "LevelUnitsModel$Stop"
  | 2 => .array .byte
  | 3 => .int
  | 4 => .array .byte
  | 5 => .int
  | 6 => .int
  | 7 => .int
  | 8 => .int
  | 9 => .array .int
  | 10 => .array .int
  | 11 => .array .int
  | 12 => .int
  | 13 => .array .int
  | 14 => .array .int
  | 15 => .array .byte
  | 16 => .int
  | 17 => .int
  | 18 => .int
  | 19 => .int
  | 20 => .array .int
  | 21 => .array .int
  | 22 => .array .int
  | 23 => .array .int
  | 24 => .array .int
  | 25 => .array .int
  | 26 => .array .int
  | 27 => .array .int
  | 28 => .array .int
  | 29 => .array .int
  | 30 => .array .int
  | 31 => .array .int
  | 32 => .int
  | 33 => .int
  | 34 => .int
  | 35 => .int
  | 36 => .int
  | 37 => .int
  | 38 => .int
  | 39 => .int
  | 40 => .int
  | 41 => .int
  | 42 => .array .int
  | 43 => .int
  | 44 => .array .int
  | 45 => .array .int
  | 46 => .array .int
  | 47 => .array .int
  | 48 => .array .int
  | 49 => .array .int
  | 50 => .array .int
  | 51 => .array .boolean
  | 52 => .int
  | 53 => .array .int
  | 54 => .array .int
  | 55 => .array .int
  | 56 => .int
  | 57 => .array .int
  | 58 => .array .int
  | 59 => .int
  | 60 => .int
  | 61 => .array .int
  | 62 => .int
  | 63 => .array .int
  | 64 => .array .int
  | 65 => .int
  | 66 => .array .int
  | 67 => .int
  | 68 => .array .int
  | 69 => .int
  | 70 => .array .int
  | 71 => .array .int
  | 72 => .array .int
  | 73 => .array .int
  | 74 => .int
  | 75 => .array .int
  | 76 => .int
  | 77 => .int
  | 78 => .array .int
  | 79 => .array .int
  | 80 => .int
  | 81 => .array .int
  | 82 => .array .boolean
  | 83 => .int
  | 84 => .array .boolean
  | 85 => .int
  | 86 => .int
  | 87 => .array .int
  | 88 => .array .int
  | 89 => .int
  | 90 => .int
  | 91 => .int
  | 92 => .int
  | 93 => .int
  | 94 => .array .int
  | 95 => .array .int
  | 96 => .array .int
  | 97 => .int
  | 98 => .boolean
  | 99 => .array .int
  | 100 => .boolean
  | 101 => .int
  | 102 => .int
  | 103 => .int
  | 104 => .int
  | 105 => .array .int
  | 106 => .array .int
  | 107 => .array .int
  | 108 => .array .int
  | 109 => .array .boolean
  | 110 => .int
  | 111 => .array .int
  | 112 => .array .int
  | 113 => .array .int
  | 114 => .array .int
  | 115 => .int
  | 116 => .array .int
  | 117 => .array .int
  | 118 => .array .int
  | 119 => .array .int
  | 120 => .array .int
  | 121 => .array .int
  | 122 => .array .int
  | 123 => .array .int
  | 124 => .array .int
  | 125 => .array .int
  | 126 => .array .int
  | 127 => .int
  | 128 => .int
  | 129 => .int
  | 130 => .int
  | 131 => .object "LevelUnitsModel$Stop"
  | 132 => .array .int
  | _ => .int
abbrev wsX130 : List Cond := u_ws RX13 TX13 134
theorem nmX13 : ∀ a, a < 134 → ∀ b, b < 134 → a ≠ b → (TX13 a).2.1 ≠ (TX13 b).2.1 := by decide +kernel
theorem tyX13_ok : ∀ k, k < 134 → parseFieldDescriptor (TX13 k).2.2.1 = some (tyX13 k) := by decide +kernel
abbrev cX13_init : ByteArray := prog_14_method_1_code
def yX13_init : MethodName := ⟨RX13, "<init>", "()V"⟩
def RJ0 : String := "java/lang/String"
def TJ0 : u_T := fun k => match k with
  | 0 => ("java/lang/String", "value", "[B", true)
  | 1 => ("java/lang/String", "coder", "B", true)
  | 2 => ("java/lang/String", "hash", "I", false)
  | _ => ("java/lang/String", "hashIsZero", "Z", false)
def tyJ0 : Nat → FieldType := fun k => match k with
  | 0 => .array .byte
  | 1 => .byte
  | 2 => .int
  | _ => .boolean
abbrev wsJ00 : List Cond := u_ws RJ0 TJ0 4
theorem nmJ0 : ∀ a, a < 4 → ∀ b, b < 4 → a ≠ b → (TJ0 a).2.1 ≠ (TJ0 b).2.1 := by decide +kernel
theorem tyJ0_ok : ∀ k, k < 4 → parseFieldDescriptor (TJ0 k).2.2.1 = some (tyJ0 k) := by decide +kernel
def RJ4 : String := "java/lang/StringBuilder"
def TJ4 : u_T := fun k => match k with
  | 0 => ("java/lang/AbstractStringBuilder", "value", "[B", false)
  | 1 => ("java/lang/AbstractStringBuilder", "coder", "B", false)
  | 2 => ("java/lang/AbstractStringBuilder", "maybeLatin1", "Z", false)
  | _ => ("java/lang/AbstractStringBuilder", "count", "I", false)
def tyJ4 : Nat → FieldType := fun k => match k with
  | 0 => .array .byte
  | 1 => .byte
  | 2 => .boolean
  | _ => .int
abbrev wsJ40 : List Cond := u_ws RJ4 TJ4 4
theorem nmJ4 : ∀ a, a < 4 → ∀ b, b < 4 → a ≠ b → (TJ4 a).2.1 ≠ (TJ4 b).2.1 := by decide +kernel
theorem tyJ4_ok : ∀ k, k < 4 → parseFieldDescriptor (TJ4 k).2.2.1 = some (tyJ4 k) := by decide +kernel
def RL : String := "LevelUnitsLaw"
theorem dX2_init_0 : decode cX2_init 0 = .ok (.aload_n 0, 1) := by decide +kernel
theorem dX2_init_1 : decode cX2_init 1 = .ok (.invokespecial 3, 3) := by decide +kernel
theorem dX2_init_4 : decode cX2_init 4 = .ok (.aload_n 0, 1) := by decide +kernel
theorem dX2_init_5 : decode cX2_init 5 = .ok (.sipush 5000, 3) := by decide +kernel
theorem dX2_init_8 : decode cX2_init 8 = .ok (.newarray .int, 2) := by decide +kernel
theorem dX2_init_10 : decode cX2_init 10 = .ok (.putfield 9, 3) := by decide +kernel
theorem dX2_init_13 : decode cX2_init 13 = .ok (.aload_n 0, 1) := by decide +kernel
theorem dX2_init_14 : decode cX2_init 14 = .ok (.sipush 20000, 3) := by decide +kernel
theorem dX2_init_17 : decode cX2_init 17 = .ok (.newarray .int, 2) := by decide +kernel
theorem dX2_init_19 : decode cX2_init 19 = .ok (.putfield 15, 3) := by decide +kernel
theorem dX2_init_22 : decode cX2_init 22 = .ok (.aload_n 0, 1) := by decide +kernel
theorem dX2_init_23 : decode cX2_init 23 = .ok (.sipush 2002, 3) := by decide +kernel
theorem dX2_init_26 : decode cX2_init 26 = .ok (.newarray .int, 2) := by decide +kernel
theorem dX2_init_28 : decode cX2_init 28 = .ok (.putfield 18, 3) := by decide +kernel
theorem dX2_init_31 : decode cX2_init 31 = .ok (.aload_n 0, 1) := by decide +kernel
theorem dX2_init_32 : decode cX2_init 32 = .ok (.sipush 2001, 3) := by decide +kernel
theorem dX2_init_35 : decode cX2_init 35 = .ok (.anewarray 21, 3) := by decide +kernel
theorem dX2_init_38 : decode cX2_init 38 = .ok (.putfield 23, 3) := by decide +kernel
theorem dX2_init_41 : decode cX2_init 41 = .ok (.aload_n 0, 1) := by decide +kernel
theorem dX2_init_42 : decode cX2_init 42 = .ok (.sipush 2001, 3) := by decide +kernel
theorem dX2_init_45 : decode cX2_init 45 = .ok (.newarray .int, 2) := by decide +kernel
theorem dX2_init_47 : decode cX2_init 47 = .ok (.putfield 27, 3) := by decide +kernel
theorem dX2_init_50 : decode cX2_init 50 = .ok (.aload_n 0, 1) := by decide +kernel
theorem dX2_init_51 : decode cX2_init 51 = .ok (.bipush 64, 2) := by decide +kernel
theorem dX2_init_53 : decode cX2_init 53 = .ok (.anewarray 30, 3) := by decide +kernel
theorem dX2_init_56 : decode cX2_init 56 = .ok (.putfield 32, 3) := by decide +kernel
theorem dX2_init_59 : decode cX2_init 59 = .ok (.aload_n 0, 1) := by decide +kernel
theorem dX2_init_60 : decode cX2_init 60 = .ok (.sipush 500, 3) := by decide +kernel
theorem dX2_init_63 : decode cX2_init 63 = .ok (.newarray .int, 2) := by decide +kernel
theorem dX2_init_65 : decode cX2_init 65 = .ok (.putfield 36, 3) := by decide +kernel
theorem dX2_init_68 : decode cX2_init 68 = .ok (.aload_n 0, 1) := by decide +kernel
theorem dX2_init_69 : decode cX2_init 69 = .ok (.sipush 200, 3) := by decide +kernel
theorem dX2_init_72 : decode cX2_init 72 = .ok (.newarray .int, 2) := by decide +kernel
theorem dX2_init_74 : decode cX2_init 74 = .ok (.putfield 39, 3) := by decide +kernel
theorem dX2_init_77 : decode cX2_init 77 = .ok (.aload_n 0, 1) := by decide +kernel
theorem dX2_init_78 : decode cX2_init 78 = .ok (.sipush 16000, 3) := by decide +kernel
theorem dX2_init_81 : decode cX2_init 81 = .ok (.newarray .int, 2) := by decide +kernel
theorem dX2_init_83 : decode cX2_init 83 = .ok (.putfield 42, 3) := by decide +kernel
theorem dX2_init_86 : decode cX2_init 86 = .ok (.return_, 1) := by decide +kernel
theorem dX7_init_0 : decode cX7_init 0 = .ok (.aload_n 0, 1) := by decide +kernel
theorem dX7_init_1 : decode cX7_init 1 = .ok (.invokespecial 3, 3) := by decide +kernel
theorem dX7_init_4 : decode cX7_init 4 = .ok (.aload_n 0, 1) := by decide +kernel
theorem dX7_init_5 : decode cX7_init 5 = .ok (.sipush 6001, 3) := by decide +kernel
theorem dX7_init_8 : decode cX7_init 8 = .ok (.newarray .int, 2) := by decide +kernel
theorem dX7_init_10 : decode cX7_init 10 = .ok (.putfield 9, 3) := by decide +kernel
theorem dX7_init_13 : decode cX7_init 13 = .ok (.aload_n 0, 1) := by decide +kernel
theorem dX7_init_14 : decode cX7_init 14 = .ok (.sipush 6001, 3) := by decide +kernel
theorem dX7_init_17 : decode cX7_init 17 = .ok (.newarray .int, 2) := by decide +kernel
theorem dX7_init_19 : decode cX7_init 19 = .ok (.putfield 15, 3) := by decide +kernel
theorem dX7_init_22 : decode cX7_init 22 = .ok (.aload_n 0, 1) := by decide +kernel
theorem dX7_init_23 : decode cX7_init 23 = .ok (.sipush 6001, 3) := by decide +kernel
theorem dX7_init_26 : decode cX7_init 26 = .ok (.newarray .int, 2) := by decide +kernel
theorem dX7_init_28 : decode cX7_init 28 = .ok (.putfield 18, 3) := by decide +kernel
theorem dX7_init_31 : decode cX7_init 31 = .ok (.aload_n 0, 1) := by decide +kernel
theorem dX7_init_32 : decode cX7_init 32 = .ok (.sipush 256, 3) := by decide +kernel
theorem dX7_init_35 : decode cX7_init 35 = .ok (.newarray .int, 2) := by decide +kernel
theorem dX7_init_37 : decode cX7_init 37 = .ok (.putfield 21, 3) := by decide +kernel
theorem dX7_init_40 : decode cX7_init 40 = .ok (.aload_n 0, 1) := by decide +kernel
theorem dX7_init_41 : decode cX7_init 41 = .ok (.sipush 3001, 3) := by decide +kernel
theorem dX7_init_44 : decode cX7_init 44 = .ok (.newarray .int, 2) := by decide +kernel
theorem dX7_init_46 : decode cX7_init 46 = .ok (.putfield 24, 3) := by decide +kernel
theorem dX7_init_49 : decode cX7_init 49 = .ok (.aload_n 0, 1) := by decide +kernel
theorem dX7_init_50 : decode cX7_init 50 = .ok (.sipush 3001, 3) := by decide +kernel
theorem dX7_init_53 : decode cX7_init 53 = .ok (.newarray .int, 2) := by decide +kernel
theorem dX7_init_55 : decode cX7_init 55 = .ok (.putfield 27, 3) := by decide +kernel
theorem dX7_init_58 : decode cX7_init 58 = .ok (.aload_n 0, 1) := by decide +kernel
theorem dX7_init_59 : decode cX7_init 59 = .ok (.sipush 3001, 3) := by decide +kernel
theorem dX7_init_62 : decode cX7_init 62 = .ok (.newarray .int, 2) := by decide +kernel
theorem dX7_init_64 : decode cX7_init 64 = .ok (.putfield 30, 3) := by decide +kernel
theorem dX7_init_67 : decode cX7_init 67 = .ok (.return_, 1) := by decide +kernel
theorem dX11_init_0 : decode cX11_init 0 = .ok (.aload_n 0, 1) := by decide +kernel
theorem dX11_init_1 : decode cX11_init 1 = .ok (.invokespecial 3, 3) := by decide +kernel
theorem dX11_init_4 : decode cX11_init 4 = .ok (.aload_n 0, 1) := by decide +kernel
theorem dX11_init_5 : decode cX11_init 5 = .ok (.sipush 6000, 3) := by decide +kernel
theorem dX11_init_8 : decode cX11_init 8 = .ok (.newarray .byte, 2) := by decide +kernel
theorem dX11_init_10 : decode cX11_init 10 = .ok (.putfield 9, 3) := by decide +kernel
theorem dX11_init_13 : decode cX11_init 13 = .ok (.aload_n 0, 1) := by decide +kernel
theorem dX11_init_14 : decode cX11_init 14 = .ok (.new 13, 3) := by decide +kernel
theorem dX11_init_17 : decode cX11_init 17 = .ok (.dup, 1) := by decide +kernel
theorem dX11_init_18 : decode cX11_init 18 = .ok (.invokespecial 15, 3) := by decide +kernel
theorem dX11_init_21 : decode cX11_init 21 = .ok (.putfield 16, 3) := by decide +kernel
theorem dX11_init_24 : decode cX11_init 24 = .ok (.aload_n 0, 1) := by decide +kernel
theorem dX11_init_25 : decode cX11_init 25 = .ok (.new 20, 3) := by decide +kernel
theorem dX11_init_28 : decode cX11_init 28 = .ok (.dup, 1) := by decide +kernel
theorem dX11_init_29 : decode cX11_init 29 = .ok (.invokespecial 22, 3) := by decide +kernel
theorem dX11_init_32 : decode cX11_init 32 = .ok (.putfield 23, 3) := by decide +kernel
theorem dX11_init_35 : decode cX11_init 35 = .ok (.return_, 1) := by decide +kernel
theorem dX12_init_0 : decode cX12_init 0 = .ok (.aload_n 0, 1) := by decide +kernel
theorem dX12_init_1 : decode cX12_init 1 = .ok (.aconst_null, 1) := by decide +kernel
theorem dX12_init_2 : decode cX12_init 2 = .ok (.aconst_null, 1) := by decide +kernel
theorem dX12_init_3 : decode cX12_init 3 = .ok (.iconst 0, 1) := by decide +kernel
theorem dX12_init_4 : decode cX12_init 4 = .ok (.iconst 0, 1) := by decide +kernel
theorem dX12_init_5 : decode cX12_init 5 = .ok (.invokespecial 1, 3) := by decide +kernel
theorem dX12_init_8 : decode cX12_init 8 = .ok (.return_, 1) := by decide +kernel
theorem dX13_init_0 : decode cX13_init 0 = .ok (.aload_n 0, 1) := by decide +kernel
theorem dX13_init_1 : decode cX13_init 1 = .ok (.invokespecial 1, 3) := by decide +kernel
theorem dX13_init_4 : decode cX13_init 4 = .ok (.aload_n 0, 1) := by decide +kernel
theorem dX13_init_5 : decode cX13_init 5 = .ok (.new 7, 3) := by decide +kernel
theorem dX13_init_8 : decode cX13_init 8 = .ok (.dup, 1) := by decide +kernel
theorem dX13_init_9 : decode cX13_init 9 = .ok (.invokespecial 9, 3) := by decide +kernel
theorem dX13_init_12 : decode cX13_init 12 = .ok (.putfield 10, 3) := by decide +kernel
theorem dX13_init_15 : decode cX13_init 15 = .ok (.aload_n 0, 1) := by decide +kernel
theorem dX13_init_16 : decode cX13_init 16 = .ok (.sipush 6000, 3) := by decide +kernel
theorem dX13_init_19 : decode cX13_init 19 = .ok (.newarray .byte, 2) := by decide +kernel
theorem dX13_init_21 : decode cX13_init 21 = .ok (.putfield 16, 3) := by decide +kernel
theorem dX13_init_24 : decode cX13_init 24 = .ok (.aload_n 0, 1) := by decide +kernel
theorem dX13_init_25 : decode cX13_init 25 = .ok (.sipush 6000, 3) := by decide +kernel
theorem dX13_init_28 : decode cX13_init 28 = .ok (.newarray .byte, 2) := by decide +kernel
theorem dX13_init_30 : decode cX13_init 30 = .ok (.putfield 20, 3) := by decide +kernel
theorem dX13_init_33 : decode cX13_init 33 = .ok (.aload_n 0, 1) := by decide +kernel
theorem dX13_init_34 : decode cX13_init 34 = .ok (.sipush 6002, 3) := by decide +kernel
theorem dX13_init_37 : decode cX13_init 37 = .ok (.newarray .int, 2) := by decide +kernel
theorem dX13_init_39 : decode cX13_init 39 = .ok (.putfield 23, 3) := by decide +kernel
theorem dX13_init_42 : decode cX13_init 42 = .ok (.aload_n 0, 1) := by decide +kernel
theorem dX13_init_43 : decode cX13_init 43 = .ok (.sipush 6002, 3) := by decide +kernel
theorem dX13_init_46 : decode cX13_init 46 = .ok (.newarray .int, 2) := by decide +kernel
theorem dX13_init_48 : decode cX13_init 48 = .ok (.putfield 27, 3) := by decide +kernel
theorem dX13_init_51 : decode cX13_init 51 = .ok (.aload_n 0, 1) := by decide +kernel
theorem dX13_init_52 : decode cX13_init 52 = .ok (.sipush 6002, 3) := by decide +kernel
theorem dX13_init_55 : decode cX13_init 55 = .ok (.newarray .int, 2) := by decide +kernel
theorem dX13_init_57 : decode cX13_init 57 = .ok (.putfield 30, 3) := by decide +kernel
theorem dX13_init_60 : decode cX13_init 60 = .ok (.aload_n 0, 1) := by decide +kernel
theorem dX13_init_61 : decode cX13_init 61 = .ok (.sipush 6000, 3) := by decide +kernel
theorem dX13_init_64 : decode cX13_init 64 = .ok (.newarray .int, 2) := by decide +kernel
theorem dX13_init_66 : decode cX13_init 66 = .ok (.putfield 33, 3) := by decide +kernel
theorem dX13_init_69 : decode cX13_init 69 = .ok (.aload_n 0, 1) := by decide +kernel
theorem dX13_init_70 : decode cX13_init 70 = .ok (.sipush 6000, 3) := by decide +kernel
theorem dX13_init_73 : decode cX13_init 73 = .ok (.newarray .int, 2) := by decide +kernel
theorem dX13_init_75 : decode cX13_init 75 = .ok (.putfield 36, 3) := by decide +kernel
theorem dX13_init_78 : decode cX13_init 78 = .ok (.aload_n 0, 1) := by decide +kernel
theorem dX13_init_79 : decode cX13_init 79 = .ok (.sipush 6600, 3) := by decide +kernel
theorem dX13_init_82 : decode cX13_init 82 = .ok (.newarray .byte, 2) := by decide +kernel
theorem dX13_init_84 : decode cX13_init 84 = .ok (.putfield 39, 3) := by decide +kernel
theorem dX13_init_87 : decode cX13_init 87 = .ok (.aload_n 0, 1) := by decide +kernel
theorem dX13_init_88 : decode cX13_init 88 = .ok (.sipush 16000, 3) := by decide +kernel
theorem dX13_init_91 : decode cX13_init 91 = .ok (.newarray .int, 2) := by decide +kernel
theorem dX13_init_93 : decode cX13_init 93 = .ok (.putfield 42, 3) := by decide +kernel
theorem dX13_init_96 : decode cX13_init 96 = .ok (.aload_n 0, 1) := by decide +kernel
theorem dX13_init_97 : decode cX13_init 97 = .ok (.sipush 16000, 3) := by decide +kernel
theorem dX13_init_100 : decode cX13_init 100 = .ok (.newarray .int, 2) := by decide +kernel
theorem dX13_init_102 : decode cX13_init 102 = .ok (.putfield 45, 3) := by decide +kernel
theorem dX13_init_105 : decode cX13_init 105 = .ok (.aload_n 0, 1) := by decide +kernel
theorem dX13_init_106 : decode cX13_init 106 = .ok (.sipush 16000, 3) := by decide +kernel
theorem dX13_init_109 : decode cX13_init 109 = .ok (.newarray .int, 2) := by decide +kernel
theorem dX13_init_111 : decode cX13_init 111 = .ok (.putfield 48, 3) := by decide +kernel
theorem dX13_init_114 : decode cX13_init 114 = .ok (.aload_n 0, 1) := by decide +kernel
theorem dX13_init_115 : decode cX13_init 115 = .ok (.sipush 16000, 3) := by decide +kernel
theorem dX13_init_118 : decode cX13_init 118 = .ok (.newarray .int, 2) := by decide +kernel
theorem dX13_init_120 : decode cX13_init 120 = .ok (.putfield 51, 3) := by decide +kernel
theorem dX13_init_123 : decode cX13_init 123 = .ok (.aload_n 0, 1) := by decide +kernel
theorem dX13_init_124 : decode cX13_init 124 = .ok (.sipush 16000, 3) := by decide +kernel
theorem dX13_init_127 : decode cX13_init 127 = .ok (.newarray .int, 2) := by decide +kernel
theorem dX13_init_129 : decode cX13_init 129 = .ok (.putfield 54, 3) := by decide +kernel
theorem dX13_init_132 : decode cX13_init 132 = .ok (.aload_n 0, 1) := by decide +kernel
theorem dX13_init_133 : decode cX13_init 133 = .ok (.sipush 16000, 3) := by decide +kernel
theorem dX13_init_136 : decode cX13_init 136 = .ok (.newarray .int, 2) := by decide +kernel
theorem dX13_init_138 : decode cX13_init 138 = .ok (.putfield 57, 3) := by decide +kernel
theorem dX13_init_141 : decode cX13_init 141 = .ok (.aload_n 0, 1) := by decide +kernel
theorem dX13_init_142 : decode cX13_init 142 = .ok (.sipush 16000, 3) := by decide +kernel
theorem dX13_init_145 : decode cX13_init 145 = .ok (.newarray .int, 2) := by decide +kernel
theorem dX13_init_147 : decode cX13_init 147 = .ok (.putfield 60, 3) := by decide +kernel
theorem dX13_init_150 : decode cX13_init 150 = .ok (.aload_n 0, 1) := by decide +kernel
theorem dX13_init_151 : decode cX13_init 151 = .ok (.sipush 16000, 3) := by decide +kernel
theorem dX13_init_154 : decode cX13_init 154 = .ok (.newarray .int, 2) := by decide +kernel
theorem dX13_init_156 : decode cX13_init 156 = .ok (.putfield 63, 3) := by decide +kernel
theorem dX13_init_159 : decode cX13_init 159 = .ok (.aload_n 0, 1) := by decide +kernel
theorem dX13_init_160 : decode cX13_init 160 = .ok (.sipush 16000, 3) := by decide +kernel
theorem dX13_init_163 : decode cX13_init 163 = .ok (.newarray .int, 2) := by decide +kernel
theorem dX13_init_165 : decode cX13_init 165 = .ok (.putfield 66, 3) := by decide +kernel
theorem dX13_init_168 : decode cX13_init 168 = .ok (.aload_n 0, 1) := by decide +kernel
theorem dX13_init_169 : decode cX13_init 169 = .ok (.sipush 16000, 3) := by decide +kernel
theorem dX13_init_172 : decode cX13_init 172 = .ok (.newarray .int, 2) := by decide +kernel
theorem dX13_init_174 : decode cX13_init 174 = .ok (.putfield 69, 3) := by decide +kernel
theorem dX13_init_177 : decode cX13_init 177 = .ok (.aload_n 0, 1) := by decide +kernel
theorem dX13_init_178 : decode cX13_init 178 = .ok (.sipush 16000, 3) := by decide +kernel
theorem dX13_init_181 : decode cX13_init 181 = .ok (.newarray .int, 2) := by decide +kernel
theorem dX13_init_183 : decode cX13_init 183 = .ok (.putfield 72, 3) := by decide +kernel
theorem dX13_init_186 : decode cX13_init 186 = .ok (.aload_n 0, 1) := by decide +kernel
theorem dX13_init_187 : decode cX13_init 187 = .ok (.sipush 16000, 3) := by decide +kernel
theorem dX13_init_190 : decode cX13_init 190 = .ok (.newarray .int, 2) := by decide +kernel
theorem dX13_init_192 : decode cX13_init 192 = .ok (.putfield 75, 3) := by decide +kernel
theorem dX13_init_195 : decode cX13_init 195 = .ok (.aload_n 0, 1) := by decide +kernel
theorem dX13_init_196 : decode cX13_init 196 = .ok (.bipush 14, 2) := by decide +kernel
theorem dX13_init_198 : decode cX13_init 198 = .ok (.newarray .int, 2) := by decide +kernel
theorem dX13_init_200 : decode cX13_init 200 = .ok (.putfield 78, 3) := by decide +kernel
theorem dX13_init_203 : decode cX13_init 203 = .ok (.aload_n 0, 1) := by decide +kernel
theorem dX13_init_204 : decode cX13_init 204 = .ok (.sipush 3200, 3) := by decide +kernel
theorem dX13_init_207 : decode cX13_init 207 = .ok (.newarray .int, 2) := by decide +kernel
theorem dX13_init_209 : decode cX13_init 209 = .ok (.putfield 81, 3) := by decide +kernel
theorem dX13_init_212 : decode cX13_init 212 = .ok (.aload_n 0, 1) := by decide +kernel
theorem dX13_init_213 : decode cX13_init 213 = .ok (.sipush 3200, 3) := by decide +kernel
theorem dX13_init_216 : decode cX13_init 216 = .ok (.newarray .int, 2) := by decide +kernel
theorem dX13_init_218 : decode cX13_init 218 = .ok (.putfield 84, 3) := by decide +kernel
theorem dX13_init_221 : decode cX13_init 221 = .ok (.aload_n 0, 1) := by decide +kernel
theorem dX13_init_222 : decode cX13_init 222 = .ok (.sipush 3200, 3) := by decide +kernel
theorem dX13_init_225 : decode cX13_init 225 = .ok (.newarray .int, 2) := by decide +kernel
theorem dX13_init_227 : decode cX13_init 227 = .ok (.putfield 87, 3) := by decide +kernel
theorem dX13_init_230 : decode cX13_init 230 = .ok (.aload_n 0, 1) := by decide +kernel
theorem dX13_init_231 : decode cX13_init 231 = .ok (.sipush 3200, 3) := by decide +kernel
theorem dX13_init_234 : decode cX13_init 234 = .ok (.newarray .int, 2) := by decide +kernel
theorem dX13_init_236 : decode cX13_init 236 = .ok (.putfield 90, 3) := by decide +kernel
theorem dX13_init_239 : decode cX13_init 239 = .ok (.aload_n 0, 1) := by decide +kernel
theorem dX13_init_240 : decode cX13_init 240 = .ok (.bipush 14, 2) := by decide +kernel
theorem dX13_init_242 : decode cX13_init 242 = .ok (.newarray .int, 2) := by decide +kernel
theorem dX13_init_244 : decode cX13_init 244 = .ok (.putfield 93, 3) := by decide +kernel
theorem dX13_init_247 : decode cX13_init 247 = .ok (.aload_n 0, 1) := by decide +kernel
theorem dX13_init_248 : decode cX13_init 248 = .ok (.bipush 14, 2) := by decide +kernel
theorem dX13_init_250 : decode cX13_init 250 = .ok (.newarray .int, 2) := by decide +kernel
theorem dX13_init_252 : decode cX13_init 252 = .ok (.putfield 96, 3) := by decide +kernel
theorem dX13_init_255 : decode cX13_init 255 = .ok (.aload_n 0, 1) := by decide +kernel
theorem dX13_init_256 : decode cX13_init 256 = .ok (.bipush 14, 2) := by decide +kernel
theorem dX13_init_258 : decode cX13_init 258 = .ok (.newarray .int, 2) := by decide +kernel
theorem dX13_init_260 : decode cX13_init 260 = .ok (.putfield 99, 3) := by decide +kernel
theorem dX13_init_263 : decode cX13_init 263 = .ok (.aload_n 0, 1) := by decide +kernel
theorem dX13_init_264 : decode cX13_init 264 = .ok (.bipush 14, 2) := by decide +kernel
theorem dX13_init_266 : decode cX13_init 266 = .ok (.newarray .boolean, 2) := by decide +kernel
theorem dX13_init_268 : decode cX13_init 268 = .ok (.putfield 102, 3) := by decide +kernel
theorem dX13_init_271 : decode cX13_init 271 = .ok (.aload_n 0, 1) := by decide +kernel
theorem dX13_init_272 : decode cX13_init 272 = .ok (.sipush 3200, 3) := by decide +kernel
theorem dX13_init_275 : decode cX13_init 275 = .ok (.newarray .int, 2) := by decide +kernel
theorem dX13_init_277 : decode cX13_init 277 = .ok (.putfield 106, 3) := by decide +kernel
theorem dX13_init_280 : decode cX13_init 280 = .ok (.aload_n 0, 1) := by decide +kernel
theorem dX13_init_281 : decode cX13_init 281 = .ok (.sipush 3200, 3) := by decide +kernel
theorem dX13_init_284 : decode cX13_init 284 = .ok (.newarray .int, 2) := by decide +kernel
theorem dX13_init_286 : decode cX13_init 286 = .ok (.putfield 109, 3) := by decide +kernel
theorem dX13_init_289 : decode cX13_init 289 = .ok (.aload_n 0, 1) := by decide +kernel
theorem dX13_init_290 : decode cX13_init 290 = .ok (.sipush 3200, 3) := by decide +kernel
theorem dX13_init_293 : decode cX13_init 293 = .ok (.newarray .int, 2) := by decide +kernel
theorem dX13_init_295 : decode cX13_init 295 = .ok (.putfield 112, 3) := by decide +kernel
theorem dX13_init_298 : decode cX13_init 298 = .ok (.aload_n 0, 1) := by decide +kernel
theorem dX13_init_299 : decode cX13_init 299 = .ok (.sipush 3200, 3) := by decide +kernel
theorem dX13_init_302 : decode cX13_init 302 = .ok (.newarray .int, 2) := by decide +kernel
theorem dX13_init_304 : decode cX13_init 304 = .ok (.putfield 115, 3) := by decide +kernel
theorem dX13_init_307 : decode cX13_init 307 = .ok (.aload_n 0, 1) := by decide +kernel
theorem dX13_init_308 : decode cX13_init 308 = .ok (.sipush 3200, 3) := by decide +kernel
theorem dX13_init_311 : decode cX13_init 311 = .ok (.newarray .int, 2) := by decide +kernel
theorem dX13_init_313 : decode cX13_init 313 = .ok (.putfield 118, 3) := by decide +kernel
theorem dX13_init_316 : decode cX13_init 316 = .ok (.aload_n 0, 1) := by decide +kernel
theorem dX13_init_317 : decode cX13_init 317 = .ok (.sipush 3200, 3) := by decide +kernel
theorem dX13_init_320 : decode cX13_init 320 = .ok (.newarray .int, 2) := by decide +kernel
theorem dX13_init_322 : decode cX13_init 322 = .ok (.putfield 121, 3) := by decide +kernel
theorem dX13_init_325 : decode cX13_init 325 = .ok (.aload_n 0, 1) := by decide +kernel
theorem dX13_init_326 : decode cX13_init 326 = .ok (.sipush 3200, 3) := by decide +kernel
theorem dX13_init_329 : decode cX13_init 329 = .ok (.newarray .int, 2) := by decide +kernel
theorem dX13_init_331 : decode cX13_init 331 = .ok (.putfield 124, 3) := by decide +kernel
theorem dX13_init_334 : decode cX13_init 334 = .ok (.aload_n 0, 1) := by decide +kernel
theorem dX13_init_335 : decode cX13_init 335 = .ok (.sipush 3200, 3) := by decide +kernel
theorem dX13_init_338 : decode cX13_init 338 = .ok (.newarray .int, 2) := by decide +kernel
theorem dX13_init_340 : decode cX13_init 340 = .ok (.putfield 127, 3) := by decide +kernel
theorem dX13_init_343 : decode cX13_init 343 = .ok (.aload_n 0, 1) := by decide +kernel
theorem dX13_init_344 : decode cX13_init 344 = .ok (.sipush 16000, 3) := by decide +kernel
theorem dX13_init_347 : decode cX13_init 347 = .ok (.newarray .int, 2) := by decide +kernel
theorem dX13_init_349 : decode cX13_init 349 = .ok (.putfield 130, 3) := by decide +kernel
theorem dX13_init_352 : decode cX13_init 352 = .ok (.aload_n 0, 1) := by decide +kernel
theorem dX13_init_353 : decode cX13_init 353 = .ok (.sipush 16000, 3) := by decide +kernel
theorem dX13_init_356 : decode cX13_init 356 = .ok (.newarray .int, 2) := by decide +kernel
theorem dX13_init_358 : decode cX13_init 358 = .ok (.putfield 133, 3) := by decide +kernel
theorem dX13_init_361 : decode cX13_init 361 = .ok (.aload_n 0, 1) := by decide +kernel
theorem dX13_init_362 : decode cX13_init 362 = .ok (.ldc 136, 2) := by decide +kernel
theorem dX13_init_364 : decode cX13_init 364 = .ok (.newarray .int, 2) := by decide +kernel
theorem dX13_init_366 : decode cX13_init 366 = .ok (.putfield 137, 3) := by decide +kernel
theorem dX13_init_369 : decode cX13_init 369 = .ok (.aload_n 0, 1) := by decide +kernel
theorem dX13_init_370 : decode cX13_init 370 = .ok (.ldc 136, 2) := by decide +kernel
theorem dX13_init_372 : decode cX13_init 372 = .ok (.newarray .int, 2) := by decide +kernel
theorem dX13_init_374 : decode cX13_init 374 = .ok (.putfield 140, 3) := by decide +kernel
theorem dX13_init_377 : decode cX13_init 377 = .ok (.aload_n 0, 1) := by decide +kernel
theorem dX13_init_378 : decode cX13_init 378 = .ok (.sipush 16000, 3) := by decide +kernel
theorem dX13_init_381 : decode cX13_init 381 = .ok (.newarray .int, 2) := by decide +kernel
theorem dX13_init_383 : decode cX13_init 383 = .ok (.putfield 143, 3) := by decide +kernel
theorem dX13_init_386 : decode cX13_init 386 = .ok (.aload_n 0, 1) := by decide +kernel
theorem dX13_init_387 : decode cX13_init 387 = .ok (.sipush 16000, 3) := by decide +kernel
theorem dX13_init_390 : decode cX13_init 390 = .ok (.newarray .int, 2) := by decide +kernel
theorem dX13_init_392 : decode cX13_init 392 = .ok (.putfield 146, 3) := by decide +kernel
theorem dX13_init_395 : decode cX13_init 395 = .ok (.aload_n 0, 1) := by decide +kernel
theorem dX13_init_396 : decode cX13_init 396 = .ok (.sipush 3200, 3) := by decide +kernel
theorem dX13_init_399 : decode cX13_init 399 = .ok (.newarray .int, 2) := by decide +kernel
theorem dX13_init_401 : decode cX13_init 401 = .ok (.putfield 149, 3) := by decide +kernel
theorem dX13_init_404 : decode cX13_init 404 = .ok (.aload_n 0, 1) := by decide +kernel
theorem dX13_init_405 : decode cX13_init 405 = .ok (.sipush 16000, 3) := by decide +kernel
theorem dX13_init_408 : decode cX13_init 408 = .ok (.newarray .int, 2) := by decide +kernel
theorem dX13_init_410 : decode cX13_init 410 = .ok (.putfield 152, 3) := by decide +kernel
theorem dX13_init_413 : decode cX13_init 413 = .ok (.aload_n 0, 1) := by decide +kernel
theorem dX13_init_414 : decode cX13_init 414 = .ok (.sipush 16000, 3) := by decide +kernel
theorem dX13_init_417 : decode cX13_init 417 = .ok (.newarray .int, 2) := by decide +kernel
theorem dX13_init_419 : decode cX13_init 419 = .ok (.putfield 155, 3) := by decide +kernel
theorem dX13_init_422 : decode cX13_init 422 = .ok (.aload_n 0, 1) := by decide +kernel
theorem dX13_init_423 : decode cX13_init 423 = .ok (.sipush 16000, 3) := by decide +kernel
theorem dX13_init_426 : decode cX13_init 426 = .ok (.newarray .int, 2) := by decide +kernel
theorem dX13_init_428 : decode cX13_init 428 = .ok (.putfield 158, 3) := by decide +kernel
theorem dX13_init_431 : decode cX13_init 431 = .ok (.aload_n 0, 1) := by decide +kernel
theorem dX13_init_432 : decode cX13_init 432 = .ok (.sipush 16000, 3) := by decide +kernel
theorem dX13_init_435 : decode cX13_init 435 = .ok (.newarray .boolean, 2) := by decide +kernel
theorem dX13_init_437 : decode cX13_init 437 = .ok (.putfield 161, 3) := by decide +kernel
theorem dX13_init_440 : decode cX13_init 440 = .ok (.aload_n 0, 1) := by decide +kernel
theorem dX13_init_441 : decode cX13_init 441 = .ok (.sipush 16000, 3) := by decide +kernel
theorem dX13_init_444 : decode cX13_init 444 = .ok (.newarray .boolean, 2) := by decide +kernel
theorem dX13_init_446 : decode cX13_init 446 = .ok (.putfield 164, 3) := by decide +kernel
theorem dX13_init_449 : decode cX13_init 449 = .ok (.aload_n 0, 1) := by decide +kernel
theorem dX13_init_450 : decode cX13_init 450 = .ok (.sipush 3200, 3) := by decide +kernel
theorem dX13_init_453 : decode cX13_init 453 = .ok (.newarray .int, 2) := by decide +kernel
theorem dX13_init_455 : decode cX13_init 455 = .ok (.putfield 167, 3) := by decide +kernel
theorem dX13_init_458 : decode cX13_init 458 = .ok (.aload_n 0, 1) := by decide +kernel
theorem dX13_init_459 : decode cX13_init 459 = .ok (.sipush 16000, 3) := by decide +kernel
theorem dX13_init_462 : decode cX13_init 462 = .ok (.newarray .int, 2) := by decide +kernel
theorem dX13_init_464 : decode cX13_init 464 = .ok (.putfield 170, 3) := by decide +kernel
theorem dX13_init_467 : decode cX13_init 467 = .ok (.aload_n 0, 1) := by decide +kernel
theorem dX13_init_468 : decode cX13_init 468 = .ok (.bipush 64, 2) := by decide +kernel
theorem dX13_init_470 : decode cX13_init 470 = .ok (.newarray .int, 2) := by decide +kernel
theorem dX13_init_472 : decode cX13_init 472 = .ok (.putfield 173, 3) := by decide +kernel
theorem dX13_init_475 : decode cX13_init 475 = .ok (.aload_n 0, 1) := by decide +kernel
theorem dX13_init_476 : decode cX13_init 476 = .ok (.sipush 3200, 3) := by decide +kernel
theorem dX13_init_479 : decode cX13_init 479 = .ok (.newarray .int, 2) := by decide +kernel
theorem dX13_init_481 : decode cX13_init 481 = .ok (.putfield 176, 3) := by decide +kernel
theorem dX13_init_484 : decode cX13_init 484 = .ok (.aload_n 0, 1) := by decide +kernel
theorem dX13_init_485 : decode cX13_init 485 = .ok (.sipush 3200, 3) := by decide +kernel
theorem dX13_init_488 : decode cX13_init 488 = .ok (.newarray .int, 2) := by decide +kernel
theorem dX13_init_490 : decode cX13_init 490 = .ok (.putfield 179, 3) := by decide +kernel
theorem dX13_init_493 : decode cX13_init 493 = .ok (.aload_n 0, 1) := by decide +kernel
theorem dX13_init_494 : decode cX13_init 494 = .ok (.sipush 29400, 3) := by decide +kernel
theorem dX13_init_497 : decode cX13_init 497 = .ok (.newarray .int, 2) := by decide +kernel
theorem dX13_init_499 : decode cX13_init 499 = .ok (.putfield 182, 3) := by decide +kernel
theorem dX13_init_502 : decode cX13_init 502 = .ok (.aload_n 0, 1) := by decide +kernel
theorem dX13_init_503 : decode cX13_init 503 = .ok (.sipush 2001, 3) := by decide +kernel
theorem dX13_init_506 : decode cX13_init 506 = .ok (.newarray .int, 2) := by decide +kernel
theorem dX13_init_508 : decode cX13_init 508 = .ok (.putfield 185, 3) := by decide +kernel
theorem dX13_init_511 : decode cX13_init 511 = .ok (.aload_n 0, 1) := by decide +kernel
theorem dX13_init_512 : decode cX13_init 512 = .ok (.sipush 2001, 3) := by decide +kernel
theorem dX13_init_515 : decode cX13_init 515 = .ok (.newarray .int, 2) := by decide +kernel
theorem dX13_init_517 : decode cX13_init 517 = .ok (.putfield 188, 3) := by decide +kernel
theorem dX13_init_520 : decode cX13_init 520 = .ok (.aload_n 0, 1) := by decide +kernel
theorem dX13_init_521 : decode cX13_init 521 = .ok (.sipush 2001, 3) := by decide +kernel
theorem dX13_init_524 : decode cX13_init 524 = .ok (.newarray .int, 2) := by decide +kernel
theorem dX13_init_526 : decode cX13_init 526 = .ok (.putfield 191, 3) := by decide +kernel
theorem dX13_init_529 : decode cX13_init 529 = .ok (.aload_n 0, 1) := by decide +kernel
theorem dX13_init_530 : decode cX13_init 530 = .ok (.sipush 2001, 3) := by decide +kernel
theorem dX13_init_533 : decode cX13_init 533 = .ok (.newarray .int, 2) := by decide +kernel
theorem dX13_init_535 : decode cX13_init 535 = .ok (.putfield 194, 3) := by decide +kernel
theorem dX13_init_538 : decode cX13_init 538 = .ok (.aload_n 0, 1) := by decide +kernel
theorem dX13_init_539 : decode cX13_init 539 = .ok (.sipush 2001, 3) := by decide +kernel
theorem dX13_init_542 : decode cX13_init 542 = .ok (.newarray .boolean, 2) := by decide +kernel
theorem dX13_init_544 : decode cX13_init 544 = .ok (.putfield 197, 3) := by decide +kernel
theorem dX13_init_547 : decode cX13_init 547 = .ok (.aload_n 0, 1) := by decide +kernel
theorem dX13_init_548 : decode cX13_init 548 = .ok (.bipush 65, 2) := by decide +kernel
theorem dX13_init_550 : decode cX13_init 550 = .ok (.newarray .int, 2) := by decide +kernel
theorem dX13_init_552 : decode cX13_init 552 = .ok (.putfield 200, 3) := by decide +kernel
theorem dX13_init_555 : decode cX13_init 555 = .ok (.aload_n 0, 1) := by decide +kernel
theorem dX13_init_556 : decode cX13_init 556 = .ok (.bipush 65, 2) := by decide +kernel
theorem dX13_init_558 : decode cX13_init 558 = .ok (.newarray .int, 2) := by decide +kernel
theorem dX13_init_560 : decode cX13_init 560 = .ok (.putfield 203, 3) := by decide +kernel
theorem dX13_init_563 : decode cX13_init 563 = .ok (.aload_n 0, 1) := by decide +kernel
theorem dX13_init_564 : decode cX13_init 564 = .ok (.bipush 65, 2) := by decide +kernel
theorem dX13_init_566 : decode cX13_init 566 = .ok (.newarray .int, 2) := by decide +kernel
theorem dX13_init_568 : decode cX13_init 568 = .ok (.putfield 206, 3) := by decide +kernel
theorem dX13_init_571 : decode cX13_init 571 = .ok (.aload_n 0, 1) := by decide +kernel
theorem dX13_init_572 : decode cX13_init 572 = .ok (.bipush 65, 2) := by decide +kernel
theorem dX13_init_574 : decode cX13_init 574 = .ok (.newarray .int, 2) := by decide +kernel
theorem dX13_init_576 : decode cX13_init 576 = .ok (.putfield 209, 3) := by decide +kernel
theorem dX13_init_579 : decode cX13_init 579 = .ok (.aload_n 0, 1) := by decide +kernel
theorem dX13_init_580 : decode cX13_init 580 = .ok (.bipush 65, 2) := by decide +kernel
theorem dX13_init_582 : decode cX13_init 582 = .ok (.newarray .int, 2) := by decide +kernel
theorem dX13_init_584 : decode cX13_init 584 = .ok (.putfield 212, 3) := by decide +kernel
theorem dX13_init_587 : decode cX13_init 587 = .ok (.aload_n 0, 1) := by decide +kernel
theorem dX13_init_588 : decode cX13_init 588 = .ok (.bipush 65, 2) := by decide +kernel
theorem dX13_init_590 : decode cX13_init 590 = .ok (.newarray .int, 2) := by decide +kernel
theorem dX13_init_592 : decode cX13_init 592 = .ok (.putfield 215, 3) := by decide +kernel
theorem dX13_init_595 : decode cX13_init 595 = .ok (.aload_n 0, 1) := by decide +kernel
theorem dX13_init_596 : decode cX13_init 596 = .ok (.bipush 65, 2) := by decide +kernel
theorem dX13_init_598 : decode cX13_init 598 = .ok (.newarray .int, 2) := by decide +kernel
theorem dX13_init_600 : decode cX13_init 600 = .ok (.putfield 218, 3) := by decide +kernel
theorem dX13_init_603 : decode cX13_init 603 = .ok (.aload_n 0, 1) := by decide +kernel
theorem dX13_init_604 : decode cX13_init 604 = .ok (.bipush 65, 2) := by decide +kernel
theorem dX13_init_606 : decode cX13_init 606 = .ok (.newarray .int, 2) := by decide +kernel
theorem dX13_init_608 : decode cX13_init 608 = .ok (.putfield 221, 3) := by decide +kernel
theorem dX13_init_611 : decode cX13_init 611 = .ok (.aload_n 0, 1) := by decide +kernel
theorem dX13_init_612 : decode cX13_init 612 = .ok (.bipush 65, 2) := by decide +kernel
theorem dX13_init_614 : decode cX13_init 614 = .ok (.newarray .int, 2) := by decide +kernel
theorem dX13_init_616 : decode cX13_init 616 = .ok (.putfield 224, 3) := by decide +kernel
theorem dX13_init_619 : decode cX13_init 619 = .ok (.aload_n 0, 1) := by decide +kernel
theorem dX13_init_620 : decode cX13_init 620 = .ok (.bipush 65, 2) := by decide +kernel
theorem dX13_init_622 : decode cX13_init 622 = .ok (.newarray .int, 2) := by decide +kernel
theorem dX13_init_624 : decode cX13_init 624 = .ok (.putfield 227, 3) := by decide +kernel
theorem dX13_init_627 : decode cX13_init 627 = .ok (.aload_n 0, 1) := by decide +kernel
theorem dX13_init_628 : decode cX13_init 628 = .ok (.bipush 65, 2) := by decide +kernel
theorem dX13_init_630 : decode cX13_init 630 = .ok (.newarray .int, 2) := by decide +kernel
theorem dX13_init_632 : decode cX13_init 632 = .ok (.putfield 230, 3) := by decide +kernel
theorem dX13_init_635 : decode cX13_init 635 = .ok (.aload_n 0, 1) := by decide +kernel
theorem dX13_init_636 : decode cX13_init 636 = .ok (.bipush 65, 2) := by decide +kernel
theorem dX13_init_638 : decode cX13_init 638 = .ok (.newarray .int, 2) := by decide +kernel
theorem dX13_init_640 : decode cX13_init 640 = .ok (.putfield 233, 3) := by decide +kernel
theorem dX13_init_643 : decode cX13_init 643 = .ok (.aload_n 0, 1) := by decide +kernel
theorem dX13_init_644 : decode cX13_init 644 = .ok (.bipush 65, 2) := by decide +kernel
theorem dX13_init_646 : decode cX13_init 646 = .ok (.newarray .int, 2) := by decide +kernel
theorem dX13_init_648 : decode cX13_init 648 = .ok (.putfield 236, 3) := by decide +kernel
theorem dX13_init_651 : decode cX13_init 651 = .ok (.aload_n 0, 1) := by decide +kernel
theorem dX13_init_652 : decode cX13_init 652 = .ok (.sipush 18000, 3) := by decide +kernel
theorem dX13_init_655 : decode cX13_init 655 = .ok (.newarray .int, 2) := by decide +kernel
theorem dX13_init_657 : decode cX13_init 657 = .ok (.putfield 239, 3) := by decide +kernel
theorem dX13_init_660 : decode cX13_init 660 = .ok (.aload_n 0, 1) := by decide +kernel
theorem dX13_init_661 : decode cX13_init 661 = .ok (.sipush 500, 3) := by decide +kernel
theorem dX13_init_664 : decode cX13_init 664 = .ok (.newarray .int, 2) := by decide +kernel
theorem dX13_init_666 : decode cX13_init 666 = .ok (.putfield 242, 3) := by decide +kernel
theorem dX13_init_669 : decode cX13_init 669 = .ok (.aload_n 0, 1) := by decide +kernel
theorem dX13_init_670 : decode cX13_init 670 = .ok (.new 7, 3) := by decide +kernel
theorem dX13_init_673 : decode cX13_init 673 = .ok (.dup, 1) := by decide +kernel
theorem dX13_init_674 : decode cX13_init 674 = .ok (.invokespecial 9, 3) := by decide +kernel
theorem dX13_init_677 : decode cX13_init 677 = .ok (.putfield 245, 3) := by decide +kernel
theorem dX13_init_680 : decode cX13_init 680 = .ok (.aload_n 0, 1) := by decide +kernel
theorem dX13_init_681 : decode cX13_init 681 = .ok (.bipush 10, 2) := by decide +kernel
theorem dX13_init_683 : decode cX13_init 683 = .ok (.newarray .int, 2) := by decide +kernel
theorem dX13_init_685 : decode cX13_init 685 = .ok (.putfield 248, 3) := by decide +kernel
theorem dX13_init_688 : decode cX13_init 688 = .ok (.return_, 1) := by decide +kernel
abbrev vwCl : List vw_C := [(RJ0, TJ0, 4), (RJ4, TJ4, 4), (RX0, TX0, 7), (RX1, TX1, 19), (RX2, TX2, 19), (RX3, TX3, 2), (RX4, TX4, 20), (RX5, TX5, 8), (RX6, TX6, 20), (RX7, TX7, 13), (RX8, TX8, 15), (RX9, TX9, 20), (RX10, TX10, 13), (RX11, TX11, 5), (RX12, TX12, 6), (RX13, TX13, 134)]
def RRt : String := "java/lang/RuntimeException"
abbrev cRt_init : ByteArray := prog_25_method_5_code
def yRt_init : MethodName := ⟨RRt, "<init>", "(Ljava/lang/String;Ljava/lang/Throwable;ZZ)V"⟩
theorem dRt_init_0 : decode cRt_init 0 = .ok (.aload_n 0, 1) := by decide +kernel
theorem dRt_init_1 : decode cRt_init 1 = .ok (.aload_n 1, 1) := by decide +kernel
theorem dRt_init_2 : decode cRt_init 2 = .ok (.aload_n 2, 1) := by decide +kernel
theorem dRt_init_3 : decode cRt_init 3 = .ok (.iload_n 3, 1) := by decide +kernel
theorem dRt_init_4 : decode cRt_init 4 = .ok (.iload 4, 2) := by decide +kernel
theorem dRt_init_6 : decode cRt_init 6 = .ok (.invokespecial 16, 3) := by decide +kernel
theorem dRt_init_9 : decode cRt_init 9 = .ok (.return_, 1) := by decide +kernel
def REx : String := "java/lang/Exception"
abbrev cEx_init : ByteArray := prog_19_method_5_code
def yEx_init : MethodName := ⟨REx, "<init>", "(Ljava/lang/String;Ljava/lang/Throwable;ZZ)V"⟩
theorem dEx_init_0 : decode cEx_init 0 = .ok (.aload_n 0, 1) := by decide +kernel
theorem dEx_init_1 : decode cEx_init 1 = .ok (.aload_n 1, 1) := by decide +kernel
theorem dEx_init_2 : decode cEx_init 2 = .ok (.aload_n 2, 1) := by decide +kernel
theorem dEx_init_3 : decode cEx_init 3 = .ok (.iload_n 3, 1) := by decide +kernel
theorem dEx_init_4 : decode cEx_init 4 = .ok (.iload 4, 2) := by decide +kernel
theorem dEx_init_6 : decode cEx_init 6 = .ok (.invokespecial 16, 3) := by decide +kernel
theorem dEx_init_9 : decode cEx_init 9 = .ok (.return_, 1) := by decide +kernel
def RTh : String := "java/lang/Throwable"
abbrev cTh_init : ByteArray := prog_31_method_5_code
def yTh_init : MethodName := ⟨RTh, "<init>", "(Ljava/lang/String;Ljava/lang/Throwable;ZZ)V"⟩
theorem dTh_init_0 : decode cTh_init 0 = .ok (.aload_n 0, 1) := by decide +kernel
theorem dTh_init_1 : decode cTh_init 1 = .ok (.invokespecial 1, 3) := by decide +kernel
theorem dTh_init_4 : decode cTh_init 4 = .ok (.aload_n 0, 1) := by decide +kernel
theorem dTh_init_5 : decode cTh_init 5 = .ok (.aload_n 0, 1) := by decide +kernel
theorem dTh_init_6 : decode cTh_init 6 = .ok (.putfield 7, 3) := by decide +kernel
theorem dTh_init_9 : decode cTh_init 9 = .ok (.aload_n 0, 1) := by decide +kernel
theorem dTh_init_10 : decode cTh_init 10 = .ok (.getstatic 13, 3) := by decide +kernel
theorem dTh_init_13 : decode cTh_init 13 = .ok (.putfield 17, 3) := by decide +kernel
theorem dTh_init_16 : decode cTh_init 16 = .ok (.aload_n 0, 1) := by decide +kernel
theorem dTh_init_17 : decode cTh_init 17 = .ok (.getstatic 20, 3) := by decide +kernel
theorem dTh_init_20 : decode cTh_init 20 = .ok (.putfield 24, 3) := by decide +kernel
theorem dTh_init_23 : decode cTh_init 23 = .ok (.iload 4, 2) := by decide +kernel
theorem dTh_init_25 : decode cTh_init 25 = .ok (.ifCond .eq 11, 3) := by decide +kernel
theorem dTh_init_36 : decode cTh_init 36 = .ok (.aload_n 0, 1) := by decide +kernel
theorem dTh_init_37 : decode cTh_init 37 = .ok (.aconst_null, 1) := by decide +kernel
theorem dTh_init_38 : decode cTh_init 38 = .ok (.putfield 17, 3) := by decide +kernel
theorem dTh_init_41 : decode cTh_init 41 = .ok (.aload_n 0, 1) := by decide +kernel
theorem dTh_init_42 : decode cTh_init 42 = .ok (.aload_n 1, 1) := by decide +kernel
theorem dTh_init_43 : decode cTh_init 43 = .ok (.putfield 31, 3) := by decide +kernel
theorem dTh_init_46 : decode cTh_init 46 = .ok (.aload_n 0, 1) := by decide +kernel
theorem dTh_init_47 : decode cTh_init 47 = .ok (.aload_n 2, 1) := by decide +kernel
theorem dTh_init_48 : decode cTh_init 48 = .ok (.putfield 7, 3) := by decide +kernel
theorem dTh_init_51 : decode cTh_init 51 = .ok (.iload_n 3, 1) := by decide +kernel
theorem dTh_init_52 : decode cTh_init 52 = .ok (.ifCond .ne 8, 3) := by decide +kernel
theorem dTh_init_55 : decode cTh_init 55 = .ok (.aload_n 0, 1) := by decide +kernel
theorem dTh_init_56 : decode cTh_init 56 = .ok (.aconst_null, 1) := by decide +kernel
theorem dTh_init_57 : decode cTh_init 57 = .ok (.putfield 24, 3) := by decide +kernel
theorem dTh_init_60 : decode cTh_init 60 = .ok (.return_, 1) := by decide +kernel
end
section
def ws_cc_Scanner_init : List Cond := .code yX7_init cX7_init 1 none :: ([.methodLink RX7 3 objectInit, .instanceMethod objectInit, .code objectInit ⟨#[0xb1]⟩ 1 none, .arrayClass .int, .fieldLink RX7 9 "LevelUnits$Scanner" "kinds" "[I", .fieldLink RX7 15 "LevelUnits$Scanner" "values" "[I", .fieldLink RX7 18 "LevelUnits$Scanner" "lines" "[I", .fieldLink RX7 21 "LevelUnits$Scanner" "heads" "[I", .fieldLink RX7 24 "LevelUnits$Scanner" "chains" "[I", .fieldLink RX7 27 "LevelUnits$Scanner" "starts" "[I", .fieldLink RX7 30 "LevelUnits$Scanner" "sizes" "[I"] ++ wsX70)
theorem in_cc_Scanner_init_RX7 : ∀ w ∈ wsX70, w ∈ ws_cc_Scanner_init := fun _ h => List.mem_cons_of_mem _ (List.mem_append_right _ h)
set_option maxHeartbeats 4000000 in
set_option maxRecDepth 100000 in
/-- Scanner(): seven rows -/
theorem cc_Scanner_init (l : Launch) (dC : Nat → ClassId) (dI : Nat → Nat → Nat) (h0 : Nat) (sz : Nat) : Met l yX7_init ws_cc_Scanner_init ({ frames := 1, cells := 7, slots := 27262, locals := 12 }) (va_Pc [.ref h0] (fun U => U.heap.size = sz ∧ va_P (dC, dI) vwCl [(h0, .inr (9, [.null, .null, .null, .int 0, .null, .int 0, .int 0, .int 0, .null, .null, .null, .null, .int 0]))] U.heap ∧ va_K (dC, dI) vwCl [] U ∧ va_D (fun _ => True) [(h0, .inr (9, [.null, .null, .null, .int 0, .null, .int 0, .int 0, .int 0, .null, .null, .null, .null, .int 0]))])) (va_Qv (fun _ : Unit => True) (fun _ t => ∃ q_a : Nat, ∃ q_b : Nat, ∃ q_c : Nat, ∃ q_d : Nat, ∃ q_e : Nat, ∃ q_f : Nat, ∃ q_g : Nat, ∃ cy_a : ClassId, ∃ cy_b : ClassId, ∃ cy_c : ClassId, ∃ cy_d : ClassId, ∃ cy_e : ClassId, ∃ cy_f : ClassId, ∃ cy_g : ClassId, va_P (dC, dI) vwCl [(h0, .inr (9, [.ref q_a, .ref q_b, .ref q_c, .int 0, .null, .int 0, .int 0, .int 0, .ref q_d, .ref q_e, .ref q_f, .ref q_g, .int 0])), (q_a, .inl (cy_a, 6001, .inl (fun _ => 0))), (q_b, .inl (cy_b, 6001, .inl (fun _ => 0))), (q_c, .inl (cy_c, 6001, .inl (fun _ => 0))), (q_d, .inl (cy_d, 256, .inl (fun _ => 0))), (q_e, .inl (cy_e, 3001, .inl (fun _ => 0))), (q_f, .inl (cy_f, 3001, .inl (fun _ => 0))), (q_g, .inl (cy_g, 3001, .inl (fun _ => 0)))] t.heap ∧ va_K (dC, dI) vwCl [(cy_a, .int), (cy_b, .int), (cy_c, .int), (cy_d, .int), (cy_e, .int), (cy_f, .int), (cy_g, .int)] t ∧ va_D (va_A [(h0, .inr (9, [.null, .null, .null, .int 0, .null, .int 0, .int 0, .int 0, .null, .null, .null, .null, .int 0]))] sz) [(h0, .inr (9, [.ref q_a, .ref q_b, .ref q_c, .int 0, .null, .int 0, .int 0, .int 0, .ref q_d, .ref q_e, .ref q_f, .ref q_g, .int 0])), (q_a, .inl (cy_a, 6001, .inl (fun _ => 0))), (q_b, .inl (cy_b, 6001, .inl (fun _ => 0))), (q_c, .inl (cy_c, 6001, .inl (fun _ => 0))), (q_d, .inl (cy_d, 256, .inl (fun _ => 0))), (q_e, .inl (cy_e, 3001, .inl (fun _ => 0))), (q_f, .inl (cy_f, 3001, .inl (fun _ => 0))), (q_g, .inl (cy_g, 3001, .inl (fun _ => 0)))]) (va_A [(h0, .inr (9, [.null, .null, .null, .int 0, .null, .int 0, .int 0, .int 0, .null, .null, .null, .null, .int 0]))] sz)) 7 27262 (va_A [(h0, .inr (9, [.null, .null, .null, .int 0, .null, .int 0, .int 0, .int 0, .null, .null, .null, .null, .int 0]))] sz) := by
  refine Met.ofW (cc := cX7_init) (maxL := 1) (ret := none) (by decide) rfl ?_
  intro p e s m args below meth c s₁ B hml hv
  obtain ⟨rfl, hsz, hP, hK, hD0⟩ := hv
  have hx := B.exec
  have hb := B.bytes
  have hr := B.returns
  have hts := atoms_spec (ws := ws_cc_Scanner_init) B.pre
  have hown : s.vm.findClass RX7 = some m.cls := findClass_of_methodNamed B.named
  have hlocks := B.notSynchronized
  have hin : meth.name = "<init>" := (name_of_methodNamed B.named B.method).1
  subst hsz
  have hD := hD0.self (sz := s.heap.size)
  generalize hAe : va_A [(h0, .inr (9, [.null, .null, .null, .int 0, .null, .int 0, .int 0, .int 0, .null, .null, .null, .null, .int 0]))] s.heap.size = A at hD ⊢
  have hA : ∀ q : Nat, s.heap.size ≤ q → A q := fun q h => by rw [← hAe]; exact Or.inr h
  have hS : va_S A s.heap s.heap [] := va_S.rf
  have hP : va_P (dC, dI) vwCl [(h0, .inr (9, [.null, .null, .null, .int 0, .null, .int 0, .int 0, .int 0, .null, .null, .null, .null, .int 0]))] s.heap := hP
  have hl := lv_entry ([.ref h0]) (n := 1) (Nat.le_of_ble_eq_true rfl)
  rw [lg_entry_eq]
  generalize (lg_sl ([.ref h0]) ++ List.replicate (1 - (lg_sl ([.ref h0])).length) Slot.unset).toArray = ls at hl ⊢
  have hl : lv_has ls 1 [(0, .ref h0)] := hl
  refine lv_aload_n hx hb dX7_init_0 rfl (lv_at hl 0 rfl) ?_
  refine W.objInit hx hb hown (hts (.methodLink RX7 3 objectInit) (List.mem_of_getElem? (i := 1) rfl)) (hts (.instanceMethod objectInit) (List.mem_of_getElem? (i := 2) rfl)) (hts (.code objectInit ⟨#[0xb1]⟩ 1 none) (List.mem_of_getElem? (i := 3) rfl)) rfl (by rw [hml]; exact hl.1) rfl dX7_init_1 (Nat.le_of_ble_eq_true rfl) (Nat.le_of_ble_eq_true rfl) ?_
  refine W.eq (g2 := F0 m 4 ls []) rfl ?_
  refine lv_aload_n hx hb dX7_init_4 rfl (lv_at hl 0 rfl) ?_
  refine lv_sipush (v := 6001) hx hb dX7_init_5 (by decide) ?_
  refine va_newa (atype := .int) (ty := .int) (a0 := (6001, .inl (fun _ => 0))) (N' := 6001) hx hb (hts (.arrayClass .int) (List.mem_of_getElem? (i := 4) rfl)) rfl hK hP hD hS hA (fun _ => rfl) (by decide) (by decide) (Nat.le_of_ble_eq_true rfl) (Nat.le_of_ble_eq_true rfl) (Nat.le_of_ble_eq_true rfl) dX7_init_8 (fun q_1 cy_2 H hK hP hD hS => ?_)
  have hK : va_K (dC, dI) vwCl [(cy_2, .int)] s := hK
  have hP : va_P (dC, dI) vwCl [(h0, .inr (9, [.null, .null, .null, .int 0, .null, .int 0, .int 0, .int 0, .null, .null, .null, .null, .int 0])), (q_1, .inl (cy_2, 6001, .inl (fun _ => 0)))] H := hP
  have hD : va_D A [(h0, .inr (9, [.null, .null, .null, .int 0, .null, .int 0, .int 0, .int 0, .null, .null, .null, .null, .int 0])), (q_1, .inl (cy_2, 6001, .inl (fun _ => 0)))] := hD
  refine W.widen (k := 1) (n := 6001) (Nat.le_of_ble_eq_true rfl) (Nat.le_of_ble_eq_true rfl) ?_
  refine va_putF (D := (dC, dI)) (ci := 9) (v := .ref q_1) (ty := .array .int) (C := RX7) (T := TX7) (N := 13) hx hb hts in_cc_Scanner_init_RX7 tyX7 tyX7_ok nmX7 hown hK hP hD hS 0 rfl rfl 0 (by decide) (hts (.fieldLink RX7 9 "LevelUnits$Scanner" "kinds" "[I") (List.mem_of_getElem? (i := 5) rfl)) (fun _ h9 => h9) rfl hin rfl (by decide +kernel) rfl rfl (Nat.le_of_ble_eq_true rfl) dX7_init_10 (fun H locs hP hD hS => ?_)
  have hP : va_P (dC, dI) vwCl [(h0, .inr (9, [.ref q_1, .null, .null, .int 0, .null, .int 0, .int 0, .int 0, .null, .null, .null, .null, .int 0])), (q_1, .inl (cy_2, 6001, .inl (fun _ => 0)))] H := hP
  have hD : va_D A [(h0, .inr (9, [.ref q_1, .null, .null, .int 0, .null, .int 0, .int 0, .int 0, .null, .null, .null, .null, .int 0])), (q_1, .inl (cy_2, 6001, .inl (fun _ => 0)))] := hD
  refine lv_aload_n hx hb dX7_init_13 rfl (lv_at hl 0 rfl) ?_
  refine lv_sipush (v := 6001) hx hb dX7_init_14 (by decide) ?_
  refine va_newa (atype := .int) (ty := .int) (a0 := (6001, .inl (fun _ => 0))) (N' := 6001) hx hb (hts (.arrayClass .int) (List.mem_of_getElem? (i := 4) rfl)) rfl hK hP hD hS hA (fun _ => rfl) (by decide) (by decide) (Nat.le_of_ble_eq_true rfl) (Nat.le_of_ble_eq_true rfl) (Nat.le_of_ble_eq_true rfl) dX7_init_17 (fun q_3 cy_4 H hK hP hD hS => ?_)
  have hK : va_K (dC, dI) vwCl [(cy_2, .int), (cy_4, .int)] s := hK
  have hP : va_P (dC, dI) vwCl [(h0, .inr (9, [.ref q_1, .null, .null, .int 0, .null, .int 0, .int 0, .int 0, .null, .null, .null, .null, .int 0])), (q_1, .inl (cy_2, 6001, .inl (fun _ => 0))), (q_3, .inl (cy_4, 6001, .inl (fun _ => 0)))] H := hP
  have hD : va_D A [(h0, .inr (9, [.ref q_1, .null, .null, .int 0, .null, .int 0, .int 0, .int 0, .null, .null, .null, .null, .int 0])), (q_1, .inl (cy_2, 6001, .inl (fun _ => 0))), (q_3, .inl (cy_4, 6001, .inl (fun _ => 0)))] := hD
  refine W.widen (k := 2) (n := 12002) (Nat.le_of_ble_eq_true rfl) (Nat.le_of_ble_eq_true rfl) ?_
  refine va_putF (D := (dC, dI)) (ci := 9) (v := .ref q_3) (ty := .array .int) (C := RX7) (T := TX7) (N := 13) hx hb hts in_cc_Scanner_init_RX7 tyX7 tyX7_ok nmX7 hown hK hP hD hS 0 rfl rfl 1 (by decide) (hts (.fieldLink RX7 15 "LevelUnits$Scanner" "values" "[I") (List.mem_of_getElem? (i := 6) rfl)) (fun _ h9 => h9) rfl hin rfl (by decide +kernel) rfl rfl (Nat.le_of_ble_eq_true rfl) dX7_init_19 (fun H locs hP hD hS => ?_)
  have hP : va_P (dC, dI) vwCl [(h0, .inr (9, [.ref q_1, .ref q_3, .null, .int 0, .null, .int 0, .int 0, .int 0, .null, .null, .null, .null, .int 0])), (q_1, .inl (cy_2, 6001, .inl (fun _ => 0))), (q_3, .inl (cy_4, 6001, .inl (fun _ => 0)))] H := hP
  have hD : va_D A [(h0, .inr (9, [.ref q_1, .ref q_3, .null, .int 0, .null, .int 0, .int 0, .int 0, .null, .null, .null, .null, .int 0])), (q_1, .inl (cy_2, 6001, .inl (fun _ => 0))), (q_3, .inl (cy_4, 6001, .inl (fun _ => 0)))] := hD
  refine lv_aload_n hx hb dX7_init_22 rfl (lv_at hl 0 rfl) ?_
  refine lv_sipush (v := 6001) hx hb dX7_init_23 (by decide) ?_
  refine va_newa (atype := .int) (ty := .int) (a0 := (6001, .inl (fun _ => 0))) (N' := 6001) hx hb (hts (.arrayClass .int) (List.mem_of_getElem? (i := 4) rfl)) rfl hK hP hD hS hA (fun _ => rfl) (by decide) (by decide) (Nat.le_of_ble_eq_true rfl) (Nat.le_of_ble_eq_true rfl) (Nat.le_of_ble_eq_true rfl) dX7_init_26 (fun q_5 cy_6 H hK hP hD hS => ?_)
  have hK : va_K (dC, dI) vwCl [(cy_2, .int), (cy_4, .int), (cy_6, .int)] s := hK
  have hP : va_P (dC, dI) vwCl [(h0, .inr (9, [.ref q_1, .ref q_3, .null, .int 0, .null, .int 0, .int 0, .int 0, .null, .null, .null, .null, .int 0])), (q_1, .inl (cy_2, 6001, .inl (fun _ => 0))), (q_3, .inl (cy_4, 6001, .inl (fun _ => 0))), (q_5, .inl (cy_6, 6001, .inl (fun _ => 0)))] H := hP
  have hD : va_D A [(h0, .inr (9, [.ref q_1, .ref q_3, .null, .int 0, .null, .int 0, .int 0, .int 0, .null, .null, .null, .null, .int 0])), (q_1, .inl (cy_2, 6001, .inl (fun _ => 0))), (q_3, .inl (cy_4, 6001, .inl (fun _ => 0))), (q_5, .inl (cy_6, 6001, .inl (fun _ => 0)))] := hD
  refine W.widen (k := 3) (n := 18003) (Nat.le_of_ble_eq_true rfl) (Nat.le_of_ble_eq_true rfl) ?_
  refine va_putF (D := (dC, dI)) (ci := 9) (v := .ref q_5) (ty := .array .int) (C := RX7) (T := TX7) (N := 13) hx hb hts in_cc_Scanner_init_RX7 tyX7 tyX7_ok nmX7 hown hK hP hD hS 0 rfl rfl 2 (by decide) (hts (.fieldLink RX7 18 "LevelUnits$Scanner" "lines" "[I") (List.mem_of_getElem? (i := 7) rfl)) (fun _ h9 => h9) rfl hin rfl (by decide +kernel) rfl rfl (Nat.le_of_ble_eq_true rfl) dX7_init_28 (fun H locs hP hD hS => ?_)
  have hP : va_P (dC, dI) vwCl [(h0, .inr (9, [.ref q_1, .ref q_3, .ref q_5, .int 0, .null, .int 0, .int 0, .int 0, .null, .null, .null, .null, .int 0])), (q_1, .inl (cy_2, 6001, .inl (fun _ => 0))), (q_3, .inl (cy_4, 6001, .inl (fun _ => 0))), (q_5, .inl (cy_6, 6001, .inl (fun _ => 0)))] H := hP
  have hD : va_D A [(h0, .inr (9, [.ref q_1, .ref q_3, .ref q_5, .int 0, .null, .int 0, .int 0, .int 0, .null, .null, .null, .null, .int 0])), (q_1, .inl (cy_2, 6001, .inl (fun _ => 0))), (q_3, .inl (cy_4, 6001, .inl (fun _ => 0))), (q_5, .inl (cy_6, 6001, .inl (fun _ => 0)))] := hD
  refine lv_aload_n hx hb dX7_init_31 rfl (lv_at hl 0 rfl) ?_
  refine lv_sipush (v := 256) hx hb dX7_init_32 (by decide) ?_
  refine va_newa (atype := .int) (ty := .int) (a0 := (256, .inl (fun _ => 0))) (N' := 256) hx hb (hts (.arrayClass .int) (List.mem_of_getElem? (i := 4) rfl)) rfl hK hP hD hS hA (fun _ => rfl) (by decide) (by decide) (Nat.le_of_ble_eq_true rfl) (Nat.le_of_ble_eq_true rfl) (Nat.le_of_ble_eq_true rfl) dX7_init_35 (fun q_7 cy_8 H hK hP hD hS => ?_)
  have hK : va_K (dC, dI) vwCl [(cy_2, .int), (cy_4, .int), (cy_6, .int), (cy_8, .int)] s := hK
  have hP : va_P (dC, dI) vwCl [(h0, .inr (9, [.ref q_1, .ref q_3, .ref q_5, .int 0, .null, .int 0, .int 0, .int 0, .null, .null, .null, .null, .int 0])), (q_1, .inl (cy_2, 6001, .inl (fun _ => 0))), (q_3, .inl (cy_4, 6001, .inl (fun _ => 0))), (q_5, .inl (cy_6, 6001, .inl (fun _ => 0))), (q_7, .inl (cy_8, 256, .inl (fun _ => 0)))] H := hP
  have hD : va_D A [(h0, .inr (9, [.ref q_1, .ref q_3, .ref q_5, .int 0, .null, .int 0, .int 0, .int 0, .null, .null, .null, .null, .int 0])), (q_1, .inl (cy_2, 6001, .inl (fun _ => 0))), (q_3, .inl (cy_4, 6001, .inl (fun _ => 0))), (q_5, .inl (cy_6, 6001, .inl (fun _ => 0))), (q_7, .inl (cy_8, 256, .inl (fun _ => 0)))] := hD
  refine W.widen (k := 4) (n := 18259) (Nat.le_of_ble_eq_true rfl) (Nat.le_of_ble_eq_true rfl) ?_
  refine va_putF (D := (dC, dI)) (ci := 9) (v := .ref q_7) (ty := .array .int) (C := RX7) (T := TX7) (N := 13) hx hb hts in_cc_Scanner_init_RX7 tyX7 tyX7_ok nmX7 hown hK hP hD hS 0 rfl rfl 8 (by decide) (hts (.fieldLink RX7 21 "LevelUnits$Scanner" "heads" "[I") (List.mem_of_getElem? (i := 8) rfl)) (fun _ h9 => h9) rfl hin rfl (by decide +kernel) rfl rfl (Nat.le_of_ble_eq_true rfl) dX7_init_37 (fun H locs hP hD hS => ?_)
  have hP : va_P (dC, dI) vwCl [(h0, .inr (9, [.ref q_1, .ref q_3, .ref q_5, .int 0, .null, .int 0, .int 0, .int 0, .ref q_7, .null, .null, .null, .int 0])), (q_1, .inl (cy_2, 6001, .inl (fun _ => 0))), (q_3, .inl (cy_4, 6001, .inl (fun _ => 0))), (q_5, .inl (cy_6, 6001, .inl (fun _ => 0))), (q_7, .inl (cy_8, 256, .inl (fun _ => 0)))] H := hP
  have hD : va_D A [(h0, .inr (9, [.ref q_1, .ref q_3, .ref q_5, .int 0, .null, .int 0, .int 0, .int 0, .ref q_7, .null, .null, .null, .int 0])), (q_1, .inl (cy_2, 6001, .inl (fun _ => 0))), (q_3, .inl (cy_4, 6001, .inl (fun _ => 0))), (q_5, .inl (cy_6, 6001, .inl (fun _ => 0))), (q_7, .inl (cy_8, 256, .inl (fun _ => 0)))] := hD
  refine lv_aload_n hx hb dX7_init_40 rfl (lv_at hl 0 rfl) ?_
  refine lv_sipush (v := 3001) hx hb dX7_init_41 (by decide) ?_
  refine va_newa (atype := .int) (ty := .int) (a0 := (3001, .inl (fun _ => 0))) (N' := 3001) hx hb (hts (.arrayClass .int) (List.mem_of_getElem? (i := 4) rfl)) rfl hK hP hD hS hA (fun _ => rfl) (by decide) (by decide) (Nat.le_of_ble_eq_true rfl) (Nat.le_of_ble_eq_true rfl) (Nat.le_of_ble_eq_true rfl) dX7_init_44 (fun q_9 cy_10 H hK hP hD hS => ?_)
  have hK : va_K (dC, dI) vwCl [(cy_2, .int), (cy_4, .int), (cy_6, .int), (cy_8, .int), (cy_10, .int)] s := hK
  have hP : va_P (dC, dI) vwCl [(h0, .inr (9, [.ref q_1, .ref q_3, .ref q_5, .int 0, .null, .int 0, .int 0, .int 0, .ref q_7, .null, .null, .null, .int 0])), (q_1, .inl (cy_2, 6001, .inl (fun _ => 0))), (q_3, .inl (cy_4, 6001, .inl (fun _ => 0))), (q_5, .inl (cy_6, 6001, .inl (fun _ => 0))), (q_7, .inl (cy_8, 256, .inl (fun _ => 0))), (q_9, .inl (cy_10, 3001, .inl (fun _ => 0)))] H := hP
  have hD : va_D A [(h0, .inr (9, [.ref q_1, .ref q_3, .ref q_5, .int 0, .null, .int 0, .int 0, .int 0, .ref q_7, .null, .null, .null, .int 0])), (q_1, .inl (cy_2, 6001, .inl (fun _ => 0))), (q_3, .inl (cy_4, 6001, .inl (fun _ => 0))), (q_5, .inl (cy_6, 6001, .inl (fun _ => 0))), (q_7, .inl (cy_8, 256, .inl (fun _ => 0))), (q_9, .inl (cy_10, 3001, .inl (fun _ => 0)))] := hD
  refine W.widen (k := 5) (n := 21260) (Nat.le_of_ble_eq_true rfl) (Nat.le_of_ble_eq_true rfl) ?_
  refine va_putF (D := (dC, dI)) (ci := 9) (v := .ref q_9) (ty := .array .int) (C := RX7) (T := TX7) (N := 13) hx hb hts in_cc_Scanner_init_RX7 tyX7 tyX7_ok nmX7 hown hK hP hD hS 0 rfl rfl 9 (by decide) (hts (.fieldLink RX7 24 "LevelUnits$Scanner" "chains" "[I") (List.mem_of_getElem? (i := 9) rfl)) (fun _ h9 => h9) rfl hin rfl (by decide +kernel) rfl rfl (Nat.le_of_ble_eq_true rfl) dX7_init_46 (fun H locs hP hD hS => ?_)
  have hP : va_P (dC, dI) vwCl [(h0, .inr (9, [.ref q_1, .ref q_3, .ref q_5, .int 0, .null, .int 0, .int 0, .int 0, .ref q_7, .ref q_9, .null, .null, .int 0])), (q_1, .inl (cy_2, 6001, .inl (fun _ => 0))), (q_3, .inl (cy_4, 6001, .inl (fun _ => 0))), (q_5, .inl (cy_6, 6001, .inl (fun _ => 0))), (q_7, .inl (cy_8, 256, .inl (fun _ => 0))), (q_9, .inl (cy_10, 3001, .inl (fun _ => 0)))] H := hP
  have hD : va_D A [(h0, .inr (9, [.ref q_1, .ref q_3, .ref q_5, .int 0, .null, .int 0, .int 0, .int 0, .ref q_7, .ref q_9, .null, .null, .int 0])), (q_1, .inl (cy_2, 6001, .inl (fun _ => 0))), (q_3, .inl (cy_4, 6001, .inl (fun _ => 0))), (q_5, .inl (cy_6, 6001, .inl (fun _ => 0))), (q_7, .inl (cy_8, 256, .inl (fun _ => 0))), (q_9, .inl (cy_10, 3001, .inl (fun _ => 0)))] := hD
  refine lv_aload_n hx hb dX7_init_49 rfl (lv_at hl 0 rfl) ?_
  refine lv_sipush (v := 3001) hx hb dX7_init_50 (by decide) ?_
  refine va_newa (atype := .int) (ty := .int) (a0 := (3001, .inl (fun _ => 0))) (N' := 3001) hx hb (hts (.arrayClass .int) (List.mem_of_getElem? (i := 4) rfl)) rfl hK hP hD hS hA (fun _ => rfl) (by decide) (by decide) (Nat.le_of_ble_eq_true rfl) (Nat.le_of_ble_eq_true rfl) (Nat.le_of_ble_eq_true rfl) dX7_init_53 (fun q_11 cy_12 H hK hP hD hS => ?_)
  have hK : va_K (dC, dI) vwCl [(cy_2, .int), (cy_4, .int), (cy_6, .int), (cy_8, .int), (cy_10, .int), (cy_12, .int)] s := hK
  have hP : va_P (dC, dI) vwCl [(h0, .inr (9, [.ref q_1, .ref q_3, .ref q_5, .int 0, .null, .int 0, .int 0, .int 0, .ref q_7, .ref q_9, .null, .null, .int 0])), (q_1, .inl (cy_2, 6001, .inl (fun _ => 0))), (q_3, .inl (cy_4, 6001, .inl (fun _ => 0))), (q_5, .inl (cy_6, 6001, .inl (fun _ => 0))), (q_7, .inl (cy_8, 256, .inl (fun _ => 0))), (q_9, .inl (cy_10, 3001, .inl (fun _ => 0))), (q_11, .inl (cy_12, 3001, .inl (fun _ => 0)))] H := hP
  have hD : va_D A [(h0, .inr (9, [.ref q_1, .ref q_3, .ref q_5, .int 0, .null, .int 0, .int 0, .int 0, .ref q_7, .ref q_9, .null, .null, .int 0])), (q_1, .inl (cy_2, 6001, .inl (fun _ => 0))), (q_3, .inl (cy_4, 6001, .inl (fun _ => 0))), (q_5, .inl (cy_6, 6001, .inl (fun _ => 0))), (q_7, .inl (cy_8, 256, .inl (fun _ => 0))), (q_9, .inl (cy_10, 3001, .inl (fun _ => 0))), (q_11, .inl (cy_12, 3001, .inl (fun _ => 0)))] := hD
  refine W.widen (k := 6) (n := 24261) (Nat.le_of_ble_eq_true rfl) (Nat.le_of_ble_eq_true rfl) ?_
  refine va_putF (D := (dC, dI)) (ci := 9) (v := .ref q_11) (ty := .array .int) (C := RX7) (T := TX7) (N := 13) hx hb hts in_cc_Scanner_init_RX7 tyX7 tyX7_ok nmX7 hown hK hP hD hS 0 rfl rfl 10 (by decide) (hts (.fieldLink RX7 27 "LevelUnits$Scanner" "starts" "[I") (List.mem_of_getElem? (i := 10) rfl)) (fun _ h9 => h9) rfl hin rfl (by decide +kernel) rfl rfl (Nat.le_of_ble_eq_true rfl) dX7_init_55 (fun H locs hP hD hS => ?_)
  have hP : va_P (dC, dI) vwCl [(h0, .inr (9, [.ref q_1, .ref q_3, .ref q_5, .int 0, .null, .int 0, .int 0, .int 0, .ref q_7, .ref q_9, .ref q_11, .null, .int 0])), (q_1, .inl (cy_2, 6001, .inl (fun _ => 0))), (q_3, .inl (cy_4, 6001, .inl (fun _ => 0))), (q_5, .inl (cy_6, 6001, .inl (fun _ => 0))), (q_7, .inl (cy_8, 256, .inl (fun _ => 0))), (q_9, .inl (cy_10, 3001, .inl (fun _ => 0))), (q_11, .inl (cy_12, 3001, .inl (fun _ => 0)))] H := hP
  have hD : va_D A [(h0, .inr (9, [.ref q_1, .ref q_3, .ref q_5, .int 0, .null, .int 0, .int 0, .int 0, .ref q_7, .ref q_9, .ref q_11, .null, .int 0])), (q_1, .inl (cy_2, 6001, .inl (fun _ => 0))), (q_3, .inl (cy_4, 6001, .inl (fun _ => 0))), (q_5, .inl (cy_6, 6001, .inl (fun _ => 0))), (q_7, .inl (cy_8, 256, .inl (fun _ => 0))), (q_9, .inl (cy_10, 3001, .inl (fun _ => 0))), (q_11, .inl (cy_12, 3001, .inl (fun _ => 0)))] := hD
  refine lv_aload_n hx hb dX7_init_58 rfl (lv_at hl 0 rfl) ?_
  refine lv_sipush (v := 3001) hx hb dX7_init_59 (by decide) ?_
  refine va_newa (atype := .int) (ty := .int) (a0 := (3001, .inl (fun _ => 0))) (N' := 3001) hx hb (hts (.arrayClass .int) (List.mem_of_getElem? (i := 4) rfl)) rfl hK hP hD hS hA (fun _ => rfl) (by decide) (by decide) (Nat.le_of_ble_eq_true rfl) (Nat.le_of_ble_eq_true rfl) (Nat.le_of_ble_eq_true rfl) dX7_init_62 (fun q_13 cy_14 H hK hP hD hS => ?_)
  have hK : va_K (dC, dI) vwCl [(cy_2, .int), (cy_4, .int), (cy_6, .int), (cy_8, .int), (cy_10, .int), (cy_12, .int), (cy_14, .int)] s := hK
  have hP : va_P (dC, dI) vwCl [(h0, .inr (9, [.ref q_1, .ref q_3, .ref q_5, .int 0, .null, .int 0, .int 0, .int 0, .ref q_7, .ref q_9, .ref q_11, .null, .int 0])), (q_1, .inl (cy_2, 6001, .inl (fun _ => 0))), (q_3, .inl (cy_4, 6001, .inl (fun _ => 0))), (q_5, .inl (cy_6, 6001, .inl (fun _ => 0))), (q_7, .inl (cy_8, 256, .inl (fun _ => 0))), (q_9, .inl (cy_10, 3001, .inl (fun _ => 0))), (q_11, .inl (cy_12, 3001, .inl (fun _ => 0))), (q_13, .inl (cy_14, 3001, .inl (fun _ => 0)))] H := hP
  have hD : va_D A [(h0, .inr (9, [.ref q_1, .ref q_3, .ref q_5, .int 0, .null, .int 0, .int 0, .int 0, .ref q_7, .ref q_9, .ref q_11, .null, .int 0])), (q_1, .inl (cy_2, 6001, .inl (fun _ => 0))), (q_3, .inl (cy_4, 6001, .inl (fun _ => 0))), (q_5, .inl (cy_6, 6001, .inl (fun _ => 0))), (q_7, .inl (cy_8, 256, .inl (fun _ => 0))), (q_9, .inl (cy_10, 3001, .inl (fun _ => 0))), (q_11, .inl (cy_12, 3001, .inl (fun _ => 0))), (q_13, .inl (cy_14, 3001, .inl (fun _ => 0)))] := hD
  refine W.widen (k := 7) (n := 27262) (Nat.le_of_ble_eq_true rfl) (Nat.le_of_ble_eq_true rfl) ?_
  refine va_putF (D := (dC, dI)) (ci := 9) (v := .ref q_13) (ty := .array .int) (C := RX7) (T := TX7) (N := 13) hx hb hts in_cc_Scanner_init_RX7 tyX7 tyX7_ok nmX7 hown hK hP hD hS 0 rfl rfl 11 (by decide) (hts (.fieldLink RX7 30 "LevelUnits$Scanner" "sizes" "[I") (List.mem_of_getElem? (i := 11) rfl)) (fun _ h9 => h9) rfl hin rfl (by decide +kernel) rfl rfl (Nat.le_of_ble_eq_true rfl) dX7_init_64 (fun H locs hP hD hS => ?_)
  have hP : va_P (dC, dI) vwCl [(h0, .inr (9, [.ref q_1, .ref q_3, .ref q_5, .int 0, .null, .int 0, .int 0, .int 0, .ref q_7, .ref q_9, .ref q_11, .ref q_13, .int 0])), (q_1, .inl (cy_2, 6001, .inl (fun _ => 0))), (q_3, .inl (cy_4, 6001, .inl (fun _ => 0))), (q_5, .inl (cy_6, 6001, .inl (fun _ => 0))), (q_7, .inl (cy_8, 256, .inl (fun _ => 0))), (q_9, .inl (cy_10, 3001, .inl (fun _ => 0))), (q_11, .inl (cy_12, 3001, .inl (fun _ => 0))), (q_13, .inl (cy_14, 3001, .inl (fun _ => 0)))] H := hP
  have hD : va_D A [(h0, .inr (9, [.ref q_1, .ref q_3, .ref q_5, .int 0, .null, .int 0, .int 0, .int 0, .ref q_7, .ref q_9, .ref q_11, .ref q_13, .int 0])), (q_1, .inl (cy_2, 6001, .inl (fun _ => 0))), (q_3, .inl (cy_4, 6001, .inl (fun _ => 0))), (q_5, .inl (cy_6, 6001, .inl (fun _ => 0))), (q_7, .inl (cy_8, 256, .inl (fun _ => 0))), (q_9, .inl (cy_10, 3001, .inl (fun _ => 0))), (q_11, .inl (cy_12, 3001, .inl (fun _ => 0))), (q_13, .inl (cy_14, 3001, .inl (fun _ => 0)))] := hD
  have hP9 := hP.sub (ws' := [(h0, .inr (9, [.ref q_1, .ref q_3, .ref q_5, .int 0, .null, .int 0, .int 0, .int 0, .ref q_7, .ref q_9, .ref q_11, .ref q_13, .int 0])), (q_1, .inl (cy_2, 6001, .inl (fun _ => 0))), (q_3, .inl (cy_4, 6001, .inl (fun _ => 0))), (q_5, .inl (cy_6, 6001, .inl (fun _ => 0))), (q_7, .inl (cy_8, 256, .inl (fun _ => 0))), (q_9, .inl (cy_10, 3001, .inl (fun _ => 0))), (q_11, .inl (cy_12, 3001, .inl (fun _ => 0))), (q_13, .inl (cy_14, 3001, .inl (fun _ => 0)))]) [0, 1, 2, 3, 4, 5, 6, 7] rfl
  have hD9 := hD.sub (ws' := [(h0, .inr (9, [.ref q_1, .ref q_3, .ref q_5, .int 0, .null, .int 0, .int 0, .int 0, .ref q_7, .ref q_9, .ref q_11, .ref q_13, .int 0])), (q_1, .inl (cy_2, 6001, .inl (fun _ => 0))), (q_3, .inl (cy_4, 6001, .inl (fun _ => 0))), (q_5, .inl (cy_6, 6001, .inl (fun _ => 0))), (q_7, .inl (cy_8, 256, .inl (fun _ => 0))), (q_9, .inl (cy_10, 3001, .inl (fun _ => 0))), (q_11, .inl (cy_12, 3001, .inl (fun _ => 0))), (q_13, .inl (cy_14, 3001, .inl (fun _ => 0)))]) [0, 1, 2, 3, 4, 5, 6, 7] (by decide) rfl
  have hK9 := hK.sub (tys' := [(cy_2, .int), (cy_4, .int), (cy_6, .int), (cy_8, .int), (cy_10, .int), (cy_12, .int), (cy_14, .int)]) [0, 1, 2, 3, 4, 5, 6] rfl
  refine W.widen (k := 7) (n := 27262) (Nat.le_of_ble_eq_true rfl) (Nat.le_of_ble_eq_true rfl) ?_
  exact W.vret hx hb hr (fun t ht hW => ⟨⟨(), rfl, trivial, q_1, q_3, q_5, q_7, q_9, q_11, q_13, cy_2, cy_4, cy_6, cy_8, cy_10, cy_12, cy_14, by rw [ht]; exact hP9, va_K.moved hW.alike hK9, hD9⟩, hS.F ht⟩) hS.2.2 dX7_init_67
def ws_cc_Machine_init : List Cond := .code yX2_init cX2_init 1 none :: ([.methodLink RX2 3 objectInit, .instanceMethod objectInit, .code objectInit ⟨#[0xb1]⟩ 1 none, .arrayClass .int, .fieldLink RX2 9 "LevelUnits$Machine" "globals" "[I", .fieldLink RX2 15 "LevelUnits$Machine" "heap" "[I", .fieldLink RX2 18 "LevelUnits$Machine" "starts" "[I", .classLink RX2 21 RX4, .fieldLink RX2 23 "LevelUnits$Machine" "kinds" "[LLevelUnits$Node;", .fieldLink RX2 27 "LevelUnits$Machine" "holders" "[I", .classLink RX2 30 RX9, .fieldLink RX2 32 "LevelUnits$Machine" "strands" "[LLevelUnits$Strand;", .fieldLink RX2 36 "LevelUnits$Machine" "numbers" "[I", .fieldLink RX2 39 "LevelUnits$Machine" "values" "[I", .fieldLink RX2 42 "LevelUnits$Machine" "passed" "[I"] ++ wsX20)
theorem in_cc_Machine_init_RX2 : ∀ w ∈ wsX20, w ∈ ws_cc_Machine_init := fun _ h => List.mem_cons_of_mem _ (List.mem_append_right _ h)
set_option maxHeartbeats 4000000 in
set_option maxRecDepth 100000 in
/-- Machine(): its rows (not kept in view) -/
theorem cc_Machine_init (l : Launch) (dC : Nat → ClassId) (dI : Nat → Nat → Nat) (h0 : Nat) (sz : Nat) : Met l yX2_init ws_cc_Machine_init ({ frames := 1, cells := 9, slots := 47768, locals := 12 }) (va_Pc [.ref h0] (fun U => U.heap.size = sz ∧ va_P (dC, dI) vwCl [(h0, .inr (4, [.null, .null, .null, .null, .null, .null, .int 0, .null, .int 0, .int 0, .int 0, .null, .int 0, .null, .int 0, .null, .null, .int 0, .int 0]))] U.heap ∧ va_K (dC, dI) vwCl [] U ∧ va_D (fun _ => True) [(h0, .inr (4, [.null, .null, .null, .null, .null, .null, .int 0, .null, .int 0, .int 0, .int 0, .null, .int 0, .null, .int 0, .null, .null, .int 0, .int 0]))] ∧ va_AO RX4 U ∧ va_AO RX9 U)) (va_Qv (fun _ : Unit => True) (fun _ t => ∃ q_a : Nat, ∃ q_b : Nat, ∃ q_c : Nat, ∃ q_d : Nat, ∃ q_e : Nat, ∃ q_f : Nat, ∃ q_g : Nat, ∃ q_h : Nat, ∃ q_i : Nat, va_P (dC, dI) vwCl [(h0, .inr (4, [.null, .ref q_a, .ref q_b, .ref q_c, .ref q_d, .ref q_e, .int 0, .ref q_f, .int 0, .int 0, .int 0, .ref q_g, .int 0, .ref q_h, .int 0, .ref q_i, .null, .int 0, .int 0]))] t.heap ∧ va_K (dC, dI) vwCl [] t ∧ va_D (va_A [(h0, .inr (4, [.null, .null, .null, .null, .null, .null, .int 0, .null, .int 0, .int 0, .int 0, .null, .int 0, .null, .int 0, .null, .null, .int 0, .int 0]))] sz) [(h0, .inr (4, [.null, .ref q_a, .ref q_b, .ref q_c, .ref q_d, .ref q_e, .int 0, .ref q_f, .int 0, .int 0, .int 0, .ref q_g, .int 0, .ref q_h, .int 0, .ref q_i, .null, .int 0, .int 0]))]) (va_A [(h0, .inr (4, [.null, .null, .null, .null, .null, .null, .int 0, .null, .int 0, .int 0, .int 0, .null, .int 0, .null, .int 0, .null, .null, .int 0, .int 0]))] sz)) 9 47768 (va_A [(h0, .inr (4, [.null, .null, .null, .null, .null, .null, .int 0, .null, .int 0, .int 0, .int 0, .null, .int 0, .null, .int 0, .null, .null, .int 0, .int 0]))] sz) := by
  refine Met.ofW (cc := cX2_init) (maxL := 1) (ret := none) (by decide) rfl ?_
  intro p e s m args below meth c s₁ B hml hv
  obtain ⟨rfl, hsz, hP, hK, hD0, hN0, hN1⟩ := hv
  have hx := B.exec
  have hb := B.bytes
  have hr := B.returns
  have hts := atoms_spec (ws := ws_cc_Machine_init) B.pre
  have hown : s.vm.findClass RX2 = some m.cls := findClass_of_methodNamed B.named
  have hlocks := B.notSynchronized
  have hin : meth.name = "<init>" := (name_of_methodNamed B.named B.method).1
  subst hsz
  have hD := hD0.self (sz := s.heap.size)
  generalize hAe : va_A [(h0, .inr (4, [.null, .null, .null, .null, .null, .null, .int 0, .null, .int 0, .int 0, .int 0, .null, .int 0, .null, .int 0, .null, .null, .int 0, .int 0]))] s.heap.size = A at hD ⊢
  have hA : ∀ q : Nat, s.heap.size ≤ q → A q := fun q h => by rw [← hAe]; exact Or.inr h
  have hS : va_S A s.heap s.heap [] := va_S.rf
  have hP : va_P (dC, dI) vwCl [(h0, .inr (4, [.null, .null, .null, .null, .null, .null, .int 0, .null, .int 0, .int 0, .int 0, .null, .int 0, .null, .int 0, .null, .null, .int 0, .int 0]))] s.heap := hP
  have hl := lv_entry ([.ref h0]) (n := 1) (Nat.le_of_ble_eq_true rfl)
  rw [lg_entry_eq]
  generalize (lg_sl ([.ref h0]) ++ List.replicate (1 - (lg_sl ([.ref h0])).length) Slot.unset).toArray = ls at hl ⊢
  have hl : lv_has ls 1 [(0, .ref h0)] := hl
  refine lv_aload_n hx hb dX2_init_0 rfl (lv_at hl 0 rfl) ?_
  refine W.objInit hx hb hown (hts (.methodLink RX2 3 objectInit) (List.mem_of_getElem? (i := 1) rfl)) (hts (.instanceMethod objectInit) (List.mem_of_getElem? (i := 2) rfl)) (hts (.code objectInit ⟨#[0xb1]⟩ 1 none) (List.mem_of_getElem? (i := 3) rfl)) rfl (by rw [hml]; exact hl.1) rfl dX2_init_1 (Nat.le_of_ble_eq_true rfl) (Nat.le_of_ble_eq_true rfl) ?_
  refine W.eq (g2 := F0 m 4 ls []) rfl ?_
  refine lv_aload_n hx hb dX2_init_4 rfl (lv_at hl 0 rfl) ?_
  refine lv_sipush (v := 5000) hx hb dX2_init_5 (by decide) ?_
  refine va_newa (atype := .int) (ty := .int) (a0 := (5000, .inl (fun _ => 0))) (N' := 5000) hx hb (hts (.arrayClass .int) (List.mem_of_getElem? (i := 4) rfl)) rfl hK hP hD hS hA (fun _ => rfl) (by decide) (by decide) (Nat.le_of_ble_eq_true rfl) (Nat.le_of_ble_eq_true rfl) (Nat.le_of_ble_eq_true rfl) dX2_init_8 (fun q_1 cy_2 H hK hP hD hS => ?_)
  have hK : va_K (dC, dI) vwCl [(cy_2, .int)] s := hK
  have hP : va_P (dC, dI) vwCl [(h0, .inr (4, [.null, .null, .null, .null, .null, .null, .int 0, .null, .int 0, .int 0, .int 0, .null, .int 0, .null, .int 0, .null, .null, .int 0, .int 0])), (q_1, .inl (cy_2, 5000, .inl (fun _ => 0)))] H := hP
  have hD : va_D A [(h0, .inr (4, [.null, .null, .null, .null, .null, .null, .int 0, .null, .int 0, .int 0, .int 0, .null, .int 0, .null, .int 0, .null, .null, .int 0, .int 0])), (q_1, .inl (cy_2, 5000, .inl (fun _ => 0)))] := hD
  refine W.widen (k := 1) (n := 5000) (Nat.le_of_ble_eq_true rfl) (Nat.le_of_ble_eq_true rfl) ?_
  refine va_putF (D := (dC, dI)) (ci := 4) (v := .ref q_1) (ty := .array .int) (C := RX2) (T := TX2) (N := 19) hx hb hts in_cc_Machine_init_RX2 tyX2 tyX2_ok nmX2 hown hK hP hD hS 0 rfl rfl 1 (by decide) (hts (.fieldLink RX2 9 "LevelUnits$Machine" "globals" "[I") (List.mem_of_getElem? (i := 5) rfl)) (fun _ h9 => h9) rfl hin rfl (by decide +kernel) rfl rfl (Nat.le_of_ble_eq_true rfl) dX2_init_10 (fun H locs hP hD hS => ?_)
  have hP : va_P (dC, dI) vwCl [(h0, .inr (4, [.null, .ref q_1, .null, .null, .null, .null, .int 0, .null, .int 0, .int 0, .int 0, .null, .int 0, .null, .int 0, .null, .null, .int 0, .int 0])), (q_1, .inl (cy_2, 5000, .inl (fun _ => 0)))] H := hP
  have hD : va_D A [(h0, .inr (4, [.null, .ref q_1, .null, .null, .null, .null, .int 0, .null, .int 0, .int 0, .int 0, .null, .int 0, .null, .int 0, .null, .null, .int 0, .int 0])), (q_1, .inl (cy_2, 5000, .inl (fun _ => 0)))] := hD
  refine lv_aload_n hx hb dX2_init_13 rfl (lv_at hl 0 rfl) ?_
  refine lv_sipush (v := 20000) hx hb dX2_init_14 (by decide) ?_
  refine va_newa (atype := .int) (ty := .int) (a0 := (20000, .inl (fun _ => 0))) (N' := 20000) hx hb (hts (.arrayClass .int) (List.mem_of_getElem? (i := 4) rfl)) rfl hK hP hD hS hA (fun _ => rfl) (by decide) (by decide) (Nat.le_of_ble_eq_true rfl) (Nat.le_of_ble_eq_true rfl) (Nat.le_of_ble_eq_true rfl) dX2_init_17 (fun q_3 cy_4 H hK hP hD hS => ?_)
  have hK : va_K (dC, dI) vwCl [(cy_2, .int), (cy_4, .int)] s := hK
  have hP : va_P (dC, dI) vwCl [(h0, .inr (4, [.null, .ref q_1, .null, .null, .null, .null, .int 0, .null, .int 0, .int 0, .int 0, .null, .int 0, .null, .int 0, .null, .null, .int 0, .int 0])), (q_1, .inl (cy_2, 5000, .inl (fun _ => 0))), (q_3, .inl (cy_4, 20000, .inl (fun _ => 0)))] H := hP
  have hD : va_D A [(h0, .inr (4, [.null, .ref q_1, .null, .null, .null, .null, .int 0, .null, .int 0, .int 0, .int 0, .null, .int 0, .null, .int 0, .null, .null, .int 0, .int 0])), (q_1, .inl (cy_2, 5000, .inl (fun _ => 0))), (q_3, .inl (cy_4, 20000, .inl (fun _ => 0)))] := hD
  refine W.widen (k := 2) (n := 25000) (Nat.le_of_ble_eq_true rfl) (Nat.le_of_ble_eq_true rfl) ?_
  refine va_putF (D := (dC, dI)) (ci := 4) (v := .ref q_3) (ty := .array .int) (C := RX2) (T := TX2) (N := 19) hx hb hts in_cc_Machine_init_RX2 tyX2 tyX2_ok nmX2 hown hK hP hD hS 0 rfl rfl 2 (by decide) (hts (.fieldLink RX2 15 "LevelUnits$Machine" "heap" "[I") (List.mem_of_getElem? (i := 6) rfl)) (fun _ h9 => h9) rfl hin rfl (by decide +kernel) rfl rfl (Nat.le_of_ble_eq_true rfl) dX2_init_19 (fun H locs hP hD hS => ?_)
  have hP : va_P (dC, dI) vwCl [(h0, .inr (4, [.null, .ref q_1, .ref q_3, .null, .null, .null, .int 0, .null, .int 0, .int 0, .int 0, .null, .int 0, .null, .int 0, .null, .null, .int 0, .int 0])), (q_1, .inl (cy_2, 5000, .inl (fun _ => 0))), (q_3, .inl (cy_4, 20000, .inl (fun _ => 0)))] H := hP
  have hD : va_D A [(h0, .inr (4, [.null, .ref q_1, .ref q_3, .null, .null, .null, .int 0, .null, .int 0, .int 0, .int 0, .null, .int 0, .null, .int 0, .null, .null, .int 0, .int 0])), (q_1, .inl (cy_2, 5000, .inl (fun _ => 0))), (q_3, .inl (cy_4, 20000, .inl (fun _ => 0)))] := hD
  refine lv_aload_n hx hb dX2_init_22 rfl (lv_at hl 0 rfl) ?_
  refine lv_sipush (v := 2002) hx hb dX2_init_23 (by decide) ?_
  refine va_newa (atype := .int) (ty := .int) (a0 := (2002, .inl (fun _ => 0))) (N' := 2002) hx hb (hts (.arrayClass .int) (List.mem_of_getElem? (i := 4) rfl)) rfl hK hP hD hS hA (fun _ => rfl) (by decide) (by decide) (Nat.le_of_ble_eq_true rfl) (Nat.le_of_ble_eq_true rfl) (Nat.le_of_ble_eq_true rfl) dX2_init_26 (fun q_5 cy_6 H hK hP hD hS => ?_)
  have hK : va_K (dC, dI) vwCl [(cy_2, .int), (cy_4, .int), (cy_6, .int)] s := hK
  have hP : va_P (dC, dI) vwCl [(h0, .inr (4, [.null, .ref q_1, .ref q_3, .null, .null, .null, .int 0, .null, .int 0, .int 0, .int 0, .null, .int 0, .null, .int 0, .null, .null, .int 0, .int 0])), (q_1, .inl (cy_2, 5000, .inl (fun _ => 0))), (q_3, .inl (cy_4, 20000, .inl (fun _ => 0))), (q_5, .inl (cy_6, 2002, .inl (fun _ => 0)))] H := hP
  have hD : va_D A [(h0, .inr (4, [.null, .ref q_1, .ref q_3, .null, .null, .null, .int 0, .null, .int 0, .int 0, .int 0, .null, .int 0, .null, .int 0, .null, .null, .int 0, .int 0])), (q_1, .inl (cy_2, 5000, .inl (fun _ => 0))), (q_3, .inl (cy_4, 20000, .inl (fun _ => 0))), (q_5, .inl (cy_6, 2002, .inl (fun _ => 0)))] := hD
  refine W.widen (k := 3) (n := 27002) (Nat.le_of_ble_eq_true rfl) (Nat.le_of_ble_eq_true rfl) ?_
  refine va_putF (D := (dC, dI)) (ci := 4) (v := .ref q_5) (ty := .array .int) (C := RX2) (T := TX2) (N := 19) hx hb hts in_cc_Machine_init_RX2 tyX2 tyX2_ok nmX2 hown hK hP hD hS 0 rfl rfl 3 (by decide) (hts (.fieldLink RX2 18 "LevelUnits$Machine" "starts" "[I") (List.mem_of_getElem? (i := 7) rfl)) (fun _ h9 => h9) rfl hin rfl (by decide +kernel) rfl rfl (Nat.le_of_ble_eq_true rfl) dX2_init_28 (fun H locs hP hD hS => ?_)
  have hP : va_P (dC, dI) vwCl [(h0, .inr (4, [.null, .ref q_1, .ref q_3, .ref q_5, .null, .null, .int 0, .null, .int 0, .int 0, .int 0, .null, .int 0, .null, .int 0, .null, .null, .int 0, .int 0])), (q_1, .inl (cy_2, 5000, .inl (fun _ => 0))), (q_3, .inl (cy_4, 20000, .inl (fun _ => 0))), (q_5, .inl (cy_6, 2002, .inl (fun _ => 0)))] H := hP
  have hD : va_D A [(h0, .inr (4, [.null, .ref q_1, .ref q_3, .ref q_5, .null, .null, .int 0, .null, .int 0, .int 0, .int 0, .null, .int 0, .null, .int 0, .null, .null, .int 0, .int 0])), (q_1, .inl (cy_2, 5000, .inl (fun _ => 0))), (q_3, .inl (cy_4, 20000, .inl (fun _ => 0))), (q_5, .inl (cy_6, 2002, .inl (fun _ => 0)))] := hD
  refine lv_aload_n hx hb dX2_init_31 rfl (lv_at hl 0 rfl) ?_
  refine lv_sipush (v := 2001) hx hb dX2_init_32 (by decide) ?_
  refine va_newq (C := RX4) (N' := 2001) hx hb hown (hts (.classLink RX2 21 RX4) (List.mem_of_getElem? (i := 8) rfl)) hN0 hK hP hD hS hA (by decide) (by decide) (Nat.le_of_ble_eq_true rfl) (Nat.le_of_ble_eq_true rfl) (Nat.le_of_ble_eq_true rfl) dX2_init_35 (fun q_7 cy_8 H hK hP hD hS => ?_)
  have hK : va_K (dC, dI) vwCl [(cy_2, .int), (cy_4, .int), (cy_6, .int), (cy_8, .object RX4)] s := hK
  have hP : va_P (dC, dI) vwCl [(h0, .inr (4, [.null, .ref q_1, .ref q_3, .ref q_5, .null, .null, .int 0, .null, .int 0, .int 0, .int 0, .null, .int 0, .null, .int 0, .null, .null, .int 0, .int 0])), (q_1, .inl (cy_2, 5000, .inl (fun _ => 0))), (q_3, .inl (cy_4, 20000, .inl (fun _ => 0))), (q_5, .inl (cy_6, 2002, .inl (fun _ => 0))), (q_7, .inl (cy_8, 2001, .inr (.inr (.inr (.inr (fun _ => none))))))] H := hP
  have hD : va_D A [(h0, .inr (4, [.null, .ref q_1, .ref q_3, .ref q_5, .null, .null, .int 0, .null, .int 0, .int 0, .int 0, .null, .int 0, .null, .int 0, .null, .null, .int 0, .int 0])), (q_1, .inl (cy_2, 5000, .inl (fun _ => 0))), (q_3, .inl (cy_4, 20000, .inl (fun _ => 0))), (q_5, .inl (cy_6, 2002, .inl (fun _ => 0))), (q_7, .inl (cy_8, 2001, .inr (.inr (.inr (.inr (fun _ => none))))))] := hD
  refine W.widen (k := 4) (n := 29003) (Nat.le_of_ble_eq_true rfl) (Nat.le_of_ble_eq_true rfl) ?_
  refine va_putF (D := (dC, dI)) (ci := 4) (v := .ref q_7) (ty := .array (.object "LevelUnits$Node")) (C := RX2) (T := TX2) (N := 19) hx hb hts in_cc_Machine_init_RX2 tyX2 tyX2_ok nmX2 hown hK hP hD hS 0 rfl rfl 4 (by decide) (hts (.fieldLink RX2 23 "LevelUnits$Machine" "kinds" "[LLevelUnits$Node;") (List.mem_of_getElem? (i := 9) rfl)) (fun _ h9 => h9) rfl hin rfl (by decide +kernel) rfl rfl (Nat.le_of_ble_eq_true rfl) dX2_init_38 (fun H locs hP hD hS => ?_)
  have hP : va_P (dC, dI) vwCl [(h0, .inr (4, [.null, .ref q_1, .ref q_3, .ref q_5, .ref q_7, .null, .int 0, .null, .int 0, .int 0, .int 0, .null, .int 0, .null, .int 0, .null, .null, .int 0, .int 0])), (q_1, .inl (cy_2, 5000, .inl (fun _ => 0))), (q_3, .inl (cy_4, 20000, .inl (fun _ => 0))), (q_5, .inl (cy_6, 2002, .inl (fun _ => 0))), (q_7, .inl (cy_8, 2001, .inr (.inr (.inr (.inr (fun _ => none))))))] H := hP
  have hD : va_D A [(h0, .inr (4, [.null, .ref q_1, .ref q_3, .ref q_5, .ref q_7, .null, .int 0, .null, .int 0, .int 0, .int 0, .null, .int 0, .null, .int 0, .null, .null, .int 0, .int 0])), (q_1, .inl (cy_2, 5000, .inl (fun _ => 0))), (q_3, .inl (cy_4, 20000, .inl (fun _ => 0))), (q_5, .inl (cy_6, 2002, .inl (fun _ => 0))), (q_7, .inl (cy_8, 2001, .inr (.inr (.inr (.inr (fun _ => none))))))] := hD
  refine lv_aload_n hx hb dX2_init_41 rfl (lv_at hl 0 rfl) ?_
  refine lv_sipush (v := 2001) hx hb dX2_init_42 (by decide) ?_
  refine va_newa (atype := .int) (ty := .int) (a0 := (2001, .inl (fun _ => 0))) (N' := 2001) hx hb (hts (.arrayClass .int) (List.mem_of_getElem? (i := 4) rfl)) rfl hK hP hD hS hA (fun _ => rfl) (by decide) (by decide) (Nat.le_of_ble_eq_true rfl) (Nat.le_of_ble_eq_true rfl) (Nat.le_of_ble_eq_true rfl) dX2_init_45 (fun q_9 cy_10 H hK hP hD hS => ?_)
  have hK : va_K (dC, dI) vwCl [(cy_2, .int), (cy_4, .int), (cy_6, .int), (cy_8, .object RX4), (cy_10, .int)] s := hK
  have hP : va_P (dC, dI) vwCl [(h0, .inr (4, [.null, .ref q_1, .ref q_3, .ref q_5, .ref q_7, .null, .int 0, .null, .int 0, .int 0, .int 0, .null, .int 0, .null, .int 0, .null, .null, .int 0, .int 0])), (q_1, .inl (cy_2, 5000, .inl (fun _ => 0))), (q_3, .inl (cy_4, 20000, .inl (fun _ => 0))), (q_5, .inl (cy_6, 2002, .inl (fun _ => 0))), (q_7, .inl (cy_8, 2001, .inr (.inr (.inr (.inr (fun _ => none)))))), (q_9, .inl (cy_10, 2001, .inl (fun _ => 0)))] H := hP
  have hD : va_D A [(h0, .inr (4, [.null, .ref q_1, .ref q_3, .ref q_5, .ref q_7, .null, .int 0, .null, .int 0, .int 0, .int 0, .null, .int 0, .null, .int 0, .null, .null, .int 0, .int 0])), (q_1, .inl (cy_2, 5000, .inl (fun _ => 0))), (q_3, .inl (cy_4, 20000, .inl (fun _ => 0))), (q_5, .inl (cy_6, 2002, .inl (fun _ => 0))), (q_7, .inl (cy_8, 2001, .inr (.inr (.inr (.inr (fun _ => none)))))), (q_9, .inl (cy_10, 2001, .inl (fun _ => 0)))] := hD
  refine W.widen (k := 5) (n := 31004) (Nat.le_of_ble_eq_true rfl) (Nat.le_of_ble_eq_true rfl) ?_
  refine va_putF (D := (dC, dI)) (ci := 4) (v := .ref q_9) (ty := .array .int) (C := RX2) (T := TX2) (N := 19) hx hb hts in_cc_Machine_init_RX2 tyX2 tyX2_ok nmX2 hown hK hP hD hS 0 rfl rfl 5 (by decide) (hts (.fieldLink RX2 27 "LevelUnits$Machine" "holders" "[I") (List.mem_of_getElem? (i := 10) rfl)) (fun _ h9 => h9) rfl hin rfl (by decide +kernel) rfl rfl (Nat.le_of_ble_eq_true rfl) dX2_init_47 (fun H locs hP hD hS => ?_)
  have hP : va_P (dC, dI) vwCl [(h0, .inr (4, [.null, .ref q_1, .ref q_3, .ref q_5, .ref q_7, .ref q_9, .int 0, .null, .int 0, .int 0, .int 0, .null, .int 0, .null, .int 0, .null, .null, .int 0, .int 0])), (q_1, .inl (cy_2, 5000, .inl (fun _ => 0))), (q_3, .inl (cy_4, 20000, .inl (fun _ => 0))), (q_5, .inl (cy_6, 2002, .inl (fun _ => 0))), (q_7, .inl (cy_8, 2001, .inr (.inr (.inr (.inr (fun _ => none)))))), (q_9, .inl (cy_10, 2001, .inl (fun _ => 0)))] H := hP
  have hD : va_D A [(h0, .inr (4, [.null, .ref q_1, .ref q_3, .ref q_5, .ref q_7, .ref q_9, .int 0, .null, .int 0, .int 0, .int 0, .null, .int 0, .null, .int 0, .null, .null, .int 0, .int 0])), (q_1, .inl (cy_2, 5000, .inl (fun _ => 0))), (q_3, .inl (cy_4, 20000, .inl (fun _ => 0))), (q_5, .inl (cy_6, 2002, .inl (fun _ => 0))), (q_7, .inl (cy_8, 2001, .inr (.inr (.inr (.inr (fun _ => none)))))), (q_9, .inl (cy_10, 2001, .inl (fun _ => 0)))] := hD
  refine lv_aload_n hx hb dX2_init_50 rfl (lv_at hl 0 rfl) ?_
  refine lv_bipush (v := 64) hx hb dX2_init_51 (by decide) ?_
  refine va_newq (C := RX9) (N' := 64) hx hb hown (hts (.classLink RX2 30 RX9) (List.mem_of_getElem? (i := 11) rfl)) hN1 hK hP hD hS hA (by decide) (by decide) (Nat.le_of_ble_eq_true rfl) (Nat.le_of_ble_eq_true rfl) (Nat.le_of_ble_eq_true rfl) dX2_init_53 (fun q_11 cy_12 H hK hP hD hS => ?_)
  have hK : va_K (dC, dI) vwCl [(cy_2, .int), (cy_4, .int), (cy_6, .int), (cy_8, .object RX4), (cy_10, .int), (cy_12, .object RX9)] s := hK
  have hP : va_P (dC, dI) vwCl [(h0, .inr (4, [.null, .ref q_1, .ref q_3, .ref q_5, .ref q_7, .ref q_9, .int 0, .null, .int 0, .int 0, .int 0, .null, .int 0, .null, .int 0, .null, .null, .int 0, .int 0])), (q_1, .inl (cy_2, 5000, .inl (fun _ => 0))), (q_3, .inl (cy_4, 20000, .inl (fun _ => 0))), (q_5, .inl (cy_6, 2002, .inl (fun _ => 0))), (q_7, .inl (cy_8, 2001, .inr (.inr (.inr (.inr (fun _ => none)))))), (q_9, .inl (cy_10, 2001, .inl (fun _ => 0))), (q_11, .inl (cy_12, 64, .inr (.inr (.inr (.inr (fun _ => none))))))] H := hP
  have hD : va_D A [(h0, .inr (4, [.null, .ref q_1, .ref q_3, .ref q_5, .ref q_7, .ref q_9, .int 0, .null, .int 0, .int 0, .int 0, .null, .int 0, .null, .int 0, .null, .null, .int 0, .int 0])), (q_1, .inl (cy_2, 5000, .inl (fun _ => 0))), (q_3, .inl (cy_4, 20000, .inl (fun _ => 0))), (q_5, .inl (cy_6, 2002, .inl (fun _ => 0))), (q_7, .inl (cy_8, 2001, .inr (.inr (.inr (.inr (fun _ => none)))))), (q_9, .inl (cy_10, 2001, .inl (fun _ => 0))), (q_11, .inl (cy_12, 64, .inr (.inr (.inr (.inr (fun _ => none))))))] := hD
  refine W.widen (k := 6) (n := 31068) (Nat.le_of_ble_eq_true rfl) (Nat.le_of_ble_eq_true rfl) ?_
  refine va_putF (D := (dC, dI)) (ci := 4) (v := .ref q_11) (ty := .array (.object "LevelUnits$Strand")) (C := RX2) (T := TX2) (N := 19) hx hb hts in_cc_Machine_init_RX2 tyX2 tyX2_ok nmX2 hown hK hP hD hS 0 rfl rfl 7 (by decide) (hts (.fieldLink RX2 32 "LevelUnits$Machine" "strands" "[LLevelUnits$Strand;") (List.mem_of_getElem? (i := 12) rfl)) (fun _ h9 => h9) rfl hin rfl (by decide +kernel) rfl rfl (Nat.le_of_ble_eq_true rfl) dX2_init_56 (fun H locs hP hD hS => ?_)
  have hP : va_P (dC, dI) vwCl [(h0, .inr (4, [.null, .ref q_1, .ref q_3, .ref q_5, .ref q_7, .ref q_9, .int 0, .ref q_11, .int 0, .int 0, .int 0, .null, .int 0, .null, .int 0, .null, .null, .int 0, .int 0])), (q_1, .inl (cy_2, 5000, .inl (fun _ => 0))), (q_3, .inl (cy_4, 20000, .inl (fun _ => 0))), (q_5, .inl (cy_6, 2002, .inl (fun _ => 0))), (q_7, .inl (cy_8, 2001, .inr (.inr (.inr (.inr (fun _ => none)))))), (q_9, .inl (cy_10, 2001, .inl (fun _ => 0))), (q_11, .inl (cy_12, 64, .inr (.inr (.inr (.inr (fun _ => none))))))] H := hP
  have hD : va_D A [(h0, .inr (4, [.null, .ref q_1, .ref q_3, .ref q_5, .ref q_7, .ref q_9, .int 0, .ref q_11, .int 0, .int 0, .int 0, .null, .int 0, .null, .int 0, .null, .null, .int 0, .int 0])), (q_1, .inl (cy_2, 5000, .inl (fun _ => 0))), (q_3, .inl (cy_4, 20000, .inl (fun _ => 0))), (q_5, .inl (cy_6, 2002, .inl (fun _ => 0))), (q_7, .inl (cy_8, 2001, .inr (.inr (.inr (.inr (fun _ => none)))))), (q_9, .inl (cy_10, 2001, .inl (fun _ => 0))), (q_11, .inl (cy_12, 64, .inr (.inr (.inr (.inr (fun _ => none))))))] := hD
  refine lv_aload_n hx hb dX2_init_59 rfl (lv_at hl 0 rfl) ?_
  refine lv_sipush (v := 500) hx hb dX2_init_60 (by decide) ?_
  refine va_newa (atype := .int) (ty := .int) (a0 := (500, .inl (fun _ => 0))) (N' := 500) hx hb (hts (.arrayClass .int) (List.mem_of_getElem? (i := 4) rfl)) rfl hK hP hD hS hA (fun _ => rfl) (by decide) (by decide) (Nat.le_of_ble_eq_true rfl) (Nat.le_of_ble_eq_true rfl) (Nat.le_of_ble_eq_true rfl) dX2_init_63 (fun q_13 cy_14 H hK hP hD hS => ?_)
  have hK : va_K (dC, dI) vwCl [(cy_2, .int), (cy_4, .int), (cy_6, .int), (cy_8, .object RX4), (cy_10, .int), (cy_12, .object RX9), (cy_14, .int)] s := hK
  have hP : va_P (dC, dI) vwCl [(h0, .inr (4, [.null, .ref q_1, .ref q_3, .ref q_5, .ref q_7, .ref q_9, .int 0, .ref q_11, .int 0, .int 0, .int 0, .null, .int 0, .null, .int 0, .null, .null, .int 0, .int 0])), (q_1, .inl (cy_2, 5000, .inl (fun _ => 0))), (q_3, .inl (cy_4, 20000, .inl (fun _ => 0))), (q_5, .inl (cy_6, 2002, .inl (fun _ => 0))), (q_7, .inl (cy_8, 2001, .inr (.inr (.inr (.inr (fun _ => none)))))), (q_9, .inl (cy_10, 2001, .inl (fun _ => 0))), (q_11, .inl (cy_12, 64, .inr (.inr (.inr (.inr (fun _ => none)))))), (q_13, .inl (cy_14, 500, .inl (fun _ => 0)))] H := hP
  have hD : va_D A [(h0, .inr (4, [.null, .ref q_1, .ref q_3, .ref q_5, .ref q_7, .ref q_9, .int 0, .ref q_11, .int 0, .int 0, .int 0, .null, .int 0, .null, .int 0, .null, .null, .int 0, .int 0])), (q_1, .inl (cy_2, 5000, .inl (fun _ => 0))), (q_3, .inl (cy_4, 20000, .inl (fun _ => 0))), (q_5, .inl (cy_6, 2002, .inl (fun _ => 0))), (q_7, .inl (cy_8, 2001, .inr (.inr (.inr (.inr (fun _ => none)))))), (q_9, .inl (cy_10, 2001, .inl (fun _ => 0))), (q_11, .inl (cy_12, 64, .inr (.inr (.inr (.inr (fun _ => none)))))), (q_13, .inl (cy_14, 500, .inl (fun _ => 0)))] := hD
  refine W.widen (k := 7) (n := 31568) (Nat.le_of_ble_eq_true rfl) (Nat.le_of_ble_eq_true rfl) ?_
  refine va_putF (D := (dC, dI)) (ci := 4) (v := .ref q_13) (ty := .array .int) (C := RX2) (T := TX2) (N := 19) hx hb hts in_cc_Machine_init_RX2 tyX2 tyX2_ok nmX2 hown hK hP hD hS 0 rfl rfl 11 (by decide) (hts (.fieldLink RX2 36 "LevelUnits$Machine" "numbers" "[I") (List.mem_of_getElem? (i := 13) rfl)) (fun _ h9 => h9) rfl hin rfl (by decide +kernel) rfl rfl (Nat.le_of_ble_eq_true rfl) dX2_init_65 (fun H locs hP hD hS => ?_)
  have hP : va_P (dC, dI) vwCl [(h0, .inr (4, [.null, .ref q_1, .ref q_3, .ref q_5, .ref q_7, .ref q_9, .int 0, .ref q_11, .int 0, .int 0, .int 0, .ref q_13, .int 0, .null, .int 0, .null, .null, .int 0, .int 0])), (q_1, .inl (cy_2, 5000, .inl (fun _ => 0))), (q_3, .inl (cy_4, 20000, .inl (fun _ => 0))), (q_5, .inl (cy_6, 2002, .inl (fun _ => 0))), (q_7, .inl (cy_8, 2001, .inr (.inr (.inr (.inr (fun _ => none)))))), (q_9, .inl (cy_10, 2001, .inl (fun _ => 0))), (q_11, .inl (cy_12, 64, .inr (.inr (.inr (.inr (fun _ => none)))))), (q_13, .inl (cy_14, 500, .inl (fun _ => 0)))] H := hP
  have hD : va_D A [(h0, .inr (4, [.null, .ref q_1, .ref q_3, .ref q_5, .ref q_7, .ref q_9, .int 0, .ref q_11, .int 0, .int 0, .int 0, .ref q_13, .int 0, .null, .int 0, .null, .null, .int 0, .int 0])), (q_1, .inl (cy_2, 5000, .inl (fun _ => 0))), (q_3, .inl (cy_4, 20000, .inl (fun _ => 0))), (q_5, .inl (cy_6, 2002, .inl (fun _ => 0))), (q_7, .inl (cy_8, 2001, .inr (.inr (.inr (.inr (fun _ => none)))))), (q_9, .inl (cy_10, 2001, .inl (fun _ => 0))), (q_11, .inl (cy_12, 64, .inr (.inr (.inr (.inr (fun _ => none)))))), (q_13, .inl (cy_14, 500, .inl (fun _ => 0)))] := hD
  refine lv_aload_n hx hb dX2_init_68 rfl (lv_at hl 0 rfl) ?_
  refine lv_sipush (v := 200) hx hb dX2_init_69 (by decide) ?_
  refine va_newa (atype := .int) (ty := .int) (a0 := (200, .inl (fun _ => 0))) (N' := 200) hx hb (hts (.arrayClass .int) (List.mem_of_getElem? (i := 4) rfl)) rfl hK hP hD hS hA (fun _ => rfl) (by decide) (by decide) (Nat.le_of_ble_eq_true rfl) (Nat.le_of_ble_eq_true rfl) (Nat.le_of_ble_eq_true rfl) dX2_init_72 (fun q_15 cy_16 H hK hP hD hS => ?_)
  have hK : va_K (dC, dI) vwCl [(cy_2, .int), (cy_4, .int), (cy_6, .int), (cy_8, .object RX4), (cy_10, .int), (cy_12, .object RX9), (cy_14, .int), (cy_16, .int)] s := hK
  have hP : va_P (dC, dI) vwCl [(h0, .inr (4, [.null, .ref q_1, .ref q_3, .ref q_5, .ref q_7, .ref q_9, .int 0, .ref q_11, .int 0, .int 0, .int 0, .ref q_13, .int 0, .null, .int 0, .null, .null, .int 0, .int 0])), (q_1, .inl (cy_2, 5000, .inl (fun _ => 0))), (q_3, .inl (cy_4, 20000, .inl (fun _ => 0))), (q_5, .inl (cy_6, 2002, .inl (fun _ => 0))), (q_7, .inl (cy_8, 2001, .inr (.inr (.inr (.inr (fun _ => none)))))), (q_9, .inl (cy_10, 2001, .inl (fun _ => 0))), (q_11, .inl (cy_12, 64, .inr (.inr (.inr (.inr (fun _ => none)))))), (q_13, .inl (cy_14, 500, .inl (fun _ => 0))), (q_15, .inl (cy_16, 200, .inl (fun _ => 0)))] H := hP
  have hD : va_D A [(h0, .inr (4, [.null, .ref q_1, .ref q_3, .ref q_5, .ref q_7, .ref q_9, .int 0, .ref q_11, .int 0, .int 0, .int 0, .ref q_13, .int 0, .null, .int 0, .null, .null, .int 0, .int 0])), (q_1, .inl (cy_2, 5000, .inl (fun _ => 0))), (q_3, .inl (cy_4, 20000, .inl (fun _ => 0))), (q_5, .inl (cy_6, 2002, .inl (fun _ => 0))), (q_7, .inl (cy_8, 2001, .inr (.inr (.inr (.inr (fun _ => none)))))), (q_9, .inl (cy_10, 2001, .inl (fun _ => 0))), (q_11, .inl (cy_12, 64, .inr (.inr (.inr (.inr (fun _ => none)))))), (q_13, .inl (cy_14, 500, .inl (fun _ => 0))), (q_15, .inl (cy_16, 200, .inl (fun _ => 0)))] := hD
  refine W.widen (k := 8) (n := 31768) (Nat.le_of_ble_eq_true rfl) (Nat.le_of_ble_eq_true rfl) ?_
  refine va_putF (D := (dC, dI)) (ci := 4) (v := .ref q_15) (ty := .array .int) (C := RX2) (T := TX2) (N := 19) hx hb hts in_cc_Machine_init_RX2 tyX2 tyX2_ok nmX2 hown hK hP hD hS 0 rfl rfl 13 (by decide) (hts (.fieldLink RX2 39 "LevelUnits$Machine" "values" "[I") (List.mem_of_getElem? (i := 14) rfl)) (fun _ h9 => h9) rfl hin rfl (by decide +kernel) rfl rfl (Nat.le_of_ble_eq_true rfl) dX2_init_74 (fun H locs hP hD hS => ?_)
  have hP : va_P (dC, dI) vwCl [(h0, .inr (4, [.null, .ref q_1, .ref q_3, .ref q_5, .ref q_7, .ref q_9, .int 0, .ref q_11, .int 0, .int 0, .int 0, .ref q_13, .int 0, .ref q_15, .int 0, .null, .null, .int 0, .int 0])), (q_1, .inl (cy_2, 5000, .inl (fun _ => 0))), (q_3, .inl (cy_4, 20000, .inl (fun _ => 0))), (q_5, .inl (cy_6, 2002, .inl (fun _ => 0))), (q_7, .inl (cy_8, 2001, .inr (.inr (.inr (.inr (fun _ => none)))))), (q_9, .inl (cy_10, 2001, .inl (fun _ => 0))), (q_11, .inl (cy_12, 64, .inr (.inr (.inr (.inr (fun _ => none)))))), (q_13, .inl (cy_14, 500, .inl (fun _ => 0))), (q_15, .inl (cy_16, 200, .inl (fun _ => 0)))] H := hP
  have hD : va_D A [(h0, .inr (4, [.null, .ref q_1, .ref q_3, .ref q_5, .ref q_7, .ref q_9, .int 0, .ref q_11, .int 0, .int 0, .int 0, .ref q_13, .int 0, .ref q_15, .int 0, .null, .null, .int 0, .int 0])), (q_1, .inl (cy_2, 5000, .inl (fun _ => 0))), (q_3, .inl (cy_4, 20000, .inl (fun _ => 0))), (q_5, .inl (cy_6, 2002, .inl (fun _ => 0))), (q_7, .inl (cy_8, 2001, .inr (.inr (.inr (.inr (fun _ => none)))))), (q_9, .inl (cy_10, 2001, .inl (fun _ => 0))), (q_11, .inl (cy_12, 64, .inr (.inr (.inr (.inr (fun _ => none)))))), (q_13, .inl (cy_14, 500, .inl (fun _ => 0))), (q_15, .inl (cy_16, 200, .inl (fun _ => 0)))] := hD
  refine lv_aload_n hx hb dX2_init_77 rfl (lv_at hl 0 rfl) ?_
  refine lv_sipush (v := 16000) hx hb dX2_init_78 (by decide) ?_
  refine va_newa (atype := .int) (ty := .int) (a0 := (16000, .inl (fun _ => 0))) (N' := 16000) hx hb (hts (.arrayClass .int) (List.mem_of_getElem? (i := 4) rfl)) rfl hK hP hD hS hA (fun _ => rfl) (by decide) (by decide) (Nat.le_of_ble_eq_true rfl) (Nat.le_of_ble_eq_true rfl) (Nat.le_of_ble_eq_true rfl) dX2_init_81 (fun q_17 cy_18 H hK hP hD hS => ?_)
  have hK : va_K (dC, dI) vwCl [(cy_2, .int), (cy_4, .int), (cy_6, .int), (cy_8, .object RX4), (cy_10, .int), (cy_12, .object RX9), (cy_14, .int), (cy_16, .int), (cy_18, .int)] s := hK
  have hP : va_P (dC, dI) vwCl [(h0, .inr (4, [.null, .ref q_1, .ref q_3, .ref q_5, .ref q_7, .ref q_9, .int 0, .ref q_11, .int 0, .int 0, .int 0, .ref q_13, .int 0, .ref q_15, .int 0, .null, .null, .int 0, .int 0])), (q_1, .inl (cy_2, 5000, .inl (fun _ => 0))), (q_3, .inl (cy_4, 20000, .inl (fun _ => 0))), (q_5, .inl (cy_6, 2002, .inl (fun _ => 0))), (q_7, .inl (cy_8, 2001, .inr (.inr (.inr (.inr (fun _ => none)))))), (q_9, .inl (cy_10, 2001, .inl (fun _ => 0))), (q_11, .inl (cy_12, 64, .inr (.inr (.inr (.inr (fun _ => none)))))), (q_13, .inl (cy_14, 500, .inl (fun _ => 0))), (q_15, .inl (cy_16, 200, .inl (fun _ => 0))), (q_17, .inl (cy_18, 16000, .inl (fun _ => 0)))] H := hP
  have hD : va_D A [(h0, .inr (4, [.null, .ref q_1, .ref q_3, .ref q_5, .ref q_7, .ref q_9, .int 0, .ref q_11, .int 0, .int 0, .int 0, .ref q_13, .int 0, .ref q_15, .int 0, .null, .null, .int 0, .int 0])), (q_1, .inl (cy_2, 5000, .inl (fun _ => 0))), (q_3, .inl (cy_4, 20000, .inl (fun _ => 0))), (q_5, .inl (cy_6, 2002, .inl (fun _ => 0))), (q_7, .inl (cy_8, 2001, .inr (.inr (.inr (.inr (fun _ => none)))))), (q_9, .inl (cy_10, 2001, .inl (fun _ => 0))), (q_11, .inl (cy_12, 64, .inr (.inr (.inr (.inr (fun _ => none)))))), (q_13, .inl (cy_14, 500, .inl (fun _ => 0))), (q_15, .inl (cy_16, 200, .inl (fun _ => 0))), (q_17, .inl (cy_18, 16000, .inl (fun _ => 0)))] := hD
  refine W.widen (k := 9) (n := 47768) (Nat.le_of_ble_eq_true rfl) (Nat.le_of_ble_eq_true rfl) ?_
  refine va_putF (D := (dC, dI)) (ci := 4) (v := .ref q_17) (ty := .array .int) (C := RX2) (T := TX2) (N := 19) hx hb hts in_cc_Machine_init_RX2 tyX2 tyX2_ok nmX2 hown hK hP hD hS 0 rfl rfl 15 (by decide) (hts (.fieldLink RX2 42 "LevelUnits$Machine" "passed" "[I") (List.mem_of_getElem? (i := 15) rfl)) (fun _ h9 => h9) rfl hin rfl (by decide +kernel) rfl rfl (Nat.le_of_ble_eq_true rfl) dX2_init_83 (fun H locs hP hD hS => ?_)
  have hP : va_P (dC, dI) vwCl [(h0, .inr (4, [.null, .ref q_1, .ref q_3, .ref q_5, .ref q_7, .ref q_9, .int 0, .ref q_11, .int 0, .int 0, .int 0, .ref q_13, .int 0, .ref q_15, .int 0, .ref q_17, .null, .int 0, .int 0])), (q_1, .inl (cy_2, 5000, .inl (fun _ => 0))), (q_3, .inl (cy_4, 20000, .inl (fun _ => 0))), (q_5, .inl (cy_6, 2002, .inl (fun _ => 0))), (q_7, .inl (cy_8, 2001, .inr (.inr (.inr (.inr (fun _ => none)))))), (q_9, .inl (cy_10, 2001, .inl (fun _ => 0))), (q_11, .inl (cy_12, 64, .inr (.inr (.inr (.inr (fun _ => none)))))), (q_13, .inl (cy_14, 500, .inl (fun _ => 0))), (q_15, .inl (cy_16, 200, .inl (fun _ => 0))), (q_17, .inl (cy_18, 16000, .inl (fun _ => 0)))] H := hP
  have hD : va_D A [(h0, .inr (4, [.null, .ref q_1, .ref q_3, .ref q_5, .ref q_7, .ref q_9, .int 0, .ref q_11, .int 0, .int 0, .int 0, .ref q_13, .int 0, .ref q_15, .int 0, .ref q_17, .null, .int 0, .int 0])), (q_1, .inl (cy_2, 5000, .inl (fun _ => 0))), (q_3, .inl (cy_4, 20000, .inl (fun _ => 0))), (q_5, .inl (cy_6, 2002, .inl (fun _ => 0))), (q_7, .inl (cy_8, 2001, .inr (.inr (.inr (.inr (fun _ => none)))))), (q_9, .inl (cy_10, 2001, .inl (fun _ => 0))), (q_11, .inl (cy_12, 64, .inr (.inr (.inr (.inr (fun _ => none)))))), (q_13, .inl (cy_14, 500, .inl (fun _ => 0))), (q_15, .inl (cy_16, 200, .inl (fun _ => 0))), (q_17, .inl (cy_18, 16000, .inl (fun _ => 0)))] := hD
  have hP9 := hP.sub (ws' := [(h0, .inr (4, [.null, .ref q_1, .ref q_3, .ref q_5, .ref q_7, .ref q_9, .int 0, .ref q_11, .int 0, .int 0, .int 0, .ref q_13, .int 0, .ref q_15, .int 0, .ref q_17, .null, .int 0, .int 0]))]) [0] rfl
  have hD9 := hD.sub (ws' := [(h0, .inr (4, [.null, .ref q_1, .ref q_3, .ref q_5, .ref q_7, .ref q_9, .int 0, .ref q_11, .int 0, .int 0, .int 0, .ref q_13, .int 0, .ref q_15, .int 0, .ref q_17, .null, .int 0, .int 0]))]) [0] (by decide) rfl
  have hK9 := hK.sub (tys' := []) [] rfl
  refine W.widen (k := 9) (n := 47768) (Nat.le_of_ble_eq_true rfl) (Nat.le_of_ble_eq_true rfl) ?_
  exact W.vret hx hb hr (fun t ht hW => ⟨⟨(), rfl, trivial, q_1, q_3, q_5, q_7, q_9, q_11, q_13, q_15, q_17, by rw [ht]; exact hP9, va_K.moved hW.alike hK9, hD9⟩, hS.F ht⟩) hS.2.2 dX2_init_86
def ws_cc_LevelUnits_init : List Cond := .code yX11_init cX11_init 1 none :: ([.methodLink RX11 3 objectInit, .instanceMethod objectInit, .code objectInit ⟨#[0xb1]⟩ 1 none, .arrayClass .byte, .fieldLink RX11 9 "LevelUnits" "tape" "[B", .classLink RX11 13 RX7, .instantiable RX7 13, .initialized RX7, .methodLink RX7 3 objectInit, .arrayClass .int, .fieldLink RX7 9 "LevelUnits$Scanner" "kinds" "[I", .fieldLink RX7 15 "LevelUnits$Scanner" "values" "[I", .fieldLink RX7 18 "LevelUnits$Scanner" "lines" "[I", .fieldLink RX7 21 "LevelUnits$Scanner" "heads" "[I", .fieldLink RX7 24 "LevelUnits$Scanner" "chains" "[I", .fieldLink RX7 27 "LevelUnits$Scanner" "starts" "[I", .fieldLink RX7 30 "LevelUnits$Scanner" "sizes" "[I", .code yX7_init cX7_init 1 none, .instanceMethod yX7_init, .fieldLink RX11 16 "LevelUnits" "scanner" "LLevelUnits$Scanner;", .classLink RX11 20 RX2, .instantiable RX2 19, .initialized RX2, .methodLink RX2 3 objectInit, .fieldLink RX2 9 "LevelUnits$Machine" "globals" "[I", .fieldLink RX2 15 "LevelUnits$Machine" "heap" "[I", .fieldLink RX2 18 "LevelUnits$Machine" "starts" "[I", .classLink RX2 21 RX4, .fieldLink RX2 23 "LevelUnits$Machine" "kinds" "[LLevelUnits$Node;", .fieldLink RX2 27 "LevelUnits$Machine" "holders" "[I", .classLink RX2 30 RX9, .fieldLink RX2 32 "LevelUnits$Machine" "strands" "[LLevelUnits$Strand;", .fieldLink RX2 36 "LevelUnits$Machine" "numbers" "[I", .fieldLink RX2 39 "LevelUnits$Machine" "values" "[I", .fieldLink RX2 42 "LevelUnits$Machine" "passed" "[I", .code yX2_init cX2_init 1 none, .instanceMethod yX2_init, .fieldLink RX11 23 "LevelUnits" "machine" "LLevelUnits$Machine;"] ++ wsX110 ++ wsX70 ++ wsX20)
theorem in_cc_LevelUnits_init_RX11 : ∀ w ∈ wsX110, w ∈ ws_cc_LevelUnits_init := fun _ h => List.mem_cons_of_mem _ (List.mem_append_left _ (List.mem_append_left _ (List.mem_append_right _ h)))
theorem in_cc_LevelUnits_init_RX7 : ∀ w ∈ wsX70, w ∈ ws_cc_LevelUnits_init := fun _ h => List.mem_cons_of_mem _ (List.mem_append_left _ (List.mem_append_right _ h))
theorem in_cc_LevelUnits_init_RX2 : ∀ w ∈ wsX20, w ∈ ws_cc_LevelUnits_init := fun _ h => List.mem_cons_of_mem _ (List.mem_append_right _ h)
theorem g0_cc_LevelUnits_init_cc_Scanner_init_15 : GoodIn ws_cc_LevelUnits_init ws_cc_Scanner_init := goodIn_r _ [18, 9, 2, 3, 10, 11, 12, 13, 14, 15, 16, 17, 44, 45, 46, 47, 48, 49, 50, 51, 52, 53, 54, 55, 56] (by decide +kernel) (by decide +kernel)
theorem gg_cc_LevelUnits_init_cc_Scanner_init_15 : GoodIn ws_cc_LevelUnits_init ws_cc_Scanner_init := g0_cc_LevelUnits_init_cc_Scanner_init_15
theorem g0_cc_LevelUnits_init_cc_Machine_init_22 : GoodIn ws_cc_LevelUnits_init ws_cc_Machine_init := goodIn_r _ [36, 24, 2, 3, 10, 25, 26, 27, 28, 29, 30, 31, 32, 33, 34, 35, 57, 58, 59, 60, 61, 62, 63, 64, 65, 66, 67, 68, 69, 70, 71, 72, 73, 74, 75] (by decide +kernel) (by decide +kernel)
theorem gg_cc_LevelUnits_init_cc_Machine_init_22 : GoodIn ws_cc_LevelUnits_init ws_cc_Machine_init := g0_cc_LevelUnits_init_cc_Machine_init_22
set_option maxHeartbeats 4000000 in
set_option maxRecDepth 100000 in
/-- LevelUnits() -/
theorem cc_LevelUnits_init (l : Launch) (dC : Nat → ClassId) (dI : Nat → Nat → Nat) (h0 : Nat) (sz : Nat) : Met l yX11_init ws_cc_LevelUnits_init ({ frames := 2, cells := 19, slots := 81062, locals := 32 }) (va_Pc [.ref h0] (fun U => U.heap.size = sz ∧ va_P (dC, dI) vwCl [(h0, .inr (13, [.null, .int 0, .null, .null, .null]))] U.heap ∧ va_K (dC, dI) vwCl [] U ∧ va_D (fun _ => True) [(h0, .inr (13, [.null, .int 0, .null, .null, .null]))] ∧ va_Nw (.methodLinkNest RX11 15 yX7_init "LevelUnits") U ∧ va_AO RX4 U ∧ va_AO RX9 U ∧ va_Nw (.methodLinkNest RX11 22 yX2_init "LevelUnits") U)) (va_Qv (fun _ : Unit => True) (fun _ t => ∃ q_a : Nat, ∃ q_b : Nat, ∃ q_c : Nat, ∃ cy_a : ClassId, ∃ q_d : Nat, ∃ q_e : Nat, ∃ q_f : Nat, ∃ q_g : Nat, ∃ q_h : Nat, ∃ q_i : Nat, ∃ q_j : Nat, ∃ cy_b : ClassId, ∃ cy_c : ClassId, ∃ cy_d : ClassId, ∃ cy_e : ClassId, ∃ cy_f : ClassId, ∃ cy_g : ClassId, ∃ cy_h : ClassId, ∃ q_k : Nat, ∃ q_l : Nat, ∃ q_m : Nat, ∃ q_n : Nat, ∃ q_o : Nat, ∃ q_p : Nat, ∃ q_q : Nat, ∃ q_r : Nat, ∃ q_s : Nat, va_P (dC, dI) vwCl [(h0, .inr (13, [.ref q_a, .int 0, .ref q_b, .ref q_c, .null])), (q_a, .inl (cy_a, 6000, .inl (fun _ => 0))), (q_b, .inr (9, [.ref q_d, .ref q_e, .ref q_f, .int 0, .null, .int 0, .int 0, .int 0, .ref q_g, .ref q_h, .ref q_i, .ref q_j, .int 0])), (q_d, .inl (cy_b, 6001, .inl (fun _ => 0))), (q_e, .inl (cy_c, 6001, .inl (fun _ => 0))), (q_f, .inl (cy_d, 6001, .inl (fun _ => 0))), (q_g, .inl (cy_e, 256, .inl (fun _ => 0))), (q_h, .inl (cy_f, 3001, .inl (fun _ => 0))), (q_i, .inl (cy_g, 3001, .inl (fun _ => 0))), (q_j, .inl (cy_h, 3001, .inl (fun _ => 0))), (q_c, .inr (4, [.null, .ref q_k, .ref q_l, .ref q_m, .ref q_n, .ref q_o, .int 0, .ref q_p, .int 0, .int 0, .int 0, .ref q_q, .int 0, .ref q_r, .int 0, .ref q_s, .null, .int 0, .int 0]))] t.heap ∧ va_K (dC, dI) vwCl [(cy_a, .byte), (cy_b, .int), (cy_c, .int), (cy_d, .int), (cy_e, .int), (cy_f, .int), (cy_g, .int), (cy_h, .int)] t ∧ va_D (va_A [(h0, .inr (13, [.null, .int 0, .null, .null, .null]))] sz) [(h0, .inr (13, [.ref q_a, .int 0, .ref q_b, .ref q_c, .null])), (q_a, .inl (cy_a, 6000, .inl (fun _ => 0))), (q_b, .inr (9, [.ref q_d, .ref q_e, .ref q_f, .int 0, .null, .int 0, .int 0, .int 0, .ref q_g, .ref q_h, .ref q_i, .ref q_j, .int 0])), (q_d, .inl (cy_b, 6001, .inl (fun _ => 0))), (q_e, .inl (cy_c, 6001, .inl (fun _ => 0))), (q_f, .inl (cy_d, 6001, .inl (fun _ => 0))), (q_g, .inl (cy_e, 256, .inl (fun _ => 0))), (q_h, .inl (cy_f, 3001, .inl (fun _ => 0))), (q_i, .inl (cy_g, 3001, .inl (fun _ => 0))), (q_j, .inl (cy_h, 3001, .inl (fun _ => 0))), (q_c, .inr (4, [.null, .ref q_k, .ref q_l, .ref q_m, .ref q_n, .ref q_o, .int 0, .ref q_p, .int 0, .int 0, .int 0, .ref q_q, .int 0, .ref q_r, .int 0, .ref q_s, .null, .int 0, .int 0]))]) (va_A [(h0, .inr (13, [.null, .int 0, .null, .null, .null]))] sz)) 19 81062 (va_A [(h0, .inr (13, [.null, .int 0, .null, .null, .null]))] sz) := by
  refine Met.ofW (cc := cX11_init) (maxL := 1) (ret := none) (by decide) rfl ?_
  intro p e s m args below meth c s₁ B hml hv
  obtain ⟨rfl, hsz, hP, hK, hD0, hN0, hN1, hN2, hN3⟩ := hv
  have hx := B.exec
  have hb := B.bytes
  have hr := B.returns
  have hts := atoms_spec (ws := ws_cc_LevelUnits_init) B.pre
  have hown : s.vm.findClass RX11 = some m.cls := findClass_of_methodNamed B.named
  have hlocks := B.notSynchronized
  have hin : meth.name = "<init>" := (name_of_methodNamed B.named B.method).1
  subst hsz
  have hD := hD0.self (sz := s.heap.size)
  generalize hAe : va_A [(h0, .inr (13, [.null, .int 0, .null, .null, .null]))] s.heap.size = A at hD ⊢
  have hA : ∀ q : Nat, s.heap.size ≤ q → A q := fun q h => by rw [← hAe]; exact Or.inr h
  have hS : va_S A s.heap s.heap [] := va_S.rf
  have hP : va_P (dC, dI) vwCl [(h0, .inr (13, [.null, .int 0, .null, .null, .null]))] s.heap := hP
  have hl := lv_entry ([.ref h0]) (n := 1) (Nat.le_of_ble_eq_true rfl)
  rw [lg_entry_eq]
  generalize (lg_sl ([.ref h0]) ++ List.replicate (1 - (lg_sl ([.ref h0])).length) Slot.unset).toArray = ls at hl ⊢
  have hl : lv_has ls 1 [(0, .ref h0)] := hl
  refine lv_aload_n hx hb dX11_init_0 rfl (lv_at hl 0 rfl) ?_
  refine W.objInit hx hb hown (hts (.methodLink RX11 3 objectInit) (List.mem_of_getElem? (i := 1) rfl)) (hts (.instanceMethod objectInit) (List.mem_of_getElem? (i := 2) rfl)) (hts (.code objectInit ⟨#[0xb1]⟩ 1 none) (List.mem_of_getElem? (i := 3) rfl)) rfl (by rw [hml]; exact hl.1) rfl dX11_init_1 (Nat.le_of_ble_eq_true rfl) (Nat.le_of_ble_eq_true rfl) ?_
  refine W.eq (g2 := F0 m 4 ls []) rfl ?_
  refine lv_aload_n hx hb dX11_init_4 rfl (lv_at hl 0 rfl) ?_
  refine lv_sipush (v := 6000) hx hb dX11_init_5 (by decide) ?_
  refine va_newa (atype := .byte) (ty := .byte) (a0 := (6000, .inl (fun _ => 0))) (N' := 6000) hx hb (hts (.arrayClass .byte) (List.mem_of_getElem? (i := 4) rfl)) rfl hK hP hD hS hA (fun _ => rfl) (by decide) (by decide) (Nat.le_of_ble_eq_true rfl) (Nat.le_of_ble_eq_true rfl) (Nat.le_of_ble_eq_true rfl) dX11_init_8 (fun q_1 cy_2 H hK hP hD hS => ?_)
  have hK : va_K (dC, dI) vwCl [(cy_2, .byte)] s := hK
  have hP : va_P (dC, dI) vwCl [(h0, .inr (13, [.null, .int 0, .null, .null, .null])), (q_1, .inl (cy_2, 6000, .inl (fun _ => 0)))] H := hP
  have hD : va_D A [(h0, .inr (13, [.null, .int 0, .null, .null, .null])), (q_1, .inl (cy_2, 6000, .inl (fun _ => 0)))] := hD
  refine W.widen (k := 1) (n := 6000) (Nat.le_of_ble_eq_true rfl) (Nat.le_of_ble_eq_true rfl) ?_
  refine va_putF (D := (dC, dI)) (ci := 13) (v := .ref q_1) (ty := .array .byte) (C := RX11) (T := TX11) (N := 5) hx hb hts in_cc_LevelUnits_init_RX11 tyX11 tyX11_ok nmX11 hown hK hP hD hS 0 rfl rfl 0 (by decide) (hts (.fieldLink RX11 9 "LevelUnits" "tape" "[B") (List.mem_of_getElem? (i := 5) rfl)) (fun _ h9 => h9) rfl hin rfl (by decide +kernel) rfl rfl (Nat.le_of_ble_eq_true rfl) dX11_init_10 (fun H locs hP hD hS => ?_)
  have hP : va_P (dC, dI) vwCl [(h0, .inr (13, [.ref q_1, .int 0, .null, .null, .null])), (q_1, .inl (cy_2, 6000, .inl (fun _ => 0)))] H := hP
  have hD : va_D A [(h0, .inr (13, [.ref q_1, .int 0, .null, .null, .null])), (q_1, .inl (cy_2, 6000, .inl (fun _ => 0)))] := hD
  refine lv_aload_n hx hb dX11_init_13 rfl (lv_at hl 0 rfl) ?_
  refine va_new (ci := 9) (fs := [.null, .null, .null, .int 0, .null, .int 0, .int 0, .int 0, .null, .null, .null, .null, .int 0]) (C := RX7) (T := TX7) (N := 13) hx hb hts in_cc_LevelUnits_init_RX7 tyX7 tyX7_ok hown (hts (.classLink RX11 13 RX7) (List.mem_of_getElem? (i := 6) rfl)) (hts (.instantiable RX7 13) (List.mem_of_getElem? (i := 7) rfl)) (hts (.initialized RX7) (List.mem_of_getElem? (i := 8) rfl)) hK hP hD hS hA rfl (fun j hj => by rcases (show j = 0 ∨ j = 1 ∨ j = 2 ∨ j = 3 ∨ j = 4 ∨ j = 5 ∨ j = 6 ∨ j = 7 ∨ j = 8 ∨ j = 9 ∨ j = 10 ∨ j = 11 ∨ j = 12 by omega) with rfl | rfl | rfl | rfl | rfl | rfl | rfl | rfl | rfl | rfl | rfl | rfl | rfl <;> rfl) (Nat.le_of_ble_eq_true rfl) (Nat.le_of_ble_eq_true rfl) dX11_init_14 (fun q_3 H hP hD hS => ?_)
  have hP : va_P (dC, dI) vwCl [(h0, .inr (13, [.ref q_1, .int 0, .null, .null, .null])), (q_1, .inl (cy_2, 6000, .inl (fun _ => 0))), (q_3, .inr (9, [.null, .null, .null, .int 0, .null, .int 0, .int 0, .int 0, .null, .null, .null, .null, .int 0]))] H := hP
  have hD : va_D A [(h0, .inr (13, [.ref q_1, .int 0, .null, .null, .null])), (q_1, .inl (cy_2, 6000, .inl (fun _ => 0))), (q_3, .inr (9, [.null, .null, .null, .int 0, .null, .int 0, .int 0, .int 0, .null, .null, .null, .null, .int 0]))] := hD
  refine W.widen (k := 2) (n := 6013) (Nat.le_of_ble_eq_true rfl) (Nat.le_of_ble_eq_true rfl) ?_
  refine lv_dup hx hb dX11_init_17 rfl ?_
  have hPc := hP.sub (ws' := [(q_3, .inr (9, [.null, .null, .null, .int 0, .null, .int 0, .int 0, .int 0, .null, .null, .null, .null, .int 0]))]) [2] rfl
  have hDc := hD.sub (ws' := [(q_3, .inr (9, [.null, .null, .null, .int 0, .null, .int 0, .int 0, .int 0, .null, .null, .null, .null, .int 0]))]) [2] (by decide) rfl
  have hKc := hK.sub (tys' := []) [] rfl
  have hFc := va_free (wc := [(q_3, .inr (9, [.null, .null, .null, .int 0, .null, .int 0, .int 0, .int 0, .null, .null, .null, .null, .int 0]))]) hD hS hA [2] rfl
  refine va_callv (va_runIN (As := []) (rest := [.ref q_3, .ref h0]) ⟨hx, hb, hml, hown, hts⟩ (cc_Scanner_init l dC dI q_3 H.size) ⟨va_cnB 0 hts gg_cc_LevelUnits_init_cc_Scanner_init_15 rfl rfl rfl hN0 (hts (.initialized RX7) (List.mem_of_getElem? (i := 8) rfl)) (by decide +kernel) ⟨(Nat.le_of_ble_eq_true rfl), (Nat.le_of_ble_eq_true rfl)⟩, rfl, (hts (.instanceMethod yX7_init) (List.mem_of_getElem? (i := 19) rfl))⟩ ⟨fun a U g mk q => by obtain ⟨q0, q1, qP, qK, qD⟩ := q; exact ⟨q0, q1, qP, va_K.moved (u := U) (U := U.calling g mk a) (Vm.Alike.refl U.vm) qK, qD⟩, fun U hU hW => ⟨rfl, by rw [hU], by rw [hU]; exact hPc, va_K.moved hW.alike hKc, hDc.weaken (fun _ _ _ _ => trivial)⟩⟩ rfl rfl hl.1 rfl (lv_room (Nat.le_of_ble_eq_true rfl)) dX11_init_18 ⟨(Nat.le_of_ble_eq_true rfl), (Nat.le_of_ble_eq_true rfl)⟩) hS (fun q _ h => hFc q h) hFc (fun u t H1 locs ht hvm hw hB hz1 hk1 hS => ?_)
  obtain ⟨q_4, q_5, q_6, q_7, q_8, q_9, q_10, cy_11, cy_12, cy_13, cy_14, cy_15, cy_16, cy_17, hP1, hK1, hD1⟩ := hB
  rw [ht] at hP1
  have hK1 := va_K.moved hvm.symm hK1
  obtain ⟨hP, hD⟩ := va_join (wr := [(h0, .inr (13, [.ref q_1, .int 0, .null, .null, .null])), (q_1, .inl (cy_2, 6000, .inl (fun _ => 0)))]) (w1 := [(q_3, .inr (9, [.ref q_4, .ref q_5, .ref q_6, .int 0, .null, .int 0, .int 0, .int 0, .ref q_7, .ref q_8, .ref q_9, .ref q_10, .int 0])), (q_4, .inl (cy_11, 6001, .inl (fun _ => 0))), (q_5, .inl (cy_12, 6001, .inl (fun _ => 0))), (q_6, .inl (cy_13, 6001, .inl (fun _ => 0))), (q_7, .inl (cy_14, 256, .inl (fun _ => 0))), (q_8, .inl (cy_15, 3001, .inl (fun _ => 0))), (q_9, .inl (cy_16, 3001, .inl (fun _ => 0))), (q_10, .inl (cy_17, 3001, .inl (fun _ => 0)))]) hP hD [2] [0, 1] rfl rfl (by decide) (by decide) hk1 hFc hP1 hD1
  have hK := (hK.sub (tys' := [(cy_2, .byte)]) [0] rfl).app hK1
  generalize H1 = H at hP hS ⊢
  have hK : va_K (dC, dI) vwCl [(cy_2, .byte), (cy_11, .int), (cy_12, .int), (cy_13, .int), (cy_14, .int), (cy_15, .int), (cy_16, .int), (cy_17, .int)] s := hK
  have hP : va_P (dC, dI) vwCl [(h0, .inr (13, [.ref q_1, .int 0, .null, .null, .null])), (q_1, .inl (cy_2, 6000, .inl (fun _ => 0))), (q_3, .inr (9, [.ref q_4, .ref q_5, .ref q_6, .int 0, .null, .int 0, .int 0, .int 0, .ref q_7, .ref q_8, .ref q_9, .ref q_10, .int 0])), (q_4, .inl (cy_11, 6001, .inl (fun _ => 0))), (q_5, .inl (cy_12, 6001, .inl (fun _ => 0))), (q_6, .inl (cy_13, 6001, .inl (fun _ => 0))), (q_7, .inl (cy_14, 256, .inl (fun _ => 0))), (q_8, .inl (cy_15, 3001, .inl (fun _ => 0))), (q_9, .inl (cy_16, 3001, .inl (fun _ => 0))), (q_10, .inl (cy_17, 3001, .inl (fun _ => 0)))] H := hP
  have hD : va_D A [(h0, .inr (13, [.ref q_1, .int 0, .null, .null, .null])), (q_1, .inl (cy_2, 6000, .inl (fun _ => 0))), (q_3, .inr (9, [.ref q_4, .ref q_5, .ref q_6, .int 0, .null, .int 0, .int 0, .int 0, .ref q_7, .ref q_8, .ref q_9, .ref q_10, .int 0])), (q_4, .inl (cy_11, 6001, .inl (fun _ => 0))), (q_5, .inl (cy_12, 6001, .inl (fun _ => 0))), (q_6, .inl (cy_13, 6001, .inl (fun _ => 0))), (q_7, .inl (cy_14, 256, .inl (fun _ => 0))), (q_8, .inl (cy_15, 3001, .inl (fun _ => 0))), (q_9, .inl (cy_16, 3001, .inl (fun _ => 0))), (q_10, .inl (cy_17, 3001, .inl (fun _ => 0)))] := hD
  refine W.widen (k := 9) (n := 33275) (Nat.le_of_ble_eq_true rfl) (Nat.le_of_ble_eq_true rfl) ?_
  refine va_putF (D := (dC, dI)) (ci := 13) (v := .ref q_3) (ty := .object "LevelUnits$Scanner") (C := RX11) (T := TX11) (N := 5) hx hb hts in_cc_LevelUnits_init_RX11 tyX11 tyX11_ok nmX11 hown hK hP hD hS 0 rfl rfl 2 (by decide) (hts (.fieldLink RX11 16 "LevelUnits" "scanner" "LLevelUnits$Scanner;") (List.mem_of_getElem? (i := 20) rfl)) (fun _ h9 => h9) rfl hin rfl (by decide +kernel) rfl rfl (Nat.le_of_ble_eq_true rfl) dX11_init_21 (fun H locs hP hD hS => ?_)
  have hP : va_P (dC, dI) vwCl [(h0, .inr (13, [.ref q_1, .int 0, .ref q_3, .null, .null])), (q_1, .inl (cy_2, 6000, .inl (fun _ => 0))), (q_3, .inr (9, [.ref q_4, .ref q_5, .ref q_6, .int 0, .null, .int 0, .int 0, .int 0, .ref q_7, .ref q_8, .ref q_9, .ref q_10, .int 0])), (q_4, .inl (cy_11, 6001, .inl (fun _ => 0))), (q_5, .inl (cy_12, 6001, .inl (fun _ => 0))), (q_6, .inl (cy_13, 6001, .inl (fun _ => 0))), (q_7, .inl (cy_14, 256, .inl (fun _ => 0))), (q_8, .inl (cy_15, 3001, .inl (fun _ => 0))), (q_9, .inl (cy_16, 3001, .inl (fun _ => 0))), (q_10, .inl (cy_17, 3001, .inl (fun _ => 0)))] H := hP
  have hD : va_D A [(h0, .inr (13, [.ref q_1, .int 0, .ref q_3, .null, .null])), (q_1, .inl (cy_2, 6000, .inl (fun _ => 0))), (q_3, .inr (9, [.ref q_4, .ref q_5, .ref q_6, .int 0, .null, .int 0, .int 0, .int 0, .ref q_7, .ref q_8, .ref q_9, .ref q_10, .int 0])), (q_4, .inl (cy_11, 6001, .inl (fun _ => 0))), (q_5, .inl (cy_12, 6001, .inl (fun _ => 0))), (q_6, .inl (cy_13, 6001, .inl (fun _ => 0))), (q_7, .inl (cy_14, 256, .inl (fun _ => 0))), (q_8, .inl (cy_15, 3001, .inl (fun _ => 0))), (q_9, .inl (cy_16, 3001, .inl (fun _ => 0))), (q_10, .inl (cy_17, 3001, .inl (fun _ => 0)))] := hD
  refine lv_aload_n hx hb dX11_init_24 rfl (lv_at hl 0 rfl) ?_
  refine va_new (ci := 4) (fs := [.null, .null, .null, .null, .null, .null, .int 0, .null, .int 0, .int 0, .int 0, .null, .int 0, .null, .int 0, .null, .null, .int 0, .int 0]) (C := RX2) (T := TX2) (N := 19) hx hb hts in_cc_LevelUnits_init_RX2 tyX2 tyX2_ok hown (hts (.classLink RX11 20 RX2) (List.mem_of_getElem? (i := 21) rfl)) (hts (.instantiable RX2 19) (List.mem_of_getElem? (i := 22) rfl)) (hts (.initialized RX2) (List.mem_of_getElem? (i := 23) rfl)) hK hP hD hS hA rfl (fun j hj => by rcases (show j = 0 ∨ j = 1 ∨ j = 2 ∨ j = 3 ∨ j = 4 ∨ j = 5 ∨ j = 6 ∨ j = 7 ∨ j = 8 ∨ j = 9 ∨ j = 10 ∨ j = 11 ∨ j = 12 ∨ j = 13 ∨ j = 14 ∨ j = 15 ∨ j = 16 ∨ j = 17 ∨ j = 18 by omega) with rfl | rfl | rfl | rfl | rfl | rfl | rfl | rfl | rfl | rfl | rfl | rfl | rfl | rfl | rfl | rfl | rfl | rfl | rfl <;> rfl) (Nat.le_of_ble_eq_true rfl) (Nat.le_of_ble_eq_true rfl) dX11_init_25 (fun q_18 H hP hD hS => ?_)
  have hP : va_P (dC, dI) vwCl [(h0, .inr (13, [.ref q_1, .int 0, .ref q_3, .null, .null])), (q_1, .inl (cy_2, 6000, .inl (fun _ => 0))), (q_3, .inr (9, [.ref q_4, .ref q_5, .ref q_6, .int 0, .null, .int 0, .int 0, .int 0, .ref q_7, .ref q_8, .ref q_9, .ref q_10, .int 0])), (q_4, .inl (cy_11, 6001, .inl (fun _ => 0))), (q_5, .inl (cy_12, 6001, .inl (fun _ => 0))), (q_6, .inl (cy_13, 6001, .inl (fun _ => 0))), (q_7, .inl (cy_14, 256, .inl (fun _ => 0))), (q_8, .inl (cy_15, 3001, .inl (fun _ => 0))), (q_9, .inl (cy_16, 3001, .inl (fun _ => 0))), (q_10, .inl (cy_17, 3001, .inl (fun _ => 0))), (q_18, .inr (4, [.null, .null, .null, .null, .null, .null, .int 0, .null, .int 0, .int 0, .int 0, .null, .int 0, .null, .int 0, .null, .null, .int 0, .int 0]))] H := hP
  have hD : va_D A [(h0, .inr (13, [.ref q_1, .int 0, .ref q_3, .null, .null])), (q_1, .inl (cy_2, 6000, .inl (fun _ => 0))), (q_3, .inr (9, [.ref q_4, .ref q_5, .ref q_6, .int 0, .null, .int 0, .int 0, .int 0, .ref q_7, .ref q_8, .ref q_9, .ref q_10, .int 0])), (q_4, .inl (cy_11, 6001, .inl (fun _ => 0))), (q_5, .inl (cy_12, 6001, .inl (fun _ => 0))), (q_6, .inl (cy_13, 6001, .inl (fun _ => 0))), (q_7, .inl (cy_14, 256, .inl (fun _ => 0))), (q_8, .inl (cy_15, 3001, .inl (fun _ => 0))), (q_9, .inl (cy_16, 3001, .inl (fun _ => 0))), (q_10, .inl (cy_17, 3001, .inl (fun _ => 0))), (q_18, .inr (4, [.null, .null, .null, .null, .null, .null, .int 0, .null, .int 0, .int 0, .int 0, .null, .int 0, .null, .int 0, .null, .null, .int 0, .int 0]))] := hD
  refine W.widen (k := 10) (n := 33294) (Nat.le_of_ble_eq_true rfl) (Nat.le_of_ble_eq_true rfl) ?_
  refine lv_dup hx hb dX11_init_28 rfl ?_
  have hPc := hP.sub (ws' := [(q_18, .inr (4, [.null, .null, .null, .null, .null, .null, .int 0, .null, .int 0, .int 0, .int 0, .null, .int 0, .null, .int 0, .null, .null, .int 0, .int 0]))]) [10] rfl
  have hDc := hD.sub (ws' := [(q_18, .inr (4, [.null, .null, .null, .null, .null, .null, .int 0, .null, .int 0, .int 0, .int 0, .null, .int 0, .null, .int 0, .null, .null, .int 0, .int 0]))]) [10] (by decide) rfl
  have hKc := hK.sub (tys' := []) [] rfl
  have hFc := va_free (wc := [(q_18, .inr (4, [.null, .null, .null, .null, .null, .null, .int 0, .null, .int 0, .int 0, .int 0, .null, .int 0, .null, .int 0, .null, .null, .int 0, .int 0]))]) hD hS hA [10] rfl
  refine va_callv (va_runIN (As := []) (rest := [.ref q_18, .ref h0]) ⟨hx, hb, hml, hown, hts⟩ (cc_Machine_init l dC dI q_18 H.size) ⟨va_cnB 0 hts gg_cc_LevelUnits_init_cc_Machine_init_22 rfl rfl rfl hN3 (hts (.initialized RX2) (List.mem_of_getElem? (i := 23) rfl)) (by decide +kernel) ⟨(Nat.le_of_ble_eq_true rfl), (Nat.le_of_ble_eq_true rfl)⟩, rfl, (hts (.instanceMethod yX2_init) (List.mem_of_getElem? (i := 37) rfl))⟩ ⟨fun a U g mk q => by obtain ⟨q0, q1, qP, qK, qD, qN0, qN1⟩ := q; exact ⟨q0, q1, qP, va_K.moved (u := U) (U := U.calling g mk a) (Vm.Alike.refl U.vm) qK, qD, va_AO.moved (u := U) (U := U.calling g mk a) (Vm.Alike.refl U.vm) qN0, va_AO.moved (u := U) (U := U.calling g mk a) (Vm.Alike.refl U.vm) qN1⟩, fun U hU hW => ⟨rfl, by rw [hU], by rw [hU]; exact hPc, va_K.moved hW.alike hKc, hDc.weaken (fun _ _ _ _ => trivial), va_AO.moved hW.alike hN1, va_AO.moved hW.alike hN2⟩⟩ rfl rfl hl.1 rfl (lv_room (Nat.le_of_ble_eq_true rfl)) dX11_init_29 ⟨(Nat.le_of_ble_eq_true rfl), (Nat.le_of_ble_eq_true rfl)⟩) hS (fun q _ h => hFc q h) hFc (fun u t H1 locs ht hvm hw hB hz1 hk1 hS => ?_)
  obtain ⟨q_19, q_20, q_21, q_22, q_23, q_24, q_25, q_26, q_27, hP1, hK1, hD1⟩ := hB
  rw [ht] at hP1
  have hK1 := va_K.moved hvm.symm hK1
  obtain ⟨hP, hD⟩ := va_join (wr := [(h0, .inr (13, [.ref q_1, .int 0, .ref q_3, .null, .null])), (q_1, .inl (cy_2, 6000, .inl (fun _ => 0))), (q_3, .inr (9, [.ref q_4, .ref q_5, .ref q_6, .int 0, .null, .int 0, .int 0, .int 0, .ref q_7, .ref q_8, .ref q_9, .ref q_10, .int 0])), (q_4, .inl (cy_11, 6001, .inl (fun _ => 0))), (q_5, .inl (cy_12, 6001, .inl (fun _ => 0))), (q_6, .inl (cy_13, 6001, .inl (fun _ => 0))), (q_7, .inl (cy_14, 256, .inl (fun _ => 0))), (q_8, .inl (cy_15, 3001, .inl (fun _ => 0))), (q_9, .inl (cy_16, 3001, .inl (fun _ => 0))), (q_10, .inl (cy_17, 3001, .inl (fun _ => 0)))]) (w1 := [(q_18, .inr (4, [.null, .ref q_19, .ref q_20, .ref q_21, .ref q_22, .ref q_23, .int 0, .ref q_24, .int 0, .int 0, .int 0, .ref q_25, .int 0, .ref q_26, .int 0, .ref q_27, .null, .int 0, .int 0]))]) hP hD [10] [0, 1, 2, 3, 4, 5, 6, 7, 8, 9] rfl rfl (by decide) (by decide) hk1 hFc hP1 hD1
  have hK := (hK.sub (tys' := [(cy_2, .byte), (cy_11, .int), (cy_12, .int), (cy_13, .int), (cy_14, .int), (cy_15, .int), (cy_16, .int), (cy_17, .int)]) [0, 1, 2, 3, 4, 5, 6, 7] rfl).app hK1
  generalize H1 = H at hP hS ⊢
  have hK : va_K (dC, dI) vwCl [(cy_2, .byte), (cy_11, .int), (cy_12, .int), (cy_13, .int), (cy_14, .int), (cy_15, .int), (cy_16, .int), (cy_17, .int)] s := hK
  have hP : va_P (dC, dI) vwCl [(h0, .inr (13, [.ref q_1, .int 0, .ref q_3, .null, .null])), (q_1, .inl (cy_2, 6000, .inl (fun _ => 0))), (q_3, .inr (9, [.ref q_4, .ref q_5, .ref q_6, .int 0, .null, .int 0, .int 0, .int 0, .ref q_7, .ref q_8, .ref q_9, .ref q_10, .int 0])), (q_4, .inl (cy_11, 6001, .inl (fun _ => 0))), (q_5, .inl (cy_12, 6001, .inl (fun _ => 0))), (q_6, .inl (cy_13, 6001, .inl (fun _ => 0))), (q_7, .inl (cy_14, 256, .inl (fun _ => 0))), (q_8, .inl (cy_15, 3001, .inl (fun _ => 0))), (q_9, .inl (cy_16, 3001, .inl (fun _ => 0))), (q_10, .inl (cy_17, 3001, .inl (fun _ => 0))), (q_18, .inr (4, [.null, .ref q_19, .ref q_20, .ref q_21, .ref q_22, .ref q_23, .int 0, .ref q_24, .int 0, .int 0, .int 0, .ref q_25, .int 0, .ref q_26, .int 0, .ref q_27, .null, .int 0, .int 0]))] H := hP
  have hD : va_D A [(h0, .inr (13, [.ref q_1, .int 0, .ref q_3, .null, .null])), (q_1, .inl (cy_2, 6000, .inl (fun _ => 0))), (q_3, .inr (9, [.ref q_4, .ref q_5, .ref q_6, .int 0, .null, .int 0, .int 0, .int 0, .ref q_7, .ref q_8, .ref q_9, .ref q_10, .int 0])), (q_4, .inl (cy_11, 6001, .inl (fun _ => 0))), (q_5, .inl (cy_12, 6001, .inl (fun _ => 0))), (q_6, .inl (cy_13, 6001, .inl (fun _ => 0))), (q_7, .inl (cy_14, 256, .inl (fun _ => 0))), (q_8, .inl (cy_15, 3001, .inl (fun _ => 0))), (q_9, .inl (cy_16, 3001, .inl (fun _ => 0))), (q_10, .inl (cy_17, 3001, .inl (fun _ => 0))), (q_18, .inr (4, [.null, .ref q_19, .ref q_20, .ref q_21, .ref q_22, .ref q_23, .int 0, .ref q_24, .int 0, .int 0, .int 0, .ref q_25, .int 0, .ref q_26, .int 0, .ref q_27, .null, .int 0, .int 0]))] := hD
  refine W.widen (k := 19) (n := 81062) (Nat.le_of_ble_eq_true rfl) (Nat.le_of_ble_eq_true rfl) ?_
  refine va_putF (D := (dC, dI)) (ci := 13) (v := .ref q_18) (ty := .object "LevelUnits$Machine") (C := RX11) (T := TX11) (N := 5) hx hb hts in_cc_LevelUnits_init_RX11 tyX11 tyX11_ok nmX11 hown hK hP hD hS 0 rfl rfl 3 (by decide) (hts (.fieldLink RX11 23 "LevelUnits" "machine" "LLevelUnits$Machine;") (List.mem_of_getElem? (i := 38) rfl)) (fun _ h9 => h9) rfl hin rfl (by decide +kernel) rfl rfl (Nat.le_of_ble_eq_true rfl) dX11_init_32 (fun H locs hP hD hS => ?_)
  have hP : va_P (dC, dI) vwCl [(h0, .inr (13, [.ref q_1, .int 0, .ref q_3, .ref q_18, .null])), (q_1, .inl (cy_2, 6000, .inl (fun _ => 0))), (q_3, .inr (9, [.ref q_4, .ref q_5, .ref q_6, .int 0, .null, .int 0, .int 0, .int 0, .ref q_7, .ref q_8, .ref q_9, .ref q_10, .int 0])), (q_4, .inl (cy_11, 6001, .inl (fun _ => 0))), (q_5, .inl (cy_12, 6001, .inl (fun _ => 0))), (q_6, .inl (cy_13, 6001, .inl (fun _ => 0))), (q_7, .inl (cy_14, 256, .inl (fun _ => 0))), (q_8, .inl (cy_15, 3001, .inl (fun _ => 0))), (q_9, .inl (cy_16, 3001, .inl (fun _ => 0))), (q_10, .inl (cy_17, 3001, .inl (fun _ => 0))), (q_18, .inr (4, [.null, .ref q_19, .ref q_20, .ref q_21, .ref q_22, .ref q_23, .int 0, .ref q_24, .int 0, .int 0, .int 0, .ref q_25, .int 0, .ref q_26, .int 0, .ref q_27, .null, .int 0, .int 0]))] H := hP
  have hD : va_D A [(h0, .inr (13, [.ref q_1, .int 0, .ref q_3, .ref q_18, .null])), (q_1, .inl (cy_2, 6000, .inl (fun _ => 0))), (q_3, .inr (9, [.ref q_4, .ref q_5, .ref q_6, .int 0, .null, .int 0, .int 0, .int 0, .ref q_7, .ref q_8, .ref q_9, .ref q_10, .int 0])), (q_4, .inl (cy_11, 6001, .inl (fun _ => 0))), (q_5, .inl (cy_12, 6001, .inl (fun _ => 0))), (q_6, .inl (cy_13, 6001, .inl (fun _ => 0))), (q_7, .inl (cy_14, 256, .inl (fun _ => 0))), (q_8, .inl (cy_15, 3001, .inl (fun _ => 0))), (q_9, .inl (cy_16, 3001, .inl (fun _ => 0))), (q_10, .inl (cy_17, 3001, .inl (fun _ => 0))), (q_18, .inr (4, [.null, .ref q_19, .ref q_20, .ref q_21, .ref q_22, .ref q_23, .int 0, .ref q_24, .int 0, .int 0, .int 0, .ref q_25, .int 0, .ref q_26, .int 0, .ref q_27, .null, .int 0, .int 0]))] := hD
  have hP9 := hP.sub (ws' := [(h0, .inr (13, [.ref q_1, .int 0, .ref q_3, .ref q_18, .null])), (q_1, .inl (cy_2, 6000, .inl (fun _ => 0))), (q_3, .inr (9, [.ref q_4, .ref q_5, .ref q_6, .int 0, .null, .int 0, .int 0, .int 0, .ref q_7, .ref q_8, .ref q_9, .ref q_10, .int 0])), (q_4, .inl (cy_11, 6001, .inl (fun _ => 0))), (q_5, .inl (cy_12, 6001, .inl (fun _ => 0))), (q_6, .inl (cy_13, 6001, .inl (fun _ => 0))), (q_7, .inl (cy_14, 256, .inl (fun _ => 0))), (q_8, .inl (cy_15, 3001, .inl (fun _ => 0))), (q_9, .inl (cy_16, 3001, .inl (fun _ => 0))), (q_10, .inl (cy_17, 3001, .inl (fun _ => 0))), (q_18, .inr (4, [.null, .ref q_19, .ref q_20, .ref q_21, .ref q_22, .ref q_23, .int 0, .ref q_24, .int 0, .int 0, .int 0, .ref q_25, .int 0, .ref q_26, .int 0, .ref q_27, .null, .int 0, .int 0]))]) [0, 1, 2, 3, 4, 5, 6, 7, 8, 9, 10] rfl
  have hD9 := hD.sub (ws' := [(h0, .inr (13, [.ref q_1, .int 0, .ref q_3, .ref q_18, .null])), (q_1, .inl (cy_2, 6000, .inl (fun _ => 0))), (q_3, .inr (9, [.ref q_4, .ref q_5, .ref q_6, .int 0, .null, .int 0, .int 0, .int 0, .ref q_7, .ref q_8, .ref q_9, .ref q_10, .int 0])), (q_4, .inl (cy_11, 6001, .inl (fun _ => 0))), (q_5, .inl (cy_12, 6001, .inl (fun _ => 0))), (q_6, .inl (cy_13, 6001, .inl (fun _ => 0))), (q_7, .inl (cy_14, 256, .inl (fun _ => 0))), (q_8, .inl (cy_15, 3001, .inl (fun _ => 0))), (q_9, .inl (cy_16, 3001, .inl (fun _ => 0))), (q_10, .inl (cy_17, 3001, .inl (fun _ => 0))), (q_18, .inr (4, [.null, .ref q_19, .ref q_20, .ref q_21, .ref q_22, .ref q_23, .int 0, .ref q_24, .int 0, .int 0, .int 0, .ref q_25, .int 0, .ref q_26, .int 0, .ref q_27, .null, .int 0, .int 0]))]) [0, 1, 2, 3, 4, 5, 6, 7, 8, 9, 10] (by decide) rfl
  have hK9 := hK.sub (tys' := [(cy_2, .byte), (cy_11, .int), (cy_12, .int), (cy_13, .int), (cy_14, .int), (cy_15, .int), (cy_16, .int), (cy_17, .int)]) [0, 1, 2, 3, 4, 5, 6, 7] rfl
  refine W.widen (k := 19) (n := 81062) (Nat.le_of_ble_eq_true rfl) (Nat.le_of_ble_eq_true rfl) ?_
  exact W.vret hx hb hr (fun t ht hW => ⟨⟨(), rfl, trivial, q_1, q_3, q_18, cy_2, q_4, q_5, q_6, q_7, q_8, q_9, q_10, cy_11, cy_12, cy_13, cy_14, cy_15, cy_16, cy_17, q_19, q_20, q_21, q_22, q_23, q_24, q_25, q_26, q_27, by rw [ht]; exact hP9, va_K.moved hW.alike hK9, hD9⟩, hS.F ht⟩) hS.2.2 dX11_init_35
end
section
def ws_cc_Th_init : List Cond := .code yTh_init cTh_init 5 none :: ([.methodLink RTh 1 objectInit, .instanceMethod objectInit, .code objectInit ⟨#[0xb1]⟩ 1 none, .fieldLink RTh 7 "java/lang/Throwable" "cause" "Ljava/lang/Throwable;", .fieldLink RTh 13 "java/lang/Throwable" "UNASSIGNED_STACK" "[Ljava/lang/StackTraceElement;", .fieldLink RTh 17 "java/lang/Throwable" "stackTrace" "[Ljava/lang/StackTraceElement;", .fieldLink RTh 20 "java/lang/Throwable" "SUPPRESSED_SENTINEL" "Ljava/util/List;", .fieldLink RTh 24 "java/lang/Throwable" "suppressedExceptions" "Ljava/util/List;", .fieldLink RTh 31 "java/lang/Throwable" "detailMessage" "Ljava/lang/String;"] ++ wsX120)
theorem in_cc_Th_init_RX12 : ∀ w ∈ wsX120, w ∈ ws_cc_Th_init := fun _ h => List.mem_cons_of_mem _ (List.mem_append_right _ h)
set_option maxHeartbeats 4000000 in
set_option maxRecDepth 100000 in
/-- Throwable(null, null, false, false): nothing is left in it -/
theorem cc_Th_init (l : Launch) (dC : Nat → ClassId) (dI : Nat → Nat → Nat) (h0 : Nat) (sz : Nat) : Met l yTh_init ws_cc_Th_init ({ frames := 1, cells := 0, slots := 0, locals := 12 }) (va_Pc [.ref h0, .null, .null, .int 0, .int 0] (fun U => U.heap.size = sz ∧ va_P (dC, dI) vwCl [(h0, .inr (14, [.null, .null, .null, .null, .null, .int 0]))] U.heap ∧ va_K (dC, dI) vwCl [] U ∧ va_D (fun _ => True) [(h0, .inr (14, [.null, .null, .null, .null, .null, .int 0]))] ∧ vx_Zq "java/lang/Throwable" "UNASSIGNED_STACK" "[Ljava/lang/StackTraceElement;" (va_A [(h0, .inr (14, [.null, .null, .null, .null, .null, .int 0]))] sz) U U.heap ∧ vx_Zq "java/lang/Throwable" "SUPPRESSED_SENTINEL" "Ljava/util/List;" (va_A [(h0, .inr (14, [.null, .null, .null, .null, .null, .int 0]))] sz) U U.heap)) (va_Qv (fun _ : Unit => True) (fun _ t => va_P (dC, dI) vwCl [(h0, .inr (14, [.null, .null, .null, .null, .null, .int 0]))] t.heap ∧ va_K (dC, dI) vwCl [] t ∧ va_D (va_A [(h0, .inr (14, [.null, .null, .null, .null, .null, .int 0]))] sz) [(h0, .inr (14, [.null, .null, .null, .null, .null, .int 0]))]) (va_A [(h0, .inr (14, [.null, .null, .null, .null, .null, .int 0]))] sz)) 0 0 (va_A [(h0, .inr (14, [.null, .null, .null, .null, .null, .int 0]))] sz) := by
  refine Met.ofW (cc := cTh_init) (maxL := 5) (ret := none) (by decide) rfl ?_
  intro p e s m args below meth c s₁ B hml hv
  obtain ⟨rfl, hsz, hP, hK, hD0, hN0, hN1⟩ := hv
  have hx := B.exec
  have hb := B.bytes
  have hr := B.returns
  have hts := atoms_spec (ws := ws_cc_Th_init) B.pre
  have hown : s.vm.findClass RTh = some m.cls := findClass_of_methodNamed B.named
  have hlocks := B.notSynchronized
  have hin : meth.name = "<init>" := (name_of_methodNamed B.named B.method).1
  subst hsz
  have hD := hD0.self (sz := s.heap.size)
  generalize hAe : va_A [(h0, .inr (14, [.null, .null, .null, .null, .null, .int 0]))] s.heap.size = A at hD hN0 hN1 ⊢
  have hA : ∀ q : Nat, s.heap.size ≤ q → A q := fun q h => by rw [← hAe]; exact Or.inr h
  have hS : va_S A s.heap s.heap [] := va_S.rf
  have hP : va_P (dC, dI) vwCl [(h0, .inr (14, [.null, .null, .null, .null, .null, .int 0]))] s.heap := hP
  have hl := lv_entry ([.ref h0, .null, .null, .int 0, .int 0]) (n := 5) (Nat.le_of_ble_eq_true rfl)
  rw [lg_entry_eq]
  generalize (lg_sl ([.ref h0, .null, .null, .int 0, .int 0]) ++ List.replicate (5 - (lg_sl ([.ref h0, .null, .null, .int 0, .int 0])).length) Slot.unset).toArray = ls at hl ⊢
  have hl : lv_has ls 5 [(0, .ref h0), (1, .null), (2, .null), (3, .int 0), (4, .int 0)] := hl
  refine lv_aload_n hx hb dTh_init_0 rfl (lv_at hl 0 rfl) ?_
  refine W.objInit hx hb hown (hts (.methodLink RTh 1 objectInit) (List.mem_of_getElem? (i := 1) rfl)) (hts (.instanceMethod objectInit) (List.mem_of_getElem? (i := 2) rfl)) (hts (.code objectInit ⟨#[0xb1]⟩ 1 none) (List.mem_of_getElem? (i := 3) rfl)) rfl (by rw [hml]; exact hl.1) rfl dTh_init_1 (Nat.le_of_ble_eq_true rfl) (Nat.le_of_ble_eq_true rfl) ?_
  refine W.eq (g2 := F0 m 4 ls []) rfl ?_
  refine lv_aload_n hx hb dTh_init_4 rfl (lv_at hl 0 rfl) ?_
  refine lv_aload_n hx hb dTh_init_5 rfl (lv_at hl 0 rfl) ?_
  refine va_put (D := (dC, dI)) (ci := 14) (v := .ref h0) (ty := .object "java/lang/Throwable") (C := RX12) (T := TX12) (N := 6) hx hb hts in_cc_Th_init_RX12 tyX12 tyX12_ok nmX12 hown hK hP hD hS 0 rfl rfl 0 (by decide) (hts (.fieldLink RTh 7 "java/lang/Throwable" "cause" "Ljava/lang/Throwable;") (List.mem_of_getElem? (i := 4) rfl)) (fun _ h9 => h9) rfl (by decide +kernel) rfl rfl (Nat.le_of_ble_eq_true rfl) dTh_init_6 (fun H locs hP hD hS => ?_)
  have hP : va_P (dC, dI) vwCl [(h0, .inr (14, [.ref h0, .null, .null, .null, .null, .int 0]))] H := hP
  have hD : va_D A [(h0, .inr (14, [.ref h0, .null, .null, .null, .null, .int 0]))] := hD
  refine lv_aload_n hx hb dTh_init_9 rfl (lv_at hl 0 rfl) ?_
  obtain ⟨v_1, hv_1, hzv_1⟩ := zq_val hN0.1
  refine va_gets hx hb hzv_1 hS hown (hts (.fieldLink RTh 13 "java/lang/Throwable" "UNASSIGNED_STACK" "[Ljava/lang/StackTraceElement;") (List.mem_of_getElem? (i := 5) rfl)) (fun _ h9 => h9) dTh_init_10 ?_
  refine va_put (D := (dC, dI)) (ci := 14) (v := v_1) (ty := .array (.object "java/lang/StackTraceElement")) (C := RX12) (T := TX12) (N := 6) hx hb hts in_cc_Th_init_RX12 tyX12 tyX12_ok nmX12 hown hK hP hD hS 0 rfl rfl 1 (by decide) (hts (.fieldLink RTh 17 "java/lang/Throwable" "stackTrace" "[Ljava/lang/StackTraceElement;") (List.mem_of_getElem? (i := 6) rfl)) (fun _ h9 => h9) rfl (by decide +kernel) (by rcases hv_1 with rfl | ⟨t9, rfl⟩ <;> rfl) (by rcases hv_1 with rfl | ⟨t9, rfl⟩ <;> rfl) (Nat.le_of_ble_eq_true rfl) dTh_init_13 (fun H locs hP hD hS => ?_)
  have hP : va_P (dC, dI) vwCl [(h0, .inr (14, [.ref h0, v_1, .null, .null, .null, .int 0]))] H := hP
  have hD : va_D A [(h0, .inr (14, [.ref h0, v_1, .null, .null, .null, .int 0]))] := hD
  refine lv_aload_n hx hb dTh_init_16 rfl (lv_at hl 0 rfl) ?_
  obtain ⟨v_2, hv_2, hzv_2⟩ := zq_val hN1.1
  refine va_gets hx hb hzv_2 hS hown (hts (.fieldLink RTh 20 "java/lang/Throwable" "SUPPRESSED_SENTINEL" "Ljava/util/List;") (List.mem_of_getElem? (i := 7) rfl)) (fun _ h9 => h9) dTh_init_17 ?_
  refine va_put (D := (dC, dI)) (ci := 14) (v := v_2) (ty := .object "java/util/List") (C := RX12) (T := TX12) (N := 6) hx hb hts in_cc_Th_init_RX12 tyX12 tyX12_ok nmX12 hown hK hP hD hS 0 rfl rfl 2 (by decide) (hts (.fieldLink RTh 24 "java/lang/Throwable" "suppressedExceptions" "Ljava/util/List;") (List.mem_of_getElem? (i := 8) rfl)) (fun _ h9 => h9) rfl (by decide +kernel) (by rcases hv_2 with rfl | ⟨t9, rfl⟩ <;> rfl) (by rcases hv_2 with rfl | ⟨t9, rfl⟩ <;> rfl) (Nat.le_of_ble_eq_true rfl) dTh_init_20 (fun H locs hP hD hS => ?_)
  have hP : va_P (dC, dI) vwCl [(h0, .inr (14, [.ref h0, v_1, v_2, .null, .null, .int 0]))] H := hP
  have hD : va_D A [(h0, .inr (14, [.ref h0, v_1, v_2, .null, .null, .int 0]))] := hD
  refine lv_iload hx hb dTh_init_23 (lv_at hl 4 rfl) ?_
  refine lv_if_eq (tgt := 36) hx hb dTh_init_25 (by decide) (fun c9 => ?_) (fun c9 => absurd (by decide) c9)
  clear c9
  refine lv_aload_n hx hb dTh_init_36 rfl (lv_at hl 0 rfl) ?_
  refine lv_null hx hb dTh_init_37 ?_
  refine va_put (D := (dC, dI)) (ci := 14) (v := .null) (ty := .array (.object "java/lang/StackTraceElement")) (C := RX12) (T := TX12) (N := 6) hx hb hts in_cc_Th_init_RX12 tyX12 tyX12_ok nmX12 hown hK hP hD hS 0 rfl rfl 1 (by decide) (hts (.fieldLink RTh 17 "java/lang/Throwable" "stackTrace" "[Ljava/lang/StackTraceElement;") (List.mem_of_getElem? (i := 6) rfl)) (fun _ h9 => h9) rfl (by decide +kernel) rfl rfl (Nat.le_of_ble_eq_true rfl) dTh_init_38 (fun H locs hP hD hS => ?_)
  have hP : va_P (dC, dI) vwCl [(h0, .inr (14, [.ref h0, .null, v_2, .null, .null, .int 0]))] H := hP
  have hD : va_D A [(h0, .inr (14, [.ref h0, .null, v_2, .null, .null, .int 0]))] := hD
  refine lv_aload_n hx hb dTh_init_41 rfl (lv_at hl 0 rfl) ?_
  refine lv_aload_nN hx hb dTh_init_42 rfl (lv_at hl 1 rfl) ?_
  refine va_put (D := (dC, dI)) (ci := 14) (v := .null) (ty := .object "java/lang/String") (C := RX12) (T := TX12) (N := 6) hx hb hts in_cc_Th_init_RX12 tyX12 tyX12_ok nmX12 hown hK hP hD hS 0 rfl rfl 3 (by decide) (hts (.fieldLink RTh 31 "java/lang/Throwable" "detailMessage" "Ljava/lang/String;") (List.mem_of_getElem? (i := 9) rfl)) (fun _ h9 => h9) rfl (by decide +kernel) rfl rfl (Nat.le_of_ble_eq_true rfl) dTh_init_43 (fun H locs hP hD hS => ?_)
  have hP : va_P (dC, dI) vwCl [(h0, .inr (14, [.ref h0, .null, v_2, .null, .null, .int 0]))] H := hP
  have hD : va_D A [(h0, .inr (14, [.ref h0, .null, v_2, .null, .null, .int 0]))] := hD
  refine lv_aload_n hx hb dTh_init_46 rfl (lv_at hl 0 rfl) ?_
  refine lv_aload_nN hx hb dTh_init_47 rfl (lv_at hl 2 rfl) ?_
  refine va_put (D := (dC, dI)) (ci := 14) (v := .null) (ty := .object "java/lang/Throwable") (C := RX12) (T := TX12) (N := 6) hx hb hts in_cc_Th_init_RX12 tyX12 tyX12_ok nmX12 hown hK hP hD hS 0 rfl rfl 0 (by decide) (hts (.fieldLink RTh 7 "java/lang/Throwable" "cause" "Ljava/lang/Throwable;") (List.mem_of_getElem? (i := 4) rfl)) (fun _ h9 => h9) rfl (by decide +kernel) rfl rfl (Nat.le_of_ble_eq_true rfl) dTh_init_48 (fun H locs hP hD hS => ?_)
  have hP : va_P (dC, dI) vwCl [(h0, .inr (14, [.null, .null, v_2, .null, .null, .int 0]))] H := hP
  have hD : va_D A [(h0, .inr (14, [.null, .null, v_2, .null, .null, .int 0]))] := hD
  refine lv_iload_n hx hb dTh_init_51 rfl (lv_at hl 3 rfl) ?_
  refine lv_if_ne (tgt := 60) hx hb dTh_init_52 (by decide) (fun c9 => absurd c9 (by decide)) (fun c9 => ?_)
  clear c9
  refine lv_aload_n hx hb dTh_init_55 rfl (lv_at hl 0 rfl) ?_
  refine lv_null hx hb dTh_init_56 ?_
  refine va_put (D := (dC, dI)) (ci := 14) (v := .null) (ty := .object "java/util/List") (C := RX12) (T := TX12) (N := 6) hx hb hts in_cc_Th_init_RX12 tyX12 tyX12_ok nmX12 hown hK hP hD hS 0 rfl rfl 2 (by decide) (hts (.fieldLink RTh 24 "java/lang/Throwable" "suppressedExceptions" "Ljava/util/List;") (List.mem_of_getElem? (i := 8) rfl)) (fun _ h9 => h9) rfl (by decide +kernel) rfl rfl (Nat.le_of_ble_eq_true rfl) dTh_init_57 (fun H locs hP hD hS => ?_)
  have hP : va_P (dC, dI) vwCl [(h0, .inr (14, [.null, .null, .null, .null, .null, .int 0]))] H := hP
  have hD : va_D A [(h0, .inr (14, [.null, .null, .null, .null, .null, .int 0]))] := hD
  have hP9 := hP.sub (ws' := [(h0, .inr (14, [.null, .null, .null, .null, .null, .int 0]))]) [0] rfl
  have hD9 := hD.sub (ws' := [(h0, .inr (14, [.null, .null, .null, .null, .null, .int 0]))]) [0] (by decide) rfl
  have hK9 := hK.sub (tys' := []) [] rfl
  refine W.widen (k := 0) (n := 0) (Nat.le_of_ble_eq_true rfl) (Nat.le_of_ble_eq_true rfl) ?_
  exact W.vret hx hb hr (fun t ht hW => ⟨⟨(), rfl, trivial, by rw [ht]; exact hP9, va_K.moved hW.alike hK9, hD9⟩, hS.F ht⟩) hS.2.2 dTh_init_60
def ws_cc_Ex_init : List Cond := .code yEx_init cEx_init 5 none :: ([.methodLink RTh 1 objectInit, .instanceMethod objectInit, .code objectInit ⟨#[0xb1]⟩ 1 none, .fieldLink RTh 7 "java/lang/Throwable" "cause" "Ljava/lang/Throwable;", .fieldLink RTh 13 "java/lang/Throwable" "UNASSIGNED_STACK" "[Ljava/lang/StackTraceElement;", .fieldLink RTh 17 "java/lang/Throwable" "stackTrace" "[Ljava/lang/StackTraceElement;", .fieldLink RTh 20 "java/lang/Throwable" "SUPPRESSED_SENTINEL" "Ljava/util/List;", .fieldLink RTh 24 "java/lang/Throwable" "suppressedExceptions" "Ljava/util/List;", .fieldLink RTh 31 "java/lang/Throwable" "detailMessage" "Ljava/lang/String;", .code yTh_init cTh_init 5 none, .initialized RTh, .methodLink REx 16 yTh_init, .instanceMethod yTh_init] ++ wsX120)
theorem in_cc_Ex_init_RX12 : ∀ w ∈ wsX120, w ∈ ws_cc_Ex_init := fun _ h => List.mem_cons_of_mem _ (List.mem_append_right _ h)
theorem g0_cc_Ex_init_cc_Th_init_16 : GoodIn ws_cc_Ex_init ws_cc_Th_init := goodIn_r _ [10, 1, 2, 3, 4, 5, 6, 7, 8, 9, 14, 15, 16, 17, 18, 19] (by decide +kernel) (by decide +kernel)
theorem gg_cc_Ex_init_cc_Th_init_16 : GoodIn ws_cc_Ex_init ws_cc_Th_init := g0_cc_Ex_init_cc_Th_init_16
set_option maxHeartbeats 4000000 in
set_option maxRecDepth 100000 in
theorem cc_Ex_init (l : Launch) (dC : Nat → ClassId) (dI : Nat → Nat → Nat) (h0 : Nat) (sz : Nat) : Met l yEx_init ws_cc_Ex_init ({ frames := 2, cells := 0, slots := 0, locals := 36 }) (va_Pc [.ref h0, .null, .null, .int 0, .int 0] (fun U => U.heap.size = sz ∧ va_P (dC, dI) vwCl [(h0, .inr (14, [.null, .null, .null, .null, .null, .int 0]))] U.heap ∧ va_K (dC, dI) vwCl [] U ∧ va_D (fun _ => True) [(h0, .inr (14, [.null, .null, .null, .null, .null, .int 0]))] ∧ vx_Zq "java/lang/Throwable" "UNASSIGNED_STACK" "[Ljava/lang/StackTraceElement;" (va_A [(h0, .inr (14, [.null, .null, .null, .null, .null, .int 0]))] sz) U U.heap ∧ vx_Zq "java/lang/Throwable" "SUPPRESSED_SENTINEL" "Ljava/util/List;" (va_A [(h0, .inr (14, [.null, .null, .null, .null, .null, .int 0]))] sz) U U.heap)) (va_Qv (fun _ : Unit => True) (fun _ t => va_P (dC, dI) vwCl [(h0, .inr (14, [.null, .null, .null, .null, .null, .int 0]))] t.heap ∧ va_K (dC, dI) vwCl [] t ∧ va_D (va_A [(h0, .inr (14, [.null, .null, .null, .null, .null, .int 0]))] sz) [(h0, .inr (14, [.null, .null, .null, .null, .null, .int 0]))]) (va_A [(h0, .inr (14, [.null, .null, .null, .null, .null, .int 0]))] sz)) 0 0 (va_A [(h0, .inr (14, [.null, .null, .null, .null, .null, .int 0]))] sz) := by
  refine Met.ofW (cc := cEx_init) (maxL := 5) (ret := none) (by decide) rfl ?_
  intro p e s m args below meth c s₁ B hml hv
  obtain ⟨rfl, hsz, hP, hK, hD0, hN0, hN1⟩ := hv
  have hx := B.exec
  have hb := B.bytes
  have hr := B.returns
  have hts := atoms_spec (ws := ws_cc_Ex_init) B.pre
  have hown : s.vm.findClass REx = some m.cls := findClass_of_methodNamed B.named
  have hlocks := B.notSynchronized
  have hin : meth.name = "<init>" := (name_of_methodNamed B.named B.method).1
  subst hsz
  have hD := hD0.self (sz := s.heap.size)
  generalize hAe : va_A [(h0, .inr (14, [.null, .null, .null, .null, .null, .int 0]))] s.heap.size = A at hD hN0 hN1 ⊢
  have hA : ∀ q : Nat, s.heap.size ≤ q → A q := fun q h => by rw [← hAe]; exact Or.inr h
  have hS : va_S A s.heap s.heap [] := va_S.rf
  have hP : va_P (dC, dI) vwCl [(h0, .inr (14, [.null, .null, .null, .null, .null, .int 0]))] s.heap := hP
  have hl := lv_entry ([.ref h0, .null, .null, .int 0, .int 0]) (n := 5) (Nat.le_of_ble_eq_true rfl)
  rw [lg_entry_eq]
  generalize (lg_sl ([.ref h0, .null, .null, .int 0, .int 0]) ++ List.replicate (5 - (lg_sl ([.ref h0, .null, .null, .int 0, .int 0])).length) Slot.unset).toArray = ls at hl ⊢
  have hl : lv_has ls 5 [(0, .ref h0), (1, .null), (2, .null), (3, .int 0), (4, .int 0)] := hl
  refine lv_aload_n hx hb dEx_init_0 rfl (lv_at hl 0 rfl) ?_
  refine lv_aload_nN hx hb dEx_init_1 rfl (lv_at hl 1 rfl) ?_
  refine lv_aload_nN hx hb dEx_init_2 rfl (lv_at hl 2 rfl) ?_
  refine lv_iload_n hx hb dEx_init_3 rfl (lv_at hl 3 rfl) ?_
  refine lv_iload hx hb dEx_init_4 (lv_at hl 4 rfl) ?_
  have hPc := hP.sub (ws' := [(h0, .inr (14, [.null, .null, .null, .null, .null, .int 0]))]) [0] rfl
  have hDc := hD.sub (ws' := [(h0, .inr (14, [.null, .null, .null, .null, .null, .int 0]))]) [0] (by decide) rfl
  have hKc := hK.sub (tys' := []) [] rfl
  have hFc := va_free (wc := [(h0, .inr (14, [.null, .null, .null, .null, .null, .int 0]))]) hD hS hA [0] rfl
  refine va_callv (va_runI (As := [.null, .null, .int 0, .int 0]) (rest := []) ⟨hx, hb, hml, hown, hts⟩ (cc_Th_init l dC dI h0 s.heap.size) (cwI 4 hts gg_cc_Ex_init_cc_Th_init_16 rfl rfl rfl (hts (.initialized RTh) (List.mem_of_getElem? (i := 11) rfl)) (hts (.methodLink REx 16 yTh_init) (List.mem_of_getElem? (i := 12) rfl)) (hts (.instanceMethod yTh_init) (List.mem_of_getElem? (i := 13) rfl)) rfl (by decide +kernel) ⟨(Nat.le_of_ble_eq_true rfl), (Nat.le_of_ble_eq_true rfl)⟩) ⟨fun a U g mk q => by obtain ⟨q0, q1, qP, qK, qD, qN0, qN1⟩ := q; exact ⟨q0, q1, qP, va_K.moved (u := U) (U := U.calling g mk a) (Vm.Alike.refl U.vm) qK, qD, vx_Zq.moved (u := U) (U := U.calling g mk a) (Vm.Alike.refl U.vm) qN0, vx_Zq.moved (u := U) (U := U.calling g mk a) (Vm.Alike.refl U.vm) qN1⟩, fun U hU hW => ⟨rfl, by rw [hU], by rw [hU]; exact hPc, va_K.moved hW.alike hKc, hDc.weaken (fun _ _ _ _ => trivial), (by rw [hU]; exact vx_Zq.moved hW.alike ((hN0.kept (fun a h1 h2 => hS.2.1 a h1 h2)).narrow hFc)), (by rw [hU]; exact vx_Zq.moved hW.alike ((hN1.kept (fun a h1 h2 => hS.2.1 a h1 h2)).narrow hFc))⟩⟩ rfl rfl hl.1 rfl (lv_room (Nat.le_of_ble_eq_true rfl)) dEx_init_6 ⟨(Nat.le_of_ble_eq_true rfl), (Nat.le_of_ble_eq_true rfl)⟩) hS (fun q _ h => hFc q h) hFc (fun u t H1 locs ht hvm hw hB hz1 hk1 hS => ?_)
  obtain ⟨hP1, hK1, hD1⟩ := hB
  rw [ht] at hP1
  have hK1 := va_K.moved hvm.symm hK1
  obtain ⟨hP, hD⟩ := va_join (wr := []) (w1 := [(h0, .inr (14, [.null, .null, .null, .null, .null, .int 0]))]) hP hD [0] [] rfl rfl (by decide) (by decide) hk1 hFc hP1 hD1
  have hK := (hK.sub (tys' := []) [] rfl).app hK1
  generalize H1 = H at hP hS ⊢
  have hK : va_K (dC, dI) vwCl [] s := hK
  have hP : va_P (dC, dI) vwCl [(h0, .inr (14, [.null, .null, .null, .null, .null, .int 0]))] H := hP
  have hD : va_D A [(h0, .inr (14, [.null, .null, .null, .null, .null, .int 0]))] := hD
  refine W.widen (k := 0) (n := 0) (Nat.le_of_ble_eq_true rfl) (Nat.le_of_ble_eq_true rfl) ?_
  have hP9 := hP.sub (ws' := [(h0, .inr (14, [.null, .null, .null, .null, .null, .int 0]))]) [0] rfl
  have hD9 := hD.sub (ws' := [(h0, .inr (14, [.null, .null, .null, .null, .null, .int 0]))]) [0] (by decide) rfl
  have hK9 := hK.sub (tys' := []) [] rfl
  refine W.widen (k := 0) (n := 0) (Nat.le_of_ble_eq_true rfl) (Nat.le_of_ble_eq_true rfl) ?_
  exact W.vret hx hb hr (fun t ht hW => ⟨⟨(), rfl, trivial, by rw [ht]; exact hP9, va_K.moved hW.alike hK9, hD9⟩, hS.F ht⟩) hS.2.2 dEx_init_9
def ws_cc_Rt_init : List Cond := .code yRt_init cRt_init 5 none :: ([.methodLink RTh 1 objectInit, .instanceMethod objectInit, .code objectInit ⟨#[0xb1]⟩ 1 none, .fieldLink RTh 7 "java/lang/Throwable" "cause" "Ljava/lang/Throwable;", .fieldLink RTh 13 "java/lang/Throwable" "UNASSIGNED_STACK" "[Ljava/lang/StackTraceElement;", .fieldLink RTh 17 "java/lang/Throwable" "stackTrace" "[Ljava/lang/StackTraceElement;", .fieldLink RTh 20 "java/lang/Throwable" "SUPPRESSED_SENTINEL" "Ljava/util/List;", .fieldLink RTh 24 "java/lang/Throwable" "suppressedExceptions" "Ljava/util/List;", .fieldLink RTh 31 "java/lang/Throwable" "detailMessage" "Ljava/lang/String;", .code yTh_init cTh_init 5 none, .initialized RTh, .methodLink REx 16 yTh_init, .instanceMethod yTh_init, .code yEx_init cEx_init 5 none, .initialized REx, .methodLink RRt 16 yEx_init, .instanceMethod yEx_init] ++ wsX120)
theorem in_cc_Rt_init_RX12 : ∀ w ∈ wsX120, w ∈ ws_cc_Rt_init := fun _ h => List.mem_cons_of_mem _ (List.mem_append_right _ h)
theorem g0_cc_Rt_init_cc_Ex_init_16 : GoodIn ws_cc_Rt_init ws_cc_Ex_init := goodIn_r _ [14, 1, 2, 3, 4, 5, 6, 7, 8, 9, 10, 11, 12, 13, 18, 19, 20, 21, 22, 23] (by decide +kernel) (by decide +kernel)
theorem gg_cc_Rt_init_cc_Ex_init_16 : GoodIn ws_cc_Rt_init ws_cc_Ex_init := g0_cc_Rt_init_cc_Ex_init_16
set_option maxHeartbeats 4000000 in
set_option maxRecDepth 100000 in
theorem cc_Rt_init (l : Launch) (dC : Nat → ClassId) (dI : Nat → Nat → Nat) (h0 : Nat) (sz : Nat) : Met l yRt_init ws_cc_Rt_init ({ frames := 3, cells := 0, slots := 0, locals := 60 }) (va_Pc [.ref h0, .null, .null, .int 0, .int 0] (fun U => U.heap.size = sz ∧ va_P (dC, dI) vwCl [(h0, .inr (14, [.null, .null, .null, .null, .null, .int 0]))] U.heap ∧ va_K (dC, dI) vwCl [] U ∧ va_D (fun _ => True) [(h0, .inr (14, [.null, .null, .null, .null, .null, .int 0]))] ∧ vx_Zq "java/lang/Throwable" "UNASSIGNED_STACK" "[Ljava/lang/StackTraceElement;" (va_A [(h0, .inr (14, [.null, .null, .null, .null, .null, .int 0]))] sz) U U.heap ∧ vx_Zq "java/lang/Throwable" "SUPPRESSED_SENTINEL" "Ljava/util/List;" (va_A [(h0, .inr (14, [.null, .null, .null, .null, .null, .int 0]))] sz) U U.heap)) (va_Qv (fun _ : Unit => True) (fun _ t => va_P (dC, dI) vwCl [(h0, .inr (14, [.null, .null, .null, .null, .null, .int 0]))] t.heap ∧ va_K (dC, dI) vwCl [] t ∧ va_D (va_A [(h0, .inr (14, [.null, .null, .null, .null, .null, .int 0]))] sz) [(h0, .inr (14, [.null, .null, .null, .null, .null, .int 0]))]) (va_A [(h0, .inr (14, [.null, .null, .null, .null, .null, .int 0]))] sz)) 0 0 (va_A [(h0, .inr (14, [.null, .null, .null, .null, .null, .int 0]))] sz) := by
  refine Met.ofW (cc := cRt_init) (maxL := 5) (ret := none) (by decide) rfl ?_
  intro p e s m args below meth c s₁ B hml hv
  obtain ⟨rfl, hsz, hP, hK, hD0, hN0, hN1⟩ := hv
  have hx := B.exec
  have hb := B.bytes
  have hr := B.returns
  have hts := atoms_spec (ws := ws_cc_Rt_init) B.pre
  have hown : s.vm.findClass RRt = some m.cls := findClass_of_methodNamed B.named
  have hlocks := B.notSynchronized
  have hin : meth.name = "<init>" := (name_of_methodNamed B.named B.method).1
  subst hsz
  have hD := hD0.self (sz := s.heap.size)
  generalize hAe : va_A [(h0, .inr (14, [.null, .null, .null, .null, .null, .int 0]))] s.heap.size = A at hD hN0 hN1 ⊢
  have hA : ∀ q : Nat, s.heap.size ≤ q → A q := fun q h => by rw [← hAe]; exact Or.inr h
  have hS : va_S A s.heap s.heap [] := va_S.rf
  have hP : va_P (dC, dI) vwCl [(h0, .inr (14, [.null, .null, .null, .null, .null, .int 0]))] s.heap := hP
  have hl := lv_entry ([.ref h0, .null, .null, .int 0, .int 0]) (n := 5) (Nat.le_of_ble_eq_true rfl)
  rw [lg_entry_eq]
  generalize (lg_sl ([.ref h0, .null, .null, .int 0, .int 0]) ++ List.replicate (5 - (lg_sl ([.ref h0, .null, .null, .int 0, .int 0])).length) Slot.unset).toArray = ls at hl ⊢
  have hl : lv_has ls 5 [(0, .ref h0), (1, .null), (2, .null), (3, .int 0), (4, .int 0)] := hl
  refine lv_aload_n hx hb dRt_init_0 rfl (lv_at hl 0 rfl) ?_
  refine lv_aload_nN hx hb dRt_init_1 rfl (lv_at hl 1 rfl) ?_
  refine lv_aload_nN hx hb dRt_init_2 rfl (lv_at hl 2 rfl) ?_
  refine lv_iload_n hx hb dRt_init_3 rfl (lv_at hl 3 rfl) ?_
  refine lv_iload hx hb dRt_init_4 (lv_at hl 4 rfl) ?_
  have hPc := hP.sub (ws' := [(h0, .inr (14, [.null, .null, .null, .null, .null, .int 0]))]) [0] rfl
  have hDc := hD.sub (ws' := [(h0, .inr (14, [.null, .null, .null, .null, .null, .int 0]))]) [0] (by decide) rfl
  have hKc := hK.sub (tys' := []) [] rfl
  have hFc := va_free (wc := [(h0, .inr (14, [.null, .null, .null, .null, .null, .int 0]))]) hD hS hA [0] rfl
  refine va_callv (va_runI (As := [.null, .null, .int 0, .int 0]) (rest := []) ⟨hx, hb, hml, hown, hts⟩ (cc_Ex_init l dC dI h0 s.heap.size) (cwI 4 hts gg_cc_Rt_init_cc_Ex_init_16 rfl rfl rfl (hts (.initialized REx) (List.mem_of_getElem? (i := 15) rfl)) (hts (.methodLink RRt 16 yEx_init) (List.mem_of_getElem? (i := 16) rfl)) (hts (.instanceMethod yEx_init) (List.mem_of_getElem? (i := 17) rfl)) rfl (by decide +kernel) ⟨(Nat.le_of_ble_eq_true rfl), (Nat.le_of_ble_eq_true rfl)⟩) ⟨fun a U g mk q => by obtain ⟨q0, q1, qP, qK, qD, qN0, qN1⟩ := q; exact ⟨q0, q1, qP, va_K.moved (u := U) (U := U.calling g mk a) (Vm.Alike.refl U.vm) qK, qD, vx_Zq.moved (u := U) (U := U.calling g mk a) (Vm.Alike.refl U.vm) qN0, vx_Zq.moved (u := U) (U := U.calling g mk a) (Vm.Alike.refl U.vm) qN1⟩, fun U hU hW => ⟨rfl, by rw [hU], by rw [hU]; exact hPc, va_K.moved hW.alike hKc, hDc.weaken (fun _ _ _ _ => trivial), (by rw [hU]; exact vx_Zq.moved hW.alike ((hN0.kept (fun a h1 h2 => hS.2.1 a h1 h2)).narrow hFc)), (by rw [hU]; exact vx_Zq.moved hW.alike ((hN1.kept (fun a h1 h2 => hS.2.1 a h1 h2)).narrow hFc))⟩⟩ rfl rfl hl.1 rfl (lv_room (Nat.le_of_ble_eq_true rfl)) dRt_init_6 ⟨(Nat.le_of_ble_eq_true rfl), (Nat.le_of_ble_eq_true rfl)⟩) hS (fun q _ h => hFc q h) hFc (fun u t H1 locs ht hvm hw hB hz1 hk1 hS => ?_)
  obtain ⟨hP1, hK1, hD1⟩ := hB
  rw [ht] at hP1
  have hK1 := va_K.moved hvm.symm hK1
  obtain ⟨hP, hD⟩ := va_join (wr := []) (w1 := [(h0, .inr (14, [.null, .null, .null, .null, .null, .int 0]))]) hP hD [0] [] rfl rfl (by decide) (by decide) hk1 hFc hP1 hD1
  have hK := (hK.sub (tys' := []) [] rfl).app hK1
  generalize H1 = H at hP hS ⊢
  have hK : va_K (dC, dI) vwCl [] s := hK
  have hP : va_P (dC, dI) vwCl [(h0, .inr (14, [.null, .null, .null, .null, .null, .int 0]))] H := hP
  have hD : va_D A [(h0, .inr (14, [.null, .null, .null, .null, .null, .int 0]))] := hD
  refine W.widen (k := 0) (n := 0) (Nat.le_of_ble_eq_true rfl) (Nat.le_of_ble_eq_true rfl) ?_
  have hP9 := hP.sub (ws' := [(h0, .inr (14, [.null, .null, .null, .null, .null, .int 0]))]) [0] rfl
  have hD9 := hD.sub (ws' := [(h0, .inr (14, [.null, .null, .null, .null, .null, .int 0]))]) [0] (by decide) rfl
  have hK9 := hK.sub (tys' := []) [] rfl
  refine W.widen (k := 0) (n := 0) (Nat.le_of_ble_eq_true rfl) (Nat.le_of_ble_eq_true rfl) ?_
  exact W.vret hx hb hr (fun t ht hW => ⟨⟨(), rfl, trivial, by rw [ht]; exact hP9, va_K.moved hW.alike hK9, hD9⟩, hS.F ht⟩) hS.2.2 dRt_init_9
def ws_cc_Stop_init : List Cond := .code yX12_init cX12_init 1 none :: ([.methodLink RTh 1 objectInit, .instanceMethod objectInit, .code objectInit ⟨#[0xb1]⟩ 1 none, .fieldLink RTh 7 "java/lang/Throwable" "cause" "Ljava/lang/Throwable;", .fieldLink RTh 13 "java/lang/Throwable" "UNASSIGNED_STACK" "[Ljava/lang/StackTraceElement;", .fieldLink RTh 17 "java/lang/Throwable" "stackTrace" "[Ljava/lang/StackTraceElement;", .fieldLink RTh 20 "java/lang/Throwable" "SUPPRESSED_SENTINEL" "Ljava/util/List;", .fieldLink RTh 24 "java/lang/Throwable" "suppressedExceptions" "Ljava/util/List;", .fieldLink RTh 31 "java/lang/Throwable" "detailMessage" "Ljava/lang/String;", .code yTh_init cTh_init 5 none, .initialized RTh, .methodLink REx 16 yTh_init, .instanceMethod yTh_init, .code yEx_init cEx_init 5 none, .initialized REx, .methodLink RRt 16 yEx_init, .instanceMethod yEx_init, .code yRt_init cRt_init 5 none, .initialized RRt, .methodLink RX12 1 yRt_init, .instanceMethod yRt_init] ++ wsX120)
theorem in_cc_Stop_init_RX12 : ∀ w ∈ wsX120, w ∈ ws_cc_Stop_init := fun _ h => List.mem_cons_of_mem _ (List.mem_append_right _ h)
theorem g0_cc_Stop_init_cc_Rt_init_1 : GoodIn ws_cc_Stop_init ws_cc_Rt_init := goodIn_r _ [18, 1, 2, 3, 4, 5, 6, 7, 8, 9, 10, 11, 12, 13, 14, 15, 16, 17, 22, 23, 24, 25, 26, 27] (by decide +kernel) (by decide +kernel)
theorem gg_cc_Stop_init_cc_Rt_init_1 : GoodIn ws_cc_Stop_init ws_cc_Rt_init := g0_cc_Stop_init_cc_Rt_init_1
set_option maxHeartbeats 4000000 in
set_option maxRecDepth 100000 in
theorem cc_Stop_init (l : Launch) (dC : Nat → ClassId) (dI : Nat → Nat → Nat) (h0 : Nat) (sz : Nat) : Met l yX12_init ws_cc_Stop_init ({ frames := 4, cells := 0, slots := 0, locals := 84 }) (va_Pc [.ref h0] (fun U => U.heap.size = sz ∧ va_P (dC, dI) vwCl [(h0, .inr (14, [.null, .null, .null, .null, .null, .int 0]))] U.heap ∧ va_K (dC, dI) vwCl [] U ∧ va_D (fun _ => True) [(h0, .inr (14, [.null, .null, .null, .null, .null, .int 0]))] ∧ vx_Zq "java/lang/Throwable" "UNASSIGNED_STACK" "[Ljava/lang/StackTraceElement;" (va_A [(h0, .inr (14, [.null, .null, .null, .null, .null, .int 0]))] sz) U U.heap ∧ vx_Zq "java/lang/Throwable" "SUPPRESSED_SENTINEL" "Ljava/util/List;" (va_A [(h0, .inr (14, [.null, .null, .null, .null, .null, .int 0]))] sz) U U.heap)) (va_Qv (fun _ : Unit => True) (fun _ t => va_P (dC, dI) vwCl [(h0, .inr (14, [.null, .null, .null, .null, .null, .int 0]))] t.heap ∧ va_K (dC, dI) vwCl [] t ∧ va_D (va_A [(h0, .inr (14, [.null, .null, .null, .null, .null, .int 0]))] sz) [(h0, .inr (14, [.null, .null, .null, .null, .null, .int 0]))]) (va_A [(h0, .inr (14, [.null, .null, .null, .null, .null, .int 0]))] sz)) 0 0 (va_A [(h0, .inr (14, [.null, .null, .null, .null, .null, .int 0]))] sz) := by
  refine Met.ofW (cc := cX12_init) (maxL := 1) (ret := none) (by decide) rfl ?_
  intro p e s m args below meth c s₁ B hml hv
  obtain ⟨rfl, hsz, hP, hK, hD0, hN0, hN1⟩ := hv
  have hx := B.exec
  have hb := B.bytes
  have hr := B.returns
  have hts := atoms_spec (ws := ws_cc_Stop_init) B.pre
  have hown : s.vm.findClass RX12 = some m.cls := findClass_of_methodNamed B.named
  have hlocks := B.notSynchronized
  have hin : meth.name = "<init>" := (name_of_methodNamed B.named B.method).1
  subst hsz
  have hD := hD0.self (sz := s.heap.size)
  generalize hAe : va_A [(h0, .inr (14, [.null, .null, .null, .null, .null, .int 0]))] s.heap.size = A at hD hN0 hN1 ⊢
  have hA : ∀ q : Nat, s.heap.size ≤ q → A q := fun q h => by rw [← hAe]; exact Or.inr h
  have hS : va_S A s.heap s.heap [] := va_S.rf
  have hP : va_P (dC, dI) vwCl [(h0, .inr (14, [.null, .null, .null, .null, .null, .int 0]))] s.heap := hP
  have hl := lv_entry ([.ref h0]) (n := 1) (Nat.le_of_ble_eq_true rfl)
  rw [lg_entry_eq]
  generalize (lg_sl ([.ref h0]) ++ List.replicate (1 - (lg_sl ([.ref h0])).length) Slot.unset).toArray = ls at hl ⊢
  have hl : lv_has ls 1 [(0, .ref h0)] := hl
  refine lv_aload_n hx hb dX12_init_0 rfl (lv_at hl 0 rfl) ?_
  refine lv_null hx hb dX12_init_1 ?_
  refine lv_null hx hb dX12_init_2 ?_
  refine lv_iconst (v := 0) hx hb dX12_init_3 (by decide) ?_
  refine lv_iconst (v := 0) hx hb dX12_init_4 (by decide) ?_
  have hPc := hP.sub (ws' := [(h0, .inr (14, [.null, .null, .null, .null, .null, .int 0]))]) [0] rfl
  have hDc := hD.sub (ws' := [(h0, .inr (14, [.null, .null, .null, .null, .null, .int 0]))]) [0] (by decide) rfl
  have hKc := hK.sub (tys' := []) [] rfl
  have hFc := va_free (wc := [(h0, .inr (14, [.null, .null, .null, .null, .null, .int 0]))]) hD hS hA [0] rfl
  refine va_callv (va_runI (As := [.null, .null, .int 0, .int 0]) (rest := []) ⟨hx, hb, hml, hown, hts⟩ (cc_Rt_init l dC dI h0 s.heap.size) (cwI 4 hts gg_cc_Stop_init_cc_Rt_init_1 rfl rfl rfl (hts (.initialized RRt) (List.mem_of_getElem? (i := 19) rfl)) (hts (.methodLink RX12 1 yRt_init) (List.mem_of_getElem? (i := 20) rfl)) (hts (.instanceMethod yRt_init) (List.mem_of_getElem? (i := 21) rfl)) rfl (by decide +kernel) ⟨(Nat.le_of_ble_eq_true rfl), (Nat.le_of_ble_eq_true rfl)⟩) ⟨fun a U g mk q => by obtain ⟨q0, q1, qP, qK, qD, qN0, qN1⟩ := q; exact ⟨q0, q1, qP, va_K.moved (u := U) (U := U.calling g mk a) (Vm.Alike.refl U.vm) qK, qD, vx_Zq.moved (u := U) (U := U.calling g mk a) (Vm.Alike.refl U.vm) qN0, vx_Zq.moved (u := U) (U := U.calling g mk a) (Vm.Alike.refl U.vm) qN1⟩, fun U hU hW => ⟨rfl, by rw [hU], by rw [hU]; exact hPc, va_K.moved hW.alike hKc, hDc.weaken (fun _ _ _ _ => trivial), (by rw [hU]; exact vx_Zq.moved hW.alike ((hN0.kept (fun a h1 h2 => hS.2.1 a h1 h2)).narrow hFc)), (by rw [hU]; exact vx_Zq.moved hW.alike ((hN1.kept (fun a h1 h2 => hS.2.1 a h1 h2)).narrow hFc))⟩⟩ rfl rfl hl.1 rfl (lv_room (Nat.le_of_ble_eq_true rfl)) dX12_init_5 ⟨(Nat.le_of_ble_eq_true rfl), (Nat.le_of_ble_eq_true rfl)⟩) hS (fun q _ h => hFc q h) hFc (fun u t H1 locs ht hvm hw hB hz1 hk1 hS => ?_)
  obtain ⟨hP1, hK1, hD1⟩ := hB
  rw [ht] at hP1
  have hK1 := va_K.moved hvm.symm hK1
  obtain ⟨hP, hD⟩ := va_join (wr := []) (w1 := [(h0, .inr (14, [.null, .null, .null, .null, .null, .int 0]))]) hP hD [0] [] rfl rfl (by decide) (by decide) hk1 hFc hP1 hD1
  have hK := (hK.sub (tys' := []) [] rfl).app hK1
  generalize H1 = H at hP hS ⊢
  have hK : va_K (dC, dI) vwCl [] s := hK
  have hP : va_P (dC, dI) vwCl [(h0, .inr (14, [.null, .null, .null, .null, .null, .int 0]))] H := hP
  have hD : va_D A [(h0, .inr (14, [.null, .null, .null, .null, .null, .int 0]))] := hD
  refine W.widen (k := 0) (n := 0) (Nat.le_of_ble_eq_true rfl) (Nat.le_of_ble_eq_true rfl) ?_
  have hP9 := hP.sub (ws' := [(h0, .inr (14, [.null, .null, .null, .null, .null, .int 0]))]) [0] rfl
  have hD9 := hD.sub (ws' := [(h0, .inr (14, [.null, .null, .null, .null, .null, .int 0]))]) [0] (by decide) rfl
  have hK9 := hK.sub (tys' := []) [] rfl
  refine W.widen (k := 0) (n := 0) (Nat.le_of_ble_eq_true rfl) (Nat.le_of_ble_eq_true rfl) ?_
  exact W.vret hx hb hr (fun t ht hW => ⟨⟨(), rfl, trivial, by rw [ht]; exact hP9, va_K.moved hW.alike hK9, hD9⟩, hS.F ht⟩) hS.2.2 dX12_init_8
end
section
set_option maxHeartbeats 1000000 in
/-- a row of its own for a field of the model, which is not looked at again -/
theorem mstep {p : Program} {l : Launch} {e : Env} {R : Room} {s : State} {m : MethodId} {args : Array Value} {below : List Frame} {meth : Method} {c : Code} {H H0 : Heap} {locs : List Loc} {cells slots : Nat} {Q : State → Prop} {ls : Array Slot} {rest : List Value} {dC : Nat → ClassId} {dI : Nat → Nat → Nat} {A : Nat → Prop} {tys : List (ClassId × FieldType)} {X : va_W} {F : Nat → Value} {h0 pc : Nat} {Ts : List Cond}
    (hx : p.tables.exec = Jvm.exec) (hb : c.code = cX13_init) (hts : ∀ w ∈ Ts, w.before args s = true) (hin : ∀ w ∈ wsX130, w ∈ Ts) (hown : s.vm.findClass RX13 = some m.cls) (hi : meth.name = "<init>") (hK : va_K (dC, dI) vwCl tys s) (hP : va_P (dC, dI) vwCl ((h0, .inr (15, fl 134 F)) :: X) H) (hD : va_D A ((h0, .inr (15, fl 134 F)) :: X)) (hS : va_S A H0 H locs) (hA : ∀ q, H0.size ≤ q → A q)
    {atype : ArrayType} {ty : FieldType} {n : Int32} {N' : Nat} {a0 : vp_A} (harr : (Cond.arrayClass (newarray.typeOf atype)).before args s = true) (hty : newarray.typeOf atype = ty) (ha : ∀ cA : ClassId, vp_cell cA a0 = arrV cA N' (fun _ => defaultValue ty)) (hn : ¬ n < 0) (hN : n.toNatClampNeg = N') (hbytes : N' * componentBytes ty ≤ 536870912) (hcells : cells + 1 ≤ R.cells) (hslots : slots + N' ≤ R.slots) (d0 : decode cX13_init pc = .ok (.newarray atype, 2))
    (k : Nat) (hk : k < 134) {index : Nat} (hlink : (Cond.fieldLink RX13 index "LevelUnitsModel" (TX13 k).2.1 (TX13 k).2.2.1).before args s = true) (hsame : ∀ x, s.fieldFound? (TX13 k).1 (TX13 k).2.1 (TX13 k).2.2.1 = some x → s.fieldFound? "LevelUnitsModel" (TX13 k).2.1 (TX13 k).2.2.1 = some x) (hfin : (TX13 k).2.2.2 = true) (hdecl : (TX13 k).1 = RX13) (hd : parseFieldDescriptor (TX13 k).2.2.1 = some (.array ty)) (d1 : decode cX13_init (pc + 2) = .ok (.putfield index, 3))
    (kk : ∀ (q : Nat) (F2 : Nat → Value) (H2 : Heap) (locs2 : List Loc), F2 = fu F k (.ref q) → va_P (dC, dI) vwCl ((h0, .inr (15, fl 134 F2)) :: X) H2 → va_D A ((h0, .inr (15, fl 134 F2)) :: X) → va_S A H0 H2 locs2 → W p l e R s m args below meth c H2 locs2 (cells + 1) (slots + N') Q (F0 m (pc + 5) ls rest)) :
    W p l e R s m args below meth c H locs cells slots Q (F0 m pc ls (.int n :: .ref h0 :: rest)) := by
  refine va_newa hx hb harr hty hK hP hD hS hA ha hn hN hbytes hcells hslots d0 (fun q cA H1 hK1 hP1 hD1 hS1 => ?_)
  refine va_putF (D := (dC, dI)) (ci := 15) (v := .ref q) (ty := .array ty) (C := RX13) (T := TX13) (N := 134) (fs := fl 134 F) hx hb hts hin tyX13 tyX13_ok nmX13 hown hK1 hP1 hD1 hS1 0 rfl rfl k hk hlink hsame hfin hi hdecl hd rfl rfl (fl_lt hk) d1 (fun H2 locs2 hP2 hD2 hS2 => ?_)
  refine kk q (fu F k (.ref q)) H2 locs2 rfl ?_ ?_ hS2
  · rw [← fl_set hk]; exact va_P_pre (w2 := [(q, .inl (cA, a0))]) hP2
  · rw [← fl_set hk]; exact va_D_pre (w2 := [(q, .inl (cA, a0))]) hD2
set_option maxHeartbeats 1000000 in
theorem mkeep {p : Program} {l : Launch} {e : Env} {R : Room} {s : State} {m : MethodId} {args : Array Value} {below : List Frame} {meth : Method} {c : Code} {H H0 : Heap} {locs : List Loc} {cells slots : Nat} {Q : State → Prop} {ls : Array Slot} {rest : List Value} {dC : Nat → ClassId} {dI : Nat → Nat → Nat} {A : Nat → Prop} {tys : List (ClassId × FieldType)} {X : va_W} {F : Nat → Value} {h0 pc : Nat} {Ts : List Cond}
    (hx : p.tables.exec = Jvm.exec) (hb : c.code = cX13_init) (hts : ∀ w ∈ Ts, w.before args s = true) (hin : ∀ w ∈ wsX130, w ∈ Ts) (hown : s.vm.findClass RX13 = some m.cls) (hi : meth.name = "<init>") (hK : va_K (dC, dI) vwCl tys s) (hP : va_P (dC, dI) vwCl ((h0, .inr (15, fl 134 F)) :: X) H) (hD : va_D A ((h0, .inr (15, fl 134 F)) :: X)) (hS : va_S A H0 H locs) (hA : ∀ q, H0.size ≤ q → A q)
    {atype : ArrayType} {ty : FieldType} {n : Int32} {N' : Nat} {a0 : vp_A} (harr : (Cond.arrayClass (newarray.typeOf atype)).before args s = true) (hty : newarray.typeOf atype = ty) (ha : ∀ cA : ClassId, vp_cell cA a0 = arrV cA N' (fun _ => defaultValue ty)) (hn : ¬ n < 0) (hN : n.toNatClampNeg = N') (hbytes : N' * componentBytes ty ≤ 536870912) (hcells : cells + 1 ≤ R.cells) (hslots : slots + N' ≤ R.slots) (d0 : decode cX13_init pc = .ok (.newarray atype, 2))
    (k : Nat) (hk : k < 134) {index : Nat} (hlink : (Cond.fieldLink RX13 index "LevelUnitsModel" (TX13 k).2.1 (TX13 k).2.2.1).before args s = true) (hsame : ∀ x, s.fieldFound? (TX13 k).1 (TX13 k).2.1 (TX13 k).2.2.1 = some x → s.fieldFound? "LevelUnitsModel" (TX13 k).2.1 (TX13 k).2.2.1 = some x) (hfin : (TX13 k).2.2.2 = true) (hdecl : (TX13 k).1 = RX13) (hd : parseFieldDescriptor (TX13 k).2.2.1 = some (.array ty)) (d1 : decode cX13_init (pc + 2) = .ok (.putfield index, 3))
    (kk : ∀ (q : Nat) (cA : ClassId) (F2 : Nat → Value) (H2 : Heap) (locs2 : List Loc), F2 = fu F k (.ref q) → va_K (dC, dI) vwCl (tys ++ [(cA, ty)]) s → va_P (dC, dI) vwCl ((h0, .inr (15, fl 134 F2)) :: (X ++ [(q, .inl (cA, a0))])) H2 → va_D A ((h0, .inr (15, fl 134 F2)) :: (X ++ [(q, .inl (cA, a0))])) → va_S A H0 H2 locs2 → W p l e R s m args below meth c H2 locs2 (cells + 1) (slots + N') Q (F0 m (pc + 5) ls rest)) :
    W p l e R s m args below meth c H locs cells slots Q (F0 m pc ls (.int n :: .ref h0 :: rest)) := by
  refine va_newa hx hb harr hty hK hP hD hS hA ha hn hN hbytes hcells hslots d0 (fun q cA H1 hK1 hP1 hD1 hS1 => ?_)
  refine va_putF (D := (dC, dI)) (ci := 15) (v := .ref q) (ty := .array ty) (C := RX13) (T := TX13) (N := 134) (fs := fl 134 F) hx hb hts hin tyX13 tyX13_ok nmX13 hown hK1 hP1 hD1 hS1 0 rfl rfl k hk hlink hsame hfin hi hdecl hd rfl rfl (fl_lt hk) d1 (fun H2 locs2 hP2 hD2 hS2 => ?_)
  refine kk q cA (fu F k (.ref q)) H2 locs2 rfl hK1 ?_ ?_ hS2
  · rw [← fl_set hk]; exact hP2
  · rw [← fl_set hk]; exact hD2
def ws_cc_Model_init : List Cond := .code yX13_init cX13_init 1 none :: ([.methodLink RX13 1 objectInit, .instanceMethod objectInit, .code objectInit ⟨#[0xb1]⟩ 1 none, .classLink RX13 7 RX12, .instantiable RX12 6, .initialized RX12, .methodLink RTh 1 objectInit, .fieldLink RTh 7 "java/lang/Throwable" "cause" "Ljava/lang/Throwable;", .fieldLink RTh 13 "java/lang/Throwable" "UNASSIGNED_STACK" "[Ljava/lang/StackTraceElement;", .fieldLink RTh 17 "java/lang/Throwable" "stackTrace" "[Ljava/lang/StackTraceElement;", .fieldLink RTh 20 "java/lang/Throwable" "SUPPRESSED_SENTINEL" "Ljava/util/List;", .fieldLink RTh 24 "java/lang/Throwable" "suppressedExceptions" "Ljava/util/List;", .fieldLink RTh 31 "java/lang/Throwable" "detailMessage" "Ljava/lang/String;", .code yTh_init cTh_init 5 none, .initialized RTh, .methodLink REx 16 yTh_init, .instanceMethod yTh_init, .code yEx_init cEx_init 5 none, .initialized REx, .methodLink RRt 16 yEx_init, .instanceMethod yEx_init, .code yRt_init cRt_init 5 none, .initialized RRt, .methodLink RX12 1 yRt_init, .instanceMethod yRt_init, .code yX12_init cX12_init 1 none, .methodLink RX13 9 yX12_init, .instanceMethod yX12_init, .fieldLink RX13 10 "LevelUnitsModel" "stop" "LLevelUnitsModel$Stop;", .arrayClass .byte, .fieldLink RX13 16 "LevelUnitsModel" "tape" "[B", .fieldLink RX13 20 "LevelUnitsModel" "text" "[B", .arrayClass .int, .fieldLink RX13 23 "LevelUnitsModel" "tSort" "[I", .fieldLink RX13 27 "LevelUnitsModel" "tValue" "[I", .fieldLink RX13 30 "LevelUnitsModel" "tLine" "[I", .fieldLink RX13 33 "LevelUnitsModel" "nameFrom" "[I", .fieldLink RX13 36 "LevelUnitsModel" "nameSize" "[I", .fieldLink RX13 39 "LevelUnitsModel" "letters" "[B", .fieldLink RX13 42 "LevelUnitsModel" "nk" "[I", .fieldLink RX13 45 "LevelUnitsModel" "nl" "[I", .fieldLink RX13 48 "LevelUnitsModel" "na" "[I", .fieldLink RX13 51 "LevelUnitsModel" "nb" "[I", .fieldLink RX13 54 "LevelUnitsModel" "nc" "[I", .fieldLink RX13 57 "LevelUnitsModel" "nd" "[I", .fieldLink RX13 60 "LevelUnitsModel" "ne" "[I", .fieldLink RX13 63 "LevelUnitsModel" "nn" "[I", .fieldLink RX13 66 "LevelUnitsModel" "ns" "[I", .fieldLink RX13 69 "LevelUnitsModel" "nu" "[I", .fieldLink RX13 72 "LevelUnitsModel" "nf" "[I", .fieldLink RX13 75 "LevelUnitsModel" "nm" "[I", .fieldLink RX13 78 "LevelUnitsModel" "unitNode" "[I", .fieldLink RX13 81 "LevelUnitsModel" "yName" "[I", .fieldLink RX13 84 "LevelUnitsModel" "yKind" "[I", .fieldLink RX13 87 "LevelUnitsModel" "yNode" "[I", .fieldLink RX13 90 "LevelUnitsModel" "yWhat" "[I", .fieldLink RX13 93 "LevelUnitsModel" "yFrom" "[I", .fieldLink RX13 96 "LevelUnitsModel" "yUntil" "[I", .fieldLink RX13 99 "LevelUnitsModel" "face" "[I", .arrayClass .boolean, .fieldLink RX13 102 "LevelUnitsModel" "isModule" "[Z", .fieldLink RX13 106 "LevelUnitsModel" "vKind" "[I", .fieldLink RX13 109 "LevelUnitsModel" "vType" "[I", .fieldLink RX13 112 "LevelUnitsModel" "vAt" "[I", .fieldLink RX13 115 "LevelUnitsModel" "pTold" "[I", .fieldLink RX13 118 "LevelUnitsModel" "pMade" "[I", .fieldLink RX13 121 "LevelUnitsModel" "typeNode" "[I", .fieldLink RX13 124 "LevelUnitsModel" "seenName" "[I", .fieldLink RX13 127 "LevelUnitsModel" "seenVariable" "[I", .fieldLink RX13 130 "LevelUnitsModel" "joined" "[I", .fieldLink RX13 133 "LevelUnitsModel" "trailed" "[I", .constant RX13 136 (64000), .fieldLink RX13 137 "LevelUnitsModel" "pairA" "[I", .fieldLink RX13 140 "LevelUnitsModel" "pairB" "[I", .fieldLink RX13 143 "LevelUnitsModel" "reveal" "[I", .fieldLink RX13 146 "LevelUnitsModel" "ownType" "[I", .fieldLink RX13 149 "LevelUnitsModel" "chain" "[I", .fieldLink RX13 152 "LevelUnitsModel" "inChain" "[I", .fieldLink RX13 155 "LevelUnitsModel" "onWay" "[I", .fieldLink RX13 158 "LevelUnitsModel" "cellsKnown" "[I", .fieldLink RX13 161 "LevelUnitsModel" "holdsItself" "[Z", .fieldLink RX13 164 "LevelUnitsModel" "isMet" "[Z", .fieldLink RX13 167 "LevelUnitsModel" "procedureType" "[I", .fieldLink RX13 170 "LevelUnitsModel" "et" "[I", .fieldLink RX13 173 "LevelUnitsModel" "tryNode" "[I", .fieldLink RX13 176 "LevelUnitsModel" "pCells" "[I", .fieldLink RX13 179 "LevelUnitsModel" "pAll" "[I", .fieldLink RX13 182 "LevelUnitsModel" "mem" "[I", .fieldLink RX13 185 "LevelUnitsModel" "thingType" "[I", .fieldLink RX13 188 "LevelUnitsModel" "thingAt" "[I", .fieldLink RX13 191 "LevelUnitsModel" "thingCells" "[I", .fieldLink RX13 194 "LevelUnitsModel" "holder" "[I", .fieldLink RX13 197 "LevelUnitsModel" "isCondition" "[Z", .fieldLink RX13 200 "LevelUnitsModel" "wants" "[I", .fieldLink RX13 203 "LevelUnitsModel" "wantsOf" "[I", .fieldLink RX13 206 "LevelUnitsModel" "wantsHow" "[I", .fieldLink RX13 209 "LevelUnitsModel" "ticket" "[I", .fieldLink RX13 212 "LevelUnitsModel" "over" "[I", .fieldLink RX13 215 "LevelUnitsModel" "overLine" "[I", .fieldLink RX13 218 "LevelUnitsModel" "overWhat" "[I", .fieldLink RX13 221 "LevelUnitsModel" "overNumber" "[I", .fieldLink RX13 224 "LevelUnitsModel" "openCalls" "[I", .fieldLink RX13 227 "LevelUnitsModel" "openCells" "[I", .fieldLink RX13 230 "LevelUnitsModel" "base" "[I", .fieldLink RX13 233 "LevelUnitsModel" "stackTop" "[I", .fieldLink RX13 236 "LevelUnitsModel" "entries" "[I", .fieldLink RX13 239 "LevelUnitsModel" "todo" "[I", .fieldLink RX13 242 "LevelUnitsModel" "out" "[I", .fieldLink RX13 245 "LevelUnitsModel" "failure" "LLevelUnitsModel$Stop;", .fieldLink RX13 248 "LevelUnitsModel" "argument" "[I"] ++ wsX120 ++ wsX130)
theorem in_cc_Model_init_RX12 : ∀ w ∈ wsX120, w ∈ ws_cc_Model_init := fun _ h => List.mem_cons_of_mem _ (List.mem_append_left _ (List.mem_append_right _ h))
theorem in_cc_Model_init_RX13 : ∀ w ∈ wsX130, w ∈ ws_cc_Model_init := fun _ h => List.mem_cons_of_mem _ (List.mem_append_right _ h)
theorem g0_cc_Model_init_cc_Stop_init_9 : GoodIn ws_cc_Model_init ws_cc_Stop_init := goodIn_r _ [26, 7, 2, 3, 8, 9, 10, 11, 12, 13, 14, 15, 16, 17, 18, 19, 20, 21, 22, 23, 24, 25, 111, 112, 113, 114, 115, 116] (by decide +kernel) (by decide +kernel)
theorem gg_cc_Model_init_cc_Stop_init_9 : GoodIn ws_cc_Model_init ws_cc_Stop_init := g0_cc_Model_init_cc_Stop_init_9
set_option maxHeartbeats 4000000 in
set_option maxRecDepth 100000 in
/-- LevelUnitsModel() -/
theorem cc_Model_init (l : Launch) (dC : Nat → ClassId) (dI : Nat → Nat → Nat) (h0 : Nat) (F : Nat → Value) (sz : Nat) (hk0 : F 0 = .int 0) (hk3 : F 3 = .int 0) (hk98 : F 98 = .int 0) (hk100 : F 100 = .int 0) : Met l yX13_init ws_cc_Model_init ({ frames := 5, cells := 78, slots := 638712, locals := 104 }) (va_Pc [.ref h0] (fun U => U.heap.size = sz ∧ va_P (dC, dI) vwCl [(h0, .inr (15, fl 134 F))] U.heap ∧ va_K (dC, dI) vwCl [] U ∧ va_D (fun _ => True) [(h0, .inr (15, fl 134 F))] ∧ vx_Zq "java/lang/Throwable" "UNASSIGNED_STACK" "[Ljava/lang/StackTraceElement;" (va_A [(h0, .inr (15, fl 134 F))] sz) U U.heap ∧ vx_Zq "java/lang/Throwable" "SUPPRESSED_SENTINEL" "Ljava/util/List;" (va_A [(h0, .inr (15, fl 134 F))] sz) U U.heap)) (va_Qv (fun _ : Unit => True) (fun _ t => ∃ F_a : Nat → Value, ∃ q_a : Nat, ∃ q_b : Nat, ∃ q_c : Nat, ∃ q_d : Nat, ∃ q_e : Nat, ∃ q_f : Nat, ∃ q_g : Nat, ∃ q_h : Nat, ∃ cy_a : ClassId, ∃ cy_b : ClassId, ∃ cy_c : ClassId, ∃ cy_d : ClassId, ∃ cy_e : ClassId, ∃ cy_f : ClassId, ∃ cy_g : ClassId, F_a 0 = .int 0 ∧ F_a 3 = .int 0 ∧ F_a 98 = .int 0 ∧ F_a 100 = .int 0 ∧ F_a 2 = .ref q_a ∧ F_a 15 = .ref q_b ∧ F_a 13 = .ref q_c ∧ F_a 14 = .ref q_d ∧ F_a 9 = .ref q_e ∧ F_a 10 = .ref q_f ∧ F_a 11 = .ref q_g ∧ F_a 1 = .ref q_h ∧ va_P (dC, dI) vwCl [(h0, .inr (15, fl 134 F_a)), (q_h, .inr (14, [.null, .null, .null, .null, .null, .int 0])), (q_a, .inl (cy_a, 6000, .inl (fun _ => 0))), (q_e, .inl (cy_b, 6002, .inl (fun _ => 0))), (q_f, .inl (cy_c, 6002, .inl (fun _ => 0))), (q_g, .inl (cy_d, 6002, .inl (fun _ => 0))), (q_c, .inl (cy_e, 6000, .inl (fun _ => 0))), (q_d, .inl (cy_f, 6000, .inl (fun _ => 0))), (q_b, .inl (cy_g, 6600, .inl (fun _ => 0)))] t.heap ∧ va_K (dC, dI) vwCl [(cy_a, .byte), (cy_b, .int), (cy_c, .int), (cy_d, .int), (cy_e, .int), (cy_f, .int), (cy_g, .byte)] t ∧ va_D (va_A [(h0, .inr (15, fl 134 F))] sz) [(h0, .inr (15, fl 134 F_a)), (q_h, .inr (14, [.null, .null, .null, .null, .null, .int 0])), (q_a, .inl (cy_a, 6000, .inl (fun _ => 0))), (q_e, .inl (cy_b, 6002, .inl (fun _ => 0))), (q_f, .inl (cy_c, 6002, .inl (fun _ => 0))), (q_g, .inl (cy_d, 6002, .inl (fun _ => 0))), (q_c, .inl (cy_e, 6000, .inl (fun _ => 0))), (q_d, .inl (cy_f, 6000, .inl (fun _ => 0))), (q_b, .inl (cy_g, 6600, .inl (fun _ => 0)))]) (va_A [(h0, .inr (15, fl 134 F))] sz)) 78 638712 (va_A [(h0, .inr (15, fl 134 F))] sz) := by
  refine Met.ofW (cc := cX13_init) (maxL := 1) (ret := none) (by decide) rfl ?_
  intro p e s m args below meth c s₁ B hml hv
  obtain ⟨rfl, hsz, hP, hK, hD0, hN0, hN1⟩ := hv
  have hx := B.exec
  have hb := B.bytes
  have hr := B.returns
  have hts := atoms_spec (ws := ws_cc_Model_init) B.pre
  have hown : s.vm.findClass RX13 = some m.cls := findClass_of_methodNamed B.named
  have hlocks := B.notSynchronized
  have hin : meth.name = "<init>" := (name_of_methodNamed B.named B.method).1
  subst hsz
  have hD := hD0.self (sz := s.heap.size)
  generalize hAe : va_A [(h0, .inr (15, fl 134 F))] s.heap.size = A at hD hN0 hN1 ⊢
  have hA : ∀ q : Nat, s.heap.size ≤ q → A q := fun q h => by rw [← hAe]; exact Or.inr h
  have hS : va_S A s.heap s.heap [] := va_S.rf
  have hP : va_P (dC, dI) vwCl [(h0, .inr (15, fl 134 F))] s.heap := hP
  have hl := lv_entry ([.ref h0]) (n := 1) (Nat.le_of_ble_eq_true rfl)
  rw [lg_entry_eq]
  generalize (lg_sl ([.ref h0]) ++ List.replicate (1 - (lg_sl ([.ref h0])).length) Slot.unset).toArray = ls at hl ⊢
  have hl : lv_has ls 1 [(0, .ref h0)] := hl
  refine lv_aload_n hx hb dX13_init_0 rfl (lv_at hl 0 rfl) ?_
  refine W.objInit hx hb hown (hts (.methodLink RX13 1 objectInit) (List.mem_of_getElem? (i := 1) rfl)) (hts (.instanceMethod objectInit) (List.mem_of_getElem? (i := 2) rfl)) (hts (.code objectInit ⟨#[0xb1]⟩ 1 none) (List.mem_of_getElem? (i := 3) rfl)) rfl (by rw [hml]; exact hl.1) rfl dX13_init_1 (Nat.le_of_ble_eq_true rfl) (Nat.le_of_ble_eq_true rfl) ?_
  refine W.eq (g2 := F0 m 4 ls []) rfl ?_
  refine lv_aload_n hx hb dX13_init_4 rfl (lv_at hl 0 rfl) ?_
  refine va_new (ci := 14) (fs := [.null, .null, .null, .null, .null, .int 0]) (C := RX12) (T := TX12) (N := 6) hx hb hts in_cc_Model_init_RX12 tyX12 tyX12_ok hown (hts (.classLink RX13 7 RX12) (List.mem_of_getElem? (i := 4) rfl)) (hts (.instantiable RX12 6) (List.mem_of_getElem? (i := 5) rfl)) (hts (.initialized RX12) (List.mem_of_getElem? (i := 6) rfl)) hK hP hD hS hA rfl (fun j hj => by rcases (show j = 0 ∨ j = 1 ∨ j = 2 ∨ j = 3 ∨ j = 4 ∨ j = 5 by omega) with rfl | rfl | rfl | rfl | rfl | rfl <;> rfl) (Nat.le_of_ble_eq_true rfl) (Nat.le_of_ble_eq_true rfl) dX13_init_5 (fun q_1 H hP hD hS => ?_)
  have hP : va_P (dC, dI) vwCl [(h0, .inr (15, fl 134 F)), (q_1, .inr (14, [.null, .null, .null, .null, .null, .int 0]))] H := hP
  have hD : va_D A [(h0, .inr (15, fl 134 F)), (q_1, .inr (14, [.null, .null, .null, .null, .null, .int 0]))] := hD
  refine W.widen (k := 1) (n := 6) (Nat.le_of_ble_eq_true rfl) (Nat.le_of_ble_eq_true rfl) ?_
  refine lv_dup hx hb dX13_init_8 rfl ?_
  have hPc := hP.sub (ws' := [(q_1, .inr (14, [.null, .null, .null, .null, .null, .int 0]))]) [1] rfl
  have hDc := hD.sub (ws' := [(q_1, .inr (14, [.null, .null, .null, .null, .null, .int 0]))]) [1] (by decide) rfl
  have hKc := hK.sub (tys' := []) [] rfl
  have hFc := va_free (wc := [(q_1, .inr (14, [.null, .null, .null, .null, .null, .int 0]))]) hD hS hA [1] rfl
  refine va_callv (va_runI (As := []) (rest := [.ref q_1, .ref h0]) ⟨hx, hb, hml, hown, hts⟩ (cc_Stop_init l dC dI q_1 H.size) (cwI 0 hts gg_cc_Model_init_cc_Stop_init_9 rfl rfl rfl (hts (.initialized RX12) (List.mem_of_getElem? (i := 6) rfl)) (hts (.methodLink RX13 9 yX12_init) (List.mem_of_getElem? (i := 27) rfl)) (hts (.instanceMethod yX12_init) (List.mem_of_getElem? (i := 28) rfl)) rfl (by decide +kernel) ⟨(Nat.le_of_ble_eq_true rfl), (Nat.le_of_ble_eq_true rfl)⟩) ⟨fun a U g mk q => by obtain ⟨q0, q1, qP, qK, qD, qN0, qN1⟩ := q; exact ⟨q0, q1, qP, va_K.moved (u := U) (U := U.calling g mk a) (Vm.Alike.refl U.vm) qK, qD, vx_Zq.moved (u := U) (U := U.calling g mk a) (Vm.Alike.refl U.vm) qN0, vx_Zq.moved (u := U) (U := U.calling g mk a) (Vm.Alike.refl U.vm) qN1⟩, fun U hU hW => ⟨rfl, by rw [hU], by rw [hU]; exact hPc, va_K.moved hW.alike hKc, hDc.weaken (fun _ _ _ _ => trivial), (by rw [hU]; exact vx_Zq.moved hW.alike ((hN0.kept (fun a h1 h2 => hS.2.1 a h1 h2)).narrow hFc)), (by rw [hU]; exact vx_Zq.moved hW.alike ((hN1.kept (fun a h1 h2 => hS.2.1 a h1 h2)).narrow hFc))⟩⟩ rfl rfl hl.1 rfl (lv_room (Nat.le_of_ble_eq_true rfl)) dX13_init_9 ⟨(Nat.le_of_ble_eq_true rfl), (Nat.le_of_ble_eq_true rfl)⟩) hS (fun q _ h => hFc q h) hFc (fun u t H1 locs ht hvm hw hB hz1 hk1 hS => ?_)
  obtain ⟨hP1, hK1, hD1⟩ := hB
  rw [ht] at hP1
  have hK1 := va_K.moved hvm.symm hK1
  obtain ⟨hP, hD⟩ := va_join (wr := [(h0, .inr (15, fl 134 F))]) (w1 := [(q_1, .inr (14, [.null, .null, .null, .null, .null, .int 0]))]) hP hD [1] [0] rfl rfl (by decide) (by decide) hk1 hFc hP1 hD1
  have hK := (hK.sub (tys' := []) [] rfl).app hK1
  generalize H1 = H at hP hS ⊢
  have hK : va_K (dC, dI) vwCl [] s := hK
  have hP : va_P (dC, dI) vwCl [(h0, .inr (15, fl 134 F)), (q_1, .inr (14, [.null, .null, .null, .null, .null, .int 0]))] H := hP
  have hD : va_D A [(h0, .inr (15, fl 134 F)), (q_1, .inr (14, [.null, .null, .null, .null, .null, .int 0]))] := hD
  refine W.widen (k := 1) (n := 6) (Nat.le_of_ble_eq_true rfl) (Nat.le_of_ble_eq_true rfl) ?_
  refine va_putF (D := (dC, dI)) (ci := 15) (v := .ref q_1) (ty := .object "LevelUnitsModel$Stop") (C := RX13) (T := TX13) (N := 134) hx hb hts in_cc_Model_init_RX13 tyX13 tyX13_ok nmX13 hown hK hP hD hS 0 rfl rfl 1 (by decide) (hts (.fieldLink RX13 10 "LevelUnitsModel" "stop" "LLevelUnitsModel$Stop;") (List.mem_of_getElem? (i := 29) rfl)) (fun _ h9 => h9) rfl hin rfl (by decide +kernel) rfl rfl (fl_lt (by decide)) dX13_init_12 (fun H locs hP hD hS => ?_)
  obtain ⟨F_2, eF_2⟩ : ∃ z, z = fu F 1 (.ref q_1) := ⟨_, rfl⟩
  have hP : va_P (dC, dI) vwCl [(h0, .inr (15, fl 134 F_2)), (q_1, .inr (14, [.null, .null, .null, .null, .null, .int 0]))] H := by rw [eF_2, ← fl_set (n := 134) (k := 1) (by decide)]; exact hP
  have hD : va_D A [(h0, .inr (15, fl 134 F_2)), (q_1, .inr (14, [.null, .null, .null, .null, .null, .int 0]))] := by rw [eF_2, ← fl_set (n := 134) (k := 1) (by decide)]; exact hD
  refine lv_aload_n hx hb dX13_init_15 rfl (lv_at hl 0 rfl) ?_
  refine lv_sipush (v := 6000) hx hb dX13_init_16 (by decide) ?_
  refine mkeep (X := [(q_1, .inr (14, [.null, .null, .null, .null, .null, .int 0]))]) (F := F_2) (atype := .byte) (ty := .byte) (a0 := (6000, .inl (fun _ => 0))) (N' := 6000) hx hb hts in_cc_Model_init_RX13 hown hin hK hP hD hS hA (hts (.arrayClass .byte) (List.mem_of_getElem? (i := 30) rfl)) rfl (fun _ => rfl) (by decide) (by decide) (Nat.le_of_ble_eq_true rfl) (Nat.le_of_ble_eq_true rfl) (Nat.le_of_ble_eq_true rfl) dX13_init_19 2 (by decide) (hts (.fieldLink RX13 16 "LevelUnitsModel" "tape" "[B") (List.mem_of_getElem? (i := 31) rfl)) (fun _ h9 => h9) rfl rfl (by decide +kernel) dX13_init_21 (fun q_3 cy_4 F_5 H_j_6 locs_j_6 eF_5 hK_j_6 hP_j_6 hD_j_6 hS_j_6 => ?_)
  have k0_j_6 : F_5 0 = .int 0 := fu_ne eF_5 (by decide) (fu_ne eF_2 (by decide) hk0)
  have k3_j_6 : F_5 3 = .int 0 := fu_ne eF_5 (by decide) (fu_ne eF_2 (by decide) hk3)
  have k98_j_6 : F_5 98 = .int 0 := fu_ne eF_5 (by decide) (fu_ne eF_2 (by decide) hk98)
  have k100_j_6 : F_5 100 = .int 0 := fu_ne eF_5 (by decide) (fu_ne eF_2 (by decide) hk100)
  have k1_j_6 : F_5 1 = .ref q_1 := fu_ne eF_5 (by decide) (fu_eq eF_2)
  have k2_j_6 : F_5 2 = .ref q_3 := fu_eq eF_5
  clear eF_5  hP hD hS hK
  have hP : va_P (dC, dI) vwCl [(h0, .inr (15, fl 134 F_5)), (q_1, .inr (14, [.null, .null, .null, .null, .null, .int 0])), (q_3, .inl (cy_4, 6000, .inl (fun _ => 0)))] H_j_6 := hP_j_6
  have hD : va_D A [(h0, .inr (15, fl 134 F_5)), (q_1, .inr (14, [.null, .null, .null, .null, .null, .int 0])), (q_3, .inl (cy_4, 6000, .inl (fun _ => 0)))] := hD_j_6
  have hS := hS_j_6
  have hK : va_K (dC, dI) vwCl [(cy_4, .byte)] s := hK_j_6
  clear hP_j_6 hD_j_6 hS_j_6 hK_j_6
  refine W.widen (k := 2) (n := 6006) (Nat.le_of_ble_eq_true rfl) (Nat.le_of_ble_eq_true rfl) ?_
  refine lv_aload_n hx hb dX13_init_24 rfl (lv_at hl 0 rfl) ?_
  refine lv_sipush (v := 6000) hx hb dX13_init_25 (by decide) ?_
  refine mstep (X := [(q_1, .inr (14, [.null, .null, .null, .null, .null, .int 0])), (q_3, .inl (cy_4, 6000, .inl (fun _ => 0)))]) (F := F_5) (atype := .byte) (ty := .byte) (a0 := (6000, .inl (fun _ => 0))) (N' := 6000) hx hb hts in_cc_Model_init_RX13 hown hin hK hP hD hS hA (hts (.arrayClass .byte) (List.mem_of_getElem? (i := 30) rfl)) rfl (fun _ => rfl) (by decide) (by decide) (Nat.le_of_ble_eq_true rfl) (Nat.le_of_ble_eq_true rfl) (Nat.le_of_ble_eq_true rfl) dX13_init_28 4 (by decide) (hts (.fieldLink RX13 20 "LevelUnitsModel" "text" "[B") (List.mem_of_getElem? (i := 32) rfl)) (fun _ h9 => h9) rfl rfl (by decide +kernel) dX13_init_30 (fun q_7 F_9 H_j_10 locs_j_10 eF_9 hP_j_10 hD_j_10 hS_j_10 => ?_)
  have k0_j_10 : F_9 0 = .int 0 := fu_ne eF_9 (by decide) k0_j_6
  have k3_j_10 : F_9 3 = .int 0 := fu_ne eF_9 (by decide) k3_j_6
  have k98_j_10 : F_9 98 = .int 0 := fu_ne eF_9 (by decide) k98_j_6
  have k100_j_10 : F_9 100 = .int 0 := fu_ne eF_9 (by decide) k100_j_6
  have k1_j_10 : F_9 1 = .ref q_1 := fu_ne eF_9 (by decide) k1_j_6
  have k2_j_10 : F_9 2 = .ref q_3 := fu_ne eF_9 (by decide) k2_j_6
  clear eF_9 k0_j_6 k3_j_6 k98_j_6 k100_j_6 k1_j_6 k2_j_6 hP hD hS
  have hP : va_P (dC, dI) vwCl [(h0, .inr (15, fl 134 F_9)), (q_1, .inr (14, [.null, .null, .null, .null, .null, .int 0])), (q_3, .inl (cy_4, 6000, .inl (fun _ => 0)))] H_j_10 := hP_j_10
  have hD : va_D A [(h0, .inr (15, fl 134 F_9)), (q_1, .inr (14, [.null, .null, .null, .null, .null, .int 0])), (q_3, .inl (cy_4, 6000, .inl (fun _ => 0)))] := hD_j_10
  have hS := hS_j_10
  clear hP_j_10 hD_j_10 hS_j_10
  refine W.widen (k := 3) (n := 12006) (Nat.le_of_ble_eq_true rfl) (Nat.le_of_ble_eq_true rfl) ?_
  refine lv_aload_n hx hb dX13_init_33 rfl (lv_at hl 0 rfl) ?_
  refine lv_sipush (v := 6002) hx hb dX13_init_34 (by decide) ?_
  refine mkeep (X := [(q_1, .inr (14, [.null, .null, .null, .null, .null, .int 0])), (q_3, .inl (cy_4, 6000, .inl (fun _ => 0)))]) (F := F_9) (atype := .int) (ty := .int) (a0 := (6002, .inl (fun _ => 0))) (N' := 6002) hx hb hts in_cc_Model_init_RX13 hown hin hK hP hD hS hA (hts (.arrayClass .int) (List.mem_of_getElem? (i := 33) rfl)) rfl (fun _ => rfl) (by decide) (by decide) (Nat.le_of_ble_eq_true rfl) (Nat.le_of_ble_eq_true rfl) (Nat.le_of_ble_eq_true rfl) dX13_init_37 9 (by decide) (hts (.fieldLink RX13 23 "LevelUnitsModel" "tSort" "[I") (List.mem_of_getElem? (i := 34) rfl)) (fun _ h9 => h9) rfl rfl (by decide +kernel) dX13_init_39 (fun q_11 cy_12 F_13 H_j_14 locs_j_14 eF_13 hK_j_14 hP_j_14 hD_j_14 hS_j_14 => ?_)
  have k0_j_14 : F_13 0 = .int 0 := fu_ne eF_13 (by decide) k0_j_10
  have k3_j_14 : F_13 3 = .int 0 := fu_ne eF_13 (by decide) k3_j_10
  have k98_j_14 : F_13 98 = .int 0 := fu_ne eF_13 (by decide) k98_j_10
  have k100_j_14 : F_13 100 = .int 0 := fu_ne eF_13 (by decide) k100_j_10
  have k1_j_14 : F_13 1 = .ref q_1 := fu_ne eF_13 (by decide) k1_j_10
  have k2_j_14 : F_13 2 = .ref q_3 := fu_ne eF_13 (by decide) k2_j_10
  have k9_j_14 : F_13 9 = .ref q_11 := fu_eq eF_13
  clear eF_13 k0_j_10 k3_j_10 k98_j_10 k100_j_10 k1_j_10 k2_j_10 hP hD hS hK
  have hP : va_P (dC, dI) vwCl [(h0, .inr (15, fl 134 F_13)), (q_1, .inr (14, [.null, .null, .null, .null, .null, .int 0])), (q_3, .inl (cy_4, 6000, .inl (fun _ => 0))), (q_11, .inl (cy_12, 6002, .inl (fun _ => 0)))] H_j_14 := hP_j_14
  have hD : va_D A [(h0, .inr (15, fl 134 F_13)), (q_1, .inr (14, [.null, .null, .null, .null, .null, .int 0])), (q_3, .inl (cy_4, 6000, .inl (fun _ => 0))), (q_11, .inl (cy_12, 6002, .inl (fun _ => 0)))] := hD_j_14
  have hS := hS_j_14
  have hK : va_K (dC, dI) vwCl [(cy_4, .byte), (cy_12, .int)] s := hK_j_14
  clear hP_j_14 hD_j_14 hS_j_14 hK_j_14
  refine W.widen (k := 4) (n := 18008) (Nat.le_of_ble_eq_true rfl) (Nat.le_of_ble_eq_true rfl) ?_
  refine lv_aload_n hx hb dX13_init_42 rfl (lv_at hl 0 rfl) ?_
  refine lv_sipush (v := 6002) hx hb dX13_init_43 (by decide) ?_
  refine mkeep (X := [(q_1, .inr (14, [.null, .null, .null, .null, .null, .int 0])), (q_3, .inl (cy_4, 6000, .inl (fun _ => 0))), (q_11, .inl (cy_12, 6002, .inl (fun _ => 0)))]) (F := F_13) (atype := .int) (ty := .int) (a0 := (6002, .inl (fun _ => 0))) (N' := 6002) hx hb hts in_cc_Model_init_RX13 hown hin hK hP hD hS hA (hts (.arrayClass .int) (List.mem_of_getElem? (i := 33) rfl)) rfl (fun _ => rfl) (by decide) (by decide) (Nat.le_of_ble_eq_true rfl) (Nat.le_of_ble_eq_true rfl) (Nat.le_of_ble_eq_true rfl) dX13_init_46 10 (by decide) (hts (.fieldLink RX13 27 "LevelUnitsModel" "tValue" "[I") (List.mem_of_getElem? (i := 35) rfl)) (fun _ h9 => h9) rfl rfl (by decide +kernel) dX13_init_48 (fun q_15 cy_16 F_17 H_j_18 locs_j_18 eF_17 hK_j_18 hP_j_18 hD_j_18 hS_j_18 => ?_)
  have k0_j_18 : F_17 0 = .int 0 := fu_ne eF_17 (by decide) k0_j_14
  have k3_j_18 : F_17 3 = .int 0 := fu_ne eF_17 (by decide) k3_j_14
  have k98_j_18 : F_17 98 = .int 0 := fu_ne eF_17 (by decide) k98_j_14
  have k100_j_18 : F_17 100 = .int 0 := fu_ne eF_17 (by decide) k100_j_14
  have k1_j_18 : F_17 1 = .ref q_1 := fu_ne eF_17 (by decide) k1_j_14
  have k2_j_18 : F_17 2 = .ref q_3 := fu_ne eF_17 (by decide) k2_j_14
  have k9_j_18 : F_17 9 = .ref q_11 := fu_ne eF_17 (by decide) k9_j_14
  have k10_j_18 : F_17 10 = .ref q_15 := fu_eq eF_17
  clear eF_17 k0_j_14 k3_j_14 k98_j_14 k100_j_14 k1_j_14 k2_j_14 k9_j_14 hP hD hS hK
  have hP : va_P (dC, dI) vwCl [(h0, .inr (15, fl 134 F_17)), (q_1, .inr (14, [.null, .null, .null, .null, .null, .int 0])), (q_3, .inl (cy_4, 6000, .inl (fun _ => 0))), (q_11, .inl (cy_12, 6002, .inl (fun _ => 0))), (q_15, .inl (cy_16, 6002, .inl (fun _ => 0)))] H_j_18 := hP_j_18
  have hD : va_D A [(h0, .inr (15, fl 134 F_17)), (q_1, .inr (14, [.null, .null, .null, .null, .null, .int 0])), (q_3, .inl (cy_4, 6000, .inl (fun _ => 0))), (q_11, .inl (cy_12, 6002, .inl (fun _ => 0))), (q_15, .inl (cy_16, 6002, .inl (fun _ => 0)))] := hD_j_18
  have hS := hS_j_18
  have hK : va_K (dC, dI) vwCl [(cy_4, .byte), (cy_12, .int), (cy_16, .int)] s := hK_j_18
  clear hP_j_18 hD_j_18 hS_j_18 hK_j_18
  refine W.widen (k := 5) (n := 24010) (Nat.le_of_ble_eq_true rfl) (Nat.le_of_ble_eq_true rfl) ?_
  refine lv_aload_n hx hb dX13_init_51 rfl (lv_at hl 0 rfl) ?_
  refine lv_sipush (v := 6002) hx hb dX13_init_52 (by decide) ?_
  refine mkeep (X := [(q_1, .inr (14, [.null, .null, .null, .null, .null, .int 0])), (q_3, .inl (cy_4, 6000, .inl (fun _ => 0))), (q_11, .inl (cy_12, 6002, .inl (fun _ => 0))), (q_15, .inl (cy_16, 6002, .inl (fun _ => 0)))]) (F := F_17) (atype := .int) (ty := .int) (a0 := (6002, .inl (fun _ => 0))) (N' := 6002) hx hb hts in_cc_Model_init_RX13 hown hin hK hP hD hS hA (hts (.arrayClass .int) (List.mem_of_getElem? (i := 33) rfl)) rfl (fun _ => rfl) (by decide) (by decide) (Nat.le_of_ble_eq_true rfl) (Nat.le_of_ble_eq_true rfl) (Nat.le_of_ble_eq_true rfl) dX13_init_55 11 (by decide) (hts (.fieldLink RX13 30 "LevelUnitsModel" "tLine" "[I") (List.mem_of_getElem? (i := 36) rfl)) (fun _ h9 => h9) rfl rfl (by decide +kernel) dX13_init_57 (fun q_19 cy_20 F_21 H_j_22 locs_j_22 eF_21 hK_j_22 hP_j_22 hD_j_22 hS_j_22 => ?_)
  have k0_j_22 : F_21 0 = .int 0 := fu_ne eF_21 (by decide) k0_j_18
  have k3_j_22 : F_21 3 = .int 0 := fu_ne eF_21 (by decide) k3_j_18
  have k98_j_22 : F_21 98 = .int 0 := fu_ne eF_21 (by decide) k98_j_18
  have k100_j_22 : F_21 100 = .int 0 := fu_ne eF_21 (by decide) k100_j_18
  have k1_j_22 : F_21 1 = .ref q_1 := fu_ne eF_21 (by decide) k1_j_18
  have k2_j_22 : F_21 2 = .ref q_3 := fu_ne eF_21 (by decide) k2_j_18
  have k9_j_22 : F_21 9 = .ref q_11 := fu_ne eF_21 (by decide) k9_j_18
  have k10_j_22 : F_21 10 = .ref q_15 := fu_ne eF_21 (by decide) k10_j_18
  have k11_j_22 : F_21 11 = .ref q_19 := fu_eq eF_21
  clear eF_21 k0_j_18 k3_j_18 k98_j_18 k100_j_18 k1_j_18 k2_j_18 k9_j_18 k10_j_18 hP hD hS hK
  have hP : va_P (dC, dI) vwCl [(h0, .inr (15, fl 134 F_21)), (q_1, .inr (14, [.null, .null, .null, .null, .null, .int 0])), (q_3, .inl (cy_4, 6000, .inl (fun _ => 0))), (q_11, .inl (cy_12, 6002, .inl (fun _ => 0))), (q_15, .inl (cy_16, 6002, .inl (fun _ => 0))), (q_19, .inl (cy_20, 6002, .inl (fun _ => 0)))] H_j_22 := hP_j_22
  have hD : va_D A [(h0, .inr (15, fl 134 F_21)), (q_1, .inr (14, [.null, .null, .null, .null, .null, .int 0])), (q_3, .inl (cy_4, 6000, .inl (fun _ => 0))), (q_11, .inl (cy_12, 6002, .inl (fun _ => 0))), (q_15, .inl (cy_16, 6002, .inl (fun _ => 0))), (q_19, .inl (cy_20, 6002, .inl (fun _ => 0)))] := hD_j_22
  have hS := hS_j_22
  have hK : va_K (dC, dI) vwCl [(cy_4, .byte), (cy_12, .int), (cy_16, .int), (cy_20, .int)] s := hK_j_22
  clear hP_j_22 hD_j_22 hS_j_22 hK_j_22
  refine W.widen (k := 6) (n := 30012) (Nat.le_of_ble_eq_true rfl) (Nat.le_of_ble_eq_true rfl) ?_
  refine lv_aload_n hx hb dX13_init_60 rfl (lv_at hl 0 rfl) ?_
  refine lv_sipush (v := 6000) hx hb dX13_init_61 (by decide) ?_
  refine mkeep (X := [(q_1, .inr (14, [.null, .null, .null, .null, .null, .int 0])), (q_3, .inl (cy_4, 6000, .inl (fun _ => 0))), (q_11, .inl (cy_12, 6002, .inl (fun _ => 0))), (q_15, .inl (cy_16, 6002, .inl (fun _ => 0))), (q_19, .inl (cy_20, 6002, .inl (fun _ => 0)))]) (F := F_21) (atype := .int) (ty := .int) (a0 := (6000, .inl (fun _ => 0))) (N' := 6000) hx hb hts in_cc_Model_init_RX13 hown hin hK hP hD hS hA (hts (.arrayClass .int) (List.mem_of_getElem? (i := 33) rfl)) rfl (fun _ => rfl) (by decide) (by decide) (Nat.le_of_ble_eq_true rfl) (Nat.le_of_ble_eq_true rfl) (Nat.le_of_ble_eq_true rfl) dX13_init_64 13 (by decide) (hts (.fieldLink RX13 33 "LevelUnitsModel" "nameFrom" "[I") (List.mem_of_getElem? (i := 37) rfl)) (fun _ h9 => h9) rfl rfl (by decide +kernel) dX13_init_66 (fun q_23 cy_24 F_25 H_j_26 locs_j_26 eF_25 hK_j_26 hP_j_26 hD_j_26 hS_j_26 => ?_)
  have k0_j_26 : F_25 0 = .int 0 := fu_ne eF_25 (by decide) k0_j_22
  have k3_j_26 : F_25 3 = .int 0 := fu_ne eF_25 (by decide) k3_j_22
  have k98_j_26 : F_25 98 = .int 0 := fu_ne eF_25 (by decide) k98_j_22
  have k100_j_26 : F_25 100 = .int 0 := fu_ne eF_25 (by decide) k100_j_22
  have k1_j_26 : F_25 1 = .ref q_1 := fu_ne eF_25 (by decide) k1_j_22
  have k2_j_26 : F_25 2 = .ref q_3 := fu_ne eF_25 (by decide) k2_j_22
  have k9_j_26 : F_25 9 = .ref q_11 := fu_ne eF_25 (by decide) k9_j_22
  have k10_j_26 : F_25 10 = .ref q_15 := fu_ne eF_25 (by decide) k10_j_22
  have k11_j_26 : F_25 11 = .ref q_19 := fu_ne eF_25 (by decide) k11_j_22
  have k13_j_26 : F_25 13 = .ref q_23 := fu_eq eF_25
  clear eF_25 k0_j_22 k3_j_22 k98_j_22 k100_j_22 k1_j_22 k2_j_22 k9_j_22 k10_j_22 k11_j_22 hP hD hS hK
  have hP : va_P (dC, dI) vwCl [(h0, .inr (15, fl 134 F_25)), (q_1, .inr (14, [.null, .null, .null, .null, .null, .int 0])), (q_3, .inl (cy_4, 6000, .inl (fun _ => 0))), (q_11, .inl (cy_12, 6002, .inl (fun _ => 0))), (q_15, .inl (cy_16, 6002, .inl (fun _ => 0))), (q_19, .inl (cy_20, 6002, .inl (fun _ => 0))), (q_23, .inl (cy_24, 6000, .inl (fun _ => 0)))] H_j_26 := hP_j_26
  have hD : va_D A [(h0, .inr (15, fl 134 F_25)), (q_1, .inr (14, [.null, .null, .null, .null, .null, .int 0])), (q_3, .inl (cy_4, 6000, .inl (fun _ => 0))), (q_11, .inl (cy_12, 6002, .inl (fun _ => 0))), (q_15, .inl (cy_16, 6002, .inl (fun _ => 0))), (q_19, .inl (cy_20, 6002, .inl (fun _ => 0))), (q_23, .inl (cy_24, 6000, .inl (fun _ => 0)))] := hD_j_26
  have hS := hS_j_26
  have hK : va_K (dC, dI) vwCl [(cy_4, .byte), (cy_12, .int), (cy_16, .int), (cy_20, .int), (cy_24, .int)] s := hK_j_26
  clear hP_j_26 hD_j_26 hS_j_26 hK_j_26
  refine W.widen (k := 7) (n := 36012) (Nat.le_of_ble_eq_true rfl) (Nat.le_of_ble_eq_true rfl) ?_
  refine lv_aload_n hx hb dX13_init_69 rfl (lv_at hl 0 rfl) ?_
  refine lv_sipush (v := 6000) hx hb dX13_init_70 (by decide) ?_
  refine mkeep (X := [(q_1, .inr (14, [.null, .null, .null, .null, .null, .int 0])), (q_3, .inl (cy_4, 6000, .inl (fun _ => 0))), (q_11, .inl (cy_12, 6002, .inl (fun _ => 0))), (q_15, .inl (cy_16, 6002, .inl (fun _ => 0))), (q_19, .inl (cy_20, 6002, .inl (fun _ => 0))), (q_23, .inl (cy_24, 6000, .inl (fun _ => 0)))]) (F := F_25) (atype := .int) (ty := .int) (a0 := (6000, .inl (fun _ => 0))) (N' := 6000) hx hb hts in_cc_Model_init_RX13 hown hin hK hP hD hS hA (hts (.arrayClass .int) (List.mem_of_getElem? (i := 33) rfl)) rfl (fun _ => rfl) (by decide) (by decide) (Nat.le_of_ble_eq_true rfl) (Nat.le_of_ble_eq_true rfl) (Nat.le_of_ble_eq_true rfl) dX13_init_73 14 (by decide) (hts (.fieldLink RX13 36 "LevelUnitsModel" "nameSize" "[I") (List.mem_of_getElem? (i := 38) rfl)) (fun _ h9 => h9) rfl rfl (by decide +kernel) dX13_init_75 (fun q_27 cy_28 F_29 H_j_30 locs_j_30 eF_29 hK_j_30 hP_j_30 hD_j_30 hS_j_30 => ?_)
  have k0_j_30 : F_29 0 = .int 0 := fu_ne eF_29 (by decide) k0_j_26
  have k3_j_30 : F_29 3 = .int 0 := fu_ne eF_29 (by decide) k3_j_26
  have k98_j_30 : F_29 98 = .int 0 := fu_ne eF_29 (by decide) k98_j_26
  have k100_j_30 : F_29 100 = .int 0 := fu_ne eF_29 (by decide) k100_j_26
  have k1_j_30 : F_29 1 = .ref q_1 := fu_ne eF_29 (by decide) k1_j_26
  have k2_j_30 : F_29 2 = .ref q_3 := fu_ne eF_29 (by decide) k2_j_26
  have k9_j_30 : F_29 9 = .ref q_11 := fu_ne eF_29 (by decide) k9_j_26
  have k10_j_30 : F_29 10 = .ref q_15 := fu_ne eF_29 (by decide) k10_j_26
  have k11_j_30 : F_29 11 = .ref q_19 := fu_ne eF_29 (by decide) k11_j_26
  have k13_j_30 : F_29 13 = .ref q_23 := fu_ne eF_29 (by decide) k13_j_26
  have k14_j_30 : F_29 14 = .ref q_27 := fu_eq eF_29
  clear eF_29 k0_j_26 k3_j_26 k98_j_26 k100_j_26 k1_j_26 k2_j_26 k9_j_26 k10_j_26 k11_j_26 k13_j_26 hP hD hS hK
  have hP : va_P (dC, dI) vwCl [(h0, .inr (15, fl 134 F_29)), (q_1, .inr (14, [.null, .null, .null, .null, .null, .int 0])), (q_3, .inl (cy_4, 6000, .inl (fun _ => 0))), (q_11, .inl (cy_12, 6002, .inl (fun _ => 0))), (q_15, .inl (cy_16, 6002, .inl (fun _ => 0))), (q_19, .inl (cy_20, 6002, .inl (fun _ => 0))), (q_23, .inl (cy_24, 6000, .inl (fun _ => 0))), (q_27, .inl (cy_28, 6000, .inl (fun _ => 0)))] H_j_30 := hP_j_30
  have hD : va_D A [(h0, .inr (15, fl 134 F_29)), (q_1, .inr (14, [.null, .null, .null, .null, .null, .int 0])), (q_3, .inl (cy_4, 6000, .inl (fun _ => 0))), (q_11, .inl (cy_12, 6002, .inl (fun _ => 0))), (q_15, .inl (cy_16, 6002, .inl (fun _ => 0))), (q_19, .inl (cy_20, 6002, .inl (fun _ => 0))), (q_23, .inl (cy_24, 6000, .inl (fun _ => 0))), (q_27, .inl (cy_28, 6000, .inl (fun _ => 0)))] := hD_j_30
  have hS := hS_j_30
  have hK : va_K (dC, dI) vwCl [(cy_4, .byte), (cy_12, .int), (cy_16, .int), (cy_20, .int), (cy_24, .int), (cy_28, .int)] s := hK_j_30
  clear hP_j_30 hD_j_30 hS_j_30 hK_j_30
  refine W.widen (k := 8) (n := 42012) (Nat.le_of_ble_eq_true rfl) (Nat.le_of_ble_eq_true rfl) ?_
  refine lv_aload_n hx hb dX13_init_78 rfl (lv_at hl 0 rfl) ?_
  refine lv_sipush (v := 6600) hx hb dX13_init_79 (by decide) ?_
  refine mkeep (X := [(q_1, .inr (14, [.null, .null, .null, .null, .null, .int 0])), (q_3, .inl (cy_4, 6000, .inl (fun _ => 0))), (q_11, .inl (cy_12, 6002, .inl (fun _ => 0))), (q_15, .inl (cy_16, 6002, .inl (fun _ => 0))), (q_19, .inl (cy_20, 6002, .inl (fun _ => 0))), (q_23, .inl (cy_24, 6000, .inl (fun _ => 0))), (q_27, .inl (cy_28, 6000, .inl (fun _ => 0)))]) (F := F_29) (atype := .byte) (ty := .byte) (a0 := (6600, .inl (fun _ => 0))) (N' := 6600) hx hb hts in_cc_Model_init_RX13 hown hin hK hP hD hS hA (hts (.arrayClass .byte) (List.mem_of_getElem? (i := 30) rfl)) rfl (fun _ => rfl) (by decide) (by decide) (Nat.le_of_ble_eq_true rfl) (Nat.le_of_ble_eq_true rfl) (Nat.le_of_ble_eq_true rfl) dX13_init_82 15 (by decide) (hts (.fieldLink RX13 39 "LevelUnitsModel" "letters" "[B") (List.mem_of_getElem? (i := 39) rfl)) (fun _ h9 => h9) rfl rfl (by decide +kernel) dX13_init_84 (fun q_31 cy_32 F_33 H_j_34 locs_j_34 eF_33 hK_j_34 hP_j_34 hD_j_34 hS_j_34 => ?_)
  have k0_j_34 : F_33 0 = .int 0 := fu_ne eF_33 (by decide) k0_j_30
  have k3_j_34 : F_33 3 = .int 0 := fu_ne eF_33 (by decide) k3_j_30
  have k98_j_34 : F_33 98 = .int 0 := fu_ne eF_33 (by decide) k98_j_30
  have k100_j_34 : F_33 100 = .int 0 := fu_ne eF_33 (by decide) k100_j_30
  have k1_j_34 : F_33 1 = .ref q_1 := fu_ne eF_33 (by decide) k1_j_30
  have k2_j_34 : F_33 2 = .ref q_3 := fu_ne eF_33 (by decide) k2_j_30
  have k9_j_34 : F_33 9 = .ref q_11 := fu_ne eF_33 (by decide) k9_j_30
  have k10_j_34 : F_33 10 = .ref q_15 := fu_ne eF_33 (by decide) k10_j_30
  have k11_j_34 : F_33 11 = .ref q_19 := fu_ne eF_33 (by decide) k11_j_30
  have k13_j_34 : F_33 13 = .ref q_23 := fu_ne eF_33 (by decide) k13_j_30
  have k14_j_34 : F_33 14 = .ref q_27 := fu_ne eF_33 (by decide) k14_j_30
  have k15_j_34 : F_33 15 = .ref q_31 := fu_eq eF_33
  clear eF_33 k0_j_30 k3_j_30 k98_j_30 k100_j_30 k1_j_30 k2_j_30 k9_j_30 k10_j_30 k11_j_30 k13_j_30 k14_j_30 hP hD hS hK
  have hP : va_P (dC, dI) vwCl [(h0, .inr (15, fl 134 F_33)), (q_1, .inr (14, [.null, .null, .null, .null, .null, .int 0])), (q_3, .inl (cy_4, 6000, .inl (fun _ => 0))), (q_11, .inl (cy_12, 6002, .inl (fun _ => 0))), (q_15, .inl (cy_16, 6002, .inl (fun _ => 0))), (q_19, .inl (cy_20, 6002, .inl (fun _ => 0))), (q_23, .inl (cy_24, 6000, .inl (fun _ => 0))), (q_27, .inl (cy_28, 6000, .inl (fun _ => 0))), (q_31, .inl (cy_32, 6600, .inl (fun _ => 0)))] H_j_34 := hP_j_34
  have hD : va_D A [(h0, .inr (15, fl 134 F_33)), (q_1, .inr (14, [.null, .null, .null, .null, .null, .int 0])), (q_3, .inl (cy_4, 6000, .inl (fun _ => 0))), (q_11, .inl (cy_12, 6002, .inl (fun _ => 0))), (q_15, .inl (cy_16, 6002, .inl (fun _ => 0))), (q_19, .inl (cy_20, 6002, .inl (fun _ => 0))), (q_23, .inl (cy_24, 6000, .inl (fun _ => 0))), (q_27, .inl (cy_28, 6000, .inl (fun _ => 0))), (q_31, .inl (cy_32, 6600, .inl (fun _ => 0)))] := hD_j_34
  have hS := hS_j_34
  have hK : va_K (dC, dI) vwCl [(cy_4, .byte), (cy_12, .int), (cy_16, .int), (cy_20, .int), (cy_24, .int), (cy_28, .int), (cy_32, .byte)] s := hK_j_34
  clear hP_j_34 hD_j_34 hS_j_34 hK_j_34
  refine W.widen (k := 9) (n := 48612) (Nat.le_of_ble_eq_true rfl) (Nat.le_of_ble_eq_true rfl) ?_
  refine lv_aload_n hx hb dX13_init_87 rfl (lv_at hl 0 rfl) ?_
  refine lv_sipush (v := 16000) hx hb dX13_init_88 (by decide) ?_
  refine mstep (X := [(q_1, .inr (14, [.null, .null, .null, .null, .null, .int 0])), (q_3, .inl (cy_4, 6000, .inl (fun _ => 0))), (q_11, .inl (cy_12, 6002, .inl (fun _ => 0))), (q_15, .inl (cy_16, 6002, .inl (fun _ => 0))), (q_19, .inl (cy_20, 6002, .inl (fun _ => 0))), (q_23, .inl (cy_24, 6000, .inl (fun _ => 0))), (q_27, .inl (cy_28, 6000, .inl (fun _ => 0))), (q_31, .inl (cy_32, 6600, .inl (fun _ => 0)))]) (F := F_33) (atype := .int) (ty := .int) (a0 := (16000, .inl (fun _ => 0))) (N' := 16000) hx hb hts in_cc_Model_init_RX13 hown hin hK hP hD hS hA (hts (.arrayClass .int) (List.mem_of_getElem? (i := 33) rfl)) rfl (fun _ => rfl) (by decide) (by decide) (Nat.le_of_ble_eq_true rfl) (Nat.le_of_ble_eq_true rfl) (Nat.le_of_ble_eq_true rfl) dX13_init_91 20 (by decide) (hts (.fieldLink RX13 42 "LevelUnitsModel" "nk" "[I") (List.mem_of_getElem? (i := 40) rfl)) (fun _ h9 => h9) rfl rfl (by decide +kernel) dX13_init_93 (fun q_35 F_37 H_j_38 locs_j_38 eF_37 hP_j_38 hD_j_38 hS_j_38 => ?_)
  have k0_j_38 : F_37 0 = .int 0 := fu_ne eF_37 (by decide) k0_j_34
  have k3_j_38 : F_37 3 = .int 0 := fu_ne eF_37 (by decide) k3_j_34
  have k98_j_38 : F_37 98 = .int 0 := fu_ne eF_37 (by decide) k98_j_34
  have k100_j_38 : F_37 100 = .int 0 := fu_ne eF_37 (by decide) k100_j_34
  have k1_j_38 : F_37 1 = .ref q_1 := fu_ne eF_37 (by decide) k1_j_34
  have k2_j_38 : F_37 2 = .ref q_3 := fu_ne eF_37 (by decide) k2_j_34
  have k9_j_38 : F_37 9 = .ref q_11 := fu_ne eF_37 (by decide) k9_j_34
  have k10_j_38 : F_37 10 = .ref q_15 := fu_ne eF_37 (by decide) k10_j_34
  have k11_j_38 : F_37 11 = .ref q_19 := fu_ne eF_37 (by decide) k11_j_34
  have k13_j_38 : F_37 13 = .ref q_23 := fu_ne eF_37 (by decide) k13_j_34
  have k14_j_38 : F_37 14 = .ref q_27 := fu_ne eF_37 (by decide) k14_j_34
  have k15_j_38 : F_37 15 = .ref q_31 := fu_ne eF_37 (by decide) k15_j_34
  clear eF_37 k0_j_34 k3_j_34 k98_j_34 k100_j_34 k1_j_34 k2_j_34 k9_j_34 k10_j_34 k11_j_34 k13_j_34 k14_j_34 k15_j_34 hP hD hS
  have hP : va_P (dC, dI) vwCl [(h0, .inr (15, fl 134 F_37)), (q_1, .inr (14, [.null, .null, .null, .null, .null, .int 0])), (q_3, .inl (cy_4, 6000, .inl (fun _ => 0))), (q_11, .inl (cy_12, 6002, .inl (fun _ => 0))), (q_15, .inl (cy_16, 6002, .inl (fun _ => 0))), (q_19, .inl (cy_20, 6002, .inl (fun _ => 0))), (q_23, .inl (cy_24, 6000, .inl (fun _ => 0))), (q_27, .inl (cy_28, 6000, .inl (fun _ => 0))), (q_31, .inl (cy_32, 6600, .inl (fun _ => 0)))] H_j_38 := hP_j_38
  have hD : va_D A [(h0, .inr (15, fl 134 F_37)), (q_1, .inr (14, [.null, .null, .null, .null, .null, .int 0])), (q_3, .inl (cy_4, 6000, .inl (fun _ => 0))), (q_11, .inl (cy_12, 6002, .inl (fun _ => 0))), (q_15, .inl (cy_16, 6002, .inl (fun _ => 0))), (q_19, .inl (cy_20, 6002, .inl (fun _ => 0))), (q_23, .inl (cy_24, 6000, .inl (fun _ => 0))), (q_27, .inl (cy_28, 6000, .inl (fun _ => 0))), (q_31, .inl (cy_32, 6600, .inl (fun _ => 0)))] := hD_j_38
  have hS := hS_j_38
  clear hP_j_38 hD_j_38 hS_j_38
  refine W.widen (k := 10) (n := 64612) (Nat.le_of_ble_eq_true rfl) (Nat.le_of_ble_eq_true rfl) ?_
  refine lv_aload_n hx hb dX13_init_96 rfl (lv_at hl 0 rfl) ?_
  refine lv_sipush (v := 16000) hx hb dX13_init_97 (by decide) ?_
  refine mstep (X := [(q_1, .inr (14, [.null, .null, .null, .null, .null, .int 0])), (q_3, .inl (cy_4, 6000, .inl (fun _ => 0))), (q_11, .inl (cy_12, 6002, .inl (fun _ => 0))), (q_15, .inl (cy_16, 6002, .inl (fun _ => 0))), (q_19, .inl (cy_20, 6002, .inl (fun _ => 0))), (q_23, .inl (cy_24, 6000, .inl (fun _ => 0))), (q_27, .inl (cy_28, 6000, .inl (fun _ => 0))), (q_31, .inl (cy_32, 6600, .inl (fun _ => 0)))]) (F := F_37) (atype := .int) (ty := .int) (a0 := (16000, .inl (fun _ => 0))) (N' := 16000) hx hb hts in_cc_Model_init_RX13 hown hin hK hP hD hS hA (hts (.arrayClass .int) (List.mem_of_getElem? (i := 33) rfl)) rfl (fun _ => rfl) (by decide) (by decide) (Nat.le_of_ble_eq_true rfl) (Nat.le_of_ble_eq_true rfl) (Nat.le_of_ble_eq_true rfl) dX13_init_100 21 (by decide) (hts (.fieldLink RX13 45 "LevelUnitsModel" "nl" "[I") (List.mem_of_getElem? (i := 41) rfl)) (fun _ h9 => h9) rfl rfl (by decide +kernel) dX13_init_102 (fun q_39 F_41 H_j_42 locs_j_42 eF_41 hP_j_42 hD_j_42 hS_j_42 => ?_)
  have k0_j_42 : F_41 0 = .int 0 := fu_ne eF_41 (by decide) k0_j_38
  have k3_j_42 : F_41 3 = .int 0 := fu_ne eF_41 (by decide) k3_j_38
  have k98_j_42 : F_41 98 = .int 0 := fu_ne eF_41 (by decide) k98_j_38
  have k100_j_42 : F_41 100 = .int 0 := fu_ne eF_41 (by decide) k100_j_38
  have k1_j_42 : F_41 1 = .ref q_1 := fu_ne eF_41 (by decide) k1_j_38
  have k2_j_42 : F_41 2 = .ref q_3 := fu_ne eF_41 (by decide) k2_j_38
  have k9_j_42 : F_41 9 = .ref q_11 := fu_ne eF_41 (by decide) k9_j_38
  have k10_j_42 : F_41 10 = .ref q_15 := fu_ne eF_41 (by decide) k10_j_38
  have k11_j_42 : F_41 11 = .ref q_19 := fu_ne eF_41 (by decide) k11_j_38
  have k13_j_42 : F_41 13 = .ref q_23 := fu_ne eF_41 (by decide) k13_j_38
  have k14_j_42 : F_41 14 = .ref q_27 := fu_ne eF_41 (by decide) k14_j_38
  have k15_j_42 : F_41 15 = .ref q_31 := fu_ne eF_41 (by decide) k15_j_38
  clear eF_41 k0_j_38 k3_j_38 k98_j_38 k100_j_38 k1_j_38 k2_j_38 k9_j_38 k10_j_38 k11_j_38 k13_j_38 k14_j_38 k15_j_38 hP hD hS
  have hP : va_P (dC, dI) vwCl [(h0, .inr (15, fl 134 F_41)), (q_1, .inr (14, [.null, .null, .null, .null, .null, .int 0])), (q_3, .inl (cy_4, 6000, .inl (fun _ => 0))), (q_11, .inl (cy_12, 6002, .inl (fun _ => 0))), (q_15, .inl (cy_16, 6002, .inl (fun _ => 0))), (q_19, .inl (cy_20, 6002, .inl (fun _ => 0))), (q_23, .inl (cy_24, 6000, .inl (fun _ => 0))), (q_27, .inl (cy_28, 6000, .inl (fun _ => 0))), (q_31, .inl (cy_32, 6600, .inl (fun _ => 0)))] H_j_42 := hP_j_42
  have hD : va_D A [(h0, .inr (15, fl 134 F_41)), (q_1, .inr (14, [.null, .null, .null, .null, .null, .int 0])), (q_3, .inl (cy_4, 6000, .inl (fun _ => 0))), (q_11, .inl (cy_12, 6002, .inl (fun _ => 0))), (q_15, .inl (cy_16, 6002, .inl (fun _ => 0))), (q_19, .inl (cy_20, 6002, .inl (fun _ => 0))), (q_23, .inl (cy_24, 6000, .inl (fun _ => 0))), (q_27, .inl (cy_28, 6000, .inl (fun _ => 0))), (q_31, .inl (cy_32, 6600, .inl (fun _ => 0)))] := hD_j_42
  have hS := hS_j_42
  clear hP_j_42 hD_j_42 hS_j_42
  refine W.widen (k := 11) (n := 80612) (Nat.le_of_ble_eq_true rfl) (Nat.le_of_ble_eq_true rfl) ?_
  refine lv_aload_n hx hb dX13_init_105 rfl (lv_at hl 0 rfl) ?_
  refine lv_sipush (v := 16000) hx hb dX13_init_106 (by decide) ?_
  refine mstep (X := [(q_1, .inr (14, [.null, .null, .null, .null, .null, .int 0])), (q_3, .inl (cy_4, 6000, .inl (fun _ => 0))), (q_11, .inl (cy_12, 6002, .inl (fun _ => 0))), (q_15, .inl (cy_16, 6002, .inl (fun _ => 0))), (q_19, .inl (cy_20, 6002, .inl (fun _ => 0))), (q_23, .inl (cy_24, 6000, .inl (fun _ => 0))), (q_27, .inl (cy_28, 6000, .inl (fun _ => 0))), (q_31, .inl (cy_32, 6600, .inl (fun _ => 0)))]) (F := F_41) (atype := .int) (ty := .int) (a0 := (16000, .inl (fun _ => 0))) (N' := 16000) hx hb hts in_cc_Model_init_RX13 hown hin hK hP hD hS hA (hts (.arrayClass .int) (List.mem_of_getElem? (i := 33) rfl)) rfl (fun _ => rfl) (by decide) (by decide) (Nat.le_of_ble_eq_true rfl) (Nat.le_of_ble_eq_true rfl) (Nat.le_of_ble_eq_true rfl) dX13_init_109 22 (by decide) (hts (.fieldLink RX13 48 "LevelUnitsModel" "na" "[I") (List.mem_of_getElem? (i := 42) rfl)) (fun _ h9 => h9) rfl rfl (by decide +kernel) dX13_init_111 (fun q_43 F_45 H_j_46 locs_j_46 eF_45 hP_j_46 hD_j_46 hS_j_46 => ?_)
  have k0_j_46 : F_45 0 = .int 0 := fu_ne eF_45 (by decide) k0_j_42
  have k3_j_46 : F_45 3 = .int 0 := fu_ne eF_45 (by decide) k3_j_42
  have k98_j_46 : F_45 98 = .int 0 := fu_ne eF_45 (by decide) k98_j_42
  have k100_j_46 : F_45 100 = .int 0 := fu_ne eF_45 (by decide) k100_j_42
  have k1_j_46 : F_45 1 = .ref q_1 := fu_ne eF_45 (by decide) k1_j_42
  have k2_j_46 : F_45 2 = .ref q_3 := fu_ne eF_45 (by decide) k2_j_42
  have k9_j_46 : F_45 9 = .ref q_11 := fu_ne eF_45 (by decide) k9_j_42
  have k10_j_46 : F_45 10 = .ref q_15 := fu_ne eF_45 (by decide) k10_j_42
  have k11_j_46 : F_45 11 = .ref q_19 := fu_ne eF_45 (by decide) k11_j_42
  have k13_j_46 : F_45 13 = .ref q_23 := fu_ne eF_45 (by decide) k13_j_42
  have k14_j_46 : F_45 14 = .ref q_27 := fu_ne eF_45 (by decide) k14_j_42
  have k15_j_46 : F_45 15 = .ref q_31 := fu_ne eF_45 (by decide) k15_j_42
  clear eF_45 k0_j_42 k3_j_42 k98_j_42 k100_j_42 k1_j_42 k2_j_42 k9_j_42 k10_j_42 k11_j_42 k13_j_42 k14_j_42 k15_j_42 hP hD hS
  have hP : va_P (dC, dI) vwCl [(h0, .inr (15, fl 134 F_45)), (q_1, .inr (14, [.null, .null, .null, .null, .null, .int 0])), (q_3, .inl (cy_4, 6000, .inl (fun _ => 0))), (q_11, .inl (cy_12, 6002, .inl (fun _ => 0))), (q_15, .inl (cy_16, 6002, .inl (fun _ => 0))), (q_19, .inl (cy_20, 6002, .inl (fun _ => 0))), (q_23, .inl (cy_24, 6000, .inl (fun _ => 0))), (q_27, .inl (cy_28, 6000, .inl (fun _ => 0))), (q_31, .inl (cy_32, 6600, .inl (fun _ => 0)))] H_j_46 := hP_j_46
  have hD : va_D A [(h0, .inr (15, fl 134 F_45)), (q_1, .inr (14, [.null, .null, .null, .null, .null, .int 0])), (q_3, .inl (cy_4, 6000, .inl (fun _ => 0))), (q_11, .inl (cy_12, 6002, .inl (fun _ => 0))), (q_15, .inl (cy_16, 6002, .inl (fun _ => 0))), (q_19, .inl (cy_20, 6002, .inl (fun _ => 0))), (q_23, .inl (cy_24, 6000, .inl (fun _ => 0))), (q_27, .inl (cy_28, 6000, .inl (fun _ => 0))), (q_31, .inl (cy_32, 6600, .inl (fun _ => 0)))] := hD_j_46
  have hS := hS_j_46
  clear hP_j_46 hD_j_46 hS_j_46
  refine W.widen (k := 12) (n := 96612) (Nat.le_of_ble_eq_true rfl) (Nat.le_of_ble_eq_true rfl) ?_
  refine lv_aload_n hx hb dX13_init_114 rfl (lv_at hl 0 rfl) ?_
  refine lv_sipush (v := 16000) hx hb dX13_init_115 (by decide) ?_
  refine mstep (X := [(q_1, .inr (14, [.null, .null, .null, .null, .null, .int 0])), (q_3, .inl (cy_4, 6000, .inl (fun _ => 0))), (q_11, .inl (cy_12, 6002, .inl (fun _ => 0))), (q_15, .inl (cy_16, 6002, .inl (fun _ => 0))), (q_19, .inl (cy_20, 6002, .inl (fun _ => 0))), (q_23, .inl (cy_24, 6000, .inl (fun _ => 0))), (q_27, .inl (cy_28, 6000, .inl (fun _ => 0))), (q_31, .inl (cy_32, 6600, .inl (fun _ => 0)))]) (F := F_45) (atype := .int) (ty := .int) (a0 := (16000, .inl (fun _ => 0))) (N' := 16000) hx hb hts in_cc_Model_init_RX13 hown hin hK hP hD hS hA (hts (.arrayClass .int) (List.mem_of_getElem? (i := 33) rfl)) rfl (fun _ => rfl) (by decide) (by decide) (Nat.le_of_ble_eq_true rfl) (Nat.le_of_ble_eq_true rfl) (Nat.le_of_ble_eq_true rfl) dX13_init_118 23 (by decide) (hts (.fieldLink RX13 51 "LevelUnitsModel" "nb" "[I") (List.mem_of_getElem? (i := 43) rfl)) (fun _ h9 => h9) rfl rfl (by decide +kernel) dX13_init_120 (fun q_47 F_49 H_j_50 locs_j_50 eF_49 hP_j_50 hD_j_50 hS_j_50 => ?_)
  have k0_j_50 : F_49 0 = .int 0 := fu_ne eF_49 (by decide) k0_j_46
  have k3_j_50 : F_49 3 = .int 0 := fu_ne eF_49 (by decide) k3_j_46
  have k98_j_50 : F_49 98 = .int 0 := fu_ne eF_49 (by decide) k98_j_46
  have k100_j_50 : F_49 100 = .int 0 := fu_ne eF_49 (by decide) k100_j_46
  have k1_j_50 : F_49 1 = .ref q_1 := fu_ne eF_49 (by decide) k1_j_46
  have k2_j_50 : F_49 2 = .ref q_3 := fu_ne eF_49 (by decide) k2_j_46
  have k9_j_50 : F_49 9 = .ref q_11 := fu_ne eF_49 (by decide) k9_j_46
  have k10_j_50 : F_49 10 = .ref q_15 := fu_ne eF_49 (by decide) k10_j_46
  have k11_j_50 : F_49 11 = .ref q_19 := fu_ne eF_49 (by decide) k11_j_46
  have k13_j_50 : F_49 13 = .ref q_23 := fu_ne eF_49 (by decide) k13_j_46
  have k14_j_50 : F_49 14 = .ref q_27 := fu_ne eF_49 (by decide) k14_j_46
  have k15_j_50 : F_49 15 = .ref q_31 := fu_ne eF_49 (by decide) k15_j_46
  clear eF_49 k0_j_46 k3_j_46 k98_j_46 k100_j_46 k1_j_46 k2_j_46 k9_j_46 k10_j_46 k11_j_46 k13_j_46 k14_j_46 k15_j_46 hP hD hS
  have hP : va_P (dC, dI) vwCl [(h0, .inr (15, fl 134 F_49)), (q_1, .inr (14, [.null, .null, .null, .null, .null, .int 0])), (q_3, .inl (cy_4, 6000, .inl (fun _ => 0))), (q_11, .inl (cy_12, 6002, .inl (fun _ => 0))), (q_15, .inl (cy_16, 6002, .inl (fun _ => 0))), (q_19, .inl (cy_20, 6002, .inl (fun _ => 0))), (q_23, .inl (cy_24, 6000, .inl (fun _ => 0))), (q_27, .inl (cy_28, 6000, .inl (fun _ => 0))), (q_31, .inl (cy_32, 6600, .inl (fun _ => 0)))] H_j_50 := hP_j_50
  have hD : va_D A [(h0, .inr (15, fl 134 F_49)), (q_1, .inr (14, [.null, .null, .null, .null, .null, .int 0])), (q_3, .inl (cy_4, 6000, .inl (fun _ => 0))), (q_11, .inl (cy_12, 6002, .inl (fun _ => 0))), (q_15, .inl (cy_16, 6002, .inl (fun _ => 0))), (q_19, .inl (cy_20, 6002, .inl (fun _ => 0))), (q_23, .inl (cy_24, 6000, .inl (fun _ => 0))), (q_27, .inl (cy_28, 6000, .inl (fun _ => 0))), (q_31, .inl (cy_32, 6600, .inl (fun _ => 0)))] := hD_j_50
  have hS := hS_j_50
  clear hP_j_50 hD_j_50 hS_j_50
  refine W.widen (k := 13) (n := 112612) (Nat.le_of_ble_eq_true rfl) (Nat.le_of_ble_eq_true rfl) ?_
  refine lv_aload_n hx hb dX13_init_123 rfl (lv_at hl 0 rfl) ?_
  refine lv_sipush (v := 16000) hx hb dX13_init_124 (by decide) ?_
  refine mstep (X := [(q_1, .inr (14, [.null, .null, .null, .null, .null, .int 0])), (q_3, .inl (cy_4, 6000, .inl (fun _ => 0))), (q_11, .inl (cy_12, 6002, .inl (fun _ => 0))), (q_15, .inl (cy_16, 6002, .inl (fun _ => 0))), (q_19, .inl (cy_20, 6002, .inl (fun _ => 0))), (q_23, .inl (cy_24, 6000, .inl (fun _ => 0))), (q_27, .inl (cy_28, 6000, .inl (fun _ => 0))), (q_31, .inl (cy_32, 6600, .inl (fun _ => 0)))]) (F := F_49) (atype := .int) (ty := .int) (a0 := (16000, .inl (fun _ => 0))) (N' := 16000) hx hb hts in_cc_Model_init_RX13 hown hin hK hP hD hS hA (hts (.arrayClass .int) (List.mem_of_getElem? (i := 33) rfl)) rfl (fun _ => rfl) (by decide) (by decide) (Nat.le_of_ble_eq_true rfl) (Nat.le_of_ble_eq_true rfl) (Nat.le_of_ble_eq_true rfl) dX13_init_127 24 (by decide) (hts (.fieldLink RX13 54 "LevelUnitsModel" "nc" "[I") (List.mem_of_getElem? (i := 44) rfl)) (fun _ h9 => h9) rfl rfl (by decide +kernel) dX13_init_129 (fun q_51 F_53 H_j_54 locs_j_54 eF_53 hP_j_54 hD_j_54 hS_j_54 => ?_)
  have k0_j_54 : F_53 0 = .int 0 := fu_ne eF_53 (by decide) k0_j_50
  have k3_j_54 : F_53 3 = .int 0 := fu_ne eF_53 (by decide) k3_j_50
  have k98_j_54 : F_53 98 = .int 0 := fu_ne eF_53 (by decide) k98_j_50
  have k100_j_54 : F_53 100 = .int 0 := fu_ne eF_53 (by decide) k100_j_50
  have k1_j_54 : F_53 1 = .ref q_1 := fu_ne eF_53 (by decide) k1_j_50
  have k2_j_54 : F_53 2 = .ref q_3 := fu_ne eF_53 (by decide) k2_j_50
  have k9_j_54 : F_53 9 = .ref q_11 := fu_ne eF_53 (by decide) k9_j_50
  have k10_j_54 : F_53 10 = .ref q_15 := fu_ne eF_53 (by decide) k10_j_50
  have k11_j_54 : F_53 11 = .ref q_19 := fu_ne eF_53 (by decide) k11_j_50
  have k13_j_54 : F_53 13 = .ref q_23 := fu_ne eF_53 (by decide) k13_j_50
  have k14_j_54 : F_53 14 = .ref q_27 := fu_ne eF_53 (by decide) k14_j_50
  have k15_j_54 : F_53 15 = .ref q_31 := fu_ne eF_53 (by decide) k15_j_50
  clear eF_53 k0_j_50 k3_j_50 k98_j_50 k100_j_50 k1_j_50 k2_j_50 k9_j_50 k10_j_50 k11_j_50 k13_j_50 k14_j_50 k15_j_50 hP hD hS
  have hP : va_P (dC, dI) vwCl [(h0, .inr (15, fl 134 F_53)), (q_1, .inr (14, [.null, .null, .null, .null, .null, .int 0])), (q_3, .inl (cy_4, 6000, .inl (fun _ => 0))), (q_11, .inl (cy_12, 6002, .inl (fun _ => 0))), (q_15, .inl (cy_16, 6002, .inl (fun _ => 0))), (q_19, .inl (cy_20, 6002, .inl (fun _ => 0))), (q_23, .inl (cy_24, 6000, .inl (fun _ => 0))), (q_27, .inl (cy_28, 6000, .inl (fun _ => 0))), (q_31, .inl (cy_32, 6600, .inl (fun _ => 0)))] H_j_54 := hP_j_54
  have hD : va_D A [(h0, .inr (15, fl 134 F_53)), (q_1, .inr (14, [.null, .null, .null, .null, .null, .int 0])), (q_3, .inl (cy_4, 6000, .inl (fun _ => 0))), (q_11, .inl (cy_12, 6002, .inl (fun _ => 0))), (q_15, .inl (cy_16, 6002, .inl (fun _ => 0))), (q_19, .inl (cy_20, 6002, .inl (fun _ => 0))), (q_23, .inl (cy_24, 6000, .inl (fun _ => 0))), (q_27, .inl (cy_28, 6000, .inl (fun _ => 0))), (q_31, .inl (cy_32, 6600, .inl (fun _ => 0)))] := hD_j_54
  have hS := hS_j_54
  clear hP_j_54 hD_j_54 hS_j_54
  refine W.widen (k := 14) (n := 128612) (Nat.le_of_ble_eq_true rfl) (Nat.le_of_ble_eq_true rfl) ?_
  refine lv_aload_n hx hb dX13_init_132 rfl (lv_at hl 0 rfl) ?_
  refine lv_sipush (v := 16000) hx hb dX13_init_133 (by decide) ?_
  refine mstep (X := [(q_1, .inr (14, [.null, .null, .null, .null, .null, .int 0])), (q_3, .inl (cy_4, 6000, .inl (fun _ => 0))), (q_11, .inl (cy_12, 6002, .inl (fun _ => 0))), (q_15, .inl (cy_16, 6002, .inl (fun _ => 0))), (q_19, .inl (cy_20, 6002, .inl (fun _ => 0))), (q_23, .inl (cy_24, 6000, .inl (fun _ => 0))), (q_27, .inl (cy_28, 6000, .inl (fun _ => 0))), (q_31, .inl (cy_32, 6600, .inl (fun _ => 0)))]) (F := F_53) (atype := .int) (ty := .int) (a0 := (16000, .inl (fun _ => 0))) (N' := 16000) hx hb hts in_cc_Model_init_RX13 hown hin hK hP hD hS hA (hts (.arrayClass .int) (List.mem_of_getElem? (i := 33) rfl)) rfl (fun _ => rfl) (by decide) (by decide) (Nat.le_of_ble_eq_true rfl) (Nat.le_of_ble_eq_true rfl) (Nat.le_of_ble_eq_true rfl) dX13_init_136 25 (by decide) (hts (.fieldLink RX13 57 "LevelUnitsModel" "nd" "[I") (List.mem_of_getElem? (i := 45) rfl)) (fun _ h9 => h9) rfl rfl (by decide +kernel) dX13_init_138 (fun q_55 F_57 H_j_58 locs_j_58 eF_57 hP_j_58 hD_j_58 hS_j_58 => ?_)
  have k0_j_58 : F_57 0 = .int 0 := fu_ne eF_57 (by decide) k0_j_54
  have k3_j_58 : F_57 3 = .int 0 := fu_ne eF_57 (by decide) k3_j_54
  have k98_j_58 : F_57 98 = .int 0 := fu_ne eF_57 (by decide) k98_j_54
  have k100_j_58 : F_57 100 = .int 0 := fu_ne eF_57 (by decide) k100_j_54
  have k1_j_58 : F_57 1 = .ref q_1 := fu_ne eF_57 (by decide) k1_j_54
  have k2_j_58 : F_57 2 = .ref q_3 := fu_ne eF_57 (by decide) k2_j_54
  have k9_j_58 : F_57 9 = .ref q_11 := fu_ne eF_57 (by decide) k9_j_54
  have k10_j_58 : F_57 10 = .ref q_15 := fu_ne eF_57 (by decide) k10_j_54
  have k11_j_58 : F_57 11 = .ref q_19 := fu_ne eF_57 (by decide) k11_j_54
  have k13_j_58 : F_57 13 = .ref q_23 := fu_ne eF_57 (by decide) k13_j_54
  have k14_j_58 : F_57 14 = .ref q_27 := fu_ne eF_57 (by decide) k14_j_54
  have k15_j_58 : F_57 15 = .ref q_31 := fu_ne eF_57 (by decide) k15_j_54
  clear eF_57 k0_j_54 k3_j_54 k98_j_54 k100_j_54 k1_j_54 k2_j_54 k9_j_54 k10_j_54 k11_j_54 k13_j_54 k14_j_54 k15_j_54 hP hD hS
  have hP : va_P (dC, dI) vwCl [(h0, .inr (15, fl 134 F_57)), (q_1, .inr (14, [.null, .null, .null, .null, .null, .int 0])), (q_3, .inl (cy_4, 6000, .inl (fun _ => 0))), (q_11, .inl (cy_12, 6002, .inl (fun _ => 0))), (q_15, .inl (cy_16, 6002, .inl (fun _ => 0))), (q_19, .inl (cy_20, 6002, .inl (fun _ => 0))), (q_23, .inl (cy_24, 6000, .inl (fun _ => 0))), (q_27, .inl (cy_28, 6000, .inl (fun _ => 0))), (q_31, .inl (cy_32, 6600, .inl (fun _ => 0)))] H_j_58 := hP_j_58
  have hD : va_D A [(h0, .inr (15, fl 134 F_57)), (q_1, .inr (14, [.null, .null, .null, .null, .null, .int 0])), (q_3, .inl (cy_4, 6000, .inl (fun _ => 0))), (q_11, .inl (cy_12, 6002, .inl (fun _ => 0))), (q_15, .inl (cy_16, 6002, .inl (fun _ => 0))), (q_19, .inl (cy_20, 6002, .inl (fun _ => 0))), (q_23, .inl (cy_24, 6000, .inl (fun _ => 0))), (q_27, .inl (cy_28, 6000, .inl (fun _ => 0))), (q_31, .inl (cy_32, 6600, .inl (fun _ => 0)))] := hD_j_58
  have hS := hS_j_58
  clear hP_j_58 hD_j_58 hS_j_58
  refine W.widen (k := 15) (n := 144612) (Nat.le_of_ble_eq_true rfl) (Nat.le_of_ble_eq_true rfl) ?_
  refine lv_aload_n hx hb dX13_init_141 rfl (lv_at hl 0 rfl) ?_
  refine lv_sipush (v := 16000) hx hb dX13_init_142 (by decide) ?_
  refine mstep (X := [(q_1, .inr (14, [.null, .null, .null, .null, .null, .int 0])), (q_3, .inl (cy_4, 6000, .inl (fun _ => 0))), (q_11, .inl (cy_12, 6002, .inl (fun _ => 0))), (q_15, .inl (cy_16, 6002, .inl (fun _ => 0))), (q_19, .inl (cy_20, 6002, .inl (fun _ => 0))), (q_23, .inl (cy_24, 6000, .inl (fun _ => 0))), (q_27, .inl (cy_28, 6000, .inl (fun _ => 0))), (q_31, .inl (cy_32, 6600, .inl (fun _ => 0)))]) (F := F_57) (atype := .int) (ty := .int) (a0 := (16000, .inl (fun _ => 0))) (N' := 16000) hx hb hts in_cc_Model_init_RX13 hown hin hK hP hD hS hA (hts (.arrayClass .int) (List.mem_of_getElem? (i := 33) rfl)) rfl (fun _ => rfl) (by decide) (by decide) (Nat.le_of_ble_eq_true rfl) (Nat.le_of_ble_eq_true rfl) (Nat.le_of_ble_eq_true rfl) dX13_init_145 26 (by decide) (hts (.fieldLink RX13 60 "LevelUnitsModel" "ne" "[I") (List.mem_of_getElem? (i := 46) rfl)) (fun _ h9 => h9) rfl rfl (by decide +kernel) dX13_init_147 (fun q_59 F_61 H_j_62 locs_j_62 eF_61 hP_j_62 hD_j_62 hS_j_62 => ?_)
  have k0_j_62 : F_61 0 = .int 0 := fu_ne eF_61 (by decide) k0_j_58
  have k3_j_62 : F_61 3 = .int 0 := fu_ne eF_61 (by decide) k3_j_58
  have k98_j_62 : F_61 98 = .int 0 := fu_ne eF_61 (by decide) k98_j_58
  have k100_j_62 : F_61 100 = .int 0 := fu_ne eF_61 (by decide) k100_j_58
  have k1_j_62 : F_61 1 = .ref q_1 := fu_ne eF_61 (by decide) k1_j_58
  have k2_j_62 : F_61 2 = .ref q_3 := fu_ne eF_61 (by decide) k2_j_58
  have k9_j_62 : F_61 9 = .ref q_11 := fu_ne eF_61 (by decide) k9_j_58
  have k10_j_62 : F_61 10 = .ref q_15 := fu_ne eF_61 (by decide) k10_j_58
  have k11_j_62 : F_61 11 = .ref q_19 := fu_ne eF_61 (by decide) k11_j_58
  have k13_j_62 : F_61 13 = .ref q_23 := fu_ne eF_61 (by decide) k13_j_58
  have k14_j_62 : F_61 14 = .ref q_27 := fu_ne eF_61 (by decide) k14_j_58
  have k15_j_62 : F_61 15 = .ref q_31 := fu_ne eF_61 (by decide) k15_j_58
  clear eF_61 k0_j_58 k3_j_58 k98_j_58 k100_j_58 k1_j_58 k2_j_58 k9_j_58 k10_j_58 k11_j_58 k13_j_58 k14_j_58 k15_j_58 hP hD hS
  have hP : va_P (dC, dI) vwCl [(h0, .inr (15, fl 134 F_61)), (q_1, .inr (14, [.null, .null, .null, .null, .null, .int 0])), (q_3, .inl (cy_4, 6000, .inl (fun _ => 0))), (q_11, .inl (cy_12, 6002, .inl (fun _ => 0))), (q_15, .inl (cy_16, 6002, .inl (fun _ => 0))), (q_19, .inl (cy_20, 6002, .inl (fun _ => 0))), (q_23, .inl (cy_24, 6000, .inl (fun _ => 0))), (q_27, .inl (cy_28, 6000, .inl (fun _ => 0))), (q_31, .inl (cy_32, 6600, .inl (fun _ => 0)))] H_j_62 := hP_j_62
  have hD : va_D A [(h0, .inr (15, fl 134 F_61)), (q_1, .inr (14, [.null, .null, .null, .null, .null, .int 0])), (q_3, .inl (cy_4, 6000, .inl (fun _ => 0))), (q_11, .inl (cy_12, 6002, .inl (fun _ => 0))), (q_15, .inl (cy_16, 6002, .inl (fun _ => 0))), (q_19, .inl (cy_20, 6002, .inl (fun _ => 0))), (q_23, .inl (cy_24, 6000, .inl (fun _ => 0))), (q_27, .inl (cy_28, 6000, .inl (fun _ => 0))), (q_31, .inl (cy_32, 6600, .inl (fun _ => 0)))] := hD_j_62
  have hS := hS_j_62
  clear hP_j_62 hD_j_62 hS_j_62
  refine W.widen (k := 16) (n := 160612) (Nat.le_of_ble_eq_true rfl) (Nat.le_of_ble_eq_true rfl) ?_
  refine lv_aload_n hx hb dX13_init_150 rfl (lv_at hl 0 rfl) ?_
  refine lv_sipush (v := 16000) hx hb dX13_init_151 (by decide) ?_
  refine mstep (X := [(q_1, .inr (14, [.null, .null, .null, .null, .null, .int 0])), (q_3, .inl (cy_4, 6000, .inl (fun _ => 0))), (q_11, .inl (cy_12, 6002, .inl (fun _ => 0))), (q_15, .inl (cy_16, 6002, .inl (fun _ => 0))), (q_19, .inl (cy_20, 6002, .inl (fun _ => 0))), (q_23, .inl (cy_24, 6000, .inl (fun _ => 0))), (q_27, .inl (cy_28, 6000, .inl (fun _ => 0))), (q_31, .inl (cy_32, 6600, .inl (fun _ => 0)))]) (F := F_61) (atype := .int) (ty := .int) (a0 := (16000, .inl (fun _ => 0))) (N' := 16000) hx hb hts in_cc_Model_init_RX13 hown hin hK hP hD hS hA (hts (.arrayClass .int) (List.mem_of_getElem? (i := 33) rfl)) rfl (fun _ => rfl) (by decide) (by decide) (Nat.le_of_ble_eq_true rfl) (Nat.le_of_ble_eq_true rfl) (Nat.le_of_ble_eq_true rfl) dX13_init_154 27 (by decide) (hts (.fieldLink RX13 63 "LevelUnitsModel" "nn" "[I") (List.mem_of_getElem? (i := 47) rfl)) (fun _ h9 => h9) rfl rfl (by decide +kernel) dX13_init_156 (fun q_63 F_65 H_j_66 locs_j_66 eF_65 hP_j_66 hD_j_66 hS_j_66 => ?_)
  have k0_j_66 : F_65 0 = .int 0 := fu_ne eF_65 (by decide) k0_j_62
  have k3_j_66 : F_65 3 = .int 0 := fu_ne eF_65 (by decide) k3_j_62
  have k98_j_66 : F_65 98 = .int 0 := fu_ne eF_65 (by decide) k98_j_62
  have k100_j_66 : F_65 100 = .int 0 := fu_ne eF_65 (by decide) k100_j_62
  have k1_j_66 : F_65 1 = .ref q_1 := fu_ne eF_65 (by decide) k1_j_62
  have k2_j_66 : F_65 2 = .ref q_3 := fu_ne eF_65 (by decide) k2_j_62
  have k9_j_66 : F_65 9 = .ref q_11 := fu_ne eF_65 (by decide) k9_j_62
  have k10_j_66 : F_65 10 = .ref q_15 := fu_ne eF_65 (by decide) k10_j_62
  have k11_j_66 : F_65 11 = .ref q_19 := fu_ne eF_65 (by decide) k11_j_62
  have k13_j_66 : F_65 13 = .ref q_23 := fu_ne eF_65 (by decide) k13_j_62
  have k14_j_66 : F_65 14 = .ref q_27 := fu_ne eF_65 (by decide) k14_j_62
  have k15_j_66 : F_65 15 = .ref q_31 := fu_ne eF_65 (by decide) k15_j_62
  clear eF_65 k0_j_62 k3_j_62 k98_j_62 k100_j_62 k1_j_62 k2_j_62 k9_j_62 k10_j_62 k11_j_62 k13_j_62 k14_j_62 k15_j_62 hP hD hS
  have hP : va_P (dC, dI) vwCl [(h0, .inr (15, fl 134 F_65)), (q_1, .inr (14, [.null, .null, .null, .null, .null, .int 0])), (q_3, .inl (cy_4, 6000, .inl (fun _ => 0))), (q_11, .inl (cy_12, 6002, .inl (fun _ => 0))), (q_15, .inl (cy_16, 6002, .inl (fun _ => 0))), (q_19, .inl (cy_20, 6002, .inl (fun _ => 0))), (q_23, .inl (cy_24, 6000, .inl (fun _ => 0))), (q_27, .inl (cy_28, 6000, .inl (fun _ => 0))), (q_31, .inl (cy_32, 6600, .inl (fun _ => 0)))] H_j_66 := hP_j_66
  have hD : va_D A [(h0, .inr (15, fl 134 F_65)), (q_1, .inr (14, [.null, .null, .null, .null, .null, .int 0])), (q_3, .inl (cy_4, 6000, .inl (fun _ => 0))), (q_11, .inl (cy_12, 6002, .inl (fun _ => 0))), (q_15, .inl (cy_16, 6002, .inl (fun _ => 0))), (q_19, .inl (cy_20, 6002, .inl (fun _ => 0))), (q_23, .inl (cy_24, 6000, .inl (fun _ => 0))), (q_27, .inl (cy_28, 6000, .inl (fun _ => 0))), (q_31, .inl (cy_32, 6600, .inl (fun _ => 0)))] := hD_j_66
  have hS := hS_j_66
  clear hP_j_66 hD_j_66 hS_j_66
  refine W.widen (k := 17) (n := 176612) (Nat.le_of_ble_eq_true rfl) (Nat.le_of_ble_eq_true rfl) ?_
  refine lv_aload_n hx hb dX13_init_159 rfl (lv_at hl 0 rfl) ?_
  refine lv_sipush (v := 16000) hx hb dX13_init_160 (by decide) ?_
  refine mstep (X := [(q_1, .inr (14, [.null, .null, .null, .null, .null, .int 0])), (q_3, .inl (cy_4, 6000, .inl (fun _ => 0))), (q_11, .inl (cy_12, 6002, .inl (fun _ => 0))), (q_15, .inl (cy_16, 6002, .inl (fun _ => 0))), (q_19, .inl (cy_20, 6002, .inl (fun _ => 0))), (q_23, .inl (cy_24, 6000, .inl (fun _ => 0))), (q_27, .inl (cy_28, 6000, .inl (fun _ => 0))), (q_31, .inl (cy_32, 6600, .inl (fun _ => 0)))]) (F := F_65) (atype := .int) (ty := .int) (a0 := (16000, .inl (fun _ => 0))) (N' := 16000) hx hb hts in_cc_Model_init_RX13 hown hin hK hP hD hS hA (hts (.arrayClass .int) (List.mem_of_getElem? (i := 33) rfl)) rfl (fun _ => rfl) (by decide) (by decide) (Nat.le_of_ble_eq_true rfl) (Nat.le_of_ble_eq_true rfl) (Nat.le_of_ble_eq_true rfl) dX13_init_163 28 (by decide) (hts (.fieldLink RX13 66 "LevelUnitsModel" "ns" "[I") (List.mem_of_getElem? (i := 48) rfl)) (fun _ h9 => h9) rfl rfl (by decide +kernel) dX13_init_165 (fun q_67 F_69 H_j_70 locs_j_70 eF_69 hP_j_70 hD_j_70 hS_j_70 => ?_)
  have k0_j_70 : F_69 0 = .int 0 := fu_ne eF_69 (by decide) k0_j_66
  have k3_j_70 : F_69 3 = .int 0 := fu_ne eF_69 (by decide) k3_j_66
  have k98_j_70 : F_69 98 = .int 0 := fu_ne eF_69 (by decide) k98_j_66
  have k100_j_70 : F_69 100 = .int 0 := fu_ne eF_69 (by decide) k100_j_66
  have k1_j_70 : F_69 1 = .ref q_1 := fu_ne eF_69 (by decide) k1_j_66
  have k2_j_70 : F_69 2 = .ref q_3 := fu_ne eF_69 (by decide) k2_j_66
  have k9_j_70 : F_69 9 = .ref q_11 := fu_ne eF_69 (by decide) k9_j_66
  have k10_j_70 : F_69 10 = .ref q_15 := fu_ne eF_69 (by decide) k10_j_66
  have k11_j_70 : F_69 11 = .ref q_19 := fu_ne eF_69 (by decide) k11_j_66
  have k13_j_70 : F_69 13 = .ref q_23 := fu_ne eF_69 (by decide) k13_j_66
  have k14_j_70 : F_69 14 = .ref q_27 := fu_ne eF_69 (by decide) k14_j_66
  have k15_j_70 : F_69 15 = .ref q_31 := fu_ne eF_69 (by decide) k15_j_66
  clear eF_69 k0_j_66 k3_j_66 k98_j_66 k100_j_66 k1_j_66 k2_j_66 k9_j_66 k10_j_66 k11_j_66 k13_j_66 k14_j_66 k15_j_66 hP hD hS
  have hP : va_P (dC, dI) vwCl [(h0, .inr (15, fl 134 F_69)), (q_1, .inr (14, [.null, .null, .null, .null, .null, .int 0])), (q_3, .inl (cy_4, 6000, .inl (fun _ => 0))), (q_11, .inl (cy_12, 6002, .inl (fun _ => 0))), (q_15, .inl (cy_16, 6002, .inl (fun _ => 0))), (q_19, .inl (cy_20, 6002, .inl (fun _ => 0))), (q_23, .inl (cy_24, 6000, .inl (fun _ => 0))), (q_27, .inl (cy_28, 6000, .inl (fun _ => 0))), (q_31, .inl (cy_32, 6600, .inl (fun _ => 0)))] H_j_70 := hP_j_70
  have hD : va_D A [(h0, .inr (15, fl 134 F_69)), (q_1, .inr (14, [.null, .null, .null, .null, .null, .int 0])), (q_3, .inl (cy_4, 6000, .inl (fun _ => 0))), (q_11, .inl (cy_12, 6002, .inl (fun _ => 0))), (q_15, .inl (cy_16, 6002, .inl (fun _ => 0))), (q_19, .inl (cy_20, 6002, .inl (fun _ => 0))), (q_23, .inl (cy_24, 6000, .inl (fun _ => 0))), (q_27, .inl (cy_28, 6000, .inl (fun _ => 0))), (q_31, .inl (cy_32, 6600, .inl (fun _ => 0)))] := hD_j_70
  have hS := hS_j_70
  clear hP_j_70 hD_j_70 hS_j_70
  refine W.widen (k := 18) (n := 192612) (Nat.le_of_ble_eq_true rfl) (Nat.le_of_ble_eq_true rfl) ?_
  refine lv_aload_n hx hb dX13_init_168 rfl (lv_at hl 0 rfl) ?_
  refine lv_sipush (v := 16000) hx hb dX13_init_169 (by decide) ?_
  refine mstep (X := [(q_1, .inr (14, [.null, .null, .null, .null, .null, .int 0])), (q_3, .inl (cy_4, 6000, .inl (fun _ => 0))), (q_11, .inl (cy_12, 6002, .inl (fun _ => 0))), (q_15, .inl (cy_16, 6002, .inl (fun _ => 0))), (q_19, .inl (cy_20, 6002, .inl (fun _ => 0))), (q_23, .inl (cy_24, 6000, .inl (fun _ => 0))), (q_27, .inl (cy_28, 6000, .inl (fun _ => 0))), (q_31, .inl (cy_32, 6600, .inl (fun _ => 0)))]) (F := F_69) (atype := .int) (ty := .int) (a0 := (16000, .inl (fun _ => 0))) (N' := 16000) hx hb hts in_cc_Model_init_RX13 hown hin hK hP hD hS hA (hts (.arrayClass .int) (List.mem_of_getElem? (i := 33) rfl)) rfl (fun _ => rfl) (by decide) (by decide) (Nat.le_of_ble_eq_true rfl) (Nat.le_of_ble_eq_true rfl) (Nat.le_of_ble_eq_true rfl) dX13_init_172 29 (by decide) (hts (.fieldLink RX13 69 "LevelUnitsModel" "nu" "[I") (List.mem_of_getElem? (i := 49) rfl)) (fun _ h9 => h9) rfl rfl (by decide +kernel) dX13_init_174 (fun q_71 F_73 H_j_74 locs_j_74 eF_73 hP_j_74 hD_j_74 hS_j_74 => ?_)
  have k0_j_74 : F_73 0 = .int 0 := fu_ne eF_73 (by decide) k0_j_70
  have k3_j_74 : F_73 3 = .int 0 := fu_ne eF_73 (by decide) k3_j_70
  have k98_j_74 : F_73 98 = .int 0 := fu_ne eF_73 (by decide) k98_j_70
  have k100_j_74 : F_73 100 = .int 0 := fu_ne eF_73 (by decide) k100_j_70
  have k1_j_74 : F_73 1 = .ref q_1 := fu_ne eF_73 (by decide) k1_j_70
  have k2_j_74 : F_73 2 = .ref q_3 := fu_ne eF_73 (by decide) k2_j_70
  have k9_j_74 : F_73 9 = .ref q_11 := fu_ne eF_73 (by decide) k9_j_70
  have k10_j_74 : F_73 10 = .ref q_15 := fu_ne eF_73 (by decide) k10_j_70
  have k11_j_74 : F_73 11 = .ref q_19 := fu_ne eF_73 (by decide) k11_j_70
  have k13_j_74 : F_73 13 = .ref q_23 := fu_ne eF_73 (by decide) k13_j_70
  have k14_j_74 : F_73 14 = .ref q_27 := fu_ne eF_73 (by decide) k14_j_70
  have k15_j_74 : F_73 15 = .ref q_31 := fu_ne eF_73 (by decide) k15_j_70
  clear eF_73 k0_j_70 k3_j_70 k98_j_70 k100_j_70 k1_j_70 k2_j_70 k9_j_70 k10_j_70 k11_j_70 k13_j_70 k14_j_70 k15_j_70 hP hD hS
  have hP : va_P (dC, dI) vwCl [(h0, .inr (15, fl 134 F_73)), (q_1, .inr (14, [.null, .null, .null, .null, .null, .int 0])), (q_3, .inl (cy_4, 6000, .inl (fun _ => 0))), (q_11, .inl (cy_12, 6002, .inl (fun _ => 0))), (q_15, .inl (cy_16, 6002, .inl (fun _ => 0))), (q_19, .inl (cy_20, 6002, .inl (fun _ => 0))), (q_23, .inl (cy_24, 6000, .inl (fun _ => 0))), (q_27, .inl (cy_28, 6000, .inl (fun _ => 0))), (q_31, .inl (cy_32, 6600, .inl (fun _ => 0)))] H_j_74 := hP_j_74
  have hD : va_D A [(h0, .inr (15, fl 134 F_73)), (q_1, .inr (14, [.null, .null, .null, .null, .null, .int 0])), (q_3, .inl (cy_4, 6000, .inl (fun _ => 0))), (q_11, .inl (cy_12, 6002, .inl (fun _ => 0))), (q_15, .inl (cy_16, 6002, .inl (fun _ => 0))), (q_19, .inl (cy_20, 6002, .inl (fun _ => 0))), (q_23, .inl (cy_24, 6000, .inl (fun _ => 0))), (q_27, .inl (cy_28, 6000, .inl (fun _ => 0))), (q_31, .inl (cy_32, 6600, .inl (fun _ => 0)))] := hD_j_74
  have hS := hS_j_74
  clear hP_j_74 hD_j_74 hS_j_74
  refine W.widen (k := 19) (n := 208612) (Nat.le_of_ble_eq_true rfl) (Nat.le_of_ble_eq_true rfl) ?_
  refine lv_aload_n hx hb dX13_init_177 rfl (lv_at hl 0 rfl) ?_
  refine lv_sipush (v := 16000) hx hb dX13_init_178 (by decide) ?_
  refine mstep (X := [(q_1, .inr (14, [.null, .null, .null, .null, .null, .int 0])), (q_3, .inl (cy_4, 6000, .inl (fun _ => 0))), (q_11, .inl (cy_12, 6002, .inl (fun _ => 0))), (q_15, .inl (cy_16, 6002, .inl (fun _ => 0))), (q_19, .inl (cy_20, 6002, .inl (fun _ => 0))), (q_23, .inl (cy_24, 6000, .inl (fun _ => 0))), (q_27, .inl (cy_28, 6000, .inl (fun _ => 0))), (q_31, .inl (cy_32, 6600, .inl (fun _ => 0)))]) (F := F_73) (atype := .int) (ty := .int) (a0 := (16000, .inl (fun _ => 0))) (N' := 16000) hx hb hts in_cc_Model_init_RX13 hown hin hK hP hD hS hA (hts (.arrayClass .int) (List.mem_of_getElem? (i := 33) rfl)) rfl (fun _ => rfl) (by decide) (by decide) (Nat.le_of_ble_eq_true rfl) (Nat.le_of_ble_eq_true rfl) (Nat.le_of_ble_eq_true rfl) dX13_init_181 30 (by decide) (hts (.fieldLink RX13 72 "LevelUnitsModel" "nf" "[I") (List.mem_of_getElem? (i := 50) rfl)) (fun _ h9 => h9) rfl rfl (by decide +kernel) dX13_init_183 (fun q_75 F_77 H_j_78 locs_j_78 eF_77 hP_j_78 hD_j_78 hS_j_78 => ?_)
  have k0_j_78 : F_77 0 = .int 0 := fu_ne eF_77 (by decide) k0_j_74
  have k3_j_78 : F_77 3 = .int 0 := fu_ne eF_77 (by decide) k3_j_74
  have k98_j_78 : F_77 98 = .int 0 := fu_ne eF_77 (by decide) k98_j_74
  have k100_j_78 : F_77 100 = .int 0 := fu_ne eF_77 (by decide) k100_j_74
  have k1_j_78 : F_77 1 = .ref q_1 := fu_ne eF_77 (by decide) k1_j_74
  have k2_j_78 : F_77 2 = .ref q_3 := fu_ne eF_77 (by decide) k2_j_74
  have k9_j_78 : F_77 9 = .ref q_11 := fu_ne eF_77 (by decide) k9_j_74
  have k10_j_78 : F_77 10 = .ref q_15 := fu_ne eF_77 (by decide) k10_j_74
  have k11_j_78 : F_77 11 = .ref q_19 := fu_ne eF_77 (by decide) k11_j_74
  have k13_j_78 : F_77 13 = .ref q_23 := fu_ne eF_77 (by decide) k13_j_74
  have k14_j_78 : F_77 14 = .ref q_27 := fu_ne eF_77 (by decide) k14_j_74
  have k15_j_78 : F_77 15 = .ref q_31 := fu_ne eF_77 (by decide) k15_j_74
  clear eF_77 k0_j_74 k3_j_74 k98_j_74 k100_j_74 k1_j_74 k2_j_74 k9_j_74 k10_j_74 k11_j_74 k13_j_74 k14_j_74 k15_j_74 hP hD hS
  have hP : va_P (dC, dI) vwCl [(h0, .inr (15, fl 134 F_77)), (q_1, .inr (14, [.null, .null, .null, .null, .null, .int 0])), (q_3, .inl (cy_4, 6000, .inl (fun _ => 0))), (q_11, .inl (cy_12, 6002, .inl (fun _ => 0))), (q_15, .inl (cy_16, 6002, .inl (fun _ => 0))), (q_19, .inl (cy_20, 6002, .inl (fun _ => 0))), (q_23, .inl (cy_24, 6000, .inl (fun _ => 0))), (q_27, .inl (cy_28, 6000, .inl (fun _ => 0))), (q_31, .inl (cy_32, 6600, .inl (fun _ => 0)))] H_j_78 := hP_j_78
  have hD : va_D A [(h0, .inr (15, fl 134 F_77)), (q_1, .inr (14, [.null, .null, .null, .null, .null, .int 0])), (q_3, .inl (cy_4, 6000, .inl (fun _ => 0))), (q_11, .inl (cy_12, 6002, .inl (fun _ => 0))), (q_15, .inl (cy_16, 6002, .inl (fun _ => 0))), (q_19, .inl (cy_20, 6002, .inl (fun _ => 0))), (q_23, .inl (cy_24, 6000, .inl (fun _ => 0))), (q_27, .inl (cy_28, 6000, .inl (fun _ => 0))), (q_31, .inl (cy_32, 6600, .inl (fun _ => 0)))] := hD_j_78
  have hS := hS_j_78
  clear hP_j_78 hD_j_78 hS_j_78
  refine W.widen (k := 20) (n := 224612) (Nat.le_of_ble_eq_true rfl) (Nat.le_of_ble_eq_true rfl) ?_
  refine lv_aload_n hx hb dX13_init_186 rfl (lv_at hl 0 rfl) ?_
  refine lv_sipush (v := 16000) hx hb dX13_init_187 (by decide) ?_
  refine mstep (X := [(q_1, .inr (14, [.null, .null, .null, .null, .null, .int 0])), (q_3, .inl (cy_4, 6000, .inl (fun _ => 0))), (q_11, .inl (cy_12, 6002, .inl (fun _ => 0))), (q_15, .inl (cy_16, 6002, .inl (fun _ => 0))), (q_19, .inl (cy_20, 6002, .inl (fun _ => 0))), (q_23, .inl (cy_24, 6000, .inl (fun _ => 0))), (q_27, .inl (cy_28, 6000, .inl (fun _ => 0))), (q_31, .inl (cy_32, 6600, .inl (fun _ => 0)))]) (F := F_77) (atype := .int) (ty := .int) (a0 := (16000, .inl (fun _ => 0))) (N' := 16000) hx hb hts in_cc_Model_init_RX13 hown hin hK hP hD hS hA (hts (.arrayClass .int) (List.mem_of_getElem? (i := 33) rfl)) rfl (fun _ => rfl) (by decide) (by decide) (Nat.le_of_ble_eq_true rfl) (Nat.le_of_ble_eq_true rfl) (Nat.le_of_ble_eq_true rfl) dX13_init_190 31 (by decide) (hts (.fieldLink RX13 75 "LevelUnitsModel" "nm" "[I") (List.mem_of_getElem? (i := 51) rfl)) (fun _ h9 => h9) rfl rfl (by decide +kernel) dX13_init_192 (fun q_79 F_81 H_j_82 locs_j_82 eF_81 hP_j_82 hD_j_82 hS_j_82 => ?_)
  have k0_j_82 : F_81 0 = .int 0 := fu_ne eF_81 (by decide) k0_j_78
  have k3_j_82 : F_81 3 = .int 0 := fu_ne eF_81 (by decide) k3_j_78
  have k98_j_82 : F_81 98 = .int 0 := fu_ne eF_81 (by decide) k98_j_78
  have k100_j_82 : F_81 100 = .int 0 := fu_ne eF_81 (by decide) k100_j_78
  have k1_j_82 : F_81 1 = .ref q_1 := fu_ne eF_81 (by decide) k1_j_78
  have k2_j_82 : F_81 2 = .ref q_3 := fu_ne eF_81 (by decide) k2_j_78
  have k9_j_82 : F_81 9 = .ref q_11 := fu_ne eF_81 (by decide) k9_j_78
  have k10_j_82 : F_81 10 = .ref q_15 := fu_ne eF_81 (by decide) k10_j_78
  have k11_j_82 : F_81 11 = .ref q_19 := fu_ne eF_81 (by decide) k11_j_78
  have k13_j_82 : F_81 13 = .ref q_23 := fu_ne eF_81 (by decide) k13_j_78
  have k14_j_82 : F_81 14 = .ref q_27 := fu_ne eF_81 (by decide) k14_j_78
  have k15_j_82 : F_81 15 = .ref q_31 := fu_ne eF_81 (by decide) k15_j_78
  clear eF_81 k0_j_78 k3_j_78 k98_j_78 k100_j_78 k1_j_78 k2_j_78 k9_j_78 k10_j_78 k11_j_78 k13_j_78 k14_j_78 k15_j_78 hP hD hS
  have hP : va_P (dC, dI) vwCl [(h0, .inr (15, fl 134 F_81)), (q_1, .inr (14, [.null, .null, .null, .null, .null, .int 0])), (q_3, .inl (cy_4, 6000, .inl (fun _ => 0))), (q_11, .inl (cy_12, 6002, .inl (fun _ => 0))), (q_15, .inl (cy_16, 6002, .inl (fun _ => 0))), (q_19, .inl (cy_20, 6002, .inl (fun _ => 0))), (q_23, .inl (cy_24, 6000, .inl (fun _ => 0))), (q_27, .inl (cy_28, 6000, .inl (fun _ => 0))), (q_31, .inl (cy_32, 6600, .inl (fun _ => 0)))] H_j_82 := hP_j_82
  have hD : va_D A [(h0, .inr (15, fl 134 F_81)), (q_1, .inr (14, [.null, .null, .null, .null, .null, .int 0])), (q_3, .inl (cy_4, 6000, .inl (fun _ => 0))), (q_11, .inl (cy_12, 6002, .inl (fun _ => 0))), (q_15, .inl (cy_16, 6002, .inl (fun _ => 0))), (q_19, .inl (cy_20, 6002, .inl (fun _ => 0))), (q_23, .inl (cy_24, 6000, .inl (fun _ => 0))), (q_27, .inl (cy_28, 6000, .inl (fun _ => 0))), (q_31, .inl (cy_32, 6600, .inl (fun _ => 0)))] := hD_j_82
  have hS := hS_j_82
  clear hP_j_82 hD_j_82 hS_j_82
  refine W.widen (k := 21) (n := 240612) (Nat.le_of_ble_eq_true rfl) (Nat.le_of_ble_eq_true rfl) ?_
  refine lv_aload_n hx hb dX13_init_195 rfl (lv_at hl 0 rfl) ?_
  refine lv_bipush (v := 14) hx hb dX13_init_196 (by decide) ?_
  refine mstep (X := [(q_1, .inr (14, [.null, .null, .null, .null, .null, .int 0])), (q_3, .inl (cy_4, 6000, .inl (fun _ => 0))), (q_11, .inl (cy_12, 6002, .inl (fun _ => 0))), (q_15, .inl (cy_16, 6002, .inl (fun _ => 0))), (q_19, .inl (cy_20, 6002, .inl (fun _ => 0))), (q_23, .inl (cy_24, 6000, .inl (fun _ => 0))), (q_27, .inl (cy_28, 6000, .inl (fun _ => 0))), (q_31, .inl (cy_32, 6600, .inl (fun _ => 0)))]) (F := F_81) (atype := .int) (ty := .int) (a0 := (14, .inl (fun _ => 0))) (N' := 14) hx hb hts in_cc_Model_init_RX13 hown hin hK hP hD hS hA (hts (.arrayClass .int) (List.mem_of_getElem? (i := 33) rfl)) rfl (fun _ => rfl) (by decide) (by decide) (Nat.le_of_ble_eq_true rfl) (Nat.le_of_ble_eq_true rfl) (Nat.le_of_ble_eq_true rfl) dX13_init_198 42 (by decide) (hts (.fieldLink RX13 78 "LevelUnitsModel" "unitNode" "[I") (List.mem_of_getElem? (i := 52) rfl)) (fun _ h9 => h9) rfl rfl (by decide +kernel) dX13_init_200 (fun q_83 F_85 H_j_86 locs_j_86 eF_85 hP_j_86 hD_j_86 hS_j_86 => ?_)
  have k0_j_86 : F_85 0 = .int 0 := fu_ne eF_85 (by decide) k0_j_82
  have k3_j_86 : F_85 3 = .int 0 := fu_ne eF_85 (by decide) k3_j_82
  have k98_j_86 : F_85 98 = .int 0 := fu_ne eF_85 (by decide) k98_j_82
  have k100_j_86 : F_85 100 = .int 0 := fu_ne eF_85 (by decide) k100_j_82
  have k1_j_86 : F_85 1 = .ref q_1 := fu_ne eF_85 (by decide) k1_j_82
  have k2_j_86 : F_85 2 = .ref q_3 := fu_ne eF_85 (by decide) k2_j_82
  have k9_j_86 : F_85 9 = .ref q_11 := fu_ne eF_85 (by decide) k9_j_82
  have k10_j_86 : F_85 10 = .ref q_15 := fu_ne eF_85 (by decide) k10_j_82
  have k11_j_86 : F_85 11 = .ref q_19 := fu_ne eF_85 (by decide) k11_j_82
  have k13_j_86 : F_85 13 = .ref q_23 := fu_ne eF_85 (by decide) k13_j_82
  have k14_j_86 : F_85 14 = .ref q_27 := fu_ne eF_85 (by decide) k14_j_82
  have k15_j_86 : F_85 15 = .ref q_31 := fu_ne eF_85 (by decide) k15_j_82
  clear eF_85 k0_j_82 k3_j_82 k98_j_82 k100_j_82 k1_j_82 k2_j_82 k9_j_82 k10_j_82 k11_j_82 k13_j_82 k14_j_82 k15_j_82 hP hD hS
  have hP : va_P (dC, dI) vwCl [(h0, .inr (15, fl 134 F_85)), (q_1, .inr (14, [.null, .null, .null, .null, .null, .int 0])), (q_3, .inl (cy_4, 6000, .inl (fun _ => 0))), (q_11, .inl (cy_12, 6002, .inl (fun _ => 0))), (q_15, .inl (cy_16, 6002, .inl (fun _ => 0))), (q_19, .inl (cy_20, 6002, .inl (fun _ => 0))), (q_23, .inl (cy_24, 6000, .inl (fun _ => 0))), (q_27, .inl (cy_28, 6000, .inl (fun _ => 0))), (q_31, .inl (cy_32, 6600, .inl (fun _ => 0)))] H_j_86 := hP_j_86
  have hD : va_D A [(h0, .inr (15, fl 134 F_85)), (q_1, .inr (14, [.null, .null, .null, .null, .null, .int 0])), (q_3, .inl (cy_4, 6000, .inl (fun _ => 0))), (q_11, .inl (cy_12, 6002, .inl (fun _ => 0))), (q_15, .inl (cy_16, 6002, .inl (fun _ => 0))), (q_19, .inl (cy_20, 6002, .inl (fun _ => 0))), (q_23, .inl (cy_24, 6000, .inl (fun _ => 0))), (q_27, .inl (cy_28, 6000, .inl (fun _ => 0))), (q_31, .inl (cy_32, 6600, .inl (fun _ => 0)))] := hD_j_86
  have hS := hS_j_86
  clear hP_j_86 hD_j_86 hS_j_86
  refine W.widen (k := 22) (n := 240626) (Nat.le_of_ble_eq_true rfl) (Nat.le_of_ble_eq_true rfl) ?_
  refine lv_aload_n hx hb dX13_init_203 rfl (lv_at hl 0 rfl) ?_
  refine lv_sipush (v := 3200) hx hb dX13_init_204 (by decide) ?_
  refine mstep (X := [(q_1, .inr (14, [.null, .null, .null, .null, .null, .int 0])), (q_3, .inl (cy_4, 6000, .inl (fun _ => 0))), (q_11, .inl (cy_12, 6002, .inl (fun _ => 0))), (q_15, .inl (cy_16, 6002, .inl (fun _ => 0))), (q_19, .inl (cy_20, 6002, .inl (fun _ => 0))), (q_23, .inl (cy_24, 6000, .inl (fun _ => 0))), (q_27, .inl (cy_28, 6000, .inl (fun _ => 0))), (q_31, .inl (cy_32, 6600, .inl (fun _ => 0)))]) (F := F_85) (atype := .int) (ty := .int) (a0 := (3200, .inl (fun _ => 0))) (N' := 3200) hx hb hts in_cc_Model_init_RX13 hown hin hK hP hD hS hA (hts (.arrayClass .int) (List.mem_of_getElem? (i := 33) rfl)) rfl (fun _ => rfl) (by decide) (by decide) (Nat.le_of_ble_eq_true rfl) (Nat.le_of_ble_eq_true rfl) (Nat.le_of_ble_eq_true rfl) dX13_init_207 44 (by decide) (hts (.fieldLink RX13 81 "LevelUnitsModel" "yName" "[I") (List.mem_of_getElem? (i := 53) rfl)) (fun _ h9 => h9) rfl rfl (by decide +kernel) dX13_init_209 (fun q_87 F_89 H_j_90 locs_j_90 eF_89 hP_j_90 hD_j_90 hS_j_90 => ?_)
  have k0_j_90 : F_89 0 = .int 0 := fu_ne eF_89 (by decide) k0_j_86
  have k3_j_90 : F_89 3 = .int 0 := fu_ne eF_89 (by decide) k3_j_86
  have k98_j_90 : F_89 98 = .int 0 := fu_ne eF_89 (by decide) k98_j_86
  have k100_j_90 : F_89 100 = .int 0 := fu_ne eF_89 (by decide) k100_j_86
  have k1_j_90 : F_89 1 = .ref q_1 := fu_ne eF_89 (by decide) k1_j_86
  have k2_j_90 : F_89 2 = .ref q_3 := fu_ne eF_89 (by decide) k2_j_86
  have k9_j_90 : F_89 9 = .ref q_11 := fu_ne eF_89 (by decide) k9_j_86
  have k10_j_90 : F_89 10 = .ref q_15 := fu_ne eF_89 (by decide) k10_j_86
  have k11_j_90 : F_89 11 = .ref q_19 := fu_ne eF_89 (by decide) k11_j_86
  have k13_j_90 : F_89 13 = .ref q_23 := fu_ne eF_89 (by decide) k13_j_86
  have k14_j_90 : F_89 14 = .ref q_27 := fu_ne eF_89 (by decide) k14_j_86
  have k15_j_90 : F_89 15 = .ref q_31 := fu_ne eF_89 (by decide) k15_j_86
  clear eF_89 k0_j_86 k3_j_86 k98_j_86 k100_j_86 k1_j_86 k2_j_86 k9_j_86 k10_j_86 k11_j_86 k13_j_86 k14_j_86 k15_j_86 hP hD hS
  have hP : va_P (dC, dI) vwCl [(h0, .inr (15, fl 134 F_89)), (q_1, .inr (14, [.null, .null, .null, .null, .null, .int 0])), (q_3, .inl (cy_4, 6000, .inl (fun _ => 0))), (q_11, .inl (cy_12, 6002, .inl (fun _ => 0))), (q_15, .inl (cy_16, 6002, .inl (fun _ => 0))), (q_19, .inl (cy_20, 6002, .inl (fun _ => 0))), (q_23, .inl (cy_24, 6000, .inl (fun _ => 0))), (q_27, .inl (cy_28, 6000, .inl (fun _ => 0))), (q_31, .inl (cy_32, 6600, .inl (fun _ => 0)))] H_j_90 := hP_j_90
  have hD : va_D A [(h0, .inr (15, fl 134 F_89)), (q_1, .inr (14, [.null, .null, .null, .null, .null, .int 0])), (q_3, .inl (cy_4, 6000, .inl (fun _ => 0))), (q_11, .inl (cy_12, 6002, .inl (fun _ => 0))), (q_15, .inl (cy_16, 6002, .inl (fun _ => 0))), (q_19, .inl (cy_20, 6002, .inl (fun _ => 0))), (q_23, .inl (cy_24, 6000, .inl (fun _ => 0))), (q_27, .inl (cy_28, 6000, .inl (fun _ => 0))), (q_31, .inl (cy_32, 6600, .inl (fun _ => 0)))] := hD_j_90
  have hS := hS_j_90
  clear hP_j_90 hD_j_90 hS_j_90
  refine W.widen (k := 23) (n := 243826) (Nat.le_of_ble_eq_true rfl) (Nat.le_of_ble_eq_true rfl) ?_
  refine lv_aload_n hx hb dX13_init_212 rfl (lv_at hl 0 rfl) ?_
  refine lv_sipush (v := 3200) hx hb dX13_init_213 (by decide) ?_
  refine mstep (X := [(q_1, .inr (14, [.null, .null, .null, .null, .null, .int 0])), (q_3, .inl (cy_4, 6000, .inl (fun _ => 0))), (q_11, .inl (cy_12, 6002, .inl (fun _ => 0))), (q_15, .inl (cy_16, 6002, .inl (fun _ => 0))), (q_19, .inl (cy_20, 6002, .inl (fun _ => 0))), (q_23, .inl (cy_24, 6000, .inl (fun _ => 0))), (q_27, .inl (cy_28, 6000, .inl (fun _ => 0))), (q_31, .inl (cy_32, 6600, .inl (fun _ => 0)))]) (F := F_89) (atype := .int) (ty := .int) (a0 := (3200, .inl (fun _ => 0))) (N' := 3200) hx hb hts in_cc_Model_init_RX13 hown hin hK hP hD hS hA (hts (.arrayClass .int) (List.mem_of_getElem? (i := 33) rfl)) rfl (fun _ => rfl) (by decide) (by decide) (Nat.le_of_ble_eq_true rfl) (Nat.le_of_ble_eq_true rfl) (Nat.le_of_ble_eq_true rfl) dX13_init_216 45 (by decide) (hts (.fieldLink RX13 84 "LevelUnitsModel" "yKind" "[I") (List.mem_of_getElem? (i := 54) rfl)) (fun _ h9 => h9) rfl rfl (by decide +kernel) dX13_init_218 (fun q_91 F_93 H_j_94 locs_j_94 eF_93 hP_j_94 hD_j_94 hS_j_94 => ?_)
  have k0_j_94 : F_93 0 = .int 0 := fu_ne eF_93 (by decide) k0_j_90
  have k3_j_94 : F_93 3 = .int 0 := fu_ne eF_93 (by decide) k3_j_90
  have k98_j_94 : F_93 98 = .int 0 := fu_ne eF_93 (by decide) k98_j_90
  have k100_j_94 : F_93 100 = .int 0 := fu_ne eF_93 (by decide) k100_j_90
  have k1_j_94 : F_93 1 = .ref q_1 := fu_ne eF_93 (by decide) k1_j_90
  have k2_j_94 : F_93 2 = .ref q_3 := fu_ne eF_93 (by decide) k2_j_90
  have k9_j_94 : F_93 9 = .ref q_11 := fu_ne eF_93 (by decide) k9_j_90
  have k10_j_94 : F_93 10 = .ref q_15 := fu_ne eF_93 (by decide) k10_j_90
  have k11_j_94 : F_93 11 = .ref q_19 := fu_ne eF_93 (by decide) k11_j_90
  have k13_j_94 : F_93 13 = .ref q_23 := fu_ne eF_93 (by decide) k13_j_90
  have k14_j_94 : F_93 14 = .ref q_27 := fu_ne eF_93 (by decide) k14_j_90
  have k15_j_94 : F_93 15 = .ref q_31 := fu_ne eF_93 (by decide) k15_j_90
  clear eF_93 k0_j_90 k3_j_90 k98_j_90 k100_j_90 k1_j_90 k2_j_90 k9_j_90 k10_j_90 k11_j_90 k13_j_90 k14_j_90 k15_j_90 hP hD hS
  have hP : va_P (dC, dI) vwCl [(h0, .inr (15, fl 134 F_93)), (q_1, .inr (14, [.null, .null, .null, .null, .null, .int 0])), (q_3, .inl (cy_4, 6000, .inl (fun _ => 0))), (q_11, .inl (cy_12, 6002, .inl (fun _ => 0))), (q_15, .inl (cy_16, 6002, .inl (fun _ => 0))), (q_19, .inl (cy_20, 6002, .inl (fun _ => 0))), (q_23, .inl (cy_24, 6000, .inl (fun _ => 0))), (q_27, .inl (cy_28, 6000, .inl (fun _ => 0))), (q_31, .inl (cy_32, 6600, .inl (fun _ => 0)))] H_j_94 := hP_j_94
  have hD : va_D A [(h0, .inr (15, fl 134 F_93)), (q_1, .inr (14, [.null, .null, .null, .null, .null, .int 0])), (q_3, .inl (cy_4, 6000, .inl (fun _ => 0))), (q_11, .inl (cy_12, 6002, .inl (fun _ => 0))), (q_15, .inl (cy_16, 6002, .inl (fun _ => 0))), (q_19, .inl (cy_20, 6002, .inl (fun _ => 0))), (q_23, .inl (cy_24, 6000, .inl (fun _ => 0))), (q_27, .inl (cy_28, 6000, .inl (fun _ => 0))), (q_31, .inl (cy_32, 6600, .inl (fun _ => 0)))] := hD_j_94
  have hS := hS_j_94
  clear hP_j_94 hD_j_94 hS_j_94
  refine W.widen (k := 24) (n := 247026) (Nat.le_of_ble_eq_true rfl) (Nat.le_of_ble_eq_true rfl) ?_
  refine lv_aload_n hx hb dX13_init_221 rfl (lv_at hl 0 rfl) ?_
  refine lv_sipush (v := 3200) hx hb dX13_init_222 (by decide) ?_
  refine mstep (X := [(q_1, .inr (14, [.null, .null, .null, .null, .null, .int 0])), (q_3, .inl (cy_4, 6000, .inl (fun _ => 0))), (q_11, .inl (cy_12, 6002, .inl (fun _ => 0))), (q_15, .inl (cy_16, 6002, .inl (fun _ => 0))), (q_19, .inl (cy_20, 6002, .inl (fun _ => 0))), (q_23, .inl (cy_24, 6000, .inl (fun _ => 0))), (q_27, .inl (cy_28, 6000, .inl (fun _ => 0))), (q_31, .inl (cy_32, 6600, .inl (fun _ => 0)))]) (F := F_93) (atype := .int) (ty := .int) (a0 := (3200, .inl (fun _ => 0))) (N' := 3200) hx hb hts in_cc_Model_init_RX13 hown hin hK hP hD hS hA (hts (.arrayClass .int) (List.mem_of_getElem? (i := 33) rfl)) rfl (fun _ => rfl) (by decide) (by decide) (Nat.le_of_ble_eq_true rfl) (Nat.le_of_ble_eq_true rfl) (Nat.le_of_ble_eq_true rfl) dX13_init_225 46 (by decide) (hts (.fieldLink RX13 87 "LevelUnitsModel" "yNode" "[I") (List.mem_of_getElem? (i := 55) rfl)) (fun _ h9 => h9) rfl rfl (by decide +kernel) dX13_init_227 (fun q_95 F_97 H_j_98 locs_j_98 eF_97 hP_j_98 hD_j_98 hS_j_98 => ?_)
  have k0_j_98 : F_97 0 = .int 0 := fu_ne eF_97 (by decide) k0_j_94
  have k3_j_98 : F_97 3 = .int 0 := fu_ne eF_97 (by decide) k3_j_94
  have k98_j_98 : F_97 98 = .int 0 := fu_ne eF_97 (by decide) k98_j_94
  have k100_j_98 : F_97 100 = .int 0 := fu_ne eF_97 (by decide) k100_j_94
  have k1_j_98 : F_97 1 = .ref q_1 := fu_ne eF_97 (by decide) k1_j_94
  have k2_j_98 : F_97 2 = .ref q_3 := fu_ne eF_97 (by decide) k2_j_94
  have k9_j_98 : F_97 9 = .ref q_11 := fu_ne eF_97 (by decide) k9_j_94
  have k10_j_98 : F_97 10 = .ref q_15 := fu_ne eF_97 (by decide) k10_j_94
  have k11_j_98 : F_97 11 = .ref q_19 := fu_ne eF_97 (by decide) k11_j_94
  have k13_j_98 : F_97 13 = .ref q_23 := fu_ne eF_97 (by decide) k13_j_94
  have k14_j_98 : F_97 14 = .ref q_27 := fu_ne eF_97 (by decide) k14_j_94
  have k15_j_98 : F_97 15 = .ref q_31 := fu_ne eF_97 (by decide) k15_j_94
  clear eF_97 k0_j_94 k3_j_94 k98_j_94 k100_j_94 k1_j_94 k2_j_94 k9_j_94 k10_j_94 k11_j_94 k13_j_94 k14_j_94 k15_j_94 hP hD hS
  have hP : va_P (dC, dI) vwCl [(h0, .inr (15, fl 134 F_97)), (q_1, .inr (14, [.null, .null, .null, .null, .null, .int 0])), (q_3, .inl (cy_4, 6000, .inl (fun _ => 0))), (q_11, .inl (cy_12, 6002, .inl (fun _ => 0))), (q_15, .inl (cy_16, 6002, .inl (fun _ => 0))), (q_19, .inl (cy_20, 6002, .inl (fun _ => 0))), (q_23, .inl (cy_24, 6000, .inl (fun _ => 0))), (q_27, .inl (cy_28, 6000, .inl (fun _ => 0))), (q_31, .inl (cy_32, 6600, .inl (fun _ => 0)))] H_j_98 := hP_j_98
  have hD : va_D A [(h0, .inr (15, fl 134 F_97)), (q_1, .inr (14, [.null, .null, .null, .null, .null, .int 0])), (q_3, .inl (cy_4, 6000, .inl (fun _ => 0))), (q_11, .inl (cy_12, 6002, .inl (fun _ => 0))), (q_15, .inl (cy_16, 6002, .inl (fun _ => 0))), (q_19, .inl (cy_20, 6002, .inl (fun _ => 0))), (q_23, .inl (cy_24, 6000, .inl (fun _ => 0))), (q_27, .inl (cy_28, 6000, .inl (fun _ => 0))), (q_31, .inl (cy_32, 6600, .inl (fun _ => 0)))] := hD_j_98
  have hS := hS_j_98
  clear hP_j_98 hD_j_98 hS_j_98
  refine W.widen (k := 25) (n := 250226) (Nat.le_of_ble_eq_true rfl) (Nat.le_of_ble_eq_true rfl) ?_
  refine lv_aload_n hx hb dX13_init_230 rfl (lv_at hl 0 rfl) ?_
  refine lv_sipush (v := 3200) hx hb dX13_init_231 (by decide) ?_
  refine mstep (X := [(q_1, .inr (14, [.null, .null, .null, .null, .null, .int 0])), (q_3, .inl (cy_4, 6000, .inl (fun _ => 0))), (q_11, .inl (cy_12, 6002, .inl (fun _ => 0))), (q_15, .inl (cy_16, 6002, .inl (fun _ => 0))), (q_19, .inl (cy_20, 6002, .inl (fun _ => 0))), (q_23, .inl (cy_24, 6000, .inl (fun _ => 0))), (q_27, .inl (cy_28, 6000, .inl (fun _ => 0))), (q_31, .inl (cy_32, 6600, .inl (fun _ => 0)))]) (F := F_97) (atype := .int) (ty := .int) (a0 := (3200, .inl (fun _ => 0))) (N' := 3200) hx hb hts in_cc_Model_init_RX13 hown hin hK hP hD hS hA (hts (.arrayClass .int) (List.mem_of_getElem? (i := 33) rfl)) rfl (fun _ => rfl) (by decide) (by decide) (Nat.le_of_ble_eq_true rfl) (Nat.le_of_ble_eq_true rfl) (Nat.le_of_ble_eq_true rfl) dX13_init_234 47 (by decide) (hts (.fieldLink RX13 90 "LevelUnitsModel" "yWhat" "[I") (List.mem_of_getElem? (i := 56) rfl)) (fun _ h9 => h9) rfl rfl (by decide +kernel) dX13_init_236 (fun q_99 F_101 H_j_102 locs_j_102 eF_101 hP_j_102 hD_j_102 hS_j_102 => ?_)
  have k0_j_102 : F_101 0 = .int 0 := fu_ne eF_101 (by decide) k0_j_98
  have k3_j_102 : F_101 3 = .int 0 := fu_ne eF_101 (by decide) k3_j_98
  have k98_j_102 : F_101 98 = .int 0 := fu_ne eF_101 (by decide) k98_j_98
  have k100_j_102 : F_101 100 = .int 0 := fu_ne eF_101 (by decide) k100_j_98
  have k1_j_102 : F_101 1 = .ref q_1 := fu_ne eF_101 (by decide) k1_j_98
  have k2_j_102 : F_101 2 = .ref q_3 := fu_ne eF_101 (by decide) k2_j_98
  have k9_j_102 : F_101 9 = .ref q_11 := fu_ne eF_101 (by decide) k9_j_98
  have k10_j_102 : F_101 10 = .ref q_15 := fu_ne eF_101 (by decide) k10_j_98
  have k11_j_102 : F_101 11 = .ref q_19 := fu_ne eF_101 (by decide) k11_j_98
  have k13_j_102 : F_101 13 = .ref q_23 := fu_ne eF_101 (by decide) k13_j_98
  have k14_j_102 : F_101 14 = .ref q_27 := fu_ne eF_101 (by decide) k14_j_98
  have k15_j_102 : F_101 15 = .ref q_31 := fu_ne eF_101 (by decide) k15_j_98
  clear eF_101 k0_j_98 k3_j_98 k98_j_98 k100_j_98 k1_j_98 k2_j_98 k9_j_98 k10_j_98 k11_j_98 k13_j_98 k14_j_98 k15_j_98 hP hD hS
  have hP : va_P (dC, dI) vwCl [(h0, .inr (15, fl 134 F_101)), (q_1, .inr (14, [.null, .null, .null, .null, .null, .int 0])), (q_3, .inl (cy_4, 6000, .inl (fun _ => 0))), (q_11, .inl (cy_12, 6002, .inl (fun _ => 0))), (q_15, .inl (cy_16, 6002, .inl (fun _ => 0))), (q_19, .inl (cy_20, 6002, .inl (fun _ => 0))), (q_23, .inl (cy_24, 6000, .inl (fun _ => 0))), (q_27, .inl (cy_28, 6000, .inl (fun _ => 0))), (q_31, .inl (cy_32, 6600, .inl (fun _ => 0)))] H_j_102 := hP_j_102
  have hD : va_D A [(h0, .inr (15, fl 134 F_101)), (q_1, .inr (14, [.null, .null, .null, .null, .null, .int 0])), (q_3, .inl (cy_4, 6000, .inl (fun _ => 0))), (q_11, .inl (cy_12, 6002, .inl (fun _ => 0))), (q_15, .inl (cy_16, 6002, .inl (fun _ => 0))), (q_19, .inl (cy_20, 6002, .inl (fun _ => 0))), (q_23, .inl (cy_24, 6000, .inl (fun _ => 0))), (q_27, .inl (cy_28, 6000, .inl (fun _ => 0))), (q_31, .inl (cy_32, 6600, .inl (fun _ => 0)))] := hD_j_102
  have hS := hS_j_102
  clear hP_j_102 hD_j_102 hS_j_102
  refine W.widen (k := 26) (n := 253426) (Nat.le_of_ble_eq_true rfl) (Nat.le_of_ble_eq_true rfl) ?_
  refine lv_aload_n hx hb dX13_init_239 rfl (lv_at hl 0 rfl) ?_
  refine lv_bipush (v := 14) hx hb dX13_init_240 (by decide) ?_
  refine mstep (X := [(q_1, .inr (14, [.null, .null, .null, .null, .null, .int 0])), (q_3, .inl (cy_4, 6000, .inl (fun _ => 0))), (q_11, .inl (cy_12, 6002, .inl (fun _ => 0))), (q_15, .inl (cy_16, 6002, .inl (fun _ => 0))), (q_19, .inl (cy_20, 6002, .inl (fun _ => 0))), (q_23, .inl (cy_24, 6000, .inl (fun _ => 0))), (q_27, .inl (cy_28, 6000, .inl (fun _ => 0))), (q_31, .inl (cy_32, 6600, .inl (fun _ => 0)))]) (F := F_101) (atype := .int) (ty := .int) (a0 := (14, .inl (fun _ => 0))) (N' := 14) hx hb hts in_cc_Model_init_RX13 hown hin hK hP hD hS hA (hts (.arrayClass .int) (List.mem_of_getElem? (i := 33) rfl)) rfl (fun _ => rfl) (by decide) (by decide) (Nat.le_of_ble_eq_true rfl) (Nat.le_of_ble_eq_true rfl) (Nat.le_of_ble_eq_true rfl) dX13_init_242 48 (by decide) (hts (.fieldLink RX13 93 "LevelUnitsModel" "yFrom" "[I") (List.mem_of_getElem? (i := 57) rfl)) (fun _ h9 => h9) rfl rfl (by decide +kernel) dX13_init_244 (fun q_103 F_105 H_j_106 locs_j_106 eF_105 hP_j_106 hD_j_106 hS_j_106 => ?_)
  have k0_j_106 : F_105 0 = .int 0 := fu_ne eF_105 (by decide) k0_j_102
  have k3_j_106 : F_105 3 = .int 0 := fu_ne eF_105 (by decide) k3_j_102
  have k98_j_106 : F_105 98 = .int 0 := fu_ne eF_105 (by decide) k98_j_102
  have k100_j_106 : F_105 100 = .int 0 := fu_ne eF_105 (by decide) k100_j_102
  have k1_j_106 : F_105 1 = .ref q_1 := fu_ne eF_105 (by decide) k1_j_102
  have k2_j_106 : F_105 2 = .ref q_3 := fu_ne eF_105 (by decide) k2_j_102
  have k9_j_106 : F_105 9 = .ref q_11 := fu_ne eF_105 (by decide) k9_j_102
  have k10_j_106 : F_105 10 = .ref q_15 := fu_ne eF_105 (by decide) k10_j_102
  have k11_j_106 : F_105 11 = .ref q_19 := fu_ne eF_105 (by decide) k11_j_102
  have k13_j_106 : F_105 13 = .ref q_23 := fu_ne eF_105 (by decide) k13_j_102
  have k14_j_106 : F_105 14 = .ref q_27 := fu_ne eF_105 (by decide) k14_j_102
  have k15_j_106 : F_105 15 = .ref q_31 := fu_ne eF_105 (by decide) k15_j_102
  clear eF_105 k0_j_102 k3_j_102 k98_j_102 k100_j_102 k1_j_102 k2_j_102 k9_j_102 k10_j_102 k11_j_102 k13_j_102 k14_j_102 k15_j_102 hP hD hS
  have hP : va_P (dC, dI) vwCl [(h0, .inr (15, fl 134 F_105)), (q_1, .inr (14, [.null, .null, .null, .null, .null, .int 0])), (q_3, .inl (cy_4, 6000, .inl (fun _ => 0))), (q_11, .inl (cy_12, 6002, .inl (fun _ => 0))), (q_15, .inl (cy_16, 6002, .inl (fun _ => 0))), (q_19, .inl (cy_20, 6002, .inl (fun _ => 0))), (q_23, .inl (cy_24, 6000, .inl (fun _ => 0))), (q_27, .inl (cy_28, 6000, .inl (fun _ => 0))), (q_31, .inl (cy_32, 6600, .inl (fun _ => 0)))] H_j_106 := hP_j_106
  have hD : va_D A [(h0, .inr (15, fl 134 F_105)), (q_1, .inr (14, [.null, .null, .null, .null, .null, .int 0])), (q_3, .inl (cy_4, 6000, .inl (fun _ => 0))), (q_11, .inl (cy_12, 6002, .inl (fun _ => 0))), (q_15, .inl (cy_16, 6002, .inl (fun _ => 0))), (q_19, .inl (cy_20, 6002, .inl (fun _ => 0))), (q_23, .inl (cy_24, 6000, .inl (fun _ => 0))), (q_27, .inl (cy_28, 6000, .inl (fun _ => 0))), (q_31, .inl (cy_32, 6600, .inl (fun _ => 0)))] := hD_j_106
  have hS := hS_j_106
  clear hP_j_106 hD_j_106 hS_j_106
  refine W.widen (k := 27) (n := 253440) (Nat.le_of_ble_eq_true rfl) (Nat.le_of_ble_eq_true rfl) ?_
  refine lv_aload_n hx hb dX13_init_247 rfl (lv_at hl 0 rfl) ?_
  refine lv_bipush (v := 14) hx hb dX13_init_248 (by decide) ?_
  refine mstep (X := [(q_1, .inr (14, [.null, .null, .null, .null, .null, .int 0])), (q_3, .inl (cy_4, 6000, .inl (fun _ => 0))), (q_11, .inl (cy_12, 6002, .inl (fun _ => 0))), (q_15, .inl (cy_16, 6002, .inl (fun _ => 0))), (q_19, .inl (cy_20, 6002, .inl (fun _ => 0))), (q_23, .inl (cy_24, 6000, .inl (fun _ => 0))), (q_27, .inl (cy_28, 6000, .inl (fun _ => 0))), (q_31, .inl (cy_32, 6600, .inl (fun _ => 0)))]) (F := F_105) (atype := .int) (ty := .int) (a0 := (14, .inl (fun _ => 0))) (N' := 14) hx hb hts in_cc_Model_init_RX13 hown hin hK hP hD hS hA (hts (.arrayClass .int) (List.mem_of_getElem? (i := 33) rfl)) rfl (fun _ => rfl) (by decide) (by decide) (Nat.le_of_ble_eq_true rfl) (Nat.le_of_ble_eq_true rfl) (Nat.le_of_ble_eq_true rfl) dX13_init_250 49 (by decide) (hts (.fieldLink RX13 96 "LevelUnitsModel" "yUntil" "[I") (List.mem_of_getElem? (i := 58) rfl)) (fun _ h9 => h9) rfl rfl (by decide +kernel) dX13_init_252 (fun q_107 F_109 H_j_110 locs_j_110 eF_109 hP_j_110 hD_j_110 hS_j_110 => ?_)
  have k0_j_110 : F_109 0 = .int 0 := fu_ne eF_109 (by decide) k0_j_106
  have k3_j_110 : F_109 3 = .int 0 := fu_ne eF_109 (by decide) k3_j_106
  have k98_j_110 : F_109 98 = .int 0 := fu_ne eF_109 (by decide) k98_j_106
  have k100_j_110 : F_109 100 = .int 0 := fu_ne eF_109 (by decide) k100_j_106
  have k1_j_110 : F_109 1 = .ref q_1 := fu_ne eF_109 (by decide) k1_j_106
  have k2_j_110 : F_109 2 = .ref q_3 := fu_ne eF_109 (by decide) k2_j_106
  have k9_j_110 : F_109 9 = .ref q_11 := fu_ne eF_109 (by decide) k9_j_106
  have k10_j_110 : F_109 10 = .ref q_15 := fu_ne eF_109 (by decide) k10_j_106
  have k11_j_110 : F_109 11 = .ref q_19 := fu_ne eF_109 (by decide) k11_j_106
  have k13_j_110 : F_109 13 = .ref q_23 := fu_ne eF_109 (by decide) k13_j_106
  have k14_j_110 : F_109 14 = .ref q_27 := fu_ne eF_109 (by decide) k14_j_106
  have k15_j_110 : F_109 15 = .ref q_31 := fu_ne eF_109 (by decide) k15_j_106
  clear eF_109 k0_j_106 k3_j_106 k98_j_106 k100_j_106 k1_j_106 k2_j_106 k9_j_106 k10_j_106 k11_j_106 k13_j_106 k14_j_106 k15_j_106 hP hD hS
  have hP : va_P (dC, dI) vwCl [(h0, .inr (15, fl 134 F_109)), (q_1, .inr (14, [.null, .null, .null, .null, .null, .int 0])), (q_3, .inl (cy_4, 6000, .inl (fun _ => 0))), (q_11, .inl (cy_12, 6002, .inl (fun _ => 0))), (q_15, .inl (cy_16, 6002, .inl (fun _ => 0))), (q_19, .inl (cy_20, 6002, .inl (fun _ => 0))), (q_23, .inl (cy_24, 6000, .inl (fun _ => 0))), (q_27, .inl (cy_28, 6000, .inl (fun _ => 0))), (q_31, .inl (cy_32, 6600, .inl (fun _ => 0)))] H_j_110 := hP_j_110
  have hD : va_D A [(h0, .inr (15, fl 134 F_109)), (q_1, .inr (14, [.null, .null, .null, .null, .null, .int 0])), (q_3, .inl (cy_4, 6000, .inl (fun _ => 0))), (q_11, .inl (cy_12, 6002, .inl (fun _ => 0))), (q_15, .inl (cy_16, 6002, .inl (fun _ => 0))), (q_19, .inl (cy_20, 6002, .inl (fun _ => 0))), (q_23, .inl (cy_24, 6000, .inl (fun _ => 0))), (q_27, .inl (cy_28, 6000, .inl (fun _ => 0))), (q_31, .inl (cy_32, 6600, .inl (fun _ => 0)))] := hD_j_110
  have hS := hS_j_110
  clear hP_j_110 hD_j_110 hS_j_110
  refine W.widen (k := 28) (n := 253454) (Nat.le_of_ble_eq_true rfl) (Nat.le_of_ble_eq_true rfl) ?_
  refine lv_aload_n hx hb dX13_init_255 rfl (lv_at hl 0 rfl) ?_
  refine lv_bipush (v := 14) hx hb dX13_init_256 (by decide) ?_
  refine mstep (X := [(q_1, .inr (14, [.null, .null, .null, .null, .null, .int 0])), (q_3, .inl (cy_4, 6000, .inl (fun _ => 0))), (q_11, .inl (cy_12, 6002, .inl (fun _ => 0))), (q_15, .inl (cy_16, 6002, .inl (fun _ => 0))), (q_19, .inl (cy_20, 6002, .inl (fun _ => 0))), (q_23, .inl (cy_24, 6000, .inl (fun _ => 0))), (q_27, .inl (cy_28, 6000, .inl (fun _ => 0))), (q_31, .inl (cy_32, 6600, .inl (fun _ => 0)))]) (F := F_109) (atype := .int) (ty := .int) (a0 := (14, .inl (fun _ => 0))) (N' := 14) hx hb hts in_cc_Model_init_RX13 hown hin hK hP hD hS hA (hts (.arrayClass .int) (List.mem_of_getElem? (i := 33) rfl)) rfl (fun _ => rfl) (by decide) (by decide) (Nat.le_of_ble_eq_true rfl) (Nat.le_of_ble_eq_true rfl) (Nat.le_of_ble_eq_true rfl) dX13_init_258 50 (by decide) (hts (.fieldLink RX13 99 "LevelUnitsModel" "face" "[I") (List.mem_of_getElem? (i := 59) rfl)) (fun _ h9 => h9) rfl rfl (by decide +kernel) dX13_init_260 (fun q_111 F_113 H_j_114 locs_j_114 eF_113 hP_j_114 hD_j_114 hS_j_114 => ?_)
  have k0_j_114 : F_113 0 = .int 0 := fu_ne eF_113 (by decide) k0_j_110
  have k3_j_114 : F_113 3 = .int 0 := fu_ne eF_113 (by decide) k3_j_110
  have k98_j_114 : F_113 98 = .int 0 := fu_ne eF_113 (by decide) k98_j_110
  have k100_j_114 : F_113 100 = .int 0 := fu_ne eF_113 (by decide) k100_j_110
  have k1_j_114 : F_113 1 = .ref q_1 := fu_ne eF_113 (by decide) k1_j_110
  have k2_j_114 : F_113 2 = .ref q_3 := fu_ne eF_113 (by decide) k2_j_110
  have k9_j_114 : F_113 9 = .ref q_11 := fu_ne eF_113 (by decide) k9_j_110
  have k10_j_114 : F_113 10 = .ref q_15 := fu_ne eF_113 (by decide) k10_j_110
  have k11_j_114 : F_113 11 = .ref q_19 := fu_ne eF_113 (by decide) k11_j_110
  have k13_j_114 : F_113 13 = .ref q_23 := fu_ne eF_113 (by decide) k13_j_110
  have k14_j_114 : F_113 14 = .ref q_27 := fu_ne eF_113 (by decide) k14_j_110
  have k15_j_114 : F_113 15 = .ref q_31 := fu_ne eF_113 (by decide) k15_j_110
  clear eF_113 k0_j_110 k3_j_110 k98_j_110 k100_j_110 k1_j_110 k2_j_110 k9_j_110 k10_j_110 k11_j_110 k13_j_110 k14_j_110 k15_j_110 hP hD hS
  have hP : va_P (dC, dI) vwCl [(h0, .inr (15, fl 134 F_113)), (q_1, .inr (14, [.null, .null, .null, .null, .null, .int 0])), (q_3, .inl (cy_4, 6000, .inl (fun _ => 0))), (q_11, .inl (cy_12, 6002, .inl (fun _ => 0))), (q_15, .inl (cy_16, 6002, .inl (fun _ => 0))), (q_19, .inl (cy_20, 6002, .inl (fun _ => 0))), (q_23, .inl (cy_24, 6000, .inl (fun _ => 0))), (q_27, .inl (cy_28, 6000, .inl (fun _ => 0))), (q_31, .inl (cy_32, 6600, .inl (fun _ => 0)))] H_j_114 := hP_j_114
  have hD : va_D A [(h0, .inr (15, fl 134 F_113)), (q_1, .inr (14, [.null, .null, .null, .null, .null, .int 0])), (q_3, .inl (cy_4, 6000, .inl (fun _ => 0))), (q_11, .inl (cy_12, 6002, .inl (fun _ => 0))), (q_15, .inl (cy_16, 6002, .inl (fun _ => 0))), (q_19, .inl (cy_20, 6002, .inl (fun _ => 0))), (q_23, .inl (cy_24, 6000, .inl (fun _ => 0))), (q_27, .inl (cy_28, 6000, .inl (fun _ => 0))), (q_31, .inl (cy_32, 6600, .inl (fun _ => 0)))] := hD_j_114
  have hS := hS_j_114
  clear hP_j_114 hD_j_114 hS_j_114
  refine W.widen (k := 29) (n := 253468) (Nat.le_of_ble_eq_true rfl) (Nat.le_of_ble_eq_true rfl) ?_
  refine lv_aload_n hx hb dX13_init_263 rfl (lv_at hl 0 rfl) ?_
  refine lv_bipush (v := 14) hx hb dX13_init_264 (by decide) ?_
  refine mstep (X := [(q_1, .inr (14, [.null, .null, .null, .null, .null, .int 0])), (q_3, .inl (cy_4, 6000, .inl (fun _ => 0))), (q_11, .inl (cy_12, 6002, .inl (fun _ => 0))), (q_15, .inl (cy_16, 6002, .inl (fun _ => 0))), (q_19, .inl (cy_20, 6002, .inl (fun _ => 0))), (q_23, .inl (cy_24, 6000, .inl (fun _ => 0))), (q_27, .inl (cy_28, 6000, .inl (fun _ => 0))), (q_31, .inl (cy_32, 6600, .inl (fun _ => 0)))]) (F := F_113) (atype := .boolean) (ty := .boolean) (a0 := (14, .inl (fun _ => 0))) (N' := 14) hx hb hts in_cc_Model_init_RX13 hown hin hK hP hD hS hA (hts (.arrayClass .boolean) (List.mem_of_getElem? (i := 60) rfl)) rfl (fun _ => rfl) (by decide) (by decide) (Nat.le_of_ble_eq_true rfl) (Nat.le_of_ble_eq_true rfl) (Nat.le_of_ble_eq_true rfl) dX13_init_266 51 (by decide) (hts (.fieldLink RX13 102 "LevelUnitsModel" "isModule" "[Z") (List.mem_of_getElem? (i := 61) rfl)) (fun _ h9 => h9) rfl rfl (by decide +kernel) dX13_init_268 (fun q_115 F_117 H_j_118 locs_j_118 eF_117 hP_j_118 hD_j_118 hS_j_118 => ?_)
  have k0_j_118 : F_117 0 = .int 0 := fu_ne eF_117 (by decide) k0_j_114
  have k3_j_118 : F_117 3 = .int 0 := fu_ne eF_117 (by decide) k3_j_114
  have k98_j_118 : F_117 98 = .int 0 := fu_ne eF_117 (by decide) k98_j_114
  have k100_j_118 : F_117 100 = .int 0 := fu_ne eF_117 (by decide) k100_j_114
  have k1_j_118 : F_117 1 = .ref q_1 := fu_ne eF_117 (by decide) k1_j_114
  have k2_j_118 : F_117 2 = .ref q_3 := fu_ne eF_117 (by decide) k2_j_114
  have k9_j_118 : F_117 9 = .ref q_11 := fu_ne eF_117 (by decide) k9_j_114
  have k10_j_118 : F_117 10 = .ref q_15 := fu_ne eF_117 (by decide) k10_j_114
  have k11_j_118 : F_117 11 = .ref q_19 := fu_ne eF_117 (by decide) k11_j_114
  have k13_j_118 : F_117 13 = .ref q_23 := fu_ne eF_117 (by decide) k13_j_114
  have k14_j_118 : F_117 14 = .ref q_27 := fu_ne eF_117 (by decide) k14_j_114
  have k15_j_118 : F_117 15 = .ref q_31 := fu_ne eF_117 (by decide) k15_j_114
  clear eF_117 k0_j_114 k3_j_114 k98_j_114 k100_j_114 k1_j_114 k2_j_114 k9_j_114 k10_j_114 k11_j_114 k13_j_114 k14_j_114 k15_j_114 hP hD hS
  have hP : va_P (dC, dI) vwCl [(h0, .inr (15, fl 134 F_117)), (q_1, .inr (14, [.null, .null, .null, .null, .null, .int 0])), (q_3, .inl (cy_4, 6000, .inl (fun _ => 0))), (q_11, .inl (cy_12, 6002, .inl (fun _ => 0))), (q_15, .inl (cy_16, 6002, .inl (fun _ => 0))), (q_19, .inl (cy_20, 6002, .inl (fun _ => 0))), (q_23, .inl (cy_24, 6000, .inl (fun _ => 0))), (q_27, .inl (cy_28, 6000, .inl (fun _ => 0))), (q_31, .inl (cy_32, 6600, .inl (fun _ => 0)))] H_j_118 := hP_j_118
  have hD : va_D A [(h0, .inr (15, fl 134 F_117)), (q_1, .inr (14, [.null, .null, .null, .null, .null, .int 0])), (q_3, .inl (cy_4, 6000, .inl (fun _ => 0))), (q_11, .inl (cy_12, 6002, .inl (fun _ => 0))), (q_15, .inl (cy_16, 6002, .inl (fun _ => 0))), (q_19, .inl (cy_20, 6002, .inl (fun _ => 0))), (q_23, .inl (cy_24, 6000, .inl (fun _ => 0))), (q_27, .inl (cy_28, 6000, .inl (fun _ => 0))), (q_31, .inl (cy_32, 6600, .inl (fun _ => 0)))] := hD_j_118
  have hS := hS_j_118
  clear hP_j_118 hD_j_118 hS_j_118
  refine W.widen (k := 30) (n := 253482) (Nat.le_of_ble_eq_true rfl) (Nat.le_of_ble_eq_true rfl) ?_
  refine lv_aload_n hx hb dX13_init_271 rfl (lv_at hl 0 rfl) ?_
  refine lv_sipush (v := 3200) hx hb dX13_init_272 (by decide) ?_
  refine mstep (X := [(q_1, .inr (14, [.null, .null, .null, .null, .null, .int 0])), (q_3, .inl (cy_4, 6000, .inl (fun _ => 0))), (q_11, .inl (cy_12, 6002, .inl (fun _ => 0))), (q_15, .inl (cy_16, 6002, .inl (fun _ => 0))), (q_19, .inl (cy_20, 6002, .inl (fun _ => 0))), (q_23, .inl (cy_24, 6000, .inl (fun _ => 0))), (q_27, .inl (cy_28, 6000, .inl (fun _ => 0))), (q_31, .inl (cy_32, 6600, .inl (fun _ => 0)))]) (F := F_117) (atype := .int) (ty := .int) (a0 := (3200, .inl (fun _ => 0))) (N' := 3200) hx hb hts in_cc_Model_init_RX13 hown hin hK hP hD hS hA (hts (.arrayClass .int) (List.mem_of_getElem? (i := 33) rfl)) rfl (fun _ => rfl) (by decide) (by decide) (Nat.le_of_ble_eq_true rfl) (Nat.le_of_ble_eq_true rfl) (Nat.le_of_ble_eq_true rfl) dX13_init_275 53 (by decide) (hts (.fieldLink RX13 106 "LevelUnitsModel" "vKind" "[I") (List.mem_of_getElem? (i := 62) rfl)) (fun _ h9 => h9) rfl rfl (by decide +kernel) dX13_init_277 (fun q_119 F_121 H_j_122 locs_j_122 eF_121 hP_j_122 hD_j_122 hS_j_122 => ?_)
  have k0_j_122 : F_121 0 = .int 0 := fu_ne eF_121 (by decide) k0_j_118
  have k3_j_122 : F_121 3 = .int 0 := fu_ne eF_121 (by decide) k3_j_118
  have k98_j_122 : F_121 98 = .int 0 := fu_ne eF_121 (by decide) k98_j_118
  have k100_j_122 : F_121 100 = .int 0 := fu_ne eF_121 (by decide) k100_j_118
  have k1_j_122 : F_121 1 = .ref q_1 := fu_ne eF_121 (by decide) k1_j_118
  have k2_j_122 : F_121 2 = .ref q_3 := fu_ne eF_121 (by decide) k2_j_118
  have k9_j_122 : F_121 9 = .ref q_11 := fu_ne eF_121 (by decide) k9_j_118
  have k10_j_122 : F_121 10 = .ref q_15 := fu_ne eF_121 (by decide) k10_j_118
  have k11_j_122 : F_121 11 = .ref q_19 := fu_ne eF_121 (by decide) k11_j_118
  have k13_j_122 : F_121 13 = .ref q_23 := fu_ne eF_121 (by decide) k13_j_118
  have k14_j_122 : F_121 14 = .ref q_27 := fu_ne eF_121 (by decide) k14_j_118
  have k15_j_122 : F_121 15 = .ref q_31 := fu_ne eF_121 (by decide) k15_j_118
  clear eF_121 k0_j_118 k3_j_118 k98_j_118 k100_j_118 k1_j_118 k2_j_118 k9_j_118 k10_j_118 k11_j_118 k13_j_118 k14_j_118 k15_j_118 hP hD hS
  have hP : va_P (dC, dI) vwCl [(h0, .inr (15, fl 134 F_121)), (q_1, .inr (14, [.null, .null, .null, .null, .null, .int 0])), (q_3, .inl (cy_4, 6000, .inl (fun _ => 0))), (q_11, .inl (cy_12, 6002, .inl (fun _ => 0))), (q_15, .inl (cy_16, 6002, .inl (fun _ => 0))), (q_19, .inl (cy_20, 6002, .inl (fun _ => 0))), (q_23, .inl (cy_24, 6000, .inl (fun _ => 0))), (q_27, .inl (cy_28, 6000, .inl (fun _ => 0))), (q_31, .inl (cy_32, 6600, .inl (fun _ => 0)))] H_j_122 := hP_j_122
  have hD : va_D A [(h0, .inr (15, fl 134 F_121)), (q_1, .inr (14, [.null, .null, .null, .null, .null, .int 0])), (q_3, .inl (cy_4, 6000, .inl (fun _ => 0))), (q_11, .inl (cy_12, 6002, .inl (fun _ => 0))), (q_15, .inl (cy_16, 6002, .inl (fun _ => 0))), (q_19, .inl (cy_20, 6002, .inl (fun _ => 0))), (q_23, .inl (cy_24, 6000, .inl (fun _ => 0))), (q_27, .inl (cy_28, 6000, .inl (fun _ => 0))), (q_31, .inl (cy_32, 6600, .inl (fun _ => 0)))] := hD_j_122
  have hS := hS_j_122
  clear hP_j_122 hD_j_122 hS_j_122
  refine W.widen (k := 31) (n := 256682) (Nat.le_of_ble_eq_true rfl) (Nat.le_of_ble_eq_true rfl) ?_
  refine lv_aload_n hx hb dX13_init_280 rfl (lv_at hl 0 rfl) ?_
  refine lv_sipush (v := 3200) hx hb dX13_init_281 (by decide) ?_
  refine mstep (X := [(q_1, .inr (14, [.null, .null, .null, .null, .null, .int 0])), (q_3, .inl (cy_4, 6000, .inl (fun _ => 0))), (q_11, .inl (cy_12, 6002, .inl (fun _ => 0))), (q_15, .inl (cy_16, 6002, .inl (fun _ => 0))), (q_19, .inl (cy_20, 6002, .inl (fun _ => 0))), (q_23, .inl (cy_24, 6000, .inl (fun _ => 0))), (q_27, .inl (cy_28, 6000, .inl (fun _ => 0))), (q_31, .inl (cy_32, 6600, .inl (fun _ => 0)))]) (F := F_121) (atype := .int) (ty := .int) (a0 := (3200, .inl (fun _ => 0))) (N' := 3200) hx hb hts in_cc_Model_init_RX13 hown hin hK hP hD hS hA (hts (.arrayClass .int) (List.mem_of_getElem? (i := 33) rfl)) rfl (fun _ => rfl) (by decide) (by decide) (Nat.le_of_ble_eq_true rfl) (Nat.le_of_ble_eq_true rfl) (Nat.le_of_ble_eq_true rfl) dX13_init_284 54 (by decide) (hts (.fieldLink RX13 109 "LevelUnitsModel" "vType" "[I") (List.mem_of_getElem? (i := 63) rfl)) (fun _ h9 => h9) rfl rfl (by decide +kernel) dX13_init_286 (fun q_123 F_125 H_j_126 locs_j_126 eF_125 hP_j_126 hD_j_126 hS_j_126 => ?_)
  have k0_j_126 : F_125 0 = .int 0 := fu_ne eF_125 (by decide) k0_j_122
  have k3_j_126 : F_125 3 = .int 0 := fu_ne eF_125 (by decide) k3_j_122
  have k98_j_126 : F_125 98 = .int 0 := fu_ne eF_125 (by decide) k98_j_122
  have k100_j_126 : F_125 100 = .int 0 := fu_ne eF_125 (by decide) k100_j_122
  have k1_j_126 : F_125 1 = .ref q_1 := fu_ne eF_125 (by decide) k1_j_122
  have k2_j_126 : F_125 2 = .ref q_3 := fu_ne eF_125 (by decide) k2_j_122
  have k9_j_126 : F_125 9 = .ref q_11 := fu_ne eF_125 (by decide) k9_j_122
  have k10_j_126 : F_125 10 = .ref q_15 := fu_ne eF_125 (by decide) k10_j_122
  have k11_j_126 : F_125 11 = .ref q_19 := fu_ne eF_125 (by decide) k11_j_122
  have k13_j_126 : F_125 13 = .ref q_23 := fu_ne eF_125 (by decide) k13_j_122
  have k14_j_126 : F_125 14 = .ref q_27 := fu_ne eF_125 (by decide) k14_j_122
  have k15_j_126 : F_125 15 = .ref q_31 := fu_ne eF_125 (by decide) k15_j_122
  clear eF_125 k0_j_122 k3_j_122 k98_j_122 k100_j_122 k1_j_122 k2_j_122 k9_j_122 k10_j_122 k11_j_122 k13_j_122 k14_j_122 k15_j_122 hP hD hS
  have hP : va_P (dC, dI) vwCl [(h0, .inr (15, fl 134 F_125)), (q_1, .inr (14, [.null, .null, .null, .null, .null, .int 0])), (q_3, .inl (cy_4, 6000, .inl (fun _ => 0))), (q_11, .inl (cy_12, 6002, .inl (fun _ => 0))), (q_15, .inl (cy_16, 6002, .inl (fun _ => 0))), (q_19, .inl (cy_20, 6002, .inl (fun _ => 0))), (q_23, .inl (cy_24, 6000, .inl (fun _ => 0))), (q_27, .inl (cy_28, 6000, .inl (fun _ => 0))), (q_31, .inl (cy_32, 6600, .inl (fun _ => 0)))] H_j_126 := hP_j_126
  have hD : va_D A [(h0, .inr (15, fl 134 F_125)), (q_1, .inr (14, [.null, .null, .null, .null, .null, .int 0])), (q_3, .inl (cy_4, 6000, .inl (fun _ => 0))), (q_11, .inl (cy_12, 6002, .inl (fun _ => 0))), (q_15, .inl (cy_16, 6002, .inl (fun _ => 0))), (q_19, .inl (cy_20, 6002, .inl (fun _ => 0))), (q_23, .inl (cy_24, 6000, .inl (fun _ => 0))), (q_27, .inl (cy_28, 6000, .inl (fun _ => 0))), (q_31, .inl (cy_32, 6600, .inl (fun _ => 0)))] := hD_j_126
  have hS := hS_j_126
  clear hP_j_126 hD_j_126 hS_j_126
  refine W.widen (k := 32) (n := 259882) (Nat.le_of_ble_eq_true rfl) (Nat.le_of_ble_eq_true rfl) ?_
  refine lv_aload_n hx hb dX13_init_289 rfl (lv_at hl 0 rfl) ?_
  refine lv_sipush (v := 3200) hx hb dX13_init_290 (by decide) ?_
  refine mstep (X := [(q_1, .inr (14, [.null, .null, .null, .null, .null, .int 0])), (q_3, .inl (cy_4, 6000, .inl (fun _ => 0))), (q_11, .inl (cy_12, 6002, .inl (fun _ => 0))), (q_15, .inl (cy_16, 6002, .inl (fun _ => 0))), (q_19, .inl (cy_20, 6002, .inl (fun _ => 0))), (q_23, .inl (cy_24, 6000, .inl (fun _ => 0))), (q_27, .inl (cy_28, 6000, .inl (fun _ => 0))), (q_31, .inl (cy_32, 6600, .inl (fun _ => 0)))]) (F := F_125) (atype := .int) (ty := .int) (a0 := (3200, .inl (fun _ => 0))) (N' := 3200) hx hb hts in_cc_Model_init_RX13 hown hin hK hP hD hS hA (hts (.arrayClass .int) (List.mem_of_getElem? (i := 33) rfl)) rfl (fun _ => rfl) (by decide) (by decide) (Nat.le_of_ble_eq_true rfl) (Nat.le_of_ble_eq_true rfl) (Nat.le_of_ble_eq_true rfl) dX13_init_293 55 (by decide) (hts (.fieldLink RX13 112 "LevelUnitsModel" "vAt" "[I") (List.mem_of_getElem? (i := 64) rfl)) (fun _ h9 => h9) rfl rfl (by decide +kernel) dX13_init_295 (fun q_127 F_129 H_j_130 locs_j_130 eF_129 hP_j_130 hD_j_130 hS_j_130 => ?_)
  have k0_j_130 : F_129 0 = .int 0 := fu_ne eF_129 (by decide) k0_j_126
  have k3_j_130 : F_129 3 = .int 0 := fu_ne eF_129 (by decide) k3_j_126
  have k98_j_130 : F_129 98 = .int 0 := fu_ne eF_129 (by decide) k98_j_126
  have k100_j_130 : F_129 100 = .int 0 := fu_ne eF_129 (by decide) k100_j_126
  have k1_j_130 : F_129 1 = .ref q_1 := fu_ne eF_129 (by decide) k1_j_126
  have k2_j_130 : F_129 2 = .ref q_3 := fu_ne eF_129 (by decide) k2_j_126
  have k9_j_130 : F_129 9 = .ref q_11 := fu_ne eF_129 (by decide) k9_j_126
  have k10_j_130 : F_129 10 = .ref q_15 := fu_ne eF_129 (by decide) k10_j_126
  have k11_j_130 : F_129 11 = .ref q_19 := fu_ne eF_129 (by decide) k11_j_126
  have k13_j_130 : F_129 13 = .ref q_23 := fu_ne eF_129 (by decide) k13_j_126
  have k14_j_130 : F_129 14 = .ref q_27 := fu_ne eF_129 (by decide) k14_j_126
  have k15_j_130 : F_129 15 = .ref q_31 := fu_ne eF_129 (by decide) k15_j_126
  clear eF_129 k0_j_126 k3_j_126 k98_j_126 k100_j_126 k1_j_126 k2_j_126 k9_j_126 k10_j_126 k11_j_126 k13_j_126 k14_j_126 k15_j_126 hP hD hS
  have hP : va_P (dC, dI) vwCl [(h0, .inr (15, fl 134 F_129)), (q_1, .inr (14, [.null, .null, .null, .null, .null, .int 0])), (q_3, .inl (cy_4, 6000, .inl (fun _ => 0))), (q_11, .inl (cy_12, 6002, .inl (fun _ => 0))), (q_15, .inl (cy_16, 6002, .inl (fun _ => 0))), (q_19, .inl (cy_20, 6002, .inl (fun _ => 0))), (q_23, .inl (cy_24, 6000, .inl (fun _ => 0))), (q_27, .inl (cy_28, 6000, .inl (fun _ => 0))), (q_31, .inl (cy_32, 6600, .inl (fun _ => 0)))] H_j_130 := hP_j_130
  have hD : va_D A [(h0, .inr (15, fl 134 F_129)), (q_1, .inr (14, [.null, .null, .null, .null, .null, .int 0])), (q_3, .inl (cy_4, 6000, .inl (fun _ => 0))), (q_11, .inl (cy_12, 6002, .inl (fun _ => 0))), (q_15, .inl (cy_16, 6002, .inl (fun _ => 0))), (q_19, .inl (cy_20, 6002, .inl (fun _ => 0))), (q_23, .inl (cy_24, 6000, .inl (fun _ => 0))), (q_27, .inl (cy_28, 6000, .inl (fun _ => 0))), (q_31, .inl (cy_32, 6600, .inl (fun _ => 0)))] := hD_j_130
  have hS := hS_j_130
  clear hP_j_130 hD_j_130 hS_j_130
  refine W.widen (k := 33) (n := 263082) (Nat.le_of_ble_eq_true rfl) (Nat.le_of_ble_eq_true rfl) ?_
  refine lv_aload_n hx hb dX13_init_298 rfl (lv_at hl 0 rfl) ?_
  refine lv_sipush (v := 3200) hx hb dX13_init_299 (by decide) ?_
  refine mstep (X := [(q_1, .inr (14, [.null, .null, .null, .null, .null, .int 0])), (q_3, .inl (cy_4, 6000, .inl (fun _ => 0))), (q_11, .inl (cy_12, 6002, .inl (fun _ => 0))), (q_15, .inl (cy_16, 6002, .inl (fun _ => 0))), (q_19, .inl (cy_20, 6002, .inl (fun _ => 0))), (q_23, .inl (cy_24, 6000, .inl (fun _ => 0))), (q_27, .inl (cy_28, 6000, .inl (fun _ => 0))), (q_31, .inl (cy_32, 6600, .inl (fun _ => 0)))]) (F := F_129) (atype := .int) (ty := .int) (a0 := (3200, .inl (fun _ => 0))) (N' := 3200) hx hb hts in_cc_Model_init_RX13 hown hin hK hP hD hS hA (hts (.arrayClass .int) (List.mem_of_getElem? (i := 33) rfl)) rfl (fun _ => rfl) (by decide) (by decide) (Nat.le_of_ble_eq_true rfl) (Nat.le_of_ble_eq_true rfl) (Nat.le_of_ble_eq_true rfl) dX13_init_302 57 (by decide) (hts (.fieldLink RX13 115 "LevelUnitsModel" "pTold" "[I") (List.mem_of_getElem? (i := 65) rfl)) (fun _ h9 => h9) rfl rfl (by decide +kernel) dX13_init_304 (fun q_131 F_133 H_j_134 locs_j_134 eF_133 hP_j_134 hD_j_134 hS_j_134 => ?_)
  have k0_j_134 : F_133 0 = .int 0 := fu_ne eF_133 (by decide) k0_j_130
  have k3_j_134 : F_133 3 = .int 0 := fu_ne eF_133 (by decide) k3_j_130
  have k98_j_134 : F_133 98 = .int 0 := fu_ne eF_133 (by decide) k98_j_130
  have k100_j_134 : F_133 100 = .int 0 := fu_ne eF_133 (by decide) k100_j_130
  have k1_j_134 : F_133 1 = .ref q_1 := fu_ne eF_133 (by decide) k1_j_130
  have k2_j_134 : F_133 2 = .ref q_3 := fu_ne eF_133 (by decide) k2_j_130
  have k9_j_134 : F_133 9 = .ref q_11 := fu_ne eF_133 (by decide) k9_j_130
  have k10_j_134 : F_133 10 = .ref q_15 := fu_ne eF_133 (by decide) k10_j_130
  have k11_j_134 : F_133 11 = .ref q_19 := fu_ne eF_133 (by decide) k11_j_130
  have k13_j_134 : F_133 13 = .ref q_23 := fu_ne eF_133 (by decide) k13_j_130
  have k14_j_134 : F_133 14 = .ref q_27 := fu_ne eF_133 (by decide) k14_j_130
  have k15_j_134 : F_133 15 = .ref q_31 := fu_ne eF_133 (by decide) k15_j_130
  clear eF_133 k0_j_130 k3_j_130 k98_j_130 k100_j_130 k1_j_130 k2_j_130 k9_j_130 k10_j_130 k11_j_130 k13_j_130 k14_j_130 k15_j_130 hP hD hS
  have hP : va_P (dC, dI) vwCl [(h0, .inr (15, fl 134 F_133)), (q_1, .inr (14, [.null, .null, .null, .null, .null, .int 0])), (q_3, .inl (cy_4, 6000, .inl (fun _ => 0))), (q_11, .inl (cy_12, 6002, .inl (fun _ => 0))), (q_15, .inl (cy_16, 6002, .inl (fun _ => 0))), (q_19, .inl (cy_20, 6002, .inl (fun _ => 0))), (q_23, .inl (cy_24, 6000, .inl (fun _ => 0))), (q_27, .inl (cy_28, 6000, .inl (fun _ => 0))), (q_31, .inl (cy_32, 6600, .inl (fun _ => 0)))] H_j_134 := hP_j_134
  have hD : va_D A [(h0, .inr (15, fl 134 F_133)), (q_1, .inr (14, [.null, .null, .null, .null, .null, .int 0])), (q_3, .inl (cy_4, 6000, .inl (fun _ => 0))), (q_11, .inl (cy_12, 6002, .inl (fun _ => 0))), (q_15, .inl (cy_16, 6002, .inl (fun _ => 0))), (q_19, .inl (cy_20, 6002, .inl (fun _ => 0))), (q_23, .inl (cy_24, 6000, .inl (fun _ => 0))), (q_27, .inl (cy_28, 6000, .inl (fun _ => 0))), (q_31, .inl (cy_32, 6600, .inl (fun _ => 0)))] := hD_j_134
  have hS := hS_j_134
  clear hP_j_134 hD_j_134 hS_j_134
  refine W.widen (k := 34) (n := 266282) (Nat.le_of_ble_eq_true rfl) (Nat.le_of_ble_eq_true rfl) ?_
  refine lv_aload_n hx hb dX13_init_307 rfl (lv_at hl 0 rfl) ?_
  refine lv_sipush (v := 3200) hx hb dX13_init_308 (by decide) ?_
  refine mstep (X := [(q_1, .inr (14, [.null, .null, .null, .null, .null, .int 0])), (q_3, .inl (cy_4, 6000, .inl (fun _ => 0))), (q_11, .inl (cy_12, 6002, .inl (fun _ => 0))), (q_15, .inl (cy_16, 6002, .inl (fun _ => 0))), (q_19, .inl (cy_20, 6002, .inl (fun _ => 0))), (q_23, .inl (cy_24, 6000, .inl (fun _ => 0))), (q_27, .inl (cy_28, 6000, .inl (fun _ => 0))), (q_31, .inl (cy_32, 6600, .inl (fun _ => 0)))]) (F := F_133) (atype := .int) (ty := .int) (a0 := (3200, .inl (fun _ => 0))) (N' := 3200) hx hb hts in_cc_Model_init_RX13 hown hin hK hP hD hS hA (hts (.arrayClass .int) (List.mem_of_getElem? (i := 33) rfl)) rfl (fun _ => rfl) (by decide) (by decide) (Nat.le_of_ble_eq_true rfl) (Nat.le_of_ble_eq_true rfl) (Nat.le_of_ble_eq_true rfl) dX13_init_311 58 (by decide) (hts (.fieldLink RX13 118 "LevelUnitsModel" "pMade" "[I") (List.mem_of_getElem? (i := 66) rfl)) (fun _ h9 => h9) rfl rfl (by decide +kernel) dX13_init_313 (fun q_135 F_137 H_j_138 locs_j_138 eF_137 hP_j_138 hD_j_138 hS_j_138 => ?_)
  have k0_j_138 : F_137 0 = .int 0 := fu_ne eF_137 (by decide) k0_j_134
  have k3_j_138 : F_137 3 = .int 0 := fu_ne eF_137 (by decide) k3_j_134
  have k98_j_138 : F_137 98 = .int 0 := fu_ne eF_137 (by decide) k98_j_134
  have k100_j_138 : F_137 100 = .int 0 := fu_ne eF_137 (by decide) k100_j_134
  have k1_j_138 : F_137 1 = .ref q_1 := fu_ne eF_137 (by decide) k1_j_134
  have k2_j_138 : F_137 2 = .ref q_3 := fu_ne eF_137 (by decide) k2_j_134
  have k9_j_138 : F_137 9 = .ref q_11 := fu_ne eF_137 (by decide) k9_j_134
  have k10_j_138 : F_137 10 = .ref q_15 := fu_ne eF_137 (by decide) k10_j_134
  have k11_j_138 : F_137 11 = .ref q_19 := fu_ne eF_137 (by decide) k11_j_134
  have k13_j_138 : F_137 13 = .ref q_23 := fu_ne eF_137 (by decide) k13_j_134
  have k14_j_138 : F_137 14 = .ref q_27 := fu_ne eF_137 (by decide) k14_j_134
  have k15_j_138 : F_137 15 = .ref q_31 := fu_ne eF_137 (by decide) k15_j_134
  clear eF_137 k0_j_134 k3_j_134 k98_j_134 k100_j_134 k1_j_134 k2_j_134 k9_j_134 k10_j_134 k11_j_134 k13_j_134 k14_j_134 k15_j_134 hP hD hS
  have hP : va_P (dC, dI) vwCl [(h0, .inr (15, fl 134 F_137)), (q_1, .inr (14, [.null, .null, .null, .null, .null, .int 0])), (q_3, .inl (cy_4, 6000, .inl (fun _ => 0))), (q_11, .inl (cy_12, 6002, .inl (fun _ => 0))), (q_15, .inl (cy_16, 6002, .inl (fun _ => 0))), (q_19, .inl (cy_20, 6002, .inl (fun _ => 0))), (q_23, .inl (cy_24, 6000, .inl (fun _ => 0))), (q_27, .inl (cy_28, 6000, .inl (fun _ => 0))), (q_31, .inl (cy_32, 6600, .inl (fun _ => 0)))] H_j_138 := hP_j_138
  have hD : va_D A [(h0, .inr (15, fl 134 F_137)), (q_1, .inr (14, [.null, .null, .null, .null, .null, .int 0])), (q_3, .inl (cy_4, 6000, .inl (fun _ => 0))), (q_11, .inl (cy_12, 6002, .inl (fun _ => 0))), (q_15, .inl (cy_16, 6002, .inl (fun _ => 0))), (q_19, .inl (cy_20, 6002, .inl (fun _ => 0))), (q_23, .inl (cy_24, 6000, .inl (fun _ => 0))), (q_27, .inl (cy_28, 6000, .inl (fun _ => 0))), (q_31, .inl (cy_32, 6600, .inl (fun _ => 0)))] := hD_j_138
  have hS := hS_j_138
  clear hP_j_138 hD_j_138 hS_j_138
  refine W.widen (k := 35) (n := 269482) (Nat.le_of_ble_eq_true rfl) (Nat.le_of_ble_eq_true rfl) ?_
  refine lv_aload_n hx hb dX13_init_316 rfl (lv_at hl 0 rfl) ?_
  refine lv_sipush (v := 3200) hx hb dX13_init_317 (by decide) ?_
  refine mstep (X := [(q_1, .inr (14, [.null, .null, .null, .null, .null, .int 0])), (q_3, .inl (cy_4, 6000, .inl (fun _ => 0))), (q_11, .inl (cy_12, 6002, .inl (fun _ => 0))), (q_15, .inl (cy_16, 6002, .inl (fun _ => 0))), (q_19, .inl (cy_20, 6002, .inl (fun _ => 0))), (q_23, .inl (cy_24, 6000, .inl (fun _ => 0))), (q_27, .inl (cy_28, 6000, .inl (fun _ => 0))), (q_31, .inl (cy_32, 6600, .inl (fun _ => 0)))]) (F := F_137) (atype := .int) (ty := .int) (a0 := (3200, .inl (fun _ => 0))) (N' := 3200) hx hb hts in_cc_Model_init_RX13 hown hin hK hP hD hS hA (hts (.arrayClass .int) (List.mem_of_getElem? (i := 33) rfl)) rfl (fun _ => rfl) (by decide) (by decide) (Nat.le_of_ble_eq_true rfl) (Nat.le_of_ble_eq_true rfl) (Nat.le_of_ble_eq_true rfl) dX13_init_320 61 (by decide) (hts (.fieldLink RX13 121 "LevelUnitsModel" "typeNode" "[I") (List.mem_of_getElem? (i := 67) rfl)) (fun _ h9 => h9) rfl rfl (by decide +kernel) dX13_init_322 (fun q_139 F_141 H_j_142 locs_j_142 eF_141 hP_j_142 hD_j_142 hS_j_142 => ?_)
  have k0_j_142 : F_141 0 = .int 0 := fu_ne eF_141 (by decide) k0_j_138
  have k3_j_142 : F_141 3 = .int 0 := fu_ne eF_141 (by decide) k3_j_138
  have k98_j_142 : F_141 98 = .int 0 := fu_ne eF_141 (by decide) k98_j_138
  have k100_j_142 : F_141 100 = .int 0 := fu_ne eF_141 (by decide) k100_j_138
  have k1_j_142 : F_141 1 = .ref q_1 := fu_ne eF_141 (by decide) k1_j_138
  have k2_j_142 : F_141 2 = .ref q_3 := fu_ne eF_141 (by decide) k2_j_138
  have k9_j_142 : F_141 9 = .ref q_11 := fu_ne eF_141 (by decide) k9_j_138
  have k10_j_142 : F_141 10 = .ref q_15 := fu_ne eF_141 (by decide) k10_j_138
  have k11_j_142 : F_141 11 = .ref q_19 := fu_ne eF_141 (by decide) k11_j_138
  have k13_j_142 : F_141 13 = .ref q_23 := fu_ne eF_141 (by decide) k13_j_138
  have k14_j_142 : F_141 14 = .ref q_27 := fu_ne eF_141 (by decide) k14_j_138
  have k15_j_142 : F_141 15 = .ref q_31 := fu_ne eF_141 (by decide) k15_j_138
  clear eF_141 k0_j_138 k3_j_138 k98_j_138 k100_j_138 k1_j_138 k2_j_138 k9_j_138 k10_j_138 k11_j_138 k13_j_138 k14_j_138 k15_j_138 hP hD hS
  have hP : va_P (dC, dI) vwCl [(h0, .inr (15, fl 134 F_141)), (q_1, .inr (14, [.null, .null, .null, .null, .null, .int 0])), (q_3, .inl (cy_4, 6000, .inl (fun _ => 0))), (q_11, .inl (cy_12, 6002, .inl (fun _ => 0))), (q_15, .inl (cy_16, 6002, .inl (fun _ => 0))), (q_19, .inl (cy_20, 6002, .inl (fun _ => 0))), (q_23, .inl (cy_24, 6000, .inl (fun _ => 0))), (q_27, .inl (cy_28, 6000, .inl (fun _ => 0))), (q_31, .inl (cy_32, 6600, .inl (fun _ => 0)))] H_j_142 := hP_j_142
  have hD : va_D A [(h0, .inr (15, fl 134 F_141)), (q_1, .inr (14, [.null, .null, .null, .null, .null, .int 0])), (q_3, .inl (cy_4, 6000, .inl (fun _ => 0))), (q_11, .inl (cy_12, 6002, .inl (fun _ => 0))), (q_15, .inl (cy_16, 6002, .inl (fun _ => 0))), (q_19, .inl (cy_20, 6002, .inl (fun _ => 0))), (q_23, .inl (cy_24, 6000, .inl (fun _ => 0))), (q_27, .inl (cy_28, 6000, .inl (fun _ => 0))), (q_31, .inl (cy_32, 6600, .inl (fun _ => 0)))] := hD_j_142
  have hS := hS_j_142
  clear hP_j_142 hD_j_142 hS_j_142
  refine W.widen (k := 36) (n := 272682) (Nat.le_of_ble_eq_true rfl) (Nat.le_of_ble_eq_true rfl) ?_
  refine lv_aload_n hx hb dX13_init_325 rfl (lv_at hl 0 rfl) ?_
  refine lv_sipush (v := 3200) hx hb dX13_init_326 (by decide) ?_
  refine mstep (X := [(q_1, .inr (14, [.null, .null, .null, .null, .null, .int 0])), (q_3, .inl (cy_4, 6000, .inl (fun _ => 0))), (q_11, .inl (cy_12, 6002, .inl (fun _ => 0))), (q_15, .inl (cy_16, 6002, .inl (fun _ => 0))), (q_19, .inl (cy_20, 6002, .inl (fun _ => 0))), (q_23, .inl (cy_24, 6000, .inl (fun _ => 0))), (q_27, .inl (cy_28, 6000, .inl (fun _ => 0))), (q_31, .inl (cy_32, 6600, .inl (fun _ => 0)))]) (F := F_141) (atype := .int) (ty := .int) (a0 := (3200, .inl (fun _ => 0))) (N' := 3200) hx hb hts in_cc_Model_init_RX13 hown hin hK hP hD hS hA (hts (.arrayClass .int) (List.mem_of_getElem? (i := 33) rfl)) rfl (fun _ => rfl) (by decide) (by decide) (Nat.le_of_ble_eq_true rfl) (Nat.le_of_ble_eq_true rfl) (Nat.le_of_ble_eq_true rfl) dX13_init_329 63 (by decide) (hts (.fieldLink RX13 124 "LevelUnitsModel" "seenName" "[I") (List.mem_of_getElem? (i := 68) rfl)) (fun _ h9 => h9) rfl rfl (by decide +kernel) dX13_init_331 (fun q_143 F_145 H_j_146 locs_j_146 eF_145 hP_j_146 hD_j_146 hS_j_146 => ?_)
  have k0_j_146 : F_145 0 = .int 0 := fu_ne eF_145 (by decide) k0_j_142
  have k3_j_146 : F_145 3 = .int 0 := fu_ne eF_145 (by decide) k3_j_142
  have k98_j_146 : F_145 98 = .int 0 := fu_ne eF_145 (by decide) k98_j_142
  have k100_j_146 : F_145 100 = .int 0 := fu_ne eF_145 (by decide) k100_j_142
  have k1_j_146 : F_145 1 = .ref q_1 := fu_ne eF_145 (by decide) k1_j_142
  have k2_j_146 : F_145 2 = .ref q_3 := fu_ne eF_145 (by decide) k2_j_142
  have k9_j_146 : F_145 9 = .ref q_11 := fu_ne eF_145 (by decide) k9_j_142
  have k10_j_146 : F_145 10 = .ref q_15 := fu_ne eF_145 (by decide) k10_j_142
  have k11_j_146 : F_145 11 = .ref q_19 := fu_ne eF_145 (by decide) k11_j_142
  have k13_j_146 : F_145 13 = .ref q_23 := fu_ne eF_145 (by decide) k13_j_142
  have k14_j_146 : F_145 14 = .ref q_27 := fu_ne eF_145 (by decide) k14_j_142
  have k15_j_146 : F_145 15 = .ref q_31 := fu_ne eF_145 (by decide) k15_j_142
  clear eF_145 k0_j_142 k3_j_142 k98_j_142 k100_j_142 k1_j_142 k2_j_142 k9_j_142 k10_j_142 k11_j_142 k13_j_142 k14_j_142 k15_j_142 hP hD hS
  have hP : va_P (dC, dI) vwCl [(h0, .inr (15, fl 134 F_145)), (q_1, .inr (14, [.null, .null, .null, .null, .null, .int 0])), (q_3, .inl (cy_4, 6000, .inl (fun _ => 0))), (q_11, .inl (cy_12, 6002, .inl (fun _ => 0))), (q_15, .inl (cy_16, 6002, .inl (fun _ => 0))), (q_19, .inl (cy_20, 6002, .inl (fun _ => 0))), (q_23, .inl (cy_24, 6000, .inl (fun _ => 0))), (q_27, .inl (cy_28, 6000, .inl (fun _ => 0))), (q_31, .inl (cy_32, 6600, .inl (fun _ => 0)))] H_j_146 := hP_j_146
  have hD : va_D A [(h0, .inr (15, fl 134 F_145)), (q_1, .inr (14, [.null, .null, .null, .null, .null, .int 0])), (q_3, .inl (cy_4, 6000, .inl (fun _ => 0))), (q_11, .inl (cy_12, 6002, .inl (fun _ => 0))), (q_15, .inl (cy_16, 6002, .inl (fun _ => 0))), (q_19, .inl (cy_20, 6002, .inl (fun _ => 0))), (q_23, .inl (cy_24, 6000, .inl (fun _ => 0))), (q_27, .inl (cy_28, 6000, .inl (fun _ => 0))), (q_31, .inl (cy_32, 6600, .inl (fun _ => 0)))] := hD_j_146
  have hS := hS_j_146
  clear hP_j_146 hD_j_146 hS_j_146
  refine W.widen (k := 37) (n := 275882) (Nat.le_of_ble_eq_true rfl) (Nat.le_of_ble_eq_true rfl) ?_
  refine lv_aload_n hx hb dX13_init_334 rfl (lv_at hl 0 rfl) ?_
  refine lv_sipush (v := 3200) hx hb dX13_init_335 (by decide) ?_
  refine mstep (X := [(q_1, .inr (14, [.null, .null, .null, .null, .null, .int 0])), (q_3, .inl (cy_4, 6000, .inl (fun _ => 0))), (q_11, .inl (cy_12, 6002, .inl (fun _ => 0))), (q_15, .inl (cy_16, 6002, .inl (fun _ => 0))), (q_19, .inl (cy_20, 6002, .inl (fun _ => 0))), (q_23, .inl (cy_24, 6000, .inl (fun _ => 0))), (q_27, .inl (cy_28, 6000, .inl (fun _ => 0))), (q_31, .inl (cy_32, 6600, .inl (fun _ => 0)))]) (F := F_145) (atype := .int) (ty := .int) (a0 := (3200, .inl (fun _ => 0))) (N' := 3200) hx hb hts in_cc_Model_init_RX13 hown hin hK hP hD hS hA (hts (.arrayClass .int) (List.mem_of_getElem? (i := 33) rfl)) rfl (fun _ => rfl) (by decide) (by decide) (Nat.le_of_ble_eq_true rfl) (Nat.le_of_ble_eq_true rfl) (Nat.le_of_ble_eq_true rfl) dX13_init_338 64 (by decide) (hts (.fieldLink RX13 127 "LevelUnitsModel" "seenVariable" "[I") (List.mem_of_getElem? (i := 69) rfl)) (fun _ h9 => h9) rfl rfl (by decide +kernel) dX13_init_340 (fun q_147 F_149 H_j_150 locs_j_150 eF_149 hP_j_150 hD_j_150 hS_j_150 => ?_)
  have k0_j_150 : F_149 0 = .int 0 := fu_ne eF_149 (by decide) k0_j_146
  have k3_j_150 : F_149 3 = .int 0 := fu_ne eF_149 (by decide) k3_j_146
  have k98_j_150 : F_149 98 = .int 0 := fu_ne eF_149 (by decide) k98_j_146
  have k100_j_150 : F_149 100 = .int 0 := fu_ne eF_149 (by decide) k100_j_146
  have k1_j_150 : F_149 1 = .ref q_1 := fu_ne eF_149 (by decide) k1_j_146
  have k2_j_150 : F_149 2 = .ref q_3 := fu_ne eF_149 (by decide) k2_j_146
  have k9_j_150 : F_149 9 = .ref q_11 := fu_ne eF_149 (by decide) k9_j_146
  have k10_j_150 : F_149 10 = .ref q_15 := fu_ne eF_149 (by decide) k10_j_146
  have k11_j_150 : F_149 11 = .ref q_19 := fu_ne eF_149 (by decide) k11_j_146
  have k13_j_150 : F_149 13 = .ref q_23 := fu_ne eF_149 (by decide) k13_j_146
  have k14_j_150 : F_149 14 = .ref q_27 := fu_ne eF_149 (by decide) k14_j_146
  have k15_j_150 : F_149 15 = .ref q_31 := fu_ne eF_149 (by decide) k15_j_146
  clear eF_149 k0_j_146 k3_j_146 k98_j_146 k100_j_146 k1_j_146 k2_j_146 k9_j_146 k10_j_146 k11_j_146 k13_j_146 k14_j_146 k15_j_146 hP hD hS
  have hP : va_P (dC, dI) vwCl [(h0, .inr (15, fl 134 F_149)), (q_1, .inr (14, [.null, .null, .null, .null, .null, .int 0])), (q_3, .inl (cy_4, 6000, .inl (fun _ => 0))), (q_11, .inl (cy_12, 6002, .inl (fun _ => 0))), (q_15, .inl (cy_16, 6002, .inl (fun _ => 0))), (q_19, .inl (cy_20, 6002, .inl (fun _ => 0))), (q_23, .inl (cy_24, 6000, .inl (fun _ => 0))), (q_27, .inl (cy_28, 6000, .inl (fun _ => 0))), (q_31, .inl (cy_32, 6600, .inl (fun _ => 0)))] H_j_150 := hP_j_150
  have hD : va_D A [(h0, .inr (15, fl 134 F_149)), (q_1, .inr (14, [.null, .null, .null, .null, .null, .int 0])), (q_3, .inl (cy_4, 6000, .inl (fun _ => 0))), (q_11, .inl (cy_12, 6002, .inl (fun _ => 0))), (q_15, .inl (cy_16, 6002, .inl (fun _ => 0))), (q_19, .inl (cy_20, 6002, .inl (fun _ => 0))), (q_23, .inl (cy_24, 6000, .inl (fun _ => 0))), (q_27, .inl (cy_28, 6000, .inl (fun _ => 0))), (q_31, .inl (cy_32, 6600, .inl (fun _ => 0)))] := hD_j_150
  have hS := hS_j_150
  clear hP_j_150 hD_j_150 hS_j_150
  refine W.widen (k := 38) (n := 279082) (Nat.le_of_ble_eq_true rfl) (Nat.le_of_ble_eq_true rfl) ?_
  refine lv_aload_n hx hb dX13_init_343 rfl (lv_at hl 0 rfl) ?_
  refine lv_sipush (v := 16000) hx hb dX13_init_344 (by decide) ?_
  refine mstep (X := [(q_1, .inr (14, [.null, .null, .null, .null, .null, .int 0])), (q_3, .inl (cy_4, 6000, .inl (fun _ => 0))), (q_11, .inl (cy_12, 6002, .inl (fun _ => 0))), (q_15, .inl (cy_16, 6002, .inl (fun _ => 0))), (q_19, .inl (cy_20, 6002, .inl (fun _ => 0))), (q_23, .inl (cy_24, 6000, .inl (fun _ => 0))), (q_27, .inl (cy_28, 6000, .inl (fun _ => 0))), (q_31, .inl (cy_32, 6600, .inl (fun _ => 0)))]) (F := F_149) (atype := .int) (ty := .int) (a0 := (16000, .inl (fun _ => 0))) (N' := 16000) hx hb hts in_cc_Model_init_RX13 hown hin hK hP hD hS hA (hts (.arrayClass .int) (List.mem_of_getElem? (i := 33) rfl)) rfl (fun _ => rfl) (by decide) (by decide) (Nat.le_of_ble_eq_true rfl) (Nat.le_of_ble_eq_true rfl) (Nat.le_of_ble_eq_true rfl) dX13_init_347 66 (by decide) (hts (.fieldLink RX13 130 "LevelUnitsModel" "joined" "[I") (List.mem_of_getElem? (i := 70) rfl)) (fun _ h9 => h9) rfl rfl (by decide +kernel) dX13_init_349 (fun q_151 F_153 H_j_154 locs_j_154 eF_153 hP_j_154 hD_j_154 hS_j_154 => ?_)
  have k0_j_154 : F_153 0 = .int 0 := fu_ne eF_153 (by decide) k0_j_150
  have k3_j_154 : F_153 3 = .int 0 := fu_ne eF_153 (by decide) k3_j_150
  have k98_j_154 : F_153 98 = .int 0 := fu_ne eF_153 (by decide) k98_j_150
  have k100_j_154 : F_153 100 = .int 0 := fu_ne eF_153 (by decide) k100_j_150
  have k1_j_154 : F_153 1 = .ref q_1 := fu_ne eF_153 (by decide) k1_j_150
  have k2_j_154 : F_153 2 = .ref q_3 := fu_ne eF_153 (by decide) k2_j_150
  have k9_j_154 : F_153 9 = .ref q_11 := fu_ne eF_153 (by decide) k9_j_150
  have k10_j_154 : F_153 10 = .ref q_15 := fu_ne eF_153 (by decide) k10_j_150
  have k11_j_154 : F_153 11 = .ref q_19 := fu_ne eF_153 (by decide) k11_j_150
  have k13_j_154 : F_153 13 = .ref q_23 := fu_ne eF_153 (by decide) k13_j_150
  have k14_j_154 : F_153 14 = .ref q_27 := fu_ne eF_153 (by decide) k14_j_150
  have k15_j_154 : F_153 15 = .ref q_31 := fu_ne eF_153 (by decide) k15_j_150
  clear eF_153 k0_j_150 k3_j_150 k98_j_150 k100_j_150 k1_j_150 k2_j_150 k9_j_150 k10_j_150 k11_j_150 k13_j_150 k14_j_150 k15_j_150 hP hD hS
  have hP : va_P (dC, dI) vwCl [(h0, .inr (15, fl 134 F_153)), (q_1, .inr (14, [.null, .null, .null, .null, .null, .int 0])), (q_3, .inl (cy_4, 6000, .inl (fun _ => 0))), (q_11, .inl (cy_12, 6002, .inl (fun _ => 0))), (q_15, .inl (cy_16, 6002, .inl (fun _ => 0))), (q_19, .inl (cy_20, 6002, .inl (fun _ => 0))), (q_23, .inl (cy_24, 6000, .inl (fun _ => 0))), (q_27, .inl (cy_28, 6000, .inl (fun _ => 0))), (q_31, .inl (cy_32, 6600, .inl (fun _ => 0)))] H_j_154 := hP_j_154
  have hD : va_D A [(h0, .inr (15, fl 134 F_153)), (q_1, .inr (14, [.null, .null, .null, .null, .null, .int 0])), (q_3, .inl (cy_4, 6000, .inl (fun _ => 0))), (q_11, .inl (cy_12, 6002, .inl (fun _ => 0))), (q_15, .inl (cy_16, 6002, .inl (fun _ => 0))), (q_19, .inl (cy_20, 6002, .inl (fun _ => 0))), (q_23, .inl (cy_24, 6000, .inl (fun _ => 0))), (q_27, .inl (cy_28, 6000, .inl (fun _ => 0))), (q_31, .inl (cy_32, 6600, .inl (fun _ => 0)))] := hD_j_154
  have hS := hS_j_154
  clear hP_j_154 hD_j_154 hS_j_154
  refine W.widen (k := 39) (n := 295082) (Nat.le_of_ble_eq_true rfl) (Nat.le_of_ble_eq_true rfl) ?_
  refine lv_aload_n hx hb dX13_init_352 rfl (lv_at hl 0 rfl) ?_
  refine lv_sipush (v := 16000) hx hb dX13_init_353 (by decide) ?_
  refine mstep (X := [(q_1, .inr (14, [.null, .null, .null, .null, .null, .int 0])), (q_3, .inl (cy_4, 6000, .inl (fun _ => 0))), (q_11, .inl (cy_12, 6002, .inl (fun _ => 0))), (q_15, .inl (cy_16, 6002, .inl (fun _ => 0))), (q_19, .inl (cy_20, 6002, .inl (fun _ => 0))), (q_23, .inl (cy_24, 6000, .inl (fun _ => 0))), (q_27, .inl (cy_28, 6000, .inl (fun _ => 0))), (q_31, .inl (cy_32, 6600, .inl (fun _ => 0)))]) (F := F_153) (atype := .int) (ty := .int) (a0 := (16000, .inl (fun _ => 0))) (N' := 16000) hx hb hts in_cc_Model_init_RX13 hown hin hK hP hD hS hA (hts (.arrayClass .int) (List.mem_of_getElem? (i := 33) rfl)) rfl (fun _ => rfl) (by decide) (by decide) (Nat.le_of_ble_eq_true rfl) (Nat.le_of_ble_eq_true rfl) (Nat.le_of_ble_eq_true rfl) dX13_init_356 68 (by decide) (hts (.fieldLink RX13 133 "LevelUnitsModel" "trailed" "[I") (List.mem_of_getElem? (i := 71) rfl)) (fun _ h9 => h9) rfl rfl (by decide +kernel) dX13_init_358 (fun q_155 F_157 H_j_158 locs_j_158 eF_157 hP_j_158 hD_j_158 hS_j_158 => ?_)
  have k0_j_158 : F_157 0 = .int 0 := fu_ne eF_157 (by decide) k0_j_154
  have k3_j_158 : F_157 3 = .int 0 := fu_ne eF_157 (by decide) k3_j_154
  have k98_j_158 : F_157 98 = .int 0 := fu_ne eF_157 (by decide) k98_j_154
  have k100_j_158 : F_157 100 = .int 0 := fu_ne eF_157 (by decide) k100_j_154
  have k1_j_158 : F_157 1 = .ref q_1 := fu_ne eF_157 (by decide) k1_j_154
  have k2_j_158 : F_157 2 = .ref q_3 := fu_ne eF_157 (by decide) k2_j_154
  have k9_j_158 : F_157 9 = .ref q_11 := fu_ne eF_157 (by decide) k9_j_154
  have k10_j_158 : F_157 10 = .ref q_15 := fu_ne eF_157 (by decide) k10_j_154
  have k11_j_158 : F_157 11 = .ref q_19 := fu_ne eF_157 (by decide) k11_j_154
  have k13_j_158 : F_157 13 = .ref q_23 := fu_ne eF_157 (by decide) k13_j_154
  have k14_j_158 : F_157 14 = .ref q_27 := fu_ne eF_157 (by decide) k14_j_154
  have k15_j_158 : F_157 15 = .ref q_31 := fu_ne eF_157 (by decide) k15_j_154
  clear eF_157 k0_j_154 k3_j_154 k98_j_154 k100_j_154 k1_j_154 k2_j_154 k9_j_154 k10_j_154 k11_j_154 k13_j_154 k14_j_154 k15_j_154 hP hD hS
  have hP : va_P (dC, dI) vwCl [(h0, .inr (15, fl 134 F_157)), (q_1, .inr (14, [.null, .null, .null, .null, .null, .int 0])), (q_3, .inl (cy_4, 6000, .inl (fun _ => 0))), (q_11, .inl (cy_12, 6002, .inl (fun _ => 0))), (q_15, .inl (cy_16, 6002, .inl (fun _ => 0))), (q_19, .inl (cy_20, 6002, .inl (fun _ => 0))), (q_23, .inl (cy_24, 6000, .inl (fun _ => 0))), (q_27, .inl (cy_28, 6000, .inl (fun _ => 0))), (q_31, .inl (cy_32, 6600, .inl (fun _ => 0)))] H_j_158 := hP_j_158
  have hD : va_D A [(h0, .inr (15, fl 134 F_157)), (q_1, .inr (14, [.null, .null, .null, .null, .null, .int 0])), (q_3, .inl (cy_4, 6000, .inl (fun _ => 0))), (q_11, .inl (cy_12, 6002, .inl (fun _ => 0))), (q_15, .inl (cy_16, 6002, .inl (fun _ => 0))), (q_19, .inl (cy_20, 6002, .inl (fun _ => 0))), (q_23, .inl (cy_24, 6000, .inl (fun _ => 0))), (q_27, .inl (cy_28, 6000, .inl (fun _ => 0))), (q_31, .inl (cy_32, 6600, .inl (fun _ => 0)))] := hD_j_158
  have hS := hS_j_158
  clear hP_j_158 hD_j_158 hS_j_158
  refine W.widen (k := 40) (n := 311082) (Nat.le_of_ble_eq_true rfl) (Nat.le_of_ble_eq_true rfl) ?_
  refine lv_aload_n hx hb dX13_init_361 rfl (lv_at hl 0 rfl) ?_
  refine lv_ldc (v := 64000) hx hb hown (hts (.constant RX13 136 (64000)) (List.mem_of_getElem? (i := 72) rfl)) dX13_init_362 ?_
  refine mstep (X := [(q_1, .inr (14, [.null, .null, .null, .null, .null, .int 0])), (q_3, .inl (cy_4, 6000, .inl (fun _ => 0))), (q_11, .inl (cy_12, 6002, .inl (fun _ => 0))), (q_15, .inl (cy_16, 6002, .inl (fun _ => 0))), (q_19, .inl (cy_20, 6002, .inl (fun _ => 0))), (q_23, .inl (cy_24, 6000, .inl (fun _ => 0))), (q_27, .inl (cy_28, 6000, .inl (fun _ => 0))), (q_31, .inl (cy_32, 6600, .inl (fun _ => 0)))]) (F := F_157) (atype := .int) (ty := .int) (a0 := (64000, .inl (fun _ => 0))) (N' := 64000) hx hb hts in_cc_Model_init_RX13 hown hin hK hP hD hS hA (hts (.arrayClass .int) (List.mem_of_getElem? (i := 33) rfl)) rfl (fun _ => rfl) (by decide) (by decide) (Nat.le_of_ble_eq_true rfl) (Nat.le_of_ble_eq_true rfl) (Nat.le_of_ble_eq_true rfl) dX13_init_364 70 (by decide) (hts (.fieldLink RX13 137 "LevelUnitsModel" "pairA" "[I") (List.mem_of_getElem? (i := 73) rfl)) (fun _ h9 => h9) rfl rfl (by decide +kernel) dX13_init_366 (fun q_159 F_161 H_j_162 locs_j_162 eF_161 hP_j_162 hD_j_162 hS_j_162 => ?_)
  have k0_j_162 : F_161 0 = .int 0 := fu_ne eF_161 (by decide) k0_j_158
  have k3_j_162 : F_161 3 = .int 0 := fu_ne eF_161 (by decide) k3_j_158
  have k98_j_162 : F_161 98 = .int 0 := fu_ne eF_161 (by decide) k98_j_158
  have k100_j_162 : F_161 100 = .int 0 := fu_ne eF_161 (by decide) k100_j_158
  have k1_j_162 : F_161 1 = .ref q_1 := fu_ne eF_161 (by decide) k1_j_158
  have k2_j_162 : F_161 2 = .ref q_3 := fu_ne eF_161 (by decide) k2_j_158
  have k9_j_162 : F_161 9 = .ref q_11 := fu_ne eF_161 (by decide) k9_j_158
  have k10_j_162 : F_161 10 = .ref q_15 := fu_ne eF_161 (by decide) k10_j_158
  have k11_j_162 : F_161 11 = .ref q_19 := fu_ne eF_161 (by decide) k11_j_158
  have k13_j_162 : F_161 13 = .ref q_23 := fu_ne eF_161 (by decide) k13_j_158
  have k14_j_162 : F_161 14 = .ref q_27 := fu_ne eF_161 (by decide) k14_j_158
  have k15_j_162 : F_161 15 = .ref q_31 := fu_ne eF_161 (by decide) k15_j_158
  clear eF_161 k0_j_158 k3_j_158 k98_j_158 k100_j_158 k1_j_158 k2_j_158 k9_j_158 k10_j_158 k11_j_158 k13_j_158 k14_j_158 k15_j_158 hP hD hS
  have hP : va_P (dC, dI) vwCl [(h0, .inr (15, fl 134 F_161)), (q_1, .inr (14, [.null, .null, .null, .null, .null, .int 0])), (q_3, .inl (cy_4, 6000, .inl (fun _ => 0))), (q_11, .inl (cy_12, 6002, .inl (fun _ => 0))), (q_15, .inl (cy_16, 6002, .inl (fun _ => 0))), (q_19, .inl (cy_20, 6002, .inl (fun _ => 0))), (q_23, .inl (cy_24, 6000, .inl (fun _ => 0))), (q_27, .inl (cy_28, 6000, .inl (fun _ => 0))), (q_31, .inl (cy_32, 6600, .inl (fun _ => 0)))] H_j_162 := hP_j_162
  have hD : va_D A [(h0, .inr (15, fl 134 F_161)), (q_1, .inr (14, [.null, .null, .null, .null, .null, .int 0])), (q_3, .inl (cy_4, 6000, .inl (fun _ => 0))), (q_11, .inl (cy_12, 6002, .inl (fun _ => 0))), (q_15, .inl (cy_16, 6002, .inl (fun _ => 0))), (q_19, .inl (cy_20, 6002, .inl (fun _ => 0))), (q_23, .inl (cy_24, 6000, .inl (fun _ => 0))), (q_27, .inl (cy_28, 6000, .inl (fun _ => 0))), (q_31, .inl (cy_32, 6600, .inl (fun _ => 0)))] := hD_j_162
  have hS := hS_j_162
  clear hP_j_162 hD_j_162 hS_j_162
  refine W.widen (k := 41) (n := 375082) (Nat.le_of_ble_eq_true rfl) (Nat.le_of_ble_eq_true rfl) ?_
  refine lv_aload_n hx hb dX13_init_369 rfl (lv_at hl 0 rfl) ?_
  refine lv_ldc (v := 64000) hx hb hown (hts (.constant RX13 136 (64000)) (List.mem_of_getElem? (i := 72) rfl)) dX13_init_370 ?_
  refine mstep (X := [(q_1, .inr (14, [.null, .null, .null, .null, .null, .int 0])), (q_3, .inl (cy_4, 6000, .inl (fun _ => 0))), (q_11, .inl (cy_12, 6002, .inl (fun _ => 0))), (q_15, .inl (cy_16, 6002, .inl (fun _ => 0))), (q_19, .inl (cy_20, 6002, .inl (fun _ => 0))), (q_23, .inl (cy_24, 6000, .inl (fun _ => 0))), (q_27, .inl (cy_28, 6000, .inl (fun _ => 0))), (q_31, .inl (cy_32, 6600, .inl (fun _ => 0)))]) (F := F_161) (atype := .int) (ty := .int) (a0 := (64000, .inl (fun _ => 0))) (N' := 64000) hx hb hts in_cc_Model_init_RX13 hown hin hK hP hD hS hA (hts (.arrayClass .int) (List.mem_of_getElem? (i := 33) rfl)) rfl (fun _ => rfl) (by decide) (by decide) (Nat.le_of_ble_eq_true rfl) (Nat.le_of_ble_eq_true rfl) (Nat.le_of_ble_eq_true rfl) dX13_init_372 71 (by decide) (hts (.fieldLink RX13 140 "LevelUnitsModel" "pairB" "[I") (List.mem_of_getElem? (i := 74) rfl)) (fun _ h9 => h9) rfl rfl (by decide +kernel) dX13_init_374 (fun q_163 F_165 H_j_166 locs_j_166 eF_165 hP_j_166 hD_j_166 hS_j_166 => ?_)
  have k0_j_166 : F_165 0 = .int 0 := fu_ne eF_165 (by decide) k0_j_162
  have k3_j_166 : F_165 3 = .int 0 := fu_ne eF_165 (by decide) k3_j_162
  have k98_j_166 : F_165 98 = .int 0 := fu_ne eF_165 (by decide) k98_j_162
  have k100_j_166 : F_165 100 = .int 0 := fu_ne eF_165 (by decide) k100_j_162
  have k1_j_166 : F_165 1 = .ref q_1 := fu_ne eF_165 (by decide) k1_j_162
  have k2_j_166 : F_165 2 = .ref q_3 := fu_ne eF_165 (by decide) k2_j_162
  have k9_j_166 : F_165 9 = .ref q_11 := fu_ne eF_165 (by decide) k9_j_162
  have k10_j_166 : F_165 10 = .ref q_15 := fu_ne eF_165 (by decide) k10_j_162
  have k11_j_166 : F_165 11 = .ref q_19 := fu_ne eF_165 (by decide) k11_j_162
  have k13_j_166 : F_165 13 = .ref q_23 := fu_ne eF_165 (by decide) k13_j_162
  have k14_j_166 : F_165 14 = .ref q_27 := fu_ne eF_165 (by decide) k14_j_162
  have k15_j_166 : F_165 15 = .ref q_31 := fu_ne eF_165 (by decide) k15_j_162
  clear eF_165 k0_j_162 k3_j_162 k98_j_162 k100_j_162 k1_j_162 k2_j_162 k9_j_162 k10_j_162 k11_j_162 k13_j_162 k14_j_162 k15_j_162 hP hD hS
  have hP : va_P (dC, dI) vwCl [(h0, .inr (15, fl 134 F_165)), (q_1, .inr (14, [.null, .null, .null, .null, .null, .int 0])), (q_3, .inl (cy_4, 6000, .inl (fun _ => 0))), (q_11, .inl (cy_12, 6002, .inl (fun _ => 0))), (q_15, .inl (cy_16, 6002, .inl (fun _ => 0))), (q_19, .inl (cy_20, 6002, .inl (fun _ => 0))), (q_23, .inl (cy_24, 6000, .inl (fun _ => 0))), (q_27, .inl (cy_28, 6000, .inl (fun _ => 0))), (q_31, .inl (cy_32, 6600, .inl (fun _ => 0)))] H_j_166 := hP_j_166
  have hD : va_D A [(h0, .inr (15, fl 134 F_165)), (q_1, .inr (14, [.null, .null, .null, .null, .null, .int 0])), (q_3, .inl (cy_4, 6000, .inl (fun _ => 0))), (q_11, .inl (cy_12, 6002, .inl (fun _ => 0))), (q_15, .inl (cy_16, 6002, .inl (fun _ => 0))), (q_19, .inl (cy_20, 6002, .inl (fun _ => 0))), (q_23, .inl (cy_24, 6000, .inl (fun _ => 0))), (q_27, .inl (cy_28, 6000, .inl (fun _ => 0))), (q_31, .inl (cy_32, 6600, .inl (fun _ => 0)))] := hD_j_166
  have hS := hS_j_166
  clear hP_j_166 hD_j_166 hS_j_166
  refine W.widen (k := 42) (n := 439082) (Nat.le_of_ble_eq_true rfl) (Nat.le_of_ble_eq_true rfl) ?_
  refine lv_aload_n hx hb dX13_init_377 rfl (lv_at hl 0 rfl) ?_
  refine lv_sipush (v := 16000) hx hb dX13_init_378 (by decide) ?_
  refine mstep (X := [(q_1, .inr (14, [.null, .null, .null, .null, .null, .int 0])), (q_3, .inl (cy_4, 6000, .inl (fun _ => 0))), (q_11, .inl (cy_12, 6002, .inl (fun _ => 0))), (q_15, .inl (cy_16, 6002, .inl (fun _ => 0))), (q_19, .inl (cy_20, 6002, .inl (fun _ => 0))), (q_23, .inl (cy_24, 6000, .inl (fun _ => 0))), (q_27, .inl (cy_28, 6000, .inl (fun _ => 0))), (q_31, .inl (cy_32, 6600, .inl (fun _ => 0)))]) (F := F_165) (atype := .int) (ty := .int) (a0 := (16000, .inl (fun _ => 0))) (N' := 16000) hx hb hts in_cc_Model_init_RX13 hown hin hK hP hD hS hA (hts (.arrayClass .int) (List.mem_of_getElem? (i := 33) rfl)) rfl (fun _ => rfl) (by decide) (by decide) (Nat.le_of_ble_eq_true rfl) (Nat.le_of_ble_eq_true rfl) (Nat.le_of_ble_eq_true rfl) dX13_init_381 72 (by decide) (hts (.fieldLink RX13 143 "LevelUnitsModel" "reveal" "[I") (List.mem_of_getElem? (i := 75) rfl)) (fun _ h9 => h9) rfl rfl (by decide +kernel) dX13_init_383 (fun q_167 F_169 H_j_170 locs_j_170 eF_169 hP_j_170 hD_j_170 hS_j_170 => ?_)
  have k0_j_170 : F_169 0 = .int 0 := fu_ne eF_169 (by decide) k0_j_166
  have k3_j_170 : F_169 3 = .int 0 := fu_ne eF_169 (by decide) k3_j_166
  have k98_j_170 : F_169 98 = .int 0 := fu_ne eF_169 (by decide) k98_j_166
  have k100_j_170 : F_169 100 = .int 0 := fu_ne eF_169 (by decide) k100_j_166
  have k1_j_170 : F_169 1 = .ref q_1 := fu_ne eF_169 (by decide) k1_j_166
  have k2_j_170 : F_169 2 = .ref q_3 := fu_ne eF_169 (by decide) k2_j_166
  have k9_j_170 : F_169 9 = .ref q_11 := fu_ne eF_169 (by decide) k9_j_166
  have k10_j_170 : F_169 10 = .ref q_15 := fu_ne eF_169 (by decide) k10_j_166
  have k11_j_170 : F_169 11 = .ref q_19 := fu_ne eF_169 (by decide) k11_j_166
  have k13_j_170 : F_169 13 = .ref q_23 := fu_ne eF_169 (by decide) k13_j_166
  have k14_j_170 : F_169 14 = .ref q_27 := fu_ne eF_169 (by decide) k14_j_166
  have k15_j_170 : F_169 15 = .ref q_31 := fu_ne eF_169 (by decide) k15_j_166
  clear eF_169 k0_j_166 k3_j_166 k98_j_166 k100_j_166 k1_j_166 k2_j_166 k9_j_166 k10_j_166 k11_j_166 k13_j_166 k14_j_166 k15_j_166 hP hD hS
  have hP : va_P (dC, dI) vwCl [(h0, .inr (15, fl 134 F_169)), (q_1, .inr (14, [.null, .null, .null, .null, .null, .int 0])), (q_3, .inl (cy_4, 6000, .inl (fun _ => 0))), (q_11, .inl (cy_12, 6002, .inl (fun _ => 0))), (q_15, .inl (cy_16, 6002, .inl (fun _ => 0))), (q_19, .inl (cy_20, 6002, .inl (fun _ => 0))), (q_23, .inl (cy_24, 6000, .inl (fun _ => 0))), (q_27, .inl (cy_28, 6000, .inl (fun _ => 0))), (q_31, .inl (cy_32, 6600, .inl (fun _ => 0)))] H_j_170 := hP_j_170
  have hD : va_D A [(h0, .inr (15, fl 134 F_169)), (q_1, .inr (14, [.null, .null, .null, .null, .null, .int 0])), (q_3, .inl (cy_4, 6000, .inl (fun _ => 0))), (q_11, .inl (cy_12, 6002, .inl (fun _ => 0))), (q_15, .inl (cy_16, 6002, .inl (fun _ => 0))), (q_19, .inl (cy_20, 6002, .inl (fun _ => 0))), (q_23, .inl (cy_24, 6000, .inl (fun _ => 0))), (q_27, .inl (cy_28, 6000, .inl (fun _ => 0))), (q_31, .inl (cy_32, 6600, .inl (fun _ => 0)))] := hD_j_170
  have hS := hS_j_170
  clear hP_j_170 hD_j_170 hS_j_170
  refine W.widen (k := 43) (n := 455082) (Nat.le_of_ble_eq_true rfl) (Nat.le_of_ble_eq_true rfl) ?_
  refine lv_aload_n hx hb dX13_init_386 rfl (lv_at hl 0 rfl) ?_
  refine lv_sipush (v := 16000) hx hb dX13_init_387 (by decide) ?_
  refine mstep (X := [(q_1, .inr (14, [.null, .null, .null, .null, .null, .int 0])), (q_3, .inl (cy_4, 6000, .inl (fun _ => 0))), (q_11, .inl (cy_12, 6002, .inl (fun _ => 0))), (q_15, .inl (cy_16, 6002, .inl (fun _ => 0))), (q_19, .inl (cy_20, 6002, .inl (fun _ => 0))), (q_23, .inl (cy_24, 6000, .inl (fun _ => 0))), (q_27, .inl (cy_28, 6000, .inl (fun _ => 0))), (q_31, .inl (cy_32, 6600, .inl (fun _ => 0)))]) (F := F_169) (atype := .int) (ty := .int) (a0 := (16000, .inl (fun _ => 0))) (N' := 16000) hx hb hts in_cc_Model_init_RX13 hown hin hK hP hD hS hA (hts (.arrayClass .int) (List.mem_of_getElem? (i := 33) rfl)) rfl (fun _ => rfl) (by decide) (by decide) (Nat.le_of_ble_eq_true rfl) (Nat.le_of_ble_eq_true rfl) (Nat.le_of_ble_eq_true rfl) dX13_init_390 73 (by decide) (hts (.fieldLink RX13 146 "LevelUnitsModel" "ownType" "[I") (List.mem_of_getElem? (i := 76) rfl)) (fun _ h9 => h9) rfl rfl (by decide +kernel) dX13_init_392 (fun q_171 F_173 H_j_174 locs_j_174 eF_173 hP_j_174 hD_j_174 hS_j_174 => ?_)
  have k0_j_174 : F_173 0 = .int 0 := fu_ne eF_173 (by decide) k0_j_170
  have k3_j_174 : F_173 3 = .int 0 := fu_ne eF_173 (by decide) k3_j_170
  have k98_j_174 : F_173 98 = .int 0 := fu_ne eF_173 (by decide) k98_j_170
  have k100_j_174 : F_173 100 = .int 0 := fu_ne eF_173 (by decide) k100_j_170
  have k1_j_174 : F_173 1 = .ref q_1 := fu_ne eF_173 (by decide) k1_j_170
  have k2_j_174 : F_173 2 = .ref q_3 := fu_ne eF_173 (by decide) k2_j_170
  have k9_j_174 : F_173 9 = .ref q_11 := fu_ne eF_173 (by decide) k9_j_170
  have k10_j_174 : F_173 10 = .ref q_15 := fu_ne eF_173 (by decide) k10_j_170
  have k11_j_174 : F_173 11 = .ref q_19 := fu_ne eF_173 (by decide) k11_j_170
  have k13_j_174 : F_173 13 = .ref q_23 := fu_ne eF_173 (by decide) k13_j_170
  have k14_j_174 : F_173 14 = .ref q_27 := fu_ne eF_173 (by decide) k14_j_170
  have k15_j_174 : F_173 15 = .ref q_31 := fu_ne eF_173 (by decide) k15_j_170
  clear eF_173 k0_j_170 k3_j_170 k98_j_170 k100_j_170 k1_j_170 k2_j_170 k9_j_170 k10_j_170 k11_j_170 k13_j_170 k14_j_170 k15_j_170 hP hD hS
  have hP : va_P (dC, dI) vwCl [(h0, .inr (15, fl 134 F_173)), (q_1, .inr (14, [.null, .null, .null, .null, .null, .int 0])), (q_3, .inl (cy_4, 6000, .inl (fun _ => 0))), (q_11, .inl (cy_12, 6002, .inl (fun _ => 0))), (q_15, .inl (cy_16, 6002, .inl (fun _ => 0))), (q_19, .inl (cy_20, 6002, .inl (fun _ => 0))), (q_23, .inl (cy_24, 6000, .inl (fun _ => 0))), (q_27, .inl (cy_28, 6000, .inl (fun _ => 0))), (q_31, .inl (cy_32, 6600, .inl (fun _ => 0)))] H_j_174 := hP_j_174
  have hD : va_D A [(h0, .inr (15, fl 134 F_173)), (q_1, .inr (14, [.null, .null, .null, .null, .null, .int 0])), (q_3, .inl (cy_4, 6000, .inl (fun _ => 0))), (q_11, .inl (cy_12, 6002, .inl (fun _ => 0))), (q_15, .inl (cy_16, 6002, .inl (fun _ => 0))), (q_19, .inl (cy_20, 6002, .inl (fun _ => 0))), (q_23, .inl (cy_24, 6000, .inl (fun _ => 0))), (q_27, .inl (cy_28, 6000, .inl (fun _ => 0))), (q_31, .inl (cy_32, 6600, .inl (fun _ => 0)))] := hD_j_174
  have hS := hS_j_174
  clear hP_j_174 hD_j_174 hS_j_174
  refine W.widen (k := 44) (n := 471082) (Nat.le_of_ble_eq_true rfl) (Nat.le_of_ble_eq_true rfl) ?_
  refine lv_aload_n hx hb dX13_init_395 rfl (lv_at hl 0 rfl) ?_
  refine lv_sipush (v := 3200) hx hb dX13_init_396 (by decide) ?_
  refine mstep (X := [(q_1, .inr (14, [.null, .null, .null, .null, .null, .int 0])), (q_3, .inl (cy_4, 6000, .inl (fun _ => 0))), (q_11, .inl (cy_12, 6002, .inl (fun _ => 0))), (q_15, .inl (cy_16, 6002, .inl (fun _ => 0))), (q_19, .inl (cy_20, 6002, .inl (fun _ => 0))), (q_23, .inl (cy_24, 6000, .inl (fun _ => 0))), (q_27, .inl (cy_28, 6000, .inl (fun _ => 0))), (q_31, .inl (cy_32, 6600, .inl (fun _ => 0)))]) (F := F_173) (atype := .int) (ty := .int) (a0 := (3200, .inl (fun _ => 0))) (N' := 3200) hx hb hts in_cc_Model_init_RX13 hown hin hK hP hD hS hA (hts (.arrayClass .int) (List.mem_of_getElem? (i := 33) rfl)) rfl (fun _ => rfl) (by decide) (by decide) (Nat.le_of_ble_eq_true rfl) (Nat.le_of_ble_eq_true rfl) (Nat.le_of_ble_eq_true rfl) dX13_init_399 75 (by decide) (hts (.fieldLink RX13 149 "LevelUnitsModel" "chain" "[I") (List.mem_of_getElem? (i := 77) rfl)) (fun _ h9 => h9) rfl rfl (by decide +kernel) dX13_init_401 (fun q_175 F_177 H_j_178 locs_j_178 eF_177 hP_j_178 hD_j_178 hS_j_178 => ?_)
  have k0_j_178 : F_177 0 = .int 0 := fu_ne eF_177 (by decide) k0_j_174
  have k3_j_178 : F_177 3 = .int 0 := fu_ne eF_177 (by decide) k3_j_174
  have k98_j_178 : F_177 98 = .int 0 := fu_ne eF_177 (by decide) k98_j_174
  have k100_j_178 : F_177 100 = .int 0 := fu_ne eF_177 (by decide) k100_j_174
  have k1_j_178 : F_177 1 = .ref q_1 := fu_ne eF_177 (by decide) k1_j_174
  have k2_j_178 : F_177 2 = .ref q_3 := fu_ne eF_177 (by decide) k2_j_174
  have k9_j_178 : F_177 9 = .ref q_11 := fu_ne eF_177 (by decide) k9_j_174
  have k10_j_178 : F_177 10 = .ref q_15 := fu_ne eF_177 (by decide) k10_j_174
  have k11_j_178 : F_177 11 = .ref q_19 := fu_ne eF_177 (by decide) k11_j_174
  have k13_j_178 : F_177 13 = .ref q_23 := fu_ne eF_177 (by decide) k13_j_174
  have k14_j_178 : F_177 14 = .ref q_27 := fu_ne eF_177 (by decide) k14_j_174
  have k15_j_178 : F_177 15 = .ref q_31 := fu_ne eF_177 (by decide) k15_j_174
  clear eF_177 k0_j_174 k3_j_174 k98_j_174 k100_j_174 k1_j_174 k2_j_174 k9_j_174 k10_j_174 k11_j_174 k13_j_174 k14_j_174 k15_j_174 hP hD hS
  have hP : va_P (dC, dI) vwCl [(h0, .inr (15, fl 134 F_177)), (q_1, .inr (14, [.null, .null, .null, .null, .null, .int 0])), (q_3, .inl (cy_4, 6000, .inl (fun _ => 0))), (q_11, .inl (cy_12, 6002, .inl (fun _ => 0))), (q_15, .inl (cy_16, 6002, .inl (fun _ => 0))), (q_19, .inl (cy_20, 6002, .inl (fun _ => 0))), (q_23, .inl (cy_24, 6000, .inl (fun _ => 0))), (q_27, .inl (cy_28, 6000, .inl (fun _ => 0))), (q_31, .inl (cy_32, 6600, .inl (fun _ => 0)))] H_j_178 := hP_j_178
  have hD : va_D A [(h0, .inr (15, fl 134 F_177)), (q_1, .inr (14, [.null, .null, .null, .null, .null, .int 0])), (q_3, .inl (cy_4, 6000, .inl (fun _ => 0))), (q_11, .inl (cy_12, 6002, .inl (fun _ => 0))), (q_15, .inl (cy_16, 6002, .inl (fun _ => 0))), (q_19, .inl (cy_20, 6002, .inl (fun _ => 0))), (q_23, .inl (cy_24, 6000, .inl (fun _ => 0))), (q_27, .inl (cy_28, 6000, .inl (fun _ => 0))), (q_31, .inl (cy_32, 6600, .inl (fun _ => 0)))] := hD_j_178
  have hS := hS_j_178
  clear hP_j_178 hD_j_178 hS_j_178
  refine W.widen (k := 45) (n := 474282) (Nat.le_of_ble_eq_true rfl) (Nat.le_of_ble_eq_true rfl) ?_
  refine lv_aload_n hx hb dX13_init_404 rfl (lv_at hl 0 rfl) ?_
  refine lv_sipush (v := 16000) hx hb dX13_init_405 (by decide) ?_
  refine mstep (X := [(q_1, .inr (14, [.null, .null, .null, .null, .null, .int 0])), (q_3, .inl (cy_4, 6000, .inl (fun _ => 0))), (q_11, .inl (cy_12, 6002, .inl (fun _ => 0))), (q_15, .inl (cy_16, 6002, .inl (fun _ => 0))), (q_19, .inl (cy_20, 6002, .inl (fun _ => 0))), (q_23, .inl (cy_24, 6000, .inl (fun _ => 0))), (q_27, .inl (cy_28, 6000, .inl (fun _ => 0))), (q_31, .inl (cy_32, 6600, .inl (fun _ => 0)))]) (F := F_177) (atype := .int) (ty := .int) (a0 := (16000, .inl (fun _ => 0))) (N' := 16000) hx hb hts in_cc_Model_init_RX13 hown hin hK hP hD hS hA (hts (.arrayClass .int) (List.mem_of_getElem? (i := 33) rfl)) rfl (fun _ => rfl) (by decide) (by decide) (Nat.le_of_ble_eq_true rfl) (Nat.le_of_ble_eq_true rfl) (Nat.le_of_ble_eq_true rfl) dX13_init_408 78 (by decide) (hts (.fieldLink RX13 152 "LevelUnitsModel" "inChain" "[I") (List.mem_of_getElem? (i := 78) rfl)) (fun _ h9 => h9) rfl rfl (by decide +kernel) dX13_init_410 (fun q_179 F_181 H_j_182 locs_j_182 eF_181 hP_j_182 hD_j_182 hS_j_182 => ?_)
  have k0_j_182 : F_181 0 = .int 0 := fu_ne eF_181 (by decide) k0_j_178
  have k3_j_182 : F_181 3 = .int 0 := fu_ne eF_181 (by decide) k3_j_178
  have k98_j_182 : F_181 98 = .int 0 := fu_ne eF_181 (by decide) k98_j_178
  have k100_j_182 : F_181 100 = .int 0 := fu_ne eF_181 (by decide) k100_j_178
  have k1_j_182 : F_181 1 = .ref q_1 := fu_ne eF_181 (by decide) k1_j_178
  have k2_j_182 : F_181 2 = .ref q_3 := fu_ne eF_181 (by decide) k2_j_178
  have k9_j_182 : F_181 9 = .ref q_11 := fu_ne eF_181 (by decide) k9_j_178
  have k10_j_182 : F_181 10 = .ref q_15 := fu_ne eF_181 (by decide) k10_j_178
  have k11_j_182 : F_181 11 = .ref q_19 := fu_ne eF_181 (by decide) k11_j_178
  have k13_j_182 : F_181 13 = .ref q_23 := fu_ne eF_181 (by decide) k13_j_178
  have k14_j_182 : F_181 14 = .ref q_27 := fu_ne eF_181 (by decide) k14_j_178
  have k15_j_182 : F_181 15 = .ref q_31 := fu_ne eF_181 (by decide) k15_j_178
  clear eF_181 k0_j_178 k3_j_178 k98_j_178 k100_j_178 k1_j_178 k2_j_178 k9_j_178 k10_j_178 k11_j_178 k13_j_178 k14_j_178 k15_j_178 hP hD hS
  have hP : va_P (dC, dI) vwCl [(h0, .inr (15, fl 134 F_181)), (q_1, .inr (14, [.null, .null, .null, .null, .null, .int 0])), (q_3, .inl (cy_4, 6000, .inl (fun _ => 0))), (q_11, .inl (cy_12, 6002, .inl (fun _ => 0))), (q_15, .inl (cy_16, 6002, .inl (fun _ => 0))), (q_19, .inl (cy_20, 6002, .inl (fun _ => 0))), (q_23, .inl (cy_24, 6000, .inl (fun _ => 0))), (q_27, .inl (cy_28, 6000, .inl (fun _ => 0))), (q_31, .inl (cy_32, 6600, .inl (fun _ => 0)))] H_j_182 := hP_j_182
  have hD : va_D A [(h0, .inr (15, fl 134 F_181)), (q_1, .inr (14, [.null, .null, .null, .null, .null, .int 0])), (q_3, .inl (cy_4, 6000, .inl (fun _ => 0))), (q_11, .inl (cy_12, 6002, .inl (fun _ => 0))), (q_15, .inl (cy_16, 6002, .inl (fun _ => 0))), (q_19, .inl (cy_20, 6002, .inl (fun _ => 0))), (q_23, .inl (cy_24, 6000, .inl (fun _ => 0))), (q_27, .inl (cy_28, 6000, .inl (fun _ => 0))), (q_31, .inl (cy_32, 6600, .inl (fun _ => 0)))] := hD_j_182
  have hS := hS_j_182
  clear hP_j_182 hD_j_182 hS_j_182
  refine W.widen (k := 46) (n := 490282) (Nat.le_of_ble_eq_true rfl) (Nat.le_of_ble_eq_true rfl) ?_
  refine lv_aload_n hx hb dX13_init_413 rfl (lv_at hl 0 rfl) ?_
  refine lv_sipush (v := 16000) hx hb dX13_init_414 (by decide) ?_
  refine mstep (X := [(q_1, .inr (14, [.null, .null, .null, .null, .null, .int 0])), (q_3, .inl (cy_4, 6000, .inl (fun _ => 0))), (q_11, .inl (cy_12, 6002, .inl (fun _ => 0))), (q_15, .inl (cy_16, 6002, .inl (fun _ => 0))), (q_19, .inl (cy_20, 6002, .inl (fun _ => 0))), (q_23, .inl (cy_24, 6000, .inl (fun _ => 0))), (q_27, .inl (cy_28, 6000, .inl (fun _ => 0))), (q_31, .inl (cy_32, 6600, .inl (fun _ => 0)))]) (F := F_181) (atype := .int) (ty := .int) (a0 := (16000, .inl (fun _ => 0))) (N' := 16000) hx hb hts in_cc_Model_init_RX13 hown hin hK hP hD hS hA (hts (.arrayClass .int) (List.mem_of_getElem? (i := 33) rfl)) rfl (fun _ => rfl) (by decide) (by decide) (Nat.le_of_ble_eq_true rfl) (Nat.le_of_ble_eq_true rfl) (Nat.le_of_ble_eq_true rfl) dX13_init_417 79 (by decide) (hts (.fieldLink RX13 155 "LevelUnitsModel" "onWay" "[I") (List.mem_of_getElem? (i := 79) rfl)) (fun _ h9 => h9) rfl rfl (by decide +kernel) dX13_init_419 (fun q_183 F_185 H_j_186 locs_j_186 eF_185 hP_j_186 hD_j_186 hS_j_186 => ?_)
  have k0_j_186 : F_185 0 = .int 0 := fu_ne eF_185 (by decide) k0_j_182
  have k3_j_186 : F_185 3 = .int 0 := fu_ne eF_185 (by decide) k3_j_182
  have k98_j_186 : F_185 98 = .int 0 := fu_ne eF_185 (by decide) k98_j_182
  have k100_j_186 : F_185 100 = .int 0 := fu_ne eF_185 (by decide) k100_j_182
  have k1_j_186 : F_185 1 = .ref q_1 := fu_ne eF_185 (by decide) k1_j_182
  have k2_j_186 : F_185 2 = .ref q_3 := fu_ne eF_185 (by decide) k2_j_182
  have k9_j_186 : F_185 9 = .ref q_11 := fu_ne eF_185 (by decide) k9_j_182
  have k10_j_186 : F_185 10 = .ref q_15 := fu_ne eF_185 (by decide) k10_j_182
  have k11_j_186 : F_185 11 = .ref q_19 := fu_ne eF_185 (by decide) k11_j_182
  have k13_j_186 : F_185 13 = .ref q_23 := fu_ne eF_185 (by decide) k13_j_182
  have k14_j_186 : F_185 14 = .ref q_27 := fu_ne eF_185 (by decide) k14_j_182
  have k15_j_186 : F_185 15 = .ref q_31 := fu_ne eF_185 (by decide) k15_j_182
  clear eF_185 k0_j_182 k3_j_182 k98_j_182 k100_j_182 k1_j_182 k2_j_182 k9_j_182 k10_j_182 k11_j_182 k13_j_182 k14_j_182 k15_j_182 hP hD hS
  have hP : va_P (dC, dI) vwCl [(h0, .inr (15, fl 134 F_185)), (q_1, .inr (14, [.null, .null, .null, .null, .null, .int 0])), (q_3, .inl (cy_4, 6000, .inl (fun _ => 0))), (q_11, .inl (cy_12, 6002, .inl (fun _ => 0))), (q_15, .inl (cy_16, 6002, .inl (fun _ => 0))), (q_19, .inl (cy_20, 6002, .inl (fun _ => 0))), (q_23, .inl (cy_24, 6000, .inl (fun _ => 0))), (q_27, .inl (cy_28, 6000, .inl (fun _ => 0))), (q_31, .inl (cy_32, 6600, .inl (fun _ => 0)))] H_j_186 := hP_j_186
  have hD : va_D A [(h0, .inr (15, fl 134 F_185)), (q_1, .inr (14, [.null, .null, .null, .null, .null, .int 0])), (q_3, .inl (cy_4, 6000, .inl (fun _ => 0))), (q_11, .inl (cy_12, 6002, .inl (fun _ => 0))), (q_15, .inl (cy_16, 6002, .inl (fun _ => 0))), (q_19, .inl (cy_20, 6002, .inl (fun _ => 0))), (q_23, .inl (cy_24, 6000, .inl (fun _ => 0))), (q_27, .inl (cy_28, 6000, .inl (fun _ => 0))), (q_31, .inl (cy_32, 6600, .inl (fun _ => 0)))] := hD_j_186
  have hS := hS_j_186
  clear hP_j_186 hD_j_186 hS_j_186
  refine W.widen (k := 47) (n := 506282) (Nat.le_of_ble_eq_true rfl) (Nat.le_of_ble_eq_true rfl) ?_
  refine lv_aload_n hx hb dX13_init_422 rfl (lv_at hl 0 rfl) ?_
  refine lv_sipush (v := 16000) hx hb dX13_init_423 (by decide) ?_
  refine mstep (X := [(q_1, .inr (14, [.null, .null, .null, .null, .null, .int 0])), (q_3, .inl (cy_4, 6000, .inl (fun _ => 0))), (q_11, .inl (cy_12, 6002, .inl (fun _ => 0))), (q_15, .inl (cy_16, 6002, .inl (fun _ => 0))), (q_19, .inl (cy_20, 6002, .inl (fun _ => 0))), (q_23, .inl (cy_24, 6000, .inl (fun _ => 0))), (q_27, .inl (cy_28, 6000, .inl (fun _ => 0))), (q_31, .inl (cy_32, 6600, .inl (fun _ => 0)))]) (F := F_185) (atype := .int) (ty := .int) (a0 := (16000, .inl (fun _ => 0))) (N' := 16000) hx hb hts in_cc_Model_init_RX13 hown hin hK hP hD hS hA (hts (.arrayClass .int) (List.mem_of_getElem? (i := 33) rfl)) rfl (fun _ => rfl) (by decide) (by decide) (Nat.le_of_ble_eq_true rfl) (Nat.le_of_ble_eq_true rfl) (Nat.le_of_ble_eq_true rfl) dX13_init_426 81 (by decide) (hts (.fieldLink RX13 158 "LevelUnitsModel" "cellsKnown" "[I") (List.mem_of_getElem? (i := 80) rfl)) (fun _ h9 => h9) rfl rfl (by decide +kernel) dX13_init_428 (fun q_187 F_189 H_j_190 locs_j_190 eF_189 hP_j_190 hD_j_190 hS_j_190 => ?_)
  have k0_j_190 : F_189 0 = .int 0 := fu_ne eF_189 (by decide) k0_j_186
  have k3_j_190 : F_189 3 = .int 0 := fu_ne eF_189 (by decide) k3_j_186
  have k98_j_190 : F_189 98 = .int 0 := fu_ne eF_189 (by decide) k98_j_186
  have k100_j_190 : F_189 100 = .int 0 := fu_ne eF_189 (by decide) k100_j_186
  have k1_j_190 : F_189 1 = .ref q_1 := fu_ne eF_189 (by decide) k1_j_186
  have k2_j_190 : F_189 2 = .ref q_3 := fu_ne eF_189 (by decide) k2_j_186
  have k9_j_190 : F_189 9 = .ref q_11 := fu_ne eF_189 (by decide) k9_j_186
  have k10_j_190 : F_189 10 = .ref q_15 := fu_ne eF_189 (by decide) k10_j_186
  have k11_j_190 : F_189 11 = .ref q_19 := fu_ne eF_189 (by decide) k11_j_186
  have k13_j_190 : F_189 13 = .ref q_23 := fu_ne eF_189 (by decide) k13_j_186
  have k14_j_190 : F_189 14 = .ref q_27 := fu_ne eF_189 (by decide) k14_j_186
  have k15_j_190 : F_189 15 = .ref q_31 := fu_ne eF_189 (by decide) k15_j_186
  clear eF_189 k0_j_186 k3_j_186 k98_j_186 k100_j_186 k1_j_186 k2_j_186 k9_j_186 k10_j_186 k11_j_186 k13_j_186 k14_j_186 k15_j_186 hP hD hS
  have hP : va_P (dC, dI) vwCl [(h0, .inr (15, fl 134 F_189)), (q_1, .inr (14, [.null, .null, .null, .null, .null, .int 0])), (q_3, .inl (cy_4, 6000, .inl (fun _ => 0))), (q_11, .inl (cy_12, 6002, .inl (fun _ => 0))), (q_15, .inl (cy_16, 6002, .inl (fun _ => 0))), (q_19, .inl (cy_20, 6002, .inl (fun _ => 0))), (q_23, .inl (cy_24, 6000, .inl (fun _ => 0))), (q_27, .inl (cy_28, 6000, .inl (fun _ => 0))), (q_31, .inl (cy_32, 6600, .inl (fun _ => 0)))] H_j_190 := hP_j_190
  have hD : va_D A [(h0, .inr (15, fl 134 F_189)), (q_1, .inr (14, [.null, .null, .null, .null, .null, .int 0])), (q_3, .inl (cy_4, 6000, .inl (fun _ => 0))), (q_11, .inl (cy_12, 6002, .inl (fun _ => 0))), (q_15, .inl (cy_16, 6002, .inl (fun _ => 0))), (q_19, .inl (cy_20, 6002, .inl (fun _ => 0))), (q_23, .inl (cy_24, 6000, .inl (fun _ => 0))), (q_27, .inl (cy_28, 6000, .inl (fun _ => 0))), (q_31, .inl (cy_32, 6600, .inl (fun _ => 0)))] := hD_j_190
  have hS := hS_j_190
  clear hP_j_190 hD_j_190 hS_j_190
  refine W.widen (k := 48) (n := 522282) (Nat.le_of_ble_eq_true rfl) (Nat.le_of_ble_eq_true rfl) ?_
  refine lv_aload_n hx hb dX13_init_431 rfl (lv_at hl 0 rfl) ?_
  refine lv_sipush (v := 16000) hx hb dX13_init_432 (by decide) ?_
  refine mstep (X := [(q_1, .inr (14, [.null, .null, .null, .null, .null, .int 0])), (q_3, .inl (cy_4, 6000, .inl (fun _ => 0))), (q_11, .inl (cy_12, 6002, .inl (fun _ => 0))), (q_15, .inl (cy_16, 6002, .inl (fun _ => 0))), (q_19, .inl (cy_20, 6002, .inl (fun _ => 0))), (q_23, .inl (cy_24, 6000, .inl (fun _ => 0))), (q_27, .inl (cy_28, 6000, .inl (fun _ => 0))), (q_31, .inl (cy_32, 6600, .inl (fun _ => 0)))]) (F := F_189) (atype := .boolean) (ty := .boolean) (a0 := (16000, .inl (fun _ => 0))) (N' := 16000) hx hb hts in_cc_Model_init_RX13 hown hin hK hP hD hS hA (hts (.arrayClass .boolean) (List.mem_of_getElem? (i := 60) rfl)) rfl (fun _ => rfl) (by decide) (by decide) (Nat.le_of_ble_eq_true rfl) (Nat.le_of_ble_eq_true rfl) (Nat.le_of_ble_eq_true rfl) dX13_init_435 82 (by decide) (hts (.fieldLink RX13 161 "LevelUnitsModel" "holdsItself" "[Z") (List.mem_of_getElem? (i := 81) rfl)) (fun _ h9 => h9) rfl rfl (by decide +kernel) dX13_init_437 (fun q_191 F_193 H_j_194 locs_j_194 eF_193 hP_j_194 hD_j_194 hS_j_194 => ?_)
  have k0_j_194 : F_193 0 = .int 0 := fu_ne eF_193 (by decide) k0_j_190
  have k3_j_194 : F_193 3 = .int 0 := fu_ne eF_193 (by decide) k3_j_190
  have k98_j_194 : F_193 98 = .int 0 := fu_ne eF_193 (by decide) k98_j_190
  have k100_j_194 : F_193 100 = .int 0 := fu_ne eF_193 (by decide) k100_j_190
  have k1_j_194 : F_193 1 = .ref q_1 := fu_ne eF_193 (by decide) k1_j_190
  have k2_j_194 : F_193 2 = .ref q_3 := fu_ne eF_193 (by decide) k2_j_190
  have k9_j_194 : F_193 9 = .ref q_11 := fu_ne eF_193 (by decide) k9_j_190
  have k10_j_194 : F_193 10 = .ref q_15 := fu_ne eF_193 (by decide) k10_j_190
  have k11_j_194 : F_193 11 = .ref q_19 := fu_ne eF_193 (by decide) k11_j_190
  have k13_j_194 : F_193 13 = .ref q_23 := fu_ne eF_193 (by decide) k13_j_190
  have k14_j_194 : F_193 14 = .ref q_27 := fu_ne eF_193 (by decide) k14_j_190
  have k15_j_194 : F_193 15 = .ref q_31 := fu_ne eF_193 (by decide) k15_j_190
  clear eF_193 k0_j_190 k3_j_190 k98_j_190 k100_j_190 k1_j_190 k2_j_190 k9_j_190 k10_j_190 k11_j_190 k13_j_190 k14_j_190 k15_j_190 hP hD hS
  have hP : va_P (dC, dI) vwCl [(h0, .inr (15, fl 134 F_193)), (q_1, .inr (14, [.null, .null, .null, .null, .null, .int 0])), (q_3, .inl (cy_4, 6000, .inl (fun _ => 0))), (q_11, .inl (cy_12, 6002, .inl (fun _ => 0))), (q_15, .inl (cy_16, 6002, .inl (fun _ => 0))), (q_19, .inl (cy_20, 6002, .inl (fun _ => 0))), (q_23, .inl (cy_24, 6000, .inl (fun _ => 0))), (q_27, .inl (cy_28, 6000, .inl (fun _ => 0))), (q_31, .inl (cy_32, 6600, .inl (fun _ => 0)))] H_j_194 := hP_j_194
  have hD : va_D A [(h0, .inr (15, fl 134 F_193)), (q_1, .inr (14, [.null, .null, .null, .null, .null, .int 0])), (q_3, .inl (cy_4, 6000, .inl (fun _ => 0))), (q_11, .inl (cy_12, 6002, .inl (fun _ => 0))), (q_15, .inl (cy_16, 6002, .inl (fun _ => 0))), (q_19, .inl (cy_20, 6002, .inl (fun _ => 0))), (q_23, .inl (cy_24, 6000, .inl (fun _ => 0))), (q_27, .inl (cy_28, 6000, .inl (fun _ => 0))), (q_31, .inl (cy_32, 6600, .inl (fun _ => 0)))] := hD_j_194
  have hS := hS_j_194
  clear hP_j_194 hD_j_194 hS_j_194
  refine W.widen (k := 49) (n := 538282) (Nat.le_of_ble_eq_true rfl) (Nat.le_of_ble_eq_true rfl) ?_
  refine lv_aload_n hx hb dX13_init_440 rfl (lv_at hl 0 rfl) ?_
  refine lv_sipush (v := 16000) hx hb dX13_init_441 (by decide) ?_
  refine mstep (X := [(q_1, .inr (14, [.null, .null, .null, .null, .null, .int 0])), (q_3, .inl (cy_4, 6000, .inl (fun _ => 0))), (q_11, .inl (cy_12, 6002, .inl (fun _ => 0))), (q_15, .inl (cy_16, 6002, .inl (fun _ => 0))), (q_19, .inl (cy_20, 6002, .inl (fun _ => 0))), (q_23, .inl (cy_24, 6000, .inl (fun _ => 0))), (q_27, .inl (cy_28, 6000, .inl (fun _ => 0))), (q_31, .inl (cy_32, 6600, .inl (fun _ => 0)))]) (F := F_193) (atype := .boolean) (ty := .boolean) (a0 := (16000, .inl (fun _ => 0))) (N' := 16000) hx hb hts in_cc_Model_init_RX13 hown hin hK hP hD hS hA (hts (.arrayClass .boolean) (List.mem_of_getElem? (i := 60) rfl)) rfl (fun _ => rfl) (by decide) (by decide) (Nat.le_of_ble_eq_true rfl) (Nat.le_of_ble_eq_true rfl) (Nat.le_of_ble_eq_true rfl) dX13_init_444 84 (by decide) (hts (.fieldLink RX13 164 "LevelUnitsModel" "isMet" "[Z") (List.mem_of_getElem? (i := 82) rfl)) (fun _ h9 => h9) rfl rfl (by decide +kernel) dX13_init_446 (fun q_195 F_197 H_j_198 locs_j_198 eF_197 hP_j_198 hD_j_198 hS_j_198 => ?_)
  have k0_j_198 : F_197 0 = .int 0 := fu_ne eF_197 (by decide) k0_j_194
  have k3_j_198 : F_197 3 = .int 0 := fu_ne eF_197 (by decide) k3_j_194
  have k98_j_198 : F_197 98 = .int 0 := fu_ne eF_197 (by decide) k98_j_194
  have k100_j_198 : F_197 100 = .int 0 := fu_ne eF_197 (by decide) k100_j_194
  have k1_j_198 : F_197 1 = .ref q_1 := fu_ne eF_197 (by decide) k1_j_194
  have k2_j_198 : F_197 2 = .ref q_3 := fu_ne eF_197 (by decide) k2_j_194
  have k9_j_198 : F_197 9 = .ref q_11 := fu_ne eF_197 (by decide) k9_j_194
  have k10_j_198 : F_197 10 = .ref q_15 := fu_ne eF_197 (by decide) k10_j_194
  have k11_j_198 : F_197 11 = .ref q_19 := fu_ne eF_197 (by decide) k11_j_194
  have k13_j_198 : F_197 13 = .ref q_23 := fu_ne eF_197 (by decide) k13_j_194
  have k14_j_198 : F_197 14 = .ref q_27 := fu_ne eF_197 (by decide) k14_j_194
  have k15_j_198 : F_197 15 = .ref q_31 := fu_ne eF_197 (by decide) k15_j_194
  clear eF_197 k0_j_194 k3_j_194 k98_j_194 k100_j_194 k1_j_194 k2_j_194 k9_j_194 k10_j_194 k11_j_194 k13_j_194 k14_j_194 k15_j_194 hP hD hS
  have hP : va_P (dC, dI) vwCl [(h0, .inr (15, fl 134 F_197)), (q_1, .inr (14, [.null, .null, .null, .null, .null, .int 0])), (q_3, .inl (cy_4, 6000, .inl (fun _ => 0))), (q_11, .inl (cy_12, 6002, .inl (fun _ => 0))), (q_15, .inl (cy_16, 6002, .inl (fun _ => 0))), (q_19, .inl (cy_20, 6002, .inl (fun _ => 0))), (q_23, .inl (cy_24, 6000, .inl (fun _ => 0))), (q_27, .inl (cy_28, 6000, .inl (fun _ => 0))), (q_31, .inl (cy_32, 6600, .inl (fun _ => 0)))] H_j_198 := hP_j_198
  have hD : va_D A [(h0, .inr (15, fl 134 F_197)), (q_1, .inr (14, [.null, .null, .null, .null, .null, .int 0])), (q_3, .inl (cy_4, 6000, .inl (fun _ => 0))), (q_11, .inl (cy_12, 6002, .inl (fun _ => 0))), (q_15, .inl (cy_16, 6002, .inl (fun _ => 0))), (q_19, .inl (cy_20, 6002, .inl (fun _ => 0))), (q_23, .inl (cy_24, 6000, .inl (fun _ => 0))), (q_27, .inl (cy_28, 6000, .inl (fun _ => 0))), (q_31, .inl (cy_32, 6600, .inl (fun _ => 0)))] := hD_j_198
  have hS := hS_j_198
  clear hP_j_198 hD_j_198 hS_j_198
  refine W.widen (k := 50) (n := 554282) (Nat.le_of_ble_eq_true rfl) (Nat.le_of_ble_eq_true rfl) ?_
  refine lv_aload_n hx hb dX13_init_449 rfl (lv_at hl 0 rfl) ?_
  refine lv_sipush (v := 3200) hx hb dX13_init_450 (by decide) ?_
  refine mstep (X := [(q_1, .inr (14, [.null, .null, .null, .null, .null, .int 0])), (q_3, .inl (cy_4, 6000, .inl (fun _ => 0))), (q_11, .inl (cy_12, 6002, .inl (fun _ => 0))), (q_15, .inl (cy_16, 6002, .inl (fun _ => 0))), (q_19, .inl (cy_20, 6002, .inl (fun _ => 0))), (q_23, .inl (cy_24, 6000, .inl (fun _ => 0))), (q_27, .inl (cy_28, 6000, .inl (fun _ => 0))), (q_31, .inl (cy_32, 6600, .inl (fun _ => 0)))]) (F := F_197) (atype := .int) (ty := .int) (a0 := (3200, .inl (fun _ => 0))) (N' := 3200) hx hb hts in_cc_Model_init_RX13 hown hin hK hP hD hS hA (hts (.arrayClass .int) (List.mem_of_getElem? (i := 33) rfl)) rfl (fun _ => rfl) (by decide) (by decide) (Nat.le_of_ble_eq_true rfl) (Nat.le_of_ble_eq_true rfl) (Nat.le_of_ble_eq_true rfl) dX13_init_453 87 (by decide) (hts (.fieldLink RX13 167 "LevelUnitsModel" "procedureType" "[I") (List.mem_of_getElem? (i := 83) rfl)) (fun _ h9 => h9) rfl rfl (by decide +kernel) dX13_init_455 (fun q_199 F_201 H_j_202 locs_j_202 eF_201 hP_j_202 hD_j_202 hS_j_202 => ?_)
  have k0_j_202 : F_201 0 = .int 0 := fu_ne eF_201 (by decide) k0_j_198
  have k3_j_202 : F_201 3 = .int 0 := fu_ne eF_201 (by decide) k3_j_198
  have k98_j_202 : F_201 98 = .int 0 := fu_ne eF_201 (by decide) k98_j_198
  have k100_j_202 : F_201 100 = .int 0 := fu_ne eF_201 (by decide) k100_j_198
  have k1_j_202 : F_201 1 = .ref q_1 := fu_ne eF_201 (by decide) k1_j_198
  have k2_j_202 : F_201 2 = .ref q_3 := fu_ne eF_201 (by decide) k2_j_198
  have k9_j_202 : F_201 9 = .ref q_11 := fu_ne eF_201 (by decide) k9_j_198
  have k10_j_202 : F_201 10 = .ref q_15 := fu_ne eF_201 (by decide) k10_j_198
  have k11_j_202 : F_201 11 = .ref q_19 := fu_ne eF_201 (by decide) k11_j_198
  have k13_j_202 : F_201 13 = .ref q_23 := fu_ne eF_201 (by decide) k13_j_198
  have k14_j_202 : F_201 14 = .ref q_27 := fu_ne eF_201 (by decide) k14_j_198
  have k15_j_202 : F_201 15 = .ref q_31 := fu_ne eF_201 (by decide) k15_j_198
  clear eF_201 k0_j_198 k3_j_198 k98_j_198 k100_j_198 k1_j_198 k2_j_198 k9_j_198 k10_j_198 k11_j_198 k13_j_198 k14_j_198 k15_j_198 hP hD hS
  have hP : va_P (dC, dI) vwCl [(h0, .inr (15, fl 134 F_201)), (q_1, .inr (14, [.null, .null, .null, .null, .null, .int 0])), (q_3, .inl (cy_4, 6000, .inl (fun _ => 0))), (q_11, .inl (cy_12, 6002, .inl (fun _ => 0))), (q_15, .inl (cy_16, 6002, .inl (fun _ => 0))), (q_19, .inl (cy_20, 6002, .inl (fun _ => 0))), (q_23, .inl (cy_24, 6000, .inl (fun _ => 0))), (q_27, .inl (cy_28, 6000, .inl (fun _ => 0))), (q_31, .inl (cy_32, 6600, .inl (fun _ => 0)))] H_j_202 := hP_j_202
  have hD : va_D A [(h0, .inr (15, fl 134 F_201)), (q_1, .inr (14, [.null, .null, .null, .null, .null, .int 0])), (q_3, .inl (cy_4, 6000, .inl (fun _ => 0))), (q_11, .inl (cy_12, 6002, .inl (fun _ => 0))), (q_15, .inl (cy_16, 6002, .inl (fun _ => 0))), (q_19, .inl (cy_20, 6002, .inl (fun _ => 0))), (q_23, .inl (cy_24, 6000, .inl (fun _ => 0))), (q_27, .inl (cy_28, 6000, .inl (fun _ => 0))), (q_31, .inl (cy_32, 6600, .inl (fun _ => 0)))] := hD_j_202
  have hS := hS_j_202
  clear hP_j_202 hD_j_202 hS_j_202
  refine W.widen (k := 51) (n := 557482) (Nat.le_of_ble_eq_true rfl) (Nat.le_of_ble_eq_true rfl) ?_
  refine lv_aload_n hx hb dX13_init_458 rfl (lv_at hl 0 rfl) ?_
  refine lv_sipush (v := 16000) hx hb dX13_init_459 (by decide) ?_
  refine mstep (X := [(q_1, .inr (14, [.null, .null, .null, .null, .null, .int 0])), (q_3, .inl (cy_4, 6000, .inl (fun _ => 0))), (q_11, .inl (cy_12, 6002, .inl (fun _ => 0))), (q_15, .inl (cy_16, 6002, .inl (fun _ => 0))), (q_19, .inl (cy_20, 6002, .inl (fun _ => 0))), (q_23, .inl (cy_24, 6000, .inl (fun _ => 0))), (q_27, .inl (cy_28, 6000, .inl (fun _ => 0))), (q_31, .inl (cy_32, 6600, .inl (fun _ => 0)))]) (F := F_201) (atype := .int) (ty := .int) (a0 := (16000, .inl (fun _ => 0))) (N' := 16000) hx hb hts in_cc_Model_init_RX13 hown hin hK hP hD hS hA (hts (.arrayClass .int) (List.mem_of_getElem? (i := 33) rfl)) rfl (fun _ => rfl) (by decide) (by decide) (Nat.le_of_ble_eq_true rfl) (Nat.le_of_ble_eq_true rfl) (Nat.le_of_ble_eq_true rfl) dX13_init_462 88 (by decide) (hts (.fieldLink RX13 170 "LevelUnitsModel" "et" "[I") (List.mem_of_getElem? (i := 84) rfl)) (fun _ h9 => h9) rfl rfl (by decide +kernel) dX13_init_464 (fun q_203 F_205 H_j_206 locs_j_206 eF_205 hP_j_206 hD_j_206 hS_j_206 => ?_)
  have k0_j_206 : F_205 0 = .int 0 := fu_ne eF_205 (by decide) k0_j_202
  have k3_j_206 : F_205 3 = .int 0 := fu_ne eF_205 (by decide) k3_j_202
  have k98_j_206 : F_205 98 = .int 0 := fu_ne eF_205 (by decide) k98_j_202
  have k100_j_206 : F_205 100 = .int 0 := fu_ne eF_205 (by decide) k100_j_202
  have k1_j_206 : F_205 1 = .ref q_1 := fu_ne eF_205 (by decide) k1_j_202
  have k2_j_206 : F_205 2 = .ref q_3 := fu_ne eF_205 (by decide) k2_j_202
  have k9_j_206 : F_205 9 = .ref q_11 := fu_ne eF_205 (by decide) k9_j_202
  have k10_j_206 : F_205 10 = .ref q_15 := fu_ne eF_205 (by decide) k10_j_202
  have k11_j_206 : F_205 11 = .ref q_19 := fu_ne eF_205 (by decide) k11_j_202
  have k13_j_206 : F_205 13 = .ref q_23 := fu_ne eF_205 (by decide) k13_j_202
  have k14_j_206 : F_205 14 = .ref q_27 := fu_ne eF_205 (by decide) k14_j_202
  have k15_j_206 : F_205 15 = .ref q_31 := fu_ne eF_205 (by decide) k15_j_202
  clear eF_205 k0_j_202 k3_j_202 k98_j_202 k100_j_202 k1_j_202 k2_j_202 k9_j_202 k10_j_202 k11_j_202 k13_j_202 k14_j_202 k15_j_202 hP hD hS
  have hP : va_P (dC, dI) vwCl [(h0, .inr (15, fl 134 F_205)), (q_1, .inr (14, [.null, .null, .null, .null, .null, .int 0])), (q_3, .inl (cy_4, 6000, .inl (fun _ => 0))), (q_11, .inl (cy_12, 6002, .inl (fun _ => 0))), (q_15, .inl (cy_16, 6002, .inl (fun _ => 0))), (q_19, .inl (cy_20, 6002, .inl (fun _ => 0))), (q_23, .inl (cy_24, 6000, .inl (fun _ => 0))), (q_27, .inl (cy_28, 6000, .inl (fun _ => 0))), (q_31, .inl (cy_32, 6600, .inl (fun _ => 0)))] H_j_206 := hP_j_206
  have hD : va_D A [(h0, .inr (15, fl 134 F_205)), (q_1, .inr (14, [.null, .null, .null, .null, .null, .int 0])), (q_3, .inl (cy_4, 6000, .inl (fun _ => 0))), (q_11, .inl (cy_12, 6002, .inl (fun _ => 0))), (q_15, .inl (cy_16, 6002, .inl (fun _ => 0))), (q_19, .inl (cy_20, 6002, .inl (fun _ => 0))), (q_23, .inl (cy_24, 6000, .inl (fun _ => 0))), (q_27, .inl (cy_28, 6000, .inl (fun _ => 0))), (q_31, .inl (cy_32, 6600, .inl (fun _ => 0)))] := hD_j_206
  have hS := hS_j_206
  clear hP_j_206 hD_j_206 hS_j_206
  refine W.widen (k := 52) (n := 573482) (Nat.le_of_ble_eq_true rfl) (Nat.le_of_ble_eq_true rfl) ?_
  refine lv_aload_n hx hb dX13_init_467 rfl (lv_at hl 0 rfl) ?_
  refine lv_bipush (v := 64) hx hb dX13_init_468 (by decide) ?_
  refine mstep (X := [(q_1, .inr (14, [.null, .null, .null, .null, .null, .int 0])), (q_3, .inl (cy_4, 6000, .inl (fun _ => 0))), (q_11, .inl (cy_12, 6002, .inl (fun _ => 0))), (q_15, .inl (cy_16, 6002, .inl (fun _ => 0))), (q_19, .inl (cy_20, 6002, .inl (fun _ => 0))), (q_23, .inl (cy_24, 6000, .inl (fun _ => 0))), (q_27, .inl (cy_28, 6000, .inl (fun _ => 0))), (q_31, .inl (cy_32, 6600, .inl (fun _ => 0)))]) (F := F_205) (atype := .int) (ty := .int) (a0 := (64, .inl (fun _ => 0))) (N' := 64) hx hb hts in_cc_Model_init_RX13 hown hin hK hP hD hS hA (hts (.arrayClass .int) (List.mem_of_getElem? (i := 33) rfl)) rfl (fun _ => rfl) (by decide) (by decide) (Nat.le_of_ble_eq_true rfl) (Nat.le_of_ble_eq_true rfl) (Nat.le_of_ble_eq_true rfl) dX13_init_470 94 (by decide) (hts (.fieldLink RX13 173 "LevelUnitsModel" "tryNode" "[I") (List.mem_of_getElem? (i := 85) rfl)) (fun _ h9 => h9) rfl rfl (by decide +kernel) dX13_init_472 (fun q_207 F_209 H_j_210 locs_j_210 eF_209 hP_j_210 hD_j_210 hS_j_210 => ?_)
  have k0_j_210 : F_209 0 = .int 0 := fu_ne eF_209 (by decide) k0_j_206
  have k3_j_210 : F_209 3 = .int 0 := fu_ne eF_209 (by decide) k3_j_206
  have k98_j_210 : F_209 98 = .int 0 := fu_ne eF_209 (by decide) k98_j_206
  have k100_j_210 : F_209 100 = .int 0 := fu_ne eF_209 (by decide) k100_j_206
  have k1_j_210 : F_209 1 = .ref q_1 := fu_ne eF_209 (by decide) k1_j_206
  have k2_j_210 : F_209 2 = .ref q_3 := fu_ne eF_209 (by decide) k2_j_206
  have k9_j_210 : F_209 9 = .ref q_11 := fu_ne eF_209 (by decide) k9_j_206
  have k10_j_210 : F_209 10 = .ref q_15 := fu_ne eF_209 (by decide) k10_j_206
  have k11_j_210 : F_209 11 = .ref q_19 := fu_ne eF_209 (by decide) k11_j_206
  have k13_j_210 : F_209 13 = .ref q_23 := fu_ne eF_209 (by decide) k13_j_206
  have k14_j_210 : F_209 14 = .ref q_27 := fu_ne eF_209 (by decide) k14_j_206
  have k15_j_210 : F_209 15 = .ref q_31 := fu_ne eF_209 (by decide) k15_j_206
  clear eF_209 k0_j_206 k3_j_206 k98_j_206 k100_j_206 k1_j_206 k2_j_206 k9_j_206 k10_j_206 k11_j_206 k13_j_206 k14_j_206 k15_j_206 hP hD hS
  have hP : va_P (dC, dI) vwCl [(h0, .inr (15, fl 134 F_209)), (q_1, .inr (14, [.null, .null, .null, .null, .null, .int 0])), (q_3, .inl (cy_4, 6000, .inl (fun _ => 0))), (q_11, .inl (cy_12, 6002, .inl (fun _ => 0))), (q_15, .inl (cy_16, 6002, .inl (fun _ => 0))), (q_19, .inl (cy_20, 6002, .inl (fun _ => 0))), (q_23, .inl (cy_24, 6000, .inl (fun _ => 0))), (q_27, .inl (cy_28, 6000, .inl (fun _ => 0))), (q_31, .inl (cy_32, 6600, .inl (fun _ => 0)))] H_j_210 := hP_j_210
  have hD : va_D A [(h0, .inr (15, fl 134 F_209)), (q_1, .inr (14, [.null, .null, .null, .null, .null, .int 0])), (q_3, .inl (cy_4, 6000, .inl (fun _ => 0))), (q_11, .inl (cy_12, 6002, .inl (fun _ => 0))), (q_15, .inl (cy_16, 6002, .inl (fun _ => 0))), (q_19, .inl (cy_20, 6002, .inl (fun _ => 0))), (q_23, .inl (cy_24, 6000, .inl (fun _ => 0))), (q_27, .inl (cy_28, 6000, .inl (fun _ => 0))), (q_31, .inl (cy_32, 6600, .inl (fun _ => 0)))] := hD_j_210
  have hS := hS_j_210
  clear hP_j_210 hD_j_210 hS_j_210
  refine W.widen (k := 53) (n := 573546) (Nat.le_of_ble_eq_true rfl) (Nat.le_of_ble_eq_true rfl) ?_
  refine lv_aload_n hx hb dX13_init_475 rfl (lv_at hl 0 rfl) ?_
  refine lv_sipush (v := 3200) hx hb dX13_init_476 (by decide) ?_
  refine mstep (X := [(q_1, .inr (14, [.null, .null, .null, .null, .null, .int 0])), (q_3, .inl (cy_4, 6000, .inl (fun _ => 0))), (q_11, .inl (cy_12, 6002, .inl (fun _ => 0))), (q_15, .inl (cy_16, 6002, .inl (fun _ => 0))), (q_19, .inl (cy_20, 6002, .inl (fun _ => 0))), (q_23, .inl (cy_24, 6000, .inl (fun _ => 0))), (q_27, .inl (cy_28, 6000, .inl (fun _ => 0))), (q_31, .inl (cy_32, 6600, .inl (fun _ => 0)))]) (F := F_209) (atype := .int) (ty := .int) (a0 := (3200, .inl (fun _ => 0))) (N' := 3200) hx hb hts in_cc_Model_init_RX13 hown hin hK hP hD hS hA (hts (.arrayClass .int) (List.mem_of_getElem? (i := 33) rfl)) rfl (fun _ => rfl) (by decide) (by decide) (Nat.le_of_ble_eq_true rfl) (Nat.le_of_ble_eq_true rfl) (Nat.le_of_ble_eq_true rfl) dX13_init_479 95 (by decide) (hts (.fieldLink RX13 176 "LevelUnitsModel" "pCells" "[I") (List.mem_of_getElem? (i := 86) rfl)) (fun _ h9 => h9) rfl rfl (by decide +kernel) dX13_init_481 (fun q_211 F_213 H_j_214 locs_j_214 eF_213 hP_j_214 hD_j_214 hS_j_214 => ?_)
  have k0_j_214 : F_213 0 = .int 0 := fu_ne eF_213 (by decide) k0_j_210
  have k3_j_214 : F_213 3 = .int 0 := fu_ne eF_213 (by decide) k3_j_210
  have k98_j_214 : F_213 98 = .int 0 := fu_ne eF_213 (by decide) k98_j_210
  have k100_j_214 : F_213 100 = .int 0 := fu_ne eF_213 (by decide) k100_j_210
  have k1_j_214 : F_213 1 = .ref q_1 := fu_ne eF_213 (by decide) k1_j_210
  have k2_j_214 : F_213 2 = .ref q_3 := fu_ne eF_213 (by decide) k2_j_210
  have k9_j_214 : F_213 9 = .ref q_11 := fu_ne eF_213 (by decide) k9_j_210
  have k10_j_214 : F_213 10 = .ref q_15 := fu_ne eF_213 (by decide) k10_j_210
  have k11_j_214 : F_213 11 = .ref q_19 := fu_ne eF_213 (by decide) k11_j_210
  have k13_j_214 : F_213 13 = .ref q_23 := fu_ne eF_213 (by decide) k13_j_210
  have k14_j_214 : F_213 14 = .ref q_27 := fu_ne eF_213 (by decide) k14_j_210
  have k15_j_214 : F_213 15 = .ref q_31 := fu_ne eF_213 (by decide) k15_j_210
  clear eF_213 k0_j_210 k3_j_210 k98_j_210 k100_j_210 k1_j_210 k2_j_210 k9_j_210 k10_j_210 k11_j_210 k13_j_210 k14_j_210 k15_j_210 hP hD hS
  have hP : va_P (dC, dI) vwCl [(h0, .inr (15, fl 134 F_213)), (q_1, .inr (14, [.null, .null, .null, .null, .null, .int 0])), (q_3, .inl (cy_4, 6000, .inl (fun _ => 0))), (q_11, .inl (cy_12, 6002, .inl (fun _ => 0))), (q_15, .inl (cy_16, 6002, .inl (fun _ => 0))), (q_19, .inl (cy_20, 6002, .inl (fun _ => 0))), (q_23, .inl (cy_24, 6000, .inl (fun _ => 0))), (q_27, .inl (cy_28, 6000, .inl (fun _ => 0))), (q_31, .inl (cy_32, 6600, .inl (fun _ => 0)))] H_j_214 := hP_j_214
  have hD : va_D A [(h0, .inr (15, fl 134 F_213)), (q_1, .inr (14, [.null, .null, .null, .null, .null, .int 0])), (q_3, .inl (cy_4, 6000, .inl (fun _ => 0))), (q_11, .inl (cy_12, 6002, .inl (fun _ => 0))), (q_15, .inl (cy_16, 6002, .inl (fun _ => 0))), (q_19, .inl (cy_20, 6002, .inl (fun _ => 0))), (q_23, .inl (cy_24, 6000, .inl (fun _ => 0))), (q_27, .inl (cy_28, 6000, .inl (fun _ => 0))), (q_31, .inl (cy_32, 6600, .inl (fun _ => 0)))] := hD_j_214
  have hS := hS_j_214
  clear hP_j_214 hD_j_214 hS_j_214
  refine W.widen (k := 54) (n := 576746) (Nat.le_of_ble_eq_true rfl) (Nat.le_of_ble_eq_true rfl) ?_
  refine lv_aload_n hx hb dX13_init_484 rfl (lv_at hl 0 rfl) ?_
  refine lv_sipush (v := 3200) hx hb dX13_init_485 (by decide) ?_
  refine mstep (X := [(q_1, .inr (14, [.null, .null, .null, .null, .null, .int 0])), (q_3, .inl (cy_4, 6000, .inl (fun _ => 0))), (q_11, .inl (cy_12, 6002, .inl (fun _ => 0))), (q_15, .inl (cy_16, 6002, .inl (fun _ => 0))), (q_19, .inl (cy_20, 6002, .inl (fun _ => 0))), (q_23, .inl (cy_24, 6000, .inl (fun _ => 0))), (q_27, .inl (cy_28, 6000, .inl (fun _ => 0))), (q_31, .inl (cy_32, 6600, .inl (fun _ => 0)))]) (F := F_213) (atype := .int) (ty := .int) (a0 := (3200, .inl (fun _ => 0))) (N' := 3200) hx hb hts in_cc_Model_init_RX13 hown hin hK hP hD hS hA (hts (.arrayClass .int) (List.mem_of_getElem? (i := 33) rfl)) rfl (fun _ => rfl) (by decide) (by decide) (Nat.le_of_ble_eq_true rfl) (Nat.le_of_ble_eq_true rfl) (Nat.le_of_ble_eq_true rfl) dX13_init_488 96 (by decide) (hts (.fieldLink RX13 179 "LevelUnitsModel" "pAll" "[I") (List.mem_of_getElem? (i := 87) rfl)) (fun _ h9 => h9) rfl rfl (by decide +kernel) dX13_init_490 (fun q_215 F_217 H_j_218 locs_j_218 eF_217 hP_j_218 hD_j_218 hS_j_218 => ?_)
  have k0_j_218 : F_217 0 = .int 0 := fu_ne eF_217 (by decide) k0_j_214
  have k3_j_218 : F_217 3 = .int 0 := fu_ne eF_217 (by decide) k3_j_214
  have k98_j_218 : F_217 98 = .int 0 := fu_ne eF_217 (by decide) k98_j_214
  have k100_j_218 : F_217 100 = .int 0 := fu_ne eF_217 (by decide) k100_j_214
  have k1_j_218 : F_217 1 = .ref q_1 := fu_ne eF_217 (by decide) k1_j_214
  have k2_j_218 : F_217 2 = .ref q_3 := fu_ne eF_217 (by decide) k2_j_214
  have k9_j_218 : F_217 9 = .ref q_11 := fu_ne eF_217 (by decide) k9_j_214
  have k10_j_218 : F_217 10 = .ref q_15 := fu_ne eF_217 (by decide) k10_j_214
  have k11_j_218 : F_217 11 = .ref q_19 := fu_ne eF_217 (by decide) k11_j_214
  have k13_j_218 : F_217 13 = .ref q_23 := fu_ne eF_217 (by decide) k13_j_214
  have k14_j_218 : F_217 14 = .ref q_27 := fu_ne eF_217 (by decide) k14_j_214
  have k15_j_218 : F_217 15 = .ref q_31 := fu_ne eF_217 (by decide) k15_j_214
  clear eF_217 k0_j_214 k3_j_214 k98_j_214 k100_j_214 k1_j_214 k2_j_214 k9_j_214 k10_j_214 k11_j_214 k13_j_214 k14_j_214 k15_j_214 hP hD hS
  have hP : va_P (dC, dI) vwCl [(h0, .inr (15, fl 134 F_217)), (q_1, .inr (14, [.null, .null, .null, .null, .null, .int 0])), (q_3, .inl (cy_4, 6000, .inl (fun _ => 0))), (q_11, .inl (cy_12, 6002, .inl (fun _ => 0))), (q_15, .inl (cy_16, 6002, .inl (fun _ => 0))), (q_19, .inl (cy_20, 6002, .inl (fun _ => 0))), (q_23, .inl (cy_24, 6000, .inl (fun _ => 0))), (q_27, .inl (cy_28, 6000, .inl (fun _ => 0))), (q_31, .inl (cy_32, 6600, .inl (fun _ => 0)))] H_j_218 := hP_j_218
  have hD : va_D A [(h0, .inr (15, fl 134 F_217)), (q_1, .inr (14, [.null, .null, .null, .null, .null, .int 0])), (q_3, .inl (cy_4, 6000, .inl (fun _ => 0))), (q_11, .inl (cy_12, 6002, .inl (fun _ => 0))), (q_15, .inl (cy_16, 6002, .inl (fun _ => 0))), (q_19, .inl (cy_20, 6002, .inl (fun _ => 0))), (q_23, .inl (cy_24, 6000, .inl (fun _ => 0))), (q_27, .inl (cy_28, 6000, .inl (fun _ => 0))), (q_31, .inl (cy_32, 6600, .inl (fun _ => 0)))] := hD_j_218
  have hS := hS_j_218
  clear hP_j_218 hD_j_218 hS_j_218
  refine W.widen (k := 55) (n := 579946) (Nat.le_of_ble_eq_true rfl) (Nat.le_of_ble_eq_true rfl) ?_
  refine lv_aload_n hx hb dX13_init_493 rfl (lv_at hl 0 rfl) ?_
  refine lv_sipush (v := 29400) hx hb dX13_init_494 (by decide) ?_
  refine va_newa (atype := .int) (ty := .int) (a0 := (29400, .inl (fun _ => 0))) (N' := 29400) hx hb (hts (.arrayClass .int) (List.mem_of_getElem? (i := 33) rfl)) rfl hK hP hD hS hA (fun _ => rfl) (by decide) (by decide) (Nat.le_of_ble_eq_true rfl) (Nat.le_of_ble_eq_true rfl) (Nat.le_of_ble_eq_true rfl) dX13_init_497 (fun q_219 cy_220 H hK hP hD hS => ?_)
  have hK : va_K (dC, dI) vwCl [(cy_4, .byte), (cy_12, .int), (cy_16, .int), (cy_20, .int), (cy_24, .int), (cy_28, .int), (cy_32, .byte), (cy_220, .int)] s := hK
  have hP : va_P (dC, dI) vwCl [(h0, .inr (15, fl 134 F_217)), (q_1, .inr (14, [.null, .null, .null, .null, .null, .int 0])), (q_3, .inl (cy_4, 6000, .inl (fun _ => 0))), (q_11, .inl (cy_12, 6002, .inl (fun _ => 0))), (q_15, .inl (cy_16, 6002, .inl (fun _ => 0))), (q_19, .inl (cy_20, 6002, .inl (fun _ => 0))), (q_23, .inl (cy_24, 6000, .inl (fun _ => 0))), (q_27, .inl (cy_28, 6000, .inl (fun _ => 0))), (q_31, .inl (cy_32, 6600, .inl (fun _ => 0))), (q_219, .inl (cy_220, 29400, .inl (fun _ => 0)))] H := hP
  have hD : va_D A [(h0, .inr (15, fl 134 F_217)), (q_1, .inr (14, [.null, .null, .null, .null, .null, .int 0])), (q_3, .inl (cy_4, 6000, .inl (fun _ => 0))), (q_11, .inl (cy_12, 6002, .inl (fun _ => 0))), (q_15, .inl (cy_16, 6002, .inl (fun _ => 0))), (q_19, .inl (cy_20, 6002, .inl (fun _ => 0))), (q_23, .inl (cy_24, 6000, .inl (fun _ => 0))), (q_27, .inl (cy_28, 6000, .inl (fun _ => 0))), (q_31, .inl (cy_32, 6600, .inl (fun _ => 0))), (q_219, .inl (cy_220, 29400, .inl (fun _ => 0)))] := hD
  refine W.widen (k := 56) (n := 609346) (Nat.le_of_ble_eq_true rfl) (Nat.le_of_ble_eq_true rfl) ?_
  refine va_put (D := (dC, dI)) (ci := 15) (v := .ref q_219) (ty := .array .int) (C := RX13) (T := TX13) (N := 134) hx hb hts in_cc_Model_init_RX13 tyX13 tyX13_ok nmX13 hown hK hP hD hS 0 rfl rfl 99 (by decide) (hts (.fieldLink RX13 182 "LevelUnitsModel" "mem" "[I") (List.mem_of_getElem? (i := 88) rfl)) (fun _ h9 => h9) rfl (by decide +kernel) rfl rfl (fl_lt (by decide)) dX13_init_499 (fun H locs hP hD hS => ?_)
  obtain ⟨F_221, eF_221⟩ : ∃ z, z = fu F_217 99 (.ref q_219) := ⟨_, rfl⟩
  have hP : va_P (dC, dI) vwCl [(h0, .inr (15, fl 134 F_221)), (q_1, .inr (14, [.null, .null, .null, .null, .null, .int 0])), (q_3, .inl (cy_4, 6000, .inl (fun _ => 0))), (q_11, .inl (cy_12, 6002, .inl (fun _ => 0))), (q_15, .inl (cy_16, 6002, .inl (fun _ => 0))), (q_19, .inl (cy_20, 6002, .inl (fun _ => 0))), (q_23, .inl (cy_24, 6000, .inl (fun _ => 0))), (q_27, .inl (cy_28, 6000, .inl (fun _ => 0))), (q_31, .inl (cy_32, 6600, .inl (fun _ => 0))), (q_219, .inl (cy_220, 29400, .inl (fun _ => 0)))] H := by rw [eF_221, ← fl_set (n := 134) (k := 99) (by decide)]; exact hP
  have hD : va_D A [(h0, .inr (15, fl 134 F_221)), (q_1, .inr (14, [.null, .null, .null, .null, .null, .int 0])), (q_3, .inl (cy_4, 6000, .inl (fun _ => 0))), (q_11, .inl (cy_12, 6002, .inl (fun _ => 0))), (q_15, .inl (cy_16, 6002, .inl (fun _ => 0))), (q_19, .inl (cy_20, 6002, .inl (fun _ => 0))), (q_23, .inl (cy_24, 6000, .inl (fun _ => 0))), (q_27, .inl (cy_28, 6000, .inl (fun _ => 0))), (q_31, .inl (cy_32, 6600, .inl (fun _ => 0))), (q_219, .inl (cy_220, 29400, .inl (fun _ => 0)))] := by rw [eF_221, ← fl_set (n := 134) (k := 99) (by decide)]; exact hD
  have hP := hP.sub (ws' := [(h0, .inr (15, fl 134 F_221)), (q_1, .inr (14, [.null, .null, .null, .null, .null, .int 0])), (q_3, .inl (cy_4, 6000, .inl (fun _ => 0))), (q_11, .inl (cy_12, 6002, .inl (fun _ => 0))), (q_15, .inl (cy_16, 6002, .inl (fun _ => 0))), (q_19, .inl (cy_20, 6002, .inl (fun _ => 0))), (q_23, .inl (cy_24, 6000, .inl (fun _ => 0))), (q_27, .inl (cy_28, 6000, .inl (fun _ => 0))), (q_31, .inl (cy_32, 6600, .inl (fun _ => 0)))]) [0, 1, 2, 3, 4, 5, 6, 7, 8] rfl
  have hD := hD.sub (ws' := [(h0, .inr (15, fl 134 F_221)), (q_1, .inr (14, [.null, .null, .null, .null, .null, .int 0])), (q_3, .inl (cy_4, 6000, .inl (fun _ => 0))), (q_11, .inl (cy_12, 6002, .inl (fun _ => 0))), (q_15, .inl (cy_16, 6002, .inl (fun _ => 0))), (q_19, .inl (cy_20, 6002, .inl (fun _ => 0))), (q_23, .inl (cy_24, 6000, .inl (fun _ => 0))), (q_27, .inl (cy_28, 6000, .inl (fun _ => 0))), (q_31, .inl (cy_32, 6600, .inl (fun _ => 0)))]) [0, 1, 2, 3, 4, 5, 6, 7, 8] (by decide) rfl
  have hK := hK.sub (tys' := [(cy_4, .byte), (cy_12, .int), (cy_16, .int), (cy_20, .int), (cy_24, .int), (cy_28, .int), (cy_32, .byte)]) [0, 1, 2, 3, 4, 5, 6] rfl
  refine lv_aload_n hx hb dX13_init_502 rfl (lv_at hl 0 rfl) ?_
  refine lv_sipush (v := 2001) hx hb dX13_init_503 (by decide) ?_
  refine mstep (X := [(q_1, .inr (14, [.null, .null, .null, .null, .null, .int 0])), (q_3, .inl (cy_4, 6000, .inl (fun _ => 0))), (q_11, .inl (cy_12, 6002, .inl (fun _ => 0))), (q_15, .inl (cy_16, 6002, .inl (fun _ => 0))), (q_19, .inl (cy_20, 6002, .inl (fun _ => 0))), (q_23, .inl (cy_24, 6000, .inl (fun _ => 0))), (q_27, .inl (cy_28, 6000, .inl (fun _ => 0))), (q_31, .inl (cy_32, 6600, .inl (fun _ => 0)))]) (F := F_221) (atype := .int) (ty := .int) (a0 := (2001, .inl (fun _ => 0))) (N' := 2001) hx hb hts in_cc_Model_init_RX13 hown hin hK hP hD hS hA (hts (.arrayClass .int) (List.mem_of_getElem? (i := 33) rfl)) rfl (fun _ => rfl) (by decide) (by decide) (Nat.le_of_ble_eq_true rfl) (Nat.le_of_ble_eq_true rfl) (Nat.le_of_ble_eq_true rfl) dX13_init_506 105 (by decide) (hts (.fieldLink RX13 185 "LevelUnitsModel" "thingType" "[I") (List.mem_of_getElem? (i := 89) rfl)) (fun _ h9 => h9) rfl rfl (by decide +kernel) dX13_init_508 (fun q_222 F_224 H_j_225 locs_j_225 eF_224 hP_j_225 hD_j_225 hS_j_225 => ?_)
  have k0_j_225 : F_224 0 = .int 0 := fu_ne eF_224 (by decide) (fu_ne eF_221 (by decide) k0_j_218)
  have k3_j_225 : F_224 3 = .int 0 := fu_ne eF_224 (by decide) (fu_ne eF_221 (by decide) k3_j_218)
  have k98_j_225 : F_224 98 = .int 0 := fu_ne eF_224 (by decide) (fu_ne eF_221 (by decide) k98_j_218)
  have k100_j_225 : F_224 100 = .int 0 := fu_ne eF_224 (by decide) (fu_ne eF_221 (by decide) k100_j_218)
  have k1_j_225 : F_224 1 = .ref q_1 := fu_ne eF_224 (by decide) (fu_ne eF_221 (by decide) k1_j_218)
  have k2_j_225 : F_224 2 = .ref q_3 := fu_ne eF_224 (by decide) (fu_ne eF_221 (by decide) k2_j_218)
  have k9_j_225 : F_224 9 = .ref q_11 := fu_ne eF_224 (by decide) (fu_ne eF_221 (by decide) k9_j_218)
  have k10_j_225 : F_224 10 = .ref q_15 := fu_ne eF_224 (by decide) (fu_ne eF_221 (by decide) k10_j_218)
  have k11_j_225 : F_224 11 = .ref q_19 := fu_ne eF_224 (by decide) (fu_ne eF_221 (by decide) k11_j_218)
  have k13_j_225 : F_224 13 = .ref q_23 := fu_ne eF_224 (by decide) (fu_ne eF_221 (by decide) k13_j_218)
  have k14_j_225 : F_224 14 = .ref q_27 := fu_ne eF_224 (by decide) (fu_ne eF_221 (by decide) k14_j_218)
  have k15_j_225 : F_224 15 = .ref q_31 := fu_ne eF_224 (by decide) (fu_ne eF_221 (by decide) k15_j_218)
  clear eF_224  hP hD hS
  have hP : va_P (dC, dI) vwCl [(h0, .inr (15, fl 134 F_224)), (q_1, .inr (14, [.null, .null, .null, .null, .null, .int 0])), (q_3, .inl (cy_4, 6000, .inl (fun _ => 0))), (q_11, .inl (cy_12, 6002, .inl (fun _ => 0))), (q_15, .inl (cy_16, 6002, .inl (fun _ => 0))), (q_19, .inl (cy_20, 6002, .inl (fun _ => 0))), (q_23, .inl (cy_24, 6000, .inl (fun _ => 0))), (q_27, .inl (cy_28, 6000, .inl (fun _ => 0))), (q_31, .inl (cy_32, 6600, .inl (fun _ => 0)))] H_j_225 := hP_j_225
  have hD : va_D A [(h0, .inr (15, fl 134 F_224)), (q_1, .inr (14, [.null, .null, .null, .null, .null, .int 0])), (q_3, .inl (cy_4, 6000, .inl (fun _ => 0))), (q_11, .inl (cy_12, 6002, .inl (fun _ => 0))), (q_15, .inl (cy_16, 6002, .inl (fun _ => 0))), (q_19, .inl (cy_20, 6002, .inl (fun _ => 0))), (q_23, .inl (cy_24, 6000, .inl (fun _ => 0))), (q_27, .inl (cy_28, 6000, .inl (fun _ => 0))), (q_31, .inl (cy_32, 6600, .inl (fun _ => 0)))] := hD_j_225
  have hS := hS_j_225
  clear hP_j_225 hD_j_225 hS_j_225
  refine W.widen (k := 57) (n := 611347) (Nat.le_of_ble_eq_true rfl) (Nat.le_of_ble_eq_true rfl) ?_
  refine lv_aload_n hx hb dX13_init_511 rfl (lv_at hl 0 rfl) ?_
  refine lv_sipush (v := 2001) hx hb dX13_init_512 (by decide) ?_
  refine mstep (X := [(q_1, .inr (14, [.null, .null, .null, .null, .null, .int 0])), (q_3, .inl (cy_4, 6000, .inl (fun _ => 0))), (q_11, .inl (cy_12, 6002, .inl (fun _ => 0))), (q_15, .inl (cy_16, 6002, .inl (fun _ => 0))), (q_19, .inl (cy_20, 6002, .inl (fun _ => 0))), (q_23, .inl (cy_24, 6000, .inl (fun _ => 0))), (q_27, .inl (cy_28, 6000, .inl (fun _ => 0))), (q_31, .inl (cy_32, 6600, .inl (fun _ => 0)))]) (F := F_224) (atype := .int) (ty := .int) (a0 := (2001, .inl (fun _ => 0))) (N' := 2001) hx hb hts in_cc_Model_init_RX13 hown hin hK hP hD hS hA (hts (.arrayClass .int) (List.mem_of_getElem? (i := 33) rfl)) rfl (fun _ => rfl) (by decide) (by decide) (Nat.le_of_ble_eq_true rfl) (Nat.le_of_ble_eq_true rfl) (Nat.le_of_ble_eq_true rfl) dX13_init_515 106 (by decide) (hts (.fieldLink RX13 188 "LevelUnitsModel" "thingAt" "[I") (List.mem_of_getElem? (i := 90) rfl)) (fun _ h9 => h9) rfl rfl (by decide +kernel) dX13_init_517 (fun q_226 F_228 H_j_229 locs_j_229 eF_228 hP_j_229 hD_j_229 hS_j_229 => ?_)
  have k0_j_229 : F_228 0 = .int 0 := fu_ne eF_228 (by decide) k0_j_225
  have k3_j_229 : F_228 3 = .int 0 := fu_ne eF_228 (by decide) k3_j_225
  have k98_j_229 : F_228 98 = .int 0 := fu_ne eF_228 (by decide) k98_j_225
  have k100_j_229 : F_228 100 = .int 0 := fu_ne eF_228 (by decide) k100_j_225
  have k1_j_229 : F_228 1 = .ref q_1 := fu_ne eF_228 (by decide) k1_j_225
  have k2_j_229 : F_228 2 = .ref q_3 := fu_ne eF_228 (by decide) k2_j_225
  have k9_j_229 : F_228 9 = .ref q_11 := fu_ne eF_228 (by decide) k9_j_225
  have k10_j_229 : F_228 10 = .ref q_15 := fu_ne eF_228 (by decide) k10_j_225
  have k11_j_229 : F_228 11 = .ref q_19 := fu_ne eF_228 (by decide) k11_j_225
  have k13_j_229 : F_228 13 = .ref q_23 := fu_ne eF_228 (by decide) k13_j_225
  have k14_j_229 : F_228 14 = .ref q_27 := fu_ne eF_228 (by decide) k14_j_225
  have k15_j_229 : F_228 15 = .ref q_31 := fu_ne eF_228 (by decide) k15_j_225
  clear eF_228 k0_j_225 k3_j_225 k98_j_225 k100_j_225 k1_j_225 k2_j_225 k9_j_225 k10_j_225 k11_j_225 k13_j_225 k14_j_225 k15_j_225 hP hD hS
  have hP : va_P (dC, dI) vwCl [(h0, .inr (15, fl 134 F_228)), (q_1, .inr (14, [.null, .null, .null, .null, .null, .int 0])), (q_3, .inl (cy_4, 6000, .inl (fun _ => 0))), (q_11, .inl (cy_12, 6002, .inl (fun _ => 0))), (q_15, .inl (cy_16, 6002, .inl (fun _ => 0))), (q_19, .inl (cy_20, 6002, .inl (fun _ => 0))), (q_23, .inl (cy_24, 6000, .inl (fun _ => 0))), (q_27, .inl (cy_28, 6000, .inl (fun _ => 0))), (q_31, .inl (cy_32, 6600, .inl (fun _ => 0)))] H_j_229 := hP_j_229
  have hD : va_D A [(h0, .inr (15, fl 134 F_228)), (q_1, .inr (14, [.null, .null, .null, .null, .null, .int 0])), (q_3, .inl (cy_4, 6000, .inl (fun _ => 0))), (q_11, .inl (cy_12, 6002, .inl (fun _ => 0))), (q_15, .inl (cy_16, 6002, .inl (fun _ => 0))), (q_19, .inl (cy_20, 6002, .inl (fun _ => 0))), (q_23, .inl (cy_24, 6000, .inl (fun _ => 0))), (q_27, .inl (cy_28, 6000, .inl (fun _ => 0))), (q_31, .inl (cy_32, 6600, .inl (fun _ => 0)))] := hD_j_229
  have hS := hS_j_229
  clear hP_j_229 hD_j_229 hS_j_229
  refine W.widen (k := 58) (n := 613348) (Nat.le_of_ble_eq_true rfl) (Nat.le_of_ble_eq_true rfl) ?_
  refine lv_aload_n hx hb dX13_init_520 rfl (lv_at hl 0 rfl) ?_
  refine lv_sipush (v := 2001) hx hb dX13_init_521 (by decide) ?_
  refine mstep (X := [(q_1, .inr (14, [.null, .null, .null, .null, .null, .int 0])), (q_3, .inl (cy_4, 6000, .inl (fun _ => 0))), (q_11, .inl (cy_12, 6002, .inl (fun _ => 0))), (q_15, .inl (cy_16, 6002, .inl (fun _ => 0))), (q_19, .inl (cy_20, 6002, .inl (fun _ => 0))), (q_23, .inl (cy_24, 6000, .inl (fun _ => 0))), (q_27, .inl (cy_28, 6000, .inl (fun _ => 0))), (q_31, .inl (cy_32, 6600, .inl (fun _ => 0)))]) (F := F_228) (atype := .int) (ty := .int) (a0 := (2001, .inl (fun _ => 0))) (N' := 2001) hx hb hts in_cc_Model_init_RX13 hown hin hK hP hD hS hA (hts (.arrayClass .int) (List.mem_of_getElem? (i := 33) rfl)) rfl (fun _ => rfl) (by decide) (by decide) (Nat.le_of_ble_eq_true rfl) (Nat.le_of_ble_eq_true rfl) (Nat.le_of_ble_eq_true rfl) dX13_init_524 107 (by decide) (hts (.fieldLink RX13 191 "LevelUnitsModel" "thingCells" "[I") (List.mem_of_getElem? (i := 91) rfl)) (fun _ h9 => h9) rfl rfl (by decide +kernel) dX13_init_526 (fun q_230 F_232 H_j_233 locs_j_233 eF_232 hP_j_233 hD_j_233 hS_j_233 => ?_)
  have k0_j_233 : F_232 0 = .int 0 := fu_ne eF_232 (by decide) k0_j_229
  have k3_j_233 : F_232 3 = .int 0 := fu_ne eF_232 (by decide) k3_j_229
  have k98_j_233 : F_232 98 = .int 0 := fu_ne eF_232 (by decide) k98_j_229
  have k100_j_233 : F_232 100 = .int 0 := fu_ne eF_232 (by decide) k100_j_229
  have k1_j_233 : F_232 1 = .ref q_1 := fu_ne eF_232 (by decide) k1_j_229
  have k2_j_233 : F_232 2 = .ref q_3 := fu_ne eF_232 (by decide) k2_j_229
  have k9_j_233 : F_232 9 = .ref q_11 := fu_ne eF_232 (by decide) k9_j_229
  have k10_j_233 : F_232 10 = .ref q_15 := fu_ne eF_232 (by decide) k10_j_229
  have k11_j_233 : F_232 11 = .ref q_19 := fu_ne eF_232 (by decide) k11_j_229
  have k13_j_233 : F_232 13 = .ref q_23 := fu_ne eF_232 (by decide) k13_j_229
  have k14_j_233 : F_232 14 = .ref q_27 := fu_ne eF_232 (by decide) k14_j_229
  have k15_j_233 : F_232 15 = .ref q_31 := fu_ne eF_232 (by decide) k15_j_229
  clear eF_232 k0_j_229 k3_j_229 k98_j_229 k100_j_229 k1_j_229 k2_j_229 k9_j_229 k10_j_229 k11_j_229 k13_j_229 k14_j_229 k15_j_229 hP hD hS
  have hP : va_P (dC, dI) vwCl [(h0, .inr (15, fl 134 F_232)), (q_1, .inr (14, [.null, .null, .null, .null, .null, .int 0])), (q_3, .inl (cy_4, 6000, .inl (fun _ => 0))), (q_11, .inl (cy_12, 6002, .inl (fun _ => 0))), (q_15, .inl (cy_16, 6002, .inl (fun _ => 0))), (q_19, .inl (cy_20, 6002, .inl (fun _ => 0))), (q_23, .inl (cy_24, 6000, .inl (fun _ => 0))), (q_27, .inl (cy_28, 6000, .inl (fun _ => 0))), (q_31, .inl (cy_32, 6600, .inl (fun _ => 0)))] H_j_233 := hP_j_233
  have hD : va_D A [(h0, .inr (15, fl 134 F_232)), (q_1, .inr (14, [.null, .null, .null, .null, .null, .int 0])), (q_3, .inl (cy_4, 6000, .inl (fun _ => 0))), (q_11, .inl (cy_12, 6002, .inl (fun _ => 0))), (q_15, .inl (cy_16, 6002, .inl (fun _ => 0))), (q_19, .inl (cy_20, 6002, .inl (fun _ => 0))), (q_23, .inl (cy_24, 6000, .inl (fun _ => 0))), (q_27, .inl (cy_28, 6000, .inl (fun _ => 0))), (q_31, .inl (cy_32, 6600, .inl (fun _ => 0)))] := hD_j_233
  have hS := hS_j_233
  clear hP_j_233 hD_j_233 hS_j_233
  refine W.widen (k := 59) (n := 615349) (Nat.le_of_ble_eq_true rfl) (Nat.le_of_ble_eq_true rfl) ?_
  refine lv_aload_n hx hb dX13_init_529 rfl (lv_at hl 0 rfl) ?_
  refine lv_sipush (v := 2001) hx hb dX13_init_530 (by decide) ?_
  refine mstep (X := [(q_1, .inr (14, [.null, .null, .null, .null, .null, .int 0])), (q_3, .inl (cy_4, 6000, .inl (fun _ => 0))), (q_11, .inl (cy_12, 6002, .inl (fun _ => 0))), (q_15, .inl (cy_16, 6002, .inl (fun _ => 0))), (q_19, .inl (cy_20, 6002, .inl (fun _ => 0))), (q_23, .inl (cy_24, 6000, .inl (fun _ => 0))), (q_27, .inl (cy_28, 6000, .inl (fun _ => 0))), (q_31, .inl (cy_32, 6600, .inl (fun _ => 0)))]) (F := F_232) (atype := .int) (ty := .int) (a0 := (2001, .inl (fun _ => 0))) (N' := 2001) hx hb hts in_cc_Model_init_RX13 hown hin hK hP hD hS hA (hts (.arrayClass .int) (List.mem_of_getElem? (i := 33) rfl)) rfl (fun _ => rfl) (by decide) (by decide) (Nat.le_of_ble_eq_true rfl) (Nat.le_of_ble_eq_true rfl) (Nat.le_of_ble_eq_true rfl) dX13_init_533 108 (by decide) (hts (.fieldLink RX13 194 "LevelUnitsModel" "holder" "[I") (List.mem_of_getElem? (i := 92) rfl)) (fun _ h9 => h9) rfl rfl (by decide +kernel) dX13_init_535 (fun q_234 F_236 H_j_237 locs_j_237 eF_236 hP_j_237 hD_j_237 hS_j_237 => ?_)
  have k0_j_237 : F_236 0 = .int 0 := fu_ne eF_236 (by decide) k0_j_233
  have k3_j_237 : F_236 3 = .int 0 := fu_ne eF_236 (by decide) k3_j_233
  have k98_j_237 : F_236 98 = .int 0 := fu_ne eF_236 (by decide) k98_j_233
  have k100_j_237 : F_236 100 = .int 0 := fu_ne eF_236 (by decide) k100_j_233
  have k1_j_237 : F_236 1 = .ref q_1 := fu_ne eF_236 (by decide) k1_j_233
  have k2_j_237 : F_236 2 = .ref q_3 := fu_ne eF_236 (by decide) k2_j_233
  have k9_j_237 : F_236 9 = .ref q_11 := fu_ne eF_236 (by decide) k9_j_233
  have k10_j_237 : F_236 10 = .ref q_15 := fu_ne eF_236 (by decide) k10_j_233
  have k11_j_237 : F_236 11 = .ref q_19 := fu_ne eF_236 (by decide) k11_j_233
  have k13_j_237 : F_236 13 = .ref q_23 := fu_ne eF_236 (by decide) k13_j_233
  have k14_j_237 : F_236 14 = .ref q_27 := fu_ne eF_236 (by decide) k14_j_233
  have k15_j_237 : F_236 15 = .ref q_31 := fu_ne eF_236 (by decide) k15_j_233
  clear eF_236 k0_j_233 k3_j_233 k98_j_233 k100_j_233 k1_j_233 k2_j_233 k9_j_233 k10_j_233 k11_j_233 k13_j_233 k14_j_233 k15_j_233 hP hD hS
  have hP : va_P (dC, dI) vwCl [(h0, .inr (15, fl 134 F_236)), (q_1, .inr (14, [.null, .null, .null, .null, .null, .int 0])), (q_3, .inl (cy_4, 6000, .inl (fun _ => 0))), (q_11, .inl (cy_12, 6002, .inl (fun _ => 0))), (q_15, .inl (cy_16, 6002, .inl (fun _ => 0))), (q_19, .inl (cy_20, 6002, .inl (fun _ => 0))), (q_23, .inl (cy_24, 6000, .inl (fun _ => 0))), (q_27, .inl (cy_28, 6000, .inl (fun _ => 0))), (q_31, .inl (cy_32, 6600, .inl (fun _ => 0)))] H_j_237 := hP_j_237
  have hD : va_D A [(h0, .inr (15, fl 134 F_236)), (q_1, .inr (14, [.null, .null, .null, .null, .null, .int 0])), (q_3, .inl (cy_4, 6000, .inl (fun _ => 0))), (q_11, .inl (cy_12, 6002, .inl (fun _ => 0))), (q_15, .inl (cy_16, 6002, .inl (fun _ => 0))), (q_19, .inl (cy_20, 6002, .inl (fun _ => 0))), (q_23, .inl (cy_24, 6000, .inl (fun _ => 0))), (q_27, .inl (cy_28, 6000, .inl (fun _ => 0))), (q_31, .inl (cy_32, 6600, .inl (fun _ => 0)))] := hD_j_237
  have hS := hS_j_237
  clear hP_j_237 hD_j_237 hS_j_237
  refine W.widen (k := 60) (n := 617350) (Nat.le_of_ble_eq_true rfl) (Nat.le_of_ble_eq_true rfl) ?_
  refine lv_aload_n hx hb dX13_init_538 rfl (lv_at hl 0 rfl) ?_
  refine lv_sipush (v := 2001) hx hb dX13_init_539 (by decide) ?_
  refine mstep (X := [(q_1, .inr (14, [.null, .null, .null, .null, .null, .int 0])), (q_3, .inl (cy_4, 6000, .inl (fun _ => 0))), (q_11, .inl (cy_12, 6002, .inl (fun _ => 0))), (q_15, .inl (cy_16, 6002, .inl (fun _ => 0))), (q_19, .inl (cy_20, 6002, .inl (fun _ => 0))), (q_23, .inl (cy_24, 6000, .inl (fun _ => 0))), (q_27, .inl (cy_28, 6000, .inl (fun _ => 0))), (q_31, .inl (cy_32, 6600, .inl (fun _ => 0)))]) (F := F_236) (atype := .boolean) (ty := .boolean) (a0 := (2001, .inl (fun _ => 0))) (N' := 2001) hx hb hts in_cc_Model_init_RX13 hown hin hK hP hD hS hA (hts (.arrayClass .boolean) (List.mem_of_getElem? (i := 60) rfl)) rfl (fun _ => rfl) (by decide) (by decide) (Nat.le_of_ble_eq_true rfl) (Nat.le_of_ble_eq_true rfl) (Nat.le_of_ble_eq_true rfl) dX13_init_542 109 (by decide) (hts (.fieldLink RX13 197 "LevelUnitsModel" "isCondition" "[Z") (List.mem_of_getElem? (i := 93) rfl)) (fun _ h9 => h9) rfl rfl (by decide +kernel) dX13_init_544 (fun q_238 F_240 H_j_241 locs_j_241 eF_240 hP_j_241 hD_j_241 hS_j_241 => ?_)
  have k0_j_241 : F_240 0 = .int 0 := fu_ne eF_240 (by decide) k0_j_237
  have k3_j_241 : F_240 3 = .int 0 := fu_ne eF_240 (by decide) k3_j_237
  have k98_j_241 : F_240 98 = .int 0 := fu_ne eF_240 (by decide) k98_j_237
  have k100_j_241 : F_240 100 = .int 0 := fu_ne eF_240 (by decide) k100_j_237
  have k1_j_241 : F_240 1 = .ref q_1 := fu_ne eF_240 (by decide) k1_j_237
  have k2_j_241 : F_240 2 = .ref q_3 := fu_ne eF_240 (by decide) k2_j_237
  have k9_j_241 : F_240 9 = .ref q_11 := fu_ne eF_240 (by decide) k9_j_237
  have k10_j_241 : F_240 10 = .ref q_15 := fu_ne eF_240 (by decide) k10_j_237
  have k11_j_241 : F_240 11 = .ref q_19 := fu_ne eF_240 (by decide) k11_j_237
  have k13_j_241 : F_240 13 = .ref q_23 := fu_ne eF_240 (by decide) k13_j_237
  have k14_j_241 : F_240 14 = .ref q_27 := fu_ne eF_240 (by decide) k14_j_237
  have k15_j_241 : F_240 15 = .ref q_31 := fu_ne eF_240 (by decide) k15_j_237
  clear eF_240 k0_j_237 k3_j_237 k98_j_237 k100_j_237 k1_j_237 k2_j_237 k9_j_237 k10_j_237 k11_j_237 k13_j_237 k14_j_237 k15_j_237 hP hD hS
  have hP : va_P (dC, dI) vwCl [(h0, .inr (15, fl 134 F_240)), (q_1, .inr (14, [.null, .null, .null, .null, .null, .int 0])), (q_3, .inl (cy_4, 6000, .inl (fun _ => 0))), (q_11, .inl (cy_12, 6002, .inl (fun _ => 0))), (q_15, .inl (cy_16, 6002, .inl (fun _ => 0))), (q_19, .inl (cy_20, 6002, .inl (fun _ => 0))), (q_23, .inl (cy_24, 6000, .inl (fun _ => 0))), (q_27, .inl (cy_28, 6000, .inl (fun _ => 0))), (q_31, .inl (cy_32, 6600, .inl (fun _ => 0)))] H_j_241 := hP_j_241
  have hD : va_D A [(h0, .inr (15, fl 134 F_240)), (q_1, .inr (14, [.null, .null, .null, .null, .null, .int 0])), (q_3, .inl (cy_4, 6000, .inl (fun _ => 0))), (q_11, .inl (cy_12, 6002, .inl (fun _ => 0))), (q_15, .inl (cy_16, 6002, .inl (fun _ => 0))), (q_19, .inl (cy_20, 6002, .inl (fun _ => 0))), (q_23, .inl (cy_24, 6000, .inl (fun _ => 0))), (q_27, .inl (cy_28, 6000, .inl (fun _ => 0))), (q_31, .inl (cy_32, 6600, .inl (fun _ => 0)))] := hD_j_241
  have hS := hS_j_241
  clear hP_j_241 hD_j_241 hS_j_241
  refine W.widen (k := 61) (n := 619351) (Nat.le_of_ble_eq_true rfl) (Nat.le_of_ble_eq_true rfl) ?_
  refine lv_aload_n hx hb dX13_init_547 rfl (lv_at hl 0 rfl) ?_
  refine lv_bipush (v := 65) hx hb dX13_init_548 (by decide) ?_
  refine mstep (X := [(q_1, .inr (14, [.null, .null, .null, .null, .null, .int 0])), (q_3, .inl (cy_4, 6000, .inl (fun _ => 0))), (q_11, .inl (cy_12, 6002, .inl (fun _ => 0))), (q_15, .inl (cy_16, 6002, .inl (fun _ => 0))), (q_19, .inl (cy_20, 6002, .inl (fun _ => 0))), (q_23, .inl (cy_24, 6000, .inl (fun _ => 0))), (q_27, .inl (cy_28, 6000, .inl (fun _ => 0))), (q_31, .inl (cy_32, 6600, .inl (fun _ => 0)))]) (F := F_240) (atype := .int) (ty := .int) (a0 := (65, .inl (fun _ => 0))) (N' := 65) hx hb hts in_cc_Model_init_RX13 hown hin hK hP hD hS hA (hts (.arrayClass .int) (List.mem_of_getElem? (i := 33) rfl)) rfl (fun _ => rfl) (by decide) (by decide) (Nat.le_of_ble_eq_true rfl) (Nat.le_of_ble_eq_true rfl) (Nat.le_of_ble_eq_true rfl) dX13_init_550 111 (by decide) (hts (.fieldLink RX13 200 "LevelUnitsModel" "wants" "[I") (List.mem_of_getElem? (i := 94) rfl)) (fun _ h9 => h9) rfl rfl (by decide +kernel) dX13_init_552 (fun q_242 F_244 H_j_245 locs_j_245 eF_244 hP_j_245 hD_j_245 hS_j_245 => ?_)
  have k0_j_245 : F_244 0 = .int 0 := fu_ne eF_244 (by decide) k0_j_241
  have k3_j_245 : F_244 3 = .int 0 := fu_ne eF_244 (by decide) k3_j_241
  have k98_j_245 : F_244 98 = .int 0 := fu_ne eF_244 (by decide) k98_j_241
  have k100_j_245 : F_244 100 = .int 0 := fu_ne eF_244 (by decide) k100_j_241
  have k1_j_245 : F_244 1 = .ref q_1 := fu_ne eF_244 (by decide) k1_j_241
  have k2_j_245 : F_244 2 = .ref q_3 := fu_ne eF_244 (by decide) k2_j_241
  have k9_j_245 : F_244 9 = .ref q_11 := fu_ne eF_244 (by decide) k9_j_241
  have k10_j_245 : F_244 10 = .ref q_15 := fu_ne eF_244 (by decide) k10_j_241
  have k11_j_245 : F_244 11 = .ref q_19 := fu_ne eF_244 (by decide) k11_j_241
  have k13_j_245 : F_244 13 = .ref q_23 := fu_ne eF_244 (by decide) k13_j_241
  have k14_j_245 : F_244 14 = .ref q_27 := fu_ne eF_244 (by decide) k14_j_241
  have k15_j_245 : F_244 15 = .ref q_31 := fu_ne eF_244 (by decide) k15_j_241
  clear eF_244 k0_j_241 k3_j_241 k98_j_241 k100_j_241 k1_j_241 k2_j_241 k9_j_241 k10_j_241 k11_j_241 k13_j_241 k14_j_241 k15_j_241 hP hD hS
  have hP : va_P (dC, dI) vwCl [(h0, .inr (15, fl 134 F_244)), (q_1, .inr (14, [.null, .null, .null, .null, .null, .int 0])), (q_3, .inl (cy_4, 6000, .inl (fun _ => 0))), (q_11, .inl (cy_12, 6002, .inl (fun _ => 0))), (q_15, .inl (cy_16, 6002, .inl (fun _ => 0))), (q_19, .inl (cy_20, 6002, .inl (fun _ => 0))), (q_23, .inl (cy_24, 6000, .inl (fun _ => 0))), (q_27, .inl (cy_28, 6000, .inl (fun _ => 0))), (q_31, .inl (cy_32, 6600, .inl (fun _ => 0)))] H_j_245 := hP_j_245
  have hD : va_D A [(h0, .inr (15, fl 134 F_244)), (q_1, .inr (14, [.null, .null, .null, .null, .null, .int 0])), (q_3, .inl (cy_4, 6000, .inl (fun _ => 0))), (q_11, .inl (cy_12, 6002, .inl (fun _ => 0))), (q_15, .inl (cy_16, 6002, .inl (fun _ => 0))), (q_19, .inl (cy_20, 6002, .inl (fun _ => 0))), (q_23, .inl (cy_24, 6000, .inl (fun _ => 0))), (q_27, .inl (cy_28, 6000, .inl (fun _ => 0))), (q_31, .inl (cy_32, 6600, .inl (fun _ => 0)))] := hD_j_245
  have hS := hS_j_245
  clear hP_j_245 hD_j_245 hS_j_245
  refine W.widen (k := 62) (n := 619416) (Nat.le_of_ble_eq_true rfl) (Nat.le_of_ble_eq_true rfl) ?_
  refine lv_aload_n hx hb dX13_init_555 rfl (lv_at hl 0 rfl) ?_
  refine lv_bipush (v := 65) hx hb dX13_init_556 (by decide) ?_
  refine mstep (X := [(q_1, .inr (14, [.null, .null, .null, .null, .null, .int 0])), (q_3, .inl (cy_4, 6000, .inl (fun _ => 0))), (q_11, .inl (cy_12, 6002, .inl (fun _ => 0))), (q_15, .inl (cy_16, 6002, .inl (fun _ => 0))), (q_19, .inl (cy_20, 6002, .inl (fun _ => 0))), (q_23, .inl (cy_24, 6000, .inl (fun _ => 0))), (q_27, .inl (cy_28, 6000, .inl (fun _ => 0))), (q_31, .inl (cy_32, 6600, .inl (fun _ => 0)))]) (F := F_244) (atype := .int) (ty := .int) (a0 := (65, .inl (fun _ => 0))) (N' := 65) hx hb hts in_cc_Model_init_RX13 hown hin hK hP hD hS hA (hts (.arrayClass .int) (List.mem_of_getElem? (i := 33) rfl)) rfl (fun _ => rfl) (by decide) (by decide) (Nat.le_of_ble_eq_true rfl) (Nat.le_of_ble_eq_true rfl) (Nat.le_of_ble_eq_true rfl) dX13_init_558 112 (by decide) (hts (.fieldLink RX13 203 "LevelUnitsModel" "wantsOf" "[I") (List.mem_of_getElem? (i := 95) rfl)) (fun _ h9 => h9) rfl rfl (by decide +kernel) dX13_init_560 (fun q_246 F_248 H_j_249 locs_j_249 eF_248 hP_j_249 hD_j_249 hS_j_249 => ?_)
  have k0_j_249 : F_248 0 = .int 0 := fu_ne eF_248 (by decide) k0_j_245
  have k3_j_249 : F_248 3 = .int 0 := fu_ne eF_248 (by decide) k3_j_245
  have k98_j_249 : F_248 98 = .int 0 := fu_ne eF_248 (by decide) k98_j_245
  have k100_j_249 : F_248 100 = .int 0 := fu_ne eF_248 (by decide) k100_j_245
  have k1_j_249 : F_248 1 = .ref q_1 := fu_ne eF_248 (by decide) k1_j_245
  have k2_j_249 : F_248 2 = .ref q_3 := fu_ne eF_248 (by decide) k2_j_245
  have k9_j_249 : F_248 9 = .ref q_11 := fu_ne eF_248 (by decide) k9_j_245
  have k10_j_249 : F_248 10 = .ref q_15 := fu_ne eF_248 (by decide) k10_j_245
  have k11_j_249 : F_248 11 = .ref q_19 := fu_ne eF_248 (by decide) k11_j_245
  have k13_j_249 : F_248 13 = .ref q_23 := fu_ne eF_248 (by decide) k13_j_245
  have k14_j_249 : F_248 14 = .ref q_27 := fu_ne eF_248 (by decide) k14_j_245
  have k15_j_249 : F_248 15 = .ref q_31 := fu_ne eF_248 (by decide) k15_j_245
  clear eF_248 k0_j_245 k3_j_245 k98_j_245 k100_j_245 k1_j_245 k2_j_245 k9_j_245 k10_j_245 k11_j_245 k13_j_245 k14_j_245 k15_j_245 hP hD hS
  have hP : va_P (dC, dI) vwCl [(h0, .inr (15, fl 134 F_248)), (q_1, .inr (14, [.null, .null, .null, .null, .null, .int 0])), (q_3, .inl (cy_4, 6000, .inl (fun _ => 0))), (q_11, .inl (cy_12, 6002, .inl (fun _ => 0))), (q_15, .inl (cy_16, 6002, .inl (fun _ => 0))), (q_19, .inl (cy_20, 6002, .inl (fun _ => 0))), (q_23, .inl (cy_24, 6000, .inl (fun _ => 0))), (q_27, .inl (cy_28, 6000, .inl (fun _ => 0))), (q_31, .inl (cy_32, 6600, .inl (fun _ => 0)))] H_j_249 := hP_j_249
  have hD : va_D A [(h0, .inr (15, fl 134 F_248)), (q_1, .inr (14, [.null, .null, .null, .null, .null, .int 0])), (q_3, .inl (cy_4, 6000, .inl (fun _ => 0))), (q_11, .inl (cy_12, 6002, .inl (fun _ => 0))), (q_15, .inl (cy_16, 6002, .inl (fun _ => 0))), (q_19, .inl (cy_20, 6002, .inl (fun _ => 0))), (q_23, .inl (cy_24, 6000, .inl (fun _ => 0))), (q_27, .inl (cy_28, 6000, .inl (fun _ => 0))), (q_31, .inl (cy_32, 6600, .inl (fun _ => 0)))] := hD_j_249
  have hS := hS_j_249
  clear hP_j_249 hD_j_249 hS_j_249
  refine W.widen (k := 63) (n := 619481) (Nat.le_of_ble_eq_true rfl) (Nat.le_of_ble_eq_true rfl) ?_
  refine lv_aload_n hx hb dX13_init_563 rfl (lv_at hl 0 rfl) ?_
  refine lv_bipush (v := 65) hx hb dX13_init_564 (by decide) ?_
  refine mstep (X := [(q_1, .inr (14, [.null, .null, .null, .null, .null, .int 0])), (q_3, .inl (cy_4, 6000, .inl (fun _ => 0))), (q_11, .inl (cy_12, 6002, .inl (fun _ => 0))), (q_15, .inl (cy_16, 6002, .inl (fun _ => 0))), (q_19, .inl (cy_20, 6002, .inl (fun _ => 0))), (q_23, .inl (cy_24, 6000, .inl (fun _ => 0))), (q_27, .inl (cy_28, 6000, .inl (fun _ => 0))), (q_31, .inl (cy_32, 6600, .inl (fun _ => 0)))]) (F := F_248) (atype := .int) (ty := .int) (a0 := (65, .inl (fun _ => 0))) (N' := 65) hx hb hts in_cc_Model_init_RX13 hown hin hK hP hD hS hA (hts (.arrayClass .int) (List.mem_of_getElem? (i := 33) rfl)) rfl (fun _ => rfl) (by decide) (by decide) (Nat.le_of_ble_eq_true rfl) (Nat.le_of_ble_eq_true rfl) (Nat.le_of_ble_eq_true rfl) dX13_init_566 113 (by decide) (hts (.fieldLink RX13 206 "LevelUnitsModel" "wantsHow" "[I") (List.mem_of_getElem? (i := 96) rfl)) (fun _ h9 => h9) rfl rfl (by decide +kernel) dX13_init_568 (fun q_250 F_252 H_j_253 locs_j_253 eF_252 hP_j_253 hD_j_253 hS_j_253 => ?_)
  have k0_j_253 : F_252 0 = .int 0 := fu_ne eF_252 (by decide) k0_j_249
  have k3_j_253 : F_252 3 = .int 0 := fu_ne eF_252 (by decide) k3_j_249
  have k98_j_253 : F_252 98 = .int 0 := fu_ne eF_252 (by decide) k98_j_249
  have k100_j_253 : F_252 100 = .int 0 := fu_ne eF_252 (by decide) k100_j_249
  have k1_j_253 : F_252 1 = .ref q_1 := fu_ne eF_252 (by decide) k1_j_249
  have k2_j_253 : F_252 2 = .ref q_3 := fu_ne eF_252 (by decide) k2_j_249
  have k9_j_253 : F_252 9 = .ref q_11 := fu_ne eF_252 (by decide) k9_j_249
  have k10_j_253 : F_252 10 = .ref q_15 := fu_ne eF_252 (by decide) k10_j_249
  have k11_j_253 : F_252 11 = .ref q_19 := fu_ne eF_252 (by decide) k11_j_249
  have k13_j_253 : F_252 13 = .ref q_23 := fu_ne eF_252 (by decide) k13_j_249
  have k14_j_253 : F_252 14 = .ref q_27 := fu_ne eF_252 (by decide) k14_j_249
  have k15_j_253 : F_252 15 = .ref q_31 := fu_ne eF_252 (by decide) k15_j_249
  clear eF_252 k0_j_249 k3_j_249 k98_j_249 k100_j_249 k1_j_249 k2_j_249 k9_j_249 k10_j_249 k11_j_249 k13_j_249 k14_j_249 k15_j_249 hP hD hS
  have hP : va_P (dC, dI) vwCl [(h0, .inr (15, fl 134 F_252)), (q_1, .inr (14, [.null, .null, .null, .null, .null, .int 0])), (q_3, .inl (cy_4, 6000, .inl (fun _ => 0))), (q_11, .inl (cy_12, 6002, .inl (fun _ => 0))), (q_15, .inl (cy_16, 6002, .inl (fun _ => 0))), (q_19, .inl (cy_20, 6002, .inl (fun _ => 0))), (q_23, .inl (cy_24, 6000, .inl (fun _ => 0))), (q_27, .inl (cy_28, 6000, .inl (fun _ => 0))), (q_31, .inl (cy_32, 6600, .inl (fun _ => 0)))] H_j_253 := hP_j_253
  have hD : va_D A [(h0, .inr (15, fl 134 F_252)), (q_1, .inr (14, [.null, .null, .null, .null, .null, .int 0])), (q_3, .inl (cy_4, 6000, .inl (fun _ => 0))), (q_11, .inl (cy_12, 6002, .inl (fun _ => 0))), (q_15, .inl (cy_16, 6002, .inl (fun _ => 0))), (q_19, .inl (cy_20, 6002, .inl (fun _ => 0))), (q_23, .inl (cy_24, 6000, .inl (fun _ => 0))), (q_27, .inl (cy_28, 6000, .inl (fun _ => 0))), (q_31, .inl (cy_32, 6600, .inl (fun _ => 0)))] := hD_j_253
  have hS := hS_j_253
  clear hP_j_253 hD_j_253 hS_j_253
  refine W.widen (k := 64) (n := 619546) (Nat.le_of_ble_eq_true rfl) (Nat.le_of_ble_eq_true rfl) ?_
  refine lv_aload_n hx hb dX13_init_571 rfl (lv_at hl 0 rfl) ?_
  refine lv_bipush (v := 65) hx hb dX13_init_572 (by decide) ?_
  refine mstep (X := [(q_1, .inr (14, [.null, .null, .null, .null, .null, .int 0])), (q_3, .inl (cy_4, 6000, .inl (fun _ => 0))), (q_11, .inl (cy_12, 6002, .inl (fun _ => 0))), (q_15, .inl (cy_16, 6002, .inl (fun _ => 0))), (q_19, .inl (cy_20, 6002, .inl (fun _ => 0))), (q_23, .inl (cy_24, 6000, .inl (fun _ => 0))), (q_27, .inl (cy_28, 6000, .inl (fun _ => 0))), (q_31, .inl (cy_32, 6600, .inl (fun _ => 0)))]) (F := F_252) (atype := .int) (ty := .int) (a0 := (65, .inl (fun _ => 0))) (N' := 65) hx hb hts in_cc_Model_init_RX13 hown hin hK hP hD hS hA (hts (.arrayClass .int) (List.mem_of_getElem? (i := 33) rfl)) rfl (fun _ => rfl) (by decide) (by decide) (Nat.le_of_ble_eq_true rfl) (Nat.le_of_ble_eq_true rfl) (Nat.le_of_ble_eq_true rfl) dX13_init_574 114 (by decide) (hts (.fieldLink RX13 209 "LevelUnitsModel" "ticket" "[I") (List.mem_of_getElem? (i := 97) rfl)) (fun _ h9 => h9) rfl rfl (by decide +kernel) dX13_init_576 (fun q_254 F_256 H_j_257 locs_j_257 eF_256 hP_j_257 hD_j_257 hS_j_257 => ?_)
  have k0_j_257 : F_256 0 = .int 0 := fu_ne eF_256 (by decide) k0_j_253
  have k3_j_257 : F_256 3 = .int 0 := fu_ne eF_256 (by decide) k3_j_253
  have k98_j_257 : F_256 98 = .int 0 := fu_ne eF_256 (by decide) k98_j_253
  have k100_j_257 : F_256 100 = .int 0 := fu_ne eF_256 (by decide) k100_j_253
  have k1_j_257 : F_256 1 = .ref q_1 := fu_ne eF_256 (by decide) k1_j_253
  have k2_j_257 : F_256 2 = .ref q_3 := fu_ne eF_256 (by decide) k2_j_253
  have k9_j_257 : F_256 9 = .ref q_11 := fu_ne eF_256 (by decide) k9_j_253
  have k10_j_257 : F_256 10 = .ref q_15 := fu_ne eF_256 (by decide) k10_j_253
  have k11_j_257 : F_256 11 = .ref q_19 := fu_ne eF_256 (by decide) k11_j_253
  have k13_j_257 : F_256 13 = .ref q_23 := fu_ne eF_256 (by decide) k13_j_253
  have k14_j_257 : F_256 14 = .ref q_27 := fu_ne eF_256 (by decide) k14_j_253
  have k15_j_257 : F_256 15 = .ref q_31 := fu_ne eF_256 (by decide) k15_j_253
  clear eF_256 k0_j_253 k3_j_253 k98_j_253 k100_j_253 k1_j_253 k2_j_253 k9_j_253 k10_j_253 k11_j_253 k13_j_253 k14_j_253 k15_j_253 hP hD hS
  have hP : va_P (dC, dI) vwCl [(h0, .inr (15, fl 134 F_256)), (q_1, .inr (14, [.null, .null, .null, .null, .null, .int 0])), (q_3, .inl (cy_4, 6000, .inl (fun _ => 0))), (q_11, .inl (cy_12, 6002, .inl (fun _ => 0))), (q_15, .inl (cy_16, 6002, .inl (fun _ => 0))), (q_19, .inl (cy_20, 6002, .inl (fun _ => 0))), (q_23, .inl (cy_24, 6000, .inl (fun _ => 0))), (q_27, .inl (cy_28, 6000, .inl (fun _ => 0))), (q_31, .inl (cy_32, 6600, .inl (fun _ => 0)))] H_j_257 := hP_j_257
  have hD : va_D A [(h0, .inr (15, fl 134 F_256)), (q_1, .inr (14, [.null, .null, .null, .null, .null, .int 0])), (q_3, .inl (cy_4, 6000, .inl (fun _ => 0))), (q_11, .inl (cy_12, 6002, .inl (fun _ => 0))), (q_15, .inl (cy_16, 6002, .inl (fun _ => 0))), (q_19, .inl (cy_20, 6002, .inl (fun _ => 0))), (q_23, .inl (cy_24, 6000, .inl (fun _ => 0))), (q_27, .inl (cy_28, 6000, .inl (fun _ => 0))), (q_31, .inl (cy_32, 6600, .inl (fun _ => 0)))] := hD_j_257
  have hS := hS_j_257
  clear hP_j_257 hD_j_257 hS_j_257
  refine W.widen (k := 65) (n := 619611) (Nat.le_of_ble_eq_true rfl) (Nat.le_of_ble_eq_true rfl) ?_
  refine lv_aload_n hx hb dX13_init_579 rfl (lv_at hl 0 rfl) ?_
  refine lv_bipush (v := 65) hx hb dX13_init_580 (by decide) ?_
  refine mstep (X := [(q_1, .inr (14, [.null, .null, .null, .null, .null, .int 0])), (q_3, .inl (cy_4, 6000, .inl (fun _ => 0))), (q_11, .inl (cy_12, 6002, .inl (fun _ => 0))), (q_15, .inl (cy_16, 6002, .inl (fun _ => 0))), (q_19, .inl (cy_20, 6002, .inl (fun _ => 0))), (q_23, .inl (cy_24, 6000, .inl (fun _ => 0))), (q_27, .inl (cy_28, 6000, .inl (fun _ => 0))), (q_31, .inl (cy_32, 6600, .inl (fun _ => 0)))]) (F := F_256) (atype := .int) (ty := .int) (a0 := (65, .inl (fun _ => 0))) (N' := 65) hx hb hts in_cc_Model_init_RX13 hown hin hK hP hD hS hA (hts (.arrayClass .int) (List.mem_of_getElem? (i := 33) rfl)) rfl (fun _ => rfl) (by decide) (by decide) (Nat.le_of_ble_eq_true rfl) (Nat.le_of_ble_eq_true rfl) (Nat.le_of_ble_eq_true rfl) dX13_init_582 116 (by decide) (hts (.fieldLink RX13 212 "LevelUnitsModel" "over" "[I") (List.mem_of_getElem? (i := 98) rfl)) (fun _ h9 => h9) rfl rfl (by decide +kernel) dX13_init_584 (fun q_258 F_260 H_j_261 locs_j_261 eF_260 hP_j_261 hD_j_261 hS_j_261 => ?_)
  have k0_j_261 : F_260 0 = .int 0 := fu_ne eF_260 (by decide) k0_j_257
  have k3_j_261 : F_260 3 = .int 0 := fu_ne eF_260 (by decide) k3_j_257
  have k98_j_261 : F_260 98 = .int 0 := fu_ne eF_260 (by decide) k98_j_257
  have k100_j_261 : F_260 100 = .int 0 := fu_ne eF_260 (by decide) k100_j_257
  have k1_j_261 : F_260 1 = .ref q_1 := fu_ne eF_260 (by decide) k1_j_257
  have k2_j_261 : F_260 2 = .ref q_3 := fu_ne eF_260 (by decide) k2_j_257
  have k9_j_261 : F_260 9 = .ref q_11 := fu_ne eF_260 (by decide) k9_j_257
  have k10_j_261 : F_260 10 = .ref q_15 := fu_ne eF_260 (by decide) k10_j_257
  have k11_j_261 : F_260 11 = .ref q_19 := fu_ne eF_260 (by decide) k11_j_257
  have k13_j_261 : F_260 13 = .ref q_23 := fu_ne eF_260 (by decide) k13_j_257
  have k14_j_261 : F_260 14 = .ref q_27 := fu_ne eF_260 (by decide) k14_j_257
  have k15_j_261 : F_260 15 = .ref q_31 := fu_ne eF_260 (by decide) k15_j_257
  clear eF_260 k0_j_257 k3_j_257 k98_j_257 k100_j_257 k1_j_257 k2_j_257 k9_j_257 k10_j_257 k11_j_257 k13_j_257 k14_j_257 k15_j_257 hP hD hS
  have hP : va_P (dC, dI) vwCl [(h0, .inr (15, fl 134 F_260)), (q_1, .inr (14, [.null, .null, .null, .null, .null, .int 0])), (q_3, .inl (cy_4, 6000, .inl (fun _ => 0))), (q_11, .inl (cy_12, 6002, .inl (fun _ => 0))), (q_15, .inl (cy_16, 6002, .inl (fun _ => 0))), (q_19, .inl (cy_20, 6002, .inl (fun _ => 0))), (q_23, .inl (cy_24, 6000, .inl (fun _ => 0))), (q_27, .inl (cy_28, 6000, .inl (fun _ => 0))), (q_31, .inl (cy_32, 6600, .inl (fun _ => 0)))] H_j_261 := hP_j_261
  have hD : va_D A [(h0, .inr (15, fl 134 F_260)), (q_1, .inr (14, [.null, .null, .null, .null, .null, .int 0])), (q_3, .inl (cy_4, 6000, .inl (fun _ => 0))), (q_11, .inl (cy_12, 6002, .inl (fun _ => 0))), (q_15, .inl (cy_16, 6002, .inl (fun _ => 0))), (q_19, .inl (cy_20, 6002, .inl (fun _ => 0))), (q_23, .inl (cy_24, 6000, .inl (fun _ => 0))), (q_27, .inl (cy_28, 6000, .inl (fun _ => 0))), (q_31, .inl (cy_32, 6600, .inl (fun _ => 0)))] := hD_j_261
  have hS := hS_j_261
  clear hP_j_261 hD_j_261 hS_j_261
  refine W.widen (k := 66) (n := 619676) (Nat.le_of_ble_eq_true rfl) (Nat.le_of_ble_eq_true rfl) ?_
  refine lv_aload_n hx hb dX13_init_587 rfl (lv_at hl 0 rfl) ?_
  refine lv_bipush (v := 65) hx hb dX13_init_588 (by decide) ?_
  refine mstep (X := [(q_1, .inr (14, [.null, .null, .null, .null, .null, .int 0])), (q_3, .inl (cy_4, 6000, .inl (fun _ => 0))), (q_11, .inl (cy_12, 6002, .inl (fun _ => 0))), (q_15, .inl (cy_16, 6002, .inl (fun _ => 0))), (q_19, .inl (cy_20, 6002, .inl (fun _ => 0))), (q_23, .inl (cy_24, 6000, .inl (fun _ => 0))), (q_27, .inl (cy_28, 6000, .inl (fun _ => 0))), (q_31, .inl (cy_32, 6600, .inl (fun _ => 0)))]) (F := F_260) (atype := .int) (ty := .int) (a0 := (65, .inl (fun _ => 0))) (N' := 65) hx hb hts in_cc_Model_init_RX13 hown hin hK hP hD hS hA (hts (.arrayClass .int) (List.mem_of_getElem? (i := 33) rfl)) rfl (fun _ => rfl) (by decide) (by decide) (Nat.le_of_ble_eq_true rfl) (Nat.le_of_ble_eq_true rfl) (Nat.le_of_ble_eq_true rfl) dX13_init_590 117 (by decide) (hts (.fieldLink RX13 215 "LevelUnitsModel" "overLine" "[I") (List.mem_of_getElem? (i := 99) rfl)) (fun _ h9 => h9) rfl rfl (by decide +kernel) dX13_init_592 (fun q_262 F_264 H_j_265 locs_j_265 eF_264 hP_j_265 hD_j_265 hS_j_265 => ?_)
  have k0_j_265 : F_264 0 = .int 0 := fu_ne eF_264 (by decide) k0_j_261
  have k3_j_265 : F_264 3 = .int 0 := fu_ne eF_264 (by decide) k3_j_261
  have k98_j_265 : F_264 98 = .int 0 := fu_ne eF_264 (by decide) k98_j_261
  have k100_j_265 : F_264 100 = .int 0 := fu_ne eF_264 (by decide) k100_j_261
  have k1_j_265 : F_264 1 = .ref q_1 := fu_ne eF_264 (by decide) k1_j_261
  have k2_j_265 : F_264 2 = .ref q_3 := fu_ne eF_264 (by decide) k2_j_261
  have k9_j_265 : F_264 9 = .ref q_11 := fu_ne eF_264 (by decide) k9_j_261
  have k10_j_265 : F_264 10 = .ref q_15 := fu_ne eF_264 (by decide) k10_j_261
  have k11_j_265 : F_264 11 = .ref q_19 := fu_ne eF_264 (by decide) k11_j_261
  have k13_j_265 : F_264 13 = .ref q_23 := fu_ne eF_264 (by decide) k13_j_261
  have k14_j_265 : F_264 14 = .ref q_27 := fu_ne eF_264 (by decide) k14_j_261
  have k15_j_265 : F_264 15 = .ref q_31 := fu_ne eF_264 (by decide) k15_j_261
  clear eF_264 k0_j_261 k3_j_261 k98_j_261 k100_j_261 k1_j_261 k2_j_261 k9_j_261 k10_j_261 k11_j_261 k13_j_261 k14_j_261 k15_j_261 hP hD hS
  have hP : va_P (dC, dI) vwCl [(h0, .inr (15, fl 134 F_264)), (q_1, .inr (14, [.null, .null, .null, .null, .null, .int 0])), (q_3, .inl (cy_4, 6000, .inl (fun _ => 0))), (q_11, .inl (cy_12, 6002, .inl (fun _ => 0))), (q_15, .inl (cy_16, 6002, .inl (fun _ => 0))), (q_19, .inl (cy_20, 6002, .inl (fun _ => 0))), (q_23, .inl (cy_24, 6000, .inl (fun _ => 0))), (q_27, .inl (cy_28, 6000, .inl (fun _ => 0))), (q_31, .inl (cy_32, 6600, .inl (fun _ => 0)))] H_j_265 := hP_j_265
  have hD : va_D A [(h0, .inr (15, fl 134 F_264)), (q_1, .inr (14, [.null, .null, .null, .null, .null, .int 0])), (q_3, .inl (cy_4, 6000, .inl (fun _ => 0))), (q_11, .inl (cy_12, 6002, .inl (fun _ => 0))), (q_15, .inl (cy_16, 6002, .inl (fun _ => 0))), (q_19, .inl (cy_20, 6002, .inl (fun _ => 0))), (q_23, .inl (cy_24, 6000, .inl (fun _ => 0))), (q_27, .inl (cy_28, 6000, .inl (fun _ => 0))), (q_31, .inl (cy_32, 6600, .inl (fun _ => 0)))] := hD_j_265
  have hS := hS_j_265
  clear hP_j_265 hD_j_265 hS_j_265
  refine W.widen (k := 67) (n := 619741) (Nat.le_of_ble_eq_true rfl) (Nat.le_of_ble_eq_true rfl) ?_
  refine lv_aload_n hx hb dX13_init_595 rfl (lv_at hl 0 rfl) ?_
  refine lv_bipush (v := 65) hx hb dX13_init_596 (by decide) ?_
  refine mstep (X := [(q_1, .inr (14, [.null, .null, .null, .null, .null, .int 0])), (q_3, .inl (cy_4, 6000, .inl (fun _ => 0))), (q_11, .inl (cy_12, 6002, .inl (fun _ => 0))), (q_15, .inl (cy_16, 6002, .inl (fun _ => 0))), (q_19, .inl (cy_20, 6002, .inl (fun _ => 0))), (q_23, .inl (cy_24, 6000, .inl (fun _ => 0))), (q_27, .inl (cy_28, 6000, .inl (fun _ => 0))), (q_31, .inl (cy_32, 6600, .inl (fun _ => 0)))]) (F := F_264) (atype := .int) (ty := .int) (a0 := (65, .inl (fun _ => 0))) (N' := 65) hx hb hts in_cc_Model_init_RX13 hown hin hK hP hD hS hA (hts (.arrayClass .int) (List.mem_of_getElem? (i := 33) rfl)) rfl (fun _ => rfl) (by decide) (by decide) (Nat.le_of_ble_eq_true rfl) (Nat.le_of_ble_eq_true rfl) (Nat.le_of_ble_eq_true rfl) dX13_init_598 118 (by decide) (hts (.fieldLink RX13 218 "LevelUnitsModel" "overWhat" "[I") (List.mem_of_getElem? (i := 100) rfl)) (fun _ h9 => h9) rfl rfl (by decide +kernel) dX13_init_600 (fun q_266 F_268 H_j_269 locs_j_269 eF_268 hP_j_269 hD_j_269 hS_j_269 => ?_)
  have k0_j_269 : F_268 0 = .int 0 := fu_ne eF_268 (by decide) k0_j_265
  have k3_j_269 : F_268 3 = .int 0 := fu_ne eF_268 (by decide) k3_j_265
  have k98_j_269 : F_268 98 = .int 0 := fu_ne eF_268 (by decide) k98_j_265
  have k100_j_269 : F_268 100 = .int 0 := fu_ne eF_268 (by decide) k100_j_265
  have k1_j_269 : F_268 1 = .ref q_1 := fu_ne eF_268 (by decide) k1_j_265
  have k2_j_269 : F_268 2 = .ref q_3 := fu_ne eF_268 (by decide) k2_j_265
  have k9_j_269 : F_268 9 = .ref q_11 := fu_ne eF_268 (by decide) k9_j_265
  have k10_j_269 : F_268 10 = .ref q_15 := fu_ne eF_268 (by decide) k10_j_265
  have k11_j_269 : F_268 11 = .ref q_19 := fu_ne eF_268 (by decide) k11_j_265
  have k13_j_269 : F_268 13 = .ref q_23 := fu_ne eF_268 (by decide) k13_j_265
  have k14_j_269 : F_268 14 = .ref q_27 := fu_ne eF_268 (by decide) k14_j_265
  have k15_j_269 : F_268 15 = .ref q_31 := fu_ne eF_268 (by decide) k15_j_265
  clear eF_268 k0_j_265 k3_j_265 k98_j_265 k100_j_265 k1_j_265 k2_j_265 k9_j_265 k10_j_265 k11_j_265 k13_j_265 k14_j_265 k15_j_265 hP hD hS
  have hP : va_P (dC, dI) vwCl [(h0, .inr (15, fl 134 F_268)), (q_1, .inr (14, [.null, .null, .null, .null, .null, .int 0])), (q_3, .inl (cy_4, 6000, .inl (fun _ => 0))), (q_11, .inl (cy_12, 6002, .inl (fun _ => 0))), (q_15, .inl (cy_16, 6002, .inl (fun _ => 0))), (q_19, .inl (cy_20, 6002, .inl (fun _ => 0))), (q_23, .inl (cy_24, 6000, .inl (fun _ => 0))), (q_27, .inl (cy_28, 6000, .inl (fun _ => 0))), (q_31, .inl (cy_32, 6600, .inl (fun _ => 0)))] H_j_269 := hP_j_269
  have hD : va_D A [(h0, .inr (15, fl 134 F_268)), (q_1, .inr (14, [.null, .null, .null, .null, .null, .int 0])), (q_3, .inl (cy_4, 6000, .inl (fun _ => 0))), (q_11, .inl (cy_12, 6002, .inl (fun _ => 0))), (q_15, .inl (cy_16, 6002, .inl (fun _ => 0))), (q_19, .inl (cy_20, 6002, .inl (fun _ => 0))), (q_23, .inl (cy_24, 6000, .inl (fun _ => 0))), (q_27, .inl (cy_28, 6000, .inl (fun _ => 0))), (q_31, .inl (cy_32, 6600, .inl (fun _ => 0)))] := hD_j_269
  have hS := hS_j_269
  clear hP_j_269 hD_j_269 hS_j_269
  refine W.widen (k := 68) (n := 619806) (Nat.le_of_ble_eq_true rfl) (Nat.le_of_ble_eq_true rfl) ?_
  refine lv_aload_n hx hb dX13_init_603 rfl (lv_at hl 0 rfl) ?_
  refine lv_bipush (v := 65) hx hb dX13_init_604 (by decide) ?_
  refine mstep (X := [(q_1, .inr (14, [.null, .null, .null, .null, .null, .int 0])), (q_3, .inl (cy_4, 6000, .inl (fun _ => 0))), (q_11, .inl (cy_12, 6002, .inl (fun _ => 0))), (q_15, .inl (cy_16, 6002, .inl (fun _ => 0))), (q_19, .inl (cy_20, 6002, .inl (fun _ => 0))), (q_23, .inl (cy_24, 6000, .inl (fun _ => 0))), (q_27, .inl (cy_28, 6000, .inl (fun _ => 0))), (q_31, .inl (cy_32, 6600, .inl (fun _ => 0)))]) (F := F_268) (atype := .int) (ty := .int) (a0 := (65, .inl (fun _ => 0))) (N' := 65) hx hb hts in_cc_Model_init_RX13 hown hin hK hP hD hS hA (hts (.arrayClass .int) (List.mem_of_getElem? (i := 33) rfl)) rfl (fun _ => rfl) (by decide) (by decide) (Nat.le_of_ble_eq_true rfl) (Nat.le_of_ble_eq_true rfl) (Nat.le_of_ble_eq_true rfl) dX13_init_606 119 (by decide) (hts (.fieldLink RX13 221 "LevelUnitsModel" "overNumber" "[I") (List.mem_of_getElem? (i := 101) rfl)) (fun _ h9 => h9) rfl rfl (by decide +kernel) dX13_init_608 (fun q_270 F_272 H_j_273 locs_j_273 eF_272 hP_j_273 hD_j_273 hS_j_273 => ?_)
  have k0_j_273 : F_272 0 = .int 0 := fu_ne eF_272 (by decide) k0_j_269
  have k3_j_273 : F_272 3 = .int 0 := fu_ne eF_272 (by decide) k3_j_269
  have k98_j_273 : F_272 98 = .int 0 := fu_ne eF_272 (by decide) k98_j_269
  have k100_j_273 : F_272 100 = .int 0 := fu_ne eF_272 (by decide) k100_j_269
  have k1_j_273 : F_272 1 = .ref q_1 := fu_ne eF_272 (by decide) k1_j_269
  have k2_j_273 : F_272 2 = .ref q_3 := fu_ne eF_272 (by decide) k2_j_269
  have k9_j_273 : F_272 9 = .ref q_11 := fu_ne eF_272 (by decide) k9_j_269
  have k10_j_273 : F_272 10 = .ref q_15 := fu_ne eF_272 (by decide) k10_j_269
  have k11_j_273 : F_272 11 = .ref q_19 := fu_ne eF_272 (by decide) k11_j_269
  have k13_j_273 : F_272 13 = .ref q_23 := fu_ne eF_272 (by decide) k13_j_269
  have k14_j_273 : F_272 14 = .ref q_27 := fu_ne eF_272 (by decide) k14_j_269
  have k15_j_273 : F_272 15 = .ref q_31 := fu_ne eF_272 (by decide) k15_j_269
  clear eF_272 k0_j_269 k3_j_269 k98_j_269 k100_j_269 k1_j_269 k2_j_269 k9_j_269 k10_j_269 k11_j_269 k13_j_269 k14_j_269 k15_j_269 hP hD hS
  have hP : va_P (dC, dI) vwCl [(h0, .inr (15, fl 134 F_272)), (q_1, .inr (14, [.null, .null, .null, .null, .null, .int 0])), (q_3, .inl (cy_4, 6000, .inl (fun _ => 0))), (q_11, .inl (cy_12, 6002, .inl (fun _ => 0))), (q_15, .inl (cy_16, 6002, .inl (fun _ => 0))), (q_19, .inl (cy_20, 6002, .inl (fun _ => 0))), (q_23, .inl (cy_24, 6000, .inl (fun _ => 0))), (q_27, .inl (cy_28, 6000, .inl (fun _ => 0))), (q_31, .inl (cy_32, 6600, .inl (fun _ => 0)))] H_j_273 := hP_j_273
  have hD : va_D A [(h0, .inr (15, fl 134 F_272)), (q_1, .inr (14, [.null, .null, .null, .null, .null, .int 0])), (q_3, .inl (cy_4, 6000, .inl (fun _ => 0))), (q_11, .inl (cy_12, 6002, .inl (fun _ => 0))), (q_15, .inl (cy_16, 6002, .inl (fun _ => 0))), (q_19, .inl (cy_20, 6002, .inl (fun _ => 0))), (q_23, .inl (cy_24, 6000, .inl (fun _ => 0))), (q_27, .inl (cy_28, 6000, .inl (fun _ => 0))), (q_31, .inl (cy_32, 6600, .inl (fun _ => 0)))] := hD_j_273
  have hS := hS_j_273
  clear hP_j_273 hD_j_273 hS_j_273
  refine W.widen (k := 69) (n := 619871) (Nat.le_of_ble_eq_true rfl) (Nat.le_of_ble_eq_true rfl) ?_
  refine lv_aload_n hx hb dX13_init_611 rfl (lv_at hl 0 rfl) ?_
  refine lv_bipush (v := 65) hx hb dX13_init_612 (by decide) ?_
  refine mstep (X := [(q_1, .inr (14, [.null, .null, .null, .null, .null, .int 0])), (q_3, .inl (cy_4, 6000, .inl (fun _ => 0))), (q_11, .inl (cy_12, 6002, .inl (fun _ => 0))), (q_15, .inl (cy_16, 6002, .inl (fun _ => 0))), (q_19, .inl (cy_20, 6002, .inl (fun _ => 0))), (q_23, .inl (cy_24, 6000, .inl (fun _ => 0))), (q_27, .inl (cy_28, 6000, .inl (fun _ => 0))), (q_31, .inl (cy_32, 6600, .inl (fun _ => 0)))]) (F := F_272) (atype := .int) (ty := .int) (a0 := (65, .inl (fun _ => 0))) (N' := 65) hx hb hts in_cc_Model_init_RX13 hown hin hK hP hD hS hA (hts (.arrayClass .int) (List.mem_of_getElem? (i := 33) rfl)) rfl (fun _ => rfl) (by decide) (by decide) (Nat.le_of_ble_eq_true rfl) (Nat.le_of_ble_eq_true rfl) (Nat.le_of_ble_eq_true rfl) dX13_init_614 120 (by decide) (hts (.fieldLink RX13 224 "LevelUnitsModel" "openCalls" "[I") (List.mem_of_getElem? (i := 102) rfl)) (fun _ h9 => h9) rfl rfl (by decide +kernel) dX13_init_616 (fun q_274 F_276 H_j_277 locs_j_277 eF_276 hP_j_277 hD_j_277 hS_j_277 => ?_)
  have k0_j_277 : F_276 0 = .int 0 := fu_ne eF_276 (by decide) k0_j_273
  have k3_j_277 : F_276 3 = .int 0 := fu_ne eF_276 (by decide) k3_j_273
  have k98_j_277 : F_276 98 = .int 0 := fu_ne eF_276 (by decide) k98_j_273
  have k100_j_277 : F_276 100 = .int 0 := fu_ne eF_276 (by decide) k100_j_273
  have k1_j_277 : F_276 1 = .ref q_1 := fu_ne eF_276 (by decide) k1_j_273
  have k2_j_277 : F_276 2 = .ref q_3 := fu_ne eF_276 (by decide) k2_j_273
  have k9_j_277 : F_276 9 = .ref q_11 := fu_ne eF_276 (by decide) k9_j_273
  have k10_j_277 : F_276 10 = .ref q_15 := fu_ne eF_276 (by decide) k10_j_273
  have k11_j_277 : F_276 11 = .ref q_19 := fu_ne eF_276 (by decide) k11_j_273
  have k13_j_277 : F_276 13 = .ref q_23 := fu_ne eF_276 (by decide) k13_j_273
  have k14_j_277 : F_276 14 = .ref q_27 := fu_ne eF_276 (by decide) k14_j_273
  have k15_j_277 : F_276 15 = .ref q_31 := fu_ne eF_276 (by decide) k15_j_273
  clear eF_276 k0_j_273 k3_j_273 k98_j_273 k100_j_273 k1_j_273 k2_j_273 k9_j_273 k10_j_273 k11_j_273 k13_j_273 k14_j_273 k15_j_273 hP hD hS
  have hP : va_P (dC, dI) vwCl [(h0, .inr (15, fl 134 F_276)), (q_1, .inr (14, [.null, .null, .null, .null, .null, .int 0])), (q_3, .inl (cy_4, 6000, .inl (fun _ => 0))), (q_11, .inl (cy_12, 6002, .inl (fun _ => 0))), (q_15, .inl (cy_16, 6002, .inl (fun _ => 0))), (q_19, .inl (cy_20, 6002, .inl (fun _ => 0))), (q_23, .inl (cy_24, 6000, .inl (fun _ => 0))), (q_27, .inl (cy_28, 6000, .inl (fun _ => 0))), (q_31, .inl (cy_32, 6600, .inl (fun _ => 0)))] H_j_277 := hP_j_277
  have hD : va_D A [(h0, .inr (15, fl 134 F_276)), (q_1, .inr (14, [.null, .null, .null, .null, .null, .int 0])), (q_3, .inl (cy_4, 6000, .inl (fun _ => 0))), (q_11, .inl (cy_12, 6002, .inl (fun _ => 0))), (q_15, .inl (cy_16, 6002, .inl (fun _ => 0))), (q_19, .inl (cy_20, 6002, .inl (fun _ => 0))), (q_23, .inl (cy_24, 6000, .inl (fun _ => 0))), (q_27, .inl (cy_28, 6000, .inl (fun _ => 0))), (q_31, .inl (cy_32, 6600, .inl (fun _ => 0)))] := hD_j_277
  have hS := hS_j_277
  clear hP_j_277 hD_j_277 hS_j_277
  refine W.widen (k := 70) (n := 619936) (Nat.le_of_ble_eq_true rfl) (Nat.le_of_ble_eq_true rfl) ?_
  refine lv_aload_n hx hb dX13_init_619 rfl (lv_at hl 0 rfl) ?_
  refine lv_bipush (v := 65) hx hb dX13_init_620 (by decide) ?_
  refine mstep (X := [(q_1, .inr (14, [.null, .null, .null, .null, .null, .int 0])), (q_3, .inl (cy_4, 6000, .inl (fun _ => 0))), (q_11, .inl (cy_12, 6002, .inl (fun _ => 0))), (q_15, .inl (cy_16, 6002, .inl (fun _ => 0))), (q_19, .inl (cy_20, 6002, .inl (fun _ => 0))), (q_23, .inl (cy_24, 6000, .inl (fun _ => 0))), (q_27, .inl (cy_28, 6000, .inl (fun _ => 0))), (q_31, .inl (cy_32, 6600, .inl (fun _ => 0)))]) (F := F_276) (atype := .int) (ty := .int) (a0 := (65, .inl (fun _ => 0))) (N' := 65) hx hb hts in_cc_Model_init_RX13 hown hin hK hP hD hS hA (hts (.arrayClass .int) (List.mem_of_getElem? (i := 33) rfl)) rfl (fun _ => rfl) (by decide) (by decide) (Nat.le_of_ble_eq_true rfl) (Nat.le_of_ble_eq_true rfl) (Nat.le_of_ble_eq_true rfl) dX13_init_622 121 (by decide) (hts (.fieldLink RX13 227 "LevelUnitsModel" "openCells" "[I") (List.mem_of_getElem? (i := 103) rfl)) (fun _ h9 => h9) rfl rfl (by decide +kernel) dX13_init_624 (fun q_278 F_280 H_j_281 locs_j_281 eF_280 hP_j_281 hD_j_281 hS_j_281 => ?_)
  have k0_j_281 : F_280 0 = .int 0 := fu_ne eF_280 (by decide) k0_j_277
  have k3_j_281 : F_280 3 = .int 0 := fu_ne eF_280 (by decide) k3_j_277
  have k98_j_281 : F_280 98 = .int 0 := fu_ne eF_280 (by decide) k98_j_277
  have k100_j_281 : F_280 100 = .int 0 := fu_ne eF_280 (by decide) k100_j_277
  have k1_j_281 : F_280 1 = .ref q_1 := fu_ne eF_280 (by decide) k1_j_277
  have k2_j_281 : F_280 2 = .ref q_3 := fu_ne eF_280 (by decide) k2_j_277
  have k9_j_281 : F_280 9 = .ref q_11 := fu_ne eF_280 (by decide) k9_j_277
  have k10_j_281 : F_280 10 = .ref q_15 := fu_ne eF_280 (by decide) k10_j_277
  have k11_j_281 : F_280 11 = .ref q_19 := fu_ne eF_280 (by decide) k11_j_277
  have k13_j_281 : F_280 13 = .ref q_23 := fu_ne eF_280 (by decide) k13_j_277
  have k14_j_281 : F_280 14 = .ref q_27 := fu_ne eF_280 (by decide) k14_j_277
  have k15_j_281 : F_280 15 = .ref q_31 := fu_ne eF_280 (by decide) k15_j_277
  clear eF_280 k0_j_277 k3_j_277 k98_j_277 k100_j_277 k1_j_277 k2_j_277 k9_j_277 k10_j_277 k11_j_277 k13_j_277 k14_j_277 k15_j_277 hP hD hS
  have hP : va_P (dC, dI) vwCl [(h0, .inr (15, fl 134 F_280)), (q_1, .inr (14, [.null, .null, .null, .null, .null, .int 0])), (q_3, .inl (cy_4, 6000, .inl (fun _ => 0))), (q_11, .inl (cy_12, 6002, .inl (fun _ => 0))), (q_15, .inl (cy_16, 6002, .inl (fun _ => 0))), (q_19, .inl (cy_20, 6002, .inl (fun _ => 0))), (q_23, .inl (cy_24, 6000, .inl (fun _ => 0))), (q_27, .inl (cy_28, 6000, .inl (fun _ => 0))), (q_31, .inl (cy_32, 6600, .inl (fun _ => 0)))] H_j_281 := hP_j_281
  have hD : va_D A [(h0, .inr (15, fl 134 F_280)), (q_1, .inr (14, [.null, .null, .null, .null, .null, .int 0])), (q_3, .inl (cy_4, 6000, .inl (fun _ => 0))), (q_11, .inl (cy_12, 6002, .inl (fun _ => 0))), (q_15, .inl (cy_16, 6002, .inl (fun _ => 0))), (q_19, .inl (cy_20, 6002, .inl (fun _ => 0))), (q_23, .inl (cy_24, 6000, .inl (fun _ => 0))), (q_27, .inl (cy_28, 6000, .inl (fun _ => 0))), (q_31, .inl (cy_32, 6600, .inl (fun _ => 0)))] := hD_j_281
  have hS := hS_j_281
  clear hP_j_281 hD_j_281 hS_j_281
  refine W.widen (k := 71) (n := 620001) (Nat.le_of_ble_eq_true rfl) (Nat.le_of_ble_eq_true rfl) ?_
  refine lv_aload_n hx hb dX13_init_627 rfl (lv_at hl 0 rfl) ?_
  refine lv_bipush (v := 65) hx hb dX13_init_628 (by decide) ?_
  refine mstep (X := [(q_1, .inr (14, [.null, .null, .null, .null, .null, .int 0])), (q_3, .inl (cy_4, 6000, .inl (fun _ => 0))), (q_11, .inl (cy_12, 6002, .inl (fun _ => 0))), (q_15, .inl (cy_16, 6002, .inl (fun _ => 0))), (q_19, .inl (cy_20, 6002, .inl (fun _ => 0))), (q_23, .inl (cy_24, 6000, .inl (fun _ => 0))), (q_27, .inl (cy_28, 6000, .inl (fun _ => 0))), (q_31, .inl (cy_32, 6600, .inl (fun _ => 0)))]) (F := F_280) (atype := .int) (ty := .int) (a0 := (65, .inl (fun _ => 0))) (N' := 65) hx hb hts in_cc_Model_init_RX13 hown hin hK hP hD hS hA (hts (.arrayClass .int) (List.mem_of_getElem? (i := 33) rfl)) rfl (fun _ => rfl) (by decide) (by decide) (Nat.le_of_ble_eq_true rfl) (Nat.le_of_ble_eq_true rfl) (Nat.le_of_ble_eq_true rfl) dX13_init_630 122 (by decide) (hts (.fieldLink RX13 230 "LevelUnitsModel" "base" "[I") (List.mem_of_getElem? (i := 104) rfl)) (fun _ h9 => h9) rfl rfl (by decide +kernel) dX13_init_632 (fun q_282 F_284 H_j_285 locs_j_285 eF_284 hP_j_285 hD_j_285 hS_j_285 => ?_)
  have k0_j_285 : F_284 0 = .int 0 := fu_ne eF_284 (by decide) k0_j_281
  have k3_j_285 : F_284 3 = .int 0 := fu_ne eF_284 (by decide) k3_j_281
  have k98_j_285 : F_284 98 = .int 0 := fu_ne eF_284 (by decide) k98_j_281
  have k100_j_285 : F_284 100 = .int 0 := fu_ne eF_284 (by decide) k100_j_281
  have k1_j_285 : F_284 1 = .ref q_1 := fu_ne eF_284 (by decide) k1_j_281
  have k2_j_285 : F_284 2 = .ref q_3 := fu_ne eF_284 (by decide) k2_j_281
  have k9_j_285 : F_284 9 = .ref q_11 := fu_ne eF_284 (by decide) k9_j_281
  have k10_j_285 : F_284 10 = .ref q_15 := fu_ne eF_284 (by decide) k10_j_281
  have k11_j_285 : F_284 11 = .ref q_19 := fu_ne eF_284 (by decide) k11_j_281
  have k13_j_285 : F_284 13 = .ref q_23 := fu_ne eF_284 (by decide) k13_j_281
  have k14_j_285 : F_284 14 = .ref q_27 := fu_ne eF_284 (by decide) k14_j_281
  have k15_j_285 : F_284 15 = .ref q_31 := fu_ne eF_284 (by decide) k15_j_281
  clear eF_284 k0_j_281 k3_j_281 k98_j_281 k100_j_281 k1_j_281 k2_j_281 k9_j_281 k10_j_281 k11_j_281 k13_j_281 k14_j_281 k15_j_281 hP hD hS
  have hP : va_P (dC, dI) vwCl [(h0, .inr (15, fl 134 F_284)), (q_1, .inr (14, [.null, .null, .null, .null, .null, .int 0])), (q_3, .inl (cy_4, 6000, .inl (fun _ => 0))), (q_11, .inl (cy_12, 6002, .inl (fun _ => 0))), (q_15, .inl (cy_16, 6002, .inl (fun _ => 0))), (q_19, .inl (cy_20, 6002, .inl (fun _ => 0))), (q_23, .inl (cy_24, 6000, .inl (fun _ => 0))), (q_27, .inl (cy_28, 6000, .inl (fun _ => 0))), (q_31, .inl (cy_32, 6600, .inl (fun _ => 0)))] H_j_285 := hP_j_285
  have hD : va_D A [(h0, .inr (15, fl 134 F_284)), (q_1, .inr (14, [.null, .null, .null, .null, .null, .int 0])), (q_3, .inl (cy_4, 6000, .inl (fun _ => 0))), (q_11, .inl (cy_12, 6002, .inl (fun _ => 0))), (q_15, .inl (cy_16, 6002, .inl (fun _ => 0))), (q_19, .inl (cy_20, 6002, .inl (fun _ => 0))), (q_23, .inl (cy_24, 6000, .inl (fun _ => 0))), (q_27, .inl (cy_28, 6000, .inl (fun _ => 0))), (q_31, .inl (cy_32, 6600, .inl (fun _ => 0)))] := hD_j_285
  have hS := hS_j_285
  clear hP_j_285 hD_j_285 hS_j_285
  refine W.widen (k := 72) (n := 620066) (Nat.le_of_ble_eq_true rfl) (Nat.le_of_ble_eq_true rfl) ?_
  refine lv_aload_n hx hb dX13_init_635 rfl (lv_at hl 0 rfl) ?_
  refine lv_bipush (v := 65) hx hb dX13_init_636 (by decide) ?_
  refine mstep (X := [(q_1, .inr (14, [.null, .null, .null, .null, .null, .int 0])), (q_3, .inl (cy_4, 6000, .inl (fun _ => 0))), (q_11, .inl (cy_12, 6002, .inl (fun _ => 0))), (q_15, .inl (cy_16, 6002, .inl (fun _ => 0))), (q_19, .inl (cy_20, 6002, .inl (fun _ => 0))), (q_23, .inl (cy_24, 6000, .inl (fun _ => 0))), (q_27, .inl (cy_28, 6000, .inl (fun _ => 0))), (q_31, .inl (cy_32, 6600, .inl (fun _ => 0)))]) (F := F_284) (atype := .int) (ty := .int) (a0 := (65, .inl (fun _ => 0))) (N' := 65) hx hb hts in_cc_Model_init_RX13 hown hin hK hP hD hS hA (hts (.arrayClass .int) (List.mem_of_getElem? (i := 33) rfl)) rfl (fun _ => rfl) (by decide) (by decide) (Nat.le_of_ble_eq_true rfl) (Nat.le_of_ble_eq_true rfl) (Nat.le_of_ble_eq_true rfl) dX13_init_638 123 (by decide) (hts (.fieldLink RX13 233 "LevelUnitsModel" "stackTop" "[I") (List.mem_of_getElem? (i := 105) rfl)) (fun _ h9 => h9) rfl rfl (by decide +kernel) dX13_init_640 (fun q_286 F_288 H_j_289 locs_j_289 eF_288 hP_j_289 hD_j_289 hS_j_289 => ?_)
  have k0_j_289 : F_288 0 = .int 0 := fu_ne eF_288 (by decide) k0_j_285
  have k3_j_289 : F_288 3 = .int 0 := fu_ne eF_288 (by decide) k3_j_285
  have k98_j_289 : F_288 98 = .int 0 := fu_ne eF_288 (by decide) k98_j_285
  have k100_j_289 : F_288 100 = .int 0 := fu_ne eF_288 (by decide) k100_j_285
  have k1_j_289 : F_288 1 = .ref q_1 := fu_ne eF_288 (by decide) k1_j_285
  have k2_j_289 : F_288 2 = .ref q_3 := fu_ne eF_288 (by decide) k2_j_285
  have k9_j_289 : F_288 9 = .ref q_11 := fu_ne eF_288 (by decide) k9_j_285
  have k10_j_289 : F_288 10 = .ref q_15 := fu_ne eF_288 (by decide) k10_j_285
  have k11_j_289 : F_288 11 = .ref q_19 := fu_ne eF_288 (by decide) k11_j_285
  have k13_j_289 : F_288 13 = .ref q_23 := fu_ne eF_288 (by decide) k13_j_285
  have k14_j_289 : F_288 14 = .ref q_27 := fu_ne eF_288 (by decide) k14_j_285
  have k15_j_289 : F_288 15 = .ref q_31 := fu_ne eF_288 (by decide) k15_j_285
  clear eF_288 k0_j_285 k3_j_285 k98_j_285 k100_j_285 k1_j_285 k2_j_285 k9_j_285 k10_j_285 k11_j_285 k13_j_285 k14_j_285 k15_j_285 hP hD hS
  have hP : va_P (dC, dI) vwCl [(h0, .inr (15, fl 134 F_288)), (q_1, .inr (14, [.null, .null, .null, .null, .null, .int 0])), (q_3, .inl (cy_4, 6000, .inl (fun _ => 0))), (q_11, .inl (cy_12, 6002, .inl (fun _ => 0))), (q_15, .inl (cy_16, 6002, .inl (fun _ => 0))), (q_19, .inl (cy_20, 6002, .inl (fun _ => 0))), (q_23, .inl (cy_24, 6000, .inl (fun _ => 0))), (q_27, .inl (cy_28, 6000, .inl (fun _ => 0))), (q_31, .inl (cy_32, 6600, .inl (fun _ => 0)))] H_j_289 := hP_j_289
  have hD : va_D A [(h0, .inr (15, fl 134 F_288)), (q_1, .inr (14, [.null, .null, .null, .null, .null, .int 0])), (q_3, .inl (cy_4, 6000, .inl (fun _ => 0))), (q_11, .inl (cy_12, 6002, .inl (fun _ => 0))), (q_15, .inl (cy_16, 6002, .inl (fun _ => 0))), (q_19, .inl (cy_20, 6002, .inl (fun _ => 0))), (q_23, .inl (cy_24, 6000, .inl (fun _ => 0))), (q_27, .inl (cy_28, 6000, .inl (fun _ => 0))), (q_31, .inl (cy_32, 6600, .inl (fun _ => 0)))] := hD_j_289
  have hS := hS_j_289
  clear hP_j_289 hD_j_289 hS_j_289
  refine W.widen (k := 73) (n := 620131) (Nat.le_of_ble_eq_true rfl) (Nat.le_of_ble_eq_true rfl) ?_
  refine lv_aload_n hx hb dX13_init_643 rfl (lv_at hl 0 rfl) ?_
  refine lv_bipush (v := 65) hx hb dX13_init_644 (by decide) ?_
  refine mstep (X := [(q_1, .inr (14, [.null, .null, .null, .null, .null, .int 0])), (q_3, .inl (cy_4, 6000, .inl (fun _ => 0))), (q_11, .inl (cy_12, 6002, .inl (fun _ => 0))), (q_15, .inl (cy_16, 6002, .inl (fun _ => 0))), (q_19, .inl (cy_20, 6002, .inl (fun _ => 0))), (q_23, .inl (cy_24, 6000, .inl (fun _ => 0))), (q_27, .inl (cy_28, 6000, .inl (fun _ => 0))), (q_31, .inl (cy_32, 6600, .inl (fun _ => 0)))]) (F := F_288) (atype := .int) (ty := .int) (a0 := (65, .inl (fun _ => 0))) (N' := 65) hx hb hts in_cc_Model_init_RX13 hown hin hK hP hD hS hA (hts (.arrayClass .int) (List.mem_of_getElem? (i := 33) rfl)) rfl (fun _ => rfl) (by decide) (by decide) (Nat.le_of_ble_eq_true rfl) (Nat.le_of_ble_eq_true rfl) (Nat.le_of_ble_eq_true rfl) dX13_init_646 124 (by decide) (hts (.fieldLink RX13 236 "LevelUnitsModel" "entries" "[I") (List.mem_of_getElem? (i := 106) rfl)) (fun _ h9 => h9) rfl rfl (by decide +kernel) dX13_init_648 (fun q_290 F_292 H_j_293 locs_j_293 eF_292 hP_j_293 hD_j_293 hS_j_293 => ?_)
  have k0_j_293 : F_292 0 = .int 0 := fu_ne eF_292 (by decide) k0_j_289
  have k3_j_293 : F_292 3 = .int 0 := fu_ne eF_292 (by decide) k3_j_289
  have k98_j_293 : F_292 98 = .int 0 := fu_ne eF_292 (by decide) k98_j_289
  have k100_j_293 : F_292 100 = .int 0 := fu_ne eF_292 (by decide) k100_j_289
  have k1_j_293 : F_292 1 = .ref q_1 := fu_ne eF_292 (by decide) k1_j_289
  have k2_j_293 : F_292 2 = .ref q_3 := fu_ne eF_292 (by decide) k2_j_289
  have k9_j_293 : F_292 9 = .ref q_11 := fu_ne eF_292 (by decide) k9_j_289
  have k10_j_293 : F_292 10 = .ref q_15 := fu_ne eF_292 (by decide) k10_j_289
  have k11_j_293 : F_292 11 = .ref q_19 := fu_ne eF_292 (by decide) k11_j_289
  have k13_j_293 : F_292 13 = .ref q_23 := fu_ne eF_292 (by decide) k13_j_289
  have k14_j_293 : F_292 14 = .ref q_27 := fu_ne eF_292 (by decide) k14_j_289
  have k15_j_293 : F_292 15 = .ref q_31 := fu_ne eF_292 (by decide) k15_j_289
  clear eF_292 k0_j_289 k3_j_289 k98_j_289 k100_j_289 k1_j_289 k2_j_289 k9_j_289 k10_j_289 k11_j_289 k13_j_289 k14_j_289 k15_j_289 hP hD hS
  have hP : va_P (dC, dI) vwCl [(h0, .inr (15, fl 134 F_292)), (q_1, .inr (14, [.null, .null, .null, .null, .null, .int 0])), (q_3, .inl (cy_4, 6000, .inl (fun _ => 0))), (q_11, .inl (cy_12, 6002, .inl (fun _ => 0))), (q_15, .inl (cy_16, 6002, .inl (fun _ => 0))), (q_19, .inl (cy_20, 6002, .inl (fun _ => 0))), (q_23, .inl (cy_24, 6000, .inl (fun _ => 0))), (q_27, .inl (cy_28, 6000, .inl (fun _ => 0))), (q_31, .inl (cy_32, 6600, .inl (fun _ => 0)))] H_j_293 := hP_j_293
  have hD : va_D A [(h0, .inr (15, fl 134 F_292)), (q_1, .inr (14, [.null, .null, .null, .null, .null, .int 0])), (q_3, .inl (cy_4, 6000, .inl (fun _ => 0))), (q_11, .inl (cy_12, 6002, .inl (fun _ => 0))), (q_15, .inl (cy_16, 6002, .inl (fun _ => 0))), (q_19, .inl (cy_20, 6002, .inl (fun _ => 0))), (q_23, .inl (cy_24, 6000, .inl (fun _ => 0))), (q_27, .inl (cy_28, 6000, .inl (fun _ => 0))), (q_31, .inl (cy_32, 6600, .inl (fun _ => 0)))] := hD_j_293
  have hS := hS_j_293
  clear hP_j_293 hD_j_293 hS_j_293
  refine W.widen (k := 74) (n := 620196) (Nat.le_of_ble_eq_true rfl) (Nat.le_of_ble_eq_true rfl) ?_
  refine lv_aload_n hx hb dX13_init_651 rfl (lv_at hl 0 rfl) ?_
  refine lv_sipush (v := 18000) hx hb dX13_init_652 (by decide) ?_
  refine va_newa (atype := .int) (ty := .int) (a0 := (18000, .inl (fun _ => 0))) (N' := 18000) hx hb (hts (.arrayClass .int) (List.mem_of_getElem? (i := 33) rfl)) rfl hK hP hD hS hA (fun _ => rfl) (by decide) (by decide) (Nat.le_of_ble_eq_true rfl) (Nat.le_of_ble_eq_true rfl) (Nat.le_of_ble_eq_true rfl) dX13_init_655 (fun q_294 cy_295 H hK hP hD hS => ?_)
  have hK : va_K (dC, dI) vwCl [(cy_4, .byte), (cy_12, .int), (cy_16, .int), (cy_20, .int), (cy_24, .int), (cy_28, .int), (cy_32, .byte), (cy_295, .int)] s := hK
  have hP : va_P (dC, dI) vwCl [(h0, .inr (15, fl 134 F_292)), (q_1, .inr (14, [.null, .null, .null, .null, .null, .int 0])), (q_3, .inl (cy_4, 6000, .inl (fun _ => 0))), (q_11, .inl (cy_12, 6002, .inl (fun _ => 0))), (q_15, .inl (cy_16, 6002, .inl (fun _ => 0))), (q_19, .inl (cy_20, 6002, .inl (fun _ => 0))), (q_23, .inl (cy_24, 6000, .inl (fun _ => 0))), (q_27, .inl (cy_28, 6000, .inl (fun _ => 0))), (q_31, .inl (cy_32, 6600, .inl (fun _ => 0))), (q_294, .inl (cy_295, 18000, .inl (fun _ => 0)))] H := hP
  have hD : va_D A [(h0, .inr (15, fl 134 F_292)), (q_1, .inr (14, [.null, .null, .null, .null, .null, .int 0])), (q_3, .inl (cy_4, 6000, .inl (fun _ => 0))), (q_11, .inl (cy_12, 6002, .inl (fun _ => 0))), (q_15, .inl (cy_16, 6002, .inl (fun _ => 0))), (q_19, .inl (cy_20, 6002, .inl (fun _ => 0))), (q_23, .inl (cy_24, 6000, .inl (fun _ => 0))), (q_27, .inl (cy_28, 6000, .inl (fun _ => 0))), (q_31, .inl (cy_32, 6600, .inl (fun _ => 0))), (q_294, .inl (cy_295, 18000, .inl (fun _ => 0)))] := hD
  refine W.widen (k := 75) (n := 638196) (Nat.le_of_ble_eq_true rfl) (Nat.le_of_ble_eq_true rfl) ?_
  refine va_put (D := (dC, dI)) (ci := 15) (v := .ref q_294) (ty := .array .int) (C := RX13) (T := TX13) (N := 134) hx hb hts in_cc_Model_init_RX13 tyX13 tyX13_ok nmX13 hown hK hP hD hS 0 rfl rfl 125 (by decide) (hts (.fieldLink RX13 239 "LevelUnitsModel" "todo" "[I") (List.mem_of_getElem? (i := 107) rfl)) (fun _ h9 => h9) rfl (by decide +kernel) rfl rfl (fl_lt (by decide)) dX13_init_657 (fun H locs hP hD hS => ?_)
  obtain ⟨F_296, eF_296⟩ : ∃ z, z = fu F_292 125 (.ref q_294) := ⟨_, rfl⟩
  have hP : va_P (dC, dI) vwCl [(h0, .inr (15, fl 134 F_296)), (q_1, .inr (14, [.null, .null, .null, .null, .null, .int 0])), (q_3, .inl (cy_4, 6000, .inl (fun _ => 0))), (q_11, .inl (cy_12, 6002, .inl (fun _ => 0))), (q_15, .inl (cy_16, 6002, .inl (fun _ => 0))), (q_19, .inl (cy_20, 6002, .inl (fun _ => 0))), (q_23, .inl (cy_24, 6000, .inl (fun _ => 0))), (q_27, .inl (cy_28, 6000, .inl (fun _ => 0))), (q_31, .inl (cy_32, 6600, .inl (fun _ => 0))), (q_294, .inl (cy_295, 18000, .inl (fun _ => 0)))] H := by rw [eF_296, ← fl_set (n := 134) (k := 125) (by decide)]; exact hP
  have hD : va_D A [(h0, .inr (15, fl 134 F_296)), (q_1, .inr (14, [.null, .null, .null, .null, .null, .int 0])), (q_3, .inl (cy_4, 6000, .inl (fun _ => 0))), (q_11, .inl (cy_12, 6002, .inl (fun _ => 0))), (q_15, .inl (cy_16, 6002, .inl (fun _ => 0))), (q_19, .inl (cy_20, 6002, .inl (fun _ => 0))), (q_23, .inl (cy_24, 6000, .inl (fun _ => 0))), (q_27, .inl (cy_28, 6000, .inl (fun _ => 0))), (q_31, .inl (cy_32, 6600, .inl (fun _ => 0))), (q_294, .inl (cy_295, 18000, .inl (fun _ => 0)))] := by rw [eF_296, ← fl_set (n := 134) (k := 125) (by decide)]; exact hD
  have hP := hP.sub (ws' := [(h0, .inr (15, fl 134 F_296)), (q_1, .inr (14, [.null, .null, .null, .null, .null, .int 0])), (q_3, .inl (cy_4, 6000, .inl (fun _ => 0))), (q_11, .inl (cy_12, 6002, .inl (fun _ => 0))), (q_15, .inl (cy_16, 6002, .inl (fun _ => 0))), (q_19, .inl (cy_20, 6002, .inl (fun _ => 0))), (q_23, .inl (cy_24, 6000, .inl (fun _ => 0))), (q_27, .inl (cy_28, 6000, .inl (fun _ => 0))), (q_31, .inl (cy_32, 6600, .inl (fun _ => 0)))]) [0, 1, 2, 3, 4, 5, 6, 7, 8] rfl
  have hD := hD.sub (ws' := [(h0, .inr (15, fl 134 F_296)), (q_1, .inr (14, [.null, .null, .null, .null, .null, .int 0])), (q_3, .inl (cy_4, 6000, .inl (fun _ => 0))), (q_11, .inl (cy_12, 6002, .inl (fun _ => 0))), (q_15, .inl (cy_16, 6002, .inl (fun _ => 0))), (q_19, .inl (cy_20, 6002, .inl (fun _ => 0))), (q_23, .inl (cy_24, 6000, .inl (fun _ => 0))), (q_27, .inl (cy_28, 6000, .inl (fun _ => 0))), (q_31, .inl (cy_32, 6600, .inl (fun _ => 0)))]) [0, 1, 2, 3, 4, 5, 6, 7, 8] (by decide) rfl
  have hK := hK.sub (tys' := [(cy_4, .byte), (cy_12, .int), (cy_16, .int), (cy_20, .int), (cy_24, .int), (cy_28, .int), (cy_32, .byte)]) [0, 1, 2, 3, 4, 5, 6] rfl
  refine lv_aload_n hx hb dX13_init_660 rfl (lv_at hl 0 rfl) ?_
  refine lv_sipush (v := 500) hx hb dX13_init_661 (by decide) ?_
  refine mstep (X := [(q_1, .inr (14, [.null, .null, .null, .null, .null, .int 0])), (q_3, .inl (cy_4, 6000, .inl (fun _ => 0))), (q_11, .inl (cy_12, 6002, .inl (fun _ => 0))), (q_15, .inl (cy_16, 6002, .inl (fun _ => 0))), (q_19, .inl (cy_20, 6002, .inl (fun _ => 0))), (q_23, .inl (cy_24, 6000, .inl (fun _ => 0))), (q_27, .inl (cy_28, 6000, .inl (fun _ => 0))), (q_31, .inl (cy_32, 6600, .inl (fun _ => 0)))]) (F := F_296) (atype := .int) (ty := .int) (a0 := (500, .inl (fun _ => 0))) (N' := 500) hx hb hts in_cc_Model_init_RX13 hown hin hK hP hD hS hA (hts (.arrayClass .int) (List.mem_of_getElem? (i := 33) rfl)) rfl (fun _ => rfl) (by decide) (by decide) (Nat.le_of_ble_eq_true rfl) (Nat.le_of_ble_eq_true rfl) (Nat.le_of_ble_eq_true rfl) dX13_init_664 126 (by decide) (hts (.fieldLink RX13 242 "LevelUnitsModel" "out" "[I") (List.mem_of_getElem? (i := 108) rfl)) (fun _ h9 => h9) rfl rfl (by decide +kernel) dX13_init_666 (fun q_297 F_299 H_j_300 locs_j_300 eF_299 hP_j_300 hD_j_300 hS_j_300 => ?_)
  have k0_j_300 : F_299 0 = .int 0 := fu_ne eF_299 (by decide) (fu_ne eF_296 (by decide) k0_j_293)
  have k3_j_300 : F_299 3 = .int 0 := fu_ne eF_299 (by decide) (fu_ne eF_296 (by decide) k3_j_293)
  have k98_j_300 : F_299 98 = .int 0 := fu_ne eF_299 (by decide) (fu_ne eF_296 (by decide) k98_j_293)
  have k100_j_300 : F_299 100 = .int 0 := fu_ne eF_299 (by decide) (fu_ne eF_296 (by decide) k100_j_293)
  have k1_j_300 : F_299 1 = .ref q_1 := fu_ne eF_299 (by decide) (fu_ne eF_296 (by decide) k1_j_293)
  have k2_j_300 : F_299 2 = .ref q_3 := fu_ne eF_299 (by decide) (fu_ne eF_296 (by decide) k2_j_293)
  have k9_j_300 : F_299 9 = .ref q_11 := fu_ne eF_299 (by decide) (fu_ne eF_296 (by decide) k9_j_293)
  have k10_j_300 : F_299 10 = .ref q_15 := fu_ne eF_299 (by decide) (fu_ne eF_296 (by decide) k10_j_293)
  have k11_j_300 : F_299 11 = .ref q_19 := fu_ne eF_299 (by decide) (fu_ne eF_296 (by decide) k11_j_293)
  have k13_j_300 : F_299 13 = .ref q_23 := fu_ne eF_299 (by decide) (fu_ne eF_296 (by decide) k13_j_293)
  have k14_j_300 : F_299 14 = .ref q_27 := fu_ne eF_299 (by decide) (fu_ne eF_296 (by decide) k14_j_293)
  have k15_j_300 : F_299 15 = .ref q_31 := fu_ne eF_299 (by decide) (fu_ne eF_296 (by decide) k15_j_293)
  clear eF_299  hP hD hS
  have hP : va_P (dC, dI) vwCl [(h0, .inr (15, fl 134 F_299)), (q_1, .inr (14, [.null, .null, .null, .null, .null, .int 0])), (q_3, .inl (cy_4, 6000, .inl (fun _ => 0))), (q_11, .inl (cy_12, 6002, .inl (fun _ => 0))), (q_15, .inl (cy_16, 6002, .inl (fun _ => 0))), (q_19, .inl (cy_20, 6002, .inl (fun _ => 0))), (q_23, .inl (cy_24, 6000, .inl (fun _ => 0))), (q_27, .inl (cy_28, 6000, .inl (fun _ => 0))), (q_31, .inl (cy_32, 6600, .inl (fun _ => 0)))] H_j_300 := hP_j_300
  have hD : va_D A [(h0, .inr (15, fl 134 F_299)), (q_1, .inr (14, [.null, .null, .null, .null, .null, .int 0])), (q_3, .inl (cy_4, 6000, .inl (fun _ => 0))), (q_11, .inl (cy_12, 6002, .inl (fun _ => 0))), (q_15, .inl (cy_16, 6002, .inl (fun _ => 0))), (q_19, .inl (cy_20, 6002, .inl (fun _ => 0))), (q_23, .inl (cy_24, 6000, .inl (fun _ => 0))), (q_27, .inl (cy_28, 6000, .inl (fun _ => 0))), (q_31, .inl (cy_32, 6600, .inl (fun _ => 0)))] := hD_j_300
  have hS := hS_j_300
  clear hP_j_300 hD_j_300 hS_j_300
  refine W.widen (k := 76) (n := 638696) (Nat.le_of_ble_eq_true rfl) (Nat.le_of_ble_eq_true rfl) ?_
  refine lv_aload_n hx hb dX13_init_669 rfl (lv_at hl 0 rfl) ?_
  refine va_new (ci := 14) (fs := [.null, .null, .null, .null, .null, .int 0]) (C := RX12) (T := TX12) (N := 6) hx hb hts in_cc_Model_init_RX12 tyX12 tyX12_ok hown (hts (.classLink RX13 7 RX12) (List.mem_of_getElem? (i := 4) rfl)) (hts (.instantiable RX12 6) (List.mem_of_getElem? (i := 5) rfl)) (hts (.initialized RX12) (List.mem_of_getElem? (i := 6) rfl)) hK hP hD hS hA rfl (fun j hj => by rcases (show j = 0 ∨ j = 1 ∨ j = 2 ∨ j = 3 ∨ j = 4 ∨ j = 5 by omega) with rfl | rfl | rfl | rfl | rfl | rfl <;> rfl) (Nat.le_of_ble_eq_true rfl) (Nat.le_of_ble_eq_true rfl) dX13_init_670 (fun q_301 H hP hD hS => ?_)
  have hP : va_P (dC, dI) vwCl [(h0, .inr (15, fl 134 F_299)), (q_1, .inr (14, [.null, .null, .null, .null, .null, .int 0])), (q_3, .inl (cy_4, 6000, .inl (fun _ => 0))), (q_11, .inl (cy_12, 6002, .inl (fun _ => 0))), (q_15, .inl (cy_16, 6002, .inl (fun _ => 0))), (q_19, .inl (cy_20, 6002, .inl (fun _ => 0))), (q_23, .inl (cy_24, 6000, .inl (fun _ => 0))), (q_27, .inl (cy_28, 6000, .inl (fun _ => 0))), (q_31, .inl (cy_32, 6600, .inl (fun _ => 0))), (q_301, .inr (14, [.null, .null, .null, .null, .null, .int 0]))] H := hP
  have hD : va_D A [(h0, .inr (15, fl 134 F_299)), (q_1, .inr (14, [.null, .null, .null, .null, .null, .int 0])), (q_3, .inl (cy_4, 6000, .inl (fun _ => 0))), (q_11, .inl (cy_12, 6002, .inl (fun _ => 0))), (q_15, .inl (cy_16, 6002, .inl (fun _ => 0))), (q_19, .inl (cy_20, 6002, .inl (fun _ => 0))), (q_23, .inl (cy_24, 6000, .inl (fun _ => 0))), (q_27, .inl (cy_28, 6000, .inl (fun _ => 0))), (q_31, .inl (cy_32, 6600, .inl (fun _ => 0))), (q_301, .inr (14, [.null, .null, .null, .null, .null, .int 0]))] := hD
  refine W.widen (k := 77) (n := 638702) (Nat.le_of_ble_eq_true rfl) (Nat.le_of_ble_eq_true rfl) ?_
  refine lv_dup hx hb dX13_init_673 rfl ?_
  have hPc := hP.sub (ws' := [(q_301, .inr (14, [.null, .null, .null, .null, .null, .int 0]))]) [9] rfl
  have hDc := hD.sub (ws' := [(q_301, .inr (14, [.null, .null, .null, .null, .null, .int 0]))]) [9] (by decide) rfl
  have hKc := hK.sub (tys' := []) [] rfl
  have hFc := va_free (wc := [(q_301, .inr (14, [.null, .null, .null, .null, .null, .int 0]))]) hD hS hA [9] rfl
  refine va_callv (va_runI (As := []) (rest := [.ref q_301, .ref h0]) ⟨hx, hb, hml, hown, hts⟩ (cc_Stop_init l dC dI q_301 H.size) (cwI 0 hts gg_cc_Model_init_cc_Stop_init_9 rfl rfl rfl (hts (.initialized RX12) (List.mem_of_getElem? (i := 6) rfl)) (hts (.methodLink RX13 9 yX12_init) (List.mem_of_getElem? (i := 27) rfl)) (hts (.instanceMethod yX12_init) (List.mem_of_getElem? (i := 28) rfl)) rfl (by decide +kernel) ⟨(Nat.le_of_ble_eq_true rfl), (Nat.le_of_ble_eq_true rfl)⟩) ⟨fun a U g mk q => by obtain ⟨q0, q1, qP, qK, qD, qN0, qN1⟩ := q; exact ⟨q0, q1, qP, va_K.moved (u := U) (U := U.calling g mk a) (Vm.Alike.refl U.vm) qK, qD, vx_Zq.moved (u := U) (U := U.calling g mk a) (Vm.Alike.refl U.vm) qN0, vx_Zq.moved (u := U) (U := U.calling g mk a) (Vm.Alike.refl U.vm) qN1⟩, fun U hU hW => ⟨rfl, by rw [hU], by rw [hU]; exact hPc, va_K.moved hW.alike hKc, hDc.weaken (fun _ _ _ _ => trivial), (by rw [hU]; exact vx_Zq.moved hW.alike ((hN0.kept (fun a h1 h2 => hS.2.1 a h1 h2)).narrow hFc)), (by rw [hU]; exact vx_Zq.moved hW.alike ((hN1.kept (fun a h1 h2 => hS.2.1 a h1 h2)).narrow hFc))⟩⟩ rfl rfl hl.1 rfl (lv_room (Nat.le_of_ble_eq_true rfl)) dX13_init_674 ⟨(Nat.le_of_ble_eq_true rfl), (Nat.le_of_ble_eq_true rfl)⟩) hS (fun q _ h => hFc q h) hFc (fun u t H1 locs ht hvm hw hB hz1 hk1 hS => ?_)
  obtain ⟨hP1, hK1, hD1⟩ := hB
  rw [ht] at hP1
  have hK1 := va_K.moved hvm.symm hK1
  obtain ⟨hP, hD⟩ := va_join (wr := [(h0, .inr (15, fl 134 F_299)), (q_1, .inr (14, [.null, .null, .null, .null, .null, .int 0])), (q_3, .inl (cy_4, 6000, .inl (fun _ => 0))), (q_11, .inl (cy_12, 6002, .inl (fun _ => 0))), (q_15, .inl (cy_16, 6002, .inl (fun _ => 0))), (q_19, .inl (cy_20, 6002, .inl (fun _ => 0))), (q_23, .inl (cy_24, 6000, .inl (fun _ => 0))), (q_27, .inl (cy_28, 6000, .inl (fun _ => 0))), (q_31, .inl (cy_32, 6600, .inl (fun _ => 0)))]) (w1 := [(q_301, .inr (14, [.null, .null, .null, .null, .null, .int 0]))]) hP hD [9] [0, 1, 2, 3, 4, 5, 6, 7, 8] rfl rfl (by decide) (by decide) hk1 hFc hP1 hD1
  have hK := (hK.sub (tys' := [(cy_4, .byte), (cy_12, .int), (cy_16, .int), (cy_20, .int), (cy_24, .int), (cy_28, .int), (cy_32, .byte)]) [0, 1, 2, 3, 4, 5, 6] rfl).app hK1
  generalize H1 = H at hP hS ⊢
  have hK : va_K (dC, dI) vwCl [(cy_4, .byte), (cy_12, .int), (cy_16, .int), (cy_20, .int), (cy_24, .int), (cy_28, .int), (cy_32, .byte)] s := hK
  have hP : va_P (dC, dI) vwCl [(h0, .inr (15, fl 134 F_299)), (q_1, .inr (14, [.null, .null, .null, .null, .null, .int 0])), (q_3, .inl (cy_4, 6000, .inl (fun _ => 0))), (q_11, .inl (cy_12, 6002, .inl (fun _ => 0))), (q_15, .inl (cy_16, 6002, .inl (fun _ => 0))), (q_19, .inl (cy_20, 6002, .inl (fun _ => 0))), (q_23, .inl (cy_24, 6000, .inl (fun _ => 0))), (q_27, .inl (cy_28, 6000, .inl (fun _ => 0))), (q_31, .inl (cy_32, 6600, .inl (fun _ => 0))), (q_301, .inr (14, [.null, .null, .null, .null, .null, .int 0]))] H := hP
  have hD : va_D A [(h0, .inr (15, fl 134 F_299)), (q_1, .inr (14, [.null, .null, .null, .null, .null, .int 0])), (q_3, .inl (cy_4, 6000, .inl (fun _ => 0))), (q_11, .inl (cy_12, 6002, .inl (fun _ => 0))), (q_15, .inl (cy_16, 6002, .inl (fun _ => 0))), (q_19, .inl (cy_20, 6002, .inl (fun _ => 0))), (q_23, .inl (cy_24, 6000, .inl (fun _ => 0))), (q_27, .inl (cy_28, 6000, .inl (fun _ => 0))), (q_31, .inl (cy_32, 6600, .inl (fun _ => 0))), (q_301, .inr (14, [.null, .null, .null, .null, .null, .int 0]))] := hD
  refine W.widen (k := 77) (n := 638702) (Nat.le_of_ble_eq_true rfl) (Nat.le_of_ble_eq_true rfl) ?_
  refine va_putF (D := (dC, dI)) (ci := 15) (v := .ref q_301) (ty := .object "LevelUnitsModel$Stop") (C := RX13) (T := TX13) (N := 134) hx hb hts in_cc_Model_init_RX13 tyX13 tyX13_ok nmX13 hown hK hP hD hS 0 rfl rfl 131 (by decide) (hts (.fieldLink RX13 245 "LevelUnitsModel" "failure" "LLevelUnitsModel$Stop;") (List.mem_of_getElem? (i := 109) rfl)) (fun _ h9 => h9) rfl hin rfl (by decide +kernel) rfl rfl (fl_lt (by decide)) dX13_init_677 (fun H locs hP hD hS => ?_)
  obtain ⟨F_302, eF_302⟩ : ∃ z, z = fu F_299 131 (.ref q_301) := ⟨_, rfl⟩
  have hP : va_P (dC, dI) vwCl [(h0, .inr (15, fl 134 F_302)), (q_1, .inr (14, [.null, .null, .null, .null, .null, .int 0])), (q_3, .inl (cy_4, 6000, .inl (fun _ => 0))), (q_11, .inl (cy_12, 6002, .inl (fun _ => 0))), (q_15, .inl (cy_16, 6002, .inl (fun _ => 0))), (q_19, .inl (cy_20, 6002, .inl (fun _ => 0))), (q_23, .inl (cy_24, 6000, .inl (fun _ => 0))), (q_27, .inl (cy_28, 6000, .inl (fun _ => 0))), (q_31, .inl (cy_32, 6600, .inl (fun _ => 0))), (q_301, .inr (14, [.null, .null, .null, .null, .null, .int 0]))] H := by rw [eF_302, ← fl_set (n := 134) (k := 131) (by decide)]; exact hP
  have hD : va_D A [(h0, .inr (15, fl 134 F_302)), (q_1, .inr (14, [.null, .null, .null, .null, .null, .int 0])), (q_3, .inl (cy_4, 6000, .inl (fun _ => 0))), (q_11, .inl (cy_12, 6002, .inl (fun _ => 0))), (q_15, .inl (cy_16, 6002, .inl (fun _ => 0))), (q_19, .inl (cy_20, 6002, .inl (fun _ => 0))), (q_23, .inl (cy_24, 6000, .inl (fun _ => 0))), (q_27, .inl (cy_28, 6000, .inl (fun _ => 0))), (q_31, .inl (cy_32, 6600, .inl (fun _ => 0))), (q_301, .inr (14, [.null, .null, .null, .null, .null, .int 0]))] := by rw [eF_302, ← fl_set (n := 134) (k := 131) (by decide)]; exact hD
  have hP := hP.sub (ws' := [(h0, .inr (15, fl 134 F_302)), (q_1, .inr (14, [.null, .null, .null, .null, .null, .int 0])), (q_3, .inl (cy_4, 6000, .inl (fun _ => 0))), (q_11, .inl (cy_12, 6002, .inl (fun _ => 0))), (q_15, .inl (cy_16, 6002, .inl (fun _ => 0))), (q_19, .inl (cy_20, 6002, .inl (fun _ => 0))), (q_23, .inl (cy_24, 6000, .inl (fun _ => 0))), (q_27, .inl (cy_28, 6000, .inl (fun _ => 0))), (q_31, .inl (cy_32, 6600, .inl (fun _ => 0)))]) [0, 1, 2, 3, 4, 5, 6, 7, 8] rfl
  have hD := hD.sub (ws' := [(h0, .inr (15, fl 134 F_302)), (q_1, .inr (14, [.null, .null, .null, .null, .null, .int 0])), (q_3, .inl (cy_4, 6000, .inl (fun _ => 0))), (q_11, .inl (cy_12, 6002, .inl (fun _ => 0))), (q_15, .inl (cy_16, 6002, .inl (fun _ => 0))), (q_19, .inl (cy_20, 6002, .inl (fun _ => 0))), (q_23, .inl (cy_24, 6000, .inl (fun _ => 0))), (q_27, .inl (cy_28, 6000, .inl (fun _ => 0))), (q_31, .inl (cy_32, 6600, .inl (fun _ => 0)))]) [0, 1, 2, 3, 4, 5, 6, 7, 8] (by decide) rfl
  have hK := hK.sub (tys' := [(cy_4, .byte), (cy_12, .int), (cy_16, .int), (cy_20, .int), (cy_24, .int), (cy_28, .int), (cy_32, .byte)]) [0, 1, 2, 3, 4, 5, 6] rfl
  refine lv_aload_n hx hb dX13_init_680 rfl (lv_at hl 0 rfl) ?_
  refine lv_bipush (v := 10) hx hb dX13_init_681 (by decide) ?_
  refine mstep (X := [(q_1, .inr (14, [.null, .null, .null, .null, .null, .int 0])), (q_3, .inl (cy_4, 6000, .inl (fun _ => 0))), (q_11, .inl (cy_12, 6002, .inl (fun _ => 0))), (q_15, .inl (cy_16, 6002, .inl (fun _ => 0))), (q_19, .inl (cy_20, 6002, .inl (fun _ => 0))), (q_23, .inl (cy_24, 6000, .inl (fun _ => 0))), (q_27, .inl (cy_28, 6000, .inl (fun _ => 0))), (q_31, .inl (cy_32, 6600, .inl (fun _ => 0)))]) (F := F_302) (atype := .int) (ty := .int) (a0 := (10, .inl (fun _ => 0))) (N' := 10) hx hb hts in_cc_Model_init_RX13 hown hin hK hP hD hS hA (hts (.arrayClass .int) (List.mem_of_getElem? (i := 33) rfl)) rfl (fun _ => rfl) (by decide) (by decide) (Nat.le_of_ble_eq_true rfl) (Nat.le_of_ble_eq_true rfl) (Nat.le_of_ble_eq_true rfl) dX13_init_683 132 (by decide) (hts (.fieldLink RX13 248 "LevelUnitsModel" "argument" "[I") (List.mem_of_getElem? (i := 110) rfl)) (fun _ h9 => h9) rfl rfl (by decide +kernel) dX13_init_685 (fun q_303 F_305 H_j_306 locs_j_306 eF_305 hP_j_306 hD_j_306 hS_j_306 => ?_)
  have k0_j_306 : F_305 0 = .int 0 := fu_ne eF_305 (by decide) (fu_ne eF_302 (by decide) k0_j_300)
  have k3_j_306 : F_305 3 = .int 0 := fu_ne eF_305 (by decide) (fu_ne eF_302 (by decide) k3_j_300)
  have k98_j_306 : F_305 98 = .int 0 := fu_ne eF_305 (by decide) (fu_ne eF_302 (by decide) k98_j_300)
  have k100_j_306 : F_305 100 = .int 0 := fu_ne eF_305 (by decide) (fu_ne eF_302 (by decide) k100_j_300)
  have k1_j_306 : F_305 1 = .ref q_1 := fu_ne eF_305 (by decide) (fu_ne eF_302 (by decide) k1_j_300)
  have k2_j_306 : F_305 2 = .ref q_3 := fu_ne eF_305 (by decide) (fu_ne eF_302 (by decide) k2_j_300)
  have k9_j_306 : F_305 9 = .ref q_11 := fu_ne eF_305 (by decide) (fu_ne eF_302 (by decide) k9_j_300)
  have k10_j_306 : F_305 10 = .ref q_15 := fu_ne eF_305 (by decide) (fu_ne eF_302 (by decide) k10_j_300)
  have k11_j_306 : F_305 11 = .ref q_19 := fu_ne eF_305 (by decide) (fu_ne eF_302 (by decide) k11_j_300)
  have k13_j_306 : F_305 13 = .ref q_23 := fu_ne eF_305 (by decide) (fu_ne eF_302 (by decide) k13_j_300)
  have k14_j_306 : F_305 14 = .ref q_27 := fu_ne eF_305 (by decide) (fu_ne eF_302 (by decide) k14_j_300)
  have k15_j_306 : F_305 15 = .ref q_31 := fu_ne eF_305 (by decide) (fu_ne eF_302 (by decide) k15_j_300)
  clear eF_305  hP hD hS
  have hP : va_P (dC, dI) vwCl [(h0, .inr (15, fl 134 F_305)), (q_1, .inr (14, [.null, .null, .null, .null, .null, .int 0])), (q_3, .inl (cy_4, 6000, .inl (fun _ => 0))), (q_11, .inl (cy_12, 6002, .inl (fun _ => 0))), (q_15, .inl (cy_16, 6002, .inl (fun _ => 0))), (q_19, .inl (cy_20, 6002, .inl (fun _ => 0))), (q_23, .inl (cy_24, 6000, .inl (fun _ => 0))), (q_27, .inl (cy_28, 6000, .inl (fun _ => 0))), (q_31, .inl (cy_32, 6600, .inl (fun _ => 0)))] H_j_306 := hP_j_306
  have hD : va_D A [(h0, .inr (15, fl 134 F_305)), (q_1, .inr (14, [.null, .null, .null, .null, .null, .int 0])), (q_3, .inl (cy_4, 6000, .inl (fun _ => 0))), (q_11, .inl (cy_12, 6002, .inl (fun _ => 0))), (q_15, .inl (cy_16, 6002, .inl (fun _ => 0))), (q_19, .inl (cy_20, 6002, .inl (fun _ => 0))), (q_23, .inl (cy_24, 6000, .inl (fun _ => 0))), (q_27, .inl (cy_28, 6000, .inl (fun _ => 0))), (q_31, .inl (cy_32, 6600, .inl (fun _ => 0)))] := hD_j_306
  have hS := hS_j_306
  clear hP_j_306 hD_j_306 hS_j_306
  refine W.widen (k := 78) (n := 638712) (Nat.le_of_ble_eq_true rfl) (Nat.le_of_ble_eq_true rfl) ?_
  have hP9 := hP.sub (ws' := [(h0, .inr (15, fl 134 F_305)), (q_1, .inr (14, [.null, .null, .null, .null, .null, .int 0])), (q_3, .inl (cy_4, 6000, .inl (fun _ => 0))), (q_11, .inl (cy_12, 6002, .inl (fun _ => 0))), (q_15, .inl (cy_16, 6002, .inl (fun _ => 0))), (q_19, .inl (cy_20, 6002, .inl (fun _ => 0))), (q_23, .inl (cy_24, 6000, .inl (fun _ => 0))), (q_27, .inl (cy_28, 6000, .inl (fun _ => 0))), (q_31, .inl (cy_32, 6600, .inl (fun _ => 0)))]) [0, 1, 2, 3, 4, 5, 6, 7, 8] rfl
  have hD9 := hD.sub (ws' := [(h0, .inr (15, fl 134 F_305)), (q_1, .inr (14, [.null, .null, .null, .null, .null, .int 0])), (q_3, .inl (cy_4, 6000, .inl (fun _ => 0))), (q_11, .inl (cy_12, 6002, .inl (fun _ => 0))), (q_15, .inl (cy_16, 6002, .inl (fun _ => 0))), (q_19, .inl (cy_20, 6002, .inl (fun _ => 0))), (q_23, .inl (cy_24, 6000, .inl (fun _ => 0))), (q_27, .inl (cy_28, 6000, .inl (fun _ => 0))), (q_31, .inl (cy_32, 6600, .inl (fun _ => 0)))]) [0, 1, 2, 3, 4, 5, 6, 7, 8] (by decide) rfl
  have hK9 := hK.sub (tys' := [(cy_4, .byte), (cy_12, .int), (cy_16, .int), (cy_20, .int), (cy_24, .int), (cy_28, .int), (cy_32, .byte)]) [0, 1, 2, 3, 4, 5, 6] rfl
  refine W.widen (k := 78) (n := 638712) (Nat.le_of_ble_eq_true rfl) (Nat.le_of_ble_eq_true rfl) ?_
  exact W.vret hx hb hr (fun t ht hW => ⟨⟨(), rfl, trivial, F_305, q_3, q_31, q_23, q_27, q_11, q_15, q_19, q_1, cy_4, cy_12, cy_16, cy_20, cy_24, cy_28, cy_32, k0_j_306, k3_j_306, k98_j_306, k100_j_306, k2_j_306, k15_j_306, k13_j_306, k14_j_306, k9_j_306, k10_j_306, k11_j_306, k1_j_306, by rw [ht]; exact hP9, va_K.moved hW.alike hK9, hD9⟩, hS.F ht⟩) hS.2.2 dX13_init_688
end
section
/-! THE CLAIM OUT OF ONE WALK OF THE LAW'S BODY. Your part is whole_start (and what it stands on); all else here is the same for every law, but numbers. -/
def R_law : String := "LevelUnitsLaw"
def lw_P (b : Addr) (xs : List Int32) (args : Array Value) (s : State) : Prop := args = #[.ref b] ∧ s.IntsAt b xs ∧ xs.length ≤ 6 ∧ (Jvm.Cond.and given_1 narrow_1).before args s = true
def lw_Q (_ : Array Value) (s : State) (o : Outcome) (t : State) : Prop := o = .returned (some (.int 1)) ∧ Framed s o t [] 600002 7302232
def lw_Z (below : List Frame) (a : Array Value) (s : State) : State → Prop := fun t => ∃ o, t.status = .running ∧ Ended t below o ∧ lw_Q a s o t
/-- the law's own end, with 1 on the stack, nothing written that was there before, its room as the claim has it -/
theorem lw_ret {p : Program} {l : Launch} {e : Env} {s : State} {m : MethodId} {below : List Frame} {meth : Method} {c : Code} {b : Nat} (hx : p.tables.exec = Jvm.exec) (hb : c.code = code) (hr : meth.sig.returnType = ret) (hlocks : meth.locks = false) {pc : Nat} {H : Heap} {ls : Array Slot} (hdg : decode code pc = .ok (.ireturn, 1)) : W p l e room_1 s m #[Value.ref b] below meth c H [] 600002 7302232 (lw_Z below #[Value.ref b] s) (F0 m pc ls [.int 1]) := by
  intro T hT X
  obtain ⟨fs, hret, hrun, hended, hW, hframe⟩ := X.leave (v := some (.int 1)) (hlocks := hlocks) (fun h => by rw [hr] at h; cases h)
  have hmeth' : T.vm.method? m = some meth := X.method'
  refine ⟨T.setFrames fs, ?_, .returned (some (.int 1)), hrun, hended, rfl, ⟨_, rfl⟩, hW, hframe⟩
  jvm_step X.here [X.here.top, hx, hb, hdg, hmeth', hr, ret, narrow_b1]
  (try refine ⟨rfl, ?_⟩); (try refine ⟨rfl, ?_⟩)
  first | (intro acts; rw [hret _ acts rfl rfl rfl]) | rw [hret _ _ rfl rfl rfl]
  exact Steps.refl _
/-- what holds at the law's entry: the machine, the code, the tables' words (any of lw_tbl by 'hts w (by decide +kernel)'), the script of L ints xs at the cell b, what the Statement gives of the start (any of its parts by flat_of_before) -/
def lw_At (p : Program) (s : State) (m : MethodId) (meth : Method) (c : Code) (b L : Nat) (xs : Nat → Int32) : Prop :=
  p.tables.exec = Jvm.exec ∧ c.code = code ∧ meth.sig.returnType = ret ∧ c.maxLocals = 7 ∧ s.vm.findClass R_law = some m.cls ∧ (∀ w ∈ lw_tbl, w.before #[Value.ref b] s = true) ∧ va_X b L xs s s.heap ∧ b < s.heap.size ∧ meth.locks = false ∧ (Jvm.Cond.and given_1 narrow_1).before #[Value.ref b] s = true
-- ===== YOUR PART BEGINS =====
/-- YOUR PART: from the entry, for every script of at most 6 ints, the law comes to its end with true ('hflags': the launch's flags, for a law that throws: no stack traces) -/
theorem whole_start {p : Program} {e : Env} {s : State} {m : MethodId} {below : List Frame} {meth : Method} {c : Code} (l : Launch) (hflags : l.flags = flags0) {b L : Nat} {xs : Nat → Int32} (hL : L ≤ 6) (C0 : lw_At p s m meth c b L xs) : W p l e room_1 s m #[Value.ref b] below meth c s.heap [] 0 0 (lw_Z below #[Value.ref b] s) (entryFrame m ([Value.ref b] : List Value).toArray 7) := by
  sorry
-- ===== YOUR PART ENDS =====
set_option maxHeartbeats 4000000 in
theorem lw_walk (l : Launch) (hflags : l.flags = flags0) (b : Addr) (xs : List Int32) : MetFree l x (headSpec (Jvm.Cond.code x code maxLocals ret :: tables_1) room_1) (lw_P b xs) (fun _ _ _ _ _ => True) lw_Q := by
  refine MetFree.of_bodyS (code := code) (maxLocals := maxLocals) (ret := ret) (by decide) ?_ ?_
  · intro args s m h hn
    obtain ⟨meth, c, h1, h2, h3, h4, h5, h6, -, -⟩ := Cond.code_spec hn (atoms_spec (ws := Jvm.Cond.code x code maxLocals ret :: tables_1) h _ List.mem_cons_self)
    exact ⟨meth, c, h1, h2, h3, h4, h5, h6⟩
  · intro p e s m args below meth c s₁ B hml0 hP _
    obtain ⟨rfl, hx, hbd, hgv⟩ := hP
    obtain ⟨scr, harrAt, hlist, hof, hsmall⟩ := hx
    obtain ⟨hcb, hkn, -, -⟩ := State.arrayAt?_spec harrAt
    have hown : s.vm.findClass R_law = some m.cls := findClass_of_methodNamed B.named
    have hts0 : ∀ c ∈ (Jvm.Cond.code x code maxLocals ret :: tables_1), c.before #[Value.ref b] s = true := atoms_spec (ws := Jvm.Cond.code x code maxLocals ret :: tables_1) B.pre
    have hts : ∀ w ∈ lw_tbl, w.before #[Value.ref b] s = true := k2_hts_sels lw_privs (fun w hw => hts0 w (List.mem_cons_of_mem _ hw)) lw_privs_ok
    have hml : c.maxLocals = 7 := B.maxLocals_eq (hts0 _ List.mem_cons_self)
    have X₀ : Stand p l e room_1 s m #[Value.ref b] below meth c s₁ [] 0 0 := Stand.of_body B
    have hh0 : s₁.heap = s.heap := by rw [B.state]; rfl
    have hsz : scr.slots.size = xs.length := by rw [← Array.length_toList, hlist, List.length_map]
    have hval : ∀ j : Nat, j < xs.length → scr.slots[j]? = some (.int (xs.getD j 0)) := fun j hj => by
      rw [← Array.getElem?_toList, hlist]
      simp [hj]
    have hbl : b < s.heap.size := (Array.getElem?_eq_some_iff.mp hcb).1
    have hX : va_X b xs.length (fun j => xs.getD j 0) s s.heap := ⟨scr, hcb, hof, hkn, hsz, hval⟩
    have K : W p l e room_1 s m #[Value.ref b] below meth c s₁.heap [] 0 0 (lw_Z below #[Value.ref b] s) (entryFrame m ([Value.ref b] : List Value).toArray 7) := by
      rw [hh0]
      exact whole_start l hflags hbd ⟨B.exec, B.bytes, B.returns, hml, hown, hts, hX, hbl, B.notSynchronized, hgv⟩
    obtain ⟨t, a1, o, b1, b2, b3⟩ := K s₁ rfl X₀
    exact ⟨t, o, a1, b1, b2, b3⟩
theorem lw_pre_spec {args : Array Value} {s : State} (h : (Jvm.Cond.and given_1 narrow_1).before args s = true) (hr : rest_1_c.before args s = true) : ∃ (b : Addr) (xs : List Int32), lw_P b xs args s := by
  have hs := flat_of_before _ h
  have hq := flat_of_before _ hr
  have hc : (Cond.count 1).before args s = true := hs _ (by decide +kernel)
  have harr : (Cond.arrayOf (.arg 0) .int).before args s = true := hs _ (by decide +kernel)
  have hle : (Cond.le (.length (.arg 0)) (.int 6)).before args s = true := hs _ (by decide +kernel)
  have hlen : (Cond.isInt (.length (.arg 0))).before args s = true := hq _ (by decide +kernel)
  have hall : (Cond.all (.arg 0) (.isInt (.elem (.arg 0) (.index 0)))).before args s = true := hq _ (by decide +kernel)
  obtain ⟨b, xs, hb, hx⟩ := State.ints_of_pre rfl harr hlen hall
  have hsm : xs.length < 2 ^ 31 := hx.choose_spec.2.2.2
  have hev : (Term.length (.arg 0)).eval args s none [] s = some (.int xs.length.toInt32) := hx.length_eval hb
  have hv := Cond.le_ints hev (show (Term.int 6).eval args s none [] s = some (.int 6) from rfl)
  have hd : xs.length.toInt32 ≤ 6 := by
    simpa [Cond.before, Cond.holds, hv] using hle
  have hN : xs.length ≤ 6 := (Int32.ofNat_le_ofNat hsm (by decide)).mp (show Int32.ofNat xs.length ≤ Int32.ofNat 6 from hd)
  exact ⟨b, xs, Cond.one_arg hc (show args[0]? = some (.ref b) from hb), hx, hN, h⟩
theorem lw_comes (l : Launch) (hflags : l.flags = flags0) : Comes l x (Jvm.Cond.code x code maxLocals ret :: tables_1) room_1 (fun tb e args s => Calls_1 tb e args s ∧ rest_1 tb e args s ∧ Pre_1 tb e args s)
    (fun _ _ args s o t => lw_Q args s o t) := by
  intro p e ha hc hk s m args below hf hfit hheap happ hpre
  obtain ⟨b, xs, hP⟩ := lw_pre_spec hpre.2.2 hpre.2.1
  obtain ⟨k, o, h1, h2, h3, hQ⟩ := lw_walk l hflags b xs p e ha hc hk s m args below hf ((Spec.applies_iff_loose hf).mp happ).1 hP trivial
  exact ⟨k, o, h1, h2, h3, hQ⟩
theorem lw_frame {s t : State} {o : Outcome} {args : Array Value} (h : Framed s o t [] 600002 7302232) :
    Framed s o t (fieldLocs frame_1_writes args s ++ arrayLocs frame_1_arrays args s ++ staticLocs frame_1_statics s) 600002 7302232 := h
theorem lw_limb (L : Cond) (hL : ∀ (args : Array Value) (s t : State), L.after args s (.returned (some (.int 1))) t = true) :
    ArmFor flags0 classFile x code maxLocals ret World_1 tables_1 room_1 Calls_1 rest_1 Pre_1
      (fun tb e a s o t => postC L tb e a s o t ∧ Framed s o t (fieldLocs frame_1_writes a s ++ arrayLocs frame_1_arrays a s ++ staticLocs frame_1_statics s) 600002 7302232) := by
  intro l hflags _ _ p e ha hc hk s m args below hf hfit hheap happ hpre
  obtain ⟨k, o, h1, h2, h3, rfl, hF⟩ := lw_comes l hflags p e ha hc hk s m args below hf hfit hheap happ hpre
  exact ⟨k, _, h1, h2, h3, hL args s _, lw_frame hF⟩
theorem i_vc : Claimed_1_1 ∧ Claimed_1_2 := ⟨lw_limb limb_1_1 (fun args s t => by simp [limb_1_1, Cond.after, Cond.holds, Cond.value]), lw_limb limb_1_2 (fun args s t => Cond.after_iff.mpr (by
  first | (rw [show limb_1_2 = Cond.eq .result (.int 1) from rfl, Cond.eq_ints (x := 1) (y := 1) rfl rfl]; simp; done) | (simp [limb_1_2, Cond.value, Term.eval]; done)))⟩
end
